/-! THE REFERENCE DEFINES -/
section ZRE2
variable {N : zm_N} {d mi pc : Nat} {lv : zm_L} {C : Nat → zm_E} {ex : List zm_E} {sl M : Nat} {s : Nat → Int32} {a : Nat → Nat → Int32} {Q : zm_O → zm_H → Prop} {D : zv_D} {t : List Int32}
theorem zg_newi {at_ : ArrayType} {qb : Nat} {qn : Int} {r : List Value} (hq : zm_cd mi pc = some (.newarray at_, 0, qb, qn)) (hr : zr_rf ex (sl + 4)) (k : zm_J N d mi (pc + 2) lv (.ref (ex.length + 37) :: r) (zr_Hf C ex (sl + 4) (fun _ => 0) s a) Q) : zm_J N d mi pc lv (.int 4 :: r) (zr_H C ex sl s a) Q := by
  refine zm_hp_ok zm_T (q := (.newarray at_, 0, qb, qn)) (zm_T.1 mi pc _ hq) rfl (st' := .ref (ex.length + 37) :: r) (G' := zr_Hf C ex (sl + 4) (fun _ => 0) s a) ?_ k
  have h4 : (4 : Int32).toNatClampNeg = 4 := by decide
  have hroom : zm_room (zr_H C ex sl s a) 4 = true := by
    unfold zm_room
    rw [Bool.and_eq_true, decide_eq_true_eq, decide_eq_true_eq]
    exact ⟨hr.1, hr.2⟩
  have e1 : zm_hp (.newarray at_, 0, qb, qn) (.int 4 :: r) (zr_H C ex sl s a) = (match zm_dflt (4 : Int32).toNatClampNeg .int with
    | some a0 => if (0 : Int32) ≤ 4 ∧ (4 : Int32).toNatClampNeg * 8 ≤ 536870912 ∧ zm_room (zr_H C ex sl s a) (4 : Int32).toNatClampNeg = true then some ((Value.ref (zr_H C ex sl s a).1.length :: r), zm_new (zr_H C ex sl s a) (.inl (0, a0)) (4 : Int32).toNatClampNeg) else none
    | none => none) := rfl
  rw [e1, h4]
  show (if (0 : Int32) ≤ 4 ∧ 4 * 8 ≤ 536870912 ∧ zm_room (zr_H C ex sl s a) 4 = true then some ((Value.ref (zr_H C ex sl s a).1.length :: r), zm_new (zr_H C ex sl s a) (.inl (0, (4, .inl fun _ => 0))) 4) else none) = _
  rw [if_pos ⟨by decide, by decide, hroom⟩]
  rfl
/-- what stays when a text is refused -/
def zr_no (s : Nat → Int32) (a : Nat → Nat → Int32) (s' : Nat → Int32) (a' : Nat → Nat → Int32) : Prop := s' 8 = 0 ∧ s' 12 = 1 ∧ (∀ k, k ≠ 8 ∧ k ≠ 9 ∧ k ≠ 10 ∧ k ≠ 12 → s' k = s k) ∧ ∀ k, k ≠ 6 → a' k = a k
def zr_yes (P k : Nat) (L b : List Int32) (s : Nat → Int32) (a : Nat → Nat → Int32) (s' : Nat → Int32) (a' : Nat → Nat → Int32) : Prop := s' 8 = 0 ∧ s' 12 = 0 ∧ s' 11 = nI (P + b.length) ∧ (∀ k, k ≠ 8 ∧ k ≠ 9 ∧ k ≠ 10 ∧ k ≠ 11 ∧ k ≠ 12 → s' k = s k) ∧ (∀ j, j < P → a' 1 j = a 1 j) ∧ (∀ j x, b[j]? = some x → a' 1 (P + j) = x) ∧
  a' 3 = upd (a 3) k (nI P) ∧ a' 5 = upd (a 5) k (nI L.length) ∧ (∀ i x, L[i]? = some x → a' 4 (4 * k + i) = x) ∧ (∀ q, q < 4 * k ∨ 4 * k + 4 ≤ q → a' 4 q = a 4 q) ∧ a' 7 = upd (a 7) k 1 ∧ ∀ q, q ≠ 1 ∧ q ≠ 3 ∧ q ≠ 4 ∧ q ≠ 5 ∧ q ≠ 6 ∧ q ≠ 7 → a' q = a q

theorem zr_rff {f : Nat → Int32} (h : zr_rf ex sl) : zr_r (zr_fx ex f) sl := by
  unfold zr_r zr_fx
  rw [List.length_append, List.length_singleton]
  exact ⟨h.1, h.2⟩
theorem zr_df_no (hr : zr_rf ex (sl + 4)) (hd : 1 ≤ d) {m fr : Int32} {f : Nat → Int32} (kf : ∀ s' a', zr_no s a s' a' → Q (.inl (some (.int 0))) (zr_Hf C ex (sl + 4) f s' a')) : zm_J N d 76 55 [(4, .int 0), (3, .int fr), (2, .int m), (0, .ref 12), (1, .ref (ex.length + 37))] [] (zr_Hf C ex (sl + 4) f s a) Q := by
  obtain ⟨d, rfl⟩ : ∃ e, d = e + 1 := ⟨d - 1, by omega⟩
  refine zm_J_run zm_T 12 (pc' := 152) (lv' := [(5, .int (s 8)), (4, .int 0), (3, .int fr), (2, .int m), (0, .ref 12), (1, .ref (ex.length + 37))]) (st' := [.ref 12]) (G' := (zr_Hf C ex (sl + 4) f (zu s 9 (s 10)) a)) rfl ?_
  refine zm_J_run zm_T 4 (pc' := 159) (lv' := [(5, .int (s 8)), (4, .int 0), (3, .int fr), (2, .int m), (0, .ref 12), (1, .ref (ex.length + 37))]) (st' := [.int 0, .ref 12]) (G' := (zr_Hf C ex (sl + 4) f (zu (zu s 9 (s 10)) 8 0) a)) rfl ?_
  refine zg_V (a := 12) (av := [.int 0]) (rest := []) (v := some (.int 1)) (G2 := (zr_Hf C ex (sl + 4) f (zu (zu (zu s 9 (s 10)) 8 0) 12 1) a)) (zm_T.1 76 159 _ rfl).1 zc_76_159 rfl (Nat.le_of_ble_eq_true rfl) (Nat.le_of_ble_eq_true rfl) (zr_fc hr) (zr_fs hr) (zr_bad false) ?_
  show zm_J N _ 76 162 [(5, .int (s 8)), (4, .int 0), (3, .int fr), (2, .int m), (0, .ref 12), (1, .ref (ex.length + 37))] [.int 1] (zr_Hf C ex (sl + 4) f (zu (zu (zu s 9 (s 10)) 8 0) 12 1) a) _
  refine zm_J_run zm_T 3 (pc' := 177) (lv' := [(5, .int (s 8)), (4, .int 0), (3, .int fr), (2, .int m), (0, .ref 12), (1, .ref (ex.length + 37))]) (st' := [.int 0]) (G' := (zr_Hf C ex (sl + 4) f (zu (zu (zu s 9 (s 10)) 8 0) 12 1) a)) rfl ?_
  exact zm_J_fin zm_T rfl rfl (kf _ _ ⟨rfl, rfl, fun k hk => by rw [zu_ne _ _ hk.2.2.2, zu_ne _ _ hk.1, zu_ne _ _ hk.2.1], fun _ _ => rfl⟩)
/-- behind a reading that went well -/
theorem zr_df_yes (hr : zr_rf ex (sl + 4)) (hd : 2 ≤ d) (ht : zr_tt s a t) {k P : Nat} (hk : k < 6) {c : Int32} {r L b : List Int32} (htc : t = c :: r) (hck : c - 65 = nI k) (hLl : L.length ≤ 4) (hdr : t.drop (L.length + 2) = b) (hle : L.length + 2 ≤ t.length) (h11 : s 11 = nI P) (hP : P + 40 ≤ 21200) {m : Int32} {f : Nat → Int32} (hf : ∀ i x, L[i]? = some x → f i = x)
    (ks : ∀ s' a', zr_yes P k L b s a s' a' → Q (.inl (some (.int (nI L.length)))) (zr_Hf C ex (sl + 4) f s' a')) : zm_J N d 76 55 [(4, .int 1), (3, .int (nI (L.length + 2))), (2, .int m), (0, .ref 12), (1, .ref (ex.length + 37))] [] (zr_Hf C ex (sl + 4) f s a) Q := by
  obtain ⟨d, rfl⟩ : ∃ e, d = e + 2 := ⟨d - 2, by omega⟩
  obtain ⟨ht1, ht2, ht3⟩ := ht
  have h00 : a 0 0 = c := ht3 0 c (by rw [htc]; rfl)
  have hbl : b.length = t.length - (L.length + 2) := by rw [← hdr, List.length_drop]
  have hx8 : ¬ s 8 = 0 := by rw [ht1]; exact nI_ne0 (by omega) (by omega)
  refine zm_J_run zm_T 10 (pc' := 84) (lv' := [(5, .int (s 8)), (4, .int 1), (3, .int (nI (L.length + 2))), (2, .int m), (0, .ref 12), (1, .ref (ex.length + 37))]) (st' := [.int 0, .ref 13]) (G' := (zr_Hf C ex (sl + 4) f s a)) rfl ?_
  refine zg_ald (i := .iaload) (t := 0) (n := 40) (f := a 0) (m := 0) rfl rfl rfl rfl rfl (by decide) (by decide) ?_
  rw [show a 0 0 = c from h00]
  show zm_J N _ 76 85 [(5, .int (s 8)), (4, .int 1), (3, .int (nI (L.length + 2))), (2, .int m), (0, .ref 12), (1, .ref (ex.length + 37))] [.int c] (zr_Hf C ex (sl + 4) f s a) _
  refine zm_J_run zm_T 2 (pc' := 88) (lv' := [(5, .int (s 8)), (4, .int 1), (3, .int (nI (L.length + 2))), (2, .int m), (0, .ref 12), (1, .ref (ex.length + 37))]) (st' := [.int (c - 65)]) (G' := (zr_Hf C ex (sl + 4) f s a)) rfl ?_
  rw [hck]
  show zm_J N _ 76 88 [(5, .int (s 8)), (4, .int 1), (3, .int (nI (L.length + 2))), (2, .int m), (0, .ref 12), (1, .ref (ex.length + 37))] [.int (nI k)] (zr_Hf C ex (sl + 4) f s a) _
  refine zm_J_run zm_T 6 (pc' := 98) (lv' := [(6, .int (nI k)), (5, .int (s 8)), (4, .int 1), (3, .int (nI (L.length + 2))), (2, .int m), (0, .ref 12), (1, .ref (ex.length + 37))]) (st' := [.int (nI (L.length + 2)), .ref 12, .int (nI k), .ref 16]) (G' := (zr_Hf C ex (sl + 4) f s a)) rfl ?_
  refine zg_VK (a := 12) (av := [.int (nI (L.length + 2))]) (rest := [.int (nI k), .ref 16]) (zm_T.1 76 98 _ rfl).1 zc_76_98 rfl (Nat.le_of_ble_eq_true rfl) (Nat.le_of_ble_eq_true rfl) (zr_fc hr) (zr_fs hr) (zr_store (ex := zr_fx ex f) ht2 hle (by omega) ht1 h11 ht3 (fun g g1 g2 => ⟨_, rfl, ?_⟩))
  rw [← hbl]
  show zm_J N _ 76 101 [(6, .int (nI k)), (5, .int (s 8)), (4, .int 1), (3, .int (nI (L.length + 2))), (2, .int m), (0, .ref 12), (1, .ref (ex.length + 37))] [.int (nI P), .int (nI k), .ref 16] (zr_Hf C ex (sl + 4) f (zu s 11 (nI (P + b.length))) (zu a 1 g)) _
  refine zg_ast (i := .iastore) (t := 0) (n := 6) (f := a 3) (m := k) (v' := (nI P)) (G' := (zr_Hf C ex (sl + 4) f (zu s 11 (nI (P + b.length))) (zu (zu a 1 g) 3 (upd (a 3) k (nI P))))) rfl rfl rfl rfl (by decide) rfl (by omega) (by decide) rfl ?_
  refine zm_J_run zm_T 6 (pc' := 111) (lv' := [(6, .int (nI k)), (5, .int (s 8)), (4, .int 1), (3, .int (nI (L.length + 2))), (2, .int m), (0, .ref 12), (1, .ref (ex.length + 37))]) (st' := [.int ((nI (L.length + 2)) - 2), .int (nI k), .ref 18]) (G' := (zr_Hf C ex (sl + 4) f (zu s 11 (nI (P + b.length))) (zu (zu a 1 g) 3 (upd (a 3) k (nI P))))) rfl ?_
  rw [show nI (L.length + 2) - 2 = nI L.length from by show nI (L.length + 2) - nI 2 = _; rw [pk_sub (by omega)]; rfl]
  show zm_J N _ 76 111 [(6, .int (nI k)), (5, .int (s 8)), (4, .int 1), (3, .int (nI (L.length + 2))), (2, .int m), (0, .ref 12), (1, .ref (ex.length + 37))] [.int (nI L.length), .int (nI k), .ref 18] (zr_Hf C ex (sl + 4) f (zu s 11 (nI (P + b.length))) (zu (zu a 1 g) 3 (upd (a 3) k (nI P)))) _
  refine zg_ast (i := .iastore) (t := 0) (n := 6) (f := a 5) (m := k) (v' := (nI L.length)) (G' := (zr_Hf C ex (sl + 4) f (zu s 11 (nI (P + b.length))) (zu (zu (zu a 1 g) 3 (upd (a 3) k (nI P))) 5 (upd (a 5) k (nI L.length))))) rfl rfl rfl rfl (by decide) rfl (by omega) (by decide) rfl ?_
  refine zm_J_run zm_T 5 (pc' := if (4 : Int32) ≤ 0 then 143 else 121) (lv' := [(7, .int 0), (6, .int (nI k)), (5, .int (s 8)), (4, .int 1), (3, .int (nI (L.length + 2))), (2, .int m), (0, .ref 12), (1, .ref (ex.length + 37))]) (st' := []) (G' := (zr_Hf C ex (sl + 4) f (zu s 11 (nI (P + b.length))) (zu (zu (zu a 1 g) 3 (upd (a 3) k (nI P))) 5 (upd (a 5) k (nI L.length))))) rfl ?_
  rw [if_neg (show ¬ ((4 : Int32) ≤ 0) by decide +kernel)]
  refine zm_J_run zm_T 9 (pc' := 135) (lv' := [(7, .int 0), (6, .int (nI k)), (5, .int (s 8)), (4, .int 1), (3, .int (nI (L.length + 2))), (2, .int m), (0, .ref 12), (1, .ref (ex.length + 37))]) (st' := [.int 0, .ref (ex.length + 37), .int (((nI k) * 4) + 0), .ref 17]) (G' := (zr_Hf C ex (sl + 4) f (zu s 11 (nI (P + b.length))) (zu (zu (zu a 1 g) 3 (upd (a 3) k (nI P))) 5 (upd (a 5) k (nI L.length))))) rfl ?_
  refine zg_ald (i := .iaload) (t := 0) (n := 4) (f := f) (m := 0) rfl zr_f_at rfl rfl rfl (by decide) (by decide) ?_
  refine zg_ast (i := .iastore) (t := 0) (n := 24) (f := a 4) (m := 4 * k + 0) (v' := (f 0)) (G' := (zr_Hf C ex (sl + 4) f (zu s 11 (nI (P + b.length))) (zu (zu (zu (zu a 1 g) 3 (upd (a 3) k (nI P))) 5 (upd (a 5) k (nI L.length))) 4 (upd (a 4) (4 * k + 0) (f 0))))) rfl rfl rfl rfl (by decide) (zi_ix k 0) (by omega) (by decide) rfl ?_
  refine zm_J_run zm_T 5 (pc' := if (4 : Int32) ≤ 1 then 143 else 121) (lv' := [(7, .int 1), (6, .int (nI k)), (5, .int (s 8)), (4, .int 1), (3, .int (nI (L.length + 2))), (2, .int m), (0, .ref 12), (1, .ref (ex.length + 37))]) (st' := []) (G' := (zr_Hf C ex (sl + 4) f (zu s 11 (nI (P + b.length))) (zu (zu (zu (zu a 1 g) 3 (upd (a 3) k (nI P))) 5 (upd (a 5) k (nI L.length))) 4 (upd (a 4) (4 * k + 0) (f 0))))) rfl ?_
  rw [if_neg (show ¬ ((4 : Int32) ≤ 1) by decide +kernel)]
  refine zm_J_run zm_T 9 (pc' := 135) (lv' := [(7, .int 1), (6, .int (nI k)), (5, .int (s 8)), (4, .int 1), (3, .int (nI (L.length + 2))), (2, .int m), (0, .ref 12), (1, .ref (ex.length + 37))]) (st' := [.int 1, .ref (ex.length + 37), .int (((nI k) * 4) + 1), .ref 17]) (G' := (zr_Hf C ex (sl + 4) f (zu s 11 (nI (P + b.length))) (zu (zu (zu (zu a 1 g) 3 (upd (a 3) k (nI P))) 5 (upd (a 5) k (nI L.length))) 4 (upd (a 4) (4 * k + 0) (f 0))))) rfl ?_
  refine zg_ald (i := .iaload) (t := 0) (n := 4) (f := f) (m := 1) rfl zr_f_at rfl rfl rfl (by decide) (by decide) ?_
  refine zg_ast (i := .iastore) (t := 0) (n := 24) (f := upd (a 4) (4 * k + 0) (f 0)) (m := 4 * k + 1) (v' := (f 1)) (G' := (zr_Hf C ex (sl + 4) f (zu s 11 (nI (P + b.length))) (zu (zu (zu (zu a 1 g) 3 (upd (a 3) k (nI P))) 5 (upd (a 5) k (nI L.length))) 4 (upd (upd (a 4) (4 * k + 0) (f 0)) (4 * k + 1) (f 1))))) rfl rfl rfl rfl (by decide) (zi_ix k 1) (by omega) (by decide) rfl ?_
  refine zm_J_run zm_T 5 (pc' := if (4 : Int32) ≤ 2 then 143 else 121) (lv' := [(7, .int 2), (6, .int (nI k)), (5, .int (s 8)), (4, .int 1), (3, .int (nI (L.length + 2))), (2, .int m), (0, .ref 12), (1, .ref (ex.length + 37))]) (st' := []) (G' := (zr_Hf C ex (sl + 4) f (zu s 11 (nI (P + b.length))) (zu (zu (zu (zu a 1 g) 3 (upd (a 3) k (nI P))) 5 (upd (a 5) k (nI L.length))) 4 (upd (upd (a 4) (4 * k + 0) (f 0)) (4 * k + 1) (f 1))))) rfl ?_
  rw [if_neg (show ¬ ((4 : Int32) ≤ 2) by decide +kernel)]
  refine zm_J_run zm_T 9 (pc' := 135) (lv' := [(7, .int 2), (6, .int (nI k)), (5, .int (s 8)), (4, .int 1), (3, .int (nI (L.length + 2))), (2, .int m), (0, .ref 12), (1, .ref (ex.length + 37))]) (st' := [.int 2, .ref (ex.length + 37), .int (((nI k) * 4) + 2), .ref 17]) (G' := (zr_Hf C ex (sl + 4) f (zu s 11 (nI (P + b.length))) (zu (zu (zu (zu a 1 g) 3 (upd (a 3) k (nI P))) 5 (upd (a 5) k (nI L.length))) 4 (upd (upd (a 4) (4 * k + 0) (f 0)) (4 * k + 1) (f 1))))) rfl ?_
  refine zg_ald (i := .iaload) (t := 0) (n := 4) (f := f) (m := 2) rfl zr_f_at rfl rfl rfl (by decide) (by decide) ?_
  refine zg_ast (i := .iastore) (t := 0) (n := 24) (f := upd (upd (a 4) (4 * k + 0) (f 0)) (4 * k + 1) (f 1)) (m := 4 * k + 2) (v' := (f 2)) (G' := (zr_Hf C ex (sl + 4) f (zu s 11 (nI (P + b.length))) (zu (zu (zu (zu a 1 g) 3 (upd (a 3) k (nI P))) 5 (upd (a 5) k (nI L.length))) 4 (upd (upd (upd (a 4) (4 * k + 0) (f 0)) (4 * k + 1) (f 1)) (4 * k + 2) (f 2))))) rfl rfl rfl rfl (by decide) (zi_ix k 2) (by omega) (by decide) rfl ?_
  refine zm_J_run zm_T 5 (pc' := if (4 : Int32) ≤ 3 then 143 else 121) (lv' := [(7, .int 3), (6, .int (nI k)), (5, .int (s 8)), (4, .int 1), (3, .int (nI (L.length + 2))), (2, .int m), (0, .ref 12), (1, .ref (ex.length + 37))]) (st' := []) (G' := (zr_Hf C ex (sl + 4) f (zu s 11 (nI (P + b.length))) (zu (zu (zu (zu a 1 g) 3 (upd (a 3) k (nI P))) 5 (upd (a 5) k (nI L.length))) 4 (upd (upd (upd (a 4) (4 * k + 0) (f 0)) (4 * k + 1) (f 1)) (4 * k + 2) (f 2))))) rfl ?_
  rw [if_neg (show ¬ ((4 : Int32) ≤ 3) by decide +kernel)]
  refine zm_J_run zm_T 9 (pc' := 135) (lv' := [(7, .int 3), (6, .int (nI k)), (5, .int (s 8)), (4, .int 1), (3, .int (nI (L.length + 2))), (2, .int m), (0, .ref 12), (1, .ref (ex.length + 37))]) (st' := [.int 3, .ref (ex.length + 37), .int (((nI k) * 4) + 3), .ref 17]) (G' := (zr_Hf C ex (sl + 4) f (zu s 11 (nI (P + b.length))) (zu (zu (zu (zu a 1 g) 3 (upd (a 3) k (nI P))) 5 (upd (a 5) k (nI L.length))) 4 (upd (upd (upd (a 4) (4 * k + 0) (f 0)) (4 * k + 1) (f 1)) (4 * k + 2) (f 2))))) rfl ?_
  refine zg_ald (i := .iaload) (t := 0) (n := 4) (f := f) (m := 3) rfl zr_f_at rfl rfl rfl (by decide) (by decide) ?_
  refine zg_ast (i := .iastore) (t := 0) (n := 24) (f := upd (upd (upd (a 4) (4 * k + 0) (f 0)) (4 * k + 1) (f 1)) (4 * k + 2) (f 2)) (m := 4 * k + 3) (v' := (f 3)) (G' := (zr_Hf C ex (sl + 4) f (zu s 11 (nI (P + b.length))) (zu (zu (zu (zu a 1 g) 3 (upd (a 3) k (nI P))) 5 (upd (a 5) k (nI L.length))) 4 (upd (upd (upd (upd (a 4) (4 * k + 0) (f 0)) (4 * k + 1) (f 1)) (4 * k + 2) (f 2)) (4 * k + 3) (f 3))))) rfl rfl rfl rfl (by decide) (zi_ix k 3) (by omega) (by decide) rfl ?_
  refine zm_J_run zm_T 5 (pc' := if (4 : Int32) ≤ 4 then 143 else 121) (lv' := [(7, .int 4), (6, .int (nI k)), (5, .int (s 8)), (4, .int 1), (3, .int (nI (L.length + 2))), (2, .int m), (0, .ref 12), (1, .ref (ex.length + 37))]) (st' := []) (G' := (zr_Hf C ex (sl + 4) f (zu s 11 (nI (P + b.length))) (zu (zu (zu (zu a 1 g) 3 (upd (a 3) k (nI P))) 5 (upd (a 5) k (nI L.length))) 4 (upd (upd (upd (upd (a 4) (4 * k + 0) (f 0)) (4 * k + 1) (f 1)) (4 * k + 2) (f 2)) (4 * k + 3) (f 3))))) rfl ?_
  rw [if_pos (show (4 : Int32) ≤ 4 by decide +kernel)]
  refine zm_J_run zm_T 4 (pc' := 150) (lv' := [(7, .int 4), (6, .int (nI k)), (5, .int (s 8)), (4, .int 1), (3, .int (nI (L.length + 2))), (2, .int m), (0, .ref 12), (1, .ref (ex.length + 37))]) (st' := [.int 1, .int (nI k), .ref 20]) (G' := (zr_Hf C ex (sl + 4) f (zu s 11 (nI (P + b.length))) (zu (zu (zu (zu a 1 g) 3 (upd (a 3) k (nI P))) 5 (upd (a 5) k (nI L.length))) 4 (upd (upd (upd (upd (a 4) (4 * k + 0) (f 0)) (4 * k + 1) (f 1)) (4 * k + 2) (f 2)) (4 * k + 3) (f 3))))) rfl ?_
  refine zg_ast (i := .bastore) (t := 3) (n := 6) (f := a 7) (m := k) (v' := 1) (G' := (zr_Hf C ex (sl + 4) f (zu s 11 (nI (P + b.length))) (zu (zu (zu (zu (zu a 1 g) 3 (upd (a 3) k (nI P))) 5 (upd (a 5) k (nI L.length))) 4 (upd (upd (upd (upd (a 4) (4 * k + 0) (f 0)) (4 * k + 1) (f 1)) (4 * k + 2) (f 2)) (4 * k + 3) (f 3))) 7 (upd (a 7) k 1)))) rfl rfl rfl rfl (by decide) rfl (by omega) (by decide) rfl ?_
  refine zm_J_run zm_T 5 (pc' := 159) (lv' := [(7, .int 4), (6, .int (nI k)), (5, .int (s 8)), (4, .int 1), (3, .int (nI (L.length + 2))), (2, .int m), (0, .ref 12), (1, .ref (ex.length + 37))]) (st' := [.int 1, .ref 12]) (G' := (zr_Hf C ex (sl + 4) f (zu (zu s 11 (nI (P + b.length))) 8 0) (zu (zu (zu (zu (zu a 1 g) 3 (upd (a 3) k (nI P))) 5 (upd (a 5) k (nI L.length))) 4 (upd (upd (upd (upd (a 4) (4 * k + 0) (f 0)) (4 * k + 1) (f 1)) (4 * k + 2) (f 2)) (4 * k + 3) (f 3))) 7 (upd (a 7) k 1)))) rfl ?_
  refine zg_V (a := 12) (av := [.int 1]) (rest := []) (v := some (.int 0)) (G2 := (zr_Hf C ex (sl + 4) f (zu (zu (zu s 11 (nI (P + b.length))) 8 0) 12 0) (zu (zu (zu (zu (zu a 1 g) 3 (upd (a 3) k (nI P))) 5 (upd (a 5) k (nI L.length))) 4 (upd (upd (upd (upd (a 4) (4 * k + 0) (f 0)) (4 * k + 1) (f 1)) (4 * k + 2) (f 2)) (4 * k + 3) (f 3))) 7 (upd (a 7) k 1)))) (zm_T.1 76 159 _ rfl).1 zc_76_159 rfl (Nat.le_of_ble_eq_true rfl) (Nat.le_of_ble_eq_true rfl) (zr_fc hr) (zr_fs hr) (zr_bad true) ?_
  show zm_J N _ 76 162 [(7, .int 4), (6, .int (nI k)), (5, .int (s 8)), (4, .int 1), (3, .int (nI (L.length + 2))), (2, .int m), (0, .ref 12), (1, .ref (ex.length + 37))] [.int 0] (zr_Hf C ex (sl + 4) f (zu (zu (zu s 11 (nI (P + b.length))) 8 0) 12 0) (zu (zu (zu (zu (zu a 1 g) 3 (upd (a 3) k (nI P))) 5 (upd (a 5) k (nI L.length))) 4 (upd (upd (upd (upd (a 4) (4 * k + 0) (f 0)) (4 * k + 1) (f 1)) (4 * k + 2) (f 2)) (4 * k + 3) (f 3))) 7 (upd (a 7) k 1))) _
  refine zm_J_run zm_T 3 (pc' := if (s 8) = 0 then 170 else 174) (lv' := [(7, .int 4), (6, .int (nI k)), (5, .int (s 8)), (4, .int 1), (3, .int (nI (L.length + 2))), (2, .int m), (0, .ref 12), (1, .ref (ex.length + 37))]) (st' := []) (G' := (zr_Hf C ex (sl + 4) f (zu (zu (zu s 11 (nI (P + b.length))) 8 0) 12 0) (zu (zu (zu (zu (zu a 1 g) 3 (upd (a 3) k (nI P))) 5 (upd (a 5) k (nI L.length))) 4 (upd (upd (upd (upd (a 4) (4 * k + 0) (f 0)) (4 * k + 1) (f 1)) (4 * k + 2) (f 2)) (4 * k + 3) (f 3))) 7 (upd (a 7) k 1)))) rfl ?_
  rw [if_neg (show ¬ ((s 8) = 0) from hx8)]
  refine zm_J_run zm_T 3 (pc' := 177) (lv' := [(7, .int 4), (6, .int (nI k)), (5, .int (s 8)), (4, .int 1), (3, .int (nI (L.length + 2))), (2, .int m), (0, .ref 12), (1, .ref (ex.length + 37))]) (st' := [.int ((nI (L.length + 2)) - 2)]) (G' := (zr_Hf C ex (sl + 4) f (zu (zu (zu s 11 (nI (P + b.length))) 8 0) 12 0) (zu (zu (zu (zu (zu a 1 g) 3 (upd (a 3) k (nI P))) 5 (upd (a 5) k (nI L.length))) 4 (upd (upd (upd (upd (a 4) (4 * k + 0) (f 0)) (4 * k + 1) (f 1)) (4 * k + 2) (f 2)) (4 * k + 3) (f 3))) 7 (upd (a 7) k 1)))) rfl ?_
  rw [show nI (L.length + 2) - 2 = nI L.length from by show nI (L.length + 2) - nI 2 = _; rw [pk_sub (by omega)]; rfl]
  show zm_J N _ 76 177 [(7, .int 4), (6, .int (nI k)), (5, .int (s 8)), (4, .int 1), (3, .int (nI (L.length + 2))), (2, .int m), (0, .ref 12), (1, .ref (ex.length + 37))] [.int (nI L.length)] (zr_Hf C ex (sl + 4) f (zu (zu (zu s 11 (nI (P + b.length))) 8 0) 12 0) (zu (zu (zu (zu (zu a 1 g) 3 (upd (a 3) k (nI P))) 5 (upd (a 5) k (nI L.length))) 4 (upd (upd (upd (upd (a 4) (4 * k + 0) (f 0)) (4 * k + 1) (f 1)) (4 * k + 2) (f 2)) (4 * k + 3) (f 3))) 7 (upd (a 7) k 1))) _
  refine zm_J_fin zm_T rfl rfl (ks _ _ ⟨rfl, rfl, rfl, fun q hq => by rw [zu_ne _ _ hq.2.2.2.2, zu_ne _ _ hq.1, zu_ne _ _ hq.2.2.2.1], fun j hj => g1 j (Or.inl hj), fun j x hj => g2 j x (by rw [← hdr, List.getElem?_drop] at hj; exact hj), rfl, rfl, ?_, ?_, rfl, fun q hq => by rw [zu_ne _ _ hq.2.2.2.2.2, zu_ne _ _ hq.2.2.1, zu_ne _ _ hq.2.2.2.1, zu_ne _ _ hq.2.1, zu_ne _ _ hq.1]⟩)
  · intro i x hx
    have hi := (List.getElem?_eq_some_iff.mp hx).1
    have hfx := hf i x hx
    show upd _ (4 * k + 3) (f 3) (4 * k + i) = x
    rcases (by omega : i = 0 ∨ i = 1 ∨ i = 2 ∨ i = 3) with rfl | rfl | rfl | rfl
    · rw [zi_updn _ _ (by omega), zi_updn _ _ (by omega), zi_updn _ _ (by omega), zi_upd]; exact hfx
    · rw [zi_updn _ _ (by omega), zi_updn _ _ (by omega), zi_upd]; exact hfx
    · rw [zi_updn _ _ (by omega), zi_upd]; exact hfx
    · rw [zi_upd]; exact hfx
  · intro q hq
    show upd _ (4 * k + 3) (f 3) q = a 4 q
    rw [zi_updn _ _ (by omega), zi_updn _ _ (by omega), zi_updn _ _ (by omega), zi_updn _ _ (by omega)]
theorem zr_define (hr : zr_rf ex (sl + 4)) (hd : 5 ≤ d) (ht : zr_tt s a t) {P : Nat} (h11 : s 11 = nI P) (hP : P + 40 ≤ 21200)
    (kf : zv_df t = none → ∀ f s' a', zr_no s a s' a' → Q (.inl (some (.int 0))) (zr_Hf C ex (sl + 4) f s' a'))
    (ks : ∀ x L b, zv_df t = some (x, L, b) → ∀ f s' a', 0 ≤ x ∧ x.toNatClampNeg < 6 → zr_yes P x.toNatClampNeg L b s a s' a' → Q (.inl (some (.int (nI L.length)))) (zr_Hf C ex (sl + 4) f s' a')) : zm_J N d 76 0 [(0, .ref 12)] [] (zr_H C ex sl s a) Q := by
  obtain ⟨d, rfl⟩ : ∃ e, d = e + 5 := ⟨d - 5, by omega⟩
  refine zm_J_run zm_T 1 (pc' := 1) (lv' := [(0, .ref 12)]) (st' := [.int 4]) (G' := (zr_H C ex sl s a)) rfl ?_
  refine zg_newi rfl hr ?_
  refine zm_J_run zm_T 3 (pc' := 6) (lv' := [(0, .ref 12)]) (st' := [.int 0, .int 0, .ref (ex.length + 37), .ref (ex.length + 37)]) (G' := (zr_Hf C ex (sl + 4) (fun _ => 0) s a)) rfl ?_
  refine zg_ast (i := .iastore) (t := 0) (n := 4) (f := (fun _ => 0)) (m := 0) (v' := 0) (G' := (zr_Hf C ex (sl + 4) (upd (fun _ => 0) 0 0) s a)) rfl zr_f_at rfl rfl (Nat.le_add_left 2 _) rfl (by decide) (by decide) zr_f_set ?_
  refine zm_J_run zm_T 3 (pc' := 10) (lv' := [(0, .ref 12)]) (st' := [.int 0, .int 1, .ref (ex.length + 37), .ref (ex.length + 37)]) (G' := (zr_Hf C ex (sl + 4) (upd (fun _ => 0) 0 0) s a)) rfl ?_
  refine zg_ast (i := .iastore) (t := 0) (n := 4) (f := upd (fun _ => 0) 0 0) (m := 1) (v' := 0) (G' := (zr_Hf C ex (sl + 4) (upd (upd (fun _ => 0) 0 0) 1 0) s a)) rfl zr_f_at rfl rfl (Nat.le_add_left 2 _) rfl (by decide) (by decide) zr_f_set ?_
  refine zm_J_run zm_T 3 (pc' := 14) (lv' := [(0, .ref 12)]) (st' := [.int 0, .int 2, .ref (ex.length + 37), .ref (ex.length + 37)]) (G' := (zr_Hf C ex (sl + 4) (upd (upd (fun _ => 0) 0 0) 1 0) s a)) rfl ?_
  refine zg_ast (i := .iastore) (t := 0) (n := 4) (f := upd (upd (fun _ => 0) 0 0) 1 0) (m := 2) (v' := 0) (G' := (zr_Hf C ex (sl + 4) (upd (upd (upd (fun _ => 0) 0 0) 1 0) 2 0) s a)) rfl zr_f_at rfl rfl (Nat.le_add_left 2 _) rfl (by decide) (by decide) zr_f_set ?_
  refine zm_J_run zm_T 3 (pc' := 18) (lv' := [(0, .ref 12)]) (st' := [.int 0, .int 3, .ref (ex.length + 37), .ref (ex.length + 37)]) (G' := (zr_Hf C ex (sl + 4) (upd (upd (upd (fun _ => 0) 0 0) 1 0) 2 0) s a)) rfl ?_
  refine zg_ast (i := .iastore) (t := 0) (n := 4) (f := upd (upd (upd (fun _ => 0) 0 0) 1 0) 2 0) (m := 3) (v' := 0) (G' := (zr_Hf C ex (sl + 4) (upd (upd (upd (upd (fun _ => 0) 0 0) 1 0) 2 0) 3 0) s a)) rfl zr_f_at rfl rfl (Nat.le_add_left 2 _) rfl (by decide) (by decide) zr_f_set ?_
  refine zm_J_run zm_T 6 (pc' := 27) (lv' := [(1, .ref (ex.length + 37)), (0, .ref 12)]) (st' := [.ref (ex.length + 37), .ref 12]) (G' := (zr_Hf C ex (sl + 4) (upd (upd (upd (upd (fun _ => 0) 0 0) 1 0) 2 0) 3 0) (zu s 10 0) a)) rfl ?_
  refine zg_VK (a := 12) (av := [.ref (ex.length + 37)]) (rest := []) (zm_T.1 76 27 _ rfl).1 zc_76_27 rfl (Nat.le_of_ble_eq_true rfl) (Nat.le_of_ble_eq_true rfl) (zr_fc hr) (zr_fs hr) (zr_heading hr (by omega) ht (fun q f' hno => ⟨_, rfl, ?_⟩) (fun c r b j f' h1 h2 h3 h4 h5 h6 h7 h8 => ⟨_, rfl, ?_⟩))
  · show zm_J N _ 76 30 [(1, .ref (ex.length + 37)), (0, .ref 12)] [.int (-1)] (zr_Hf C ex (sl + 4) f' (zu s 10 (nI q)) a) _
    refine zm_J_run zm_T 6 (pc' := if ((-1) : Int32) < 0 then 52 else 40) (lv' := [(3, .int (nI q)), (2, .int (-1)), (1, .ref (ex.length + 37)), (0, .ref 12)]) (st' := []) (G' := (zr_Hf C ex (sl + 4) f' (zu s 10 (nI q)) a)) rfl ?_
    rw [if_pos (show ((-1) : Int32) < 0 by decide +kernel)]
    refine zm_J_run zm_T 2 (pc' := 55) (lv' := [(4, .int 0), (3, .int (nI q)), (2, .int (-1)), (1, .ref (ex.length + 37)), (0, .ref 12)]) (st' := []) (G' := (zr_Hf C ex (sl + 4) f' (zu s 10 (nI q)) a)) rfl ?_
    refine zm_J_lv (lv' := [(4, .int 0), (3, .int (nI q)), (2, .int (-1)), (0, .ref 12), (1, .ref (ex.length + 37))]) (by simp) ?_
    exact zr_df_no (s := zu s 10 (nI q)) (a := a) hr (by omega) (fun s' a' h => kf hno f' s' a' ⟨h.1, h.2.1, fun k hk => (h.2.2.1 k hk).trans (zu_ne _ _ hk.2.2.1), fun k hk => h.2.2.2 k hk⟩)
  · show zm_J N _ 76 30 [(1, .ref (ex.length + 37)), (0, .ref 12)] [.int (nI j)] (zr_Hf C ex (sl + 4) f' (zu s 10 (nI ((zv_hl 4 [] r).1.length + 2))) a) _
    generalize hL : (zv_hl 4 [] r).1 = L at *
    obtain ⟨g1, g2, g3, g4, g5⟩ := zv_hl_ok 4 [] r (fun _ hx => by cases hx) List.nodup_nil (by decide)
    rw [hL] at g1 g2 g3 g4 g5
    have hdf : ∀ x, (if zv_rd L 11 b = some [] then some (c - 65, L, b) else none) = x → zv_df t = x := fun x hx => by
      rw [h1]
      show (if 65 ≤ c ∧ c ≤ 70 then match (zv_hl 4 [] r).2 with | [] => none | q :: b => if q = 61 ∧ zv_rd (zv_hl 4 [] r).1 11 b = some [] then some (c - 65, (zv_hl 4 [] r).1, b) else none else none) = x
      rw [if_pos h2, h3, hL, ← hx]
      show (if (61 : Int32) = 61 ∧ zv_rd L 11 b = some [] then some (c - 65, L, b) else none) = _
      by_cases hz : zv_rd L 11 b = some []
      · rw [if_pos ⟨rfl, hz⟩, if_pos hz]
      · rw [if_neg (fun z => hz z.2), if_neg hz]
    refine zm_J_run zm_T 6 (pc' := if (nI j) < 0 then 52 else 40) (lv' := [(3, .int (nI (L.length + 2))), (2, .int (nI j)), (1, .ref (ex.length + 37)), (0, .ref 12)]) (st' := []) (G' := (zr_Hf C ex (sl + 4) f' (zu s 10 (nI (L.length + 2))) a)) rfl ?_
    rw [if_neg (show ¬ ((nI j) < 0) from nI_pos (by omega))]
    refine zm_J_run zm_T 2 (pc' := 42) (lv' := [(3, .int (nI (L.length + 2))), (2, .int (nI j)), (1, .ref (ex.length + 37)), (0, .ref 12)]) (st' := [.int (nI j), .ref 12]) (G' := (zr_Hf C ex (sl + 4) f' (zu s 10 (nI (L.length + 2))) a)) rfl ?_
    refine zg_VK (a := 12) (av := [.int (nI j)]) (rest := []) (zm_T.1 76 42 _ rfl).1 zc_76_42 rfl (Nat.le_of_ble_eq_true rfl) (Nat.le_of_ble_eq_true rfl) (zr_fc hr) (zr_fs hr) (zr_read (ex := zr_fx ex f') (t := t) (L := L) (mk := nI j) (q := L.length + 2) (s := zu s 10 (nI (L.length + 2))) (zr_rff hr) (by omega) ht h5 g1 h8 rfl (fun hno q' nd' => ⟨_, rfl, ?_⟩) (fun hyes q' nd' => ⟨_, rfl, ?_⟩))
    · rw [h7] at hno
      rw [zu_1]
      show zm_J N _ 76 45 [(3, .int (nI (L.length + 2))), (2, .int (nI j)), (1, .ref (ex.length + 37)), (0, .ref 12)] [.int 0] (zr_Hf C ex (sl + 4) f' (zu s 10 (nI q')) (zu a 6 nd')) _
      refine zm_J_run zm_T 3 (pc' := 55) (lv' := [(4, .int 0), (3, .int (nI (L.length + 2))), (2, .int (nI j)), (1, .ref (ex.length + 37)), (0, .ref 12)]) (st' := []) (G' := (zr_Hf C ex (sl + 4) f' (zu s 10 (nI q')) (zu a 6 nd'))) rfl ?_
      refine zm_J_lv (lv' := [(4, .int 0), (3, .int (nI (L.length + 2))), (2, .int (nI j)), (0, .ref 12), (1, .ref (ex.length + 37))]) (by simp) ?_
      exact zr_df_no (s := zu s 10 (nI q')) (a := zu a 6 nd') hr (by omega) (fun s' a' h => kf (hdf none (if_neg hno)) f' s' a' ⟨h.1, h.2.1, fun k hk => (h.2.2.1 k hk).trans (zu_ne _ _ hk.2.2.1), fun k hk => (h.2.2.2 k hk).trans (zu_ne _ _ hk)⟩)
    · rw [h7] at hyes
      rw [zu_1]
      show zm_J N _ 76 45 [(3, .int (nI (L.length + 2))), (2, .int (nI j)), (1, .ref (ex.length + 37)), (0, .ref 12)] [.int 1] (zr_Hf C ex (sl + 4) f' (zu s 10 (nI q')) (zu a 6 nd')) _
      obtain ⟨m1, m2⟩ := zv_name h2
      refine zm_J_run zm_T 4 (pc' := 55) (lv' := [(4, .int 1), (3, .int (nI (L.length + 2))), (2, .int (nI j)), (1, .ref (ex.length + 37)), (0, .ref 12)]) (st' := []) (G' := (zr_Hf C ex (sl + 4) f' (zu s 10 (nI q')) (zu a 6 nd'))) rfl ?_
      refine zm_J_lv (lv' := [(4, .int 1), (3, .int (nI (L.length + 2))), (2, .int (nI j)), (0, .ref 12), (1, .ref (ex.length + 37))]) (by simp) ?_
      exact zr_df_yes (s := zu s 10 (nI q')) (a := zu a 6 nd') (t := t) hr (by omega) ht m2 h1 (zi_nat m1) g3 h7 h8 h11 hP h6 (fun s' a' h => ks (c - 65) L b (hdf _ (if_pos hyes)) f' s' a' ⟨m1, m2⟩ ⟨h.1, h.2.1, h.2.2.1, fun k hk => (h.2.2.2.1 k hk).trans (zu_ne _ _ hk.2.2.1), h.2.2.2.2.1, h.2.2.2.2.2.1, h.2.2.2.2.2.2.1, h.2.2.2.2.2.2.2.1, h.2.2.2.2.2.2.2.2.1, h.2.2.2.2.2.2.2.2.2.1, h.2.2.2.2.2.2.2.2.2.2.1, fun q hq => (h.2.2.2.2.2.2.2.2.2.2.2 q hq).trans (zu_ne _ _ hq.2.2.2.2.1)⟩)
end ZRE2

/-! THE REFERENCE: a DEFINITION is read -/
theorem zi_setl {α : Type} (l : List α) (x y : α) : (l ++ [x]).set l.length y = l ++ [y] := by
  induction l with
  | nil => rfl
  | cons z r ih => exact congrArg (z :: ·) ih
def zr_fx (ex : List zm_E) (f : Nat → Int32) : List zm_E := ex ++ [.inl (0, 4, .inl f)]
def zr_Hf (C : Nat → zm_E) (ex : List zm_E) (sl : Nat) (f : Nat → Int32) (s : Nat → Int32) (a : Nat → Nat → Int32) : zm_H := zr_H C (zr_fx ex f) sl s a
def zr_rf (ex : List zm_E) (sl : Nat) : Prop := ex.length + 38 ≤ zm_C ∧ sl ≤ zm_S
section ZRf
variable {C : Nat → zm_E} {ex : List zm_E} {sl : Nat} {f g : Nat → Int32} {s : Nat → Int32} {a : Nat → Nat → Int32}
theorem zr_fc (h : zr_rf ex sl) : (zr_Hf C ex sl f s a).1.length ≤ zm_C := by
  show (ex ++ [_]).length + 37 ≤ zm_C
  rw [List.length_append, List.length_singleton]
  exact h.1
theorem zr_fs (h : zr_rf ex sl) : (zr_Hf C ex sl f s a).2 ≤ zm_S := h.2
theorem zr_f_at : (zr_Hf C ex sl f s a).1[ex.length + 37]? = some (.inl (0, 4, .inl f)) := by
  show (ex ++ [_])[ex.length]? = _
  rw [List.getElem?_append_right (Nat.le_refl _), Nat.sub_self]
  rfl
theorem zr_f_set : zm_set (zr_Hf C ex sl f s a) (ex.length + 37) (.inl (0, 4, .inl g)) = zr_Hf C ex sl g s a := by
  unfold zm_set zr_Hf zr_fx zr_H
  rw [← zi_setl ex (.inl (0, 4, .inl f)) (.inl (0, 4, .inl g))]
  rfl
end ZRf
theorem zi_let {c : Int32} (h : 97 ≤ c ∧ c ≤ 102) : ∃ i, i < 6 ∧ c = nI (97 + i) := by
  have h1 : (97 : Int) ≤ c.toInt := Int32.le_iff_toInt_le.mp h.1
  have h2 : c.toInt ≤ 102 := Int32.le_iff_toInt_le.mp h.2
  refine ⟨(c.toInt - 97).toNat, by omega, ?_⟩
  refine Int32.toInt_inj.mp ?_
  rw [nI_toInt (by omega)]
  omega
theorem zi_let2 (i : Nat) : nI (97 + i) - 97 = nI i := by
  show nI (97 + i) - nI 97 = nI i
  rw [pk_sub (by omega), Nat.add_sub_cancel_left]
theorem zr_mkd : ∀ j, j < 64 → ∀ i, i < 6 → ((nI j ||| ((1 : Int32) <<< (nI i &&& 31))) = nI (j ||| 2 ^ i) ∧ j ||| 2 ^ i < 64) ∧ ∀ i', i' < 6 → ((nI (j ||| 2 ^ i) >>> (nI i' &&& 31)) &&& 1 = 0 ↔ (i' ≠ i ∧ (nI j >>> (nI i' &&& 31)) &&& 1 = 0)) := by decide +kernel
theorem zr_mk0 : zr_mk [] 0 := by
  intro c hc
  obtain ⟨i, hi, rfl⟩ := zi_let hc
  rw [zi_let2]
  have : ∀ i, i < 6 → ((0 : Int32) >>> (nI i &&& 31)) &&& 1 = 0 := by decide +kernel
  exact ⟨fun _ h => (by cases h), fun _ => this i hi⟩
theorem zr_mk_add {L : List Int32} {j : Nat} {c : Int32} (hj : j < 64) (hc : 97 ≤ c ∧ c ≤ 102) (h : zr_mk L (nI j)) : ∃ j', j' < 64 ∧ (nI j ||| ((1 : Int32) <<< ((c - 97) &&& 31))) = nI j' ∧ zr_mk (L ++ [c]) (nI j') := by
  obtain ⟨i, hi, rfl⟩ := zi_let hc
  rw [zi_let2]
  obtain ⟨⟨e1, e2⟩, e3⟩ := zr_mkd j hj i hi
  refine ⟨_, e2, e1, fun x hx => ?_⟩
  obtain ⟨i', hi', rfl⟩ := zi_let hx
  have g := h _ hx
  rw [zi_let2] at g ⊢
  rw [e3 i' hi', g, List.mem_append, List.mem_singleton]
  constructor
  · rintro ⟨h1, h2⟩ (h3 | h3)
    · exact h2 h3
    · exact h1 (by have := (nI_eq (by omega) (by omega)).mp h3; omega)
  · intro h1
    exact ⟨fun z => h1 (Or.inr (by rw [z])), fun z => h1 (Or.inl z)⟩
theorem zi_appf {L : List Int32} {f : Nat → Int32} {c : Int32} (hf : ∀ i x, L[i]? = some x → f i = x) (i : Nat) (x : Int32) (hx : (L ++ [c])[i]? = some x) : upd f L.length c i = x := by
  by_cases hi : i < L.length
  · rw [List.getElem?_append_left hi] at hx
    exact (zi_updn f c (by omega)).trans (hf i x hx)
  · have h2 := (List.getElem?_eq_some_iff.mp hx).1
    rw [List.length_append, List.length_singleton] at h2
    have h3 : i = L.length := by omega
    subst h3
    rw [List.getElem?_append_right (Nat.le_refl _), Nat.sub_self] at hx
    exact (zi_upd f _ c).trans (Option.some.inj hx)
theorem zv_hl_yes {k : Nat} {L r : List Int32} {c : Int32} (hc : 97 ≤ c ∧ c ≤ 102) (hcL : ¬ c ∈ L) : zv_hl (k + 1) L (c :: r) = zv_hl k (L ++ [c]) r := by
  show (if (97 ≤ c ∧ c ≤ 102) ∧ ¬ c ∈ L then zv_hl k (L ++ [c]) r else (L, c :: r)) = _
  rw [if_pos ⟨hc, hcL⟩]
section ZRD
variable {N : zm_N} {d : Nat} {C : Nat → zm_E} {ex : List zm_E} {sl M : Nat} {s : Nat → Int32} {a : Nat → Nat → Int32} {Q : zm_O → zm_H → Prop} {D : zv_D} {t : List Int32}
/-- look at the place q -/
theorem zr_lk (ht : zr_tt s a t) {q : Nat} {c : Int32} {r : List Int32} (h : t.drop q = c :: r) {f : Nat → Int32} : zm_J N d 78 0 [(0, .ref 12)] [] (zr_Hf C ex sl f (zu s 10 (nI q)) a) (fun z G' => z = .inl (some (.int c)) ∧ G' = zr_Hf C ex sl f (zu s 10 (nI q)) a) := by
  have hq : q < t.length := by
    rcases Nat.lt_or_ge q t.length with z | z
    · exact z
    · rw [List.drop_eq_nil_of_le z] at h; cases h
  rw [List.drop_eq_getElem_cons hq] at h
  have hc : a 0 q = c := ht.2.2 q c (by rw [List.getElem?_eq_getElem hq]; exact congrArg some (List.cons.inj h).1)
  have jl := zr_look1 (N := N) (d := d) (C := C) (ex := zr_fx ex f) (sl := sl) (s := zu s 10 (nI q)) (a := a) (q := q) (n := t.length) rfl ht.1 hq ht.2.1
  rw [hc] at jl
  exact jl
theorem zr_lk0 (ht : zr_tt s a t) {q : Nat} (h : t.length ≤ q) (h2 : q ≤ 100) {f : Nat → Int32} : zm_J N d 78 0 [(0, .ref 12)] [] (zr_Hf C ex sl f (zu s 10 (nI q)) a) (fun z G' => z = .inl (some (.int 0)) ∧ G' = zr_Hf C ex sl f (zu s 10 (nI q)) a) :=
  zr_look0 (N := N) (d := d) (C := C) (ex := zr_fx ex f) (sl := sl) (s := zu s 10 (nI q)) (a := a) (q := q) (n := t.length) rfl ht.1 h h2
set_option maxHeartbeats 1000000 in
theorem zr_hd_l (hr : zr_rf ex sl) (hd : 2 ≤ d) (ht : zr_tt s a t) : ∀ (k : Nat) (L w : List Int32) (q j : Nat) (f : Nat → Int32), L.length + k = 4 → q ≤ t.length → t.drop q = w → j < 64 → zr_mk L (nI j) → (∀ i x, L[i]? = some x → f i = x) →
    (∀ L' w' q' j' f', zv_hl k L w = (L', w') → q' ≤ t.length → t.drop q' = w' → q' + L.length = q + L'.length → j' < 64 → zr_mk L' (nI j') → (∀ i x, L'[i]? = some x → f' i = x) → zm_J N d 77 98 [(3, .int (nI L'.length)), (2, .int (nI j')), (0, .ref 12), (1, .ref (ex.length + 37))] [] (zr_Hf C ex sl f' (zu s 10 (nI q')) a) Q) →
    zm_J N d 77 30 [(3, .int (nI L.length)), (2, .int (nI j)), (0, .ref 12), (1, .ref (ex.length + 37))] [] (zr_Hf C ex sl f (zu s 10 (nI q)) a) Q := by
  obtain ⟨d, rfl⟩ : ∃ e, d = e + 2 := ⟨d - 2, by omega⟩
  intro k
  induction k with
  | zero =>
    intro L w q j f hk hq hw hj hm hf K
    have K := K L w q j f (by cases w <;> rfl) hq hw rfl hj hm hf
    refine zm_J_run zm_T 3 (pc' := if (4 : Int32) ≤ (nI L.length) then 98 else 35) (lv' := [(3, .int (nI L.length)), (2, .int (nI j)), (0, .ref 12), (1, .ref (ex.length + 37))]) (st' := []) (G' := (zr_Hf C ex sl f (zu s 10 (nI q)) a)) rfl ?_
    rw [if_pos (show (4 : Int32) ≤ (nI L.length) from by rw [show L.length = 4 by omega]; decide)]
    exact K
  | succ k ih =>
    intro L w q j f hk hq hw hj hm hf K
    cases w with
    | nil =>
      have K := K L [] q j f rfl hq hw rfl hj hm hf
      have hql : t.length ≤ q := by
        have := congrArg List.length hw
        rw [List.length_drop, List.length_nil] at this
        omega
      refine zm_J_run zm_T 3 (pc' := if (4 : Int32) ≤ (nI L.length) then 98 else 35) (lv' := [(3, .int (nI L.length)), (2, .int (nI j)), (0, .ref 12), (1, .ref (ex.length + 37))]) (st' := []) (G' := (zr_Hf C ex sl f (zu s 10 (nI q)) a)) rfl ?_
      rw [if_neg (show ¬ ((4 : Int32) ≤ (nI L.length)) from nI_ge (show L.length < 4 by omega) (by decide))]
      refine zm_J_run zm_T 1 (pc' := 36) (lv' := [(3, .int (nI L.length)), (2, .int (nI j)), (0, .ref 12), (1, .ref (ex.length + 37))]) (st' := [.ref 12]) (G' := (zr_Hf C ex sl f (zu s 10 (nI q)) a)) rfl ?_
      refine zg_V (a := 12) (av := []) (rest := []) (v := some (.int 0)) (G2 := (zr_Hf C ex sl f (zu s 10 (nI q)) a)) (zm_T.1 77 36 _ rfl).1 zc_77_36 rfl (Nat.le_of_ble_eq_true rfl) (Nat.le_of_ble_eq_true rfl) (zr_fc hr) (zr_fs hr) (zr_lk0 ht hql (by have := ht.2.1; omega)) ?_
      show zm_J N _ 77 39 [(3, .int (nI L.length)), (2, .int (nI j)), (0, .ref 12), (1, .ref (ex.length + 37))] [.int 0] (zr_Hf C ex sl f (zu s 10 (nI q)) a) _
      refine zm_J_run zm_T 2 (pc' := 43) (lv' := [(3, .int (nI L.length)), (2, .int (nI j)), (0, .ref 12), (1, .ref (ex.length + 37))]) (st' := [.int 102, .int 97, .int 0]) (G' := (zr_Hf C ex sl f (zu s 10 (nI q)) a)) rfl ?_
      refine zg_S (av := [.int 0, .int 97, .int 102]) (rest := []) (v := some (.int (if (97 : Int32) ≤ 0 ∧ (0 : Int32) ≤ 102 then 1 else 0))) (G2 := (zr_Hf C ex sl f (zu s 10 (nI q)) a)) (zm_T.1 77 43 _ rfl).1 zc_77_43 (Nat.le_of_ble_eq_true rfl) (Nat.le_of_ble_eq_true rfl) (zr_fc hr) (zr_fs hr) (zr_btw 0 97 102 _) ?_
      show zm_J N _ 77 46 [(3, .int (nI L.length)), (2, .int (nI j)), (0, .ref 12), (1, .ref (ex.length + 37))] [.int (if (97 : Int32) ≤ 0 ∧ (0 : Int32) ≤ 102 then 1 else 0)] (zr_Hf C ex sl f (zu s 10 (nI q)) a) _
      rw [if_neg (show ¬ ((97 : Int32) ≤ 0 ∧ (0 : Int32) ≤ 102) by decide)]
      show zm_J N _ 77 46 [(3, .int (nI L.length)), (2, .int (nI j)), (0, .ref 12), (1, .ref (ex.length + 37))] [.int 0] (zr_Hf C ex sl f (zu s 10 (nI q)) a) _
      refine zm_J_run zm_T 1 (pc' := 98) (lv' := [(3, .int (nI L.length)), (2, .int (nI j)), (0, .ref 12), (1, .ref (ex.length + 37))]) (st' := []) (G' := (zr_Hf C ex sl f (zu s 10 (nI q)) a)) rfl ?_
      exact K
    | cons c r =>
      have hlt : q < t.length ∧ t.drop (q + 1) = r := by
        have hq : q < t.length := by
          rcases Nat.lt_or_ge q t.length with z | z
          · exact z
          · rw [List.drop_eq_nil_of_le z] at hw; cases hw
        rw [List.drop_eq_getElem_cons hq] at hw
        exact ⟨hq, (List.cons.inj hw).2⟩
      by_cases hc : 97 ≤ c ∧ c ≤ 102
      · refine zm_J_run zm_T 3 (pc' := if (4 : Int32) ≤ (nI L.length) then 98 else 35) (lv' := [(3, .int (nI L.length)), (2, .int (nI j)), (0, .ref 12), (1, .ref (ex.length + 37))]) (st' := []) (G' := (zr_Hf C ex sl f (zu s 10 (nI q)) a)) rfl ?_
        rw [if_neg (show ¬ ((4 : Int32) ≤ (nI L.length)) from nI_ge (show L.length < 4 by omega) (by decide))]
        refine zm_J_run zm_T 1 (pc' := 36) (lv' := [(3, .int (nI L.length)), (2, .int (nI j)), (0, .ref 12), (1, .ref (ex.length + 37))]) (st' := [.ref 12]) (G' := (zr_Hf C ex sl f (zu s 10 (nI q)) a)) rfl ?_
        refine zg_V (a := 12) (av := []) (rest := []) (v := some (.int c)) (G2 := (zr_Hf C ex sl f (zu s 10 (nI q)) a)) (zm_T.1 77 36 _ rfl).1 zc_77_36 rfl (Nat.le_of_ble_eq_true rfl) (Nat.le_of_ble_eq_true rfl) (zr_fc hr) (zr_fs hr) (zr_lk ht hw) ?_
        show zm_J N _ 77 39 [(3, .int (nI L.length)), (2, .int (nI j)), (0, .ref 12), (1, .ref (ex.length + 37))] [.int c] (zr_Hf C ex sl f (zu s 10 (nI q)) a) _
        refine zm_J_run zm_T 2 (pc' := 43) (lv' := [(3, .int (nI L.length)), (2, .int (nI j)), (0, .ref 12), (1, .ref (ex.length + 37))]) (st' := [.int 102, .int 97, .int c]) (G' := (zr_Hf C ex sl f (zu s 10 (nI q)) a)) rfl ?_
        refine zg_S (av := [.int c, .int 97, .int 102]) (rest := []) (v := some (.int (if 97 ≤ c ∧ c ≤ 102 then 1 else 0))) (G2 := (zr_Hf C ex sl f (zu s 10 (nI q)) a)) (zm_T.1 77 43 _ rfl).1 zc_77_43 (Nat.le_of_ble_eq_true rfl) (Nat.le_of_ble_eq_true rfl) (zr_fc hr) (zr_fs hr) (zr_btw c 97 102 _) ?_
        show zm_J N _ 77 46 [(3, .int (nI L.length)), (2, .int (nI j)), (0, .ref 12), (1, .ref (ex.length + 37))] [.int (if 97 ≤ c ∧ c ≤ 102 then 1 else 0)] (zr_Hf C ex sl f (zu s 10 (nI q)) a) _
        rw [if_pos hc]
        show zm_J N _ 77 46 [(3, .int (nI L.length)), (2, .int (nI j)), (0, .ref 12), (1, .ref (ex.length + 37))] [.int 1] (zr_Hf C ex sl f (zu s 10 (nI q)) a) _
        refine zm_J_run zm_T 3 (pc' := 51) (lv' := [(3, .int (nI L.length)), (2, .int (nI j)), (0, .ref 12), (1, .ref (ex.length + 37))]) (st' := [.ref 12, .int (nI j)]) (G' := (zr_Hf C ex sl f (zu s 10 (nI q)) a)) rfl ?_
        refine zg_V (a := 12) (av := []) (rest := [.int (nI j)]) (v := some (.int c)) (G2 := (zr_Hf C ex sl f (zu s 10 (nI q)) a)) (zm_T.1 77 51 _ rfl).1 zc_77_51 rfl (Nat.le_of_ble_eq_true rfl) (Nat.le_of_ble_eq_true rfl) (zr_fc hr) (zr_fs hr) (zr_lk ht hw) ?_
        show zm_J N _ 77 54 [(3, .int (nI L.length)), (2, .int (nI j)), (0, .ref 12), (1, .ref (ex.length + 37))] [.int c, .int (nI j)] (zr_Hf C ex sl f (zu s 10 (nI q)) a) _
        refine zm_J_run zm_T 6 (pc' := if (((nI j) >>> ((c - 97) &&& 31)) &&& 1) = 0 then 63 else 98) (lv' := [(3, .int (nI L.length)), (2, .int (nI j)), (0, .ref 12), (1, .ref (ex.length + 37))]) (st' := []) (G' := (zr_Hf C ex sl f (zu s 10 (nI q)) a)) rfl ?_
        by_cases hb : (((nI j) >>> ((c - 97) &&& 31)) &&& 1) = 0
        · rw [if_pos hb]
          have hcL : ¬ c ∈ L := (hm c hc).mp hb
          obtain ⟨j', hj1, hj2, hj3⟩ := zr_mk_add hj hc hm
          refine zm_J_run zm_T 3 (pc' := 66) (lv' := [(3, .int (nI L.length)), (2, .int (nI j)), (0, .ref 12), (1, .ref (ex.length + 37))]) (st' := [.ref 12, .int 1, .int (nI j)]) (G' := (zr_Hf C ex sl f (zu s 10 (nI q)) a)) rfl ?_
          refine zg_V (a := 12) (av := []) (rest := [.int 1, .int (nI j)]) (v := some (.int c)) (G2 := (zr_Hf C ex sl f (zu s 10 (nI q)) a)) (zm_T.1 77 66 _ rfl).1 zc_77_66 rfl (Nat.le_of_ble_eq_true rfl) (Nat.le_of_ble_eq_true rfl) (zr_fc hr) (zr_fs hr) (zr_lk ht hw) ?_
          show zm_J N _ 77 69 [(3, .int (nI L.length)), (2, .int (nI j)), (0, .ref 12), (1, .ref (ex.length + 37))] [.int c, .int 1, .int (nI j)] (zr_Hf C ex sl f (zu s 10 (nI q)) a) _
          refine zm_J_run zm_T 4 (pc' := 74) (lv' := [(3, .int (nI L.length)), (2, .int (nI j)), (0, .ref 12), (1, .ref (ex.length + 37))]) (st' := [.int ((nI j) ||| ((1 : Int32) <<< ((c - 97) &&& 31)))]) (G' := (zr_Hf C ex sl f (zu s 10 (nI q)) a)) rfl ?_
          rw [hj2]
          show zm_J N _ 77 74 [(3, .int (nI L.length)), (2, .int (nI j)), (0, .ref 12), (1, .ref (ex.length + 37))] [.int (nI j')] (zr_Hf C ex sl f (zu s 10 (nI q)) a) _
          refine zm_J_run zm_T 4 (pc' := 78) (lv' := [(2, .int (nI j')), (3, .int (nI L.length)), (0, .ref 12), (1, .ref (ex.length + 37))]) (st' := [.ref 12, .int (nI L.length), .ref (ex.length + 37)]) (G' := (zr_Hf C ex sl f (zu s 10 (nI q)) a)) rfl ?_
          refine zg_V (a := 12) (av := []) (rest := [.int (nI L.length), .ref (ex.length + 37)]) (v := some (.int c)) (G2 := (zr_Hf C ex sl f (zu s 10 (nI q)) a)) (zm_T.1 77 78 _ rfl).1 zc_77_78 rfl (Nat.le_of_ble_eq_true rfl) (Nat.le_of_ble_eq_true rfl) (zr_fc hr) (zr_fs hr) (zr_lk ht hw) ?_
          show zm_J N _ 77 81 [(2, .int (nI j')), (3, .int (nI L.length)), (0, .ref 12), (1, .ref (ex.length + 37))] [.int c, .int (nI L.length), .ref (ex.length + 37)] (zr_Hf C ex sl f (zu s 10 (nI q)) a) _
          refine zg_ast (i := .iastore) (t := 0) (n := 4) (f := f) (m := L.length) (v' := c) (G' := (zr_Hf C ex sl (upd f L.length c) (zu s 10 (nI q)) a)) rfl zr_f_at rfl rfl (Nat.le_add_left 2 _) rfl (by omega) (by decide) zr_f_set ?_
          refine zm_J_run zm_T 1 (pc' := 85) (lv' := [(3, .int ((nI L.length) + 1)), (2, .int (nI j')), (0, .ref 12), (1, .ref (ex.length + 37))]) (st' := []) (G' := (zr_Hf C ex sl (upd f L.length c) (zu s 10 (nI q)) a)) rfl ?_
          rw [show nI L.length + 1 = nI (L ++ [c]).length from by rw [List.length_append]; exact nI_1 _]
          show zm_J N _ 77 85 [(3, .int (nI (L ++ [c]).length)), (2, .int (nI j')), (0, .ref 12), (1, .ref (ex.length + 37))] [] (zr_Hf C ex sl (upd f L.length c) (zu s 10 (nI q)) a) _
          refine zm_J_run zm_T 6 (pc' := 95) (lv' := [(3, .int (nI (L ++ [c]).length)), (2, .int (nI j')), (0, .ref 12), (1, .ref (ex.length + 37))]) (st' := []) (G' := (zr_Hf C ex sl (upd f L.length c) (zu s 10 ((nI q) + 1)) a)) rfl ?_
          rw [show nI q + 1 = nI (q + 1) from nI_1 q]
          show zm_J N _ 77 95 [(3, .int (nI (L ++ [c]).length)), (2, .int (nI j')), (0, .ref 12), (1, .ref (ex.length + 37))] [] (zr_Hf C ex sl (upd f L.length c) (zu s 10 (nI (q + 1))) a) _
          refine zm_J_run zm_T 1 (pc' := 30) (lv' := [(3, .int (nI (L ++ [c]).length)), (2, .int (nI j')), (0, .ref 12), (1, .ref (ex.length + 37))]) (st' := []) (G' := (zr_Hf C ex sl (upd f L.length c) (zu s 10 (nI (q + 1))) a)) rfl ?_
          refine ih (L ++ [c]) r (q + 1) j' (upd f L.length c) (by rw [List.length_append, List.length_singleton]; omega) hlt.1 hlt.2 hj1 hj3 (fun i x hx => ?_) (fun L' w' q' j2 f' h1 h2 h3 h4 h5 h6 h7 => K L' w' q' j2 f' ?_ h2 h3 ?_ h5 h6 h7)
          · exact zi_appf hf i x hx
          · rw [← h1]; exact zv_hl_yes hc hcL
          · rw [List.length_append, List.length_singleton] at h4; omega
        · rw [if_neg hb]
          have hcL : c ∈ L := by by_cases z : c ∈ L; exact z; exact absurd ((hm c hc).mpr z) hb
          exact K L (c :: r) q j f (by show (if (97 ≤ c ∧ c ≤ 102) ∧ ¬ c ∈ L then zv_hl k (L ++ [c]) r else (L, c :: r)) = _; rw [if_neg (fun z => z.2 hcL)]) hq hw rfl hj hm hf
      · refine zm_J_run zm_T 3 (pc' := if (4 : Int32) ≤ (nI L.length) then 98 else 35) (lv' := [(3, .int (nI L.length)), (2, .int (nI j)), (0, .ref 12), (1, .ref (ex.length + 37))]) (st' := []) (G' := (zr_Hf C ex sl f (zu s 10 (nI q)) a)) rfl ?_
        rw [if_neg (show ¬ ((4 : Int32) ≤ (nI L.length)) from nI_ge (show L.length < 4 by omega) (by decide))]
        refine zm_J_run zm_T 1 (pc' := 36) (lv' := [(3, .int (nI L.length)), (2, .int (nI j)), (0, .ref 12), (1, .ref (ex.length + 37))]) (st' := [.ref 12]) (G' := (zr_Hf C ex sl f (zu s 10 (nI q)) a)) rfl ?_
        refine zg_V (a := 12) (av := []) (rest := []) (v := some (.int c)) (G2 := (zr_Hf C ex sl f (zu s 10 (nI q)) a)) (zm_T.1 77 36 _ rfl).1 zc_77_36 rfl (Nat.le_of_ble_eq_true rfl) (Nat.le_of_ble_eq_true rfl) (zr_fc hr) (zr_fs hr) (zr_lk ht hw) ?_
        show zm_J N _ 77 39 [(3, .int (nI L.length)), (2, .int (nI j)), (0, .ref 12), (1, .ref (ex.length + 37))] [.int c] (zr_Hf C ex sl f (zu s 10 (nI q)) a) _
        refine zm_J_run zm_T 2 (pc' := 43) (lv' := [(3, .int (nI L.length)), (2, .int (nI j)), (0, .ref 12), (1, .ref (ex.length + 37))]) (st' := [.int 102, .int 97, .int c]) (G' := (zr_Hf C ex sl f (zu s 10 (nI q)) a)) rfl ?_
        refine zg_S (av := [.int c, .int 97, .int 102]) (rest := []) (v := some (.int (if 97 ≤ c ∧ c ≤ 102 then 1 else 0))) (G2 := (zr_Hf C ex sl f (zu s 10 (nI q)) a)) (zm_T.1 77 43 _ rfl).1 zc_77_43 (Nat.le_of_ble_eq_true rfl) (Nat.le_of_ble_eq_true rfl) (zr_fc hr) (zr_fs hr) (zr_btw c 97 102 _) ?_
        show zm_J N _ 77 46 [(3, .int (nI L.length)), (2, .int (nI j)), (0, .ref 12), (1, .ref (ex.length + 37))] [.int (if 97 ≤ c ∧ c ≤ 102 then 1 else 0)] (zr_Hf C ex sl f (zu s 10 (nI q)) a) _
        rw [if_neg hc]
        show zm_J N _ 77 46 [(3, .int (nI L.length)), (2, .int (nI j)), (0, .ref 12), (1, .ref (ex.length + 37))] [.int 0] (zr_Hf C ex sl f (zu s 10 (nI q)) a) _
        refine zm_J_run zm_T 1 (pc' := 98) (lv' := [(3, .int (nI L.length)), (2, .int (nI j)), (0, .ref 12), (1, .ref (ex.length + 37))]) (st' := []) (G' := (zr_Hf C ex sl f (zu s 10 (nI q)) a)) rfl ?_
        exact K L (c :: r) q j f (by show (if (97 ≤ c ∧ c ≤ 102) ∧ ¬ c ∈ L then zv_hl k (L ++ [c]) r else (L, c :: r)) = _; rw [if_neg (fun z => hc z.1)]) hq hw rfl hj hm hf
/-- heading(found): the text from its beginning -/
theorem zr_heading (hr : zr_rf ex sl) (hd : 2 ≤ d) (ht : zr_tt s a t) {f : Nat → Int32}
    (kf : ∀ q f', zv_df t = none → Q (.inl (some (.int (-1)))) (zr_Hf C ex sl f' (zu s 10 (nI q)) a))
    (ks : ∀ c r b j f', t = c :: r → 65 ≤ c ∧ c ≤ 70 → (zv_hl 4 [] r).2 = 61 :: b → j < 64 → zr_mk (zv_hl 4 [] r).1 (nI j) → (∀ i x, (zv_hl 4 [] r).1[i]? = some x → f' i = x) → t.drop ((zv_hl 4 [] r).1.length + 2) = b → (zv_hl 4 [] r).1.length + 2 ≤ t.length → Q (.inl (some (.int (nI j)))) (zr_Hf C ex sl f' (zu s 10 (nI ((zv_hl 4 [] r).1.length + 2))) a)) :
    zm_J N d 77 0 [(0, .ref 12), (1, .ref (ex.length + 37))] [] (zr_Hf C ex sl f (zu s 10 (nI 0)) a) Q := by
  obtain ⟨d, rfl⟩ : ∃ e, d = e + 2 := ⟨d - 2, by omega⟩
  cases t with
  | nil =>
    refine zm_J_run zm_T 5 (pc' := 5) (lv' := [(3, .int 0), (2, .int 0), (0, .ref 12), (1, .ref (ex.length + 37))]) (st' := [.ref 12]) (G' := (zr_Hf C ex sl f (zu s 10 (nI 0)) a)) rfl ?_
    refine zg_V (a := 12) (av := []) (rest := []) (v := some (.int 0)) (G2 := (zr_Hf C ex sl f (zu s 10 (nI 0)) a)) (zm_T.1 77 5 _ rfl).1 zc_77_5 rfl (Nat.le_of_ble_eq_true rfl) (Nat.le_of_ble_eq_true rfl) (zr_fc hr) (zr_fs hr) (zr_lk0 ht (Nat.le_refl _) (by decide)) ?_
    show zm_J N _ 77 8 [(3, .int 0), (2, .int 0), (0, .ref 12), (1, .ref (ex.length + 37))] [.int 0] (zr_Hf C ex sl f (zu s 10 (nI 0)) a) _
    refine zm_J_run zm_T 2 (pc' := 12) (lv' := [(3, .int 0), (2, .int 0), (0, .ref 12), (1, .ref (ex.length + 37))]) (st' := [.int 70, .int 65, .int 0]) (G' := (zr_Hf C ex sl f (zu s 10 (nI 0)) a)) rfl ?_
    refine zg_S (av := [.int 0, .int 65, .int 70]) (rest := []) (v := some (.int (if (65 : Int32) ≤ 0 ∧ (0 : Int32) ≤ 70 then 1 else 0))) (G2 := (zr_Hf C ex sl f (zu s 10 (nI 0)) a)) (zm_T.1 77 12 _ rfl).1 zc_77_12 (Nat.le_of_ble_eq_true rfl) (Nat.le_of_ble_eq_true rfl) (zr_fc hr) (zr_fs hr) (zr_btw 0 65 70 _) ?_
    show zm_J N _ 77 15 [(3, .int 0), (2, .int 0), (0, .ref 12), (1, .ref (ex.length + 37))] [.int (if (65 : Int32) ≤ 0 ∧ (0 : Int32) ≤ 70 then 1 else 0)] (zr_Hf C ex sl f (zu s 10 (nI 0)) a) _
    rw [if_neg (show ¬ ((65 : Int32) ≤ 0 ∧ (0 : Int32) ≤ 70) by decide)]
    show zm_J N _ 77 15 [(3, .int 0), (2, .int 0), (0, .ref 12), (1, .ref (ex.length + 37))] [.int 0] (zr_Hf C ex sl f (zu s 10 (nI 0)) a) _
    refine zm_J_run zm_T 2 (pc' := 19) (lv' := [(3, .int 0), (2, .int 0), (0, .ref 12), (1, .ref (ex.length + 37))]) (st' := [.int (-1)]) (G' := (zr_Hf C ex sl f (zu s 10 (nI 0)) a)) rfl ?_
    exact zm_J_fin zm_T rfl rfl (kf 0 f rfl)
  | cons c r =>
    have hw : (c :: r).drop 0 = c :: r := rfl
    by_cases hc : 65 ≤ c ∧ c ≤ 70
    · refine zm_J_run zm_T 5 (pc' := 5) (lv' := [(3, .int 0), (2, .int 0), (0, .ref 12), (1, .ref (ex.length + 37))]) (st' := [.ref 12]) (G' := (zr_Hf C ex sl f (zu s 10 (nI 0)) a)) rfl ?_
      refine zg_V (a := 12) (av := []) (rest := []) (v := some (.int c)) (G2 := (zr_Hf C ex sl f (zu s 10 (nI 0)) a)) (zm_T.1 77 5 _ rfl).1 zc_77_5 rfl (Nat.le_of_ble_eq_true rfl) (Nat.le_of_ble_eq_true rfl) (zr_fc hr) (zr_fs hr) (zr_lk ht hw) ?_
      show zm_J N _ 77 8 [(3, .int 0), (2, .int 0), (0, .ref 12), (1, .ref (ex.length + 37))] [.int c] (zr_Hf C ex sl f (zu s 10 (nI 0)) a) _
      refine zm_J_run zm_T 2 (pc' := 12) (lv' := [(3, .int 0), (2, .int 0), (0, .ref 12), (1, .ref (ex.length + 37))]) (st' := [.int 70, .int 65, .int c]) (G' := (zr_Hf C ex sl f (zu s 10 (nI 0)) a)) rfl ?_
      refine zg_S (av := [.int c, .int 65, .int 70]) (rest := []) (v := some (.int (if 65 ≤ c ∧ c ≤ 70 then 1 else 0))) (G2 := (zr_Hf C ex sl f (zu s 10 (nI 0)) a)) (zm_T.1 77 12 _ rfl).1 zc_77_12 (Nat.le_of_ble_eq_true rfl) (Nat.le_of_ble_eq_true rfl) (zr_fc hr) (zr_fs hr) (zr_btw c 65 70 _) ?_
      show zm_J N _ 77 15 [(3, .int 0), (2, .int 0), (0, .ref 12), (1, .ref (ex.length + 37))] [.int (if 65 ≤ c ∧ c ≤ 70 then 1 else 0)] (zr_Hf C ex sl f (zu s 10 (nI 0)) a) _
      rw [if_pos hc]
      show zm_J N _ 77 15 [(3, .int 0), (2, .int 0), (0, .ref 12), (1, .ref (ex.length + 37))] [.int 1] (zr_Hf C ex sl f (zu s 10 (nI 0)) a) _
      refine zm_J_run zm_T 7 (pc' := 30) (lv' := [(3, .int 0), (2, .int 0), (0, .ref 12), (1, .ref (ex.length + 37))]) (st' := []) (G' := (zr_Hf C ex sl f (zu s 10 ((nI 0) + 1)) a)) rfl ?_
      rw [show nI 0 + 1 = nI 1 from rfl]
      show zm_J N _ 77 30 [(3, .int 0), (2, .int 0), (0, .ref 12), (1, .ref (ex.length + 37))] [] (zr_Hf C ex sl f (zu s 10 (nI 1)) a) _
      refine zm_J_lv (lv' := [(3, .int 0), (2, .int 0), (0, .ref 12), (1, .ref (ex.length + 37))]) (by simp) ?_
      refine zr_hd_l hr (by omega) ht 4 [] r 1 0 f rfl (by rw [List.length_cons]; omega) rfl (by decide) zr_mk0 (fun i x hx => by cases hx) (fun L w q j f' h1 h2 h3 h4 h5 h6 h7 => ?_)
      rw [List.length_nil, Nat.add_zero] at h4
      have hL : (zv_hl 4 [] r).1 = L := by rw [h1]
      have hW : (zv_hl 4 [] r).2 = w := by rw [h1]
      have ks := fun (b : List Int32) (j : Nat) (f' : Nat → Int32) => ks c r b j f' rfl hc
      rw [hL, hW] at ks
      have hdf0 : ¬ (∃ b : List Int32, w = 61 :: b) → zv_df (c :: r) = none := fun hn => by
        show (if 65 ≤ c ∧ c ≤ 70 then match (zv_hl 4 [] r).2 with | [] => none | q :: b => if q = 61 ∧ zv_rd (zv_hl 4 [] r).1 11 b = some [] then some (c - 65, (zv_hl 4 [] r).1, b) else none else none) = none
        rw [if_pos hc, hW]
        cases w with
        | nil => rfl
        | cons x b => exact if_neg (fun z => hn ⟨b, by rw [z.1]⟩)
      cases w with
      | nil =>
        have hql : (c :: r).length ≤ q := by
          have := congrArg List.length h3
          rw [List.length_drop, List.length_nil] at this
          omega
        refine zm_J_run zm_T 1 (pc' := 99) (lv' := [(3, .int (nI L.length)), (2, .int (nI j)), (0, .ref 12), (1, .ref (ex.length + 37))]) (st' := [.ref 12]) (G' := (zr_Hf C ex sl f' (zu s 10 (nI q)) a)) rfl ?_
        refine zg_V (a := 12) (av := []) (rest := []) (v := some (.int 0)) (G2 := (zr_Hf C ex sl f' (zu s 10 (nI q)) a)) (zm_T.1 77 99 _ rfl).1 zc_77_99 rfl (Nat.le_of_ble_eq_true rfl) (Nat.le_of_ble_eq_true rfl) (zr_fc hr) (zr_fs hr) (zr_lk0 ht hql (by have := ht.2.1; omega)) ?_
        show zm_J N _ 77 102 [(3, .int (nI L.length)), (2, .int (nI j)), (0, .ref 12), (1, .ref (ex.length + 37))] [.int 0] (zr_Hf C ex sl f' (zu s 10 (nI q)) a) _
        refine zm_J_run zm_T 3 (pc' := 108) (lv' := [(3, .int (nI L.length)), (2, .int (nI j)), (0, .ref 12), (1, .ref (ex.length + 37))]) (st' := [.int (-1)]) (G' := (zr_Hf C ex sl f' (zu s 10 (nI q)) a)) rfl ?_
        exact zm_J_fin zm_T rfl rfl (kf q f' (hdf0 (fun z => by obtain ⟨b, hb⟩ := z; cases hb)))
      | cons x b =>
        by_cases hx : x = 61
        · subst hx
          refine zm_J_run zm_T 1 (pc' := 99) (lv' := [(3, .int (nI L.length)), (2, .int (nI j)), (0, .ref 12), (1, .ref (ex.length + 37))]) (st' := [.ref 12]) (G' := (zr_Hf C ex sl f' (zu s 10 (nI q)) a)) rfl ?_
          refine zg_V (a := 12) (av := []) (rest := []) (v := some (.int 61)) (G2 := (zr_Hf C ex sl f' (zu s 10 (nI q)) a)) (zm_T.1 77 99 _ rfl).1 zc_77_99 rfl (Nat.le_of_ble_eq_true rfl) (Nat.le_of_ble_eq_true rfl) (zr_fc hr) (zr_fs hr) (zr_lk ht h3) ?_
          show zm_J N _ 77 102 [(3, .int (nI L.length)), (2, .int (nI j)), (0, .ref 12), (1, .ref (ex.length + 37))] [.int 61] (zr_Hf C ex sl f' (zu s 10 (nI q)) a) _
          refine zm_J_run zm_T 8 (pc' := 119) (lv' := [(3, .int (nI L.length)), (2, .int (nI j)), (0, .ref 12), (1, .ref (ex.length + 37))]) (st' := []) (G' := (zr_Hf C ex sl f' (zu s 10 ((nI q) + 1)) a)) rfl ?_
          rw [show nI q + 1 = nI (L.length + 2) from by rw [h4]; exact (nI_1 _).trans (congrArg nI (by omega))]
          show zm_J N _ 77 119 [(3, .int (nI L.length)), (2, .int (nI j)), (0, .ref 12), (1, .ref (ex.length + 37))] [] (zr_Hf C ex sl f' (zu s 10 (nI (L.length + 2))) a) _
          have hql : q < (c :: r).length := by rcases Nat.lt_or_ge q (c :: r).length with z | z; exact z; rw [List.drop_eq_nil_of_le z] at h3; cases h3
          have hdr : (c :: r).drop (L.length + 2) = b := by rw [List.drop_eq_getElem_cons hql] at h3; rw [show L.length + 2 = q + 1 by omega]; exact (List.cons.inj h3).2
          refine zm_J_run zm_T 1 (pc' := 120) (lv' := [(3, .int (nI L.length)), (2, .int (nI j)), (0, .ref 12), (1, .ref (ex.length + 37))]) (st' := [.int (nI j)]) (G' := (zr_Hf C ex sl f' (zu s 10 (nI (L.length + 2))) a)) rfl ?_
          exact zm_J_fin zm_T rfl rfl (ks b j f' rfl h5 h6 h7 hdr (by omega))
        · refine zm_J_run zm_T 1 (pc' := 99) (lv' := [(3, .int (nI L.length)), (2, .int (nI j)), (0, .ref 12), (1, .ref (ex.length + 37))]) (st' := [.ref 12]) (G' := (zr_Hf C ex sl f' (zu s 10 (nI q)) a)) rfl ?_
          refine zg_V (a := 12) (av := []) (rest := []) (v := some (.int x)) (G2 := (zr_Hf C ex sl f' (zu s 10 (nI q)) a)) (zm_T.1 77 99 _ rfl).1 zc_77_99 rfl (Nat.le_of_ble_eq_true rfl) (Nat.le_of_ble_eq_true rfl) (zr_fc hr) (zr_fs hr) (zr_lk ht h3) ?_
          show zm_J N _ 77 102 [(3, .int (nI L.length)), (2, .int (nI j)), (0, .ref 12), (1, .ref (ex.length + 37))] [.int x] (zr_Hf C ex sl f' (zu s 10 (nI q)) a) _
          refine zm_J_run zm_T 2 (pc' := if x = 61 then 109 else 107) (lv' := [(3, .int (nI L.length)), (2, .int (nI j)), (0, .ref 12), (1, .ref (ex.length + 37))]) (st' := []) (G' := (zr_Hf C ex sl f' (zu s 10 (nI q)) a)) rfl ?_
          rw [if_neg (show ¬ (x = 61) from hx)]
          refine zm_J_run zm_T 1 (pc' := 108) (lv' := [(3, .int (nI L.length)), (2, .int (nI j)), (0, .ref 12), (1, .ref (ex.length + 37))]) (st' := [.int (-1)]) (G' := (zr_Hf C ex sl f' (zu s 10 (nI q)) a)) rfl ?_
          exact zm_J_fin zm_T rfl rfl (kf q f' (hdf0 (fun z => by obtain ⟨b', hb⟩ := z; exact hx (List.cons.inj hb).1)))
    · refine zm_J_run zm_T 5 (pc' := 5) (lv' := [(3, .int 0), (2, .int 0), (0, .ref 12), (1, .ref (ex.length + 37))]) (st' := [.ref 12]) (G' := (zr_Hf C ex sl f (zu s 10 (nI 0)) a)) rfl ?_
      refine zg_V (a := 12) (av := []) (rest := []) (v := some (.int c)) (G2 := (zr_Hf C ex sl f (zu s 10 (nI 0)) a)) (zm_T.1 77 5 _ rfl).1 zc_77_5 rfl (Nat.le_of_ble_eq_true rfl) (Nat.le_of_ble_eq_true rfl) (zr_fc hr) (zr_fs hr) (zr_lk ht hw) ?_
      show zm_J N _ 77 8 [(3, .int 0), (2, .int 0), (0, .ref 12), (1, .ref (ex.length + 37))] [.int c] (zr_Hf C ex sl f (zu s 10 (nI 0)) a) _
      refine zm_J_run zm_T 2 (pc' := 12) (lv' := [(3, .int 0), (2, .int 0), (0, .ref 12), (1, .ref (ex.length + 37))]) (st' := [.int 70, .int 65, .int c]) (G' := (zr_Hf C ex sl f (zu s 10 (nI 0)) a)) rfl ?_
      refine zg_S (av := [.int c, .int 65, .int 70]) (rest := []) (v := some (.int (if 65 ≤ c ∧ c ≤ 70 then 1 else 0))) (G2 := (zr_Hf C ex sl f (zu s 10 (nI 0)) a)) (zm_T.1 77 12 _ rfl).1 zc_77_12 (Nat.le_of_ble_eq_true rfl) (Nat.le_of_ble_eq_true rfl) (zr_fc hr) (zr_fs hr) (zr_btw c 65 70 _) ?_
      show zm_J N _ 77 15 [(3, .int 0), (2, .int 0), (0, .ref 12), (1, .ref (ex.length + 37))] [.int (if 65 ≤ c ∧ c ≤ 70 then 1 else 0)] (zr_Hf C ex sl f (zu s 10 (nI 0)) a) _
      rw [if_neg hc]
      show zm_J N _ 77 15 [(3, .int 0), (2, .int 0), (0, .ref 12), (1, .ref (ex.length + 37))] [.int 0] (zr_Hf C ex sl f (zu s 10 (nI 0)) a) _
      refine zm_J_run zm_T 2 (pc' := 19) (lv' := [(3, .int 0), (2, .int 0), (0, .ref 12), (1, .ref (ex.length + 37))]) (st' := [.int (-1)]) (G' := (zr_Hf C ex sl f (zu s 10 (nI 0)) a)) rfl ?_
      exact zm_J_fin zm_T rfl rfl (kf 0 f (if_neg hc))
end ZRD

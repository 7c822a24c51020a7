/-! THE CLASS READS A TEXT -/
/-- all but the text's scalars stay -/
def zk_fq (s s' : Nat → Int32) : Prop := ∀ k, k < 5 ∨ 10 < k → s' k = s k
theorem zk_fq.trans {a b c : Nat → Int32} (h : zk_fq a b) (k : zk_fq b c) : zk_fq a c := fun i hi => (k i hi).trans (h i hi)
theorem zk_fs.fq {s s' : Nat → Int32} (h : zk_fs s s') : zk_fq s s' := fun k hk => h k (by omega) (by omega) (by omega)
theorem zk_I_fq {B S : Nat} {ex : List zm_E} {sl : Nat} {s s' : Nat → Int32} {el : Nat → Nat} {va ca ka : List Nat} {q : Nat × Nat × Nat} (h : zk_fq s s') (k : zk_I B S ex sl s el va ca ka q) : zk_I B S ex sl s' el va ca ka q := zk_I_s (h 14 (by decide)) (h 16 (by decide)) (h 18 (by decide)) k
/-- a refused text, with its letters -/
def zk_RY (B S : Nat) (R : Nat → zm_E) (r : Value) (el : Nat → Nat) (f : Nat → Int32) (df : Nat → Option Nat) (va ca ka : List Nat) (q : Nat × Nat × Nat) (ex : List zm_E) (s : Nat → Int32) (z : zm_O) (G : zm_H) : Prop := ∃ (ex' : List zm_E) (sl' : Nat) (s' g' : Nat → Int32) (x : Nat), z = .inr (0, x) ∧ G = zk_H R ex' sl' s' r el f g' df ∧ zk_I B S ex' sl' s' el va ca ka q ∧ zk_xt ex ex' ∧ zk_fq s s' ∧ s' 5 = 0
theorem zk_RX.ry {B S B' S' : Nat} {R : Nat → zm_E} {r : Value} {el : Nat → Nat} {f g : Nat → Int32} {df : Nat → Option Nat} {va ca ka : List Nat} {q : Nat × Nat × Nat} {ex ex1 : List zm_E} {s s1 : Nat → Int32} {z : zm_O} {G : zm_H} (k : zk_RX B S R r el f g df va ca ka q ex1 s1 z G) (hx : zk_xt ex ex1) (hs : zk_fq s s1) (h5 : s1 5 = 0) (hB : B ≤ B') (hS : S ≤ S') : zk_RY B' S' R r el f df va ca ka q ex s z G := by
  obtain ⟨e2, l2, s2, x, k1, k2, k3, k4, k5⟩ := k
  exact ⟨e2, l2, s2, g, x, k1, k2, zk_I_le hB hS k3, hx.trans k4, hs.trans k5.fq, (k5 5 (by decide) (by decide) (by decide)).trans h5⟩
theorem zk_k_ry {N : zm_N} {d : Nat} {Q : zm_O → zm_H → Prop} {B S : Nat} {R : Nat → zm_E} {r : Value} {el : Nat → Nat} {f : Nat → Int32} {df : Nat → Option Nat} {va ca ka : List Nat} {q : Nat × Nat × Nat} {ex : List zm_E} {s : Nat → Int32} {mi pc : Nat} {lv : zm_L} {rest : List Value} {z : zm_O} {G : zm_H} (k : zk_RY B S R r el f df va ca ka q ex s z G) (h : Q z G) : zk_k N d mi pc lv rest Q z G := by
  obtain ⟨e2, l2, s2, g2, x, k1, k2⟩ := k
  subst k1
  exact h
theorem zk_X_up7 {ex ex' : List zm_E} {L : List Int32} (h : ∀ (i : Nat) (fs : List Value), ex[i]? = some (Sum.inr (7, fs) : zm_E) → ex'[i]? = some (Sum.inr (7, fs) : zm_E)) : ∀ (n : Nat) (w : List Int32) (a : Nat), zk_X ex L n w a → zk_X ex' L n w a := by
  intro n
  induction n with
  | zero => exact fun _ _ k => k
  | succ n ih =>
    rintro w a ⟨c, r, sg, ix, p1, p2, p3, h1, h2, h3, h4, h5, h6⟩
    refine ⟨c, r, sg, ix, p1, p2, p3, h1, h a _ h2, h3, fun z => ?_, fun z => ?_, fun z => ?_⟩
    · obtain ⟨y, e1, e2⟩ := h4 z; exact ⟨y, e1, ih _ _ e2⟩
    · obtain ⟨y, e1, e2⟩ := h5 z; exact ⟨y, e1, ih _ _ e2⟩
    · obtain ⟨y, e1, e2⟩ := h6 z; exact ⟨y, e1, ih _ _ e2⟩
theorem zk_chr {c : Int32} (h1 : 33 ≤ c) (h2 : c ≤ 126) : 0 ≤ c ∧ c ≤ 65535 := by
  rw [Int32.le_iff_toInt_le] at h1 h2 ⊢
  rw [Int32.le_iff_toInt_le]
  have e1 : (33 : Int32).toInt = 33 := by decide
  have e2 : (126 : Int32).toInt = 126 := by decide
  have e3 : (0 : Int32).toInt = 0 := by decide
  have e4 : (65535 : Int32).toInt = 65535 := by decide
  omega
theorem zk_upd_ap {L : List Int32} {g : Nat → Int32} {c : Int32} (hg : ∀ i x, L[i]? = some x → g i = x) {i : Nat} {x : Int32} (h : (L ++ [c])[i]? = some x) : upd g L.length c i = x := by
  by_cases hi : i < L.length
  · rw [List.getElem?_append_left hi] at h
    rw [zi_updn g _ (by omega)]
    exact hg i x h
  · have hb := (List.getElem?_eq_some_iff.mp h).1
    rw [List.length_append, List.length_singleton] at hb
    have e : i = L.length := by omega
    subst e
    rw [List.getElem?_append_right (Nat.le_refl _), Nat.sub_self] at h
    cases Option.some.inj h
    exact zi_upd g _ c
def zk_tt (t : List Int32) (f : Nat → Int32) : Prop := t.length ≤ 40 ∧ ∀ i x, t[i]? = some x → f i = x ∧ 33 ≤ x ∧ x ≤ 126
section ZKX
variable {R : Nat → zm_E} {ex : List zm_E} {sl : Nat} {s : Nat → Int32} {r : Value} {el : Nat → Nat} {f g : Nat → Int32} {df : Nat → Option Nat} {N : zm_N} {d : Nat} {Q : zm_O → zm_H → Prop} {B S : Nat} {va ca ka : List Nat} {q : Nat × Nat × Nat} {t L : List Int32}
theorem zk_beg : zm_J N d 18 0 [(0, .ref 3)] [] (zk_H R ex sl s r el f g df) (fun z G' => z = .inl none ∧ G' = (zk_H R ex sl (zu (zu (zu (zu s 8 (s 5)) 5 0) 9 0) 7 0) r el f g df)) := by
  refine zm_J_run zm_T 12 (pc' := 20) (lv' := [(0, .ref 3)]) (st' := [.int 0, .ref 3]) (G' := (zk_H R ex sl (zu (zu (zu s 8 (s 5)) 5 0) 9 0) r el f g df)) rfl ?_
  refine zm_J_run zm_T 1 (pc' := 23) (lv' := [(0, .ref 3)]) (st' := []) (G' := (zk_H R ex sl (zu (zu (zu (zu s 8 (s 5)) 5 0) 9 0) 7 0) r el f g df)) rfl ?_
  exact zm_J_fin zm_T rfl rfl ⟨rfl, rfl⟩
theorem zk_rte (hst : zk_st t L f g) (hwl : zv_wL L) (hd : 21 ≤ d) {w : List Int32} {p : Nat} (hI : zk_I B S ex sl s el va ca ka q) (hBS : zk_BS (B + w.length + 1) (S + 5 * w.length + 6)) (hrs : zk_rs t L s w p)
    (K1 : zv_rd L 11 w = some [] → ∀ ex' sl' s' xa, zk_I (B + w.length) (S + 5 * w.length) ex' sl' s' el va ca ka q → zk_xt ex ex' → zk_fs s s' → zk_X ex' L 12 w xa → Q (.inl (some (.ref (xa + 37)))) (zk_H R ex' sl' s' r el f g df))
    (K0 : ¬ zv_rd L 11 w = some [] → ∀ z G, zk_RX (B + w.length + 1) (S + 5 * w.length + 6) R r el f g df va ca ka q ex s z G → Q z G) : zm_J N d 24 0 [(0, .ref 3)] [] (zk_H R ex sl s r el f g df) Q := by
  obtain ⟨d, rfl⟩ : ∃ e, d = e + 11 + 1 := ⟨d - 12, by omega⟩
  have hB : zk_BS B S := hBS.le (by omega) (by omega)
  have hr := zk_I_r hB hI
  have hfs : zk_fs s (zu s 10 1) := fun k _ _ h => zk_une h
  refine zm_J_run zm_T 5 (pc' := 7) (lv' := [(0, .ref 3)]) (st' := [.int 1, .ref 3]) (G' := (zk_H R ex sl (zu s 10 1) r el f g df)) rfl ?_
  refine zg_VT (a := 3) (av := [.int 1]) (rest := []) (zm_T.1 24 7 _ rfl).1 zc_24_7 rfl (zm_out0 rfl) (Nat.le_of_ble_eq_true rfl) (Nat.le_of_ble_eq_true rfl) (zk_c hr) (zk_s hr) (zk_rd (g := g) (f := f) (t := t) (L := L) hst hwl (by omega) 11 (Nat.le_refl _) w p 0 B S ex sl (zu s 10 1) _ (by omega) (zk_I_fs hfs hI) hBS ⟨hrs.1, hrs.2.1, hrs.2.2.1, hrs.2.2.2.1, hrs.2.2.2.2⟩ rfl (fun w' p' ex' sl' s' xa e1 i1 x1 f1 rs1 t1 Z1 => ?_) (fun hno z G k => zk_k_rx k (K0 (fun h => absurd (hno [] h) (Nat.not_lt_zero _)) z G (zk_RX_tr (zk_xt.refl _) hfs (Nat.le_refl _) (Nat.le_refl _) k))))
  have hB1 : zk_BS (B + (w.length - w'.length)) (S + 5 * (w.length - w'.length)) := hBS.le (by omega) (by omega)
  have hr1 := zk_I_r hB1 i1
  obtain ⟨g1, g2, g3, g4, g5⟩ := rs1
  have hl1 := zv_rd_len e1
  have ht := hst.1
  show zm_J N _ 24 10 [(0, .ref 3)] [.ref (xa + 37)] (zk_H R ex' sl' s' r el f g df) _
  cases w' with
  | nil =>
    refine zm_J_run zm_T 6 (pc' := 20) (lv' := [(1, .ref (xa + 37)), (0, .ref 3)]) (st' := [.int (s' 8), .int (s' 9), .ref 3]) (G' := (zk_H R ex' sl' s' r el f g df)) rfl ?_
    rw [show (.int (s' 9) : Value) = .int (nI p') from congrArg Value.int g4, show (.int (s' 8) : Value) = .int (nI t.length) from congrArg Value.int g3]
    show zm_J N _ 24 20 [(1, .ref (xa + 37)), (0, .ref 3)] [.int (nI t.length), .int (nI p'), .ref 3] (zk_H R ex' sl' s' r el f g df) _
    refine zm_J_run zm_T 1 (pc' := if (nI p') = (nI t.length) then 23 else 27) (lv' := [(1, .ref (xa + 37)), (0, .ref 3)]) (st' := [.ref 3]) (G' := (zk_H R ex' sl' s' r el f g df)) rfl ?_
    rw [if_pos (show (nI p') = (nI t.length) from by rw [List.length_nil] at g2; rw [← g2]; rfl)]
    refine zm_J_run zm_T 2 (pc' := 28) (lv' := [(1, .ref (xa + 37)), (0, .ref 3)]) (st' := [.int 1, .ref 3]) (G' := (zk_H R ex' sl' s' r el f g df)) rfl ?_
    refine zg_V (a := 3) (av := [.int 1]) (rest := []) (v := none) (G2 := (zk_H R ex' sl' s' r el f g df)) (zm_T.1 24 28 _ rfl).1 zc_24_28 rfl (Nat.le_of_ble_eq_true rfl) (Nat.le_of_ble_eq_true rfl) (zk_c hr1) (zk_s hr1) (zk_ref1) ?_
    show zm_J N _ 24 31 [(1, .ref (xa + 37)), (0, .ref 3)] [] (zk_H R ex' sl' s' r el f g df) _
    refine zm_J_run zm_T 1 (pc' := 32) (lv' := [(1, .ref (xa + 37)), (0, .ref 3)]) (st' := [.ref (xa + 37)]) (G' := (zk_H R ex' sl' s' r el f g df)) rfl ?_
    exact zm_J_fin zm_T rfl rfl (K1 e1 ex' sl' s' xa i1 x1 (hfs.trans f1) Z1)
  | cons c r0 =>
    rw [List.length_cons] at g2
    refine zm_J_run zm_T 6 (pc' := 20) (lv' := [(1, .ref (xa + 37)), (0, .ref 3)]) (st' := [.int (s' 8), .int (s' 9), .ref 3]) (G' := (zk_H R ex' sl' s' r el f g df)) rfl ?_
    rw [show (.int (s' 9) : Value) = .int (nI p') from congrArg Value.int g4, show (.int (s' 8) : Value) = .int (nI t.length) from congrArg Value.int g3]
    show zm_J N _ 24 20 [(1, .ref (xa + 37)), (0, .ref 3)] [.int (nI t.length), .int (nI p'), .ref 3] (zk_H R ex' sl' s' r el f g df) _
    refine zm_J_run zm_T 1 (pc' := if (nI p') = (nI t.length) then 23 else 27) (lv' := [(1, .ref (xa + 37)), (0, .ref 3)]) (st' := [.ref 3]) (G' := (zk_H R ex' sl' s' r el f g df)) rfl ?_
    rw [if_neg (show ¬ ((nI p') = (nI t.length)) from fun z => by have := (nI_eq (by omega) (by omega)).mp z; omega)]
    refine zm_J_run zm_T 1 (pc' := 28) (lv' := [(1, .ref (xa + 37)), (0, .ref 3)]) (st' := [.int 0, .ref 3]) (G' := (zk_H R ex' sl' s' r el f g df)) rfl ?_
    refine zg_VT (a := 3) (av := [.int 0]) (rest := []) (zm_T.1 24 28 _ rfl).1 zc_24_28 rfl (zm_out0 rfl) (Nat.le_of_ble_eq_true rfl) (Nat.le_of_ble_eq_true rfl) (zk_c hr1) (zk_s hr1) (zk_ref0 hB1 i1 (by omega) (fun z G k => zk_k_rx k (K0 (fun h => by rw [e1] at h; cases h) z G (zk_RX_tr x1 (hfs.trans f1) (by omega) (by omega) k))))
theorem zk_rda (htt : zk_tt t f) (h5 : s 5 = nI t.length) (hd : 22 ≤ d) (hI : zk_I B S ex sl s el va ca ka q) (hBS : zk_BS (B + 41) (S + 206))
    (K1 : zv_rd [] 11 t = some [] → ∀ ex' sl' s' xa, zk_I (B + 41) (S + 206) ex' sl' s' el va ca ka q → zk_xt ex ex' → zk_fq s s' → s' 5 = 0 → zk_X ex' [] 12 t xa → Q (.inl (some (.ref (xa + 37)))) (zk_H R ex' sl' s' r el f g df))
    (K0 : ¬ zv_rd [] 11 t = some [] → ∀ z G, zk_RY (B + 41) (S + 206) R r el f df va ca ka q ex s z G → Q z G) : zm_J N d 35 0 [(0, .ref 3)] [] (zk_H R ex sl s r el f g df) Q := by
  obtain ⟨d, rfl⟩ : ∃ e, d = e + 1 := ⟨d - 1, by omega⟩
  have hB : zk_BS B S := hBS.le (by omega) (by omega)
  have hr := zk_I_r hB hI
  have ht := htt.1
  have hfq : zk_fq s (zu (zu (zu (zu s 8 (s 5)) 5 0) 9 0) 7 0) := fun k hk => by rw [zk_une (by omega), zk_une (by omega), zk_une (by omega), zk_une (by omega)]
  refine zm_J_run zm_T 1 (pc' := 1) (lv' := [(0, .ref 3)]) (st' := [.ref 3]) (G' := (zk_H R ex sl s r el f g df)) rfl ?_
  refine zg_V (a := 3) (av := []) (rest := []) (v := none) (G2 := (zk_H R ex sl (zu (zu (zu (zu s 8 (s 5)) 5 0) 9 0) 7 0) r el f g df)) (zm_T.1 35 1 _ rfl).1 zc_35_1 rfl (Nat.le_of_ble_eq_true rfl) (Nat.le_of_ble_eq_true rfl) (zk_c hr) (zk_s hr) (zk_beg) ?_
  show zm_J N _ 35 4 [(0, .ref 3)] [] (zk_H R ex sl (zu (zu (zu (zu s 8 (s 5)) 5 0) 9 0) 7 0) r el f g df) _
  refine zm_J_run zm_T 1 (pc' := 5) (lv' := [(0, .ref 3)]) (st' := [.ref 3]) (G' := (zk_H R ex sl (zu (zu (zu (zu s 8 (s 5)) 5 0) 9 0) 7 0) r el f g df)) rfl ?_
  refine zg_VT (a := 3) (av := []) (rest := []) (zm_T.1 35 5 _ rfl).1 zc_35_5 rfl (zm_out0 rfl) (Nat.le_of_ble_eq_true rfl) (Nat.le_of_ble_eq_true rfl) (zk_c hr) (zk_s hr) (zk_rte (L := []) (t := t) (p := 0) (w := t) ⟨htt.1, htt.2, Nat.zero_le _, fun i x h => by cases h⟩ (fun c h => by cases h) (by omega) (zk_I_fq hfq hI) (hBS.le (by omega) (by omega)) ⟨rfl, Nat.zero_add _, h5, rfl, rfl⟩ (fun e1 ex' sl' s' xa i1 x1 f1 Z1 => ?_) (fun hno z G k => ?_))
  · exact zm_J_fin zm_T rfl rfl (K1 e1 ex' sl' s' xa (zk_I_le (by omega) (by omega) i1) x1 (hfq.trans f1.fq) ((f1 5 (by decide) (by decide) (by decide)).trans rfl) Z1)
  · have k2 := k.ry (B' := B + 41) (S' := S + 206) (zk_xt.refl _) hfq rfl (by omega) (by omega)
    exact zk_k_ry k2 (K0 hno z G k2)
theorem zk_rpar (hd : 2 ≤ d) (ht : t.length ≤ 40) (hft : ∀ i x, t[i]? = some x → f i = x ∧ 33 ≤ x ∧ x ≤ 126) (hr : zr_r ex sl) : ∀ (k : Nat) (L w : List Int32) (p : Nat) (g s : Nat → Int32), L.length + k = 4 → (∀ i x, L[i]? = some x → g i = x) → zk_rs t L s w p → (∀ g' s' p', (∀ i x, (zv_hl k L w).1[i]? = some x → g' i = x) → zk_rs t (zv_hl k L w).1 s' (zv_hl k L w).2 p' → (∀ j, j ≠ 7 → j ≠ 9 → s' j = s j) → Q (.inl none) (zk_H R ex sl s' r el f g' df)) → zm_J N d 21 0 [(0, .ref 3)] [] (zk_H R ex sl s r el f g df) Q := by
  intro k
  induction k with
  | zero =>
    intro L w p g s hk hg hrs K
    obtain ⟨g1, g2, g3, g4, g5⟩ := hrs
    have hz : zv_hl 0 L w = (L, w) := by cases w <;> rfl
    rw [hz] at K
    refine zm_J_run zm_T 3 (pc' := 5) (lv' := [(0, .ref 3)]) (st' := [.int 4, .int (s 7)]) (G' := (zk_H R ex sl s r el f g df)) rfl ?_
    rw [show (.int (s 7) : Value) = .int (nI L.length) from congrArg Value.int g5]
    show zm_J N _ 21 5 [(0, .ref 3)] [.int 4, .int (nI L.length)] (zk_H R ex sl s r el f g df) _
    refine zm_J_run zm_T 1 (pc' := if (4 : Int32) ≤ (nI L.length) then 76 else 8) (lv' := [(0, .ref 3)]) (st' := []) (G' := (zk_H R ex sl s r el f g df)) rfl ?_
    rw [if_pos (show (4 : Int32) ≤ (nI L.length) from nI_le (a := 4) (by omega) (by omega))]
    exact zm_J_fin zm_T rfl rfl (K g s p hg ⟨g1, g2, g3, g4, g5⟩ (fun _ _ _ => rfl))
  | succ k ih =>
    intro L w p g s hk hg hrs K
    obtain ⟨g1, g2, g3, g4, g5⟩ := hrs
    obtain ⟨d, rfl⟩ : ∃ e, d = e + 2 := ⟨d - 2, by omega⟩
    cases w with
    | nil =>
      refine zm_J_run zm_T 3 (pc' := 5) (lv' := [(0, .ref 3)]) (st' := [.int 4, .int (s 7)]) (G' := (zk_H R ex sl s r el f g df)) rfl ?_
      rw [show (.int (s 7) : Value) = .int (nI L.length) from congrArg Value.int g5]
      show zm_J N _ 21 5 [(0, .ref 3)] [.int 4, .int (nI L.length)] (zk_H R ex sl s r el f g df) _
      refine zm_J_run zm_T 1 (pc' := if (4 : Int32) ≤ (nI L.length) then 76 else 8) (lv' := [(0, .ref 3)]) (st' := []) (G' := (zk_H R ex sl s r el f g df)) rfl ?_
      rw [if_neg (show ¬ ((4 : Int32) ≤ (nI L.length)) from nI_ge (b := 4) (by omega) (by decide))]
      refine zm_J_run zm_T 4 (pc' := 16) (lv' := [(0, .ref 3)]) (st' := [.int (s 8), .int (s 9)]) (G' := (zk_H R ex sl s r el f g df)) rfl ?_
      rw [show (.int (s 9) : Value) = .int (nI p) from congrArg Value.int g4, show (.int (s 8) : Value) = .int (nI t.length) from congrArg Value.int g3]
      show zm_J N _ 21 16 [(0, .ref 3)] [.int (nI t.length), .int (nI p)] (zk_H R ex sl s r el f g df) _
      refine zm_J_run zm_T 1 (pc' := if (nI t.length) ≤ (nI p) then 76 else 19) (lv' := [(0, .ref 3)]) (st' := []) (G' := (zk_H R ex sl s r el f g df)) rfl ?_
      rw [if_pos (show (nI t.length) ≤ (nI p) from nI_le (by rw [List.length_nil] at g2; omega) (by omega))]
      exact zm_J_fin zm_T rfl rfl (K g s p hg ⟨g1, g2, g3, g4, g5⟩ (fun _ _ _ => rfl))
    | cons c r0 =>
      rw [List.length_cons] at g2
      have htp : t[p]? = some c := by
        have := congrArg (fun l => l[0]?) g1
        rw [List.getElem?_drop] at this
        exact this
      obtain ⟨hfp, hc33, hc126⟩ := hft p c htp
      have hdr1 : t.drop (p + 1) = r0 := by
        rw [← List.drop_drop, g1]
        rfl
      have hL : L.length ≤ 4 := by omega
      by_cases hn : (97 ≤ c ∧ c ≤ 102) ∧ ¬ c ∈ L
      · have hz : zv_hl (k + 1) L (c :: r0) = zv_hl k (L ++ [c]) r0 := by
          rw [zv_hl]
          exact if_pos hn
        rw [hz] at K
        have hnar : c.toUInt32.toUInt16.toUInt32.toInt32 = c := zm_char_nar (zk_chr hc33 hc126)
        refine zm_J_run zm_T 3 (pc' := 5) (lv' := [(0, .ref 3)]) (st' := [.int 4, .int (s 7)]) (G' := (zk_H R ex sl s r el f g df)) rfl ?_
        rw [show (.int (s 7) : Value) = .int (nI L.length) from congrArg Value.int g5]
        show zm_J N _ 21 5 [(0, .ref 3)] [.int 4, .int (nI L.length)] (zk_H R ex sl s r el f g df) _
        refine zm_J_run zm_T 1 (pc' := if (4 : Int32) ≤ (nI L.length) then 76 else 8) (lv' := [(0, .ref 3)]) (st' := []) (G' := (zk_H R ex sl s r el f g df)) rfl ?_
        rw [if_neg (show ¬ ((4 : Int32) ≤ (nI L.length)) from nI_ge (b := 4) (by omega) (by decide))]
        refine zm_J_run zm_T 4 (pc' := 16) (lv' := [(0, .ref 3)]) (st' := [.int (s 8), .int (s 9)]) (G' := (zk_H R ex sl s r el f g df)) rfl ?_
        rw [show (.int (s 9) : Value) = .int (nI p) from congrArg Value.int g4, show (.int (s 8) : Value) = .int (nI t.length) from congrArg Value.int g3]
        show zm_J N _ 21 16 [(0, .ref 3)] [.int (nI t.length), .int (nI p)] (zk_H R ex sl s r el f g df) _
        refine zm_J_run zm_T 1 (pc' := if (nI t.length) ≤ (nI p) then 76 else 19) (lv' := [(0, .ref 3)]) (st' := []) (G' := (zk_H R ex sl s r el f g df)) rfl ?_
        rw [if_neg (show ¬ ((nI t.length) ≤ (nI p)) from nI_ge (by omega) (by omega))]
        refine zm_J_run zm_T 5 (pc' := 28) (lv' := [(0, .ref 3)]) (st' := [.int (s 9), .ref 4, .ref 3]) (G' := (zk_H R ex sl s r el f g df)) rfl ?_
        refine zg_ald (i := .caload) (t := 1) (n := 40) (f := f) (m := p) rfl rfl rfl rfl g4 (by omega) (by decide) ?_
        rw [show f p = c from hfp]
        refine zg_VK (a := 3) (av := [.int c]) (rest := []) (zm_T.1 21 29 _ rfl).1 zc_21_29 rfl (Nat.le_of_ble_eq_true rfl) (Nat.le_of_ble_eq_true rfl) (zk_c hr) (zk_s hr) ((zk_inp hr hL hg g5 (by omega)).mono (fun z G' k => ⟨_, k.1 hn, ?_⟩))
        obtain ⟨-, -, rfl⟩ := k
        show zm_J N _ 21 32 [(0, .ref 3)] [.int 1] (zk_H R ex sl s r el f g df) _
        refine zm_J_run zm_T 9 (pc' := 51) (lv' := [(0, .ref 3)]) (st' := [.int (s 9), .ref 4, .int (s 7), .ref 5]) (G' := (zk_H R ex sl s r el f g df)) rfl ?_
        refine zg_ald (i := .caload) (t := 1) (n := 40) (f := f) (m := p) rfl rfl rfl rfl g4 (by omega) (by decide) ?_
        rw [show f p = c from hfp]
        refine zg_ast (i := .castore) (t := 1) (n := 4) (f := g) (m := L.length) (v' := c) (G' := (zk_H R ex sl s r el f (upd g L.length c) df)) rfl rfl rfl (congrArg (fun x => some (Value.int x)) hnar) (by decide) g5 (by omega) (by decide) rfl ?_
        refine zm_J_run zm_T 5 (pc' := 60) (lv' := [(0, .ref 3)]) (st' := [.int ((s 7) + 1), .ref 3]) (G' := (zk_H R ex sl s r el f (upd g L.length c) df)) rfl ?_
        rw [show s 7 + 1 = nI (L.length + 1) from by rw [g5]; exact nI_1 _]
        show zm_J N _ 21 60 [(0, .ref 3)] [.int (nI (L.length + 1)), .ref 3] (zk_H R ex sl s r el f (upd g L.length c) df) _
        refine zm_J_run zm_T 6 (pc' := 70) (lv' := [(0, .ref 3)]) (st' := [.int ((s 9) + 1), .ref 3]) (G' := (zk_H R ex sl (zu s 7 (nI (L.length + 1))) r el f (upd g L.length c) df)) rfl ?_
        rw [show s 9 + 1 = nI (p + 1) from by rw [g4]; exact nI_1 _]
        show zm_J N _ 21 70 [(0, .ref 3)] [.int (nI (p + 1)), .ref 3] (zk_H R ex sl (zu s 7 (nI (L.length + 1))) r el f (upd g L.length c) df) _
        refine zm_J_run zm_T 2 (pc' := 0) (lv' := [(0, .ref 3)]) (st' := []) (G' := (zk_H R ex sl (zu (zu s 7 (nI (L.length + 1))) 9 (nI (p + 1))) r el f (upd g L.length c) df)) rfl ?_
        exact ih (L ++ [c]) r0 (p + 1) _ _ (by rw [List.length_append, List.length_singleton]; omega) (fun i x h => zk_upd_ap hg h) ⟨hdr1, by omega, g3, rfl, by rw [List.length_append]; rfl⟩ (fun g' s' p' k1 k2 k3 => K g' s' p' k1 k2 (fun j h1 h2 => (k3 j h1 h2).trans (by rw [zk_une h2, zk_une h1])))
      · have hz : zv_hl (k + 1) L (c :: r0) = (L, c :: r0) := by
          rw [zv_hl]
          exact if_neg hn
        rw [hz] at K
        refine zm_J_run zm_T 3 (pc' := 5) (lv' := [(0, .ref 3)]) (st' := [.int 4, .int (s 7)]) (G' := (zk_H R ex sl s r el f g df)) rfl ?_
        rw [show (.int (s 7) : Value) = .int (nI L.length) from congrArg Value.int g5]
        show zm_J N _ 21 5 [(0, .ref 3)] [.int 4, .int (nI L.length)] (zk_H R ex sl s r el f g df) _
        refine zm_J_run zm_T 1 (pc' := if (4 : Int32) ≤ (nI L.length) then 76 else 8) (lv' := [(0, .ref 3)]) (st' := []) (G' := (zk_H R ex sl s r el f g df)) rfl ?_
        rw [if_neg (show ¬ ((4 : Int32) ≤ (nI L.length)) from nI_ge (b := 4) (by omega) (by decide))]
        refine zm_J_run zm_T 4 (pc' := 16) (lv' := [(0, .ref 3)]) (st' := [.int (s 8), .int (s 9)]) (G' := (zk_H R ex sl s r el f g df)) rfl ?_
        rw [show (.int (s 9) : Value) = .int (nI p) from congrArg Value.int g4, show (.int (s 8) : Value) = .int (nI t.length) from congrArg Value.int g3]
        show zm_J N _ 21 16 [(0, .ref 3)] [.int (nI t.length), .int (nI p)] (zk_H R ex sl s r el f g df) _
        refine zm_J_run zm_T 1 (pc' := if (nI t.length) ≤ (nI p) then 76 else 19) (lv' := [(0, .ref 3)]) (st' := []) (G' := (zk_H R ex sl s r el f g df)) rfl ?_
        rw [if_neg (show ¬ ((nI t.length) ≤ (nI p)) from nI_ge (by omega) (by omega))]
        refine zm_J_run zm_T 5 (pc' := 28) (lv' := [(0, .ref 3)]) (st' := [.int (s 9), .ref 4, .ref 3]) (G' := (zk_H R ex sl s r el f g df)) rfl ?_
        refine zg_ald (i := .caload) (t := 1) (n := 40) (f := f) (m := p) rfl rfl rfl rfl g4 (by omega) (by decide) ?_
        rw [show f p = c from hfp]
        refine zg_VK (a := 3) (av := [.int c]) (rest := []) (zm_T.1 21 29 _ rfl).1 zc_21_29 rfl (Nat.le_of_ble_eq_true rfl) (Nat.le_of_ble_eq_true rfl) (zk_c hr) (zk_s hr) ((zk_inp hr hL hg g5 (by omega)).mono (fun z G' k => ⟨_, k.2.1 hn, ?_⟩))
        obtain ⟨-, -, rfl⟩ := k
        show zm_J N _ 21 32 [(0, .ref 3)] [.int 0] (zk_H R ex sl s r el f g df) _
        refine zm_J_run zm_T 1 (pc' := 76) (lv' := [(0, .ref 3)]) (st' := []) (G' := (zk_H R ex sl s r el f g df)) rfl ?_
        exact zm_J_fin zm_T rfl rfl (K g s p hg ⟨g1, by rw [List.length_cons]; omega, g3, g4, g5⟩ (fun _ _ _ => rfl))
end ZKX

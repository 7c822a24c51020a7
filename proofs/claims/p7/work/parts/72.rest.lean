/-! THE REFERENCE'S OTHER METHODS -/
section ZRO
variable {N : zm_N} {d : Nat} {C : Nat → zm_E} {ex : List zm_E} {sl : Nat} {s : Nat → Int32} {a : Nat → Nat → Int32} {Q : zm_O → zm_H → Prop}
theorem zr_thrown  : zm_J N d 71 0 [(0, .ref 12)] [] (zr_H C ex sl s a) (zr_R C ex sl (some (.int (s 12))) s a) := by
  refine zm_J_run zm_T 2 (pc' := 4) (lv' := [(0, .ref 12)]) (st' := [.int (s 12)]) (G' := (zr_H C ex sl s a)) rfl ?_
  exact zm_J_fin zm_T rfl rfl ⟨rfl, rfl⟩
theorem zr_ans1 (h : s 12 = 0)  : zm_J N d 101 0 [(0, .ref 12)] [] (zr_H C ex sl s a) (zr_R C ex sl (some (.int (s 37))) (zu (zu (zu (zu s 43 1) 40 (s 37)) 41 (s 38)) 42 (s 39)) a) := by
  refine zm_J_run zm_T 4 (pc' := if (s 12) = 0 then 8 else 12) (lv' := [(0, .ref 12)]) (st' := [.ref 12]) (G' := (zr_H C ex sl s a)) rfl ?_
  rw [if_pos (show (s 12) = 0 from h)]
  refine zm_J_run zm_T 12 (pc' := 35) (lv' := [(0, .ref 12)]) (st' := [.ref 12, .ref 12]) (G' := (zr_H C ex sl (zu (zu s 43 1) 40 (s 37)) a)) rfl ?_
  refine zm_J_run zm_T 8 (pc' := 53) (lv' := [(0, .ref 12)]) (st' := [.int (s 37)]) (G' := (zr_H C ex sl (zu (zu (zu (zu s 43 1) 40 (s 37)) 41 (s 38)) 42 (s 39)) a)) rfl ?_
  exact zm_J_fin zm_T rfl rfl ⟨rfl, rfl⟩
theorem zr_ans0 (h : ¬ s 12 = 0)  : zm_J N d 101 0 [(0, .ref 12)] [] (zr_H C ex sl s a) (zr_R C ex sl (some (.int 0)) (zu s 43 0) a) := by
  refine zm_J_run zm_T 4 (pc' := if (s 12) = 0 then 8 else 12) (lv' := [(0, .ref 12)]) (st' := [.ref 12]) (G' := (zr_H C ex sl s a)) rfl ?_
  rw [if_neg (show ¬ ((s 12) = 0) from h)]
  refine zm_J_run zm_T 6 (pc' := 24) (lv' := [(0, .ref 12)]) (st' := [.int 0]) (G' := (zr_H C ex sl (zu s 43 0) a)) rfl ?_
  exact zm_J_fin zm_T rfl rfl ⟨rfl, rfl⟩
theorem zr_num0 (h : s 43 = 0)  : zm_J N d 102 0 [(0, .ref 12)] [] (zr_H C ex sl s a) (zr_R C ex sl (some (.int 0)) (zu s 12 1) a) := by
  refine zm_J_run zm_T 4 (pc' := if (s 43) = 0 then 8 else 12) (lv' := [(0, .ref 12)]) (st' := [.ref 12]) (G' := (zr_H C ex sl s a)) rfl ?_
  rw [if_pos (show (s 43) = 0 from h)]
  refine zm_J_run zm_T 6 (pc' := if (1 : Int32) ≤ 0 then 38 else 34) (lv' := [(0, .ref 12)]) (st' := []) (G' := (zr_H C ex sl (zu s 12 1) a)) rfl ?_
  rw [if_neg (show ¬ ((1 : Int32) ≤ 0) by decide +kernel)]
  refine zm_J_run zm_T 2 (pc' := 42) (lv' := [(0, .ref 12)]) (st' := [.int 0]) (G' := (zr_H C ex sl (zu s 12 1) a)) rfl ?_
  exact zm_J_fin zm_T rfl rfl ⟨rfl, rfl⟩
theorem zr_num2 (h : s 43 = 1) (h2 : ¬ s 40 = 0)  : zm_J N d 102 0 [(0, .ref 12)] [] (zr_H C ex sl s a) (zr_R C ex sl (some (.int 0)) (zu s 12 2) a) := by
  refine zm_J_run zm_T 4 (pc' := if (s 43) = 0 then 8 else 12) (lv' := [(0, .ref 12)]) (st' := [.ref 12]) (G' := (zr_H C ex sl s a)) rfl ?_
  rw [if_neg (show ¬ ((s 43) = 0) from by rw [h]; decide)]
  refine zm_J_run zm_T 3 (pc' := if (s 40) = 0 then 23 else 19) (lv' := [(0, .ref 12)]) (st' := [.ref 12]) (G' := (zr_H C ex sl s a)) rfl ?_
  rw [if_neg (show ¬ ((s 40) = 0) from h2)]
  refine zm_J_run zm_T 6 (pc' := if (2 : Int32) ≤ 0 then 38 else 34) (lv' := [(0, .ref 12)]) (st' := []) (G' := (zr_H C ex sl (zu s 12 2) a)) rfl ?_
  rw [if_neg (show ¬ ((2 : Int32) ≤ 0) by decide +kernel)]
  refine zm_J_run zm_T 2 (pc' := 42) (lv' := [(0, .ref 12)]) (st' := [.int 0]) (G' := (zr_H C ex sl (zu s 12 2) a)) rfl ?_
  exact zm_J_fin zm_T rfl rfl ⟨rfl, rfl⟩
theorem zr_num1 (h : s 43 = 1) (h2 : s 40 = 0)  : zm_J N d 102 0 [(0, .ref 12)] [] (zr_H C ex sl s a) (zr_R C ex sl (some (.int (s 41))) (zu s 12 0) a) := by
  refine zm_J_run zm_T 4 (pc' := if (s 43) = 0 then 8 else 12) (lv' := [(0, .ref 12)]) (st' := [.ref 12]) (G' := (zr_H C ex sl s a)) rfl ?_
  rw [if_neg (show ¬ ((s 43) = 0) from by rw [h]; decide)]
  refine zm_J_run zm_T 3 (pc' := if (s 40) = 0 then 23 else 19) (lv' := [(0, .ref 12)]) (st' := [.ref 12]) (G' := (zr_H C ex sl s a)) rfl ?_
  rw [if_pos (show (s 40) = 0 from h2)]
  refine zm_J_run zm_T 5 (pc' := if (0 : Int32) ≤ 0 then 38 else 34) (lv' := [(0, .ref 12)]) (st' := []) (G' := (zr_H C ex sl (zu s 12 0) a)) rfl ?_
  rw [if_pos (show (0 : Int32) ≤ 0 by decide +kernel)]
  refine zm_J_run zm_T 2 (pc' := 42) (lv' := [(0, .ref 12)]) (st' := [.int (s 41)]) (G' := (zr_H C ex sl (zu s 12 0) a)) rfl ?_
  exact zm_J_fin zm_T rfl rfl ⟨rfl, rfl⟩
theorem zr_rem1 (hr : zr_r ex sl) {v : Int32} (h : ¬ (0 ≤ v ∧ v ≤ 5)) (hd : 1 ≤ d)  : zm_J N d 106 0 [(0, .ref 12), (1, .int v)] [] (zr_H C ex sl s a) (zr_R C ex sl none (zu s 12 1) a) := by
  obtain ⟨d, rfl⟩ : ∃ e, d = e + 1 := ⟨d - 1, by omega⟩
  refine zm_J_run zm_T 4 (pc' := 4) (lv' := [(0, .ref 12), (1, .int v)]) (st' := [.int 5, .int 0, .int v, .ref 12]) (G' := (zr_H C ex sl s a)) rfl ?_
  refine zg_S (av := [.int v, .int 0, .int 5]) (rest := [.ref 12]) (v := some (.int (if 0 ≤ v ∧ v ≤ 5 then 1 else 0))) (G2 := (zr_H C ex sl s a)) (zm_T.1 106 4 _ rfl).1 zc_106_4 (Nat.le_of_ble_eq_true rfl) (Nat.le_of_ble_eq_true rfl) (zr_c hr) (zr_s hr) (zr_btw v 0 5 _) ?_
  show zm_J N _ 106 7 [(0, .ref 12), (1, .int v)] [.int (if 0 ≤ v ∧ v ≤ 5 then 1 else 0), .ref 12] (zr_H C ex sl s a) _
  rw [if_neg h]
  show zm_J N _ 106 7 [(0, .ref 12), (1, .int v)] [.int 0, .ref 12] (zr_H C ex sl s a) _
  refine zg_V (a := 12) (av := [.int 0]) (rest := []) (v := some (.int 1)) (G2 := (zr_H C ex sl (zu s 12 1) a)) (zm_T.1 106 7 _ rfl).1 zc_106_7 rfl (Nat.le_of_ble_eq_true rfl) (Nat.le_of_ble_eq_true rfl) (zr_c hr) (zr_s hr) (zr_bad false) ?_
  show zm_J N _ 106 10 [(0, .ref 12), (1, .int v)] [.int 1] (zr_H C ex sl (zu s 12 1) a) _
  refine zm_J_run zm_T 1 (pc' := 13) (lv' := [(0, .ref 12), (1, .int v)]) (st' := []) (G' := (zr_H C ex sl (zu s 12 1) a)) rfl ?_
  exact zm_J_fin zm_T rfl rfl ⟨rfl, rfl⟩
theorem zr_rem2 (hr : zr_r ex sl) {k : Nat} (hk : k < 6) (h7 : a 7 k = 0) (hd : 1 ≤ d)  : zm_J N d 106 0 [(0, .ref 12), (1, .int (nI k))] [] (zr_H C ex sl s a) (zr_R C ex sl none (zu s 12 2) (zu a 7 (upd (a 7) k 0))) := by
  obtain ⟨d, rfl⟩ : ∃ e, d = e + 1 := ⟨d - 1, by omega⟩
  have h : 0 ≤ nI k ∧ nI k ≤ 5 := ⟨nI_pos' (by omega), nI_le (show k ≤ 5 by omega) (by decide)⟩
  refine zm_J_run zm_T 4 (pc' := 4) (lv' := [(0, .ref 12), (1, .int (nI k))]) (st' := [.int 5, .int 0, .int (nI k), .ref 12]) (G' := (zr_H C ex sl s a)) rfl ?_
  refine zg_S (av := [.int (nI k), .int 0, .int 5]) (rest := [.ref 12]) (v := some (.int (if 0 ≤ (nI k) ∧ (nI k) ≤ 5 then 1 else 0))) (G2 := (zr_H C ex sl s a)) (zm_T.1 106 4 _ rfl).1 zc_106_4 (Nat.le_of_ble_eq_true rfl) (Nat.le_of_ble_eq_true rfl) (zr_c hr) (zr_s hr) (zr_btw (nI k) 0 5 _) ?_
  show zm_J N _ 106 7 [(0, .ref 12), (1, .int (nI k))] [.int (if 0 ≤ (nI k) ∧ (nI k) ≤ 5 then 1 else 0), .ref 12] (zr_H C ex sl s a) _
  rw [if_pos h]
  show zm_J N _ 106 7 [(0, .ref 12), (1, .int (nI k))] [.int 1, .ref 12] (zr_H C ex sl s a) _
  refine zg_V (a := 12) (av := [.int 1]) (rest := []) (v := some (.int 0)) (G2 := (zr_H C ex sl (zu s 12 0) a)) (zm_T.1 106 7 _ rfl).1 zc_106_7 rfl (Nat.le_of_ble_eq_true rfl) (Nat.le_of_ble_eq_true rfl) (zr_c hr) (zr_s hr) (zr_bad true) ?_
  show zm_J N _ 106 10 [(0, .ref 12), (1, .int (nI k))] [.int 0] (zr_H C ex sl (zu s 12 0) a) _
  refine zm_J_run zm_T 4 (pc' := 19) (lv' := [(0, .ref 12), (1, .int (nI k))]) (st' := [.int (nI k), .ref 20]) (G' := (zr_H C ex sl (zu s 12 0) a)) rfl ?_
  refine zg_ald (i := .baload) (t := 3) (n := 6) (f := a 7) (m := k) rfl rfl rfl rfl rfl (by omega) (by decide) ?_
  rw [show a 7 k = 0 from h7]
  refine zm_J_run zm_T 8 (pc' := 34) (lv' := [(0, .ref 12), (1, .int (nI k))]) (st' := [.int 0, .int (nI k), .ref 20]) (G' := (zr_H C ex sl (zu s 12 2) a)) rfl ?_
  refine zg_ast (i := .bastore) (t := 3) (n := 6) (f := a 7) (m := k) (v' := 0) (G' := (zr_H C ex sl (zu s 12 2) (zu a 7 (upd (a 7) k 0)))) rfl rfl rfl rfl (by decide) rfl (by omega) (by decide) rfl ?_
  exact zm_J_fin zm_T rfl rfl ⟨rfl, rfl⟩
theorem zr_rem0 (hr : zr_r ex sl) {k : Nat} (hk : k < 6) (h7 : a 7 k = 1) (hd : 1 ≤ d)  : zm_J N d 106 0 [(0, .ref 12), (1, .int (nI k))] [] (zr_H C ex sl s a) (zr_R C ex sl none (zu s 12 0) (zu a 7 (upd (a 7) k 0))) := by
  obtain ⟨d, rfl⟩ : ∃ e, d = e + 1 := ⟨d - 1, by omega⟩
  have h : 0 ≤ nI k ∧ nI k ≤ 5 := ⟨nI_pos' (by omega), nI_le (show k ≤ 5 by omega) (by decide)⟩
  refine zm_J_run zm_T 4 (pc' := 4) (lv' := [(0, .ref 12), (1, .int (nI k))]) (st' := [.int 5, .int 0, .int (nI k), .ref 12]) (G' := (zr_H C ex sl s a)) rfl ?_
  refine zg_S (av := [.int (nI k), .int 0, .int 5]) (rest := [.ref 12]) (v := some (.int (if 0 ≤ (nI k) ∧ (nI k) ≤ 5 then 1 else 0))) (G2 := (zr_H C ex sl s a)) (zm_T.1 106 4 _ rfl).1 zc_106_4 (Nat.le_of_ble_eq_true rfl) (Nat.le_of_ble_eq_true rfl) (zr_c hr) (zr_s hr) (zr_btw (nI k) 0 5 _) ?_
  show zm_J N _ 106 7 [(0, .ref 12), (1, .int (nI k))] [.int (if 0 ≤ (nI k) ∧ (nI k) ≤ 5 then 1 else 0), .ref 12] (zr_H C ex sl s a) _
  rw [if_pos h]
  show zm_J N _ 106 7 [(0, .ref 12), (1, .int (nI k))] [.int 1, .ref 12] (zr_H C ex sl s a) _
  refine zg_V (a := 12) (av := [.int 1]) (rest := []) (v := some (.int 0)) (G2 := (zr_H C ex sl (zu s 12 0) a)) (zm_T.1 106 7 _ rfl).1 zc_106_7 rfl (Nat.le_of_ble_eq_true rfl) (Nat.le_of_ble_eq_true rfl) (zr_c hr) (zr_s hr) (zr_bad true) ?_
  show zm_J N _ 106 10 [(0, .ref 12), (1, .int (nI k))] [.int 0] (zr_H C ex sl (zu s 12 0) a) _
  refine zm_J_run zm_T 4 (pc' := 19) (lv' := [(0, .ref 12), (1, .int (nI k))]) (st' := [.int (nI k), .ref 20]) (G' := (zr_H C ex sl (zu s 12 0) a)) rfl ?_
  refine zg_ald (i := .baload) (t := 3) (n := 6) (f := a 7) (m := k) rfl rfl rfl rfl rfl (by omega) (by decide) ?_
  rw [show a 7 k = 1 from h7]
  refine zm_J_run zm_T 5 (pc' := 34) (lv' := [(0, .ref 12), (1, .int (nI k))]) (st' := [.int 0, .int (nI k), .ref 20]) (G' := (zr_H C ex sl (zu s 12 0) a)) rfl ?_
  refine zg_ast (i := .bastore) (t := 3) (n := 6) (f := a 7) (m := k) (v' := 0) (G' := (zr_H C ex sl (zu s 12 0) (zu a 7 (upd (a 7) k 0)))) rfl rfl rfl rfl (by decide) rfl (by omega) (by decide) rfl ?_
  exact zm_J_fin zm_T rfl rfl ⟨rfl, rfl⟩
/-- the text from the place i on goes into the pool -/
theorem zr_store_l {t : List Int32} (ht : t.length ≤ 40) {v w : Int32} : ∀ (k i q : Nat) (s : Nat → Int32) (a : Nat → Nat → Int32), i + k = t.length → q + k ≤ 21200 → s 8 = nI t.length → s 11 = nI q → (∀ j x, t[j]? = some x → a 0 j = x) →
    (∀ f, (∀ j, j < q ∨ q + k ≤ j → f j = a 1 j) → (∀ j x, t[i + j]? = some x → f (q + j) = x) → Q (.inl (some (.int w))) (zr_H C ex sl (zu s 11 (nI (q + k))) (zu a 1 f))) → zm_J N d 81 7 [(3, .int (nI i)), (2, .int w), (0, .ref 12), (1, .int v)] [] (zr_H C ex sl s a) Q := by
  intro k
  induction k with
  | zero =>
    intro i q s a hik hq h8 h11 h0 kk
    have hi : i = t.length := hik
    have K := kk (a 1) (fun _ _ => rfl) (fun j x hx => by rw [List.getElem?_eq_none (by omega)] at hx; cases hx)
    rw [Nat.add_zero, ← h11, zu_same, zu_same] at K
    refine zm_J_run zm_T 4 (pc' := if (s 8) ≤ (nI i) then 46 else 15) (lv' := [(3, .int (nI i)), (2, .int w), (0, .ref 12), (1, .int v)]) (st' := []) (G' := (zr_H C ex sl s a)) rfl ?_
    rw [if_pos (show (s 8) ≤ (nI i) from by rw [h8, hi]; exact Int32.le_refl _)]
    refine zm_J_run zm_T 1 (pc' := 47) (lv' := [(3, .int (nI i)), (2, .int w), (0, .ref 12), (1, .int v)]) (st' := [.int w]) (G' := (zr_H C ex sl s a)) rfl ?_
    exact zm_J_fin zm_T rfl rfl K
  | succ k ih =>
    intro i q s a hik hq h8 h11 h0 kk
    have hil : i < t.length := by omega
    have hx := h0 i t[i] (List.getElem?_eq_getElem hil)
    refine zm_J_run zm_T 4 (pc' := if (s 8) ≤ (nI i) then 46 else 15) (lv' := [(3, .int (nI i)), (2, .int w), (0, .ref 12), (1, .int v)]) (st' := []) (G' := (zr_H C ex sl s a)) rfl ?_
    rw [if_neg (show ¬ ((s 8) ≤ (nI i)) from by rw [h8]; exact nI_ge hil (by omega))]
    refine zm_J_run zm_T 7 (pc' := 28) (lv' := [(3, .int (nI i)), (2, .int w), (0, .ref 12), (1, .int v)]) (st' := [.int (nI i), .ref 13, .int (s 11), .ref 14]) (G' := (zr_H C ex sl s a)) rfl ?_
    refine zg_ald (i := .iaload) (t := 0) (n := 40) (f := a 0) (m := i) rfl rfl rfl rfl rfl (by omega) (by decide) ?_
    rw [show a 0 i = t[i] from hx]
    refine zg_ast (i := .iastore) (t := 0) (n := 21200) (f := a 1) (m := q) (v' := (t[i])) (G' := (zr_H C ex sl s (zu a 1 (upd (a 1) q (t[i]))))) rfl rfl rfl rfl (by decide) h11 (by omega) (by decide) rfl ?_
    refine zm_J_run zm_T 6 (pc' := 40) (lv' := [(3, .int (nI i)), (2, .int w), (0, .ref 12), (1, .int v)]) (st' := []) (G' := (zr_H C ex sl (zu s 11 ((s 11) + 1)) (zu a 1 (upd (a 1) q (t[i]))))) rfl ?_
    rw [show s 11 + 1 = nI (q + 1) from by rw [h11]; exact nI_1 q]
    show zm_J N _ 81 40 [(3, .int (nI i)), (2, .int w), (0, .ref 12), (1, .int v)] [] (zr_H C ex sl (zu s 11 (nI (q + 1))) (zu a 1 (upd (a 1) q (t[i])))) _
    refine zm_J_run zm_T 1 (pc' := 43) (lv' := [(3, .int ((nI i) + 1)), (2, .int w), (0, .ref 12), (1, .int v)]) (st' := []) (G' := (zr_H C ex sl (zu s 11 (nI (q + 1))) (zu a 1 (upd (a 1) q (t[i]))))) rfl ?_
    rw [show nI i + 1 = nI (i + 1) from nI_1 i]
    show zm_J N _ 81 43 [(3, .int (nI (i + 1))), (2, .int w), (0, .ref 12), (1, .int v)] [] (zr_H C ex sl (zu s 11 (nI (q + 1))) (zu a 1 (upd (a 1) q (t[i])))) _
    refine zm_J_run zm_T 1 (pc' := 7) (lv' := [(3, .int (nI (i + 1))), (2, .int w), (0, .ref 12), (1, .int v)]) (st' := []) (G' := (zr_H C ex sl (zu s 11 (nI (q + 1))) (zu a 1 (upd (a 1) q (t[i]))))) rfl ?_
    refine ih (i + 1) (q + 1) (zu s 11 (nI (q + 1))) (zu a 1 (upd (a 1) q t[i])) (by omega) (by omega) h8 rfl h0 (fun f f1 f2 => ?_)
    rw [zu_1, zu_1, show q + 1 + k = q + (k + 1) by omega]
    refine kk f (fun j hj => (f1 j (by omega)).trans (zi_updn (a 1) _ (by omega))) (fun j x hj => ?_)
    cases j with
    | zero => exact (f1 q (by omega)).trans ((zi_upd (a 1) q _).trans (by rw [Nat.add_zero, List.getElem?_eq_getElem hil] at hj; exact Option.some.inj hj))
    | succ j => rw [show q + (j + 1) = q + 1 + j by omega]; exact f2 j x (by rw [show i + 1 + j = i + (j + 1) by omega]; exact hj)
theorem zr_store {t : List Int32} {i q : Nat} (ht : t.length ≤ 40) (hi : i ≤ t.length) (hq : q + (t.length - i) ≤ 21200) (h8 : s 8 = nI t.length) (h11 : s 11 = nI q) (h0 : ∀ j x, t[j]? = some x → a 0 j = x)
    (kk : ∀ f, (∀ j, j < q ∨ q + (t.length - i) ≤ j → f j = a 1 j) → (∀ j x, t[i + j]? = some x → f (q + j) = x) → Q (.inl (some (.int (nI q)))) (zr_H C ex sl (zu s 11 (nI (q + (t.length - i)))) (zu a 1 f))) : zm_J N d 81 0 [(0, .ref 12), (1, .int (nI i))] [] (zr_H C ex sl s a) Q := by
  refine zm_J_run zm_T 5 (pc' := 7) (lv' := [(3, .int (nI i)), (2, .int (s 11)), (0, .ref 12), (1, .int (nI i))]) (st' := []) (G' := (zr_H C ex sl s a)) rfl ?_
  rw [show (.int (s 11) : Value) = .int (nI q) from congrArg Value.int h11]
  show zm_J N _ 81 7 [(3, .int (nI i)), (2, .int (nI q)), (0, .ref 12), (1, .int (nI i))] [] (zr_H C ex sl s a) _
  exact zr_store_l ht (t.length - i) i q s a (by omega) hq h8 h11 h0 kk
end ZRO

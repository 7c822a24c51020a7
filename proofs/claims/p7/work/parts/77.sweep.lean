/-! THE REFERENCE SWEEPS AND ASKS -/
section ZRS2
variable {N : zm_N} {d : Nat} {C : Nat → zm_E} {ex : List zm_E} {sl M : Nat} {s : Nat → Int32} {a : Nat → Nat → Int32} {Q : zm_O → zm_H → Prop} {D : zv_D} {t : List Int32}
/-- the inner loop: a text goes into the spare room -/
theorem zr_sw_i {k e fr : Int32} : ∀ (m p n : Nat) (g : Nat → Int32), p + m ≤ 21200 → n + m ≤ 240 → e = nI (p + m) →
    (∀ g' : Nat → Int32, (∀ j, j < n → g' j = g j) → (∀ i, i < m → g' (n + i) = a 1 (p + i)) → zm_J N d 83 72 [(1, .int (nI (n + m))), (4, .int fr), (2, .int k), (0, .ref 12)] [] (zr_H C ex sl s (zu a 2 g')) Q) →
    zm_J N d 83 44 [(5, .int (nI p)), (1, .int (nI n)), (4, .int fr), (3, .int e), (2, .int k), (0, .ref 12)] [] (zr_H C ex sl s (zu a 2 g)) Q := by
  intro m
  induction m with
  | zero =>
    intro p n g hp hn he K
    have K := K g (fun _ _ => rfl) (fun i hi => absurd hi (Nat.not_lt_zero i))
    refine zm_J_run zm_T 3 (pc' := if e ≤ (nI p) then 72 else 50) (lv' := [(5, .int (nI p)), (1, .int (nI n)), (4, .int fr), (3, .int e), (2, .int k), (0, .ref 12)]) (st' := []) (G' := (zr_H C ex sl s (zu a 2 g))) rfl ?_
    rw [if_pos (show e ≤ (nI p) from by rw [he]; exact Int32.le_refl _)]
    refine zm_J_lv (lv' := [(1, .int (nI n)), (4, .int fr), (2, .int k), (0, .ref 12)]) (by simp) ?_
    exact K
  | succ m ih =>
    intro p n g hp hn he K
    refine zm_J_run zm_T 3 (pc' := if e ≤ (nI p) then 72 else 50) (lv' := [(5, .int (nI p)), (1, .int (nI n)), (4, .int fr), (3, .int e), (2, .int k), (0, .ref 12)]) (st' := []) (G' := (zr_H C ex sl s (zu a 2 g))) rfl ?_
    rw [if_neg (show ¬ (e ≤ (nI p)) from by rw [he]; exact nI_ge (by omega) (by omega))]
    refine zm_J_run zm_T 6 (pc' := 61) (lv' := [(5, .int (nI p)), (1, .int (nI n)), (4, .int fr), (3, .int e), (2, .int k), (0, .ref 12)]) (st' := [.int (nI p), .ref 14, .int (nI n), .ref 15]) (G' := (zr_H C ex sl s (zu a 2 g))) rfl ?_
    refine zg_ald (i := .iaload) (t := 0) (n := 21200) (f := a 1) (m := p) rfl rfl rfl rfl rfl (by omega) (by decide) ?_
    refine zg_ast (i := .iastore) (t := 0) (n := 240) (f := g) (m := n) (v' := (a 1 p)) (G' := (zr_H C ex sl s (zu a 2 (upd g n (a 1 p))))) rfl rfl rfl rfl (by decide) rfl (by omega) (by decide) rfl ?_
    refine zm_J_run zm_T 2 (pc' := 69) (lv' := [(5, .int ((nI p) + 1)), (1, .int ((nI n) + 1)), (4, .int fr), (3, .int e), (2, .int k), (0, .ref 12)]) (st' := []) (G' := (zr_H C ex sl s (zu a 2 (upd g n (a 1 p))))) rfl ?_
    rw [show nI n + 1 = nI (n + 1) from nI_1 n]
    show zm_J N _ 83 69 [(5, .int ((nI p) + 1)), (1, .int (nI (n + 1))), (4, .int fr), (3, .int e), (2, .int k), (0, .ref 12)] [] (zr_H C ex sl s (zu a 2 (upd g n (a 1 p)))) _
    rw [show nI p + 1 = nI (p + 1) from nI_1 p]
    show zm_J N _ 83 69 [(5, .int (nI (p + 1))), (1, .int (nI (n + 1))), (4, .int fr), (3, .int e), (2, .int k), (0, .ref 12)] [] (zr_H C ex sl s (zu a 2 (upd g n (a 1 p)))) _
    refine zm_J_run zm_T 1 (pc' := 44) (lv' := [(5, .int (nI (p + 1))), (1, .int (nI (n + 1))), (4, .int fr), (3, .int e), (2, .int k), (0, .ref 12)]) (st' := []) (G' := (zr_H C ex sl s (zu a 2 (upd g n (a 1 p))))) rfl ?_
    refine ih (p + 1) (n + 1) (upd g n (a 1 p)) (by omega) (by omega) (by rw [he]; exact congrArg nI (by omega)) (fun g' g1 g2 => ?_)
    rw [show n + 1 + m = n + (m + 1) by omega]
    refine K g' (fun j hj => (g1 j (by omega)).trans (zi_updn g _ (by omega))) (fun i hi => ?_)
    cases i with
    | zero => exact (g1 n (by omega)).trans (zi_upd g n _)
    | succ i => rw [show n + (i + 1) = n + 1 + i by omega, show p + (i + 1) = p + 1 + i by omega]; exact g2 i (by omega)
/-- where the DEFINITIONS' texts are, those before k already in the spare room -/
def zr_swk (D : zv_D) (a : Nat → Nat → Int32) (k n : Nat) (g h : Nat → Int32) : Prop := n ≤ 40 * k ∧ (∀ j, k ≤ j → h j = a 3 j) ∧ ∀ j L b, j < k → D j = some (L, b) → ∃ q, h j = nI q ∧ q + b.length ≤ n ∧ ∀ i x, b[i]? = some x → g (q + i) = x
set_option maxHeartbeats 1000000 in
theorem zr_sw_o (hr : zr_r ex sl) (hd : 3 ≤ d) (hDw : zv_wD D) (hdf : zr_def M a D) : ∀ (m k n : Nat) (g h : Nat → Int32), k + m = 6 → zr_swk D a k n g h →
    (∀ n' g' h', zr_swk D a 6 n' g' h' → zm_J N d 83 86 [(1, .int (nI n')), (0, .ref 12)] [] (zr_H C ex sl s (zu (zu a 2 g') 3 h')) Q) →
    zm_J N d 83 4 [(2, .int (nI k)), (1, .int (nI n)), (0, .ref 12)] [] (zr_H C ex sl s (zu (zu a 2 g) 3 h)) Q := by
  obtain ⟨d, rfl⟩ : ∃ e, d = e + 3 := ⟨d - 3, by omega⟩
  intro m
  induction m with
  | zero =>
    intro k n g h hk hs K
    have hk6 : k = 6 := hk
    subst hk6
    have K := K n g h hs
    refine zm_J_run zm_T 3 (pc' := if (6 : Int32) ≤ (nI 6) then 86 else 10) (lv' := [(2, .int (nI 6)), (1, .int (nI n)), (0, .ref 12)]) (st' := []) (G' := (zr_H C ex sl s (zu (zu a 2 g) 3 h))) rfl ?_
    rw [if_pos (show (6 : Int32) ≤ (nI 6) from by decide)]
    refine zm_J_lv (lv' := [(1, .int (nI n)), (0, .ref 12)]) (by simp) ?_
    exact K
  | succ m ih =>
    intro k n g h hk hs K
    obtain ⟨s1, s2, s3⟩ := hs
    obtain ⟨z1, z2⟩ := hdf k (by omega)
    cases hDk : D k with
    | none =>
      have h7 := z1 hDk
      refine zm_J_run zm_T 3 (pc' := if (6 : Int32) ≤ (nI k) then 86 else 10) (lv' := [(2, .int (nI k)), (1, .int (nI n)), (0, .ref 12)]) (st' := []) (G' := (zr_H C ex sl s (zu (zu a 2 g) 3 h))) rfl ?_
      rw [if_neg (show ¬ ((6 : Int32) ≤ (nI k)) from nI_ge (show k < 6 by omega) (by decide))]
      refine zm_J_run zm_T 3 (pc' := 15) (lv' := [(2, .int (nI k)), (1, .int (nI n)), (0, .ref 12)]) (st' := [.int (nI k), .ref 20]) (G' := (zr_H C ex sl s (zu (zu a 2 g) 3 h))) rfl ?_
      refine zg_ald (i := .baload) (t := 3) (n := 6) (f := a 7) (m := k) rfl rfl rfl rfl rfl (by omega) (by decide) ?_
      rw [show a 7 k = 0 from h7]
      refine zm_J_run zm_T 3 (pc' := 83) (lv' := [(2, .int ((nI k) + 1)), (1, .int (nI n)), (0, .ref 12)]) (st' := []) (G' := (zr_H C ex sl s (zu (zu a 2 g) 3 h))) rfl ?_
      rw [show nI k + 1 = nI (k + 1) from nI_1 k]
      show zm_J N _ 83 83 [(2, .int (nI (k + 1))), (1, .int (nI n)), (0, .ref 12)] [] (zr_H C ex sl s (zu (zu a 2 g) 3 h)) _
      refine zm_J_run zm_T 1 (pc' := 4) (lv' := [(2, .int (nI (k + 1))), (1, .int (nI n)), (0, .ref 12)]) (st' := []) (G' := (zr_H C ex sl s (zu (zu a 2 g) 3 h))) rfl ?_
      exact ih (k + 1) n g h (by omega) ⟨by omega, fun j hj => s2 j (by omega), fun j L b hj hD => by by_cases hjk : j = k; subst hjk; rw [hDk] at hD; cases hD; exact s3 j L b (by omega) hD⟩ K
    | some y =>
      obtain ⟨L, b⟩ := y
      obtain ⟨h7, h5, ⟨p, h3, htx⟩, h4⟩ := z2 L b hDk
      obtain ⟨k1, k2, k3, k4, k5, k6⟩ := hDw k L b hDk
      have h3' : h k = nI p := (s2 k (Nat.le_refl _)).trans h3
      have hM := htx.1
      have hMb := htx.2.1
      refine zm_J_run zm_T 3 (pc' := if (6 : Int32) ≤ (nI k) then 86 else 10) (lv' := [(2, .int (nI k)), (1, .int (nI n)), (0, .ref 12)]) (st' := []) (G' := (zr_H C ex sl s (zu (zu a 2 g) 3 h))) rfl ?_
      rw [if_neg (show ¬ ((6 : Int32) ≤ (nI k)) from nI_ge (show k < 6 by omega) (by decide))]
      refine zm_J_run zm_T 3 (pc' := 15) (lv' := [(2, .int (nI k)), (1, .int (nI n)), (0, .ref 12)]) (st' := [.int (nI k), .ref 20]) (G' := (zr_H C ex sl s (zu (zu a 2 g) 3 h))) rfl ?_
      refine zg_ald (i := .baload) (t := 3) (n := 6) (f := a 7) (m := k) rfl rfl rfl rfl rfl (by omega) (by decide) ?_
      rw [show a 7 k = 1 from h7]
      refine zm_J_run zm_T 5 (pc' := 28) (lv' := [(2, .int (nI k)), (1, .int (nI n)), (0, .ref 12)]) (st' := [.int (nI k), .ref 16, .ref 12]) (G' := (zr_H C ex sl s (zu (zu a 2 g) 3 h))) rfl ?_
      refine zg_ald (i := .iaload) (t := 0) (n := 6) (f := h) (m := k) rfl rfl rfl rfl rfl (by omega) (by decide) ?_
      rw [show h k = nI p from h3']
      refine zg_V (a := 12) (av := [.int (nI p)]) (rest := []) (v := some (.int (nI (p + zv_n b 1)))) (G2 := (zr_H C ex sl s (zu (zu a 2 g) 3 h))) (zm_T.1 83 29 _ rfl).1 zc_83_29 rfl (Nat.le_of_ble_eq_true rfl) (Nat.le_of_ble_eq_true rfl) (zr_c hr) (zr_s hr) (zr_skip (M := M) (a := (zu (zu a 2 g) 3 h)) k3 hr (by omega) k1 htx) ?_
      show zm_J N _ 83 32 [(2, .int (nI k)), (1, .int (nI n)), (0, .ref 12)] [.int (nI (p + zv_n b 1))] (zr_H C ex sl s (zu (zu a 2 g) 3 h)) _
      refine zm_J_run zm_T 6 (pc' := 41) (lv' := [(4, .int (nI n)), (3, .int (nI (p + zv_n b 1))), (2, .int (nI k)), (1, .int (nI n)), (0, .ref 12)]) (st' := [.int (nI k), .ref 16]) (G' := (zr_H C ex sl s (zu (zu a 2 g) 3 h))) rfl ?_
      refine zg_ald (i := .iaload) (t := 0) (n := 6) (f := h) (m := k) rfl rfl rfl rfl rfl (by omega) (by decide) ?_
      rw [show h k = nI p from h3']
      refine zm_J_run zm_T 1 (pc' := 44) (lv' := [(5, .int (nI p)), (4, .int (nI n)), (3, .int (nI (p + zv_n b 1))), (2, .int (nI k)), (1, .int (nI n)), (0, .ref 12)]) (st' := []) (G' := (zr_H C ex sl s (zu (zu a 2 g) 3 h))) rfl ?_
      refine zm_J_lv (lv' := [(5, .int (nI p)), (1, .int (nI n)), (4, .int (nI n)), (3, .int (nI (p + zv_n b 1))), (2, .int (nI k)), (0, .ref 12)]) (by simp) ?_
      rw [show zr_H C ex sl s (zu (zu a 2 g) 3 h) = zr_H C ex sl s (zu (zu a 3 h) 2 g) from rfl]
      refine zr_sw_i (a := zu a 3 h) (zv_n b 1) p n g (by omega) (by omega) rfl (fun g' g1 g2 => ?_)
      rw [show zr_H C ex sl s (zu (zu a 3 h) 2 g') = zr_H C ex sl s (zu (zu a 2 g') 3 h) from rfl]
      refine zm_J_run zm_T 4 (pc' := 79) (lv' := [(1, .int (nI (n + zv_n b 1))), (4, .int (nI n)), (2, .int (nI k)), (0, .ref 12)]) (st' := [.int (nI n), .int (nI k), .ref 16]) (G' := (zr_H C ex sl s (zu (zu a 2 g') 3 h))) rfl ?_
      refine zg_ast (i := .iastore) (t := 0) (n := 6) (f := h) (m := k) (v' := (nI n)) (G' := (zr_H C ex sl s (zu (zu a 2 g') 3 (upd h k (nI n))))) rfl rfl rfl rfl (by decide) rfl (by omega) (by decide) rfl ?_
      refine zm_J_run zm_T 1 (pc' := 83) (lv' := [(2, .int ((nI k) + 1)), (1, .int (nI (n + zv_n b 1))), (4, .int (nI n)), (0, .ref 12)]) (st' := []) (G' := (zr_H C ex sl s (zu (zu a 2 g') 3 (upd h k (nI n))))) rfl ?_
      rw [show nI k + 1 = nI (k + 1) from nI_1 k]
      show zm_J N _ 83 83 [(2, .int (nI (k + 1))), (1, .int (nI (n + zv_n b 1))), (4, .int (nI n)), (0, .ref 12)] [] (zr_H C ex sl s (zu (zu a 2 g') 3 (upd h k (nI n)))) _
      refine zm_J_run zm_T 1 (pc' := 4) (lv' := [(2, .int (nI (k + 1))), (1, .int (nI (n + zv_n b 1))), (4, .int (nI n)), (0, .ref 12)]) (st' := []) (G' := (zr_H C ex sl s (zu (zu a 2 g') 3 (upd h k (nI n))))) rfl ?_
      refine zm_J_lv (lv' := [(2, .int (nI (k + 1))), (1, .int (nI (n + zv_n b 1))), (0, .ref 12)]) (by simp) ?_
      refine ih (k + 1) (n + zv_n b 1) g' (upd h k (nI n)) (by omega) ⟨by omega, fun j hj => (zi_updn h _ (by omega)).trans (s2 j (by omega)), fun j L' b' hj hD => ?_⟩ K
      by_cases hjk : j = k
      · subst hjk
        rw [hDk] at hD
        cases hD
        refine ⟨n, zi_upd h j _, by omega, fun i x hx => ?_⟩
        have hi := (List.getElem?_eq_some_iff.mp hx).1
        rw [g2 i (by omega)]
        exact htx.2.2 i x hx
      · obtain ⟨q, q1, q2, q3⟩ := s3 j L' b' (by omega) hD
        refine ⟨q, (zi_updn h _ hjk).trans q1, by omega, fun i x hx => ?_⟩
        have hi := (List.getElem?_eq_some_iff.mp hx).1
        rw [g1 (q + i) (by omega)]
        exact q3 i x hx
/-- back into the pool -/
theorem zr_sw_b {n : Nat} (hn : n ≤ 240) : ∀ (m i : Nat) (f : Nat → Int32), i + m = n → (∀ j, j < i → f j = a 2 j) →
    (∀ f' : Nat → Int32, (∀ j, j < n → f' j = a 2 j) → zm_J N d 83 111 [(1, .int (nI n)), (0, .ref 12)] [] (zr_H C ex sl s (zu a 1 f')) Q) →
    zm_J N d 83 88 [(2, .int (nI i)), (1, .int (nI n)), (0, .ref 12)] [] (zr_H C ex sl s (zu a 1 f)) Q := by
  intro m
  induction m with
  | zero =>
    intro i f hi hf K
    have hin : i = n := hi
    subst hin
    have K := K f hf
    refine zm_J_run zm_T 3 (pc' := if (nI i) ≤ (nI i) then 111 else 93) (lv' := [(2, .int (nI i)), (1, .int (nI i)), (0, .ref 12)]) (st' := []) (G' := (zr_H C ex sl s (zu a 1 f))) rfl ?_
    rw [if_pos (show (nI i) ≤ (nI i) from Int32.le_refl _)]
    refine zm_J_lv (lv' := [(1, .int (nI i)), (0, .ref 12)]) (by simp) ?_
    exact K
  | succ m ih =>
    intro i f hi hf K
    refine zm_J_run zm_T 3 (pc' := if (nI n) ≤ (nI i) then 111 else 93) (lv' := [(2, .int (nI i)), (1, .int (nI n)), (0, .ref 12)]) (st' := []) (G' := (zr_H C ex sl s (zu a 1 f))) rfl ?_
    rw [if_neg (show ¬ ((nI n) ≤ (nI i)) from nI_ge (by omega) (by omega))]
    refine zm_J_run zm_T 6 (pc' := 103) (lv' := [(2, .int (nI i)), (1, .int (nI n)), (0, .ref 12)]) (st' := [.int (nI i), .ref 15, .int (nI i), .ref 14]) (G' := (zr_H C ex sl s (zu a 1 f))) rfl ?_
    refine zg_ald (i := .iaload) (t := 0) (n := 240) (f := a 2) (m := i) rfl rfl rfl rfl rfl (by omega) (by decide) ?_
    refine zg_ast (i := .iastore) (t := 0) (n := 21200) (f := f) (m := i) (v' := (a 2 i)) (G' := (zr_H C ex sl s (zu a 1 (upd f i (a 2 i))))) rfl rfl rfl rfl (by decide) rfl (by omega) (by decide) rfl ?_
    refine zm_J_run zm_T 1 (pc' := 108) (lv' := [(2, .int ((nI i) + 1)), (1, .int (nI n)), (0, .ref 12)]) (st' := []) (G' := (zr_H C ex sl s (zu a 1 (upd f i (a 2 i))))) rfl ?_
    rw [show nI i + 1 = nI (i + 1) from nI_1 i]
    show zm_J N _ 83 108 [(2, .int (nI (i + 1))), (1, .int (nI n)), (0, .ref 12)] [] (zr_H C ex sl s (zu a 1 (upd f i (a 2 i)))) _
    refine zm_J_run zm_T 1 (pc' := 88) (lv' := [(2, .int (nI (i + 1))), (1, .int (nI n)), (0, .ref 12)]) (st' := []) (G' := (zr_H C ex sl s (zu a 1 (upd f i (a 2 i))))) rfl ?_
    refine ih (i + 1) (upd f i (a 2 i)) (by omega) (fun j hj => ?_) K
    by_cases hji : j = i
    · subst hji; exact zi_upd f j _
    · exact (zi_updn f _ hji).trans (hf j (by omega))
/-- the DEFINITIONS' texts stand at the pool's beginning -/
theorem zr_sweep (hr : zr_r ex sl) (hd : 3 ≤ d) (hDw : zv_wD D) (hdf : zr_def M a D)
    (K : ∀ n f g h, n ≤ 240 → zr_def n (zu (zu (zu a 2 g) 3 h) 1 f) D → Q (.inl none) (zr_H C ex sl (zu (zu (zu (zu s 11 (nI n)) 25 0) 24 0) 23 0) (zu (zu (zu a 2 g) 3 h) 1 f))) : zm_J N d 83 0 [(0, .ref 12)] [] (zr_H C ex sl s a) Q := by
  refine zm_J_run zm_T 4 (pc' := 4) (lv' := [(2, .int 0), (1, .int 0), (0, .ref 12)]) (st' := []) (G' := (zr_H C ex sl s a)) rfl ?_
  rw [show zr_H C ex sl s a = zr_H C ex sl s (zu (zu a 2 (a 2)) 3 (a 3)) from by rw [zu_same, zu_same]]
  refine zr_sw_o (M := M) hr hd hDw hdf 6 0 0 (a 2) (a 3) rfl ⟨Nat.le_refl _, fun _ _ => rfl, fun j L b hj => absurd hj (Nat.not_lt_zero j)⟩ (fun n g h hs => ?_)
  obtain ⟨s1, s2, s3⟩ := hs
  refine zm_J_run zm_T 2 (pc' := 88) (lv' := [(2, .int 0), (1, .int (nI n)), (0, .ref 12)]) (st' := []) (G' := (zr_H C ex sl s (zu (zu a 2 g) 3 h))) rfl ?_
  rw [show zr_H C ex sl s (zu (zu a 2 g) 3 h) = zr_H C ex sl s (zu (zu (zu a 2 g) 3 h) 1 (a 1)) from congrArg (zr_H C ex sl s) (zu_same (zu (zu a 2 g) 3 h) 1).symm]
  refine zr_sw_b (a := zu (zu a 2 g) 3 h) (by omega) n 0 (a 1) (by omega) (fun j hj => absurd hj (Nat.not_lt_zero j)) (fun f hf => ?_)
  refine zm_J_run zm_T 12 (pc' := 131) (lv' := [(1, .int (nI n)), (0, .ref 12)]) (st' := []) (G' := (zr_H C ex sl (zu (zu (zu (zu s 11 (nI n)) 25 0) 24 0) 23 0) (zu (zu (zu a 2 g) 3 h) 1 f))) rfl ?_
  refine zm_J_fin zm_T rfl rfl (K n f g h (by omega) (fun k hk => ⟨fun hn => (hdf k hk).1 hn, fun L b hD => ?_⟩))
  obtain ⟨h7, h5, -, h4⟩ := (hdf k hk).2 L b hD
  obtain ⟨q, q1, q2, q3⟩ := s3 k L b hk hD
  refine ⟨h7, h5, ⟨q, q1, by omega, q2, fun i x hx => ?_⟩, h4⟩
  have hi := (List.getElem?_eq_some_iff.mp hx).1
  exact (hf (q + i) (by omega)).trans (q3 i x hx)
end ZRS2

/-! THE CLASS READS A DEFINITION -/
section ZKX
variable {R : Nat → zm_E} {ex : List zm_E} {sl : Nat} {s : Nat → Int32} {r : Value} {el : Nat → Nat} {f g : Nat → Int32} {df : Nat → Option Nat} {N : zm_N} {d : Nat} {Q : zm_O → zm_H → Prop} {B S : Nat} {va ca ka : List Nat} {q : Nat × Nat × Nat} {t L : List Int32}
theorem zk_di {nm np : Int32} {y a0 : Nat} {a b c : Value} (hc : ex[y]? = some (Sum.inr (6, [a, b, c]) : zm_E)) : zm_J N (d + 1) 32 0 [(0, .ref (y + 37)), (1, .int nm), (2, .int np), (3, .ref a0)] [] (zk_H R ex sl s r el f g df) (fun z G' => z = .inl none ∧ G' = zk_H R (ex.set y (Sum.inr (6, [.int nm, .int np, .ref a0]) : zm_E)) sl s r el f g df) := by
  have h1 := zk_set_at (Sum.inr (6, [.int nm, b, c]) : zm_E) hc
  have h2 := zk_set_at (Sum.inr (6, [.int nm, .int np, c]) : zm_E) hc
  refine zm_J_run zm_T 1 (pc' := 1) (lv' := [(0, .ref (y + 37)), (1, .int nm), (2, .int np), (3, .ref a0)]) (st' := [.ref (y + 37)]) (G' := (zk_H R ex sl s r el f g df)) rfl ?_
  refine zm_J_O (rest := []) (zm_T.1 32 1 _ rfl).1 zc_32_1 (Nat.le_of_ble_eq_true rfl) ?_
  refine zm_J_run zm_T 2 (pc' := 6) (lv' := [(0, .ref (y + 37)), (1, .int nm), (2, .int np), (3, .ref a0)]) (st' := [.int nm, .ref (y + 37)]) (G' := (zk_H R ex sl s r el f g df)) rfl ?_
  refine zg_pf (fs := [a, b, c]) (G' := (zk_H R (ex.set y (Sum.inr (6, [.int nm, b, c]) : zm_E)) sl s r el f g df)) rfl (zk_at hc) (Nat.le_add_left 2 _) (Nat.le_of_ble_eq_true rfl) rfl rfl ?_
  refine zm_J_run zm_T 2 (pc' := 11) (lv' := [(0, .ref (y + 37)), (1, .int nm), (2, .int np), (3, .ref a0)]) (st' := [.int np, .ref (y + 37)]) (G' := (zk_H R (ex.set y (Sum.inr (6, [.int nm, b, c]) : zm_E)) sl s r el f g df)) rfl ?_
  refine zg_pf (fs := [.int nm, b, c]) (G' := (zk_H R (ex.set y (Sum.inr (6, [.int nm, .int np, c]) : zm_E)) sl s r el f g df)) rfl (zk_at h1) (Nat.le_add_left 2 _) (Nat.le_of_ble_eq_true rfl) rfl (zk_ss ..) ?_
  refine zm_J_run zm_T 2 (pc' := 16) (lv' := [(0, .ref (y + 37)), (1, .int nm), (2, .int np), (3, .ref a0)]) (st' := [.ref a0, .ref (y + 37)]) (G' := (zk_H R (ex.set y (Sum.inr (6, [.int nm, .int np, c]) : zm_E)) sl s r el f g df)) rfl ?_
  refine zg_pf (fs := [.int nm, .int np, c]) (G' := (zk_H R (ex.set y (Sum.inr (6, [.int nm, .int np, .ref a0]) : zm_E)) sl s r el f g df)) rfl (zk_at h2) (Nat.le_add_left 2 _) (Nat.le_of_ble_eq_true rfl) rfl (zk_ss ..) ?_
  exact zm_J_fin zm_T rfl rfl ⟨rfl, rfl⟩
theorem zk_rdf (htt : zk_tt t f) (h5 : s 5 = nI t.length) (hd : 23 ≤ d) (hI : zk_I B S ex sl s el va ca ka q) (hBS : zk_BS (B + 43) (S + 210))
    (K1 : ∀ nm L b, zv_df t = some (nm, L, b) → ∀ ex' sl' s' g' y xa, zk_I (B + 43) (S + 210) ex' sl' s' el va ca ka q → zk_xt ex ex' → zk_fq s s' → s' 5 = 0 → ex'[y]? = some (Sum.inr (6, [.int nm, .int (nI L.length), .ref (xa + 37)]) : zm_E) → zk_X ex' L 12 b xa → Q (.inl (some (.ref (y + 37)))) (zk_H R ex' sl' s' r el f g' df))
    (K0 : zv_df t = none → ∀ z G, zk_RY (B + 43) (S + 210) R r el f df va ca ka q ex s z G → Q z G) : zm_J N d 17 0 [(0, .ref 3)] [] (zk_H R ex sl s r el f g df) Q := by
  obtain ⟨d, rfl⟩ : ∃ e, d = e + 2 := ⟨d - 2, by omega⟩
  have hB : zk_BS B S := hBS.le (by omega) (by omega)
  have hr := zk_I_r hB hI
  have hrm := zk_I_room hB hI
  obtain ⟨ht, hft⟩ := htt
  have hfq : zk_fq s (zu (zu (zu (zu s 8 (s 5)) 5 0) 9 0) 7 0) := fun k hk => by rw [zk_une (by omega), zk_une (by omega), zk_une (by omega), zk_une (by omega)]
  cases t with
  | nil =>
    refine zm_J_run zm_T 1 (pc' := 1) (lv' := [(0, .ref 3)]) (st' := [.ref 3]) (G' := (zk_H R ex sl s r el f g df)) rfl ?_
    refine zg_V (a := 3) (av := []) (rest := []) (v := none) (G2 := (zk_H R ex sl (zu (zu (zu (zu s 8 (s 5)) 5 0) 9 0) 7 0) r el f g df)) (zm_T.1 17 1 _ rfl).1 zc_17_1 rfl (Nat.le_of_ble_eq_true rfl) (Nat.le_of_ble_eq_true rfl) (zk_c hr) (zk_s hr) (zk_beg) ?_
    show zm_J N _ 17 4 [(0, .ref 3)] [] (zk_H R ex sl (zu (zu (zu (zu s 8 (s 5)) 5 0) 9 0) 7 0) r el f g df) _
    refine zm_J_run zm_T 5 (pc' := 13) (lv' := [(0, .ref 3)]) (st' := [.int (s 5), .int 0, .ref 3]) (G' := (zk_H R ex sl (zu (zu (zu (zu s 8 (s 5)) 5 0) 9 0) 7 0) r el f g df)) rfl ?_
    rw [show (.int (s 5) : Value) = .int (nI ([] : List Int32).length) from congrArg Value.int h5]
    show zm_J N _ 17 13 [(0, .ref 3)] [.int (nI ([] : List Int32).length), .int 0, .ref 3] (zk_H R ex sl (zu (zu (zu (zu s 8 (s 5)) 5 0) 9 0) 7 0) r el f g df) _
    refine zm_J_run zm_T 1 (pc' := if (nI ([] : List Int32).length) ≤ 0 then 35 else 16) (lv' := [(0, .ref 3)]) (st' := [.ref 3]) (G' := (zk_H R ex sl (zu (zu (zu (zu s 8 (s 5)) 5 0) 9 0) 7 0) r el f g df)) rfl ?_
    rw [if_pos (show (nI ([] : List Int32).length) ≤ 0 from by decide)]
    refine zm_J_run zm_T 1 (pc' := 36) (lv' := [(0, .ref 3)]) (st' := [.int 0, .ref 3]) (G' := (zk_H R ex sl (zu (zu (zu (zu s 8 (s 5)) 5 0) 9 0) 7 0) r el f g df)) rfl ?_
    refine zg_VT (a := 3) (av := [.int 0]) (rest := []) (zm_T.1 17 36 _ rfl).1 zc_17_36 rfl (zm_out0 rfl) (Nat.le_of_ble_eq_true rfl) (Nat.le_of_ble_eq_true rfl) (zk_c hr) (zk_s hr) (zk_ref0 hB (zk_I_fq hfq hI) (by omega) (fun z G k => zk_k_ry (k.ry (B' := B + 43) (S' := S + 210) (zk_xt.refl _) hfq rfl (by omega) (by omega)) (K0 rfl z G (k.ry (zk_xt.refl _) hfq rfl (by omega) (by omega)))))
  | cons c r0 =>
    obtain ⟨hf0, hc33, hc126⟩ := hft 0 c rfl
    have htl : r0.length + 1 ≤ 40 := by rw [List.length_cons] at ht; exact ht
    by_cases hnm : 65 ≤ c ∧ c ≤ 70
    rotate_left
    · refine zm_J_run zm_T 1 (pc' := 1) (lv' := [(0, .ref 3)]) (st' := [.ref 3]) (G' := (zk_H R ex sl s r el f g df)) rfl ?_
      refine zg_V (a := 3) (av := []) (rest := []) (v := none) (G2 := (zk_H R ex sl (zu (zu (zu (zu s 8 (s 5)) 5 0) 9 0) 7 0) r el f g df)) (zm_T.1 17 1 _ rfl).1 zc_17_1 rfl (Nat.le_of_ble_eq_true rfl) (Nat.le_of_ble_eq_true rfl) (zk_c hr) (zk_s hr) (zk_beg) ?_
      show zm_J N _ 17 4 [(0, .ref 3)] [] (zk_H R ex sl (zu (zu (zu (zu s 8 (s 5)) 5 0) 9 0) 7 0) r el f g df) _
      refine zm_J_run zm_T 5 (pc' := 13) (lv' := [(0, .ref 3)]) (st' := [.int (s 5), .int 0, .ref 3]) (G' := (zk_H R ex sl (zu (zu (zu (zu s 8 (s 5)) 5 0) 9 0) 7 0) r el f g df)) rfl ?_
      rw [show (.int (s 5) : Value) = .int (nI (c :: r0).length) from congrArg Value.int h5]
      show zm_J N _ 17 13 [(0, .ref 3)] [.int (nI (c :: r0).length), .int 0, .ref 3] (zk_H R ex sl (zu (zu (zu (zu s 8 (s 5)) 5 0) 9 0) 7 0) r el f g df) _
      refine zm_J_run zm_T 1 (pc' := if (nI (c :: r0).length) ≤ 0 then 35 else 16) (lv' := [(0, .ref 3)]) (st' := [.ref 3]) (G' := (zk_H R ex sl (zu (zu (zu (zu s 8 (s 5)) 5 0) 9 0) 7 0) r el f g df)) rfl ?_
      rw [if_neg (show ¬ ((nI (c :: r0).length) ≤ 0) from nI_nle (by rw [List.length_cons]; omega) (by rw [List.length_cons]; omega))]
      refine zm_J_run zm_T 4 (pc' := 24) (lv' := [(0, .ref 3)]) (st' := [.int 0, .ref 4, .ref 3]) (G' := (zk_H R ex sl (zu (zu (zu (zu s 8 (s 5)) 5 0) 9 0) 7 0) r el f g df)) rfl ?_
      refine zg_ald (i := .caload) (t := 1) (n := 40) (f := f) (m := 0) rfl rfl rfl rfl rfl (by decide) (by decide) ?_
      rw [hf0]
      show zm_J N _ 17 25 [(0, .ref 3)] [.int c, .ref 3] (zk_H R ex sl (zu (zu (zu (zu s 8 (s 5)) 5 0) 9 0) 7 0) r el f g df) _
      refine zg_S (av := [.int c]) (rest := [.ref 3]) (v := some (.int (zk_b (65 ≤ c ∧ c ≤ 70)))) (G2 := (zk_H R ex sl (zu (zu (zu (zu s 8 (s 5)) 5 0) 9 0) 7 0) r el f g df)) (zm_T.1 17 25 _ rfl).1 zc_17_25 (Nat.le_of_ble_eq_true rfl) (Nat.le_of_ble_eq_true rfl) (zk_c hr) (zk_s hr) (zk_isnm) ?_
      show zm_J N _ 17 28 [(0, .ref 3)] [.int (zk_b (65 ≤ c ∧ c ≤ 70)), .ref 3] (zk_H R ex sl (zu (zu (zu (zu s 8 (s 5)) 5 0) 9 0) 7 0) r el f g df) _
      refine zm_J_run zm_T 1 (pc' := if (zk_b (65 ≤ c ∧ c ≤ 70)) = 0 then 35 else 31) (lv' := [(0, .ref 3)]) (st' := [.ref 3]) (G' := (zk_H R ex sl (zu (zu (zu (zu s 8 (s 5)) 5 0) 9 0) 7 0) r el f g df)) rfl ?_
      rw [if_pos (show (zk_b (65 ≤ c ∧ c ≤ 70)) = 0 from zk_b_f hnm)]
      have hno : zv_df (c :: r0) = none := if_neg hnm
      refine zm_J_run zm_T 1 (pc' := 36) (lv' := [(0, .ref 3)]) (st' := [.int 0, .ref 3]) (G' := (zk_H R ex sl (zu (zu (zu (zu s 8 (s 5)) 5 0) 9 0) 7 0) r el f g df)) rfl ?_
      refine zg_VT (a := 3) (av := [.int 0]) (rest := []) (zm_T.1 17 36 _ rfl).1 zc_17_36 rfl (zm_out0 rfl) (Nat.le_of_ble_eq_true rfl) (Nat.le_of_ble_eq_true rfl) (zk_c hr) (zk_s hr) (zk_ref0 hB (zk_I_fq hfq hI) (by omega) (fun z G k => zk_k_ry (k.ry (B' := B + 43) (S' := S + 210) (zk_xt.refl _) hfq rfl (by omega) (by omega)) (K0 hno z G (k.ry (zk_xt.refl _) hfq rfl (by omega) (by omega)))))
    · have hdfe : zv_df (c :: r0) = match (zv_hl 4 [] r0).2 with
          | [] => none
          | q :: b => if q = 61 ∧ zv_rd (zv_hl 4 [] r0).1 11 b = some [] then some (c - 65, (zv_hl 4 [] r0).1, b) else none := if_pos hnm
      obtain ⟨u1, u2, u3, u4, u5⟩ := zv_hl_ok 4 [] r0 (fun x hx => by cases hx) List.nodup_nil (Nat.le_refl _)
      have hfq2 : zk_fq s (zu (zu (zu (zu s 8 (s 5)) 5 0) 7 0) 9 1) := fun k hk => by rw [zk_une (by omega), zk_une (by omega), zk_une (by omega), zk_une (by omega)]
      refine zm_J_run zm_T 1 (pc' := 1) (lv' := [(0, .ref 3)]) (st' := [.ref 3]) (G' := (zk_H R ex sl s r el f g df)) rfl ?_
      refine zg_V (a := 3) (av := []) (rest := []) (v := none) (G2 := (zk_H R ex sl (zu (zu (zu (zu s 8 (s 5)) 5 0) 9 0) 7 0) r el f g df)) (zm_T.1 17 1 _ rfl).1 zc_17_1 rfl (Nat.le_of_ble_eq_true rfl) (Nat.le_of_ble_eq_true rfl) (zk_c hr) (zk_s hr) (zk_beg) ?_
      show zm_J N _ 17 4 [(0, .ref 3)] [] (zk_H R ex sl (zu (zu (zu (zu s 8 (s 5)) 5 0) 9 0) 7 0) r el f g df) _
      refine zm_J_run zm_T 5 (pc' := 13) (lv' := [(0, .ref 3)]) (st' := [.int (s 5), .int 0, .ref 3]) (G' := (zk_H R ex sl (zu (zu (zu (zu s 8 (s 5)) 5 0) 9 0) 7 0) r el f g df)) rfl ?_
      rw [show (.int (s 5) : Value) = .int (nI (c :: r0).length) from congrArg Value.int h5]
      show zm_J N _ 17 13 [(0, .ref 3)] [.int (nI (c :: r0).length), .int 0, .ref 3] (zk_H R ex sl (zu (zu (zu (zu s 8 (s 5)) 5 0) 9 0) 7 0) r el f g df) _
      refine zm_J_run zm_T 1 (pc' := if (nI (c :: r0).length) ≤ 0 then 35 else 16) (lv' := [(0, .ref 3)]) (st' := [.ref 3]) (G' := (zk_H R ex sl (zu (zu (zu (zu s 8 (s 5)) 5 0) 9 0) 7 0) r el f g df)) rfl ?_
      rw [if_neg (show ¬ ((nI (c :: r0).length) ≤ 0) from nI_nle (by rw [List.length_cons]; omega) (by rw [List.length_cons]; omega))]
      refine zm_J_run zm_T 4 (pc' := 24) (lv' := [(0, .ref 3)]) (st' := [.int 0, .ref 4, .ref 3]) (G' := (zk_H R ex sl (zu (zu (zu (zu s 8 (s 5)) 5 0) 9 0) 7 0) r el f g df)) rfl ?_
      refine zg_ald (i := .caload) (t := 1) (n := 40) (f := f) (m := 0) rfl rfl rfl rfl rfl (by decide) (by decide) ?_
      rw [hf0]
      show zm_J N _ 17 25 [(0, .ref 3)] [.int c, .ref 3] (zk_H R ex sl (zu (zu (zu (zu s 8 (s 5)) 5 0) 9 0) 7 0) r el f g df) _
      refine zg_S (av := [.int c]) (rest := [.ref 3]) (v := some (.int (zk_b (65 ≤ c ∧ c ≤ 70)))) (G2 := (zk_H R ex sl (zu (zu (zu (zu s 8 (s 5)) 5 0) 9 0) 7 0) r el f g df)) (zm_T.1 17 25 _ rfl).1 zc_17_25 (Nat.le_of_ble_eq_true rfl) (Nat.le_of_ble_eq_true rfl) (zk_c hr) (zk_s hr) (zk_isnm) ?_
      show zm_J N _ 17 28 [(0, .ref 3)] [.int (zk_b (65 ≤ c ∧ c ≤ 70)), .ref 3] (zk_H R ex sl (zu (zu (zu (zu s 8 (s 5)) 5 0) 9 0) 7 0) r el f g df) _
      refine zm_J_run zm_T 1 (pc' := if (zk_b (65 ≤ c ∧ c ≤ 70)) = 0 then 35 else 31) (lv' := [(0, .ref 3)]) (st' := [.ref 3]) (G' := (zk_H R ex sl (zu (zu (zu (zu s 8 (s 5)) 5 0) 9 0) 7 0) r el f g df)) rfl ?_
      rw [if_neg (show ¬ ((zk_b (65 ≤ c ∧ c ≤ 70)) = 0) from by rw [zk_b_t hnm]; decide)]
      refine zm_J_run zm_T 2 (pc' := 36) (lv' := [(0, .ref 3)]) (st' := [.int 1, .ref 3]) (G' := (zk_H R ex sl (zu (zu (zu (zu s 8 (s 5)) 5 0) 9 0) 7 0) r el f g df)) rfl ?_
      refine zg_V (a := 3) (av := [.int 1]) (rest := []) (v := none) (G2 := (zk_H R ex sl (zu (zu (zu (zu s 8 (s 5)) 5 0) 9 0) 7 0) r el f g df)) (zm_T.1 17 36 _ rfl).1 zc_17_36 rfl (Nat.le_of_ble_eq_true rfl) (Nat.le_of_ble_eq_true rfl) (zk_c hr) (zk_s hr) (zk_ref1) ?_
      show zm_J N _ 17 39 [(0, .ref 3)] [] (zk_H R ex sl (zu (zu (zu (zu s 8 (s 5)) 5 0) 9 0) 7 0) r el f g df) _
      refine zm_J_run zm_T 4 (pc' := 47) (lv' := [(0, .ref 3)]) (st' := [.int 0, .ref 4]) (G' := (zk_H R ex sl (zu (zu (zu (zu s 8 (s 5)) 5 0) 9 0) 7 0) r el f g df)) rfl ?_
      refine zg_ald (i := .caload) (t := 1) (n := 40) (f := f) (m := 0) rfl rfl rfl rfl rfl (by decide) (by decide) ?_
      rw [hf0]
      show zm_J N _ 17 48 [(0, .ref 3)] [.int c] (zk_H R ex sl (zu (zu (zu (zu s 8 (s 5)) 5 0) 9 0) 7 0) r el f g df) _
      refine zm_J_run zm_T 10 (pc' := 63) (lv' := [(1, .int (c - 65)), (0, .ref 3)]) (st' := [.ref 3]) (G' := (zk_H R ex sl (zu (zu (zu (zu s 8 (s 5)) 5 0) 7 0) 9 1) r el f g df)) rfl ?_
      refine zg_VK (a := 3) (av := []) (rest := []) (zm_T.1 17 63 _ rfl).1 zc_17_63 rfl (Nat.le_of_ble_eq_true rfl) (Nat.le_of_ble_eq_true rfl) (zk_c hr) (zk_s hr) (zk_rpar (t := c :: r0) (by omega) ht hft hr 4 [] r0 1 g _ rfl (fun i x h => by cases h) ⟨rfl, by rw [List.length_cons]; omega, h5, rfl, rfl⟩ (fun g' s' p' k1 k2 k3 => ⟨_, rfl, ?_⟩))
      generalize zv_hl 4 [] r0 = hl at *
      obtain ⟨L, w'⟩ := hl
      dsimp only at hdfe k1 k2 u1 u2 u3 u4 u5
      obtain ⟨g1, g2, g3, g4, g5⟩ := k2
      have hfq3 : zk_fq s s' := hfq2.trans (fun k hk => k3 k (by omega) (by omega))
      have h53 : s' 5 = 0 := k3 5 (by decide) (by decide)
      show zm_J N _ 17 66 [(1, .int (c - 65)), (0, .ref 3)] [] (zk_H R ex sl s' r el f g' df) _
      cases w' with
      | nil =>
        refine zm_J_run zm_T 5 (pc' := 75) (lv' := [(1, .int (c - 65)), (0, .ref 3)]) (st' := [.int (s' 8), .int (s' 9), .ref 3]) (G' := (zk_H R ex sl s' r el f g' df)) rfl ?_
        rw [show (.int (s' 9) : Value) = .int (nI p') from congrArg Value.int g4, show (.int (s' 8) : Value) = .int (nI (c :: r0).length) from congrArg Value.int g3]
        show zm_J N _ 17 75 [(1, .int (c - 65)), (0, .ref 3)] [.int (nI (c :: r0).length), .int (nI p'), .ref 3] (zk_H R ex sl s' r el f g' df) _
        refine zm_J_run zm_T 1 (pc' := if (nI (c :: r0).length) ≤ (nI p') then 96 else 78) (lv' := [(1, .int (c - 65)), (0, .ref 3)]) (st' := [.ref 3]) (G' := (zk_H R ex sl s' r el f g' df)) rfl ?_
        rw [if_pos (show (nI (c :: r0).length) ≤ (nI p') from nI_le (by rw [List.length_nil] at g2; omega) (by omega))]
        refine zm_J_run zm_T 1 (pc' := 97) (lv' := [(1, .int (c - 65)), (0, .ref 3)]) (st' := [.int 0, .ref 3]) (G' := (zk_H R ex sl s' r el f g' df)) rfl ?_
        refine zg_VT (a := 3) (av := [.int 0]) (rest := []) (zm_T.1 17 97 _ rfl).1 zc_17_97 rfl (zm_out0 rfl) (Nat.le_of_ble_eq_true rfl) (Nat.le_of_ble_eq_true rfl) (zk_c hr) (zk_s hr) (zk_ref0 hB (zk_I_fq hfq3 hI) (by omega) (fun z G k => zk_k_ry (k.ry (B' := B + 43) (S' := S + 210) (zk_xt.refl _) hfq3 h53 (by omega) (by omega)) (K0 (hdfe) z G (k.ry (zk_xt.refl _) hfq3 h53 (by omega) (by omega)))))
      | cons e b =>
        rw [List.length_cons] at g2 u5
        have htp : (c :: r0)[p']? = some e := by
          have := congrArg (fun l => l[0]?) g1
          rw [List.getElem?_drop] at this
          exact this
        obtain ⟨hfp, -, -⟩ := hft p' e htp
        have hdr1 : (c :: r0).drop (p' + 1) = b := by
          rw [← List.drop_drop, g1]
          rfl
        dsimp only at hdfe
        rw [List.length_cons] at g2
        have hbl : b.length ≤ 38 := by rw [List.length_nil] at u5; omega
        by_cases he : e = 61
        rotate_left
        · refine zm_J_run zm_T 5 (pc' := 75) (lv' := [(1, .int (c - 65)), (0, .ref 3)]) (st' := [.int (s' 8), .int (s' 9), .ref 3]) (G' := (zk_H R ex sl s' r el f g' df)) rfl ?_
          rw [show (.int (s' 9) : Value) = .int (nI p') from congrArg Value.int g4, show (.int (s' 8) : Value) = .int (nI (c :: r0).length) from congrArg Value.int g3]
          show zm_J N _ 17 75 [(1, .int (c - 65)), (0, .ref 3)] [.int (nI (c :: r0).length), .int (nI p'), .ref 3] (zk_H R ex sl s' r el f g' df) _
          refine zm_J_run zm_T 1 (pc' := if (nI (c :: r0).length) ≤ (nI p') then 96 else 78) (lv' := [(1, .int (c - 65)), (0, .ref 3)]) (st' := [.ref 3]) (G' := (zk_H R ex sl s' r el f g' df)) rfl ?_
          rw [if_neg (show ¬ ((nI (c :: r0).length) ≤ (nI p')) from nI_ge (by rw [List.length_cons]; omega) (by rw [List.length_cons]; omega))]
          refine zm_J_run zm_T 4 (pc' := 86) (lv' := [(1, .int (c - 65)), (0, .ref 3)]) (st' := [.int (s' 9), .ref 4, .ref 3]) (G' := (zk_H R ex sl s' r el f g' df)) rfl ?_
          refine zg_ald (i := .caload) (t := 1) (n := 40) (f := f) (m := p') rfl rfl rfl rfl g4 (by omega) (by decide) ?_
          rw [show f p' = e from hfp]
          refine zm_J_run zm_T 2 (pc' := if e = 61 then 92 else 96) (lv' := [(1, .int (c - 65)), (0, .ref 3)]) (st' := [.ref 3]) (G' := (zk_H R ex sl s' r el f g' df)) rfl ?_
          rw [if_neg (show ¬ (e = 61) from he)]
          refine zm_J_run zm_T 1 (pc' := 97) (lv' := [(1, .int (c - 65)), (0, .ref 3)]) (st' := [.int 0, .ref 3]) (G' := (zk_H R ex sl s' r el f g' df)) rfl ?_
          refine zg_VT (a := 3) (av := [.int 0]) (rest := []) (zm_T.1 17 97 _ rfl).1 zc_17_97 rfl (zm_out0 rfl) (Nat.le_of_ble_eq_true rfl) (Nat.le_of_ble_eq_true rfl) (zk_c hr) (zk_s hr) (zk_ref0 hB (zk_I_fq hfq3 hI) (by omega) (fun z G k => zk_k_ry (k.ry (B' := B + 43) (S' := S + 210) (zk_xt.refl _) hfq3 h53 (by omega) (by omega)) (K0 (hdfe.trans (if_neg (fun z => he z.1))) z G (k.ry (zk_xt.refl _) hfq3 h53 (by omega) (by omega)))))
        · have hr1 : zr_r (zk_ap ex (Sum.inr (6, [.int 0, .int 0, .null]) : zm_E)) (sl + 3) := ⟨by rw [zk_ap_len]; omega, by omega⟩
          have hfs4 : zk_fs s' (zu s' 9 (nI (p' + 1))) := fun k _ h _ => zk_une h
          refine zm_J_run zm_T 5 (pc' := 75) (lv' := [(1, .int (c - 65)), (0, .ref 3)]) (st' := [.int (s' 8), .int (s' 9), .ref 3]) (G' := (zk_H R ex sl s' r el f g' df)) rfl ?_
          rw [show (.int (s' 9) : Value) = .int (nI p') from congrArg Value.int g4, show (.int (s' 8) : Value) = .int (nI (c :: r0).length) from congrArg Value.int g3]
          show zm_J N _ 17 75 [(1, .int (c - 65)), (0, .ref 3)] [.int (nI (c :: r0).length), .int (nI p'), .ref 3] (zk_H R ex sl s' r el f g' df) _
          refine zm_J_run zm_T 1 (pc' := if (nI (c :: r0).length) ≤ (nI p') then 96 else 78) (lv' := [(1, .int (c - 65)), (0, .ref 3)]) (st' := [.ref 3]) (G' := (zk_H R ex sl s' r el f g' df)) rfl ?_
          rw [if_neg (show ¬ ((nI (c :: r0).length) ≤ (nI p')) from nI_ge (by rw [List.length_cons]; omega) (by rw [List.length_cons]; omega))]
          refine zm_J_run zm_T 4 (pc' := 86) (lv' := [(1, .int (c - 65)), (0, .ref 3)]) (st' := [.int (s' 9), .ref 4, .ref 3]) (G' := (zk_H R ex sl s' r el f g' df)) rfl ?_
          refine zg_ald (i := .caload) (t := 1) (n := 40) (f := f) (m := p') rfl rfl rfl rfl g4 (by omega) (by decide) ?_
          rw [show f p' = e from hfp]
          refine zm_J_run zm_T 2 (pc' := if e = 61 then 92 else 96) (lv' := [(1, .int (c - 65)), (0, .ref 3)]) (st' := [.ref 3]) (G' := (zk_H R ex sl s' r el f g' df)) rfl ?_
          rw [if_pos (show e = 61 from he)]
          refine zm_J_run zm_T 2 (pc' := 97) (lv' := [(1, .int (c - 65)), (0, .ref 3)]) (st' := [.int 1, .ref 3]) (G' := (zk_H R ex sl s' r el f g' df)) rfl ?_
          refine zg_V (a := 3) (av := [.int 1]) (rest := []) (v := none) (G2 := (zk_H R ex sl s' r el f g' df)) (zm_T.1 17 97 _ rfl).1 zc_17_97 rfl (Nat.le_of_ble_eq_true rfl) (Nat.le_of_ble_eq_true rfl) (zk_c hr) (zk_s hr) (zk_ref1) ?_
          show zm_J N _ 17 100 [(1, .int (c - 65)), (0, .ref 3)] [] (zk_H R ex sl s' r el f g' df) _
          refine zm_J_run zm_T 5 (pc' := 107) (lv' := [(1, .int (c - 65)), (0, .ref 3)]) (st' := [.int ((s' 9) + 1), .ref 3]) (G' := (zk_H R ex sl s' r el f g' df)) rfl ?_
          rw [show s' 9 + 1 = nI (p' + 1) from by rw [g4]; exact nI_1 _]
          show zm_J N _ 17 107 [(1, .int (c - 65)), (0, .ref 3)] [.int (nI (p' + 1)), .ref 3] (zk_H R ex sl s' r el f g' df) _
          refine zm_J_run zm_T 1 (pc' := 110) (lv' := [(1, .int (c - 65)), (0, .ref 3)]) (st' := []) (G' := (zk_H R ex sl (zu s' 9 (nI (p' + 1))) r el f g' df)) rfl ?_
          refine zg_newo rfl ⟨by omega, by show sl + 3 ≤ zm_S; omega⟩ (G' := (zk_H R (zk_ap ex (Sum.inr (6, [.int 0, .int 0, .null]) : zm_E)) (sl + 3) (zu s' 9 (nI (p' + 1))) r el f g' df)) rfl ?_
          refine zm_J_run zm_T 5 (pc' := 120) (lv' := [(1, .int (c - 65)), (0, .ref 3)]) (st' := [.ref 3, .int (s' 7), .int (c - 65), .ref (ex.length + 37), .ref (ex.length + 37)]) (G' := (zk_H R (zk_ap ex (Sum.inr (6, [.int 0, .int 0, .null]) : zm_E)) (sl + 3) (zu s' 9 (nI (p' + 1))) r el f g' df)) rfl ?_
          rw [show (.int (s' 7) : Value) = .int (nI L.length) from congrArg Value.int g5]
          show zm_J N _ 17 120 [(1, .int (c - 65)), (0, .ref 3)] [.ref 3, .int (nI L.length), .int (c - 65), .ref (ex.length + 37), .ref (ex.length + 37)] (zk_H R (zk_ap ex (Sum.inr (6, [.int 0, .int 0, .null]) : zm_E)) (sl + 3) (zu s' 9 (nI (p' + 1))) r el f g' df) _
          refine zg_VT (a := 3) (av := []) (rest := [.int (nI L.length), .int (c - 65), .ref (ex.length + 37), .ref (ex.length + 37)]) (zm_T.1 17 120 _ rfl).1 zc_17_120 rfl (zm_out0 rfl) (Nat.le_of_ble_eq_true rfl) (Nat.le_of_ble_eq_true rfl) (zk_c hr1) (zk_s hr1) (zk_rte (t := c :: r0) (L := L) (w := b) (p := p' + 1) ⟨ht, hft, u3, k1⟩ u1 (by omega) (zk_I_fs hfs4 (zk_I_fq hfq3 (zk_I_ap _ 3 hI))) (hBS.le (by omega) (by omega)) ⟨hdr1, by rw [List.length_cons]; omega, g3, rfl, g5⟩ (fun e1 ex2 sl2 s2 xa i2 x2 f2 Z2 => ?_) (fun hno z G k => zk_k_ry (k.ry (B' := B + 43) (S' := S + 210) (zk_xt_ap _ _) (hfq3.trans hfs4.fq) h53 (by omega) (by omega)) (K0 (hdfe.trans (if_neg (fun z => hno z.2))) z G (k.ry (zk_xt_ap _ _) (hfq3.trans hfs4.fq) h53 (by omega) (by omega)))))
          have hcell := x2 ex.length _ (zk_ap_new ex _)
          have hr2 := zk_I_r (hBS.le (by omega) (by omega)) i2
          have hxt : zk_xt ex (ex2.set ex.length (Sum.inr (6, [.int (c - 65), .int (nI L.length), .ref (xa + 37)]) : zm_E)) := fun i x hx => by
            rw [List.getElem?_set_ne (fun z => by subst z; rw [List.getElem?_eq_none (Nat.le_refl _)] at hx; cases hx)]
            exact x2 i x (zk_ap_old hx)
          have hX : zk_X (ex2.set ex.length (Sum.inr (6, [.int (c - 65), .int (nI L.length), .ref (xa + 37)]) : zm_E)) L 12 b xa := zk_X_up7 (fun i fs hx => by
            rw [List.getElem?_set_ne (fun z => by subst z; rw [hcell] at hx; cases hx)]
            exact hx) _ _ _ Z2
          show zm_J N _ 17 123 [(1, .int (c - 65)), (0, .ref 3)] [.ref (xa + 37), .int (nI L.length), .int (c - 65), .ref (ex.length + 37), .ref (ex.length + 37)] (zk_H R ex2 sl2 s2 r el f g' df) _
          refine zg_I (a := (ex.length + 37)) (av := [.int (c - 65), .int (nI L.length), .ref (xa + 37)]) (rest := [.ref (ex.length + 37)]) (v := none) (G2 := (zk_H R (ex2.set ex.length (Sum.inr (6, [.int (c - 65), .int (nI L.length), .ref (xa + 37)]) : zm_E)) sl2 s2 r el f g' df)) (zm_T.1 17 123 _ rfl).1 zc_17_123 (Nat.le_of_ble_eq_true rfl) (Nat.le_of_ble_eq_true rfl) (zk_c hr2) (zk_s hr2) (zk_di hcell) ?_
          show zm_J N _ 17 126 [(1, .int (c - 65)), (0, .ref 3)] [.ref (ex.length + 37)] (zk_H R (ex2.set ex.length (Sum.inr (6, [.int (c - 65), .int (nI L.length), .ref (xa + 37)]) : zm_E)) sl2 s2 r el f g' df) _
          exact zm_J_fin zm_T rfl rfl (K1 (c - 65) L b (hdfe.trans (if_pos ⟨he, e1⟩)) _ _ _ _ ex.length xa (zk_I_le (by omega) (by omega) (zk_I_set _ hcell rfl i2)) hxt ((hfq3.trans hfs4.fq).trans f2.fq) ((f2 5 (by decide) (by decide) (by decide)).trans h53) (zk_set_at _ hcell) hX)
/-- the definitions, one more -/
def zv_up (D : zv_D) (k : Nat) (x : Option (List Int32 × List Int32)) : zv_D := fun j => if j = k then x else D j
theorem zk_st6 {y : Nat} {fs : List Value} (h : ex[y]? = some (Sum.inr (6, fs) : zm_E)) : zm_sto 4 (.ref (y + 37)) (zk_H R ex sl s r el f g df) = true := by
  have h' : (zk_H R ex sl s r el f g df).1[y + 37]? = some (.inr (6, fs)) := h
  unfold zm_sto
  simp only [h']
  rfl
theorem zk_define (htt : zk_tt t f) (h5 : s 5 = nI t.length) (hd : 24 ≤ d) (hI : zk_I B S ex sl s el va ca ka q) (hBS : zk_BS (B + 43) (S + 210)) {D : zv_D} (hD : zk_D ex df D)
    (K1 : ∀ nm L b, zv_df t = some (nm, L, b) → ∀ ex' sl' s' g' df', zk_I (B + 43) (S + 210) ex' sl' s' el va ca ka q → zk_xt ex ex' → zk_fq s s' → s' 5 = 0 → zk_D ex' df' (zv_up D nm.toNatClampNeg (some (L, b))) → Q (.inl (some (.int (nI L.length)))) (zk_H R ex' sl' s' r el f g' df'))
    (K0 : zv_df t = none → ∀ z G, zk_RY (B + 43) (S + 210) R r el f df va ca ka q ex s z G → Q z G) : zm_J N d 16 0 [(0, .ref 2)] [] (zk_H R ex sl s r el f g df) Q := by
  obtain ⟨d, rfl⟩ : ∃ e, d = e + 1 := ⟨d - 1, by omega⟩
  have hr := zk_I_r (hBS.le (by omega) (by omega)) hI
  refine zm_J_run zm_T 2 (pc' := 4) (lv' := [(0, .ref 2)]) (st' := [.ref 3]) (G' := (zk_H R ex sl s r el f g df)) rfl ?_
  refine zg_VT (a := 3) (av := []) (rest := []) (zm_T.1 16 4 _ rfl).1 zc_16_4 rfl (zm_out0 rfl) (Nat.le_of_ble_eq_true rfl) (Nat.le_of_ble_eq_true rfl) (zk_c hr) (zk_s hr) (zk_rdf htt h5 (by omega) hI hBS (fun nm L b hdf ex' sl' s' g' y xa i1 x1 f1 h51 hc hX => ?_) (fun hno z G k => zk_k_ry k (K0 hno z G k)))
  have hr1 := zk_I_r hBS i1
  obtain ⟨n1, n2⟩ : 0 ≤ nm ∧ nm.toNatClampNeg < 6 := by
    cases t with
    | nil => cases hdf
    | cons c r0 =>
      have hdf : (if 65 ≤ c ∧ c ≤ 70 then _ else none) = some (nm, L, b) := hdf
      by_cases hnm : 65 ≤ c ∧ c ≤ 70
      · rw [if_pos hnm] at hdf
        have : nm = c - 65 := by
          split at hdf
          · cases hdf
          · split at hdf
            · cases Option.some.inj hdf; rfl
            · cases hdf
        rw [this]
        exact zv_name hnm
      · rw [if_neg hnm] at hdf; cases hdf
  have hnk := zi_nat n1
  generalize hk : nm.toNatClampNeg = k at *
  subst hnk
  have hD' : zk_D ex' (va_up df k (some (y + 37))) (zv_up D k (some (L, b))) := fun j hj => by
    by_cases hjk : j = k
    · subst hjk
      refine ⟨fun z => ?_, fun L' b' z => ?_⟩
      · unfold zv_up at z; rw [if_pos rfl] at z; cases z
      · unfold zv_up at z
        rw [if_pos rfl] at z
        cases Option.some.inj z
        exact ⟨y, xa, 12, if_pos rfl, hc, hX⟩
    · have e1 : va_up df k (some (y + 37)) j = df j := if_neg hjk
      have e2 : zv_up D k (some (L, b)) j = D j := if_neg hjk
      rw [e1, e2]
      exact zk_D_up x1.de hD j hj
  show zm_J N _ 16 7 [(0, .ref 2)] [.ref (y + 37)] (zk_H R ex' sl' s' r el f g' df) _
  refine zm_J_run zm_T 4 (pc' := 13) (lv' := [(1, .ref (y + 37)), (0, .ref 2)]) (st' := [.ref (y + 37), .ref 11]) (G' := (zk_H R ex' sl' s' r el f g' df)) rfl ?_
  refine zg_gf (fs := [.int (nI k), .int (nI L.length), .ref (xa + 37)]) rfl (zk_at hc) rfl ?_
  refine zm_J_run zm_T 1 (pc' := 17) (lv' := [(1, .ref (y + 37)), (0, .ref 2)]) (st' := [.ref (y + 37), .int (nI k), .ref 11]) (G' := (zk_H R ex' sl' s' r el f g' df)) rfl ?_
  refine zg_aast (t := 4) (n := 6) (f := df) (m := k) (G' := (zk_H R ex' sl' s' r el f g' (va_up df k (some (y + 37))))) rfl rfl rfl (zk_st6 hc) (by decide) rfl n2 (by decide) rfl ?_
  refine zm_J_run zm_T 1 (pc' := 19) (lv' := [(1, .ref (y + 37)), (0, .ref 2)]) (st' := [.ref (y + 37)]) (G' := (zk_H R ex' sl' s' r el f g' (va_up df k (some (y + 37))))) rfl ?_
  refine zg_gf (fs := [.int (nI k), .int (nI L.length), .ref (xa + 37)]) rfl (zk_at hc) rfl ?_
  exact zm_J_fin zm_T rfl rfl (K1 _ L b hdf ex' sl' s' g' _ i1 x1 f1 h51 (by rw [hk]; exact hD'))
end ZKX

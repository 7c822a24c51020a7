/-! THE REFERENCE: WORKING OUT WHOLE, AND ONE SIDE OF A RESULT -/
section ZRW
variable {N : zm_N} {d : Nat} {C : Nat → zm_E} {ex : List zm_E} {sl M : Nat} {s : Nat → Int32} {a : Nat → Nat → Int32} {Q : zm_O → zm_H → Prop} {D : zv_D}
theorem zr_work (hr : zr_r ex sl) (hd : 10 ≤ d) (hDw : zv_wD D) {w L : List Int32} {A : List Nat} {σ : zv_S} {j p e : Nat} (hS : zv_wS σ) (hok : zv_ok L w 1 = true) (hA : zv_wE σ.1.length L A) (hb : zv_b σ (zv_n w 1 + j) (zv_n w 1 + j)) (hSt : zr_St M σ s a) (hdf : zr_def M a D) (h12 : s 12 = 0) (htx : zr_tx M (a 1) p w) (he : zr_env a e L A) (hek : e < σ.2.1 ∨ L = [])
    (K : ∀ s' a', zr_out M (zv_E D 60 w L A σ) 0 σ.2.1 (zu s 31 0) a s' a' → Q (.inl none) (zr_H C ex sl s' a')) : zm_J N d 85 0 [(0, .ref 12), (1, .int (nI p)), (2, .int (nI e))] [] (zr_H C ex sl s a) Q := by
  obtain ⟨d, rfl⟩ : ∃ e, d = e + 10 := ⟨d - 10, by omega⟩
  refine zm_J_run zm_T 6 (pc' := 8) (lv' := [(0, .ref 12), (1, .int (nI p)), (2, .int (nI e))]) (st' := [.int (nI e), .int (nI p), .ref 12]) (G' := (zr_H C ex sl (zu s 31 0) a)) rfl ?_
  refine zg_V (a := 12) (av := [.int (nI p), .int (nI e)]) (rest := []) (v := none) (G2 := (zr_H C ex sl (zr_pS (zu s 31 0) 0) (zr_pA a 0 (nI p) (nI e)))) (zm_T.1 85 8 _ rfl).1 zc_85_8 rfl (Nat.le_of_ble_eq_true rfl) (Nat.le_of_ble_eq_true rfl) (zr_c hr) (zr_s hr) (zr_push (s := zu s 31 0) (D := 0) rfl (by omega) (nI p) (nI e)) ?_
  show zm_J N _ 85 11 [(0, .ref 12), (1, .int (nI p)), (2, .int (nI e))] [] (zr_H C ex sl (zr_pS (zu s 31 0) 0) (zr_pA a 0 (nI p) (nI e))) _
  refine zr_ev (p0 := nI p) (e0 := nI e) hr (by omega) hDw 60 (by omega) w L A σ j (zu s 31 0) a p e hS hok hA hb (hSt.up rfl rfl rfl rfl (fun _ _ => rfl)) hdf h12 rfl htx he hek (fun s' a' ho => zr_exit ?_ (K s' a' ho))
  obtain ⟨o1, o2⟩ := ho
  generalize zv_E D 60 w L A σ = y at o2
  obtain ⟨r, σ1⟩ := y
  cases r with
  | inl code =>
    have o2 : s' 12 = nI code ∧ (code = 2 ∨ code = 3 ∨ code = 4 ∨ code = 5) := o2
    refine Or.inr ?_
    rw [o2.1]
    exact nI_ne0 (by omega) (by omega)
  | inr v => exact Or.inl o2.2.1
theorem zr_sd_h0 (h : s 43 = 0) : zm_J N d 104 0 [(0, .ref 12), (1, .int 1)] [] (zr_H C ex sl s a) (zr_R C ex sl (some (.int 0)) (zu (zu s 12 1) 43 0) a) := by
  refine zm_J_run zm_T 4 (pc' := if (s 43) = 0 then 16 else 8) (lv' := [(0, .ref 12), (1, .int 1)]) (st' := [.ref 12]) (G' := (zr_H C ex sl s a)) rfl ?_
  rw [if_pos (show (s 43) = 0 from h)]
  refine zm_J_run zm_T 12 (pc' := 219) (lv' := [(0, .ref 12), (1, .int 1)]) (st' := [.int 2, .ref 12]) (G' := (zr_H C ex sl (zu s 12 2) a)) rfl ?_
  refine zm_J_run zm_T 2 (pc' := 221) (lv' := [(0, .ref 12), (1, .int 1)]) (st' := [.int ((2 : Int32) - 1), .ref 12]) (G' := (zr_H C ex sl (zu s 12 2) a)) rfl ?_
  rw [show (2 : Int32) - 1 = 1 from by decide]
  show zm_J N _ 104 221 [(0, .ref 12), (1, .int 1)] [.int 1, .ref 12] (zr_H C ex sl (zu s 12 2) a) _
  refine zm_J_run zm_T 5 (pc' := 230) (lv' := [(0, .ref 12), (1, .int 1)]) (st' := [.int 0]) (G' := (zr_H C ex sl (zu (zu s 12 1) 43 0) a)) rfl ?_
  exact zm_J_fin zm_T rfl rfl ⟨rfl, rfl⟩
theorem zr_sd_h1 (h : s 43 = 1) (h2 : s 40 = 1) : zm_J N d 104 0 [(0, .ref 12), (1, .int 1)] [] (zr_H C ex sl s a) (zr_R C ex sl (some (.int 0)) (zu (zu s 12 1) 43 0) a) := by
  refine zm_J_run zm_T 4 (pc' := if (s 43) = 0 then 16 else 8) (lv' := [(0, .ref 12), (1, .int 1)]) (st' := [.ref 12]) (G' := (zr_H C ex sl s a)) rfl ?_
  rw [if_neg (show ¬ ((s 43) = 0) from by rw [h]; decide)]
  refine zm_J_run zm_T 4 (pc' := if (s 40) = 1 then 16 else 20) (lv' := [(0, .ref 12), (1, .int 1)]) (st' := [.ref 12]) (G' := (zr_H C ex sl s a)) rfl ?_
  rw [if_pos (show (s 40) = 1 from h2)]
  refine zm_J_run zm_T 12 (pc' := 219) (lv' := [(0, .ref 12), (1, .int 1)]) (st' := [.int 2, .ref 12]) (G' := (zr_H C ex sl (zu s 12 2) a)) rfl ?_
  refine zm_J_run zm_T 2 (pc' := 221) (lv' := [(0, .ref 12), (1, .int 1)]) (st' := [.int ((2 : Int32) - 1), .ref 12]) (G' := (zr_H C ex sl (zu s 12 2) a)) rfl ?_
  rw [show (2 : Int32) - 1 = 1 from by decide]
  show zm_J N _ 104 221 [(0, .ref 12), (1, .int 1)] [.int 1, .ref 12] (zr_H C ex sl (zu s 12 2) a) _
  refine zm_J_run zm_T 5 (pc' := 230) (lv' := [(0, .ref 12), (1, .int 1)]) (st' := [.int 0]) (G' := (zr_H C ex sl (zu (zu s 12 1) 43 0) a)) rfl ?_
  exact zm_J_fin zm_T rfl rfl ⟨rfl, rfl⟩
theorem zr_sd_h5 (h : s 43 = 1) (h2 : ¬ s 40 = 1) (h3 : ¬ s 40 = 2) : zm_J N d 104 0 [(0, .ref 12), (1, .int 1)] [] (zr_H C ex sl s a) (zr_R C ex sl (some (.int 0)) (zu (zu s 12 4) 43 0) a) := by
  refine zm_J_run zm_T 4 (pc' := if (s 43) = 0 then 16 else 8) (lv' := [(0, .ref 12), (1, .int 1)]) (st' := [.ref 12]) (G' := (zr_H C ex sl s a)) rfl ?_
  rw [if_neg (show ¬ ((s 43) = 0) from by rw [h]; decide)]
  refine zm_J_run zm_T 4 (pc' := if (s 40) = 1 then 16 else 20) (lv' := [(0, .ref 12), (1, .int 1)]) (st' := [.ref 12]) (G' := (zr_H C ex sl s a)) rfl ?_
  rw [if_neg (show ¬ ((s 40) = 1) from h2)]
  refine zm_J_run zm_T 4 (pc' := if (s 40) = 2 then 32 else 28) (lv' := [(0, .ref 12), (1, .int 1)]) (st' := [.ref 12]) (G' := (zr_H C ex sl s a)) rfl ?_
  rw [if_neg (show ¬ ((s 40) = 2) from h3)]
  refine zm_J_run zm_T 12 (pc' := 219) (lv' := [(0, .ref 12), (1, .int 1)]) (st' := [.int 5, .ref 12]) (G' := (zr_H C ex sl (zu s 12 5) a)) rfl ?_
  refine zm_J_run zm_T 2 (pc' := 221) (lv' := [(0, .ref 12), (1, .int 1)]) (st' := [.int ((5 : Int32) - 1), .ref 12]) (G' := (zr_H C ex sl (zu s 12 5) a)) rfl ?_
  rw [show (5 : Int32) - 1 = 4 from by decide]
  show zm_J N _ 104 221 [(0, .ref 12), (1, .int 1)] [.int 4, .ref 12] (zr_H C ex sl (zu s 12 5) a) _
  refine zm_J_run zm_T 5 (pc' := 230) (lv' := [(0, .ref 12), (1, .int 1)]) (st' := [.int 0]) (G' := (zr_H C ex sl (zu (zu s 12 4) 43 0) a)) rfl ?_
  exact zm_J_fin zm_T rfl rfl ⟨rfl, rfl⟩
theorem zr_sd_h2 {c : Nat} (hc : c < 16400) (h : s 43 = 1) (h2 : s 40 = 2) (h3 : s 41 = nI c) (h10 : a 10 c = 2) (hk : a 11 c = 0) : zm_J N d 104 0 [(0, .ref 12), (1, .int 1)] [] (zr_H C ex sl s a) (zr_R C ex sl (some (.int 1)) (zu (zu (zu (zu (zu s 12 0) 36 (s 36 + 1)) 37 (a 11 c)) 38 (a 12 c)) 39 (a 13 c)) a) := by
  refine zm_J_run zm_T 4 (pc' := if (s 43) = 0 then 16 else 8) (lv' := [(0, .ref 12), (1, .int 1)]) (st' := [.ref 12]) (G' := (zr_H C ex sl s a)) rfl ?_
  rw [if_neg (show ¬ ((s 43) = 0) from by rw [h]; decide)]
  refine zm_J_run zm_T 4 (pc' := if (s 40) = 1 then 16 else 20) (lv' := [(0, .ref 12), (1, .int 1)]) (st' := [.ref 12]) (G' := (zr_H C ex sl s a)) rfl ?_
  rw [if_neg (show ¬ ((s 40) = 1) from by rw [h2]; decide)]
  refine zm_J_run zm_T 4 (pc' := if (s 40) = 2 then 32 else 28) (lv' := [(0, .ref 12), (1, .int 1)]) (st' := [.ref 12]) (G' := (zr_H C ex sl s a)) rfl ?_
  rw [if_pos (show (s 40) = 2 from h2)]
  refine zm_J_run zm_T 11 (pc' := 59) (lv' := [(2, .int (s 41)), (0, .ref 12), (1, .int 1)]) (st' := []) (G' := (zr_H C ex sl (zu s 12 0) a)) rfl ?_
  rw [show (.int (s 41) : Value) = .int (nI c) from congrArg Value.int h3]
  show zm_J N _ 104 59 [(2, .int (nI c)), (0, .ref 12), (1, .int 1)] [] (zr_H C ex sl (zu s 12 0) a) _
  refine zm_J_run zm_T 3 (pc' := 64) (lv' := [(2, .int (nI c)), (0, .ref 12), (1, .int 1)]) (st' := [.int (nI c), .ref 23]) (G' := (zr_H C ex sl (zu s 12 0) a)) rfl ?_
  refine zg_ald (i := .iaload) (t := 0) (n := 16400) (f := a 10) (m := c) rfl rfl rfl rfl rfl (by omega) (by decide) ?_
  rw [show a 10 c = 2 from h10]
  refine zm_J_run zm_T 12 (pc' := 157) (lv' := [(2, .int (nI c)), (0, .ref 12), (1, .int 1)]) (st' := [.ref 24, .ref 12]) (G' := (zr_H C ex sl (zu (zu s 12 0) 36 ((s 36) + 1)) a)) rfl ?_
  refine zm_J_run zm_T 1 (pc' := 158) (lv' := [(2, .int (nI c)), (0, .ref 12), (1, .int 1)]) (st' := [.int (nI c), .ref 24, .ref 12]) (G' := (zr_H C ex sl (zu (zu s 12 0) 36 ((s 36) + 1)) a)) rfl ?_
  refine zg_ald (i := .iaload) (t := 0) (n := 16400) (f := a 11) (m := c) rfl rfl rfl rfl rfl (by omega) (by decide) ?_
  refine zm_J_run zm_T 5 (pc' := 168) (lv' := [(2, .int (nI c)), (0, .ref 12), (1, .int 1)]) (st' := [.int (nI c), .ref 25, .ref 12]) (G' := (zr_H C ex sl (zu (zu (zu s 12 0) 36 ((s 36) + 1)) 37 (a 11 c)) a)) rfl ?_
  refine zg_ald (i := .iaload) (t := 0) (n := 16400) (f := a 12) (m := c) rfl rfl rfl rfl rfl (by omega) (by decide) ?_
  refine zm_J_run zm_T 5 (pc' := 178) (lv' := [(2, .int (nI c)), (0, .ref 12), (1, .int 1)]) (st' := [.int (nI c), .ref 26, .ref 12]) (G' := (zr_H C ex sl (zu (zu (zu (zu s 12 0) 36 ((s 36) + 1)) 37 (a 11 c)) 38 (a 12 c)) a)) rfl ?_
  refine zg_ald (i := .iaload) (t := 0) (n := 16400) (f := a 13) (m := c) rfl rfl rfl rfl rfl (by omega) (by decide) ?_
  refine zm_J_run zm_T 9 (pc' := if (a 11 c) = 0 then 205 else 200) (lv' := [(2, .int (nI c)), (0, .ref 12), (1, .int 1)]) (st' := []) (G' := (zr_H C ex sl (zu (zu (zu (zu (zu s 12 0) 36 ((s 36) + 1)) 37 (a 11 c)) 38 (a 12 c)) 39 (a 13 c)) a)) rfl ?_
  rw [if_pos (show (a 11 c) = 0 from hk)]
  refine zm_J_run zm_T 4 (pc' := 213) (lv' := [(2, .int (nI c)), (0, .ref 12), (1, .int 1)]) (st' := [.int 1]) (G' := (zr_H C ex sl (zu (zu (zu (zu (zu s 12 0) 36 ((s 36) + 1)) 37 (a 11 c)) 38 (a 12 c)) 39 (a 13 c)) a)) rfl ?_
  exact zm_J_fin zm_T rfl rfl ⟨rfl, rfl⟩
theorem zr_sd_h3 {c : Nat} (hc : c < 16400) (h : s 43 = 1) (h2 : s 40 = 2) (h3 : s 41 = nI c) (h10 : a 10 c = 2) (hk : ¬ a 11 c = 0) : zm_J N d 104 0 [(0, .ref 12), (1, .int 1)] [] (zr_H C ex sl s a) (zr_R C ex sl (some (.int 0)) (zu (zu (zu (zu (zu (zu s 36 (s 36 + 1)) 37 (a 11 c)) 38 (a 12 c)) 39 (a 13 c)) 12 4) 43 0) a) := by
  refine zm_J_run zm_T 4 (pc' := if (s 43) = 0 then 16 else 8) (lv' := [(0, .ref 12), (1, .int 1)]) (st' := [.ref 12]) (G' := (zr_H C ex sl s a)) rfl ?_
  rw [if_neg (show ¬ ((s 43) = 0) from by rw [h]; decide)]
  refine zm_J_run zm_T 4 (pc' := if (s 40) = 1 then 16 else 20) (lv' := [(0, .ref 12), (1, .int 1)]) (st' := [.ref 12]) (G' := (zr_H C ex sl s a)) rfl ?_
  rw [if_neg (show ¬ ((s 40) = 1) from by rw [h2]; decide)]
  refine zm_J_run zm_T 4 (pc' := if (s 40) = 2 then 32 else 28) (lv' := [(0, .ref 12), (1, .int 1)]) (st' := [.ref 12]) (G' := (zr_H C ex sl s a)) rfl ?_
  rw [if_pos (show (s 40) = 2 from h2)]
  refine zm_J_run zm_T 11 (pc' := 59) (lv' := [(2, .int (s 41)), (0, .ref 12), (1, .int 1)]) (st' := []) (G' := (zr_H C ex sl (zu s 12 0) a)) rfl ?_
  rw [show (.int (s 41) : Value) = .int (nI c) from congrArg Value.int h3]
  show zm_J N _ 104 59 [(2, .int (nI c)), (0, .ref 12), (1, .int 1)] [] (zr_H C ex sl (zu s 12 0) a) _
  refine zm_J_run zm_T 3 (pc' := 64) (lv' := [(2, .int (nI c)), (0, .ref 12), (1, .int 1)]) (st' := [.int (nI c), .ref 23]) (G' := (zr_H C ex sl (zu s 12 0) a)) rfl ?_
  refine zg_ald (i := .iaload) (t := 0) (n := 16400) (f := a 10) (m := c) rfl rfl rfl rfl rfl (by omega) (by decide) ?_
  rw [show a 10 c = 2 from h10]
  refine zm_J_run zm_T 12 (pc' := 157) (lv' := [(2, .int (nI c)), (0, .ref 12), (1, .int 1)]) (st' := [.ref 24, .ref 12]) (G' := (zr_H C ex sl (zu (zu s 12 0) 36 ((s 36) + 1)) a)) rfl ?_
  refine zm_J_run zm_T 1 (pc' := 158) (lv' := [(2, .int (nI c)), (0, .ref 12), (1, .int 1)]) (st' := [.int (nI c), .ref 24, .ref 12]) (G' := (zr_H C ex sl (zu (zu s 12 0) 36 ((s 36) + 1)) a)) rfl ?_
  refine zg_ald (i := .iaload) (t := 0) (n := 16400) (f := a 11) (m := c) rfl rfl rfl rfl rfl (by omega) (by decide) ?_
  refine zm_J_run zm_T 5 (pc' := 168) (lv' := [(2, .int (nI c)), (0, .ref 12), (1, .int 1)]) (st' := [.int (nI c), .ref 25, .ref 12]) (G' := (zr_H C ex sl (zu (zu (zu s 12 0) 36 ((s 36) + 1)) 37 (a 11 c)) a)) rfl ?_
  refine zg_ald (i := .iaload) (t := 0) (n := 16400) (f := a 12) (m := c) rfl rfl rfl rfl rfl (by omega) (by decide) ?_
  refine zm_J_run zm_T 5 (pc' := 178) (lv' := [(2, .int (nI c)), (0, .ref 12), (1, .int 1)]) (st' := [.int (nI c), .ref 26, .ref 12]) (G' := (zr_H C ex sl (zu (zu (zu (zu s 12 0) 36 ((s 36) + 1)) 37 (a 11 c)) 38 (a 12 c)) a)) rfl ?_
  refine zg_ald (i := .iaload) (t := 0) (n := 16400) (f := a 13) (m := c) rfl rfl rfl rfl rfl (by omega) (by decide) ?_
  refine zm_J_run zm_T 9 (pc' := if (a 11 c) = 0 then 205 else 200) (lv' := [(2, .int (nI c)), (0, .ref 12), (1, .int 1)]) (st' := []) (G' := (zr_H C ex sl (zu (zu (zu (zu (zu s 12 0) 36 ((s 36) + 1)) 37 (a 11 c)) 38 (a 12 c)) 39 (a 13 c)) a)) rfl ?_
  rw [if_neg (show ¬ ((a 11 c) = 0) from hk)]
  refine zm_J_run zm_T 11 (pc' := 221) (lv' := [(2, .int (nI c)), (0, .ref 12), (1, .int 1)]) (st' := [.int ((5 : Int32) - 1), .ref 12]) (G' := (zr_H C ex sl (zu (zu (zu (zu (zu s 36 ((s 36) + 1)) 37 (a 11 c)) 38 (a 12 c)) 39 (a 13 c)) 12 5) a)) rfl ?_
  rw [show (5 : Int32) - 1 = 4 from by decide]
  show zm_J N _ 104 221 [(2, .int (nI c)), (0, .ref 12), (1, .int 1)] [.int 4, .ref 12] (zr_H C ex sl (zu (zu (zu (zu (zu s 36 ((s 36) + 1)) 37 (a 11 c)) 38 (a 12 c)) 39 (a 13 c)) 12 5) a) _
  refine zm_J_run zm_T 5 (pc' := 230) (lv' := [(2, .int (nI c)), (0, .ref 12), (1, .int 1)]) (st' := [.int 0]) (G' := (zr_H C ex sl (zu (zu (zu (zu (zu (zu s 36 ((s 36) + 1)) 37 (a 11 c)) 38 (a 12 c)) 39 (a 13 c)) 12 4) 43 0) a)) rfl ?_
  exact zm_J_fin zm_T rfl rfl ⟨rfl, rfl⟩
/-- a side that wasn't FORCED -/
theorem zr_sd_hw (hr : zr_r ex sl) (hd : 11 ≤ d) {c : Nat} (hc : c < 16400) (h : s 43 = 1) (h2 : s 40 = 2) (h3 : s 41 = nI c) (h10 : a 10 c = 0) {p e : Nat} (h8 : a 8 c = nI p) (h9 : a 9 c = nI e)
    (K : ∀ Q1 : zm_O → zm_H → Prop, (∀ s' a', (s' 12 = 0 → s' 37 = 0 → zm_J N d 104 205 [(2, .int (nI c)), (0, .ref 12), (1, .int 1)] [] (zr_H C ex sl (zu (zu (zu s' 37 (s' 37)) 38 (s' 38)) 39 (s' 39)) (zr_kA a' c s')) Q) → (s' 12 = 0 → ¬ s' 37 = 0 → zm_J N d 104 205 [(2, .int (nI c)), (0, .ref 12), (1, .int 1)] [] (zr_H C ex sl (zu (zu (zu (zu s' 37 (s' 37)) 38 (s' 38)) 39 (s' 39)) 12 5) (zr_kA a' c s')) Q) → (¬ s' 12 = 0 → zm_J N d 104 205 [(2, .int (nI c)), (0, .ref 12), (1, .int 1)] [] (zr_H C ex sl (zu (zu (zu s' 37 (s' 37)) 38 (s' 38)) 39 (s' 39)) (zr_kA a' c s')) Q) → Q1 (.inl none) (zr_H C ex sl s' a')) → zm_J N (d - 1) 85 0 [(0, .ref 12), (1, .int (nI p)), (2, .int (nI e))] [] (zr_H C ex sl (zu (zu s 12 0) 35 (s 35 + 1)) (zu a 10 (upd (a 10) c 1))) Q1) : zm_J N d 104 0 [(0, .ref 12), (1, .int 1)] [] (zr_H C ex sl s a) Q := by
  obtain ⟨d, rfl⟩ : ∃ e, d = e + 11 := ⟨d - 11, by omega⟩
  refine zm_J_run zm_T 4 (pc' := if (s 43) = 0 then 16 else 8) (lv' := [(0, .ref 12), (1, .int 1)]) (st' := [.ref 12]) (G' := (zr_H C ex sl s a)) rfl ?_
  rw [if_neg (show ¬ ((s 43) = 0) from by rw [h]; decide)]
  refine zm_J_run zm_T 4 (pc' := if (s 40) = 1 then 16 else 20) (lv' := [(0, .ref 12), (1, .int 1)]) (st' := [.ref 12]) (G' := (zr_H C ex sl s a)) rfl ?_
  rw [if_neg (show ¬ ((s 40) = 1) from by rw [h2]; decide)]
  refine zm_J_run zm_T 4 (pc' := if (s 40) = 2 then 32 else 28) (lv' := [(0, .ref 12), (1, .int 1)]) (st' := [.ref 12]) (G' := (zr_H C ex sl s a)) rfl ?_
  rw [if_pos (show (s 40) = 2 from h2)]
  refine zm_J_run zm_T 11 (pc' := 59) (lv' := [(2, .int (s 41)), (0, .ref 12), (1, .int 1)]) (st' := []) (G' := (zr_H C ex sl (zu s 12 0) a)) rfl ?_
  rw [show (.int (s 41) : Value) = .int (nI c) from congrArg Value.int h3]
  show zm_J N _ 104 59 [(2, .int (nI c)), (0, .ref 12), (1, .int 1)] [] (zr_H C ex sl (zu s 12 0) a) _
  refine zm_J_run zm_T 3 (pc' := 64) (lv' := [(2, .int (nI c)), (0, .ref 12), (1, .int 1)]) (st' := [.int (nI c), .ref 23]) (G' := (zr_H C ex sl (zu s 12 0) a)) rfl ?_
  refine zg_ald (i := .iaload) (t := 0) (n := 16400) (f := a 10) (m := c) rfl rfl rfl rfl rfl (by omega) (by decide) ?_
  rw [show a 10 c = 0 from h10]
  refine zm_J_run zm_T 12 (pc' := 98) (lv' := [(2, .int (nI c)), (0, .ref 12), (1, .int 1)]) (st' := [.int 1, .int (nI c), .ref 23]) (G' := (zr_H C ex sl (zu (zu s 12 0) 35 ((s 35) + 1)) a)) rfl ?_
  refine zg_ast (i := .iastore) (t := 0) (n := 16400) (f := a 10) (m := c) (v' := 1) (G' := (zr_H C ex sl (zu (zu s 12 0) 35 ((s 35) + 1)) (zu a 10 (upd (a 10) c 1)))) rfl rfl rfl rfl (by decide) rfl (by omega) (by decide) rfl ?_
  refine zm_J_run zm_T 4 (pc' := 105) (lv' := [(2, .int (nI c)), (0, .ref 12), (1, .int 1)]) (st' := [.int (nI c), .ref 21, .ref 12]) (G' := (zr_H C ex sl (zu (zu s 12 0) 35 ((s 35) + 1)) (zu a 10 (upd (a 10) c 1)))) rfl ?_
  refine zg_ald (i := .iaload) (t := 0) (n := 16400) (f := a 8) (m := c) rfl rfl rfl rfl rfl (by omega) (by decide) ?_
  rw [show a 8 c = nI p from h8]
  refine zm_J_run zm_T 3 (pc' := 111) (lv' := [(2, .int (nI c)), (0, .ref 12), (1, .int 1)]) (st' := [.int (nI c), .ref 22, .int (nI p), .ref 12]) (G' := (zr_H C ex sl (zu (zu s 12 0) 35 ((s 35) + 1)) (zu a 10 (upd (a 10) c 1)))) rfl ?_
  refine zg_ald (i := .iaload) (t := 0) (n := 16400) (f := a 9) (m := c) rfl rfl rfl rfl rfl (by omega) (by decide) ?_
  rw [show a 9 c = nI e from h9]

  refine zm_J_V (a := 12) (av := [.int (nI p), .int (nI e)]) (rest := []) (zm_T.1 104 112 _ rfl).1 zc_104_112 rfl (Nat.le_of_ble_eq_true rfl) (Nat.le_of_ble_eq_true rfl) (zr_c hr) (zr_s hr) (K (fun z G' => z = .inl none ∧ ∃ s' a', G' = zr_H C ex sl s' a' ∧ (s' 12 = 0 → s' 37 = 0 → zm_J N (d + 11) 104 205 [(2, .int (nI c)), (0, .ref 12), (1, .int 1)] [] (zr_H C ex sl (zu (zu (zu s' 37 (s' 37)) 38 (s' 38)) 39 (s' 39)) (zr_kA a' c s')) Q) ∧ (s' 12 = 0 → ¬ s' 37 = 0 → zm_J N (d + 11) 104 205 [(2, .int (nI c)), (0, .ref 12), (1, .int 1)] [] (zr_H C ex sl (zu (zu (zu (zu s' 37 (s' 37)) 38 (s' 38)) 39 (s' 39)) 12 5) (zr_kA a' c s')) Q) ∧ (¬ s' 12 = 0 → zm_J N (d + 11) 104 205 [(2, .int (nI c)), (0, .ref 12), (1, .int 1)] [] (zr_H C ex sl (zu (zu (zu s' 37 (s' 37)) 38 (s' 38)) 39 (s' 39)) (zr_kA a' c s')) Q)) (fun s' a' k1 k2 k3 => ⟨rfl, s', a', rfl, k1, k2, k3⟩)) ?_ ?_
  rotate_left
  · intro x G' h; exact nomatch h.1
  intro v G' h
  obtain ⟨h1, s', a', rfl, k1, k2, k3⟩ := h
  cases Sum.inl.inj h1
  show zm_J N _ 104 115 [(2, .int (nI c)), (0, .ref 12), (1, .int 1)] [] (zr_H C ex sl s' a') _
  refine zm_J_run zm_T 4 (pc' := 121) (lv' := [(2, .int (nI c)), (0, .ref 12), (1, .int 1)]) (st' := [.int 2, .int (nI c), .ref 23]) (G' := (zr_H C ex sl s' a')) rfl ?_
  refine zg_ast (i := .iastore) (t := 0) (n := 16400) (f := a' 10) (m := c) (v' := 2) (G' := (zr_H C ex sl s' (zu a' 10 (upd (a' 10) c 2)))) rfl rfl rfl rfl (by decide) rfl (by omega) (by decide) rfl ?_
  refine zm_J_run zm_T 5 (pc' := 131) (lv' := [(2, .int (nI c)), (0, .ref 12), (1, .int 1)]) (st' := [.int (s' 37), .int (nI c), .ref 24]) (G' := (zr_H C ex sl s' (zu a' 10 (upd (a' 10) c 2)))) rfl ?_
  refine zg_ast (i := .iastore) (t := 0) (n := 16400) (f := a' 11) (m := c) (v' := (s' 37)) (G' := (zr_H C ex sl s' (zu (zu a' 10 (upd (a' 10) c 2)) 11 (upd (a' 11) c (s' 37))))) rfl rfl rfl rfl (by decide) rfl (by omega) (by decide) rfl ?_
  refine zm_J_run zm_T 5 (pc' := 141) (lv' := [(2, .int (nI c)), (0, .ref 12), (1, .int 1)]) (st' := [.int (s' 38), .int (nI c), .ref 25]) (G' := (zr_H C ex sl s' (zu (zu a' 10 (upd (a' 10) c 2)) 11 (upd (a' 11) c (s' 37))))) rfl ?_
  refine zg_ast (i := .iastore) (t := 0) (n := 16400) (f := a' 12) (m := c) (v' := (s' 38)) (G' := (zr_H C ex sl s' (zu (zu (zu a' 10 (upd (a' 10) c 2)) 11 (upd (a' 11) c (s' 37))) 12 (upd (a' 12) c (s' 38))))) rfl rfl rfl rfl (by decide) rfl (by omega) (by decide) rfl ?_
  refine zm_J_run zm_T 5 (pc' := 151) (lv' := [(2, .int (nI c)), (0, .ref 12), (1, .int 1)]) (st' := [.int (s' 39), .int (nI c), .ref 26]) (G' := (zr_H C ex sl s' (zu (zu (zu a' 10 (upd (a' 10) c 2)) 11 (upd (a' 11) c (s' 37))) 12 (upd (a' 12) c (s' 38))))) rfl ?_
  refine zg_ast (i := .iastore) (t := 0) (n := 16400) (f := a' 13) (m := c) (v' := (s' 39)) (G' := (zr_H C ex sl s' (zu (zu (zu (zu a' 10 (upd (a' 10) c 2)) 11 (upd (a' 11) c (s' 37))) 12 (upd (a' 12) c (s' 38))) 13 (upd (a' 13) c (s' 39))))) rfl rfl rfl rfl (by decide) rfl (by omega) (by decide) rfl ?_
  refine zm_J_run zm_T 4 (pc' := 158) (lv' := [(2, .int (nI c)), (0, .ref 12), (1, .int 1)]) (st' := [.int (nI c), .ref 24, .ref 12]) (G' := (zr_H C ex sl s' (zu (zu (zu (zu a' 10 (upd (a' 10) c 2)) 11 (upd (a' 11) c (s' 37))) 12 (upd (a' 12) c (s' 38))) 13 (upd (a' 13) c (s' 39))))) rfl ?_
  refine zg_ald (i := .iaload) (t := 0) (n := 16400) (f := upd (a' 11) c (s' 37)) (m := c) rfl rfl rfl rfl rfl (by omega) (by decide) ?_
  rw [show (upd (a' 11) c (s' 37)) c = s' 37 from zi_upd _ c _]
  refine zm_J_run zm_T 5 (pc' := 168) (lv' := [(2, .int (nI c)), (0, .ref 12), (1, .int 1)]) (st' := [.int (nI c), .ref 25, .ref 12]) (G' := (zr_H C ex sl (zu s' 37 (s' 37)) (zu (zu (zu (zu a' 10 (upd (a' 10) c 2)) 11 (upd (a' 11) c (s' 37))) 12 (upd (a' 12) c (s' 38))) 13 (upd (a' 13) c (s' 39))))) rfl ?_
  refine zg_ald (i := .iaload) (t := 0) (n := 16400) (f := upd (a' 12) c (s' 38)) (m := c) rfl rfl rfl rfl rfl (by omega) (by decide) ?_
  rw [show (upd (a' 12) c (s' 38)) c = s' 38 from zi_upd _ c _]
  refine zm_J_run zm_T 5 (pc' := 178) (lv' := [(2, .int (nI c)), (0, .ref 12), (1, .int 1)]) (st' := [.int (nI c), .ref 26, .ref 12]) (G' := (zr_H C ex sl (zu (zu s' 37 (s' 37)) 38 (s' 38)) (zu (zu (zu (zu a' 10 (upd (a' 10) c 2)) 11 (upd (a' 11) c (s' 37))) 12 (upd (a' 12) c (s' 38))) 13 (upd (a' 13) c (s' 39))))) rfl ?_
  refine zg_ald (i := .iaload) (t := 0) (n := 16400) (f := upd (a' 13) c (s' 39)) (m := c) rfl rfl rfl rfl rfl (by omega) (by decide) ?_
  rw [show (upd (a' 13) c (s' 39)) c = s' 39 from zi_upd _ c _]
  refine zm_J_run zm_T 4 (pc' := if (s' 12) = 0 then 189 else 205) (lv' := [(2, .int (nI c)), (0, .ref 12), (1, .int 1)]) (st' := []) (G' := (zr_H C ex sl (zu (zu (zu s' 37 (s' 37)) 38 (s' 38)) 39 (s' 39)) (zu (zu (zu (zu a' 10 (upd (a' 10) c 2)) 11 (upd (a' 11) c (s' 37))) 12 (upd (a' 12) c (s' 38))) 13 (upd (a' 13) c (s' 39))))) rfl ?_
  by_cases hz : (s' 12) = 0
  · rw [if_pos hz]
    refine zm_J_run zm_T 5 (pc' := if (s' 37) = 0 then 205 else 200) (lv' := [(2, .int (nI c)), (0, .ref 12), (1, .int 1)]) (st' := []) (G' := (zr_H C ex sl (zu (zu (zu s' 37 (s' 37)) 38 (s' 38)) 39 (s' 39)) (zu (zu (zu (zu a' 10 (upd (a' 10) c 2)) 11 (upd (a' 11) c (s' 37))) 12 (upd (a' 12) c (s' 38))) 13 (upd (a' 13) c (s' 39))))) rfl ?_
    by_cases hk : (s' 37) = 0
    · rw [if_pos hk]
      exact k1 hz hk
    · rw [if_neg hk]
      refine zm_J_run zm_T 3 (pc' := 205) (lv' := [(2, .int (nI c)), (0, .ref 12), (1, .int 1)]) (st' := []) (G' := (zr_H C ex sl (zu (zu (zu (zu s' 37 (s' 37)) 38 (s' 38)) 39 (s' 39)) 12 5) (zu (zu (zu (zu a' 10 (upd (a' 10) c 2)) 11 (upd (a' 11) c (s' 37))) 12 (upd (a' 12) c (s' 38))) 13 (upd (a' 13) c (s' 39))))) rfl ?_
      exact k2 hz hk
  · rw [if_neg hz]
    exact k3 hz
theorem zr_sd_t0 (h : s 43 = 0) : zm_J N d 104 0 [(0, .ref 12), (1, .int 0)] [] (zr_H C ex sl s a) (zr_R C ex sl (some (.int 0)) (zu (zu s 12 1) 43 0) a) := by
  refine zm_J_run zm_T 4 (pc' := if (s 43) = 0 then 16 else 8) (lv' := [(0, .ref 12), (1, .int 0)]) (st' := [.ref 12]) (G' := (zr_H C ex sl s a)) rfl ?_
  rw [if_pos (show (s 43) = 0 from h)]
  refine zm_J_run zm_T 12 (pc' := 219) (lv' := [(0, .ref 12), (1, .int 0)]) (st' := [.int 2, .ref 12]) (G' := (zr_H C ex sl (zu s 12 2) a)) rfl ?_
  refine zm_J_run zm_T 2 (pc' := 221) (lv' := [(0, .ref 12), (1, .int 0)]) (st' := [.int ((2 : Int32) - 1), .ref 12]) (G' := (zr_H C ex sl (zu s 12 2) a)) rfl ?_
  rw [show (2 : Int32) - 1 = 1 from by decide]
  show zm_J N _ 104 221 [(0, .ref 12), (1, .int 0)] [.int 1, .ref 12] (zr_H C ex sl (zu s 12 2) a) _
  refine zm_J_run zm_T 5 (pc' := 230) (lv' := [(0, .ref 12), (1, .int 0)]) (st' := [.int 0]) (G' := (zr_H C ex sl (zu (zu s 12 1) 43 0) a)) rfl ?_
  exact zm_J_fin zm_T rfl rfl ⟨rfl, rfl⟩
theorem zr_sd_t1 (h : s 43 = 1) (h2 : s 40 = 1) : zm_J N d 104 0 [(0, .ref 12), (1, .int 0)] [] (zr_H C ex sl s a) (zr_R C ex sl (some (.int 0)) (zu (zu s 12 1) 43 0) a) := by
  refine zm_J_run zm_T 4 (pc' := if (s 43) = 0 then 16 else 8) (lv' := [(0, .ref 12), (1, .int 0)]) (st' := [.ref 12]) (G' := (zr_H C ex sl s a)) rfl ?_
  rw [if_neg (show ¬ ((s 43) = 0) from by rw [h]; decide)]
  refine zm_J_run zm_T 4 (pc' := if (s 40) = 1 then 16 else 20) (lv' := [(0, .ref 12), (1, .int 0)]) (st' := [.ref 12]) (G' := (zr_H C ex sl s a)) rfl ?_
  rw [if_pos (show (s 40) = 1 from h2)]
  refine zm_J_run zm_T 12 (pc' := 219) (lv' := [(0, .ref 12), (1, .int 0)]) (st' := [.int 2, .ref 12]) (G' := (zr_H C ex sl (zu s 12 2) a)) rfl ?_
  refine zm_J_run zm_T 2 (pc' := 221) (lv' := [(0, .ref 12), (1, .int 0)]) (st' := [.int ((2 : Int32) - 1), .ref 12]) (G' := (zr_H C ex sl (zu s 12 2) a)) rfl ?_
  rw [show (2 : Int32) - 1 = 1 from by decide]
  show zm_J N _ 104 221 [(0, .ref 12), (1, .int 0)] [.int 1, .ref 12] (zr_H C ex sl (zu s 12 2) a) _
  refine zm_J_run zm_T 5 (pc' := 230) (lv' := [(0, .ref 12), (1, .int 0)]) (st' := [.int 0]) (G' := (zr_H C ex sl (zu (zu s 12 1) 43 0) a)) rfl ?_
  exact zm_J_fin zm_T rfl rfl ⟨rfl, rfl⟩
theorem zr_sd_t5 (h : s 43 = 1) (h2 : ¬ s 40 = 1) (h3 : ¬ s 40 = 2) : zm_J N d 104 0 [(0, .ref 12), (1, .int 0)] [] (zr_H C ex sl s a) (zr_R C ex sl (some (.int 0)) (zu (zu s 12 4) 43 0) a) := by
  refine zm_J_run zm_T 4 (pc' := if (s 43) = 0 then 16 else 8) (lv' := [(0, .ref 12), (1, .int 0)]) (st' := [.ref 12]) (G' := (zr_H C ex sl s a)) rfl ?_
  rw [if_neg (show ¬ ((s 43) = 0) from by rw [h]; decide)]
  refine zm_J_run zm_T 4 (pc' := if (s 40) = 1 then 16 else 20) (lv' := [(0, .ref 12), (1, .int 0)]) (st' := [.ref 12]) (G' := (zr_H C ex sl s a)) rfl ?_
  rw [if_neg (show ¬ ((s 40) = 1) from h2)]
  refine zm_J_run zm_T 4 (pc' := if (s 40) = 2 then 32 else 28) (lv' := [(0, .ref 12), (1, .int 0)]) (st' := [.ref 12]) (G' := (zr_H C ex sl s a)) rfl ?_
  rw [if_neg (show ¬ ((s 40) = 2) from h3)]
  refine zm_J_run zm_T 12 (pc' := 219) (lv' := [(0, .ref 12), (1, .int 0)]) (st' := [.int 5, .ref 12]) (G' := (zr_H C ex sl (zu s 12 5) a)) rfl ?_
  refine zm_J_run zm_T 2 (pc' := 221) (lv' := [(0, .ref 12), (1, .int 0)]) (st' := [.int ((5 : Int32) - 1), .ref 12]) (G' := (zr_H C ex sl (zu s 12 5) a)) rfl ?_
  rw [show (5 : Int32) - 1 = 4 from by decide]
  show zm_J N _ 104 221 [(0, .ref 12), (1, .int 0)] [.int 4, .ref 12] (zr_H C ex sl (zu s 12 5) a) _
  refine zm_J_run zm_T 5 (pc' := 230) (lv' := [(0, .ref 12), (1, .int 0)]) (st' := [.int 0]) (G' := (zr_H C ex sl (zu (zu s 12 4) 43 0) a)) rfl ?_
  exact zm_J_fin zm_T rfl rfl ⟨rfl, rfl⟩
theorem zr_sd_t2 {c : Nat} (hc : c < 16400) (h : s 43 = 1) (h2 : s 40 = 2) (h3 : s 42 = nI c) (h10 : a 10 c = 2) : zm_J N d 104 0 [(0, .ref 12), (1, .int 0)] [] (zr_H C ex sl s a) (zr_R C ex sl (some (.int 1)) (zu (zu (zu (zu (zu s 12 0) 36 (s 36 + 1)) 37 (a 11 c)) 38 (a 12 c)) 39 (a 13 c)) a) := by
  refine zm_J_run zm_T 4 (pc' := if (s 43) = 0 then 16 else 8) (lv' := [(0, .ref 12), (1, .int 0)]) (st' := [.ref 12]) (G' := (zr_H C ex sl s a)) rfl ?_
  rw [if_neg (show ¬ ((s 43) = 0) from by rw [h]; decide)]
  refine zm_J_run zm_T 4 (pc' := if (s 40) = 1 then 16 else 20) (lv' := [(0, .ref 12), (1, .int 0)]) (st' := [.ref 12]) (G' := (zr_H C ex sl s a)) rfl ?_
  rw [if_neg (show ¬ ((s 40) = 1) from by rw [h2]; decide)]
  refine zm_J_run zm_T 4 (pc' := if (s 40) = 2 then 32 else 28) (lv' := [(0, .ref 12), (1, .int 0)]) (st' := [.ref 12]) (G' := (zr_H C ex sl s a)) rfl ?_
  rw [if_pos (show (s 40) = 2 from h2)]
  refine zm_J_run zm_T 10 (pc' := 59) (lv' := [(2, .int (s 42)), (0, .ref 12), (1, .int 0)]) (st' := []) (G' := (zr_H C ex sl (zu s 12 0) a)) rfl ?_
  rw [show (.int (s 42) : Value) = .int (nI c) from congrArg Value.int h3]
  show zm_J N _ 104 59 [(2, .int (nI c)), (0, .ref 12), (1, .int 0)] [] (zr_H C ex sl (zu s 12 0) a) _
  refine zm_J_run zm_T 3 (pc' := 64) (lv' := [(2, .int (nI c)), (0, .ref 12), (1, .int 0)]) (st' := [.int (nI c), .ref 23]) (G' := (zr_H C ex sl (zu s 12 0) a)) rfl ?_
  refine zg_ald (i := .iaload) (t := 0) (n := 16400) (f := a 10) (m := c) rfl rfl rfl rfl rfl (by omega) (by decide) ?_
  rw [show a 10 c = 2 from h10]
  refine zm_J_run zm_T 12 (pc' := 157) (lv' := [(2, .int (nI c)), (0, .ref 12), (1, .int 0)]) (st' := [.ref 24, .ref 12]) (G' := (zr_H C ex sl (zu (zu s 12 0) 36 ((s 36) + 1)) a)) rfl ?_
  refine zm_J_run zm_T 1 (pc' := 158) (lv' := [(2, .int (nI c)), (0, .ref 12), (1, .int 0)]) (st' := [.int (nI c), .ref 24, .ref 12]) (G' := (zr_H C ex sl (zu (zu s 12 0) 36 ((s 36) + 1)) a)) rfl ?_
  refine zg_ald (i := .iaload) (t := 0) (n := 16400) (f := a 11) (m := c) rfl rfl rfl rfl rfl (by omega) (by decide) ?_
  refine zm_J_run zm_T 5 (pc' := 168) (lv' := [(2, .int (nI c)), (0, .ref 12), (1, .int 0)]) (st' := [.int (nI c), .ref 25, .ref 12]) (G' := (zr_H C ex sl (zu (zu (zu s 12 0) 36 ((s 36) + 1)) 37 (a 11 c)) a)) rfl ?_
  refine zg_ald (i := .iaload) (t := 0) (n := 16400) (f := a 12) (m := c) rfl rfl rfl rfl rfl (by omega) (by decide) ?_
  refine zm_J_run zm_T 5 (pc' := 178) (lv' := [(2, .int (nI c)), (0, .ref 12), (1, .int 0)]) (st' := [.int (nI c), .ref 26, .ref 12]) (G' := (zr_H C ex sl (zu (zu (zu (zu s 12 0) 36 ((s 36) + 1)) 37 (a 11 c)) 38 (a 12 c)) a)) rfl ?_
  refine zg_ald (i := .iaload) (t := 0) (n := 16400) (f := a 13) (m := c) rfl rfl rfl rfl rfl (by omega) (by decide) ?_
  refine zm_J_run zm_T 10 (pc' := 213) (lv' := [(2, .int (nI c)), (0, .ref 12), (1, .int 0)]) (st' := [.int 1]) (G' := (zr_H C ex sl (zu (zu (zu (zu (zu s 12 0) 36 ((s 36) + 1)) 37 (a 11 c)) 38 (a 12 c)) 39 (a 13 c)) a)) rfl ?_
  exact zm_J_fin zm_T rfl rfl ⟨rfl, rfl⟩
/-- a side that wasn't FORCED -/
theorem zr_sd_tw (hr : zr_r ex sl) (hd : 11 ≤ d) {c : Nat} (hc : c < 16400) (h : s 43 = 1) (h2 : s 40 = 2) (h3 : s 42 = nI c) (h10 : a 10 c = 0) {p e : Nat} (h8 : a 8 c = nI p) (h9 : a 9 c = nI e)
    (K : ∀ Q1 : zm_O → zm_H → Prop, (∀ s' a', (s' 12 = 0 → zm_J N d 104 205 [(2, .int (nI c)), (0, .ref 12), (1, .int 0)] [] (zr_H C ex sl (zu (zu (zu s' 37 (s' 37)) 38 (s' 38)) 39 (s' 39)) (zr_kA a' c s')) Q) → (¬ s' 12 = 0 → zm_J N d 104 205 [(2, .int (nI c)), (0, .ref 12), (1, .int 0)] [] (zr_H C ex sl (zu (zu (zu s' 37 (s' 37)) 38 (s' 38)) 39 (s' 39)) (zr_kA a' c s')) Q) → Q1 (.inl none) (zr_H C ex sl s' a')) → zm_J N (d - 1) 85 0 [(0, .ref 12), (1, .int (nI p)), (2, .int (nI e))] [] (zr_H C ex sl (zu (zu s 12 0) 35 (s 35 + 1)) (zu a 10 (upd (a 10) c 1))) Q1) : zm_J N d 104 0 [(0, .ref 12), (1, .int 0)] [] (zr_H C ex sl s a) Q := by
  obtain ⟨d, rfl⟩ : ∃ e, d = e + 11 := ⟨d - 11, by omega⟩
  refine zm_J_run zm_T 4 (pc' := if (s 43) = 0 then 16 else 8) (lv' := [(0, .ref 12), (1, .int 0)]) (st' := [.ref 12]) (G' := (zr_H C ex sl s a)) rfl ?_
  rw [if_neg (show ¬ ((s 43) = 0) from by rw [h]; decide)]
  refine zm_J_run zm_T 4 (pc' := if (s 40) = 1 then 16 else 20) (lv' := [(0, .ref 12), (1, .int 0)]) (st' := [.ref 12]) (G' := (zr_H C ex sl s a)) rfl ?_
  rw [if_neg (show ¬ ((s 40) = 1) from by rw [h2]; decide)]
  refine zm_J_run zm_T 4 (pc' := if (s 40) = 2 then 32 else 28) (lv' := [(0, .ref 12), (1, .int 0)]) (st' := [.ref 12]) (G' := (zr_H C ex sl s a)) rfl ?_
  rw [if_pos (show (s 40) = 2 from h2)]
  refine zm_J_run zm_T 10 (pc' := 59) (lv' := [(2, .int (s 42)), (0, .ref 12), (1, .int 0)]) (st' := []) (G' := (zr_H C ex sl (zu s 12 0) a)) rfl ?_
  rw [show (.int (s 42) : Value) = .int (nI c) from congrArg Value.int h3]
  show zm_J N _ 104 59 [(2, .int (nI c)), (0, .ref 12), (1, .int 0)] [] (zr_H C ex sl (zu s 12 0) a) _
  refine zm_J_run zm_T 3 (pc' := 64) (lv' := [(2, .int (nI c)), (0, .ref 12), (1, .int 0)]) (st' := [.int (nI c), .ref 23]) (G' := (zr_H C ex sl (zu s 12 0) a)) rfl ?_
  refine zg_ald (i := .iaload) (t := 0) (n := 16400) (f := a 10) (m := c) rfl rfl rfl rfl rfl (by omega) (by decide) ?_
  rw [show a 10 c = 0 from h10]
  refine zm_J_run zm_T 12 (pc' := 98) (lv' := [(2, .int (nI c)), (0, .ref 12), (1, .int 0)]) (st' := [.int 1, .int (nI c), .ref 23]) (G' := (zr_H C ex sl (zu (zu s 12 0) 35 ((s 35) + 1)) a)) rfl ?_
  refine zg_ast (i := .iastore) (t := 0) (n := 16400) (f := a 10) (m := c) (v' := 1) (G' := (zr_H C ex sl (zu (zu s 12 0) 35 ((s 35) + 1)) (zu a 10 (upd (a 10) c 1)))) rfl rfl rfl rfl (by decide) rfl (by omega) (by decide) rfl ?_
  refine zm_J_run zm_T 4 (pc' := 105) (lv' := [(2, .int (nI c)), (0, .ref 12), (1, .int 0)]) (st' := [.int (nI c), .ref 21, .ref 12]) (G' := (zr_H C ex sl (zu (zu s 12 0) 35 ((s 35) + 1)) (zu a 10 (upd (a 10) c 1)))) rfl ?_
  refine zg_ald (i := .iaload) (t := 0) (n := 16400) (f := a 8) (m := c) rfl rfl rfl rfl rfl (by omega) (by decide) ?_
  rw [show a 8 c = nI p from h8]
  refine zm_J_run zm_T 3 (pc' := 111) (lv' := [(2, .int (nI c)), (0, .ref 12), (1, .int 0)]) (st' := [.int (nI c), .ref 22, .int (nI p), .ref 12]) (G' := (zr_H C ex sl (zu (zu s 12 0) 35 ((s 35) + 1)) (zu a 10 (upd (a 10) c 1)))) rfl ?_
  refine zg_ald (i := .iaload) (t := 0) (n := 16400) (f := a 9) (m := c) rfl rfl rfl rfl rfl (by omega) (by decide) ?_
  rw [show a 9 c = nI e from h9]

  refine zm_J_V (a := 12) (av := [.int (nI p), .int (nI e)]) (rest := []) (zm_T.1 104 112 _ rfl).1 zc_104_112 rfl (Nat.le_of_ble_eq_true rfl) (Nat.le_of_ble_eq_true rfl) (zr_c hr) (zr_s hr) (K (fun z G' => z = .inl none ∧ ∃ s' a', G' = zr_H C ex sl s' a' ∧ (s' 12 = 0 → zm_J N (d + 11) 104 205 [(2, .int (nI c)), (0, .ref 12), (1, .int 0)] [] (zr_H C ex sl (zu (zu (zu s' 37 (s' 37)) 38 (s' 38)) 39 (s' 39)) (zr_kA a' c s')) Q) ∧ (¬ s' 12 = 0 → zm_J N (d + 11) 104 205 [(2, .int (nI c)), (0, .ref 12), (1, .int 0)] [] (zr_H C ex sl (zu (zu (zu s' 37 (s' 37)) 38 (s' 38)) 39 (s' 39)) (zr_kA a' c s')) Q)) (fun s' a' k1 k3 => ⟨rfl, s', a', rfl, k1, k3⟩)) ?_ ?_
  rotate_left
  · intro x G' h; exact nomatch h.1
  intro v G' h
  obtain ⟨h1, s', a', rfl, k1, k3⟩ := h
  cases Sum.inl.inj h1
  show zm_J N _ 104 115 [(2, .int (nI c)), (0, .ref 12), (1, .int 0)] [] (zr_H C ex sl s' a') _
  refine zm_J_run zm_T 4 (pc' := 121) (lv' := [(2, .int (nI c)), (0, .ref 12), (1, .int 0)]) (st' := [.int 2, .int (nI c), .ref 23]) (G' := (zr_H C ex sl s' a')) rfl ?_
  refine zg_ast (i := .iastore) (t := 0) (n := 16400) (f := a' 10) (m := c) (v' := 2) (G' := (zr_H C ex sl s' (zu a' 10 (upd (a' 10) c 2)))) rfl rfl rfl rfl (by decide) rfl (by omega) (by decide) rfl ?_
  refine zm_J_run zm_T 5 (pc' := 131) (lv' := [(2, .int (nI c)), (0, .ref 12), (1, .int 0)]) (st' := [.int (s' 37), .int (nI c), .ref 24]) (G' := (zr_H C ex sl s' (zu a' 10 (upd (a' 10) c 2)))) rfl ?_
  refine zg_ast (i := .iastore) (t := 0) (n := 16400) (f := a' 11) (m := c) (v' := (s' 37)) (G' := (zr_H C ex sl s' (zu (zu a' 10 (upd (a' 10) c 2)) 11 (upd (a' 11) c (s' 37))))) rfl rfl rfl rfl (by decide) rfl (by omega) (by decide) rfl ?_
  refine zm_J_run zm_T 5 (pc' := 141) (lv' := [(2, .int (nI c)), (0, .ref 12), (1, .int 0)]) (st' := [.int (s' 38), .int (nI c), .ref 25]) (G' := (zr_H C ex sl s' (zu (zu a' 10 (upd (a' 10) c 2)) 11 (upd (a' 11) c (s' 37))))) rfl ?_
  refine zg_ast (i := .iastore) (t := 0) (n := 16400) (f := a' 12) (m := c) (v' := (s' 38)) (G' := (zr_H C ex sl s' (zu (zu (zu a' 10 (upd (a' 10) c 2)) 11 (upd (a' 11) c (s' 37))) 12 (upd (a' 12) c (s' 38))))) rfl rfl rfl rfl (by decide) rfl (by omega) (by decide) rfl ?_
  refine zm_J_run zm_T 5 (pc' := 151) (lv' := [(2, .int (nI c)), (0, .ref 12), (1, .int 0)]) (st' := [.int (s' 39), .int (nI c), .ref 26]) (G' := (zr_H C ex sl s' (zu (zu (zu a' 10 (upd (a' 10) c 2)) 11 (upd (a' 11) c (s' 37))) 12 (upd (a' 12) c (s' 38))))) rfl ?_
  refine zg_ast (i := .iastore) (t := 0) (n := 16400) (f := a' 13) (m := c) (v' := (s' 39)) (G' := (zr_H C ex sl s' (zu (zu (zu (zu a' 10 (upd (a' 10) c 2)) 11 (upd (a' 11) c (s' 37))) 12 (upd (a' 12) c (s' 38))) 13 (upd (a' 13) c (s' 39))))) rfl rfl rfl rfl (by decide) rfl (by omega) (by decide) rfl ?_
  refine zm_J_run zm_T 4 (pc' := 158) (lv' := [(2, .int (nI c)), (0, .ref 12), (1, .int 0)]) (st' := [.int (nI c), .ref 24, .ref 12]) (G' := (zr_H C ex sl s' (zu (zu (zu (zu a' 10 (upd (a' 10) c 2)) 11 (upd (a' 11) c (s' 37))) 12 (upd (a' 12) c (s' 38))) 13 (upd (a' 13) c (s' 39))))) rfl ?_
  refine zg_ald (i := .iaload) (t := 0) (n := 16400) (f := upd (a' 11) c (s' 37)) (m := c) rfl rfl rfl rfl rfl (by omega) (by decide) ?_
  rw [show (upd (a' 11) c (s' 37)) c = s' 37 from zi_upd _ c _]
  refine zm_J_run zm_T 5 (pc' := 168) (lv' := [(2, .int (nI c)), (0, .ref 12), (1, .int 0)]) (st' := [.int (nI c), .ref 25, .ref 12]) (G' := (zr_H C ex sl (zu s' 37 (s' 37)) (zu (zu (zu (zu a' 10 (upd (a' 10) c 2)) 11 (upd (a' 11) c (s' 37))) 12 (upd (a' 12) c (s' 38))) 13 (upd (a' 13) c (s' 39))))) rfl ?_
  refine zg_ald (i := .iaload) (t := 0) (n := 16400) (f := upd (a' 12) c (s' 38)) (m := c) rfl rfl rfl rfl rfl (by omega) (by decide) ?_
  rw [show (upd (a' 12) c (s' 38)) c = s' 38 from zi_upd _ c _]
  refine zm_J_run zm_T 5 (pc' := 178) (lv' := [(2, .int (nI c)), (0, .ref 12), (1, .int 0)]) (st' := [.int (nI c), .ref 26, .ref 12]) (G' := (zr_H C ex sl (zu (zu s' 37 (s' 37)) 38 (s' 38)) (zu (zu (zu (zu a' 10 (upd (a' 10) c 2)) 11 (upd (a' 11) c (s' 37))) 12 (upd (a' 12) c (s' 38))) 13 (upd (a' 13) c (s' 39))))) rfl ?_
  refine zg_ald (i := .iaload) (t := 0) (n := 16400) (f := upd (a' 13) c (s' 39)) (m := c) rfl rfl rfl rfl rfl (by omega) (by decide) ?_
  rw [show (upd (a' 13) c (s' 39)) c = s' 39 from zi_upd _ c _]
  refine zm_J_run zm_T 4 (pc' := if (s' 12) = 0 then 189 else 205) (lv' := [(2, .int (nI c)), (0, .ref 12), (1, .int 0)]) (st' := []) (G' := (zr_H C ex sl (zu (zu (zu s' 37 (s' 37)) 38 (s' 38)) 39 (s' 39)) (zu (zu (zu (zu a' 10 (upd (a' 10) c 2)) 11 (upd (a' 11) c (s' 37))) 12 (upd (a' 12) c (s' 38))) 13 (upd (a' 13) c (s' 39))))) rfl ?_
  by_cases hz : (s' 12) = 0
  · rw [if_pos hz]
    refine zm_J_run zm_T 2 (pc' := 205) (lv' := [(2, .int (nI c)), (0, .ref 12), (1, .int 0)]) (st' := []) (G' := (zr_H C ex sl (zu (zu (zu s' 37 (s' 37)) 38 (s' 38)) 39 (s' 39)) (zu (zu (zu (zu a' 10 (upd (a' 10) c 2)) 11 (upd (a' 11) c (s' 37))) 12 (upd (a' 12) c (s' 38))) 13 (upd (a' 13) c (s' 39))))) rfl ?_
    exact k1 hz
  · rw [if_neg hz]
    exact k3 hz
theorem zr_sd_he1 {x : Int32} (h : s 12 = 0) : zm_J N d 104 205 [(2, .int x), (0, .ref 12), (1, .int 1)] [] (zr_H C ex sl s a) (zr_R C ex sl (some (.int 1)) s a) := by
  refine zm_J_run zm_T 3 (pc' := if (s 12) = 0 then 212 else 214) (lv' := [(2, .int x), (0, .ref 12), (1, .int 1)]) (st' := []) (G' := (zr_H C ex sl s a)) rfl ?_
  rw [if_pos (show (s 12) = 0 from h)]
  refine zm_J_run zm_T 1 (pc' := 213) (lv' := [(2, .int x), (0, .ref 12), (1, .int 1)]) (st' := [.int 1]) (G' := (zr_H C ex sl s a)) rfl ?_
  exact zm_J_fin zm_T rfl rfl ⟨rfl, rfl⟩
theorem zr_sd_he0 {x : Int32} (h : ¬ s 12 = 0) : zm_J N d 104 205 [(2, .int x), (0, .ref 12), (1, .int 1)] [] (zr_H C ex sl s a) (zr_R C ex sl (some (.int 0)) (zu (zu s 12 (s 12 - 1)) 43 0) a) := by
  refine zm_J_run zm_T 3 (pc' := if (s 12) = 0 then 212 else 214) (lv' := [(2, .int x), (0, .ref 12), (1, .int 1)]) (st' := []) (G' := (zr_H C ex sl s a)) rfl ?_
  rw [if_neg (show ¬ ((s 12) = 0) from h)]
  refine zm_J_run zm_T 10 (pc' := 230) (lv' := [(2, .int x), (0, .ref 12), (1, .int 1)]) (st' := [.int 0]) (G' := (zr_H C ex sl (zu (zu s 12 ((s 12) - 1)) 43 0) a)) rfl ?_
  exact zm_J_fin zm_T rfl rfl ⟨rfl, rfl⟩
theorem zr_sd_te1 {x : Int32} (h : s 12 = 0) : zm_J N d 104 205 [(2, .int x), (0, .ref 12), (1, .int 0)] [] (zr_H C ex sl s a) (zr_R C ex sl (some (.int 1)) s a) := by
  refine zm_J_run zm_T 3 (pc' := if (s 12) = 0 then 212 else 214) (lv' := [(2, .int x), (0, .ref 12), (1, .int 0)]) (st' := []) (G' := (zr_H C ex sl s a)) rfl ?_
  rw [if_pos (show (s 12) = 0 from h)]
  refine zm_J_run zm_T 1 (pc' := 213) (lv' := [(2, .int x), (0, .ref 12), (1, .int 0)]) (st' := [.int 1]) (G' := (zr_H C ex sl s a)) rfl ?_
  exact zm_J_fin zm_T rfl rfl ⟨rfl, rfl⟩
theorem zr_sd_te0 {x : Int32} (h : ¬ s 12 = 0) : zm_J N d 104 205 [(2, .int x), (0, .ref 12), (1, .int 0)] [] (zr_H C ex sl s a) (zr_R C ex sl (some (.int 0)) (zu (zu s 12 (s 12 - 1)) 43 0) a) := by
  refine zm_J_run zm_T 3 (pc' := if (s 12) = 0 then 212 else 214) (lv' := [(2, .int x), (0, .ref 12), (1, .int 0)]) (st' := []) (G' := (zr_H C ex sl s a)) rfl ?_
  rw [if_neg (show ¬ ((s 12) = 0) from h)]
  refine zm_J_run zm_T 10 (pc' := 230) (lv' := [(2, .int x), (0, .ref 12), (1, .int 0)]) (st' := [.int 0]) (G' := (zr_H C ex sl (zu (zu s 12 ((s 12) - 1)) 43 0) a)) rfl ?_
  exact zm_J_fin zm_T rfl rfl ⟨rfl, rfl⟩
end ZRW

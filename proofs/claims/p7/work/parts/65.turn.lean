/-! ONE TURN OF THE REFERENCE'S LOOP -/
/-- at the head of workOut's loop -/
def zr_LJ (N : zm_N) (d : Nat) (C : Nat → zm_E) (ex : List zm_E) (sl : Nat) (p0 e0 : Int32) (Q : zm_O → zm_H → Prop) (s : Nat → Int32) (a : Nat → Nat → Int32) : Prop := zm_J N d 85 11 [(0, .ref 12), (1, .int p0), (2, .int e0)] [] (zr_H C ex sl s a) Q
/-- the state behind a method, from which the loop goes on -/
def zr_SQ (C : Nat → zm_E) (ex : List zm_E) (sl : Nat) (J : (Nat → Int32) → (Nat → Nat → Int32) → Prop) : zm_O → zm_H → Prop := fun z G => z = .inl none ∧ ∃ s a, G = zr_H C ex sl s a ∧ J s a
section ZRL
variable {N : zm_N} {d : Nat} {C : Nat → zm_E} {ex : List zm_E} {sl M : Nat} {s : Nat → Int32} {a : Nat → Nat → Int32} {p0 e0 : Int32} {Q : zm_O → zm_H → Prop} {J : (Nat → Int32) → (Nat → Nat → Int32) → Prop}
theorem zr_R.sq {s' : Nat → Int32} {a' : Nat → Nat → Int32} (h : J s' a') : ∀ z G, zr_R C ex sl none s' a' z G → zr_SQ C ex sl J z G := fun _ _ q => ⟨q.1, s', a', q.2, h⟩
theorem zr_iter (hr : zr_r ex sl) {D : Nat} (h60 : D < 60) (hD : s 31 = nI (D + 1)) (h12 : s 12 = 0) (h : zm_J N d 87 0 [(0, .ref 12)] [] (zr_H C ex sl s a) (zr_SQ C ex sl (zr_LJ N (d + 1) C ex sl p0 e0 Q))) : zr_LJ N (d + 1) C ex sl p0 e0 Q s a := by
  unfold zr_LJ
  refine zm_J_run zm_T 3 (pc' := if (s 31) ≤ 0 then 32 else 18) (lv' := [(0, .ref 12), (1, .int p0), (2, .int e0)]) (st' := []) (G' := (zr_H C ex sl s a)) rfl ?_
  rw [if_neg (show ¬ ((s 31) ≤ 0) from by rw [hD]; exact nI_nle (by omega) (by omega))]
  refine zm_J_run zm_T 3 (pc' := if (s 12) = 0 then 25 else 32) (lv' := [(0, .ref 12), (1, .int p0), (2, .int e0)]) (st' := []) (G' := (zr_H C ex sl s a)) rfl ?_
  rw [if_pos (show (s 12) = 0 from h12)]
  refine zm_J_run zm_T 1 (pc' := 26) (lv' := [(0, .ref 12), (1, .int p0), (2, .int e0)]) (st' := [.ref 12]) (G' := (zr_H C ex sl s a)) rfl ?_
  refine zm_J_V (a := 12) (av := []) (rest := []) (zm_T.1 85 26 _ rfl).1 zc_85_26 rfl (Nat.le_of_ble_eq_true rfl) (Nat.le_of_ble_eq_true rfl) (zr_c hr) (zr_s hr) (h) ?_ ?_
  rotate_left
  · intro x G' h; exact nomatch h.1
  intro v G' h
  obtain ⟨h1, s', a', rfl, hL⟩ := h
  cases Sum.inl.inj h1
  show zm_J N _ 85 29 [(0, .ref 12), (1, .int p0), (2, .int e0)] [] (zr_H C ex sl s' a') _
  refine zm_J_run zm_T 1 (pc' := 11) (lv' := [(0, .ref 12), (1, .int p0), (2, .int e0)]) (st' := []) (G' := (zr_H C ex sl s' a')) rfl ?_
  exact hL
theorem zr_exit (h : s 31 = 0 ∨ ¬ s 12 = 0) (k : Q (.inl none) (zr_H C ex sl s a)) : zr_LJ N d C ex sl p0 e0 Q s a := by
  unfold zr_LJ
  by_cases h0 : s 31 ≤ 0
  · refine zm_J_run zm_T 3 (pc' := if (s 31) ≤ 0 then 32 else 18) (lv' := [(0, .ref 12), (1, .int p0), (2, .int e0)]) (st' := []) (G' := (zr_H C ex sl s a)) rfl ?_
    rw [if_pos (show (s 31) ≤ 0 from h0)]
    exact zm_J_fin zm_T rfl rfl k
  · refine zm_J_run zm_T 3 (pc' := if (s 31) ≤ 0 then 32 else 18) (lv' := [(0, .ref 12), (1, .int p0), (2, .int e0)]) (st' := []) (G' := (zr_H C ex sl s a)) rfl ?_
    rw [if_neg (show ¬ ((s 31) ≤ 0) from h0)]
    refine zm_J_run zm_T 3 (pc' := if (s 12) = 0 then 25 else 32) (lv' := [(0, .ref 12), (1, .int p0), (2, .int e0)]) (st' := []) (G' := (zr_H C ex sl s a)) rfl ?_
    rw [if_neg (show ¬ ((s 12) = 0) from h.elim (fun z => absurd (z ▸ (by decide : (0 : Int32) ≤ 0)) h0) id)]
    exact zm_J_fin zm_T rfl rfl k
theorem zr_s_keep (hr : zr_r ex sl) {D p : Nat} {c : Int32} (h60 : D < 60) (hD : s 31 = nI (D + 1)) (hat : a 18 (D + 1) = nI p) (hp : p < 21200) (hc : a 1 p = c) (hst : a 20 (D + 1) = 3) {q : Nat} (hq : q < 16400) (hf : a 22 (D + 1) = nI q) (hd : 3 ≤ d) (k : J (zr_gS s (s 37) (s 38) (s 39)) (zr_kA a q s)) : zm_J N d 87 0 [(0, .ref 12)] [] (zr_H C ex sl s a) (zr_SQ C ex sl J) := by
  obtain ⟨d, rfl⟩ : ∃ e, d = e + 3 := ⟨d - 3, by omega⟩
  refine zm_J_run zm_T 3 (pc' := 5) (lv' := [(1, .int (s 31)), (0, .ref 12)]) (st' := []) (G' := (zr_H C ex sl s a)) rfl ?_
  rw [show (.int (s 31) : Value) = .int (nI (D + 1)) from congrArg Value.int hD]
  show zm_J N _ 87 5 [(1, .int (nI (D + 1))), (0, .ref 12)] [] (zr_H C ex sl s a) _
  refine zm_J_run zm_T 3 (pc' := 10) (lv' := [(1, .int (nI (D + 1))), (0, .ref 12)]) (st' := [.int (nI (D + 1)), .ref 31]) (G' := (zr_H C ex sl s a)) rfl ?_
  refine zg_ald (i := .iaload) (t := 0) (n := 64) (f := a 18) (m := D + 1) rfl rfl rfl rfl rfl (by omega) (by decide) ?_
  rw [show a 18 (D + 1) = nI p from hat]
  refine zm_J_run zm_T 4 (pc' := 17) (lv' := [(2, .int (nI p)), (1, .int (nI (D + 1))), (0, .ref 12)]) (st' := [.int (nI p), .ref 14]) (G' := (zr_H C ex sl s a)) rfl ?_
  refine zg_ald (i := .iaload) (t := 0) (n := 21200) (f := a 1) (m := p) rfl rfl rfl rfl rfl (by omega) (by decide) ?_
  rw [show a 1 p = c from hc]
  refine zm_J_run zm_T 4 (pc' := 24) (lv' := [(3, .int c), (2, .int (nI p)), (1, .int (nI (D + 1))), (0, .ref 12)]) (st' := [.int (nI (D + 1)), .ref 33]) (G' := (zr_H C ex sl s a)) rfl ?_
  refine zg_ald (i := .iaload) (t := 0) (n := 64) (f := a 20) (m := D + 1) rfl rfl rfl rfl rfl (by omega) (by decide) ?_
  rw [show a 20 (D + 1) = 3 from hst]
  refine zm_J_run zm_T 3 (pc' := 30) (lv' := [(3, .int c), (2, .int (nI p)), (1, .int (nI (D + 1))), (0, .ref 12)]) (st' := [.ref 12]) (G' := (zr_H C ex sl s a)) rfl ?_
  refine zg_V (a := 12) (av := []) (rest := []) (v := none) (G2 := (zr_H C ex sl (zr_gS s (s 37) (s 38) (s 39)) (zr_kA a q s))) (zm_T.1 87 30 _ rfl).1 zc_87_30 rfl (Nat.le_of_ble_eq_true rfl) (Nat.le_of_ble_eq_true rfl) (zr_c hr) (zr_s hr) (zr_keep hr hq hD (by omega) hf (by omega)) ?_
  show zm_J N _ 87 33 [(3, .int c), (2, .int (nI p)), (1, .int (nI (D + 1))), (0, .ref 12)] [] (zr_H C ex sl (zr_gS s (s 37) (s 38) (s 39)) (zr_kA a q s)) _
  refine zm_J_run zm_T 1 (pc' := 236) (lv' := [(3, .int c), (2, .int (nI p)), (1, .int (nI (D + 1))), (0, .ref 12)]) (st' := []) (G' := (zr_H C ex sl (zr_gS s (s 37) (s 38) (s 39)) (zr_kA a q s))) rfl ?_
  exact zm_J_fin zm_T rfl rfl ⟨rfl, _, _, rfl, k⟩
theorem zr_s_pop (hr : zr_r ex sl) {D p : Nat} {c : Int32} (h60 : D < 60) (hD : s 31 = nI (D + 1)) (hat : a 18 (D + 1) = nI p) (hp : p < 21200) (hc : a 1 p = c) (hst : a 20 (D + 1) = 4) (hd : 1 ≤ d) (k : J (zu s 31 (s 31 - 1)) a) : zm_J N d 87 0 [(0, .ref 12)] [] (zr_H C ex sl s a) (zr_SQ C ex sl J) := by
  obtain ⟨d, rfl⟩ : ∃ e, d = e + 1 := ⟨d - 1, by omega⟩
  refine zm_J_run zm_T 3 (pc' := 5) (lv' := [(1, .int (s 31)), (0, .ref 12)]) (st' := []) (G' := (zr_H C ex sl s a)) rfl ?_
  rw [show (.int (s 31) : Value) = .int (nI (D + 1)) from congrArg Value.int hD]
  show zm_J N _ 87 5 [(1, .int (nI (D + 1))), (0, .ref 12)] [] (zr_H C ex sl s a) _
  refine zm_J_run zm_T 3 (pc' := 10) (lv' := [(1, .int (nI (D + 1))), (0, .ref 12)]) (st' := [.int (nI (D + 1)), .ref 31]) (G' := (zr_H C ex sl s a)) rfl ?_
  refine zg_ald (i := .iaload) (t := 0) (n := 64) (f := a 18) (m := D + 1) rfl rfl rfl rfl rfl (by omega) (by decide) ?_
  rw [show a 18 (D + 1) = nI p from hat]
  refine zm_J_run zm_T 4 (pc' := 17) (lv' := [(2, .int (nI p)), (1, .int (nI (D + 1))), (0, .ref 12)]) (st' := [.int (nI p), .ref 14]) (G' := (zr_H C ex sl s a)) rfl ?_
  refine zg_ald (i := .iaload) (t := 0) (n := 21200) (f := a 1) (m := p) rfl rfl rfl rfl rfl (by omega) (by decide) ?_
  rw [show a 1 p = c from hc]
  refine zm_J_run zm_T 4 (pc' := 24) (lv' := [(3, .int c), (2, .int (nI p)), (1, .int (nI (D + 1))), (0, .ref 12)]) (st' := [.int (nI (D + 1)), .ref 33]) (G' := (zr_H C ex sl s a)) rfl ?_
  refine zg_ald (i := .iaload) (t := 0) (n := 64) (f := a 20) (m := D + 1) rfl rfl rfl rfl rfl (by omega) (by decide) ?_
  rw [show a 20 (D + 1) = 4 from hst]
  refine zm_J_run zm_T 5 (pc' := 41) (lv' := [(3, .int c), (2, .int (nI p)), (1, .int (nI (D + 1))), (0, .ref 12)]) (st' := [.int (nI (D + 1)), .ref 33]) (G' := (zr_H C ex sl s a)) rfl ?_
  refine zg_ald (i := .iaload) (t := 0) (n := 64) (f := a 20) (m := D + 1) rfl rfl rfl rfl rfl (by omega) (by decide) ?_
  rw [show a 20 (D + 1) = 4 from hst]
  refine zm_J_run zm_T 9 (pc' := 236) (lv' := [(3, .int c), (2, .int (nI p)), (1, .int (nI (D + 1))), (0, .ref 12)]) (st' := []) (G' := (zr_H C ex sl (zu s 31 ((s 31) - 1)) a)) rfl ?_
  exact zm_J_fin zm_T rfl rfl ⟨rfl, _, _, rfl, k⟩
theorem zr_s_dig (hr : zr_r ex sl) {D p : Nat} {c : Int32} (h60 : D < 60) (hD : s 31 = nI (D + 1)) (hat : a 18 (D + 1) = nI p) (hp : p < 21200) (hc : a 1 p = c) (hst : a 20 (D + 1) = 0) (h1 : 48 ≤ c ∧ c ≤ 57) (hd : 2 ≤ d) (k : J (zr_gS s 0 (c - 48) 0) a) : zm_J N d 87 0 [(0, .ref 12)] [] (zr_H C ex sl s a) (zr_SQ C ex sl J) := by
  obtain ⟨d, rfl⟩ : ∃ e, d = e + 2 := ⟨d - 2, by omega⟩
  refine zm_J_run zm_T 3 (pc' := 5) (lv' := [(1, .int (s 31)), (0, .ref 12)]) (st' := []) (G' := (zr_H C ex sl s a)) rfl ?_
  rw [show (.int (s 31) : Value) = .int (nI (D + 1)) from congrArg Value.int hD]
  show zm_J N _ 87 5 [(1, .int (nI (D + 1))), (0, .ref 12)] [] (zr_H C ex sl s a) _
  refine zm_J_run zm_T 3 (pc' := 10) (lv' := [(1, .int (nI (D + 1))), (0, .ref 12)]) (st' := [.int (nI (D + 1)), .ref 31]) (G' := (zr_H C ex sl s a)) rfl ?_
  refine zg_ald (i := .iaload) (t := 0) (n := 64) (f := a 18) (m := D + 1) rfl rfl rfl rfl rfl (by omega) (by decide) ?_
  rw [show a 18 (D + 1) = nI p from hat]
  refine zm_J_run zm_T 4 (pc' := 17) (lv' := [(2, .int (nI p)), (1, .int (nI (D + 1))), (0, .ref 12)]) (st' := [.int (nI p), .ref 14]) (G' := (zr_H C ex sl s a)) rfl ?_
  refine zg_ald (i := .iaload) (t := 0) (n := 21200) (f := a 1) (m := p) rfl rfl rfl rfl rfl (by omega) (by decide) ?_
  rw [show a 1 p = c from hc]
  refine zm_J_run zm_T 4 (pc' := 24) (lv' := [(3, .int c), (2, .int (nI p)), (1, .int (nI (D + 1))), (0, .ref 12)]) (st' := [.int (nI (D + 1)), .ref 33]) (G' := (zr_H C ex sl s a)) rfl ?_
  refine zg_ald (i := .iaload) (t := 0) (n := 64) (f := a 20) (m := D + 1) rfl rfl rfl rfl rfl (by omega) (by decide) ?_
  rw [show a 20 (D + 1) = 0 from hst]
  refine zm_J_run zm_T 5 (pc' := 41) (lv' := [(3, .int c), (2, .int (nI p)), (1, .int (nI (D + 1))), (0, .ref 12)]) (st' := [.int (nI (D + 1)), .ref 33]) (G' := (zr_H C ex sl s a)) rfl ?_
  refine zg_ald (i := .iaload) (t := 0) (n := 64) (f := a 20) (m := D + 1) rfl rfl rfl rfl rfl (by omega) (by decide) ?_
  rw [show a 20 (D + 1) = 0 from hst]
  refine zm_J_run zm_T 5 (pc' := 64) (lv' := [(3, .int c), (2, .int (nI p)), (1, .int (nI (D + 1))), (0, .ref 12)]) (st' := [.int (nI (D + 1)), .ref 33]) (G' := (zr_H C ex sl s a)) rfl ?_
  refine zg_ald (i := .iaload) (t := 0) (n := 64) (f := a 20) (m := D + 1) rfl rfl rfl rfl rfl (by omega) (by decide) ?_
  rw [show a 20 (D + 1) = 0 from hst]
  refine zm_J_run zm_T 1 (pc' := if (0 : Int32) ≤ 0 then 77 else 68) (lv' := [(3, .int c), (2, .int (nI p)), (1, .int (nI (D + 1))), (0, .ref 12)]) (st' := []) (G' := (zr_H C ex sl s a)) rfl ?_
  rw [if_pos (show (0 : Int32) ≤ 0 by decide +kernel)]
  refine zm_J_run zm_T 3 (pc' := 82) (lv' := [(3, .int c), (2, .int (nI p)), (1, .int (nI (D + 1))), (0, .ref 12)]) (st' := [.int 57, .int 48, .int c]) (G' := (zr_H C ex sl s a)) rfl ?_
  refine zg_S (av := [.int c, .int 48, .int 57]) (rest := []) (v := some (.int (if 48 ≤ c ∧ c ≤ 57 then 1 else 0))) (G2 := (zr_H C ex sl s a)) (zm_T.1 87 82 _ rfl).1 zc_87_82 (Nat.le_of_ble_eq_true rfl) (Nat.le_of_ble_eq_true rfl) (zr_c hr) (zr_s hr) (zr_btw c 48 57 _) ?_
  show zm_J N _ 87 85 [(3, .int c), (2, .int (nI p)), (1, .int (nI (D + 1))), (0, .ref 12)] [.int (if 48 ≤ c ∧ c ≤ 57 then 1 else 0)] (zr_H C ex sl s a) _
  rw [if_pos h1]
  show zm_J N _ 87 85 [(3, .int c), (2, .int (nI p)), (1, .int (nI (D + 1))), (0, .ref 12)] [.int 1] (zr_H C ex sl s a) _
  refine zm_J_run zm_T 7 (pc' := 95) (lv' := [(3, .int c), (2, .int (nI p)), (1, .int (nI (D + 1))), (0, .ref 12)]) (st' := [.int 0, .int (c - 48), .int 0, .ref 12]) (G' := (zr_H C ex sl s a)) rfl ?_
  refine zg_V (a := 12) (av := [.int 0, .int (c - 48), .int 0]) (rest := []) (v := none) (G2 := (zr_H C ex sl (zr_gS s 0 (c - 48) 0) a)) (zm_T.1 87 95 _ rfl).1 zc_87_95 rfl (Nat.le_of_ble_eq_true rfl) (Nat.le_of_ble_eq_true rfl) (zr_c hr) (zr_s hr) (zr_give 0 (c - 48) 0) ?_
  show zm_J N _ 87 98 [(3, .int c), (2, .int (nI p)), (1, .int (nI (D + 1))), (0, .ref 12)] [] (zr_H C ex sl (zr_gS s 0 (c - 48) 0) a) _
  refine zm_J_run zm_T 1 (pc' := 236) (lv' := [(3, .int c), (2, .int (nI p)), (1, .int (nI (D + 1))), (0, .ref 12)]) (st' := []) (G' := (zr_H C ex sl (zr_gS s 0 (c - 48) 0) a)) rfl ?_
  exact zm_J_fin zm_T rfl rfl ⟨rfl, _, _, rfl, k⟩
theorem zr_s_nil (hr : zr_r ex sl) {D p : Nat} {c : Int32} (h60 : D < 60) (hD : s 31 = nI (D + 1)) (hat : a 18 (D + 1) = nI p) (hp : p < 21200) (hc : a 1 p = c) (hst : a 20 (D + 1) = 0) (h1 : ¬ (48 ≤ c ∧ c ≤ 57)) (h2 : c = 110) (hd : 2 ≤ d) (k : J (zr_gS s 1 0 0) a) : zm_J N d 87 0 [(0, .ref 12)] [] (zr_H C ex sl s a) (zr_SQ C ex sl J) := by
  obtain ⟨d, rfl⟩ : ∃ e, d = e + 2 := ⟨d - 2, by omega⟩
  refine zm_J_run zm_T 3 (pc' := 5) (lv' := [(1, .int (s 31)), (0, .ref 12)]) (st' := []) (G' := (zr_H C ex sl s a)) rfl ?_
  rw [show (.int (s 31) : Value) = .int (nI (D + 1)) from congrArg Value.int hD]
  show zm_J N _ 87 5 [(1, .int (nI (D + 1))), (0, .ref 12)] [] (zr_H C ex sl s a) _
  refine zm_J_run zm_T 3 (pc' := 10) (lv' := [(1, .int (nI (D + 1))), (0, .ref 12)]) (st' := [.int (nI (D + 1)), .ref 31]) (G' := (zr_H C ex sl s a)) rfl ?_
  refine zg_ald (i := .iaload) (t := 0) (n := 64) (f := a 18) (m := D + 1) rfl rfl rfl rfl rfl (by omega) (by decide) ?_
  rw [show a 18 (D + 1) = nI p from hat]
  refine zm_J_run zm_T 4 (pc' := 17) (lv' := [(2, .int (nI p)), (1, .int (nI (D + 1))), (0, .ref 12)]) (st' := [.int (nI p), .ref 14]) (G' := (zr_H C ex sl s a)) rfl ?_
  refine zg_ald (i := .iaload) (t := 0) (n := 21200) (f := a 1) (m := p) rfl rfl rfl rfl rfl (by omega) (by decide) ?_
  rw [show a 1 p = c from hc]
  refine zm_J_run zm_T 4 (pc' := 24) (lv' := [(3, .int c), (2, .int (nI p)), (1, .int (nI (D + 1))), (0, .ref 12)]) (st' := [.int (nI (D + 1)), .ref 33]) (G' := (zr_H C ex sl s a)) rfl ?_
  refine zg_ald (i := .iaload) (t := 0) (n := 64) (f := a 20) (m := D + 1) rfl rfl rfl rfl rfl (by omega) (by decide) ?_
  rw [show a 20 (D + 1) = 0 from hst]
  refine zm_J_run zm_T 5 (pc' := 41) (lv' := [(3, .int c), (2, .int (nI p)), (1, .int (nI (D + 1))), (0, .ref 12)]) (st' := [.int (nI (D + 1)), .ref 33]) (G' := (zr_H C ex sl s a)) rfl ?_
  refine zg_ald (i := .iaload) (t := 0) (n := 64) (f := a 20) (m := D + 1) rfl rfl rfl rfl rfl (by omega) (by decide) ?_
  rw [show a 20 (D + 1) = 0 from hst]
  refine zm_J_run zm_T 5 (pc' := 64) (lv' := [(3, .int c), (2, .int (nI p)), (1, .int (nI (D + 1))), (0, .ref 12)]) (st' := [.int (nI (D + 1)), .ref 33]) (G' := (zr_H C ex sl s a)) rfl ?_
  refine zg_ald (i := .iaload) (t := 0) (n := 64) (f := a 20) (m := D + 1) rfl rfl rfl rfl rfl (by omega) (by decide) ?_
  rw [show a 20 (D + 1) = 0 from hst]
  refine zm_J_run zm_T 1 (pc' := if (0 : Int32) ≤ 0 then 77 else 68) (lv' := [(3, .int c), (2, .int (nI p)), (1, .int (nI (D + 1))), (0, .ref 12)]) (st' := []) (G' := (zr_H C ex sl s a)) rfl ?_
  rw [if_pos (show (0 : Int32) ≤ 0 by decide +kernel)]
  refine zm_J_run zm_T 3 (pc' := 82) (lv' := [(3, .int c), (2, .int (nI p)), (1, .int (nI (D + 1))), (0, .ref 12)]) (st' := [.int 57, .int 48, .int c]) (G' := (zr_H C ex sl s a)) rfl ?_
  refine zg_S (av := [.int c, .int 48, .int 57]) (rest := []) (v := some (.int (if 48 ≤ c ∧ c ≤ 57 then 1 else 0))) (G2 := (zr_H C ex sl s a)) (zm_T.1 87 82 _ rfl).1 zc_87_82 (Nat.le_of_ble_eq_true rfl) (Nat.le_of_ble_eq_true rfl) (zr_c hr) (zr_s hr) (zr_btw c 48 57 _) ?_
  show zm_J N _ 87 85 [(3, .int c), (2, .int (nI p)), (1, .int (nI (D + 1))), (0, .ref 12)] [.int (if 48 ≤ c ∧ c ≤ 57 then 1 else 0)] (zr_H C ex sl s a) _
  rw [if_neg h1]
  show zm_J N _ 87 85 [(3, .int c), (2, .int (nI p)), (1, .int (nI (D + 1))), (0, .ref 12)] [.int 0] (zr_H C ex sl s a) _
  refine zm_J_run zm_T 4 (pc' := if c = 110 then 107 else 117) (lv' := [(3, .int c), (2, .int (nI p)), (1, .int (nI (D + 1))), (0, .ref 12)]) (st' := []) (G' := (zr_H C ex sl s a)) rfl ?_
  rw [if_pos (show c = 110 from h2)]
  refine zm_J_run zm_T 4 (pc' := 111) (lv' := [(3, .int c), (2, .int (nI p)), (1, .int (nI (D + 1))), (0, .ref 12)]) (st' := [.int 0, .int 0, .int 1, .ref 12]) (G' := (zr_H C ex sl s a)) rfl ?_
  refine zg_V (a := 12) (av := [.int 1, .int 0, .int 0]) (rest := []) (v := none) (G2 := (zr_H C ex sl (zr_gS s 1 0 0) a)) (zm_T.1 87 111 _ rfl).1 zc_87_111 rfl (Nat.le_of_ble_eq_true rfl) (Nat.le_of_ble_eq_true rfl) (zr_c hr) (zr_s hr) (zr_give 1 0 0) ?_
  show zm_J N _ 87 114 [(3, .int c), (2, .int (nI p)), (1, .int (nI (D + 1))), (0, .ref 12)] [] (zr_H C ex sl (zr_gS s 1 0 0) a) _
  refine zm_J_run zm_T 1 (pc' := 236) (lv' := [(3, .int c), (2, .int (nI p)), (1, .int (nI (D + 1))), (0, .ref 12)]) (st' := []) (G' := (zr_H C ex sl (zr_gS s 1 0 0) a)) rfl ?_
  exact zm_J_fin zm_T rfl rfl ⟨rfl, _, _, rfl, k⟩
theorem zr_s_par (hr : zr_r ex sl) {D p : Nat} {c : Int32} (h60 : D < 60) (hD : s 31 = nI (D + 1)) (hat : a 18 (D + 1) = nI p) (hp : p < 21200) (hc : a 1 p = c) (hst : a 20 (D + 1) = 0) (h1 : ¬ (48 ≤ c ∧ c ≤ 57)) (h2 : ¬ c = 110) (h3 : 97 ≤ c ∧ c ≤ 102) {L : List Int32} {A : List Nat} {e : Nat} (hin : a 19 (D + 1) = nI e) (he : zr_env a e L A) (hcL : c ∈ L) (hd : 1 ≤ d) (k : zm_J N (d - 1) 97 0 [(0, .ref 12), (1, .int (nI (zv_ar L A c)))] [] (zr_H C ex sl s a) (zr_SQ C ex sl J)) : zm_J N d 87 0 [(0, .ref 12)] [] (zr_H C ex sl s a) (zr_SQ C ex sl J) := by
  obtain ⟨d, rfl⟩ : ∃ e, d = e + 1 := ⟨d - 1, by omega⟩
  refine zm_J_run zm_T 3 (pc' := 5) (lv' := [(1, .int (s 31)), (0, .ref 12)]) (st' := []) (G' := (zr_H C ex sl s a)) rfl ?_
  rw [show (.int (s 31) : Value) = .int (nI (D + 1)) from congrArg Value.int hD]
  show zm_J N _ 87 5 [(1, .int (nI (D + 1))), (0, .ref 12)] [] (zr_H C ex sl s a) _
  refine zm_J_run zm_T 3 (pc' := 10) (lv' := [(1, .int (nI (D + 1))), (0, .ref 12)]) (st' := [.int (nI (D + 1)), .ref 31]) (G' := (zr_H C ex sl s a)) rfl ?_
  refine zg_ald (i := .iaload) (t := 0) (n := 64) (f := a 18) (m := D + 1) rfl rfl rfl rfl rfl (by omega) (by decide) ?_
  rw [show a 18 (D + 1) = nI p from hat]
  refine zm_J_run zm_T 4 (pc' := 17) (lv' := [(2, .int (nI p)), (1, .int (nI (D + 1))), (0, .ref 12)]) (st' := [.int (nI p), .ref 14]) (G' := (zr_H C ex sl s a)) rfl ?_
  refine zg_ald (i := .iaload) (t := 0) (n := 21200) (f := a 1) (m := p) rfl rfl rfl rfl rfl (by omega) (by decide) ?_
  rw [show a 1 p = c from hc]
  refine zm_J_run zm_T 4 (pc' := 24) (lv' := [(3, .int c), (2, .int (nI p)), (1, .int (nI (D + 1))), (0, .ref 12)]) (st' := [.int (nI (D + 1)), .ref 33]) (G' := (zr_H C ex sl s a)) rfl ?_
  refine zg_ald (i := .iaload) (t := 0) (n := 64) (f := a 20) (m := D + 1) rfl rfl rfl rfl rfl (by omega) (by decide) ?_
  rw [show a 20 (D + 1) = 0 from hst]
  refine zm_J_run zm_T 5 (pc' := 41) (lv' := [(3, .int c), (2, .int (nI p)), (1, .int (nI (D + 1))), (0, .ref 12)]) (st' := [.int (nI (D + 1)), .ref 33]) (G' := (zr_H C ex sl s a)) rfl ?_
  refine zg_ald (i := .iaload) (t := 0) (n := 64) (f := a 20) (m := D + 1) rfl rfl rfl rfl rfl (by omega) (by decide) ?_
  rw [show a 20 (D + 1) = 0 from hst]
  refine zm_J_run zm_T 5 (pc' := 64) (lv' := [(3, .int c), (2, .int (nI p)), (1, .int (nI (D + 1))), (0, .ref 12)]) (st' := [.int (nI (D + 1)), .ref 33]) (G' := (zr_H C ex sl s a)) rfl ?_
  refine zg_ald (i := .iaload) (t := 0) (n := 64) (f := a 20) (m := D + 1) rfl rfl rfl rfl rfl (by omega) (by decide) ?_
  rw [show a 20 (D + 1) = 0 from hst]
  refine zm_J_run zm_T 1 (pc' := if (0 : Int32) ≤ 0 then 77 else 68) (lv' := [(3, .int c), (2, .int (nI p)), (1, .int (nI (D + 1))), (0, .ref 12)]) (st' := []) (G' := (zr_H C ex sl s a)) rfl ?_
  rw [if_pos (show (0 : Int32) ≤ 0 by decide +kernel)]
  refine zm_J_run zm_T 3 (pc' := 82) (lv' := [(3, .int c), (2, .int (nI p)), (1, .int (nI (D + 1))), (0, .ref 12)]) (st' := [.int 57, .int 48, .int c]) (G' := (zr_H C ex sl s a)) rfl ?_
  refine zg_S (av := [.int c, .int 48, .int 57]) (rest := []) (v := some (.int (if 48 ≤ c ∧ c ≤ 57 then 1 else 0))) (G2 := (zr_H C ex sl s a)) (zm_T.1 87 82 _ rfl).1 zc_87_82 (Nat.le_of_ble_eq_true rfl) (Nat.le_of_ble_eq_true rfl) (zr_c hr) (zr_s hr) (zr_btw c 48 57 _) ?_
  show zm_J N _ 87 85 [(3, .int c), (2, .int (nI p)), (1, .int (nI (D + 1))), (0, .ref 12)] [.int (if 48 ≤ c ∧ c ≤ 57 then 1 else 0)] (zr_H C ex sl s a) _
  rw [if_neg h1]
  show zm_J N _ 87 85 [(3, .int c), (2, .int (nI p)), (1, .int (nI (D + 1))), (0, .ref 12)] [.int 0] (zr_H C ex sl s a) _
  refine zm_J_run zm_T 4 (pc' := if c = 110 then 107 else 117) (lv' := [(3, .int c), (2, .int (nI p)), (1, .int (nI (D + 1))), (0, .ref 12)]) (st' := []) (G' := (zr_H C ex sl s a)) rfl ?_
  rw [if_neg (show ¬ (c = 110) from h2)]
  refine zm_J_run zm_T 3 (pc' := 122) (lv' := [(3, .int c), (2, .int (nI p)), (1, .int (nI (D + 1))), (0, .ref 12)]) (st' := [.int 102, .int 97, .int c]) (G' := (zr_H C ex sl s a)) rfl ?_
  refine zg_S (av := [.int c, .int 97, .int 102]) (rest := []) (v := some (.int (if 97 ≤ c ∧ c ≤ 102 then 1 else 0))) (G2 := (zr_H C ex sl s a)) (zm_T.1 87 122 _ rfl).1 zc_87_122 (Nat.le_of_ble_eq_true rfl) (Nat.le_of_ble_eq_true rfl) (zr_c hr) (zr_s hr) (zr_btw c 97 102 _) ?_
  show zm_J N _ 87 125 [(3, .int c), (2, .int (nI p)), (1, .int (nI (D + 1))), (0, .ref 12)] [.int (if 97 ≤ c ∧ c ≤ 102 then 1 else 0)] (zr_H C ex sl s a) _
  rw [if_pos h3]
  show zm_J N _ 87 125 [(3, .int c), (2, .int (nI p)), (1, .int (nI (D + 1))), (0, .ref 12)] [.int 1] (zr_H C ex sl s a) _
  refine zm_J_run zm_T 7 (pc' := 136) (lv' := [(3, .int c), (2, .int (nI p)), (1, .int (nI (D + 1))), (0, .ref 12)]) (st' := [.int (nI (D + 1)), .ref 32, .int c, .ref 12, .ref 12]) (G' := (zr_H C ex sl s a)) rfl ?_
  refine zg_ald (i := .iaload) (t := 0) (n := 64) (f := a 19) (m := D + 1) rfl rfl rfl rfl rfl (by omega) (by decide) ?_
  rw [show a 19 (D + 1) = nI e from hin]
  refine zg_V (a := 12) (av := [.int c, .int (nI e)]) (rest := [.ref 12]) (v := some (.int (nI (zv_ar L A c)))) (G2 := (zr_H C ex sl s a)) (zm_T.1 87 137 _ rfl).1 zc_87_137 rfl (Nat.le_of_ble_eq_true rfl) (Nat.le_of_ble_eq_true rfl) (zr_c hr) (zr_s hr) (zr_par he hcL) ?_
  show zm_J N _ 87 140 [(3, .int c), (2, .int (nI p)), (1, .int (nI (D + 1))), (0, .ref 12)] [.int (nI (zv_ar L A c)), .ref 12] (zr_H C ex sl s a) _
  refine zm_J_V (a := 12) (av := [.int (nI (zv_ar L A c))]) (rest := []) (zm_T.1 87 140 _ rfl).1 zc_87_140 rfl (Nat.le_of_ble_eq_true rfl) (Nat.le_of_ble_eq_true rfl) (zr_c hr) (zr_s hr) (k) ?_ ?_
  rotate_left
  · intro x G' h; exact nomatch h.1
  intro v G' h
  obtain ⟨h1, s', a', rfl, hL⟩ := h
  cases Sum.inl.inj h1
  show zm_J N _ 87 143 [(3, .int c), (2, .int (nI p)), (1, .int (nI (D + 1))), (0, .ref 12)] [] (zr_H C ex sl s' a') _
  refine zm_J_run zm_T 1 (pc' := 236) (lv' := [(3, .int c), (2, .int (nI p)), (1, .int (nI (D + 1))), (0, .ref 12)]) (st' := []) (G' := (zr_H C ex sl s' a')) rfl ?_
  exact zm_J_fin zm_T rfl rfl ⟨rfl, _, _, rfl, hL⟩
theorem zr_s_name (hr : zr_r ex sl) {D p : Nat} {c : Int32} (h60 : D < 60) (hD : s 31 = nI (D + 1)) (hat : a 18 (D + 1) = nI p) (hp : p < 21200) (hc : a 1 p = c) (hst : a 20 (D + 1) = 0) (h1 : ¬ (48 ≤ c ∧ c ≤ 57)) (h2 : ¬ c = 110) (h3 : ¬ (97 ≤ c ∧ c ≤ 102)) (h4 : 65 ≤ c ∧ c ≤ 70) (hd : 1 ≤ d) (k : zm_J N (d - 1) 100 0 [(0, .ref 12), (1, .int (c - 65))] [] (zr_H C ex sl s a) (zr_SQ C ex sl J)) : zm_J N d 87 0 [(0, .ref 12)] [] (zr_H C ex sl s a) (zr_SQ C ex sl J) := by
  obtain ⟨d, rfl⟩ : ∃ e, d = e + 1 := ⟨d - 1, by omega⟩
  refine zm_J_run zm_T 3 (pc' := 5) (lv' := [(1, .int (s 31)), (0, .ref 12)]) (st' := []) (G' := (zr_H C ex sl s a)) rfl ?_
  rw [show (.int (s 31) : Value) = .int (nI (D + 1)) from congrArg Value.int hD]
  show zm_J N _ 87 5 [(1, .int (nI (D + 1))), (0, .ref 12)] [] (zr_H C ex sl s a) _
  refine zm_J_run zm_T 3 (pc' := 10) (lv' := [(1, .int (nI (D + 1))), (0, .ref 12)]) (st' := [.int (nI (D + 1)), .ref 31]) (G' := (zr_H C ex sl s a)) rfl ?_
  refine zg_ald (i := .iaload) (t := 0) (n := 64) (f := a 18) (m := D + 1) rfl rfl rfl rfl rfl (by omega) (by decide) ?_
  rw [show a 18 (D + 1) = nI p from hat]
  refine zm_J_run zm_T 4 (pc' := 17) (lv' := [(2, .int (nI p)), (1, .int (nI (D + 1))), (0, .ref 12)]) (st' := [.int (nI p), .ref 14]) (G' := (zr_H C ex sl s a)) rfl ?_
  refine zg_ald (i := .iaload) (t := 0) (n := 21200) (f := a 1) (m := p) rfl rfl rfl rfl rfl (by omega) (by decide) ?_
  rw [show a 1 p = c from hc]
  refine zm_J_run zm_T 4 (pc' := 24) (lv' := [(3, .int c), (2, .int (nI p)), (1, .int (nI (D + 1))), (0, .ref 12)]) (st' := [.int (nI (D + 1)), .ref 33]) (G' := (zr_H C ex sl s a)) rfl ?_
  refine zg_ald (i := .iaload) (t := 0) (n := 64) (f := a 20) (m := D + 1) rfl rfl rfl rfl rfl (by omega) (by decide) ?_
  rw [show a 20 (D + 1) = 0 from hst]
  refine zm_J_run zm_T 5 (pc' := 41) (lv' := [(3, .int c), (2, .int (nI p)), (1, .int (nI (D + 1))), (0, .ref 12)]) (st' := [.int (nI (D + 1)), .ref 33]) (G' := (zr_H C ex sl s a)) rfl ?_
  refine zg_ald (i := .iaload) (t := 0) (n := 64) (f := a 20) (m := D + 1) rfl rfl rfl rfl rfl (by omega) (by decide) ?_
  rw [show a 20 (D + 1) = 0 from hst]
  refine zm_J_run zm_T 5 (pc' := 64) (lv' := [(3, .int c), (2, .int (nI p)), (1, .int (nI (D + 1))), (0, .ref 12)]) (st' := [.int (nI (D + 1)), .ref 33]) (G' := (zr_H C ex sl s a)) rfl ?_
  refine zg_ald (i := .iaload) (t := 0) (n := 64) (f := a 20) (m := D + 1) rfl rfl rfl rfl rfl (by omega) (by decide) ?_
  rw [show a 20 (D + 1) = 0 from hst]
  refine zm_J_run zm_T 1 (pc' := if (0 : Int32) ≤ 0 then 77 else 68) (lv' := [(3, .int c), (2, .int (nI p)), (1, .int (nI (D + 1))), (0, .ref 12)]) (st' := []) (G' := (zr_H C ex sl s a)) rfl ?_
  rw [if_pos (show (0 : Int32) ≤ 0 by decide +kernel)]
  refine zm_J_run zm_T 3 (pc' := 82) (lv' := [(3, .int c), (2, .int (nI p)), (1, .int (nI (D + 1))), (0, .ref 12)]) (st' := [.int 57, .int 48, .int c]) (G' := (zr_H C ex sl s a)) rfl ?_
  refine zg_S (av := [.int c, .int 48, .int 57]) (rest := []) (v := some (.int (if 48 ≤ c ∧ c ≤ 57 then 1 else 0))) (G2 := (zr_H C ex sl s a)) (zm_T.1 87 82 _ rfl).1 zc_87_82 (Nat.le_of_ble_eq_true rfl) (Nat.le_of_ble_eq_true rfl) (zr_c hr) (zr_s hr) (zr_btw c 48 57 _) ?_
  show zm_J N _ 87 85 [(3, .int c), (2, .int (nI p)), (1, .int (nI (D + 1))), (0, .ref 12)] [.int (if 48 ≤ c ∧ c ≤ 57 then 1 else 0)] (zr_H C ex sl s a) _
  rw [if_neg h1]
  show zm_J N _ 87 85 [(3, .int c), (2, .int (nI p)), (1, .int (nI (D + 1))), (0, .ref 12)] [.int 0] (zr_H C ex sl s a) _
  refine zm_J_run zm_T 4 (pc' := if c = 110 then 107 else 117) (lv' := [(3, .int c), (2, .int (nI p)), (1, .int (nI (D + 1))), (0, .ref 12)]) (st' := []) (G' := (zr_H C ex sl s a)) rfl ?_
  rw [if_neg (show ¬ (c = 110) from h2)]
  refine zm_J_run zm_T 3 (pc' := 122) (lv' := [(3, .int c), (2, .int (nI p)), (1, .int (nI (D + 1))), (0, .ref 12)]) (st' := [.int 102, .int 97, .int c]) (G' := (zr_H C ex sl s a)) rfl ?_
  refine zg_S (av := [.int c, .int 97, .int 102]) (rest := []) (v := some (.int (if 97 ≤ c ∧ c ≤ 102 then 1 else 0))) (G2 := (zr_H C ex sl s a)) (zm_T.1 87 122 _ rfl).1 zc_87_122 (Nat.le_of_ble_eq_true rfl) (Nat.le_of_ble_eq_true rfl) (zr_c hr) (zr_s hr) (zr_btw c 97 102 _) ?_
  show zm_J N _ 87 125 [(3, .int c), (2, .int (nI p)), (1, .int (nI (D + 1))), (0, .ref 12)] [.int (if 97 ≤ c ∧ c ≤ 102 then 1 else 0)] (zr_H C ex sl s a) _
  rw [if_neg h3]
  show zm_J N _ 87 125 [(3, .int c), (2, .int (nI p)), (1, .int (nI (D + 1))), (0, .ref 12)] [.int 0] (zr_H C ex sl s a) _
  refine zm_J_run zm_T 4 (pc' := 151) (lv' := [(3, .int c), (2, .int (nI p)), (1, .int (nI (D + 1))), (0, .ref 12)]) (st' := [.int 70, .int 65, .int c]) (G' := (zr_H C ex sl s a)) rfl ?_
  refine zg_S (av := [.int c, .int 65, .int 70]) (rest := []) (v := some (.int (if 65 ≤ c ∧ c ≤ 70 then 1 else 0))) (G2 := (zr_H C ex sl s a)) (zm_T.1 87 151 _ rfl).1 zc_87_151 (Nat.le_of_ble_eq_true rfl) (Nat.le_of_ble_eq_true rfl) (zr_c hr) (zr_s hr) (zr_btw c 65 70 _) ?_
  show zm_J N _ 87 154 [(3, .int c), (2, .int (nI p)), (1, .int (nI (D + 1))), (0, .ref 12)] [.int (if 65 ≤ c ∧ c ≤ 70 then 1 else 0)] (zr_H C ex sl s a) _
  rw [if_pos h4]
  show zm_J N _ 87 154 [(3, .int c), (2, .int (nI p)), (1, .int (nI (D + 1))), (0, .ref 12)] [.int 1] (zr_H C ex sl s a) _
  refine zm_J_run zm_T 5 (pc' := 162) (lv' := [(3, .int c), (2, .int (nI p)), (1, .int (nI (D + 1))), (0, .ref 12)]) (st' := [.int (c - 65), .ref 12]) (G' := (zr_H C ex sl s a)) rfl ?_
  refine zm_J_V (a := 12) (av := [.int (c - 65)]) (rest := []) (zm_T.1 87 162 _ rfl).1 zc_87_162 rfl (Nat.le_of_ble_eq_true rfl) (Nat.le_of_ble_eq_true rfl) (zr_c hr) (zr_s hr) (k) ?_ ?_
  rotate_left
  · intro x G' h; exact nomatch h.1
  intro v G' h
  obtain ⟨h1, s', a', rfl, hL⟩ := h
  cases Sum.inl.inj h1
  show zm_J N _ 87 165 [(3, .int c), (2, .int (nI p)), (1, .int (nI (D + 1))), (0, .ref 12)] [] (zr_H C ex sl s' a') _
  refine zm_J_run zm_T 1 (pc' := 236) (lv' := [(3, .int c), (2, .int (nI p)), (1, .int (nI (D + 1))), (0, .ref 12)]) (st' := []) (G' := (zr_H C ex sl s' a')) rfl ?_
  exact zm_J_fin zm_T rfl rfl ⟨rfl, _, _, rfl, hL⟩
theorem zr_s_go (hr : zr_r ex sl) {D p : Nat} {c : Int32} (h60 : D < 60) (hD : s 31 = nI (D + 1)) (hat : a 18 (D + 1) = nI p) (hp : p < 21200) (hc : a 1 p = c) (hst : a 20 (D + 1) = 1 ∨ a 20 (D + 1) = 2) (hd : 1 ≤ d) (k : zm_J N (d - 1) 91 0 [(0, .ref 12), (1, .int (nI (D + 1))), (2, .int c)] [] (zr_H C ex sl s a) (zr_SQ C ex sl J)) : zm_J N d 87 0 [(0, .ref 12)] [] (zr_H C ex sl s a) (zr_SQ C ex sl J) := by
  obtain ⟨d, rfl⟩ : ∃ e, d = e + 1 := ⟨d - 1, by omega⟩
  refine zm_J_run zm_T 3 (pc' := 5) (lv' := [(1, .int (s 31)), (0, .ref 12)]) (st' := []) (G' := (zr_H C ex sl s a)) rfl ?_
  rw [show (.int (s 31) : Value) = .int (nI (D + 1)) from congrArg Value.int hD]
  show zm_J N _ 87 5 [(1, .int (nI (D + 1))), (0, .ref 12)] [] (zr_H C ex sl s a) _
  refine zm_J_run zm_T 3 (pc' := 10) (lv' := [(1, .int (nI (D + 1))), (0, .ref 12)]) (st' := [.int (nI (D + 1)), .ref 31]) (G' := (zr_H C ex sl s a)) rfl ?_
  refine zg_ald (i := .iaload) (t := 0) (n := 64) (f := a 18) (m := D + 1) rfl rfl rfl rfl rfl (by omega) (by decide) ?_
  rw [show a 18 (D + 1) = nI p from hat]
  refine zm_J_run zm_T 4 (pc' := 17) (lv' := [(2, .int (nI p)), (1, .int (nI (D + 1))), (0, .ref 12)]) (st' := [.int (nI p), .ref 14]) (G' := (zr_H C ex sl s a)) rfl ?_
  refine zg_ald (i := .iaload) (t := 0) (n := 21200) (f := a 1) (m := p) rfl rfl rfl rfl rfl (by omega) (by decide) ?_
  rw [show a 1 p = c from hc]
  obtain ⟨x, hst, hx1, hx2, hx3⟩ : ∃ x, a 20 (D + 1) = x ∧ ¬ x = 3 ∧ ¬ x = 4 ∧ ¬ x ≤ 0 := by rcases hst with h | h <;> exact ⟨_, h, by decide, by decide, by decide⟩
  refine zm_J_run zm_T 4 (pc' := 24) (lv' := [(3, .int c), (2, .int (nI p)), (1, .int (nI (D + 1))), (0, .ref 12)]) (st' := [.int (nI (D + 1)), .ref 33]) (G' := (zr_H C ex sl s a)) rfl ?_
  refine zg_ald (i := .iaload) (t := 0) (n := 64) (f := a 20) (m := D + 1) rfl rfl rfl rfl rfl (by omega) (by decide) ?_
  rw [show a 20 (D + 1) = x from hst]
  refine zm_J_run zm_T 2 (pc' := if x = 3 then 29 else 36) (lv' := [(3, .int c), (2, .int (nI p)), (1, .int (nI (D + 1))), (0, .ref 12)]) (st' := []) (G' := (zr_H C ex sl s a)) rfl ?_
  rw [if_neg (show ¬ (x = 3) from hx1)]
  refine zm_J_run zm_T 3 (pc' := 41) (lv' := [(3, .int c), (2, .int (nI p)), (1, .int (nI (D + 1))), (0, .ref 12)]) (st' := [.int (nI (D + 1)), .ref 33]) (G' := (zr_H C ex sl s a)) rfl ?_
  refine zg_ald (i := .iaload) (t := 0) (n := 64) (f := a 20) (m := D + 1) rfl rfl rfl rfl rfl (by omega) (by decide) ?_
  rw [show a 20 (D + 1) = x from hst]
  refine zm_J_run zm_T 2 (pc' := if x = 4 then 46 else 59) (lv' := [(3, .int c), (2, .int (nI p)), (1, .int (nI (D + 1))), (0, .ref 12)]) (st' := []) (G' := (zr_H C ex sl s a)) rfl ?_
  rw [if_neg (show ¬ (x = 4) from hx2)]
  refine zm_J_run zm_T 3 (pc' := 64) (lv' := [(3, .int c), (2, .int (nI p)), (1, .int (nI (D + 1))), (0, .ref 12)]) (st' := [.int (nI (D + 1)), .ref 33]) (G' := (zr_H C ex sl s a)) rfl ?_
  refine zg_ald (i := .iaload) (t := 0) (n := 64) (f := a 20) (m := D + 1) rfl rfl rfl rfl rfl (by omega) (by decide) ?_
  rw [show a 20 (D + 1) = x from hst]
  refine zm_J_run zm_T 1 (pc' := if x ≤ 0 then 77 else 68) (lv' := [(3, .int c), (2, .int (nI p)), (1, .int (nI (D + 1))), (0, .ref 12)]) (st' := []) (G' := (zr_H C ex sl s a)) rfl ?_
  rw [if_neg (show ¬ (x ≤ 0) from hx3)]
  refine zm_J_run zm_T 3 (pc' := 71) (lv' := [(3, .int c), (2, .int (nI p)), (1, .int (nI (D + 1))), (0, .ref 12)]) (st' := [.int c, .int (nI (D + 1)), .ref 12]) (G' := (zr_H C ex sl s a)) rfl ?_
  refine zm_J_V (a := 12) (av := [.int (nI (D + 1)), .int c]) (rest := []) (zm_T.1 87 71 _ rfl).1 zc_87_71 rfl (Nat.le_of_ble_eq_true rfl) (Nat.le_of_ble_eq_true rfl) (zr_c hr) (zr_s hr) (k) ?_ ?_
  rotate_left
  · intro x G' h; exact nomatch h.1
  intro v G' h
  obtain ⟨h1, s', a', rfl, hL⟩ := h
  cases Sum.inl.inj h1
  show zm_J N _ 87 74 [(3, .int c), (2, .int (nI p)), (1, .int (nI (D + 1))), (0, .ref 12)] [] (zr_H C ex sl s' a') _
  refine zm_J_run zm_T 1 (pc' := 236) (lv' := [(3, .int c), (2, .int (nI p)), (1, .int (nI (D + 1))), (0, .ref 12)]) (st' := []) (G' := (zr_H C ex sl s' a')) rfl ?_
  exact zm_J_fin zm_T rfl rfl ⟨rfl, _, _, rfl, hL⟩
theorem zr_s_first (hr : zr_r ex sl) {D p : Nat} {c : Int32} (h60 : D < 60) (hD : s 31 = nI (D + 1)) (hat : a 18 (D + 1) = nI p) (hp : p < 21200) (hc : a 1 p = c) (hst : a 20 (D + 1) = 0) (h1 : ¬ (48 ≤ c ∧ c ≤ 57)) (h2 : ¬ c = 110) (h3 : ¬ (97 ≤ c ∧ c ≤ 102)) (h4 : ¬ (65 ≤ c ∧ c ≤ 70)) (h5 : ¬ c = 58) {e : Int32} (hin : a 19 (D + 1) = e) (hd : 2 ≤ d) (k : J (zr_pS s (D + 1)) (zr_pA (zu a 20 (upd (a 20) (D + 1) 1)) (D + 1) (nI (p + 1)) e)) : zm_J N d 87 0 [(0, .ref 12)] [] (zr_H C ex sl s a) (zr_SQ C ex sl J) := by
  obtain ⟨d, rfl⟩ : ∃ e, d = e + 2 := ⟨d - 2, by omega⟩
  refine zm_J_run zm_T 3 (pc' := 5) (lv' := [(1, .int (s 31)), (0, .ref 12)]) (st' := []) (G' := (zr_H C ex sl s a)) rfl ?_
  rw [show (.int (s 31) : Value) = .int (nI (D + 1)) from congrArg Value.int hD]
  show zm_J N _ 87 5 [(1, .int (nI (D + 1))), (0, .ref 12)] [] (zr_H C ex sl s a) _
  refine zm_J_run zm_T 3 (pc' := 10) (lv' := [(1, .int (nI (D + 1))), (0, .ref 12)]) (st' := [.int (nI (D + 1)), .ref 31]) (G' := (zr_H C ex sl s a)) rfl ?_
  refine zg_ald (i := .iaload) (t := 0) (n := 64) (f := a 18) (m := D + 1) rfl rfl rfl rfl rfl (by omega) (by decide) ?_
  rw [show a 18 (D + 1) = nI p from hat]
  refine zm_J_run zm_T 4 (pc' := 17) (lv' := [(2, .int (nI p)), (1, .int (nI (D + 1))), (0, .ref 12)]) (st' := [.int (nI p), .ref 14]) (G' := (zr_H C ex sl s a)) rfl ?_
  refine zg_ald (i := .iaload) (t := 0) (n := 21200) (f := a 1) (m := p) rfl rfl rfl rfl rfl (by omega) (by decide) ?_
  rw [show a 1 p = c from hc]
  refine zm_J_run zm_T 4 (pc' := 24) (lv' := [(3, .int c), (2, .int (nI p)), (1, .int (nI (D + 1))), (0, .ref 12)]) (st' := [.int (nI (D + 1)), .ref 33]) (G' := (zr_H C ex sl s a)) rfl ?_
  refine zg_ald (i := .iaload) (t := 0) (n := 64) (f := a 20) (m := D + 1) rfl rfl rfl rfl rfl (by omega) (by decide) ?_
  rw [show a 20 (D + 1) = 0 from hst]
  refine zm_J_run zm_T 5 (pc' := 41) (lv' := [(3, .int c), (2, .int (nI p)), (1, .int (nI (D + 1))), (0, .ref 12)]) (st' := [.int (nI (D + 1)), .ref 33]) (G' := (zr_H C ex sl s a)) rfl ?_
  refine zg_ald (i := .iaload) (t := 0) (n := 64) (f := a 20) (m := D + 1) rfl rfl rfl rfl rfl (by omega) (by decide) ?_
  rw [show a 20 (D + 1) = 0 from hst]
  refine zm_J_run zm_T 5 (pc' := 64) (lv' := [(3, .int c), (2, .int (nI p)), (1, .int (nI (D + 1))), (0, .ref 12)]) (st' := [.int (nI (D + 1)), .ref 33]) (G' := (zr_H C ex sl s a)) rfl ?_
  refine zg_ald (i := .iaload) (t := 0) (n := 64) (f := a 20) (m := D + 1) rfl rfl rfl rfl rfl (by omega) (by decide) ?_
  rw [show a 20 (D + 1) = 0 from hst]
  refine zm_J_run zm_T 1 (pc' := if (0 : Int32) ≤ 0 then 77 else 68) (lv' := [(3, .int c), (2, .int (nI p)), (1, .int (nI (D + 1))), (0, .ref 12)]) (st' := []) (G' := (zr_H C ex sl s a)) rfl ?_
  rw [if_pos (show (0 : Int32) ≤ 0 by decide +kernel)]
  refine zm_J_run zm_T 3 (pc' := 82) (lv' := [(3, .int c), (2, .int (nI p)), (1, .int (nI (D + 1))), (0, .ref 12)]) (st' := [.int 57, .int 48, .int c]) (G' := (zr_H C ex sl s a)) rfl ?_
  refine zg_S (av := [.int c, .int 48, .int 57]) (rest := []) (v := some (.int (if 48 ≤ c ∧ c ≤ 57 then 1 else 0))) (G2 := (zr_H C ex sl s a)) (zm_T.1 87 82 _ rfl).1 zc_87_82 (Nat.le_of_ble_eq_true rfl) (Nat.le_of_ble_eq_true rfl) (zr_c hr) (zr_s hr) (zr_btw c 48 57 _) ?_
  show zm_J N _ 87 85 [(3, .int c), (2, .int (nI p)), (1, .int (nI (D + 1))), (0, .ref 12)] [.int (if 48 ≤ c ∧ c ≤ 57 then 1 else 0)] (zr_H C ex sl s a) _
  rw [if_neg h1]
  show zm_J N _ 87 85 [(3, .int c), (2, .int (nI p)), (1, .int (nI (D + 1))), (0, .ref 12)] [.int 0] (zr_H C ex sl s a) _
  refine zm_J_run zm_T 4 (pc' := if c = 110 then 107 else 117) (lv' := [(3, .int c), (2, .int (nI p)), (1, .int (nI (D + 1))), (0, .ref 12)]) (st' := []) (G' := (zr_H C ex sl s a)) rfl ?_
  rw [if_neg (show ¬ (c = 110) from h2)]
  refine zm_J_run zm_T 3 (pc' := 122) (lv' := [(3, .int c), (2, .int (nI p)), (1, .int (nI (D + 1))), (0, .ref 12)]) (st' := [.int 102, .int 97, .int c]) (G' := (zr_H C ex sl s a)) rfl ?_
  refine zg_S (av := [.int c, .int 97, .int 102]) (rest := []) (v := some (.int (if 97 ≤ c ∧ c ≤ 102 then 1 else 0))) (G2 := (zr_H C ex sl s a)) (zm_T.1 87 122 _ rfl).1 zc_87_122 (Nat.le_of_ble_eq_true rfl) (Nat.le_of_ble_eq_true rfl) (zr_c hr) (zr_s hr) (zr_btw c 97 102 _) ?_
  show zm_J N _ 87 125 [(3, .int c), (2, .int (nI p)), (1, .int (nI (D + 1))), (0, .ref 12)] [.int (if 97 ≤ c ∧ c ≤ 102 then 1 else 0)] (zr_H C ex sl s a) _
  rw [if_neg h3]
  show zm_J N _ 87 125 [(3, .int c), (2, .int (nI p)), (1, .int (nI (D + 1))), (0, .ref 12)] [.int 0] (zr_H C ex sl s a) _
  refine zm_J_run zm_T 4 (pc' := 151) (lv' := [(3, .int c), (2, .int (nI p)), (1, .int (nI (D + 1))), (0, .ref 12)]) (st' := [.int 70, .int 65, .int c]) (G' := (zr_H C ex sl s a)) rfl ?_
  refine zg_S (av := [.int c, .int 65, .int 70]) (rest := []) (v := some (.int (if 65 ≤ c ∧ c ≤ 70 then 1 else 0))) (G2 := (zr_H C ex sl s a)) (zm_T.1 87 151 _ rfl).1 zc_87_151 (Nat.le_of_ble_eq_true rfl) (Nat.le_of_ble_eq_true rfl) (zr_c hr) (zr_s hr) (zr_btw c 65 70 _) ?_
  show zm_J N _ 87 154 [(3, .int c), (2, .int (nI p)), (1, .int (nI (D + 1))), (0, .ref 12)] [.int (if 65 ≤ c ∧ c ≤ 70 then 1 else 0)] (zr_H C ex sl s a) _
  rw [if_neg h4]
  show zm_J N _ 87 154 [(3, .int c), (2, .int (nI p)), (1, .int (nI (D + 1))), (0, .ref 12)] [.int 0] (zr_H C ex sl s a) _
  refine zm_J_run zm_T 4 (pc' := if c = 58 then 174 else 216) (lv' := [(3, .int c), (2, .int (nI p)), (1, .int (nI (D + 1))), (0, .ref 12)]) (st' := []) (G' := (zr_H C ex sl s a)) rfl ?_
  rw [if_neg (show ¬ (c = 58) from h5)]
  refine zm_J_run zm_T 4 (pc' := 222) (lv' := [(3, .int c), (2, .int (nI p)), (1, .int (nI (D + 1))), (0, .ref 12)]) (st' := [.int 1, .int (nI (D + 1)), .ref 33]) (G' := (zr_H C ex sl s a)) rfl ?_
  refine zg_ast (i := .iastore) (t := 0) (n := 64) (f := a 20) (m := D + 1) (v' := 1) (G' := (zr_H C ex sl s (zu a 20 (upd (a 20) (D + 1) 1)))) rfl rfl rfl rfl (by decide) rfl (by omega) (by decide) rfl ?_
  refine zm_J_run zm_T 7 (pc' := 232) (lv' := [(3, .int c), (2, .int (nI p)), (1, .int (nI (D + 1))), (0, .ref 12)]) (st' := [.int (nI (D + 1)), .ref 32, .int ((nI p) + 1), .ref 12]) (G' := (zr_H C ex sl s (zu a 20 (upd (a 20) (D + 1) 1)))) rfl ?_
  refine zg_ald (i := .iaload) (t := 0) (n := 64) (f := a 19) (m := D + 1) rfl rfl rfl rfl rfl (by omega) (by decide) ?_
  rw [show a 19 (D + 1) = e from hin]
  rw [show nI p + 1 = nI (p + 1) from nI_1 p]
  show zm_J N _ 87 233 [(3, .int c), (2, .int (nI p)), (1, .int (nI (D + 1))), (0, .ref 12)] [.int e, .int (nI (p + 1)), .ref 12] (zr_H C ex sl s (zu a 20 (upd (a 20) (D + 1) 1))) _
  refine zg_V (a := 12) (av := [.int (nI (p + 1)), .int e]) (rest := []) (v := none) (G2 := (zr_H C ex sl (zr_pS s (D + 1)) (zr_pA (zu a 20 (upd (a 20) (D + 1) 1)) (D + 1) (nI (p + 1)) e))) (zm_T.1 87 233 _ rfl).1 zc_87_233 rfl (Nat.le_of_ble_eq_true rfl) (Nat.le_of_ble_eq_true rfl) (zr_c hr) (zr_s hr) (zr_push (a := zu a 20 (upd (a 20) (D + 1) 1)) hD (by omega) (nI (p + 1)) e) ?_
  show zm_J N _ 87 236 [(3, .int c), (2, .int (nI p)), (1, .int (nI (D + 1))), (0, .ref 12)] [] (zr_H C ex sl (zr_pS s (D + 1)) (zr_pA (zu a 20 (upd (a 20) (D + 1) 1)) (D + 1) (nI (p + 1)) e)) _
  exact zm_J_fin zm_T rfl rfl ⟨rfl, _, _, rfl, k⟩
theorem zr_s_pair (hr : zr_r ex sl) {D p : Nat} {c : Int32} (h60 : D < 60) (hD : s 31 = nI (D + 1)) (hat : a 18 (D + 1) = nI p) (hp : p < 21200) (hc : a 1 p = c) (hst : a 20 (D + 1) = 0) (h5 : c = 58) {L r : List Int32} (hL : zv_wL L) (hrk : zv_ok L r 1 = true) (htx : zr_tx M (a 1) (p + 1) r) {e : Int32} (hin : a 19 (D + 1) = e) {x y : Int32} {s1 s2 : Nat → Int32} {a1 a2 : Nat → Nat → Int32} (j1 : zm_J N (d - 1) 93 0 [(0, .ref 12), (1, .int (nI (p + 1))), (2, .int e)] [] (zr_H C ex sl s a) (zr_R C ex sl (some (.int x)) s1 a1)) (e1 : a1 1 = a 1) (e2 : a1 19 = a 19) (j2 : zm_J N (d - 1) 93 0 [(0, .ref 12), (1, .int (nI (p + 1 + zv_n r 1))), (2, .int e)] [] (zr_H C ex sl s1 a1) (zr_R C ex sl (some (.int y)) s2 a2)) (hd : 3 ≤ d) (k : J (zr_gS s2 2 x y) a2) : zm_J N d 87 0 [(0, .ref 12)] [] (zr_H C ex sl s a) (zr_SQ C ex sl J) := by
  obtain ⟨d, rfl⟩ : ∃ e, d = e + 3 := ⟨d - 3, by omega⟩
  refine zm_J_run zm_T 3 (pc' := 5) (lv' := [(1, .int (s 31)), (0, .ref 12)]) (st' := []) (G' := (zr_H C ex sl s a)) rfl ?_
  rw [show (.int (s 31) : Value) = .int (nI (D + 1)) from congrArg Value.int hD]
  show zm_J N _ 87 5 [(1, .int (nI (D + 1))), (0, .ref 12)] [] (zr_H C ex sl s a) _
  refine zm_J_run zm_T 3 (pc' := 10) (lv' := [(1, .int (nI (D + 1))), (0, .ref 12)]) (st' := [.int (nI (D + 1)), .ref 31]) (G' := (zr_H C ex sl s a)) rfl ?_
  refine zg_ald (i := .iaload) (t := 0) (n := 64) (f := a 18) (m := D + 1) rfl rfl rfl rfl rfl (by omega) (by decide) ?_
  rw [show a 18 (D + 1) = nI p from hat]
  refine zm_J_run zm_T 4 (pc' := 17) (lv' := [(2, .int (nI p)), (1, .int (nI (D + 1))), (0, .ref 12)]) (st' := [.int (nI p), .ref 14]) (G' := (zr_H C ex sl s a)) rfl ?_
  refine zg_ald (i := .iaload) (t := 0) (n := 21200) (f := a 1) (m := p) rfl rfl rfl rfl rfl (by omega) (by decide) ?_
  rw [show a 1 p = c from hc]
  have h1 : ¬ (48 ≤ c ∧ c ≤ 57) := by rw [h5]; decide
  have h2 : ¬ c = 110 := by rw [h5]; decide
  have h3 : ¬ (97 ≤ c ∧ c ≤ 102) := by rw [h5]; decide
  have h4 : ¬ (65 ≤ c ∧ c ≤ 70) := by rw [h5]; decide
  refine zm_J_run zm_T 4 (pc' := 24) (lv' := [(3, .int c), (2, .int (nI p)), (1, .int (nI (D + 1))), (0, .ref 12)]) (st' := [.int (nI (D + 1)), .ref 33]) (G' := (zr_H C ex sl s a)) rfl ?_
  refine zg_ald (i := .iaload) (t := 0) (n := 64) (f := a 20) (m := D + 1) rfl rfl rfl rfl rfl (by omega) (by decide) ?_
  rw [show a 20 (D + 1) = 0 from hst]
  refine zm_J_run zm_T 5 (pc' := 41) (lv' := [(3, .int c), (2, .int (nI p)), (1, .int (nI (D + 1))), (0, .ref 12)]) (st' := [.int (nI (D + 1)), .ref 33]) (G' := (zr_H C ex sl s a)) rfl ?_
  refine zg_ald (i := .iaload) (t := 0) (n := 64) (f := a 20) (m := D + 1) rfl rfl rfl rfl rfl (by omega) (by decide) ?_
  rw [show a 20 (D + 1) = 0 from hst]
  refine zm_J_run zm_T 5 (pc' := 64) (lv' := [(3, .int c), (2, .int (nI p)), (1, .int (nI (D + 1))), (0, .ref 12)]) (st' := [.int (nI (D + 1)), .ref 33]) (G' := (zr_H C ex sl s a)) rfl ?_
  refine zg_ald (i := .iaload) (t := 0) (n := 64) (f := a 20) (m := D + 1) rfl rfl rfl rfl rfl (by omega) (by decide) ?_
  rw [show a 20 (D + 1) = 0 from hst]
  refine zm_J_run zm_T 1 (pc' := if (0 : Int32) ≤ 0 then 77 else 68) (lv' := [(3, .int c), (2, .int (nI p)), (1, .int (nI (D + 1))), (0, .ref 12)]) (st' := []) (G' := (zr_H C ex sl s a)) rfl ?_
  rw [if_pos (show (0 : Int32) ≤ 0 by decide +kernel)]
  refine zm_J_run zm_T 3 (pc' := 82) (lv' := [(3, .int c), (2, .int (nI p)), (1, .int (nI (D + 1))), (0, .ref 12)]) (st' := [.int 57, .int 48, .int c]) (G' := (zr_H C ex sl s a)) rfl ?_
  refine zg_S (av := [.int c, .int 48, .int 57]) (rest := []) (v := some (.int (if 48 ≤ c ∧ c ≤ 57 then 1 else 0))) (G2 := (zr_H C ex sl s a)) (zm_T.1 87 82 _ rfl).1 zc_87_82 (Nat.le_of_ble_eq_true rfl) (Nat.le_of_ble_eq_true rfl) (zr_c hr) (zr_s hr) (zr_btw c 48 57 _) ?_
  show zm_J N _ 87 85 [(3, .int c), (2, .int (nI p)), (1, .int (nI (D + 1))), (0, .ref 12)] [.int (if 48 ≤ c ∧ c ≤ 57 then 1 else 0)] (zr_H C ex sl s a) _
  rw [if_neg h1]
  show zm_J N _ 87 85 [(3, .int c), (2, .int (nI p)), (1, .int (nI (D + 1))), (0, .ref 12)] [.int 0] (zr_H C ex sl s a) _
  refine zm_J_run zm_T 4 (pc' := if c = 110 then 107 else 117) (lv' := [(3, .int c), (2, .int (nI p)), (1, .int (nI (D + 1))), (0, .ref 12)]) (st' := []) (G' := (zr_H C ex sl s a)) rfl ?_
  rw [if_neg (show ¬ (c = 110) from h2)]
  refine zm_J_run zm_T 3 (pc' := 122) (lv' := [(3, .int c), (2, .int (nI p)), (1, .int (nI (D + 1))), (0, .ref 12)]) (st' := [.int 102, .int 97, .int c]) (G' := (zr_H C ex sl s a)) rfl ?_
  refine zg_S (av := [.int c, .int 97, .int 102]) (rest := []) (v := some (.int (if 97 ≤ c ∧ c ≤ 102 then 1 else 0))) (G2 := (zr_H C ex sl s a)) (zm_T.1 87 122 _ rfl).1 zc_87_122 (Nat.le_of_ble_eq_true rfl) (Nat.le_of_ble_eq_true rfl) (zr_c hr) (zr_s hr) (zr_btw c 97 102 _) ?_
  show zm_J N _ 87 125 [(3, .int c), (2, .int (nI p)), (1, .int (nI (D + 1))), (0, .ref 12)] [.int (if 97 ≤ c ∧ c ≤ 102 then 1 else 0)] (zr_H C ex sl s a) _
  rw [if_neg h3]
  show zm_J N _ 87 125 [(3, .int c), (2, .int (nI p)), (1, .int (nI (D + 1))), (0, .ref 12)] [.int 0] (zr_H C ex sl s a) _
  refine zm_J_run zm_T 4 (pc' := 151) (lv' := [(3, .int c), (2, .int (nI p)), (1, .int (nI (D + 1))), (0, .ref 12)]) (st' := [.int 70, .int 65, .int c]) (G' := (zr_H C ex sl s a)) rfl ?_
  refine zg_S (av := [.int c, .int 65, .int 70]) (rest := []) (v := some (.int (if 65 ≤ c ∧ c ≤ 70 then 1 else 0))) (G2 := (zr_H C ex sl s a)) (zm_T.1 87 151 _ rfl).1 zc_87_151 (Nat.le_of_ble_eq_true rfl) (Nat.le_of_ble_eq_true rfl) (zr_c hr) (zr_s hr) (zr_btw c 65 70 _) ?_
  show zm_J N _ 87 154 [(3, .int c), (2, .int (nI p)), (1, .int (nI (D + 1))), (0, .ref 12)] [.int (if 65 ≤ c ∧ c ≤ 70 then 1 else 0)] (zr_H C ex sl s a) _
  rw [if_neg h4]
  show zm_J N _ 87 154 [(3, .int c), (2, .int (nI p)), (1, .int (nI (D + 1))), (0, .ref 12)] [.int 0] (zr_H C ex sl s a) _
  refine zm_J_run zm_T 4 (pc' := if c = 58 then 174 else 216) (lv' := [(3, .int c), (2, .int (nI p)), (1, .int (nI (D + 1))), (0, .ref 12)]) (st' := []) (G' := (zr_H C ex sl s a)) rfl ?_
  rw [if_pos (show c = 58 from h5)]
  refine zm_J_run zm_T 7 (pc' := 183) (lv' := [(3, .int c), (2, .int (nI p)), (1, .int (nI (D + 1))), (0, .ref 12)]) (st' := [.int (nI (D + 1)), .ref 32, .int ((nI p) + 1), .ref 12]) (G' := (zr_H C ex sl s a)) rfl ?_
  refine zg_ald (i := .iaload) (t := 0) (n := 64) (f := a 19) (m := D + 1) rfl rfl rfl rfl rfl (by omega) (by decide) ?_
  rw [show a 19 (D + 1) = e from hin]
  rw [show nI p + 1 = nI (p + 1) from nI_1 p]
  show zm_J N _ 87 184 [(3, .int c), (2, .int (nI p)), (1, .int (nI (D + 1))), (0, .ref 12)] [.int e, .int (nI (p + 1)), .ref 12] (zr_H C ex sl s a) _
  refine zg_V (a := 12) (av := [.int (nI (p + 1)), .int e]) (rest := []) (v := some (.int x)) (G2 := (zr_H C ex sl s1 a1)) (zm_T.1 87 184 _ rfl).1 zc_87_184 rfl (Nat.le_of_ble_eq_true rfl) (Nat.le_of_ble_eq_true rfl) (zr_c hr) (zr_s hr) (j1) ?_
  show zm_J N _ 87 187 [(3, .int c), (2, .int (nI p)), (1, .int (nI (D + 1))), (0, .ref 12)] [.int x] (zr_H C ex sl s1 a1) _
  refine zm_J_run zm_T 9 (pc' := 198) (lv' := [(4, .int x), (3, .int c), (2, .int (nI p)), (1, .int (nI (D + 1))), (0, .ref 12)]) (st' := [.int ((nI p) + 1), .ref 12, .ref 12, .int x, .int 2, .ref 12]) (G' := (zr_H C ex sl s1 a1)) rfl ?_
  rw [show nI p + 1 = nI (p + 1) from nI_1 p]
  show zm_J N _ 87 198 [(4, .int x), (3, .int c), (2, .int (nI p)), (1, .int (nI (D + 1))), (0, .ref 12)] [.int (nI (p + 1)), .ref 12, .ref 12, .int x, .int 2, .ref 12] (zr_H C ex sl s1 a1) _
  refine zg_V (a := 12) (av := [.int (nI (p + 1))]) (rest := [.ref 12, .int x, .int 2, .ref 12]) (v := some (.int (nI (p + 1 + zv_n r 1)))) (G2 := (zr_H C ex sl s1 a1)) (zm_T.1 87 198 _ rfl).1 zc_87_198 rfl (Nat.le_of_ble_eq_true rfl) (Nat.le_of_ble_eq_true rfl) (zr_c hr) (zr_s hr) (zr_skip hL hr (by omega) hrk (by rw [e1]; exact htx)) ?_
  show zm_J N _ 87 201 [(4, .int x), (3, .int c), (2, .int (nI p)), (1, .int (nI (D + 1))), (0, .ref 12)] [.int (nI (p + 1 + zv_n r 1)), .ref 12, .int x, .int 2, .ref 12] (zr_H C ex sl s1 a1) _
  refine zm_J_run zm_T 3 (pc' := 206) (lv' := [(4, .int x), (3, .int c), (2, .int (nI p)), (1, .int (nI (D + 1))), (0, .ref 12)]) (st' := [.int (nI (D + 1)), .ref 32, .int (nI (p + 1 + zv_n r 1)), .ref 12, .int x, .int 2, .ref 12]) (G' := (zr_H C ex sl s1 a1)) rfl ?_
  refine zg_ald (i := .iaload) (t := 0) (n := 64) (f := a1 19) (m := D + 1) rfl rfl rfl rfl rfl (by omega) (by decide) ?_
  rw [show a1 19 (D + 1) = e from (congrFun e2 (D + 1)).trans hin]
  refine zg_V (a := 12) (av := [.int (nI (p + 1 + zv_n r 1)), .int e]) (rest := [.int x, .int 2, .ref 12]) (v := some (.int y)) (G2 := (zr_H C ex sl s2 a2)) (zm_T.1 87 207 _ rfl).1 zc_87_207 rfl (Nat.le_of_ble_eq_true rfl) (Nat.le_of_ble_eq_true rfl) (zr_c hr) (zr_s hr) (j2) ?_
  show zm_J N _ 87 210 [(4, .int x), (3, .int c), (2, .int (nI p)), (1, .int (nI (D + 1))), (0, .ref 12)] [.int y, .int x, .int 2, .ref 12] (zr_H C ex sl s2 a2) _
  refine zg_V (a := 12) (av := [.int 2, .int x, .int y]) (rest := []) (v := none) (G2 := (zr_H C ex sl (zr_gS s2 2 x y) a2)) (zm_T.1 87 210 _ rfl).1 zc_87_210 rfl (Nat.le_of_ble_eq_true rfl) (Nat.le_of_ble_eq_true rfl) (zr_c hr) (zr_s hr) (zr_give 2 x y) ?_
  show zm_J N _ 87 213 [(4, .int x), (3, .int c), (2, .int (nI p)), (1, .int (nI (D + 1))), (0, .ref 12)] [] (zr_H C ex sl (zr_gS s2 2 x y) a2) _
  refine zm_J_run zm_T 1 (pc' := 236) (lv' := [(4, .int x), (3, .int c), (2, .int (nI p)), (1, .int (nI (D + 1))), (0, .ref 12)]) (st' := []) (G' := (zr_H C ex sl (zr_gS s2 2 x y) a2)) rfl ?_
  exact zm_J_fin zm_T rfl rfl ⟨rfl, _, _, rfl, k⟩
theorem zr_g_app (hr : zr_r ex sl) {D p : Nat} {c : Int32} (h60 : D < 60) (hD : s 31 = nI (D + 1)) (hat : a 18 (D + 1) = nI p) (hp : p < 21200) (h1 : c = 46) (hd : 1 ≤ d) (k : zm_J N (d - 1) 92 0 [(0, .ref 12), (1, .int (nI (D + 1)))] [] (zr_H C ex sl s a) (zr_SQ C ex sl J)) : zm_J N d 91 0 [(0, .ref 12), (1, .int (nI (D + 1))), (2, .int c)] [] (zr_H C ex sl s a) (zr_SQ C ex sl J) := by
  obtain ⟨d, rfl⟩ : ∃ e, d = e + 1 := ⟨d - 1, by omega⟩
  refine zm_J_run zm_T 3 (pc' := 5) (lv' := [(0, .ref 12), (1, .int (nI (D + 1))), (2, .int c)]) (st' := [.int (nI (D + 1)), .ref 31]) (G' := (zr_H C ex sl s a)) rfl ?_
  refine zg_ald (i := .iaload) (t := 0) (n := 64) (f := a 18) (m := D + 1) rfl rfl rfl rfl rfl (by omega) (by decide) ?_
  rw [show a 18 (D + 1) = nI p from hat]
  refine zm_J_run zm_T 4 (pc' := if c = 46 then 13 else 21) (lv' := [(3, .int (nI p)), (0, .ref 12), (1, .int (nI (D + 1))), (2, .int c)]) (st' := []) (G' := (zr_H C ex sl s a)) rfl ?_
  rw [if_pos (show c = 46 from h1)]
  refine zm_J_run zm_T 2 (pc' := 15) (lv' := [(3, .int (nI p)), (0, .ref 12), (1, .int (nI (D + 1))), (2, .int c)]) (st' := [.int (nI (D + 1)), .ref 12]) (G' := (zr_H C ex sl s a)) rfl ?_
  refine zm_J_V (a := 12) (av := [.int (nI (D + 1))]) (rest := []) (zm_T.1 91 15 _ rfl).1 zc_91_15 rfl (Nat.le_of_ble_eq_true rfl) (Nat.le_of_ble_eq_true rfl) (zr_c hr) (zr_s hr) (k) ?_ ?_
  rotate_left
  · intro x G' h; exact nomatch h.1
  intro v G' h
  obtain ⟨h1, s', a', rfl, hL⟩ := h
  cases Sum.inl.inj h1
  show zm_J N _ 91 18 [(3, .int (nI p)), (0, .ref 12), (1, .int (nI (D + 1))), (2, .int c)] [] (zr_H C ex sl s' a') _
  refine zm_J_run zm_T 1 (pc' := 277) (lv' := [(3, .int (nI p)), (0, .ref 12), (1, .int (nI (D + 1))), (2, .int c)]) (st' := []) (G' := (zr_H C ex sl s' a')) rfl ?_
  exact zm_J_fin zm_T rfl rfl ⟨rfl, _, _, rfl, hL⟩
theorem zr_g_z1 (hr : zr_r ex sl) {D p : Nat} {c : Int32} (h60 : D < 60) (hD : s 31 = nI (D + 1)) (hat : a 18 (D + 1) = nI p) (hp : p < 21200) (h1 : c = 122) (hk : s 37 = 1) (hd : 1 ≤ d) (k : J (zr_gS s 0 1 0) a) : zm_J N d 91 0 [(0, .ref 12), (1, .int (nI (D + 1))), (2, .int c)] [] (zr_H C ex sl s a) (zr_SQ C ex sl J) := by
  obtain ⟨d, rfl⟩ : ∃ e, d = e + 1 := ⟨d - 1, by omega⟩
  refine zm_J_run zm_T 3 (pc' := 5) (lv' := [(0, .ref 12), (1, .int (nI (D + 1))), (2, .int c)]) (st' := [.int (nI (D + 1)), .ref 31]) (G' := (zr_H C ex sl s a)) rfl ?_
  refine zg_ald (i := .iaload) (t := 0) (n := 64) (f := a 18) (m := D + 1) rfl rfl rfl rfl rfl (by omega) (by decide) ?_
  rw [show a 18 (D + 1) = nI p from hat]
  refine zm_J_run zm_T 4 (pc' := if c = 46 then 13 else 21) (lv' := [(3, .int (nI p)), (0, .ref 12), (1, .int (nI (D + 1))), (2, .int c)]) (st' := []) (G' := (zr_H C ex sl s a)) rfl ?_
  rw [if_neg (show ¬ (c = 46) from by rw [h1]; decide)]
  refine zm_J_run zm_T 3 (pc' := if c = 122 then 27 else 73) (lv' := [(3, .int (nI p)), (0, .ref 12), (1, .int (nI (D + 1))), (2, .int c)]) (st' := []) (G' := (zr_H C ex sl s a)) rfl ?_
  rw [if_pos (show c = 122 from h1)]
  refine zm_J_run zm_T 4 (pc' := if (s 37) = 1 then 51 else 35) (lv' := [(3, .int (nI p)), (0, .ref 12), (1, .int (nI (D + 1))), (2, .int c)]) (st' := []) (G' := (zr_H C ex sl s a)) rfl ?_
  rw [if_pos (show (s 37) = 1 from hk)]
  refine zm_J_run zm_T 6 (pc' := if (s 37) = 1 then 61 else 65) (lv' := [(3, .int (nI p)), (0, .ref 12), (1, .int (nI (D + 1))), (2, .int c)]) (st' := [.int 0, .ref 12]) (G' := (zr_H C ex sl s a)) rfl ?_
  rw [if_pos (show (s 37) = 1 from hk)]
  refine zm_J_run zm_T 3 (pc' := 67) (lv' := [(3, .int (nI p)), (0, .ref 12), (1, .int (nI (D + 1))), (2, .int c)]) (st' := [.int 0, .int 1, .int 0, .ref 12]) (G' := (zr_H C ex sl s a)) rfl ?_
  refine zg_V (a := 12) (av := [.int 0, .int 1, .int 0]) (rest := []) (v := none) (G2 := (zr_H C ex sl (zr_gS s 0 1 0) a)) (zm_T.1 91 67 _ rfl).1 zc_91_67 rfl (Nat.le_of_ble_eq_true rfl) (Nat.le_of_ble_eq_true rfl) (zr_c hr) (zr_s hr) (zr_give 0 1 0) ?_
  show zm_J N _ 91 70 [(3, .int (nI p)), (0, .ref 12), (1, .int (nI (D + 1))), (2, .int c)] [] (zr_H C ex sl (zr_gS s 0 1 0) a) _
  refine zm_J_run zm_T 1 (pc' := 277) (lv' := [(3, .int (nI p)), (0, .ref 12), (1, .int (nI (D + 1))), (2, .int c)]) (st' := []) (G' := (zr_H C ex sl (zr_gS s 0 1 0) a)) rfl ?_
  exact zm_J_fin zm_T rfl rfl ⟨rfl, _, _, rfl, k⟩
theorem zr_g_z2 (hr : zr_r ex sl) {D p : Nat} {c : Int32} (h60 : D < 60) (hD : s 31 = nI (D + 1)) (hat : a 18 (D + 1) = nI p) (hp : p < 21200) (h1 : c = 122) (hk : s 37 = 2) (hd : 1 ≤ d) (k : J (zr_gS s 0 0 0) a) : zm_J N d 91 0 [(0, .ref 12), (1, .int (nI (D + 1))), (2, .int c)] [] (zr_H C ex sl s a) (zr_SQ C ex sl J) := by
  obtain ⟨d, rfl⟩ : ∃ e, d = e + 1 := ⟨d - 1, by omega⟩
  refine zm_J_run zm_T 3 (pc' := 5) (lv' := [(0, .ref 12), (1, .int (nI (D + 1))), (2, .int c)]) (st' := [.int (nI (D + 1)), .ref 31]) (G' := (zr_H C ex sl s a)) rfl ?_
  refine zg_ald (i := .iaload) (t := 0) (n := 64) (f := a 18) (m := D + 1) rfl rfl rfl rfl rfl (by omega) (by decide) ?_
  rw [show a 18 (D + 1) = nI p from hat]
  refine zm_J_run zm_T 4 (pc' := if c = 46 then 13 else 21) (lv' := [(3, .int (nI p)), (0, .ref 12), (1, .int (nI (D + 1))), (2, .int c)]) (st' := []) (G' := (zr_H C ex sl s a)) rfl ?_
  rw [if_neg (show ¬ (c = 46) from by rw [h1]; decide)]
  refine zm_J_run zm_T 3 (pc' := if c = 122 then 27 else 73) (lv' := [(3, .int (nI p)), (0, .ref 12), (1, .int (nI (D + 1))), (2, .int c)]) (st' := []) (G' := (zr_H C ex sl s a)) rfl ?_
  rw [if_pos (show c = 122 from h1)]
  refine zm_J_run zm_T 4 (pc' := if (s 37) = 1 then 51 else 35) (lv' := [(3, .int (nI p)), (0, .ref 12), (1, .int (nI (D + 1))), (2, .int c)]) (st' := []) (G' := (zr_H C ex sl s a)) rfl ?_
  rw [if_neg (show ¬ ((s 37) = 1) from by rw [hk]; decide)]
  refine zm_J_run zm_T 4 (pc' := if (s 37) = 2 then 51 else 43) (lv' := [(3, .int (nI p)), (0, .ref 12), (1, .int (nI (D + 1))), (2, .int c)]) (st' := []) (G' := (zr_H C ex sl s a)) rfl ?_
  rw [if_pos (show (s 37) = 2 from hk)]
  refine zm_J_run zm_T 6 (pc' := if (s 37) = 1 then 61 else 65) (lv' := [(3, .int (nI p)), (0, .ref 12), (1, .int (nI (D + 1))), (2, .int c)]) (st' := [.int 0, .ref 12]) (G' := (zr_H C ex sl s a)) rfl ?_
  rw [if_neg (show ¬ ((s 37) = 1) from by rw [hk]; decide)]
  refine zm_J_run zm_T 2 (pc' := 67) (lv' := [(3, .int (nI p)), (0, .ref 12), (1, .int (nI (D + 1))), (2, .int c)]) (st' := [.int 0, .int 0, .int 0, .ref 12]) (G' := (zr_H C ex sl s a)) rfl ?_
  refine zg_V (a := 12) (av := [.int 0, .int 0, .int 0]) (rest := []) (v := none) (G2 := (zr_H C ex sl (zr_gS s 0 0 0) a)) (zm_T.1 91 67 _ rfl).1 zc_91_67 rfl (Nat.le_of_ble_eq_true rfl) (Nat.le_of_ble_eq_true rfl) (zr_c hr) (zr_s hr) (zr_give 0 0 0) ?_
  show zm_J N _ 91 70 [(3, .int (nI p)), (0, .ref 12), (1, .int (nI (D + 1))), (2, .int c)] [] (zr_H C ex sl (zr_gS s 0 0 0) a) _
  refine zm_J_run zm_T 1 (pc' := 277) (lv' := [(3, .int (nI p)), (0, .ref 12), (1, .int (nI (D + 1))), (2, .int c)]) (st' := []) (G' := (zr_H C ex sl (zr_gS s 0 0 0) a)) rfl ?_
  exact zm_J_fin zm_T rfl rfl ⟨rfl, _, _, rfl, k⟩
theorem zr_g_z5 (hr : zr_r ex sl) {D p : Nat} {c : Int32} (h60 : D < 60) (hD : s 31 = nI (D + 1)) (hat : a 18 (D + 1) = nI p) (hp : p < 21200) (h1 : c = 122) (hk1 : ¬ s 37 = 1) (hk2 : ¬ s 37 = 2) (hd : 1 ≤ d) (k : J (zu s 12 5) a) : zm_J N d 91 0 [(0, .ref 12), (1, .int (nI (D + 1))), (2, .int c)] [] (zr_H C ex sl s a) (zr_SQ C ex sl J) := by
  obtain ⟨d, rfl⟩ : ∃ e, d = e + 1 := ⟨d - 1, by omega⟩
  refine zm_J_run zm_T 3 (pc' := 5) (lv' := [(0, .ref 12), (1, .int (nI (D + 1))), (2, .int c)]) (st' := [.int (nI (D + 1)), .ref 31]) (G' := (zr_H C ex sl s a)) rfl ?_
  refine zg_ald (i := .iaload) (t := 0) (n := 64) (f := a 18) (m := D + 1) rfl rfl rfl rfl rfl (by omega) (by decide) ?_
  rw [show a 18 (D + 1) = nI p from hat]
  refine zm_J_run zm_T 4 (pc' := if c = 46 then 13 else 21) (lv' := [(3, .int (nI p)), (0, .ref 12), (1, .int (nI (D + 1))), (2, .int c)]) (st' := []) (G' := (zr_H C ex sl s a)) rfl ?_
  rw [if_neg (show ¬ (c = 46) from by rw [h1]; decide)]
  refine zm_J_run zm_T 3 (pc' := if c = 122 then 27 else 73) (lv' := [(3, .int (nI p)), (0, .ref 12), (1, .int (nI (D + 1))), (2, .int c)]) (st' := []) (G' := (zr_H C ex sl s a)) rfl ?_
  rw [if_pos (show c = 122 from h1)]
  refine zm_J_run zm_T 4 (pc' := if (s 37) = 1 then 51 else 35) (lv' := [(3, .int (nI p)), (0, .ref 12), (1, .int (nI (D + 1))), (2, .int c)]) (st' := []) (G' := (zr_H C ex sl s a)) rfl ?_
  rw [if_neg (show ¬ ((s 37) = 1) from hk1)]
  refine zm_J_run zm_T 4 (pc' := if (s 37) = 2 then 51 else 43) (lv' := [(3, .int (nI p)), (0, .ref 12), (1, .int (nI (D + 1))), (2, .int c)]) (st' := []) (G' := (zr_H C ex sl s a)) rfl ?_
  rw [if_neg (show ¬ ((s 37) = 2) from hk2)]
  refine zm_J_run zm_T 4 (pc' := 277) (lv' := [(3, .int (nI p)), (0, .ref 12), (1, .int (nI (D + 1))), (2, .int c)]) (st' := []) (G' := (zr_H C ex sl (zu s 12 5) a)) rfl ?_
  exact zm_J_fin zm_T rfl rfl ⟨rfl, _, _, rfl, k⟩
theorem zr_g_h1 (hr : zr_r ex sl) {D p : Nat} {c : Int32} (h60 : D < 60) (hD : s 31 = nI (D + 1)) (hat : a 18 (D + 1) = nI p) (hp : p < 21200) (h1 : c = 104) (hk : s 37 = 1) (hd : 1 ≤ d) (k : J (zu s 12 2) a) : zm_J N d 91 0 [(0, .ref 12), (1, .int (nI (D + 1))), (2, .int c)] [] (zr_H C ex sl s a) (zr_SQ C ex sl J) := by
  obtain ⟨d, rfl⟩ : ∃ e, d = e + 1 := ⟨d - 1, by omega⟩
  refine zm_J_run zm_T 3 (pc' := 5) (lv' := [(0, .ref 12), (1, .int (nI (D + 1))), (2, .int c)]) (st' := [.int (nI (D + 1)), .ref 31]) (G' := (zr_H C ex sl s a)) rfl ?_
  refine zg_ald (i := .iaload) (t := 0) (n := 64) (f := a 18) (m := D + 1) rfl rfl rfl rfl rfl (by omega) (by decide) ?_
  rw [show a 18 (D + 1) = nI p from hat]
  refine zm_J_run zm_T 4 (pc' := if c = 46 then 13 else 21) (lv' := [(3, .int (nI p)), (0, .ref 12), (1, .int (nI (D + 1))), (2, .int c)]) (st' := []) (G' := (zr_H C ex sl s a)) rfl ?_
  rw [if_neg (show ¬ (c = 46) from by rw [h1]; decide)]
  refine zm_J_run zm_T 3 (pc' := if c = 122 then 27 else 73) (lv' := [(3, .int (nI p)), (0, .ref 12), (1, .int (nI (D + 1))), (2, .int c)]) (st' := []) (G' := (zr_H C ex sl s a)) rfl ?_
  rw [if_neg (show ¬ (c = 122) from by rw [h1]; decide)]
  refine zm_J_run zm_T 3 (pc' := if c = 104 then 85 else 79) (lv' := [(3, .int (nI p)), (0, .ref 12), (1, .int (nI (D + 1))), (2, .int c)]) (st' := []) (G' := (zr_H C ex sl s a)) rfl ?_
  rw [if_pos (show c = 104 from h1)]
  refine zm_J_run zm_T 4 (pc' := if (s 37) = 2 then 113 else 93) (lv' := [(3, .int (nI p)), (0, .ref 12), (1, .int (nI (D + 1))), (2, .int c)]) (st' := []) (G' := (zr_H C ex sl s a)) rfl ?_
  rw [if_neg (show ¬ ((s 37) = 2) from by rw [hk]; decide)]
  refine zm_J_run zm_T 5 (pc' := if (s 37) = 1 then 102 else 106) (lv' := [(3, .int (nI p)), (0, .ref 12), (1, .int (nI (D + 1))), (2, .int c)]) (st' := [.ref 12]) (G' := (zr_H C ex sl s a)) rfl ?_
  rw [if_pos (show (s 37) = 1 from hk)]
  refine zm_J_run zm_T 4 (pc' := 277) (lv' := [(3, .int (nI p)), (0, .ref 12), (1, .int (nI (D + 1))), (2, .int c)]) (st' := []) (G' := (zr_H C ex sl (zu s 12 2) a)) rfl ?_
  exact zm_J_fin zm_T rfl rfl ⟨rfl, _, _, rfl, k⟩
theorem zr_g_h5 (hr : zr_r ex sl) {D p : Nat} {c : Int32} (h60 : D < 60) (hD : s 31 = nI (D + 1)) (hat : a 18 (D + 1) = nI p) (hp : p < 21200) (h1 : c = 104) (hk1 : ¬ s 37 = 1) (hk2 : ¬ s 37 = 2) (hd : 1 ≤ d) (k : J (zu s 12 5) a) : zm_J N d 91 0 [(0, .ref 12), (1, .int (nI (D + 1))), (2, .int c)] [] (zr_H C ex sl s a) (zr_SQ C ex sl J) := by
  obtain ⟨d, rfl⟩ : ∃ e, d = e + 1 := ⟨d - 1, by omega⟩
  refine zm_J_run zm_T 3 (pc' := 5) (lv' := [(0, .ref 12), (1, .int (nI (D + 1))), (2, .int c)]) (st' := [.int (nI (D + 1)), .ref 31]) (G' := (zr_H C ex sl s a)) rfl ?_
  refine zg_ald (i := .iaload) (t := 0) (n := 64) (f := a 18) (m := D + 1) rfl rfl rfl rfl rfl (by omega) (by decide) ?_
  rw [show a 18 (D + 1) = nI p from hat]
  refine zm_J_run zm_T 4 (pc' := if c = 46 then 13 else 21) (lv' := [(3, .int (nI p)), (0, .ref 12), (1, .int (nI (D + 1))), (2, .int c)]) (st' := []) (G' := (zr_H C ex sl s a)) rfl ?_
  rw [if_neg (show ¬ (c = 46) from by rw [h1]; decide)]
  refine zm_J_run zm_T 3 (pc' := if c = 122 then 27 else 73) (lv' := [(3, .int (nI p)), (0, .ref 12), (1, .int (nI (D + 1))), (2, .int c)]) (st' := []) (G' := (zr_H C ex sl s a)) rfl ?_
  rw [if_neg (show ¬ (c = 122) from by rw [h1]; decide)]
  refine zm_J_run zm_T 3 (pc' := if c = 104 then 85 else 79) (lv' := [(3, .int (nI p)), (0, .ref 12), (1, .int (nI (D + 1))), (2, .int c)]) (st' := []) (G' := (zr_H C ex sl s a)) rfl ?_
  rw [if_pos (show c = 104 from h1)]
  refine zm_J_run zm_T 4 (pc' := if (s 37) = 2 then 113 else 93) (lv' := [(3, .int (nI p)), (0, .ref 12), (1, .int (nI (D + 1))), (2, .int c)]) (st' := []) (G' := (zr_H C ex sl s a)) rfl ?_
  rw [if_neg (show ¬ ((s 37) = 2) from hk2)]
  refine zm_J_run zm_T 5 (pc' := if (s 37) = 1 then 102 else 106) (lv' := [(3, .int (nI p)), (0, .ref 12), (1, .int (nI (D + 1))), (2, .int c)]) (st' := [.ref 12]) (G' := (zr_H C ex sl s a)) rfl ?_
  rw [if_neg (show ¬ ((s 37) = 1) from hk1)]
  refine zm_J_run zm_T 3 (pc' := 277) (lv' := [(3, .int (nI p)), (0, .ref 12), (1, .int (nI (D + 1))), (2, .int c)]) (st' := []) (G' := (zr_H C ex sl (zu s 12 5) a)) rfl ?_
  exact zm_J_fin zm_T rfl rfl ⟨rfl, _, _, rfl, k⟩
theorem zr_g_h2 (hr : zr_r ex sl) {D p : Nat} {c : Int32} (h60 : D < 60) (hD : s 31 = nI (D + 1)) (hat : a 18 (D + 1) = nI p) (hp : p < 21200) (h1 : c = 104) (hk : s 37 = 2) (hd : 1 ≤ d) (k : zm_J N (d - 1) 97 0 [(0, .ref 12), (1, .int (s 38))] [] (zr_H C ex sl s a) (zr_SQ C ex sl J)) : zm_J N d 91 0 [(0, .ref 12), (1, .int (nI (D + 1))), (2, .int c)] [] (zr_H C ex sl s a) (zr_SQ C ex sl J) := by
  obtain ⟨d, rfl⟩ : ∃ e, d = e + 1 := ⟨d - 1, by omega⟩
  refine zm_J_run zm_T 3 (pc' := 5) (lv' := [(0, .ref 12), (1, .int (nI (D + 1))), (2, .int c)]) (st' := [.int (nI (D + 1)), .ref 31]) (G' := (zr_H C ex sl s a)) rfl ?_
  refine zg_ald (i := .iaload) (t := 0) (n := 64) (f := a 18) (m := D + 1) rfl rfl rfl rfl rfl (by omega) (by decide) ?_
  rw [show a 18 (D + 1) = nI p from hat]
  refine zm_J_run zm_T 4 (pc' := if c = 46 then 13 else 21) (lv' := [(3, .int (nI p)), (0, .ref 12), (1, .int (nI (D + 1))), (2, .int c)]) (st' := []) (G' := (zr_H C ex sl s a)) rfl ?_
  rw [if_neg (show ¬ (c = 46) from by rw [h1]; decide)]
  refine zm_J_run zm_T 3 (pc' := if c = 122 then 27 else 73) (lv' := [(3, .int (nI p)), (0, .ref 12), (1, .int (nI (D + 1))), (2, .int c)]) (st' := []) (G' := (zr_H C ex sl s a)) rfl ?_
  rw [if_neg (show ¬ (c = 122) from by rw [h1]; decide)]
  refine zm_J_run zm_T 3 (pc' := if c = 104 then 85 else 79) (lv' := [(3, .int (nI p)), (0, .ref 12), (1, .int (nI (D + 1))), (2, .int c)]) (st' := []) (G' := (zr_H C ex sl s a)) rfl ?_
  rw [if_pos (show c = 104 from h1)]
  refine zm_J_run zm_T 4 (pc' := if (s 37) = 2 then 113 else 93) (lv' := [(3, .int (nI p)), (0, .ref 12), (1, .int (nI (D + 1))), (2, .int c)]) (st' := []) (G' := (zr_H C ex sl s a)) rfl ?_
  rw [if_pos (show (s 37) = 2 from hk)]
  refine zm_J_run zm_T 4 (pc' := if c = 104 then 120 else 127) (lv' := [(3, .int (nI p)), (0, .ref 12), (1, .int (nI (D + 1))), (2, .int c)]) (st' := [.ref 12]) (G' := (zr_H C ex sl s a)) rfl ?_
  rw [if_pos (show c = 104 from h1)]
  refine zm_J_run zm_T 3 (pc' := 131) (lv' := [(3, .int (nI p)), (0, .ref 12), (1, .int (nI (D + 1))), (2, .int c)]) (st' := [.int (s 38), .ref 12]) (G' := (zr_H C ex sl s a)) rfl ?_
  refine zm_J_V (a := 12) (av := [.int (s 38)]) (rest := []) (zm_T.1 91 131 _ rfl).1 zc_91_131 rfl (Nat.le_of_ble_eq_true rfl) (Nat.le_of_ble_eq_true rfl) (zr_c hr) (zr_s hr) (k) ?_ ?_
  rotate_left
  · intro x G' h; exact nomatch h.1
  intro v G' h
  obtain ⟨h1, s', a', rfl, hL⟩ := h
  cases Sum.inl.inj h1
  show zm_J N _ 91 134 [(3, .int (nI p)), (0, .ref 12), (1, .int (nI (D + 1))), (2, .int c)] [] (zr_H C ex sl s' a') _
  refine zm_J_run zm_T 1 (pc' := 277) (lv' := [(3, .int (nI p)), (0, .ref 12), (1, .int (nI (D + 1))), (2, .int c)]) (st' := []) (G' := (zr_H C ex sl s' a')) rfl ?_
  exact zm_J_fin zm_T rfl rfl ⟨rfl, _, _, rfl, hL⟩
theorem zr_g_t1 (hr : zr_r ex sl) {D p : Nat} {c : Int32} (h60 : D < 60) (hD : s 31 = nI (D + 1)) (hat : a 18 (D + 1) = nI p) (hp : p < 21200) (h1 : c = 116) (hk : s 37 = 1) (hd : 1 ≤ d) (k : J (zu s 12 2) a) : zm_J N d 91 0 [(0, .ref 12), (1, .int (nI (D + 1))), (2, .int c)] [] (zr_H C ex sl s a) (zr_SQ C ex sl J) := by
  obtain ⟨d, rfl⟩ : ∃ e, d = e + 1 := ⟨d - 1, by omega⟩
  refine zm_J_run zm_T 3 (pc' := 5) (lv' := [(0, .ref 12), (1, .int (nI (D + 1))), (2, .int c)]) (st' := [.int (nI (D + 1)), .ref 31]) (G' := (zr_H C ex sl s a)) rfl ?_
  refine zg_ald (i := .iaload) (t := 0) (n := 64) (f := a 18) (m := D + 1) rfl rfl rfl rfl rfl (by omega) (by decide) ?_
  rw [show a 18 (D + 1) = nI p from hat]
  refine zm_J_run zm_T 4 (pc' := if c = 46 then 13 else 21) (lv' := [(3, .int (nI p)), (0, .ref 12), (1, .int (nI (D + 1))), (2, .int c)]) (st' := []) (G' := (zr_H C ex sl s a)) rfl ?_
  rw [if_neg (show ¬ (c = 46) from by rw [h1]; decide)]
  refine zm_J_run zm_T 3 (pc' := if c = 122 then 27 else 73) (lv' := [(3, .int (nI p)), (0, .ref 12), (1, .int (nI (D + 1))), (2, .int c)]) (st' := []) (G' := (zr_H C ex sl s a)) rfl ?_
  rw [if_neg (show ¬ (c = 122) from by rw [h1]; decide)]
  refine zm_J_run zm_T 3 (pc' := if c = 104 then 85 else 79) (lv' := [(3, .int (nI p)), (0, .ref 12), (1, .int (nI (D + 1))), (2, .int c)]) (st' := []) (G' := (zr_H C ex sl s a)) rfl ?_
  rw [if_neg (show ¬ (c = 104) from by rw [h1]; decide)]
  refine zm_J_run zm_T 3 (pc' := if c = 116 then 85 else 137) (lv' := [(3, .int (nI p)), (0, .ref 12), (1, .int (nI (D + 1))), (2, .int c)]) (st' := []) (G' := (zr_H C ex sl s a)) rfl ?_
  rw [if_pos (show c = 116 from h1)]
  refine zm_J_run zm_T 4 (pc' := if (s 37) = 2 then 113 else 93) (lv' := [(3, .int (nI p)), (0, .ref 12), (1, .int (nI (D + 1))), (2, .int c)]) (st' := []) (G' := (zr_H C ex sl s a)) rfl ?_
  rw [if_neg (show ¬ ((s 37) = 2) from by rw [hk]; decide)]
  refine zm_J_run zm_T 5 (pc' := if (s 37) = 1 then 102 else 106) (lv' := [(3, .int (nI p)), (0, .ref 12), (1, .int (nI (D + 1))), (2, .int c)]) (st' := [.ref 12]) (G' := (zr_H C ex sl s a)) rfl ?_
  rw [if_pos (show (s 37) = 1 from hk)]
  refine zm_J_run zm_T 4 (pc' := 277) (lv' := [(3, .int (nI p)), (0, .ref 12), (1, .int (nI (D + 1))), (2, .int c)]) (st' := []) (G' := (zr_H C ex sl (zu s 12 2) a)) rfl ?_
  exact zm_J_fin zm_T rfl rfl ⟨rfl, _, _, rfl, k⟩
theorem zr_g_t5 (hr : zr_r ex sl) {D p : Nat} {c : Int32} (h60 : D < 60) (hD : s 31 = nI (D + 1)) (hat : a 18 (D + 1) = nI p) (hp : p < 21200) (h1 : c = 116) (hk1 : ¬ s 37 = 1) (hk2 : ¬ s 37 = 2) (hd : 1 ≤ d) (k : J (zu s 12 5) a) : zm_J N d 91 0 [(0, .ref 12), (1, .int (nI (D + 1))), (2, .int c)] [] (zr_H C ex sl s a) (zr_SQ C ex sl J) := by
  obtain ⟨d, rfl⟩ : ∃ e, d = e + 1 := ⟨d - 1, by omega⟩
  refine zm_J_run zm_T 3 (pc' := 5) (lv' := [(0, .ref 12), (1, .int (nI (D + 1))), (2, .int c)]) (st' := [.int (nI (D + 1)), .ref 31]) (G' := (zr_H C ex sl s a)) rfl ?_
  refine zg_ald (i := .iaload) (t := 0) (n := 64) (f := a 18) (m := D + 1) rfl rfl rfl rfl rfl (by omega) (by decide) ?_
  rw [show a 18 (D + 1) = nI p from hat]
  refine zm_J_run zm_T 4 (pc' := if c = 46 then 13 else 21) (lv' := [(3, .int (nI p)), (0, .ref 12), (1, .int (nI (D + 1))), (2, .int c)]) (st' := []) (G' := (zr_H C ex sl s a)) rfl ?_
  rw [if_neg (show ¬ (c = 46) from by rw [h1]; decide)]
  refine zm_J_run zm_T 3 (pc' := if c = 122 then 27 else 73) (lv' := [(3, .int (nI p)), (0, .ref 12), (1, .int (nI (D + 1))), (2, .int c)]) (st' := []) (G' := (zr_H C ex sl s a)) rfl ?_
  rw [if_neg (show ¬ (c = 122) from by rw [h1]; decide)]
  refine zm_J_run zm_T 3 (pc' := if c = 104 then 85 else 79) (lv' := [(3, .int (nI p)), (0, .ref 12), (1, .int (nI (D + 1))), (2, .int c)]) (st' := []) (G' := (zr_H C ex sl s a)) rfl ?_
  rw [if_neg (show ¬ (c = 104) from by rw [h1]; decide)]
  refine zm_J_run zm_T 3 (pc' := if c = 116 then 85 else 137) (lv' := [(3, .int (nI p)), (0, .ref 12), (1, .int (nI (D + 1))), (2, .int c)]) (st' := []) (G' := (zr_H C ex sl s a)) rfl ?_
  rw [if_pos (show c = 116 from h1)]
  refine zm_J_run zm_T 4 (pc' := if (s 37) = 2 then 113 else 93) (lv' := [(3, .int (nI p)), (0, .ref 12), (1, .int (nI (D + 1))), (2, .int c)]) (st' := []) (G' := (zr_H C ex sl s a)) rfl ?_
  rw [if_neg (show ¬ ((s 37) = 2) from hk2)]
  refine zm_J_run zm_T 5 (pc' := if (s 37) = 1 then 102 else 106) (lv' := [(3, .int (nI p)), (0, .ref 12), (1, .int (nI (D + 1))), (2, .int c)]) (st' := [.ref 12]) (G' := (zr_H C ex sl s a)) rfl ?_
  rw [if_neg (show ¬ ((s 37) = 1) from hk1)]
  refine zm_J_run zm_T 3 (pc' := 277) (lv' := [(3, .int (nI p)), (0, .ref 12), (1, .int (nI (D + 1))), (2, .int c)]) (st' := []) (G' := (zr_H C ex sl (zu s 12 5) a)) rfl ?_
  exact zm_J_fin zm_T rfl rfl ⟨rfl, _, _, rfl, k⟩
theorem zr_g_t2 (hr : zr_r ex sl) {D p : Nat} {c : Int32} (h60 : D < 60) (hD : s 31 = nI (D + 1)) (hat : a 18 (D + 1) = nI p) (hp : p < 21200) (h1 : c = 116) (hk : s 37 = 2) (hd : 1 ≤ d) (k : zm_J N (d - 1) 97 0 [(0, .ref 12), (1, .int (s 39))] [] (zr_H C ex sl s a) (zr_SQ C ex sl J)) : zm_J N d 91 0 [(0, .ref 12), (1, .int (nI (D + 1))), (2, .int c)] [] (zr_H C ex sl s a) (zr_SQ C ex sl J) := by
  obtain ⟨d, rfl⟩ : ∃ e, d = e + 1 := ⟨d - 1, by omega⟩
  refine zm_J_run zm_T 3 (pc' := 5) (lv' := [(0, .ref 12), (1, .int (nI (D + 1))), (2, .int c)]) (st' := [.int (nI (D + 1)), .ref 31]) (G' := (zr_H C ex sl s a)) rfl ?_
  refine zg_ald (i := .iaload) (t := 0) (n := 64) (f := a 18) (m := D + 1) rfl rfl rfl rfl rfl (by omega) (by decide) ?_
  rw [show a 18 (D + 1) = nI p from hat]
  refine zm_J_run zm_T 4 (pc' := if c = 46 then 13 else 21) (lv' := [(3, .int (nI p)), (0, .ref 12), (1, .int (nI (D + 1))), (2, .int c)]) (st' := []) (G' := (zr_H C ex sl s a)) rfl ?_
  rw [if_neg (show ¬ (c = 46) from by rw [h1]; decide)]
  refine zm_J_run zm_T 3 (pc' := if c = 122 then 27 else 73) (lv' := [(3, .int (nI p)), (0, .ref 12), (1, .int (nI (D + 1))), (2, .int c)]) (st' := []) (G' := (zr_H C ex sl s a)) rfl ?_
  rw [if_neg (show ¬ (c = 122) from by rw [h1]; decide)]
  refine zm_J_run zm_T 3 (pc' := if c = 104 then 85 else 79) (lv' := [(3, .int (nI p)), (0, .ref 12), (1, .int (nI (D + 1))), (2, .int c)]) (st' := []) (G' := (zr_H C ex sl s a)) rfl ?_
  rw [if_neg (show ¬ (c = 104) from by rw [h1]; decide)]
  refine zm_J_run zm_T 3 (pc' := if c = 116 then 85 else 137) (lv' := [(3, .int (nI p)), (0, .ref 12), (1, .int (nI (D + 1))), (2, .int c)]) (st' := []) (G' := (zr_H C ex sl s a)) rfl ?_
  rw [if_pos (show c = 116 from h1)]
  refine zm_J_run zm_T 4 (pc' := if (s 37) = 2 then 113 else 93) (lv' := [(3, .int (nI p)), (0, .ref 12), (1, .int (nI (D + 1))), (2, .int c)]) (st' := []) (G' := (zr_H C ex sl s a)) rfl ?_
  rw [if_pos (show (s 37) = 2 from hk)]
  refine zm_J_run zm_T 4 (pc' := if c = 104 then 120 else 127) (lv' := [(3, .int (nI p)), (0, .ref 12), (1, .int (nI (D + 1))), (2, .int c)]) (st' := [.ref 12]) (G' := (zr_H C ex sl s a)) rfl ?_
  rw [if_neg (show ¬ (c = 104) from by rw [h1]; decide)]
  refine zm_J_run zm_T 2 (pc' := 131) (lv' := [(3, .int (nI p)), (0, .ref 12), (1, .int (nI (D + 1))), (2, .int c)]) (st' := [.int (s 39), .ref 12]) (G' := (zr_H C ex sl s a)) rfl ?_
  refine zm_J_V (a := 12) (av := [.int (s 39)]) (rest := []) (zm_T.1 91 131 _ rfl).1 zc_91_131 rfl (Nat.le_of_ble_eq_true rfl) (Nat.le_of_ble_eq_true rfl) (zr_c hr) (zr_s hr) (k) ?_ ?_
  rotate_left
  · intro x G' h; exact nomatch h.1
  intro v G' h
  obtain ⟨h1, s', a', rfl, hL⟩ := h
  cases Sum.inl.inj h1
  show zm_J N _ 91 134 [(3, .int (nI p)), (0, .ref 12), (1, .int (nI (D + 1))), (2, .int c)] [] (zr_H C ex sl s' a') _
  refine zm_J_run zm_T 1 (pc' := 277) (lv' := [(3, .int (nI p)), (0, .ref 12), (1, .int (nI (D + 1))), (2, .int c)]) (st' := []) (G' := (zr_H C ex sl s' a')) rfl ?_
  exact zm_J_fin zm_T rfl rfl ⟨rfl, _, _, rfl, hL⟩
theorem zr_g_no (hr : zr_r ex sl) {D p : Nat} {c : Int32} (h60 : D < 60) (hD : s 31 = nI (D + 1)) (hat : a 18 (D + 1) = nI p) (hp : p < 21200) (n1 : ¬ c = 46) (n2 : ¬ c = 122) (n3 : ¬ c = 104) (n4 : ¬ c = 116) (hk : ¬ s 37 = 0) (hd : 1 ≤ d) (k : J (zu s 12 5) a) : zm_J N d 91 0 [(0, .ref 12), (1, .int (nI (D + 1))), (2, .int c)] [] (zr_H C ex sl s a) (zr_SQ C ex sl J) := by
  obtain ⟨d, rfl⟩ : ∃ e, d = e + 1 := ⟨d - 1, by omega⟩
  refine zm_J_run zm_T 3 (pc' := 5) (lv' := [(0, .ref 12), (1, .int (nI (D + 1))), (2, .int c)]) (st' := [.int (nI (D + 1)), .ref 31]) (G' := (zr_H C ex sl s a)) rfl ?_
  refine zg_ald (i := .iaload) (t := 0) (n := 64) (f := a 18) (m := D + 1) rfl rfl rfl rfl rfl (by omega) (by decide) ?_
  rw [show a 18 (D + 1) = nI p from hat]
  refine zm_J_run zm_T 4 (pc' := if c = 46 then 13 else 21) (lv' := [(3, .int (nI p)), (0, .ref 12), (1, .int (nI (D + 1))), (2, .int c)]) (st' := []) (G' := (zr_H C ex sl s a)) rfl ?_
  rw [if_neg (show ¬ (c = 46) from n1)]
  refine zm_J_run zm_T 3 (pc' := if c = 122 then 27 else 73) (lv' := [(3, .int (nI p)), (0, .ref 12), (1, .int (nI (D + 1))), (2, .int c)]) (st' := []) (G' := (zr_H C ex sl s a)) rfl ?_
  rw [if_neg (show ¬ (c = 122) from n2)]
  refine zm_J_run zm_T 3 (pc' := if c = 104 then 85 else 79) (lv' := [(3, .int (nI p)), (0, .ref 12), (1, .int (nI (D + 1))), (2, .int c)]) (st' := []) (G' := (zr_H C ex sl s a)) rfl ?_
  rw [if_neg (show ¬ (c = 104) from n3)]
  refine zm_J_run zm_T 3 (pc' := if c = 116 then 85 else 137) (lv' := [(3, .int (nI p)), (0, .ref 12), (1, .int (nI (D + 1))), (2, .int c)]) (st' := []) (G' := (zr_H C ex sl s a)) rfl ?_
  rw [if_neg (show ¬ (c = 116) from n4)]
  refine zm_J_run zm_T 1 (pc' := 138) (lv' := [(3, .int (nI p)), (0, .ref 12), (1, .int (nI (D + 1))), (2, .int c)]) (st' := [.ref 12]) (G' := (zr_H C ex sl s a)) rfl ?_
  refine zg_V (a := 12) (av := []) (rest := []) (v := some (.int 0)) (G2 := (zr_H C ex sl (zu s 12 5) a)) (zm_T.1 91 138 _ rfl).1 zc_91_138 rfl (Nat.le_of_ble_eq_true rfl) (Nat.le_of_ble_eq_true rfl) (zr_c hr) (zr_s hr) (zr_isn0 hk) ?_
  show zm_J N _ 91 141 [(3, .int (nI p)), (0, .ref 12), (1, .int (nI (D + 1))), (2, .int c)] [.int 0] (zr_H C ex sl (zu s 12 5) a) _
  refine zm_J_run zm_T 1 (pc' := 144) (lv' := [(3, .int (nI p)), (0, .ref 12), (1, .int (nI (D + 1))), (2, .int c)]) (st' := []) (G' := (zr_H C ex sl (zu s 12 5) a)) rfl ?_
  exact zm_J_fin zm_T rfl rfl ⟨rfl, _, _, rfl, k⟩
theorem zr_g_if1 (hr : zr_r ex sl) {D p : Nat} {c : Int32} (h60 : D < 60) (hD : s 31 = nI (D + 1)) (hat : a 18 (D + 1) = nI p) (hp : p < 21200) (h1 : c = 63) (hk : s 37 = 0) (h12 : s 12 = 0) {L r : List Int32} (hL : zv_wL L) (htx : zr_tx M (a 1) (p + 1) r) {e : Int32} (hin : a 19 (D + 1) = e) (hr2 : zv_ok L r 1 = true ∧ zv_ok L (zv_sk r 1) 1 = true) (hv : ¬ s 38 = 0) (hd : 3 ≤ d) (k : J (zr_pS s (D + 1)) (zr_pA (zu a 20 (upd (a 20) (D + 1) 4)) (D + 1) (nI (p + 1 + zv_n r 1)) e)) : zm_J N d 91 0 [(0, .ref 12), (1, .int (nI (D + 1))), (2, .int c)] [] (zr_H C ex sl s a) (zr_SQ C ex sl J) := by
  obtain ⟨d, rfl⟩ : ∃ e, d = e + 3 := ⟨d - 3, by omega⟩
  have n1 : ¬ c = 46 := by rw [h1]; decide
  have n2 : ¬ c = 122 := by rw [h1]; decide
  have n3 : ¬ c = 104 := by rw [h1]; decide
  have n4 : ¬ c = 116 := by rw [h1]; decide
  refine zm_J_run zm_T 3 (pc' := 5) (lv' := [(0, .ref 12), (1, .int (nI (D + 1))), (2, .int c)]) (st' := [.int (nI (D + 1)), .ref 31]) (G' := (zr_H C ex sl s a)) rfl ?_
  refine zg_ald (i := .iaload) (t := 0) (n := 64) (f := a 18) (m := D + 1) rfl rfl rfl rfl rfl (by omega) (by decide) ?_
  rw [show a 18 (D + 1) = nI p from hat]
  refine zm_J_run zm_T 4 (pc' := if c = 46 then 13 else 21) (lv' := [(3, .int (nI p)), (0, .ref 12), (1, .int (nI (D + 1))), (2, .int c)]) (st' := []) (G' := (zr_H C ex sl s a)) rfl ?_
  rw [if_neg (show ¬ (c = 46) from n1)]
  refine zm_J_run zm_T 3 (pc' := if c = 122 then 27 else 73) (lv' := [(3, .int (nI p)), (0, .ref 12), (1, .int (nI (D + 1))), (2, .int c)]) (st' := []) (G' := (zr_H C ex sl s a)) rfl ?_
  rw [if_neg (show ¬ (c = 122) from n2)]
  refine zm_J_run zm_T 3 (pc' := if c = 104 then 85 else 79) (lv' := [(3, .int (nI p)), (0, .ref 12), (1, .int (nI (D + 1))), (2, .int c)]) (st' := []) (G' := (zr_H C ex sl s a)) rfl ?_
  rw [if_neg (show ¬ (c = 104) from n3)]
  refine zm_J_run zm_T 3 (pc' := if c = 116 then 85 else 137) (lv' := [(3, .int (nI p)), (0, .ref 12), (1, .int (nI (D + 1))), (2, .int c)]) (st' := []) (G' := (zr_H C ex sl s a)) rfl ?_
  rw [if_neg (show ¬ (c = 116) from n4)]
  refine zm_J_run zm_T 1 (pc' := 138) (lv' := [(3, .int (nI p)), (0, .ref 12), (1, .int (nI (D + 1))), (2, .int c)]) (st' := [.ref 12]) (G' := (zr_H C ex sl s a)) rfl ?_
  refine zg_V (a := 12) (av := []) (rest := []) (v := some (.int 1)) (G2 := (zr_H C ex sl s a)) (zm_T.1 91 138 _ rfl).1 zc_91_138 rfl (Nat.le_of_ble_eq_true rfl) (Nat.le_of_ble_eq_true rfl) (zr_c hr) (zr_s hr) (zr_isn1 hk h12) ?_
  show zm_J N _ 91 141 [(3, .int (nI p)), (0, .ref 12), (1, .int (nI (D + 1))), (2, .int c)] [.int 1] (zr_H C ex sl s a) _
  refine zm_J_run zm_T 4 (pc' := if c = 63 then 151 else 198) (lv' := [(3, .int (nI p)), (0, .ref 12), (1, .int (nI (D + 1))), (2, .int c)]) (st' := []) (G' := (zr_H C ex sl s a)) rfl ?_
  rw [if_pos (show c = 63 from h1)]
  refine zm_J_run zm_T 4 (pc' := 155) (lv' := [(3, .int (nI p)), (0, .ref 12), (1, .int (nI (D + 1))), (2, .int c)]) (st' := [.int ((nI p) + 1), .ref 12]) (G' := (zr_H C ex sl s a)) rfl ?_
  rw [show nI p + 1 = nI (p + 1) from nI_1 p]
  show zm_J N _ 91 155 [(3, .int (nI p)), (0, .ref 12), (1, .int (nI (D + 1))), (2, .int c)] [.int (nI (p + 1)), .ref 12] (zr_H C ex sl s a) _
  refine zg_V (a := 12) (av := [.int (nI (p + 1))]) (rest := []) (v := some (.int (nI (p + 1 + zv_n r 1)))) (G2 := (zr_H C ex sl s a)) (zm_T.1 91 155 _ rfl).1 zc_91_155 rfl (Nat.le_of_ble_eq_true rfl) (Nat.le_of_ble_eq_true rfl) (zr_c hr) (zr_s hr) (zr_skip hL hr (by omega) hr2.1 htx) ?_
  show zm_J N _ 91 158 [(3, .int (nI p)), (0, .ref 12), (1, .int (nI (D + 1))), (2, .int c)] [.int (nI (p + 1 + zv_n r 1))] (zr_H C ex sl s a) _
  refine zm_J_run zm_T 5 (pc' := 166) (lv' := [(4, .int (nI (p + 1 + zv_n r 1))), (3, .int (nI p)), (0, .ref 12), (1, .int (nI (D + 1))), (2, .int c)]) (st' := [.int 4, .int (nI (D + 1)), .ref 33]) (G' := (zr_H C ex sl s a)) rfl ?_
  refine zg_ast (i := .iastore) (t := 0) (n := 64) (f := a 20) (m := D + 1) (v' := 4) (G' := (zr_H C ex sl s (zu a 20 (upd (a 20) (D + 1) 4)))) rfl rfl rfl rfl (by decide) rfl (by omega) (by decide) rfl ?_
  refine zm_J_run zm_T 4 (pc' := if (s 38) = 0 then 180 else 175) (lv' := [(4, .int (nI (p + 1 + zv_n r 1))), (3, .int (nI p)), (0, .ref 12), (1, .int (nI (D + 1))), (2, .int c)]) (st' := [.ref 12]) (G' := (zr_H C ex sl s (zu a 20 (upd (a 20) (D + 1) 4)))) rfl ?_
  rw [if_neg (show ¬ ((s 38) = 0) from hv)]
  refine zm_J_run zm_T 5 (pc' := 191) (lv' := [(4, .int (nI (p + 1 + zv_n r 1))), (3, .int (nI p)), (0, .ref 12), (1, .int (nI (D + 1))), (2, .int c)]) (st' := [.int (nI (D + 1)), .ref 32, .int (nI (p + 1 + zv_n r 1)), .ref 12]) (G' := (zr_H C ex sl s (zu a 20 (upd (a 20) (D + 1) 4)))) rfl ?_
  refine zg_ald (i := .iaload) (t := 0) (n := 64) (f := a 19) (m := D + 1) rfl rfl rfl rfl rfl (by omega) (by decide) ?_
  rw [show a 19 (D + 1) = e from hin]
  refine zg_V (a := 12) (av := [.int (nI (p + 1 + zv_n r 1)), .int e]) (rest := []) (v := none) (G2 := (zr_H C ex sl (zr_pS s (D + 1)) (zr_pA (zu a 20 (upd (a 20) (D + 1) 4)) (D + 1) (nI (p + 1 + zv_n r 1)) e))) (zm_T.1 91 192 _ rfl).1 zc_91_192 rfl (Nat.le_of_ble_eq_true rfl) (Nat.le_of_ble_eq_true rfl) (zr_c hr) (zr_s hr) (zr_push (a := (zu a 20 (upd (a 20) (D + 1) 4))) hD (by omega) (nI (p + 1 + zv_n r 1)) e) ?_
  show zm_J N _ 91 195 [(4, .int (nI (p + 1 + zv_n r 1))), (3, .int (nI p)), (0, .ref 12), (1, .int (nI (D + 1))), (2, .int c)] [] (zr_H C ex sl (zr_pS s (D + 1)) (zr_pA (zu a 20 (upd (a 20) (D + 1) 4)) (D + 1) (nI (p + 1 + zv_n r 1)) e)) _
  refine zm_J_run zm_T 1 (pc' := 277) (lv' := [(4, .int (nI (p + 1 + zv_n r 1))), (3, .int (nI p)), (0, .ref 12), (1, .int (nI (D + 1))), (2, .int c)]) (st' := []) (G' := (zr_H C ex sl (zr_pS s (D + 1)) (zr_pA (zu a 20 (upd (a 20) (D + 1) 4)) (D + 1) (nI (p + 1 + zv_n r 1)) e))) rfl ?_
  exact zm_J_fin zm_T rfl rfl ⟨rfl, _, _, rfl, k⟩
theorem zr_g_if0 (hr : zr_r ex sl) {D p : Nat} {c : Int32} (h60 : D < 60) (hD : s 31 = nI (D + 1)) (hat : a 18 (D + 1) = nI p) (hp : p < 21200) (h1 : c = 63) (hk : s 37 = 0) (h12 : s 12 = 0) {L r : List Int32} (hL : zv_wL L) (htx : zr_tx M (a 1) (p + 1) r) {e : Int32} (hin : a 19 (D + 1) = e) (hr2 : zv_ok L r 1 = true ∧ zv_ok L (zv_sk r 1) 1 = true) (hv : s 38 = 0) (hd : 3 ≤ d) (k : J (zr_pS s (D + 1)) (zr_pA (zu a 20 (upd (a 20) (D + 1) 4)) (D + 1) (nI (p + 1 + zv_n r 1 + zv_n (zv_sk r 1) 1)) e)) : zm_J N d 91 0 [(0, .ref 12), (1, .int (nI (D + 1))), (2, .int c)] [] (zr_H C ex sl s a) (zr_SQ C ex sl J) := by
  obtain ⟨d, rfl⟩ : ∃ e, d = e + 3 := ⟨d - 3, by omega⟩
  have n1 : ¬ c = 46 := by rw [h1]; decide
  have n2 : ¬ c = 122 := by rw [h1]; decide
  have n3 : ¬ c = 104 := by rw [h1]; decide
  have n4 : ¬ c = 116 := by rw [h1]; decide
  refine zm_J_run zm_T 3 (pc' := 5) (lv' := [(0, .ref 12), (1, .int (nI (D + 1))), (2, .int c)]) (st' := [.int (nI (D + 1)), .ref 31]) (G' := (zr_H C ex sl s a)) rfl ?_
  refine zg_ald (i := .iaload) (t := 0) (n := 64) (f := a 18) (m := D + 1) rfl rfl rfl rfl rfl (by omega) (by decide) ?_
  rw [show a 18 (D + 1) = nI p from hat]
  refine zm_J_run zm_T 4 (pc' := if c = 46 then 13 else 21) (lv' := [(3, .int (nI p)), (0, .ref 12), (1, .int (nI (D + 1))), (2, .int c)]) (st' := []) (G' := (zr_H C ex sl s a)) rfl ?_
  rw [if_neg (show ¬ (c = 46) from n1)]
  refine zm_J_run zm_T 3 (pc' := if c = 122 then 27 else 73) (lv' := [(3, .int (nI p)), (0, .ref 12), (1, .int (nI (D + 1))), (2, .int c)]) (st' := []) (G' := (zr_H C ex sl s a)) rfl ?_
  rw [if_neg (show ¬ (c = 122) from n2)]
  refine zm_J_run zm_T 3 (pc' := if c = 104 then 85 else 79) (lv' := [(3, .int (nI p)), (0, .ref 12), (1, .int (nI (D + 1))), (2, .int c)]) (st' := []) (G' := (zr_H C ex sl s a)) rfl ?_
  rw [if_neg (show ¬ (c = 104) from n3)]
  refine zm_J_run zm_T 3 (pc' := if c = 116 then 85 else 137) (lv' := [(3, .int (nI p)), (0, .ref 12), (1, .int (nI (D + 1))), (2, .int c)]) (st' := []) (G' := (zr_H C ex sl s a)) rfl ?_
  rw [if_neg (show ¬ (c = 116) from n4)]
  refine zm_J_run zm_T 1 (pc' := 138) (lv' := [(3, .int (nI p)), (0, .ref 12), (1, .int (nI (D + 1))), (2, .int c)]) (st' := [.ref 12]) (G' := (zr_H C ex sl s a)) rfl ?_
  refine zg_V (a := 12) (av := []) (rest := []) (v := some (.int 1)) (G2 := (zr_H C ex sl s a)) (zm_T.1 91 138 _ rfl).1 zc_91_138 rfl (Nat.le_of_ble_eq_true rfl) (Nat.le_of_ble_eq_true rfl) (zr_c hr) (zr_s hr) (zr_isn1 hk h12) ?_
  show zm_J N _ 91 141 [(3, .int (nI p)), (0, .ref 12), (1, .int (nI (D + 1))), (2, .int c)] [.int 1] (zr_H C ex sl s a) _
  refine zm_J_run zm_T 4 (pc' := if c = 63 then 151 else 198) (lv' := [(3, .int (nI p)), (0, .ref 12), (1, .int (nI (D + 1))), (2, .int c)]) (st' := []) (G' := (zr_H C ex sl s a)) rfl ?_
  rw [if_pos (show c = 63 from h1)]
  refine zm_J_run zm_T 4 (pc' := 155) (lv' := [(3, .int (nI p)), (0, .ref 12), (1, .int (nI (D + 1))), (2, .int c)]) (st' := [.int ((nI p) + 1), .ref 12]) (G' := (zr_H C ex sl s a)) rfl ?_
  rw [show nI p + 1 = nI (p + 1) from nI_1 p]
  show zm_J N _ 91 155 [(3, .int (nI p)), (0, .ref 12), (1, .int (nI (D + 1))), (2, .int c)] [.int (nI (p + 1)), .ref 12] (zr_H C ex sl s a) _
  refine zg_V (a := 12) (av := [.int (nI (p + 1))]) (rest := []) (v := some (.int (nI (p + 1 + zv_n r 1)))) (G2 := (zr_H C ex sl s a)) (zm_T.1 91 155 _ rfl).1 zc_91_155 rfl (Nat.le_of_ble_eq_true rfl) (Nat.le_of_ble_eq_true rfl) (zr_c hr) (zr_s hr) (zr_skip hL hr (by omega) hr2.1 htx) ?_
  show zm_J N _ 91 158 [(3, .int (nI p)), (0, .ref 12), (1, .int (nI (D + 1))), (2, .int c)] [.int (nI (p + 1 + zv_n r 1))] (zr_H C ex sl s a) _
  refine zm_J_run zm_T 5 (pc' := 166) (lv' := [(4, .int (nI (p + 1 + zv_n r 1))), (3, .int (nI p)), (0, .ref 12), (1, .int (nI (D + 1))), (2, .int c)]) (st' := [.int 4, .int (nI (D + 1)), .ref 33]) (G' := (zr_H C ex sl s a)) rfl ?_
  refine zg_ast (i := .iastore) (t := 0) (n := 64) (f := a 20) (m := D + 1) (v' := 4) (G' := (zr_H C ex sl s (zu a 20 (upd (a 20) (D + 1) 4)))) rfl rfl rfl rfl (by decide) rfl (by omega) (by decide) rfl ?_
  refine zm_J_run zm_T 4 (pc' := if (s 38) = 0 then 180 else 175) (lv' := [(4, .int (nI (p + 1 + zv_n r 1))), (3, .int (nI p)), (0, .ref 12), (1, .int (nI (D + 1))), (2, .int c)]) (st' := [.ref 12]) (G' := (zr_H C ex sl s (zu a 20 (upd (a 20) (D + 1) 4)))) rfl ?_
  rw [if_pos (show (s 38) = 0 from hv)]
  refine zm_J_run zm_T 2 (pc' := 183) (lv' := [(4, .int (nI (p + 1 + zv_n r 1))), (3, .int (nI p)), (0, .ref 12), (1, .int (nI (D + 1))), (2, .int c)]) (st' := [.int (nI (p + 1 + zv_n r 1)), .ref 12, .ref 12]) (G' := (zr_H C ex sl s (zu a 20 (upd (a 20) (D + 1) 4)))) rfl ?_
  refine zg_V (a := 12) (av := [.int (nI (p + 1 + zv_n r 1))]) (rest := [.ref 12]) (v := some (.int (nI (p + 1 + zv_n r 1 + zv_n (zv_sk r 1) 1)))) (G2 := (zr_H C ex sl s (zu a 20 (upd (a 20) (D + 1) 4)))) (zm_T.1 91 183 _ rfl).1 zc_91_183 rfl (Nat.le_of_ble_eq_true rfl) (Nat.le_of_ble_eq_true rfl) (zr_c hr) (zr_s hr) (zr_skip (a := (zu a 20 (upd (a 20) (D + 1) 4))) hL hr (by omega) hr2.2 (zr_tx.sk htx hr2.1)) ?_
  show zm_J N _ 91 186 [(4, .int (nI (p + 1 + zv_n r 1))), (3, .int (nI p)), (0, .ref 12), (1, .int (nI (D + 1))), (2, .int c)] [.int (nI (p + 1 + zv_n r 1 + zv_n (zv_sk r 1) 1)), .ref 12] (zr_H C ex sl s (zu a 20 (upd (a 20) (D + 1) 4))) _
  refine zm_J_run zm_T 3 (pc' := 191) (lv' := [(4, .int (nI (p + 1 + zv_n r 1))), (3, .int (nI p)), (0, .ref 12), (1, .int (nI (D + 1))), (2, .int c)]) (st' := [.int (nI (D + 1)), .ref 32, .int (nI (p + 1 + zv_n r 1 + zv_n (zv_sk r 1) 1)), .ref 12]) (G' := (zr_H C ex sl s (zu a 20 (upd (a 20) (D + 1) 4)))) rfl ?_
  refine zg_ald (i := .iaload) (t := 0) (n := 64) (f := a 19) (m := D + 1) rfl rfl rfl rfl rfl (by omega) (by decide) ?_
  rw [show a 19 (D + 1) = e from hin]
  refine zg_V (a := 12) (av := [.int (nI (p + 1 + zv_n r 1 + zv_n (zv_sk r 1) 1)), .int e]) (rest := []) (v := none) (G2 := (zr_H C ex sl (zr_pS s (D + 1)) (zr_pA (zu a 20 (upd (a 20) (D + 1) 4)) (D + 1) (nI (p + 1 + zv_n r 1 + zv_n (zv_sk r 1) 1)) e))) (zm_T.1 91 192 _ rfl).1 zc_91_192 rfl (Nat.le_of_ble_eq_true rfl) (Nat.le_of_ble_eq_true rfl) (zr_c hr) (zr_s hr) (zr_push (a := (zu a 20 (upd (a 20) (D + 1) 4))) hD (by omega) (nI (p + 1 + zv_n r 1 + zv_n (zv_sk r 1) 1)) e) ?_
  show zm_J N _ 91 195 [(4, .int (nI (p + 1 + zv_n r 1))), (3, .int (nI p)), (0, .ref 12), (1, .int (nI (D + 1))), (2, .int c)] [] (zr_H C ex sl (zr_pS s (D + 1)) (zr_pA (zu a 20 (upd (a 20) (D + 1) 4)) (D + 1) (nI (p + 1 + zv_n r 1 + zv_n (zv_sk r 1) 1)) e)) _
  refine zm_J_run zm_T 1 (pc' := 277) (lv' := [(4, .int (nI (p + 1 + zv_n r 1))), (3, .int (nI p)), (0, .ref 12), (1, .int (nI (D + 1))), (2, .int c)]) (st' := []) (G' := (zr_H C ex sl (zr_pS s (D + 1)) (zr_pA (zu a 20 (upd (a 20) (D + 1) 4)) (D + 1) (nI (p + 1 + zv_n r 1 + zv_n (zv_sk r 1) 1)) e))) rfl ?_
  exact zm_J_fin zm_T rfl rfl ⟨rfl, _, _, rfl, k⟩
theorem zr_g_op1 (hr : zr_r ex sl) {D p : Nat} {c : Int32} (h60 : D < 60) (hD : s 31 = nI (D + 1)) (hat : a 18 (D + 1) = nI p) (hp : p < 21200) (n1 : ¬ c = 46) (n2 : ¬ c = 122) (n3 : ¬ c = 104) (n4 : ¬ c = 116) (n5 : ¬ c = 63) (hst : a 20 (D + 1) = 1) (hk : s 37 = 0) (h12 : s 12 = 0) {L r : List Int32} (hL : zv_wL L) (htx : zr_tx M (a 1) (p + 1) r) {e : Int32} (hin : a 19 (D + 1) = e) (hr1 : zv_ok L r 1 = true) (hd : 3 ≤ d) (k : J (zr_pS s (D + 1)) (zr_pA (zu (zu a 21 (upd (a 21) (D + 1) (s 38))) 20 (upd (a 20) (D + 1) 2)) (D + 1) (nI (p + 1 + zv_n r 1)) e)) : zm_J N d 91 0 [(0, .ref 12), (1, .int (nI (D + 1))), (2, .int c)] [] (zr_H C ex sl s a) (zr_SQ C ex sl J) := by
  obtain ⟨d, rfl⟩ : ∃ e, d = e + 3 := ⟨d - 3, by omega⟩
  refine zm_J_run zm_T 3 (pc' := 5) (lv' := [(0, .ref 12), (1, .int (nI (D + 1))), (2, .int c)]) (st' := [.int (nI (D + 1)), .ref 31]) (G' := (zr_H C ex sl s a)) rfl ?_
  refine zg_ald (i := .iaload) (t := 0) (n := 64) (f := a 18) (m := D + 1) rfl rfl rfl rfl rfl (by omega) (by decide) ?_
  rw [show a 18 (D + 1) = nI p from hat]
  refine zm_J_run zm_T 4 (pc' := if c = 46 then 13 else 21) (lv' := [(3, .int (nI p)), (0, .ref 12), (1, .int (nI (D + 1))), (2, .int c)]) (st' := []) (G' := (zr_H C ex sl s a)) rfl ?_
  rw [if_neg (show ¬ (c = 46) from n1)]
  refine zm_J_run zm_T 3 (pc' := if c = 122 then 27 else 73) (lv' := [(3, .int (nI p)), (0, .ref 12), (1, .int (nI (D + 1))), (2, .int c)]) (st' := []) (G' := (zr_H C ex sl s a)) rfl ?_
  rw [if_neg (show ¬ (c = 122) from n2)]
  refine zm_J_run zm_T 3 (pc' := if c = 104 then 85 else 79) (lv' := [(3, .int (nI p)), (0, .ref 12), (1, .int (nI (D + 1))), (2, .int c)]) (st' := []) (G' := (zr_H C ex sl s a)) rfl ?_
  rw [if_neg (show ¬ (c = 104) from n3)]
  refine zm_J_run zm_T 3 (pc' := if c = 116 then 85 else 137) (lv' := [(3, .int (nI p)), (0, .ref 12), (1, .int (nI (D + 1))), (2, .int c)]) (st' := []) (G' := (zr_H C ex sl s a)) rfl ?_
  rw [if_neg (show ¬ (c = 116) from n4)]
  refine zm_J_run zm_T 1 (pc' := 138) (lv' := [(3, .int (nI p)), (0, .ref 12), (1, .int (nI (D + 1))), (2, .int c)]) (st' := [.ref 12]) (G' := (zr_H C ex sl s a)) rfl ?_
  refine zg_V (a := 12) (av := []) (rest := []) (v := some (.int 1)) (G2 := (zr_H C ex sl s a)) (zm_T.1 91 138 _ rfl).1 zc_91_138 rfl (Nat.le_of_ble_eq_true rfl) (Nat.le_of_ble_eq_true rfl) (zr_c hr) (zr_s hr) (zr_isn1 hk h12) ?_
  show zm_J N _ 91 141 [(3, .int (nI p)), (0, .ref 12), (1, .int (nI (D + 1))), (2, .int c)] [.int 1] (zr_H C ex sl s a) _
  refine zm_J_run zm_T 4 (pc' := if c = 63 then 151 else 198) (lv' := [(3, .int (nI p)), (0, .ref 12), (1, .int (nI (D + 1))), (2, .int c)]) (st' := []) (G' := (zr_H C ex sl s a)) rfl ?_
  rw [if_neg (show ¬ (c = 63) from n5)]
  refine zm_J_run zm_T 3 (pc' := 203) (lv' := [(3, .int (nI p)), (0, .ref 12), (1, .int (nI (D + 1))), (2, .int c)]) (st' := [.int (nI (D + 1)), .ref 33]) (G' := (zr_H C ex sl s a)) rfl ?_
  refine zg_ald (i := .iaload) (t := 0) (n := 64) (f := a 20) (m := D + 1) rfl rfl rfl rfl rfl (by omega) (by decide) ?_
  rw [show a 20 (D + 1) = 1 from hst]
  refine zm_J_run zm_T 7 (pc' := 217) (lv' := [(3, .int (nI p)), (0, .ref 12), (1, .int (nI (D + 1))), (2, .int c)]) (st' := [.int (s 38), .int (nI (D + 1)), .ref 34]) (G' := (zr_H C ex sl s a)) rfl ?_
  refine zg_ast (i := .iastore) (t := 0) (n := 64) (f := a 21) (m := D + 1) (v' := (s 38)) (G' := (zr_H C ex sl s (zu a 21 (upd (a 21) (D + 1) (s 38))))) rfl rfl rfl rfl (by decide) rfl (by omega) (by decide) rfl ?_
  refine zm_J_run zm_T 4 (pc' := 224) (lv' := [(3, .int (nI p)), (0, .ref 12), (1, .int (nI (D + 1))), (2, .int c)]) (st' := [.int 2, .int (nI (D + 1)), .ref 33]) (G' := (zr_H C ex sl s (zu a 21 (upd (a 21) (D + 1) (s 38))))) rfl ?_
  refine zg_ast (i := .iastore) (t := 0) (n := 64) (f := a 20) (m := D + 1) (v' := 2) (G' := (zr_H C ex sl s (zu (zu a 21 (upd (a 21) (D + 1) (s 38))) 20 (upd (a 20) (D + 1) 2)))) rfl rfl rfl rfl (by decide) rfl (by omega) (by decide) rfl ?_
  refine zm_J_run zm_T 5 (pc' := 230) (lv' := [(3, .int (nI p)), (0, .ref 12), (1, .int (nI (D + 1))), (2, .int c)]) (st' := [.int ((nI p) + 1), .ref 12, .ref 12]) (G' := (zr_H C ex sl s (zu (zu a 21 (upd (a 21) (D + 1) (s 38))) 20 (upd (a 20) (D + 1) 2)))) rfl ?_
  rw [show nI p + 1 = nI (p + 1) from nI_1 p]
  show zm_J N _ 91 230 [(3, .int (nI p)), (0, .ref 12), (1, .int (nI (D + 1))), (2, .int c)] [.int (nI (p + 1)), .ref 12, .ref 12] (zr_H C ex sl s (zu (zu a 21 (upd (a 21) (D + 1) (s 38))) 20 (upd (a 20) (D + 1) 2))) _
  refine zg_V (a := 12) (av := [.int (nI (p + 1))]) (rest := [.ref 12]) (v := some (.int (nI (p + 1 + zv_n r 1)))) (G2 := (zr_H C ex sl s (zu (zu a 21 (upd (a 21) (D + 1) (s 38))) 20 (upd (a 20) (D + 1) 2)))) (zm_T.1 91 230 _ rfl).1 zc_91_230 rfl (Nat.le_of_ble_eq_true rfl) (Nat.le_of_ble_eq_true rfl) (zr_c hr) (zr_s hr) (zr_skip (a := (zu (zu a 21 (upd (a 21) (D + 1) (s 38))) 20 (upd (a 20) (D + 1) 2))) hL hr (by omega) hr1 htx) ?_
  show zm_J N _ 91 233 [(3, .int (nI p)), (0, .ref 12), (1, .int (nI (D + 1))), (2, .int c)] [.int (nI (p + 1 + zv_n r 1)), .ref 12] (zr_H C ex sl s (zu (zu a 21 (upd (a 21) (D + 1) (s 38))) 20 (upd (a 20) (D + 1) 2))) _
  refine zm_J_run zm_T 3 (pc' := 238) (lv' := [(3, .int (nI p)), (0, .ref 12), (1, .int (nI (D + 1))), (2, .int c)]) (st' := [.int (nI (D + 1)), .ref 32, .int (nI (p + 1 + zv_n r 1)), .ref 12]) (G' := (zr_H C ex sl s (zu (zu a 21 (upd (a 21) (D + 1) (s 38))) 20 (upd (a 20) (D + 1) 2)))) rfl ?_
  refine zg_ald (i := .iaload) (t := 0) (n := 64) (f := a 19) (m := D + 1) rfl rfl rfl rfl rfl (by omega) (by decide) ?_
  rw [show a 19 (D + 1) = e from hin]
  refine zg_V (a := 12) (av := [.int (nI (p + 1 + zv_n r 1)), .int e]) (rest := []) (v := none) (G2 := (zr_H C ex sl (zr_pS s (D + 1)) (zr_pA (zu (zu a 21 (upd (a 21) (D + 1) (s 38))) 20 (upd (a 20) (D + 1) 2)) (D + 1) (nI (p + 1 + zv_n r 1)) e))) (zm_T.1 91 239 _ rfl).1 zc_91_239 rfl (Nat.le_of_ble_eq_true rfl) (Nat.le_of_ble_eq_true rfl) (zr_c hr) (zr_s hr) (zr_push (a := (zu (zu a 21 (upd (a 21) (D + 1) (s 38))) 20 (upd (a 20) (D + 1) 2))) hD (by omega) (nI (p + 1 + zv_n r 1)) e) ?_
  show zm_J N _ 91 242 [(3, .int (nI p)), (0, .ref 12), (1, .int (nI (D + 1))), (2, .int c)] [] (zr_H C ex sl (zr_pS s (D + 1)) (zr_pA (zu (zu a 21 (upd (a 21) (D + 1) (s 38))) 20 (upd (a 20) (D + 1) 2)) (D + 1) (nI (p + 1 + zv_n r 1)) e)) _
  refine zm_J_run zm_T 1 (pc' := 277) (lv' := [(3, .int (nI p)), (0, .ref 12), (1, .int (nI (D + 1))), (2, .int c)]) (st' := []) (G' := (zr_H C ex sl (zr_pS s (D + 1)) (zr_pA (zu (zu a 21 (upd (a 21) (D + 1) (s 38))) 20 (upd (a 20) (D + 1) 2)) (D + 1) (nI (p + 1 + zv_n r 1)) e))) rfl ?_
  exact zm_J_fin zm_T rfl rfl ⟨rfl, _, _, rfl, k⟩
theorem zr_g_op2 (hr : zr_r ex sl) {D p : Nat} {c : Int32} (h60 : D < 60) (hD : s 31 = nI (D + 1)) (hat : a 18 (D + 1) = nI p) (hp : p < 21200) (n1 : ¬ c = 46) (n2 : ¬ c = 122) (n3 : ¬ c = 104) (n4 : ¬ c = 116) (n5 : ¬ c = 63) (hcc : c = 43 ∨ c = 45 ∨ c = 42 ∨ c = 47 ∨ c = 37 ∨ c = 60 ∨ c = 61) (hst : a 20 (D + 1) = 2) (hk : s 37 = 0) (h12 : s 12 = 0) {x : Int32} (hkp : a 21 (D + 1) = x) {v : Int32} (hv : zv_bn c x (s 38) = some v) (hd : 3 ≤ d) (k : J (zr_gS s 0 v 0) a) : zm_J N d 91 0 [(0, .ref 12), (1, .int (nI (D + 1))), (2, .int c)] [] (zr_H C ex sl s a) (zr_SQ C ex sl J) := by
  obtain ⟨d, rfl⟩ : ∃ e, d = e + 3 := ⟨d - 3, by omega⟩
  refine zm_J_run zm_T 3 (pc' := 5) (lv' := [(0, .ref 12), (1, .int (nI (D + 1))), (2, .int c)]) (st' := [.int (nI (D + 1)), .ref 31]) (G' := (zr_H C ex sl s a)) rfl ?_
  refine zg_ald (i := .iaload) (t := 0) (n := 64) (f := a 18) (m := D + 1) rfl rfl rfl rfl rfl (by omega) (by decide) ?_
  rw [show a 18 (D + 1) = nI p from hat]
  refine zm_J_run zm_T 4 (pc' := if c = 46 then 13 else 21) (lv' := [(3, .int (nI p)), (0, .ref 12), (1, .int (nI (D + 1))), (2, .int c)]) (st' := []) (G' := (zr_H C ex sl s a)) rfl ?_
  rw [if_neg (show ¬ (c = 46) from n1)]
  refine zm_J_run zm_T 3 (pc' := if c = 122 then 27 else 73) (lv' := [(3, .int (nI p)), (0, .ref 12), (1, .int (nI (D + 1))), (2, .int c)]) (st' := []) (G' := (zr_H C ex sl s a)) rfl ?_
  rw [if_neg (show ¬ (c = 122) from n2)]
  refine zm_J_run zm_T 3 (pc' := if c = 104 then 85 else 79) (lv' := [(3, .int (nI p)), (0, .ref 12), (1, .int (nI (D + 1))), (2, .int c)]) (st' := []) (G' := (zr_H C ex sl s a)) rfl ?_
  rw [if_neg (show ¬ (c = 104) from n3)]
  refine zm_J_run zm_T 3 (pc' := if c = 116 then 85 else 137) (lv' := [(3, .int (nI p)), (0, .ref 12), (1, .int (nI (D + 1))), (2, .int c)]) (st' := []) (G' := (zr_H C ex sl s a)) rfl ?_
  rw [if_neg (show ¬ (c = 116) from n4)]
  refine zm_J_run zm_T 1 (pc' := 138) (lv' := [(3, .int (nI p)), (0, .ref 12), (1, .int (nI (D + 1))), (2, .int c)]) (st' := [.ref 12]) (G' := (zr_H C ex sl s a)) rfl ?_
  refine zg_V (a := 12) (av := []) (rest := []) (v := some (.int 1)) (G2 := (zr_H C ex sl s a)) (zm_T.1 91 138 _ rfl).1 zc_91_138 rfl (Nat.le_of_ble_eq_true rfl) (Nat.le_of_ble_eq_true rfl) (zr_c hr) (zr_s hr) (zr_isn1 hk h12) ?_
  show zm_J N _ 91 141 [(3, .int (nI p)), (0, .ref 12), (1, .int (nI (D + 1))), (2, .int c)] [.int 1] (zr_H C ex sl s a) _
  refine zm_J_run zm_T 4 (pc' := if c = 63 then 151 else 198) (lv' := [(3, .int (nI p)), (0, .ref 12), (1, .int (nI (D + 1))), (2, .int c)]) (st' := []) (G' := (zr_H C ex sl s a)) rfl ?_
  rw [if_neg (show ¬ (c = 63) from n5)]
  refine zm_J_run zm_T 3 (pc' := 203) (lv' := [(3, .int (nI p)), (0, .ref 12), (1, .int (nI (D + 1))), (2, .int c)]) (st' := [.int (nI (D + 1)), .ref 33]) (G' := (zr_H C ex sl s a)) rfl ?_
  refine zg_ald (i := .iaload) (t := 0) (n := 64) (f := a 20) (m := D + 1) rfl rfl rfl rfl rfl (by omega) (by decide) ?_
  rw [show a 20 (D + 1) = 2 from hst]
  refine zm_J_run zm_T 7 (pc' := 252) (lv' := [(3, .int (nI p)), (0, .ref 12), (1, .int (nI (D + 1))), (2, .int c)]) (st' := [.int (nI (D + 1)), .ref 34, .int c, .ref 12]) (G' := (zr_H C ex sl s a)) rfl ?_
  refine zg_ald (i := .iaload) (t := 0) (n := 64) (f := a 21) (m := D + 1) rfl rfl rfl rfl rfl (by omega) (by decide) ?_
  rw [show a 21 (D + 1) = x from hkp]
  have jb := zr_bin (N := N) (d := d + 2) (C := C) (s := s) (a := a) hr (by omega) hcc x (s 38)
  rw [hv] at jb
  refine zm_J_run zm_T 2 (pc' := 257) (lv' := [(3, .int (nI p)), (0, .ref 12), (1, .int (nI (D + 1))), (2, .int c)]) (st' := [.int (s 38), .int x, .int c, .ref 12]) (G' := (zr_H C ex sl s a)) rfl ?_
  refine zg_V (a := 12) (av := [.int c, .int x, .int (s 38)]) (rest := []) (v := some (.int v)) (G2 := (zr_H C ex sl s a)) (zm_T.1 91 257 _ rfl).1 zc_91_257 rfl (Nat.le_of_ble_eq_true rfl) (Nat.le_of_ble_eq_true rfl) (zr_c hr) (zr_s hr) (jb) ?_
  show zm_J N _ 91 260 [(3, .int (nI p)), (0, .ref 12), (1, .int (nI (D + 1))), (2, .int c)] [.int v] (zr_H C ex sl s a) _
  refine zm_J_run zm_T 4 (pc' := if (s 12) = 0 then 269 else 277) (lv' := [(4, .int v), (3, .int (nI p)), (0, .ref 12), (1, .int (nI (D + 1))), (2, .int c)]) (st' := []) (G' := (zr_H C ex sl s a)) rfl ?_
  rw [if_pos (show (s 12) = 0 from h12)]
  refine zm_J_run zm_T 4 (pc' := 274) (lv' := [(4, .int v), (3, .int (nI p)), (0, .ref 12), (1, .int (nI (D + 1))), (2, .int c)]) (st' := [.int 0, .int v, .int 0, .ref 12]) (G' := (zr_H C ex sl s a)) rfl ?_
  refine zg_V (a := 12) (av := [.int 0, .int v, .int 0]) (rest := []) (v := none) (G2 := (zr_H C ex sl (zr_gS s 0 v 0) a)) (zm_T.1 91 274 _ rfl).1 zc_91_274 rfl (Nat.le_of_ble_eq_true rfl) (Nat.le_of_ble_eq_true rfl) (zr_c hr) (zr_s hr) (zr_give 0 v 0) ?_
  show zm_J N _ 91 277 [(4, .int v), (3, .int (nI p)), (0, .ref 12), (1, .int (nI (D + 1))), (2, .int c)] [] (zr_H C ex sl (zr_gS s 0 v 0) a) _
  exact zm_J_fin zm_T rfl rfl ⟨rfl, _, _, rfl, k⟩
theorem zr_g_op3 (hr : zr_r ex sl) {D p : Nat} {c : Int32} (h60 : D < 60) (hD : s 31 = nI (D + 1)) (hat : a 18 (D + 1) = nI p) (hp : p < 21200) (n1 : ¬ c = 46) (n2 : ¬ c = 122) (n3 : ¬ c = 104) (n4 : ¬ c = 116) (n5 : ¬ c = 63) (hcc : c = 43 ∨ c = 45 ∨ c = 42 ∨ c = 47 ∨ c = 37 ∨ c = 60 ∨ c = 61) (hst : a 20 (D + 1) = 2) (hk : s 37 = 0) (h12 : s 12 = 0) {x : Int32} (hkp : a 21 (D + 1) = x) (hv : zv_bn c x (s 38) = none) (hd : 3 ≤ d) (k : J (zu s 12 3) a) : zm_J N d 91 0 [(0, .ref 12), (1, .int (nI (D + 1))), (2, .int c)] [] (zr_H C ex sl s a) (zr_SQ C ex sl J) := by
  obtain ⟨d, rfl⟩ : ∃ e, d = e + 3 := ⟨d - 3, by omega⟩
  refine zm_J_run zm_T 3 (pc' := 5) (lv' := [(0, .ref 12), (1, .int (nI (D + 1))), (2, .int c)]) (st' := [.int (nI (D + 1)), .ref 31]) (G' := (zr_H C ex sl s a)) rfl ?_
  refine zg_ald (i := .iaload) (t := 0) (n := 64) (f := a 18) (m := D + 1) rfl rfl rfl rfl rfl (by omega) (by decide) ?_
  rw [show a 18 (D + 1) = nI p from hat]
  refine zm_J_run zm_T 4 (pc' := if c = 46 then 13 else 21) (lv' := [(3, .int (nI p)), (0, .ref 12), (1, .int (nI (D + 1))), (2, .int c)]) (st' := []) (G' := (zr_H C ex sl s a)) rfl ?_
  rw [if_neg (show ¬ (c = 46) from n1)]
  refine zm_J_run zm_T 3 (pc' := if c = 122 then 27 else 73) (lv' := [(3, .int (nI p)), (0, .ref 12), (1, .int (nI (D + 1))), (2, .int c)]) (st' := []) (G' := (zr_H C ex sl s a)) rfl ?_
  rw [if_neg (show ¬ (c = 122) from n2)]
  refine zm_J_run zm_T 3 (pc' := if c = 104 then 85 else 79) (lv' := [(3, .int (nI p)), (0, .ref 12), (1, .int (nI (D + 1))), (2, .int c)]) (st' := []) (G' := (zr_H C ex sl s a)) rfl ?_
  rw [if_neg (show ¬ (c = 104) from n3)]
  refine zm_J_run zm_T 3 (pc' := if c = 116 then 85 else 137) (lv' := [(3, .int (nI p)), (0, .ref 12), (1, .int (nI (D + 1))), (2, .int c)]) (st' := []) (G' := (zr_H C ex sl s a)) rfl ?_
  rw [if_neg (show ¬ (c = 116) from n4)]
  refine zm_J_run zm_T 1 (pc' := 138) (lv' := [(3, .int (nI p)), (0, .ref 12), (1, .int (nI (D + 1))), (2, .int c)]) (st' := [.ref 12]) (G' := (zr_H C ex sl s a)) rfl ?_
  refine zg_V (a := 12) (av := []) (rest := []) (v := some (.int 1)) (G2 := (zr_H C ex sl s a)) (zm_T.1 91 138 _ rfl).1 zc_91_138 rfl (Nat.le_of_ble_eq_true rfl) (Nat.le_of_ble_eq_true rfl) (zr_c hr) (zr_s hr) (zr_isn1 hk h12) ?_
  show zm_J N _ 91 141 [(3, .int (nI p)), (0, .ref 12), (1, .int (nI (D + 1))), (2, .int c)] [.int 1] (zr_H C ex sl s a) _
  refine zm_J_run zm_T 4 (pc' := if c = 63 then 151 else 198) (lv' := [(3, .int (nI p)), (0, .ref 12), (1, .int (nI (D + 1))), (2, .int c)]) (st' := []) (G' := (zr_H C ex sl s a)) rfl ?_
  rw [if_neg (show ¬ (c = 63) from n5)]
  refine zm_J_run zm_T 3 (pc' := 203) (lv' := [(3, .int (nI p)), (0, .ref 12), (1, .int (nI (D + 1))), (2, .int c)]) (st' := [.int (nI (D + 1)), .ref 33]) (G' := (zr_H C ex sl s a)) rfl ?_
  refine zg_ald (i := .iaload) (t := 0) (n := 64) (f := a 20) (m := D + 1) rfl rfl rfl rfl rfl (by omega) (by decide) ?_
  rw [show a 20 (D + 1) = 2 from hst]
  refine zm_J_run zm_T 7 (pc' := 252) (lv' := [(3, .int (nI p)), (0, .ref 12), (1, .int (nI (D + 1))), (2, .int c)]) (st' := [.int (nI (D + 1)), .ref 34, .int c, .ref 12]) (G' := (zr_H C ex sl s a)) rfl ?_
  refine zg_ald (i := .iaload) (t := 0) (n := 64) (f := a 21) (m := D + 1) rfl rfl rfl rfl rfl (by omega) (by decide) ?_
  rw [show a 21 (D + 1) = x from hkp]
  have jb := zr_bin (N := N) (d := d + 2) (C := C) (s := s) (a := a) hr (by omega) hcc x (s 38)
  rw [hv] at jb
  refine zm_J_run zm_T 2 (pc' := 257) (lv' := [(3, .int (nI p)), (0, .ref 12), (1, .int (nI (D + 1))), (2, .int c)]) (st' := [.int (s 38), .int x, .int c, .ref 12]) (G' := (zr_H C ex sl s a)) rfl ?_
  refine zg_V (a := 12) (av := [.int c, .int x, .int (s 38)]) (rest := []) (v := some (.int 0)) (G2 := (zr_H C ex sl (zu s 12 3) a)) (zm_T.1 91 257 _ rfl).1 zc_91_257 rfl (Nat.le_of_ble_eq_true rfl) (Nat.le_of_ble_eq_true rfl) (zr_c hr) (zr_s hr) (jb) ?_
  show zm_J N _ 91 260 [(3, .int (nI p)), (0, .ref 12), (1, .int (nI (D + 1))), (2, .int c)] [.int 0] (zr_H C ex sl (zu s 12 3) a) _
  refine zm_J_run zm_T 4 (pc' := 277) (lv' := [(4, .int 0), (3, .int (nI p)), (0, .ref 12), (1, .int (nI (D + 1))), (2, .int c)]) (st' := []) (G' := (zr_H C ex sl (zu s 12 3) a)) rfl ?_
  exact zm_J_fin zm_T rfl rfl ⟨rfl, _, _, rfl, k⟩
theorem zr_n_no (hr : zr_r ex sl) {k : Nat} (hk : k < 6) (h7 : a 7 k = 0) (hd : 1 ≤ d) (kk : J (zu s 12 2) a) : zm_J N d 100 0 [(0, .ref 12), (1, .int (nI k))] [] (zr_H C ex sl s a) (zr_SQ C ex sl J) := by
  obtain ⟨d, rfl⟩ : ∃ e, d = e + 1 := ⟨d - 1, by omega⟩
  refine zm_J_run zm_T 3 (pc' := 5) (lv' := [(0, .ref 12), (1, .int (nI k))]) (st' := [.int (nI k), .ref 20]) (G' := (zr_H C ex sl s a)) rfl ?_
  refine zg_ald (i := .baload) (t := 3) (n := 6) (f := a 7) (m := k) rfl rfl rfl rfl rfl (by omega) (by decide) ?_
  rw [show a 7 k = 0 from h7]
  refine zm_J_run zm_T 5 (pc' := 43) (lv' := [(0, .ref 12), (1, .int (nI k))]) (st' := []) (G' := (zr_H C ex sl (zu s 12 2) a)) rfl ?_
  exact zm_J_fin zm_T rfl rfl ⟨rfl, _, _, rfl, kk⟩
theorem zr_n_fun (hr : zr_r ex sl) {k : Nat} (hk : k < 6) (h7 : a 7 k = 1) {P : Nat} (h5 : a 5 k = nI P) (hP : P ≤ 4) (hP0 : P ≠ 0) (hd : 2 ≤ d) (kk : J (zr_gS s 3 (nI k) (-1)) a) : zm_J N d 100 0 [(0, .ref 12), (1, .int (nI k))] [] (zr_H C ex sl s a) (zr_SQ C ex sl J) := by
  obtain ⟨d, rfl⟩ : ∃ e, d = e + 2 := ⟨d - 2, by omega⟩
  refine zm_J_run zm_T 3 (pc' := 5) (lv' := [(0, .ref 12), (1, .int (nI k))]) (st' := [.int (nI k), .ref 20]) (G' := (zr_H C ex sl s a)) rfl ?_
  refine zg_ald (i := .baload) (t := 3) (n := 6) (f := a 7) (m := k) rfl rfl rfl rfl rfl (by omega) (by decide) ?_
  rw [show a 7 k = 1 from h7]
  refine zm_J_run zm_T 4 (pc' := 22) (lv' := [(0, .ref 12), (1, .int (nI k))]) (st' := [.int (nI k), .ref 18]) (G' := (zr_H C ex sl s a)) rfl ?_
  refine zg_ald (i := .iaload) (t := 0) (n := 6) (f := a 5) (m := k) rfl rfl rfl rfl rfl (by omega) (by decide) ?_
  rw [show a 5 k = nI P from h5]
  refine zm_J_run zm_T 1 (pc' := if (nI P) = 0 then 26 else 36) (lv' := [(0, .ref 12), (1, .int (nI k))]) (st' := []) (G' := (zr_H C ex sl s a)) rfl ?_
  rw [if_neg (show ¬ ((nI P) = 0) from nI_ne0 (by omega) (by omega))]
  refine zm_J_run zm_T 4 (pc' := 40) (lv' := [(0, .ref 12), (1, .int (nI k))]) (st' := [.int (-1), .int (nI k), .int 3, .ref 12]) (G' := (zr_H C ex sl s a)) rfl ?_
  refine zg_V (a := 12) (av := [.int 3, .int (nI k), .int (-1)]) (rest := []) (v := none) (G2 := (zr_H C ex sl (zr_gS s 3 (nI k) (-1)) a)) (zm_T.1 100 40 _ rfl).1 zc_100_40 rfl (Nat.le_of_ble_eq_true rfl) (Nat.le_of_ble_eq_true rfl) (zr_c hr) (zr_s hr) (zr_give 3 (nI k) (-1)) ?_
  show zm_J N _ 100 43 [(0, .ref 12), (1, .int (nI k))] [] (zr_H C ex sl (zr_gS s 3 (nI k) (-1)) a) _
  exact zm_J_fin zm_T rfl rfl ⟨rfl, _, _, rfl, kk⟩
theorem zr_n_call (hr : zr_r ex sl) {k : Nat} (hk : k < 6) (h7 : a 7 k = 1) (h5 : a 5 k = 0) (hd : 1 ≤ d) (kk : zm_J N (d - 1) 96 0 [(0, .ref 12), (1, .int (nI k)), (2, .int (-1)), (3, .int 0)] [] (zr_H C ex sl s a) (zr_SQ C ex sl J)) : zm_J N d 100 0 [(0, .ref 12), (1, .int (nI k))] [] (zr_H C ex sl s a) (zr_SQ C ex sl J) := by
  obtain ⟨d, rfl⟩ : ∃ e, d = e + 1 := ⟨d - 1, by omega⟩
  refine zm_J_run zm_T 3 (pc' := 5) (lv' := [(0, .ref 12), (1, .int (nI k))]) (st' := [.int (nI k), .ref 20]) (G' := (zr_H C ex sl s a)) rfl ?_
  refine zg_ald (i := .baload) (t := 3) (n := 6) (f := a 7) (m := k) rfl rfl rfl rfl rfl (by omega) (by decide) ?_
  rw [show a 7 k = 1 from h7]
  refine zm_J_run zm_T 4 (pc' := 22) (lv' := [(0, .ref 12), (1, .int (nI k))]) (st' := [.int (nI k), .ref 18]) (G' := (zr_H C ex sl s a)) rfl ?_
  refine zg_ald (i := .iaload) (t := 0) (n := 6) (f := a 5) (m := k) rfl rfl rfl rfl rfl (by omega) (by decide) ?_
  rw [show a 5 k = 0 from h5]
  refine zm_J_run zm_T 5 (pc' := 30) (lv' := [(0, .ref 12), (1, .int (nI k))]) (st' := [.int 0, .int (-1), .int (nI k), .ref 12]) (G' := (zr_H C ex sl s a)) rfl ?_
  refine zm_J_V (a := 12) (av := [.int (nI k), .int (-1), .int 0]) (rest := []) (zm_T.1 100 30 _ rfl).1 zc_100_30 rfl (Nat.le_of_ble_eq_true rfl) (Nat.le_of_ble_eq_true rfl) (zr_c hr) (zr_s hr) (kk) ?_ ?_
  rotate_left
  · intro x G' h; exact nomatch h.1
  intro v G' h
  obtain ⟨h1, s', a', rfl, hL⟩ := h
  cases Sum.inl.inj h1
  show zm_J N _ 100 33 [(0, .ref 12), (1, .int (nI k))] [] (zr_H C ex sl s' a') _
  refine zm_J_run zm_T 1 (pc' := 43) (lv' := [(0, .ref 12), (1, .int (nI k))]) (st' := []) (G' := (zr_H C ex sl s' a')) rfl ?_
  exact zm_J_fin zm_T rfl rfl ⟨rfl, _, _, rfl, hL⟩
theorem zr_a_no (hk : ¬ s 37 = 3) {f : Int32} (kk : J (zu s 12 5) a) : zm_J N d 92 0 [(0, .ref 12), (1, .int f)] [] (zr_H C ex sl s a) (zr_SQ C ex sl J) := by
  refine zm_J_run zm_T 4 (pc' := if (s 37) = 3 then 14 else 8) (lv' := [(0, .ref 12), (1, .int f)]) (st' := []) (G' := (zr_H C ex sl s a)) rfl ?_
  rw [if_neg (show ¬ ((s 37) = 3) from hk)]
  refine zm_J_run zm_T 3 (pc' := 13) (lv' := [(0, .ref 12), (1, .int f)]) (st' := []) (G' := (zr_H C ex sl (zu s 12 5) a)) rfl ?_
  exact zm_J_fin zm_T rfl rfl ⟨rfl, _, _, rfl, kk⟩
/-- the ARGUMENT is there -/
def zr_aA (a : Nat → Nat → Int32) (n : Nat) (x y : Int32) : Nat → Nat → Int32 := zu (zu a 16 (upd (a 16) n x)) 17 (upd (a 17) n y)
def zr_aS (s : Nat → Int32) (n : Nat) : Nat → Int32 := zu s 25 (nI (n + 1))
theorem zr_a_yes (hr : zr_r ex sl) {D p : Nat} (h60 : D < 60) (hat : a 18 (D + 1) = nI p) (hp : p < 21200) (hk : s 37 = 3) {k : Nat} (hk6 : k < 6) (h38 : s 38 = nI k) {L r : List Int32} (hL : zv_wL L) (hrk : zv_ok L r 1 = true) (htx : zr_tx M (a 1) (p + 1) r) {e : Int32} (hin : a 19 (D + 1) = e) {x : Nat} {n : Nat} (hn : n < 16400) (h25 : s 25 = nI n) {s1 : Nat → Int32} {a1 : Nat → Nat → Int32} (hd : 3 ≤ d)
    (j1 : zm_J N (d - 1) 93 0 [(0, .ref 12), (1, .int (nI (p + 1 + zv_n r 1))), (2, .int e)] [] (zr_H C ex sl s a) (zr_R C ex sl (some (.int (nI x))) s1 a1)) (e1 : s1 25 = s 25) (e2 : s1 39 = s 39) {A : List Nat} (hch : zr_ch (zr_aA a1 n (nI x) (s 39)) (n + 1) (nI n) A)
    (kk : zm_J N d 92 91 [(5, .int (nI A.length)), (4, .int (nI n)), (0, .ref 12), (2, .int (nI k))] [] (zr_H C ex sl (zr_aS s1 n) (zr_aA a1 n (nI x) (s 39))) (zr_SQ C ex sl J)) : zm_J N d 92 0 [(0, .ref 12), (1, .int (nI (D + 1)))] [] (zr_H C ex sl s a) (zr_SQ C ex sl J) := by
  obtain ⟨d, rfl⟩ : ∃ e, d = e + 3 := ⟨d - 3, by omega⟩
  rw [← e2] at hch kk
  refine zm_J_run zm_T 4 (pc' := if (s 37) = 3 then 14 else 8) (lv' := [(0, .ref 12), (1, .int (nI (D + 1)))]) (st' := []) (G' := (zr_H C ex sl s a)) rfl ?_
  rw [if_pos (show (s 37) = 3 from hk)]
  refine zm_J_run zm_T 3 (pc' := 19) (lv' := [(2, .int (s 38)), (0, .ref 12), (1, .int (nI (D + 1)))]) (st' := []) (G' := (zr_H C ex sl s a)) rfl ?_
  rw [show (.int (s 38) : Value) = .int (nI k) from congrArg Value.int h38]
  show zm_J N _ 92 19 [(2, .int (nI k)), (0, .ref 12), (1, .int (nI (D + 1)))] [] (zr_H C ex sl s a) _
  refine zm_J_run zm_T 3 (pc' := 24) (lv' := [(2, .int (nI k)), (0, .ref 12), (1, .int (nI (D + 1)))]) (st' := [.int (nI (D + 1)), .ref 31]) (G' := (zr_H C ex sl s a)) rfl ?_
  refine zg_ald (i := .iaload) (t := 0) (n := 64) (f := a 18) (m := D + 1) rfl rfl rfl rfl rfl (by omega) (by decide) ?_
  rw [show a 18 (D + 1) = nI p from hat]
  refine zm_J_run zm_T 10 (pc' := 39) (lv' := [(3, .int (nI p)), (2, .int (nI k)), (0, .ref 12), (1, .int (nI (D + 1)))]) (st' := [.int ((nI p) + 1), .ref 12, .ref 12, .int (s 25), .ref 29]) (G' := (zr_H C ex sl s a)) rfl ?_
  rw [show nI p + 1 = nI (p + 1) from nI_1 p]
  show zm_J N _ 92 39 [(3, .int (nI p)), (2, .int (nI k)), (0, .ref 12), (1, .int (nI (D + 1)))] [.int (nI (p + 1)), .ref 12, .ref 12, .int (s 25), .ref 29] (zr_H C ex sl s a) _
  refine zg_V (a := 12) (av := [.int (nI (p + 1))]) (rest := [.ref 12, .int (s 25), .ref 29]) (v := some (.int (nI (p + 1 + zv_n r 1)))) (G2 := (zr_H C ex sl s a)) (zm_T.1 92 39 _ rfl).1 zc_92_39 rfl (Nat.le_of_ble_eq_true rfl) (Nat.le_of_ble_eq_true rfl) (zr_c hr) (zr_s hr) (zr_skip hL hr (by omega) hrk htx) ?_
  show zm_J N _ 92 42 [(3, .int (nI p)), (2, .int (nI k)), (0, .ref 12), (1, .int (nI (D + 1)))] [.int (nI (p + 1 + zv_n r 1)), .ref 12, .int (s 25), .ref 29] (zr_H C ex sl s a) _
  refine zm_J_run zm_T 3 (pc' := 47) (lv' := [(3, .int (nI p)), (2, .int (nI k)), (0, .ref 12), (1, .int (nI (D + 1)))]) (st' := [.int (nI (D + 1)), .ref 32, .int (nI (p + 1 + zv_n r 1)), .ref 12, .int (s 25), .ref 29]) (G' := (zr_H C ex sl s a)) rfl ?_
  refine zg_ald (i := .iaload) (t := 0) (n := 64) (f := a 19) (m := D + 1) rfl rfl rfl rfl rfl (by omega) (by decide) ?_
  rw [show a 19 (D + 1) = e from hin]
  refine zg_V (a := 12) (av := [.int (nI (p + 1 + zv_n r 1)), .int e]) (rest := [.int (s 25), .ref 29]) (v := some (.int (nI x))) (G2 := (zr_H C ex sl s1 a1)) (zm_T.1 92 48 _ rfl).1 zc_92_48 rfl (Nat.le_of_ble_eq_true rfl) (Nat.le_of_ble_eq_true rfl) (zr_c hr) (zr_s hr) (j1) ?_
  show zm_J N _ 92 51 [(3, .int (nI p)), (2, .int (nI k)), (0, .ref 12), (1, .int (nI (D + 1)))] [.int (nI x), .int (s 25), .ref 29] (zr_H C ex sl s1 a1) _
  refine zg_ast (i := .iastore) (t := 0) (n := 16400) (f := a1 16) (m := n) (v' := (nI x)) (G' := (zr_H C ex sl s1 (zu a1 16 (upd (a1 16) n (nI x))))) rfl rfl rfl rfl (by decide) h25 (by omega) (by decide) rfl ?_
  refine zm_J_run zm_T 6 (pc' := 64) (lv' := [(3, .int (nI p)), (2, .int (nI k)), (0, .ref 12), (1, .int (nI (D + 1)))]) (st' := [.int (s1 39), .int (s1 25), .ref 30]) (G' := (zr_H C ex sl s1 (zu a1 16 (upd (a1 16) n (nI x))))) rfl ?_
  refine zg_ast (i := .iastore) (t := 0) (n := 16400) (f := a1 17) (m := n) (v' := (s1 39)) (G' := (zr_H C ex sl s1 (zu (zu a1 16 (upd (a1 16) n (nI x))) 17 (upd (a1 17) n (s1 39))))) rfl rfl rfl rfl (by decide) (e1.trans h25) (by omega) (by decide) rfl ?_
  refine zm_J_run zm_T 6 (pc' := 75) (lv' := [(3, .int (nI p)), (2, .int (nI k)), (0, .ref 12), (1, .int (nI (D + 1)))]) (st' := []) (G' := (zr_H C ex sl (zu s1 25 ((s1 25) + 1)) (zu (zu a1 16 (upd (a1 16) n (nI x))) 17 (upd (a1 17) n (s1 39))))) rfl ?_
  rw [show s1 25 + 1 = nI (n + 1) from by rw [e1, h25]; exact nI_1 n]
  show zm_J N _ 92 75 [(3, .int (nI p)), (2, .int (nI k)), (0, .ref 12), (1, .int (nI (D + 1)))] [] (zr_H C ex sl (zu s1 25 (nI (n + 1))) (zu (zu a1 16 (upd (a1 16) n (nI x))) 17 (upd (a1 17) n (s1 39)))) _
  refine zm_J_run zm_T 5 (pc' := 83) (lv' := [(4, .int ((nI (n + 1)) - 1)), (3, .int (nI p)), (2, .int (nI k)), (0, .ref 12), (1, .int (nI (D + 1)))]) (st' := []) (G' := (zr_H C ex sl (zu s1 25 (nI (n + 1))) (zu (zu a1 16 (upd (a1 16) n (nI x))) 17 (upd (a1 17) n (s1 39))))) rfl ?_
  rw [show nI (n + 1) - 1 = nI n from nI_pred n]
  show zm_J N _ 92 83 [(4, .int (nI n)), (3, .int (nI p)), (2, .int (nI k)), (0, .ref 12), (1, .int (nI (D + 1)))] [] (zr_H C ex sl (zu s1 25 (nI (n + 1))) (zu (zu a1 16 (upd (a1 16) n (nI x))) 17 (upd (a1 17) n (s1 39)))) _
  refine zm_J_run zm_T 2 (pc' := 86) (lv' := [(4, .int (nI n)), (3, .int (nI p)), (2, .int (nI k)), (0, .ref 12), (1, .int (nI (D + 1)))]) (st' := [.int (nI n), .ref 12]) (G' := (zr_H C ex sl (zu s1 25 (nI (n + 1))) (zu (zu a1 16 (upd (a1 16) n (nI x))) 17 (upd (a1 17) n (s1 39))))) rfl ?_
  refine zg_V (a := 12) (av := [.int (nI n)]) (rest := []) (v := some (.int (nI A.length))) (G2 := (zr_H C ex sl (zr_aS s1 n) (zr_aA a1 n (nI x) (s1 39)))) (zm_T.1 92 86 _ rfl).1 zc_92_86 rfl (Nat.le_of_ble_eq_true rfl) (Nat.le_of_ble_eq_true rfl) (zr_c hr) (zr_s hr) (zr_cnt (a := zr_aA a1 n (nI x) (s1 39)) (s := zr_aS s1 n) (by omega) hch) ?_
  show zm_J N _ 92 89 [(4, .int (nI n)), (3, .int (nI p)), (2, .int (nI k)), (0, .ref 12), (1, .int (nI (D + 1)))] [.int (nI A.length)] (zr_H C ex sl (zr_aS s1 n) (zr_aA a1 n (nI x) (s1 39))) _
  refine zm_J_run zm_T 1 (pc' := 91) (lv' := [(5, .int (nI A.length)), (4, .int (nI n)), (3, .int (nI p)), (2, .int (nI k)), (0, .ref 12), (1, .int (nI (D + 1)))]) (st' := []) (G' := (zr_H C ex sl (zr_aS s1 n) (zr_aA a1 n (nI x) (s1 39)))) rfl ?_
  refine zm_J_lv (lv' := [(5, .int (nI A.length)), (4, .int (nI n)), (0, .ref 12), (2, .int (nI k))]) (by simp) ?_
  exact kk
theorem zr_b_no (hr : zr_r ex sl) {k m n : Nat} (hk : k < 6) (h7 : a 7 k = 0) (hd : 1 ≤ d) (kk : J (zu s 12 2) a) : zm_J N d 92 91 [(5, .int (nI m)), (4, .int (nI n)), (0, .ref 12), (2, .int (nI k))] [] (zr_H C ex sl s a) (zr_SQ C ex sl J) := by
  obtain ⟨d, rfl⟩ : ∃ e, d = e + 1 := ⟨d - 1, by omega⟩
  refine zm_J_run zm_T 3 (pc' := 96) (lv' := [(5, .int (nI m)), (4, .int (nI n)), (0, .ref 12), (2, .int (nI k))]) (st' := [.int (nI k), .ref 20]) (G' := (zr_H C ex sl s a)) rfl ?_
  refine zg_ald (i := .baload) (t := 3) (n := 6) (f := a 7) (m := k) rfl rfl rfl rfl rfl (by omega) (by decide) ?_
  rw [show a 7 k = 0 from h7]
  refine zm_J_run zm_T 5 (pc' := 139) (lv' := [(5, .int (nI m)), (4, .int (nI n)), (0, .ref 12), (2, .int (nI k))]) (st' := []) (G' := (zr_H C ex sl (zu s 12 2) a)) rfl ?_
  exact zm_J_fin zm_T rfl rfl ⟨rfl, _, _, rfl, kk⟩
theorem zr_b_fun (hr : zr_r ex sl) {k m n : Nat} (hk : k < 6) (h7 : a 7 k = 1) {P : Nat} (h5 : a 5 k = nI P) (hP : P ≤ 4) (hm : m < P) (hd : 2 ≤ d) (kk : J (zr_gS s 3 (nI k) (nI n)) a) : zm_J N d 92 91 [(5, .int (nI m)), (4, .int (nI n)), (0, .ref 12), (2, .int (nI k))] [] (zr_H C ex sl s a) (zr_SQ C ex sl J) := by
  obtain ⟨d, rfl⟩ : ∃ e, d = e + 2 := ⟨d - 2, by omega⟩
  refine zm_J_run zm_T 3 (pc' := 96) (lv' := [(5, .int (nI m)), (4, .int (nI n)), (0, .ref 12), (2, .int (nI k))]) (st' := [.int (nI k), .ref 20]) (G' := (zr_H C ex sl s a)) rfl ?_
  refine zg_ald (i := .baload) (t := 3) (n := 6) (f := a 7) (m := k) rfl rfl rfl rfl rfl (by omega) (by decide) ?_
  rw [show a 7 k = 1 from h7]
  refine zm_J_run zm_T 5 (pc' := 115) (lv' := [(5, .int (nI m)), (4, .int (nI n)), (0, .ref 12), (2, .int (nI k))]) (st' := [.int (nI k), .ref 18, .int (nI m)]) (G' := (zr_H C ex sl s a)) rfl ?_
  refine zg_ald (i := .iaload) (t := 0) (n := 6) (f := a 5) (m := k) rfl rfl rfl rfl rfl (by omega) (by decide) ?_
  rw [show a 5 k = nI P from h5]
  refine zm_J_run zm_T 1 (pc' := if (nI P) ≤ (nI m) then 130 else 119) (lv' := [(5, .int (nI m)), (4, .int (nI n)), (0, .ref 12), (2, .int (nI k))]) (st' := []) (G' := (zr_H C ex sl s a)) rfl ?_
  rw [if_neg (show ¬ ((nI P) ≤ (nI m)) from nI_ge hm (by omega))]
  refine zm_J_run zm_T 4 (pc' := 124) (lv' := [(5, .int (nI m)), (4, .int (nI n)), (0, .ref 12), (2, .int (nI k))]) (st' := [.int (nI n), .int (nI k), .int 3, .ref 12]) (G' := (zr_H C ex sl s a)) rfl ?_
  refine zg_V (a := 12) (av := [.int 3, .int (nI k), .int (nI n)]) (rest := []) (v := none) (G2 := (zr_H C ex sl (zr_gS s 3 (nI k) (nI n)) a)) (zm_T.1 92 124 _ rfl).1 zc_92_124 rfl (Nat.le_of_ble_eq_true rfl) (Nat.le_of_ble_eq_true rfl) (zr_c hr) (zr_s hr) (zr_give 3 (nI k) (nI n)) ?_
  show zm_J N _ 92 127 [(5, .int (nI m)), (4, .int (nI n)), (0, .ref 12), (2, .int (nI k))] [] (zr_H C ex sl (zr_gS s 3 (nI k) (nI n)) a) _
  refine zm_J_run zm_T 1 (pc' := 139) (lv' := [(5, .int (nI m)), (4, .int (nI n)), (0, .ref 12), (2, .int (nI k))]) (st' := []) (G' := (zr_H C ex sl (zr_gS s 3 (nI k) (nI n)) a)) rfl ?_
  exact zm_J_fin zm_T rfl rfl ⟨rfl, _, _, rfl, kk⟩
theorem zr_b_call (hr : zr_r ex sl) {k m n : Nat} (hk : k < 6) (h7 : a 7 k = 1) {P : Nat} (h5 : a 5 k = nI P) (hP : P ≤ 4) (hm : P ≤ m) (hm2 : m ≤ 16400) (hd : 1 ≤ d) (kk : zm_J N (d - 1) 96 0 [(0, .ref 12), (1, .int (nI k)), (2, .int (nI n)), (3, .int (nI m))] [] (zr_H C ex sl s a) (zr_SQ C ex sl J)) : zm_J N d 92 91 [(5, .int (nI m)), (4, .int (nI n)), (0, .ref 12), (2, .int (nI k))] [] (zr_H C ex sl s a) (zr_SQ C ex sl J) := by
  obtain ⟨d, rfl⟩ : ∃ e, d = e + 1 := ⟨d - 1, by omega⟩
  refine zm_J_run zm_T 3 (pc' := 96) (lv' := [(5, .int (nI m)), (4, .int (nI n)), (0, .ref 12), (2, .int (nI k))]) (st' := [.int (nI k), .ref 20]) (G' := (zr_H C ex sl s a)) rfl ?_
  refine zg_ald (i := .baload) (t := 3) (n := 6) (f := a 7) (m := k) rfl rfl rfl rfl rfl (by omega) (by decide) ?_
  rw [show a 7 k = 1 from h7]
  refine zm_J_run zm_T 5 (pc' := 115) (lv' := [(5, .int (nI m)), (4, .int (nI n)), (0, .ref 12), (2, .int (nI k))]) (st' := [.int (nI k), .ref 18, .int (nI m)]) (G' := (zr_H C ex sl s a)) rfl ?_
  refine zg_ald (i := .iaload) (t := 0) (n := 6) (f := a 5) (m := k) rfl rfl rfl rfl rfl (by omega) (by decide) ?_
  rw [show a 5 k = nI P from h5]
  refine zm_J_run zm_T 1 (pc' := if (nI P) ≤ (nI m) then 130 else 119) (lv' := [(5, .int (nI m)), (4, .int (nI n)), (0, .ref 12), (2, .int (nI k))]) (st' := []) (G' := (zr_H C ex sl s a)) rfl ?_
  rw [if_pos (show (nI P) ≤ (nI m) from nI_le hm (by omega))]
  refine zm_J_run zm_T 4 (pc' := 136) (lv' := [(5, .int (nI m)), (4, .int (nI n)), (0, .ref 12), (2, .int (nI k))]) (st' := [.int (nI m), .int (nI n), .int (nI k), .ref 12]) (G' := (zr_H C ex sl s a)) rfl ?_
  refine zm_J_V (a := 12) (av := [.int (nI k), .int (nI n), .int (nI m)]) (rest := []) (zm_T.1 92 136 _ rfl).1 zc_92_136 rfl (Nat.le_of_ble_eq_true rfl) (Nat.le_of_ble_eq_true rfl) (zr_c hr) (zr_s hr) (kk) ?_ ?_
  rotate_left
  · intro x G' h; exact nomatch h.1
  intro v G' h
  obtain ⟨h1, s', a', rfl, hL⟩ := h
  cases Sum.inl.inj h1
  show zm_J N _ 92 139 [(5, .int (nI m)), (4, .int (nI n)), (0, .ref 12), (2, .int (nI k))] [] (zr_H C ex sl s' a') _
  exact zm_J_fin zm_T rfl rfl ⟨rfl, _, _, rfl, hL⟩
end ZRL

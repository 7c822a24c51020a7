/-! REMOVE AND COUNT WITH OTHER NUMBERS; THE LAW WHOLE -/
theorem zm_J_sw {N : zm_N} {d mi pc t qa qb : Nat} {qn : Int} {dflt lo hi o : Int} {offs : Array Int} {x : Int32} {lv : zm_L} {r : List Value} {G : zm_H} {Q : zm_O → zm_H → Prop} (hq : zm_cd mi pc = some (.tableswitch dflt lo hi offs, qa, qb, qn)) (ho : zm_toff dflt lo hi offs x = some o) (ht : zm_tgt pc o = some t) (k : zm_J N d mi t lv r G Q) : zm_J N d mi pc lv (.int x :: r) G Q := by
  refine zm_stepq_ok zm_T (zm_T.1 mi pc _ hq) (s' := (t, lv, r, G)) ?_ k
  have e : zm_br zm_no (.tableswitch dflt lo hi offs) pc (.int x :: r) = some (t, r) := by
    show zm_sw (.int x :: r) pc (zm_toff dflt lo hi offs) = some (t, r)
    unfold zm_sw
    simp only [ho, ht]
  show (match zm_br zm_no (.tableswitch dflt lo hi offs) pc (.int x :: r) with
    | some y => some (y.1, lv, y.2, G)
    | none => none) = some (t, lv, r, G)
  rw [e]
theorem zl_lt {x : Int32} (h : x < 0) : x.toInt < 0 := by
  have := Int32.lt_iff_toInt_lt.mp h
  simpa using this
theorem zl_gt5 {x : Int32} (h : 5 < x) : ¬ x < 6 := by
  intro h2
  have h1 := Int32.lt_iff_toInt_lt.mp h
  have h3 := Int32.lt_iff_toInt_lt.mp h2
  have e5 : (5 : Int32).toInt = 5 := by decide +kernel
  have e6 : (6 : Int32).toInt = 6 := by decide +kernel
  omega
theorem zl_ge6 {x : Int32} (h : nI 6 ≤ x) : 5 < x := by
  have h1 := Int32.le_iff_toInt_le.mp h
  have e5 : (5 : Int32).toInt = 5 := by decide +kernel
  have e6 : (nI 6).toInt = 6 := by decide +kernel
  apply Int32.lt_iff_toInt_lt.mpr
  omega
theorem zl_ge8 {x : Int32} (h : nI 8 ≤ x) : 7 < x.toInt := by
  have h1 := Int32.le_iff_toInt_le.mp h
  have e8 : (nI 8).toInt = 8 := by decide +kernel
  omega
set_option maxHeartbeats 40000000 in
set_option maxRecDepth 100000 in
theorem zl_mc {xs : Nat → Int32} (v : Int32) (N : zm_N) (d : Nat) (hd : 1 ≤ d) {Q : zm_O → zm_H → Prop} (kk : zm_J N d 107 34 [(3, .int 6), (2, .int 0), (0, .ref 12), (1, .int v)] [.int v] (zg_0 xs) Q) : zm_J N d 107 0 [(0, .ref 12), (1, .int v)] [] (zg_0 xs) Q := by
  obtain ⟨d, rfl⟩ : ∃ e, d = e + 1 := ⟨d - 1, by omega⟩
  refine zm_J_run zm_T 8 (pc' := 10) (lv' := [(3, .int 0), (2, .int 0), (0, .ref 12), (1, .int v)]) (st' := [.int 0]) (G' := (zg_0 xs)) rfl ?_
  refine zm_J_run zm_T 1 (pc' := 12) (lv' := [(3, .int 0), (2, .int 0), (0, .ref 12), (1, .int v)]) (st' := [.int 6, .int 0]) (G' := (zg_0 xs)) rfl ?_
  refine zm_J_run zm_T 1 (pc' := if (6 : Int32) ≤ 0 then 33 else 15) (lv' := [(3, .int 0), (2, .int 0), (0, .ref 12), (1, .int v)]) (st' := []) (G' := (zg_0 xs)) rfl ?_
  rw [if_neg (show ¬ ((6 : Int32) ≤ 0) by decide +kernel)]
  refine zm_J_run zm_T 8 (pc' := 10) (lv' := [(3, .int 1), (2, .int 0), (0, .ref 12), (1, .int v)]) (st' := [.int 1]) (G' := (zg_0 xs)) rfl ?_
  refine zm_J_run zm_T 1 (pc' := 12) (lv' := [(3, .int 1), (2, .int 0), (0, .ref 12), (1, .int v)]) (st' := [.int 6, .int 1]) (G' := (zg_0 xs)) rfl ?_
  refine zm_J_run zm_T 1 (pc' := if (6 : Int32) ≤ 1 then 33 else 15) (lv' := [(3, .int 1), (2, .int 0), (0, .ref 12), (1, .int v)]) (st' := []) (G' := (zg_0 xs)) rfl ?_
  rw [if_neg (show ¬ ((6 : Int32) ≤ 1) by decide +kernel)]
  refine zm_J_run zm_T 8 (pc' := 10) (lv' := [(3, .int 2), (2, .int 0), (0, .ref 12), (1, .int v)]) (st' := [.int 2]) (G' := (zg_0 xs)) rfl ?_
  refine zm_J_run zm_T 1 (pc' := 12) (lv' := [(3, .int 2), (2, .int 0), (0, .ref 12), (1, .int v)]) (st' := [.int 6, .int 2]) (G' := (zg_0 xs)) rfl ?_
  refine zm_J_run zm_T 1 (pc' := if (6 : Int32) ≤ 2 then 33 else 15) (lv' := [(3, .int 2), (2, .int 0), (0, .ref 12), (1, .int v)]) (st' := []) (G' := (zg_0 xs)) rfl ?_
  rw [if_neg (show ¬ ((6 : Int32) ≤ 2) by decide +kernel)]
  refine zm_J_run zm_T 8 (pc' := 10) (lv' := [(3, .int 3), (2, .int 0), (0, .ref 12), (1, .int v)]) (st' := [.int 3]) (G' := (zg_0 xs)) rfl ?_
  refine zm_J_run zm_T 1 (pc' := 12) (lv' := [(3, .int 3), (2, .int 0), (0, .ref 12), (1, .int v)]) (st' := [.int 6, .int 3]) (G' := (zg_0 xs)) rfl ?_
  refine zm_J_run zm_T 1 (pc' := if (6 : Int32) ≤ 3 then 33 else 15) (lv' := [(3, .int 3), (2, .int 0), (0, .ref 12), (1, .int v)]) (st' := []) (G' := (zg_0 xs)) rfl ?_
  rw [if_neg (show ¬ ((6 : Int32) ≤ 3) by decide +kernel)]
  refine zm_J_run zm_T 8 (pc' := 10) (lv' := [(3, .int 4), (2, .int 0), (0, .ref 12), (1, .int v)]) (st' := [.int 4]) (G' := (zg_0 xs)) rfl ?_
  refine zm_J_run zm_T 1 (pc' := 12) (lv' := [(3, .int 4), (2, .int 0), (0, .ref 12), (1, .int v)]) (st' := [.int 6, .int 4]) (G' := (zg_0 xs)) rfl ?_
  refine zm_J_run zm_T 1 (pc' := if (6 : Int32) ≤ 4 then 33 else 15) (lv' := [(3, .int 4), (2, .int 0), (0, .ref 12), (1, .int v)]) (st' := []) (G' := (zg_0 xs)) rfl ?_
  rw [if_neg (show ¬ ((6 : Int32) ≤ 4) by decide +kernel)]
  refine zm_J_run zm_T 8 (pc' := 10) (lv' := [(3, .int 5), (2, .int 0), (0, .ref 12), (1, .int v)]) (st' := [.int 5]) (G' := (zg_0 xs)) rfl ?_
  refine zm_J_run zm_T 1 (pc' := 12) (lv' := [(3, .int 5), (2, .int 0), (0, .ref 12), (1, .int v)]) (st' := [.int 6, .int 5]) (G' := (zg_0 xs)) rfl ?_
  refine zm_J_run zm_T 1 (pc' := if (6 : Int32) ≤ 5 then 33 else 15) (lv' := [(3, .int 5), (2, .int 0), (0, .ref 12), (1, .int v)]) (st' := []) (G' := (zg_0 xs)) rfl ?_
  rw [if_neg (show ¬ ((6 : Int32) ≤ 5) by decide +kernel)]
  refine zm_J_run zm_T 8 (pc' := 10) (lv' := [(3, .int 6), (2, .int 0), (0, .ref 12), (1, .int v)]) (st' := [.int 6]) (G' := (zg_0 xs)) rfl ?_
  refine zm_J_run zm_T 1 (pc' := 12) (lv' := [(3, .int 6), (2, .int 0), (0, .ref 12), (1, .int v)]) (st' := [.int 6, .int 6]) (G' := (zg_0 xs)) rfl ?_
  refine zm_J_run zm_T 1 (pc' := if (6 : Int32) ≤ 6 then 33 else 15) (lv' := [(3, .int 6), (2, .int 0), (0, .ref 12), (1, .int v)]) (st' := []) (G' := (zg_0 xs)) rfl ?_
  rw [if_pos (show (6 : Int32) ≤ 6 by decide +kernel)]
  refine zm_J_run zm_T 1 (pc' := 34) (lv' := [(3, .int 6), (2, .int 0), (0, .ref 12), (1, .int v)]) (st' := [.int v]) (G' := (zg_0 xs)) rfl ?_
  exact kk

set_option maxHeartbeats 40000000 in
set_option maxRecDepth 100000 in
/-- NeedMachine.count -/
theorem zk0_538 {xs : Nat → Int32} (N : zm_N) (d : Nat) (hd : 1 ≤ d) : zm_J N d 9 0 [(0, .ref 2), (1, .int 0)] [] (zg_0 xs) (fun z G => z = .inl (some (.int (-1))) ∧ G = (zg_0 xs)) := by
  obtain ⟨d, rfl⟩ : ∃ e, d = e + 1 := ⟨d - 1, by omega⟩
  refine zm_J_run zm_T 5 (pc' := 55) (lv' := [(0, .ref 2), (1, .int 0)]) (st' := [.int (-1)]) (G' := (zg_0 xs)) rfl ?_
  exact zm_J_fin zm_T rfl rfl ⟨rfl, rfl⟩


set_option maxHeartbeats 40000000 in
set_option maxRecDepth 100000 in
/-- NeedMachine.count -/
theorem zk1_539 {xs : Nat → Int32} (N : zm_N) (d : Nat) (hd : 1 ≤ d) : zm_J N d 9 0 [(0, .ref 2), (1, .int 1)] [] (zg_0 xs) (fun z G => z = .inl (some (.int 0)) ∧ G = (zg_0 xs)) := by
  obtain ⟨d, rfl⟩ : ∃ e, d = e + 1 := ⟨d - 1, by omega⟩
  refine zm_J_run zm_T 5 (pc' := 63) (lv' := [(0, .ref 2), (1, .int 1)]) (st' := [.int 0]) (G' := (zg_0 xs)) rfl ?_
  exact zm_J_fin zm_T rfl rfl ⟨rfl, rfl⟩


set_option maxHeartbeats 40000000 in
set_option maxRecDepth 100000 in
/-- NeedMachine.countDefinitions -/
theorem zk2_540 {xs : Nat → Int32} (N : zm_N) (d : Nat) (hd : 1 ≤ d) : zm_J N d 10 0 [(0, .ref 2)] [] (zg_0 xs) (fun z G => z = .inl (some (.int 0)) ∧ G = (zg_0 xs)) := by
  obtain ⟨d, rfl⟩ : ∃ e, d = e + 1 := ⟨d - 1, by omega⟩
  refine zm_J_run zm_T 8 (pc' := 10) (lv' := [(3, .int 6), (2, .ref 11), (1, .int 0), (0, .ref 2)]) (st' := []) (G' := (zg_0 xs)) rfl ?_
  refine zm_J_run zm_T 4 (pc' := 16) (lv' := [(4, .int 0), (3, .int 6), (2, .ref 11), (1, .int 0), (0, .ref 2)]) (st' := [.int 6, .int 0]) (G' := (zg_0 xs)) rfl ?_
  refine zm_J_run zm_T 1 (pc' := if (6 : Int32) ≤ 0 then 39 else 19) (lv' := [(4, .int 0), (3, .int 6), (2, .ref 11), (1, .int 0), (0, .ref 2)]) (st' := []) (G' := (zg_0 xs)) rfl ?_
  rw [if_neg (show ¬ ((6 : Int32) ≤ 0) by decide +kernel)]
  refine zm_J_run zm_T 8 (pc' := 13) (lv' := [(4, .int 1), (5, .null), (3, .int 6), (2, .ref 11), (1, .int 0), (0, .ref 2)]) (st' := []) (G' := (zg_0 xs)) rfl ?_
  refine zm_J_run zm_T 2 (pc' := 16) (lv' := [(4, .int 1), (5, .null), (3, .int 6), (2, .ref 11), (1, .int 0), (0, .ref 2)]) (st' := [.int 6, .int 1]) (G' := (zg_0 xs)) rfl ?_
  refine zm_J_run zm_T 1 (pc' := if (6 : Int32) ≤ 1 then 39 else 19) (lv' := [(4, .int 1), (5, .null), (3, .int 6), (2, .ref 11), (1, .int 0), (0, .ref 2)]) (st' := []) (G' := (zg_0 xs)) rfl ?_
  rw [if_neg (show ¬ ((6 : Int32) ≤ 1) by decide +kernel)]
  refine zm_J_run zm_T 8 (pc' := 13) (lv' := [(4, .int 2), (5, .null), (3, .int 6), (2, .ref 11), (1, .int 0), (0, .ref 2)]) (st' := []) (G' := (zg_0 xs)) rfl ?_
  refine zm_J_run zm_T 2 (pc' := 16) (lv' := [(4, .int 2), (5, .null), (3, .int 6), (2, .ref 11), (1, .int 0), (0, .ref 2)]) (st' := [.int 6, .int 2]) (G' := (zg_0 xs)) rfl ?_
  refine zm_J_run zm_T 1 (pc' := if (6 : Int32) ≤ 2 then 39 else 19) (lv' := [(4, .int 2), (5, .null), (3, .int 6), (2, .ref 11), (1, .int 0), (0, .ref 2)]) (st' := []) (G' := (zg_0 xs)) rfl ?_
  rw [if_neg (show ¬ ((6 : Int32) ≤ 2) by decide +kernel)]
  refine zm_J_run zm_T 8 (pc' := 13) (lv' := [(4, .int 3), (5, .null), (3, .int 6), (2, .ref 11), (1, .int 0), (0, .ref 2)]) (st' := []) (G' := (zg_0 xs)) rfl ?_
  refine zm_J_run zm_T 2 (pc' := 16) (lv' := [(4, .int 3), (5, .null), (3, .int 6), (2, .ref 11), (1, .int 0), (0, .ref 2)]) (st' := [.int 6, .int 3]) (G' := (zg_0 xs)) rfl ?_
  refine zm_J_run zm_T 1 (pc' := if (6 : Int32) ≤ 3 then 39 else 19) (lv' := [(4, .int 3), (5, .null), (3, .int 6), (2, .ref 11), (1, .int 0), (0, .ref 2)]) (st' := []) (G' := (zg_0 xs)) rfl ?_
  rw [if_neg (show ¬ ((6 : Int32) ≤ 3) by decide +kernel)]
  refine zm_J_run zm_T 8 (pc' := 13) (lv' := [(4, .int 4), (5, .null), (3, .int 6), (2, .ref 11), (1, .int 0), (0, .ref 2)]) (st' := []) (G' := (zg_0 xs)) rfl ?_
  refine zm_J_run zm_T 2 (pc' := 16) (lv' := [(4, .int 4), (5, .null), (3, .int 6), (2, .ref 11), (1, .int 0), (0, .ref 2)]) (st' := [.int 6, .int 4]) (G' := (zg_0 xs)) rfl ?_
  refine zm_J_run zm_T 1 (pc' := if (6 : Int32) ≤ 4 then 39 else 19) (lv' := [(4, .int 4), (5, .null), (3, .int 6), (2, .ref 11), (1, .int 0), (0, .ref 2)]) (st' := []) (G' := (zg_0 xs)) rfl ?_
  rw [if_neg (show ¬ ((6 : Int32) ≤ 4) by decide +kernel)]
  refine zm_J_run zm_T 8 (pc' := 13) (lv' := [(4, .int 5), (5, .null), (3, .int 6), (2, .ref 11), (1, .int 0), (0, .ref 2)]) (st' := []) (G' := (zg_0 xs)) rfl ?_
  refine zm_J_run zm_T 2 (pc' := 16) (lv' := [(4, .int 5), (5, .null), (3, .int 6), (2, .ref 11), (1, .int 0), (0, .ref 2)]) (st' := [.int 6, .int 5]) (G' := (zg_0 xs)) rfl ?_
  refine zm_J_run zm_T 1 (pc' := if (6 : Int32) ≤ 5 then 39 else 19) (lv' := [(4, .int 5), (5, .null), (3, .int 6), (2, .ref 11), (1, .int 0), (0, .ref 2)]) (st' := []) (G' := (zg_0 xs)) rfl ?_
  rw [if_neg (show ¬ ((6 : Int32) ≤ 5) by decide +kernel)]
  refine zm_J_run zm_T 8 (pc' := 13) (lv' := [(4, .int 6), (5, .null), (3, .int 6), (2, .ref 11), (1, .int 0), (0, .ref 2)]) (st' := []) (G' := (zg_0 xs)) rfl ?_
  refine zm_J_run zm_T 2 (pc' := 16) (lv' := [(4, .int 6), (5, .null), (3, .int 6), (2, .ref 11), (1, .int 0), (0, .ref 2)]) (st' := [.int 6, .int 6]) (G' := (zg_0 xs)) rfl ?_
  refine zm_J_run zm_T 1 (pc' := if (6 : Int32) ≤ 6 then 39 else 19) (lv' := [(4, .int 6), (5, .null), (3, .int 6), (2, .ref 11), (1, .int 0), (0, .ref 2)]) (st' := []) (G' := (zg_0 xs)) rfl ?_
  rw [if_pos (show (6 : Int32) ≤ 6 by decide +kernel)]
  refine zm_J_run zm_T 1 (pc' := 40) (lv' := [(4, .int 6), (5, .null), (3, .int 6), (2, .ref 11), (1, .int 0), (0, .ref 2)]) (st' := [.int 0]) (G' := (zg_0 xs)) rfl ?_
  exact zm_J_fin zm_T rfl rfl ⟨rfl, rfl⟩

set_option maxHeartbeats 40000000 in
set_option maxRecDepth 100000 in
/-- NeedMachine.count -/
theorem zk2_541 {xs : Nat → Int32} (N : zm_N) (d : Nat) (hd : 2 ≤ d) : zm_J N d 9 0 [(0, .ref 2), (1, .int 2)] [] (zg_0 xs) (fun z G => z = .inl (some (.int 0)) ∧ G = (zg_0 xs)) := by
  obtain ⟨d, rfl⟩ : ∃ e, d = e + 1 := ⟨d - 1, by omega⟩
  refine zm_J_run zm_T 3 (pc' := 65) (lv' := [(0, .ref 2), (1, .int 2)]) (st' := [.ref 2]) (G' := (zg_0 xs)) rfl ?_
  refine zm_J_V (a := 2) (av := []) (rest := []) (Q1 := fun z G => z = .inl (some (.int 0)) ∧ G = (zg_0 xs)) (zm_T.1 9 65 _ rfl).1 zc_9_65 rfl (Nat.le_of_ble_eq_true rfl) (Nat.le_of_ble_eq_true rfl) (Nat.le_of_ble_eq_true rfl) (Nat.le_of_ble_eq_true rfl) (zk2_540 N _ (by omega)) ?_ ?_
  rotate_left
  · intro x G' h; exact nomatch h.1
  intro v G' h
  obtain ⟨h1, rfl⟩ := h
  cases Sum.inl.inj h1
  show zm_J N _ 9 68 [(0, .ref 2), (1, .int 2)] [.int 0] (zg_0 xs) _
  exact zm_J_fin zm_T rfl rfl ⟨rfl, rfl⟩


set_option maxHeartbeats 40000000 in
set_option maxRecDepth 100000 in
/-- NeedMachine.count -/
theorem zk3_542 {xs : Nat → Int32} (N : zm_N) (d : Nat) (hd : 1 ≤ d) : zm_J N d 9 0 [(0, .ref 2), (1, .int 3)] [] (zg_0 xs) (fun z G => z = .inl (some (.int 0)) ∧ G = (zg_0 xs)) := by
  obtain ⟨d, rfl⟩ : ∃ e, d = e + 1 := ⟨d - 1, by omega⟩
  refine zm_J_run zm_T 4 (pc' := 73) (lv' := [(0, .ref 2), (1, .int 3)]) (st' := [.int 0]) (G' := (zg_0 xs)) rfl ?_
  exact zm_J_fin zm_T rfl rfl ⟨rfl, rfl⟩


set_option maxHeartbeats 40000000 in
set_option maxRecDepth 100000 in
/-- NeedMachine.count -/
theorem zk4_543 {xs : Nat → Int32} (N : zm_N) (d : Nat) (hd : 1 ≤ d) : zm_J N d 9 0 [(0, .ref 2), (1, .int 4)] [] (zg_0 xs) (fun z G => z = .inl (some (.int 0)) ∧ G = (zg_0 xs)) := by
  obtain ⟨d, rfl⟩ : ∃ e, d = e + 1 := ⟨d - 1, by omega⟩
  refine zm_J_run zm_T 4 (pc' := 78) (lv' := [(0, .ref 2), (1, .int 4)]) (st' := [.int 0]) (G' := (zg_0 xs)) rfl ?_
  exact zm_J_fin zm_T rfl rfl ⟨rfl, rfl⟩


set_option maxHeartbeats 40000000 in
set_option maxRecDepth 100000 in
/-- NeedMachine.count -/
theorem zk5_544 {xs : Nat → Int32} (N : zm_N) (d : Nat) (hd : 1 ≤ d) : zm_J N d 9 0 [(0, .ref 2), (1, .int 5)] [] (zg_0 xs) (fun z G => z = .inl (some (.int 0)) ∧ G = (zg_0 xs)) := by
  obtain ⟨d, rfl⟩ : ∃ e, d = e + 1 := ⟨d - 1, by omega⟩
  refine zm_J_run zm_T 4 (pc' := 83) (lv' := [(0, .ref 2), (1, .int 5)]) (st' := [.int 0]) (G' := (zg_0 xs)) rfl ?_
  exact zm_J_fin zm_T rfl rfl ⟨rfl, rfl⟩


set_option maxHeartbeats 40000000 in
set_option maxRecDepth 100000 in
/-- NeedMachine.count -/
theorem zk6_545 {xs : Nat → Int32} (N : zm_N) (d : Nat) (hd : 1 ≤ d) : zm_J N d 9 0 [(0, .ref 2), (1, .int 6)] [] (zg_0 xs) (fun z G => z = .inl (some (.int 0)) ∧ G = (zg_0 xs)) := by
  obtain ⟨d, rfl⟩ : ∃ e, d = e + 1 := ⟨d - 1, by omega⟩
  refine zm_J_run zm_T 4 (pc' := 88) (lv' := [(0, .ref 2), (1, .int 6)]) (st' := [.int 0]) (G' := (zg_0 xs)) rfl ?_
  exact zm_J_fin zm_T rfl rfl ⟨rfl, rfl⟩


set_option maxHeartbeats 40000000 in
set_option maxRecDepth 100000 in
/-- NeedMachine.count -/
theorem zk7_546 {xs : Nat → Int32} (N : zm_N) (d : Nat) (hd : 1 ≤ d) : zm_J N d 9 0 [(0, .ref 2), (1, .int 7)] [] (zg_0 xs) (fun z G => z = .inl (some (.int 0)) ∧ G = (zg_0 xs)) := by
  obtain ⟨d, rfl⟩ : ∃ e, d = e + 1 := ⟨d - 1, by omega⟩
  refine zm_J_run zm_T 4 (pc' := 93) (lv' := [(0, .ref 2), (1, .int 7)]) (st' := [.int 0]) (G' := (zg_0 xs)) rfl ?_
  exact zm_J_fin zm_T rfl rfl ⟨rfl, rfl⟩


set_option maxHeartbeats 40000000 in
set_option maxRecDepth 100000 in
theorem zl_ms0 {xs : Nat → Int32} (N : zm_N) (d : Nat) (hd : 1 ≤ d) : zm_J N d 107 34 [(3, .int 6), (2, .int 0), (0, .ref 12), (1, .int 0)] [.int 0] (zg_0 xs) (fun z G => z = .inl (some (.int (-1))) ∧ G = (zg_0 xs)) := by
  obtain ⟨d, rfl⟩ : ∃ e, d = e + 1 := ⟨d - 1, by omega⟩
  refine zm_J_run zm_T 3 (pc' := 84) (lv' := [(3, .int 6), (2, .int 0), (0, .ref 12), (1, .int 0)]) (st' := [.int (-1)]) (G' := (zg_0 xs)) rfl ?_
  exact zm_J_fin zm_T rfl rfl ⟨rfl, rfl⟩

set_option maxHeartbeats 40000000 in
set_option maxRecDepth 100000 in
theorem zl_ms1 {xs : Nat → Int32} (N : zm_N) (d : Nat) (hd : 1 ≤ d) : zm_J N d 107 34 [(3, .int 6), (2, .int 0), (0, .ref 12), (1, .int 1)] [.int 1] (zg_0 xs) (fun z G => z = .inl (some (.int 0)) ∧ G = (zg_0 xs)) := by
  obtain ⟨d, rfl⟩ : ∃ e, d = e + 1 := ⟨d - 1, by omega⟩
  refine zm_J_run zm_T 3 (pc' := 89) (lv' := [(3, .int 6), (2, .int 0), (0, .ref 12), (1, .int 1)]) (st' := [.int 0]) (G' := (zg_0 xs)) rfl ?_
  exact zm_J_fin zm_T rfl rfl ⟨rfl, rfl⟩

set_option maxHeartbeats 40000000 in
set_option maxRecDepth 100000 in
theorem zl_ms2 {xs : Nat → Int32} (N : zm_N) (d : Nat) (hd : 1 ≤ d) : zm_J N d 107 34 [(3, .int 6), (2, .int 0), (0, .ref 12), (1, .int 2)] [.int 2] (zg_0 xs) (fun z G => z = .inl (some (.int 0)) ∧ G = (zg_0 xs)) := by
  obtain ⟨d, rfl⟩ : ∃ e, d = e + 1 := ⟨d - 1, by omega⟩
  refine zm_J_run zm_T 2 (pc' := 91) (lv' := [(3, .int 6), (2, .int 0), (0, .ref 12), (1, .int 2)]) (st' := [.int 0]) (G' := (zg_0 xs)) rfl ?_
  exact zm_J_fin zm_T rfl rfl ⟨rfl, rfl⟩

set_option maxHeartbeats 40000000 in
set_option maxRecDepth 100000 in
theorem zl_ms3 {xs : Nat → Int32} (N : zm_N) (d : Nat) (hd : 1 ≤ d) : zm_J N d 107 34 [(3, .int 6), (2, .int 0), (0, .ref 12), (1, .int 3)] [.int 3] (zg_0 xs) (fun z G => z = .inl (some (.int 0)) ∧ G = (zg_0 xs)) := by
  obtain ⟨d, rfl⟩ : ∃ e, d = e + 1 := ⟨d - 1, by omega⟩
  refine zm_J_run zm_T 3 (pc' := 96) (lv' := [(3, .int 6), (2, .int 0), (0, .ref 12), (1, .int 3)]) (st' := [.int 0]) (G' := (zg_0 xs)) rfl ?_
  exact zm_J_fin zm_T rfl rfl ⟨rfl, rfl⟩

set_option maxHeartbeats 40000000 in
set_option maxRecDepth 100000 in
theorem zl_ms4 {xs : Nat → Int32} (N : zm_N) (d : Nat) (hd : 1 ≤ d) : zm_J N d 107 34 [(3, .int 6), (2, .int 0), (0, .ref 12), (1, .int 4)] [.int 4] (zg_0 xs) (fun z G => z = .inl (some (.int 0)) ∧ G = (zg_0 xs)) := by
  obtain ⟨d, rfl⟩ : ∃ e, d = e + 1 := ⟨d - 1, by omega⟩
  refine zm_J_run zm_T 3 (pc' := 101) (lv' := [(3, .int 6), (2, .int 0), (0, .ref 12), (1, .int 4)]) (st' := [.int 0]) (G' := (zg_0 xs)) rfl ?_
  exact zm_J_fin zm_T rfl rfl ⟨rfl, rfl⟩

set_option maxHeartbeats 40000000 in
set_option maxRecDepth 100000 in
theorem zl_ms5 {xs : Nat → Int32} (N : zm_N) (d : Nat) (hd : 1 ≤ d) : zm_J N d 107 34 [(3, .int 6), (2, .int 0), (0, .ref 12), (1, .int 5)] [.int 5] (zg_0 xs) (fun z G => z = .inl (some (.int 0)) ∧ G = (zg_0 xs)) := by
  obtain ⟨d, rfl⟩ : ∃ e, d = e + 1 := ⟨d - 1, by omega⟩
  refine zm_J_run zm_T 3 (pc' := 106) (lv' := [(3, .int 6), (2, .int 0), (0, .ref 12), (1, .int 5)]) (st' := [.int 0]) (G' := (zg_0 xs)) rfl ?_
  exact zm_J_fin zm_T rfl rfl ⟨rfl, rfl⟩

set_option maxHeartbeats 40000000 in
set_option maxRecDepth 100000 in
theorem zl_ms6 {xs : Nat → Int32} (N : zm_N) (d : Nat) (hd : 1 ≤ d) : zm_J N d 107 34 [(3, .int 6), (2, .int 0), (0, .ref 12), (1, .int 6)] [.int 6] (zg_0 xs) (fun z G => z = .inl (some (.int 0)) ∧ G = (zg_0 xs)) := by
  obtain ⟨d, rfl⟩ : ∃ e, d = e + 1 := ⟨d - 1, by omega⟩
  refine zm_J_run zm_T 3 (pc' := 111) (lv' := [(3, .int 6), (2, .int 0), (0, .ref 12), (1, .int 6)]) (st' := [.int 0]) (G' := (zg_0 xs)) rfl ?_
  exact zm_J_fin zm_T rfl rfl ⟨rfl, rfl⟩

set_option maxHeartbeats 40000000 in
set_option maxRecDepth 100000 in
theorem zl_ms7 {xs : Nat → Int32} (N : zm_N) (d : Nat) (hd : 1 ≤ d) : zm_J N d 107 34 [(3, .int 6), (2, .int 0), (0, .ref 12), (1, .int 7)] [.int 7] (zg_0 xs) (fun z G => z = .inl (some (.int 0)) ∧ G = (zg_0 xs)) := by
  obtain ⟨d, rfl⟩ : ∃ e, d = e + 1 := ⟨d - 1, by omega⟩
  refine zm_J_run zm_T 3 (pc' := 116) (lv' := [(3, .int 6), (2, .int 0), (0, .ref 12), (1, .int 7)]) (st' := [.int 0]) (G' := (zg_0 xs)) rfl ?_
  exact zm_J_fin zm_T rfl rfl ⟨rfl, rfl⟩

def zg_8 (xs : Nat → Int32) : zm_H := ([.inl (0, 0, .inl xs), .inr (99, []), .inr (0, [.ref 3, .ref 6, .ref 11, .null, .int 0, .int 0, .int 0, .int 0, .int 0]), .inr (1, [.int 0, .int (-1), .ref 4, .ref 5, .int 0, .int 0, .int 0, .int 0]), .inl (1, 40, .inl fun _ => 0), .inl (1, 4, .inl fun _ => 0), .inr (2, [.ref 7, .ref 8, .ref 9, .ref 10, .int 0, .int 0, .int 0]), .inr (3, [.int 1, .int 0, .null, .null, .null]), .inr (4, [.ref 1, .int 0, .int 0]), .inr (4, [.ref 1, .int 0, .int 0]), .inr (4, [.ref 1, .int 0, .int 0]), .inl (4, 6, .inr (.inr (.inr (.inr fun _ => none)))), .inr (5, [.ref 13, .ref 14, .ref 15, .ref 16, .ref 17, .ref 18, .ref 19, .ref 20, .int 0, .int (-1), .int 0, .int 0, .int 0, .ref 21, .ref 22, .ref 23, .ref 24, .ref 25, .ref 26, .ref 27, .ref 28, .ref 29, .ref 30, .int 0, .int 0, .int 0, .ref 31, .ref 32, .ref 33, .ref 34, .ref 35, .int 0, .int 0, .int 0, .int 0, .int 0, .int 0, .int 0, .int 0, .int 0, .int 0, .int 0, .int 0, .int 0]), .inl (0, 40, .inl fun _ => 0), .inl (0, 21200, .inl fun _ => 0), .inl (0, 240, .inl fun _ => 0), .inl (0, 6, .inl fun _ => 0), .inl (0, 24, .inl fun _ => 0), .inl (0, 6, .inl fun _ => 0), .inl (0, 16, .inl fun _ => 0), .inl (3, 6, .inl fun _ => 0), .inl (0, 16400, .inl fun _ => 0), .inl (0, 16400, .inl fun _ => 0), .inl (0, 16400, .inl fun _ => 0), .inl (0, 16400, .inl fun _ => 0), .inl (0, 16400, .inl fun _ => 0), .inl (0, 16400, .inl fun _ => 0), .inl (0, 1700, .inl fun _ => 0), .inl (0, 1700, .inl fun _ => 0), .inl (0, 16400, .inl fun _ => 0), .inl (0, 16400, .inl fun _ => 0), .inl (0, 64, .inl fun _ => 0), .inl (0, 64, .inl fun _ => 0), .inl (0, 64, .inl fun _ => 0), .inl (0, 64, .inl fun _ => 0), .inl (0, 64, .inl fun _ => 0), .inl (2, 1, .inr (.inl fun _ => 0))], 156591)
set_option maxHeartbeats 40000000 in
set_option maxRecDepth 100000 in
theorem zl_ex0 {xs : Nat → Int32} (N : zm_N) (d : Nat) (hd : 1 ≤ d) : zm_J N d 0 23 [(4, .int 0), (3, .ref 36), (2, .ref 12), (1, .ref 2), (0, .ref 0)] [] (zg_8 xs) (fun z G => z = .inl (some (.int 1)) ∧ G = (zg_8 xs)) := by
  obtain ⟨d, rfl⟩ : ∃ e, d = e + 1 := ⟨d - 1, by omega⟩
  refine zm_J_run zm_T 5 (pc' := 29) (lv' := [(4, .int 0), (3, .ref 36), (2, .ref 12), (1, .ref 2), (0, .ref 0)]) (st' := [.int (0 - 3), .int 0]) (G' := (zg_8 xs)) rfl ?_
  refine zm_J_run zm_T 1 (pc' := if ((0 - 3) : Int32) < 0 then 459 else 32) (lv' := [(4, .int 0), (3, .ref 36), (2, .ref 12), (1, .ref 2), (0, .ref 0)]) (st' := []) (G' := (zg_8 xs)) rfl ?_
  rw [if_pos (show ((0 - 3) : Int32) < 0 by decide +kernel)]
  refine zm_J_run zm_T 1 (pc' := 460) (lv' := [(4, .int 0), (3, .ref 36), (2, .ref 12), (1, .ref 2), (0, .ref 0)]) (st' := [.int 1]) (G' := (zg_8 xs)) rfl ?_
  exact zm_J_fin zm_T rfl rfl ⟨rfl, rfl⟩

def zg_9 (xs : Nat → Int32) : zm_H := ([.inl (0, 1, .inl xs), .inr (99, []), .inr (0, [.ref 3, .ref 6, .ref 11, .null, .int 0, .int 0, .int 0, .int 0, .int 0]), .inr (1, [.int 0, .int (-1), .ref 4, .ref 5, .int 0, .int 0, .int 0, .int 0]), .inl (1, 40, .inl fun _ => 0), .inl (1, 4, .inl fun _ => 0), .inr (2, [.ref 7, .ref 8, .ref 9, .ref 10, .int 0, .int 0, .int 0]), .inr (3, [.int 1, .int 0, .null, .null, .null]), .inr (4, [.ref 1, .int 0, .int 0]), .inr (4, [.ref 1, .int 0, .int 0]), .inr (4, [.ref 1, .int 0, .int 0]), .inl (4, 6, .inr (.inr (.inr (.inr fun _ => none)))), .inr (5, [.ref 13, .ref 14, .ref 15, .ref 16, .ref 17, .ref 18, .ref 19, .ref 20, .int 0, .int (-1), .int 0, .int 0, .int 0, .ref 21, .ref 22, .ref 23, .ref 24, .ref 25, .ref 26, .ref 27, .ref 28, .ref 29, .ref 30, .int 0, .int 0, .int 0, .ref 31, .ref 32, .ref 33, .ref 34, .ref 35, .int 0, .int 0, .int 0, .int 0, .int 0, .int 0, .int 0, .int 0, .int 0, .int 0, .int 0, .int 0, .int 0]), .inl (0, 40, .inl fun _ => 0), .inl (0, 21200, .inl fun _ => 0), .inl (0, 240, .inl fun _ => 0), .inl (0, 6, .inl fun _ => 0), .inl (0, 24, .inl fun _ => 0), .inl (0, 6, .inl fun _ => 0), .inl (0, 16, .inl fun _ => 0), .inl (3, 6, .inl fun _ => 0), .inl (0, 16400, .inl fun _ => 0), .inl (0, 16400, .inl fun _ => 0), .inl (0, 16400, .inl fun _ => 0), .inl (0, 16400, .inl fun _ => 0), .inl (0, 16400, .inl fun _ => 0), .inl (0, 16400, .inl fun _ => 0), .inl (0, 1700, .inl fun _ => 0), .inl (0, 1700, .inl fun _ => 0), .inl (0, 16400, .inl fun _ => 0), .inl (0, 16400, .inl fun _ => 0), .inl (0, 64, .inl fun _ => 0), .inl (0, 64, .inl fun _ => 0), .inl (0, 64, .inl fun _ => 0), .inl (0, 64, .inl fun _ => 0), .inl (0, 64, .inl fun _ => 0), .inl (2, 1, .inr (.inl fun _ => 0))], 156591)
set_option maxHeartbeats 40000000 in
set_option maxRecDepth 100000 in
theorem zl_ex1 {xs : Nat → Int32} (N : zm_N) (d : Nat) (hd : 1 ≤ d) : zm_J N d 0 23 [(4, .int 0), (3, .ref 36), (2, .ref 12), (1, .ref 2), (0, .ref 0)] [] (zg_9 xs) (fun z G => z = .inl (some (.int 1)) ∧ G = (zg_9 xs)) := by
  obtain ⟨d, rfl⟩ : ∃ e, d = e + 1 := ⟨d - 1, by omega⟩
  refine zm_J_run zm_T 5 (pc' := 29) (lv' := [(4, .int 0), (3, .ref 36), (2, .ref 12), (1, .ref 2), (0, .ref 0)]) (st' := [.int (1 - 3), .int 0]) (G' := (zg_9 xs)) rfl ?_
  refine zm_J_run zm_T 1 (pc' := if ((1 - 3) : Int32) < 0 then 459 else 32) (lv' := [(4, .int 0), (3, .ref 36), (2, .ref 12), (1, .ref 2), (0, .ref 0)]) (st' := []) (G' := (zg_9 xs)) rfl ?_
  rw [if_pos (show ((1 - 3) : Int32) < 0 by decide +kernel)]
  refine zm_J_run zm_T 1 (pc' := 460) (lv' := [(4, .int 0), (3, .ref 36), (2, .ref 12), (1, .ref 2), (0, .ref 0)]) (st' := [.int 1]) (G' := (zg_9 xs)) rfl ?_
  exact zm_J_fin zm_T rfl rfl ⟨rfl, rfl⟩

def zg_10 (xs : Nat → Int32) : zm_H := ([.inl (0, 2, .inl xs), .inr (99, []), .inr (0, [.ref 3, .ref 6, .ref 11, .null, .int 0, .int 0, .int 0, .int 0, .int 0]), .inr (1, [.int 0, .int (-1), .ref 4, .ref 5, .int 0, .int 0, .int 0, .int 0]), .inl (1, 40, .inl fun _ => 0), .inl (1, 4, .inl fun _ => 0), .inr (2, [.ref 7, .ref 8, .ref 9, .ref 10, .int 0, .int 0, .int 0]), .inr (3, [.int 1, .int 0, .null, .null, .null]), .inr (4, [.ref 1, .int 0, .int 0]), .inr (4, [.ref 1, .int 0, .int 0]), .inr (4, [.ref 1, .int 0, .int 0]), .inl (4, 6, .inr (.inr (.inr (.inr fun _ => none)))), .inr (5, [.ref 13, .ref 14, .ref 15, .ref 16, .ref 17, .ref 18, .ref 19, .ref 20, .int 0, .int (-1), .int 0, .int 0, .int 0, .ref 21, .ref 22, .ref 23, .ref 24, .ref 25, .ref 26, .ref 27, .ref 28, .ref 29, .ref 30, .int 0, .int 0, .int 0, .ref 31, .ref 32, .ref 33, .ref 34, .ref 35, .int 0, .int 0, .int 0, .int 0, .int 0, .int 0, .int 0, .int 0, .int 0, .int 0, .int 0, .int 0, .int 0]), .inl (0, 40, .inl fun _ => 0), .inl (0, 21200, .inl fun _ => 0), .inl (0, 240, .inl fun _ => 0), .inl (0, 6, .inl fun _ => 0), .inl (0, 24, .inl fun _ => 0), .inl (0, 6, .inl fun _ => 0), .inl (0, 16, .inl fun _ => 0), .inl (3, 6, .inl fun _ => 0), .inl (0, 16400, .inl fun _ => 0), .inl (0, 16400, .inl fun _ => 0), .inl (0, 16400, .inl fun _ => 0), .inl (0, 16400, .inl fun _ => 0), .inl (0, 16400, .inl fun _ => 0), .inl (0, 16400, .inl fun _ => 0), .inl (0, 1700, .inl fun _ => 0), .inl (0, 1700, .inl fun _ => 0), .inl (0, 16400, .inl fun _ => 0), .inl (0, 16400, .inl fun _ => 0), .inl (0, 64, .inl fun _ => 0), .inl (0, 64, .inl fun _ => 0), .inl (0, 64, .inl fun _ => 0), .inl (0, 64, .inl fun _ => 0), .inl (0, 64, .inl fun _ => 0), .inl (2, 1, .inr (.inl fun _ => 0))], 156591)
set_option maxHeartbeats 40000000 in
set_option maxRecDepth 100000 in
theorem zl_ex2 {xs : Nat → Int32} (N : zm_N) (d : Nat) (hd : 1 ≤ d) : zm_J N d 0 23 [(4, .int 0), (3, .ref 36), (2, .ref 12), (1, .ref 2), (0, .ref 0)] [] (zg_10 xs) (fun z G => z = .inl (some (.int 1)) ∧ G = (zg_10 xs)) := by
  obtain ⟨d, rfl⟩ : ∃ e, d = e + 1 := ⟨d - 1, by omega⟩
  refine zm_J_run zm_T 5 (pc' := 29) (lv' := [(4, .int 0), (3, .ref 36), (2, .ref 12), (1, .ref 2), (0, .ref 0)]) (st' := [.int (2 - 3), .int 0]) (G' := (zg_10 xs)) rfl ?_
  refine zm_J_run zm_T 1 (pc' := if ((2 - 3) : Int32) < 0 then 459 else 32) (lv' := [(4, .int 0), (3, .ref 36), (2, .ref 12), (1, .ref 2), (0, .ref 0)]) (st' := []) (G' := (zg_10 xs)) rfl ?_
  rw [if_pos (show ((2 - 3) : Int32) < 0 by decide +kernel)]
  refine zm_J_run zm_T 1 (pc' := 460) (lv' := [(4, .int 0), (3, .ref 36), (2, .ref 12), (1, .ref 2), (0, .ref 0)]) (st' := [.int 1]) (G' := (zg_10 xs)) rfl ?_
  exact zm_J_fin zm_T rfl rfl ⟨rfl, rfl⟩

set_option maxHeartbeats 40000000 in
set_option maxRecDepth 100000 in
theorem zl_in {xs : Nat → Int32} (N : zm_N) (d : Nat) (hd : 1 ≤ d) {Q : zm_O → zm_H → Prop} (kk : zm_J N d 0 36 [(4, .int 0), (3, .ref 36), (2, .ref 12), (1, .ref 2), (0, .ref 0)] [.int (xs 0)] (zg_0 xs) Q) : zm_J N d 0 23 [(4, .int 0), (3, .ref 36), (2, .ref 12), (1, .ref 2), (0, .ref 0)] [] (zg_0 xs) Q := by
  obtain ⟨d, rfl⟩ : ∃ e, d = e + 1 := ⟨d - 1, by omega⟩
  refine zm_J_run zm_T 5 (pc' := 29) (lv' := [(4, .int 0), (3, .ref 36), (2, .ref 12), (1, .ref 2), (0, .ref 0)]) (st' := [.int (3 - 3), .int 0]) (G' := (zg_0 xs)) rfl ?_
  refine zm_J_run zm_T 1 (pc' := if ((3 - 3) : Int32) < 0 then 459 else 32) (lv' := [(4, .int 0), (3, .ref 36), (2, .ref 12), (1, .ref 2), (0, .ref 0)]) (st' := []) (G' := (zg_0 xs)) rfl ?_
  rw [if_neg (show ¬ (((3 - 3) : Int32) < 0) by decide +kernel)]
  refine zm_J_run zm_T 3 (pc' := 36) (lv' := [(4, .int 0), (3, .ref 36), (2, .ref 12), (1, .ref 2), (0, .ref 0)]) (st' := [.int (xs 0)]) (G' := (zg_0 xs)) rfl ?_
  exact kk

set_option maxRecDepth 100000 in
set_option maxHeartbeats 4000000 in
theorem zl_c0 {xs : Nat → Int32} (h : xs 1 = 0) (N : zm_N) (d : Nat) (hd : 12 ≤ d) : zm_J N d 0 39 [(4, .int 0), (3, .ref 36), (2, .ref 12), (1, .ref 2), (0, .ref 0)] [.int 7] (zg_0 xs) zl_Q := by
  obtain ⟨d, rfl⟩ : ∃ e, d = e + 1 := ⟨d - 1, by omega⟩
  refine zm_J_run zm_T 7 (pc' := 435) (lv' := [(4, .int 0), (3, .ref 36), (2, .ref 12), (1, .ref 2), (0, .ref 0)]) (st' := [.int (xs 1), .ref 2]) (G' := (zg_0 xs)) rfl ?_
  rw [h]
  refine zm_J_V (a := 2) (av := [.int 0]) (rest := []) (Q1 := fun z G' => z = .inl (some (.int (-1))) ∧ G' = (zg_0 xs)) (zm_T.1 0 435 _ rfl).1 zc_0_435 rfl (Nat.le_of_ble_eq_true rfl) (Nat.le_of_ble_eq_true rfl) (Nat.le_of_ble_eq_true rfl) (Nat.le_of_ble_eq_true rfl) (zk0_538 N d (by omega)) ?_ ?_
  rotate_left
  · intro x G' h; exact nomatch h.1
  intro w G' hw
  obtain ⟨h1, rfl⟩ := hw
  cases Sum.inl.inj h1
  refine zm_J_run zm_T 6 (pc' := 445) (lv' := [(4, .int 0), (3, .ref 36), (2, .ref 12), (1, .ref 2), (0, .ref 0)]) (st' := [.int (xs 1), .ref 12, .int (-1)]) (G' := (zg_0 xs)) rfl ?_
  rw [h]
  refine zm_J_V (a := 12) (av := [.int 0]) (rest := [.int (-1)]) (Q1 := fun z G' => z = .inl (some (.int (-1))) ∧ G' = (zg_0 xs)) (zm_T.1 0 445 _ rfl).1 zc_0_445 rfl (Nat.le_of_ble_eq_true rfl) (Nat.le_of_ble_eq_true rfl) (Nat.le_of_ble_eq_true rfl) (Nat.le_of_ble_eq_true rfl) (zl_mc 0 N d (by omega) (zl_ms0 N d (by omega))) ?_ ?_
  rotate_left
  · intro x G' h; exact nomatch h.1
  intro w G' hw
  obtain ⟨h1, rfl⟩ := hw
  cases Sum.inl.inj h1
  refine zm_J_run zm_T 1 (pc' := 453) (lv' := [(4, .int 0), (3, .ref 36), (2, .ref 12), (1, .ref 2), (0, .ref 0)]) (st' := []) (G' := (zg_0 xs)) rfl ?_
  refine zm_J_run zm_T 2 (pc' := 23) (lv' := [(4, .int 3), (3, .ref 36), (2, .ref 12), (1, .ref 2), (0, .ref 0)]) (st' := []) (G' := (zg_0 xs)) rfl ?_
  refine zm_J_run zm_T 5 (pc' := 29) (lv' := [(4, .int 3), (3, .ref 36), (2, .ref 12), (1, .ref 2), (0, .ref 0)]) (st' := [.int (3 - 3), .int 3]) (G' := (zg_0 xs)) rfl ?_
  refine zm_J_run zm_T 1 (pc' := if (3 - 3 : Int32) < 3 then 459 else 32) (lv' := [(4, .int 3), (3, .ref 36), (2, .ref 12), (1, .ref 2), (0, .ref 0)]) (st' := []) (G' := (zg_0 xs)) rfl ?_
  rw [if_pos (show (3 - 3 : Int32) < 3 by decide +kernel)]
  refine zm_J_run zm_T 1 (pc' := 460) (lv' := [(4, .int 3), (3, .ref 36), (2, .ref 12), (1, .ref 2), (0, .ref 0)]) (st' := [.int 1]) (G' := (zg_0 xs)) rfl ?_
  exact zm_J_fin zm_T rfl rfl ⟨rfl, Nat.le_of_ble_eq_true rfl, Nat.le_of_ble_eq_true rfl⟩
set_option maxRecDepth 100000 in
set_option maxHeartbeats 4000000 in
theorem zl_c1 {xs : Nat → Int32} (h : xs 1 = 1) (N : zm_N) (d : Nat) (hd : 12 ≤ d) : zm_J N d 0 39 [(4, .int 0), (3, .ref 36), (2, .ref 12), (1, .ref 2), (0, .ref 0)] [.int 7] (zg_0 xs) zl_Q := by
  obtain ⟨d, rfl⟩ : ∃ e, d = e + 1 := ⟨d - 1, by omega⟩
  refine zm_J_run zm_T 7 (pc' := 435) (lv' := [(4, .int 0), (3, .ref 36), (2, .ref 12), (1, .ref 2), (0, .ref 0)]) (st' := [.int (xs 1), .ref 2]) (G' := (zg_0 xs)) rfl ?_
  rw [h]
  refine zm_J_V (a := 2) (av := [.int 1]) (rest := []) (Q1 := fun z G' => z = .inl (some (.int 0)) ∧ G' = (zg_0 xs)) (zm_T.1 0 435 _ rfl).1 zc_0_435 rfl (Nat.le_of_ble_eq_true rfl) (Nat.le_of_ble_eq_true rfl) (Nat.le_of_ble_eq_true rfl) (Nat.le_of_ble_eq_true rfl) (zk1_539 N d (by omega)) ?_ ?_
  rotate_left
  · intro x G' h; exact nomatch h.1
  intro w G' hw
  obtain ⟨h1, rfl⟩ := hw
  cases Sum.inl.inj h1
  refine zm_J_run zm_T 6 (pc' := 445) (lv' := [(4, .int 0), (3, .ref 36), (2, .ref 12), (1, .ref 2), (0, .ref 0)]) (st' := [.int (xs 1), .ref 12, .int 0]) (G' := (zg_0 xs)) rfl ?_
  rw [h]
  refine zm_J_V (a := 12) (av := [.int 1]) (rest := [.int 0]) (Q1 := fun z G' => z = .inl (some (.int 0)) ∧ G' = (zg_0 xs)) (zm_T.1 0 445 _ rfl).1 zc_0_445 rfl (Nat.le_of_ble_eq_true rfl) (Nat.le_of_ble_eq_true rfl) (Nat.le_of_ble_eq_true rfl) (Nat.le_of_ble_eq_true rfl) (zl_mc 1 N d (by omega) (zl_ms1 N d (by omega))) ?_ ?_
  rotate_left
  · intro x G' h; exact nomatch h.1
  intro w G' hw
  obtain ⟨h1, rfl⟩ := hw
  cases Sum.inl.inj h1
  refine zm_J_run zm_T 1 (pc' := 453) (lv' := [(4, .int 0), (3, .ref 36), (2, .ref 12), (1, .ref 2), (0, .ref 0)]) (st' := []) (G' := (zg_0 xs)) rfl ?_
  refine zm_J_run zm_T 2 (pc' := 23) (lv' := [(4, .int 3), (3, .ref 36), (2, .ref 12), (1, .ref 2), (0, .ref 0)]) (st' := []) (G' := (zg_0 xs)) rfl ?_
  refine zm_J_run zm_T 5 (pc' := 29) (lv' := [(4, .int 3), (3, .ref 36), (2, .ref 12), (1, .ref 2), (0, .ref 0)]) (st' := [.int (3 - 3), .int 3]) (G' := (zg_0 xs)) rfl ?_
  refine zm_J_run zm_T 1 (pc' := if (3 - 3 : Int32) < 3 then 459 else 32) (lv' := [(4, .int 3), (3, .ref 36), (2, .ref 12), (1, .ref 2), (0, .ref 0)]) (st' := []) (G' := (zg_0 xs)) rfl ?_
  rw [if_pos (show (3 - 3 : Int32) < 3 by decide +kernel)]
  refine zm_J_run zm_T 1 (pc' := 460) (lv' := [(4, .int 3), (3, .ref 36), (2, .ref 12), (1, .ref 2), (0, .ref 0)]) (st' := [.int 1]) (G' := (zg_0 xs)) rfl ?_
  exact zm_J_fin zm_T rfl rfl ⟨rfl, Nat.le_of_ble_eq_true rfl, Nat.le_of_ble_eq_true rfl⟩
set_option maxRecDepth 100000 in
set_option maxHeartbeats 4000000 in
theorem zl_c2 {xs : Nat → Int32} (h : xs 1 = 2) (N : zm_N) (d : Nat) (hd : 12 ≤ d) : zm_J N d 0 39 [(4, .int 0), (3, .ref 36), (2, .ref 12), (1, .ref 2), (0, .ref 0)] [.int 7] (zg_0 xs) zl_Q := by
  obtain ⟨d, rfl⟩ : ∃ e, d = e + 1 := ⟨d - 1, by omega⟩
  refine zm_J_run zm_T 7 (pc' := 435) (lv' := [(4, .int 0), (3, .ref 36), (2, .ref 12), (1, .ref 2), (0, .ref 0)]) (st' := [.int (xs 1), .ref 2]) (G' := (zg_0 xs)) rfl ?_
  rw [h]
  refine zm_J_V (a := 2) (av := [.int 2]) (rest := []) (Q1 := fun z G' => z = .inl (some (.int 0)) ∧ G' = (zg_0 xs)) (zm_T.1 0 435 _ rfl).1 zc_0_435 rfl (Nat.le_of_ble_eq_true rfl) (Nat.le_of_ble_eq_true rfl) (Nat.le_of_ble_eq_true rfl) (Nat.le_of_ble_eq_true rfl) (zk2_541 N d (by omega)) ?_ ?_
  rotate_left
  · intro x G' h; exact nomatch h.1
  intro w G' hw
  obtain ⟨h1, rfl⟩ := hw
  cases Sum.inl.inj h1
  refine zm_J_run zm_T 6 (pc' := 445) (lv' := [(4, .int 0), (3, .ref 36), (2, .ref 12), (1, .ref 2), (0, .ref 0)]) (st' := [.int (xs 1), .ref 12, .int 0]) (G' := (zg_0 xs)) rfl ?_
  rw [h]
  refine zm_J_V (a := 12) (av := [.int 2]) (rest := [.int 0]) (Q1 := fun z G' => z = .inl (some (.int 0)) ∧ G' = (zg_0 xs)) (zm_T.1 0 445 _ rfl).1 zc_0_445 rfl (Nat.le_of_ble_eq_true rfl) (Nat.le_of_ble_eq_true rfl) (Nat.le_of_ble_eq_true rfl) (Nat.le_of_ble_eq_true rfl) (zl_mc 2 N d (by omega) (zl_ms2 N d (by omega))) ?_ ?_
  rotate_left
  · intro x G' h; exact nomatch h.1
  intro w G' hw
  obtain ⟨h1, rfl⟩ := hw
  cases Sum.inl.inj h1
  refine zm_J_run zm_T 1 (pc' := 453) (lv' := [(4, .int 0), (3, .ref 36), (2, .ref 12), (1, .ref 2), (0, .ref 0)]) (st' := []) (G' := (zg_0 xs)) rfl ?_
  refine zm_J_run zm_T 2 (pc' := 23) (lv' := [(4, .int 3), (3, .ref 36), (2, .ref 12), (1, .ref 2), (0, .ref 0)]) (st' := []) (G' := (zg_0 xs)) rfl ?_
  refine zm_J_run zm_T 5 (pc' := 29) (lv' := [(4, .int 3), (3, .ref 36), (2, .ref 12), (1, .ref 2), (0, .ref 0)]) (st' := [.int (3 - 3), .int 3]) (G' := (zg_0 xs)) rfl ?_
  refine zm_J_run zm_T 1 (pc' := if (3 - 3 : Int32) < 3 then 459 else 32) (lv' := [(4, .int 3), (3, .ref 36), (2, .ref 12), (1, .ref 2), (0, .ref 0)]) (st' := []) (G' := (zg_0 xs)) rfl ?_
  rw [if_pos (show (3 - 3 : Int32) < 3 by decide +kernel)]
  refine zm_J_run zm_T 1 (pc' := 460) (lv' := [(4, .int 3), (3, .ref 36), (2, .ref 12), (1, .ref 2), (0, .ref 0)]) (st' := [.int 1]) (G' := (zg_0 xs)) rfl ?_
  exact zm_J_fin zm_T rfl rfl ⟨rfl, Nat.le_of_ble_eq_true rfl, Nat.le_of_ble_eq_true rfl⟩
set_option maxRecDepth 100000 in
set_option maxHeartbeats 4000000 in
theorem zl_c3 {xs : Nat → Int32} (h : xs 1 = 3) (N : zm_N) (d : Nat) (hd : 12 ≤ d) : zm_J N d 0 39 [(4, .int 0), (3, .ref 36), (2, .ref 12), (1, .ref 2), (0, .ref 0)] [.int 7] (zg_0 xs) zl_Q := by
  obtain ⟨d, rfl⟩ : ∃ e, d = e + 1 := ⟨d - 1, by omega⟩
  refine zm_J_run zm_T 7 (pc' := 435) (lv' := [(4, .int 0), (3, .ref 36), (2, .ref 12), (1, .ref 2), (0, .ref 0)]) (st' := [.int (xs 1), .ref 2]) (G' := (zg_0 xs)) rfl ?_
  rw [h]
  refine zm_J_V (a := 2) (av := [.int 3]) (rest := []) (Q1 := fun z G' => z = .inl (some (.int 0)) ∧ G' = (zg_0 xs)) (zm_T.1 0 435 _ rfl).1 zc_0_435 rfl (Nat.le_of_ble_eq_true rfl) (Nat.le_of_ble_eq_true rfl) (Nat.le_of_ble_eq_true rfl) (Nat.le_of_ble_eq_true rfl) (zk3_542 N d (by omega)) ?_ ?_
  rotate_left
  · intro x G' h; exact nomatch h.1
  intro w G' hw
  obtain ⟨h1, rfl⟩ := hw
  cases Sum.inl.inj h1
  refine zm_J_run zm_T 6 (pc' := 445) (lv' := [(4, .int 0), (3, .ref 36), (2, .ref 12), (1, .ref 2), (0, .ref 0)]) (st' := [.int (xs 1), .ref 12, .int 0]) (G' := (zg_0 xs)) rfl ?_
  rw [h]
  refine zm_J_V (a := 12) (av := [.int 3]) (rest := [.int 0]) (Q1 := fun z G' => z = .inl (some (.int 0)) ∧ G' = (zg_0 xs)) (zm_T.1 0 445 _ rfl).1 zc_0_445 rfl (Nat.le_of_ble_eq_true rfl) (Nat.le_of_ble_eq_true rfl) (Nat.le_of_ble_eq_true rfl) (Nat.le_of_ble_eq_true rfl) (zl_mc 3 N d (by omega) (zl_ms3 N d (by omega))) ?_ ?_
  rotate_left
  · intro x G' h; exact nomatch h.1
  intro w G' hw
  obtain ⟨h1, rfl⟩ := hw
  cases Sum.inl.inj h1
  refine zm_J_run zm_T 1 (pc' := 453) (lv' := [(4, .int 0), (3, .ref 36), (2, .ref 12), (1, .ref 2), (0, .ref 0)]) (st' := []) (G' := (zg_0 xs)) rfl ?_
  refine zm_J_run zm_T 2 (pc' := 23) (lv' := [(4, .int 3), (3, .ref 36), (2, .ref 12), (1, .ref 2), (0, .ref 0)]) (st' := []) (G' := (zg_0 xs)) rfl ?_
  refine zm_J_run zm_T 5 (pc' := 29) (lv' := [(4, .int 3), (3, .ref 36), (2, .ref 12), (1, .ref 2), (0, .ref 0)]) (st' := [.int (3 - 3), .int 3]) (G' := (zg_0 xs)) rfl ?_
  refine zm_J_run zm_T 1 (pc' := if (3 - 3 : Int32) < 3 then 459 else 32) (lv' := [(4, .int 3), (3, .ref 36), (2, .ref 12), (1, .ref 2), (0, .ref 0)]) (st' := []) (G' := (zg_0 xs)) rfl ?_
  rw [if_pos (show (3 - 3 : Int32) < 3 by decide +kernel)]
  refine zm_J_run zm_T 1 (pc' := 460) (lv' := [(4, .int 3), (3, .ref 36), (2, .ref 12), (1, .ref 2), (0, .ref 0)]) (st' := [.int 1]) (G' := (zg_0 xs)) rfl ?_
  exact zm_J_fin zm_T rfl rfl ⟨rfl, Nat.le_of_ble_eq_true rfl, Nat.le_of_ble_eq_true rfl⟩
set_option maxRecDepth 100000 in
set_option maxHeartbeats 4000000 in
theorem zl_c4 {xs : Nat → Int32} (h : xs 1 = 4) (N : zm_N) (d : Nat) (hd : 12 ≤ d) : zm_J N d 0 39 [(4, .int 0), (3, .ref 36), (2, .ref 12), (1, .ref 2), (0, .ref 0)] [.int 7] (zg_0 xs) zl_Q := by
  obtain ⟨d, rfl⟩ : ∃ e, d = e + 1 := ⟨d - 1, by omega⟩
  refine zm_J_run zm_T 7 (pc' := 435) (lv' := [(4, .int 0), (3, .ref 36), (2, .ref 12), (1, .ref 2), (0, .ref 0)]) (st' := [.int (xs 1), .ref 2]) (G' := (zg_0 xs)) rfl ?_
  rw [h]
  refine zm_J_V (a := 2) (av := [.int 4]) (rest := []) (Q1 := fun z G' => z = .inl (some (.int 0)) ∧ G' = (zg_0 xs)) (zm_T.1 0 435 _ rfl).1 zc_0_435 rfl (Nat.le_of_ble_eq_true rfl) (Nat.le_of_ble_eq_true rfl) (Nat.le_of_ble_eq_true rfl) (Nat.le_of_ble_eq_true rfl) (zk4_543 N d (by omega)) ?_ ?_
  rotate_left
  · intro x G' h; exact nomatch h.1
  intro w G' hw
  obtain ⟨h1, rfl⟩ := hw
  cases Sum.inl.inj h1
  refine zm_J_run zm_T 6 (pc' := 445) (lv' := [(4, .int 0), (3, .ref 36), (2, .ref 12), (1, .ref 2), (0, .ref 0)]) (st' := [.int (xs 1), .ref 12, .int 0]) (G' := (zg_0 xs)) rfl ?_
  rw [h]
  refine zm_J_V (a := 12) (av := [.int 4]) (rest := [.int 0]) (Q1 := fun z G' => z = .inl (some (.int 0)) ∧ G' = (zg_0 xs)) (zm_T.1 0 445 _ rfl).1 zc_0_445 rfl (Nat.le_of_ble_eq_true rfl) (Nat.le_of_ble_eq_true rfl) (Nat.le_of_ble_eq_true rfl) (Nat.le_of_ble_eq_true rfl) (zl_mc 4 N d (by omega) (zl_ms4 N d (by omega))) ?_ ?_
  rotate_left
  · intro x G' h; exact nomatch h.1
  intro w G' hw
  obtain ⟨h1, rfl⟩ := hw
  cases Sum.inl.inj h1
  refine zm_J_run zm_T 1 (pc' := 453) (lv' := [(4, .int 0), (3, .ref 36), (2, .ref 12), (1, .ref 2), (0, .ref 0)]) (st' := []) (G' := (zg_0 xs)) rfl ?_
  refine zm_J_run zm_T 2 (pc' := 23) (lv' := [(4, .int 3), (3, .ref 36), (2, .ref 12), (1, .ref 2), (0, .ref 0)]) (st' := []) (G' := (zg_0 xs)) rfl ?_
  refine zm_J_run zm_T 5 (pc' := 29) (lv' := [(4, .int 3), (3, .ref 36), (2, .ref 12), (1, .ref 2), (0, .ref 0)]) (st' := [.int (3 - 3), .int 3]) (G' := (zg_0 xs)) rfl ?_
  refine zm_J_run zm_T 1 (pc' := if (3 - 3 : Int32) < 3 then 459 else 32) (lv' := [(4, .int 3), (3, .ref 36), (2, .ref 12), (1, .ref 2), (0, .ref 0)]) (st' := []) (G' := (zg_0 xs)) rfl ?_
  rw [if_pos (show (3 - 3 : Int32) < 3 by decide +kernel)]
  refine zm_J_run zm_T 1 (pc' := 460) (lv' := [(4, .int 3), (3, .ref 36), (2, .ref 12), (1, .ref 2), (0, .ref 0)]) (st' := [.int 1]) (G' := (zg_0 xs)) rfl ?_
  exact zm_J_fin zm_T rfl rfl ⟨rfl, Nat.le_of_ble_eq_true rfl, Nat.le_of_ble_eq_true rfl⟩
set_option maxRecDepth 100000 in
set_option maxHeartbeats 4000000 in
theorem zl_c5 {xs : Nat → Int32} (h : xs 1 = 5) (N : zm_N) (d : Nat) (hd : 12 ≤ d) : zm_J N d 0 39 [(4, .int 0), (3, .ref 36), (2, .ref 12), (1, .ref 2), (0, .ref 0)] [.int 7] (zg_0 xs) zl_Q := by
  obtain ⟨d, rfl⟩ : ∃ e, d = e + 1 := ⟨d - 1, by omega⟩
  refine zm_J_run zm_T 7 (pc' := 435) (lv' := [(4, .int 0), (3, .ref 36), (2, .ref 12), (1, .ref 2), (0, .ref 0)]) (st' := [.int (xs 1), .ref 2]) (G' := (zg_0 xs)) rfl ?_
  rw [h]
  refine zm_J_V (a := 2) (av := [.int 5]) (rest := []) (Q1 := fun z G' => z = .inl (some (.int 0)) ∧ G' = (zg_0 xs)) (zm_T.1 0 435 _ rfl).1 zc_0_435 rfl (Nat.le_of_ble_eq_true rfl) (Nat.le_of_ble_eq_true rfl) (Nat.le_of_ble_eq_true rfl) (Nat.le_of_ble_eq_true rfl) (zk5_544 N d (by omega)) ?_ ?_
  rotate_left
  · intro x G' h; exact nomatch h.1
  intro w G' hw
  obtain ⟨h1, rfl⟩ := hw
  cases Sum.inl.inj h1
  refine zm_J_run zm_T 6 (pc' := 445) (lv' := [(4, .int 0), (3, .ref 36), (2, .ref 12), (1, .ref 2), (0, .ref 0)]) (st' := [.int (xs 1), .ref 12, .int 0]) (G' := (zg_0 xs)) rfl ?_
  rw [h]
  refine zm_J_V (a := 12) (av := [.int 5]) (rest := [.int 0]) (Q1 := fun z G' => z = .inl (some (.int 0)) ∧ G' = (zg_0 xs)) (zm_T.1 0 445 _ rfl).1 zc_0_445 rfl (Nat.le_of_ble_eq_true rfl) (Nat.le_of_ble_eq_true rfl) (Nat.le_of_ble_eq_true rfl) (Nat.le_of_ble_eq_true rfl) (zl_mc 5 N d (by omega) (zl_ms5 N d (by omega))) ?_ ?_
  rotate_left
  · intro x G' h; exact nomatch h.1
  intro w G' hw
  obtain ⟨h1, rfl⟩ := hw
  cases Sum.inl.inj h1
  refine zm_J_run zm_T 1 (pc' := 453) (lv' := [(4, .int 0), (3, .ref 36), (2, .ref 12), (1, .ref 2), (0, .ref 0)]) (st' := []) (G' := (zg_0 xs)) rfl ?_
  refine zm_J_run zm_T 2 (pc' := 23) (lv' := [(4, .int 3), (3, .ref 36), (2, .ref 12), (1, .ref 2), (0, .ref 0)]) (st' := []) (G' := (zg_0 xs)) rfl ?_
  refine zm_J_run zm_T 5 (pc' := 29) (lv' := [(4, .int 3), (3, .ref 36), (2, .ref 12), (1, .ref 2), (0, .ref 0)]) (st' := [.int (3 - 3), .int 3]) (G' := (zg_0 xs)) rfl ?_
  refine zm_J_run zm_T 1 (pc' := if (3 - 3 : Int32) < 3 then 459 else 32) (lv' := [(4, .int 3), (3, .ref 36), (2, .ref 12), (1, .ref 2), (0, .ref 0)]) (st' := []) (G' := (zg_0 xs)) rfl ?_
  rw [if_pos (show (3 - 3 : Int32) < 3 by decide +kernel)]
  refine zm_J_run zm_T 1 (pc' := 460) (lv' := [(4, .int 3), (3, .ref 36), (2, .ref 12), (1, .ref 2), (0, .ref 0)]) (st' := [.int 1]) (G' := (zg_0 xs)) rfl ?_
  exact zm_J_fin zm_T rfl rfl ⟨rfl, Nat.le_of_ble_eq_true rfl, Nat.le_of_ble_eq_true rfl⟩
set_option maxRecDepth 100000 in
set_option maxHeartbeats 4000000 in
theorem zl_c6 {xs : Nat → Int32} (h : xs 1 = 6) (N : zm_N) (d : Nat) (hd : 12 ≤ d) : zm_J N d 0 39 [(4, .int 0), (3, .ref 36), (2, .ref 12), (1, .ref 2), (0, .ref 0)] [.int 7] (zg_0 xs) zl_Q := by
  obtain ⟨d, rfl⟩ : ∃ e, d = e + 1 := ⟨d - 1, by omega⟩
  refine zm_J_run zm_T 7 (pc' := 435) (lv' := [(4, .int 0), (3, .ref 36), (2, .ref 12), (1, .ref 2), (0, .ref 0)]) (st' := [.int (xs 1), .ref 2]) (G' := (zg_0 xs)) rfl ?_
  rw [h]
  refine zm_J_V (a := 2) (av := [.int 6]) (rest := []) (Q1 := fun z G' => z = .inl (some (.int 0)) ∧ G' = (zg_0 xs)) (zm_T.1 0 435 _ rfl).1 zc_0_435 rfl (Nat.le_of_ble_eq_true rfl) (Nat.le_of_ble_eq_true rfl) (Nat.le_of_ble_eq_true rfl) (Nat.le_of_ble_eq_true rfl) (zk6_545 N d (by omega)) ?_ ?_
  rotate_left
  · intro x G' h; exact nomatch h.1
  intro w G' hw
  obtain ⟨h1, rfl⟩ := hw
  cases Sum.inl.inj h1
  refine zm_J_run zm_T 6 (pc' := 445) (lv' := [(4, .int 0), (3, .ref 36), (2, .ref 12), (1, .ref 2), (0, .ref 0)]) (st' := [.int (xs 1), .ref 12, .int 0]) (G' := (zg_0 xs)) rfl ?_
  rw [h]
  refine zm_J_V (a := 12) (av := [.int 6]) (rest := [.int 0]) (Q1 := fun z G' => z = .inl (some (.int 0)) ∧ G' = (zg_0 xs)) (zm_T.1 0 445 _ rfl).1 zc_0_445 rfl (Nat.le_of_ble_eq_true rfl) (Nat.le_of_ble_eq_true rfl) (Nat.le_of_ble_eq_true rfl) (Nat.le_of_ble_eq_true rfl) (zl_mc 6 N d (by omega) (zl_ms6 N d (by omega))) ?_ ?_
  rotate_left
  · intro x G' h; exact nomatch h.1
  intro w G' hw
  obtain ⟨h1, rfl⟩ := hw
  cases Sum.inl.inj h1
  refine zm_J_run zm_T 1 (pc' := 453) (lv' := [(4, .int 0), (3, .ref 36), (2, .ref 12), (1, .ref 2), (0, .ref 0)]) (st' := []) (G' := (zg_0 xs)) rfl ?_
  refine zm_J_run zm_T 2 (pc' := 23) (lv' := [(4, .int 3), (3, .ref 36), (2, .ref 12), (1, .ref 2), (0, .ref 0)]) (st' := []) (G' := (zg_0 xs)) rfl ?_
  refine zm_J_run zm_T 5 (pc' := 29) (lv' := [(4, .int 3), (3, .ref 36), (2, .ref 12), (1, .ref 2), (0, .ref 0)]) (st' := [.int (3 - 3), .int 3]) (G' := (zg_0 xs)) rfl ?_
  refine zm_J_run zm_T 1 (pc' := if (3 - 3 : Int32) < 3 then 459 else 32) (lv' := [(4, .int 3), (3, .ref 36), (2, .ref 12), (1, .ref 2), (0, .ref 0)]) (st' := []) (G' := (zg_0 xs)) rfl ?_
  rw [if_pos (show (3 - 3 : Int32) < 3 by decide +kernel)]
  refine zm_J_run zm_T 1 (pc' := 460) (lv' := [(4, .int 3), (3, .ref 36), (2, .ref 12), (1, .ref 2), (0, .ref 0)]) (st' := [.int 1]) (G' := (zg_0 xs)) rfl ?_
  exact zm_J_fin zm_T rfl rfl ⟨rfl, Nat.le_of_ble_eq_true rfl, Nat.le_of_ble_eq_true rfl⟩
set_option maxRecDepth 100000 in
set_option maxHeartbeats 4000000 in
theorem zl_c7 {xs : Nat → Int32} (h : xs 1 = 7) (N : zm_N) (d : Nat) (hd : 12 ≤ d) : zm_J N d 0 39 [(4, .int 0), (3, .ref 36), (2, .ref 12), (1, .ref 2), (0, .ref 0)] [.int 7] (zg_0 xs) zl_Q := by
  obtain ⟨d, rfl⟩ : ∃ e, d = e + 1 := ⟨d - 1, by omega⟩
  refine zm_J_run zm_T 7 (pc' := 435) (lv' := [(4, .int 0), (3, .ref 36), (2, .ref 12), (1, .ref 2), (0, .ref 0)]) (st' := [.int (xs 1), .ref 2]) (G' := (zg_0 xs)) rfl ?_
  rw [h]
  refine zm_J_V (a := 2) (av := [.int 7]) (rest := []) (Q1 := fun z G' => z = .inl (some (.int 0)) ∧ G' = (zg_0 xs)) (zm_T.1 0 435 _ rfl).1 zc_0_435 rfl (Nat.le_of_ble_eq_true rfl) (Nat.le_of_ble_eq_true rfl) (Nat.le_of_ble_eq_true rfl) (Nat.le_of_ble_eq_true rfl) (zk7_546 N d (by omega)) ?_ ?_
  rotate_left
  · intro x G' h; exact nomatch h.1
  intro w G' hw
  obtain ⟨h1, rfl⟩ := hw
  cases Sum.inl.inj h1
  refine zm_J_run zm_T 6 (pc' := 445) (lv' := [(4, .int 0), (3, .ref 36), (2, .ref 12), (1, .ref 2), (0, .ref 0)]) (st' := [.int (xs 1), .ref 12, .int 0]) (G' := (zg_0 xs)) rfl ?_
  rw [h]
  refine zm_J_V (a := 12) (av := [.int 7]) (rest := [.int 0]) (Q1 := fun z G' => z = .inl (some (.int 0)) ∧ G' = (zg_0 xs)) (zm_T.1 0 445 _ rfl).1 zc_0_445 rfl (Nat.le_of_ble_eq_true rfl) (Nat.le_of_ble_eq_true rfl) (Nat.le_of_ble_eq_true rfl) (Nat.le_of_ble_eq_true rfl) (zl_mc 7 N d (by omega) (zl_ms7 N d (by omega))) ?_ ?_
  rotate_left
  · intro x G' h; exact nomatch h.1
  intro w G' hw
  obtain ⟨h1, rfl⟩ := hw
  cases Sum.inl.inj h1
  refine zm_J_run zm_T 1 (pc' := 453) (lv' := [(4, .int 0), (3, .ref 36), (2, .ref 12), (1, .ref 2), (0, .ref 0)]) (st' := []) (G' := (zg_0 xs)) rfl ?_
  refine zm_J_run zm_T 2 (pc' := 23) (lv' := [(4, .int 3), (3, .ref 36), (2, .ref 12), (1, .ref 2), (0, .ref 0)]) (st' := []) (G' := (zg_0 xs)) rfl ?_
  refine zm_J_run zm_T 5 (pc' := 29) (lv' := [(4, .int 3), (3, .ref 36), (2, .ref 12), (1, .ref 2), (0, .ref 0)]) (st' := [.int (3 - 3), .int 3]) (G' := (zg_0 xs)) rfl ?_
  refine zm_J_run zm_T 1 (pc' := if (3 - 3 : Int32) < 3 then 459 else 32) (lv' := [(4, .int 3), (3, .ref 36), (2, .ref 12), (1, .ref 2), (0, .ref 0)]) (st' := []) (G' := (zg_0 xs)) rfl ?_
  rw [if_pos (show (3 - 3 : Int32) < 3 by decide +kernel)]
  refine zm_J_run zm_T 1 (pc' := 460) (lv' := [(4, .int 3), (3, .ref 36), (2, .ref 12), (1, .ref 2), (0, .ref 0)]) (st' := [.int 1]) (G' := (zg_0 xs)) rfl ?_
  exact zm_J_fin zm_T rfl rfl ⟨rfl, Nat.le_of_ble_eq_true rfl, Nat.le_of_ble_eq_true rfl⟩

set_option maxRecDepth 100000 in
set_option maxHeartbeats 4000000 in
theorem zl_rx {xs : Nat → Int32} (N : zm_N) (d : Nat) (hd : 12 ≤ d) (h : xs 1 < 0 ∨ 5 < xs 1) : zm_J N d 0 39 [(4, .int 0), (3, .ref 36), (2, .ref 12), (1, .ref 2), (0, .ref 0)] [.int 6] (zp_H xs 0 (fun _ => 0) 0 0 (fun _ => 0) (fun _ => 0) [] 156591) zl_Q := by
  obtain ⟨d, rfl⟩ : ∃ e, d = e + 1 := ⟨d - 1, by omega⟩
  refine zm_J_run zm_T 7 (pc' := 399) (lv' := [(4, .int 0), (3, .ref 36), (2, .ref 12), (1, .ref 2), (0, .ref 0)]) (st' := [.int (xs 1), .ref 2]) (G' := zp_H xs 0 (fun _ => 0) 0 0 (fun _ => 0) (fun _ => 0) [] 156591) rfl ?_
  refine zm_J_S (av := [.ref 2, .int (xs 1)]) (rest := []) (Q1 := fun z G' => z = .inl (some (.int 1)) ∧ G' = zp_H xs 0 (fun _ => 0) 0 0 (fun _ => 0) (fun _ => 0) [.inr (10, [])] (156591 + 6)) (zm_T.1 0 399 _ rfl).1 zc_0_399 (Nat.le_of_ble_eq_true rfl) (Nat.le_of_ble_eq_true rfl) (Nat.le_of_succ_le (zp_len (by decide))) (Nat.le_of_ble_eq_true rfl) ?_ ?_ ?_
  · generalize xs 1 = v at h
    obtain ⟨d, rfl⟩ : ∃ e, d = e + 1 := ⟨d - 1, by omega⟩
    refine zm_J_run zm_T 2 (pc' := 2) (lv' := [(0, .ref 2), (1, .int v)]) (st' := [.int v, .ref 2]) (G' := zp_H xs 0 (fun _ => 0) 0 0 (fun _ => 0) (fun _ => 0) [] 156591) rfl ?_
    refine zm_J_V (a := 2) (av := [.int v]) (rest := []) (Q1 := fun z G' => z = .inr (0, 37) ∧ G' = zp_H xs 0 (fun _ => 0) 0 0 (fun _ => 0) (fun _ => 0) [.inr (10, [])] (156591 + 6)) (zm_T.1 68 2 _ rfl).1 zc_68_2 rfl (Nat.le_of_ble_eq_true rfl) (Nat.le_of_ble_eq_true rfl) (Nat.le_of_succ_le (zp_len (by decide))) (Nat.le_of_ble_eq_true rfl) ?_ ?_ ?_
    · have hroom : zm_room (zp_H xs 0 (fun _ => 0) 0 0 (fun _ => 0) (fun _ => 0) [] 156591) 6 = true := by
        unfold zm_room
        rw [Bool.and_eq_true, decide_eq_true_eq, decide_eq_true_eq]
        exact ⟨zp_len (by decide), Nat.le_of_ble_eq_true rfl⟩
      refine zm_J_run zm_T 2 (pc' := if v < 0 then 10 else 4) (lv' := [(0, .ref 2), (1, .int v)]) (st' := []) (G' := zp_H xs 0 (fun _ => 0) 0 0 (fun _ => 0) (fun _ => 0) [] 156591) rfl ?_
      by_cases hv : v < 0
      · rw [if_pos hv]
        exact zm_J_throw zx_69_10 (by omega) (Nat.le_of_ble_eq_true rfl) hroom ⟨rfl, rfl⟩
      · rw [if_neg hv]
        refine zm_J_run zm_T 3 (pc' := if v < 6 then 20 else 10) (lv' := [(0, .ref 2), (1, .int v)]) (st' := []) (G' := zp_H xs 0 (fun _ => 0) 0 0 (fun _ => 0) (fun _ => 0) [] 156591) rfl ?_
        rw [if_neg (zl_gt5 (h.resolve_left hv))]
        exact zm_J_throw zx_69_10 (by omega) (Nat.le_of_ble_eq_true rfl) hroom ⟨rfl, rfl⟩
    · intro w G' h; exact nomatch h.1
    · intro x G' h
      obtain ⟨h1, rfl⟩ := h
      cases Sum.inr.inj h1
      refine Or.inr ⟨8, zt_68_0, ?_⟩
      refine zm_J_run zm_T 2 (pc' := 10) (lv' := [(2, .ref 37), (0, .ref 2), (1, .int v)]) (st' := [.int 1]) (G' := zp_H xs 0 (fun _ => 0) 0 0 (fun _ => 0) (fun _ => 0) [.inr (10, [])] (156591 + 6)) rfl ?_
      exact zm_J_fin zm_T rfl rfl ⟨rfl, rfl⟩
  rotate_left
  · intro x G' h; exact nomatch h.1
  intro w G' hw
  obtain ⟨h1, rfl⟩ := hw
  cases Sum.inl.inj h1
  refine zm_J_run zm_T 7 (pc' := 411) (lv' := (5, .int 1) :: [(4, .int 0), (3, .ref 36), (2, .ref 12), (1, .ref 2), (0, .ref 0)]) (st' := [.int (xs 1), .ref 12]) (G' := zp_H xs 0 (fun _ => 0) 0 0 (fun _ => 0) (fun _ => 0) [.inr (10, [])] (156591 + 6)) rfl ?_
  refine zm_J_V (a := 12) (av := [.int (xs 1)]) (rest := []) (Q1 := fun z G' => z = .inl none ∧ G' = zp_H xs 0 (fun _ => 0) 1 0 (fun _ => 0) (fun _ => 0) [.inr (10, [])] (156591 + 6)) (zm_T.1 0 411 _ rfl).1 zc_0_411 rfl (Nat.le_of_ble_eq_true rfl) (Nat.le_of_ble_eq_true rfl) (Nat.le_of_succ_le (zp_len (by decide))) (Nat.le_of_ble_eq_true rfl) ?_ ?_ ?_
  · generalize xs 1 = v at h
    obtain ⟨d, rfl⟩ : ∃ e, d = e + 1 := ⟨d - 1, by omega⟩
    refine zm_J_run zm_T 4 (pc' := 4) (lv' := [(0, .ref 12), (1, .int v)]) (st' := [.int 5, .int 0, .int v, .ref 12]) (G' := zp_H xs 0 (fun _ => 0) 0 0 (fun _ => 0) (fun _ => 0) [.inr (10, [])] (156591 + 6)) rfl ?_
    refine zm_J_S (av := [.int v, .int 0, .int 5]) (rest := [.ref 12]) (Q1 := fun z G' => z = .inl (some (.int (if v < 0 ∨ 5 < v then 0 else 1))) ∧ G' = zp_H xs 0 (fun _ => 0) 0 0 (fun _ => 0) (fun _ => 0) [.inr (10, [])] (156591 + 6)) (zm_T.1 106 4 _ rfl).1 zc_106_4 (Nat.le_of_ble_eq_true rfl) (Nat.le_of_ble_eq_true rfl) (Nat.le_of_succ_le (zp_len (by decide))) (Nat.le_of_ble_eq_true rfl) (zt_between N d v 0 5 _) ?_ ?_
    rotate_left
    · intro x G' h; exact nomatch h.1
    intro w G' hw
    obtain ⟨h1, rfl⟩ := hw
    cases Sum.inl.inj h1
    show zm_J N (d + 1) 106 7 [(0, .ref 12), (1, .int v)] [.int (if v < 0 ∨ 5 < v then 0 else 1), .ref 12] (zp_H xs 0 (fun _ => 0) 0 0 (fun _ => 0) (fun _ => 0) [.inr (10, [])] (156591 + 6)) _
    rw [if_pos h]
    refine zm_J_V (a := 12) (av := [.int 0]) (rest := []) (Q1 := fun z G' => z = .inl (some (.int 1)) ∧ G' = zp_H xs 0 (fun _ => 0) 1 0 (fun _ => 0) (fun _ => 0) [.inr (10, [])] (156591 + 6)) (zm_T.1 106 7 _ rfl).1 zc_106_7 rfl (Nat.le_of_ble_eq_true rfl) (Nat.le_of_ble_eq_true rfl) (Nat.le_of_succ_le (zp_len (by decide))) (Nat.le_of_ble_eq_true rfl) ?_ ?_ ?_
    · refine zm_J_run zm_T 9 (pc' := 22) (lv' := [(0, .ref 12), (1, .int 0)]) (st' := [.int 1]) (G' := zp_H xs 0 (fun _ => 0) 1 0 (fun _ => 0) (fun _ => 0) [.inr (10, [])] (156591 + 6)) rfl ?_
      exact zm_J_fin zm_T rfl rfl ⟨rfl, rfl⟩
    · intro w G' hw
      obtain ⟨h1, rfl⟩ := hw
      cases Sum.inl.inj h1
      refine zm_J_run zm_T 1 (pc' := 13) (lv' := [(0, .ref 12), (1, .int v)]) (st' := []) (G' := zp_H xs 0 (fun _ => 0) 1 0 (fun _ => 0) (fun _ => 0) [.inr (10, [])] (156591 + 6)) rfl ?_
      exact zm_J_fin zm_T rfl rfl ⟨rfl, rfl⟩
    · intro x G' h; exact nomatch h.1
  rotate_left
  · intro x G' h; exact nomatch h.1
  intro w G' hw
  obtain ⟨h1, rfl⟩ := hw
  cases Sum.inl.inj h1
  refine zm_J_run zm_T 1 (pc' := 415) (lv' := (5, .int 1) :: [(4, .int 0), (3, .ref 36), (2, .ref 12), (1, .ref 2), (0, .ref 0)]) (st' := [.ref 12]) (G' := zp_H xs 0 (fun _ => 0) 1 0 (fun _ => 0) (fun _ => 0) [.inr (10, [])] (156591 + 6)) rfl ?_
  refine zm_J_V (a := 12) (av := []) (rest := []) (Q1 := fun z G' => z = .inl (some (.int 1)) ∧ G' = zp_H xs 0 (fun _ => 0) 1 0 (fun _ => 0) (fun _ => 0) [.inr (10, [])] (156591 + 6)) (zm_T.1 0 415 _ rfl).1 zc_0_415 rfl (Nat.le_of_ble_eq_true rfl) (Nat.le_of_ble_eq_true rfl) (Nat.le_of_succ_le (zp_len (by decide))) (Nat.le_of_ble_eq_true rfl) (zt_thrown N d) ?_ ?_
  rotate_left
  · intro x G' h; exact nomatch h.1
  intro w G' hw
  obtain ⟨h1, rfl⟩ := hw
  cases Sum.inl.inj h1
  refine zm_J_run zm_T 3 (pc' := 453) (lv' := (5, .int 1) :: [(4, .int 0), (3, .ref 36), (2, .ref 12), (1, .ref 2), (0, .ref 0)]) (st' := []) (G' := zp_H xs 0 (fun _ => 0) 1 0 (fun _ => 0) (fun _ => 0) [.inr (10, [])] (156591 + 6)) rfl ?_
  refine zm_J_run zm_T 2 (pc' := 23) (lv' := [(4, .int 3), (5, .int 1), (3, .ref 36), (2, .ref 12), (1, .ref 2), (0, .ref 0)]) (st' := []) (G' := zp_H xs 0 (fun _ => 0) 1 0 (fun _ => 0) (fun _ => 0) [.inr (10, [])] (156591 + 6)) rfl ?_
  refine zm_J_run zm_T 5 (pc' := 29) (lv' := [(4, .int 3), (5, .int 1), (3, .ref 36), (2, .ref 12), (1, .ref 2), (0, .ref 0)]) (st' := [.int (3 - 3), .int 3]) (G' := zp_H xs 0 (fun _ => 0) 1 0 (fun _ => 0) (fun _ => 0) [.inr (10, [])] (156591 + 6)) rfl ?_
  refine zm_J_run zm_T 1 (pc' := if (3 - 3 : Int32) < 3 then 459 else 32) (lv' := [(4, .int 3), (5, .int 1), (3, .ref 36), (2, .ref 12), (1, .ref 2), (0, .ref 0)]) (st' := []) (G' := zp_H xs 0 (fun _ => 0) 1 0 (fun _ => 0) (fun _ => 0) [.inr (10, [])] (156591 + 6)) rfl ?_
  rw [if_pos (show (3 - 3 : Int32) < 3 by decide +kernel)]
  refine zm_J_run zm_T 1 (pc' := 460) (lv' := [(4, .int 3), (5, .int 1), (3, .ref 36), (2, .ref 12), (1, .ref 2), (0, .ref 0)]) (st' := [.int 1]) (G' := zp_H xs 0 (fun _ => 0) 1 0 (fun _ => 0) (fun _ => 0) [.inr (10, [])] (156591 + 6)) rfl ?_
  exact zm_J_fin zm_T rfl rfl ⟨rfl, Nat.le_of_succ_le (zp_len (by decide)), Nat.le_of_ble_eq_true rfl⟩
set_option maxRecDepth 100000 in
set_option maxHeartbeats 4000000 in
theorem zl_cx {xs : Nat → Int32} (N : zm_N) (d : Nat) (hd : 12 ≤ d) (h : (xs 1).toInt < 0 ∨ 7 < (xs 1).toInt) : zm_J N d 0 39 [(4, .int 0), (3, .ref 36), (2, .ref 12), (1, .ref 2), (0, .ref 0)] [.int 7] (zp_H xs 0 (fun _ => 0) 0 0 (fun _ => 0) (fun _ => 0) [] 156591) zl_Q := by
  obtain ⟨d, rfl⟩ : ∃ e, d = e + 1 := ⟨d - 1, by omega⟩
  refine zm_J_run zm_T 7 (pc' := 435) (lv' := [(4, .int 0), (3, .ref 36), (2, .ref 12), (1, .ref 2), (0, .ref 0)]) (st' := [.int (xs 1), .ref 2]) (G' := zp_H xs 0 (fun _ => 0) 0 0 (fun _ => 0) (fun _ => 0) [] 156591) rfl ?_
  refine zm_J_V (a := 2) (av := [.int (xs 1)]) (rest := []) (Q1 := fun z G' => z = .inl (some (.int (-1))) ∧ G' = zp_H xs 0 (fun _ => 0) 0 0 (fun _ => 0) (fun _ => 0) [] 156591) (zm_T.1 0 435 _ rfl).1 zc_0_435 rfl (Nat.le_of_ble_eq_true rfl) (Nat.le_of_ble_eq_true rfl) (Nat.le_of_succ_le (zp_len (by decide))) (Nat.le_of_ble_eq_true rfl) ?_ ?_ ?_
  · generalize xs 1 = v at h
    refine zm_J_run zm_T 1 (pc' := 1) (lv' := [(0, .ref 2), (1, .int v)]) (st' := [.int v]) (G' := zp_H xs 0 (fun _ => 0) 0 0 (fun _ => 0) (fun _ => 0) [] 156591) rfl ?_
    refine zm_J_sw rfl (if_pos h) rfl ?_
    refine zm_J_run zm_T 1 (pc' := 95) (lv' := [(0, .ref 2), (1, .int v)]) (st' := [.int (-1)]) (G' := zp_H xs 0 (fun _ => 0) 0 0 (fun _ => 0) (fun _ => 0) [] 156591) rfl ?_
    exact zm_J_fin zm_T rfl rfl ⟨rfl, rfl⟩
  rotate_left
  · intro x G' h; exact nomatch h.1
  intro w G' hw
  obtain ⟨h1, rfl⟩ := hw
  cases Sum.inl.inj h1
  refine zm_J_run zm_T 6 (pc' := 445) (lv' := [(4, .int 0), (3, .ref 36), (2, .ref 12), (1, .ref 2), (0, .ref 0)]) (st' := [.int (xs 1), .ref 12, .int (-1)]) (G' := zp_H xs 0 (fun _ => 0) 0 0 (fun _ => 0) (fun _ => 0) [] 156591) rfl ?_
  refine zm_J_V (a := 12) (av := [.int (xs 1)]) (rest := [.int (-1)]) (Q1 := fun z G' => z = .inl (some (.int (-1))) ∧ G' = zp_H xs 0 (fun _ => 0) 0 0 (fun _ => 0) (fun _ => 0) [] 156591) (zm_T.1 0 445 _ rfl).1 zc_0_445 rfl (Nat.le_of_ble_eq_true rfl) (Nat.le_of_ble_eq_true rfl) (Nat.le_of_succ_le (zp_len (by decide))) (Nat.le_of_ble_eq_true rfl) ?_ ?_ ?_
  · generalize xs 1 = v at h
    refine zl_mc v N d (by omega) ?_
    refine zm_J_sw rfl (if_pos h) rfl ?_
    refine zm_J_run zm_T 1 (pc' := 118) (lv' := [(3, .int 6), (2, .int 0), (0, .ref 12), (1, .int v)]) (st' := [.int (-1)]) (G' := zp_H xs 0 (fun _ => 0) 0 0 (fun _ => 0) (fun _ => 0) [] 156591) rfl ?_
    exact zm_J_fin zm_T rfl rfl ⟨rfl, rfl⟩
  rotate_left
  · intro x G' h; exact nomatch h.1
  intro w G' hw
  obtain ⟨h1, rfl⟩ := hw
  cases Sum.inl.inj h1
  refine zm_J_run zm_T 1 (pc' := 453) (lv' := [(4, .int 0), (3, .ref 36), (2, .ref 12), (1, .ref 2), (0, .ref 0)]) (st' := []) (G' := zp_H xs 0 (fun _ => 0) 0 0 (fun _ => 0) (fun _ => 0) [] 156591) rfl ?_
  refine zm_J_run zm_T 2 (pc' := 23) (lv' := [(4, .int 3), (3, .ref 36), (2, .ref 12), (1, .ref 2), (0, .ref 0)]) (st' := []) (G' := zp_H xs 0 (fun _ => 0) 0 0 (fun _ => 0) (fun _ => 0) [] 156591) rfl ?_
  refine zm_J_run zm_T 5 (pc' := 29) (lv' := [(4, .int 3), (3, .ref 36), (2, .ref 12), (1, .ref 2), (0, .ref 0)]) (st' := [.int (3 - 3), .int 3]) (G' := zp_H xs 0 (fun _ => 0) 0 0 (fun _ => 0) (fun _ => 0) [] 156591) rfl ?_
  refine zm_J_run zm_T 1 (pc' := if (3 - 3 : Int32) < 3 then 459 else 32) (lv' := [(4, .int 3), (3, .ref 36), (2, .ref 12), (1, .ref 2), (0, .ref 0)]) (st' := []) (G' := zp_H xs 0 (fun _ => 0) 0 0 (fun _ => 0) (fun _ => 0) [] 156591) rfl ?_
  rw [if_pos (show (3 - 3 : Int32) < 3 by decide +kernel)]
  refine zm_J_run zm_T 1 (pc' := 460) (lv' := [(4, .int 3), (3, .ref 36), (2, .ref 12), (1, .ref 2), (0, .ref 0)]) (st' := [.int 1]) (G' := zp_H xs 0 (fun _ => 0) 0 0 (fun _ => 0) (fun _ => 0) [] 156591) rfl ?_
  exact zm_J_fin zm_T rfl rfl ⟨rfl, Nat.le_of_succ_le (zp_len (by decide)), Nat.le_of_ble_eq_true rfl⟩
theorem zl_mono {N : zm_N} {d pc : Nat} {lv : zm_L} {st : List Value} {G G2 : zm_H} (hl : G2.1.length ≤ zm_C) (hs : G2.2 ≤ zm_S) (k : zm_J N d 0 pc lv st G (fun z G => z = .inl (some (.int 1)) ∧ G = G2)) : zm_J N d 0 pc lv st G zl_Q := k.mono (fun z G h => ⟨h.1, by rw [h.2]; exact hl, by rw [h.2]; exact hs⟩)
set_option maxRecDepth 100000 in
set_option maxHeartbeats 4000000 in
/-- one call on fresh objects -/
theorem zl_one {xs : Nat → Int32} (N : zm_N) (d : Nat) (hd : 20 ≤ d) : zm_J N d 0 39 [(4, .int 0), (3, .ref 36), (2, .ref 12), (1, .ref 2), (0, .ref 0)] [.int (xs 0 &&& 7)] (zp_H xs 0 (fun _ => 0) 0 0 (fun _ => 0) (fun _ => 0) [] 156591) zl_Q := by
  obtain ⟨j, hj, e⟩ := pk_andE (xs 0) (m := 7) 3 (by decide +kernel)
  rw [e]
  match j, hj with
  | 0, _ => exact zl_op0 N d (by omega)
  | 1, _ => exact zl_mono (Nat.le_of_ble_eq_true rfl) (Nat.le_of_ble_eq_true rfl) (zl_op1 N d (by omega))
  | 2, _ => exact zl_mono (Nat.le_of_ble_eq_true rfl) (Nat.le_of_ble_eq_true rfl) (zl_op2 N d (by omega))
  | 3, _ => exact zl_mono (Nat.le_of_ble_eq_true rfl) (Nat.le_of_ble_eq_true rfl) (zl_op3 N d (by omega))
  | 4, _ => exact zl_mono (Nat.le_of_ble_eq_true rfl) (Nat.le_of_ble_eq_true rfl) (zl_op4 N d (by omega))
  | 5, _ => exact zl_mono (Nat.le_of_ble_eq_true rfl) (Nat.le_of_ble_eq_true rfl) (zl_op5 N d (by omega))
  | 6, _ =>
    rcases pk_ix (xs 1) (n := 6) (by decide) with h | h | ⟨i, hi, h⟩
    · exact zl_rx N d (by omega) (Or.inl h)
    · exact zl_rx N d (by omega) (Or.inr (zl_ge6 h))
    · match i, hi, h with
      | 0, _, h => exact zl_mono (Nat.le_of_ble_eq_true rfl) (Nat.le_of_ble_eq_true rfl) (zl_r0 h N d (by omega))
      | 1, _, h => exact zl_mono (Nat.le_of_ble_eq_true rfl) (Nat.le_of_ble_eq_true rfl) (zl_r1 h N d (by omega))
      | 2, _, h => exact zl_mono (Nat.le_of_ble_eq_true rfl) (Nat.le_of_ble_eq_true rfl) (zl_r2 h N d (by omega))
      | 3, _, h => exact zl_mono (Nat.le_of_ble_eq_true rfl) (Nat.le_of_ble_eq_true rfl) (zl_r3 h N d (by omega))
      | 4, _, h => exact zl_mono (Nat.le_of_ble_eq_true rfl) (Nat.le_of_ble_eq_true rfl) (zl_r4 h N d (by omega))
      | 5, _, h => exact zl_mono (Nat.le_of_ble_eq_true rfl) (Nat.le_of_ble_eq_true rfl) (zl_r5 h N d (by omega))
  | 7, _ =>
    rcases pk_ix (xs 1) (n := 8) (by decide) with h | h | ⟨i, hi, h⟩
    · exact zl_cx N d (by omega) (Or.inl (zl_lt h))
    · exact zl_cx N d (by omega) (Or.inr (zl_ge8 h))
    · match i, hi, h with
      | 0, _, h => exact zl_c0 h N d (by omega)
      | 1, _, h => exact zl_c1 h N d (by omega)
      | 2, _, h => exact zl_c2 h N d (by omega)
      | 3, _, h => exact zl_c3 h N d (by omega)
      | 4, _, h => exact zl_c4 h N d (by omega)
      | 5, _, h => exact zl_c5 h N d (by omega)
      | 6, _, h => exact zl_c6 h N d (by omega)
      | 7, _, h => exact zl_c7 h N d (by omega)
set_option maxRecDepth 100000 in
set_option maxHeartbeats 4000000 in
/-- the law, on scripts of at most 3 ints -/
theorem zl_law {L : Nat} {xs : Nat → Int32} (N : zm_N) (d : Nat) (hd : 20 ≤ d) (hL : L ≤ 3) : zm_J N d 0 0 [(0, .ref 0)] [] (zm_G0h L xs) zl_Q := by
  refine zl_pre N d (by omega) ?_
  match L, hL with
  | 0, _ => exact zl_mono (Nat.le_of_ble_eq_true rfl) (Nat.le_of_ble_eq_true rfl) (zl_ex0 N d (by omega))
  | 1, _ => exact zl_mono (Nat.le_of_ble_eq_true rfl) (Nat.le_of_ble_eq_true rfl) (zl_ex1 N d (by omega))
  | 2, _ => exact zl_mono (Nat.le_of_ble_eq_true rfl) (Nat.le_of_ble_eq_true rfl) (zl_ex2 N d (by omega))
  | 3, _ =>
    refine zl_in N d (by omega) ?_
    refine zm_J_run zm_T 2 (pc' := 39) (lv' := [(4, .int 0), (3, .ref 36), (2, .ref 12), (1, .ref 2), (0, .ref 0)]) (st' := [.int (xs 0 &&& 7)]) (G' := zp_H xs 0 (fun _ => 0) 0 0 (fun _ => 0) (fun _ => 0) [] 156591) rfl ?_
    exact zl_one N d hd

/-! REMOVE ON FRESH OBJECTS, A NAME IN RANGE, laid by wip/gen/p1law.py -/
def zg_0 (xs : Nat → Int32) : zm_H := ([.inl (0, 3, .inl xs), .inr (99, []), .inr (0, [.ref 3, .ref 6, .ref 11, .null, .int 0, .int 0, .int 0, .int 0, .int 0]), .inr (1, [.int 0, .int (-1), .ref 4, .ref 5, .int 0, .int 0, .int 0, .int 0]), .inl (1, 40, .inl fun _ => 0), .inl (1, 4, .inl fun _ => 0), .inr (2, [.ref 7, .ref 8, .ref 9, .ref 10, .int 0, .int 0, .int 0]), .inr (3, [.int 1, .int 0, .null, .null, .null]), .inr (4, [.ref 1, .int 0, .int 0]), .inr (4, [.ref 1, .int 0, .int 0]), .inr (4, [.ref 1, .int 0, .int 0]), .inl (4, 6, .inr (.inr (.inr (.inr fun _ => none)))), .inr (5, [.ref 13, .ref 14, .ref 15, .ref 16, .ref 17, .ref 18, .ref 19, .ref 20, .int 0, .int (-1), .int 0, .int 0, .int 0, .ref 21, .ref 22, .ref 23, .ref 24, .ref 25, .ref 26, .ref 27, .ref 28, .ref 29, .ref 30, .int 0, .int 0, .int 0, .ref 31, .ref 32, .ref 33, .ref 34, .ref 35, .int 0, .int 0, .int 0, .int 0, .int 0, .int 0, .int 0, .int 0, .int 0, .int 0, .int 0, .int 0, .int 0]), .inl (0, 40, .inl fun _ => 0), .inl (0, 21200, .inl fun _ => 0), .inl (0, 240, .inl fun _ => 0), .inl (0, 6, .inl fun _ => 0), .inl (0, 24, .inl fun _ => 0), .inl (0, 6, .inl fun _ => 0), .inl (0, 16, .inl fun _ => 0), .inl (3, 6, .inl fun _ => 0), .inl (0, 16400, .inl fun _ => 0), .inl (0, 16400, .inl fun _ => 0), .inl (0, 16400, .inl fun _ => 0), .inl (0, 16400, .inl fun _ => 0), .inl (0, 16400, .inl fun _ => 0), .inl (0, 16400, .inl fun _ => 0), .inl (0, 1700, .inl fun _ => 0), .inl (0, 1700, .inl fun _ => 0), .inl (0, 16400, .inl fun _ => 0), .inl (0, 16400, .inl fun _ => 0), .inl (0, 64, .inl fun _ => 0), .inl (0, 64, .inl fun _ => 0), .inl (0, 64, .inl fun _ => 0), .inl (0, 64, .inl fun _ => 0), .inl (0, 64, .inl fun _ => 0), .inl (2, 1, .inr (.inl fun _ => 0))], 156591)
def zg_1 (xs : Nat → Int32) : zm_H := ([.inl (0, 3, .inl xs), .inr (99, []), .inr (0, [.ref 3, .ref 6, .ref 11, .null, .int 0, .int 0, .int 0, .int 0, .int 0]), .inr (1, [.int 0, .int (-1), .ref 4, .ref 5, .int 0, .int 0, .int 0, .int 0]), .inl (1, 40, .inl fun _ => 0), .inl (1, 4, .inl fun _ => 0), .inr (2, [.ref 7, .ref 8, .ref 9, .ref 10, .int 0, .int 0, .int 0]), .inr (3, [.int 1, .int 0, .null, .null, .null]), .inr (4, [.ref 1, .int 0, .int 0]), .inr (4, [.ref 1, .int 0, .int 0]), .inr (4, [.ref 1, .int 0, .int 0]), .inl (4, 6, .inr (.inr (.inr (.inr fun _ => none)))), .inr (5, [.ref 13, .ref 14, .ref 15, .ref 16, .ref 17, .ref 18, .ref 19, .ref 20, .int 0, .int (-1), .int 0, .int 0, .int 0, .ref 21, .ref 22, .ref 23, .ref 24, .ref 25, .ref 26, .ref 27, .ref 28, .ref 29, .ref 30, .int 0, .int 0, .int 0, .ref 31, .ref 32, .ref 33, .ref 34, .ref 35, .int 0, .int 0, .int 0, .int 0, .int 0, .int 0, .int 0, .int 0, .int 0, .int 0, .int 0, .int 0, .int 0]), .inl (0, 40, .inl fun _ => 0), .inl (0, 21200, .inl fun _ => 0), .inl (0, 240, .inl fun _ => 0), .inl (0, 6, .inl fun _ => 0), .inl (0, 24, .inl fun _ => 0), .inl (0, 6, .inl fun _ => 0), .inl (0, 16, .inl fun _ => 0), .inl (3, 6, .inl fun _ => 0), .inl (0, 16400, .inl fun _ => 0), .inl (0, 16400, .inl fun _ => 0), .inl (0, 16400, .inl fun _ => 0), .inl (0, 16400, .inl fun _ => 0), .inl (0, 16400, .inl fun _ => 0), .inl (0, 16400, .inl fun _ => 0), .inl (0, 1700, .inl fun _ => 0), .inl (0, 1700, .inl fun _ => 0), .inl (0, 16400, .inl fun _ => 0), .inl (0, 16400, .inl fun _ => 0), .inl (0, 64, .inl fun _ => 0), .inl (0, 64, .inl fun _ => 0), .inl (0, 64, .inl fun _ => 0), .inl (0, 64, .inl fun _ => 0), .inl (0, 64, .inl fun _ => 0), .inl (2, 1, .inr (.inl fun _ => 0)), .inr (10, [])], 156597)
set_option maxHeartbeats 40000000 in
set_option maxRecDepth 100000 in
/-- NeedMachine.definitionOf -/
theorem zr0_501 {xs : Nat → Int32} (N : zm_N) (d : Nat) (hd : 7 ≤ d) : zm_J N d 44 0 [(0, .ref 2), (1, .int 0)] [] (zg_0 xs) (fun z G => z = .inr (2, 37) ∧ G = (zg_1 xs)) := by
  obtain ⟨d, rfl⟩ : ∃ e, d = e + 1 := ⟨d - 1, by omega⟩
  refine zm_J_run zm_T 7 (pc' := 11) (lv' := [(2, .null), (0, .ref 2), (1, .int 0)]) (st' := []) (G' := (zg_0 xs)) rfl ?_
  exact zm_J_throw zx_44_11 (by omega) (Nat.le_of_ble_eq_true rfl) rfl ⟨rfl, rfl⟩

set_option maxHeartbeats 40000000 in
set_option maxRecDepth 100000 in
/-- NeedMachine.remove -/
theorem zr0_502 {xs : Nat → Int32} (N : zm_N) (d : Nat) (hd : 8 ≤ d) : zm_J N d 69 0 [(0, .ref 2), (1, .int 0)] [] (zg_0 xs) (fun z G => z = .inr (2, 37) ∧ G = (zg_1 xs)) := by
  obtain ⟨d, rfl⟩ : ∃ e, d = e + 1 := ⟨d - 1, by omega⟩
  refine zm_J_run zm_T 1 (pc' := 1) (lv' := [(0, .ref 2), (1, .int 0)]) (st' := [.int 0]) (G' := (zg_0 xs)) rfl ?_
  refine zm_J_run zm_T 1 (pc' := if (0 : Int32) < 0 then 10 else 4) (lv' := [(0, .ref 2), (1, .int 0)]) (st' := []) (G' := (zg_0 xs)) rfl ?_
  rw [if_neg (show ¬ ((0 : Int32) < 0) by decide +kernel)]
  refine zm_J_run zm_T 2 (pc' := 7) (lv' := [(0, .ref 2), (1, .int 0)]) (st' := [.int 6, .int 0]) (G' := (zg_0 xs)) rfl ?_
  refine zm_J_run zm_T 1 (pc' := if (0 : Int32) < 6 then 20 else 10) (lv' := [(0, .ref 2), (1, .int 0)]) (st' := []) (G' := (zg_0 xs)) rfl ?_
  rw [if_pos (show (0 : Int32) < 6 by decide +kernel)]
  refine zm_J_run zm_T 2 (pc' := 22) (lv' := [(0, .ref 2), (1, .int 0)]) (st' := [.int 0, .ref 2]) (G' := (zg_0 xs)) rfl ?_
  refine zm_J_V (a := 2) (av := [.int 0]) (rest := []) (Q1 := fun z G => z = .inr (2, 37) ∧ G = (zg_1 xs)) (zm_T.1 69 22 _ rfl).1 zc_69_22 rfl (Nat.le_of_ble_eq_true rfl) (Nat.le_of_ble_eq_true rfl) (Nat.le_of_ble_eq_true rfl) (Nat.le_of_ble_eq_true rfl) (zr0_501 N _ (by omega)) ?_ ?_
  · intro v G' h; exact nomatch h.1
  intro x G' h
  obtain ⟨h1, rfl⟩ := h
  cases Sum.inr.inj h1
  exact Or.inl ⟨zm_out0 rfl, rfl, rfl⟩

set_option maxHeartbeats 40000000 in
set_option maxRecDepth 100000 in
/-- NeedMachineLaw.remove -/
theorem zr0_503 {xs : Nat → Int32} (N : zm_N) (d : Nat) (hd : 9 ≤ d) : zm_J N d 68 0 [(0, .ref 2), (1, .int 0)] [] (zg_0 xs) (fun z G => z = .inl (some (.int 2)) ∧ G = (zg_1 xs)) := by
  obtain ⟨d, rfl⟩ : ∃ e, d = e + 1 := ⟨d - 1, by omega⟩
  refine zm_J_run zm_T 2 (pc' := 2) (lv' := [(0, .ref 2), (1, .int 0)]) (st' := [.int 0, .ref 2]) (G' := (zg_0 xs)) rfl ?_
  refine zm_J_V (a := 2) (av := [.int 0]) (rest := []) (Q1 := fun z G => z = .inr (2, 37) ∧ G = (zg_1 xs)) (zm_T.1 68 2 _ rfl).1 zc_68_2 rfl (Nat.le_of_ble_eq_true rfl) (Nat.le_of_ble_eq_true rfl) (Nat.le_of_ble_eq_true rfl) (Nat.le_of_ble_eq_true rfl) (zr0_502 N _ (by omega)) ?_ ?_
  · intro v G' h; exact nomatch h.1
  intro x G' h
  obtain ⟨h1, rfl⟩ := h
  cases Sum.inr.inj h1
  refine Or.inr ⟨11, zt_68_2, ?_⟩
  show zm_J N _ 68 11 [(0, .ref 2), (1, .int 0)] [.ref 37] (zg_1 xs) _
  refine zm_J_run zm_T 2 (pc' := 13) (lv' := [(2, .ref 37), (0, .ref 2), (1, .int 0)]) (st' := [.int 2]) (G' := (zg_1 xs)) rfl ?_
  exact zm_J_fin zm_T rfl rfl ⟨rfl, rfl⟩

set_option maxHeartbeats 40000000 in
set_option maxRecDepth 100000 in
/-- NeedMachineModel.between -/
theorem zr0_504 {xs : Nat → Int32} (N : zm_N) (d : Nat) (hd : 1 ≤ d) : zm_J N d 73 0 [(0, .int 0), (1, .int 0), (2, .int 5)] [] (zg_1 xs) (fun z G => z = .inl (some (.int 1)) ∧ G = (zg_1 xs)) := by
  obtain ⟨d, rfl⟩ : ∃ e, d = e + 1 := ⟨d - 1, by omega⟩
  refine zm_J_run zm_T 2 (pc' := 2) (lv' := [(0, .int 0), (1, .int 0), (2, .int 5)]) (st' := [.int 0, .int 0]) (G' := (zg_1 xs)) rfl ?_
  refine zm_J_run zm_T 1 (pc' := if (0 : Int32) < 0 then 14 else 5) (lv' := [(0, .int 0), (1, .int 0), (2, .int 5)]) (st' := []) (G' := (zg_1 xs)) rfl ?_
  rw [if_neg (show ¬ ((0 : Int32) < 0) by decide +kernel)]
  refine zm_J_run zm_T 2 (pc' := 7) (lv' := [(0, .int 0), (1, .int 0), (2, .int 5)]) (st' := [.int 5, .int 0]) (G' := (zg_1 xs)) rfl ?_
  refine zm_J_run zm_T 1 (pc' := if (5 : Int32) < 0 then 14 else 10) (lv' := [(0, .int 0), (1, .int 0), (2, .int 5)]) (st' := []) (G' := (zg_1 xs)) rfl ?_
  rw [if_neg (show ¬ ((5 : Int32) < 0) by decide +kernel)]
  refine zm_J_run zm_T 2 (pc' := 15) (lv' := [(0, .int 0), (1, .int 0), (2, .int 5)]) (st' := [.int 1]) (G' := (zg_1 xs)) rfl ?_
  exact zm_J_fin zm_T rfl rfl ⟨rfl, rfl⟩

set_option maxHeartbeats 40000000 in
set_option maxRecDepth 100000 in
/-- NeedMachineModel.bad -/
theorem zr0_505 {xs : Nat → Int32} (N : zm_N) (d : Nat) (hd : 1 ≤ d) : zm_J N d 74 0 [(0, .ref 12), (1, .int 1)] [] (zg_1 xs) (fun z G => z = .inl (some (.int 0)) ∧ G = (zg_1 xs)) := by
  obtain ⟨d, rfl⟩ : ∃ e, d = e + 1 := ⟨d - 1, by omega⟩
  refine zm_J_run zm_T 8 (pc' := 21) (lv' := [(0, .ref 12), (1, .int 1)]) (st' := []) (G' := (zg_1 xs)) rfl ?_
  refine zm_J_run zm_T 1 (pc' := 22) (lv' := [(0, .ref 12), (1, .int 1)]) (st' := [.int 0]) (G' := (zg_1 xs)) rfl ?_
  exact zm_J_fin zm_T rfl rfl ⟨rfl, rfl⟩

def zg_2 (xs : Nat → Int32) : zm_H := ([.inl (0, 3, .inl xs), .inr (99, []), .inr (0, [.ref 3, .ref 6, .ref 11, .null, .int 0, .int 0, .int 0, .int 0, .int 0]), .inr (1, [.int 0, .int (-1), .ref 4, .ref 5, .int 0, .int 0, .int 0, .int 0]), .inl (1, 40, .inl fun _ => 0), .inl (1, 4, .inl fun _ => 0), .inr (2, [.ref 7, .ref 8, .ref 9, .ref 10, .int 0, .int 0, .int 0]), .inr (3, [.int 1, .int 0, .null, .null, .null]), .inr (4, [.ref 1, .int 0, .int 0]), .inr (4, [.ref 1, .int 0, .int 0]), .inr (4, [.ref 1, .int 0, .int 0]), .inl (4, 6, .inr (.inr (.inr (.inr fun _ => none)))), .inr (5, [.ref 13, .ref 14, .ref 15, .ref 16, .ref 17, .ref 18, .ref 19, .ref 20, .int 0, .int (-1), .int 0, .int 0, .int 2, .ref 21, .ref 22, .ref 23, .ref 24, .ref 25, .ref 26, .ref 27, .ref 28, .ref 29, .ref 30, .int 0, .int 0, .int 0, .ref 31, .ref 32, .ref 33, .ref 34, .ref 35, .int 0, .int 0, .int 0, .int 0, .int 0, .int 0, .int 0, .int 0, .int 0, .int 0, .int 0, .int 0, .int 0]), .inl (0, 40, .inl fun _ => 0), .inl (0, 21200, .inl fun _ => 0), .inl (0, 240, .inl fun _ => 0), .inl (0, 6, .inl fun _ => 0), .inl (0, 24, .inl fun _ => 0), .inl (0, 6, .inl fun _ => 0), .inl (0, 16, .inl fun _ => 0), .inl (3, 6, .inl (upd (fun _ => 0) 0 0)), .inl (0, 16400, .inl fun _ => 0), .inl (0, 16400, .inl fun _ => 0), .inl (0, 16400, .inl fun _ => 0), .inl (0, 16400, .inl fun _ => 0), .inl (0, 16400, .inl fun _ => 0), .inl (0, 16400, .inl fun _ => 0), .inl (0, 1700, .inl fun _ => 0), .inl (0, 1700, .inl fun _ => 0), .inl (0, 16400, .inl fun _ => 0), .inl (0, 16400, .inl fun _ => 0), .inl (0, 64, .inl fun _ => 0), .inl (0, 64, .inl fun _ => 0), .inl (0, 64, .inl fun _ => 0), .inl (0, 64, .inl fun _ => 0), .inl (0, 64, .inl fun _ => 0), .inl (2, 1, .inr (.inl fun _ => 0)), .inr (10, [])], 156597)
set_option maxHeartbeats 40000000 in
set_option maxRecDepth 100000 in
/-- NeedMachineModel.remove -/
theorem zr0_506 {xs : Nat → Int32} (N : zm_N) (d : Nat) (hd : 2 ≤ d) : zm_J N d 106 0 [(0, .ref 12), (1, .int 0)] [] (zg_1 xs) (fun z G => z = .inl none ∧ G = (zg_2 xs)) := by
  obtain ⟨d, rfl⟩ : ∃ e, d = e + 1 := ⟨d - 1, by omega⟩
  refine zm_J_run zm_T 4 (pc' := 4) (lv' := [(0, .ref 12), (1, .int 0)]) (st' := [.int 5, .int 0, .int 0, .ref 12]) (G' := (zg_1 xs)) rfl ?_
  refine zm_J_S (av := [.int 0, .int 0, .int 5]) (rest := [.ref 12]) (Q1 := fun z G => z = .inl (some (.int 1)) ∧ G = (zg_1 xs)) (zm_T.1 106 4 _ rfl).1 zc_106_4 (Nat.le_of_ble_eq_true rfl) (Nat.le_of_ble_eq_true rfl) (Nat.le_of_ble_eq_true rfl) (Nat.le_of_ble_eq_true rfl) (zr0_504 N _ (by omega)) ?_ ?_
  rotate_left
  · intro x G' h; exact nomatch h.1
  intro v G' h
  obtain ⟨h1, rfl⟩ := h
  cases Sum.inl.inj h1
  show zm_J N _ 106 7 [(0, .ref 12), (1, .int 0)] [.int 1, .ref 12] (zg_1 xs) _
  refine zm_J_V (a := 12) (av := [.int 1]) (rest := []) (Q1 := fun z G => z = .inl (some (.int 0)) ∧ G = (zg_1 xs)) (zm_T.1 106 7 _ rfl).1 zc_106_7 rfl (Nat.le_of_ble_eq_true rfl) (Nat.le_of_ble_eq_true rfl) (Nat.le_of_ble_eq_true rfl) (Nat.le_of_ble_eq_true rfl) (zr0_505 N _ (by omega)) ?_ ?_
  rotate_left
  · intro x G' h; exact nomatch h.1
  intro v G' h
  obtain ⟨h1, rfl⟩ := h
  cases Sum.inl.inj h1
  show zm_J N _ 106 10 [(0, .ref 12), (1, .int 0)] [.int 0] (zg_1 xs) _
  refine zm_J_run zm_T 8 (pc' := 25) (lv' := [(0, .ref 12), (1, .int 0)]) (st' := [.int 2, .ref 12]) (G' := (zg_1 xs)) rfl ?_
  refine zm_J_run zm_T 6 (pc' := 35) (lv' := [(0, .ref 12), (1, .int 0)]) (st' := []) (G' := (zg_2 xs)) rfl ?_
  exact zm_J_fin zm_T rfl rfl ⟨rfl, rfl⟩

set_option maxHeartbeats 40000000 in
set_option maxRecDepth 100000 in
/-- NeedMachineModel.thrown -/
theorem zr0_507 {xs : Nat → Int32} (N : zm_N) (d : Nat) (hd : 1 ≤ d) : zm_J N d 71 0 [(0, .ref 12)] [] (zg_2 xs) (fun z G => z = .inl (some (.int 2)) ∧ G = (zg_2 xs)) := by
  obtain ⟨d, rfl⟩ : ∃ e, d = e + 1 := ⟨d - 1, by omega⟩
  refine zm_J_run zm_T 2 (pc' := 4) (lv' := [(0, .ref 12)]) (st' := [.int 2]) (G' := (zg_2 xs)) rfl ?_
  exact zm_J_fin zm_T rfl rfl ⟨rfl, rfl⟩

set_option maxHeartbeats 40000000 in
set_option maxRecDepth 100000 in
theorem zl_r0 {xs : Nat → Int32} (h : xs 1 = 0) (N : zm_N) (d : Nat) (hd : 10 ≤ d) : zm_J N d 0 39 [(4, .int 0), (3, .ref 36), (2, .ref 12), (1, .ref 2), (0, .ref 0)] [.int 6] (zg_0 xs) (fun z G => z = .inl (some (.int 1)) ∧ G = (zg_2 xs)) := by
  obtain ⟨d, rfl⟩ : ∃ e, d = e + 1 := ⟨d - 1, by omega⟩
  refine zm_J_run zm_T 7 (pc' := 399) (lv' := [(4, .int 0), (3, .ref 36), (2, .ref 12), (1, .ref 2), (0, .ref 0)]) (st' := [.int (xs 1), .ref 2]) (G' := (zg_0 xs)) rfl ?_
  rw [h]
  refine zm_J_S (av := [.ref 2, .int 0]) (rest := []) (Q1 := fun z G => z = .inl (some (.int 2)) ∧ G = (zg_1 xs)) (zm_T.1 0 399 _ rfl).1 zc_0_399 (Nat.le_of_ble_eq_true rfl) (Nat.le_of_ble_eq_true rfl) (Nat.le_of_ble_eq_true rfl) (Nat.le_of_ble_eq_true rfl) (zr0_503 N _ (by omega)) ?_ ?_
  rotate_left
  · intro x G' h; exact nomatch h.1
  intro v G' h
  obtain ⟨h1, rfl⟩ := h
  cases Sum.inl.inj h1
  show zm_J N _ 0 402 [(4, .int 0), (3, .ref 36), (2, .ref 12), (1, .ref 2), (0, .ref 0)] [.int 2] (zg_1 xs) _
  refine zm_J_run zm_T 7 (pc' := 411) (lv' := [(5, .int 2), (4, .int 0), (3, .ref 36), (2, .ref 12), (1, .ref 2), (0, .ref 0)]) (st' := [.int (xs 1), .ref 12]) (G' := (zg_1 xs)) rfl ?_
  rw [h]
  refine zm_J_V (a := 12) (av := [.int 0]) (rest := []) (Q1 := fun z G => z = .inl none ∧ G = (zg_2 xs)) (zm_T.1 0 411 _ rfl).1 zc_0_411 rfl (Nat.le_of_ble_eq_true rfl) (Nat.le_of_ble_eq_true rfl) (Nat.le_of_ble_eq_true rfl) (Nat.le_of_ble_eq_true rfl) (zr0_506 N _ (by omega)) ?_ ?_
  rotate_left
  · intro x G' h; exact nomatch h.1
  intro v G' h
  obtain ⟨h1, rfl⟩ := h
  cases Sum.inl.inj h1
  show zm_J N _ 0 414 [(5, .int 2), (4, .int 0), (3, .ref 36), (2, .ref 12), (1, .ref 2), (0, .ref 0)] [] (zg_2 xs) _
  refine zm_J_run zm_T 1 (pc' := 415) (lv' := [(5, .int 2), (4, .int 0), (3, .ref 36), (2, .ref 12), (1, .ref 2), (0, .ref 0)]) (st' := [.ref 12]) (G' := (zg_2 xs)) rfl ?_
  refine zm_J_V (a := 12) (av := []) (rest := []) (Q1 := fun z G => z = .inl (some (.int 2)) ∧ G = (zg_2 xs)) (zm_T.1 0 415 _ rfl).1 zc_0_415 rfl (Nat.le_of_ble_eq_true rfl) (Nat.le_of_ble_eq_true rfl) (Nat.le_of_ble_eq_true rfl) (Nat.le_of_ble_eq_true rfl) (zr0_507 N _ (by omega)) ?_ ?_
  rotate_left
  · intro x G' h; exact nomatch h.1
  intro v G' h
  obtain ⟨h1, rfl⟩ := h
  cases Sum.inl.inj h1
  show zm_J N _ 0 418 [(5, .int 2), (4, .int 0), (3, .ref 36), (2, .ref 12), (1, .ref 2), (0, .ref 0)] [.int 2] (zg_2 xs) _
  refine zm_J_run zm_T 8 (pc' := 27) (lv' := [(4, .int 3), (5, .int 2), (3, .ref 36), (2, .ref 12), (1, .ref 2), (0, .ref 0)]) (st' := [.int 3, .int 3]) (G' := (zg_2 xs)) rfl ?_
  refine zm_J_run zm_T 2 (pc' := 29) (lv' := [(4, .int 3), (5, .int 2), (3, .ref 36), (2, .ref 12), (1, .ref 2), (0, .ref 0)]) (st' := [.int (3 - 3), .int 3]) (G' := (zg_2 xs)) rfl ?_
  refine zm_J_run zm_T 1 (pc' := if ((3 - 3) : Int32) < 3 then 459 else 32) (lv' := [(4, .int 3), (5, .int 2), (3, .ref 36), (2, .ref 12), (1, .ref 2), (0, .ref 0)]) (st' := []) (G' := (zg_2 xs)) rfl ?_
  rw [if_pos (show ((3 - 3) : Int32) < 3 by decide +kernel)]
  refine zm_J_run zm_T 1 (pc' := 460) (lv' := [(4, .int 3), (5, .int 2), (3, .ref 36), (2, .ref 12), (1, .ref 2), (0, .ref 0)]) (st' := [.int 1]) (G' := (zg_2 xs)) rfl ?_
  exact zm_J_fin zm_T rfl rfl ⟨rfl, rfl⟩

set_option maxHeartbeats 40000000 in
set_option maxRecDepth 100000 in
/-- NeedMachine.definitionOf -/
theorem zr1_508 {xs : Nat → Int32} (N : zm_N) (d : Nat) (hd : 7 ≤ d) : zm_J N d 44 0 [(0, .ref 2), (1, .int 1)] [] (zg_0 xs) (fun z G => z = .inr (2, 37) ∧ G = (zg_1 xs)) := by
  obtain ⟨d, rfl⟩ : ∃ e, d = e + 1 := ⟨d - 1, by omega⟩
  refine zm_J_run zm_T 7 (pc' := 11) (lv' := [(2, .null), (0, .ref 2), (1, .int 1)]) (st' := []) (G' := (zg_0 xs)) rfl ?_
  exact zm_J_throw zx_44_11 (by omega) (Nat.le_of_ble_eq_true rfl) rfl ⟨rfl, rfl⟩

set_option maxHeartbeats 40000000 in
set_option maxRecDepth 100000 in
/-- NeedMachine.remove -/
theorem zr1_509 {xs : Nat → Int32} (N : zm_N) (d : Nat) (hd : 8 ≤ d) : zm_J N d 69 0 [(0, .ref 2), (1, .int 1)] [] (zg_0 xs) (fun z G => z = .inr (2, 37) ∧ G = (zg_1 xs)) := by
  obtain ⟨d, rfl⟩ : ∃ e, d = e + 1 := ⟨d - 1, by omega⟩
  refine zm_J_run zm_T 1 (pc' := 1) (lv' := [(0, .ref 2), (1, .int 1)]) (st' := [.int 1]) (G' := (zg_0 xs)) rfl ?_
  refine zm_J_run zm_T 1 (pc' := if (1 : Int32) < 0 then 10 else 4) (lv' := [(0, .ref 2), (1, .int 1)]) (st' := []) (G' := (zg_0 xs)) rfl ?_
  rw [if_neg (show ¬ ((1 : Int32) < 0) by decide +kernel)]
  refine zm_J_run zm_T 2 (pc' := 7) (lv' := [(0, .ref 2), (1, .int 1)]) (st' := [.int 6, .int 1]) (G' := (zg_0 xs)) rfl ?_
  refine zm_J_run zm_T 1 (pc' := if (1 : Int32) < 6 then 20 else 10) (lv' := [(0, .ref 2), (1, .int 1)]) (st' := []) (G' := (zg_0 xs)) rfl ?_
  rw [if_pos (show (1 : Int32) < 6 by decide +kernel)]
  refine zm_J_run zm_T 2 (pc' := 22) (lv' := [(0, .ref 2), (1, .int 1)]) (st' := [.int 1, .ref 2]) (G' := (zg_0 xs)) rfl ?_
  refine zm_J_V (a := 2) (av := [.int 1]) (rest := []) (Q1 := fun z G => z = .inr (2, 37) ∧ G = (zg_1 xs)) (zm_T.1 69 22 _ rfl).1 zc_69_22 rfl (Nat.le_of_ble_eq_true rfl) (Nat.le_of_ble_eq_true rfl) (Nat.le_of_ble_eq_true rfl) (Nat.le_of_ble_eq_true rfl) (zr1_508 N _ (by omega)) ?_ ?_
  · intro v G' h; exact nomatch h.1
  intro x G' h
  obtain ⟨h1, rfl⟩ := h
  cases Sum.inr.inj h1
  exact Or.inl ⟨zm_out0 rfl, rfl, rfl⟩

set_option maxHeartbeats 40000000 in
set_option maxRecDepth 100000 in
/-- NeedMachineLaw.remove -/
theorem zr1_510 {xs : Nat → Int32} (N : zm_N) (d : Nat) (hd : 9 ≤ d) : zm_J N d 68 0 [(0, .ref 2), (1, .int 1)] [] (zg_0 xs) (fun z G => z = .inl (some (.int 2)) ∧ G = (zg_1 xs)) := by
  obtain ⟨d, rfl⟩ : ∃ e, d = e + 1 := ⟨d - 1, by omega⟩
  refine zm_J_run zm_T 2 (pc' := 2) (lv' := [(0, .ref 2), (1, .int 1)]) (st' := [.int 1, .ref 2]) (G' := (zg_0 xs)) rfl ?_
  refine zm_J_V (a := 2) (av := [.int 1]) (rest := []) (Q1 := fun z G => z = .inr (2, 37) ∧ G = (zg_1 xs)) (zm_T.1 68 2 _ rfl).1 zc_68_2 rfl (Nat.le_of_ble_eq_true rfl) (Nat.le_of_ble_eq_true rfl) (Nat.le_of_ble_eq_true rfl) (Nat.le_of_ble_eq_true rfl) (zr1_509 N _ (by omega)) ?_ ?_
  · intro v G' h; exact nomatch h.1
  intro x G' h
  obtain ⟨h1, rfl⟩ := h
  cases Sum.inr.inj h1
  refine Or.inr ⟨11, zt_68_2, ?_⟩
  show zm_J N _ 68 11 [(0, .ref 2), (1, .int 1)] [.ref 37] (zg_1 xs) _
  refine zm_J_run zm_T 2 (pc' := 13) (lv' := [(2, .ref 37), (0, .ref 2), (1, .int 1)]) (st' := [.int 2]) (G' := (zg_1 xs)) rfl ?_
  exact zm_J_fin zm_T rfl rfl ⟨rfl, rfl⟩

set_option maxHeartbeats 40000000 in
set_option maxRecDepth 100000 in
/-- NeedMachineModel.between -/
theorem zr1_511 {xs : Nat → Int32} (N : zm_N) (d : Nat) (hd : 1 ≤ d) : zm_J N d 73 0 [(0, .int 1), (1, .int 0), (2, .int 5)] [] (zg_1 xs) (fun z G => z = .inl (some (.int 1)) ∧ G = (zg_1 xs)) := by
  obtain ⟨d, rfl⟩ : ∃ e, d = e + 1 := ⟨d - 1, by omega⟩
  refine zm_J_run zm_T 2 (pc' := 2) (lv' := [(0, .int 1), (1, .int 0), (2, .int 5)]) (st' := [.int 0, .int 1]) (G' := (zg_1 xs)) rfl ?_
  refine zm_J_run zm_T 1 (pc' := if (1 : Int32) < 0 then 14 else 5) (lv' := [(0, .int 1), (1, .int 0), (2, .int 5)]) (st' := []) (G' := (zg_1 xs)) rfl ?_
  rw [if_neg (show ¬ ((1 : Int32) < 0) by decide +kernel)]
  refine zm_J_run zm_T 2 (pc' := 7) (lv' := [(0, .int 1), (1, .int 0), (2, .int 5)]) (st' := [.int 5, .int 1]) (G' := (zg_1 xs)) rfl ?_
  refine zm_J_run zm_T 1 (pc' := if (5 : Int32) < 1 then 14 else 10) (lv' := [(0, .int 1), (1, .int 0), (2, .int 5)]) (st' := []) (G' := (zg_1 xs)) rfl ?_
  rw [if_neg (show ¬ ((5 : Int32) < 1) by decide +kernel)]
  refine zm_J_run zm_T 2 (pc' := 15) (lv' := [(0, .int 1), (1, .int 0), (2, .int 5)]) (st' := [.int 1]) (G' := (zg_1 xs)) rfl ?_
  exact zm_J_fin zm_T rfl rfl ⟨rfl, rfl⟩

def zg_3 (xs : Nat → Int32) : zm_H := ([.inl (0, 3, .inl xs), .inr (99, []), .inr (0, [.ref 3, .ref 6, .ref 11, .null, .int 0, .int 0, .int 0, .int 0, .int 0]), .inr (1, [.int 0, .int (-1), .ref 4, .ref 5, .int 0, .int 0, .int 0, .int 0]), .inl (1, 40, .inl fun _ => 0), .inl (1, 4, .inl fun _ => 0), .inr (2, [.ref 7, .ref 8, .ref 9, .ref 10, .int 0, .int 0, .int 0]), .inr (3, [.int 1, .int 0, .null, .null, .null]), .inr (4, [.ref 1, .int 0, .int 0]), .inr (4, [.ref 1, .int 0, .int 0]), .inr (4, [.ref 1, .int 0, .int 0]), .inl (4, 6, .inr (.inr (.inr (.inr fun _ => none)))), .inr (5, [.ref 13, .ref 14, .ref 15, .ref 16, .ref 17, .ref 18, .ref 19, .ref 20, .int 0, .int (-1), .int 0, .int 0, .int 2, .ref 21, .ref 22, .ref 23, .ref 24, .ref 25, .ref 26, .ref 27, .ref 28, .ref 29, .ref 30, .int 0, .int 0, .int 0, .ref 31, .ref 32, .ref 33, .ref 34, .ref 35, .int 0, .int 0, .int 0, .int 0, .int 0, .int 0, .int 0, .int 0, .int 0, .int 0, .int 0, .int 0, .int 0]), .inl (0, 40, .inl fun _ => 0), .inl (0, 21200, .inl fun _ => 0), .inl (0, 240, .inl fun _ => 0), .inl (0, 6, .inl fun _ => 0), .inl (0, 24, .inl fun _ => 0), .inl (0, 6, .inl fun _ => 0), .inl (0, 16, .inl fun _ => 0), .inl (3, 6, .inl (upd (fun _ => 0) 1 0)), .inl (0, 16400, .inl fun _ => 0), .inl (0, 16400, .inl fun _ => 0), .inl (0, 16400, .inl fun _ => 0), .inl (0, 16400, .inl fun _ => 0), .inl (0, 16400, .inl fun _ => 0), .inl (0, 16400, .inl fun _ => 0), .inl (0, 1700, .inl fun _ => 0), .inl (0, 1700, .inl fun _ => 0), .inl (0, 16400, .inl fun _ => 0), .inl (0, 16400, .inl fun _ => 0), .inl (0, 64, .inl fun _ => 0), .inl (0, 64, .inl fun _ => 0), .inl (0, 64, .inl fun _ => 0), .inl (0, 64, .inl fun _ => 0), .inl (0, 64, .inl fun _ => 0), .inl (2, 1, .inr (.inl fun _ => 0)), .inr (10, [])], 156597)
set_option maxHeartbeats 40000000 in
set_option maxRecDepth 100000 in
/-- NeedMachineModel.remove -/
theorem zr1_512 {xs : Nat → Int32} (N : zm_N) (d : Nat) (hd : 2 ≤ d) : zm_J N d 106 0 [(0, .ref 12), (1, .int 1)] [] (zg_1 xs) (fun z G => z = .inl none ∧ G = (zg_3 xs)) := by
  obtain ⟨d, rfl⟩ : ∃ e, d = e + 1 := ⟨d - 1, by omega⟩
  refine zm_J_run zm_T 4 (pc' := 4) (lv' := [(0, .ref 12), (1, .int 1)]) (st' := [.int 5, .int 0, .int 1, .ref 12]) (G' := (zg_1 xs)) rfl ?_
  refine zm_J_S (av := [.int 1, .int 0, .int 5]) (rest := [.ref 12]) (Q1 := fun z G => z = .inl (some (.int 1)) ∧ G = (zg_1 xs)) (zm_T.1 106 4 _ rfl).1 zc_106_4 (Nat.le_of_ble_eq_true rfl) (Nat.le_of_ble_eq_true rfl) (Nat.le_of_ble_eq_true rfl) (Nat.le_of_ble_eq_true rfl) (zr1_511 N _ (by omega)) ?_ ?_
  rotate_left
  · intro x G' h; exact nomatch h.1
  intro v G' h
  obtain ⟨h1, rfl⟩ := h
  cases Sum.inl.inj h1
  show zm_J N _ 106 7 [(0, .ref 12), (1, .int 1)] [.int 1, .ref 12] (zg_1 xs) _
  refine zm_J_V (a := 12) (av := [.int 1]) (rest := []) (Q1 := fun z G => z = .inl (some (.int 0)) ∧ G = (zg_1 xs)) (zm_T.1 106 7 _ rfl).1 zc_106_7 rfl (Nat.le_of_ble_eq_true rfl) (Nat.le_of_ble_eq_true rfl) (Nat.le_of_ble_eq_true rfl) (Nat.le_of_ble_eq_true rfl) (zr0_505 N _ (by omega)) ?_ ?_
  rotate_left
  · intro x G' h; exact nomatch h.1
  intro v G' h
  obtain ⟨h1, rfl⟩ := h
  cases Sum.inl.inj h1
  show zm_J N _ 106 10 [(0, .ref 12), (1, .int 1)] [.int 0] (zg_1 xs) _
  refine zm_J_run zm_T 8 (pc' := 25) (lv' := [(0, .ref 12), (1, .int 1)]) (st' := [.int 2, .ref 12]) (G' := (zg_1 xs)) rfl ?_
  refine zm_J_run zm_T 6 (pc' := 35) (lv' := [(0, .ref 12), (1, .int 1)]) (st' := []) (G' := (zg_3 xs)) rfl ?_
  exact zm_J_fin zm_T rfl rfl ⟨rfl, rfl⟩

set_option maxHeartbeats 40000000 in
set_option maxRecDepth 100000 in
/-- NeedMachineModel.thrown -/
theorem zr1_513 {xs : Nat → Int32} (N : zm_N) (d : Nat) (hd : 1 ≤ d) : zm_J N d 71 0 [(0, .ref 12)] [] (zg_3 xs) (fun z G => z = .inl (some (.int 2)) ∧ G = (zg_3 xs)) := by
  obtain ⟨d, rfl⟩ : ∃ e, d = e + 1 := ⟨d - 1, by omega⟩
  refine zm_J_run zm_T 2 (pc' := 4) (lv' := [(0, .ref 12)]) (st' := [.int 2]) (G' := (zg_3 xs)) rfl ?_
  exact zm_J_fin zm_T rfl rfl ⟨rfl, rfl⟩

set_option maxHeartbeats 40000000 in
set_option maxRecDepth 100000 in
theorem zl_r1 {xs : Nat → Int32} (h : xs 1 = 1) (N : zm_N) (d : Nat) (hd : 10 ≤ d) : zm_J N d 0 39 [(4, .int 0), (3, .ref 36), (2, .ref 12), (1, .ref 2), (0, .ref 0)] [.int 6] (zg_0 xs) (fun z G => z = .inl (some (.int 1)) ∧ G = (zg_3 xs)) := by
  obtain ⟨d, rfl⟩ : ∃ e, d = e + 1 := ⟨d - 1, by omega⟩
  refine zm_J_run zm_T 7 (pc' := 399) (lv' := [(4, .int 0), (3, .ref 36), (2, .ref 12), (1, .ref 2), (0, .ref 0)]) (st' := [.int (xs 1), .ref 2]) (G' := (zg_0 xs)) rfl ?_
  rw [h]
  refine zm_J_S (av := [.ref 2, .int 1]) (rest := []) (Q1 := fun z G => z = .inl (some (.int 2)) ∧ G = (zg_1 xs)) (zm_T.1 0 399 _ rfl).1 zc_0_399 (Nat.le_of_ble_eq_true rfl) (Nat.le_of_ble_eq_true rfl) (Nat.le_of_ble_eq_true rfl) (Nat.le_of_ble_eq_true rfl) (zr1_510 N _ (by omega)) ?_ ?_
  rotate_left
  · intro x G' h; exact nomatch h.1
  intro v G' h
  obtain ⟨h1, rfl⟩ := h
  cases Sum.inl.inj h1
  show zm_J N _ 0 402 [(4, .int 0), (3, .ref 36), (2, .ref 12), (1, .ref 2), (0, .ref 0)] [.int 2] (zg_1 xs) _
  refine zm_J_run zm_T 7 (pc' := 411) (lv' := [(5, .int 2), (4, .int 0), (3, .ref 36), (2, .ref 12), (1, .ref 2), (0, .ref 0)]) (st' := [.int (xs 1), .ref 12]) (G' := (zg_1 xs)) rfl ?_
  rw [h]
  refine zm_J_V (a := 12) (av := [.int 1]) (rest := []) (Q1 := fun z G => z = .inl none ∧ G = (zg_3 xs)) (zm_T.1 0 411 _ rfl).1 zc_0_411 rfl (Nat.le_of_ble_eq_true rfl) (Nat.le_of_ble_eq_true rfl) (Nat.le_of_ble_eq_true rfl) (Nat.le_of_ble_eq_true rfl) (zr1_512 N _ (by omega)) ?_ ?_
  rotate_left
  · intro x G' h; exact nomatch h.1
  intro v G' h
  obtain ⟨h1, rfl⟩ := h
  cases Sum.inl.inj h1
  show zm_J N _ 0 414 [(5, .int 2), (4, .int 0), (3, .ref 36), (2, .ref 12), (1, .ref 2), (0, .ref 0)] [] (zg_3 xs) _
  refine zm_J_run zm_T 1 (pc' := 415) (lv' := [(5, .int 2), (4, .int 0), (3, .ref 36), (2, .ref 12), (1, .ref 2), (0, .ref 0)]) (st' := [.ref 12]) (G' := (zg_3 xs)) rfl ?_
  refine zm_J_V (a := 12) (av := []) (rest := []) (Q1 := fun z G => z = .inl (some (.int 2)) ∧ G = (zg_3 xs)) (zm_T.1 0 415 _ rfl).1 zc_0_415 rfl (Nat.le_of_ble_eq_true rfl) (Nat.le_of_ble_eq_true rfl) (Nat.le_of_ble_eq_true rfl) (Nat.le_of_ble_eq_true rfl) (zr1_513 N _ (by omega)) ?_ ?_
  rotate_left
  · intro x G' h; exact nomatch h.1
  intro v G' h
  obtain ⟨h1, rfl⟩ := h
  cases Sum.inl.inj h1
  show zm_J N _ 0 418 [(5, .int 2), (4, .int 0), (3, .ref 36), (2, .ref 12), (1, .ref 2), (0, .ref 0)] [.int 2] (zg_3 xs) _
  refine zm_J_run zm_T 8 (pc' := 27) (lv' := [(4, .int 3), (5, .int 2), (3, .ref 36), (2, .ref 12), (1, .ref 2), (0, .ref 0)]) (st' := [.int 3, .int 3]) (G' := (zg_3 xs)) rfl ?_
  refine zm_J_run zm_T 2 (pc' := 29) (lv' := [(4, .int 3), (5, .int 2), (3, .ref 36), (2, .ref 12), (1, .ref 2), (0, .ref 0)]) (st' := [.int (3 - 3), .int 3]) (G' := (zg_3 xs)) rfl ?_
  refine zm_J_run zm_T 1 (pc' := if ((3 - 3) : Int32) < 3 then 459 else 32) (lv' := [(4, .int 3), (5, .int 2), (3, .ref 36), (2, .ref 12), (1, .ref 2), (0, .ref 0)]) (st' := []) (G' := (zg_3 xs)) rfl ?_
  rw [if_pos (show ((3 - 3) : Int32) < 3 by decide +kernel)]
  refine zm_J_run zm_T 1 (pc' := 460) (lv' := [(4, .int 3), (5, .int 2), (3, .ref 36), (2, .ref 12), (1, .ref 2), (0, .ref 0)]) (st' := [.int 1]) (G' := (zg_3 xs)) rfl ?_
  exact zm_J_fin zm_T rfl rfl ⟨rfl, rfl⟩

set_option maxHeartbeats 40000000 in
set_option maxRecDepth 100000 in
/-- NeedMachine.definitionOf -/
theorem zr2_514 {xs : Nat → Int32} (N : zm_N) (d : Nat) (hd : 7 ≤ d) : zm_J N d 44 0 [(0, .ref 2), (1, .int 2)] [] (zg_0 xs) (fun z G => z = .inr (2, 37) ∧ G = (zg_1 xs)) := by
  obtain ⟨d, rfl⟩ : ∃ e, d = e + 1 := ⟨d - 1, by omega⟩
  refine zm_J_run zm_T 7 (pc' := 11) (lv' := [(2, .null), (0, .ref 2), (1, .int 2)]) (st' := []) (G' := (zg_0 xs)) rfl ?_
  exact zm_J_throw zx_44_11 (by omega) (Nat.le_of_ble_eq_true rfl) rfl ⟨rfl, rfl⟩

set_option maxHeartbeats 40000000 in
set_option maxRecDepth 100000 in
/-- NeedMachine.remove -/
theorem zr2_515 {xs : Nat → Int32} (N : zm_N) (d : Nat) (hd : 8 ≤ d) : zm_J N d 69 0 [(0, .ref 2), (1, .int 2)] [] (zg_0 xs) (fun z G => z = .inr (2, 37) ∧ G = (zg_1 xs)) := by
  obtain ⟨d, rfl⟩ : ∃ e, d = e + 1 := ⟨d - 1, by omega⟩
  refine zm_J_run zm_T 1 (pc' := 1) (lv' := [(0, .ref 2), (1, .int 2)]) (st' := [.int 2]) (G' := (zg_0 xs)) rfl ?_
  refine zm_J_run zm_T 1 (pc' := if (2 : Int32) < 0 then 10 else 4) (lv' := [(0, .ref 2), (1, .int 2)]) (st' := []) (G' := (zg_0 xs)) rfl ?_
  rw [if_neg (show ¬ ((2 : Int32) < 0) by decide +kernel)]
  refine zm_J_run zm_T 2 (pc' := 7) (lv' := [(0, .ref 2), (1, .int 2)]) (st' := [.int 6, .int 2]) (G' := (zg_0 xs)) rfl ?_
  refine zm_J_run zm_T 1 (pc' := if (2 : Int32) < 6 then 20 else 10) (lv' := [(0, .ref 2), (1, .int 2)]) (st' := []) (G' := (zg_0 xs)) rfl ?_
  rw [if_pos (show (2 : Int32) < 6 by decide +kernel)]
  refine zm_J_run zm_T 2 (pc' := 22) (lv' := [(0, .ref 2), (1, .int 2)]) (st' := [.int 2, .ref 2]) (G' := (zg_0 xs)) rfl ?_
  refine zm_J_V (a := 2) (av := [.int 2]) (rest := []) (Q1 := fun z G => z = .inr (2, 37) ∧ G = (zg_1 xs)) (zm_T.1 69 22 _ rfl).1 zc_69_22 rfl (Nat.le_of_ble_eq_true rfl) (Nat.le_of_ble_eq_true rfl) (Nat.le_of_ble_eq_true rfl) (Nat.le_of_ble_eq_true rfl) (zr2_514 N _ (by omega)) ?_ ?_
  · intro v G' h; exact nomatch h.1
  intro x G' h
  obtain ⟨h1, rfl⟩ := h
  cases Sum.inr.inj h1
  exact Or.inl ⟨zm_out0 rfl, rfl, rfl⟩

set_option maxHeartbeats 40000000 in
set_option maxRecDepth 100000 in
/-- NeedMachineLaw.remove -/
theorem zr2_516 {xs : Nat → Int32} (N : zm_N) (d : Nat) (hd : 9 ≤ d) : zm_J N d 68 0 [(0, .ref 2), (1, .int 2)] [] (zg_0 xs) (fun z G => z = .inl (some (.int 2)) ∧ G = (zg_1 xs)) := by
  obtain ⟨d, rfl⟩ : ∃ e, d = e + 1 := ⟨d - 1, by omega⟩
  refine zm_J_run zm_T 2 (pc' := 2) (lv' := [(0, .ref 2), (1, .int 2)]) (st' := [.int 2, .ref 2]) (G' := (zg_0 xs)) rfl ?_
  refine zm_J_V (a := 2) (av := [.int 2]) (rest := []) (Q1 := fun z G => z = .inr (2, 37) ∧ G = (zg_1 xs)) (zm_T.1 68 2 _ rfl).1 zc_68_2 rfl (Nat.le_of_ble_eq_true rfl) (Nat.le_of_ble_eq_true rfl) (Nat.le_of_ble_eq_true rfl) (Nat.le_of_ble_eq_true rfl) (zr2_515 N _ (by omega)) ?_ ?_
  · intro v G' h; exact nomatch h.1
  intro x G' h
  obtain ⟨h1, rfl⟩ := h
  cases Sum.inr.inj h1
  refine Or.inr ⟨11, zt_68_2, ?_⟩
  show zm_J N _ 68 11 [(0, .ref 2), (1, .int 2)] [.ref 37] (zg_1 xs) _
  refine zm_J_run zm_T 2 (pc' := 13) (lv' := [(2, .ref 37), (0, .ref 2), (1, .int 2)]) (st' := [.int 2]) (G' := (zg_1 xs)) rfl ?_
  exact zm_J_fin zm_T rfl rfl ⟨rfl, rfl⟩

set_option maxHeartbeats 40000000 in
set_option maxRecDepth 100000 in
/-- NeedMachineModel.between -/
theorem zr2_517 {xs : Nat → Int32} (N : zm_N) (d : Nat) (hd : 1 ≤ d) : zm_J N d 73 0 [(0, .int 2), (1, .int 0), (2, .int 5)] [] (zg_1 xs) (fun z G => z = .inl (some (.int 1)) ∧ G = (zg_1 xs)) := by
  obtain ⟨d, rfl⟩ : ∃ e, d = e + 1 := ⟨d - 1, by omega⟩
  refine zm_J_run zm_T 2 (pc' := 2) (lv' := [(0, .int 2), (1, .int 0), (2, .int 5)]) (st' := [.int 0, .int 2]) (G' := (zg_1 xs)) rfl ?_
  refine zm_J_run zm_T 1 (pc' := if (2 : Int32) < 0 then 14 else 5) (lv' := [(0, .int 2), (1, .int 0), (2, .int 5)]) (st' := []) (G' := (zg_1 xs)) rfl ?_
  rw [if_neg (show ¬ ((2 : Int32) < 0) by decide +kernel)]
  refine zm_J_run zm_T 2 (pc' := 7) (lv' := [(0, .int 2), (1, .int 0), (2, .int 5)]) (st' := [.int 5, .int 2]) (G' := (zg_1 xs)) rfl ?_
  refine zm_J_run zm_T 1 (pc' := if (5 : Int32) < 2 then 14 else 10) (lv' := [(0, .int 2), (1, .int 0), (2, .int 5)]) (st' := []) (G' := (zg_1 xs)) rfl ?_
  rw [if_neg (show ¬ ((5 : Int32) < 2) by decide +kernel)]
  refine zm_J_run zm_T 2 (pc' := 15) (lv' := [(0, .int 2), (1, .int 0), (2, .int 5)]) (st' := [.int 1]) (G' := (zg_1 xs)) rfl ?_
  exact zm_J_fin zm_T rfl rfl ⟨rfl, rfl⟩

def zg_4 (xs : Nat → Int32) : zm_H := ([.inl (0, 3, .inl xs), .inr (99, []), .inr (0, [.ref 3, .ref 6, .ref 11, .null, .int 0, .int 0, .int 0, .int 0, .int 0]), .inr (1, [.int 0, .int (-1), .ref 4, .ref 5, .int 0, .int 0, .int 0, .int 0]), .inl (1, 40, .inl fun _ => 0), .inl (1, 4, .inl fun _ => 0), .inr (2, [.ref 7, .ref 8, .ref 9, .ref 10, .int 0, .int 0, .int 0]), .inr (3, [.int 1, .int 0, .null, .null, .null]), .inr (4, [.ref 1, .int 0, .int 0]), .inr (4, [.ref 1, .int 0, .int 0]), .inr (4, [.ref 1, .int 0, .int 0]), .inl (4, 6, .inr (.inr (.inr (.inr fun _ => none)))), .inr (5, [.ref 13, .ref 14, .ref 15, .ref 16, .ref 17, .ref 18, .ref 19, .ref 20, .int 0, .int (-1), .int 0, .int 0, .int 2, .ref 21, .ref 22, .ref 23, .ref 24, .ref 25, .ref 26, .ref 27, .ref 28, .ref 29, .ref 30, .int 0, .int 0, .int 0, .ref 31, .ref 32, .ref 33, .ref 34, .ref 35, .int 0, .int 0, .int 0, .int 0, .int 0, .int 0, .int 0, .int 0, .int 0, .int 0, .int 0, .int 0, .int 0]), .inl (0, 40, .inl fun _ => 0), .inl (0, 21200, .inl fun _ => 0), .inl (0, 240, .inl fun _ => 0), .inl (0, 6, .inl fun _ => 0), .inl (0, 24, .inl fun _ => 0), .inl (0, 6, .inl fun _ => 0), .inl (0, 16, .inl fun _ => 0), .inl (3, 6, .inl (upd (fun _ => 0) 2 0)), .inl (0, 16400, .inl fun _ => 0), .inl (0, 16400, .inl fun _ => 0), .inl (0, 16400, .inl fun _ => 0), .inl (0, 16400, .inl fun _ => 0), .inl (0, 16400, .inl fun _ => 0), .inl (0, 16400, .inl fun _ => 0), .inl (0, 1700, .inl fun _ => 0), .inl (0, 1700, .inl fun _ => 0), .inl (0, 16400, .inl fun _ => 0), .inl (0, 16400, .inl fun _ => 0), .inl (0, 64, .inl fun _ => 0), .inl (0, 64, .inl fun _ => 0), .inl (0, 64, .inl fun _ => 0), .inl (0, 64, .inl fun _ => 0), .inl (0, 64, .inl fun _ => 0), .inl (2, 1, .inr (.inl fun _ => 0)), .inr (10, [])], 156597)
set_option maxHeartbeats 40000000 in
set_option maxRecDepth 100000 in
/-- NeedMachineModel.remove -/
theorem zr2_518 {xs : Nat → Int32} (N : zm_N) (d : Nat) (hd : 2 ≤ d) : zm_J N d 106 0 [(0, .ref 12), (1, .int 2)] [] (zg_1 xs) (fun z G => z = .inl none ∧ G = (zg_4 xs)) := by
  obtain ⟨d, rfl⟩ : ∃ e, d = e + 1 := ⟨d - 1, by omega⟩
  refine zm_J_run zm_T 4 (pc' := 4) (lv' := [(0, .ref 12), (1, .int 2)]) (st' := [.int 5, .int 0, .int 2, .ref 12]) (G' := (zg_1 xs)) rfl ?_
  refine zm_J_S (av := [.int 2, .int 0, .int 5]) (rest := [.ref 12]) (Q1 := fun z G => z = .inl (some (.int 1)) ∧ G = (zg_1 xs)) (zm_T.1 106 4 _ rfl).1 zc_106_4 (Nat.le_of_ble_eq_true rfl) (Nat.le_of_ble_eq_true rfl) (Nat.le_of_ble_eq_true rfl) (Nat.le_of_ble_eq_true rfl) (zr2_517 N _ (by omega)) ?_ ?_
  rotate_left
  · intro x G' h; exact nomatch h.1
  intro v G' h
  obtain ⟨h1, rfl⟩ := h
  cases Sum.inl.inj h1
  show zm_J N _ 106 7 [(0, .ref 12), (1, .int 2)] [.int 1, .ref 12] (zg_1 xs) _
  refine zm_J_V (a := 12) (av := [.int 1]) (rest := []) (Q1 := fun z G => z = .inl (some (.int 0)) ∧ G = (zg_1 xs)) (zm_T.1 106 7 _ rfl).1 zc_106_7 rfl (Nat.le_of_ble_eq_true rfl) (Nat.le_of_ble_eq_true rfl) (Nat.le_of_ble_eq_true rfl) (Nat.le_of_ble_eq_true rfl) (zr0_505 N _ (by omega)) ?_ ?_
  rotate_left
  · intro x G' h; exact nomatch h.1
  intro v G' h
  obtain ⟨h1, rfl⟩ := h
  cases Sum.inl.inj h1
  show zm_J N _ 106 10 [(0, .ref 12), (1, .int 2)] [.int 0] (zg_1 xs) _
  refine zm_J_run zm_T 8 (pc' := 25) (lv' := [(0, .ref 12), (1, .int 2)]) (st' := [.int 2, .ref 12]) (G' := (zg_1 xs)) rfl ?_
  refine zm_J_run zm_T 6 (pc' := 35) (lv' := [(0, .ref 12), (1, .int 2)]) (st' := []) (G' := (zg_4 xs)) rfl ?_
  exact zm_J_fin zm_T rfl rfl ⟨rfl, rfl⟩

set_option maxHeartbeats 40000000 in
set_option maxRecDepth 100000 in
/-- NeedMachineModel.thrown -/
theorem zr2_519 {xs : Nat → Int32} (N : zm_N) (d : Nat) (hd : 1 ≤ d) : zm_J N d 71 0 [(0, .ref 12)] [] (zg_4 xs) (fun z G => z = .inl (some (.int 2)) ∧ G = (zg_4 xs)) := by
  obtain ⟨d, rfl⟩ : ∃ e, d = e + 1 := ⟨d - 1, by omega⟩
  refine zm_J_run zm_T 2 (pc' := 4) (lv' := [(0, .ref 12)]) (st' := [.int 2]) (G' := (zg_4 xs)) rfl ?_
  exact zm_J_fin zm_T rfl rfl ⟨rfl, rfl⟩

set_option maxHeartbeats 40000000 in
set_option maxRecDepth 100000 in
theorem zl_r2 {xs : Nat → Int32} (h : xs 1 = 2) (N : zm_N) (d : Nat) (hd : 10 ≤ d) : zm_J N d 0 39 [(4, .int 0), (3, .ref 36), (2, .ref 12), (1, .ref 2), (0, .ref 0)] [.int 6] (zg_0 xs) (fun z G => z = .inl (some (.int 1)) ∧ G = (zg_4 xs)) := by
  obtain ⟨d, rfl⟩ : ∃ e, d = e + 1 := ⟨d - 1, by omega⟩
  refine zm_J_run zm_T 7 (pc' := 399) (lv' := [(4, .int 0), (3, .ref 36), (2, .ref 12), (1, .ref 2), (0, .ref 0)]) (st' := [.int (xs 1), .ref 2]) (G' := (zg_0 xs)) rfl ?_
  rw [h]
  refine zm_J_S (av := [.ref 2, .int 2]) (rest := []) (Q1 := fun z G => z = .inl (some (.int 2)) ∧ G = (zg_1 xs)) (zm_T.1 0 399 _ rfl).1 zc_0_399 (Nat.le_of_ble_eq_true rfl) (Nat.le_of_ble_eq_true rfl) (Nat.le_of_ble_eq_true rfl) (Nat.le_of_ble_eq_true rfl) (zr2_516 N _ (by omega)) ?_ ?_
  rotate_left
  · intro x G' h; exact nomatch h.1
  intro v G' h
  obtain ⟨h1, rfl⟩ := h
  cases Sum.inl.inj h1
  show zm_J N _ 0 402 [(4, .int 0), (3, .ref 36), (2, .ref 12), (1, .ref 2), (0, .ref 0)] [.int 2] (zg_1 xs) _
  refine zm_J_run zm_T 7 (pc' := 411) (lv' := [(5, .int 2), (4, .int 0), (3, .ref 36), (2, .ref 12), (1, .ref 2), (0, .ref 0)]) (st' := [.int (xs 1), .ref 12]) (G' := (zg_1 xs)) rfl ?_
  rw [h]
  refine zm_J_V (a := 12) (av := [.int 2]) (rest := []) (Q1 := fun z G => z = .inl none ∧ G = (zg_4 xs)) (zm_T.1 0 411 _ rfl).1 zc_0_411 rfl (Nat.le_of_ble_eq_true rfl) (Nat.le_of_ble_eq_true rfl) (Nat.le_of_ble_eq_true rfl) (Nat.le_of_ble_eq_true rfl) (zr2_518 N _ (by omega)) ?_ ?_
  rotate_left
  · intro x G' h; exact nomatch h.1
  intro v G' h
  obtain ⟨h1, rfl⟩ := h
  cases Sum.inl.inj h1
  show zm_J N _ 0 414 [(5, .int 2), (4, .int 0), (3, .ref 36), (2, .ref 12), (1, .ref 2), (0, .ref 0)] [] (zg_4 xs) _
  refine zm_J_run zm_T 1 (pc' := 415) (lv' := [(5, .int 2), (4, .int 0), (3, .ref 36), (2, .ref 12), (1, .ref 2), (0, .ref 0)]) (st' := [.ref 12]) (G' := (zg_4 xs)) rfl ?_
  refine zm_J_V (a := 12) (av := []) (rest := []) (Q1 := fun z G => z = .inl (some (.int 2)) ∧ G = (zg_4 xs)) (zm_T.1 0 415 _ rfl).1 zc_0_415 rfl (Nat.le_of_ble_eq_true rfl) (Nat.le_of_ble_eq_true rfl) (Nat.le_of_ble_eq_true rfl) (Nat.le_of_ble_eq_true rfl) (zr2_519 N _ (by omega)) ?_ ?_
  rotate_left
  · intro x G' h; exact nomatch h.1
  intro v G' h
  obtain ⟨h1, rfl⟩ := h
  cases Sum.inl.inj h1
  show zm_J N _ 0 418 [(5, .int 2), (4, .int 0), (3, .ref 36), (2, .ref 12), (1, .ref 2), (0, .ref 0)] [.int 2] (zg_4 xs) _
  refine zm_J_run zm_T 8 (pc' := 27) (lv' := [(4, .int 3), (5, .int 2), (3, .ref 36), (2, .ref 12), (1, .ref 2), (0, .ref 0)]) (st' := [.int 3, .int 3]) (G' := (zg_4 xs)) rfl ?_
  refine zm_J_run zm_T 2 (pc' := 29) (lv' := [(4, .int 3), (5, .int 2), (3, .ref 36), (2, .ref 12), (1, .ref 2), (0, .ref 0)]) (st' := [.int (3 - 3), .int 3]) (G' := (zg_4 xs)) rfl ?_
  refine zm_J_run zm_T 1 (pc' := if ((3 - 3) : Int32) < 3 then 459 else 32) (lv' := [(4, .int 3), (5, .int 2), (3, .ref 36), (2, .ref 12), (1, .ref 2), (0, .ref 0)]) (st' := []) (G' := (zg_4 xs)) rfl ?_
  rw [if_pos (show ((3 - 3) : Int32) < 3 by decide +kernel)]
  refine zm_J_run zm_T 1 (pc' := 460) (lv' := [(4, .int 3), (5, .int 2), (3, .ref 36), (2, .ref 12), (1, .ref 2), (0, .ref 0)]) (st' := [.int 1]) (G' := (zg_4 xs)) rfl ?_
  exact zm_J_fin zm_T rfl rfl ⟨rfl, rfl⟩

set_option maxHeartbeats 40000000 in
set_option maxRecDepth 100000 in
/-- NeedMachine.definitionOf -/
theorem zr3_520 {xs : Nat → Int32} (N : zm_N) (d : Nat) (hd : 7 ≤ d) : zm_J N d 44 0 [(0, .ref 2), (1, .int 3)] [] (zg_0 xs) (fun z G => z = .inr (2, 37) ∧ G = (zg_1 xs)) := by
  obtain ⟨d, rfl⟩ : ∃ e, d = e + 1 := ⟨d - 1, by omega⟩
  refine zm_J_run zm_T 7 (pc' := 11) (lv' := [(2, .null), (0, .ref 2), (1, .int 3)]) (st' := []) (G' := (zg_0 xs)) rfl ?_
  exact zm_J_throw zx_44_11 (by omega) (Nat.le_of_ble_eq_true rfl) rfl ⟨rfl, rfl⟩

set_option maxHeartbeats 40000000 in
set_option maxRecDepth 100000 in
/-- NeedMachine.remove -/
theorem zr3_521 {xs : Nat → Int32} (N : zm_N) (d : Nat) (hd : 8 ≤ d) : zm_J N d 69 0 [(0, .ref 2), (1, .int 3)] [] (zg_0 xs) (fun z G => z = .inr (2, 37) ∧ G = (zg_1 xs)) := by
  obtain ⟨d, rfl⟩ : ∃ e, d = e + 1 := ⟨d - 1, by omega⟩
  refine zm_J_run zm_T 1 (pc' := 1) (lv' := [(0, .ref 2), (1, .int 3)]) (st' := [.int 3]) (G' := (zg_0 xs)) rfl ?_
  refine zm_J_run zm_T 1 (pc' := if (3 : Int32) < 0 then 10 else 4) (lv' := [(0, .ref 2), (1, .int 3)]) (st' := []) (G' := (zg_0 xs)) rfl ?_
  rw [if_neg (show ¬ ((3 : Int32) < 0) by decide +kernel)]
  refine zm_J_run zm_T 2 (pc' := 7) (lv' := [(0, .ref 2), (1, .int 3)]) (st' := [.int 6, .int 3]) (G' := (zg_0 xs)) rfl ?_
  refine zm_J_run zm_T 1 (pc' := if (3 : Int32) < 6 then 20 else 10) (lv' := [(0, .ref 2), (1, .int 3)]) (st' := []) (G' := (zg_0 xs)) rfl ?_
  rw [if_pos (show (3 : Int32) < 6 by decide +kernel)]
  refine zm_J_run zm_T 2 (pc' := 22) (lv' := [(0, .ref 2), (1, .int 3)]) (st' := [.int 3, .ref 2]) (G' := (zg_0 xs)) rfl ?_
  refine zm_J_V (a := 2) (av := [.int 3]) (rest := []) (Q1 := fun z G => z = .inr (2, 37) ∧ G = (zg_1 xs)) (zm_T.1 69 22 _ rfl).1 zc_69_22 rfl (Nat.le_of_ble_eq_true rfl) (Nat.le_of_ble_eq_true rfl) (Nat.le_of_ble_eq_true rfl) (Nat.le_of_ble_eq_true rfl) (zr3_520 N _ (by omega)) ?_ ?_
  · intro v G' h; exact nomatch h.1
  intro x G' h
  obtain ⟨h1, rfl⟩ := h
  cases Sum.inr.inj h1
  exact Or.inl ⟨zm_out0 rfl, rfl, rfl⟩

set_option maxHeartbeats 40000000 in
set_option maxRecDepth 100000 in
/-- NeedMachineLaw.remove -/
theorem zr3_522 {xs : Nat → Int32} (N : zm_N) (d : Nat) (hd : 9 ≤ d) : zm_J N d 68 0 [(0, .ref 2), (1, .int 3)] [] (zg_0 xs) (fun z G => z = .inl (some (.int 2)) ∧ G = (zg_1 xs)) := by
  obtain ⟨d, rfl⟩ : ∃ e, d = e + 1 := ⟨d - 1, by omega⟩
  refine zm_J_run zm_T 2 (pc' := 2) (lv' := [(0, .ref 2), (1, .int 3)]) (st' := [.int 3, .ref 2]) (G' := (zg_0 xs)) rfl ?_
  refine zm_J_V (a := 2) (av := [.int 3]) (rest := []) (Q1 := fun z G => z = .inr (2, 37) ∧ G = (zg_1 xs)) (zm_T.1 68 2 _ rfl).1 zc_68_2 rfl (Nat.le_of_ble_eq_true rfl) (Nat.le_of_ble_eq_true rfl) (Nat.le_of_ble_eq_true rfl) (Nat.le_of_ble_eq_true rfl) (zr3_521 N _ (by omega)) ?_ ?_
  · intro v G' h; exact nomatch h.1
  intro x G' h
  obtain ⟨h1, rfl⟩ := h
  cases Sum.inr.inj h1
  refine Or.inr ⟨11, zt_68_2, ?_⟩
  show zm_J N _ 68 11 [(0, .ref 2), (1, .int 3)] [.ref 37] (zg_1 xs) _
  refine zm_J_run zm_T 2 (pc' := 13) (lv' := [(2, .ref 37), (0, .ref 2), (1, .int 3)]) (st' := [.int 2]) (G' := (zg_1 xs)) rfl ?_
  exact zm_J_fin zm_T rfl rfl ⟨rfl, rfl⟩

set_option maxHeartbeats 40000000 in
set_option maxRecDepth 100000 in
/-- NeedMachineModel.between -/
theorem zr3_523 {xs : Nat → Int32} (N : zm_N) (d : Nat) (hd : 1 ≤ d) : zm_J N d 73 0 [(0, .int 3), (1, .int 0), (2, .int 5)] [] (zg_1 xs) (fun z G => z = .inl (some (.int 1)) ∧ G = (zg_1 xs)) := by
  obtain ⟨d, rfl⟩ : ∃ e, d = e + 1 := ⟨d - 1, by omega⟩
  refine zm_J_run zm_T 2 (pc' := 2) (lv' := [(0, .int 3), (1, .int 0), (2, .int 5)]) (st' := [.int 0, .int 3]) (G' := (zg_1 xs)) rfl ?_
  refine zm_J_run zm_T 1 (pc' := if (3 : Int32) < 0 then 14 else 5) (lv' := [(0, .int 3), (1, .int 0), (2, .int 5)]) (st' := []) (G' := (zg_1 xs)) rfl ?_
  rw [if_neg (show ¬ ((3 : Int32) < 0) by decide +kernel)]
  refine zm_J_run zm_T 2 (pc' := 7) (lv' := [(0, .int 3), (1, .int 0), (2, .int 5)]) (st' := [.int 5, .int 3]) (G' := (zg_1 xs)) rfl ?_
  refine zm_J_run zm_T 1 (pc' := if (5 : Int32) < 3 then 14 else 10) (lv' := [(0, .int 3), (1, .int 0), (2, .int 5)]) (st' := []) (G' := (zg_1 xs)) rfl ?_
  rw [if_neg (show ¬ ((5 : Int32) < 3) by decide +kernel)]
  refine zm_J_run zm_T 2 (pc' := 15) (lv' := [(0, .int 3), (1, .int 0), (2, .int 5)]) (st' := [.int 1]) (G' := (zg_1 xs)) rfl ?_
  exact zm_J_fin zm_T rfl rfl ⟨rfl, rfl⟩

def zg_5 (xs : Nat → Int32) : zm_H := ([.inl (0, 3, .inl xs), .inr (99, []), .inr (0, [.ref 3, .ref 6, .ref 11, .null, .int 0, .int 0, .int 0, .int 0, .int 0]), .inr (1, [.int 0, .int (-1), .ref 4, .ref 5, .int 0, .int 0, .int 0, .int 0]), .inl (1, 40, .inl fun _ => 0), .inl (1, 4, .inl fun _ => 0), .inr (2, [.ref 7, .ref 8, .ref 9, .ref 10, .int 0, .int 0, .int 0]), .inr (3, [.int 1, .int 0, .null, .null, .null]), .inr (4, [.ref 1, .int 0, .int 0]), .inr (4, [.ref 1, .int 0, .int 0]), .inr (4, [.ref 1, .int 0, .int 0]), .inl (4, 6, .inr (.inr (.inr (.inr fun _ => none)))), .inr (5, [.ref 13, .ref 14, .ref 15, .ref 16, .ref 17, .ref 18, .ref 19, .ref 20, .int 0, .int (-1), .int 0, .int 0, .int 2, .ref 21, .ref 22, .ref 23, .ref 24, .ref 25, .ref 26, .ref 27, .ref 28, .ref 29, .ref 30, .int 0, .int 0, .int 0, .ref 31, .ref 32, .ref 33, .ref 34, .ref 35, .int 0, .int 0, .int 0, .int 0, .int 0, .int 0, .int 0, .int 0, .int 0, .int 0, .int 0, .int 0, .int 0]), .inl (0, 40, .inl fun _ => 0), .inl (0, 21200, .inl fun _ => 0), .inl (0, 240, .inl fun _ => 0), .inl (0, 6, .inl fun _ => 0), .inl (0, 24, .inl fun _ => 0), .inl (0, 6, .inl fun _ => 0), .inl (0, 16, .inl fun _ => 0), .inl (3, 6, .inl (upd (fun _ => 0) 3 0)), .inl (0, 16400, .inl fun _ => 0), .inl (0, 16400, .inl fun _ => 0), .inl (0, 16400, .inl fun _ => 0), .inl (0, 16400, .inl fun _ => 0), .inl (0, 16400, .inl fun _ => 0), .inl (0, 16400, .inl fun _ => 0), .inl (0, 1700, .inl fun _ => 0), .inl (0, 1700, .inl fun _ => 0), .inl (0, 16400, .inl fun _ => 0), .inl (0, 16400, .inl fun _ => 0), .inl (0, 64, .inl fun _ => 0), .inl (0, 64, .inl fun _ => 0), .inl (0, 64, .inl fun _ => 0), .inl (0, 64, .inl fun _ => 0), .inl (0, 64, .inl fun _ => 0), .inl (2, 1, .inr (.inl fun _ => 0)), .inr (10, [])], 156597)
set_option maxHeartbeats 40000000 in
set_option maxRecDepth 100000 in
/-- NeedMachineModel.remove -/
theorem zr3_524 {xs : Nat → Int32} (N : zm_N) (d : Nat) (hd : 2 ≤ d) : zm_J N d 106 0 [(0, .ref 12), (1, .int 3)] [] (zg_1 xs) (fun z G => z = .inl none ∧ G = (zg_5 xs)) := by
  obtain ⟨d, rfl⟩ : ∃ e, d = e + 1 := ⟨d - 1, by omega⟩
  refine zm_J_run zm_T 4 (pc' := 4) (lv' := [(0, .ref 12), (1, .int 3)]) (st' := [.int 5, .int 0, .int 3, .ref 12]) (G' := (zg_1 xs)) rfl ?_
  refine zm_J_S (av := [.int 3, .int 0, .int 5]) (rest := [.ref 12]) (Q1 := fun z G => z = .inl (some (.int 1)) ∧ G = (zg_1 xs)) (zm_T.1 106 4 _ rfl).1 zc_106_4 (Nat.le_of_ble_eq_true rfl) (Nat.le_of_ble_eq_true rfl) (Nat.le_of_ble_eq_true rfl) (Nat.le_of_ble_eq_true rfl) (zr3_523 N _ (by omega)) ?_ ?_
  rotate_left
  · intro x G' h; exact nomatch h.1
  intro v G' h
  obtain ⟨h1, rfl⟩ := h
  cases Sum.inl.inj h1
  show zm_J N _ 106 7 [(0, .ref 12), (1, .int 3)] [.int 1, .ref 12] (zg_1 xs) _
  refine zm_J_V (a := 12) (av := [.int 1]) (rest := []) (Q1 := fun z G => z = .inl (some (.int 0)) ∧ G = (zg_1 xs)) (zm_T.1 106 7 _ rfl).1 zc_106_7 rfl (Nat.le_of_ble_eq_true rfl) (Nat.le_of_ble_eq_true rfl) (Nat.le_of_ble_eq_true rfl) (Nat.le_of_ble_eq_true rfl) (zr0_505 N _ (by omega)) ?_ ?_
  rotate_left
  · intro x G' h; exact nomatch h.1
  intro v G' h
  obtain ⟨h1, rfl⟩ := h
  cases Sum.inl.inj h1
  show zm_J N _ 106 10 [(0, .ref 12), (1, .int 3)] [.int 0] (zg_1 xs) _
  refine zm_J_run zm_T 8 (pc' := 25) (lv' := [(0, .ref 12), (1, .int 3)]) (st' := [.int 2, .ref 12]) (G' := (zg_1 xs)) rfl ?_
  refine zm_J_run zm_T 6 (pc' := 35) (lv' := [(0, .ref 12), (1, .int 3)]) (st' := []) (G' := (zg_5 xs)) rfl ?_
  exact zm_J_fin zm_T rfl rfl ⟨rfl, rfl⟩

set_option maxHeartbeats 40000000 in
set_option maxRecDepth 100000 in
/-- NeedMachineModel.thrown -/
theorem zr3_525 {xs : Nat → Int32} (N : zm_N) (d : Nat) (hd : 1 ≤ d) : zm_J N d 71 0 [(0, .ref 12)] [] (zg_5 xs) (fun z G => z = .inl (some (.int 2)) ∧ G = (zg_5 xs)) := by
  obtain ⟨d, rfl⟩ : ∃ e, d = e + 1 := ⟨d - 1, by omega⟩
  refine zm_J_run zm_T 2 (pc' := 4) (lv' := [(0, .ref 12)]) (st' := [.int 2]) (G' := (zg_5 xs)) rfl ?_
  exact zm_J_fin zm_T rfl rfl ⟨rfl, rfl⟩

set_option maxHeartbeats 40000000 in
set_option maxRecDepth 100000 in
theorem zl_r3 {xs : Nat → Int32} (h : xs 1 = 3) (N : zm_N) (d : Nat) (hd : 10 ≤ d) : zm_J N d 0 39 [(4, .int 0), (3, .ref 36), (2, .ref 12), (1, .ref 2), (0, .ref 0)] [.int 6] (zg_0 xs) (fun z G => z = .inl (some (.int 1)) ∧ G = (zg_5 xs)) := by
  obtain ⟨d, rfl⟩ : ∃ e, d = e + 1 := ⟨d - 1, by omega⟩
  refine zm_J_run zm_T 7 (pc' := 399) (lv' := [(4, .int 0), (3, .ref 36), (2, .ref 12), (1, .ref 2), (0, .ref 0)]) (st' := [.int (xs 1), .ref 2]) (G' := (zg_0 xs)) rfl ?_
  rw [h]
  refine zm_J_S (av := [.ref 2, .int 3]) (rest := []) (Q1 := fun z G => z = .inl (some (.int 2)) ∧ G = (zg_1 xs)) (zm_T.1 0 399 _ rfl).1 zc_0_399 (Nat.le_of_ble_eq_true rfl) (Nat.le_of_ble_eq_true rfl) (Nat.le_of_ble_eq_true rfl) (Nat.le_of_ble_eq_true rfl) (zr3_522 N _ (by omega)) ?_ ?_
  rotate_left
  · intro x G' h; exact nomatch h.1
  intro v G' h
  obtain ⟨h1, rfl⟩ := h
  cases Sum.inl.inj h1
  show zm_J N _ 0 402 [(4, .int 0), (3, .ref 36), (2, .ref 12), (1, .ref 2), (0, .ref 0)] [.int 2] (zg_1 xs) _
  refine zm_J_run zm_T 7 (pc' := 411) (lv' := [(5, .int 2), (4, .int 0), (3, .ref 36), (2, .ref 12), (1, .ref 2), (0, .ref 0)]) (st' := [.int (xs 1), .ref 12]) (G' := (zg_1 xs)) rfl ?_
  rw [h]
  refine zm_J_V (a := 12) (av := [.int 3]) (rest := []) (Q1 := fun z G => z = .inl none ∧ G = (zg_5 xs)) (zm_T.1 0 411 _ rfl).1 zc_0_411 rfl (Nat.le_of_ble_eq_true rfl) (Nat.le_of_ble_eq_true rfl) (Nat.le_of_ble_eq_true rfl) (Nat.le_of_ble_eq_true rfl) (zr3_524 N _ (by omega)) ?_ ?_
  rotate_left
  · intro x G' h; exact nomatch h.1
  intro v G' h
  obtain ⟨h1, rfl⟩ := h
  cases Sum.inl.inj h1
  show zm_J N _ 0 414 [(5, .int 2), (4, .int 0), (3, .ref 36), (2, .ref 12), (1, .ref 2), (0, .ref 0)] [] (zg_5 xs) _
  refine zm_J_run zm_T 1 (pc' := 415) (lv' := [(5, .int 2), (4, .int 0), (3, .ref 36), (2, .ref 12), (1, .ref 2), (0, .ref 0)]) (st' := [.ref 12]) (G' := (zg_5 xs)) rfl ?_
  refine zm_J_V (a := 12) (av := []) (rest := []) (Q1 := fun z G => z = .inl (some (.int 2)) ∧ G = (zg_5 xs)) (zm_T.1 0 415 _ rfl).1 zc_0_415 rfl (Nat.le_of_ble_eq_true rfl) (Nat.le_of_ble_eq_true rfl) (Nat.le_of_ble_eq_true rfl) (Nat.le_of_ble_eq_true rfl) (zr3_525 N _ (by omega)) ?_ ?_
  rotate_left
  · intro x G' h; exact nomatch h.1
  intro v G' h
  obtain ⟨h1, rfl⟩ := h
  cases Sum.inl.inj h1
  show zm_J N _ 0 418 [(5, .int 2), (4, .int 0), (3, .ref 36), (2, .ref 12), (1, .ref 2), (0, .ref 0)] [.int 2] (zg_5 xs) _
  refine zm_J_run zm_T 8 (pc' := 27) (lv' := [(4, .int 3), (5, .int 2), (3, .ref 36), (2, .ref 12), (1, .ref 2), (0, .ref 0)]) (st' := [.int 3, .int 3]) (G' := (zg_5 xs)) rfl ?_
  refine zm_J_run zm_T 2 (pc' := 29) (lv' := [(4, .int 3), (5, .int 2), (3, .ref 36), (2, .ref 12), (1, .ref 2), (0, .ref 0)]) (st' := [.int (3 - 3), .int 3]) (G' := (zg_5 xs)) rfl ?_
  refine zm_J_run zm_T 1 (pc' := if ((3 - 3) : Int32) < 3 then 459 else 32) (lv' := [(4, .int 3), (5, .int 2), (3, .ref 36), (2, .ref 12), (1, .ref 2), (0, .ref 0)]) (st' := []) (G' := (zg_5 xs)) rfl ?_
  rw [if_pos (show ((3 - 3) : Int32) < 3 by decide +kernel)]
  refine zm_J_run zm_T 1 (pc' := 460) (lv' := [(4, .int 3), (5, .int 2), (3, .ref 36), (2, .ref 12), (1, .ref 2), (0, .ref 0)]) (st' := [.int 1]) (G' := (zg_5 xs)) rfl ?_
  exact zm_J_fin zm_T rfl rfl ⟨rfl, rfl⟩

set_option maxHeartbeats 40000000 in
set_option maxRecDepth 100000 in
/-- NeedMachine.definitionOf -/
theorem zr4_526 {xs : Nat → Int32} (N : zm_N) (d : Nat) (hd : 7 ≤ d) : zm_J N d 44 0 [(0, .ref 2), (1, .int 4)] [] (zg_0 xs) (fun z G => z = .inr (2, 37) ∧ G = (zg_1 xs)) := by
  obtain ⟨d, rfl⟩ : ∃ e, d = e + 1 := ⟨d - 1, by omega⟩
  refine zm_J_run zm_T 7 (pc' := 11) (lv' := [(2, .null), (0, .ref 2), (1, .int 4)]) (st' := []) (G' := (zg_0 xs)) rfl ?_
  exact zm_J_throw zx_44_11 (by omega) (Nat.le_of_ble_eq_true rfl) rfl ⟨rfl, rfl⟩

set_option maxHeartbeats 40000000 in
set_option maxRecDepth 100000 in
/-- NeedMachine.remove -/
theorem zr4_527 {xs : Nat → Int32} (N : zm_N) (d : Nat) (hd : 8 ≤ d) : zm_J N d 69 0 [(0, .ref 2), (1, .int 4)] [] (zg_0 xs) (fun z G => z = .inr (2, 37) ∧ G = (zg_1 xs)) := by
  obtain ⟨d, rfl⟩ : ∃ e, d = e + 1 := ⟨d - 1, by omega⟩
  refine zm_J_run zm_T 1 (pc' := 1) (lv' := [(0, .ref 2), (1, .int 4)]) (st' := [.int 4]) (G' := (zg_0 xs)) rfl ?_
  refine zm_J_run zm_T 1 (pc' := if (4 : Int32) < 0 then 10 else 4) (lv' := [(0, .ref 2), (1, .int 4)]) (st' := []) (G' := (zg_0 xs)) rfl ?_
  rw [if_neg (show ¬ ((4 : Int32) < 0) by decide +kernel)]
  refine zm_J_run zm_T 2 (pc' := 7) (lv' := [(0, .ref 2), (1, .int 4)]) (st' := [.int 6, .int 4]) (G' := (zg_0 xs)) rfl ?_
  refine zm_J_run zm_T 1 (pc' := if (4 : Int32) < 6 then 20 else 10) (lv' := [(0, .ref 2), (1, .int 4)]) (st' := []) (G' := (zg_0 xs)) rfl ?_
  rw [if_pos (show (4 : Int32) < 6 by decide +kernel)]
  refine zm_J_run zm_T 2 (pc' := 22) (lv' := [(0, .ref 2), (1, .int 4)]) (st' := [.int 4, .ref 2]) (G' := (zg_0 xs)) rfl ?_
  refine zm_J_V (a := 2) (av := [.int 4]) (rest := []) (Q1 := fun z G => z = .inr (2, 37) ∧ G = (zg_1 xs)) (zm_T.1 69 22 _ rfl).1 zc_69_22 rfl (Nat.le_of_ble_eq_true rfl) (Nat.le_of_ble_eq_true rfl) (Nat.le_of_ble_eq_true rfl) (Nat.le_of_ble_eq_true rfl) (zr4_526 N _ (by omega)) ?_ ?_
  · intro v G' h; exact nomatch h.1
  intro x G' h
  obtain ⟨h1, rfl⟩ := h
  cases Sum.inr.inj h1
  exact Or.inl ⟨zm_out0 rfl, rfl, rfl⟩

set_option maxHeartbeats 40000000 in
set_option maxRecDepth 100000 in
/-- NeedMachineLaw.remove -/
theorem zr4_528 {xs : Nat → Int32} (N : zm_N) (d : Nat) (hd : 9 ≤ d) : zm_J N d 68 0 [(0, .ref 2), (1, .int 4)] [] (zg_0 xs) (fun z G => z = .inl (some (.int 2)) ∧ G = (zg_1 xs)) := by
  obtain ⟨d, rfl⟩ : ∃ e, d = e + 1 := ⟨d - 1, by omega⟩
  refine zm_J_run zm_T 2 (pc' := 2) (lv' := [(0, .ref 2), (1, .int 4)]) (st' := [.int 4, .ref 2]) (G' := (zg_0 xs)) rfl ?_
  refine zm_J_V (a := 2) (av := [.int 4]) (rest := []) (Q1 := fun z G => z = .inr (2, 37) ∧ G = (zg_1 xs)) (zm_T.1 68 2 _ rfl).1 zc_68_2 rfl (Nat.le_of_ble_eq_true rfl) (Nat.le_of_ble_eq_true rfl) (Nat.le_of_ble_eq_true rfl) (Nat.le_of_ble_eq_true rfl) (zr4_527 N _ (by omega)) ?_ ?_
  · intro v G' h; exact nomatch h.1
  intro x G' h
  obtain ⟨h1, rfl⟩ := h
  cases Sum.inr.inj h1
  refine Or.inr ⟨11, zt_68_2, ?_⟩
  show zm_J N _ 68 11 [(0, .ref 2), (1, .int 4)] [.ref 37] (zg_1 xs) _
  refine zm_J_run zm_T 2 (pc' := 13) (lv' := [(2, .ref 37), (0, .ref 2), (1, .int 4)]) (st' := [.int 2]) (G' := (zg_1 xs)) rfl ?_
  exact zm_J_fin zm_T rfl rfl ⟨rfl, rfl⟩

set_option maxHeartbeats 40000000 in
set_option maxRecDepth 100000 in
/-- NeedMachineModel.between -/
theorem zr4_529 {xs : Nat → Int32} (N : zm_N) (d : Nat) (hd : 1 ≤ d) : zm_J N d 73 0 [(0, .int 4), (1, .int 0), (2, .int 5)] [] (zg_1 xs) (fun z G => z = .inl (some (.int 1)) ∧ G = (zg_1 xs)) := by
  obtain ⟨d, rfl⟩ : ∃ e, d = e + 1 := ⟨d - 1, by omega⟩
  refine zm_J_run zm_T 2 (pc' := 2) (lv' := [(0, .int 4), (1, .int 0), (2, .int 5)]) (st' := [.int 0, .int 4]) (G' := (zg_1 xs)) rfl ?_
  refine zm_J_run zm_T 1 (pc' := if (4 : Int32) < 0 then 14 else 5) (lv' := [(0, .int 4), (1, .int 0), (2, .int 5)]) (st' := []) (G' := (zg_1 xs)) rfl ?_
  rw [if_neg (show ¬ ((4 : Int32) < 0) by decide +kernel)]
  refine zm_J_run zm_T 2 (pc' := 7) (lv' := [(0, .int 4), (1, .int 0), (2, .int 5)]) (st' := [.int 5, .int 4]) (G' := (zg_1 xs)) rfl ?_
  refine zm_J_run zm_T 1 (pc' := if (5 : Int32) < 4 then 14 else 10) (lv' := [(0, .int 4), (1, .int 0), (2, .int 5)]) (st' := []) (G' := (zg_1 xs)) rfl ?_
  rw [if_neg (show ¬ ((5 : Int32) < 4) by decide +kernel)]
  refine zm_J_run zm_T 2 (pc' := 15) (lv' := [(0, .int 4), (1, .int 0), (2, .int 5)]) (st' := [.int 1]) (G' := (zg_1 xs)) rfl ?_
  exact zm_J_fin zm_T rfl rfl ⟨rfl, rfl⟩

def zg_6 (xs : Nat → Int32) : zm_H := ([.inl (0, 3, .inl xs), .inr (99, []), .inr (0, [.ref 3, .ref 6, .ref 11, .null, .int 0, .int 0, .int 0, .int 0, .int 0]), .inr (1, [.int 0, .int (-1), .ref 4, .ref 5, .int 0, .int 0, .int 0, .int 0]), .inl (1, 40, .inl fun _ => 0), .inl (1, 4, .inl fun _ => 0), .inr (2, [.ref 7, .ref 8, .ref 9, .ref 10, .int 0, .int 0, .int 0]), .inr (3, [.int 1, .int 0, .null, .null, .null]), .inr (4, [.ref 1, .int 0, .int 0]), .inr (4, [.ref 1, .int 0, .int 0]), .inr (4, [.ref 1, .int 0, .int 0]), .inl (4, 6, .inr (.inr (.inr (.inr fun _ => none)))), .inr (5, [.ref 13, .ref 14, .ref 15, .ref 16, .ref 17, .ref 18, .ref 19, .ref 20, .int 0, .int (-1), .int 0, .int 0, .int 2, .ref 21, .ref 22, .ref 23, .ref 24, .ref 25, .ref 26, .ref 27, .ref 28, .ref 29, .ref 30, .int 0, .int 0, .int 0, .ref 31, .ref 32, .ref 33, .ref 34, .ref 35, .int 0, .int 0, .int 0, .int 0, .int 0, .int 0, .int 0, .int 0, .int 0, .int 0, .int 0, .int 0, .int 0]), .inl (0, 40, .inl fun _ => 0), .inl (0, 21200, .inl fun _ => 0), .inl (0, 240, .inl fun _ => 0), .inl (0, 6, .inl fun _ => 0), .inl (0, 24, .inl fun _ => 0), .inl (0, 6, .inl fun _ => 0), .inl (0, 16, .inl fun _ => 0), .inl (3, 6, .inl (upd (fun _ => 0) 4 0)), .inl (0, 16400, .inl fun _ => 0), .inl (0, 16400, .inl fun _ => 0), .inl (0, 16400, .inl fun _ => 0), .inl (0, 16400, .inl fun _ => 0), .inl (0, 16400, .inl fun _ => 0), .inl (0, 16400, .inl fun _ => 0), .inl (0, 1700, .inl fun _ => 0), .inl (0, 1700, .inl fun _ => 0), .inl (0, 16400, .inl fun _ => 0), .inl (0, 16400, .inl fun _ => 0), .inl (0, 64, .inl fun _ => 0), .inl (0, 64, .inl fun _ => 0), .inl (0, 64, .inl fun _ => 0), .inl (0, 64, .inl fun _ => 0), .inl (0, 64, .inl fun _ => 0), .inl (2, 1, .inr (.inl fun _ => 0)), .inr (10, [])], 156597)
set_option maxHeartbeats 40000000 in
set_option maxRecDepth 100000 in
/-- NeedMachineModel.remove -/
theorem zr4_530 {xs : Nat → Int32} (N : zm_N) (d : Nat) (hd : 2 ≤ d) : zm_J N d 106 0 [(0, .ref 12), (1, .int 4)] [] (zg_1 xs) (fun z G => z = .inl none ∧ G = (zg_6 xs)) := by
  obtain ⟨d, rfl⟩ : ∃ e, d = e + 1 := ⟨d - 1, by omega⟩
  refine zm_J_run zm_T 4 (pc' := 4) (lv' := [(0, .ref 12), (1, .int 4)]) (st' := [.int 5, .int 0, .int 4, .ref 12]) (G' := (zg_1 xs)) rfl ?_
  refine zm_J_S (av := [.int 4, .int 0, .int 5]) (rest := [.ref 12]) (Q1 := fun z G => z = .inl (some (.int 1)) ∧ G = (zg_1 xs)) (zm_T.1 106 4 _ rfl).1 zc_106_4 (Nat.le_of_ble_eq_true rfl) (Nat.le_of_ble_eq_true rfl) (Nat.le_of_ble_eq_true rfl) (Nat.le_of_ble_eq_true rfl) (zr4_529 N _ (by omega)) ?_ ?_
  rotate_left
  · intro x G' h; exact nomatch h.1
  intro v G' h
  obtain ⟨h1, rfl⟩ := h
  cases Sum.inl.inj h1
  show zm_J N _ 106 7 [(0, .ref 12), (1, .int 4)] [.int 1, .ref 12] (zg_1 xs) _
  refine zm_J_V (a := 12) (av := [.int 1]) (rest := []) (Q1 := fun z G => z = .inl (some (.int 0)) ∧ G = (zg_1 xs)) (zm_T.1 106 7 _ rfl).1 zc_106_7 rfl (Nat.le_of_ble_eq_true rfl) (Nat.le_of_ble_eq_true rfl) (Nat.le_of_ble_eq_true rfl) (Nat.le_of_ble_eq_true rfl) (zr0_505 N _ (by omega)) ?_ ?_
  rotate_left
  · intro x G' h; exact nomatch h.1
  intro v G' h
  obtain ⟨h1, rfl⟩ := h
  cases Sum.inl.inj h1
  show zm_J N _ 106 10 [(0, .ref 12), (1, .int 4)] [.int 0] (zg_1 xs) _
  refine zm_J_run zm_T 8 (pc' := 25) (lv' := [(0, .ref 12), (1, .int 4)]) (st' := [.int 2, .ref 12]) (G' := (zg_1 xs)) rfl ?_
  refine zm_J_run zm_T 6 (pc' := 35) (lv' := [(0, .ref 12), (1, .int 4)]) (st' := []) (G' := (zg_6 xs)) rfl ?_
  exact zm_J_fin zm_T rfl rfl ⟨rfl, rfl⟩

set_option maxHeartbeats 40000000 in
set_option maxRecDepth 100000 in
/-- NeedMachineModel.thrown -/
theorem zr4_531 {xs : Nat → Int32} (N : zm_N) (d : Nat) (hd : 1 ≤ d) : zm_J N d 71 0 [(0, .ref 12)] [] (zg_6 xs) (fun z G => z = .inl (some (.int 2)) ∧ G = (zg_6 xs)) := by
  obtain ⟨d, rfl⟩ : ∃ e, d = e + 1 := ⟨d - 1, by omega⟩
  refine zm_J_run zm_T 2 (pc' := 4) (lv' := [(0, .ref 12)]) (st' := [.int 2]) (G' := (zg_6 xs)) rfl ?_
  exact zm_J_fin zm_T rfl rfl ⟨rfl, rfl⟩

set_option maxHeartbeats 40000000 in
set_option maxRecDepth 100000 in
theorem zl_r4 {xs : Nat → Int32} (h : xs 1 = 4) (N : zm_N) (d : Nat) (hd : 10 ≤ d) : zm_J N d 0 39 [(4, .int 0), (3, .ref 36), (2, .ref 12), (1, .ref 2), (0, .ref 0)] [.int 6] (zg_0 xs) (fun z G => z = .inl (some (.int 1)) ∧ G = (zg_6 xs)) := by
  obtain ⟨d, rfl⟩ : ∃ e, d = e + 1 := ⟨d - 1, by omega⟩
  refine zm_J_run zm_T 7 (pc' := 399) (lv' := [(4, .int 0), (3, .ref 36), (2, .ref 12), (1, .ref 2), (0, .ref 0)]) (st' := [.int (xs 1), .ref 2]) (G' := (zg_0 xs)) rfl ?_
  rw [h]
  refine zm_J_S (av := [.ref 2, .int 4]) (rest := []) (Q1 := fun z G => z = .inl (some (.int 2)) ∧ G = (zg_1 xs)) (zm_T.1 0 399 _ rfl).1 zc_0_399 (Nat.le_of_ble_eq_true rfl) (Nat.le_of_ble_eq_true rfl) (Nat.le_of_ble_eq_true rfl) (Nat.le_of_ble_eq_true rfl) (zr4_528 N _ (by omega)) ?_ ?_
  rotate_left
  · intro x G' h; exact nomatch h.1
  intro v G' h
  obtain ⟨h1, rfl⟩ := h
  cases Sum.inl.inj h1
  show zm_J N _ 0 402 [(4, .int 0), (3, .ref 36), (2, .ref 12), (1, .ref 2), (0, .ref 0)] [.int 2] (zg_1 xs) _
  refine zm_J_run zm_T 7 (pc' := 411) (lv' := [(5, .int 2), (4, .int 0), (3, .ref 36), (2, .ref 12), (1, .ref 2), (0, .ref 0)]) (st' := [.int (xs 1), .ref 12]) (G' := (zg_1 xs)) rfl ?_
  rw [h]
  refine zm_J_V (a := 12) (av := [.int 4]) (rest := []) (Q1 := fun z G => z = .inl none ∧ G = (zg_6 xs)) (zm_T.1 0 411 _ rfl).1 zc_0_411 rfl (Nat.le_of_ble_eq_true rfl) (Nat.le_of_ble_eq_true rfl) (Nat.le_of_ble_eq_true rfl) (Nat.le_of_ble_eq_true rfl) (zr4_530 N _ (by omega)) ?_ ?_
  rotate_left
  · intro x G' h; exact nomatch h.1
  intro v G' h
  obtain ⟨h1, rfl⟩ := h
  cases Sum.inl.inj h1
  show zm_J N _ 0 414 [(5, .int 2), (4, .int 0), (3, .ref 36), (2, .ref 12), (1, .ref 2), (0, .ref 0)] [] (zg_6 xs) _
  refine zm_J_run zm_T 1 (pc' := 415) (lv' := [(5, .int 2), (4, .int 0), (3, .ref 36), (2, .ref 12), (1, .ref 2), (0, .ref 0)]) (st' := [.ref 12]) (G' := (zg_6 xs)) rfl ?_
  refine zm_J_V (a := 12) (av := []) (rest := []) (Q1 := fun z G => z = .inl (some (.int 2)) ∧ G = (zg_6 xs)) (zm_T.1 0 415 _ rfl).1 zc_0_415 rfl (Nat.le_of_ble_eq_true rfl) (Nat.le_of_ble_eq_true rfl) (Nat.le_of_ble_eq_true rfl) (Nat.le_of_ble_eq_true rfl) (zr4_531 N _ (by omega)) ?_ ?_
  rotate_left
  · intro x G' h; exact nomatch h.1
  intro v G' h
  obtain ⟨h1, rfl⟩ := h
  cases Sum.inl.inj h1
  show zm_J N _ 0 418 [(5, .int 2), (4, .int 0), (3, .ref 36), (2, .ref 12), (1, .ref 2), (0, .ref 0)] [.int 2] (zg_6 xs) _
  refine zm_J_run zm_T 8 (pc' := 27) (lv' := [(4, .int 3), (5, .int 2), (3, .ref 36), (2, .ref 12), (1, .ref 2), (0, .ref 0)]) (st' := [.int 3, .int 3]) (G' := (zg_6 xs)) rfl ?_
  refine zm_J_run zm_T 2 (pc' := 29) (lv' := [(4, .int 3), (5, .int 2), (3, .ref 36), (2, .ref 12), (1, .ref 2), (0, .ref 0)]) (st' := [.int (3 - 3), .int 3]) (G' := (zg_6 xs)) rfl ?_
  refine zm_J_run zm_T 1 (pc' := if ((3 - 3) : Int32) < 3 then 459 else 32) (lv' := [(4, .int 3), (5, .int 2), (3, .ref 36), (2, .ref 12), (1, .ref 2), (0, .ref 0)]) (st' := []) (G' := (zg_6 xs)) rfl ?_
  rw [if_pos (show ((3 - 3) : Int32) < 3 by decide +kernel)]
  refine zm_J_run zm_T 1 (pc' := 460) (lv' := [(4, .int 3), (5, .int 2), (3, .ref 36), (2, .ref 12), (1, .ref 2), (0, .ref 0)]) (st' := [.int 1]) (G' := (zg_6 xs)) rfl ?_
  exact zm_J_fin zm_T rfl rfl ⟨rfl, rfl⟩

set_option maxHeartbeats 40000000 in
set_option maxRecDepth 100000 in
/-- NeedMachine.definitionOf -/
theorem zr5_532 {xs : Nat → Int32} (N : zm_N) (d : Nat) (hd : 7 ≤ d) : zm_J N d 44 0 [(0, .ref 2), (1, .int 5)] [] (zg_0 xs) (fun z G => z = .inr (2, 37) ∧ G = (zg_1 xs)) := by
  obtain ⟨d, rfl⟩ : ∃ e, d = e + 1 := ⟨d - 1, by omega⟩
  refine zm_J_run zm_T 7 (pc' := 11) (lv' := [(2, .null), (0, .ref 2), (1, .int 5)]) (st' := []) (G' := (zg_0 xs)) rfl ?_
  exact zm_J_throw zx_44_11 (by omega) (Nat.le_of_ble_eq_true rfl) rfl ⟨rfl, rfl⟩

set_option maxHeartbeats 40000000 in
set_option maxRecDepth 100000 in
/-- NeedMachine.remove -/
theorem zr5_533 {xs : Nat → Int32} (N : zm_N) (d : Nat) (hd : 8 ≤ d) : zm_J N d 69 0 [(0, .ref 2), (1, .int 5)] [] (zg_0 xs) (fun z G => z = .inr (2, 37) ∧ G = (zg_1 xs)) := by
  obtain ⟨d, rfl⟩ : ∃ e, d = e + 1 := ⟨d - 1, by omega⟩
  refine zm_J_run zm_T 1 (pc' := 1) (lv' := [(0, .ref 2), (1, .int 5)]) (st' := [.int 5]) (G' := (zg_0 xs)) rfl ?_
  refine zm_J_run zm_T 1 (pc' := if (5 : Int32) < 0 then 10 else 4) (lv' := [(0, .ref 2), (1, .int 5)]) (st' := []) (G' := (zg_0 xs)) rfl ?_
  rw [if_neg (show ¬ ((5 : Int32) < 0) by decide +kernel)]
  refine zm_J_run zm_T 2 (pc' := 7) (lv' := [(0, .ref 2), (1, .int 5)]) (st' := [.int 6, .int 5]) (G' := (zg_0 xs)) rfl ?_
  refine zm_J_run zm_T 1 (pc' := if (5 : Int32) < 6 then 20 else 10) (lv' := [(0, .ref 2), (1, .int 5)]) (st' := []) (G' := (zg_0 xs)) rfl ?_
  rw [if_pos (show (5 : Int32) < 6 by decide +kernel)]
  refine zm_J_run zm_T 2 (pc' := 22) (lv' := [(0, .ref 2), (1, .int 5)]) (st' := [.int 5, .ref 2]) (G' := (zg_0 xs)) rfl ?_
  refine zm_J_V (a := 2) (av := [.int 5]) (rest := []) (Q1 := fun z G => z = .inr (2, 37) ∧ G = (zg_1 xs)) (zm_T.1 69 22 _ rfl).1 zc_69_22 rfl (Nat.le_of_ble_eq_true rfl) (Nat.le_of_ble_eq_true rfl) (Nat.le_of_ble_eq_true rfl) (Nat.le_of_ble_eq_true rfl) (zr5_532 N _ (by omega)) ?_ ?_
  · intro v G' h; exact nomatch h.1
  intro x G' h
  obtain ⟨h1, rfl⟩ := h
  cases Sum.inr.inj h1
  exact Or.inl ⟨zm_out0 rfl, rfl, rfl⟩

set_option maxHeartbeats 40000000 in
set_option maxRecDepth 100000 in
/-- NeedMachineLaw.remove -/
theorem zr5_534 {xs : Nat → Int32} (N : zm_N) (d : Nat) (hd : 9 ≤ d) : zm_J N d 68 0 [(0, .ref 2), (1, .int 5)] [] (zg_0 xs) (fun z G => z = .inl (some (.int 2)) ∧ G = (zg_1 xs)) := by
  obtain ⟨d, rfl⟩ : ∃ e, d = e + 1 := ⟨d - 1, by omega⟩
  refine zm_J_run zm_T 2 (pc' := 2) (lv' := [(0, .ref 2), (1, .int 5)]) (st' := [.int 5, .ref 2]) (G' := (zg_0 xs)) rfl ?_
  refine zm_J_V (a := 2) (av := [.int 5]) (rest := []) (Q1 := fun z G => z = .inr (2, 37) ∧ G = (zg_1 xs)) (zm_T.1 68 2 _ rfl).1 zc_68_2 rfl (Nat.le_of_ble_eq_true rfl) (Nat.le_of_ble_eq_true rfl) (Nat.le_of_ble_eq_true rfl) (Nat.le_of_ble_eq_true rfl) (zr5_533 N _ (by omega)) ?_ ?_
  · intro v G' h; exact nomatch h.1
  intro x G' h
  obtain ⟨h1, rfl⟩ := h
  cases Sum.inr.inj h1
  refine Or.inr ⟨11, zt_68_2, ?_⟩
  show zm_J N _ 68 11 [(0, .ref 2), (1, .int 5)] [.ref 37] (zg_1 xs) _
  refine zm_J_run zm_T 2 (pc' := 13) (lv' := [(2, .ref 37), (0, .ref 2), (1, .int 5)]) (st' := [.int 2]) (G' := (zg_1 xs)) rfl ?_
  exact zm_J_fin zm_T rfl rfl ⟨rfl, rfl⟩

set_option maxHeartbeats 40000000 in
set_option maxRecDepth 100000 in
/-- NeedMachineModel.between -/
theorem zr5_535 {xs : Nat → Int32} (N : zm_N) (d : Nat) (hd : 1 ≤ d) : zm_J N d 73 0 [(0, .int 5), (1, .int 0), (2, .int 5)] [] (zg_1 xs) (fun z G => z = .inl (some (.int 1)) ∧ G = (zg_1 xs)) := by
  obtain ⟨d, rfl⟩ : ∃ e, d = e + 1 := ⟨d - 1, by omega⟩
  refine zm_J_run zm_T 2 (pc' := 2) (lv' := [(0, .int 5), (1, .int 0), (2, .int 5)]) (st' := [.int 0, .int 5]) (G' := (zg_1 xs)) rfl ?_
  refine zm_J_run zm_T 1 (pc' := if (5 : Int32) < 0 then 14 else 5) (lv' := [(0, .int 5), (1, .int 0), (2, .int 5)]) (st' := []) (G' := (zg_1 xs)) rfl ?_
  rw [if_neg (show ¬ ((5 : Int32) < 0) by decide +kernel)]
  refine zm_J_run zm_T 2 (pc' := 7) (lv' := [(0, .int 5), (1, .int 0), (2, .int 5)]) (st' := [.int 5, .int 5]) (G' := (zg_1 xs)) rfl ?_
  refine zm_J_run zm_T 1 (pc' := if (5 : Int32) < 5 then 14 else 10) (lv' := [(0, .int 5), (1, .int 0), (2, .int 5)]) (st' := []) (G' := (zg_1 xs)) rfl ?_
  rw [if_neg (show ¬ ((5 : Int32) < 5) by decide +kernel)]
  refine zm_J_run zm_T 2 (pc' := 15) (lv' := [(0, .int 5), (1, .int 0), (2, .int 5)]) (st' := [.int 1]) (G' := (zg_1 xs)) rfl ?_
  exact zm_J_fin zm_T rfl rfl ⟨rfl, rfl⟩

def zg_7 (xs : Nat → Int32) : zm_H := ([.inl (0, 3, .inl xs), .inr (99, []), .inr (0, [.ref 3, .ref 6, .ref 11, .null, .int 0, .int 0, .int 0, .int 0, .int 0]), .inr (1, [.int 0, .int (-1), .ref 4, .ref 5, .int 0, .int 0, .int 0, .int 0]), .inl (1, 40, .inl fun _ => 0), .inl (1, 4, .inl fun _ => 0), .inr (2, [.ref 7, .ref 8, .ref 9, .ref 10, .int 0, .int 0, .int 0]), .inr (3, [.int 1, .int 0, .null, .null, .null]), .inr (4, [.ref 1, .int 0, .int 0]), .inr (4, [.ref 1, .int 0, .int 0]), .inr (4, [.ref 1, .int 0, .int 0]), .inl (4, 6, .inr (.inr (.inr (.inr fun _ => none)))), .inr (5, [.ref 13, .ref 14, .ref 15, .ref 16, .ref 17, .ref 18, .ref 19, .ref 20, .int 0, .int (-1), .int 0, .int 0, .int 2, .ref 21, .ref 22, .ref 23, .ref 24, .ref 25, .ref 26, .ref 27, .ref 28, .ref 29, .ref 30, .int 0, .int 0, .int 0, .ref 31, .ref 32, .ref 33, .ref 34, .ref 35, .int 0, .int 0, .int 0, .int 0, .int 0, .int 0, .int 0, .int 0, .int 0, .int 0, .int 0, .int 0, .int 0]), .inl (0, 40, .inl fun _ => 0), .inl (0, 21200, .inl fun _ => 0), .inl (0, 240, .inl fun _ => 0), .inl (0, 6, .inl fun _ => 0), .inl (0, 24, .inl fun _ => 0), .inl (0, 6, .inl fun _ => 0), .inl (0, 16, .inl fun _ => 0), .inl (3, 6, .inl (upd (fun _ => 0) 5 0)), .inl (0, 16400, .inl fun _ => 0), .inl (0, 16400, .inl fun _ => 0), .inl (0, 16400, .inl fun _ => 0), .inl (0, 16400, .inl fun _ => 0), .inl (0, 16400, .inl fun _ => 0), .inl (0, 16400, .inl fun _ => 0), .inl (0, 1700, .inl fun _ => 0), .inl (0, 1700, .inl fun _ => 0), .inl (0, 16400, .inl fun _ => 0), .inl (0, 16400, .inl fun _ => 0), .inl (0, 64, .inl fun _ => 0), .inl (0, 64, .inl fun _ => 0), .inl (0, 64, .inl fun _ => 0), .inl (0, 64, .inl fun _ => 0), .inl (0, 64, .inl fun _ => 0), .inl (2, 1, .inr (.inl fun _ => 0)), .inr (10, [])], 156597)
set_option maxHeartbeats 40000000 in
set_option maxRecDepth 100000 in
/-- NeedMachineModel.remove -/
theorem zr5_536 {xs : Nat → Int32} (N : zm_N) (d : Nat) (hd : 2 ≤ d) : zm_J N d 106 0 [(0, .ref 12), (1, .int 5)] [] (zg_1 xs) (fun z G => z = .inl none ∧ G = (zg_7 xs)) := by
  obtain ⟨d, rfl⟩ : ∃ e, d = e + 1 := ⟨d - 1, by omega⟩
  refine zm_J_run zm_T 4 (pc' := 4) (lv' := [(0, .ref 12), (1, .int 5)]) (st' := [.int 5, .int 0, .int 5, .ref 12]) (G' := (zg_1 xs)) rfl ?_
  refine zm_J_S (av := [.int 5, .int 0, .int 5]) (rest := [.ref 12]) (Q1 := fun z G => z = .inl (some (.int 1)) ∧ G = (zg_1 xs)) (zm_T.1 106 4 _ rfl).1 zc_106_4 (Nat.le_of_ble_eq_true rfl) (Nat.le_of_ble_eq_true rfl) (Nat.le_of_ble_eq_true rfl) (Nat.le_of_ble_eq_true rfl) (zr5_535 N _ (by omega)) ?_ ?_
  rotate_left
  · intro x G' h; exact nomatch h.1
  intro v G' h
  obtain ⟨h1, rfl⟩ := h
  cases Sum.inl.inj h1
  show zm_J N _ 106 7 [(0, .ref 12), (1, .int 5)] [.int 1, .ref 12] (zg_1 xs) _
  refine zm_J_V (a := 12) (av := [.int 1]) (rest := []) (Q1 := fun z G => z = .inl (some (.int 0)) ∧ G = (zg_1 xs)) (zm_T.1 106 7 _ rfl).1 zc_106_7 rfl (Nat.le_of_ble_eq_true rfl) (Nat.le_of_ble_eq_true rfl) (Nat.le_of_ble_eq_true rfl) (Nat.le_of_ble_eq_true rfl) (zr0_505 N _ (by omega)) ?_ ?_
  rotate_left
  · intro x G' h; exact nomatch h.1
  intro v G' h
  obtain ⟨h1, rfl⟩ := h
  cases Sum.inl.inj h1
  show zm_J N _ 106 10 [(0, .ref 12), (1, .int 5)] [.int 0] (zg_1 xs) _
  refine zm_J_run zm_T 8 (pc' := 25) (lv' := [(0, .ref 12), (1, .int 5)]) (st' := [.int 2, .ref 12]) (G' := (zg_1 xs)) rfl ?_
  refine zm_J_run zm_T 6 (pc' := 35) (lv' := [(0, .ref 12), (1, .int 5)]) (st' := []) (G' := (zg_7 xs)) rfl ?_
  exact zm_J_fin zm_T rfl rfl ⟨rfl, rfl⟩

set_option maxHeartbeats 40000000 in
set_option maxRecDepth 100000 in
/-- NeedMachineModel.thrown -/
theorem zr5_537 {xs : Nat → Int32} (N : zm_N) (d : Nat) (hd : 1 ≤ d) : zm_J N d 71 0 [(0, .ref 12)] [] (zg_7 xs) (fun z G => z = .inl (some (.int 2)) ∧ G = (zg_7 xs)) := by
  obtain ⟨d, rfl⟩ : ∃ e, d = e + 1 := ⟨d - 1, by omega⟩
  refine zm_J_run zm_T 2 (pc' := 4) (lv' := [(0, .ref 12)]) (st' := [.int 2]) (G' := (zg_7 xs)) rfl ?_
  exact zm_J_fin zm_T rfl rfl ⟨rfl, rfl⟩

set_option maxHeartbeats 40000000 in
set_option maxRecDepth 100000 in
theorem zl_r5 {xs : Nat → Int32} (h : xs 1 = 5) (N : zm_N) (d : Nat) (hd : 10 ≤ d) : zm_J N d 0 39 [(4, .int 0), (3, .ref 36), (2, .ref 12), (1, .ref 2), (0, .ref 0)] [.int 6] (zg_0 xs) (fun z G => z = .inl (some (.int 1)) ∧ G = (zg_7 xs)) := by
  obtain ⟨d, rfl⟩ : ∃ e, d = e + 1 := ⟨d - 1, by omega⟩
  refine zm_J_run zm_T 7 (pc' := 399) (lv' := [(4, .int 0), (3, .ref 36), (2, .ref 12), (1, .ref 2), (0, .ref 0)]) (st' := [.int (xs 1), .ref 2]) (G' := (zg_0 xs)) rfl ?_
  rw [h]
  refine zm_J_S (av := [.ref 2, .int 5]) (rest := []) (Q1 := fun z G => z = .inl (some (.int 2)) ∧ G = (zg_1 xs)) (zm_T.1 0 399 _ rfl).1 zc_0_399 (Nat.le_of_ble_eq_true rfl) (Nat.le_of_ble_eq_true rfl) (Nat.le_of_ble_eq_true rfl) (Nat.le_of_ble_eq_true rfl) (zr5_534 N _ (by omega)) ?_ ?_
  rotate_left
  · intro x G' h; exact nomatch h.1
  intro v G' h
  obtain ⟨h1, rfl⟩ := h
  cases Sum.inl.inj h1
  show zm_J N _ 0 402 [(4, .int 0), (3, .ref 36), (2, .ref 12), (1, .ref 2), (0, .ref 0)] [.int 2] (zg_1 xs) _
  refine zm_J_run zm_T 7 (pc' := 411) (lv' := [(5, .int 2), (4, .int 0), (3, .ref 36), (2, .ref 12), (1, .ref 2), (0, .ref 0)]) (st' := [.int (xs 1), .ref 12]) (G' := (zg_1 xs)) rfl ?_
  rw [h]
  refine zm_J_V (a := 12) (av := [.int 5]) (rest := []) (Q1 := fun z G => z = .inl none ∧ G = (zg_7 xs)) (zm_T.1 0 411 _ rfl).1 zc_0_411 rfl (Nat.le_of_ble_eq_true rfl) (Nat.le_of_ble_eq_true rfl) (Nat.le_of_ble_eq_true rfl) (Nat.le_of_ble_eq_true rfl) (zr5_536 N _ (by omega)) ?_ ?_
  rotate_left
  · intro x G' h; exact nomatch h.1
  intro v G' h
  obtain ⟨h1, rfl⟩ := h
  cases Sum.inl.inj h1
  show zm_J N _ 0 414 [(5, .int 2), (4, .int 0), (3, .ref 36), (2, .ref 12), (1, .ref 2), (0, .ref 0)] [] (zg_7 xs) _
  refine zm_J_run zm_T 1 (pc' := 415) (lv' := [(5, .int 2), (4, .int 0), (3, .ref 36), (2, .ref 12), (1, .ref 2), (0, .ref 0)]) (st' := [.ref 12]) (G' := (zg_7 xs)) rfl ?_
  refine zm_J_V (a := 12) (av := []) (rest := []) (Q1 := fun z G => z = .inl (some (.int 2)) ∧ G = (zg_7 xs)) (zm_T.1 0 415 _ rfl).1 zc_0_415 rfl (Nat.le_of_ble_eq_true rfl) (Nat.le_of_ble_eq_true rfl) (Nat.le_of_ble_eq_true rfl) (Nat.le_of_ble_eq_true rfl) (zr5_537 N _ (by omega)) ?_ ?_
  rotate_left
  · intro x G' h; exact nomatch h.1
  intro v G' h
  obtain ⟨h1, rfl⟩ := h
  cases Sum.inl.inj h1
  show zm_J N _ 0 418 [(5, .int 2), (4, .int 0), (3, .ref 36), (2, .ref 12), (1, .ref 2), (0, .ref 0)] [.int 2] (zg_7 xs) _
  refine zm_J_run zm_T 8 (pc' := 27) (lv' := [(4, .int 3), (5, .int 2), (3, .ref 36), (2, .ref 12), (1, .ref 2), (0, .ref 0)]) (st' := [.int 3, .int 3]) (G' := (zg_7 xs)) rfl ?_
  refine zm_J_run zm_T 2 (pc' := 29) (lv' := [(4, .int 3), (5, .int 2), (3, .ref 36), (2, .ref 12), (1, .ref 2), (0, .ref 0)]) (st' := [.int (3 - 3), .int 3]) (G' := (zg_7 xs)) rfl ?_
  refine zm_J_run zm_T 1 (pc' := if ((3 - 3) : Int32) < 3 then 459 else 32) (lv' := [(4, .int 3), (5, .int 2), (3, .ref 36), (2, .ref 12), (1, .ref 2), (0, .ref 0)]) (st' := []) (G' := (zg_7 xs)) rfl ?_
  rw [if_pos (show ((3 - 3) : Int32) < 3 by decide +kernel)]
  refine zm_J_run zm_T 1 (pc' := 460) (lv' := [(4, .int 3), (5, .int 2), (3, .ref 36), (2, .ref 12), (1, .ref 2), (0, .ref 0)]) (st' := [.int 1]) (G' := (zg_7 xs)) rfl ?_
  exact zm_J_fin zm_T rfl rfl ⟨rfl, rfl⟩

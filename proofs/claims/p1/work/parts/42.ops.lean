/-! THE CALLS WITHOUT A NUMBER, ON FRESH OBJECTS, laid by wip/gen/p1law.py -/
def zh_0 (xs : Nat → Int32) : zm_H := ([.inl (0, 3, .inl xs), .inr (99, []), .inr (0, [.ref 3, .ref 6, .ref 11, .null, .int 0, .int 0, .int 0, .int 0, .int 0]), .inr (1, [.int 0, .int (-1), .ref 4, .ref 5, .int 0, .int 0, .int 0, .int 0]), .inl (1, 40, .inl fun _ => 0), .inl (1, 4, .inl fun _ => 0), .inr (2, [.ref 7, .ref 8, .ref 9, .ref 10, .int 0, .int 0, .int 0]), .inr (3, [.int 1, .int 0, .null, .null, .null]), .inr (4, [.ref 1, .int 0, .int 0]), .inr (4, [.ref 1, .int 0, .int 0]), .inr (4, [.ref 1, .int 0, .int 0]), .inl (4, 6, .inr (.inr (.inr (.inr fun _ => none)))), .inr (5, [.ref 13, .ref 14, .ref 15, .ref 16, .ref 17, .ref 18, .ref 19, .ref 20, .int 0, .int (-1), .int 0, .int 0, .int 0, .ref 21, .ref 22, .ref 23, .ref 24, .ref 25, .ref 26, .ref 27, .ref 28, .ref 29, .ref 30, .int 0, .int 0, .int 0, .ref 31, .ref 32, .ref 33, .ref 34, .ref 35, .int 0, .int 0, .int 0, .int 0, .int 0, .int 0, .int 0, .int 0, .int 0, .int 0, .int 0, .int 0, .int 0]), .inl (0, 40, .inl fun _ => 0), .inl (0, 21200, .inl fun _ => 0), .inl (0, 240, .inl fun _ => 0), .inl (0, 6, .inl fun _ => 0), .inl (0, 24, .inl fun _ => 0), .inl (0, 6, .inl fun _ => 0), .inl (0, 16, .inl fun _ => 0), .inl (3, 6, .inl fun _ => 0), .inl (0, 16400, .inl fun _ => 0), .inl (0, 16400, .inl fun _ => 0), .inl (0, 16400, .inl fun _ => 0), .inl (0, 16400, .inl fun _ => 0), .inl (0, 16400, .inl fun _ => 0), .inl (0, 16400, .inl fun _ => 0), .inl (0, 1700, .inl fun _ => 0), .inl (0, 1700, .inl fun _ => 0), .inl (0, 16400, .inl fun _ => 0), .inl (0, 16400, .inl fun _ => 0), .inl (0, 64, .inl fun _ => 0), .inl (0, 64, .inl fun _ => 0), .inl (0, 64, .inl fun _ => 0), .inl (0, 64, .inl fun _ => 0), .inl (0, 64, .inl fun _ => 0), .inl (2, 1, .inr (.inl fun _ => 0))], 156591)
set_option maxHeartbeats 40000000 in
set_option maxRecDepth 100000 in
/-- NeedMachine$Text.beginReading -/
theorem zo1_101 {xs : Nat → Int32} (N : zm_N) (d : Nat) (hd : 1 ≤ d) : zm_J N d 18 0 [(0, .ref 3)] [] (zh_0 xs) (fun z G => z = .inl none ∧ G = (zh_0 xs)) := by
  obtain ⟨d, rfl⟩ : ∃ e, d = e + 1 := ⟨d - 1, by omega⟩
  refine zm_J_run zm_T 8 (pc' := 14) (lv' := [(0, .ref 3)]) (st' := [.ref 3]) (G' := (zh_0 xs)) rfl ?_
  refine zm_J_run zm_T 5 (pc' := 23) (lv' := [(0, .ref 3)]) (st' := []) (G' := (zh_0 xs)) rfl ?_
  exact zm_J_fin zm_T rfl rfl ⟨rfl, rfl⟩

def zh_1 (xs : Nat → Int32) : zm_H := ([.inl (0, 3, .inl xs), .inr (99, []), .inr (0, [.ref 3, .ref 6, .ref 11, .null, .int 0, .int 0, .int 0, .int 0, .int 0]), .inr (1, [.int 0, .int 0, .ref 4, .ref 5, .int 0, .int 0, .int 0, .int 0]), .inl (1, 40, .inl fun _ => 0), .inl (1, 4, .inl fun _ => 0), .inr (2, [.ref 7, .ref 8, .ref 9, .ref 10, .int 0, .int 0, .int 0]), .inr (3, [.int 1, .int 0, .null, .null, .null]), .inr (4, [.ref 1, .int 0, .int 0]), .inr (4, [.ref 1, .int 0, .int 0]), .inr (4, [.ref 1, .int 0, .int 0]), .inl (4, 6, .inr (.inr (.inr (.inr fun _ => none)))), .inr (5, [.ref 13, .ref 14, .ref 15, .ref 16, .ref 17, .ref 18, .ref 19, .ref 20, .int 0, .int (-1), .int 0, .int 0, .int 0, .ref 21, .ref 22, .ref 23, .ref 24, .ref 25, .ref 26, .ref 27, .ref 28, .ref 29, .ref 30, .int 0, .int 0, .int 0, .ref 31, .ref 32, .ref 33, .ref 34, .ref 35, .int 0, .int 0, .int 0, .int 0, .int 0, .int 0, .int 0, .int 0, .int 0, .int 0, .int 0, .int 0, .int 0]), .inl (0, 40, .inl fun _ => 0), .inl (0, 21200, .inl fun _ => 0), .inl (0, 240, .inl fun _ => 0), .inl (0, 6, .inl fun _ => 0), .inl (0, 24, .inl fun _ => 0), .inl (0, 6, .inl fun _ => 0), .inl (0, 16, .inl fun _ => 0), .inl (3, 6, .inl fun _ => 0), .inl (0, 16400, .inl fun _ => 0), .inl (0, 16400, .inl fun _ => 0), .inl (0, 16400, .inl fun _ => 0), .inl (0, 16400, .inl fun _ => 0), .inl (0, 16400, .inl fun _ => 0), .inl (0, 16400, .inl fun _ => 0), .inl (0, 1700, .inl fun _ => 0), .inl (0, 1700, .inl fun _ => 0), .inl (0, 16400, .inl fun _ => 0), .inl (0, 16400, .inl fun _ => 0), .inl (0, 64, .inl fun _ => 0), .inl (0, 64, .inl fun _ => 0), .inl (0, 64, .inl fun _ => 0), .inl (0, 64, .inl fun _ => 0), .inl (0, 64, .inl fun _ => 0), .inl (2, 1, .inr (.inl fun _ => 0))], 156591)
def zh_2 (xs : Nat → Int32) : zm_H := ([.inl (0, 3, .inl xs), .inr (99, []), .inr (0, [.ref 3, .ref 6, .ref 11, .null, .int 0, .int 0, .int 0, .int 0, .int 0]), .inr (1, [.int 0, .int 0, .ref 4, .ref 5, .int 0, .int 0, .int 0, .int 0]), .inl (1, 40, .inl fun _ => 0), .inl (1, 4, .inl fun _ => 0), .inr (2, [.ref 7, .ref 8, .ref 9, .ref 10, .int 0, .int 0, .int 0]), .inr (3, [.int 1, .int 0, .null, .null, .null]), .inr (4, [.ref 1, .int 0, .int 0]), .inr (4, [.ref 1, .int 0, .int 0]), .inr (4, [.ref 1, .int 0, .int 0]), .inl (4, 6, .inr (.inr (.inr (.inr fun _ => none)))), .inr (5, [.ref 13, .ref 14, .ref 15, .ref 16, .ref 17, .ref 18, .ref 19, .ref 20, .int 0, .int (-1), .int 0, .int 0, .int 0, .ref 21, .ref 22, .ref 23, .ref 24, .ref 25, .ref 26, .ref 27, .ref 28, .ref 29, .ref 30, .int 0, .int 0, .int 0, .ref 31, .ref 32, .ref 33, .ref 34, .ref 35, .int 0, .int 0, .int 0, .int 0, .int 0, .int 0, .int 0, .int 0, .int 0, .int 0, .int 0, .int 0, .int 0]), .inl (0, 40, .inl fun _ => 0), .inl (0, 21200, .inl fun _ => 0), .inl (0, 240, .inl fun _ => 0), .inl (0, 6, .inl fun _ => 0), .inl (0, 24, .inl fun _ => 0), .inl (0, 6, .inl fun _ => 0), .inl (0, 16, .inl fun _ => 0), .inl (3, 6, .inl fun _ => 0), .inl (0, 16400, .inl fun _ => 0), .inl (0, 16400, .inl fun _ => 0), .inl (0, 16400, .inl fun _ => 0), .inl (0, 16400, .inl fun _ => 0), .inl (0, 16400, .inl fun _ => 0), .inl (0, 16400, .inl fun _ => 0), .inl (0, 1700, .inl fun _ => 0), .inl (0, 1700, .inl fun _ => 0), .inl (0, 16400, .inl fun _ => 0), .inl (0, 16400, .inl fun _ => 0), .inl (0, 64, .inl fun _ => 0), .inl (0, 64, .inl fun _ => 0), .inl (0, 64, .inl fun _ => 0), .inl (0, 64, .inl fun _ => 0), .inl (0, 64, .inl fun _ => 0), .inl (2, 1, .inr (.inl fun _ => 0)), .inr (10, [])], 156597)
set_option maxHeartbeats 40000000 in
set_option maxRecDepth 100000 in
/-- NeedMachine$Text.refuseUnless -/
theorem zo1_102 {xs : Nat → Int32} (N : zm_N) (d : Nat) (hd : 7 ≤ d) : zm_J N d 20 0 [(0, .ref 3), (1, .int 0)] [] (zh_0 xs) (fun z G => z = .inr (0, 37) ∧ G = (zh_2 xs)) := by
  obtain ⟨d, rfl⟩ : ∃ e, d = e + 1 := ⟨d - 1, by omega⟩
  refine zm_J_run zm_T 6 (pc' := 12) (lv' := [(0, .ref 3), (1, .int 0)]) (st' := []) (G' := (zh_1 xs)) rfl ?_
  exact zm_J_throw zx_20_12 (by omega) (Nat.le_of_ble_eq_true rfl) rfl ⟨rfl, rfl⟩

set_option maxHeartbeats 40000000 in
set_option maxRecDepth 100000 in
/-- NeedMachine$Text.readDefinition -/
theorem zo1_103 {xs : Nat → Int32} (N : zm_N) (d : Nat) (hd : 8 ≤ d) : zm_J N d 17 0 [(0, .ref 3)] [] (zh_0 xs) (fun z G => z = .inr (0, 37) ∧ G = (zh_2 xs)) := by
  obtain ⟨d, rfl⟩ : ∃ e, d = e + 1 := ⟨d - 1, by omega⟩
  refine zm_J_run zm_T 1 (pc' := 1) (lv' := [(0, .ref 3)]) (st' := [.ref 3]) (G' := (zh_0 xs)) rfl ?_
  refine zm_J_V (a := 3) (av := []) (rest := []) (Q1 := fun z G => z = .inl none ∧ G = (zh_0 xs)) (zm_T.1 17 1 _ rfl).1 zc_17_1 rfl (Nat.le_of_ble_eq_true rfl) (Nat.le_of_ble_eq_true rfl) (Nat.le_of_ble_eq_true rfl) (Nat.le_of_ble_eq_true rfl) (zo1_101 N _ (by omega)) ?_ ?_
  rotate_left
  · intro x G' h; exact nomatch h.1
  intro v G' h
  obtain ⟨h1, rfl⟩ := h
  cases Sum.inl.inj h1
  show zm_J N _ 17 4 [(0, .ref 3)] [] (zh_0 xs) _
  refine zm_J_run zm_T 5 (pc' := 13) (lv' := [(0, .ref 3)]) (st' := [.int 0, .int 0, .ref 3]) (G' := (zh_0 xs)) rfl ?_
  refine zm_J_run zm_T 1 (pc' := if (0 : Int32) ≤ 0 then 35 else 16) (lv' := [(0, .ref 3)]) (st' := [.ref 3]) (G' := (zh_0 xs)) rfl ?_
  rw [if_pos (show (0 : Int32) ≤ 0 by decide +kernel)]
  refine zm_J_run zm_T 1 (pc' := 36) (lv' := [(0, .ref 3)]) (st' := [.int 0, .ref 3]) (G' := (zh_0 xs)) rfl ?_
  refine zm_J_V (a := 3) (av := [.int 0]) (rest := []) (Q1 := fun z G => z = .inr (0, 37) ∧ G = (zh_2 xs)) (zm_T.1 17 36 _ rfl).1 zc_17_36 rfl (Nat.le_of_ble_eq_true rfl) (Nat.le_of_ble_eq_true rfl) (Nat.le_of_ble_eq_true rfl) (Nat.le_of_ble_eq_true rfl) (zo1_102 N _ (by omega)) ?_ ?_
  · intro v G' h; exact nomatch h.1
  intro x G' h
  obtain ⟨h1, rfl⟩ := h
  cases Sum.inr.inj h1
  exact Or.inl ⟨zm_out0 rfl, rfl, rfl⟩

set_option maxHeartbeats 40000000 in
set_option maxRecDepth 100000 in
/-- NeedMachine.define -/
theorem zo1_104 {xs : Nat → Int32} (N : zm_N) (d : Nat) (hd : 9 ≤ d) : zm_J N d 16 0 [(0, .ref 2)] [] (zh_0 xs) (fun z G => z = .inr (0, 37) ∧ G = (zh_2 xs)) := by
  obtain ⟨d, rfl⟩ : ∃ e, d = e + 1 := ⟨d - 1, by omega⟩
  refine zm_J_run zm_T 2 (pc' := 4) (lv' := [(0, .ref 2)]) (st' := [.ref 3]) (G' := (zh_0 xs)) rfl ?_
  refine zm_J_V (a := 3) (av := []) (rest := []) (Q1 := fun z G => z = .inr (0, 37) ∧ G = (zh_2 xs)) (zm_T.1 16 4 _ rfl).1 zc_16_4 rfl (Nat.le_of_ble_eq_true rfl) (Nat.le_of_ble_eq_true rfl) (Nat.le_of_ble_eq_true rfl) (Nat.le_of_ble_eq_true rfl) (zo1_103 N _ (by omega)) ?_ ?_
  · intro v G' h; exact nomatch h.1
  intro x G' h
  obtain ⟨h1, rfl⟩ := h
  cases Sum.inr.inj h1
  exact Or.inl ⟨zm_out0 rfl, rfl, rfl⟩

set_option maxHeartbeats 40000000 in
set_option maxRecDepth 100000 in
/-- NeedMachineLaw.define -/
theorem zo1_105 {xs : Nat → Int32} (N : zm_N) (d : Nat) (hd : 10 ≤ d) : zm_J N d 15 0 [(0, .ref 2), (1, .ref 36)] [] (zh_0 xs) (fun z G => z = .inl (some (.int 1)) ∧ G = (zh_2 xs)) := by
  obtain ⟨d, rfl⟩ : ∃ e, d = e + 1 := ⟨d - 1, by omega⟩
  refine zm_J_run zm_T 3 (pc' := 3) (lv' := [(0, .ref 2), (1, .ref 36)]) (st' := [.ref 2, .int 0, .ref 36]) (G' := (zh_0 xs)) rfl ?_
  refine zm_J_V (a := 2) (av := []) (rest := [.int 0, .ref 36]) (Q1 := fun z G => z = .inr (0, 37) ∧ G = (zh_2 xs)) (zm_T.1 15 3 _ rfl).1 zc_15_3 rfl (Nat.le_of_ble_eq_true rfl) (Nat.le_of_ble_eq_true rfl) (Nat.le_of_ble_eq_true rfl) (Nat.le_of_ble_eq_true rfl) (zo1_104 N _ (by omega)) ?_ ?_
  · intro v G' h; exact nomatch h.1
  intro x G' h
  obtain ⟨h1, rfl⟩ := h
  cases Sum.inr.inj h1
  refine Or.inr ⟨11, zt_15_0, ?_⟩
  show zm_J N _ 15 11 [(0, .ref 2), (1, .ref 36)] [.ref 37] (zh_2 xs) _
  refine zm_J_run zm_T 2 (pc' := 13) (lv' := [(2, .ref 37), (0, .ref 2), (1, .ref 36)]) (st' := [.int 1]) (G' := (zh_2 xs)) rfl ?_
  exact zm_J_fin zm_T rfl rfl ⟨rfl, rfl⟩

def zh_3 (xs : Nat → Int32) : zm_H := ([.inl (0, 3, .inl xs), .inr (99, []), .inr (0, [.ref 3, .ref 6, .ref 11, .null, .int 0, .int 0, .int 0, .int 0, .int 0]), .inr (1, [.int 0, .int 0, .ref 4, .ref 5, .int 0, .int 0, .int 0, .int 0]), .inl (1, 40, .inl fun _ => 0), .inl (1, 4, .inl fun _ => 0), .inr (2, [.ref 7, .ref 8, .ref 9, .ref 10, .int 0, .int 0, .int 0]), .inr (3, [.int 1, .int 0, .null, .null, .null]), .inr (4, [.ref 1, .int 0, .int 0]), .inr (4, [.ref 1, .int 0, .int 0]), .inr (4, [.ref 1, .int 0, .int 0]), .inl (4, 6, .inr (.inr (.inr (.inr fun _ => none)))), .inr (5, [.ref 13, .ref 14, .ref 15, .ref 16, .ref 17, .ref 18, .ref 19, .ref 20, .int 0, .int (-1), .int 0, .int 0, .int 0, .ref 21, .ref 22, .ref 23, .ref 24, .ref 25, .ref 26, .ref 27, .ref 28, .ref 29, .ref 30, .int 0, .int 0, .int 0, .ref 31, .ref 32, .ref 33, .ref 34, .ref 35, .int 0, .int 0, .int 0, .int 0, .int 0, .int 0, .int 0, .int 0, .int 0, .int 0, .int 0, .int 0, .int 0]), .inl (0, 40, .inl fun _ => 0), .inl (0, 21200, .inl fun _ => 0), .inl (0, 240, .inl fun _ => 0), .inl (0, 6, .inl fun _ => 0), .inl (0, 24, .inl fun _ => 0), .inl (0, 6, .inl fun _ => 0), .inl (0, 16, .inl fun _ => 0), .inl (3, 6, .inl fun _ => 0), .inl (0, 16400, .inl fun _ => 0), .inl (0, 16400, .inl fun _ => 0), .inl (0, 16400, .inl fun _ => 0), .inl (0, 16400, .inl fun _ => 0), .inl (0, 16400, .inl fun _ => 0), .inl (0, 16400, .inl fun _ => 0), .inl (0, 1700, .inl fun _ => 0), .inl (0, 1700, .inl fun _ => 0), .inl (0, 16400, .inl fun _ => 0), .inl (0, 16400, .inl fun _ => 0), .inl (0, 64, .inl fun _ => 0), .inl (0, 64, .inl fun _ => 0), .inl (0, 64, .inl fun _ => 0), .inl (0, 64, .inl fun _ => 0), .inl (0, 64, .inl fun _ => 0), .inl (2, 1, .inr (.inl fun _ => 0)), .inr (10, []), .inl (0, 4, .inl (upd (fun _ => 0) 0 0))], 156601)
def zh_4 (xs : Nat → Int32) : zm_H := ([.inl (0, 3, .inl xs), .inr (99, []), .inr (0, [.ref 3, .ref 6, .ref 11, .null, .int 0, .int 0, .int 0, .int 0, .int 0]), .inr (1, [.int 0, .int 0, .ref 4, .ref 5, .int 0, .int 0, .int 0, .int 0]), .inl (1, 40, .inl fun _ => 0), .inl (1, 4, .inl fun _ => 0), .inr (2, [.ref 7, .ref 8, .ref 9, .ref 10, .int 0, .int 0, .int 0]), .inr (3, [.int 1, .int 0, .null, .null, .null]), .inr (4, [.ref 1, .int 0, .int 0]), .inr (4, [.ref 1, .int 0, .int 0]), .inr (4, [.ref 1, .int 0, .int 0]), .inl (4, 6, .inr (.inr (.inr (.inr fun _ => none)))), .inr (5, [.ref 13, .ref 14, .ref 15, .ref 16, .ref 17, .ref 18, .ref 19, .ref 20, .int 0, .int (-1), .int 0, .int 0, .int 0, .ref 21, .ref 22, .ref 23, .ref 24, .ref 25, .ref 26, .ref 27, .ref 28, .ref 29, .ref 30, .int 0, .int 0, .int 0, .ref 31, .ref 32, .ref 33, .ref 34, .ref 35, .int 0, .int 0, .int 0, .int 0, .int 0, .int 0, .int 0, .int 0, .int 0, .int 0, .int 0, .int 0, .int 0]), .inl (0, 40, .inl fun _ => 0), .inl (0, 21200, .inl fun _ => 0), .inl (0, 240, .inl fun _ => 0), .inl (0, 6, .inl fun _ => 0), .inl (0, 24, .inl fun _ => 0), .inl (0, 6, .inl fun _ => 0), .inl (0, 16, .inl fun _ => 0), .inl (3, 6, .inl fun _ => 0), .inl (0, 16400, .inl fun _ => 0), .inl (0, 16400, .inl fun _ => 0), .inl (0, 16400, .inl fun _ => 0), .inl (0, 16400, .inl fun _ => 0), .inl (0, 16400, .inl fun _ => 0), .inl (0, 16400, .inl fun _ => 0), .inl (0, 1700, .inl fun _ => 0), .inl (0, 1700, .inl fun _ => 0), .inl (0, 16400, .inl fun _ => 0), .inl (0, 16400, .inl fun _ => 0), .inl (0, 64, .inl fun _ => 0), .inl (0, 64, .inl fun _ => 0), .inl (0, 64, .inl fun _ => 0), .inl (0, 64, .inl fun _ => 0), .inl (0, 64, .inl fun _ => 0), .inl (2, 1, .inr (.inl fun _ => 0)), .inr (10, []), .inl (0, 4, .inl (upd ((upd ((upd (fun _ => 0) 0 0)) 1 0)) 2 0))], 156601)
def zh_5 (xs : Nat → Int32) : zm_H := ([.inl (0, 3, .inl xs), .inr (99, []), .inr (0, [.ref 3, .ref 6, .ref 11, .null, .int 0, .int 0, .int 0, .int 0, .int 0]), .inr (1, [.int 0, .int 0, .ref 4, .ref 5, .int 0, .int 0, .int 0, .int 0]), .inl (1, 40, .inl fun _ => 0), .inl (1, 4, .inl fun _ => 0), .inr (2, [.ref 7, .ref 8, .ref 9, .ref 10, .int 0, .int 0, .int 0]), .inr (3, [.int 1, .int 0, .null, .null, .null]), .inr (4, [.ref 1, .int 0, .int 0]), .inr (4, [.ref 1, .int 0, .int 0]), .inr (4, [.ref 1, .int 0, .int 0]), .inl (4, 6, .inr (.inr (.inr (.inr fun _ => none)))), .inr (5, [.ref 13, .ref 14, .ref 15, .ref 16, .ref 17, .ref 18, .ref 19, .ref 20, .int 0, .int (-1), .int 0, .int 0, .int 0, .ref 21, .ref 22, .ref 23, .ref 24, .ref 25, .ref 26, .ref 27, .ref 28, .ref 29, .ref 30, .int 0, .int 0, .int 0, .ref 31, .ref 32, .ref 33, .ref 34, .ref 35, .int 0, .int 0, .int 0, .int 0, .int 0, .int 0, .int 0, .int 0, .int 0, .int 0, .int 0, .int 0, .int 0]), .inl (0, 40, .inl fun _ => 0), .inl (0, 21200, .inl fun _ => 0), .inl (0, 240, .inl fun _ => 0), .inl (0, 6, .inl fun _ => 0), .inl (0, 24, .inl fun _ => 0), .inl (0, 6, .inl fun _ => 0), .inl (0, 16, .inl fun _ => 0), .inl (3, 6, .inl fun _ => 0), .inl (0, 16400, .inl fun _ => 0), .inl (0, 16400, .inl fun _ => 0), .inl (0, 16400, .inl fun _ => 0), .inl (0, 16400, .inl fun _ => 0), .inl (0, 16400, .inl fun _ => 0), .inl (0, 16400, .inl fun _ => 0), .inl (0, 1700, .inl fun _ => 0), .inl (0, 1700, .inl fun _ => 0), .inl (0, 16400, .inl fun _ => 0), .inl (0, 16400, .inl fun _ => 0), .inl (0, 64, .inl fun _ => 0), .inl (0, 64, .inl fun _ => 0), .inl (0, 64, .inl fun _ => 0), .inl (0, 64, .inl fun _ => 0), .inl (0, 64, .inl fun _ => 0), .inl (2, 1, .inr (.inl fun _ => 0)), .inr (10, []), .inl (0, 4, .inl (upd ((upd ((upd ((upd (fun _ => 0) 0 0)) 1 0)) 2 0)) 3 0))], 156601)
set_option maxHeartbeats 40000000 in
set_option maxRecDepth 100000 in
/-- NeedMachineModel.look -/
theorem zo1_106 {xs : Nat → Int32} (N : zm_N) (d : Nat) (hd : 1 ≤ d) : zm_J N d 78 0 [(0, .ref 12)] [] (zh_5 xs) (fun z G => z = .inl (some (.int 0)) ∧ G = (zh_5 xs)) := by
  obtain ⟨d, rfl⟩ : ∃ e, d = e + 1 := ⟨d - 1, by omega⟩
  refine zm_J_run zm_T 4 (pc' := 8) (lv' := [(0, .ref 12)]) (st' := [.int 0, .int 0]) (G' := (zh_5 xs)) rfl ?_
  refine zm_J_run zm_T 1 (pc' := if (0 : Int32) ≤ 0 then 23 else 11) (lv' := [(0, .ref 12)]) (st' := []) (G' := (zh_5 xs)) rfl ?_
  rw [if_pos (show (0 : Int32) ≤ 0 by decide +kernel)]
  refine zm_J_run zm_T 1 (pc' := 24) (lv' := [(0, .ref 12)]) (st' := [.int 0]) (G' := (zh_5 xs)) rfl ?_
  exact zm_J_fin zm_T rfl rfl ⟨rfl, rfl⟩

set_option maxHeartbeats 40000000 in
set_option maxRecDepth 100000 in
/-- NeedMachineModel.between -/
theorem zo1_107 {xs : Nat → Int32} (N : zm_N) (d : Nat) (hd : 1 ≤ d) : zm_J N d 73 0 [(0, .int 0), (1, .int 65), (2, .int 70)] [] (zh_5 xs) (fun z G => z = .inl (some (.int 0)) ∧ G = (zh_5 xs)) := by
  obtain ⟨d, rfl⟩ : ∃ e, d = e + 1 := ⟨d - 1, by omega⟩
  refine zm_J_run zm_T 2 (pc' := 2) (lv' := [(0, .int 0), (1, .int 65), (2, .int 70)]) (st' := [.int 65, .int 0]) (G' := (zh_5 xs)) rfl ?_
  refine zm_J_run zm_T 1 (pc' := if (0 : Int32) < 65 then 14 else 5) (lv' := [(0, .int 0), (1, .int 65), (2, .int 70)]) (st' := []) (G' := (zh_5 xs)) rfl ?_
  rw [if_pos (show (0 : Int32) < 65 by decide +kernel)]
  refine zm_J_run zm_T 1 (pc' := 15) (lv' := [(0, .int 0), (1, .int 65), (2, .int 70)]) (st' := [.int 0]) (G' := (zh_5 xs)) rfl ?_
  exact zm_J_fin zm_T rfl rfl ⟨rfl, rfl⟩

set_option maxHeartbeats 40000000 in
set_option maxRecDepth 100000 in
/-- NeedMachineModel.heading -/
theorem zo1_108 {xs : Nat → Int32} (N : zm_N) (d : Nat) (hd : 2 ≤ d) : zm_J N d 77 0 [(0, .ref 12), (1, .ref 38)] [] (zh_5 xs) (fun z G => z = .inl (some (.int (-1))) ∧ G = (zh_5 xs)) := by
  obtain ⟨d, rfl⟩ : ∃ e, d = e + 1 := ⟨d - 1, by omega⟩
  refine zm_J_run zm_T 5 (pc' := 5) (lv' := [(3, .int 0), (2, .int 0), (0, .ref 12), (1, .ref 38)]) (st' := [.ref 12]) (G' := (zh_5 xs)) rfl ?_
  refine zm_J_V (a := 12) (av := []) (rest := []) (Q1 := fun z G => z = .inl (some (.int 0)) ∧ G = (zh_5 xs)) (zm_T.1 77 5 _ rfl).1 zc_77_5 rfl (Nat.le_of_ble_eq_true rfl) (Nat.le_of_ble_eq_true rfl) (Nat.le_of_ble_eq_true rfl) (Nat.le_of_ble_eq_true rfl) (zo1_106 N _ (by omega)) ?_ ?_
  rotate_left
  · intro x G' h; exact nomatch h.1
  intro v G' h
  obtain ⟨h1, rfl⟩ := h
  cases Sum.inl.inj h1
  show zm_J N _ 77 8 [(3, .int 0), (2, .int 0), (0, .ref 12), (1, .ref 38)] [.int 0] (zh_5 xs) _
  refine zm_J_run zm_T 2 (pc' := 12) (lv' := [(3, .int 0), (2, .int 0), (0, .ref 12), (1, .ref 38)]) (st' := [.int 70, .int 65, .int 0]) (G' := (zh_5 xs)) rfl ?_
  refine zm_J_S (av := [.int 0, .int 65, .int 70]) (rest := []) (Q1 := fun z G => z = .inl (some (.int 0)) ∧ G = (zh_5 xs)) (zm_T.1 77 12 _ rfl).1 zc_77_12 (Nat.le_of_ble_eq_true rfl) (Nat.le_of_ble_eq_true rfl) (Nat.le_of_ble_eq_true rfl) (Nat.le_of_ble_eq_true rfl) (zo1_107 N _ (by omega)) ?_ ?_
  rotate_left
  · intro x G' h; exact nomatch h.1
  intro v G' h
  obtain ⟨h1, rfl⟩ := h
  cases Sum.inl.inj h1
  show zm_J N _ 77 15 [(3, .int 0), (2, .int 0), (0, .ref 12), (1, .ref 38)] [.int 0] (zh_5 xs) _
  refine zm_J_run zm_T 2 (pc' := 19) (lv' := [(3, .int 0), (2, .int 0), (0, .ref 12), (1, .ref 38)]) (st' := [.int (-1)]) (G' := (zh_5 xs)) rfl ?_
  exact zm_J_fin zm_T rfl rfl ⟨rfl, rfl⟩

def zh_6 (xs : Nat → Int32) : zm_H := ([.inl (0, 3, .inl xs), .inr (99, []), .inr (0, [.ref 3, .ref 6, .ref 11, .null, .int 0, .int 0, .int 0, .int 0, .int 0]), .inr (1, [.int 0, .int 0, .ref 4, .ref 5, .int 0, .int 0, .int 0, .int 0]), .inl (1, 40, .inl fun _ => 0), .inl (1, 4, .inl fun _ => 0), .inr (2, [.ref 7, .ref 8, .ref 9, .ref 10, .int 0, .int 0, .int 0]), .inr (3, [.int 1, .int 0, .null, .null, .null]), .inr (4, [.ref 1, .int 0, .int 0]), .inr (4, [.ref 1, .int 0, .int 0]), .inr (4, [.ref 1, .int 0, .int 0]), .inl (4, 6, .inr (.inr (.inr (.inr fun _ => none)))), .inr (5, [.ref 13, .ref 14, .ref 15, .ref 16, .ref 17, .ref 18, .ref 19, .ref 20, .int 0, .int 0, .int 0, .int 0, .int 0, .ref 21, .ref 22, .ref 23, .ref 24, .ref 25, .ref 26, .ref 27, .ref 28, .ref 29, .ref 30, .int 0, .int 0, .int 0, .ref 31, .ref 32, .ref 33, .ref 34, .ref 35, .int 0, .int 0, .int 0, .int 0, .int 0, .int 0, .int 0, .int 0, .int 0, .int 0, .int 0, .int 0, .int 0]), .inl (0, 40, .inl fun _ => 0), .inl (0, 21200, .inl fun _ => 0), .inl (0, 240, .inl fun _ => 0), .inl (0, 6, .inl fun _ => 0), .inl (0, 24, .inl fun _ => 0), .inl (0, 6, .inl fun _ => 0), .inl (0, 16, .inl fun _ => 0), .inl (3, 6, .inl fun _ => 0), .inl (0, 16400, .inl fun _ => 0), .inl (0, 16400, .inl fun _ => 0), .inl (0, 16400, .inl fun _ => 0), .inl (0, 16400, .inl fun _ => 0), .inl (0, 16400, .inl fun _ => 0), .inl (0, 16400, .inl fun _ => 0), .inl (0, 1700, .inl fun _ => 0), .inl (0, 1700, .inl fun _ => 0), .inl (0, 16400, .inl fun _ => 0), .inl (0, 16400, .inl fun _ => 0), .inl (0, 64, .inl fun _ => 0), .inl (0, 64, .inl fun _ => 0), .inl (0, 64, .inl fun _ => 0), .inl (0, 64, .inl fun _ => 0), .inl (0, 64, .inl fun _ => 0), .inl (2, 1, .inr (.inl fun _ => 0)), .inr (10, []), .inl (0, 4, .inl (upd ((upd ((upd ((upd (fun _ => 0) 0 0)) 1 0)) 2 0)) 3 0))], 156601)
def zh_7 (xs : Nat → Int32) : zm_H := ([.inl (0, 3, .inl xs), .inr (99, []), .inr (0, [.ref 3, .ref 6, .ref 11, .null, .int 0, .int 0, .int 0, .int 0, .int 0]), .inr (1, [.int 0, .int 0, .ref 4, .ref 5, .int 0, .int 0, .int 0, .int 0]), .inl (1, 40, .inl fun _ => 0), .inl (1, 4, .inl fun _ => 0), .inr (2, [.ref 7, .ref 8, .ref 9, .ref 10, .int 0, .int 0, .int 0]), .inr (3, [.int 1, .int 0, .null, .null, .null]), .inr (4, [.ref 1, .int 0, .int 0]), .inr (4, [.ref 1, .int 0, .int 0]), .inr (4, [.ref 1, .int 0, .int 0]), .inl (4, 6, .inr (.inr (.inr (.inr fun _ => none)))), .inr (5, [.ref 13, .ref 14, .ref 15, .ref 16, .ref 17, .ref 18, .ref 19, .ref 20, .int 0, .int 0, .int 0, .int 0, .int 1, .ref 21, .ref 22, .ref 23, .ref 24, .ref 25, .ref 26, .ref 27, .ref 28, .ref 29, .ref 30, .int 0, .int 0, .int 0, .ref 31, .ref 32, .ref 33, .ref 34, .ref 35, .int 0, .int 0, .int 0, .int 0, .int 0, .int 0, .int 0, .int 0, .int 0, .int 0, .int 0, .int 0, .int 0]), .inl (0, 40, .inl fun _ => 0), .inl (0, 21200, .inl fun _ => 0), .inl (0, 240, .inl fun _ => 0), .inl (0, 6, .inl fun _ => 0), .inl (0, 24, .inl fun _ => 0), .inl (0, 6, .inl fun _ => 0), .inl (0, 16, .inl fun _ => 0), .inl (3, 6, .inl fun _ => 0), .inl (0, 16400, .inl fun _ => 0), .inl (0, 16400, .inl fun _ => 0), .inl (0, 16400, .inl fun _ => 0), .inl (0, 16400, .inl fun _ => 0), .inl (0, 16400, .inl fun _ => 0), .inl (0, 16400, .inl fun _ => 0), .inl (0, 1700, .inl fun _ => 0), .inl (0, 1700, .inl fun _ => 0), .inl (0, 16400, .inl fun _ => 0), .inl (0, 16400, .inl fun _ => 0), .inl (0, 64, .inl fun _ => 0), .inl (0, 64, .inl fun _ => 0), .inl (0, 64, .inl fun _ => 0), .inl (0, 64, .inl fun _ => 0), .inl (0, 64, .inl fun _ => 0), .inl (2, 1, .inr (.inl fun _ => 0)), .inr (10, []), .inl (0, 4, .inl (upd ((upd ((upd ((upd (fun _ => 0) 0 0)) 1 0)) 2 0)) 3 0))], 156601)
set_option maxHeartbeats 40000000 in
set_option maxRecDepth 100000 in
/-- NeedMachineModel.bad -/
theorem zo1_109 {xs : Nat → Int32} (N : zm_N) (d : Nat) (hd : 1 ≤ d) : zm_J N d 74 0 [(0, .ref 12), (1, .int 0)] [] (zh_6 xs) (fun z G => z = .inl (some (.int 1)) ∧ G = (zh_7 xs)) := by
  obtain ⟨d, rfl⟩ : ∃ e, d = e + 1 := ⟨d - 1, by omega⟩
  refine zm_J_run zm_T 8 (pc' := 18) (lv' := [(0, .ref 12), (1, .int 0)]) (st' := [.int 1]) (G' := (zh_7 xs)) rfl ?_
  refine zm_J_run zm_T 1 (pc' := 22) (lv' := [(0, .ref 12), (1, .int 0)]) (st' := [.int 1]) (G' := (zh_7 xs)) rfl ?_
  exact zm_J_fin zm_T rfl rfl ⟨rfl, rfl⟩

set_option maxHeartbeats 40000000 in
set_option maxRecDepth 100000 in
/-- NeedMachineModel.define -/
theorem zo1_110 {xs : Nat → Int32} (N : zm_N) (d : Nat) (hd : 3 ≤ d) : zm_J N d 76 0 [(0, .ref 12)] [] (zh_2 xs) (fun z G => z = .inl (some (.int 0)) ∧ G = (zh_7 xs)) := by
  obtain ⟨d, rfl⟩ : ∃ e, d = e + 1 := ⟨d - 1, by omega⟩
  refine zm_J_run zm_T 8 (pc' := 9) (lv' := [(0, .ref 12)]) (st' := [.int 1, .ref 38, .ref 38]) (G' := (zh_3 xs)) rfl ?_
  refine zm_J_run zm_T 8 (pc' := 17) (lv' := [(0, .ref 12)]) (st' := [.int 3, .ref 38, .ref 38]) (G' := (zh_4 xs)) rfl ?_
  refine zm_J_run zm_T 8 (pc' := 27) (lv' := [(1, .ref 38), (0, .ref 12)]) (st' := [.ref 38, .ref 12]) (G' := (zh_5 xs)) rfl ?_
  refine zm_J_V (a := 12) (av := [.ref 38]) (rest := []) (Q1 := fun z G => z = .inl (some (.int (-1))) ∧ G = (zh_5 xs)) (zm_T.1 76 27 _ rfl).1 zc_76_27 rfl (Nat.le_of_ble_eq_true rfl) (Nat.le_of_ble_eq_true rfl) (Nat.le_of_ble_eq_true rfl) (Nat.le_of_ble_eq_true rfl) (zo1_108 N _ (by omega)) ?_ ?_
  rotate_left
  · intro x G' h; exact nomatch h.1
  intro v G' h
  obtain ⟨h1, rfl⟩ := h
  cases Sum.inl.inj h1
  show zm_J N _ 76 30 [(1, .ref 38), (0, .ref 12)] [.int (-1)] (zh_5 xs) _
  refine zm_J_run zm_T 5 (pc' := 37) (lv' := [(3, .int 0), (2, .int (-1)), (1, .ref 38), (0, .ref 12)]) (st' := [.int (-1)]) (G' := (zh_5 xs)) rfl ?_
  refine zm_J_run zm_T 1 (pc' := if ((-1) : Int32) < 0 then 52 else 40) (lv' := [(3, .int 0), (2, .int (-1)), (1, .ref 38), (0, .ref 12)]) (st' := []) (G' := (zh_5 xs)) rfl ?_
  rw [if_pos (show ((-1) : Int32) < 0 by decide +kernel)]
  refine zm_J_run zm_T 8 (pc' := 68) (lv' := [(4, .int 0), (3, .int 0), (2, .int (-1)), (1, .ref 38), (0, .ref 12)]) (st' := []) (G' := (zh_6 xs)) rfl ?_
  refine zm_J_run zm_T 8 (pc' := 156) (lv' := [(5, .int 0), (4, .int 0), (3, .int 0), (2, .int (-1)), (1, .ref 38), (0, .ref 12)]) (st' := []) (G' := (zh_6 xs)) rfl ?_
  refine zm_J_run zm_T 2 (pc' := 159) (lv' := [(5, .int 0), (4, .int 0), (3, .int 0), (2, .int (-1)), (1, .ref 38), (0, .ref 12)]) (st' := [.int 0, .ref 12]) (G' := (zh_6 xs)) rfl ?_
  refine zm_J_V (a := 12) (av := [.int 0]) (rest := []) (Q1 := fun z G => z = .inl (some (.int 1)) ∧ G = (zh_7 xs)) (zm_T.1 76 159 _ rfl).1 zc_76_159 rfl (Nat.le_of_ble_eq_true rfl) (Nat.le_of_ble_eq_true rfl) (Nat.le_of_ble_eq_true rfl) (Nat.le_of_ble_eq_true rfl) (zo1_109 N _ (by omega)) ?_ ?_
  rotate_left
  · intro x G' h; exact nomatch h.1
  intro v G' h
  obtain ⟨h1, rfl⟩ := h
  cases Sum.inl.inj h1
  show zm_J N _ 76 162 [(5, .int 0), (4, .int 0), (3, .int 0), (2, .int (-1)), (1, .ref 38), (0, .ref 12)] [.int 1] (zh_7 xs) _
  refine zm_J_run zm_T 3 (pc' := 177) (lv' := [(5, .int 0), (4, .int 0), (3, .int 0), (2, .int (-1)), (1, .ref 38), (0, .ref 12)]) (st' := [.int 0]) (G' := (zh_7 xs)) rfl ?_
  exact zm_J_fin zm_T rfl rfl ⟨rfl, rfl⟩

set_option maxHeartbeats 40000000 in
set_option maxRecDepth 100000 in
/-- NeedMachineModel.thrown -/
theorem zo1_111 {xs : Nat → Int32} (N : zm_N) (d : Nat) (hd : 1 ≤ d) : zm_J N d 71 0 [(0, .ref 12)] [] (zh_7 xs) (fun z G => z = .inl (some (.int 1)) ∧ G = (zh_7 xs)) := by
  obtain ⟨d, rfl⟩ : ∃ e, d = e + 1 := ⟨d - 1, by omega⟩
  refine zm_J_run zm_T 2 (pc' := 4) (lv' := [(0, .ref 12)]) (st' := [.int 1]) (G' := (zh_7 xs)) rfl ?_
  exact zm_J_fin zm_T rfl rfl ⟨rfl, rfl⟩

set_option maxHeartbeats 40000000 in
set_option maxRecDepth 100000 in
theorem zl_op1 {xs : Nat → Int32} (N : zm_N) (d : Nat) (hd : 11 ≤ d) : zm_J N d 0 39 [(4, .int 0), (3, .ref 36), (2, .ref 12), (1, .ref 2), (0, .ref 0)] [.int 1] (zh_0 xs) (fun z G => z = .inl (some (.int 1)) ∧ G = (zh_7 xs)) := by
  obtain ⟨d, rfl⟩ : ∃ e, d = e + 1 := ⟨d - 1, by omega⟩
  refine zm_J_run zm_T 3 (pc' := 174) (lv' := [(4, .int 0), (3, .ref 36), (2, .ref 12), (1, .ref 2), (0, .ref 0)]) (st' := [.ref 36, .ref 2]) (G' := (zh_0 xs)) rfl ?_
  refine zm_J_S (av := [.ref 2, .ref 36]) (rest := []) (Q1 := fun z G => z = .inl (some (.int 1)) ∧ G = (zh_2 xs)) (zm_T.1 0 174 _ rfl).1 zc_0_174 (Nat.le_of_ble_eq_true rfl) (Nat.le_of_ble_eq_true rfl) (Nat.le_of_ble_eq_true rfl) (Nat.le_of_ble_eq_true rfl) (zo1_105 N _ (by omega)) ?_ ?_
  rotate_left
  · intro x G' h; exact nomatch h.1
  intro v G' h
  obtain ⟨h1, rfl⟩ := h
  cases Sum.inl.inj h1
  show zm_J N _ 0 177 [(4, .int 0), (3, .ref 36), (2, .ref 12), (1, .ref 2), (0, .ref 0)] [.int 1] (zh_2 xs) _
  refine zm_J_run zm_T 2 (pc' := 180) (lv' := [(5, .int 1), (4, .int 0), (3, .ref 36), (2, .ref 12), (1, .ref 2), (0, .ref 0)]) (st' := [.ref 12]) (G' := (zh_2 xs)) rfl ?_
  refine zm_J_V (a := 12) (av := []) (rest := []) (Q1 := fun z G => z = .inl (some (.int 0)) ∧ G = (zh_7 xs)) (zm_T.1 0 180 _ rfl).1 zc_0_180 rfl (Nat.le_of_ble_eq_true rfl) (Nat.le_of_ble_eq_true rfl) (Nat.le_of_ble_eq_true rfl) (Nat.le_of_ble_eq_true rfl) (zo1_110 N _ (by omega)) ?_ ?_
  rotate_left
  · intro x G' h; exact nomatch h.1
  intro v G' h
  obtain ⟨h1, rfl⟩ := h
  cases Sum.inl.inj h1
  show zm_J N _ 0 183 [(5, .int 1), (4, .int 0), (3, .ref 36), (2, .ref 12), (1, .ref 2), (0, .ref 0)] [.int 0] (zh_7 xs) _
  refine zm_J_run zm_T 2 (pc' := 186) (lv' := [(6, .int 0), (5, .int 1), (4, .int 0), (3, .ref 36), (2, .ref 12), (1, .ref 2), (0, .ref 0)]) (st' := [.ref 12]) (G' := (zh_7 xs)) rfl ?_
  refine zm_J_V (a := 12) (av := []) (rest := []) (Q1 := fun z G => z = .inl (some (.int 1)) ∧ G = (zh_7 xs)) (zm_T.1 0 186 _ rfl).1 zc_0_186 rfl (Nat.le_of_ble_eq_true rfl) (Nat.le_of_ble_eq_true rfl) (Nat.le_of_ble_eq_true rfl) (Nat.le_of_ble_eq_true rfl) (zo1_111 N _ (by omega)) ?_ ?_
  rotate_left
  · intro x G' h; exact nomatch h.1
  intro v G' h
  obtain ⟨h1, rfl⟩ := h
  cases Sum.inl.inj h1
  show zm_J N _ 0 189 [(6, .int 0), (5, .int 1), (4, .int 0), (3, .ref 36), (2, .ref 12), (1, .ref 2), (0, .ref 0)] [.int 1] (zh_7 xs) _
  refine zm_J_run zm_T 8 (pc' := 25) (lv' := [(4, .int 3), (6, .int 0), (5, .int 1), (3, .ref 36), (2, .ref 12), (1, .ref 2), (0, .ref 0)]) (st' := [.int 3]) (G' := (zh_7 xs)) rfl ?_
  refine zm_J_run zm_T 4 (pc' := 29) (lv' := [(4, .int 3), (6, .int 0), (5, .int 1), (3, .ref 36), (2, .ref 12), (1, .ref 2), (0, .ref 0)]) (st' := [.int (3 - 3), .int 3]) (G' := (zh_7 xs)) rfl ?_
  refine zm_J_run zm_T 1 (pc' := if ((3 - 3) : Int32) < 3 then 459 else 32) (lv' := [(4, .int 3), (6, .int 0), (5, .int 1), (3, .ref 36), (2, .ref 12), (1, .ref 2), (0, .ref 0)]) (st' := []) (G' := (zh_7 xs)) rfl ?_
  rw [if_pos (show ((3 - 3) : Int32) < 3 by decide +kernel)]
  refine zm_J_run zm_T 1 (pc' := 460) (lv' := [(4, .int 3), (6, .int 0), (5, .int 1), (3, .ref 36), (2, .ref 12), (1, .ref 2), (0, .ref 0)]) (st' := [.int 1]) (G' := (zh_7 xs)) rfl ?_
  exact zm_J_fin zm_T rfl rfl ⟨rfl, rfl⟩

def zh_8 (xs : Nat → Int32) : zm_H := ([.inl (0, 3, .inl xs), .inr (99, []), .inr (0, [.ref 3, .ref 6, .ref 11, .null, .int 0, .int 0, .int 0, .int 0, .int 0]), .inr (1, [.int 0, .int (-1), .ref 4, .ref 5, .int 0, .int 0, .int 0, .int 1]), .inl (1, 40, .inl fun _ => 0), .inl (1, 4, .inl fun _ => 0), .inr (2, [.ref 7, .ref 8, .ref 9, .ref 10, .int 0, .int 0, .int 0]), .inr (3, [.int 1, .int 0, .null, .null, .null]), .inr (4, [.ref 1, .int 0, .int 0]), .inr (4, [.ref 1, .int 0, .int 0]), .inr (4, [.ref 1, .int 0, .int 0]), .inl (4, 6, .inr (.inr (.inr (.inr fun _ => none)))), .inr (5, [.ref 13, .ref 14, .ref 15, .ref 16, .ref 17, .ref 18, .ref 19, .ref 20, .int 0, .int (-1), .int 0, .int 0, .int 0, .ref 21, .ref 22, .ref 23, .ref 24, .ref 25, .ref 26, .ref 27, .ref 28, .ref 29, .ref 30, .int 0, .int 0, .int 0, .ref 31, .ref 32, .ref 33, .ref 34, .ref 35, .int 0, .int 0, .int 0, .int 0, .int 0, .int 0, .int 0, .int 0, .int 0, .int 0, .int 0, .int 0, .int 0]), .inl (0, 40, .inl fun _ => 0), .inl (0, 21200, .inl fun _ => 0), .inl (0, 240, .inl fun _ => 0), .inl (0, 6, .inl fun _ => 0), .inl (0, 24, .inl fun _ => 0), .inl (0, 6, .inl fun _ => 0), .inl (0, 16, .inl fun _ => 0), .inl (3, 6, .inl fun _ => 0), .inl (0, 16400, .inl fun _ => 0), .inl (0, 16400, .inl fun _ => 0), .inl (0, 16400, .inl fun _ => 0), .inl (0, 16400, .inl fun _ => 0), .inl (0, 16400, .inl fun _ => 0), .inl (0, 16400, .inl fun _ => 0), .inl (0, 1700, .inl fun _ => 0), .inl (0, 1700, .inl fun _ => 0), .inl (0, 16400, .inl fun _ => 0), .inl (0, 16400, .inl fun _ => 0), .inl (0, 64, .inl fun _ => 0), .inl (0, 64, .inl fun _ => 0), .inl (0, 64, .inl fun _ => 0), .inl (0, 64, .inl fun _ => 0), .inl (0, 64, .inl fun _ => 0), .inl (2, 1, .inr (.inl fun _ => 0))], 156591)
def zh_9 (xs : Nat → Int32) : zm_H := ([.inl (0, 3, .inl xs), .inr (99, []), .inr (0, [.ref 3, .ref 6, .ref 11, .null, .int 0, .int 0, .int 0, .int 0, .int 0]), .inr (1, [.int 0, .int 0, .ref 4, .ref 5, .int 0, .int 0, .int 0, .int 1]), .inl (1, 40, .inl fun _ => 0), .inl (1, 4, .inl fun _ => 0), .inr (2, [.ref 7, .ref 8, .ref 9, .ref 10, .int 0, .int 0, .int 0]), .inr (3, [.int 1, .int 0, .null, .null, .null]), .inr (4, [.ref 1, .int 0, .int 0]), .inr (4, [.ref 1, .int 0, .int 0]), .inr (4, [.ref 1, .int 0, .int 0]), .inl (4, 6, .inr (.inr (.inr (.inr fun _ => none)))), .inr (5, [.ref 13, .ref 14, .ref 15, .ref 16, .ref 17, .ref 18, .ref 19, .ref 20, .int 0, .int (-1), .int 0, .int 0, .int 0, .ref 21, .ref 22, .ref 23, .ref 24, .ref 25, .ref 26, .ref 27, .ref 28, .ref 29, .ref 30, .int 0, .int 0, .int 0, .ref 31, .ref 32, .ref 33, .ref 34, .ref 35, .int 0, .int 0, .int 0, .int 0, .int 0, .int 0, .int 0, .int 0, .int 0, .int 0, .int 0, .int 0, .int 0]), .inl (0, 40, .inl fun _ => 0), .inl (0, 21200, .inl fun _ => 0), .inl (0, 240, .inl fun _ => 0), .inl (0, 6, .inl fun _ => 0), .inl (0, 24, .inl fun _ => 0), .inl (0, 6, .inl fun _ => 0), .inl (0, 16, .inl fun _ => 0), .inl (3, 6, .inl fun _ => 0), .inl (0, 16400, .inl fun _ => 0), .inl (0, 16400, .inl fun _ => 0), .inl (0, 16400, .inl fun _ => 0), .inl (0, 16400, .inl fun _ => 0), .inl (0, 16400, .inl fun _ => 0), .inl (0, 16400, .inl fun _ => 0), .inl (0, 1700, .inl fun _ => 0), .inl (0, 1700, .inl fun _ => 0), .inl (0, 16400, .inl fun _ => 0), .inl (0, 16400, .inl fun _ => 0), .inl (0, 64, .inl fun _ => 0), .inl (0, 64, .inl fun _ => 0), .inl (0, 64, .inl fun _ => 0), .inl (0, 64, .inl fun _ => 0), .inl (0, 64, .inl fun _ => 0), .inl (2, 1, .inr (.inl fun _ => 0))], 156591)
def zh_10 (xs : Nat → Int32) : zm_H := ([.inl (0, 3, .inl xs), .inr (99, []), .inr (0, [.ref 3, .ref 6, .ref 11, .null, .int 0, .int 0, .int 0, .int 0, .int 0]), .inr (1, [.int 0, .int 0, .ref 4, .ref 5, .int 0, .int 0, .int 0, .int 1]), .inl (1, 40, .inl fun _ => 0), .inl (1, 4, .inl fun _ => 0), .inr (2, [.ref 7, .ref 8, .ref 9, .ref 10, .int 0, .int 0, .int 0]), .inr (3, [.int 1, .int 0, .null, .null, .null]), .inr (4, [.ref 1, .int 0, .int 0]), .inr (4, [.ref 1, .int 0, .int 0]), .inr (4, [.ref 1, .int 0, .int 0]), .inl (4, 6, .inr (.inr (.inr (.inr fun _ => none)))), .inr (5, [.ref 13, .ref 14, .ref 15, .ref 16, .ref 17, .ref 18, .ref 19, .ref 20, .int 0, .int (-1), .int 0, .int 0, .int 0, .ref 21, .ref 22, .ref 23, .ref 24, .ref 25, .ref 26, .ref 27, .ref 28, .ref 29, .ref 30, .int 0, .int 0, .int 0, .ref 31, .ref 32, .ref 33, .ref 34, .ref 35, .int 0, .int 0, .int 0, .int 0, .int 0, .int 0, .int 0, .int 0, .int 0, .int 0, .int 0, .int 0, .int 0]), .inl (0, 40, .inl fun _ => 0), .inl (0, 21200, .inl fun _ => 0), .inl (0, 240, .inl fun _ => 0), .inl (0, 6, .inl fun _ => 0), .inl (0, 24, .inl fun _ => 0), .inl (0, 6, .inl fun _ => 0), .inl (0, 16, .inl fun _ => 0), .inl (3, 6, .inl fun _ => 0), .inl (0, 16400, .inl fun _ => 0), .inl (0, 16400, .inl fun _ => 0), .inl (0, 16400, .inl fun _ => 0), .inl (0, 16400, .inl fun _ => 0), .inl (0, 16400, .inl fun _ => 0), .inl (0, 16400, .inl fun _ => 0), .inl (0, 1700, .inl fun _ => 0), .inl (0, 1700, .inl fun _ => 0), .inl (0, 16400, .inl fun _ => 0), .inl (0, 16400, .inl fun _ => 0), .inl (0, 64, .inl fun _ => 0), .inl (0, 64, .inl fun _ => 0), .inl (0, 64, .inl fun _ => 0), .inl (0, 64, .inl fun _ => 0), .inl (0, 64, .inl fun _ => 0), .inl (2, 1, .inr (.inl fun _ => 0)), .inr (10, [])], 156597)
set_option maxHeartbeats 40000000 in
set_option maxRecDepth 100000 in
/-- NeedMachine$Text.refuseUnless -/
theorem zo2_112 {xs : Nat → Int32} (N : zm_N) (d : Nat) (hd : 7 ≤ d) : zm_J N d 20 0 [(0, .ref 3), (1, .int 0)] [] (zh_8 xs) (fun z G => z = .inr (0, 37) ∧ G = (zh_10 xs)) := by
  obtain ⟨d, rfl⟩ : ∃ e, d = e + 1 := ⟨d - 1, by omega⟩
  refine zm_J_run zm_T 6 (pc' := 12) (lv' := [(0, .ref 3), (1, .int 0)]) (st' := []) (G' := (zh_9 xs)) rfl ?_
  exact zm_J_throw zx_20_12 (by omega) (Nat.le_of_ble_eq_true rfl) rfl ⟨rfl, rfl⟩

set_option maxHeartbeats 40000000 in
set_option maxRecDepth 100000 in
/-- NeedMachine$Text.readExpression -/
theorem zo2_113 {xs : Nat → Int32} (N : zm_N) (d : Nat) (hd : 8 ≤ d) : zm_J N d 25 0 [(0, .ref 3), (1, .int 1)] [] (zh_8 xs) (fun z G => z = .inr (0, 37) ∧ G = (zh_10 xs)) := by
  obtain ⟨d, rfl⟩ : ∃ e, d = e + 1 := ⟨d - 1, by omega⟩
  refine zm_J_run zm_T 5 (pc' := 9) (lv' := [(0, .ref 3), (1, .int 1)]) (st' := [.int 0, .int 0, .ref 3]) (G' := (zh_8 xs)) rfl ?_
  refine zm_J_run zm_T 1 (pc' := if (0 : Int32) ≤ 0 then 33 else 12) (lv' := [(0, .ref 3), (1, .int 1)]) (st' := [.ref 3]) (G' := (zh_8 xs)) rfl ?_
  rw [if_pos (show (0 : Int32) ≤ 0 by decide +kernel)]
  refine zm_J_run zm_T 1 (pc' := 34) (lv' := [(0, .ref 3), (1, .int 1)]) (st' := [.int 0, .ref 3]) (G' := (zh_8 xs)) rfl ?_
  refine zm_J_V (a := 3) (av := [.int 0]) (rest := []) (Q1 := fun z G => z = .inr (0, 37) ∧ G = (zh_10 xs)) (zm_T.1 25 34 _ rfl).1 zc_25_34 rfl (Nat.le_of_ble_eq_true rfl) (Nat.le_of_ble_eq_true rfl) (Nat.le_of_ble_eq_true rfl) (Nat.le_of_ble_eq_true rfl) (zo2_112 N _ (by omega)) ?_ ?_
  · intro v G' h; exact nomatch h.1
  intro x G' h
  obtain ⟨h1, rfl⟩ := h
  cases Sum.inr.inj h1
  exact Or.inl ⟨zm_out0 rfl, rfl, rfl⟩

set_option maxHeartbeats 40000000 in
set_option maxRecDepth 100000 in
/-- NeedMachine$Text.readToTheEnd -/
theorem zo2_114 {xs : Nat → Int32} (N : zm_N) (d : Nat) (hd : 9 ≤ d) : zm_J N d 24 0 [(0, .ref 3)] [] (zh_0 xs) (fun z G => z = .inr (0, 37) ∧ G = (zh_10 xs)) := by
  obtain ⟨d, rfl⟩ : ∃ e, d = e + 1 := ⟨d - 1, by omega⟩
  refine zm_J_run zm_T 5 (pc' := 7) (lv' := [(0, .ref 3)]) (st' := [.int 1, .ref 3]) (G' := (zh_8 xs)) rfl ?_
  refine zm_J_V (a := 3) (av := [.int 1]) (rest := []) (Q1 := fun z G => z = .inr (0, 37) ∧ G = (zh_10 xs)) (zm_T.1 24 7 _ rfl).1 zc_24_7 rfl (Nat.le_of_ble_eq_true rfl) (Nat.le_of_ble_eq_true rfl) (Nat.le_of_ble_eq_true rfl) (Nat.le_of_ble_eq_true rfl) (zo2_113 N _ (by omega)) ?_ ?_
  · intro v G' h; exact nomatch h.1
  intro x G' h
  obtain ⟨h1, rfl⟩ := h
  cases Sum.inr.inj h1
  exact Or.inl ⟨zm_out0 rfl, rfl, rfl⟩

set_option maxHeartbeats 40000000 in
set_option maxRecDepth 100000 in
/-- NeedMachine$Text.readAsked -/
theorem zo2_115 {xs : Nat → Int32} (N : zm_N) (d : Nat) (hd : 10 ≤ d) : zm_J N d 35 0 [(0, .ref 3)] [] (zh_0 xs) (fun z G => z = .inr (0, 37) ∧ G = (zh_10 xs)) := by
  obtain ⟨d, rfl⟩ : ∃ e, d = e + 1 := ⟨d - 1, by omega⟩
  refine zm_J_run zm_T 1 (pc' := 1) (lv' := [(0, .ref 3)]) (st' := [.ref 3]) (G' := (zh_0 xs)) rfl ?_
  refine zm_J_V (a := 3) (av := []) (rest := []) (Q1 := fun z G => z = .inl none ∧ G = (zh_0 xs)) (zm_T.1 35 1 _ rfl).1 zc_35_1 rfl (Nat.le_of_ble_eq_true rfl) (Nat.le_of_ble_eq_true rfl) (Nat.le_of_ble_eq_true rfl) (Nat.le_of_ble_eq_true rfl) (zo1_101 N _ (by omega)) ?_ ?_
  rotate_left
  · intro x G' h; exact nomatch h.1
  intro v G' h
  obtain ⟨h1, rfl⟩ := h
  cases Sum.inl.inj h1
  show zm_J N _ 35 4 [(0, .ref 3)] [] (zh_0 xs) _
  refine zm_J_run zm_T 1 (pc' := 5) (lv' := [(0, .ref 3)]) (st' := [.ref 3]) (G' := (zh_0 xs)) rfl ?_
  refine zm_J_V (a := 3) (av := []) (rest := []) (Q1 := fun z G => z = .inr (0, 37) ∧ G = (zh_10 xs)) (zm_T.1 35 5 _ rfl).1 zc_35_5 rfl (Nat.le_of_ble_eq_true rfl) (Nat.le_of_ble_eq_true rfl) (Nat.le_of_ble_eq_true rfl) (Nat.le_of_ble_eq_true rfl) (zo2_114 N _ (by omega)) ?_ ?_
  · intro v G' h; exact nomatch h.1
  intro x G' h
  obtain ⟨h1, rfl⟩ := h
  cases Sum.inr.inj h1
  exact Or.inl ⟨zm_out0 rfl, rfl, rfl⟩

set_option maxHeartbeats 40000000 in
set_option maxRecDepth 100000 in
/-- NeedMachine.ask -/
theorem zo2_116 {xs : Nat → Int32} (N : zm_N) (d : Nat) (hd : 11 ≤ d) : zm_J N d 34 0 [(0, .ref 2)] [] (zh_0 xs) (fun z G => z = .inr (0, 37) ∧ G = (zh_10 xs)) := by
  obtain ⟨d, rfl⟩ : ∃ e, d = e + 1 := ⟨d - 1, by omega⟩
  refine zm_J_run zm_T 2 (pc' := 4) (lv' := [(0, .ref 2)]) (st' := [.ref 3]) (G' := (zh_0 xs)) rfl ?_
  refine zm_J_V (a := 3) (av := []) (rest := []) (Q1 := fun z G => z = .inr (0, 37) ∧ G = (zh_10 xs)) (zm_T.1 34 4 _ rfl).1 zc_34_4 rfl (Nat.le_of_ble_eq_true rfl) (Nat.le_of_ble_eq_true rfl) (Nat.le_of_ble_eq_true rfl) (Nat.le_of_ble_eq_true rfl) (zo2_115 N _ (by omega)) ?_ ?_
  · intro v G' h; exact nomatch h.1
  intro x G' h
  obtain ⟨h1, rfl⟩ := h
  cases Sum.inr.inj h1
  exact Or.inl ⟨zm_out0 rfl, rfl, rfl⟩

set_option maxHeartbeats 40000000 in
set_option maxRecDepth 100000 in
/-- NeedMachineLaw.ask -/
theorem zo2_117 {xs : Nat → Int32} (N : zm_N) (d : Nat) (hd : 12 ≤ d) : zm_J N d 33 0 [(0, .ref 2), (1, .ref 36)] [] (zh_0 xs) (fun z G => z = .inl (some (.int 1)) ∧ G = (zh_10 xs)) := by
  obtain ⟨d, rfl⟩ : ∃ e, d = e + 1 := ⟨d - 1, by omega⟩
  refine zm_J_run zm_T 3 (pc' := 3) (lv' := [(0, .ref 2), (1, .ref 36)]) (st' := [.ref 2, .int 0, .ref 36]) (G' := (zh_0 xs)) rfl ?_
  refine zm_J_V (a := 2) (av := []) (rest := [.int 0, .ref 36]) (Q1 := fun z G => z = .inr (0, 37) ∧ G = (zh_10 xs)) (zm_T.1 33 3 _ rfl).1 zc_33_3 rfl (Nat.le_of_ble_eq_true rfl) (Nat.le_of_ble_eq_true rfl) (Nat.le_of_ble_eq_true rfl) (Nat.le_of_ble_eq_true rfl) (zo2_116 N _ (by omega)) ?_ ?_
  · intro v G' h; exact nomatch h.1
  intro x G' h
  obtain ⟨h1, rfl⟩ := h
  cases Sum.inr.inj h1
  refine Or.inr ⟨11, zt_33_0, ?_⟩
  show zm_J N _ 33 11 [(0, .ref 2), (1, .ref 36)] [.ref 37] (zh_10 xs) _
  refine zm_J_run zm_T 2 (pc' := 13) (lv' := [(2, .ref 37), (0, .ref 2), (1, .ref 36)]) (st' := [.int 1]) (G' := (zh_10 xs)) rfl ?_
  exact zm_J_fin zm_T rfl rfl ⟨rfl, rfl⟩

def zh_11 (xs : Nat → Int32) : zm_H := ([.inl (0, 3, .inl xs), .inr (99, []), .inr (0, [.ref 3, .ref 6, .ref 11, .null, .int 0, .int 0, .int 0, .int 0, .int 0]), .inr (1, [.int 0, .int 0, .ref 4, .ref 5, .int 0, .int 0, .int 0, .int 1]), .inl (1, 40, .inl fun _ => 0), .inl (1, 4, .inl fun _ => 0), .inr (2, [.ref 7, .ref 8, .ref 9, .ref 10, .int 0, .int 0, .int 0]), .inr (3, [.int 1, .int 0, .null, .null, .null]), .inr (4, [.ref 1, .int 0, .int 0]), .inr (4, [.ref 1, .int 0, .int 0]), .inr (4, [.ref 1, .int 0, .int 0]), .inl (4, 6, .inr (.inr (.inr (.inr fun _ => none)))), .inr (5, [.ref 13, .ref 14, .ref 15, .ref 16, .ref 17, .ref 18, .ref 19, .ref 20, .int 0, .int (-1), .int 0, .int 0, .int 0, .ref 21, .ref 22, .ref 23, .ref 24, .ref 25, .ref 26, .ref 27, .ref 28, .ref 29, .ref 30, .int 0, .int 0, .int 0, .ref 31, .ref 32, .ref 33, .ref 34, .ref 35, .int 0, .int 0, .int 0, .int 0, .int 0, .int 0, .int 0, .int 0, .int 0, .int 0, .int 0, .int 0, .int 0]), .inl (0, 40, .inl fun _ => 0), .inl (0, 21200, .inl fun _ => 0), .inl (0, 240, .inl fun _ => 0), .inl (0, 6, .inl fun _ => 0), .inl (0, 24, .inl fun _ => 0), .inl (0, 6, .inl fun _ => 0), .inl (0, 16, .inl (upd (fun _ => 0) 1 1)), .inl (3, 6, .inl fun _ => 0), .inl (0, 16400, .inl fun _ => 0), .inl (0, 16400, .inl fun _ => 0), .inl (0, 16400, .inl fun _ => 0), .inl (0, 16400, .inl fun _ => 0), .inl (0, 16400, .inl fun _ => 0), .inl (0, 16400, .inl fun _ => 0), .inl (0, 1700, .inl fun _ => 0), .inl (0, 1700, .inl fun _ => 0), .inl (0, 16400, .inl fun _ => 0), .inl (0, 16400, .inl fun _ => 0), .inl (0, 64, .inl fun _ => 0), .inl (0, 64, .inl fun _ => 0), .inl (0, 64, .inl fun _ => 0), .inl (0, 64, .inl fun _ => 0), .inl (0, 64, .inl fun _ => 0), .inl (2, 1, .inr (.inl fun _ => 0)), .inr (10, [])], 156597)
set_option maxHeartbeats 40000000 in
set_option maxRecDepth 100000 in
/-- NeedMachineModel.look -/
theorem zo2_118 {xs : Nat → Int32} (N : zm_N) (d : Nat) (hd : 1 ≤ d) : zm_J N d 78 0 [(0, .ref 12)] [] (zh_11 xs) (fun z G => z = .inl (some (.int 0)) ∧ G = (zh_11 xs)) := by
  obtain ⟨d, rfl⟩ : ∃ e, d = e + 1 := ⟨d - 1, by omega⟩
  refine zm_J_run zm_T 4 (pc' := 8) (lv' := [(0, .ref 12)]) (st' := [.int 0, .int 0]) (G' := (zh_11 xs)) rfl ?_
  refine zm_J_run zm_T 1 (pc' := if (0 : Int32) ≤ 0 then 23 else 11) (lv' := [(0, .ref 12)]) (st' := []) (G' := (zh_11 xs)) rfl ?_
  rw [if_pos (show (0 : Int32) ≤ 0 by decide +kernel)]
  refine zm_J_run zm_T 1 (pc' := 24) (lv' := [(0, .ref 12)]) (st' := [.int 0]) (G' := (zh_11 xs)) rfl ?_
  exact zm_J_fin zm_T rfl rfl ⟨rfl, rfl⟩

set_option maxHeartbeats 40000000 in
set_option maxRecDepth 100000 in
/-- NeedMachineModel.between -/
theorem zo2_119 {xs : Nat → Int32} (N : zm_N) (d : Nat) (hd : 1 ≤ d) : zm_J N d 73 0 [(0, .int 0), (1, .int 48), (2, .int 57)] [] (zh_11 xs) (fun z G => z = .inl (some (.int 0)) ∧ G = (zh_11 xs)) := by
  obtain ⟨d, rfl⟩ : ∃ e, d = e + 1 := ⟨d - 1, by omega⟩
  refine zm_J_run zm_T 2 (pc' := 2) (lv' := [(0, .int 0), (1, .int 48), (2, .int 57)]) (st' := [.int 48, .int 0]) (G' := (zh_11 xs)) rfl ?_
  refine zm_J_run zm_T 1 (pc' := if (0 : Int32) < 48 then 14 else 5) (lv' := [(0, .int 0), (1, .int 48), (2, .int 57)]) (st' := []) (G' := (zh_11 xs)) rfl ?_
  rw [if_pos (show (0 : Int32) < 48 by decide +kernel)]
  refine zm_J_run zm_T 1 (pc' := 15) (lv' := [(0, .int 0), (1, .int 48), (2, .int 57)]) (st' := [.int 0]) (G' := (zh_11 xs)) rfl ?_
  exact zm_J_fin zm_T rfl rfl ⟨rfl, rfl⟩

set_option maxHeartbeats 40000000 in
set_option maxRecDepth 100000 in
/-- NeedMachineModel.between -/
theorem zo2_120 {xs : Nat → Int32} (N : zm_N) (d : Nat) (hd : 1 ≤ d) : zm_J N d 73 0 [(0, .int 0), (1, .int 97), (2, .int 102)] [] (zh_11 xs) (fun z G => z = .inl (some (.int 0)) ∧ G = (zh_11 xs)) := by
  obtain ⟨d, rfl⟩ : ∃ e, d = e + 1 := ⟨d - 1, by omega⟩
  refine zm_J_run zm_T 2 (pc' := 2) (lv' := [(0, .int 0), (1, .int 97), (2, .int 102)]) (st' := [.int 97, .int 0]) (G' := (zh_11 xs)) rfl ?_
  refine zm_J_run zm_T 1 (pc' := if (0 : Int32) < 97 then 14 else 5) (lv' := [(0, .int 0), (1, .int 97), (2, .int 102)]) (st' := []) (G' := (zh_11 xs)) rfl ?_
  rw [if_pos (show (0 : Int32) < 97 by decide +kernel)]
  refine zm_J_run zm_T 1 (pc' := 15) (lv' := [(0, .int 0), (1, .int 97), (2, .int 102)]) (st' := [.int 0]) (G' := (zh_11 xs)) rfl ?_
  exact zm_J_fin zm_T rfl rfl ⟨rfl, rfl⟩

set_option maxHeartbeats 40000000 in
set_option maxRecDepth 100000 in
/-- NeedMachineModel.between -/
theorem zo2_121 {xs : Nat → Int32} (N : zm_N) (d : Nat) (hd : 1 ≤ d) : zm_J N d 73 0 [(0, .int 0), (1, .int 65), (2, .int 70)] [] (zh_11 xs) (fun z G => z = .inl (some (.int 0)) ∧ G = (zh_11 xs)) := by
  obtain ⟨d, rfl⟩ : ∃ e, d = e + 1 := ⟨d - 1, by omega⟩
  refine zm_J_run zm_T 2 (pc' := 2) (lv' := [(0, .int 0), (1, .int 65), (2, .int 70)]) (st' := [.int 65, .int 0]) (G' := (zh_11 xs)) rfl ?_
  refine zm_J_run zm_T 1 (pc' := if (0 : Int32) < 65 then 14 else 5) (lv' := [(0, .int 0), (1, .int 65), (2, .int 70)]) (st' := []) (G' := (zh_11 xs)) rfl ?_
  rw [if_pos (show (0 : Int32) < 65 by decide +kernel)]
  refine zm_J_run zm_T 1 (pc' := 15) (lv' := [(0, .int 0), (1, .int 65), (2, .int 70)]) (st' := [.int 0]) (G' := (zh_11 xs)) rfl ?_
  exact zm_J_fin zm_T rfl rfl ⟨rfl, rfl⟩

set_option maxHeartbeats 40000000 in
set_option maxRecDepth 100000 in
/-- NeedMachineModel.parts -/
theorem zo2_122 {xs : Nat → Int32} (N : zm_N) (d : Nat) (hd : 2 ≤ d) : zm_J N d 80 0 [(0, .int 0)] [] (zh_11 xs) (fun z G => z = .inl (some (.int (-1))) ∧ G = (zh_11 xs)) := by
  obtain ⟨d, rfl⟩ : ∃ e, d = e + 1 := ⟨d - 1, by omega⟩
  refine zm_J_run zm_T 3 (pc' := 5) (lv' := [(0, .int 0)]) (st' := [.int 57, .int 48, .int 0]) (G' := (zh_11 xs)) rfl ?_
  refine zm_J_S (av := [.int 0, .int 48, .int 57]) (rest := []) (Q1 := fun z G => z = .inl (some (.int 0)) ∧ G = (zh_11 xs)) (zm_T.1 80 5 _ rfl).1 zc_80_5 (Nat.le_of_ble_eq_true rfl) (Nat.le_of_ble_eq_true rfl) (Nat.le_of_ble_eq_true rfl) (Nat.le_of_ble_eq_true rfl) (zo2_119 N _ (by omega)) ?_ ?_
  rotate_left
  · intro x G' h; exact nomatch h.1
  intro v G' h
  obtain ⟨h1, rfl⟩ := h
  cases Sum.inl.inj h1
  show zm_J N _ 80 8 [(0, .int 0)] [.int 0] (zh_11 xs) _
  refine zm_J_run zm_T 4 (pc' := 16) (lv' := [(0, .int 0)]) (st' := [.int 102, .int 97, .int 0]) (G' := (zh_11 xs)) rfl ?_
  refine zm_J_S (av := [.int 0, .int 97, .int 102]) (rest := []) (Q1 := fun z G => z = .inl (some (.int 0)) ∧ G = (zh_11 xs)) (zm_T.1 80 16 _ rfl).1 zc_80_16 (Nat.le_of_ble_eq_true rfl) (Nat.le_of_ble_eq_true rfl) (Nat.le_of_ble_eq_true rfl) (Nat.le_of_ble_eq_true rfl) (zo2_120 N _ (by omega)) ?_ ?_
  rotate_left
  · intro x G' h; exact nomatch h.1
  intro v G' h
  obtain ⟨h1, rfl⟩ := h
  cases Sum.inl.inj h1
  show zm_J N _ 80 19 [(0, .int 0)] [.int 0] (zh_11 xs) _
  refine zm_J_run zm_T 4 (pc' := 27) (lv' := [(0, .int 0)]) (st' := [.int 70, .int 65, .int 0]) (G' := (zh_11 xs)) rfl ?_
  refine zm_J_S (av := [.int 0, .int 65, .int 70]) (rest := []) (Q1 := fun z G => z = .inl (some (.int 0)) ∧ G = (zh_11 xs)) (zm_T.1 80 27 _ rfl).1 zc_80_27 (Nat.le_of_ble_eq_true rfl) (Nat.le_of_ble_eq_true rfl) (Nat.le_of_ble_eq_true rfl) (Nat.le_of_ble_eq_true rfl) (zo2_121 N _ (by omega)) ?_ ?_
  rotate_left
  · intro x G' h; exact nomatch h.1
  intro v G' h
  obtain ⟨h1, rfl⟩ := h
  cases Sum.inl.inj h1
  show zm_J N _ 80 30 [(0, .int 0)] [.int 0] (zh_11 xs) _
  refine zm_J_run zm_T 8 (pc' := 48) (lv' := [(0, .int 0)]) (st' := [.int 0]) (G' := (zh_11 xs)) rfl ?_
  refine zm_J_run zm_T 8 (pc' := 69) (lv' := [(0, .int 0)]) (st' := []) (G' := (zh_11 xs)) rfl ?_
  refine zm_J_run zm_T 8 (pc' := 84) (lv' := [(0, .int 0)]) (st' := [.int 45, .int 0]) (G' := (zh_11 xs)) rfl ?_
  refine zm_J_run zm_T 8 (pc' := 100) (lv' := [(0, .int 0)]) (st' := [.int 0]) (G' := (zh_11 xs)) rfl ?_
  refine zm_J_run zm_T 8 (pc' := 117) (lv' := [(0, .int 0)]) (st' := []) (G' := (zh_11 xs)) rfl ?_
  refine zm_J_run zm_T 4 (pc' := 128) (lv' := [(0, .int 0)]) (st' := [.int (-1)]) (G' := (zh_11 xs)) rfl ?_
  exact zm_J_fin zm_T rfl rfl ⟨rfl, rfl⟩

set_option maxHeartbeats 40000000 in
set_option maxRecDepth 100000 in
/-- NeedMachineModel.read -/
theorem zo2_123 {xs : Nat → Int32} (N : zm_N) (d : Nat) (hd : 3 ≤ d) : zm_J N d 79 0 [(0, .ref 12), (1, .int 0)] [] (zh_10 xs) (fun z G => z = .inl (some (.int 0)) ∧ G = (zh_11 xs)) := by
  obtain ⟨d, rfl⟩ : ∃ e, d = e + 1 := ⟨d - 1, by omega⟩
  refine zm_J_run zm_T 8 (pc' := 10) (lv' := [(2, .int 1), (0, .ref 12), (1, .int 0)]) (st' := [.int 1]) (G' := (zh_11 xs)) rfl ?_
  refine zm_J_run zm_T 1 (pc' := if (1 : Int32) ≤ 0 then 122 else 13) (lv' := [(2, .int 1), (0, .ref 12), (1, .int 0)]) (st' := []) (G' := (zh_11 xs)) rfl ?_
  rw [if_neg (show ¬ ((1 : Int32) ≤ 0) by decide +kernel)]
  refine zm_J_run zm_T 1 (pc' := 14) (lv' := [(2, .int 1), (0, .ref 12), (1, .int 0)]) (st' := [.ref 12]) (G' := (zh_11 xs)) rfl ?_
  refine zm_J_V (a := 12) (av := []) (rest := []) (Q1 := fun z G => z = .inl (some (.int 0)) ∧ G = (zh_11 xs)) (zm_T.1 79 14 _ rfl).1 zc_79_14 rfl (Nat.le_of_ble_eq_true rfl) (Nat.le_of_ble_eq_true rfl) (Nat.le_of_ble_eq_true rfl) (Nat.le_of_ble_eq_true rfl) (zo2_118 N _ (by omega)) ?_ ?_
  rotate_left
  · intro x G' h; exact nomatch h.1
  intro v G' h
  obtain ⟨h1, rfl⟩ := h
  cases Sum.inl.inj h1
  show zm_J N _ 79 17 [(2, .int 1), (0, .ref 12), (1, .int 0)] [.int 0] (zh_11 xs) _
  refine zm_J_run zm_T 2 (pc' := 19) (lv' := [(3, .int 0), (2, .int 1), (0, .ref 12), (1, .int 0)]) (st' := [.int 0]) (G' := (zh_11 xs)) rfl ?_
  refine zm_J_S (av := [.int 0]) (rest := []) (Q1 := fun z G => z = .inl (some (.int (-1))) ∧ G = (zh_11 xs)) (zm_T.1 79 19 _ rfl).1 zc_79_19 (Nat.le_of_ble_eq_true rfl) (Nat.le_of_ble_eq_true rfl) (Nat.le_of_ble_eq_true rfl) (Nat.le_of_ble_eq_true rfl) (zo2_122 N _ (by omega)) ?_ ?_
  rotate_left
  · intro x G' h; exact nomatch h.1
  intro v G' h
  obtain ⟨h1, rfl⟩ := h
  cases Sum.inl.inj h1
  show zm_J N _ 79 22 [(3, .int 0), (2, .int 1), (0, .ref 12), (1, .int 0)] [.int (-1)] (zh_11 xs) _
  refine zm_J_run zm_T 2 (pc' := 26) (lv' := [(4, .int (-1)), (3, .int 0), (2, .int 1), (0, .ref 12), (1, .int 0)]) (st' := [.int (-1)]) (G' := (zh_11 xs)) rfl ?_
  refine zm_J_run zm_T 1 (pc' := if ((-1) : Int32) < 0 then 62 else 29) (lv' := [(4, .int (-1)), (3, .int 0), (2, .int 1), (0, .ref 12), (1, .int 0)]) (st' := []) (G' := (zh_11 xs)) rfl ?_
  rw [if_pos (show ((-1) : Int32) < 0 by decide +kernel)]
  refine zm_J_run zm_T 1 (pc' := 63) (lv' := [(4, .int (-1)), (3, .int 0), (2, .int 1), (0, .ref 12), (1, .int 0)]) (st' := [.int 0]) (G' := (zh_11 xs)) rfl ?_
  exact zm_J_fin zm_T rfl rfl ⟨rfl, rfl⟩

def zh_12 (xs : Nat → Int32) : zm_H := ([.inl (0, 3, .inl xs), .inr (99, []), .inr (0, [.ref 3, .ref 6, .ref 11, .null, .int 0, .int 0, .int 0, .int 0, .int 0]), .inr (1, [.int 0, .int 0, .ref 4, .ref 5, .int 0, .int 0, .int 0, .int 1]), .inl (1, 40, .inl fun _ => 0), .inl (1, 4, .inl fun _ => 0), .inr (2, [.ref 7, .ref 8, .ref 9, .ref 10, .int 0, .int 0, .int 0]), .inr (3, [.int 1, .int 0, .null, .null, .null]), .inr (4, [.ref 1, .int 0, .int 0]), .inr (4, [.ref 1, .int 0, .int 0]), .inr (4, [.ref 1, .int 0, .int 0]), .inl (4, 6, .inr (.inr (.inr (.inr fun _ => none)))), .inr (5, [.ref 13, .ref 14, .ref 15, .ref 16, .ref 17, .ref 18, .ref 19, .ref 20, .int 0, .int 0, .int 0, .int 0, .int 0, .ref 21, .ref 22, .ref 23, .ref 24, .ref 25, .ref 26, .ref 27, .ref 28, .ref 29, .ref 30, .int 0, .int 0, .int 0, .ref 31, .ref 32, .ref 33, .ref 34, .ref 35, .int 0, .int 0, .int 0, .int 0, .int 0, .int 0, .int 0, .int 0, .int 0, .int 0, .int 0, .int 0, .int 0]), .inl (0, 40, .inl fun _ => 0), .inl (0, 21200, .inl fun _ => 0), .inl (0, 240, .inl fun _ => 0), .inl (0, 6, .inl fun _ => 0), .inl (0, 24, .inl fun _ => 0), .inl (0, 6, .inl fun _ => 0), .inl (0, 16, .inl (upd (fun _ => 0) 1 1)), .inl (3, 6, .inl fun _ => 0), .inl (0, 16400, .inl fun _ => 0), .inl (0, 16400, .inl fun _ => 0), .inl (0, 16400, .inl fun _ => 0), .inl (0, 16400, .inl fun _ => 0), .inl (0, 16400, .inl fun _ => 0), .inl (0, 16400, .inl fun _ => 0), .inl (0, 1700, .inl fun _ => 0), .inl (0, 1700, .inl fun _ => 0), .inl (0, 16400, .inl fun _ => 0), .inl (0, 16400, .inl fun _ => 0), .inl (0, 64, .inl fun _ => 0), .inl (0, 64, .inl fun _ => 0), .inl (0, 64, .inl fun _ => 0), .inl (0, 64, .inl fun _ => 0), .inl (0, 64, .inl fun _ => 0), .inl (2, 1, .inr (.inl fun _ => 0)), .inr (10, [])], 156597)
def zh_13 (xs : Nat → Int32) : zm_H := ([.inl (0, 3, .inl xs), .inr (99, []), .inr (0, [.ref 3, .ref 6, .ref 11, .null, .int 0, .int 0, .int 0, .int 0, .int 0]), .inr (1, [.int 0, .int 0, .ref 4, .ref 5, .int 0, .int 0, .int 0, .int 1]), .inl (1, 40, .inl fun _ => 0), .inl (1, 4, .inl fun _ => 0), .inr (2, [.ref 7, .ref 8, .ref 9, .ref 10, .int 0, .int 0, .int 0]), .inr (3, [.int 1, .int 0, .null, .null, .null]), .inr (4, [.ref 1, .int 0, .int 0]), .inr (4, [.ref 1, .int 0, .int 0]), .inr (4, [.ref 1, .int 0, .int 0]), .inl (4, 6, .inr (.inr (.inr (.inr fun _ => none)))), .inr (5, [.ref 13, .ref 14, .ref 15, .ref 16, .ref 17, .ref 18, .ref 19, .ref 20, .int 0, .int 0, .int 0, .int 0, .int 1, .ref 21, .ref 22, .ref 23, .ref 24, .ref 25, .ref 26, .ref 27, .ref 28, .ref 29, .ref 30, .int 0, .int 0, .int 0, .ref 31, .ref 32, .ref 33, .ref 34, .ref 35, .int 0, .int 0, .int 0, .int 0, .int 0, .int 0, .int 0, .int 0, .int 0, .int 0, .int 0, .int 0, .int 0]), .inl (0, 40, .inl fun _ => 0), .inl (0, 21200, .inl fun _ => 0), .inl (0, 240, .inl fun _ => 0), .inl (0, 6, .inl fun _ => 0), .inl (0, 24, .inl fun _ => 0), .inl (0, 6, .inl fun _ => 0), .inl (0, 16, .inl (upd (fun _ => 0) 1 1)), .inl (3, 6, .inl fun _ => 0), .inl (0, 16400, .inl fun _ => 0), .inl (0, 16400, .inl fun _ => 0), .inl (0, 16400, .inl fun _ => 0), .inl (0, 16400, .inl fun _ => 0), .inl (0, 16400, .inl fun _ => 0), .inl (0, 16400, .inl fun _ => 0), .inl (0, 1700, .inl fun _ => 0), .inl (0, 1700, .inl fun _ => 0), .inl (0, 16400, .inl fun _ => 0), .inl (0, 16400, .inl fun _ => 0), .inl (0, 64, .inl fun _ => 0), .inl (0, 64, .inl fun _ => 0), .inl (0, 64, .inl fun _ => 0), .inl (0, 64, .inl fun _ => 0), .inl (0, 64, .inl fun _ => 0), .inl (2, 1, .inr (.inl fun _ => 0)), .inr (10, [])], 156597)
set_option maxHeartbeats 40000000 in
set_option maxRecDepth 100000 in
/-- NeedMachineModel.bad -/
theorem zo2_124 {xs : Nat → Int32} (N : zm_N) (d : Nat) (hd : 1 ≤ d) : zm_J N d 74 0 [(0, .ref 12), (1, .int 0)] [] (zh_12 xs) (fun z G => z = .inl (some (.int 1)) ∧ G = (zh_13 xs)) := by
  obtain ⟨d, rfl⟩ : ∃ e, d = e + 1 := ⟨d - 1, by omega⟩
  refine zm_J_run zm_T 8 (pc' := 18) (lv' := [(0, .ref 12), (1, .int 0)]) (st' := [.int 1]) (G' := (zh_13 xs)) rfl ?_
  refine zm_J_run zm_T 1 (pc' := 22) (lv' := [(0, .ref 12), (1, .int 0)]) (st' := [.int 1]) (G' := (zh_13 xs)) rfl ?_
  exact zm_J_fin zm_T rfl rfl ⟨rfl, rfl⟩

set_option maxHeartbeats 40000000 in
set_option maxRecDepth 100000 in
/-- NeedMachineModel.ask -/
theorem zo2_125 {xs : Nat → Int32} (N : zm_N) (d : Nat) (hd : 4 ≤ d) : zm_J N d 82 0 [(0, .ref 12)] [] (zh_10 xs) (fun z G => z = .inl (some (.int 0)) ∧ G = (zh_13 xs)) := by
  obtain ⟨d, rfl⟩ : ∃ e, d = e + 1 := ⟨d - 1, by omega⟩
  refine zm_J_run zm_T 5 (pc' := 7) (lv' := [(0, .ref 12)]) (st' := [.int 0, .ref 12]) (G' := (zh_10 xs)) rfl ?_
  refine zm_J_V (a := 12) (av := [.int 0]) (rest := []) (Q1 := fun z G => z = .inl (some (.int 0)) ∧ G = (zh_11 xs)) (zm_T.1 82 7 _ rfl).1 zc_82_7 rfl (Nat.le_of_ble_eq_true rfl) (Nat.le_of_ble_eq_true rfl) (Nat.le_of_ble_eq_true rfl) (Nat.le_of_ble_eq_true rfl) (zo2_123 N _ (by omega)) ?_ ?_
  rotate_left
  · intro x G' h; exact nomatch h.1
  intro v G' h
  obtain ⟨h1, rfl⟩ := h
  cases Sum.inl.inj h1
  show zm_J N _ 82 10 [(0, .ref 12)] [.int 0] (zh_11 xs) _
  refine zm_J_run zm_T 8 (pc' := 24) (lv' := [(1, .int 0), (0, .ref 12)]) (st' := [.ref 12]) (G' := (zh_12 xs)) rfl ?_
  refine zm_J_run zm_T 1 (pc' := 25) (lv' := [(1, .int 0), (0, .ref 12)]) (st' := [.int 0, .ref 12]) (G' := (zh_12 xs)) rfl ?_
  refine zm_J_V (a := 12) (av := [.int 0]) (rest := []) (Q1 := fun z G => z = .inl (some (.int 1)) ∧ G = (zh_13 xs)) (zm_T.1 82 25 _ rfl).1 zc_82_25 rfl (Nat.le_of_ble_eq_true rfl) (Nat.le_of_ble_eq_true rfl) (Nat.le_of_ble_eq_true rfl) (Nat.le_of_ble_eq_true rfl) (zo2_124 N _ (by omega)) ?_ ?_
  rotate_left
  · intro x G' h; exact nomatch h.1
  intro v G' h
  obtain ⟨h1, rfl⟩ := h
  cases Sum.inl.inj h1
  show zm_J N _ 82 28 [(1, .int 0), (0, .ref 12)] [.int 1] (zh_13 xs) _
  refine zm_J_run zm_T 5 (pc' := 37) (lv' := [(1, .int 0), (0, .ref 12)]) (st' := [.int 0]) (G' := (zh_13 xs)) rfl ?_
  exact zm_J_fin zm_T rfl rfl ⟨rfl, rfl⟩

set_option maxHeartbeats 40000000 in
set_option maxRecDepth 100000 in
/-- NeedMachineModel.thrown -/
theorem zo2_126 {xs : Nat → Int32} (N : zm_N) (d : Nat) (hd : 1 ≤ d) : zm_J N d 71 0 [(0, .ref 12)] [] (zh_13 xs) (fun z G => z = .inl (some (.int 1)) ∧ G = (zh_13 xs)) := by
  obtain ⟨d, rfl⟩ : ∃ e, d = e + 1 := ⟨d - 1, by omega⟩
  refine zm_J_run zm_T 2 (pc' := 4) (lv' := [(0, .ref 12)]) (st' := [.int 1]) (G' := (zh_13 xs)) rfl ?_
  exact zm_J_fin zm_T rfl rfl ⟨rfl, rfl⟩

set_option maxHeartbeats 40000000 in
set_option maxRecDepth 100000 in
theorem zl_op2 {xs : Nat → Int32} (N : zm_N) (d : Nat) (hd : 13 ≤ d) : zm_J N d 0 39 [(4, .int 0), (3, .ref 36), (2, .ref 12), (1, .ref 2), (0, .ref 0)] [.int 2] (zh_0 xs) (fun z G => z = .inl (some (.int 1)) ∧ G = (zh_13 xs)) := by
  obtain ⟨d, rfl⟩ : ∃ e, d = e + 1 := ⟨d - 1, by omega⟩
  refine zm_J_run zm_T 3 (pc' := 218) (lv' := [(4, .int 0), (3, .ref 36), (2, .ref 12), (1, .ref 2), (0, .ref 0)]) (st' := [.ref 36, .ref 2]) (G' := (zh_0 xs)) rfl ?_
  refine zm_J_S (av := [.ref 2, .ref 36]) (rest := []) (Q1 := fun z G => z = .inl (some (.int 1)) ∧ G = (zh_10 xs)) (zm_T.1 0 218 _ rfl).1 zc_0_218 (Nat.le_of_ble_eq_true rfl) (Nat.le_of_ble_eq_true rfl) (Nat.le_of_ble_eq_true rfl) (Nat.le_of_ble_eq_true rfl) (zo2_117 N _ (by omega)) ?_ ?_
  rotate_left
  · intro x G' h; exact nomatch h.1
  intro v G' h
  obtain ⟨h1, rfl⟩ := h
  cases Sum.inl.inj h1
  show zm_J N _ 0 221 [(4, .int 0), (3, .ref 36), (2, .ref 12), (1, .ref 2), (0, .ref 0)] [.int 1] (zh_10 xs) _
  refine zm_J_run zm_T 2 (pc' := 224) (lv' := [(5, .int 1), (4, .int 0), (3, .ref 36), (2, .ref 12), (1, .ref 2), (0, .ref 0)]) (st' := [.ref 12]) (G' := (zh_10 xs)) rfl ?_
  refine zm_J_V (a := 12) (av := []) (rest := []) (Q1 := fun z G => z = .inl (some (.int 0)) ∧ G = (zh_13 xs)) (zm_T.1 0 224 _ rfl).1 zc_0_224 rfl (Nat.le_of_ble_eq_true rfl) (Nat.le_of_ble_eq_true rfl) (Nat.le_of_ble_eq_true rfl) (Nat.le_of_ble_eq_true rfl) (zo2_125 N _ (by omega)) ?_ ?_
  rotate_left
  · intro x G' h; exact nomatch h.1
  intro v G' h
  obtain ⟨h1, rfl⟩ := h
  cases Sum.inl.inj h1
  show zm_J N _ 0 227 [(5, .int 1), (4, .int 0), (3, .ref 36), (2, .ref 12), (1, .ref 2), (0, .ref 0)] [.int 0] (zh_13 xs) _
  refine zm_J_run zm_T 2 (pc' := 230) (lv' := [(6, .int 0), (5, .int 1), (4, .int 0), (3, .ref 36), (2, .ref 12), (1, .ref 2), (0, .ref 0)]) (st' := [.ref 12]) (G' := (zh_13 xs)) rfl ?_
  refine zm_J_V (a := 12) (av := []) (rest := []) (Q1 := fun z G => z = .inl (some (.int 1)) ∧ G = (zh_13 xs)) (zm_T.1 0 230 _ rfl).1 zc_0_230 rfl (Nat.le_of_ble_eq_true rfl) (Nat.le_of_ble_eq_true rfl) (Nat.le_of_ble_eq_true rfl) (Nat.le_of_ble_eq_true rfl) (zo2_126 N _ (by omega)) ?_ ?_
  rotate_left
  · intro x G' h; exact nomatch h.1
  intro v G' h
  obtain ⟨h1, rfl⟩ := h
  cases Sum.inl.inj h1
  show zm_J N _ 0 233 [(6, .int 0), (5, .int 1), (4, .int 0), (3, .ref 36), (2, .ref 12), (1, .ref 2), (0, .ref 0)] [.int 1] (zh_13 xs) _
  refine zm_J_run zm_T 8 (pc' := 25) (lv' := [(4, .int 3), (6, .int 0), (5, .int 1), (3, .ref 36), (2, .ref 12), (1, .ref 2), (0, .ref 0)]) (st' := [.int 3]) (G' := (zh_13 xs)) rfl ?_
  refine zm_J_run zm_T 4 (pc' := 29) (lv' := [(4, .int 3), (6, .int 0), (5, .int 1), (3, .ref 36), (2, .ref 12), (1, .ref 2), (0, .ref 0)]) (st' := [.int (3 - 3), .int 3]) (G' := (zh_13 xs)) rfl ?_
  refine zm_J_run zm_T 1 (pc' := if ((3 - 3) : Int32) < 3 then 459 else 32) (lv' := [(4, .int 3), (6, .int 0), (5, .int 1), (3, .ref 36), (2, .ref 12), (1, .ref 2), (0, .ref 0)]) (st' := []) (G' := (zh_13 xs)) rfl ?_
  rw [if_pos (show ((3 - 3) : Int32) < 3 by decide +kernel)]
  refine zm_J_run zm_T 1 (pc' := 460) (lv' := [(4, .int 3), (6, .int 0), (5, .int 1), (3, .ref 36), (2, .ref 12), (1, .ref 2), (0, .ref 0)]) (st' := [.int 1]) (G' := (zh_13 xs)) rfl ?_
  exact zm_J_fin zm_T rfl rfl ⟨rfl, rfl⟩

def zh_14 (xs : Nat → Int32) : zm_H := ([.inl (0, 3, .inl xs), .inr (99, []), .inr (0, [.ref 3, .ref 6, .ref 11, .null, .int 0, .int 0, .int 0, .int 0, .int 0]), .inr (1, [.int 0, .int (-1), .ref 4, .ref 5, .int 0, .int 0, .int 0, .int 0]), .inl (1, 40, .inl fun _ => 0), .inl (1, 4, .inl fun _ => 0), .inr (2, [.ref 7, .ref 8, .ref 9, .ref 10, .int 0, .int 0, .int 0]), .inr (3, [.int 1, .int 0, .null, .null, .null]), .inr (4, [.ref 1, .int 0, .int 0]), .inr (4, [.ref 1, .int 0, .int 0]), .inr (4, [.ref 1, .int 0, .int 0]), .inl (4, 6, .inr (.inr (.inr (.inr fun _ => none)))), .inr (5, [.ref 13, .ref 14, .ref 15, .ref 16, .ref 17, .ref 18, .ref 19, .ref 20, .int 0, .int (-1), .int 0, .int 0, .int 0, .ref 21, .ref 22, .ref 23, .ref 24, .ref 25, .ref 26, .ref 27, .ref 28, .ref 29, .ref 30, .int 0, .int 0, .int 0, .ref 31, .ref 32, .ref 33, .ref 34, .ref 35, .int 0, .int 0, .int 0, .int 0, .int 0, .int 0, .int 0, .int 0, .int 0, .int 0, .int 0, .int 0, .int 0]), .inl (0, 40, .inl fun _ => 0), .inl (0, 21200, .inl fun _ => 0), .inl (0, 240, .inl fun _ => 0), .inl (0, 6, .inl fun _ => 0), .inl (0, 24, .inl fun _ => 0), .inl (0, 6, .inl fun _ => 0), .inl (0, 16, .inl fun _ => 0), .inl (3, 6, .inl fun _ => 0), .inl (0, 16400, .inl fun _ => 0), .inl (0, 16400, .inl fun _ => 0), .inl (0, 16400, .inl fun _ => 0), .inl (0, 16400, .inl fun _ => 0), .inl (0, 16400, .inl fun _ => 0), .inl (0, 16400, .inl fun _ => 0), .inl (0, 1700, .inl fun _ => 0), .inl (0, 1700, .inl fun _ => 0), .inl (0, 16400, .inl fun _ => 0), .inl (0, 16400, .inl fun _ => 0), .inl (0, 64, .inl fun _ => 0), .inl (0, 64, .inl fun _ => 0), .inl (0, 64, .inl fun _ => 0), .inl (0, 64, .inl fun _ => 0), .inl (0, 64, .inl fun _ => 0), .inl (2, 1, .inr (.inl fun _ => 0)), .inr (10, [])], 156597)
set_option maxHeartbeats 40000000 in
set_option maxRecDepth 100000 in
/-- NeedMachine.number -/
theorem zo3_127 {xs : Nat → Int32} (N : zm_N) (d : Nat) (hd : 7 ≤ d) : zm_J N d 62 0 [(0, .ref 2)] [] (zh_0 xs) (fun z G => z = .inr (2, 37) ∧ G = (zh_14 xs)) := by
  obtain ⟨d, rfl⟩ : ∃ e, d = e + 1 := ⟨d - 1, by omega⟩
  refine zm_J_run zm_T 3 (pc' := 7) (lv' := [(0, .ref 2)]) (st' := []) (G' := (zh_0 xs)) rfl ?_
  exact zm_J_throw zx_62_7 (by omega) (Nat.le_of_ble_eq_true rfl) rfl ⟨rfl, rfl⟩

set_option maxHeartbeats 40000000 in
set_option maxRecDepth 100000 in
/-- NeedMachineLaw.number -/
theorem zo3_128 {xs : Nat → Int32} (N : zm_N) (d : Nat) (hd : 8 ≤ d) : zm_J N d 61 0 [(0, .ref 2), (1, .ref 36)] [] (zh_0 xs) (fun z G => z = .inl (some (.int 1)) ∧ G = (zh_14 xs)) := by
  obtain ⟨d, rfl⟩ : ∃ e, d = e + 1 := ⟨d - 1, by omega⟩
  refine zm_J_run zm_T 3 (pc' := 3) (lv' := [(0, .ref 2), (1, .ref 36)]) (st' := [.ref 2, .int 0, .ref 36]) (G' := (zh_0 xs)) rfl ?_
  refine zm_J_V (a := 2) (av := []) (rest := [.int 0, .ref 36]) (Q1 := fun z G => z = .inr (2, 37) ∧ G = (zh_14 xs)) (zm_T.1 61 3 _ rfl).1 zc_61_3 rfl (Nat.le_of_ble_eq_true rfl) (Nat.le_of_ble_eq_true rfl) (Nat.le_of_ble_eq_true rfl) (Nat.le_of_ble_eq_true rfl) (zo3_127 N _ (by omega)) ?_ ?_
  · intro v G' h; exact nomatch h.1
  intro x G' h
  obtain ⟨h1, rfl⟩ := h
  cases Sum.inr.inj h1
  refine Or.inr ⟨11, zt_61_2, ?_⟩
  show zm_J N _ 61 11 [(0, .ref 2), (1, .ref 36)] [.ref 37] (zh_14 xs) _
  refine zm_J_run zm_T 2 (pc' := 13) (lv' := [(2, .ref 37), (0, .ref 2), (1, .ref 36)]) (st' := [.int 1]) (G' := (zh_14 xs)) rfl ?_
  exact zm_J_fin zm_T rfl rfl ⟨rfl, rfl⟩

def zh_15 (xs : Nat → Int32) : zm_H := ([.inl (0, 3, .inl xs), .inr (99, []), .inr (0, [.ref 3, .ref 6, .ref 11, .null, .int 0, .int 0, .int 0, .int 0, .int 0]), .inr (1, [.int 0, .int (-1), .ref 4, .ref 5, .int 0, .int 0, .int 0, .int 0]), .inl (1, 40, .inl fun _ => 0), .inl (1, 4, .inl fun _ => 0), .inr (2, [.ref 7, .ref 8, .ref 9, .ref 10, .int 0, .int 0, .int 0]), .inr (3, [.int 1, .int 0, .null, .null, .null]), .inr (4, [.ref 1, .int 0, .int 0]), .inr (4, [.ref 1, .int 0, .int 0]), .inr (4, [.ref 1, .int 0, .int 0]), .inl (4, 6, .inr (.inr (.inr (.inr fun _ => none)))), .inr (5, [.ref 13, .ref 14, .ref 15, .ref 16, .ref 17, .ref 18, .ref 19, .ref 20, .int 0, .int (-1), .int 0, .int 0, .int 1, .ref 21, .ref 22, .ref 23, .ref 24, .ref 25, .ref 26, .ref 27, .ref 28, .ref 29, .ref 30, .int 0, .int 0, .int 0, .ref 31, .ref 32, .ref 33, .ref 34, .ref 35, .int 0, .int 0, .int 0, .int 0, .int 0, .int 0, .int 0, .int 0, .int 0, .int 0, .int 0, .int 0, .int 0]), .inl (0, 40, .inl fun _ => 0), .inl (0, 21200, .inl fun _ => 0), .inl (0, 240, .inl fun _ => 0), .inl (0, 6, .inl fun _ => 0), .inl (0, 24, .inl fun _ => 0), .inl (0, 6, .inl fun _ => 0), .inl (0, 16, .inl fun _ => 0), .inl (3, 6, .inl fun _ => 0), .inl (0, 16400, .inl fun _ => 0), .inl (0, 16400, .inl fun _ => 0), .inl (0, 16400, .inl fun _ => 0), .inl (0, 16400, .inl fun _ => 0), .inl (0, 16400, .inl fun _ => 0), .inl (0, 16400, .inl fun _ => 0), .inl (0, 1700, .inl fun _ => 0), .inl (0, 1700, .inl fun _ => 0), .inl (0, 16400, .inl fun _ => 0), .inl (0, 16400, .inl fun _ => 0), .inl (0, 64, .inl fun _ => 0), .inl (0, 64, .inl fun _ => 0), .inl (0, 64, .inl fun _ => 0), .inl (0, 64, .inl fun _ => 0), .inl (0, 64, .inl fun _ => 0), .inl (2, 1, .inr (.inl fun _ => 0)), .inr (10, [])], 156597)
set_option maxHeartbeats 40000000 in
set_option maxRecDepth 100000 in
/-- NeedMachineModel.number -/
theorem zo3_129 {xs : Nat → Int32} (N : zm_N) (d : Nat) (hd : 1 ≤ d) : zm_J N d 102 0 [(0, .ref 12)] [] (zh_14 xs) (fun z G => z = .inl (some (.int 0)) ∧ G = (zh_15 xs)) := by
  obtain ⟨d, rfl⟩ : ∃ e, d = e + 1 := ⟨d - 1, by omega⟩
  refine zm_J_run zm_T 8 (pc' := 28) (lv' := [(0, .ref 12)]) (st' := [.ref 12]) (G' := (zh_15 xs)) rfl ?_
  refine zm_J_run zm_T 1 (pc' := 31) (lv' := [(0, .ref 12)]) (st' := [.int 1]) (G' := (zh_15 xs)) rfl ?_
  refine zm_J_run zm_T 1 (pc' := if (1 : Int32) ≤ 0 then 38 else 34) (lv' := [(0, .ref 12)]) (st' := []) (G' := (zh_15 xs)) rfl ?_
  rw [if_neg (show ¬ ((1 : Int32) ≤ 0) by decide +kernel)]
  refine zm_J_run zm_T 2 (pc' := 42) (lv' := [(0, .ref 12)]) (st' := [.int 0]) (G' := (zh_15 xs)) rfl ?_
  exact zm_J_fin zm_T rfl rfl ⟨rfl, rfl⟩

set_option maxHeartbeats 40000000 in
set_option maxRecDepth 100000 in
/-- NeedMachineModel.thrown -/
theorem zo3_130 {xs : Nat → Int32} (N : zm_N) (d : Nat) (hd : 1 ≤ d) : zm_J N d 71 0 [(0, .ref 12)] [] (zh_15 xs) (fun z G => z = .inl (some (.int 1)) ∧ G = (zh_15 xs)) := by
  obtain ⟨d, rfl⟩ : ∃ e, d = e + 1 := ⟨d - 1, by omega⟩
  refine zm_J_run zm_T 2 (pc' := 4) (lv' := [(0, .ref 12)]) (st' := [.int 1]) (G' := (zh_15 xs)) rfl ?_
  exact zm_J_fin zm_T rfl rfl ⟨rfl, rfl⟩

set_option maxHeartbeats 40000000 in
set_option maxRecDepth 100000 in
theorem zl_op3 {xs : Nat → Int32} (N : zm_N) (d : Nat) (hd : 9 ≤ d) : zm_J N d 0 39 [(4, .int 0), (3, .ref 36), (2, .ref 12), (1, .ref 2), (0, .ref 0)] [.int 3] (zh_0 xs) (fun z G => z = .inl (some (.int 1)) ∧ G = (zh_15 xs)) := by
  obtain ⟨d, rfl⟩ : ∃ e, d = e + 1 := ⟨d - 1, by omega⟩
  refine zm_J_run zm_T 3 (pc' := 262) (lv' := [(4, .int 0), (3, .ref 36), (2, .ref 12), (1, .ref 2), (0, .ref 0)]) (st' := [.ref 36, .ref 2]) (G' := (zh_0 xs)) rfl ?_
  refine zm_J_S (av := [.ref 2, .ref 36]) (rest := []) (Q1 := fun z G => z = .inl (some (.int 1)) ∧ G = (zh_14 xs)) (zm_T.1 0 262 _ rfl).1 zc_0_262 (Nat.le_of_ble_eq_true rfl) (Nat.le_of_ble_eq_true rfl) (Nat.le_of_ble_eq_true rfl) (Nat.le_of_ble_eq_true rfl) (zo3_128 N _ (by omega)) ?_ ?_
  rotate_left
  · intro x G' h; exact nomatch h.1
  intro v G' h
  obtain ⟨h1, rfl⟩ := h
  cases Sum.inl.inj h1
  show zm_J N _ 0 265 [(4, .int 0), (3, .ref 36), (2, .ref 12), (1, .ref 2), (0, .ref 0)] [.int 1] (zh_14 xs) _
  refine zm_J_run zm_T 2 (pc' := 268) (lv' := [(5, .int 1), (4, .int 0), (3, .ref 36), (2, .ref 12), (1, .ref 2), (0, .ref 0)]) (st' := [.ref 12]) (G' := (zh_14 xs)) rfl ?_
  refine zm_J_V (a := 12) (av := []) (rest := []) (Q1 := fun z G => z = .inl (some (.int 0)) ∧ G = (zh_15 xs)) (zm_T.1 0 268 _ rfl).1 zc_0_268 rfl (Nat.le_of_ble_eq_true rfl) (Nat.le_of_ble_eq_true rfl) (Nat.le_of_ble_eq_true rfl) (Nat.le_of_ble_eq_true rfl) (zo3_129 N _ (by omega)) ?_ ?_
  rotate_left
  · intro x G' h; exact nomatch h.1
  intro v G' h
  obtain ⟨h1, rfl⟩ := h
  cases Sum.inl.inj h1
  show zm_J N _ 0 271 [(5, .int 1), (4, .int 0), (3, .ref 36), (2, .ref 12), (1, .ref 2), (0, .ref 0)] [.int 0] (zh_15 xs) _
  refine zm_J_run zm_T 2 (pc' := 274) (lv' := [(6, .int 0), (5, .int 1), (4, .int 0), (3, .ref 36), (2, .ref 12), (1, .ref 2), (0, .ref 0)]) (st' := [.ref 12]) (G' := (zh_15 xs)) rfl ?_
  refine zm_J_V (a := 12) (av := []) (rest := []) (Q1 := fun z G => z = .inl (some (.int 1)) ∧ G = (zh_15 xs)) (zm_T.1 0 274 _ rfl).1 zc_0_274 rfl (Nat.le_of_ble_eq_true rfl) (Nat.le_of_ble_eq_true rfl) (Nat.le_of_ble_eq_true rfl) (Nat.le_of_ble_eq_true rfl) (zo3_130 N _ (by omega)) ?_ ?_
  rotate_left
  · intro x G' h; exact nomatch h.1
  intro v G' h
  obtain ⟨h1, rfl⟩ := h
  cases Sum.inl.inj h1
  show zm_J N _ 0 277 [(6, .int 0), (5, .int 1), (4, .int 0), (3, .ref 36), (2, .ref 12), (1, .ref 2), (0, .ref 0)] [.int 1] (zh_15 xs) _
  refine zm_J_run zm_T 8 (pc' := 25) (lv' := [(4, .int 3), (6, .int 0), (5, .int 1), (3, .ref 36), (2, .ref 12), (1, .ref 2), (0, .ref 0)]) (st' := [.int 3]) (G' := (zh_15 xs)) rfl ?_
  refine zm_J_run zm_T 4 (pc' := 29) (lv' := [(4, .int 3), (6, .int 0), (5, .int 1), (3, .ref 36), (2, .ref 12), (1, .ref 2), (0, .ref 0)]) (st' := [.int (3 - 3), .int 3]) (G' := (zh_15 xs)) rfl ?_
  refine zm_J_run zm_T 1 (pc' := if ((3 - 3) : Int32) < 3 then 459 else 32) (lv' := [(4, .int 3), (6, .int 0), (5, .int 1), (3, .ref 36), (2, .ref 12), (1, .ref 2), (0, .ref 0)]) (st' := []) (G' := (zh_15 xs)) rfl ?_
  rw [if_pos (show ((3 - 3) : Int32) < 3 by decide +kernel)]
  refine zm_J_run zm_T 1 (pc' := 460) (lv' := [(4, .int 3), (6, .int 0), (5, .int 1), (3, .ref 36), (2, .ref 12), (1, .ref 2), (0, .ref 0)]) (st' := [.int 1]) (G' := (zh_15 xs)) rfl ?_
  exact zm_J_fin zm_T rfl rfl ⟨rfl, rfl⟩

set_option maxHeartbeats 40000000 in
set_option maxRecDepth 100000 in
/-- NeedMachine.takeResultPair -/
theorem zo4_131 {xs : Nat → Int32} (N : zm_N) (d : Nat) (hd : 7 ≤ d) : zm_J N d 65 0 [(0, .ref 2)] [] (zh_0 xs) (fun z G => z = .inr (2, 37) ∧ G = (zh_14 xs)) := by
  obtain ⟨d, rfl⟩ : ∃ e, d = e + 1 := ⟨d - 1, by omega⟩
  refine zm_J_run zm_T 8 (pc' := 14) (lv' := [(1, .null), (0, .ref 2)]) (st' := []) (G' := (zh_0 xs)) rfl ?_
  exact zm_J_throw zx_65_14 (by omega) (Nat.le_of_ble_eq_true rfl) rfl ⟨rfl, rfl⟩

set_option maxHeartbeats 40000000 in
set_option maxRecDepth 100000 in
/-- NeedMachine.head -/
theorem zo4_132 {xs : Nat → Int32} (N : zm_N) (d : Nat) (hd : 8 ≤ d) : zm_J N d 64 0 [(0, .ref 2)] [] (zh_0 xs) (fun z G => z = .inr (2, 37) ∧ G = (zh_14 xs)) := by
  obtain ⟨d, rfl⟩ : ∃ e, d = e + 1 := ⟨d - 1, by omega⟩
  refine zm_J_run zm_T 1 (pc' := 1) (lv' := [(0, .ref 2)]) (st' := [.ref 2]) (G' := (zh_0 xs)) rfl ?_
  refine zm_J_V (a := 2) (av := []) (rest := []) (Q1 := fun z G => z = .inr (2, 37) ∧ G = (zh_14 xs)) (zm_T.1 64 1 _ rfl).1 zc_64_1 rfl (Nat.le_of_ble_eq_true rfl) (Nat.le_of_ble_eq_true rfl) (Nat.le_of_ble_eq_true rfl) (Nat.le_of_ble_eq_true rfl) (zo4_131 N _ (by omega)) ?_ ?_
  · intro v G' h; exact nomatch h.1
  intro x G' h
  obtain ⟨h1, rfl⟩ := h
  cases Sum.inr.inj h1
  exact Or.inl ⟨zm_out0 rfl, rfl, rfl⟩

set_option maxHeartbeats 40000000 in
set_option maxRecDepth 100000 in
/-- NeedMachineLaw.head -/
theorem zo4_133 {xs : Nat → Int32} (N : zm_N) (d : Nat) (hd : 9 ≤ d) : zm_J N d 63 0 [(0, .ref 2), (1, .ref 36)] [] (zh_0 xs) (fun z G => z = .inl (some (.int 1)) ∧ G = (zh_14 xs)) := by
  obtain ⟨d, rfl⟩ : ∃ e, d = e + 1 := ⟨d - 1, by omega⟩
  refine zm_J_run zm_T 3 (pc' := 3) (lv' := [(0, .ref 2), (1, .ref 36)]) (st' := [.ref 2, .int 0, .ref 36]) (G' := (zh_0 xs)) rfl ?_
  refine zm_J_V (a := 2) (av := []) (rest := [.int 0, .ref 36]) (Q1 := fun z G => z = .inr (2, 37) ∧ G = (zh_14 xs)) (zm_T.1 63 3 _ rfl).1 zc_63_3 rfl (Nat.le_of_ble_eq_true rfl) (Nat.le_of_ble_eq_true rfl) (Nat.le_of_ble_eq_true rfl) (Nat.le_of_ble_eq_true rfl) (zo4_132 N _ (by omega)) ?_ ?_
  · intro v G' h; exact nomatch h.1
  intro x G' h
  obtain ⟨h1, rfl⟩ := h
  cases Sum.inr.inj h1
  refine Or.inr ⟨11, zt_63_2, ?_⟩
  show zm_J N _ 63 11 [(0, .ref 2), (1, .ref 36)] [.ref 37] (zh_14 xs) _
  refine zm_J_run zm_T 2 (pc' := 13) (lv' := [(2, .ref 37), (0, .ref 2), (1, .ref 36)]) (st' := [.int 1]) (G' := (zh_14 xs)) rfl ?_
  exact zm_J_fin zm_T rfl rfl ⟨rfl, rfl⟩

def zh_16 (xs : Nat → Int32) : zm_H := ([.inl (0, 3, .inl xs), .inr (99, []), .inr (0, [.ref 3, .ref 6, .ref 11, .null, .int 0, .int 0, .int 0, .int 0, .int 0]), .inr (1, [.int 0, .int (-1), .ref 4, .ref 5, .int 0, .int 0, .int 0, .int 0]), .inl (1, 40, .inl fun _ => 0), .inl (1, 4, .inl fun _ => 0), .inr (2, [.ref 7, .ref 8, .ref 9, .ref 10, .int 0, .int 0, .int 0]), .inr (3, [.int 1, .int 0, .null, .null, .null]), .inr (4, [.ref 1, .int 0, .int 0]), .inr (4, [.ref 1, .int 0, .int 0]), .inr (4, [.ref 1, .int 0, .int 0]), .inl (4, 6, .inr (.inr (.inr (.inr fun _ => none)))), .inr (5, [.ref 13, .ref 14, .ref 15, .ref 16, .ref 17, .ref 18, .ref 19, .ref 20, .int 0, .int (-1), .int 0, .int 0, .int 2, .ref 21, .ref 22, .ref 23, .ref 24, .ref 25, .ref 26, .ref 27, .ref 28, .ref 29, .ref 30, .int 0, .int 0, .int 0, .ref 31, .ref 32, .ref 33, .ref 34, .ref 35, .int 0, .int 0, .int 0, .int 0, .int 0, .int 0, .int 0, .int 0, .int 0, .int 0, .int 0, .int 0, .int 0]), .inl (0, 40, .inl fun _ => 0), .inl (0, 21200, .inl fun _ => 0), .inl (0, 240, .inl fun _ => 0), .inl (0, 6, .inl fun _ => 0), .inl (0, 24, .inl fun _ => 0), .inl (0, 6, .inl fun _ => 0), .inl (0, 16, .inl fun _ => 0), .inl (3, 6, .inl fun _ => 0), .inl (0, 16400, .inl fun _ => 0), .inl (0, 16400, .inl fun _ => 0), .inl (0, 16400, .inl fun _ => 0), .inl (0, 16400, .inl fun _ => 0), .inl (0, 16400, .inl fun _ => 0), .inl (0, 16400, .inl fun _ => 0), .inl (0, 1700, .inl fun _ => 0), .inl (0, 1700, .inl fun _ => 0), .inl (0, 16400, .inl fun _ => 0), .inl (0, 16400, .inl fun _ => 0), .inl (0, 64, .inl fun _ => 0), .inl (0, 64, .inl fun _ => 0), .inl (0, 64, .inl fun _ => 0), .inl (0, 64, .inl fun _ => 0), .inl (0, 64, .inl fun _ => 0), .inl (2, 1, .inr (.inl fun _ => 0)), .inr (10, [])], 156597)
def zh_17 (xs : Nat → Int32) : zm_H := ([.inl (0, 3, .inl xs), .inr (99, []), .inr (0, [.ref 3, .ref 6, .ref 11, .null, .int 0, .int 0, .int 0, .int 0, .int 0]), .inr (1, [.int 0, .int (-1), .ref 4, .ref 5, .int 0, .int 0, .int 0, .int 0]), .inl (1, 40, .inl fun _ => 0), .inl (1, 4, .inl fun _ => 0), .inr (2, [.ref 7, .ref 8, .ref 9, .ref 10, .int 0, .int 0, .int 0]), .inr (3, [.int 1, .int 0, .null, .null, .null]), .inr (4, [.ref 1, .int 0, .int 0]), .inr (4, [.ref 1, .int 0, .int 0]), .inr (4, [.ref 1, .int 0, .int 0]), .inl (4, 6, .inr (.inr (.inr (.inr fun _ => none)))), .inr (5, [.ref 13, .ref 14, .ref 15, .ref 16, .ref 17, .ref 18, .ref 19, .ref 20, .int 0, .int (-1), .int 0, .int 0, .int (2 - 1), .ref 21, .ref 22, .ref 23, .ref 24, .ref 25, .ref 26, .ref 27, .ref 28, .ref 29, .ref 30, .int 0, .int 0, .int 0, .ref 31, .ref 32, .ref 33, .ref 34, .ref 35, .int 0, .int 0, .int 0, .int 0, .int 0, .int 0, .int 0, .int 0, .int 0, .int 0, .int 0, .int 0, .int 0]), .inl (0, 40, .inl fun _ => 0), .inl (0, 21200, .inl fun _ => 0), .inl (0, 240, .inl fun _ => 0), .inl (0, 6, .inl fun _ => 0), .inl (0, 24, .inl fun _ => 0), .inl (0, 6, .inl fun _ => 0), .inl (0, 16, .inl fun _ => 0), .inl (3, 6, .inl fun _ => 0), .inl (0, 16400, .inl fun _ => 0), .inl (0, 16400, .inl fun _ => 0), .inl (0, 16400, .inl fun _ => 0), .inl (0, 16400, .inl fun _ => 0), .inl (0, 16400, .inl fun _ => 0), .inl (0, 16400, .inl fun _ => 0), .inl (0, 1700, .inl fun _ => 0), .inl (0, 1700, .inl fun _ => 0), .inl (0, 16400, .inl fun _ => 0), .inl (0, 16400, .inl fun _ => 0), .inl (0, 64, .inl fun _ => 0), .inl (0, 64, .inl fun _ => 0), .inl (0, 64, .inl fun _ => 0), .inl (0, 64, .inl fun _ => 0), .inl (0, 64, .inl fun _ => 0), .inl (2, 1, .inr (.inl fun _ => 0)), .inr (10, [])], 156597)
set_option maxHeartbeats 40000000 in
set_option maxRecDepth 100000 in
/-- NeedMachineModel.side -/
theorem zo4_134 {xs : Nat → Int32} (N : zm_N) (d : Nat) (hd : 1 ≤ d) : zm_J N d 104 0 [(0, .ref 12), (1, .int 1)] [] (zh_14 xs) (fun z G => z = .inl (some (.int 0)) ∧ G = (zh_17 xs)) := by
  obtain ⟨d, rfl⟩ : ∃ e, d = e + 1 := ⟨d - 1, by omega⟩
  refine zm_J_run zm_T 8 (pc' := 37) (lv' := [(0, .ref 12), (1, .int 1)]) (st' := [.ref 12]) (G' := (zh_16 xs)) rfl ?_
  refine zm_J_run zm_T 8 (pc' := 219) (lv' := [(0, .ref 12), (1, .int 1)]) (st' := [.int 2, .ref 12]) (G' := (zh_16 xs)) rfl ?_
  refine zm_J_run zm_T 7 (pc' := 230) (lv' := [(0, .ref 12), (1, .int 1)]) (st' := [.int 0]) (G' := (zh_17 xs)) rfl ?_
  exact zm_J_fin zm_T rfl rfl ⟨rfl, rfl⟩

set_option maxHeartbeats 40000000 in
set_option maxRecDepth 100000 in
/-- NeedMachineModel.head -/
theorem zo4_135 {xs : Nat → Int32} (N : zm_N) (d : Nat) (hd : 2 ≤ d) : zm_J N d 103 0 [(0, .ref 12)] [] (zh_14 xs) (fun z G => z = .inl (some (.int 0)) ∧ G = (zh_17 xs)) := by
  obtain ⟨d, rfl⟩ : ∃ e, d = e + 1 := ⟨d - 1, by omega⟩
  refine zm_J_run zm_T 2 (pc' := 2) (lv' := [(0, .ref 12)]) (st' := [.int 1, .ref 12]) (G' := (zh_14 xs)) rfl ?_
  refine zm_J_V (a := 12) (av := [.int 1]) (rest := []) (Q1 := fun z G => z = .inl (some (.int 0)) ∧ G = (zh_17 xs)) (zm_T.1 103 2 _ rfl).1 zc_103_2 rfl (Nat.le_of_ble_eq_true rfl) (Nat.le_of_ble_eq_true rfl) (Nat.le_of_ble_eq_true rfl) (Nat.le_of_ble_eq_true rfl) (zo4_134 N _ (by omega)) ?_ ?_
  rotate_left
  · intro x G' h; exact nomatch h.1
  intro v G' h
  obtain ⟨h1, rfl⟩ := h
  cases Sum.inl.inj h1
  show zm_J N _ 103 5 [(0, .ref 12)] [.int 0] (zh_17 xs) _
  refine zm_J_run zm_T 2 (pc' := 16) (lv' := [(0, .ref 12)]) (st' := [.int 0]) (G' := (zh_17 xs)) rfl ?_
  exact zm_J_fin zm_T rfl rfl ⟨rfl, rfl⟩

set_option maxHeartbeats 40000000 in
set_option maxRecDepth 100000 in
/-- NeedMachineModel.thrown -/
theorem zo4_136 {xs : Nat → Int32} (N : zm_N) (d : Nat) (hd : 1 ≤ d) : zm_J N d 71 0 [(0, .ref 12)] [] (zh_17 xs) (fun z G => z = .inl (some (.int (2 - 1))) ∧ G = (zh_17 xs)) := by
  obtain ⟨d, rfl⟩ : ∃ e, d = e + 1 := ⟨d - 1, by omega⟩
  refine zm_J_run zm_T 2 (pc' := 4) (lv' := [(0, .ref 12)]) (st' := [.int (2 - 1)]) (G' := (zh_17 xs)) rfl ?_
  exact zm_J_fin zm_T rfl rfl ⟨rfl, rfl⟩

set_option maxHeartbeats 40000000 in
set_option maxRecDepth 100000 in
theorem zl_op4 {xs : Nat → Int32} (N : zm_N) (d : Nat) (hd : 10 ≤ d) : zm_J N d 0 39 [(4, .int 0), (3, .ref 36), (2, .ref 12), (1, .ref 2), (0, .ref 0)] [.int 4] (zh_0 xs) (fun z G => z = .inl (some (.int 1)) ∧ G = (zh_17 xs)) := by
  obtain ⟨d, rfl⟩ : ∃ e, d = e + 1 := ⟨d - 1, by omega⟩
  refine zm_J_run zm_T 3 (pc' := 306) (lv' := [(4, .int 0), (3, .ref 36), (2, .ref 12), (1, .ref 2), (0, .ref 0)]) (st' := [.ref 36, .ref 2]) (G' := (zh_0 xs)) rfl ?_
  refine zm_J_S (av := [.ref 2, .ref 36]) (rest := []) (Q1 := fun z G => z = .inl (some (.int 1)) ∧ G = (zh_14 xs)) (zm_T.1 0 306 _ rfl).1 zc_0_306 (Nat.le_of_ble_eq_true rfl) (Nat.le_of_ble_eq_true rfl) (Nat.le_of_ble_eq_true rfl) (Nat.le_of_ble_eq_true rfl) (zo4_133 N _ (by omega)) ?_ ?_
  rotate_left
  · intro x G' h; exact nomatch h.1
  intro v G' h
  obtain ⟨h1, rfl⟩ := h
  cases Sum.inl.inj h1
  show zm_J N _ 0 309 [(4, .int 0), (3, .ref 36), (2, .ref 12), (1, .ref 2), (0, .ref 0)] [.int 1] (zh_14 xs) _
  refine zm_J_run zm_T 2 (pc' := 312) (lv' := [(5, .int 1), (4, .int 0), (3, .ref 36), (2, .ref 12), (1, .ref 2), (0, .ref 0)]) (st' := [.ref 12]) (G' := (zh_14 xs)) rfl ?_
  refine zm_J_V (a := 12) (av := []) (rest := []) (Q1 := fun z G => z = .inl (some (.int 0)) ∧ G = (zh_17 xs)) (zm_T.1 0 312 _ rfl).1 zc_0_312 rfl (Nat.le_of_ble_eq_true rfl) (Nat.le_of_ble_eq_true rfl) (Nat.le_of_ble_eq_true rfl) (Nat.le_of_ble_eq_true rfl) (zo4_135 N _ (by omega)) ?_ ?_
  rotate_left
  · intro x G' h; exact nomatch h.1
  intro v G' h
  obtain ⟨h1, rfl⟩ := h
  cases Sum.inl.inj h1
  show zm_J N _ 0 315 [(5, .int 1), (4, .int 0), (3, .ref 36), (2, .ref 12), (1, .ref 2), (0, .ref 0)] [.int 0] (zh_17 xs) _
  refine zm_J_run zm_T 2 (pc' := 318) (lv' := [(6, .int 0), (5, .int 1), (4, .int 0), (3, .ref 36), (2, .ref 12), (1, .ref 2), (0, .ref 0)]) (st' := [.ref 12]) (G' := (zh_17 xs)) rfl ?_
  refine zm_J_V (a := 12) (av := []) (rest := []) (Q1 := fun z G => z = .inl (some (.int (2 - 1))) ∧ G = (zh_17 xs)) (zm_T.1 0 318 _ rfl).1 zc_0_318 rfl (Nat.le_of_ble_eq_true rfl) (Nat.le_of_ble_eq_true rfl) (Nat.le_of_ble_eq_true rfl) (Nat.le_of_ble_eq_true rfl) (zo4_136 N _ (by omega)) ?_ ?_
  rotate_left
  · intro x G' h; exact nomatch h.1
  intro v G' h
  obtain ⟨h1, rfl⟩ := h
  cases Sum.inl.inj h1
  show zm_J N _ 0 321 [(6, .int 0), (5, .int 1), (4, .int 0), (3, .ref 36), (2, .ref 12), (1, .ref 2), (0, .ref 0)] [.int (2 - 1)] (zh_17 xs) _
  refine zm_J_run zm_T 8 (pc' := 25) (lv' := [(4, .int 3), (6, .int 0), (5, .int 1), (3, .ref 36), (2, .ref 12), (1, .ref 2), (0, .ref 0)]) (st' := [.int 3]) (G' := (zh_17 xs)) rfl ?_
  refine zm_J_run zm_T 4 (pc' := 29) (lv' := [(4, .int 3), (6, .int 0), (5, .int 1), (3, .ref 36), (2, .ref 12), (1, .ref 2), (0, .ref 0)]) (st' := [.int (3 - 3), .int 3]) (G' := (zh_17 xs)) rfl ?_
  refine zm_J_run zm_T 1 (pc' := if ((3 - 3) : Int32) < 3 then 459 else 32) (lv' := [(4, .int 3), (6, .int 0), (5, .int 1), (3, .ref 36), (2, .ref 12), (1, .ref 2), (0, .ref 0)]) (st' := []) (G' := (zh_17 xs)) rfl ?_
  rw [if_pos (show ((3 - 3) : Int32) < 3 by decide +kernel)]
  refine zm_J_run zm_T 1 (pc' := 460) (lv' := [(4, .int 3), (6, .int 0), (5, .int 1), (3, .ref 36), (2, .ref 12), (1, .ref 2), (0, .ref 0)]) (st' := [.int 1]) (G' := (zh_17 xs)) rfl ?_
  exact zm_J_fin zm_T rfl rfl ⟨rfl, rfl⟩

set_option maxHeartbeats 40000000 in
set_option maxRecDepth 100000 in
/-- NeedMachine.tail -/
theorem zo5_137 {xs : Nat → Int32} (N : zm_N) (d : Nat) (hd : 8 ≤ d) : zm_J N d 67 0 [(0, .ref 2)] [] (zh_0 xs) (fun z G => z = .inr (2, 37) ∧ G = (zh_14 xs)) := by
  obtain ⟨d, rfl⟩ : ∃ e, d = e + 1 := ⟨d - 1, by omega⟩
  refine zm_J_run zm_T 1 (pc' := 1) (lv' := [(0, .ref 2)]) (st' := [.ref 2]) (G' := (zh_0 xs)) rfl ?_
  refine zm_J_V (a := 2) (av := []) (rest := []) (Q1 := fun z G => z = .inr (2, 37) ∧ G = (zh_14 xs)) (zm_T.1 67 1 _ rfl).1 zc_67_1 rfl (Nat.le_of_ble_eq_true rfl) (Nat.le_of_ble_eq_true rfl) (Nat.le_of_ble_eq_true rfl) (Nat.le_of_ble_eq_true rfl) (zo4_131 N _ (by omega)) ?_ ?_
  · intro v G' h; exact nomatch h.1
  intro x G' h
  obtain ⟨h1, rfl⟩ := h
  cases Sum.inr.inj h1
  exact Or.inl ⟨zm_out0 rfl, rfl, rfl⟩

set_option maxHeartbeats 40000000 in
set_option maxRecDepth 100000 in
/-- NeedMachineLaw.tail -/
theorem zo5_138 {xs : Nat → Int32} (N : zm_N) (d : Nat) (hd : 9 ≤ d) : zm_J N d 66 0 [(0, .ref 2), (1, .ref 36)] [] (zh_0 xs) (fun z G => z = .inl (some (.int 1)) ∧ G = (zh_14 xs)) := by
  obtain ⟨d, rfl⟩ : ∃ e, d = e + 1 := ⟨d - 1, by omega⟩
  refine zm_J_run zm_T 3 (pc' := 3) (lv' := [(0, .ref 2), (1, .ref 36)]) (st' := [.ref 2, .int 0, .ref 36]) (G' := (zh_0 xs)) rfl ?_
  refine zm_J_V (a := 2) (av := []) (rest := [.int 0, .ref 36]) (Q1 := fun z G => z = .inr (2, 37) ∧ G = (zh_14 xs)) (zm_T.1 66 3 _ rfl).1 zc_66_3 rfl (Nat.le_of_ble_eq_true rfl) (Nat.le_of_ble_eq_true rfl) (Nat.le_of_ble_eq_true rfl) (Nat.le_of_ble_eq_true rfl) (zo5_137 N _ (by omega)) ?_ ?_
  · intro v G' h; exact nomatch h.1
  intro x G' h
  obtain ⟨h1, rfl⟩ := h
  cases Sum.inr.inj h1
  refine Or.inr ⟨11, zt_66_2, ?_⟩
  show zm_J N _ 66 11 [(0, .ref 2), (1, .ref 36)] [.ref 37] (zh_14 xs) _
  refine zm_J_run zm_T 2 (pc' := 13) (lv' := [(2, .ref 37), (0, .ref 2), (1, .ref 36)]) (st' := [.int 1]) (G' := (zh_14 xs)) rfl ?_
  exact zm_J_fin zm_T rfl rfl ⟨rfl, rfl⟩

set_option maxHeartbeats 40000000 in
set_option maxRecDepth 100000 in
/-- NeedMachineModel.side -/
theorem zo5_139 {xs : Nat → Int32} (N : zm_N) (d : Nat) (hd : 1 ≤ d) : zm_J N d 104 0 [(0, .ref 12), (1, .int 0)] [] (zh_14 xs) (fun z G => z = .inl (some (.int 0)) ∧ G = (zh_17 xs)) := by
  obtain ⟨d, rfl⟩ : ∃ e, d = e + 1 := ⟨d - 1, by omega⟩
  refine zm_J_run zm_T 8 (pc' := 37) (lv' := [(0, .ref 12), (1, .int 0)]) (st' := [.ref 12]) (G' := (zh_16 xs)) rfl ?_
  refine zm_J_run zm_T 8 (pc' := 219) (lv' := [(0, .ref 12), (1, .int 0)]) (st' := [.int 2, .ref 12]) (G' := (zh_16 xs)) rfl ?_
  refine zm_J_run zm_T 7 (pc' := 230) (lv' := [(0, .ref 12), (1, .int 0)]) (st' := [.int 0]) (G' := (zh_17 xs)) rfl ?_
  exact zm_J_fin zm_T rfl rfl ⟨rfl, rfl⟩

set_option maxHeartbeats 40000000 in
set_option maxRecDepth 100000 in
/-- NeedMachineModel.tail -/
theorem zo5_140 {xs : Nat → Int32} (N : zm_N) (d : Nat) (hd : 2 ≤ d) : zm_J N d 105 0 [(0, .ref 12)] [] (zh_14 xs) (fun z G => z = .inl (some (.int 0)) ∧ G = (zh_17 xs)) := by
  obtain ⟨d, rfl⟩ : ∃ e, d = e + 1 := ⟨d - 1, by omega⟩
  refine zm_J_run zm_T 2 (pc' := 2) (lv' := [(0, .ref 12)]) (st' := [.int 0, .ref 12]) (G' := (zh_14 xs)) rfl ?_
  refine zm_J_V (a := 12) (av := [.int 0]) (rest := []) (Q1 := fun z G => z = .inl (some (.int 0)) ∧ G = (zh_17 xs)) (zm_T.1 105 2 _ rfl).1 zc_105_2 rfl (Nat.le_of_ble_eq_true rfl) (Nat.le_of_ble_eq_true rfl) (Nat.le_of_ble_eq_true rfl) (Nat.le_of_ble_eq_true rfl) (zo5_139 N _ (by omega)) ?_ ?_
  rotate_left
  · intro x G' h; exact nomatch h.1
  intro v G' h
  obtain ⟨h1, rfl⟩ := h
  cases Sum.inl.inj h1
  show zm_J N _ 105 5 [(0, .ref 12)] [.int 0] (zh_17 xs) _
  refine zm_J_run zm_T 2 (pc' := 16) (lv' := [(0, .ref 12)]) (st' := [.int 0]) (G' := (zh_17 xs)) rfl ?_
  exact zm_J_fin zm_T rfl rfl ⟨rfl, rfl⟩

set_option maxHeartbeats 40000000 in
set_option maxRecDepth 100000 in
theorem zl_op5 {xs : Nat → Int32} (N : zm_N) (d : Nat) (hd : 10 ≤ d) : zm_J N d 0 39 [(4, .int 0), (3, .ref 36), (2, .ref 12), (1, .ref 2), (0, .ref 0)] [.int 5] (zh_0 xs) (fun z G => z = .inl (some (.int 1)) ∧ G = (zh_17 xs)) := by
  obtain ⟨d, rfl⟩ : ∃ e, d = e + 1 := ⟨d - 1, by omega⟩
  refine zm_J_run zm_T 3 (pc' := 350) (lv' := [(4, .int 0), (3, .ref 36), (2, .ref 12), (1, .ref 2), (0, .ref 0)]) (st' := [.ref 36, .ref 2]) (G' := (zh_0 xs)) rfl ?_
  refine zm_J_S (av := [.ref 2, .ref 36]) (rest := []) (Q1 := fun z G => z = .inl (some (.int 1)) ∧ G = (zh_14 xs)) (zm_T.1 0 350 _ rfl).1 zc_0_350 (Nat.le_of_ble_eq_true rfl) (Nat.le_of_ble_eq_true rfl) (Nat.le_of_ble_eq_true rfl) (Nat.le_of_ble_eq_true rfl) (zo5_138 N _ (by omega)) ?_ ?_
  rotate_left
  · intro x G' h; exact nomatch h.1
  intro v G' h
  obtain ⟨h1, rfl⟩ := h
  cases Sum.inl.inj h1
  show zm_J N _ 0 353 [(4, .int 0), (3, .ref 36), (2, .ref 12), (1, .ref 2), (0, .ref 0)] [.int 1] (zh_14 xs) _
  refine zm_J_run zm_T 2 (pc' := 356) (lv' := [(5, .int 1), (4, .int 0), (3, .ref 36), (2, .ref 12), (1, .ref 2), (0, .ref 0)]) (st' := [.ref 12]) (G' := (zh_14 xs)) rfl ?_
  refine zm_J_V (a := 12) (av := []) (rest := []) (Q1 := fun z G => z = .inl (some (.int 0)) ∧ G = (zh_17 xs)) (zm_T.1 0 356 _ rfl).1 zc_0_356 rfl (Nat.le_of_ble_eq_true rfl) (Nat.le_of_ble_eq_true rfl) (Nat.le_of_ble_eq_true rfl) (Nat.le_of_ble_eq_true rfl) (zo5_140 N _ (by omega)) ?_ ?_
  rotate_left
  · intro x G' h; exact nomatch h.1
  intro v G' h
  obtain ⟨h1, rfl⟩ := h
  cases Sum.inl.inj h1
  show zm_J N _ 0 359 [(5, .int 1), (4, .int 0), (3, .ref 36), (2, .ref 12), (1, .ref 2), (0, .ref 0)] [.int 0] (zh_17 xs) _
  refine zm_J_run zm_T 2 (pc' := 362) (lv' := [(6, .int 0), (5, .int 1), (4, .int 0), (3, .ref 36), (2, .ref 12), (1, .ref 2), (0, .ref 0)]) (st' := [.ref 12]) (G' := (zh_17 xs)) rfl ?_
  refine zm_J_V (a := 12) (av := []) (rest := []) (Q1 := fun z G => z = .inl (some (.int (2 - 1))) ∧ G = (zh_17 xs)) (zm_T.1 0 362 _ rfl).1 zc_0_362 rfl (Nat.le_of_ble_eq_true rfl) (Nat.le_of_ble_eq_true rfl) (Nat.le_of_ble_eq_true rfl) (Nat.le_of_ble_eq_true rfl) (zo4_136 N _ (by omega)) ?_ ?_
  rotate_left
  · intro x G' h; exact nomatch h.1
  intro v G' h
  obtain ⟨h1, rfl⟩ := h
  cases Sum.inl.inj h1
  show zm_J N _ 0 365 [(6, .int 0), (5, .int 1), (4, .int 0), (3, .ref 36), (2, .ref 12), (1, .ref 2), (0, .ref 0)] [.int (2 - 1)] (zh_17 xs) _
  refine zm_J_run zm_T 8 (pc' := 25) (lv' := [(4, .int 3), (6, .int 0), (5, .int 1), (3, .ref 36), (2, .ref 12), (1, .ref 2), (0, .ref 0)]) (st' := [.int 3]) (G' := (zh_17 xs)) rfl ?_
  refine zm_J_run zm_T 4 (pc' := 29) (lv' := [(4, .int 3), (6, .int 0), (5, .int 1), (3, .ref 36), (2, .ref 12), (1, .ref 2), (0, .ref 0)]) (st' := [.int (3 - 3), .int 3]) (G' := (zh_17 xs)) rfl ?_
  refine zm_J_run zm_T 1 (pc' := if ((3 - 3) : Int32) < 3 then 459 else 32) (lv' := [(4, .int 3), (6, .int 0), (5, .int 1), (3, .ref 36), (2, .ref 12), (1, .ref 2), (0, .ref 0)]) (st' := []) (G' := (zh_17 xs)) rfl ?_
  rw [if_pos (show ((3 - 3) : Int32) < 3 by decide +kernel)]
  refine zm_J_run zm_T 1 (pc' := 460) (lv' := [(4, .int 3), (6, .int 0), (5, .int 1), (3, .ref 36), (2, .ref 12), (1, .ref 2), (0, .ref 0)]) (st' := [.int 1]) (G' := (zh_17 xs)) rfl ?_
  exact zm_J_fin zm_T rfl rfl ⟨rfl, rfl⟩

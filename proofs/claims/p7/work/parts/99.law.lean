/-! THE LAW'S LOOP, laid by wip/gen/law.py -/
def zl_Q (z : zm_O) (G : zm_H) : Prop := z = .inl (some (.int 1)) ∧ G.1.length ≤ zm_C ∧ G.2 ≤ zm_S
def zj_p (x y : Int32) : Int64 := (x.toInt64 <<< ((32 : Int32).toInt64 &&& 63)) ||| (y.toInt64 &&& 4294967295)
def zj_Inv (j : Nat) (x : zj_T) (sr : Nat → Int32) (a : Nat → Nat → Int32) (ex : List zm_E) (sl : Nat) (s : Nat → Int32) (r : Value) (el : Nat → Nat) (f : Nat → Int32) (df : Nat → Option Nat) : Prop := ∃ P, zj_K (44 * j) (156591 + 220 * j) x ex sl s r el f df ∧ zj_F P x sr a ∧ P ≤ 280 + 40 * j ∧ zj_W x
theorem zj_K_t {B S : Nat} {x : zj_T} {ex : List zm_E} {sl : Nat} {s : Nat → Int32} {r : Value} {el : Nat → Nat} {f : Nat → Int32} {df : Nat → Option Nat} (h : zj_K B S x ex sl s r el f df) : x.1.length ≤ 40 := by
  obtain ⟨va, ca, ka, q, h1, _⟩ := h
  exact h1.1
theorem zj_BS {B S : Nat} (h1 : B ≤ 22572) (h2 : S ≤ 270000) : zk_BS B S := by
  show B + 300000 ≤ 601026 ∧ S + 1200000 ≤ 7293034
  omega
theorem zj_add2 (i : Nat) : nI i + 2 = nI (i + 2) := nI_add i 2
theorem zj_add3 (i : Nat) : nI i + 3 = nI (i + 3) := nI_add i 3
theorem zj_sub3 (i : Nat) : nI (i + 3) - 3 = nI i := by
  rw [← zj_add3]
  exact Int32.add_sub_cancel _ _
section ZJL
variable {L : Nat} {xs : Nat → Int32} {o : Nat → Int64} {sr : Nat → Int32} {a : Nat → Nat → Int32} {ex : List zm_E} {sl : Nat} {s : Nat → Int32} {r : Value} {el : Nat → Nat} {f g : Nat → Int32} {df : Nat → Option Nat} {N : zm_N} {d : Nat} {Q : zm_O → zm_H → Prop} {x : zj_T} {i j : Nat}
def zj_Nx (N : zm_N) (d L : Nat) (xs : Nat → Int32) (i j : Nat) (Q : zm_O → zm_H → Prop) : Prop := ∀ (x : zj_T) (o : Nat → Int64) (sr : Nat → Int32) (a : Nat → Nat → Int32) (ex : List zm_E) (sl : Nat) (s : Nat → Int32) (r : Value) (el : Nat → Nat) (f g : Nat → Int32) (df : Nat → Option Nat), zj_Inv j x sr a ex sl s r el f df → zm_J N d 0 302 [(4, .int (nI i)), (3, .ref 36), (2, .ref 12), (1, .ref 2), (0, .ref 0)] [] (zk_H (zj_R L xs o sr a) ex sl s r el f g df) Q
theorem zj_th : zm_J N d 71 0 [(0, .ref 12)] [] (zk_H (zj_R L xs o sr a) ex sl s r el f g df) (fun z G' => z = .inl (some (.int (sr 12))) ∧ G' = (zk_H (zj_R L xs o sr a) ex sl s r el f g df)) := by
  rw [zj_eq]
  exact zr_thrown
theorem zj_rc {v : Int32} (K : ∀ w, Q (.inl (some (.int w))) (zk_H (zj_R L xs o (zu sr 12 0) a) ex sl s r el f g df)) : zm_J N d 107 0 [(0, .ref 12), (1, .int v)] [] (zk_H (zj_R L xs o sr a) ex sl s r el f g df) Q := by
  rw [zj_eq]
  refine zr_count (fun w => ?_)
  rw [← zj_eq]
  exact K w
theorem zj_op0 (hi : i + 3 ≤ L) (hij : i = 3 * j) (hL : L ≤ 1536) (hd : 400 ≤ d) (hI : zj_Inv j x sr a ex sl s r el f df) (K : zj_Nx N d L xs i (j + 1) Q) : zm_J N d 0 39 [(4, .int (nI i)), (3, .ref 36), (2, .ref 12), (1, .ref 2), (0, .ref 0)] [.int 0] (zk_H (zj_R L xs o sr a) ex sl s r el f g df) Q := by
  obtain ⟨d, rfl⟩ : ∃ e, d = e + 1 := ⟨d - 1, by omega⟩
  obtain ⟨P, hK, hF, hP, hw⟩ := hI
  have hB : zk_BS (44 * j + 43) (156591 + 220 * j + 212) := zj_BS (by omega) (by omega)
  have hr := zj_K_r (hB.le (by omega) (by omega)) hK
  refine zm_J_run zm_T 1 (pc' := 84) (lv' := [(4, .int (nI i)), (3, .ref 36), (2, .ref 12), (1, .ref 2), (0, .ref 0)]) (st' := []) (G' := (zk_H (zj_R L xs o sr a) ex sl s r el f g df)) rfl ?_
  refine zm_J_run zm_T 5 (pc' := 90) (lv' := [(4, .int (nI i)), (3, .ref 36), (2, .ref 12), (1, .ref 2), (0, .ref 0)]) (st' := [.int ((nI i) + 1), .ref 0, .ref 2]) (G' := (zk_H (zj_R L xs o sr a) ex sl s r el f g df)) rfl ?_
  refine zg_ald (i := .iaload) (t := 0) (n := L) (f := xs) (m := i + 1) rfl rfl rfl rfl (nI_1 i) (by omega) (by omega) ?_
  refine zm_J_run zm_T 7 (pc' := 100) (lv' := [(4, .int (nI i)), (3, .ref 36), (2, .ref 12), (1, .ref 2), (0, .ref 0)]) (st' := [.int ((nI i) + 2), .ref 0, .long (((xs (i + 1)).toInt64) <<< ((32 : Int32).toInt64 &&& 63)), .ref 2]) (G' := (zk_H (zj_R L xs o sr a) ex sl s r el f g df)) rfl ?_
  refine zg_ald (i := .iaload) (t := 0) (n := L) (f := xs) (m := i + 2) rfl rfl rfl rfl (zj_add2 i) (by omega) (by omega) ?_
  refine zm_J_run zm_T 5 (pc' := 108) (lv' := [(4, .int (nI i)), (3, .ref 36), (2, .ref 12), (1, .ref 2), (0, .ref 0)]) (st' := [.ref 36, .long ((((xs (i + 1)).toInt64) <<< ((32 : Int32).toInt64 &&& 63)) ||| (((xs (i + 2)).toInt64) &&& 4294967295)), .ref 2]) (G' := (zk_H (zj_R L xs o sr a) ex sl s r el f g df)) rfl ?_
  show zm_J N _ 0 108 [(4, .int (nI i)), (3, .ref 36), (2, .ref 12), (1, .ref 2), (0, .ref 0)] [.ref 36, .long (zj_p (xs (i + 1)) (xs (i + 2))), .ref 2] (zk_H (zj_R L xs o sr a) ex sl s r el f g df) _
  refine zg_SK (av := [.ref 2, .long (zj_p (xs (i + 1)) (xs (i + 2))), .ref 36]) (rest := []) (zm_T.1 0 108 _ rfl).1 zc_0_108 (Nat.le_of_ble_eq_true rfl) (Nat.le_of_ble_eq_true rfl) (zk_c hr) (zk_s hr) (zj_ct (p := zj_p (xs (i + 1)) (xs (i + 2))) hB hK hw (by omega) (fun y o1 ex1 sl1 s1 r1 el1 f1 g1 df1 hy ho hK1 => ⟨_, rfl, ?_⟩))
  have hB1 := hB
  have hr1 := zj_K_r hB hK1
  show zm_J N _ 0 111 [(4, .int (nI i)), (3, .ref 36), (2, .ref 12), (1, .ref 2), (0, .ref 0)] [.int y.1] (zk_H (zj_R L xs o1 sr a) ex1 sl1 s1 r1 el1 f1 g1 df1) _
  refine zm_J_run zm_T 6 (pc' := 119) (lv' := [(5, .int y.1), (4, .int (nI i)), (3, .ref 36), (2, .ref 12), (1, .ref 2), (0, .ref 0)]) (st' := [.int ((nI i) + 1), .ref 0, .ref 12]) (G' := (zk_H (zj_R L xs o1 sr a) ex1 sl1 s1 r1 el1 f1 g1 df1)) rfl ?_
  refine zg_ald (i := .iaload) (t := 0) (n := L) (f := xs) (m := i + 1) rfl rfl rfl rfl (nI_1 i) (by omega) (by omega) ?_
  refine zm_J_run zm_T 7 (pc' := 129) (lv' := [(5, .int y.1), (4, .int (nI i)), (3, .ref 36), (2, .ref 12), (1, .ref 2), (0, .ref 0)]) (st' := [.int ((nI i) + 2), .ref 0, .long (((xs (i + 1)).toInt64) <<< ((32 : Int32).toInt64 &&& 63)), .ref 12]) (G' := (zk_H (zj_R L xs o1 sr a) ex1 sl1 s1 r1 el1 f1 g1 df1)) rfl ?_
  refine zg_ald (i := .iaload) (t := 0) (n := L) (f := xs) (m := i + 2) rfl rfl rfl rfl (zj_add2 i) (by omega) (by omega) ?_
  refine zm_J_run zm_T 4 (pc' := 136) (lv' := [(5, .int y.1), (4, .int (nI i)), (3, .ref 36), (2, .ref 12), (1, .ref 2), (0, .ref 0)]) (st' := [.long ((((xs (i + 1)).toInt64) <<< ((32 : Int32).toInt64 &&& 63)) ||| (((xs (i + 2)).toInt64) &&& 4294967295)), .ref 12]) (G' := (zk_H (zj_R L xs o1 sr a) ex1 sl1 s1 r1 el1 f1 g1 df1)) rfl ?_
  show zm_J N _ 0 136 [(5, .int y.1), (4, .int (nI i)), (3, .ref 36), (2, .ref 12), (1, .ref 2), (0, .ref 0)] [.long (zj_p (xs (i + 1)) (xs (i + 2))), .ref 12] (zk_H (zj_R L xs o1 sr a) ex1 sl1 s1 r1 el1 f1 g1 df1) _
  refine zg_VK (a := 12) (av := [.long (zj_p (xs (i + 1)) (xs (i + 2)))]) (rest := []) (zm_T.1 0 136 _ rfl).1 zc_0_136 rfl (Nat.le_of_ble_eq_true rfl) (Nat.le_of_ble_eq_true rfl) (zk_c hr1) (zk_s hr1) (zj_rt hB hK1 hF hw (by omega) hy (by omega) (fun w P1 sr1 a1 ex2 sl2 hw1 h12 hF1 hP1 hK2 => ⟨_, rfl, ?_⟩))
  have hr2 := zj_K_r (zj_BS (by omega) (by omega)) hK2
  show zm_J N _ 0 139 [(5, .int y.1), (4, .int (nI i)), (3, .ref 36), (2, .ref 12), (1, .ref 2), (0, .ref 0)] [.int w] (zk_H (zj_R L xs o1 sr1 a1) ex2 sl2 s1 r1 el1 f1 g1 df1) _
  refine zm_J_run zm_T 2 (pc' := 302) (lv' := [(6, .int w), (5, .int y.1), (4, .int (nI i)), (3, .ref 36), (2, .ref 12), (1, .ref 2), (0, .ref 0)]) (st' := []) (G' := (zk_H (zj_R L xs o1 sr1 a1) ex2 sl2 s1 r1 el1 f1 g1 df1)) rfl ?_
  refine zm_J_lv (lv' := [(4, .int (nI i)), (3, .ref 36), (2, .ref 12), (1, .ref 2), (0, .ref 0)]) (by simp) ?_
  exact K y.2.2 o1 sr1 a1 ex2 sl2 s1 r1 el1 f1 g1 df1 ⟨P1, zj_K_le (by omega) (by omega) hK2, hF1, by omega, zj_tW hw hy⟩
theorem zj_op1 (hi : i + 3 ≤ L) (hij : i = 3 * j) (hL : L ≤ 1536) (hd : 400 ≤ d) (hI : zj_Inv j x sr a ex sl s r el f df) (K : zj_Nx N d L xs i (j + 1) Q) : zm_J N d 0 39 [(4, .int (nI i)), (3, .ref 36), (2, .ref 12), (1, .ref 2), (0, .ref 0)] [.int 1] (zk_H (zj_R L xs o sr a) ex sl s r el f g df) Q := by
  obtain ⟨d, rfl⟩ : ∃ e, d = e + 1 := ⟨d - 1, by omega⟩
  obtain ⟨P, hK, hF, hP, hw⟩ := hI
  have hB : zk_BS (44 * j + 43) (156591 + 220 * j + 212) := zj_BS (by omega) (by omega)
  have hr := zj_K_r (hB.le (by omega) (by omega)) hK
  refine zm_J_run zm_T 1 (pc' := 144) (lv' := [(4, .int (nI i)), (3, .ref 36), (2, .ref 12), (1, .ref 2), (0, .ref 0)]) (st' := []) (G' := (zk_H (zj_R L xs o sr a) ex sl s r el f g df)) rfl ?_
  refine zm_J_run zm_T 2 (pc' := 146) (lv' := [(4, .int (nI i)), (3, .ref 36), (2, .ref 12), (1, .ref 2), (0, .ref 0)]) (st' := [.ref 36, .ref 2]) (G' := (zk_H (zj_R L xs o sr a) ex sl s r el f g df)) rfl ?_
  refine zg_SK (av := [.ref 2, .ref 36]) (rest := []) (zm_T.1 0 146 _ rfl).1 zc_0_146 (Nat.le_of_ble_eq_true rfl) (Nat.le_of_ble_eq_true rfl) (zk_c hr) (zk_s hr) (zj_cd hB hK hw (by omega) (fun y o1 ex1 sl1 s1 r1 el1 f1 g1 df1 hy ho hK1 => ⟨_, rfl, ?_⟩))
  have hB1 := hB
  have hr1 := zj_K_r hB hK1
  show zm_J N _ 0 149 [(4, .int (nI i)), (3, .ref 36), (2, .ref 12), (1, .ref 2), (0, .ref 0)] [.int y.1] (zk_H (zj_R L xs o1 sr a) ex1 sl1 s1 r1 el1 f1 g1 df1) _
  refine zm_J_run zm_T 2 (pc' := 152) (lv' := [(5, .int y.1), (4, .int (nI i)), (3, .ref 36), (2, .ref 12), (1, .ref 2), (0, .ref 0)]) (st' := [.ref 12]) (G' := (zk_H (zj_R L xs o1 sr a) ex1 sl1 s1 r1 el1 f1 g1 df1)) rfl ?_
  refine zg_VK (a := 12) (av := []) (rest := []) (zm_T.1 0 152 _ rfl).1 zc_0_152 rfl (Nat.le_of_ble_eq_true rfl) (Nat.le_of_ble_eq_true rfl) (zk_c hr1) (zk_s hr1) (zj_rd hB hK1 hF hw (by omega) hy (by omega) (fun w P1 sr1 a1 ex2 sl2 hw1 h12 hF1 hP1 hK2 => ⟨_, rfl, ?_⟩))
  have hr2 := zj_K_r (zj_BS (by omega) (by omega)) hK2
  show zm_J N _ 0 155 [(5, .int y.1), (4, .int (nI i)), (3, .ref 36), (2, .ref 12), (1, .ref 2), (0, .ref 0)] [.int w] (zk_H (zj_R L xs o1 sr1 a1) ex2 sl2 s1 r1 el1 f1 g1 df1) _
  refine zm_J_run zm_T 2 (pc' := 302) (lv' := [(6, .int w), (5, .int y.1), (4, .int (nI i)), (3, .ref 36), (2, .ref 12), (1, .ref 2), (0, .ref 0)]) (st' := []) (G' := (zk_H (zj_R L xs o1 sr1 a1) ex2 sl2 s1 r1 el1 f1 g1 df1)) rfl ?_
  refine zm_J_lv (lv' := [(4, .int (nI i)), (3, .ref 36), (2, .ref 12), (1, .ref 2), (0, .ref 0)]) (by simp) ?_
  exact K y.2.2 o1 sr1 a1 ex2 sl2 s1 r1 el1 f1 g1 df1 ⟨P1, zj_K_le (by omega) (by omega) hK2, hF1, by omega, zj_dW hw (zj_K_t hK) hy⟩
theorem zj_op2 (hi : i + 3 ≤ L) (hij : i = 3 * j) (hL : L ≤ 1536) (hd : 400 ≤ d) (hI : zj_Inv j x sr a ex sl s r el f df) (K : zj_Nx N d L xs i (j + 1) Q) : zm_J N d 0 39 [(4, .int (nI i)), (3, .ref 36), (2, .ref 12), (1, .ref 2), (0, .ref 0)] [.int 2] (zk_H (zj_R L xs o sr a) ex sl s r el f g df) Q := by
  obtain ⟨d, rfl⟩ : ∃ e, d = e + 1 := ⟨d - 1, by omega⟩
  obtain ⟨P, hK, hF, hP, hw⟩ := hI
  have hB : zk_BS (44 * j + 43) (156591 + 220 * j + 212) := zj_BS (by omega) (by omega)
  have hr := zj_K_r (hB.le (by omega) (by omega)) hK
  refine zm_J_run zm_T 1 (pc' := 160) (lv' := [(4, .int (nI i)), (3, .ref 36), (2, .ref 12), (1, .ref 2), (0, .ref 0)]) (st' := []) (G' := (zk_H (zj_R L xs o sr a) ex sl s r el f g df)) rfl ?_
  refine zm_J_run zm_T 2 (pc' := 162) (lv' := [(4, .int (nI i)), (3, .ref 36), (2, .ref 12), (1, .ref 2), (0, .ref 0)]) (st' := [.ref 36, .ref 2]) (G' := (zk_H (zj_R L xs o sr a) ex sl s r el f g df)) rfl ?_
  refine zg_SK (av := [.ref 2, .ref 36]) (rest := []) (zm_T.1 0 162 _ rfl).1 zc_0_162 (Nat.le_of_ble_eq_true rfl) (Nat.le_of_ble_eq_true rfl) (zk_c hr) (zk_s hr) (zj_ca hB hK hw (by omega) (fun y o1 ex1 sl1 s1 r1 el1 f1 g1 df1 hy ho hK1 => ⟨_, rfl, ?_⟩))
  have hB1 := hB
  have hr1 := zj_K_r hB hK1
  show zm_J N _ 0 165 [(4, .int (nI i)), (3, .ref 36), (2, .ref 12), (1, .ref 2), (0, .ref 0)] [.int y.1] (zk_H (zj_R L xs o1 sr a) ex1 sl1 s1 r1 el1 f1 g1 df1) _
  refine zm_J_run zm_T 2 (pc' := 168) (lv' := [(5, .int y.1), (4, .int (nI i)), (3, .ref 36), (2, .ref 12), (1, .ref 2), (0, .ref 0)]) (st' := [.ref 12]) (G' := (zk_H (zj_R L xs o1 sr a) ex1 sl1 s1 r1 el1 f1 g1 df1)) rfl ?_
  refine zg_VK (a := 12) (av := []) (rest := []) (zm_T.1 0 168 _ rfl).1 zc_0_168 rfl (Nat.le_of_ble_eq_true rfl) (Nat.le_of_ble_eq_true rfl) (zk_c hr1) (zk_s hr1) (zj_ra hB hK1 hF hw (by omega) hy (by omega) (fun w P1 sr1 a1 ex2 sl2 hw1 h12 hF1 hP1 hK2 => ⟨_, rfl, ?_⟩))
  have hr2 := zj_K_r (zj_BS (by omega) (by omega)) hK2
  show zm_J N _ 0 171 [(5, .int y.1), (4, .int (nI i)), (3, .ref 36), (2, .ref 12), (1, .ref 2), (0, .ref 0)] [.int w] (zk_H (zj_R L xs o1 sr1 a1) ex2 sl2 s1 r1 el1 f1 g1 df1) _
  refine zm_J_run zm_T 2 (pc' := 302) (lv' := [(6, .int w), (5, .int y.1), (4, .int (nI i)), (3, .ref 36), (2, .ref 12), (1, .ref 2), (0, .ref 0)]) (st' := []) (G' := (zk_H (zj_R L xs o1 sr1 a1) ex2 sl2 s1 r1 el1 f1 g1 df1)) rfl ?_
  refine zm_J_lv (lv' := [(4, .int (nI i)), (3, .ref 36), (2, .ref 12), (1, .ref 2), (0, .ref 0)]) (by simp) ?_
  exact K y.2.2 o1 sr1 a1 ex2 sl2 s1 r1 el1 f1 g1 df1 ⟨P1, zj_K_le (by omega) (by omega) hK2, hF1, by omega, zj_aW hw (zj_K_t hK) hy⟩
theorem zj_op3 (hi : i + 3 ≤ L) (hij : i = 3 * j) (hL : L ≤ 1536) (hd : 400 ≤ d) (hI : zj_Inv j x sr a ex sl s r el f df) (K : zj_Nx N d L xs i (j + 1) Q) : zm_J N d 0 39 [(4, .int (nI i)), (3, .ref 36), (2, .ref 12), (1, .ref 2), (0, .ref 0)] [.int 3] (zk_H (zj_R L xs o sr a) ex sl s r el f g df) Q := by
  obtain ⟨d, rfl⟩ : ∃ e, d = e + 1 := ⟨d - 1, by omega⟩
  obtain ⟨P, hK, hF, hP, hw⟩ := hI
  have hB : zk_BS (44 * j + 43) (156591 + 220 * j + 212) := zj_BS (by omega) (by omega)
  have hr := zj_K_r (hB.le (by omega) (by omega)) hK
  refine zm_J_run zm_T 1 (pc' := 176) (lv' := [(4, .int (nI i)), (3, .ref 36), (2, .ref 12), (1, .ref 2), (0, .ref 0)]) (st' := []) (G' := (zk_H (zj_R L xs o sr a) ex sl s r el f g df)) rfl ?_
  refine zm_J_run zm_T 2 (pc' := 178) (lv' := [(4, .int (nI i)), (3, .ref 36), (2, .ref 12), (1, .ref 2), (0, .ref 0)]) (st' := [.ref 36, .ref 2]) (G' := (zk_H (zj_R L xs o sr a) ex sl s r el f g df)) rfl ?_
  refine zg_SK (av := [.ref 2, .ref 36]) (rest := []) (zm_T.1 0 178 _ rfl).1 zc_0_178 (Nat.le_of_ble_eq_true rfl) (Nat.le_of_ble_eq_true rfl) (zk_c hr) (zk_s hr) (zj_cn hB hK hw (by omega) (fun y o1 ex1 sl1 s1 r1 el1 f1 g1 df1 hy ho hK1 => ⟨_, rfl, ?_⟩))
  have hB1 := hB
  have hr1 := zj_K_r hB hK1
  show zm_J N _ 0 181 [(4, .int (nI i)), (3, .ref 36), (2, .ref 12), (1, .ref 2), (0, .ref 0)] [.int y.1] (zk_H (zj_R L xs o1 sr a) ex1 sl1 s1 r1 el1 f1 g1 df1) _
  refine zm_J_run zm_T 2 (pc' := 184) (lv' := [(5, .int y.1), (4, .int (nI i)), (3, .ref 36), (2, .ref 12), (1, .ref 2), (0, .ref 0)]) (st' := [.ref 12]) (G' := (zk_H (zj_R L xs o1 sr a) ex1 sl1 s1 r1 el1 f1 g1 df1)) rfl ?_
  refine zg_VK (a := 12) (av := []) (rest := []) (zm_T.1 0 184 _ rfl).1 zc_0_184 rfl (Nat.le_of_ble_eq_true rfl) (Nat.le_of_ble_eq_true rfl) (zk_c hr1) (zk_s hr1) (zj_rn hB hK1 hF hw (by omega) hy (by omega) (fun w P1 sr1 a1 ex2 sl2 hw1 h12 hF1 hP1 hK2 => ⟨_, rfl, ?_⟩))
  have hr2 := zj_K_r (zj_BS (by omega) (by omega)) hK2
  show zm_J N _ 0 187 [(5, .int y.1), (4, .int (nI i)), (3, .ref 36), (2, .ref 12), (1, .ref 2), (0, .ref 0)] [.int w] (zk_H (zj_R L xs o1 sr1 a1) ex2 sl2 s1 r1 el1 f1 g1 df1) _
  refine zm_J_run zm_T 2 (pc' := 302) (lv' := [(6, .int w), (5, .int y.1), (4, .int (nI i)), (3, .ref 36), (2, .ref 12), (1, .ref 2), (0, .ref 0)]) (st' := []) (G' := (zk_H (zj_R L xs o1 sr1 a1) ex2 sl2 s1 r1 el1 f1 g1 df1)) rfl ?_
  refine zm_J_lv (lv' := [(4, .int (nI i)), (3, .ref 36), (2, .ref 12), (1, .ref 2), (0, .ref 0)]) (by simp) ?_
  exact K y.2.2 o1 sr1 a1 ex2 sl2 s1 r1 el1 f1 g1 df1 ⟨P1, zj_K_le (by omega) (by omega) hK2, hF1, by omega, zj_nW hw hy⟩
theorem zj_op4 (hi : i + 3 ≤ L) (hij : i = 3 * j) (hL : L ≤ 1536) (hd : 400 ≤ d) (hI : zj_Inv j x sr a ex sl s r el f df) (K : zj_Nx N d L xs i (j + 1) Q) : zm_J N d 0 39 [(4, .int (nI i)), (3, .ref 36), (2, .ref 12), (1, .ref 2), (0, .ref 0)] [.int 4] (zk_H (zj_R L xs o sr a) ex sl s r el f g df) Q := by
  obtain ⟨d, rfl⟩ : ∃ e, d = e + 1 := ⟨d - 1, by omega⟩
  obtain ⟨P, hK, hF, hP, hw⟩ := hI
  have hB : zk_BS (44 * j + 43) (156591 + 220 * j + 212) := zj_BS (by omega) (by omega)
  have hr := zj_K_r (hB.le (by omega) (by omega)) hK
  refine zm_J_run zm_T 1 (pc' := 192) (lv' := [(4, .int (nI i)), (3, .ref 36), (2, .ref 12), (1, .ref 2), (0, .ref 0)]) (st' := []) (G' := (zk_H (zj_R L xs o sr a) ex sl s r el f g df)) rfl ?_
  refine zm_J_run zm_T 2 (pc' := 194) (lv' := [(4, .int (nI i)), (3, .ref 36), (2, .ref 12), (1, .ref 2), (0, .ref 0)]) (st' := [.ref 36, .ref 2]) (G' := (zk_H (zj_R L xs o sr a) ex sl s r el f g df)) rfl ?_
  refine zg_SK (av := [.ref 2, .ref 36]) (rest := []) (zm_T.1 0 194 _ rfl).1 zc_0_194 (Nat.le_of_ble_eq_true rfl) (Nat.le_of_ble_eq_true rfl) (zk_c hr) (zk_s hr) (zj_ch hB hK hw (by omega) (fun y o1 ex1 sl1 s1 r1 el1 f1 g1 df1 hy ho hK1 => ⟨_, rfl, ?_⟩))
  have hB1 := hB
  have hr1 := zj_K_r hB hK1
  show zm_J N _ 0 197 [(4, .int (nI i)), (3, .ref 36), (2, .ref 12), (1, .ref 2), (0, .ref 0)] [.int y.1] (zk_H (zj_R L xs o1 sr a) ex1 sl1 s1 r1 el1 f1 g1 df1) _
  refine zm_J_run zm_T 2 (pc' := 200) (lv' := [(5, .int y.1), (4, .int (nI i)), (3, .ref 36), (2, .ref 12), (1, .ref 2), (0, .ref 0)]) (st' := [.ref 12]) (G' := (zk_H (zj_R L xs o1 sr a) ex1 sl1 s1 r1 el1 f1 g1 df1)) rfl ?_
  refine zg_VK (a := 12) (av := []) (rest := []) (zm_T.1 0 200 _ rfl).1 zc_0_200 rfl (Nat.le_of_ble_eq_true rfl) (Nat.le_of_ble_eq_true rfl) (zk_c hr1) (zk_s hr1) (zj_rh hB hK1 hF hw (by omega) hy (by omega) (fun w P1 sr1 a1 ex2 sl2 hw1 h12 hF1 hP1 hK2 => ⟨_, rfl, ?_⟩))
  have hr2 := zj_K_r (zj_BS (by omega) (by omega)) hK2
  show zm_J N _ 0 203 [(5, .int y.1), (4, .int (nI i)), (3, .ref 36), (2, .ref 12), (1, .ref 2), (0, .ref 0)] [.int w] (zk_H (zj_R L xs o1 sr1 a1) ex2 sl2 s1 r1 el1 f1 g1 df1) _
  refine zm_J_run zm_T 2 (pc' := 302) (lv' := [(6, .int w), (5, .int y.1), (4, .int (nI i)), (3, .ref 36), (2, .ref 12), (1, .ref 2), (0, .ref 0)]) (st' := []) (G' := (zk_H (zj_R L xs o1 sr1 a1) ex2 sl2 s1 r1 el1 f1 g1 df1)) rfl ?_
  refine zm_J_lv (lv' := [(4, .int (nI i)), (3, .ref 36), (2, .ref 12), (1, .ref 2), (0, .ref 0)]) (by simp) ?_
  exact K y.2.2 o1 sr1 a1 ex2 sl2 s1 r1 el1 f1 g1 df1 ⟨P1, zj_K_le (by omega) (by omega) hK2, hF1, by omega, zj_hW hw hy⟩
theorem zj_op5 (hi : i + 3 ≤ L) (hij : i = 3 * j) (hL : L ≤ 1536) (hd : 400 ≤ d) (hI : zj_Inv j x sr a ex sl s r el f df) (K : zj_Nx N d L xs i (j + 1) Q) : zm_J N d 0 39 [(4, .int (nI i)), (3, .ref 36), (2, .ref 12), (1, .ref 2), (0, .ref 0)] [.int 5] (zk_H (zj_R L xs o sr a) ex sl s r el f g df) Q := by
  obtain ⟨d, rfl⟩ : ∃ e, d = e + 1 := ⟨d - 1, by omega⟩
  obtain ⟨P, hK, hF, hP, hw⟩ := hI
  have hB : zk_BS (44 * j + 43) (156591 + 220 * j + 212) := zj_BS (by omega) (by omega)
  have hr := zj_K_r (hB.le (by omega) (by omega)) hK
  refine zm_J_run zm_T 1 (pc' := 208) (lv' := [(4, .int (nI i)), (3, .ref 36), (2, .ref 12), (1, .ref 2), (0, .ref 0)]) (st' := []) (G' := (zk_H (zj_R L xs o sr a) ex sl s r el f g df)) rfl ?_
  refine zm_J_run zm_T 2 (pc' := 210) (lv' := [(4, .int (nI i)), (3, .ref 36), (2, .ref 12), (1, .ref 2), (0, .ref 0)]) (st' := [.ref 36, .ref 2]) (G' := (zk_H (zj_R L xs o sr a) ex sl s r el f g df)) rfl ?_
  refine zg_SK (av := [.ref 2, .ref 36]) (rest := []) (zm_T.1 0 210 _ rfl).1 zc_0_210 (Nat.le_of_ble_eq_true rfl) (Nat.le_of_ble_eq_true rfl) (zk_c hr) (zk_s hr) (zj_cl hB hK hw (by omega) (fun y o1 ex1 sl1 s1 r1 el1 f1 g1 df1 hy ho hK1 => ⟨_, rfl, ?_⟩))
  have hB1 := hB
  have hr1 := zj_K_r hB hK1
  show zm_J N _ 0 213 [(4, .int (nI i)), (3, .ref 36), (2, .ref 12), (1, .ref 2), (0, .ref 0)] [.int y.1] (zk_H (zj_R L xs o1 sr a) ex1 sl1 s1 r1 el1 f1 g1 df1) _
  refine zm_J_run zm_T 2 (pc' := 216) (lv' := [(5, .int y.1), (4, .int (nI i)), (3, .ref 36), (2, .ref 12), (1, .ref 2), (0, .ref 0)]) (st' := [.ref 12]) (G' := (zk_H (zj_R L xs o1 sr a) ex1 sl1 s1 r1 el1 f1 g1 df1)) rfl ?_
  refine zg_VK (a := 12) (av := []) (rest := []) (zm_T.1 0 216 _ rfl).1 zc_0_216 rfl (Nat.le_of_ble_eq_true rfl) (Nat.le_of_ble_eq_true rfl) (zk_c hr1) (zk_s hr1) (zj_rl hB hK1 hF hw (by omega) hy (by omega) (fun w P1 sr1 a1 ex2 sl2 hw1 h12 hF1 hP1 hK2 => ⟨_, rfl, ?_⟩))
  have hr2 := zj_K_r (zj_BS (by omega) (by omega)) hK2
  show zm_J N _ 0 219 [(5, .int y.1), (4, .int (nI i)), (3, .ref 36), (2, .ref 12), (1, .ref 2), (0, .ref 0)] [.int w] (zk_H (zj_R L xs o1 sr1 a1) ex2 sl2 s1 r1 el1 f1 g1 df1) _
  refine zm_J_run zm_T 2 (pc' := 222) (lv' := [(6, .int w), (5, .int y.1), (4, .int (nI i)), (3, .ref 36), (2, .ref 12), (1, .ref 2), (0, .ref 0)]) (st' := [.ref 12]) (G' := (zk_H (zj_R L xs o1 sr1 a1) ex2 sl2 s1 r1 el1 f1 g1 df1)) rfl ?_
  refine zg_V (a := 12) (av := []) (rest := []) (v := some (.int (sr1 12))) (G2 := (zk_H (zj_R L xs o1 sr1 a1) ex2 sl2 s1 r1 el1 f1 g1 df1)) (zm_T.1 0 222 _ rfl).1 zc_0_222 rfl (Nat.le_of_ble_eq_true rfl) (Nat.le_of_ble_eq_true rfl) (zk_c hr2) (zk_s hr2) (zj_th) ?_
  show zm_J N _ 0 225 [(6, .int w), (5, .int y.1), (4, .int (nI i)), (3, .ref 36), (2, .ref 12), (1, .ref 2), (0, .ref 0)] [.int (sr1 12)] (zk_H (zj_R L xs o1 sr1 a1) ex2 sl2 s1 r1 el1 f1 g1 df1) _
  rw [h12]
  show zm_J N _ 0 225 [(6, .int w), (5, .int y.1), (4, .int (nI i)), (3, .ref 36), (2, .ref 12), (1, .ref 2), (0, .ref 0)] [.int y.1] (zk_H (zj_R L xs o1 sr1 a1) ex2 sl2 s1 r1 el1 f1 g1 df1) _
  refine zm_J_run zm_T 2 (pc' := if y.1 = y.1 then 232 else 230) (lv' := [(6, .int w), (5, .int y.1), (4, .int (nI i)), (3, .ref 36), (2, .ref 12), (1, .ref 2), (0, .ref 0)]) (st' := []) (G' := (zk_H (zj_R L xs o1 sr1 a1) ex2 sl2 s1 r1 el1 f1 g1 df1)) rfl ?_
  rw [if_pos (show y.1 = y.1 from rfl)]
  refine zm_J_run zm_T 2 (pc' := if y.1 = 0 then 237 else 249) (lv' := [(6, .int w), (5, .int y.1), (4, .int (nI i)), (3, .ref 36), (2, .ref 12), (1, .ref 2), (0, .ref 0)]) (st' := []) (G' := (zk_H (zj_R L xs o1 sr1 a1) ex2 sl2 s1 r1 el1 f1 g1 df1)) rfl ?_
  by_cases h0 : y.1 = 0
  · rw [if_pos h0]
    refine zm_J_run zm_T 7 (pc' := if (lg_cmp (o1 0) (w.toInt64)) = 0 then 249 else 247) (lv' := [(6, .int w), (5, .int y.1), (4, .int (nI i)), (3, .ref 36), (2, .ref 12), (1, .ref 2), (0, .ref 0)]) (st' := []) (G' := (zk_H (zj_R L xs o1 sr1 a1) ex2 sl2 s1 r1 el1 f1 g1 df1)) rfl ?_
    rw [if_pos (show (lg_cmp (o1 0) (w.toInt64)) = 0 from (by rw [ho h0, hw1 h0]; exact zt_cmp _))]
    refine zm_J_run zm_T 1 (pc' := 302) (lv' := [(6, .int w), (5, .int y.1), (4, .int (nI i)), (3, .ref 36), (2, .ref 12), (1, .ref 2), (0, .ref 0)]) (st' := []) (G' := (zk_H (zj_R L xs o1 sr1 a1) ex2 sl2 s1 r1 el1 f1 g1 df1)) rfl ?_
    refine zm_J_lv (lv' := [(4, .int (nI i)), (3, .ref 36), (2, .ref 12), (1, .ref 2), (0, .ref 0)]) (by simp) ?_
    exact K y.2.2 o1 sr1 a1 ex2 sl2 s1 r1 el1 f1 g1 df1 ⟨P1, zj_K_le (by omega) (by omega) hK2, hF1, by omega, zj_lW hw hy⟩
  · rw [if_neg h0]
    refine zm_J_run zm_T 1 (pc' := 302) (lv' := [(6, .int w), (5, .int y.1), (4, .int (nI i)), (3, .ref 36), (2, .ref 12), (1, .ref 2), (0, .ref 0)]) (st' := []) (G' := (zk_H (zj_R L xs o1 sr1 a1) ex2 sl2 s1 r1 el1 f1 g1 df1)) rfl ?_
    refine zm_J_lv (lv' := [(4, .int (nI i)), (3, .ref 36), (2, .ref 12), (1, .ref 2), (0, .ref 0)]) (by simp) ?_
    exact K y.2.2 o1 sr1 a1 ex2 sl2 s1 r1 el1 f1 g1 df1 ⟨P1, zj_K_le (by omega) (by omega) hK2, hF1, by omega, zj_lW hw hy⟩
theorem zj_op6 (hi : i + 3 ≤ L) (hij : i = 3 * j) (hL : L ≤ 1536) (hd : 400 ≤ d) (hI : zj_Inv j x sr a ex sl s r el f df) (K : zj_Nx N d L xs i (j + 1) Q) : zm_J N d 0 39 [(4, .int (nI i)), (3, .ref 36), (2, .ref 12), (1, .ref 2), (0, .ref 0)] [.int 6] (zk_H (zj_R L xs o sr a) ex sl s r el f g df) Q := by
  obtain ⟨d, rfl⟩ : ∃ e, d = e + 1 := ⟨d - 1, by omega⟩
  obtain ⟨P, hK, hF, hP, hw⟩ := hI
  have hB : zk_BS (44 * j + 43) (156591 + 220 * j + 212) := zj_BS (by omega) (by omega)
  have hr := zj_K_r (hB.le (by omega) (by omega)) hK
  refine zm_J_run zm_T 1 (pc' := 252) (lv' := [(4, .int (nI i)), (3, .ref 36), (2, .ref 12), (1, .ref 2), (0, .ref 0)]) (st' := []) (G' := (zk_H (zj_R L xs o sr a) ex sl s r el f g df)) rfl ?_
  refine zm_J_run zm_T 5 (pc' := 258) (lv' := [(4, .int (nI i)), (3, .ref 36), (2, .ref 12), (1, .ref 2), (0, .ref 0)]) (st' := [.int ((nI i) + 1), .ref 0, .ref 2]) (G' := (zk_H (zj_R L xs o sr a) ex sl s r el f g df)) rfl ?_
  refine zg_ald (i := .iaload) (t := 0) (n := L) (f := xs) (m := i + 1) rfl rfl rfl rfl (nI_1 i) (by omega) (by omega) ?_
  refine zg_SK (av := [.ref 2, .int (xs (i + 1))]) (rest := []) (zm_T.1 0 259 _ rfl).1 zc_0_259 (Nat.le_of_ble_eq_true rfl) (Nat.le_of_ble_eq_true rfl) (zk_c hr) (zk_s hr) (zj_cm (k := xs (i + 1)) hB hK hw (by omega) (fun y o1 ex1 sl1 s1 r1 el1 f1 g1 df1 hy hK1 => ⟨_, rfl, ?_⟩))
  have hB1 := hB
  have hr1 := zj_K_r hB hK1
  show zm_J N _ 0 262 [(4, .int (nI i)), (3, .ref 36), (2, .ref 12), (1, .ref 2), (0, .ref 0)] [.int y.1] (zk_H (zj_R L xs o1 sr a) ex1 sl1 s1 r1 el1 f1 g1 df1) _
  refine zm_J_run zm_T 6 (pc' := 270) (lv' := [(5, .int y.1), (4, .int (nI i)), (3, .ref 36), (2, .ref 12), (1, .ref 2), (0, .ref 0)]) (st' := [.int ((nI i) + 1), .ref 0, .ref 12]) (G' := (zk_H (zj_R L xs o1 sr a) ex1 sl1 s1 r1 el1 f1 g1 df1)) rfl ?_
  refine zg_ald (i := .iaload) (t := 0) (n := L) (f := xs) (m := i + 1) rfl rfl rfl rfl (nI_1 i) (by omega) (by omega) ?_
  refine zg_VK (a := 12) (av := [.int (xs (i + 1))]) (rest := []) (zm_T.1 0 271 _ rfl).1 zc_0_271 rfl (Nat.le_of_ble_eq_true rfl) (Nat.le_of_ble_eq_true rfl) (zk_c hr1) (zk_s hr1) (zj_rm hB hK1 hF hw (by omega) hy (by omega) (fun P1 sr1 a1 ex2 sl2 h12 hF1 hP1 hK2 => ⟨_, rfl, ?_⟩))
  have hr2 := zj_K_r (zj_BS (by omega) (by omega)) hK2
  show zm_J N _ 0 274 [(5, .int y.1), (4, .int (nI i)), (3, .ref 36), (2, .ref 12), (1, .ref 2), (0, .ref 0)] [] (zk_H (zj_R L xs o1 sr1 a1) ex2 sl2 s1 r1 el1 f1 g1 df1) _
  refine zm_J_run zm_T 1 (pc' := 302) (lv' := [(5, .int y.1), (4, .int (nI i)), (3, .ref 36), (2, .ref 12), (1, .ref 2), (0, .ref 0)]) (st' := []) (G' := (zk_H (zj_R L xs o1 sr1 a1) ex2 sl2 s1 r1 el1 f1 g1 df1)) rfl ?_
  refine zm_J_lv (lv' := [(4, .int (nI i)), (3, .ref 36), (2, .ref 12), (1, .ref 2), (0, .ref 0)]) (by simp) ?_
  exact K y.2.2 o1 sr1 a1 ex2 sl2 s1 r1 el1 f1 g1 df1 ⟨P1, zj_K_le (by omega) (by omega) hK2, hF1, by omega, zj_mW hw hy⟩
theorem zj_op7 (hi : i + 3 ≤ L) (hij : i = 3 * j) (hL : L ≤ 1536) (hd : 400 ≤ d) (hI : zj_Inv j x sr a ex sl s r el f df) (K : zj_Nx N d L xs i (j + 1) Q) : zm_J N d 0 39 [(4, .int (nI i)), (3, .ref 36), (2, .ref 12), (1, .ref 2), (0, .ref 0)] [.int 7] (zk_H (zj_R L xs o sr a) ex sl s r el f g df) Q := by
  obtain ⟨d, rfl⟩ : ∃ e, d = e + 1 := ⟨d - 1, by omega⟩
  obtain ⟨P, hK, hF, hP, hw⟩ := hI
  have hB : zk_BS (44 * j + 43) (156591 + 220 * j + 212) := zj_BS (by omega) (by omega)
  have hr := zj_K_r (hB.le (by omega) (by omega)) hK
  refine zm_J_run zm_T 1 (pc' := 277) (lv' := [(4, .int (nI i)), (3, .ref 36), (2, .ref 12), (1, .ref 2), (0, .ref 0)]) (st' := []) (G' := (zk_H (zj_R L xs o sr a) ex sl s r el f g df)) rfl ?_
  refine zm_J_run zm_T 5 (pc' := 283) (lv' := [(4, .int (nI i)), (3, .ref 36), (2, .ref 12), (1, .ref 2), (0, .ref 0)]) (st' := [.int ((nI i) + 1), .ref 0, .ref 2]) (G' := (zk_H (zj_R L xs o sr a) ex sl s r el f g df)) rfl ?_
  refine zg_ald (i := .iaload) (t := 0) (n := L) (f := xs) (m := i + 1) rfl rfl rfl rfl (nI_1 i) (by omega) (by omega) ?_
  refine zg_VK (a := 2) (av := [.int (xs (i + 1))]) (rest := []) (zm_T.1 0 284 _ rfl).1 zc_0_284 rfl (Nat.le_of_ble_eq_true rfl) (Nat.le_of_ble_eq_true rfl) (zk_c hr) (zk_s hr) (zk_count hr (by omega) (fun n => ⟨_, rfl, ?_⟩))
  show zm_J N _ 0 287 [(4, .int (nI i)), (3, .ref 36), (2, .ref 12), (1, .ref 2), (0, .ref 0)] [.int n] (zk_H (zj_R L xs o sr a) ex sl s r el f g df) _
  refine zm_J_run zm_T 6 (pc' := 294) (lv' := [(4, .int (nI i)), (3, .ref 36), (2, .ref 12), (1, .ref 2), (0, .ref 0)]) (st' := [.int ((nI i) + 1), .ref 0, .ref 12]) (G' := (zk_H (zj_R L xs o sr a) ex sl s r el f g df)) rfl ?_
  refine zg_ald (i := .iaload) (t := 0) (n := L) (f := xs) (m := i + 1) rfl rfl rfl rfl (nI_1 i) (by omega) (by omega) ?_
  refine zg_VK (a := 12) (av := [.int (xs (i + 1))]) (rest := []) (zm_T.1 0 295 _ rfl).1 zc_0_295 rfl (Nat.le_of_ble_eq_true rfl) (Nat.le_of_ble_eq_true rfl) (zk_c hr) (zk_s hr) (zj_rc (fun v => ⟨_, rfl, ?_⟩))
  show zm_J N _ 0 298 [(4, .int (nI i)), (3, .ref 36), (2, .ref 12), (1, .ref 2), (0, .ref 0)] [.int v] (zk_H (zj_R L xs o (zu sr 12 0) a) ex sl s r el f g df) _
  refine zm_J_run zm_T 2 (pc' := 302) (lv' := [(4, .int (nI i)), (3, .ref 36), (2, .ref 12), (1, .ref 2), (0, .ref 0)]) (st' := []) (G' := (zk_H (zj_R L xs o (zu sr 12 0) a) ex sl s r el f g df)) rfl ?_
  refine zm_J_lv (lv' := [(4, .int (nI i)), (3, .ref 36), (2, .ref 12), (1, .ref 2), (0, .ref 0)]) (by simp) ?_
  exact K x o (zu sr 12 0) a ex sl s r el f g df ⟨P, zj_K_le (by omega) (by omega) hK, zj_F_12 0 hF, by omega, hw⟩
/-- the law's end -/
theorem zj_exit (hi : L < i + 3) (h1 : i ≤ 1536) (hL : L ≤ 1536) (hr : zr_r ex sl) : zm_J N d 0 23 [(4, .int (nI i)), (3, .ref 36), (2, .ref 12), (1, .ref 2), (0, .ref 0)] [] (zk_H (zj_R L xs o sr a) ex sl s r el f g df) zl_Q := by
  have hlt : nI L - 3 < nI i := by
    by_cases h3 : 3 ≤ L
    · obtain ⟨n, rfl⟩ : ∃ n, L = n + 3 := ⟨L - 3, by omega⟩
      rw [zj_sub3]
      exact nI_lt (by omega) (by omega)
    · have h0 : (0 : Int32) ≤ nI i := nI_pos' (by omega)
      refine Int32.lt_of_lt_of_le ?_ h0
      match L, h3 with
      | 0, _ => decide
      | 1, _ => decide
      | 2, _ => decide
      | n + 3, h3 => exact absurd (Nat.le_add_left 3 n) h3
  refine zm_J_run zm_T 2 (pc' := 26) (lv' := [(4, .int (nI i)), (3, .ref 36), (2, .ref 12), (1, .ref 2), (0, .ref 0)]) (st' := [.ref 0, .int (nI i)]) (G' := (zk_H (zj_R L xs o sr a) ex sl s r el f g df)) rfl ?_
  refine zg_alen (t := 0) (n := L) rfl rfl ?_
  refine zm_J_run zm_T 3 (pc' := if ((nI L) - 3) < (nI i) then 308 else 32) (lv' := [(4, .int (nI i)), (3, .ref 36), (2, .ref 12), (1, .ref 2), (0, .ref 0)]) (st' := []) (G' := (zk_H (zj_R L xs o sr a) ex sl s r el f g df)) rfl ?_
  rw [if_pos (show ((nI L) - 3) < (nI i) from hlt)]
  refine zm_J_run zm_T 1 (pc' := 309) (lv' := [(4, .int (nI i)), (3, .ref 36), (2, .ref 12), (1, .ref 2), (0, .ref 0)]) (st' := [.int 1]) (G' := (zk_H (zj_R L xs o sr a) ex sl s r el f g df)) rfl ?_
  exact zm_J_fin zm_T rfl rfl ⟨rfl, zk_c hr, zk_s hr⟩
theorem zj_turn (hi : i + 3 ≤ L) (hij : i = 3 * j) (hL : L ≤ 1536) (hd : 400 ≤ d) (hI : zj_Inv j x sr a ex sl s r el f df) (K : zj_Nx N d L xs i (j + 1) Q) : zm_J N d 0 23 [(4, .int (nI i)), (3, .ref 36), (2, .ref 12), (1, .ref 2), (0, .ref 0)] [] (zk_H (zj_R L xs o sr a) ex sl s r el f g df) Q := by
  have hnl : ¬ (nI L - 3 < nI i) := by
    obtain ⟨n, rfl⟩ : ∃ n, L = n + 3 := ⟨L - 3, by omega⟩
    rw [zj_sub3]
    exact zi_nlt (nI_le (by omega) (by omega))
  refine zm_J_run zm_T 2 (pc' := 26) (lv' := [(4, .int (nI i)), (3, .ref 36), (2, .ref 12), (1, .ref 2), (0, .ref 0)]) (st' := [.ref 0, .int (nI i)]) (G' := (zk_H (zj_R L xs o sr a) ex sl s r el f g df)) rfl ?_
  refine zg_alen (t := 0) (n := L) rfl rfl ?_
  refine zm_J_run zm_T 3 (pc' := if ((nI L) - 3) < (nI i) then 308 else 32) (lv' := [(4, .int (nI i)), (3, .ref 36), (2, .ref 12), (1, .ref 2), (0, .ref 0)]) (st' := []) (G' := (zk_H (zj_R L xs o sr a) ex sl s r el f g df)) rfl ?_
  rw [if_neg (show ¬ (((nI L) - 3) < (nI i)) from hnl)]
  refine zm_J_run zm_T 2 (pc' := 35) (lv' := [(4, .int (nI i)), (3, .ref 36), (2, .ref 12), (1, .ref 2), (0, .ref 0)]) (st' := [.int (nI i), .ref 0]) (G' := (zk_H (zj_R L xs o sr a) ex sl s r el f g df)) rfl ?_
  refine zg_ald (i := .iaload) (t := 0) (n := L) (f := xs) (m := i) rfl rfl rfl rfl rfl (by omega) (by omega) ?_
  refine zm_J_run zm_T 2 (pc' := 39) (lv' := [(4, .int (nI i)), (3, .ref 36), (2, .ref 12), (1, .ref 2), (0, .ref 0)]) (st' := [.int ((xs i) &&& 7)]) (G' := (zk_H (zj_R L xs o sr a) ex sl s r el f g df)) rfl ?_
  obtain ⟨k, hk, e⟩ := pk_andE (xs i) (m := 7) 3 (by decide +kernel)
  rw [e]
  match k, hk with
  | 0, _ => exact zj_op0 hi hij hL hd hI K
  | 1, _ => exact zj_op1 hi hij hL hd hI K
  | 2, _ => exact zj_op2 hi hij hL hd hI K
  | 3, _ => exact zj_op3 hi hij hL hd hI K
  | 4, _ => exact zj_op4 hi hij hL hd hI K
  | 5, _ => exact zj_op5 hi hij hL hd hI K
  | 6, _ => exact zj_op6 hi hij hL hd hI K
  | 7, _ => exact zj_op7 hi hij hL hd hI K
set_option maxRecDepth 100000 in
theorem zj_loop (hL : L ≤ 1536) (hd : 400 ≤ d) : ∀ (n i j : Nat) (x : zj_T) (o : Nat → Int64) (sr : Nat → Int32) (a : Nat → Nat → Int32) (ex : List zm_E) (sl : Nat) (s : Nat → Int32) (r : Value) (el : Nat → Nat) (f g : Nat → Int32) (df : Nat → Option Nat), i = 3 * j → L < i + n → i ≤ 1536 → zj_Inv j x sr a ex sl s r el f df → zm_J N d 0 23 [(4, .int (nI i)), (3, .ref 36), (2, .ref 12), (1, .ref 2), (0, .ref 0)] [] (zk_H (zj_R L xs o sr a) ex sl s r el f g df) zl_Q := by
  intro n
  induction n with
  | zero =>
    intro i j x o sr a ex sl s r el f g df hij h1 h2 hI
    obtain ⟨P, hK, _⟩ := hI
    exact zj_exit (by omega) h2 hL (zj_K_r (zj_BS (by omega) (by omega)) hK)
  | succ n ih =>
    intro i j x o sr a ex sl s r el f g df hij h1 h2 hI
    by_cases h3 : i + 3 ≤ L
    · refine zj_turn h3 hij hL hd hI (fun x o sr a ex sl s r el f g df hI => ?_)
      refine zm_J_run zm_T 2 (pc' := 23) (lv' := [(4, .int ((nI i) + 3)), (3, .ref 36), (2, .ref 12), (1, .ref 2), (0, .ref 0)]) (st' := []) (G' := (zk_H (zj_R L xs o sr a) ex sl s r el f g df)) rfl ?_
      rw [zj_add3]
      show zm_J N _ 0 23 [(4, .int (nI (i + 3))), (3, .ref 36), (2, .ref 12), (1, .ref 2), (0, .ref 0)] [] (zk_H (zj_R L xs o sr a) ex sl s r el f g df) _
      exact ih (i + 3) (j + 1) x o sr a ex sl s r el f g df (by omega) (by omega) (by omega) hI
    · obtain ⟨P, hK, _⟩ := hI
      exact zj_exit (by omega) h2 hL (zj_K_r (zj_BS (by omega) (by omega)) hK)
set_option maxRecDepth 100000 in
set_option maxHeartbeats 4000000 in
/-- the law, on scripts of at most 1536 ints -/
theorem zl_law {L : Nat} {xs : Nat → Int32} (N : zm_N) (d : Nat) (hd : 400 ≤ d) (hL : L ≤ 1536) : zm_J N d 0 0 [(0, .ref 0)] [] (zm_G0h L xs) zl_Q := by
  refine zl_pre N d (by omega) ?_
  refine zj_loop (L := L) (xs := xs) hL hd (L + 1) 0 0 ([], fun _ => none, none) (fun _ => 0) (zu (fun _ => 0) 9 (-1)) (fun _ _ => 0) [] 156591 (zu (fun _ => 0) 6 (-1)) .null (fun _ => 1) (fun _ => 0) (fun _ => 0) (fun _ => none) rfl (by omega) (by omega) ⟨0, ⟨[], [], [], (0, 0, 0), zj_tt0 _, rfl, ?_, fun k _ => ⟨fun _ => rfl, fun L b h => (by cases h)⟩, ⟨fun _ => rfl, fun v σ h => (by cases h)⟩⟩, ⟨zr_tt0 rfl, rfl, fun k _ => ⟨fun _ => rfl, fun L b h => (by cases h)⟩, ⟨fun _ => rfl, fun v σ h => (by cases h)⟩⟩, by omega, ⟨fun k L b h => (by cases h), fun v σ h => (by cases h)⟩⟩
  refine ⟨⟨⟨fun y hy => (by cases hy), Or.inl ⟨rfl, rfl, rfl⟩⟩, ⟨fun y hy => (by cases hy), Or.inl ⟨rfl, rfl, rfl⟩⟩, ⟨fun y hy => (by cases hy), Or.inl ⟨rfl, rfl, rfl⟩⟩⟩, ⟨rfl, rfl, rfl⟩, ⟨List.nodup_nil, List.nodup_nil, List.nodup_nil⟩, ⟨fun _ => rfl, fun _ => rfl, fun _ => rfl⟩, ⟨Nat.zero_le _, Nat.le_refl _⟩, ⟨Nat.zero_le _, Nat.zero_le _, Nat.zero_le _⟩, fun y fs hy => (by cases hy), fun y fs hy => (by cases hy), fun y fs hy => (by cases hy)⟩
end ZJL

/-! ARRAYLIST, over the class's heap -/
/-- a list of things of the kind x: l their places, cap the room of its array -/
def zk_al (x : Nat) (ex : List zm_E) (e : Nat) (l : List Nat) (cap : Nat) : Prop := (∀ y ∈ l, ∃ fs, ex[y]? = some (.inr (x, fs))) ∧ ((e = 1 ∧ l = [] ∧ cap = 0) ∨ ∃ i fn, e = i + 37 ∧ ex[i]? = some (.inl (5, cap, .inr (.inr (.inr (.inr fn))))) ∧ l.length ≤ cap ∧ 10 ≤ cap ∧ cap ≤ 60000 ∧ ∀ m y, l[m]? = some y → fn m = some (y + 37))
def zk_em : zm_E := .inl (5, 0, .inr (.inr (.inr (.inr fun _ => none))))
theorem zk_setl (ex : List zm_E) (x y : zm_E) : (zk_ap ex x).set ex.length y = zk_ap ex y := by
  unfold zk_ap
  induction ex with
  | nil => rfl
  | cons z l ih => exact congrArg (z :: ·) ih
section ZKA
variable {R : Nat → zm_E} {ex : List zm_E} {sl : Nat} {s : Nat → Int32} {r : Value} {el : Nat → Nat} {f g : Nat → Int32} {df : Nat → Option Nat} {N : zm_N} {d : Nat} {Q : zm_O → zm_H → Prop}
theorem zk_sto {x y : Nat} {fs : List Value} (h : ex[y]? = some (.inr (x, fs))) (hx : x = 3 ∨ x = 8 ∨ x = 9) : zm_sto 5 (.ref (y + 37)) (zk_H R ex sl s r el f g df) = true := by
  have h' : (zk_H R ex sl s r el f g df).1[y + 37]? = some (.inr (x, fs)) := h
  unfold zm_sto
  simp only [h']
  rcases hx with rfl | rfl | rfl <;> rfl
theorem zk_oka {x : Nat} (hx : x = 3 ∨ x = 8 ∨ x = 9) : zm_oka x "java/lang/Object" := by
  rcases hx with rfl | rfl | rfl
  · exact zm_T.2 (5, 3) (by decide) _ rfl
  · exact zm_T.2 (5, 8) (by decide) _ rfl
  · exact zm_T.2 (5, 9) (by decide) _ rfl
theorem zk_ck2 {j n : Nat} (hj : j < n) (hn : n < 2147483648) {G : zm_H} : zm_J N d 116 0 [(0, .int (nI j)), (1, .int (nI n)), (2, .null)] [] G (fun z G' => z = .inl (some (.int (nI j))) ∧ G' = G) := by
  refine zm_J_run zm_T 2 (pc' := if (nI j) < 0 then 9 else 4) (lv' := [(0, .int (nI j)), (1, .int (nI n)), (2, .null)]) (st' := []) (G' := G) rfl ?_
  rw [if_neg (show ¬ ((nI j) < 0) from nI_pos (by omega))]
  refine zm_J_run zm_T 3 (pc' := if (nI j) < (nI n) then 16 else 9) (lv' := [(0, .int (nI j)), (1, .int (nI n)), (2, .null)]) (st' := []) (G' := G) rfl ?_
  rw [if_pos (show (nI j) < (nI n) from nI_lt hj (by omega))]
  refine zm_J_run zm_T 1 (pc' := 17) (lv' := [(0, .int (nI j)), (1, .int (nI n)), (2, .null)]) (st' := [.int (nI j)]) (G' := G) rfl ?_
  exact zm_J_fin zm_T rfl rfl ⟨rfl, rfl⟩
theorem zk_ck1 (hd : 1 ≤ d) {j n : Nat} (hj : j < n) (hn : n < 2147483648) {G : zm_H} (hc : G.1.length ≤ zm_C) (hsl : G.2 ≤ zm_S) : zm_J N d 115 0 [(0, .int (nI j)), (1, .int (nI n))] [] G (fun z G' => z = .inl (some (.int (nI j))) ∧ G' = G) := by
  obtain ⟨d, rfl⟩ : ∃ e, d = e + 1 := ⟨d - 1, by omega⟩
  refine zm_J_run zm_T 3 (pc' := 3) (lv' := [(0, .int (nI j)), (1, .int (nI n))]) (st' := [.null, .int (nI n), .int (nI j)]) (G' := G) rfl ?_
  refine zg_S (av := [.int (nI j), .int (nI n), .null]) (rest := []) (v := some (.int (nI j))) (G2 := G) (zm_T.1 115 3 _ rfl).1 zc_115_3 (Nat.le_of_ble_eq_true rfl) (Nat.le_of_ble_eq_true rfl) hc hsl (zk_ck2 hj hn) ?_
  show zm_J N _ 115 6 [(0, .int (nI j)), (1, .int (nI n))] [.int (nI j)] G _
  exact zm_J_fin zm_T rfl rfl ⟨rfl, rfl⟩
theorem zk_nl (hd : 1 ≤ d) {c : Nat} (h10 : 10 ≤ c) (hc6 : c ≤ 60000) {G : zm_H} (hc : G.1.length ≤ zm_C) (hsl : G.2 ≤ zm_S) : zm_J N d 117 0 [(0, .int (nI c)), (1, .int (nI 1)), (2, .int (nI (c / 2)))] [] G (fun z G' => z = .inl (some (.int (nI (c + c / 2)))) ∧ G' = G) := by
  obtain ⟨d, rfl⟩ : ∃ e, d = e + 1 := ⟨d - 1, by omega⟩
  refine zm_J_run zm_T 3 (pc' := 3) (lv' := [(0, .int (nI c)), (1, .int (nI 1)), (2, .int (nI (c / 2)))]) (st' := [.int (nI (c / 2)), .int (nI 1), .int (nI c)]) (G' := G) rfl ?_
  refine zm_J_mx (zm_T.1 117 3 _ rfl).1 zj_m117_3 (Nat.le_of_ble_eq_true rfl) hc hsl ?_
  rw [show (if (nI 1) < (nI (c / 2)) then (nI (c / 2)) else (nI 1)) = nI (c / 2) from if_pos (nI_lt (show 1 < c / 2 by omega) (by omega))]
  show zm_J N _ 117 6 [(0, .int (nI c)), (1, .int (nI 1)), (2, .int (nI (c / 2)))] [.int (nI (c / 2)), .int (nI c)] G _
  refine zm_J_run zm_T 2 (pc' := 8) (lv' := [(3, .int ((nI c) + (nI (c / 2)))), (0, .int (nI c)), (1, .int (nI 1)), (2, .int (nI (c / 2)))]) (st' := []) (G' := G) rfl ?_
  rw [show nI c + nI (c / 2) = nI (c + c / 2) from nI_add _ _]
  show zm_J N _ 117 8 [(3, .int (nI (c + c / 2))), (0, .int (nI c)), (1, .int (nI 1)), (2, .int (nI (c / 2)))] [] G _
  refine zm_J_run zm_T 3 (pc' := if (nI (c + c / 2)) ≤ 0 then 21 else 13) (lv' := [(3, .int (nI (c + c / 2))), (0, .int (nI c)), (1, .int (nI 1)), (2, .int (nI (c / 2)))]) (st' := []) (G' := G) rfl ?_
  rw [if_neg (show ¬ ((nI (c + c / 2)) ≤ 0) from nI_nle (by omega) (by omega))]
  refine zm_J_run zm_T 3 (pc' := if (2147483639 : Int32) < (nI (c + c / 2)) then 21 else 19) (lv' := [(3, .int (nI (c + c / 2))), (0, .int (nI c)), (1, .int (nI 1)), (2, .int (nI (c / 2)))]) (st' := []) (G' := G) rfl ?_
  rw [if_neg (show ¬ ((2147483639 : Int32) < (nI (c + c / 2))) from nI_nlt (show c + c / 2 ≤ 2147483639 by omega) (by decide))]
  refine zm_J_run zm_T 1 (pc' := 20) (lv' := [(3, .int (nI (c + c / 2))), (0, .int (nI c)), (1, .int (nI 1)), (2, .int (nI (c / 2)))]) (st' := [.int (nI (c + c / 2))]) (G' := G) rfl ?_
  exact zm_J_fin zm_T rfl rfl ⟨rfl, rfl⟩
theorem zk_size0 : zm_J N d 108 0 [(0, .ref 8)] [] (zk_H R ex sl s r el f g df) (fun z G' => z = .inl (some (.int (s 14))) ∧ G' = zk_H R ex sl s r el f g df) := by
  refine zm_J_run zm_T 2 (pc' := 4) (lv' := [(0, .ref 8)]) (st' := [.int (s 14)]) (G' := (zk_H R ex sl s r el f g df)) rfl ?_
  exact zm_J_fin zm_T rfl rfl ⟨rfl, rfl⟩
theorem zk_ed0 {i cap j y : Nat} {fn : Nat → Option Nat} (he : el 0 = i + 37) (hi : ex[i]? = some (.inl (5, cap, .inr (.inr (.inr (.inr fn)))))) (hj : j < cap) (hcap : cap ≤ 60000) (hy : fn j = some (y + 37)) : zm_J N d 110 0 [(0, .ref 8), (1, .int (nI j))] [] (zk_H R ex sl s r el f g df) (fun z G' => z = .inl (some (.ref (y + 37))) ∧ G' = zk_H R ex sl s r el f g df) := by
  refine zm_J_run zm_T 2 (pc' := 4) (lv' := [(0, .ref 8), (1, .int (nI j))]) (st' := [.ref (el 0)]) (G' := (zk_H R ex sl s r el f g df)) rfl ?_
  rw [he]
  show zm_J N _ 110 4 [(0, .ref 8), (1, .int (nI j))] [.ref (i + 37)] (zk_H R ex sl s r el f g df) _
  refine zm_J_run zm_T 1 (pc' := 5) (lv' := [(0, .ref 8), (1, .int (nI j))]) (st' := [.int (nI j), .ref (i + 37)]) (G' := (zk_H R ex sl s r el f g df)) rfl ?_
  refine zg_aald (t := 5) (n := cap) (f := fn) (m := j) rfl (zk_at hi) rfl rfl hj (by omega) ?_
  rw [hy]
  show zm_J N _ 110 6 [(0, .ref 8), (1, .int (nI j))] [.ref (y + 37)] (zk_H R ex sl s r el f g df) _
  exact zm_J_fin zm_T rfl rfl ⟨rfl, rfl⟩
theorem zk_get0 (hr : zr_r ex sl) (hd : 3 ≤ d) {i cap n j y : Nat} {fn : Nat → Option Nat} (hs : s 14 = nI n) (hn : n ≤ cap) (he : el 0 = i + 37) (hi : ex[i]? = some (.inl (5, cap, .inr (.inr (.inr (.inr fn)))))) (hj : j < n) (hcap : cap ≤ 60000) (hy : fn j = some (y + 37)) : zm_J N d 109 0 [(0, .ref 8), (1, .int (nI j))] [] (zk_H R ex sl s r el f g df) (fun z G' => z = .inl (some (.ref (y + 37))) ∧ G' = zk_H R ex sl s r el f g df) := by
  obtain ⟨d, rfl⟩ : ∃ e, d = e + 3 := ⟨d - 3, by omega⟩
  refine zm_J_run zm_T 3 (pc' := 5) (lv' := [(0, .ref 8), (1, .int (nI j))]) (st' := [.int (s 14), .int (nI j)]) (G' := (zk_H R ex sl s r el f g df)) rfl ?_
  rw [hs]
  show zm_J N _ 109 5 [(0, .ref 8), (1, .int (nI j))] [.int (nI n), .int (nI j)] (zk_H R ex sl s r el f g df) _
  refine zg_S (av := [.int (nI j), .int (nI n)]) (rest := []) (v := some (.int (nI j))) (G2 := (zk_H R ex sl s r el f g df)) (zm_T.1 109 5 _ rfl).1 zc_109_5 (Nat.le_of_ble_eq_true rfl) (Nat.le_of_ble_eq_true rfl) (zk_c hr) (zk_s hr) (zk_ck1 (by omega) hj (by omega) (zk_c hr) (zk_s hr)) ?_
  show zm_J N _ 109 8 [(0, .ref 8), (1, .int (nI j))] [.int (nI j)] (zk_H R ex sl s r el f g df) _
  refine zm_J_run zm_T 3 (pc' := 11) (lv' := [(0, .ref 8), (1, .int (nI j))]) (st' := [.int (nI j), .ref 8]) (G' := (zk_H R ex sl s r el f g df)) rfl ?_
  refine zg_V (a := 8) (av := [.int (nI j)]) (rest := []) (v := some (.ref (y + 37))) (G2 := (zk_H R ex sl s r el f g df)) (zm_T.1 109 11 _ rfl).1 zc_109_11 rfl (Nat.le_of_ble_eq_true rfl) (Nat.le_of_ble_eq_true rfl) (zk_c hr) (zk_s hr) (zk_ed0 he hi (by omega) hcap hy) ?_
  show zm_J N _ 109 14 [(0, .ref 8), (1, .int (nI j))] [.ref (y + 37)] (zk_H R ex sl s r el f g df) _
  exact zm_J_fin zm_T rfl rfl ⟨rfl, rfl⟩
theorem zk_size1 : zm_J N d 108 0 [(0, .ref 9)] [] (zk_H R ex sl s r el f g df) (fun z G' => z = .inl (some (.int (s 16))) ∧ G' = zk_H R ex sl s r el f g df) := by
  refine zm_J_run zm_T 2 (pc' := 4) (lv' := [(0, .ref 9)]) (st' := [.int (s 16)]) (G' := (zk_H R ex sl s r el f g df)) rfl ?_
  exact zm_J_fin zm_T rfl rfl ⟨rfl, rfl⟩
theorem zk_ed1 {i cap j y : Nat} {fn : Nat → Option Nat} (he : el 1 = i + 37) (hi : ex[i]? = some (.inl (5, cap, .inr (.inr (.inr (.inr fn)))))) (hj : j < cap) (hcap : cap ≤ 60000) (hy : fn j = some (y + 37)) : zm_J N d 110 0 [(0, .ref 9), (1, .int (nI j))] [] (zk_H R ex sl s r el f g df) (fun z G' => z = .inl (some (.ref (y + 37))) ∧ G' = zk_H R ex sl s r el f g df) := by
  refine zm_J_run zm_T 2 (pc' := 4) (lv' := [(0, .ref 9), (1, .int (nI j))]) (st' := [.ref (el 1)]) (G' := (zk_H R ex sl s r el f g df)) rfl ?_
  rw [he]
  show zm_J N _ 110 4 [(0, .ref 9), (1, .int (nI j))] [.ref (i + 37)] (zk_H R ex sl s r el f g df) _
  refine zm_J_run zm_T 1 (pc' := 5) (lv' := [(0, .ref 9), (1, .int (nI j))]) (st' := [.int (nI j), .ref (i + 37)]) (G' := (zk_H R ex sl s r el f g df)) rfl ?_
  refine zg_aald (t := 5) (n := cap) (f := fn) (m := j) rfl (zk_at hi) rfl rfl hj (by omega) ?_
  rw [hy]
  show zm_J N _ 110 6 [(0, .ref 9), (1, .int (nI j))] [.ref (y + 37)] (zk_H R ex sl s r el f g df) _
  exact zm_J_fin zm_T rfl rfl ⟨rfl, rfl⟩
theorem zk_get1 (hr : zr_r ex sl) (hd : 3 ≤ d) {i cap n j y : Nat} {fn : Nat → Option Nat} (hs : s 16 = nI n) (hn : n ≤ cap) (he : el 1 = i + 37) (hi : ex[i]? = some (.inl (5, cap, .inr (.inr (.inr (.inr fn)))))) (hj : j < n) (hcap : cap ≤ 60000) (hy : fn j = some (y + 37)) : zm_J N d 109 0 [(0, .ref 9), (1, .int (nI j))] [] (zk_H R ex sl s r el f g df) (fun z G' => z = .inl (some (.ref (y + 37))) ∧ G' = zk_H R ex sl s r el f g df) := by
  obtain ⟨d, rfl⟩ : ∃ e, d = e + 3 := ⟨d - 3, by omega⟩
  refine zm_J_run zm_T 3 (pc' := 5) (lv' := [(0, .ref 9), (1, .int (nI j))]) (st' := [.int (s 16), .int (nI j)]) (G' := (zk_H R ex sl s r el f g df)) rfl ?_
  rw [hs]
  show zm_J N _ 109 5 [(0, .ref 9), (1, .int (nI j))] [.int (nI n), .int (nI j)] (zk_H R ex sl s r el f g df) _
  refine zg_S (av := [.int (nI j), .int (nI n)]) (rest := []) (v := some (.int (nI j))) (G2 := (zk_H R ex sl s r el f g df)) (zm_T.1 109 5 _ rfl).1 zc_109_5 (Nat.le_of_ble_eq_true rfl) (Nat.le_of_ble_eq_true rfl) (zk_c hr) (zk_s hr) (zk_ck1 (by omega) hj (by omega) (zk_c hr) (zk_s hr)) ?_
  show zm_J N _ 109 8 [(0, .ref 9), (1, .int (nI j))] [.int (nI j)] (zk_H R ex sl s r el f g df) _
  refine zm_J_run zm_T 3 (pc' := 11) (lv' := [(0, .ref 9), (1, .int (nI j))]) (st' := [.int (nI j), .ref 9]) (G' := (zk_H R ex sl s r el f g df)) rfl ?_
  refine zg_V (a := 9) (av := [.int (nI j)]) (rest := []) (v := some (.ref (y + 37))) (G2 := (zk_H R ex sl s r el f g df)) (zm_T.1 109 11 _ rfl).1 zc_109_11 rfl (Nat.le_of_ble_eq_true rfl) (Nat.le_of_ble_eq_true rfl) (zk_c hr) (zk_s hr) (zk_ed1 he hi (by omega) hcap hy) ?_
  show zm_J N _ 109 14 [(0, .ref 9), (1, .int (nI j))] [.ref (y + 37)] (zk_H R ex sl s r el f g df) _
  exact zm_J_fin zm_T rfl rfl ⟨rfl, rfl⟩
theorem zk_size2 : zm_J N d 108 0 [(0, .ref 10)] [] (zk_H R ex sl s r el f g df) (fun z G' => z = .inl (some (.int (s 18))) ∧ G' = zk_H R ex sl s r el f g df) := by
  refine zm_J_run zm_T 2 (pc' := 4) (lv' := [(0, .ref 10)]) (st' := [.int (s 18)]) (G' := (zk_H R ex sl s r el f g df)) rfl ?_
  exact zm_J_fin zm_T rfl rfl ⟨rfl, rfl⟩
theorem zk_ed2 {i cap j y : Nat} {fn : Nat → Option Nat} (he : el 2 = i + 37) (hi : ex[i]? = some (.inl (5, cap, .inr (.inr (.inr (.inr fn)))))) (hj : j < cap) (hcap : cap ≤ 60000) (hy : fn j = some (y + 37)) : zm_J N d 110 0 [(0, .ref 10), (1, .int (nI j))] [] (zk_H R ex sl s r el f g df) (fun z G' => z = .inl (some (.ref (y + 37))) ∧ G' = zk_H R ex sl s r el f g df) := by
  refine zm_J_run zm_T 2 (pc' := 4) (lv' := [(0, .ref 10), (1, .int (nI j))]) (st' := [.ref (el 2)]) (G' := (zk_H R ex sl s r el f g df)) rfl ?_
  rw [he]
  show zm_J N _ 110 4 [(0, .ref 10), (1, .int (nI j))] [.ref (i + 37)] (zk_H R ex sl s r el f g df) _
  refine zm_J_run zm_T 1 (pc' := 5) (lv' := [(0, .ref 10), (1, .int (nI j))]) (st' := [.int (nI j), .ref (i + 37)]) (G' := (zk_H R ex sl s r el f g df)) rfl ?_
  refine zg_aald (t := 5) (n := cap) (f := fn) (m := j) rfl (zk_at hi) rfl rfl hj (by omega) ?_
  rw [hy]
  show zm_J N _ 110 6 [(0, .ref 10), (1, .int (nI j))] [.ref (y + 37)] (zk_H R ex sl s r el f g df) _
  exact zm_J_fin zm_T rfl rfl ⟨rfl, rfl⟩
theorem zk_get2 (hr : zr_r ex sl) (hd : 3 ≤ d) {i cap n j y : Nat} {fn : Nat → Option Nat} (hs : s 18 = nI n) (hn : n ≤ cap) (he : el 2 = i + 37) (hi : ex[i]? = some (.inl (5, cap, .inr (.inr (.inr (.inr fn)))))) (hj : j < n) (hcap : cap ≤ 60000) (hy : fn j = some (y + 37)) : zm_J N d 109 0 [(0, .ref 10), (1, .int (nI j))] [] (zk_H R ex sl s r el f g df) (fun z G' => z = .inl (some (.ref (y + 37))) ∧ G' = zk_H R ex sl s r el f g df) := by
  obtain ⟨d, rfl⟩ : ∃ e, d = e + 3 := ⟨d - 3, by omega⟩
  refine zm_J_run zm_T 3 (pc' := 5) (lv' := [(0, .ref 10), (1, .int (nI j))]) (st' := [.int (s 18), .int (nI j)]) (G' := (zk_H R ex sl s r el f g df)) rfl ?_
  rw [hs]
  show zm_J N _ 109 5 [(0, .ref 10), (1, .int (nI j))] [.int (nI n), .int (nI j)] (zk_H R ex sl s r el f g df) _
  refine zg_S (av := [.int (nI j), .int (nI n)]) (rest := []) (v := some (.int (nI j))) (G2 := (zk_H R ex sl s r el f g df)) (zm_T.1 109 5 _ rfl).1 zc_109_5 (Nat.le_of_ble_eq_true rfl) (Nat.le_of_ble_eq_true rfl) (zk_c hr) (zk_s hr) (zk_ck1 (by omega) hj (by omega) (zk_c hr) (zk_s hr)) ?_
  show zm_J N _ 109 8 [(0, .ref 10), (1, .int (nI j))] [.int (nI j)] (zk_H R ex sl s r el f g df) _
  refine zm_J_run zm_T 3 (pc' := 11) (lv' := [(0, .ref 10), (1, .int (nI j))]) (st' := [.int (nI j), .ref 10]) (G' := (zk_H R ex sl s r el f g df)) rfl ?_
  refine zg_V (a := 10) (av := [.int (nI j)]) (rest := []) (v := some (.ref (y + 37))) (G2 := (zk_H R ex sl s r el f g df)) (zm_T.1 109 11 _ rfl).1 zc_109_11 rfl (Nat.le_of_ble_eq_true rfl) (Nat.le_of_ble_eq_true rfl) (zk_c hr) (zk_s hr) (zk_ed2 he hi (by omega) hcap hy) ?_
  show zm_J N _ 109 14 [(0, .ref 10), (1, .int (nI j))] [.ref (y + 37)] (zk_H R ex sl s r el f g df) _
  exact zm_J_fin zm_T rfl rfl ⟨rfl, rfl⟩
/-- copyOf of three, from where its class is known -/
theorem zk_cp3 (hd : 1 ≤ d) {i cap m x : Nat} {fn : Nat → Option Nat} (hr : ex.length + 38 ≤ zm_C ∧ sl + m ≤ zm_S) (hi : ex[i]? = some (.inl (5, cap, .inr (.inr (.inr (.inr fn)))))) (hcm : cap ≤ m) (hm : m ≤ 100000) (hx : x = 3 ∨ x = 8 ∨ x = 9) (hel : ∀ j, j < cap → ∀ y, fn j = some y → ∃ y' fs, y = y' + 37 ∧ ex[y']? = some (.inr (x, fs))) : zm_J N d 119 6 [(0, .ref (i + 37)), (1, .int (nI m))] [] (zk_H R ex sl s r el f g df) (fun z G' => z = .inl (some (.ref (ex.length + 37))) ∧ G' = zk_H R (zk_ap ex (.inl (5, m, .inr (.inr (.inr (.inr (va_cpy fn (fun _ => none) 0 0 cap))))))) (sl + m) s r el f g df) := by
  obtain ⟨d, rfl⟩ : ∃ e, d = e + 1 := ⟨d - 1, by omega⟩
  have hrr : zr_r (zk_ap ex (.inl (5, m, .inr (.inr (.inr (.inr fun _ => none)))))) (sl + m) := ⟨by rw [zk_ap_len]; exact hr.1, hr.2⟩
  refine zm_J_run zm_T 1 (pc' := 7) (lv' := [(0, .ref (i + 37)), (1, .int (nI m))]) (st' := [.int (nI m)]) (G' := (zk_H R ex sl s r el f g df)) rfl ?_
  refine zg_newa (m := m) rfl rfl ⟨rfl, by omega⟩ hr (G' := (zk_H R (zk_ap ex (.inl (5, m, .inr (.inr (.inr (.inr fun _ => none)))))) (sl + m) s r el f g df)) rfl ?_
  refine zm_J_run zm_T 7 (pc' := 30) (lv' := [(3, .ref (ex.length + 37)), (0, .ref (i + 37)), (1, .int (nI m))]) (st' := [.ref (i + 37), .int 0, .ref (ex.length + 37), .int 0, .ref (i + 37)]) (G' := (zk_H R (zk_ap ex (.inl (5, m, .inr (.inr (.inr (.inr fun _ => none)))))) (sl + m) s r el f g df)) rfl ?_
  refine zg_alen (t := 5) (n := cap) rfl (zk_at (zk_ap_old hi)) ?_
  refine zm_J_run zm_T 1 (pc' := 32) (lv' := [(3, .ref (ex.length + 37)), (0, .ref (i + 37)), (1, .int (nI m))]) (st' := [.int (nI m), .int (nI cap), .int 0, .ref (ex.length + 37), .int 0, .ref (i + 37)]) (G' := (zk_H R (zk_ap ex (.inl (5, m, .inr (.inr (.inr (.inr fun _ => none)))))) (sl + m) s r el f g df)) rfl ?_
  refine zm_J_mn (zm_T.1 119 32 _ rfl).1 zj_m119_32 (Nat.le_of_ble_eq_true rfl) (zk_c hrr) (zk_s hrr) ?_
  rw [show (if (nI m) < (nI cap) then (nI m) else (nI cap)) = nI cap from if_neg (nI_nlt (by omega) (by omega))]
  show zm_J N _ 119 35 [(3, .ref (ex.length + 37)), (0, .ref (i + 37)), (1, .int (nI m))] [.int (nI cap), .int 0, .ref (ex.length + 37), .int 0, .ref (i + 37)] (zk_H R (zk_ap ex (.inl (5, m, .inr (.inr (.inr (.inr fun _ => none)))))) (sl + m) s r el f g df) _

  refine zm_J_cpy (x := x) (zk_at (zk_ap_old hi)) (Nat.le_add_left 2 _) (zk_at (zk_ap_new ex _)) (Nat.le_add_left 2 _) (Nat.le_refl _) hcm (by omega) (zk_oka hx) (fun j hj y hy => ?_) (Nat.le_of_ble_eq_true rfl) ?_
  · obtain ⟨y', fs, rfl, h2⟩ := hel j hj y hy
    exact ⟨fs, zk_at (zk_ap_old h2)⟩
  rw [zk_set, zk_setl]
  show zm_J N _ 119 38 [(3, .ref (ex.length + 37)), (0, .ref (i + 37)), (1, .int (nI m))] [] (zk_H R (zk_ap ex (.inl (5, m, .inr (.inr (.inr (.inr (va_cpy fn (fun _ => none) 0 0 cap))))))) (sl + m) s r el f g df) _
  refine zm_J_run zm_T 1 (pc' := 39) (lv' := [(3, .ref (ex.length + 37)), (0, .ref (i + 37)), (1, .int (nI m))]) (st' := [.ref (ex.length + 37)]) (G' := (zk_H R (zk_ap ex (.inl (5, m, .inr (.inr (.inr (.inr (va_cpy fn (fun _ => none) 0 0 cap))))))) (sl + m) s r el f g df)) rfl ?_
  exact zm_J_fin zm_T rfl rfl ⟨rfl, rfl⟩
theorem zk_gf0 (hd : 1 ≤ d) (hR1 : R 1 = zk_em) (he : el 0 = 1) (hr : ex.length + 38 ≤ zm_C ∧ sl + 10 ≤ zm_S) : zm_J N d 114 0 [(0, .ref 8), (1, .int (nI 1))] [] (zk_H R ex sl s r el f g df) (fun z G' => z = .inl (some (.ref (ex.length + 37))) ∧ G' = zk_H R (zk_ap ex (.inl (5, 10, .inr (.inr (.inr (.inr fun _ => none)))))) (sl + 10) s r (zu el 0 (ex.length + 37)) f g df) := by
  obtain ⟨d, rfl⟩ : ∃ e, d = e + 1 := ⟨d - 1, by omega⟩
  have hr0 : zr_r ex sl := ⟨by omega, by omega⟩
  have hz : (zk_H R ex sl s r el f g df).1[1]? = some (.inl (5, 0, .inr (.inr (.inr (.inr fun _ => none))))) := congrArg some hR1
  refine zm_J_run zm_T 2 (pc' := 4) (lv' := [(0, .ref 8), (1, .int (nI 1))]) (st' := [.ref (el 0)]) (G' := (zk_H R ex sl s r el f g df)) rfl ?_
  rw [he]
  show zm_J N _ 114 4 [(0, .ref 8), (1, .int (nI 1))] [.ref 1] (zk_H R ex sl s r el f g df) _
  refine zg_alen (t := 5) (n := 0) rfl hz ?_
  refine zm_J_run zm_T 3 (pc' := if (0 : Int32) < (nI 0) then 20 else 10) (lv' := [(2, .int (nI 0)), (0, .ref 8), (1, .int (nI 1))]) (st' := []) (G' := (zk_H R ex sl s r el f g df)) rfl ?_
  rw [if_neg (show ¬ ((0 : Int32) < (nI 0)) from by decide)]
  refine zm_J_run zm_T 2 (pc' := 14) (lv' := [(2, .int (nI 0)), (0, .ref 8), (1, .int (nI 1))]) (st' := [.ref (el 0)]) (G' := (zk_H R ex sl s r el f g df)) rfl ?_
  rw [he]
  show zm_J N _ 114 14 [(2, .int (nI 0)), (0, .ref 8), (1, .int (nI 1))] [.ref 1] (zk_H R ex sl s r el f g df) _
  refine zm_J_run zm_T 2 (pc' := 45) (lv' := [(2, .int (nI 0)), (0, .ref 8), (1, .int (nI 1))]) (st' := []) (G' := (zk_H R ex sl s r el f g df)) rfl ?_
  refine zm_J_run zm_T 3 (pc' := 49) (lv' := [(2, .int (nI 0)), (0, .ref 8), (1, .int (nI 1))]) (st' := [.int (nI 1), .int 10, .ref 8]) (G' := (zk_H R ex sl s r el f g df)) rfl ?_
  refine zm_J_mx (zm_T.1 114 49 _ rfl).1 zj_m114_49 (Nat.le_of_ble_eq_true rfl) (zk_c hr0) (zk_s hr0) ?_
  rw [show (if 10 < (nI 1) then (nI 1) else 10) = nI 10 from if_neg (by decide)]
  show zm_J N _ 114 52 [(2, .int (nI 0)), (0, .ref 8), (1, .int (nI 1))] [.int (nI 10), .ref 8] (zk_H R ex sl s r el f g df) _
  refine zg_newa (m := 10) rfl rfl ⟨rfl, by decide⟩ hr (G' := (zk_H R (zk_ap ex (.inl (5, 10, .inr (.inr (.inr (.inr fun _ => none)))))) (sl + 10) s r el f g df)) rfl ?_
  refine zm_J_run zm_T 2 (pc' := 59) (lv' := [(2, .int (nI 0)), (0, .ref 8), (1, .int (nI 1))]) (st' := [.ref (ex.length + 37)]) (G' := (zk_H R (zk_ap ex (.inl (5, 10, .inr (.inr (.inr (.inr fun _ => none)))))) (sl + 10) s r (zu el 0 (ex.length + 37)) f g df)) rfl ?_
  exact zm_J_fin zm_T rfl rfl ⟨rfl, rfl⟩
theorem zk_gg0 (hd : 3 ≤ d) {i cap x : Nat} {fn : Nat → Option Nat} (he : el 0 = i + 37) (hr : ex.length + 38 ≤ zm_C ∧ sl + (cap + cap / 2) ≤ zm_S) (hi : ex[i]? = some (.inl (5, cap, .inr (.inr (.inr (.inr fn)))))) (h10 : 10 ≤ cap) (hc6 : cap ≤ 60000) (hx : x = 3 ∨ x = 8 ∨ x = 9) (hel : ∀ j, j < cap → ∀ y, fn j = some y → ∃ y' fs, y = y' + 37 ∧ ex[y']? = some (.inr (x, fs))) : zm_J N d 114 0 [(0, .ref 8), (1, .int (nI (cap + 1)))] [] (zk_H R ex sl s r el f g df) (fun z G' => z = .inl (some (.ref (ex.length + 37))) ∧ G' = zk_H R (zk_ap ex (.inl (5, cap + cap / 2, .inr (.inr (.inr (.inr (va_cpy fn (fun _ => none) 0 0 cap))))))) (sl + (cap + cap / 2)) s r (zu el 0 (ex.length + 37)) f g df) := by
  obtain ⟨d, rfl⟩ : ∃ e, d = e + 3 := ⟨d - 3, by omega⟩
  have hr0 : zr_r ex sl := ⟨by omega, by omega⟩
  have hsh : nI cap >>> ((1 : Int32) &&& 31) = nI (cap / 2) := by
    have k := pk_shrN (n := cap) (by omega) ((1 : Int32) &&& 31) 1 (by decide)
    rw [Nat.pow_one] at k
    exact k
  have hsb : nI (cap + 1) - nI cap = nI 1 := by rw [pk_sub (by omega), Nat.add_sub_cancel_left]
  refine zm_J_run zm_T 2 (pc' := 4) (lv' := [(0, .ref 8), (1, .int (nI (cap + 1)))]) (st' := [.ref (el 0)]) (G' := (zk_H R ex sl s r el f g df)) rfl ?_
  rw [he]
  show zm_J N _ 114 4 [(0, .ref 8), (1, .int (nI (cap + 1)))] [.ref (i + 37)] (zk_H R ex sl s r el f g df) _
  refine zg_alen (t := 5) (n := cap) rfl (zk_at hi) ?_
  refine zm_J_run zm_T 3 (pc' := if (0 : Int32) < (nI cap) then 20 else 10) (lv' := [(2, .int (nI cap)), (0, .ref 8), (1, .int (nI (cap + 1)))]) (st' := []) (G' := (zk_H R ex sl s r el f g df)) rfl ?_
  rw [if_pos (show (0 : Int32) < (nI cap) from nI_lt (show 0 < cap by omega) (by omega))]
  refine zm_J_run zm_T 7 (pc' := 27) (lv' := [(2, .int (nI cap)), (0, .ref 8), (1, .int (nI (cap + 1)))]) (st' := [.int ((nI cap) >>> (1 &&& 31)), .int ((nI (cap + 1)) - (nI cap)), .int (nI cap)]) (G' := (zk_H R ex sl s r el f g df)) rfl ?_
  rw [hsb]
  show zm_J N _ 114 27 [(2, .int (nI cap)), (0, .ref 8), (1, .int (nI (cap + 1)))] [.int ((nI cap) >>> (1 &&& 31)), .int (nI 1), .int (nI cap)] (zk_H R ex sl s r el f g df) _
  rw [hsh]
  show zm_J N _ 114 27 [(2, .int (nI cap)), (0, .ref 8), (1, .int (nI (cap + 1)))] [.int (nI (cap / 2)), .int (nI 1), .int (nI cap)] (zk_H R ex sl s r el f g df) _
  refine zg_S (av := [.int (nI cap), .int (nI 1), .int (nI (cap / 2))]) (rest := []) (v := some (.int (nI (cap + cap / 2)))) (G2 := (zk_H R ex sl s r el f g df)) (zm_T.1 114 27 _ rfl).1 zc_114_27 (Nat.le_of_ble_eq_true rfl) (Nat.le_of_ble_eq_true rfl) (zk_c hr0) (zk_s hr0) (zk_nl (by omega) h10 hc6 (zk_c hr0) (zk_s hr0)) ?_
  show zm_J N _ 114 30 [(2, .int (nI cap)), (0, .ref 8), (1, .int (nI (cap + 1)))] [.int (nI (cap + cap / 2))] (zk_H R ex sl s r el f g df) _
  refine zm_J_run zm_T 4 (pc' := 36) (lv' := [(3, .int (nI (cap + cap / 2))), (2, .int (nI cap)), (0, .ref 8), (1, .int (nI (cap + 1)))]) (st' := [.ref (el 0), .ref 8]) (G' := (zk_H R ex sl s r el f g df)) rfl ?_
  rw [he]
  show zm_J N _ 114 36 [(3, .int (nI (cap + cap / 2))), (2, .int (nI cap)), (0, .ref 8), (1, .int (nI (cap + 1)))] [.ref (i + 37), .ref 8] (zk_H R ex sl s r el f g df) _
  refine zm_J_run zm_T 1 (pc' := 37) (lv' := [(3, .int (nI (cap + cap / 2))), (2, .int (nI cap)), (0, .ref 8), (1, .int (nI (cap + 1)))]) (st' := [.int (nI (cap + cap / 2)), .ref (i + 37), .ref 8]) (G' := (zk_H R ex sl s r el f g df)) rfl ?_
  refine zg_S (av := [.ref (i + 37), .int (nI (cap + cap / 2))]) (rest := [.ref 8]) (v := some (.ref (ex.length + 37))) (G2 := (zk_H R (zk_ap ex (.inl (5, cap + cap / 2, .inr (.inr (.inr (.inr (va_cpy fn (fun _ => none) 0 0 cap))))))) (sl + (cap + cap / 2)) s r el f g df)) (zm_T.1 114 37 _ rfl).1 zc_114_37 (Nat.le_of_ble_eq_true rfl) (Nat.le_of_ble_eq_true rfl) (zk_c hr0) (zk_s hr0) (zm_copy2 (zk_at hi) (Nat.le_add_left 2 _) (zk_c hr0) (zk_s hr0) (zk_cp3 (by omega) hr hi (by omega) (by omega) hx hel) (fun z G' h => ⟨_, h.1, h⟩)) ?_
  show zm_J N _ 114 40 [(3, .int (nI (cap + cap / 2))), (2, .int (nI cap)), (0, .ref 8), (1, .int (nI (cap + 1)))] [.ref (ex.length + 37), .ref 8] (zk_H R (zk_ap ex (.inl (5, cap + cap / 2, .inr (.inr (.inr (.inr (va_cpy fn (fun _ => none) 0 0 cap))))))) (sl + (cap + cap / 2)) s r el f g df) _
  refine zm_J_run zm_T 2 (pc' := 44) (lv' := [(3, .int (nI (cap + cap / 2))), (2, .int (nI cap)), (0, .ref 8), (1, .int (nI (cap + 1)))]) (st' := [.ref (ex.length + 37)]) (G' := (zk_H R (zk_ap ex (.inl (5, cap + cap / 2, .inr (.inr (.inr (.inr (va_cpy fn (fun _ => none) 0 0 cap))))))) (sl + (cap + cap / 2)) s r (zu el 0 (ex.length + 37)) f g df)) rfl ?_
  exact zm_J_fin zm_T rfl rfl ⟨rfl, rfl⟩
theorem zk_gf1 (hd : 1 ≤ d) (hR1 : R 1 = zk_em) (he : el 1 = 1) (hr : ex.length + 38 ≤ zm_C ∧ sl + 10 ≤ zm_S) : zm_J N d 114 0 [(0, .ref 9), (1, .int (nI 1))] [] (zk_H R ex sl s r el f g df) (fun z G' => z = .inl (some (.ref (ex.length + 37))) ∧ G' = zk_H R (zk_ap ex (.inl (5, 10, .inr (.inr (.inr (.inr fun _ => none)))))) (sl + 10) s r (zu el 1 (ex.length + 37)) f g df) := by
  obtain ⟨d, rfl⟩ : ∃ e, d = e + 1 := ⟨d - 1, by omega⟩
  have hr0 : zr_r ex sl := ⟨by omega, by omega⟩
  have hz : (zk_H R ex sl s r el f g df).1[1]? = some (.inl (5, 0, .inr (.inr (.inr (.inr fun _ => none))))) := congrArg some hR1
  refine zm_J_run zm_T 2 (pc' := 4) (lv' := [(0, .ref 9), (1, .int (nI 1))]) (st' := [.ref (el 1)]) (G' := (zk_H R ex sl s r el f g df)) rfl ?_
  rw [he]
  show zm_J N _ 114 4 [(0, .ref 9), (1, .int (nI 1))] [.ref 1] (zk_H R ex sl s r el f g df) _
  refine zg_alen (t := 5) (n := 0) rfl hz ?_
  refine zm_J_run zm_T 3 (pc' := if (0 : Int32) < (nI 0) then 20 else 10) (lv' := [(2, .int (nI 0)), (0, .ref 9), (1, .int (nI 1))]) (st' := []) (G' := (zk_H R ex sl s r el f g df)) rfl ?_
  rw [if_neg (show ¬ ((0 : Int32) < (nI 0)) from by decide)]
  refine zm_J_run zm_T 2 (pc' := 14) (lv' := [(2, .int (nI 0)), (0, .ref 9), (1, .int (nI 1))]) (st' := [.ref (el 1)]) (G' := (zk_H R ex sl s r el f g df)) rfl ?_
  rw [he]
  show zm_J N _ 114 14 [(2, .int (nI 0)), (0, .ref 9), (1, .int (nI 1))] [.ref 1] (zk_H R ex sl s r el f g df) _
  refine zm_J_run zm_T 2 (pc' := 45) (lv' := [(2, .int (nI 0)), (0, .ref 9), (1, .int (nI 1))]) (st' := []) (G' := (zk_H R ex sl s r el f g df)) rfl ?_
  refine zm_J_run zm_T 3 (pc' := 49) (lv' := [(2, .int (nI 0)), (0, .ref 9), (1, .int (nI 1))]) (st' := [.int (nI 1), .int 10, .ref 9]) (G' := (zk_H R ex sl s r el f g df)) rfl ?_
  refine zm_J_mx (zm_T.1 114 49 _ rfl).1 zj_m114_49 (Nat.le_of_ble_eq_true rfl) (zk_c hr0) (zk_s hr0) ?_
  rw [show (if 10 < (nI 1) then (nI 1) else 10) = nI 10 from if_neg (by decide)]
  show zm_J N _ 114 52 [(2, .int (nI 0)), (0, .ref 9), (1, .int (nI 1))] [.int (nI 10), .ref 9] (zk_H R ex sl s r el f g df) _
  refine zg_newa (m := 10) rfl rfl ⟨rfl, by decide⟩ hr (G' := (zk_H R (zk_ap ex (.inl (5, 10, .inr (.inr (.inr (.inr fun _ => none)))))) (sl + 10) s r el f g df)) rfl ?_
  refine zm_J_run zm_T 2 (pc' := 59) (lv' := [(2, .int (nI 0)), (0, .ref 9), (1, .int (nI 1))]) (st' := [.ref (ex.length + 37)]) (G' := (zk_H R (zk_ap ex (.inl (5, 10, .inr (.inr (.inr (.inr fun _ => none)))))) (sl + 10) s r (zu el 1 (ex.length + 37)) f g df)) rfl ?_
  exact zm_J_fin zm_T rfl rfl ⟨rfl, rfl⟩
theorem zk_gg1 (hd : 3 ≤ d) {i cap x : Nat} {fn : Nat → Option Nat} (he : el 1 = i + 37) (hr : ex.length + 38 ≤ zm_C ∧ sl + (cap + cap / 2) ≤ zm_S) (hi : ex[i]? = some (.inl (5, cap, .inr (.inr (.inr (.inr fn)))))) (h10 : 10 ≤ cap) (hc6 : cap ≤ 60000) (hx : x = 3 ∨ x = 8 ∨ x = 9) (hel : ∀ j, j < cap → ∀ y, fn j = some y → ∃ y' fs, y = y' + 37 ∧ ex[y']? = some (.inr (x, fs))) : zm_J N d 114 0 [(0, .ref 9), (1, .int (nI (cap + 1)))] [] (zk_H R ex sl s r el f g df) (fun z G' => z = .inl (some (.ref (ex.length + 37))) ∧ G' = zk_H R (zk_ap ex (.inl (5, cap + cap / 2, .inr (.inr (.inr (.inr (va_cpy fn (fun _ => none) 0 0 cap))))))) (sl + (cap + cap / 2)) s r (zu el 1 (ex.length + 37)) f g df) := by
  obtain ⟨d, rfl⟩ : ∃ e, d = e + 3 := ⟨d - 3, by omega⟩
  have hr0 : zr_r ex sl := ⟨by omega, by omega⟩
  have hsh : nI cap >>> ((1 : Int32) &&& 31) = nI (cap / 2) := by
    have k := pk_shrN (n := cap) (by omega) ((1 : Int32) &&& 31) 1 (by decide)
    rw [Nat.pow_one] at k
    exact k
  have hsb : nI (cap + 1) - nI cap = nI 1 := by rw [pk_sub (by omega), Nat.add_sub_cancel_left]
  refine zm_J_run zm_T 2 (pc' := 4) (lv' := [(0, .ref 9), (1, .int (nI (cap + 1)))]) (st' := [.ref (el 1)]) (G' := (zk_H R ex sl s r el f g df)) rfl ?_
  rw [he]
  show zm_J N _ 114 4 [(0, .ref 9), (1, .int (nI (cap + 1)))] [.ref (i + 37)] (zk_H R ex sl s r el f g df) _
  refine zg_alen (t := 5) (n := cap) rfl (zk_at hi) ?_
  refine zm_J_run zm_T 3 (pc' := if (0 : Int32) < (nI cap) then 20 else 10) (lv' := [(2, .int (nI cap)), (0, .ref 9), (1, .int (nI (cap + 1)))]) (st' := []) (G' := (zk_H R ex sl s r el f g df)) rfl ?_
  rw [if_pos (show (0 : Int32) < (nI cap) from nI_lt (show 0 < cap by omega) (by omega))]
  refine zm_J_run zm_T 7 (pc' := 27) (lv' := [(2, .int (nI cap)), (0, .ref 9), (1, .int (nI (cap + 1)))]) (st' := [.int ((nI cap) >>> (1 &&& 31)), .int ((nI (cap + 1)) - (nI cap)), .int (nI cap)]) (G' := (zk_H R ex sl s r el f g df)) rfl ?_
  rw [hsb]
  show zm_J N _ 114 27 [(2, .int (nI cap)), (0, .ref 9), (1, .int (nI (cap + 1)))] [.int ((nI cap) >>> (1 &&& 31)), .int (nI 1), .int (nI cap)] (zk_H R ex sl s r el f g df) _
  rw [hsh]
  show zm_J N _ 114 27 [(2, .int (nI cap)), (0, .ref 9), (1, .int (nI (cap + 1)))] [.int (nI (cap / 2)), .int (nI 1), .int (nI cap)] (zk_H R ex sl s r el f g df) _
  refine zg_S (av := [.int (nI cap), .int (nI 1), .int (nI (cap / 2))]) (rest := []) (v := some (.int (nI (cap + cap / 2)))) (G2 := (zk_H R ex sl s r el f g df)) (zm_T.1 114 27 _ rfl).1 zc_114_27 (Nat.le_of_ble_eq_true rfl) (Nat.le_of_ble_eq_true rfl) (zk_c hr0) (zk_s hr0) (zk_nl (by omega) h10 hc6 (zk_c hr0) (zk_s hr0)) ?_
  show zm_J N _ 114 30 [(2, .int (nI cap)), (0, .ref 9), (1, .int (nI (cap + 1)))] [.int (nI (cap + cap / 2))] (zk_H R ex sl s r el f g df) _
  refine zm_J_run zm_T 4 (pc' := 36) (lv' := [(3, .int (nI (cap + cap / 2))), (2, .int (nI cap)), (0, .ref 9), (1, .int (nI (cap + 1)))]) (st' := [.ref (el 1), .ref 9]) (G' := (zk_H R ex sl s r el f g df)) rfl ?_
  rw [he]
  show zm_J N _ 114 36 [(3, .int (nI (cap + cap / 2))), (2, .int (nI cap)), (0, .ref 9), (1, .int (nI (cap + 1)))] [.ref (i + 37), .ref 9] (zk_H R ex sl s r el f g df) _
  refine zm_J_run zm_T 1 (pc' := 37) (lv' := [(3, .int (nI (cap + cap / 2))), (2, .int (nI cap)), (0, .ref 9), (1, .int (nI (cap + 1)))]) (st' := [.int (nI (cap + cap / 2)), .ref (i + 37), .ref 9]) (G' := (zk_H R ex sl s r el f g df)) rfl ?_
  refine zg_S (av := [.ref (i + 37), .int (nI (cap + cap / 2))]) (rest := [.ref 9]) (v := some (.ref (ex.length + 37))) (G2 := (zk_H R (zk_ap ex (.inl (5, cap + cap / 2, .inr (.inr (.inr (.inr (va_cpy fn (fun _ => none) 0 0 cap))))))) (sl + (cap + cap / 2)) s r el f g df)) (zm_T.1 114 37 _ rfl).1 zc_114_37 (Nat.le_of_ble_eq_true rfl) (Nat.le_of_ble_eq_true rfl) (zk_c hr0) (zk_s hr0) (zm_copy2 (zk_at hi) (Nat.le_add_left 2 _) (zk_c hr0) (zk_s hr0) (zk_cp3 (by omega) hr hi (by omega) (by omega) hx hel) (fun z G' h => ⟨_, h.1, h⟩)) ?_
  show zm_J N _ 114 40 [(3, .int (nI (cap + cap / 2))), (2, .int (nI cap)), (0, .ref 9), (1, .int (nI (cap + 1)))] [.ref (ex.length + 37), .ref 9] (zk_H R (zk_ap ex (.inl (5, cap + cap / 2, .inr (.inr (.inr (.inr (va_cpy fn (fun _ => none) 0 0 cap))))))) (sl + (cap + cap / 2)) s r el f g df) _
  refine zm_J_run zm_T 2 (pc' := 44) (lv' := [(3, .int (nI (cap + cap / 2))), (2, .int (nI cap)), (0, .ref 9), (1, .int (nI (cap + 1)))]) (st' := [.ref (ex.length + 37)]) (G' := (zk_H R (zk_ap ex (.inl (5, cap + cap / 2, .inr (.inr (.inr (.inr (va_cpy fn (fun _ => none) 0 0 cap))))))) (sl + (cap + cap / 2)) s r (zu el 1 (ex.length + 37)) f g df)) rfl ?_
  exact zm_J_fin zm_T rfl rfl ⟨rfl, rfl⟩
theorem zk_gf2 (hd : 1 ≤ d) (hR1 : R 1 = zk_em) (he : el 2 = 1) (hr : ex.length + 38 ≤ zm_C ∧ sl + 10 ≤ zm_S) : zm_J N d 114 0 [(0, .ref 10), (1, .int (nI 1))] [] (zk_H R ex sl s r el f g df) (fun z G' => z = .inl (some (.ref (ex.length + 37))) ∧ G' = zk_H R (zk_ap ex (.inl (5, 10, .inr (.inr (.inr (.inr fun _ => none)))))) (sl + 10) s r (zu el 2 (ex.length + 37)) f g df) := by
  obtain ⟨d, rfl⟩ : ∃ e, d = e + 1 := ⟨d - 1, by omega⟩
  have hr0 : zr_r ex sl := ⟨by omega, by omega⟩
  have hz : (zk_H R ex sl s r el f g df).1[1]? = some (.inl (5, 0, .inr (.inr (.inr (.inr fun _ => none))))) := congrArg some hR1
  refine zm_J_run zm_T 2 (pc' := 4) (lv' := [(0, .ref 10), (1, .int (nI 1))]) (st' := [.ref (el 2)]) (G' := (zk_H R ex sl s r el f g df)) rfl ?_
  rw [he]
  show zm_J N _ 114 4 [(0, .ref 10), (1, .int (nI 1))] [.ref 1] (zk_H R ex sl s r el f g df) _
  refine zg_alen (t := 5) (n := 0) rfl hz ?_
  refine zm_J_run zm_T 3 (pc' := if (0 : Int32) < (nI 0) then 20 else 10) (lv' := [(2, .int (nI 0)), (0, .ref 10), (1, .int (nI 1))]) (st' := []) (G' := (zk_H R ex sl s r el f g df)) rfl ?_
  rw [if_neg (show ¬ ((0 : Int32) < (nI 0)) from by decide)]
  refine zm_J_run zm_T 2 (pc' := 14) (lv' := [(2, .int (nI 0)), (0, .ref 10), (1, .int (nI 1))]) (st' := [.ref (el 2)]) (G' := (zk_H R ex sl s r el f g df)) rfl ?_
  rw [he]
  show zm_J N _ 114 14 [(2, .int (nI 0)), (0, .ref 10), (1, .int (nI 1))] [.ref 1] (zk_H R ex sl s r el f g df) _
  refine zm_J_run zm_T 2 (pc' := 45) (lv' := [(2, .int (nI 0)), (0, .ref 10), (1, .int (nI 1))]) (st' := []) (G' := (zk_H R ex sl s r el f g df)) rfl ?_
  refine zm_J_run zm_T 3 (pc' := 49) (lv' := [(2, .int (nI 0)), (0, .ref 10), (1, .int (nI 1))]) (st' := [.int (nI 1), .int 10, .ref 10]) (G' := (zk_H R ex sl s r el f g df)) rfl ?_
  refine zm_J_mx (zm_T.1 114 49 _ rfl).1 zj_m114_49 (Nat.le_of_ble_eq_true rfl) (zk_c hr0) (zk_s hr0) ?_
  rw [show (if 10 < (nI 1) then (nI 1) else 10) = nI 10 from if_neg (by decide)]
  show zm_J N _ 114 52 [(2, .int (nI 0)), (0, .ref 10), (1, .int (nI 1))] [.int (nI 10), .ref 10] (zk_H R ex sl s r el f g df) _
  refine zg_newa (m := 10) rfl rfl ⟨rfl, by decide⟩ hr (G' := (zk_H R (zk_ap ex (.inl (5, 10, .inr (.inr (.inr (.inr fun _ => none)))))) (sl + 10) s r el f g df)) rfl ?_
  refine zm_J_run zm_T 2 (pc' := 59) (lv' := [(2, .int (nI 0)), (0, .ref 10), (1, .int (nI 1))]) (st' := [.ref (ex.length + 37)]) (G' := (zk_H R (zk_ap ex (.inl (5, 10, .inr (.inr (.inr (.inr fun _ => none)))))) (sl + 10) s r (zu el 2 (ex.length + 37)) f g df)) rfl ?_
  exact zm_J_fin zm_T rfl rfl ⟨rfl, rfl⟩
theorem zk_gg2 (hd : 3 ≤ d) {i cap x : Nat} {fn : Nat → Option Nat} (he : el 2 = i + 37) (hr : ex.length + 38 ≤ zm_C ∧ sl + (cap + cap / 2) ≤ zm_S) (hi : ex[i]? = some (.inl (5, cap, .inr (.inr (.inr (.inr fn)))))) (h10 : 10 ≤ cap) (hc6 : cap ≤ 60000) (hx : x = 3 ∨ x = 8 ∨ x = 9) (hel : ∀ j, j < cap → ∀ y, fn j = some y → ∃ y' fs, y = y' + 37 ∧ ex[y']? = some (.inr (x, fs))) : zm_J N d 114 0 [(0, .ref 10), (1, .int (nI (cap + 1)))] [] (zk_H R ex sl s r el f g df) (fun z G' => z = .inl (some (.ref (ex.length + 37))) ∧ G' = zk_H R (zk_ap ex (.inl (5, cap + cap / 2, .inr (.inr (.inr (.inr (va_cpy fn (fun _ => none) 0 0 cap))))))) (sl + (cap + cap / 2)) s r (zu el 2 (ex.length + 37)) f g df) := by
  obtain ⟨d, rfl⟩ : ∃ e, d = e + 3 := ⟨d - 3, by omega⟩
  have hr0 : zr_r ex sl := ⟨by omega, by omega⟩
  have hsh : nI cap >>> ((1 : Int32) &&& 31) = nI (cap / 2) := by
    have k := pk_shrN (n := cap) (by omega) ((1 : Int32) &&& 31) 1 (by decide)
    rw [Nat.pow_one] at k
    exact k
  have hsb : nI (cap + 1) - nI cap = nI 1 := by rw [pk_sub (by omega), Nat.add_sub_cancel_left]
  refine zm_J_run zm_T 2 (pc' := 4) (lv' := [(0, .ref 10), (1, .int (nI (cap + 1)))]) (st' := [.ref (el 2)]) (G' := (zk_H R ex sl s r el f g df)) rfl ?_
  rw [he]
  show zm_J N _ 114 4 [(0, .ref 10), (1, .int (nI (cap + 1)))] [.ref (i + 37)] (zk_H R ex sl s r el f g df) _
  refine zg_alen (t := 5) (n := cap) rfl (zk_at hi) ?_
  refine zm_J_run zm_T 3 (pc' := if (0 : Int32) < (nI cap) then 20 else 10) (lv' := [(2, .int (nI cap)), (0, .ref 10), (1, .int (nI (cap + 1)))]) (st' := []) (G' := (zk_H R ex sl s r el f g df)) rfl ?_
  rw [if_pos (show (0 : Int32) < (nI cap) from nI_lt (show 0 < cap by omega) (by omega))]
  refine zm_J_run zm_T 7 (pc' := 27) (lv' := [(2, .int (nI cap)), (0, .ref 10), (1, .int (nI (cap + 1)))]) (st' := [.int ((nI cap) >>> (1 &&& 31)), .int ((nI (cap + 1)) - (nI cap)), .int (nI cap)]) (G' := (zk_H R ex sl s r el f g df)) rfl ?_
  rw [hsb]
  show zm_J N _ 114 27 [(2, .int (nI cap)), (0, .ref 10), (1, .int (nI (cap + 1)))] [.int ((nI cap) >>> (1 &&& 31)), .int (nI 1), .int (nI cap)] (zk_H R ex sl s r el f g df) _
  rw [hsh]
  show zm_J N _ 114 27 [(2, .int (nI cap)), (0, .ref 10), (1, .int (nI (cap + 1)))] [.int (nI (cap / 2)), .int (nI 1), .int (nI cap)] (zk_H R ex sl s r el f g df) _
  refine zg_S (av := [.int (nI cap), .int (nI 1), .int (nI (cap / 2))]) (rest := []) (v := some (.int (nI (cap + cap / 2)))) (G2 := (zk_H R ex sl s r el f g df)) (zm_T.1 114 27 _ rfl).1 zc_114_27 (Nat.le_of_ble_eq_true rfl) (Nat.le_of_ble_eq_true rfl) (zk_c hr0) (zk_s hr0) (zk_nl (by omega) h10 hc6 (zk_c hr0) (zk_s hr0)) ?_
  show zm_J N _ 114 30 [(2, .int (nI cap)), (0, .ref 10), (1, .int (nI (cap + 1)))] [.int (nI (cap + cap / 2))] (zk_H R ex sl s r el f g df) _
  refine zm_J_run zm_T 4 (pc' := 36) (lv' := [(3, .int (nI (cap + cap / 2))), (2, .int (nI cap)), (0, .ref 10), (1, .int (nI (cap + 1)))]) (st' := [.ref (el 2), .ref 10]) (G' := (zk_H R ex sl s r el f g df)) rfl ?_
  rw [he]
  show zm_J N _ 114 36 [(3, .int (nI (cap + cap / 2))), (2, .int (nI cap)), (0, .ref 10), (1, .int (nI (cap + 1)))] [.ref (i + 37), .ref 10] (zk_H R ex sl s r el f g df) _
  refine zm_J_run zm_T 1 (pc' := 37) (lv' := [(3, .int (nI (cap + cap / 2))), (2, .int (nI cap)), (0, .ref 10), (1, .int (nI (cap + 1)))]) (st' := [.int (nI (cap + cap / 2)), .ref (i + 37), .ref 10]) (G' := (zk_H R ex sl s r el f g df)) rfl ?_
  refine zg_S (av := [.ref (i + 37), .int (nI (cap + cap / 2))]) (rest := [.ref 10]) (v := some (.ref (ex.length + 37))) (G2 := (zk_H R (zk_ap ex (.inl (5, cap + cap / 2, .inr (.inr (.inr (.inr (va_cpy fn (fun _ => none) 0 0 cap))))))) (sl + (cap + cap / 2)) s r el f g df)) (zm_T.1 114 37 _ rfl).1 zc_114_37 (Nat.le_of_ble_eq_true rfl) (Nat.le_of_ble_eq_true rfl) (zk_c hr0) (zk_s hr0) (zm_copy2 (zk_at hi) (Nat.le_add_left 2 _) (zk_c hr0) (zk_s hr0) (zk_cp3 (by omega) hr hi (by omega) (by omega) hx hel) (fun z G' h => ⟨_, h.1, h⟩)) ?_
  show zm_J N _ 114 40 [(3, .int (nI (cap + cap / 2))), (2, .int (nI cap)), (0, .ref 10), (1, .int (nI (cap + 1)))] [.ref (ex.length + 37), .ref 10] (zk_H R (zk_ap ex (.inl (5, cap + cap / 2, .inr (.inr (.inr (.inr (va_cpy fn (fun _ => none) 0 0 cap))))))) (sl + (cap + cap / 2)) s r el f g df) _
  refine zm_J_run zm_T 2 (pc' := 44) (lv' := [(3, .int (nI (cap + cap / 2))), (2, .int (nI cap)), (0, .ref 10), (1, .int (nI (cap + 1)))]) (st' := [.ref (ex.length + 37)]) (G' := (zk_H R (zk_ap ex (.inl (5, cap + cap / 2, .inr (.inr (.inr (.inr (va_cpy fn (fun _ => none) 0 0 cap))))))) (sl + (cap + cap / 2)) s r (zu el 2 (ex.length + 37)) f g df)) rfl ?_
  exact zm_J_fin zm_T rfl rfl ⟨rfl, rfl⟩
/-- what a list's growth leaves, and what it costs -/
def zk_gr (ex ex' : List zm_E) (e e' cap cap' sl sl' : Nat) : Prop := (∀ (i : Nat) (q : Nat × List Value), ex[i]? = some (Sum.inr q : zm_E) → ex'[i]? = some (Sum.inr q : zm_E)) ∧ (∀ (i : Nat) (a : zm_E), a.isLeft = true → ex[i]? = some a → e ≠ i + 37 → ex'[i]? = some a) ∧ (e' = e ∨ e' = ex.length + 37) ∧ ex.length ≤ ex'.length ∧ ex'.length + cap ≤ ex.length + cap' ∧ sl' + 4 * cap ≤ sl + 4 * cap' ∧ cap' ≤ 60000
theorem zk_al_put {x : Nat} {ex : List zm_E} {i cap y : Nat} {fn : Nat → Option Nat} {l : List Nat} (hk : ∀ z ∈ l, ∃ fs, ex[z]? = some (.inr (x, fs))) (hi : ex[i]? = some (.inl (5, cap, .inr (.inr (.inr (.inr fn)))))) (hl : l.length < cap) (h10 : 10 ≤ cap) (h6 : cap ≤ 60000) (hf : ∀ m z, l[m]? = some z → fn m = some (z + 37)) {fs : List Value} (hy : ex[y]? = some (.inr (x, fs))) : zk_al x (ex.set i (Sum.inl (5, cap, .inr (.inr (.inr (.inr (va_up fn l.length (some (y + 37))))))) : zm_E)) (i + 37) (l ++ [y]) cap := by
  have hne : ∀ (z : Nat) (q : Nat × List Value), ex[z]? = some (Sum.inr q : zm_E) → (ex.set i (Sum.inl (5, cap, .inr (.inr (.inr (.inr (va_up fn l.length (some (y + 37))))))) : zm_E))[z]? = some (Sum.inr q : zm_E) := fun z q hz => by
    rw [List.getElem?_set_ne (fun e => by subst e; rw [hi] at hz; cases hz)]
    exact hz
  refine ⟨fun z hz => ?_, Or.inr ⟨i, _, rfl, List.getElem?_set_self (List.getElem?_eq_some_iff.mp hi).1, by rw [List.length_append, List.length_singleton]; omega, h10, h6, fun m z hm => ?_⟩⟩
  · rcases List.mem_append.mp hz with h | h
    · obtain ⟨fs', h1⟩ := hk z h
      exact ⟨fs', hne z _ h1⟩
    · rw [List.mem_singleton] at h
      subst h
      exact ⟨fs, hne z _ hy⟩
  · by_cases hml : m < l.length
    · rw [List.getElem?_append_left hml] at hm
      show (if m = l.length then _ else fn m) = _
      rw [if_neg (by omega)]
      exact hf m z hm
    · have h2 := (List.getElem?_eq_some_iff.mp hm).1
      rw [List.length_append, List.length_singleton] at h2
      have h3 : m = l.length := by omega
      subst h3
      rw [List.getElem?_append_right (Nat.le_refl _), Nat.sub_self] at hm
      cases Option.some.inj hm
      exact if_pos rfl
theorem zk_a3p0 {i cap x y n : Nat} {fn : Nat → Option Nat} (hi : ex[i]? = some (.inl (5, cap, .inr (.inr (.inr (.inr fn)))))) (hn : n < cap) (h6 : cap ≤ 60000) {fs : List Value} (hy : ex[y]? = some (.inr (x, fs))) (hx : x = 3 ∨ x = 8 ∨ x = 9) (k : Q (.inl none) (zk_H R (ex.set i (.inl (5, cap, .inr (.inr (.inr (.inr (va_up fn n (some (y + 37)))))))) ) sl (zu s 14 (nI (n + 1))) r el f g df)) : zm_J N d 112 11 [(2, .ref (i + 37)), (0, .ref 8), (1, .ref (y + 37)), (3, .int (nI n))] [] (zk_H R ex sl s r el f g df) Q := by
  refine zm_J_run zm_T 3 (pc' := 14) (lv' := [(2, .ref (i + 37)), (0, .ref 8), (1, .ref (y + 37)), (3, .int (nI n))]) (st' := [.ref (y + 37), .int (nI n), .ref (i + 37)]) (G' := (zk_H R ex sl s r el f g df)) rfl ?_
  refine zg_aast (t := 5) (n := cap) (f := fn) (m := n) (G' := (zk_H R (ex.set i (.inl (5, cap, .inr (.inr (.inr (.inr (va_up fn n (some (y + 37)))))))) ) sl s r el f g df)) rfl (zk_at hi) rfl (zk_sto hy hx) (Nat.le_add_left 2 _) rfl hn (by omega) rfl ?_
  refine zm_J_run zm_T 4 (pc' := 19) (lv' := [(2, .ref (i + 37)), (0, .ref 8), (1, .ref (y + 37)), (3, .int (nI n))]) (st' := [.int ((nI n) + 1), .ref 8]) (G' := (zk_H R (ex.set i (.inl (5, cap, .inr (.inr (.inr (.inr (va_up fn n (some (y + 37)))))))) ) sl s r el f g df)) rfl ?_
  rw [show nI n + 1 = nI (n + 1) from nI_1 n]
  show zm_J N _ 112 19 [(2, .ref (i + 37)), (0, .ref 8), (1, .ref (y + 37)), (3, .int (nI n))] [.int (nI (n + 1)), .ref 8] (zk_H R (ex.set i (.inl (5, cap, .inr (.inr (.inr (.inr (va_up fn n (some (y + 37)))))))) ) sl s r el f g df) _
  refine zm_J_run zm_T 1 (pc' := 22) (lv' := [(2, .ref (i + 37)), (0, .ref 8), (1, .ref (y + 37)), (3, .int (nI n))]) (st' := []) (G' := (zk_H R (ex.set i (.inl (5, cap, .inr (.inr (.inr (.inr (va_up fn n (some (y + 37)))))))) ) sl (zu s 14 (nI (n + 1))) r el f g df)) rfl ?_
  exact zm_J_fin zm_T rfl rfl k
theorem zk_g0f0 (hd : 2 ≤ d) (hR1 : R 1 = zk_em) (he : el 0 = 1) (hr : ex.length + 38 ≤ zm_C ∧ sl + 10 ≤ zm_S) (hs : s 14 = nI 0) : zm_J N d 113 0 [(0, .ref 8)] [] (zk_H R ex sl s r el f g df) (fun z G' => z = .inl (some (.ref (ex.length + 37))) ∧ G' = (zk_H R (zk_ap ex (.inl (5, 10, .inr (.inr (.inr (.inr fun _ => none)))))) (sl + 10) s r (zu el 0 (ex.length + 37)) f g df)) := by
  obtain ⟨d, rfl⟩ : ∃ e, d = e + 2 := ⟨d - 2, by omega⟩
  have hr0 : zr_r ex sl := ⟨by omega, by omega⟩
  refine zm_J_run zm_T 5 (pc' := 7) (lv' := [(0, .ref 8)]) (st' := [.int ((s 14) + 1), .ref 8]) (G' := (zk_H R ex sl s r el f g df)) rfl ?_
  rw [show s 14 + 1 = nI 1 from by rw [hs]; exact nI_1 _]
  show zm_J N _ 113 7 [(0, .ref 8)] [.int (nI 1), .ref 8] (zk_H R ex sl s r el f g df) _
  refine zg_V (a := 8) (av := [.int (nI 1)]) (rest := []) (v := some (.ref (ex.length + 37))) (G2 := (zk_H R (zk_ap ex (.inl (5, 10, .inr (.inr (.inr (.inr fun _ => none)))))) (sl + 10) s r (zu el 0 (ex.length + 37)) f g df)) (zm_T.1 113 7 _ rfl).1 zc_113_7 rfl (Nat.le_of_ble_eq_true rfl) (Nat.le_of_ble_eq_true rfl) (zk_c hr0) (zk_s hr0) (zk_gf0 (by omega) hR1 he hr) ?_
  show zm_J N _ 113 10 [(0, .ref 8)] [.ref (ex.length + 37)] (zk_H R (zk_ap ex (.inl (5, 10, .inr (.inr (.inr (.inr fun _ => none)))))) (sl + 10) s r (zu el 0 (ex.length + 37)) f g df) _
  exact zm_J_fin zm_T rfl rfl ⟨rfl, rfl⟩
theorem zk_g0g0 (hd : 4 ≤ d) {i cap x : Nat} {fn : Nat → Option Nat} (he : el 0 = i + 37) (hr : ex.length + 38 ≤ zm_C ∧ sl + (cap + cap / 2) ≤ zm_S) (hi : ex[i]? = some (.inl (5, cap, .inr (.inr (.inr (.inr fn)))))) (h10 : 10 ≤ cap) (hc6 : cap ≤ 60000) (hx : x = 3 ∨ x = 8 ∨ x = 9) (hel : ∀ j, j < cap → ∀ y, fn j = some y → ∃ y' fs, y = y' + 37 ∧ ex[y']? = some (.inr (x, fs))) (hs : s 14 = nI cap) : zm_J N d 113 0 [(0, .ref 8)] [] (zk_H R ex sl s r el f g df) (fun z G' => z = .inl (some (.ref (ex.length + 37))) ∧ G' = (zk_H R (zk_ap ex (.inl (5, cap + cap / 2, .inr (.inr (.inr (.inr (va_cpy fn (fun _ => none) 0 0 cap))))))) (sl + (cap + cap / 2)) s r (zu el 0 (ex.length + 37)) f g df)) := by
  obtain ⟨d, rfl⟩ : ∃ e, d = e + 4 := ⟨d - 4, by omega⟩
  have hr0 : zr_r ex sl := ⟨by omega, by omega⟩
  refine zm_J_run zm_T 5 (pc' := 7) (lv' := [(0, .ref 8)]) (st' := [.int ((s 14) + 1), .ref 8]) (G' := (zk_H R ex sl s r el f g df)) rfl ?_
  rw [show s 14 + 1 = nI (cap + 1) from by rw [hs]; exact nI_1 _]
  show zm_J N _ 113 7 [(0, .ref 8)] [.int (nI (cap + 1)), .ref 8] (zk_H R ex sl s r el f g df) _
  refine zg_V (a := 8) (av := [.int (nI (cap + 1))]) (rest := []) (v := some (.ref (ex.length + 37))) (G2 := (zk_H R (zk_ap ex (.inl (5, cap + cap / 2, .inr (.inr (.inr (.inr (va_cpy fn (fun _ => none) 0 0 cap))))))) (sl + (cap + cap / 2)) s r (zu el 0 (ex.length + 37)) f g df)) (zm_T.1 113 7 _ rfl).1 zc_113_7 rfl (Nat.le_of_ble_eq_true rfl) (Nat.le_of_ble_eq_true rfl) (zk_c hr0) (zk_s hr0) (zk_gg0 (by omega) he hr hi h10 hc6 hx hel) ?_
  show zm_J N _ 113 10 [(0, .ref 8)] [.ref (ex.length + 37)] (zk_H R (zk_ap ex (.inl (5, cap + cap / 2, .inr (.inr (.inr (.inr (va_cpy fn (fun _ => none) 0 0 cap))))))) (sl + (cap + cap / 2)) s r (zu el 0 (ex.length + 37)) f g df) _
  exact zm_J_fin zm_T rfl rfl ⟨rfl, rfl⟩
theorem zk_a30 (hd : 5 ≤ d) (hR1 : R 1 = zk_em) {l : List Nat} {cap x y : Nat} (hal : zk_al x ex (el 0) l cap) (hs : s 14 = nI l.length) (hl : l.length ≤ 40000) {fs : List Value} (hy : ex[y]? = some (.inr (x, fs))) (hx : x = 3 ∨ x = 8 ∨ x = 9) (hroom : ex.length + 38 ≤ zm_C ∧ sl + 90010 ≤ zm_S)
    (K : ∀ ex' sl' e' cap', zk_al x ex' e' (l ++ [y]) cap' → zk_gr ex ex' (el 0) e' cap cap' sl sl' → Q (.inl none) (zk_H R ex' sl' (zu s 14 (nI (l.length + 1))) r (zu el 0 e') f g df)) : zm_J N d 112 0 [(0, .ref 8), (1, .ref (y + 37)), (2, .ref (el 0)), (3, .int (nI l.length))] [] (zk_H R ex sl s r el f g df) Q := by
  obtain ⟨d, rfl⟩ : ∃ e, d = e + 5 := ⟨d - 5, by omega⟩
  have hr0 : zr_r ex sl := ⟨by omega, by omega⟩
  obtain ⟨hk, ⟨he, rfl, rfl⟩ | ⟨i, fn, he, hi, h1, h10, h6, hf⟩⟩ := hal
  · have hz : (zk_H R ex sl s r el f g df).1[1]? = some (.inl (5, 0, .inr (.inr (.inr (.inr fun _ => none))))) := congrArg some hR1
    rw [he]
    show zm_J N _ 112 0 [(0, .ref 8), (1, .ref (y + 37)), (2, .ref 1), (3, .int (nI 0))] [] (zk_H R ex sl s r el f g df) _
    refine zm_J_run zm_T 2 (pc' := 2) (lv' := [(0, .ref 8), (1, .ref (y + 37)), (2, .ref 1), (3, .int (nI 0))]) (st' := [.ref 1, .int (nI 0)]) (G' := (zk_H R ex sl s r el f g df)) rfl ?_
    refine zg_alen (t := 5) (n := 0) rfl hz ?_
    refine zm_J_run zm_T 1 (pc' := if (nI 0) = (nI 0) then 6 else 11) (lv' := [(0, .ref 8), (1, .ref (y + 37)), (2, .ref 1), (3, .int (nI 0))]) (st' := []) (G' := (zk_H R ex sl s r el f g df)) rfl ?_
    rw [if_pos (show (nI 0) = (nI 0) from rfl)]
    refine zm_J_run zm_T 1 (pc' := 7) (lv' := [(0, .ref 8), (1, .ref (y + 37)), (2, .ref 1), (3, .int (nI 0))]) (st' := [.ref 8]) (G' := (zk_H R ex sl s r el f g df)) rfl ?_
    refine zg_V (a := 8) (av := []) (rest := []) (v := some (.ref (ex.length + 37))) (G2 := (zk_H R (zk_ap ex (.inl (5, 10, .inr (.inr (.inr (.inr fun _ => none)))))) (sl + 10) s r (zu el 0 (ex.length + 37)) f g df)) (zm_T.1 112 7 _ rfl).1 zc_112_7 rfl (Nat.le_of_ble_eq_true rfl) (Nat.le_of_ble_eq_true rfl) (zk_c hr0) (zk_s hr0) (zk_g0f0 (by omega) hR1 he ⟨by omega, by omega⟩ hs) ?_
    show zm_J N _ 112 10 [(0, .ref 8), (1, .ref (y + 37)), (2, .ref 1), (3, .int (nI 0))] [.ref (ex.length + 37)] (zk_H R (zk_ap ex (.inl (5, 10, .inr (.inr (.inr (.inr fun _ => none)))))) (sl + 10) s r (zu el 0 (ex.length + 37)) f g df) _
    refine zm_J_run zm_T 1 (pc' := 11) (lv' := [(2, .ref (ex.length + 37)), (0, .ref 8), (1, .ref (y + 37)), (3, .int (nI 0))]) (st' := []) (G' := (zk_H R (zk_ap ex (.inl (5, 10, .inr (.inr (.inr (.inr fun _ => none)))))) (sl + 10) s r (zu el 0 (ex.length + 37)) f g df)) rfl ?_
    refine zk_a3p0 (zk_ap_new ex _) (by decide) (by decide) (zk_ap_old hy) hx (K _ _ _ 10 (zk_al_put (l := []) (fun z hz => by cases hz) (zk_ap_new ex _) (by decide) (by decide) (by decide) (fun m z hm => by cases hm) (zk_ap_old hy)) ⟨?_, ?_, Or.inr rfl, ?_, ?_, by omega, by decide⟩)
    · intro i q hq
      rw [List.getElem?_set_ne (fun e => by subst e; rw [List.getElem?_eq_none (Nat.le_refl _)] at hq; cases hq)]
      exact zk_ap_old hq
    · intro i q _ hq _
      rw [List.getElem?_set_ne (fun e => by subst e; rw [List.getElem?_eq_none (Nat.le_refl _)] at hq; cases hq)]
      exact zk_ap_old hq
    · rw [List.length_set, zk_ap_len] <;> omega
    · first | (rw [List.length_set, zk_ap_len] <;> omega) | skip
  · rw [he]
    show zm_J N _ 112 0 [(0, .ref 8), (1, .ref (y + 37)), (2, .ref (i + 37)), (3, .int (nI l.length))] [] (zk_H R ex sl s r el f g df) _
    rw [he] at K
    by_cases hfull : l.length = cap
    · have hel : ∀ j, j < cap → ∀ z, fn j = some z → ∃ y' fs, z = y' + 37 ∧ ex[y']? = some (.inr (x, fs)) := fun j hj z hz => by
        have hjl : j < l.length := by omega
        have e1 := hf j l[j] (List.getElem?_eq_getElem hjl)
        rw [hz] at e1
        obtain ⟨fs', h⟩ := hk l[j] (List.getElem_mem hjl)
        exact ⟨l[j], fs', Option.some.inj e1, h⟩
      refine zm_J_run zm_T 2 (pc' := 2) (lv' := [(0, .ref 8), (1, .ref (y + 37)), (2, .ref (i + 37)), (3, .int (nI l.length))]) (st' := [.ref (i + 37), .int (nI l.length)]) (G' := (zk_H R ex sl s r el f g df)) rfl ?_
      refine zg_alen (t := 5) (n := cap) rfl (zk_at hi) ?_
      refine zm_J_run zm_T 1 (pc' := if (nI l.length) = (nI cap) then 6 else 11) (lv' := [(0, .ref 8), (1, .ref (y + 37)), (2, .ref (i + 37)), (3, .int (nI l.length))]) (st' := []) (G' := (zk_H R ex sl s r el f g df)) rfl ?_
      rw [if_pos (show (nI l.length) = (nI cap) from by rw [hfull])]
      refine zm_J_run zm_T 1 (pc' := 7) (lv' := [(0, .ref 8), (1, .ref (y + 37)), (2, .ref (i + 37)), (3, .int (nI l.length))]) (st' := [.ref 8]) (G' := (zk_H R ex sl s r el f g df)) rfl ?_
      refine zg_V (a := 8) (av := []) (rest := []) (v := some (.ref (ex.length + 37))) (G2 := (zk_H R (zk_ap ex (.inl (5, cap + cap / 2, .inr (.inr (.inr (.inr (va_cpy fn (fun _ => none) 0 0 cap))))))) (sl + (cap + cap / 2)) s r (zu el 0 (ex.length + 37)) f g df)) (zm_T.1 112 7 _ rfl).1 zc_112_7 rfl (Nat.le_of_ble_eq_true rfl) (Nat.le_of_ble_eq_true rfl) (zk_c hr0) (zk_s hr0) (zk_g0g0 (by omega) he ⟨by omega, by omega⟩ hi h10 h6 hx hel (hs.trans (by rw [hfull]))) ?_
      show zm_J N _ 112 10 [(0, .ref 8), (1, .ref (y + 37)), (2, .ref (i + 37)), (3, .int (nI l.length))] [.ref (ex.length + 37)] (zk_H R (zk_ap ex (.inl (5, cap + cap / 2, .inr (.inr (.inr (.inr (va_cpy fn (fun _ => none) 0 0 cap))))))) (sl + (cap + cap / 2)) s r (zu el 0 (ex.length + 37)) f g df) _
      refine zm_J_run zm_T 1 (pc' := 11) (lv' := [(2, .ref (ex.length + 37)), (0, .ref 8), (1, .ref (y + 37)), (3, .int (nI l.length))]) (st' := []) (G' := (zk_H R (zk_ap ex (.inl (5, cap + cap / 2, .inr (.inr (.inr (.inr (va_cpy fn (fun _ => none) 0 0 cap))))))) (sl + (cap + cap / 2)) s r (zu el 0 (ex.length + 37)) f g df)) rfl ?_
      refine zk_a3p0 (zk_ap_new ex _) (by omega) (by omega) (zk_ap_old hy) hx (K _ _ _ (cap + cap / 2) (zk_al_put (fun z hz => by obtain ⟨fs', h⟩ := hk z hz; exact ⟨fs', zk_ap_old h⟩) (zk_ap_new ex _) (by omega) (by omega) (by omega) (fun m z hm => ?_) (zk_ap_old hy)) ⟨?_, ?_, Or.inr rfl, ?_, ?_, by omega, by omega⟩)
      · have hml := (List.getElem?_eq_some_iff.mp hm).1
        show (if 0 ≤ m ∧ m < 0 + cap then fn (0 + (m - 0)) else none) = _
        rw [if_pos ⟨Nat.zero_le _, by omega⟩, Nat.zero_add, Nat.sub_zero]
        exact hf m z hm
      · intro i q hq
        rw [List.getElem?_set_ne (fun e => by subst e; rw [List.getElem?_eq_none (Nat.le_refl _)] at hq; cases hq)]
        exact zk_ap_old hq
      · intro i q _ hq _
        rw [List.getElem?_set_ne (fun e => by subst e; rw [List.getElem?_eq_none (Nat.le_refl _)] at hq; cases hq)]
        exact zk_ap_old hq
      · rw [List.length_set, zk_ap_len] <;> omega
      · first | (rw [List.length_set, zk_ap_len] <;> omega) | skip
    · refine zm_J_run zm_T 2 (pc' := 2) (lv' := [(0, .ref 8), (1, .ref (y + 37)), (2, .ref (i + 37)), (3, .int (nI l.length))]) (st' := [.ref (i + 37), .int (nI l.length)]) (G' := (zk_H R ex sl s r el f g df)) rfl ?_
      refine zg_alen (t := 5) (n := cap) rfl (zk_at hi) ?_
      refine zm_J_run zm_T 1 (pc' := if (nI l.length) = (nI cap) then 6 else 11) (lv' := [(0, .ref 8), (1, .ref (y + 37)), (2, .ref (i + 37)), (3, .int (nI l.length))]) (st' := []) (G' := (zk_H R ex sl s r el f g df)) rfl ?_
      rw [if_neg (show ¬ ((nI l.length) = (nI cap)) from fun z => hfull ((nI_eq (by omega) (by omega)).mp z))]
      refine zm_J_lv (lv' := [(2, .ref (i + 37)), (0, .ref 8), (1, .ref (y + 37)), (3, .int (nI l.length))]) (by simp) ?_
      refine zk_a3p0 hi (by omega) h6 hy hx ?_
      have K := K _ sl (i + 37) cap (zk_al_put hk hi (by omega) h10 h6 hf hy) ⟨fun z q hz => by rw [List.getElem?_set_ne (fun e => by subst e; rw [hi] at hz; cases hz)]; exact hz, fun z q _ hz hne => by rw [List.getElem?_set_ne (fun e => hne (by rw [e]))]; exact hz, Or.inl rfl, by rw [List.length_set]; exact Nat.le_refl _, by rw [List.length_set]; exact Nat.le_refl _, Nat.le_refl _, h6⟩
      rw [← he, zu_same] at K
      exact K
theorem zk_add0 (hd : 6 ≤ d) (hR1 : R 1 = zk_em) {l : List Nat} {cap x y : Nat} (hal : zk_al x ex (el 0) l cap) (hs : s 14 = nI l.length) (hl : l.length ≤ 40000) {fs : List Value} (hy : ex[y]? = some (.inr (x, fs))) (hx : x = 3 ∨ x = 8 ∨ x = 9) (hroom : ex.length + 38 ≤ zm_C ∧ sl + 90010 ≤ zm_S)
    (K : ∀ ex' sl' e' cap', zk_al x ex' e' (l ++ [y]) cap' → zk_gr ex ex' (el 0) e' cap cap' sl sl' → Q (.inl (some (.int 1))) (zk_H R ex' sl' (zu (zu s 15 (s 15 + 1)) 14 (nI (l.length + 1))) r (zu el 0 e') f g df)) : zm_J N d 111 0 [(0, .ref 8), (1, .ref (y + 37))] [] (zk_H R ex sl s r el f g df) Q := by
  obtain ⟨d, rfl⟩ : ∃ e, d = e + 6 := ⟨d - 6, by omega⟩
  have hr0 : zr_r ex sl := ⟨by omega, by omega⟩
  refine zm_J_run zm_T 12 (pc' := 20) (lv' := [(0, .ref 8), (1, .ref (y + 37))]) (st' := [.int (s 14), .ref (el 0), .ref (y + 37), .ref 8]) (G' := (zk_H R ex sl (zu s 15 ((s 15) + 1)) r el f g df)) rfl ?_
  rw [show (.int (s 14) : Value) = .int (nI l.length) from congrArg Value.int hs]
  show zm_J N _ 111 20 [(0, .ref 8), (1, .ref (y + 37))] [.int (nI l.length), .ref (el 0), .ref (y + 37), .ref 8] (zk_H R ex sl (zu s 15 ((s 15) + 1)) r el f g df) _
  refine zg_VK (a := 8) (av := [.ref (y + 37), .ref (el 0), .int (nI l.length)]) (rest := []) (zm_T.1 111 20 _ rfl).1 zc_111_20 rfl (Nat.le_of_ble_eq_true rfl) (Nat.le_of_ble_eq_true rfl) (zk_c hr0) (zk_s hr0) (zk_a30 (s := zu s 15 (s 15 + 1)) (by omega) hR1 hal hs hl hy hx hroom (fun ex' sl' e' cap' h1 h2 => ⟨_, rfl, ?_⟩))
  show zm_J N _ 111 23 [(0, .ref 8), (1, .ref (y + 37))] [] (zk_H R ex' sl' (zu (zu s 15 (s 15 + 1)) 14 (nI (l.length + 1))) r (zu el 0 e') f g df) _
  refine zm_J_run zm_T 1 (pc' := 24) (lv' := [(0, .ref 8), (1, .ref (y + 37))]) (st' := [.int 1]) (G' := (zk_H R ex' sl' (zu (zu s 15 (s 15 + 1)) 14 (nI (l.length + 1))) r (zu el 0 e') f g df)) rfl ?_
  exact zm_J_fin zm_T rfl rfl (K ex' sl' e' cap' h1 h2)
theorem zk_a3p1 {i cap x y n : Nat} {fn : Nat → Option Nat} (hi : ex[i]? = some (.inl (5, cap, .inr (.inr (.inr (.inr fn)))))) (hn : n < cap) (h6 : cap ≤ 60000) {fs : List Value} (hy : ex[y]? = some (.inr (x, fs))) (hx : x = 3 ∨ x = 8 ∨ x = 9) (k : Q (.inl none) (zk_H R (ex.set i (.inl (5, cap, .inr (.inr (.inr (.inr (va_up fn n (some (y + 37)))))))) ) sl (zu s 16 (nI (n + 1))) r el f g df)) : zm_J N d 112 11 [(2, .ref (i + 37)), (0, .ref 9), (1, .ref (y + 37)), (3, .int (nI n))] [] (zk_H R ex sl s r el f g df) Q := by
  refine zm_J_run zm_T 3 (pc' := 14) (lv' := [(2, .ref (i + 37)), (0, .ref 9), (1, .ref (y + 37)), (3, .int (nI n))]) (st' := [.ref (y + 37), .int (nI n), .ref (i + 37)]) (G' := (zk_H R ex sl s r el f g df)) rfl ?_
  refine zg_aast (t := 5) (n := cap) (f := fn) (m := n) (G' := (zk_H R (ex.set i (.inl (5, cap, .inr (.inr (.inr (.inr (va_up fn n (some (y + 37)))))))) ) sl s r el f g df)) rfl (zk_at hi) rfl (zk_sto hy hx) (Nat.le_add_left 2 _) rfl hn (by omega) rfl ?_
  refine zm_J_run zm_T 4 (pc' := 19) (lv' := [(2, .ref (i + 37)), (0, .ref 9), (1, .ref (y + 37)), (3, .int (nI n))]) (st' := [.int ((nI n) + 1), .ref 9]) (G' := (zk_H R (ex.set i (.inl (5, cap, .inr (.inr (.inr (.inr (va_up fn n (some (y + 37)))))))) ) sl s r el f g df)) rfl ?_
  rw [show nI n + 1 = nI (n + 1) from nI_1 n]
  show zm_J N _ 112 19 [(2, .ref (i + 37)), (0, .ref 9), (1, .ref (y + 37)), (3, .int (nI n))] [.int (nI (n + 1)), .ref 9] (zk_H R (ex.set i (.inl (5, cap, .inr (.inr (.inr (.inr (va_up fn n (some (y + 37)))))))) ) sl s r el f g df) _
  refine zm_J_run zm_T 1 (pc' := 22) (lv' := [(2, .ref (i + 37)), (0, .ref 9), (1, .ref (y + 37)), (3, .int (nI n))]) (st' := []) (G' := (zk_H R (ex.set i (.inl (5, cap, .inr (.inr (.inr (.inr (va_up fn n (some (y + 37)))))))) ) sl (zu s 16 (nI (n + 1))) r el f g df)) rfl ?_
  exact zm_J_fin zm_T rfl rfl k
theorem zk_g0f1 (hd : 2 ≤ d) (hR1 : R 1 = zk_em) (he : el 1 = 1) (hr : ex.length + 38 ≤ zm_C ∧ sl + 10 ≤ zm_S) (hs : s 16 = nI 0) : zm_J N d 113 0 [(0, .ref 9)] [] (zk_H R ex sl s r el f g df) (fun z G' => z = .inl (some (.ref (ex.length + 37))) ∧ G' = (zk_H R (zk_ap ex (.inl (5, 10, .inr (.inr (.inr (.inr fun _ => none)))))) (sl + 10) s r (zu el 1 (ex.length + 37)) f g df)) := by
  obtain ⟨d, rfl⟩ : ∃ e, d = e + 2 := ⟨d - 2, by omega⟩
  have hr0 : zr_r ex sl := ⟨by omega, by omega⟩
  refine zm_J_run zm_T 5 (pc' := 7) (lv' := [(0, .ref 9)]) (st' := [.int ((s 16) + 1), .ref 9]) (G' := (zk_H R ex sl s r el f g df)) rfl ?_
  rw [show s 16 + 1 = nI 1 from by rw [hs]; exact nI_1 _]
  show zm_J N _ 113 7 [(0, .ref 9)] [.int (nI 1), .ref 9] (zk_H R ex sl s r el f g df) _
  refine zg_V (a := 9) (av := [.int (nI 1)]) (rest := []) (v := some (.ref (ex.length + 37))) (G2 := (zk_H R (zk_ap ex (.inl (5, 10, .inr (.inr (.inr (.inr fun _ => none)))))) (sl + 10) s r (zu el 1 (ex.length + 37)) f g df)) (zm_T.1 113 7 _ rfl).1 zc_113_7 rfl (Nat.le_of_ble_eq_true rfl) (Nat.le_of_ble_eq_true rfl) (zk_c hr0) (zk_s hr0) (zk_gf1 (by omega) hR1 he hr) ?_
  show zm_J N _ 113 10 [(0, .ref 9)] [.ref (ex.length + 37)] (zk_H R (zk_ap ex (.inl (5, 10, .inr (.inr (.inr (.inr fun _ => none)))))) (sl + 10) s r (zu el 1 (ex.length + 37)) f g df) _
  exact zm_J_fin zm_T rfl rfl ⟨rfl, rfl⟩
theorem zk_g0g1 (hd : 4 ≤ d) {i cap x : Nat} {fn : Nat → Option Nat} (he : el 1 = i + 37) (hr : ex.length + 38 ≤ zm_C ∧ sl + (cap + cap / 2) ≤ zm_S) (hi : ex[i]? = some (.inl (5, cap, .inr (.inr (.inr (.inr fn)))))) (h10 : 10 ≤ cap) (hc6 : cap ≤ 60000) (hx : x = 3 ∨ x = 8 ∨ x = 9) (hel : ∀ j, j < cap → ∀ y, fn j = some y → ∃ y' fs, y = y' + 37 ∧ ex[y']? = some (.inr (x, fs))) (hs : s 16 = nI cap) : zm_J N d 113 0 [(0, .ref 9)] [] (zk_H R ex sl s r el f g df) (fun z G' => z = .inl (some (.ref (ex.length + 37))) ∧ G' = (zk_H R (zk_ap ex (.inl (5, cap + cap / 2, .inr (.inr (.inr (.inr (va_cpy fn (fun _ => none) 0 0 cap))))))) (sl + (cap + cap / 2)) s r (zu el 1 (ex.length + 37)) f g df)) := by
  obtain ⟨d, rfl⟩ : ∃ e, d = e + 4 := ⟨d - 4, by omega⟩
  have hr0 : zr_r ex sl := ⟨by omega, by omega⟩
  refine zm_J_run zm_T 5 (pc' := 7) (lv' := [(0, .ref 9)]) (st' := [.int ((s 16) + 1), .ref 9]) (G' := (zk_H R ex sl s r el f g df)) rfl ?_
  rw [show s 16 + 1 = nI (cap + 1) from by rw [hs]; exact nI_1 _]
  show zm_J N _ 113 7 [(0, .ref 9)] [.int (nI (cap + 1)), .ref 9] (zk_H R ex sl s r el f g df) _
  refine zg_V (a := 9) (av := [.int (nI (cap + 1))]) (rest := []) (v := some (.ref (ex.length + 37))) (G2 := (zk_H R (zk_ap ex (.inl (5, cap + cap / 2, .inr (.inr (.inr (.inr (va_cpy fn (fun _ => none) 0 0 cap))))))) (sl + (cap + cap / 2)) s r (zu el 1 (ex.length + 37)) f g df)) (zm_T.1 113 7 _ rfl).1 zc_113_7 rfl (Nat.le_of_ble_eq_true rfl) (Nat.le_of_ble_eq_true rfl) (zk_c hr0) (zk_s hr0) (zk_gg1 (by omega) he hr hi h10 hc6 hx hel) ?_
  show zm_J N _ 113 10 [(0, .ref 9)] [.ref (ex.length + 37)] (zk_H R (zk_ap ex (.inl (5, cap + cap / 2, .inr (.inr (.inr (.inr (va_cpy fn (fun _ => none) 0 0 cap))))))) (sl + (cap + cap / 2)) s r (zu el 1 (ex.length + 37)) f g df) _
  exact zm_J_fin zm_T rfl rfl ⟨rfl, rfl⟩
theorem zk_a31 (hd : 5 ≤ d) (hR1 : R 1 = zk_em) {l : List Nat} {cap x y : Nat} (hal : zk_al x ex (el 1) l cap) (hs : s 16 = nI l.length) (hl : l.length ≤ 40000) {fs : List Value} (hy : ex[y]? = some (.inr (x, fs))) (hx : x = 3 ∨ x = 8 ∨ x = 9) (hroom : ex.length + 38 ≤ zm_C ∧ sl + 90010 ≤ zm_S)
    (K : ∀ ex' sl' e' cap', zk_al x ex' e' (l ++ [y]) cap' → zk_gr ex ex' (el 1) e' cap cap' sl sl' → Q (.inl none) (zk_H R ex' sl' (zu s 16 (nI (l.length + 1))) r (zu el 1 e') f g df)) : zm_J N d 112 0 [(0, .ref 9), (1, .ref (y + 37)), (2, .ref (el 1)), (3, .int (nI l.length))] [] (zk_H R ex sl s r el f g df) Q := by
  obtain ⟨d, rfl⟩ : ∃ e, d = e + 5 := ⟨d - 5, by omega⟩
  have hr0 : zr_r ex sl := ⟨by omega, by omega⟩
  obtain ⟨hk, ⟨he, rfl, rfl⟩ | ⟨i, fn, he, hi, h1, h10, h6, hf⟩⟩ := hal
  · have hz : (zk_H R ex sl s r el f g df).1[1]? = some (.inl (5, 0, .inr (.inr (.inr (.inr fun _ => none))))) := congrArg some hR1
    rw [he]
    show zm_J N _ 112 0 [(0, .ref 9), (1, .ref (y + 37)), (2, .ref 1), (3, .int (nI 0))] [] (zk_H R ex sl s r el f g df) _
    refine zm_J_run zm_T 2 (pc' := 2) (lv' := [(0, .ref 9), (1, .ref (y + 37)), (2, .ref 1), (3, .int (nI 0))]) (st' := [.ref 1, .int (nI 0)]) (G' := (zk_H R ex sl s r el f g df)) rfl ?_
    refine zg_alen (t := 5) (n := 0) rfl hz ?_
    refine zm_J_run zm_T 1 (pc' := if (nI 0) = (nI 0) then 6 else 11) (lv' := [(0, .ref 9), (1, .ref (y + 37)), (2, .ref 1), (3, .int (nI 0))]) (st' := []) (G' := (zk_H R ex sl s r el f g df)) rfl ?_
    rw [if_pos (show (nI 0) = (nI 0) from rfl)]
    refine zm_J_run zm_T 1 (pc' := 7) (lv' := [(0, .ref 9), (1, .ref (y + 37)), (2, .ref 1), (3, .int (nI 0))]) (st' := [.ref 9]) (G' := (zk_H R ex sl s r el f g df)) rfl ?_
    refine zg_V (a := 9) (av := []) (rest := []) (v := some (.ref (ex.length + 37))) (G2 := (zk_H R (zk_ap ex (.inl (5, 10, .inr (.inr (.inr (.inr fun _ => none)))))) (sl + 10) s r (zu el 1 (ex.length + 37)) f g df)) (zm_T.1 112 7 _ rfl).1 zc_112_7 rfl (Nat.le_of_ble_eq_true rfl) (Nat.le_of_ble_eq_true rfl) (zk_c hr0) (zk_s hr0) (zk_g0f1 (by omega) hR1 he ⟨by omega, by omega⟩ hs) ?_
    show zm_J N _ 112 10 [(0, .ref 9), (1, .ref (y + 37)), (2, .ref 1), (3, .int (nI 0))] [.ref (ex.length + 37)] (zk_H R (zk_ap ex (.inl (5, 10, .inr (.inr (.inr (.inr fun _ => none)))))) (sl + 10) s r (zu el 1 (ex.length + 37)) f g df) _
    refine zm_J_run zm_T 1 (pc' := 11) (lv' := [(2, .ref (ex.length + 37)), (0, .ref 9), (1, .ref (y + 37)), (3, .int (nI 0))]) (st' := []) (G' := (zk_H R (zk_ap ex (.inl (5, 10, .inr (.inr (.inr (.inr fun _ => none)))))) (sl + 10) s r (zu el 1 (ex.length + 37)) f g df)) rfl ?_
    refine zk_a3p1 (zk_ap_new ex _) (by decide) (by decide) (zk_ap_old hy) hx (K _ _ _ 10 (zk_al_put (l := []) (fun z hz => by cases hz) (zk_ap_new ex _) (by decide) (by decide) (by decide) (fun m z hm => by cases hm) (zk_ap_old hy)) ⟨?_, ?_, Or.inr rfl, ?_, ?_, by omega, by decide⟩)
    · intro i q hq
      rw [List.getElem?_set_ne (fun e => by subst e; rw [List.getElem?_eq_none (Nat.le_refl _)] at hq; cases hq)]
      exact zk_ap_old hq
    · intro i q _ hq _
      rw [List.getElem?_set_ne (fun e => by subst e; rw [List.getElem?_eq_none (Nat.le_refl _)] at hq; cases hq)]
      exact zk_ap_old hq
    · rw [List.length_set, zk_ap_len] <;> omega
    · first | (rw [List.length_set, zk_ap_len] <;> omega) | skip
  · rw [he]
    show zm_J N _ 112 0 [(0, .ref 9), (1, .ref (y + 37)), (2, .ref (i + 37)), (3, .int (nI l.length))] [] (zk_H R ex sl s r el f g df) _
    rw [he] at K
    by_cases hfull : l.length = cap
    · have hel : ∀ j, j < cap → ∀ z, fn j = some z → ∃ y' fs, z = y' + 37 ∧ ex[y']? = some (.inr (x, fs)) := fun j hj z hz => by
        have hjl : j < l.length := by omega
        have e1 := hf j l[j] (List.getElem?_eq_getElem hjl)
        rw [hz] at e1
        obtain ⟨fs', h⟩ := hk l[j] (List.getElem_mem hjl)
        exact ⟨l[j], fs', Option.some.inj e1, h⟩
      refine zm_J_run zm_T 2 (pc' := 2) (lv' := [(0, .ref 9), (1, .ref (y + 37)), (2, .ref (i + 37)), (3, .int (nI l.length))]) (st' := [.ref (i + 37), .int (nI l.length)]) (G' := (zk_H R ex sl s r el f g df)) rfl ?_
      refine zg_alen (t := 5) (n := cap) rfl (zk_at hi) ?_
      refine zm_J_run zm_T 1 (pc' := if (nI l.length) = (nI cap) then 6 else 11) (lv' := [(0, .ref 9), (1, .ref (y + 37)), (2, .ref (i + 37)), (3, .int (nI l.length))]) (st' := []) (G' := (zk_H R ex sl s r el f g df)) rfl ?_
      rw [if_pos (show (nI l.length) = (nI cap) from by rw [hfull])]
      refine zm_J_run zm_T 1 (pc' := 7) (lv' := [(0, .ref 9), (1, .ref (y + 37)), (2, .ref (i + 37)), (3, .int (nI l.length))]) (st' := [.ref 9]) (G' := (zk_H R ex sl s r el f g df)) rfl ?_
      refine zg_V (a := 9) (av := []) (rest := []) (v := some (.ref (ex.length + 37))) (G2 := (zk_H R (zk_ap ex (.inl (5, cap + cap / 2, .inr (.inr (.inr (.inr (va_cpy fn (fun _ => none) 0 0 cap))))))) (sl + (cap + cap / 2)) s r (zu el 1 (ex.length + 37)) f g df)) (zm_T.1 112 7 _ rfl).1 zc_112_7 rfl (Nat.le_of_ble_eq_true rfl) (Nat.le_of_ble_eq_true rfl) (zk_c hr0) (zk_s hr0) (zk_g0g1 (by omega) he ⟨by omega, by omega⟩ hi h10 h6 hx hel (hs.trans (by rw [hfull]))) ?_
      show zm_J N _ 112 10 [(0, .ref 9), (1, .ref (y + 37)), (2, .ref (i + 37)), (3, .int (nI l.length))] [.ref (ex.length + 37)] (zk_H R (zk_ap ex (.inl (5, cap + cap / 2, .inr (.inr (.inr (.inr (va_cpy fn (fun _ => none) 0 0 cap))))))) (sl + (cap + cap / 2)) s r (zu el 1 (ex.length + 37)) f g df) _
      refine zm_J_run zm_T 1 (pc' := 11) (lv' := [(2, .ref (ex.length + 37)), (0, .ref 9), (1, .ref (y + 37)), (3, .int (nI l.length))]) (st' := []) (G' := (zk_H R (zk_ap ex (.inl (5, cap + cap / 2, .inr (.inr (.inr (.inr (va_cpy fn (fun _ => none) 0 0 cap))))))) (sl + (cap + cap / 2)) s r (zu el 1 (ex.length + 37)) f g df)) rfl ?_
      refine zk_a3p1 (zk_ap_new ex _) (by omega) (by omega) (zk_ap_old hy) hx (K _ _ _ (cap + cap / 2) (zk_al_put (fun z hz => by obtain ⟨fs', h⟩ := hk z hz; exact ⟨fs', zk_ap_old h⟩) (zk_ap_new ex _) (by omega) (by omega) (by omega) (fun m z hm => ?_) (zk_ap_old hy)) ⟨?_, ?_, Or.inr rfl, ?_, ?_, by omega, by omega⟩)
      · have hml := (List.getElem?_eq_some_iff.mp hm).1
        show (if 0 ≤ m ∧ m < 0 + cap then fn (0 + (m - 0)) else none) = _
        rw [if_pos ⟨Nat.zero_le _, by omega⟩, Nat.zero_add, Nat.sub_zero]
        exact hf m z hm
      · intro i q hq
        rw [List.getElem?_set_ne (fun e => by subst e; rw [List.getElem?_eq_none (Nat.le_refl _)] at hq; cases hq)]
        exact zk_ap_old hq
      · intro i q _ hq _
        rw [List.getElem?_set_ne (fun e => by subst e; rw [List.getElem?_eq_none (Nat.le_refl _)] at hq; cases hq)]
        exact zk_ap_old hq
      · rw [List.length_set, zk_ap_len] <;> omega
      · first | (rw [List.length_set, zk_ap_len] <;> omega) | skip
    · refine zm_J_run zm_T 2 (pc' := 2) (lv' := [(0, .ref 9), (1, .ref (y + 37)), (2, .ref (i + 37)), (3, .int (nI l.length))]) (st' := [.ref (i + 37), .int (nI l.length)]) (G' := (zk_H R ex sl s r el f g df)) rfl ?_
      refine zg_alen (t := 5) (n := cap) rfl (zk_at hi) ?_
      refine zm_J_run zm_T 1 (pc' := if (nI l.length) = (nI cap) then 6 else 11) (lv' := [(0, .ref 9), (1, .ref (y + 37)), (2, .ref (i + 37)), (3, .int (nI l.length))]) (st' := []) (G' := (zk_H R ex sl s r el f g df)) rfl ?_
      rw [if_neg (show ¬ ((nI l.length) = (nI cap)) from fun z => hfull ((nI_eq (by omega) (by omega)).mp z))]
      refine zm_J_lv (lv' := [(2, .ref (i + 37)), (0, .ref 9), (1, .ref (y + 37)), (3, .int (nI l.length))]) (by simp) ?_
      refine zk_a3p1 hi (by omega) h6 hy hx ?_
      have K := K _ sl (i + 37) cap (zk_al_put hk hi (by omega) h10 h6 hf hy) ⟨fun z q hz => by rw [List.getElem?_set_ne (fun e => by subst e; rw [hi] at hz; cases hz)]; exact hz, fun z q _ hz hne => by rw [List.getElem?_set_ne (fun e => hne (by rw [e]))]; exact hz, Or.inl rfl, by rw [List.length_set]; exact Nat.le_refl _, by rw [List.length_set]; exact Nat.le_refl _, Nat.le_refl _, h6⟩
      rw [← he, zu_same] at K
      exact K
theorem zk_add1 (hd : 6 ≤ d) (hR1 : R 1 = zk_em) {l : List Nat} {cap x y : Nat} (hal : zk_al x ex (el 1) l cap) (hs : s 16 = nI l.length) (hl : l.length ≤ 40000) {fs : List Value} (hy : ex[y]? = some (.inr (x, fs))) (hx : x = 3 ∨ x = 8 ∨ x = 9) (hroom : ex.length + 38 ≤ zm_C ∧ sl + 90010 ≤ zm_S)
    (K : ∀ ex' sl' e' cap', zk_al x ex' e' (l ++ [y]) cap' → zk_gr ex ex' (el 1) e' cap cap' sl sl' → Q (.inl (some (.int 1))) (zk_H R ex' sl' (zu (zu s 17 (s 17 + 1)) 16 (nI (l.length + 1))) r (zu el 1 e') f g df)) : zm_J N d 111 0 [(0, .ref 9), (1, .ref (y + 37))] [] (zk_H R ex sl s r el f g df) Q := by
  obtain ⟨d, rfl⟩ : ∃ e, d = e + 6 := ⟨d - 6, by omega⟩
  have hr0 : zr_r ex sl := ⟨by omega, by omega⟩
  refine zm_J_run zm_T 12 (pc' := 20) (lv' := [(0, .ref 9), (1, .ref (y + 37))]) (st' := [.int (s 16), .ref (el 1), .ref (y + 37), .ref 9]) (G' := (zk_H R ex sl (zu s 17 ((s 17) + 1)) r el f g df)) rfl ?_
  rw [show (.int (s 16) : Value) = .int (nI l.length) from congrArg Value.int hs]
  show zm_J N _ 111 20 [(0, .ref 9), (1, .ref (y + 37))] [.int (nI l.length), .ref (el 1), .ref (y + 37), .ref 9] (zk_H R ex sl (zu s 17 ((s 17) + 1)) r el f g df) _
  refine zg_VK (a := 9) (av := [.ref (y + 37), .ref (el 1), .int (nI l.length)]) (rest := []) (zm_T.1 111 20 _ rfl).1 zc_111_20 rfl (Nat.le_of_ble_eq_true rfl) (Nat.le_of_ble_eq_true rfl) (zk_c hr0) (zk_s hr0) (zk_a31 (s := zu s 17 (s 17 + 1)) (by omega) hR1 hal hs hl hy hx hroom (fun ex' sl' e' cap' h1 h2 => ⟨_, rfl, ?_⟩))
  show zm_J N _ 111 23 [(0, .ref 9), (1, .ref (y + 37))] [] (zk_H R ex' sl' (zu (zu s 17 (s 17 + 1)) 16 (nI (l.length + 1))) r (zu el 1 e') f g df) _
  refine zm_J_run zm_T 1 (pc' := 24) (lv' := [(0, .ref 9), (1, .ref (y + 37))]) (st' := [.int 1]) (G' := (zk_H R ex' sl' (zu (zu s 17 (s 17 + 1)) 16 (nI (l.length + 1))) r (zu el 1 e') f g df)) rfl ?_
  exact zm_J_fin zm_T rfl rfl (K ex' sl' e' cap' h1 h2)
theorem zk_a3p2 {i cap x y n : Nat} {fn : Nat → Option Nat} (hi : ex[i]? = some (.inl (5, cap, .inr (.inr (.inr (.inr fn)))))) (hn : n < cap) (h6 : cap ≤ 60000) {fs : List Value} (hy : ex[y]? = some (.inr (x, fs))) (hx : x = 3 ∨ x = 8 ∨ x = 9) (k : Q (.inl none) (zk_H R (ex.set i (.inl (5, cap, .inr (.inr (.inr (.inr (va_up fn n (some (y + 37)))))))) ) sl (zu s 18 (nI (n + 1))) r el f g df)) : zm_J N d 112 11 [(2, .ref (i + 37)), (0, .ref 10), (1, .ref (y + 37)), (3, .int (nI n))] [] (zk_H R ex sl s r el f g df) Q := by
  refine zm_J_run zm_T 3 (pc' := 14) (lv' := [(2, .ref (i + 37)), (0, .ref 10), (1, .ref (y + 37)), (3, .int (nI n))]) (st' := [.ref (y + 37), .int (nI n), .ref (i + 37)]) (G' := (zk_H R ex sl s r el f g df)) rfl ?_
  refine zg_aast (t := 5) (n := cap) (f := fn) (m := n) (G' := (zk_H R (ex.set i (.inl (5, cap, .inr (.inr (.inr (.inr (va_up fn n (some (y + 37)))))))) ) sl s r el f g df)) rfl (zk_at hi) rfl (zk_sto hy hx) (Nat.le_add_left 2 _) rfl hn (by omega) rfl ?_
  refine zm_J_run zm_T 4 (pc' := 19) (lv' := [(2, .ref (i + 37)), (0, .ref 10), (1, .ref (y + 37)), (3, .int (nI n))]) (st' := [.int ((nI n) + 1), .ref 10]) (G' := (zk_H R (ex.set i (.inl (5, cap, .inr (.inr (.inr (.inr (va_up fn n (some (y + 37)))))))) ) sl s r el f g df)) rfl ?_
  rw [show nI n + 1 = nI (n + 1) from nI_1 n]
  show zm_J N _ 112 19 [(2, .ref (i + 37)), (0, .ref 10), (1, .ref (y + 37)), (3, .int (nI n))] [.int (nI (n + 1)), .ref 10] (zk_H R (ex.set i (.inl (5, cap, .inr (.inr (.inr (.inr (va_up fn n (some (y + 37)))))))) ) sl s r el f g df) _
  refine zm_J_run zm_T 1 (pc' := 22) (lv' := [(2, .ref (i + 37)), (0, .ref 10), (1, .ref (y + 37)), (3, .int (nI n))]) (st' := []) (G' := (zk_H R (ex.set i (.inl (5, cap, .inr (.inr (.inr (.inr (va_up fn n (some (y + 37)))))))) ) sl (zu s 18 (nI (n + 1))) r el f g df)) rfl ?_
  exact zm_J_fin zm_T rfl rfl k
theorem zk_g0f2 (hd : 2 ≤ d) (hR1 : R 1 = zk_em) (he : el 2 = 1) (hr : ex.length + 38 ≤ zm_C ∧ sl + 10 ≤ zm_S) (hs : s 18 = nI 0) : zm_J N d 113 0 [(0, .ref 10)] [] (zk_H R ex sl s r el f g df) (fun z G' => z = .inl (some (.ref (ex.length + 37))) ∧ G' = (zk_H R (zk_ap ex (.inl (5, 10, .inr (.inr (.inr (.inr fun _ => none)))))) (sl + 10) s r (zu el 2 (ex.length + 37)) f g df)) := by
  obtain ⟨d, rfl⟩ : ∃ e, d = e + 2 := ⟨d - 2, by omega⟩
  have hr0 : zr_r ex sl := ⟨by omega, by omega⟩
  refine zm_J_run zm_T 5 (pc' := 7) (lv' := [(0, .ref 10)]) (st' := [.int ((s 18) + 1), .ref 10]) (G' := (zk_H R ex sl s r el f g df)) rfl ?_
  rw [show s 18 + 1 = nI 1 from by rw [hs]; exact nI_1 _]
  show zm_J N _ 113 7 [(0, .ref 10)] [.int (nI 1), .ref 10] (zk_H R ex sl s r el f g df) _
  refine zg_V (a := 10) (av := [.int (nI 1)]) (rest := []) (v := some (.ref (ex.length + 37))) (G2 := (zk_H R (zk_ap ex (.inl (5, 10, .inr (.inr (.inr (.inr fun _ => none)))))) (sl + 10) s r (zu el 2 (ex.length + 37)) f g df)) (zm_T.1 113 7 _ rfl).1 zc_113_7 rfl (Nat.le_of_ble_eq_true rfl) (Nat.le_of_ble_eq_true rfl) (zk_c hr0) (zk_s hr0) (zk_gf2 (by omega) hR1 he hr) ?_
  show zm_J N _ 113 10 [(0, .ref 10)] [.ref (ex.length + 37)] (zk_H R (zk_ap ex (.inl (5, 10, .inr (.inr (.inr (.inr fun _ => none)))))) (sl + 10) s r (zu el 2 (ex.length + 37)) f g df) _
  exact zm_J_fin zm_T rfl rfl ⟨rfl, rfl⟩
theorem zk_g0g2 (hd : 4 ≤ d) {i cap x : Nat} {fn : Nat → Option Nat} (he : el 2 = i + 37) (hr : ex.length + 38 ≤ zm_C ∧ sl + (cap + cap / 2) ≤ zm_S) (hi : ex[i]? = some (.inl (5, cap, .inr (.inr (.inr (.inr fn)))))) (h10 : 10 ≤ cap) (hc6 : cap ≤ 60000) (hx : x = 3 ∨ x = 8 ∨ x = 9) (hel : ∀ j, j < cap → ∀ y, fn j = some y → ∃ y' fs, y = y' + 37 ∧ ex[y']? = some (.inr (x, fs))) (hs : s 18 = nI cap) : zm_J N d 113 0 [(0, .ref 10)] [] (zk_H R ex sl s r el f g df) (fun z G' => z = .inl (some (.ref (ex.length + 37))) ∧ G' = (zk_H R (zk_ap ex (.inl (5, cap + cap / 2, .inr (.inr (.inr (.inr (va_cpy fn (fun _ => none) 0 0 cap))))))) (sl + (cap + cap / 2)) s r (zu el 2 (ex.length + 37)) f g df)) := by
  obtain ⟨d, rfl⟩ : ∃ e, d = e + 4 := ⟨d - 4, by omega⟩
  have hr0 : zr_r ex sl := ⟨by omega, by omega⟩
  refine zm_J_run zm_T 5 (pc' := 7) (lv' := [(0, .ref 10)]) (st' := [.int ((s 18) + 1), .ref 10]) (G' := (zk_H R ex sl s r el f g df)) rfl ?_
  rw [show s 18 + 1 = nI (cap + 1) from by rw [hs]; exact nI_1 _]
  show zm_J N _ 113 7 [(0, .ref 10)] [.int (nI (cap + 1)), .ref 10] (zk_H R ex sl s r el f g df) _
  refine zg_V (a := 10) (av := [.int (nI (cap + 1))]) (rest := []) (v := some (.ref (ex.length + 37))) (G2 := (zk_H R (zk_ap ex (.inl (5, cap + cap / 2, .inr (.inr (.inr (.inr (va_cpy fn (fun _ => none) 0 0 cap))))))) (sl + (cap + cap / 2)) s r (zu el 2 (ex.length + 37)) f g df)) (zm_T.1 113 7 _ rfl).1 zc_113_7 rfl (Nat.le_of_ble_eq_true rfl) (Nat.le_of_ble_eq_true rfl) (zk_c hr0) (zk_s hr0) (zk_gg2 (by omega) he hr hi h10 hc6 hx hel) ?_
  show zm_J N _ 113 10 [(0, .ref 10)] [.ref (ex.length + 37)] (zk_H R (zk_ap ex (.inl (5, cap + cap / 2, .inr (.inr (.inr (.inr (va_cpy fn (fun _ => none) 0 0 cap))))))) (sl + (cap + cap / 2)) s r (zu el 2 (ex.length + 37)) f g df) _
  exact zm_J_fin zm_T rfl rfl ⟨rfl, rfl⟩
theorem zk_a32 (hd : 5 ≤ d) (hR1 : R 1 = zk_em) {l : List Nat} {cap x y : Nat} (hal : zk_al x ex (el 2) l cap) (hs : s 18 = nI l.length) (hl : l.length ≤ 40000) {fs : List Value} (hy : ex[y]? = some (.inr (x, fs))) (hx : x = 3 ∨ x = 8 ∨ x = 9) (hroom : ex.length + 38 ≤ zm_C ∧ sl + 90010 ≤ zm_S)
    (K : ∀ ex' sl' e' cap', zk_al x ex' e' (l ++ [y]) cap' → zk_gr ex ex' (el 2) e' cap cap' sl sl' → Q (.inl none) (zk_H R ex' sl' (zu s 18 (nI (l.length + 1))) r (zu el 2 e') f g df)) : zm_J N d 112 0 [(0, .ref 10), (1, .ref (y + 37)), (2, .ref (el 2)), (3, .int (nI l.length))] [] (zk_H R ex sl s r el f g df) Q := by
  obtain ⟨d, rfl⟩ : ∃ e, d = e + 5 := ⟨d - 5, by omega⟩
  have hr0 : zr_r ex sl := ⟨by omega, by omega⟩
  obtain ⟨hk, ⟨he, rfl, rfl⟩ | ⟨i, fn, he, hi, h1, h10, h6, hf⟩⟩ := hal
  · have hz : (zk_H R ex sl s r el f g df).1[1]? = some (.inl (5, 0, .inr (.inr (.inr (.inr fun _ => none))))) := congrArg some hR1
    rw [he]
    show zm_J N _ 112 0 [(0, .ref 10), (1, .ref (y + 37)), (2, .ref 1), (3, .int (nI 0))] [] (zk_H R ex sl s r el f g df) _
    refine zm_J_run zm_T 2 (pc' := 2) (lv' := [(0, .ref 10), (1, .ref (y + 37)), (2, .ref 1), (3, .int (nI 0))]) (st' := [.ref 1, .int (nI 0)]) (G' := (zk_H R ex sl s r el f g df)) rfl ?_
    refine zg_alen (t := 5) (n := 0) rfl hz ?_
    refine zm_J_run zm_T 1 (pc' := if (nI 0) = (nI 0) then 6 else 11) (lv' := [(0, .ref 10), (1, .ref (y + 37)), (2, .ref 1), (3, .int (nI 0))]) (st' := []) (G' := (zk_H R ex sl s r el f g df)) rfl ?_
    rw [if_pos (show (nI 0) = (nI 0) from rfl)]
    refine zm_J_run zm_T 1 (pc' := 7) (lv' := [(0, .ref 10), (1, .ref (y + 37)), (2, .ref 1), (3, .int (nI 0))]) (st' := [.ref 10]) (G' := (zk_H R ex sl s r el f g df)) rfl ?_
    refine zg_V (a := 10) (av := []) (rest := []) (v := some (.ref (ex.length + 37))) (G2 := (zk_H R (zk_ap ex (.inl (5, 10, .inr (.inr (.inr (.inr fun _ => none)))))) (sl + 10) s r (zu el 2 (ex.length + 37)) f g df)) (zm_T.1 112 7 _ rfl).1 zc_112_7 rfl (Nat.le_of_ble_eq_true rfl) (Nat.le_of_ble_eq_true rfl) (zk_c hr0) (zk_s hr0) (zk_g0f2 (by omega) hR1 he ⟨by omega, by omega⟩ hs) ?_
    show zm_J N _ 112 10 [(0, .ref 10), (1, .ref (y + 37)), (2, .ref 1), (3, .int (nI 0))] [.ref (ex.length + 37)] (zk_H R (zk_ap ex (.inl (5, 10, .inr (.inr (.inr (.inr fun _ => none)))))) (sl + 10) s r (zu el 2 (ex.length + 37)) f g df) _
    refine zm_J_run zm_T 1 (pc' := 11) (lv' := [(2, .ref (ex.length + 37)), (0, .ref 10), (1, .ref (y + 37)), (3, .int (nI 0))]) (st' := []) (G' := (zk_H R (zk_ap ex (.inl (5, 10, .inr (.inr (.inr (.inr fun _ => none)))))) (sl + 10) s r (zu el 2 (ex.length + 37)) f g df)) rfl ?_
    refine zk_a3p2 (zk_ap_new ex _) (by decide) (by decide) (zk_ap_old hy) hx (K _ _ _ 10 (zk_al_put (l := []) (fun z hz => by cases hz) (zk_ap_new ex _) (by decide) (by decide) (by decide) (fun m z hm => by cases hm) (zk_ap_old hy)) ⟨?_, ?_, Or.inr rfl, ?_, ?_, by omega, by decide⟩)
    · intro i q hq
      rw [List.getElem?_set_ne (fun e => by subst e; rw [List.getElem?_eq_none (Nat.le_refl _)] at hq; cases hq)]
      exact zk_ap_old hq
    · intro i q _ hq _
      rw [List.getElem?_set_ne (fun e => by subst e; rw [List.getElem?_eq_none (Nat.le_refl _)] at hq; cases hq)]
      exact zk_ap_old hq
    · rw [List.length_set, zk_ap_len] <;> omega
    · first | (rw [List.length_set, zk_ap_len] <;> omega) | skip
  · rw [he]
    show zm_J N _ 112 0 [(0, .ref 10), (1, .ref (y + 37)), (2, .ref (i + 37)), (3, .int (nI l.length))] [] (zk_H R ex sl s r el f g df) _
    rw [he] at K
    by_cases hfull : l.length = cap
    · have hel : ∀ j, j < cap → ∀ z, fn j = some z → ∃ y' fs, z = y' + 37 ∧ ex[y']? = some (.inr (x, fs)) := fun j hj z hz => by
        have hjl : j < l.length := by omega
        have e1 := hf j l[j] (List.getElem?_eq_getElem hjl)
        rw [hz] at e1
        obtain ⟨fs', h⟩ := hk l[j] (List.getElem_mem hjl)
        exact ⟨l[j], fs', Option.some.inj e1, h⟩
      refine zm_J_run zm_T 2 (pc' := 2) (lv' := [(0, .ref 10), (1, .ref (y + 37)), (2, .ref (i + 37)), (3, .int (nI l.length))]) (st' := [.ref (i + 37), .int (nI l.length)]) (G' := (zk_H R ex sl s r el f g df)) rfl ?_
      refine zg_alen (t := 5) (n := cap) rfl (zk_at hi) ?_
      refine zm_J_run zm_T 1 (pc' := if (nI l.length) = (nI cap) then 6 else 11) (lv' := [(0, .ref 10), (1, .ref (y + 37)), (2, .ref (i + 37)), (3, .int (nI l.length))]) (st' := []) (G' := (zk_H R ex sl s r el f g df)) rfl ?_
      rw [if_pos (show (nI l.length) = (nI cap) from by rw [hfull])]
      refine zm_J_run zm_T 1 (pc' := 7) (lv' := [(0, .ref 10), (1, .ref (y + 37)), (2, .ref (i + 37)), (3, .int (nI l.length))]) (st' := [.ref 10]) (G' := (zk_H R ex sl s r el f g df)) rfl ?_
      refine zg_V (a := 10) (av := []) (rest := []) (v := some (.ref (ex.length + 37))) (G2 := (zk_H R (zk_ap ex (.inl (5, cap + cap / 2, .inr (.inr (.inr (.inr (va_cpy fn (fun _ => none) 0 0 cap))))))) (sl + (cap + cap / 2)) s r (zu el 2 (ex.length + 37)) f g df)) (zm_T.1 112 7 _ rfl).1 zc_112_7 rfl (Nat.le_of_ble_eq_true rfl) (Nat.le_of_ble_eq_true rfl) (zk_c hr0) (zk_s hr0) (zk_g0g2 (by omega) he ⟨by omega, by omega⟩ hi h10 h6 hx hel (hs.trans (by rw [hfull]))) ?_
      show zm_J N _ 112 10 [(0, .ref 10), (1, .ref (y + 37)), (2, .ref (i + 37)), (3, .int (nI l.length))] [.ref (ex.length + 37)] (zk_H R (zk_ap ex (.inl (5, cap + cap / 2, .inr (.inr (.inr (.inr (va_cpy fn (fun _ => none) 0 0 cap))))))) (sl + (cap + cap / 2)) s r (zu el 2 (ex.length + 37)) f g df) _
      refine zm_J_run zm_T 1 (pc' := 11) (lv' := [(2, .ref (ex.length + 37)), (0, .ref 10), (1, .ref (y + 37)), (3, .int (nI l.length))]) (st' := []) (G' := (zk_H R (zk_ap ex (.inl (5, cap + cap / 2, .inr (.inr (.inr (.inr (va_cpy fn (fun _ => none) 0 0 cap))))))) (sl + (cap + cap / 2)) s r (zu el 2 (ex.length + 37)) f g df)) rfl ?_
      refine zk_a3p2 (zk_ap_new ex _) (by omega) (by omega) (zk_ap_old hy) hx (K _ _ _ (cap + cap / 2) (zk_al_put (fun z hz => by obtain ⟨fs', h⟩ := hk z hz; exact ⟨fs', zk_ap_old h⟩) (zk_ap_new ex _) (by omega) (by omega) (by omega) (fun m z hm => ?_) (zk_ap_old hy)) ⟨?_, ?_, Or.inr rfl, ?_, ?_, by omega, by omega⟩)
      · have hml := (List.getElem?_eq_some_iff.mp hm).1
        show (if 0 ≤ m ∧ m < 0 + cap then fn (0 + (m - 0)) else none) = _
        rw [if_pos ⟨Nat.zero_le _, by omega⟩, Nat.zero_add, Nat.sub_zero]
        exact hf m z hm
      · intro i q hq
        rw [List.getElem?_set_ne (fun e => by subst e; rw [List.getElem?_eq_none (Nat.le_refl _)] at hq; cases hq)]
        exact zk_ap_old hq
      · intro i q _ hq _
        rw [List.getElem?_set_ne (fun e => by subst e; rw [List.getElem?_eq_none (Nat.le_refl _)] at hq; cases hq)]
        exact zk_ap_old hq
      · rw [List.length_set, zk_ap_len] <;> omega
      · first | (rw [List.length_set, zk_ap_len] <;> omega) | skip
    · refine zm_J_run zm_T 2 (pc' := 2) (lv' := [(0, .ref 10), (1, .ref (y + 37)), (2, .ref (i + 37)), (3, .int (nI l.length))]) (st' := [.ref (i + 37), .int (nI l.length)]) (G' := (zk_H R ex sl s r el f g df)) rfl ?_
      refine zg_alen (t := 5) (n := cap) rfl (zk_at hi) ?_
      refine zm_J_run zm_T 1 (pc' := if (nI l.length) = (nI cap) then 6 else 11) (lv' := [(0, .ref 10), (1, .ref (y + 37)), (2, .ref (i + 37)), (3, .int (nI l.length))]) (st' := []) (G' := (zk_H R ex sl s r el f g df)) rfl ?_
      rw [if_neg (show ¬ ((nI l.length) = (nI cap)) from fun z => hfull ((nI_eq (by omega) (by omega)).mp z))]
      refine zm_J_lv (lv' := [(2, .ref (i + 37)), (0, .ref 10), (1, .ref (y + 37)), (3, .int (nI l.length))]) (by simp) ?_
      refine zk_a3p2 hi (by omega) h6 hy hx ?_
      have K := K _ sl (i + 37) cap (zk_al_put hk hi (by omega) h10 h6 hf hy) ⟨fun z q hz => by rw [List.getElem?_set_ne (fun e => by subst e; rw [hi] at hz; cases hz)]; exact hz, fun z q _ hz hne => by rw [List.getElem?_set_ne (fun e => hne (by rw [e]))]; exact hz, Or.inl rfl, by rw [List.length_set]; exact Nat.le_refl _, by rw [List.length_set]; exact Nat.le_refl _, Nat.le_refl _, h6⟩
      rw [← he, zu_same] at K
      exact K
theorem zk_add2 (hd : 6 ≤ d) (hR1 : R 1 = zk_em) {l : List Nat} {cap x y : Nat} (hal : zk_al x ex (el 2) l cap) (hs : s 18 = nI l.length) (hl : l.length ≤ 40000) {fs : List Value} (hy : ex[y]? = some (.inr (x, fs))) (hx : x = 3 ∨ x = 8 ∨ x = 9) (hroom : ex.length + 38 ≤ zm_C ∧ sl + 90010 ≤ zm_S)
    (K : ∀ ex' sl' e' cap', zk_al x ex' e' (l ++ [y]) cap' → zk_gr ex ex' (el 2) e' cap cap' sl sl' → Q (.inl (some (.int 1))) (zk_H R ex' sl' (zu (zu s 19 (s 19 + 1)) 18 (nI (l.length + 1))) r (zu el 2 e') f g df)) : zm_J N d 111 0 [(0, .ref 10), (1, .ref (y + 37))] [] (zk_H R ex sl s r el f g df) Q := by
  obtain ⟨d, rfl⟩ : ∃ e, d = e + 6 := ⟨d - 6, by omega⟩
  have hr0 : zr_r ex sl := ⟨by omega, by omega⟩
  refine zm_J_run zm_T 12 (pc' := 20) (lv' := [(0, .ref 10), (1, .ref (y + 37))]) (st' := [.int (s 18), .ref (el 2), .ref (y + 37), .ref 10]) (G' := (zk_H R ex sl (zu s 19 ((s 19) + 1)) r el f g df)) rfl ?_
  rw [show (.int (s 18) : Value) = .int (nI l.length) from congrArg Value.int hs]
  show zm_J N _ 111 20 [(0, .ref 10), (1, .ref (y + 37))] [.int (nI l.length), .ref (el 2), .ref (y + 37), .ref 10] (zk_H R ex sl (zu s 19 ((s 19) + 1)) r el f g df) _
  refine zg_VK (a := 10) (av := [.ref (y + 37), .ref (el 2), .int (nI l.length)]) (rest := []) (zm_T.1 111 20 _ rfl).1 zc_111_20 rfl (Nat.le_of_ble_eq_true rfl) (Nat.le_of_ble_eq_true rfl) (zk_c hr0) (zk_s hr0) (zk_a32 (s := zu s 19 (s 19 + 1)) (by omega) hR1 hal hs hl hy hx hroom (fun ex' sl' e' cap' h1 h2 => ⟨_, rfl, ?_⟩))
  show zm_J N _ 111 23 [(0, .ref 10), (1, .ref (y + 37))] [] (zk_H R ex' sl' (zu (zu s 19 (s 19 + 1)) 18 (nI (l.length + 1))) r (zu el 2 e') f g df) _
  refine zm_J_run zm_T 1 (pc' := 24) (lv' := [(0, .ref 10), (1, .ref (y + 37))]) (st' := [.int 1]) (G' := (zk_H R ex' sl' (zu (zu s 19 (s 19 + 1)) 18 (nI (l.length + 1))) r (zu el 2 e') f g df)) rfl ?_
  exact zm_J_fin zm_T rfl rfl (K ex' sl' e' cap' h1 h2)
end ZKA

/-! WORK -/
theorem zk_sep {c x y : Int32} (h1 : c ≤ x) (h2 : y ≤ c) (h : x < y) : False := by
  have a := Int32.le_iff_toInt_le.mp h1
  have b := Int32.le_iff_toInt_le.mp h2
  have e := Int32.lt_iff_toInt_lt.mp h
  omega
theorem zv_E_dig {D : zv_D} {n : Nat} {c : Int32} {r L : List Int32} {A : List Nat} {s : zv_S} (h : 48 ≤ c ∧ c ≤ 57) : zv_E D (n + 1) (c :: r) L A s = (.inr (zv_num (c - 48)), zv_v s) := if_pos h
theorem zv_E_nil {D : zv_D} {n : Nat} {r L : List Int32} {A : List Nat} {s : zv_S} : zv_E D (n + 1) (110 :: r) L A s = (.inr (1, 0, 0, 0, []), s) := by
  unfold zv_E
  dsimp only
  rw [if_neg (by decide), if_pos (by decide)]
theorem zv_E_par {D : zv_D} {n : Nat} {c : Int32} {r L : List Int32} {A : List Nat} {s : zv_S} (h : 97 ≤ c ∧ c ≤ 102) : zv_E D (n + 1) (c :: r) L A s = zv_F (zv_E D n) (zv_ar L A c) s := by
  rw [zv_E]
  dsimp only
  rw [if_neg (fun z => zk_sep z.2 h.1 (by decide)), if_neg (fun z => by subst z; exact absurd h.2 (by decide)), if_pos h]
theorem zv_E_nam {D : zv_D} {n : Nat} {c : Int32} {r L : List Int32} {A : List Nat} {s : zv_S} (h : 65 ≤ c ∧ c ≤ 70) : zv_E D (n + 1) (c :: r) L A s = zv_N D (zv_E D n) (c - 65) s := by
  rw [zv_E]
  dsimp only
  rw [if_neg (fun z => zk_sep z.2 h.1 (by decide)), if_neg (fun z => by subst z; exact absurd h.2 (by decide)), if_neg (fun z => zk_sep h.2 z.1 (by decide)), if_pos h]
theorem zv_E_pair {D : zv_D} {n : Nat} {r L : List Int32} {A : List Nat} {s : zv_S} : zv_E D (n + 1) (58 :: r) L A s = zv_P r L A s := by
  rw [zv_E]
  dsimp only
  rw [if_neg (by decide), if_neg (by decide), if_neg (by decide), if_neg (by decide), if_pos rfl]
theorem zv_E_op {D : zv_D} {n : Nat} {c : Int32} {r L : List Int32} {A : List Nat} {s : zv_S} (h : zv_p c ≠ 0) (h5 : ¬ c = 58) : zv_E D (n + 1) (c :: r) L A s = zv_B (zv_E D n r L A s) (zv_G D (zv_E D n) c r L A) := by
  rw [zv_E]
  dsimp only
  rw [if_neg (fun z => h (zv_leaf (Or.inl z))), if_neg (fun z => h (zv_leaf (Or.inr (Or.inr (Or.inr z))))), if_neg (fun z => h (zv_leaf (Or.inr (Or.inl z)))), if_neg (fun z => h (zv_leaf (Or.inr (Or.inr (Or.inl z))))), if_neg h5]
def zk_mx (a b : Int32) : Int32 := if a < b then b else a
section ZKW
variable {R : Nat → zm_E} {ex : List zm_E} {sl : Nat} {s : Nat → Int32} {r : Value} {el : Nat → Nat} {f g : Nat → Int32} {df : Nat → Option Nat} {N : zm_N} {d : Nat} {Q : zm_O → zm_H → Prop} {B S : Nat} {va ca ka : List Nat} {q : Nat × Nat × Nat} {σ : zv_S} {D : zv_D}
theorem zk_w_dig (hB : zk_BS B S) (h8 : 8 ≤ d) (hDw : zv_wD D) {n : Nat} (hn : n ≤ 60) (ih : zk_EV B S N R r f g df D d n) (hR1 : R 1 = zk_em) {j : Nat} (hS : zv_wS σ) {r0 L : List Int32} {A : List Nat} (hA : zv_wE σ.1.length L A) (hI : zk_I B S ex sl s el va ca ka q) (hSt : zk_St ex s va ca ka σ) (hD : zk_D ex df D) {xa : Nat} {ch : Value} (hch : zk_ch ex ca ka σ.2.2.1 A.reverse ch) {ix : Int32} {p1 p2 p3 : Value} (hbv : σ.2.2.2 < 32080) (hc : ex[xa]? = some (Sum.inr (7, [.int 48, .int ix, p1, p2, p3]) : zm_E)) {d' : Nat} (hd' : d + 3 * n + 3 ≤ d') : zm_J N d' 37 28 [(0, .ref 2), (1, .ref (xa + 37)), (2, ch), (3, .int (nI (60 - n)))] [] (zk_H R ex sl s r el f g df) (zk_EQ B S R r f g df ex s va ca ka σ.2.2.2 σ.2.2.1 ((.inr (zv_num ix), zv_v σ))) := by
  obtain ⟨d', rfl⟩ : ∃ e, d' = e + 1 := ⟨d' - 1, by omega⟩
  have hdep : nI (60 - n) + 1 = nI (61 - n) := by rw [show 61 - n = 60 - n + 1 by omega]; exact nI_1 _
  have hr := zk_I_r hB hI
  rcases zk_ch_sh hch with rfl | ⟨z0, rfl⟩
  · refine zm_J_run zm_T 1 (pc' := 29) (lv' := [(0, .ref 2), (1, .ref (xa + 37)), (2, .null), (3, .int (nI (60 - n)))]) (st' := [.ref (xa + 37)]) (G' := (zk_H R ex sl s r el f g df)) rfl ?_
    refine zg_gf (fs := [.int 48, .int ix, p1, p2, p3]) rfl (zk_at hc) rfl ?_
    refine zm_J_run zm_T 1 (pc' := 124) (lv' := [(0, .ref 2), (1, .ref (xa + 37)), (2, .null), (3, .int (nI (60 - n)))]) (st' := []) (G' := (zk_H R ex sl s r el f g df)) rfl ?_
    refine zm_J_run zm_T 3 (pc' := 129) (lv' := [(0, .ref 2), (1, .ref (xa + 37)), (2, .null), (3, .int (nI (60 - n)))]) (st' := [.ref (xa + 37), .ref 6]) (G' := (zk_H R ex sl s r el f g df)) rfl ?_
    refine zg_gf (fs := [.int 48, .int ix, p1, p2, p3]) rfl (zk_at hc) rfl ?_
    refine zg_VT (a := 6) (av := [.int ix]) (rest := []) (zm_T.1 37 132 _ rfl).1 zc_37_132 rfl (zm_out0 rfl) (Nat.le_of_ble_eq_true rfl) (Nat.le_of_ble_eq_true rfl) (zk_c hr) (zk_s hr) (zk_mkn hB hR1 (by omega) hI hSt hbv ix (fun z G' k => zk_k_ret (x := (.inr (zv_num ix), zv_v σ)) rfl (fun _ => rfl) k))
  · refine zm_J_run zm_T 1 (pc' := 29) (lv' := [(0, .ref 2), (1, .ref (xa + 37)), (2, .ref z0), (3, .int (nI (60 - n)))]) (st' := [.ref (xa + 37)]) (G' := (zk_H R ex sl s r el f g df)) rfl ?_
    refine zg_gf (fs := [.int 48, .int ix, p1, p2, p3]) rfl (zk_at hc) rfl ?_
    refine zm_J_run zm_T 1 (pc' := 124) (lv' := [(0, .ref 2), (1, .ref (xa + 37)), (2, .ref z0), (3, .int (nI (60 - n)))]) (st' := []) (G' := (zk_H R ex sl s r el f g df)) rfl ?_
    refine zm_J_run zm_T 3 (pc' := 129) (lv' := [(0, .ref 2), (1, .ref (xa + 37)), (2, .ref z0), (3, .int (nI (60 - n)))]) (st' := [.ref (xa + 37), .ref 6]) (G' := (zk_H R ex sl s r el f g df)) rfl ?_
    refine zg_gf (fs := [.int 48, .int ix, p1, p2, p3]) rfl (zk_at hc) rfl ?_
    refine zg_VT (a := 6) (av := [.int ix]) (rest := []) (zm_T.1 37 132 _ rfl).1 zc_37_132 rfl (zm_out0 rfl) (Nat.le_of_ble_eq_true rfl) (Nat.le_of_ble_eq_true rfl) (zk_c hr) (zk_s hr) (zk_mkn hB hR1 (by omega) hI hSt hbv ix (fun z G' k => zk_k_ret (x := (.inr (zv_num ix), zv_v σ)) rfl (fun _ => rfl) k))
theorem zk_w_nil (hB : zk_BS B S) (h8 : 8 ≤ d) (hDw : zv_wD D) {n : Nat} (hn : n ≤ 60) (ih : zk_EV B S N R r f g df D d n) (hR1 : R 1 = zk_em) {j : Nat} (hS : zv_wS σ) {r0 L : List Int32} {A : List Nat} (hA : zv_wE σ.1.length L A) (hI : zk_I B S ex sl s el va ca ka q) (hSt : zk_St ex s va ca ka σ) (hD : zk_D ex df D) {xa : Nat} {ch : Value} (hch : zk_ch ex ca ka σ.2.2.1 A.reverse ch) {ix : Int32} {p1 p2 p3 : Value} (hc : ex[xa]? = some (Sum.inr (7, [.int 110, .int ix, p1, p2, p3]) : zm_E)) {d' : Nat} (hd' : d + 3 * n + 3 ≤ d') : zm_J N d' 37 28 [(0, .ref 2), (1, .ref (xa + 37)), (2, ch), (3, .int (nI (60 - n)))] [] (zk_H R ex sl s r el f g df) (zk_EQ B S R r f g df ex s va ca ka σ.2.2.2 σ.2.2.1 ((.inr (1, 0, 0, 0, []), σ))) := by
  obtain ⟨d', rfl⟩ : ∃ e, d' = e + 1 := ⟨d' - 1, by omega⟩
  have hdep : nI (60 - n) + 1 = nI (61 - n) := by rw [show 61 - n = 60 - n + 1 by omega]; exact nI_1 _
  have hr := zk_I_r hB hI
  rcases zk_ch_sh hch with rfl | ⟨z0, rfl⟩
  · refine zm_J_run zm_T 1 (pc' := 29) (lv' := [(0, .ref 2), (1, .ref (xa + 37)), (2, .null), (3, .int (nI (60 - n)))]) (st' := [.ref (xa + 37)]) (G' := (zk_H R ex sl s r el f g df)) rfl ?_
    refine zg_gf (fs := [.int 110, .int ix, p1, p2, p3]) rfl (zk_at hc) rfl ?_
    refine zm_J_run zm_T 1 (pc' := 136) (lv' := [(0, .ref 2), (1, .ref (xa + 37)), (2, .null), (3, .int (nI (60 - n)))]) (st' := []) (G' := (zk_H R ex sl s r el f g df)) rfl ?_
    refine zm_J_run zm_T 3 (pc' := 143) (lv' := [(0, .ref 2), (1, .ref (xa + 37)), (2, .null), (3, .int (nI (60 - n)))]) (st' := [.ref 7]) (G' := (zk_H R ex sl s r el f g df)) rfl ?_
    exact zm_J_fin zm_T rfl rfl ⟨ex, sl, s, el, va, ca, ka, q, 7, rfl, rfl, hI, zk_P.refl .., hSt, Or.inl ⟨rfl, rfl⟩, zk_ts.refl _, Nat.le_refl _, Nat.le_refl _⟩
  · refine zm_J_run zm_T 1 (pc' := 29) (lv' := [(0, .ref 2), (1, .ref (xa + 37)), (2, .ref z0), (3, .int (nI (60 - n)))]) (st' := [.ref (xa + 37)]) (G' := (zk_H R ex sl s r el f g df)) rfl ?_
    refine zg_gf (fs := [.int 110, .int ix, p1, p2, p3]) rfl (zk_at hc) rfl ?_
    refine zm_J_run zm_T 1 (pc' := 136) (lv' := [(0, .ref 2), (1, .ref (xa + 37)), (2, .ref z0), (3, .int (nI (60 - n)))]) (st' := []) (G' := (zk_H R ex sl s r el f g df)) rfl ?_
    refine zm_J_run zm_T 3 (pc' := 143) (lv' := [(0, .ref 2), (1, .ref (xa + 37)), (2, .ref z0), (3, .int (nI (60 - n)))]) (st' := [.ref 7]) (G' := (zk_H R ex sl s r el f g df)) rfl ?_
    exact zm_J_fin zm_T rfl rfl ⟨ex, sl, s, el, va, ca, ka, q, 7, rfl, rfl, hI, zk_P.refl .., hSt, Or.inl ⟨rfl, rfl⟩, zk_ts.refl _, Nat.le_refl _, Nat.le_refl _⟩
theorem zk_w_par (hB : zk_BS B S) (h8 : 8 ≤ d) (hDw : zv_wD D) {n : Nat} (hn : n ≤ 60) (ih : zk_EV B S N R r f g df D d n) (hR1 : R 1 = zk_em) {j : Nat} (hS : zv_wS σ) {r0 L : List Int32} {A : List Nat} (hA : zv_wE σ.1.length L A) (hI : zk_I B S ex sl s el va ca ka q) (hSt : zk_St ex s va ca ka σ) (hD : zk_D ex df D) {xa : Nat} {ch : Value} (hch : zk_ch ex ca ka σ.2.2.1 A.reverse ch) {c : Int32} {p1 p2 p3 : Value} (hcL : c ∈ L) (hb : zv_b σ (j + 1) j) (hc : ex[xa]? = some (Sum.inr (7, [.int 97, .int (nI (L.idxOf c)), p1, p2, p3]) : zm_E)) {d' : Nat} (hd' : d + 3 * n + 3 ≤ d') : zm_J N d' 37 28 [(0, .ref 2), (1, .ref (xa + 37)), (2, ch), (3, .int (nI (60 - n)))] [] (zk_H R ex sl s r el f g df) (zk_EQ B S R r f g df ex s va ca ka σ.2.2.2 σ.2.2.1 (zv_F (zv_E D n) (zv_ar L A c) σ)) := by
  obtain ⟨d', rfl⟩ : ∃ e, d' = e + 1 := ⟨d' - 1, by omega⟩
  have hdep : nI (60 - n) + 1 = nI (61 - n) := by rw [show 61 - n = 60 - n + 1 by omega]; exact nI_1 _
  have hr := zk_I_r hB hI
  have hlt : L.idxOf c < A.reverse.length := by
    rw [List.length_reverse]
    exact Nat.lt_of_lt_of_le (List.idxOf_lt_length_of_mem hcL) hA.2.1
  rcases zk_ch_sh hch with rfl | ⟨z0, rfl⟩
  · refine zm_J_run zm_T 1 (pc' := 29) (lv' := [(0, .ref 2), (1, .ref (xa + 37)), (2, .null), (3, .int (nI (60 - n)))]) (st' := [.ref (xa + 37)]) (G' := (zk_H R ex sl s r el f g df)) rfl ?_
    refine zg_gf (fs := [.int 97, .int (nI (L.idxOf c)), p1, p2, p3]) rfl (zk_at hc) rfl ?_
    refine zm_J_run zm_T 1 (pc' := 144) (lv' := [(0, .ref 2), (1, .ref (xa + 37)), (2, .null), (3, .int (nI (60 - n)))]) (st' := []) (G' := (zk_H R ex sl s r el f g df)) rfl ?_
    refine zm_J_run zm_T 3 (pc' := 147) (lv' := [(0, .ref 2), (1, .ref (xa + 37)), (2, .null), (3, .int (nI (60 - n)))]) (st' := [.ref (xa + 37), .null, .ref 2]) (G' := (zk_H R ex sl s r el f g df)) rfl ?_
    refine zg_gf (fs := [.int 97, .int (nI (L.idxOf c)), p1, p2, p3]) rfl (zk_at hc) rfl ?_
    refine zg_SK (av := [.null, .int (nI (L.idxOf c))]) (rest := [.ref 2]) (zm_T.1 37 150 _ rfl).1 zc_37_150 (Nat.le_of_ble_eq_true rfl) (Nat.le_of_ble_eq_true rfl) (zk_c hr) (zk_s hr) (zk_arg hch hlt (fun c' p k1 k2 => ⟨_, rfl, ?_⟩))
    rw [List.reverse_reverse] at k1
    have e1 : zv_ar L A c = c' := by
      show A.getD _ 0 = _
      rw [List.getD_eq_getElem?_getD, k1]
      rfl
    rw [e1]
    show zm_J N _ 37 153 [(0, .ref 2), (1, .ref (xa + 37)), (2, .null), (3, .int (nI (60 - n)))] [.ref (p + 37), .ref 2] (zk_H R ex sl s r el f g df) _
    refine zm_J_run zm_T 1 (pc' := 154) (lv' := [(0, .ref 2), (1, .ref (xa + 37)), (2, .null), (3, .int (nI (60 - n)))]) (st' := [.int (nI (60 - n)), .ref (p + 37), .ref 2]) (G' := (zk_H R ex sl s r el f g df)) rfl ?_
    refine zg_VT (a := 2) (av := [.ref (p + 37), .int (nI (60 - n))]) (rest := []) (zm_T.1 37 154 _ rfl).1 zc_37_154 rfl (zm_out0 rfl) (Nat.le_of_ble_eq_true rfl) (Nat.le_of_ble_eq_true rfl) (zk_c hr) (zk_s hr) ((zk_frc hB h8 hDw hn ih hS hb (hA.2.2 c' (List.mem_of_getElem? k1)) hI hSt hD k2 (by omega)).mono (fun z G' k => zk_k_ret rfl (fun _ => rfl) k))
  · refine zm_J_run zm_T 1 (pc' := 29) (lv' := [(0, .ref 2), (1, .ref (xa + 37)), (2, .ref z0), (3, .int (nI (60 - n)))]) (st' := [.ref (xa + 37)]) (G' := (zk_H R ex sl s r el f g df)) rfl ?_
    refine zg_gf (fs := [.int 97, .int (nI (L.idxOf c)), p1, p2, p3]) rfl (zk_at hc) rfl ?_
    refine zm_J_run zm_T 1 (pc' := 144) (lv' := [(0, .ref 2), (1, .ref (xa + 37)), (2, .ref z0), (3, .int (nI (60 - n)))]) (st' := []) (G' := (zk_H R ex sl s r el f g df)) rfl ?_
    refine zm_J_run zm_T 3 (pc' := 147) (lv' := [(0, .ref 2), (1, .ref (xa + 37)), (2, .ref z0), (3, .int (nI (60 - n)))]) (st' := [.ref (xa + 37), .ref z0, .ref 2]) (G' := (zk_H R ex sl s r el f g df)) rfl ?_
    refine zg_gf (fs := [.int 97, .int (nI (L.idxOf c)), p1, p2, p3]) rfl (zk_at hc) rfl ?_
    refine zg_SK (av := [.ref z0, .int (nI (L.idxOf c))]) (rest := [.ref 2]) (zm_T.1 37 150 _ rfl).1 zc_37_150 (Nat.le_of_ble_eq_true rfl) (Nat.le_of_ble_eq_true rfl) (zk_c hr) (zk_s hr) (zk_arg hch hlt (fun c' p k1 k2 => ⟨_, rfl, ?_⟩))
    rw [List.reverse_reverse] at k1
    have e1 : zv_ar L A c = c' := by
      show A.getD _ 0 = _
      rw [List.getD_eq_getElem?_getD, k1]
      rfl
    rw [e1]
    show zm_J N _ 37 153 [(0, .ref 2), (1, .ref (xa + 37)), (2, .ref z0), (3, .int (nI (60 - n)))] [.ref (p + 37), .ref 2] (zk_H R ex sl s r el f g df) _
    refine zm_J_run zm_T 1 (pc' := 154) (lv' := [(0, .ref 2), (1, .ref (xa + 37)), (2, .ref z0), (3, .int (nI (60 - n)))]) (st' := [.int (nI (60 - n)), .ref (p + 37), .ref 2]) (G' := (zk_H R ex sl s r el f g df)) rfl ?_
    refine zg_VT (a := 2) (av := [.ref (p + 37), .int (nI (60 - n))]) (rest := []) (zm_T.1 37 154 _ rfl).1 zc_37_154 rfl (zm_out0 rfl) (Nat.le_of_ble_eq_true rfl) (Nat.le_of_ble_eq_true rfl) (zk_c hr) (zk_s hr) ((zk_frc hB h8 hDw hn ih hS hb (hA.2.2 c' (List.mem_of_getElem? k1)) hI hSt hD k2 (by omega)).mono (fun z G' k => zk_k_ret rfl (fun _ => rfl) k))
theorem zk_w_nam (hB : zk_BS B S) (h8 : 8 ≤ d) (hDw : zv_wD D) {n : Nat} (hn : n ≤ 60) (ih : zk_EV B S N R r f g df D d n) (hR1 : R 1 = zk_em) {j : Nat} (hS : zv_wS σ) {r0 L : List Int32} {A : List Nat} (hA : zv_wE σ.1.length L A) (hI : zk_I B S ex sl s el va ca ka q) (hSt : zk_St ex s va ca ka σ) (hD : zk_D ex df D) {xa : Nat} {ch : Value} (hch : zk_ch ex ca ka σ.2.2.1 A.reverse ch) {k : Nat} {p1 p2 p3 : Value} (hk : k < 6) (hb : zv_b σ (j + 1) (j + 1)) (hc : ex[xa]? = some (Sum.inr (7, [.int 65, .int (nI k), p1, p2, p3]) : zm_E)) {d' : Nat} (hd' : d + 3 * n + 3 ≤ d') : zm_J N d' 37 28 [(0, .ref 2), (1, .ref (xa + 37)), (2, ch), (3, .int (nI (60 - n)))] [] (zk_H R ex sl s r el f g df) (zk_EQ B S R r f g df ex s va ca ka σ.2.2.2 σ.2.2.1 (zv_N D (zv_E D n) (nI k) σ)) := by
  obtain ⟨d', rfl⟩ : ∃ e, d' = e + 1 := ⟨d' - 1, by omega⟩
  have hdep : nI (60 - n) + 1 = nI (61 - n) := by rw [show 61 - n = 60 - n + 1 by omega]; exact nI_1 _
  have hr := zk_I_r hB hI
  rcases zk_ch_sh hch with rfl | ⟨z0, rfl⟩
  · refine zm_J_run zm_T 1 (pc' := 29) (lv' := [(0, .ref 2), (1, .ref (xa + 37)), (2, .null), (3, .int (nI (60 - n)))]) (st' := [.ref (xa + 37)]) (G' := (zk_H R ex sl s r el f g df)) rfl ?_
    refine zg_gf (fs := [.int 65, .int (nI k), p1, p2, p3]) rfl (zk_at hc) rfl ?_
    refine zm_J_run zm_T 1 (pc' := 158) (lv' := [(0, .ref 2), (1, .ref (xa + 37)), (2, .null), (3, .int (nI (60 - n)))]) (st' := []) (G' := (zk_H R ex sl s r el f g df)) rfl ?_
    refine zm_J_run zm_T 2 (pc' := 160) (lv' := [(0, .ref 2), (1, .ref (xa + 37)), (2, .null), (3, .int (nI (60 - n)))]) (st' := [.ref (xa + 37), .ref 2]) (G' := (zk_H R ex sl s r el f g df)) rfl ?_
    refine zg_gf (fs := [.int 65, .int (nI k), p1, p2, p3]) rfl (zk_at hc) rfl ?_
    refine zm_J_run zm_T 1 (pc' := 164) (lv' := [(0, .ref 2), (1, .ref (xa + 37)), (2, .null), (3, .int (nI (60 - n)))]) (st' := [.int (nI (60 - n)), .int (nI k), .ref 2]) (G' := (zk_H R ex sl s r el f g df)) rfl ?_
    refine zg_VT (a := 2) (av := [.int (nI k), .int (nI (60 - n))]) (rest := []) (zm_T.1 37 164 _ rfl).1 zc_37_164 rfl (zm_out0 rfl) (Nat.le_of_ble_eq_true rfl) (Nat.le_of_ble_eq_true rfl) (zk_c hr) (zk_s hr) ((zk_nam hB h8 hDw hn ih hR1 hS hb hk hI hSt hD (by omega)).mono (fun z G' k => zk_k_ret rfl (fun _ => rfl) k))
  · refine zm_J_run zm_T 1 (pc' := 29) (lv' := [(0, .ref 2), (1, .ref (xa + 37)), (2, .ref z0), (3, .int (nI (60 - n)))]) (st' := [.ref (xa + 37)]) (G' := (zk_H R ex sl s r el f g df)) rfl ?_
    refine zg_gf (fs := [.int 65, .int (nI k), p1, p2, p3]) rfl (zk_at hc) rfl ?_
    refine zm_J_run zm_T 1 (pc' := 158) (lv' := [(0, .ref 2), (1, .ref (xa + 37)), (2, .ref z0), (3, .int (nI (60 - n)))]) (st' := []) (G' := (zk_H R ex sl s r el f g df)) rfl ?_
    refine zm_J_run zm_T 2 (pc' := 160) (lv' := [(0, .ref 2), (1, .ref (xa + 37)), (2, .ref z0), (3, .int (nI (60 - n)))]) (st' := [.ref (xa + 37), .ref 2]) (G' := (zk_H R ex sl s r el f g df)) rfl ?_
    refine zg_gf (fs := [.int 65, .int (nI k), p1, p2, p3]) rfl (zk_at hc) rfl ?_
    refine zm_J_run zm_T 1 (pc' := 164) (lv' := [(0, .ref 2), (1, .ref (xa + 37)), (2, .ref z0), (3, .int (nI (60 - n)))]) (st' := [.int (nI (60 - n)), .int (nI k), .ref 2]) (G' := (zk_H R ex sl s r el f g df)) rfl ?_
    refine zg_VT (a := 2) (av := [.int (nI k), .int (nI (60 - n))]) (rest := []) (zm_T.1 37 164 _ rfl).1 zc_37_164 rfl (zm_out0 rfl) (Nat.le_of_ble_eq_true rfl) (Nat.le_of_ble_eq_true rfl) (zk_c hr) (zk_s hr) ((zk_nam hB h8 hDw hn ih hR1 hS hb hk hI hSt hD (by omega)).mono (fun z G' k => zk_k_ret rfl (fun _ => rfl) k))
theorem zk_w_pair (hB : zk_BS B S) (h8 : 8 ≤ d) (hDw : zv_wD D) {n : Nat} (hn : n ≤ 60) (ih : zk_EV B S N R r f g df D d n) (hR1 : R 1 = zk_em) {j : Nat} (hS : zv_wS σ) {r0 L : List Int32} {A : List Nat} (hA : zv_wE σ.1.length L A) (hI : zk_I B S ex sl s el va ca ka q) (hSt : zk_St ex s va ca ka σ) (hD : zk_D ex df D) {xa : Nat} {ch : Value} (hch : zk_ch ex ca ka σ.2.2.1 A.reverse ch) {ix : Int32} {y1 y2 m1 m2 : Nat} {p3 : Value} (hX1 : zk_X ex L m1 r0 y1) (hX2 : zk_X ex L m2 (zv_sk r0 1) y2) (hok1 : zv_ok L r0 1 = true) (hok2 : zv_ok L (zv_sk r0 1) 1 = true) (hb : zv_b σ (zv_n r0 1 + (zv_n (zv_sk r0 1) 1 + (j + 1))) (zv_n r0 1 + (zv_n (zv_sk r0 1) 1 + (j + 1)))) (hc : ex[xa]? = some (Sum.inr (7, [.int 58, .int ix, .ref (y1 + 37), .ref (y2 + 37), p3]) : zm_E)) {d' : Nat} (hd' : d + 3 * n + 3 ≤ d') : zm_J N d' 37 28 [(0, .ref 2), (1, .ref (xa + 37)), (2, ch), (3, .int (nI (60 - n)))] [] (zk_H R ex sl s r el f g df) (zk_EQ B S R r f g df ex s va ca ka σ.2.2.2 σ.2.2.1 (zv_P r0 L A σ)) := by
  obtain ⟨d', rfl⟩ : ∃ e, d' = e + 1 := ⟨d' - 1, by omega⟩
  have hdep : nI (60 - n) + 1 = nI (61 - n) := by rw [show 61 - n = 60 - n + 1 by omega]; exact nI_1 _
  have hr := zk_I_r hB hI
  obtain ⟨l1, l2, l3, l4⟩ := zv_b_len hS hb
  obtain ⟨c1, c2, c3, c4⟩ := zv_cl_ok hS hok1 hA hb
  have c5 := zv_cl_2 r0 L A σ
  have hA1 := hA.up c3.len
  obtain ⟨n1, n2, n3, n4⟩ := zv_b_len c1 c4
  obtain ⟨e1, e2, e3, e4⟩ := zv_cl_ok c1 hok2 hA1 c4
  have e5 := zv_cl_2 (zv_sk r0 1) L A (zv_cl r0 L A σ).2
  have g3 := e4.2.2.1
  have g4 := e4.2.2.2
  unfold zv_P
  rcases zk_ch_sh hch with rfl | ⟨z0, rfl⟩
  · refine zm_J_run zm_T 1 (pc' := 29) (lv' := [(0, .ref 2), (1, .ref (xa + 37)), (2, .null), (3, .int (nI (60 - n)))]) (st' := [.ref (xa + 37)]) (G' := (zk_H R ex sl s r el f g df)) rfl ?_
    refine zg_gf (fs := [.int 58, .int ix, .ref (y1 + 37), .ref (y2 + 37), p3]) rfl (zk_at hc) rfl ?_
    refine zm_J_run zm_T 1 (pc' := 168) (lv' := [(0, .ref 2), (1, .ref (xa + 37)), (2, .null), (3, .int (nI (60 - n)))]) (st' := []) (G' := (zk_H R ex sl s r el f g df)) rfl ?_
    refine zm_J_run zm_T 4 (pc' := 174) (lv' := [(0, .ref 2), (1, .ref (xa + 37)), (2, .null), (3, .int (nI (60 - n)))]) (st' := [.ref (xa + 37), .ref 2, .ref 6]) (G' := (zk_H R ex sl s r el f g df)) rfl ?_
    refine zg_gf (fs := [.int 58, .int ix, .ref (y1 + 37), .ref (y2 + 37), p3]) rfl (zk_at hc) rfl ?_
    refine zm_J_run zm_T 1 (pc' := 178) (lv' := [(0, .ref 2), (1, .ref (xa + 37)), (2, .null), (3, .int (nI (60 - n)))]) (st' := [.null, .ref (y1 + 37), .ref 2, .ref 6]) (G' := (zk_H R ex sl s r el f g df)) rfl ?_
    refine zg_VK (a := 2) (av := [.ref (y1 + 37), .null]) (rest := [.ref 6]) (zm_T.1 37 178 _ rfl).1 zc_37_178 rfl (Nat.le_of_ble_eq_true rfl) (Nat.le_of_ble_eq_true rfl) (zk_c hr) (zk_s hr) (zk_clf hB hR1 (by omega) hI hSt (by omega) hX1 hA hch (fun ex' sl' s' el' ca' q' p i1 P1 t1 cp ts1 => ⟨_, rfl, ?_⟩))
    have hr1 := zk_I_r hB i1
    generalize zv_cl r0 L A σ = xx at *
    obtain ⟨x1, σ1⟩ := xx
    dsimp only at c1 c2 c3 c4 c5 e1 e2 e3 e4 e5 t1 cp hA1 n1 n2 n3 n4 g3 g4 ⊢
    have na : σ1.2.2.1 = σ.2.2.1 := by rw [c5]
    have nvv : σ1.2.2.2 = σ.2.2.2 := by rw [c5]
    have hch1 := zk_ch_up P1 (Nat.le_of_eq na.symm) _ _ hch
    have hc1 := P1.2.1 xa 7 _ (Or.inr rfl) hc
    have hX21 := zk_X_up P1.2.1 _ _ _ hX2
    show zm_J N _ 37 181 [(0, .ref 2), (1, .ref (xa + 37)), (2, .null), (3, .int (nI (60 - n)))] [.ref (p + 37), .ref 6] (zk_H R ex' sl' s' r el' f g df) _
    refine zm_J_run zm_T 2 (pc' := 183) (lv' := [(0, .ref 2), (1, .ref (xa + 37)), (2, .null), (3, .int (nI (60 - n)))]) (st' := [.ref (xa + 37), .ref 2, .ref (p + 37), .ref 6]) (G' := (zk_H R ex' sl' s' r el' f g df)) rfl ?_
    refine zg_gf (fs := [.int 58, .int ix, .ref (y1 + 37), .ref (y2 + 37), p3]) rfl (zk_at hc1) rfl ?_
    refine zm_J_run zm_T 1 (pc' := 187) (lv' := [(0, .ref 2), (1, .ref (xa + 37)), (2, .null), (3, .int (nI (60 - n)))]) (st' := [.null, .ref (y2 + 37), .ref 2, .ref (p + 37), .ref 6]) (G' := (zk_H R ex' sl' s' r el' f g df)) rfl ?_
    refine zg_VK (a := 2) (av := [.ref (y2 + 37), .null]) (rest := [.ref (p + 37), .ref 6]) (zm_T.1 37 187 _ rfl).1 zc_37_187 rfl (Nat.le_of_ble_eq_true rfl) (Nat.le_of_ble_eq_true rfl) (zk_c hr1) (zk_s hr1) (zk_clf hB hR1 (by omega) i1 t1 (by omega) hX21 hA1 hch1 (fun ex2 sl2 s2 el2 ca2 q2 p2 i2 P2 t2 cp2 ts2 => ⟨_, rfl, ?_⟩))
    have hr2 := zk_I_r hB i2
    generalize zv_cl (zv_sk r0 1) L A σ1 = xx at *
    obtain ⟨x2, σ2⟩ := xx
    dsimp only at e1 e2 e3 e4 e5 t2 cp2 g3 g4 ⊢
    have na2 : σ2.2.2.1 = σ1.2.2.1 := by rw [e5]
    have nv2 : σ2.2.2.2 = σ1.2.2.2 := by rw [e5]
    have hP := P1.trans P2 (Nat.le_of_eq nvv.symm) (Nat.le_of_eq na.symm)
    show zm_J N _ 37 190 [(0, .ref 2), (1, .ref (xa + 37)), (2, .null), (3, .int (nI (60 - n)))] [.ref (p2 + 37), .ref (p + 37), .ref 6] (zk_H R ex2 sl2 s2 r el2 f g df) _
    refine zg_VT (a := 6) (av := [.ref (p + 37), .ref (p2 + 37)]) (rest := []) (zm_T.1 37 190 _ rfl).1 zc_37_190 rfl (zm_out0 rfl) (Nat.le_of_ble_eq_true rfl) (Nat.le_of_ble_eq_true rfl) (zk_c hr2) (zk_s hr2) (zk_mkp hB hR1 (by omega) i2 t2 (by omega) (P2.1.2.1 _ _ cp) cp2 (fun z G' k => zk_k_ret (x := (.inr (2, 0, x1, x2, []), zv_v σ2)) rfl (fun _ => rfl) (zk_EQ_tr hP (ts1.trans ts2) (by omega) (by omega) k)))
  · refine zm_J_run zm_T 1 (pc' := 29) (lv' := [(0, .ref 2), (1, .ref (xa + 37)), (2, .ref z0), (3, .int (nI (60 - n)))]) (st' := [.ref (xa + 37)]) (G' := (zk_H R ex sl s r el f g df)) rfl ?_
    refine zg_gf (fs := [.int 58, .int ix, .ref (y1 + 37), .ref (y2 + 37), p3]) rfl (zk_at hc) rfl ?_
    refine zm_J_run zm_T 1 (pc' := 168) (lv' := [(0, .ref 2), (1, .ref (xa + 37)), (2, .ref z0), (3, .int (nI (60 - n)))]) (st' := []) (G' := (zk_H R ex sl s r el f g df)) rfl ?_
    refine zm_J_run zm_T 4 (pc' := 174) (lv' := [(0, .ref 2), (1, .ref (xa + 37)), (2, .ref z0), (3, .int (nI (60 - n)))]) (st' := [.ref (xa + 37), .ref 2, .ref 6]) (G' := (zk_H R ex sl s r el f g df)) rfl ?_
    refine zg_gf (fs := [.int 58, .int ix, .ref (y1 + 37), .ref (y2 + 37), p3]) rfl (zk_at hc) rfl ?_
    refine zm_J_run zm_T 1 (pc' := 178) (lv' := [(0, .ref 2), (1, .ref (xa + 37)), (2, .ref z0), (3, .int (nI (60 - n)))]) (st' := [.ref z0, .ref (y1 + 37), .ref 2, .ref 6]) (G' := (zk_H R ex sl s r el f g df)) rfl ?_
    refine zg_VK (a := 2) (av := [.ref (y1 + 37), .ref z0]) (rest := [.ref 6]) (zm_T.1 37 178 _ rfl).1 zc_37_178 rfl (Nat.le_of_ble_eq_true rfl) (Nat.le_of_ble_eq_true rfl) (zk_c hr) (zk_s hr) (zk_clf hB hR1 (by omega) hI hSt (by omega) hX1 hA hch (fun ex' sl' s' el' ca' q' p i1 P1 t1 cp ts1 => ⟨_, rfl, ?_⟩))
    have hr1 := zk_I_r hB i1
    generalize zv_cl r0 L A σ = xx at *
    obtain ⟨x1, σ1⟩ := xx
    dsimp only at c1 c2 c3 c4 c5 e1 e2 e3 e4 e5 t1 cp hA1 n1 n2 n3 n4 g3 g4 ⊢
    have na : σ1.2.2.1 = σ.2.2.1 := by rw [c5]
    have nvv : σ1.2.2.2 = σ.2.2.2 := by rw [c5]
    have hch1 := zk_ch_up P1 (Nat.le_of_eq na.symm) _ _ hch
    have hc1 := P1.2.1 xa 7 _ (Or.inr rfl) hc
    have hX21 := zk_X_up P1.2.1 _ _ _ hX2
    show zm_J N _ 37 181 [(0, .ref 2), (1, .ref (xa + 37)), (2, .ref z0), (3, .int (nI (60 - n)))] [.ref (p + 37), .ref 6] (zk_H R ex' sl' s' r el' f g df) _
    refine zm_J_run zm_T 2 (pc' := 183) (lv' := [(0, .ref 2), (1, .ref (xa + 37)), (2, .ref z0), (3, .int (nI (60 - n)))]) (st' := [.ref (xa + 37), .ref 2, .ref (p + 37), .ref 6]) (G' := (zk_H R ex' sl' s' r el' f g df)) rfl ?_
    refine zg_gf (fs := [.int 58, .int ix, .ref (y1 + 37), .ref (y2 + 37), p3]) rfl (zk_at hc1) rfl ?_
    refine zm_J_run zm_T 1 (pc' := 187) (lv' := [(0, .ref 2), (1, .ref (xa + 37)), (2, .ref z0), (3, .int (nI (60 - n)))]) (st' := [.ref z0, .ref (y2 + 37), .ref 2, .ref (p + 37), .ref 6]) (G' := (zk_H R ex' sl' s' r el' f g df)) rfl ?_
    refine zg_VK (a := 2) (av := [.ref (y2 + 37), .ref z0]) (rest := [.ref (p + 37), .ref 6]) (zm_T.1 37 187 _ rfl).1 zc_37_187 rfl (Nat.le_of_ble_eq_true rfl) (Nat.le_of_ble_eq_true rfl) (zk_c hr1) (zk_s hr1) (zk_clf hB hR1 (by omega) i1 t1 (by omega) hX21 hA1 hch1 (fun ex2 sl2 s2 el2 ca2 q2 p2 i2 P2 t2 cp2 ts2 => ⟨_, rfl, ?_⟩))
    have hr2 := zk_I_r hB i2
    generalize zv_cl (zv_sk r0 1) L A σ1 = xx at *
    obtain ⟨x2, σ2⟩ := xx
    dsimp only at e1 e2 e3 e4 e5 t2 cp2 g3 g4 ⊢
    have na2 : σ2.2.2.1 = σ1.2.2.1 := by rw [e5]
    have nv2 : σ2.2.2.2 = σ1.2.2.2 := by rw [e5]
    have hP := P1.trans P2 (Nat.le_of_eq nvv.symm) (Nat.le_of_eq na.symm)
    show zm_J N _ 37 190 [(0, .ref 2), (1, .ref (xa + 37)), (2, .ref z0), (3, .int (nI (60 - n)))] [.ref (p2 + 37), .ref (p + 37), .ref 6] (zk_H R ex2 sl2 s2 r el2 f g df) _
    refine zg_VT (a := 6) (av := [.ref (p + 37), .ref (p2 + 37)]) (rest := []) (zm_T.1 37 190 _ rfl).1 zc_37_190 rfl (zm_out0 rfl) (Nat.le_of_ble_eq_true rfl) (Nat.le_of_ble_eq_true rfl) (zk_c hr2) (zk_s hr2) (zk_mkp hB hR1 (by omega) i2 t2 (by omega) (P2.1.2.1 _ _ cp) cp2 (fun z G' k => zk_k_ret (x := (.inr (2, 0, x1, x2, []), zv_v σ2)) rfl (fun _ => rfl) (zk_EQ_tr hP (ts1.trans ts2) (by omega) (by omega) k)))
theorem zk_w_hd (hB : zk_BS B S) (h8 : 8 ≤ d) (hDw : zv_wD D) {n : Nat} (hn : n ≤ 60) (ih : zk_EV B S N R r f g df D d n) (hR1 : R 1 = zk_em) {j : Nat} (hS : zv_wS σ) {r0 L : List Int32} {A : List Nat} (hA : zv_wE σ.1.length L A) (hI : zk_I B S ex sl s el va ca ka q) (hSt : zk_St ex s va ca ka σ) (hD : zk_D ex df D) {xa : Nat} {ch : Value} (hch : zk_ch ex ca ka σ.2.2.1 A.reverse ch) {ix : Int32} {y1 m1 : Nat} {p2 p3 : Value} (hX1 : zk_X ex L m1 r0 y1) (hok1 : zv_ok L r0 1 = true) (hb : zv_b σ (zv_n r0 1 + (j + 1)) (zv_n r0 1 + (j + 1))) (hc : ex[xa]? = some (Sum.inr (7, [.int 104, .int ix, .ref (y1 + 37), p2, p3]) : zm_E)) {d' : Nat} (hd' : d + 3 * n + 3 ≤ d') : zm_J N d' 37 28 [(0, .ref 2), (1, .ref (xa + 37)), (2, ch), (3, .int (nI (60 - n)))] [] (zk_H R ex sl s r el f g df) (zk_EQ B S R r f g df ex s va ca ka σ.2.2.2 σ.2.2.1 (zv_B (zv_E D n r0 L A σ) (zv_G D (zv_E D n) 104 r0 L A))) := by
  obtain ⟨d', rfl⟩ : ∃ e, d' = e + 1 := ⟨d' - 1, by omega⟩
  have hdep : nI (60 - n) + 1 = nI (61 - n) := by rw [show 61 - n = 60 - n + 1 by omega]; exact nI_1 _
  have hr := zk_I_r hB hI
  have hq := zv_E_ok hDw n r0 L A σ _ hS hok1 hA hb
  have hih := ih r0 L A σ _ ex sl s el va ca ka q y1 m1 ch hS hok1 hA hb hI hSt hD hX1 hch
  rcases zk_ch_sh hch with rfl | ⟨z0, rfl⟩
  · refine zm_J_run zm_T 1 (pc' := 29) (lv' := [(0, .ref 2), (1, .ref (xa + 37)), (2, .null), (3, .int (nI (60 - n)))]) (st' := [.ref (xa + 37)]) (G' := (zk_H R ex sl s r el f g df)) rfl ?_
    refine zg_gf (fs := [.int 104, .int ix, .ref (y1 + 37), p2, p3]) rfl (zk_at hc) rfl ?_
    refine zm_J_run zm_T 1 (pc' := 202) (lv' := [(0, .ref 2), (1, .ref (xa + 37)), (2, .null), (3, .int (nI (60 - n)))]) (st' := []) (G' := (zk_H R ex sl s r el f g df)) rfl ?_
    refine zm_J_run zm_T 3 (pc' := 205) (lv' := [(0, .ref 2), (1, .ref (xa + 37)), (2, .null), (3, .int (nI (60 - n)))]) (st' := [.ref (xa + 37), .ref 2, .ref 2]) (G' := (zk_H R ex sl s r el f g df)) rfl ?_
    refine zg_gf (fs := [.int 104, .int ix, .ref (y1 + 37), p2, p3]) rfl (zk_at hc) rfl ?_
    refine zm_J_run zm_T 4 (pc' := 212) (lv' := [(0, .ref 2), (1, .ref (xa + 37)), (2, .null), (3, .int (nI (60 - n)))]) (st' := [.int ((nI (60 - n)) + 1), .null, .ref (y1 + 37), .ref 2, .ref 2]) (G' := (zk_H R ex sl s r el f g df)) rfl ?_
    rw [hdep]
    show zm_J N _ 37 212 [(0, .ref 2), (1, .ref (xa + 37)), (2, .null), (3, .int (nI (60 - n)))] [.int (nI (61 - n)), .null, .ref (y1 + 37), .ref 2, .ref 2] (zk_H R ex sl s r el f g df) _
    refine zg_VT (a := 2) (av := [.ref (y1 + 37), .null, .int (nI (61 - n))]) (rest := [.ref 2]) (zm_T.1 37 212 _ rfl).1 zc_37_212 rfl (zm_out0 rfl) (Nat.le_of_ble_eq_true rfl) (Nat.le_of_ble_eq_true rfl) (zk_c hr) (zk_s hr) ((zm_J_d (by omega) hih).mono (fun z G' k => ?_))
    generalize zv_E D n r0 L A σ = o at k hq ⊢
    obtain ⟨o1, σ'⟩ := o
    cases o1 with
    | inl e => exact zk_k_er k k
    | inr v =>
      obtain ⟨ex', sl', s', el', va', ca', ka', q', u, rfl, rfl, o3, o4, o5, o6, o7, o8, o9⟩ := k
      obtain ⟨w1, w2, w3, w4⟩ := hq v rfl
      dsimp only at w1 w2 w3 w4
      have hr1 := zk_I_r hB o3
      show zm_J N _ 37 215 [(0, .ref 2), (1, .ref (xa + 37)), (2, .null), (3, .int (nI (60 - n)))] [.ref u, .ref 2] (zk_H R ex' sl' s' r el' f g df) _
      have hD' := zk_D_up o4.2.1 hD
      rw [show zv_B (Sum.inr v, σ') (zv_G D (zv_E D n) 104 r0 L A) = if v.1 = 1 then (.inl 2, σ') else if v.1 = 2 then zv_F (zv_E D n) v.2.2.1 σ' else (.inl 5, σ') from zv_G_h ..]
      refine zg_ST (av := [.ref u]) (rest := [.ref 2]) (zm_T.1 37 215 _ rfl).1 zc_37_215 (zm_out0 rfl) (Nat.le_of_ble_eq_true rfl) (Nat.le_of_ble_eq_true rfl) (zk_c hr1) (zk_s hr1) (zk_mbp hB o3 (by omega) o6 (fun h2 => ?_) (fun h1 z G e => zk_k_er e (by rw [if_pos h1]; exact zk_ER_tr o4.2.1 o7 e)) (fun h1 h2 z G e => zk_k_er e (by rw [if_neg h1, if_neg h2]; exact zk_ER_tr o4.2.1 o7 e)))
      rw [if_neg (fun z => absurd (z.symm.trans h2) (by decide)), if_pos h2]
      rcases o6 with ⟨e1, _⟩ | ⟨m, y, x, hh, t, a, e1, e2, rfl, e4, e5⟩
      · exact absurd (e1.symm.trans h2) (by decide)
      obtain ⟨⟨ph, k1, rfl⟩, pt, k2, rfl⟩ : (∃ p, ca'[v.2.2.1]? = some p ∧ hh = .ref (p + 37)) ∧ ∃ p, ca'[v.2.2.2.1]? = some p ∧ t = .ref (p + 37) := by
        rcases e5 with z | z | z
        · exact absurd (z.1.symm.trans h2) (by decide)
        · exact z.2
        · exact absurd (z.1.symm.trans h2) (by decide)
      show zm_J N _ 37 218 [(0, .ref 2), (1, .ref (xa + 37)), (2, .null), (3, .int (nI (60 - n)))] [.ref (y + 37), .ref 2] (zk_H R ex' sl' s' r el' f g df) _
      refine zg_gf (fs := [.int v.1, x, .ref (ph + 37), .ref (pt + 37), a]) rfl (zk_at e4) rfl ?_
      refine zm_J_run zm_T 1 (pc' := 222) (lv' := [(0, .ref 2), (1, .ref (xa + 37)), (2, .null), (3, .int (nI (60 - n)))]) (st' := [.int (nI (60 - n)), .ref (ph + 37), .ref 2]) (G' := (zk_H R ex' sl' s' r el' f g df)) rfl ?_
      refine zg_VT (a := 2) (av := [.ref (ph + 37), .int (nI (60 - n))]) (rest := []) (zm_T.1 37 222 _ rfl).1 zc_37_222 rfl (zm_out0 rfl) (Nat.le_of_ble_eq_true rfl) (Nat.le_of_ble_eq_true rfl) (zk_c hr1) (zk_s hr1) ((zk_frc hB h8 hDw hn ih w1 w4 (w2.1 h2).1 o3 o5 hD' k1 (by omega)).mono (fun z G' k => zk_k_ret rfl (fun _ => rfl) (zk_EQ_tr o4 o7 o8 o9 k)))
  · refine zm_J_run zm_T 1 (pc' := 29) (lv' := [(0, .ref 2), (1, .ref (xa + 37)), (2, .ref z0), (3, .int (nI (60 - n)))]) (st' := [.ref (xa + 37)]) (G' := (zk_H R ex sl s r el f g df)) rfl ?_
    refine zg_gf (fs := [.int 104, .int ix, .ref (y1 + 37), p2, p3]) rfl (zk_at hc) rfl ?_
    refine zm_J_run zm_T 1 (pc' := 202) (lv' := [(0, .ref 2), (1, .ref (xa + 37)), (2, .ref z0), (3, .int (nI (60 - n)))]) (st' := []) (G' := (zk_H R ex sl s r el f g df)) rfl ?_
    refine zm_J_run zm_T 3 (pc' := 205) (lv' := [(0, .ref 2), (1, .ref (xa + 37)), (2, .ref z0), (3, .int (nI (60 - n)))]) (st' := [.ref (xa + 37), .ref 2, .ref 2]) (G' := (zk_H R ex sl s r el f g df)) rfl ?_
    refine zg_gf (fs := [.int 104, .int ix, .ref (y1 + 37), p2, p3]) rfl (zk_at hc) rfl ?_
    refine zm_J_run zm_T 4 (pc' := 212) (lv' := [(0, .ref 2), (1, .ref (xa + 37)), (2, .ref z0), (3, .int (nI (60 - n)))]) (st' := [.int ((nI (60 - n)) + 1), .ref z0, .ref (y1 + 37), .ref 2, .ref 2]) (G' := (zk_H R ex sl s r el f g df)) rfl ?_
    rw [hdep]
    show zm_J N _ 37 212 [(0, .ref 2), (1, .ref (xa + 37)), (2, .ref z0), (3, .int (nI (60 - n)))] [.int (nI (61 - n)), .ref z0, .ref (y1 + 37), .ref 2, .ref 2] (zk_H R ex sl s r el f g df) _
    refine zg_VT (a := 2) (av := [.ref (y1 + 37), .ref z0, .int (nI (61 - n))]) (rest := [.ref 2]) (zm_T.1 37 212 _ rfl).1 zc_37_212 rfl (zm_out0 rfl) (Nat.le_of_ble_eq_true rfl) (Nat.le_of_ble_eq_true rfl) (zk_c hr) (zk_s hr) ((zm_J_d (by omega) hih).mono (fun z G' k => ?_))
    generalize zv_E D n r0 L A σ = o at k hq ⊢
    obtain ⟨o1, σ'⟩ := o
    cases o1 with
    | inl e => exact zk_k_er k k
    | inr v =>
      obtain ⟨ex', sl', s', el', va', ca', ka', q', u, rfl, rfl, o3, o4, o5, o6, o7, o8, o9⟩ := k
      obtain ⟨w1, w2, w3, w4⟩ := hq v rfl
      dsimp only at w1 w2 w3 w4
      have hr1 := zk_I_r hB o3
      show zm_J N _ 37 215 [(0, .ref 2), (1, .ref (xa + 37)), (2, .ref z0), (3, .int (nI (60 - n)))] [.ref u, .ref 2] (zk_H R ex' sl' s' r el' f g df) _
      have hD' := zk_D_up o4.2.1 hD
      rw [show zv_B (Sum.inr v, σ') (zv_G D (zv_E D n) 104 r0 L A) = if v.1 = 1 then (.inl 2, σ') else if v.1 = 2 then zv_F (zv_E D n) v.2.2.1 σ' else (.inl 5, σ') from zv_G_h ..]
      refine zg_ST (av := [.ref u]) (rest := [.ref 2]) (zm_T.1 37 215 _ rfl).1 zc_37_215 (zm_out0 rfl) (Nat.le_of_ble_eq_true rfl) (Nat.le_of_ble_eq_true rfl) (zk_c hr1) (zk_s hr1) (zk_mbp hB o3 (by omega) o6 (fun h2 => ?_) (fun h1 z G e => zk_k_er e (by rw [if_pos h1]; exact zk_ER_tr o4.2.1 o7 e)) (fun h1 h2 z G e => zk_k_er e (by rw [if_neg h1, if_neg h2]; exact zk_ER_tr o4.2.1 o7 e)))
      rw [if_neg (fun z => absurd (z.symm.trans h2) (by decide)), if_pos h2]
      rcases o6 with ⟨e1, _⟩ | ⟨m, y, x, hh, t, a, e1, e2, rfl, e4, e5⟩
      · exact absurd (e1.symm.trans h2) (by decide)
      obtain ⟨⟨ph, k1, rfl⟩, pt, k2, rfl⟩ : (∃ p, ca'[v.2.2.1]? = some p ∧ hh = .ref (p + 37)) ∧ ∃ p, ca'[v.2.2.2.1]? = some p ∧ t = .ref (p + 37) := by
        rcases e5 with z | z | z
        · exact absurd (z.1.symm.trans h2) (by decide)
        · exact z.2
        · exact absurd (z.1.symm.trans h2) (by decide)
      show zm_J N _ 37 218 [(0, .ref 2), (1, .ref (xa + 37)), (2, .ref z0), (3, .int (nI (60 - n)))] [.ref (y + 37), .ref 2] (zk_H R ex' sl' s' r el' f g df) _
      refine zg_gf (fs := [.int v.1, x, .ref (ph + 37), .ref (pt + 37), a]) rfl (zk_at e4) rfl ?_
      refine zm_J_run zm_T 1 (pc' := 222) (lv' := [(0, .ref 2), (1, .ref (xa + 37)), (2, .ref z0), (3, .int (nI (60 - n)))]) (st' := [.int (nI (60 - n)), .ref (ph + 37), .ref 2]) (G' := (zk_H R ex' sl' s' r el' f g df)) rfl ?_
      refine zg_VT (a := 2) (av := [.ref (ph + 37), .int (nI (60 - n))]) (rest := []) (zm_T.1 37 222 _ rfl).1 zc_37_222 rfl (zm_out0 rfl) (Nat.le_of_ble_eq_true rfl) (Nat.le_of_ble_eq_true rfl) (zk_c hr1) (zk_s hr1) ((zk_frc hB h8 hDw hn ih w1 w4 (w2.1 h2).1 o3 o5 hD' k1 (by omega)).mono (fun z G' k => zk_k_ret rfl (fun _ => rfl) (zk_EQ_tr o4 o7 o8 o9 k)))
theorem zk_w_tl (hB : zk_BS B S) (h8 : 8 ≤ d) (hDw : zv_wD D) {n : Nat} (hn : n ≤ 60) (ih : zk_EV B S N R r f g df D d n) (hR1 : R 1 = zk_em) {j : Nat} (hS : zv_wS σ) {r0 L : List Int32} {A : List Nat} (hA : zv_wE σ.1.length L A) (hI : zk_I B S ex sl s el va ca ka q) (hSt : zk_St ex s va ca ka σ) (hD : zk_D ex df D) {xa : Nat} {ch : Value} (hch : zk_ch ex ca ka σ.2.2.1 A.reverse ch) {ix : Int32} {y1 m1 : Nat} {p2 p3 : Value} (hX1 : zk_X ex L m1 r0 y1) (hok1 : zv_ok L r0 1 = true) (hb : zv_b σ (zv_n r0 1 + (j + 1)) (zv_n r0 1 + (j + 1))) (hc : ex[xa]? = some (Sum.inr (7, [.int 116, .int ix, .ref (y1 + 37), p2, p3]) : zm_E)) {d' : Nat} (hd' : d + 3 * n + 3 ≤ d') : zm_J N d' 37 28 [(0, .ref 2), (1, .ref (xa + 37)), (2, ch), (3, .int (nI (60 - n)))] [] (zk_H R ex sl s r el f g df) (zk_EQ B S R r f g df ex s va ca ka σ.2.2.2 σ.2.2.1 (zv_B (zv_E D n r0 L A σ) (zv_G D (zv_E D n) 116 r0 L A))) := by
  obtain ⟨d', rfl⟩ : ∃ e, d' = e + 1 := ⟨d' - 1, by omega⟩
  have hdep : nI (60 - n) + 1 = nI (61 - n) := by rw [show 61 - n = 60 - n + 1 by omega]; exact nI_1 _
  have hr := zk_I_r hB hI
  have hq := zv_E_ok hDw n r0 L A σ _ hS hok1 hA hb
  have hih := ih r0 L A σ _ ex sl s el va ca ka q y1 m1 ch hS hok1 hA hb hI hSt hD hX1 hch
  rcases zk_ch_sh hch with rfl | ⟨z0, rfl⟩
  · refine zm_J_run zm_T 1 (pc' := 29) (lv' := [(0, .ref 2), (1, .ref (xa + 37)), (2, .null), (3, .int (nI (60 - n)))]) (st' := [.ref (xa + 37)]) (G' := (zk_H R ex sl s r el f g df)) rfl ?_
    refine zg_gf (fs := [.int 116, .int ix, .ref (y1 + 37), p2, p3]) rfl (zk_at hc) rfl ?_
    refine zm_J_run zm_T 1 (pc' := 226) (lv' := [(0, .ref 2), (1, .ref (xa + 37)), (2, .null), (3, .int (nI (60 - n)))]) (st' := []) (G' := (zk_H R ex sl s r el f g df)) rfl ?_
    refine zm_J_run zm_T 3 (pc' := 229) (lv' := [(0, .ref 2), (1, .ref (xa + 37)), (2, .null), (3, .int (nI (60 - n)))]) (st' := [.ref (xa + 37), .ref 2, .ref 2]) (G' := (zk_H R ex sl s r el f g df)) rfl ?_
    refine zg_gf (fs := [.int 116, .int ix, .ref (y1 + 37), p2, p3]) rfl (zk_at hc) rfl ?_
    refine zm_J_run zm_T 4 (pc' := 236) (lv' := [(0, .ref 2), (1, .ref (xa + 37)), (2, .null), (3, .int (nI (60 - n)))]) (st' := [.int ((nI (60 - n)) + 1), .null, .ref (y1 + 37), .ref 2, .ref 2]) (G' := (zk_H R ex sl s r el f g df)) rfl ?_
    rw [hdep]
    show zm_J N _ 37 236 [(0, .ref 2), (1, .ref (xa + 37)), (2, .null), (3, .int (nI (60 - n)))] [.int (nI (61 - n)), .null, .ref (y1 + 37), .ref 2, .ref 2] (zk_H R ex sl s r el f g df) _
    refine zg_VT (a := 2) (av := [.ref (y1 + 37), .null, .int (nI (61 - n))]) (rest := [.ref 2]) (zm_T.1 37 236 _ rfl).1 zc_37_236 rfl (zm_out0 rfl) (Nat.le_of_ble_eq_true rfl) (Nat.le_of_ble_eq_true rfl) (zk_c hr) (zk_s hr) ((zm_J_d (by omega) hih).mono (fun z G' k => ?_))
    generalize zv_E D n r0 L A σ = o at k hq ⊢
    obtain ⟨o1, σ'⟩ := o
    cases o1 with
    | inl e => exact zk_k_er k k
    | inr v =>
      obtain ⟨ex', sl', s', el', va', ca', ka', q', u, rfl, rfl, o3, o4, o5, o6, o7, o8, o9⟩ := k
      obtain ⟨w1, w2, w3, w4⟩ := hq v rfl
      dsimp only at w1 w2 w3 w4
      have hr1 := zk_I_r hB o3
      show zm_J N _ 37 239 [(0, .ref 2), (1, .ref (xa + 37)), (2, .null), (3, .int (nI (60 - n)))] [.ref u, .ref 2] (zk_H R ex' sl' s' r el' f g df) _
      have hD' := zk_D_up o4.2.1 hD
      rw [show zv_B (Sum.inr v, σ') (zv_G D (zv_E D n) 116 r0 L A) = if v.1 = 1 then (.inl 2, σ') else if v.1 = 2 then zv_F (zv_E D n) v.2.2.2.1 σ' else (.inl 5, σ') from zv_G_t ..]
      refine zg_ST (av := [.ref u]) (rest := [.ref 2]) (zm_T.1 37 239 _ rfl).1 zc_37_239 (zm_out0 rfl) (Nat.le_of_ble_eq_true rfl) (Nat.le_of_ble_eq_true rfl) (zk_c hr1) (zk_s hr1) (zk_mbp hB o3 (by omega) o6 (fun h2 => ?_) (fun h1 z G e => zk_k_er e (by rw [if_pos h1]; exact zk_ER_tr o4.2.1 o7 e)) (fun h1 h2 z G e => zk_k_er e (by rw [if_neg h1, if_neg h2]; exact zk_ER_tr o4.2.1 o7 e)))
      rw [if_neg (fun z => absurd (z.symm.trans h2) (by decide)), if_pos h2]
      rcases o6 with ⟨e1, _⟩ | ⟨m, y, x, hh, t, a, e1, e2, rfl, e4, e5⟩
      · exact absurd (e1.symm.trans h2) (by decide)
      obtain ⟨⟨ph, k1, rfl⟩, pt, k2, rfl⟩ : (∃ p, ca'[v.2.2.1]? = some p ∧ hh = .ref (p + 37)) ∧ ∃ p, ca'[v.2.2.2.1]? = some p ∧ t = .ref (p + 37) := by
        rcases e5 with z | z | z
        · exact absurd (z.1.symm.trans h2) (by decide)
        · exact z.2
        · exact absurd (z.1.symm.trans h2) (by decide)
      show zm_J N _ 37 242 [(0, .ref 2), (1, .ref (xa + 37)), (2, .null), (3, .int (nI (60 - n)))] [.ref (y + 37), .ref 2] (zk_H R ex' sl' s' r el' f g df) _
      refine zg_gf (fs := [.int v.1, x, .ref (ph + 37), .ref (pt + 37), a]) rfl (zk_at e4) rfl ?_
      refine zm_J_run zm_T 1 (pc' := 246) (lv' := [(0, .ref 2), (1, .ref (xa + 37)), (2, .null), (3, .int (nI (60 - n)))]) (st' := [.int (nI (60 - n)), .ref (pt + 37), .ref 2]) (G' := (zk_H R ex' sl' s' r el' f g df)) rfl ?_
      refine zg_VT (a := 2) (av := [.ref (pt + 37), .int (nI (60 - n))]) (rest := []) (zm_T.1 37 246 _ rfl).1 zc_37_246 rfl (zm_out0 rfl) (Nat.le_of_ble_eq_true rfl) (Nat.le_of_ble_eq_true rfl) (zk_c hr1) (zk_s hr1) ((zk_frc hB h8 hDw hn ih w1 w4 (w2.1 h2).2 o3 o5 hD' k2 (by omega)).mono (fun z G' k => zk_k_ret rfl (fun _ => rfl) (zk_EQ_tr o4 o7 o8 o9 k)))
  · refine zm_J_run zm_T 1 (pc' := 29) (lv' := [(0, .ref 2), (1, .ref (xa + 37)), (2, .ref z0), (3, .int (nI (60 - n)))]) (st' := [.ref (xa + 37)]) (G' := (zk_H R ex sl s r el f g df)) rfl ?_
    refine zg_gf (fs := [.int 116, .int ix, .ref (y1 + 37), p2, p3]) rfl (zk_at hc) rfl ?_
    refine zm_J_run zm_T 1 (pc' := 226) (lv' := [(0, .ref 2), (1, .ref (xa + 37)), (2, .ref z0), (3, .int (nI (60 - n)))]) (st' := []) (G' := (zk_H R ex sl s r el f g df)) rfl ?_
    refine zm_J_run zm_T 3 (pc' := 229) (lv' := [(0, .ref 2), (1, .ref (xa + 37)), (2, .ref z0), (3, .int (nI (60 - n)))]) (st' := [.ref (xa + 37), .ref 2, .ref 2]) (G' := (zk_H R ex sl s r el f g df)) rfl ?_
    refine zg_gf (fs := [.int 116, .int ix, .ref (y1 + 37), p2, p3]) rfl (zk_at hc) rfl ?_
    refine zm_J_run zm_T 4 (pc' := 236) (lv' := [(0, .ref 2), (1, .ref (xa + 37)), (2, .ref z0), (3, .int (nI (60 - n)))]) (st' := [.int ((nI (60 - n)) + 1), .ref z0, .ref (y1 + 37), .ref 2, .ref 2]) (G' := (zk_H R ex sl s r el f g df)) rfl ?_
    rw [hdep]
    show zm_J N _ 37 236 [(0, .ref 2), (1, .ref (xa + 37)), (2, .ref z0), (3, .int (nI (60 - n)))] [.int (nI (61 - n)), .ref z0, .ref (y1 + 37), .ref 2, .ref 2] (zk_H R ex sl s r el f g df) _
    refine zg_VT (a := 2) (av := [.ref (y1 + 37), .ref z0, .int (nI (61 - n))]) (rest := [.ref 2]) (zm_T.1 37 236 _ rfl).1 zc_37_236 rfl (zm_out0 rfl) (Nat.le_of_ble_eq_true rfl) (Nat.le_of_ble_eq_true rfl) (zk_c hr) (zk_s hr) ((zm_J_d (by omega) hih).mono (fun z G' k => ?_))
    generalize zv_E D n r0 L A σ = o at k hq ⊢
    obtain ⟨o1, σ'⟩ := o
    cases o1 with
    | inl e => exact zk_k_er k k
    | inr v =>
      obtain ⟨ex', sl', s', el', va', ca', ka', q', u, rfl, rfl, o3, o4, o5, o6, o7, o8, o9⟩ := k
      obtain ⟨w1, w2, w3, w4⟩ := hq v rfl
      dsimp only at w1 w2 w3 w4
      have hr1 := zk_I_r hB o3
      show zm_J N _ 37 239 [(0, .ref 2), (1, .ref (xa + 37)), (2, .ref z0), (3, .int (nI (60 - n)))] [.ref u, .ref 2] (zk_H R ex' sl' s' r el' f g df) _
      have hD' := zk_D_up o4.2.1 hD
      rw [show zv_B (Sum.inr v, σ') (zv_G D (zv_E D n) 116 r0 L A) = if v.1 = 1 then (.inl 2, σ') else if v.1 = 2 then zv_F (zv_E D n) v.2.2.2.1 σ' else (.inl 5, σ') from zv_G_t ..]
      refine zg_ST (av := [.ref u]) (rest := [.ref 2]) (zm_T.1 37 239 _ rfl).1 zc_37_239 (zm_out0 rfl) (Nat.le_of_ble_eq_true rfl) (Nat.le_of_ble_eq_true rfl) (zk_c hr1) (zk_s hr1) (zk_mbp hB o3 (by omega) o6 (fun h2 => ?_) (fun h1 z G e => zk_k_er e (by rw [if_pos h1]; exact zk_ER_tr o4.2.1 o7 e)) (fun h1 h2 z G e => zk_k_er e (by rw [if_neg h1, if_neg h2]; exact zk_ER_tr o4.2.1 o7 e)))
      rw [if_neg (fun z => absurd (z.symm.trans h2) (by decide)), if_pos h2]
      rcases o6 with ⟨e1, _⟩ | ⟨m, y, x, hh, t, a, e1, e2, rfl, e4, e5⟩
      · exact absurd (e1.symm.trans h2) (by decide)
      obtain ⟨⟨ph, k1, rfl⟩, pt, k2, rfl⟩ : (∃ p, ca'[v.2.2.1]? = some p ∧ hh = .ref (p + 37)) ∧ ∃ p, ca'[v.2.2.2.1]? = some p ∧ t = .ref (p + 37) := by
        rcases e5 with z | z | z
        · exact absurd (z.1.symm.trans h2) (by decide)
        · exact z.2
        · exact absurd (z.1.symm.trans h2) (by decide)
      show zm_J N _ 37 242 [(0, .ref 2), (1, .ref (xa + 37)), (2, .ref z0), (3, .int (nI (60 - n)))] [.ref (y + 37), .ref 2] (zk_H R ex' sl' s' r el' f g df) _
      refine zg_gf (fs := [.int v.1, x, .ref (ph + 37), .ref (pt + 37), a]) rfl (zk_at e4) rfl ?_
      refine zm_J_run zm_T 1 (pc' := 246) (lv' := [(0, .ref 2), (1, .ref (xa + 37)), (2, .ref z0), (3, .int (nI (60 - n)))]) (st' := [.int (nI (60 - n)), .ref (pt + 37), .ref 2]) (G' := (zk_H R ex' sl' s' r el' f g df)) rfl ?_
      refine zg_VT (a := 2) (av := [.ref (pt + 37), .int (nI (60 - n))]) (rest := []) (zm_T.1 37 246 _ rfl).1 zc_37_246 rfl (zm_out0 rfl) (Nat.le_of_ble_eq_true rfl) (Nat.le_of_ble_eq_true rfl) (zk_c hr1) (zk_s hr1) ((zk_frc hB h8 hDw hn ih w1 w4 (w2.1 h2).2 o3 o5 hD' k2 (by omega)).mono (fun z G' k => zk_k_ret rfl (fun _ => rfl) (zk_EQ_tr o4 o7 o8 o9 k)))
theorem zk_w_z (hB : zk_BS B S) (h8 : 8 ≤ d) (hDw : zv_wD D) {n : Nat} (hn : n ≤ 60) (ih : zk_EV B S N R r f g df D d n) (hR1 : R 1 = zk_em) {j : Nat} (hS : zv_wS σ) {r0 L : List Int32} {A : List Nat} (hA : zv_wE σ.1.length L A) (hI : zk_I B S ex sl s el va ca ka q) (hSt : zk_St ex s va ca ka σ) (hD : zk_D ex df D) {xa : Nat} {ch : Value} (hch : zk_ch ex ca ka σ.2.2.1 A.reverse ch) {ix : Int32} {y1 m1 : Nat} {p2 p3 : Value} (hX1 : zk_X ex L m1 r0 y1) (hok1 : zv_ok L r0 1 = true) (hb : zv_b σ (zv_n r0 1 + (j + 1)) (zv_n r0 1 + (j + 1))) (hc : ex[xa]? = some (Sum.inr (7, [.int 122, .int ix, .ref (y1 + 37), p2, p3]) : zm_E)) {d' : Nat} (hd' : d + 3 * n + 3 ≤ d') : zm_J N d' 37 28 [(0, .ref 2), (1, .ref (xa + 37)), (2, ch), (3, .int (nI (60 - n)))] [] (zk_H R ex sl s r el f g df) (zk_EQ B S R r f g df ex s va ca ka σ.2.2.2 σ.2.2.1 (zv_B (zv_E D n r0 L A σ) (zv_G D (zv_E D n) 122 r0 L A))) := by
  obtain ⟨d', rfl⟩ : ∃ e, d' = e + 1 := ⟨d' - 1, by omega⟩
  have hdep : nI (60 - n) + 1 = nI (61 - n) := by rw [show 61 - n = 60 - n + 1 by omega]; exact nI_1 _
  have hr := zk_I_r hB hI
  have hq := zv_E_ok hDw n r0 L A σ _ hS hok1 hA hb
  have hih := ih r0 L A σ _ ex sl s el va ca ka q y1 m1 ch hS hok1 hA hb hI hSt hD hX1 hch
  rcases zk_ch_sh hch with rfl | ⟨z0, rfl⟩
  · refine zm_J_run zm_T 1 (pc' := 29) (lv' := [(0, .ref 2), (1, .ref (xa + 37)), (2, .null), (3, .int (nI (60 - n)))]) (st' := [.ref (xa + 37)]) (G' := (zk_H R ex sl s r el f g df)) rfl ?_
    refine zg_gf (fs := [.int 122, .int ix, .ref (y1 + 37), p2, p3]) rfl (zk_at hc) rfl ?_
    refine zm_J_run zm_T 1 (pc' := 250) (lv' := [(0, .ref 2), (1, .ref (xa + 37)), (2, .null), (3, .int (nI (60 - n)))]) (st' := []) (G' := (zk_H R ex sl s r el f g df)) rfl ?_
    refine zm_J_run zm_T 4 (pc' := 256) (lv' := [(0, .ref 2), (1, .ref (xa + 37)), (2, .null), (3, .int (nI (60 - n)))]) (st' := [.ref (xa + 37), .ref 2, .ref 6]) (G' := (zk_H R ex sl s r el f g df)) rfl ?_
    refine zg_gf (fs := [.int 122, .int ix, .ref (y1 + 37), p2, p3]) rfl (zk_at hc) rfl ?_
    refine zm_J_run zm_T 4 (pc' := 263) (lv' := [(0, .ref 2), (1, .ref (xa + 37)), (2, .null), (3, .int (nI (60 - n)))]) (st' := [.int ((nI (60 - n)) + 1), .null, .ref (y1 + 37), .ref 2, .ref 6]) (G' := (zk_H R ex sl s r el f g df)) rfl ?_
    rw [hdep]
    show zm_J N _ 37 263 [(0, .ref 2), (1, .ref (xa + 37)), (2, .null), (3, .int (nI (60 - n)))] [.int (nI (61 - n)), .null, .ref (y1 + 37), .ref 2, .ref 6] (zk_H R ex sl s r el f g df) _
    refine zg_VT (a := 2) (av := [.ref (y1 + 37), .null, .int (nI (61 - n))]) (rest := [.ref 6]) (zm_T.1 37 263 _ rfl).1 zc_37_263 rfl (zm_out0 rfl) (Nat.le_of_ble_eq_true rfl) (Nat.le_of_ble_eq_true rfl) (zk_c hr) (zk_s hr) ((zm_J_d (by omega) hih).mono (fun z G' k => ?_))
    generalize zv_E D n r0 L A σ = o at k hq ⊢
    obtain ⟨o1, σ'⟩ := o
    cases o1 with
    | inl e => exact zk_k_er k k
    | inr v =>
      obtain ⟨ex', sl', s', el', va', ca', ka', q', u, rfl, rfl, o3, o4, o5, o6, o7, o8, o9⟩ := k
      obtain ⟨w1, w2, w3, w4⟩ := hq v rfl
      dsimp only at w1 w2 w3 w4
      have hr1 := zk_I_r hB o3
      show zm_J N _ 37 266 [(0, .ref 2), (1, .ref (xa + 37)), (2, .null), (3, .int (nI (60 - n)))] [.ref u, .ref 6] (zk_H R ex' sl' s' r el' f g df) _
      have g3 := w4.2.2.1
      have g4 := w4.2.2.2
      rw [show zv_B (Sum.inr v, σ') (zv_G D (zv_E D n) 122 r0 L A) = if v.1 = 1 then (.inr (zv_num 1), zv_v σ') else if v.1 = 2 then (.inr (zv_num 0), zv_v σ') else (.inl 5, σ') from zv_G_z ..]
      refine zg_ST (av := [.ref u]) (rest := [.ref 6]) (zm_T.1 37 266 _ rfl).1 zc_37_266 (zm_out0 rfl) (Nat.le_of_ble_eq_true rfl) (Nat.le_of_ble_eq_true rfl) (zk_c hr1) (zk_s hr1) (zk_isn hB o3 (by omega) o6 (fun h1 => ?_) (fun h1 h2 => ?_) (fun h1 h2 z G e => zk_k_er e (by rw [if_neg h1, if_neg h2]; exact zk_ER_tr o4.2.1 o7 e)))
      · rw [if_pos h1]
        show zm_J N _ 37 269 [(0, .ref 2), (1, .ref (xa + 37)), (2, .null), (3, .int (nI (60 - n)))] [.int 1, .ref 6] (zk_H R ex' sl' s' r el' f g df) _
        refine zg_VT (a := 6) (av := [.int 1]) (rest := []) (zm_T.1 37 269 _ rfl).1 zc_37_269 rfl (zm_out0 rfl) (Nat.le_of_ble_eq_true rfl) (Nat.le_of_ble_eq_true rfl) (zk_c hr1) (zk_s hr1) (zk_mkn hB hR1 (by omega) o3 o5 (by omega) 1 (fun z G' k => zk_k_ret (x := (.inr (zv_num 1), zv_v σ')) rfl (fun _ => rfl) (zk_EQ_tr o4 o7 o8 o9 k)))
      · rw [if_neg h1, if_pos h2]
        show zm_J N _ 37 269 [(0, .ref 2), (1, .ref (xa + 37)), (2, .null), (3, .int (nI (60 - n)))] [.int 0, .ref 6] (zk_H R ex' sl' s' r el' f g df) _
        refine zg_VT (a := 6) (av := [.int 0]) (rest := []) (zm_T.1 37 269 _ rfl).1 zc_37_269 rfl (zm_out0 rfl) (Nat.le_of_ble_eq_true rfl) (Nat.le_of_ble_eq_true rfl) (zk_c hr1) (zk_s hr1) (zk_mkn hB hR1 (by omega) o3 o5 (by omega) 0 (fun z G' k => zk_k_ret (x := (.inr (zv_num 0), zv_v σ')) rfl (fun _ => rfl) (zk_EQ_tr o4 o7 o8 o9 k)))
  · refine zm_J_run zm_T 1 (pc' := 29) (lv' := [(0, .ref 2), (1, .ref (xa + 37)), (2, .ref z0), (3, .int (nI (60 - n)))]) (st' := [.ref (xa + 37)]) (G' := (zk_H R ex sl s r el f g df)) rfl ?_
    refine zg_gf (fs := [.int 122, .int ix, .ref (y1 + 37), p2, p3]) rfl (zk_at hc) rfl ?_
    refine zm_J_run zm_T 1 (pc' := 250) (lv' := [(0, .ref 2), (1, .ref (xa + 37)), (2, .ref z0), (3, .int (nI (60 - n)))]) (st' := []) (G' := (zk_H R ex sl s r el f g df)) rfl ?_
    refine zm_J_run zm_T 4 (pc' := 256) (lv' := [(0, .ref 2), (1, .ref (xa + 37)), (2, .ref z0), (3, .int (nI (60 - n)))]) (st' := [.ref (xa + 37), .ref 2, .ref 6]) (G' := (zk_H R ex sl s r el f g df)) rfl ?_
    refine zg_gf (fs := [.int 122, .int ix, .ref (y1 + 37), p2, p3]) rfl (zk_at hc) rfl ?_
    refine zm_J_run zm_T 4 (pc' := 263) (lv' := [(0, .ref 2), (1, .ref (xa + 37)), (2, .ref z0), (3, .int (nI (60 - n)))]) (st' := [.int ((nI (60 - n)) + 1), .ref z0, .ref (y1 + 37), .ref 2, .ref 6]) (G' := (zk_H R ex sl s r el f g df)) rfl ?_
    rw [hdep]
    show zm_J N _ 37 263 [(0, .ref 2), (1, .ref (xa + 37)), (2, .ref z0), (3, .int (nI (60 - n)))] [.int (nI (61 - n)), .ref z0, .ref (y1 + 37), .ref 2, .ref 6] (zk_H R ex sl s r el f g df) _
    refine zg_VT (a := 2) (av := [.ref (y1 + 37), .ref z0, .int (nI (61 - n))]) (rest := [.ref 6]) (zm_T.1 37 263 _ rfl).1 zc_37_263 rfl (zm_out0 rfl) (Nat.le_of_ble_eq_true rfl) (Nat.le_of_ble_eq_true rfl) (zk_c hr) (zk_s hr) ((zm_J_d (by omega) hih).mono (fun z G' k => ?_))
    generalize zv_E D n r0 L A σ = o at k hq ⊢
    obtain ⟨o1, σ'⟩ := o
    cases o1 with
    | inl e => exact zk_k_er k k
    | inr v =>
      obtain ⟨ex', sl', s', el', va', ca', ka', q', u, rfl, rfl, o3, o4, o5, o6, o7, o8, o9⟩ := k
      obtain ⟨w1, w2, w3, w4⟩ := hq v rfl
      dsimp only at w1 w2 w3 w4
      have hr1 := zk_I_r hB o3
      show zm_J N _ 37 266 [(0, .ref 2), (1, .ref (xa + 37)), (2, .ref z0), (3, .int (nI (60 - n)))] [.ref u, .ref 6] (zk_H R ex' sl' s' r el' f g df) _
      have g3 := w4.2.2.1
      have g4 := w4.2.2.2
      rw [show zv_B (Sum.inr v, σ') (zv_G D (zv_E D n) 122 r0 L A) = if v.1 = 1 then (.inr (zv_num 1), zv_v σ') else if v.1 = 2 then (.inr (zv_num 0), zv_v σ') else (.inl 5, σ') from zv_G_z ..]
      refine zg_ST (av := [.ref u]) (rest := [.ref 6]) (zm_T.1 37 266 _ rfl).1 zc_37_266 (zm_out0 rfl) (Nat.le_of_ble_eq_true rfl) (Nat.le_of_ble_eq_true rfl) (zk_c hr1) (zk_s hr1) (zk_isn hB o3 (by omega) o6 (fun h1 => ?_) (fun h1 h2 => ?_) (fun h1 h2 z G e => zk_k_er e (by rw [if_neg h1, if_neg h2]; exact zk_ER_tr o4.2.1 o7 e)))
      · rw [if_pos h1]
        show zm_J N _ 37 269 [(0, .ref 2), (1, .ref (xa + 37)), (2, .ref z0), (3, .int (nI (60 - n)))] [.int 1, .ref 6] (zk_H R ex' sl' s' r el' f g df) _
        refine zg_VT (a := 6) (av := [.int 1]) (rest := []) (zm_T.1 37 269 _ rfl).1 zc_37_269 rfl (zm_out0 rfl) (Nat.le_of_ble_eq_true rfl) (Nat.le_of_ble_eq_true rfl) (zk_c hr1) (zk_s hr1) (zk_mkn hB hR1 (by omega) o3 o5 (by omega) 1 (fun z G' k => zk_k_ret (x := (.inr (zv_num 1), zv_v σ')) rfl (fun _ => rfl) (zk_EQ_tr o4 o7 o8 o9 k)))
      · rw [if_neg h1, if_pos h2]
        show zm_J N _ 37 269 [(0, .ref 2), (1, .ref (xa + 37)), (2, .ref z0), (3, .int (nI (60 - n)))] [.int 0, .ref 6] (zk_H R ex' sl' s' r el' f g df) _
        refine zg_VT (a := 6) (av := [.int 0]) (rest := []) (zm_T.1 37 269 _ rfl).1 zc_37_269 rfl (zm_out0 rfl) (Nat.le_of_ble_eq_true rfl) (Nat.le_of_ble_eq_true rfl) (zk_c hr1) (zk_s hr1) (zk_mkn hB hR1 (by omega) o3 o5 (by omega) 0 (fun z G' k => zk_k_ret (x := (.inr (zv_num 0), zv_v σ')) rfl (fun _ => rfl) (zk_EQ_tr o4 o7 o8 o9 k)))
theorem zk_w_app (hB : zk_BS B S) (h8 : 8 ≤ d) (hDw : zv_wD D) {n : Nat} (hn : n ≤ 60) (ih : zk_EV B S N R r f g df D d n) (hR1 : R 1 = zk_em) {j : Nat} (hS : zv_wS σ) {r0 L : List Int32} {A : List Nat} (hA : zv_wE σ.1.length L A) (hI : zk_I B S ex sl s el va ca ka q) (hSt : zk_St ex s va ca ka σ) (hD : zk_D ex df D) {xa : Nat} {ch : Value} (hch : zk_ch ex ca ka σ.2.2.1 A.reverse ch) {ix : Int32} {y1 y2 m1 m2 : Nat} {p3 : Value} (hX1 : zk_X ex L m1 r0 y1) (hX2 : zk_X ex L m2 (zv_sk r0 1) y2) (hok1 : zv_ok L r0 1 = true) (hok2 : zv_ok L (zv_sk r0 1) 1 = true) (hb : zv_b σ (zv_n r0 1 + (zv_n (zv_sk r0 1) 1 + (j + 1))) (zv_n r0 1 + (zv_n (zv_sk r0 1) 1 + (j + 1)))) (hc : ex[xa]? = some (Sum.inr (7, [.int 46, .int ix, .ref (y1 + 37), .ref (y2 + 37), p3]) : zm_E)) {d' : Nat} (hd' : d + 3 * n + 3 ≤ d') : zm_J N d' 37 28 [(0, .ref 2), (1, .ref (xa + 37)), (2, ch), (3, .int (nI (60 - n)))] [] (zk_H R ex sl s r el f g df) (zk_EQ B S R r f g df ex s va ca ka σ.2.2.2 σ.2.2.1 (zv_B (zv_E D n r0 L A σ) (zv_G D (zv_E D n) 46 r0 L A))) := by
  obtain ⟨d', rfl⟩ : ∃ e, d' = e + 1 := ⟨d' - 1, by omega⟩
  have hdep : nI (60 - n) + 1 = nI (61 - n) := by rw [show 61 - n = 60 - n + 1 by omega]; exact nI_1 _
  have hr := zk_I_r hB hI
  rcases zk_ch_sh hch with rfl | ⟨z0, rfl⟩
  · refine zm_J_run zm_T 1 (pc' := 29) (lv' := [(0, .ref 2), (1, .ref (xa + 37)), (2, .null), (3, .int (nI (60 - n)))]) (st' := [.ref (xa + 37)]) (G' := (zk_H R ex sl s r el f g df)) rfl ?_
    refine zg_gf (fs := [.int 46, .int ix, .ref (y1 + 37), .ref (y2 + 37), p3]) rfl (zk_at hc) rfl ?_
    refine zm_J_run zm_T 1 (pc' := 194) (lv' := [(0, .ref 2), (1, .ref (xa + 37)), (2, .null), (3, .int (nI (60 - n)))]) (st' := []) (G' := (zk_H R ex sl s r el f g df)) rfl ?_
    refine zm_J_run zm_T 4 (pc' := 198) (lv' := [(0, .ref 2), (1, .ref (xa + 37)), (2, .null), (3, .int (nI (60 - n)))]) (st' := [.int (nI (60 - n)), .null, .ref (xa + 37), .ref 2]) (G' := (zk_H R ex sl s r el f g df)) rfl ?_
    refine zg_VT (a := 2) (av := [.ref (xa + 37), .null, .int (nI (60 - n))]) (rest := []) (zm_T.1 37 198 _ rfl).1 zc_37_198 rfl (zm_out0 rfl) (Nat.le_of_ble_eq_true rfl) (Nat.le_of_ble_eq_true rfl) (zk_c hr) (zk_s hr) ((zk_app hB h8 hDw hn ih hR1 hS hA hI hSt hD hch hc hX1 hX2 hok1 hok2 hb (by omega)).mono (fun z G' k => zk_k_ret rfl (fun _ => rfl) k))
  · refine zm_J_run zm_T 1 (pc' := 29) (lv' := [(0, .ref 2), (1, .ref (xa + 37)), (2, .ref z0), (3, .int (nI (60 - n)))]) (st' := [.ref (xa + 37)]) (G' := (zk_H R ex sl s r el f g df)) rfl ?_
    refine zg_gf (fs := [.int 46, .int ix, .ref (y1 + 37), .ref (y2 + 37), p3]) rfl (zk_at hc) rfl ?_
    refine zm_J_run zm_T 1 (pc' := 194) (lv' := [(0, .ref 2), (1, .ref (xa + 37)), (2, .ref z0), (3, .int (nI (60 - n)))]) (st' := []) (G' := (zk_H R ex sl s r el f g df)) rfl ?_
    refine zm_J_run zm_T 4 (pc' := 198) (lv' := [(0, .ref 2), (1, .ref (xa + 37)), (2, .ref z0), (3, .int (nI (60 - n)))]) (st' := [.int (nI (60 - n)), .ref z0, .ref (xa + 37), .ref 2]) (G' := (zk_H R ex sl s r el f g df)) rfl ?_
    refine zg_VT (a := 2) (av := [.ref (xa + 37), .ref z0, .int (nI (60 - n))]) (rest := []) (zm_T.1 37 198 _ rfl).1 zc_37_198 rfl (zm_out0 rfl) (Nat.le_of_ble_eq_true rfl) (Nat.le_of_ble_eq_true rfl) (zk_c hr) (zk_s hr) ((zk_app hB h8 hDw hn ih hR1 hS hA hI hSt hD hch hc hX1 hX2 hok1 hok2 hb (by omega)).mono (fun z G' k => zk_k_ret rfl (fun _ => rfl) k))
theorem zk_w_cho (hB : zk_BS B S) (h8 : 8 ≤ d) (hDw : zv_wD D) {n : Nat} (hn : n ≤ 60) (ih : zk_EV B S N R r f g df D d n) (hR1 : R 1 = zk_em) {j : Nat} (hS : zv_wS σ) {r0 L : List Int32} {A : List Nat} (hA : zv_wE σ.1.length L A) (hI : zk_I B S ex sl s el va ca ka q) (hSt : zk_St ex s va ca ka σ) (hD : zk_D ex df D) {xa : Nat} {ch : Value} (hch : zk_ch ex ca ka σ.2.2.1 A.reverse ch) {ix : Int32} {y1 y2 y3 m1 m2 m3 : Nat} (hX1 : zk_X ex L m1 r0 y1) (hX2 : zk_X ex L m2 (zv_sk r0 1) y2) (hX3 : zk_X ex L m3 (zv_sk (zv_sk r0 1) 1) y3) (hok1 : zv_ok L r0 1 = true) (hok2 : zv_ok L (zv_sk r0 1) 1 = true) (hok3 : zv_ok L (zv_sk (zv_sk r0 1) 1) 1 = true) (hb : zv_b σ (zv_n r0 1 + (zv_n (zv_sk r0 1) 1 + zv_n (zv_sk (zv_sk r0 1) 1) 1 + (j + 1))) (zv_n r0 1 + (zv_n (zv_sk r0 1) 1 + zv_n (zv_sk (zv_sk r0 1) 1) 1 + (j + 1)))) (hc : ex[xa]? = some (Sum.inr (7, [.int 63, .int ix, .ref (y1 + 37), .ref (y2 + 37), .ref (y3 + 37)]) : zm_E)) {d' : Nat} (hd' : d + 3 * n + 3 ≤ d') : zm_J N d' 37 28 [(0, .ref 2), (1, .ref (xa + 37)), (2, ch), (3, .int (nI (60 - n)))] [] (zk_H R ex sl s r el f g df) (zk_EQ B S R r f g df ex s va ca ka σ.2.2.2 σ.2.2.1 (zv_B (zv_E D n r0 L A σ) (zv_G D (zv_E D n) 63 r0 L A))) := by
  obtain ⟨d', rfl⟩ : ∃ e, d' = e + 1 := ⟨d' - 1, by omega⟩
  have hdep : nI (60 - n) + 1 = nI (61 - n) := by rw [show 61 - n = 60 - n + 1 by omega]; exact nI_1 _
  have hr := zk_I_r hB hI
  rcases zk_ch_sh hch with rfl | ⟨z0, rfl⟩
  · refine zm_J_run zm_T 1 (pc' := 29) (lv' := [(0, .ref 2), (1, .ref (xa + 37)), (2, .null), (3, .int (nI (60 - n)))]) (st' := [.ref (xa + 37)]) (G' := (zk_H R ex sl s r el f g df)) rfl ?_
    refine zg_gf (fs := [.int 63, .int ix, .ref (y1 + 37), .ref (y2 + 37), .ref (y3 + 37)]) rfl (zk_at hc) rfl ?_
    refine zm_J_run zm_T 1 (pc' := 273) (lv' := [(0, .ref 2), (1, .ref (xa + 37)), (2, .null), (3, .int (nI (60 - n)))]) (st' := []) (G' := (zk_H R ex sl s r el f g df)) rfl ?_
    refine zm_J_run zm_T 4 (pc' := 277) (lv' := [(0, .ref 2), (1, .ref (xa + 37)), (2, .null), (3, .int (nI (60 - n)))]) (st' := [.int (nI (60 - n)), .null, .ref (xa + 37), .ref 2]) (G' := (zk_H R ex sl s r el f g df)) rfl ?_
    refine zg_VT (a := 2) (av := [.ref (xa + 37), .null, .int (nI (60 - n))]) (rest := []) (zm_T.1 37 277 _ rfl).1 zc_37_277 rfl (zm_out0 rfl) (Nat.le_of_ble_eq_true rfl) (Nat.le_of_ble_eq_true rfl) (zk_c hr) (zk_s hr) ((zk_cho hB h8 hDw hn ih hR1 hS hA hI hSt hD hch hc hX1 hX2 hX3 hok1 hok2 hok3 hb (by omega)).mono (fun z G' k => zk_k_ret rfl (fun _ => rfl) k))
  · refine zm_J_run zm_T 1 (pc' := 29) (lv' := [(0, .ref 2), (1, .ref (xa + 37)), (2, .ref z0), (3, .int (nI (60 - n)))]) (st' := [.ref (xa + 37)]) (G' := (zk_H R ex sl s r el f g df)) rfl ?_
    refine zg_gf (fs := [.int 63, .int ix, .ref (y1 + 37), .ref (y2 + 37), .ref (y3 + 37)]) rfl (zk_at hc) rfl ?_
    refine zm_J_run zm_T 1 (pc' := 273) (lv' := [(0, .ref 2), (1, .ref (xa + 37)), (2, .ref z0), (3, .int (nI (60 - n)))]) (st' := []) (G' := (zk_H R ex sl s r el f g df)) rfl ?_
    refine zm_J_run zm_T 4 (pc' := 277) (lv' := [(0, .ref 2), (1, .ref (xa + 37)), (2, .ref z0), (3, .int (nI (60 - n)))]) (st' := [.int (nI (60 - n)), .ref z0, .ref (xa + 37), .ref 2]) (G' := (zk_H R ex sl s r el f g df)) rfl ?_
    refine zg_VT (a := 2) (av := [.ref (xa + 37), .ref z0, .int (nI (60 - n))]) (rest := []) (zm_T.1 37 277 _ rfl).1 zc_37_277 rfl (zm_out0 rfl) (Nat.le_of_ble_eq_true rfl) (Nat.le_of_ble_eq_true rfl) (zk_c hr) (zk_s hr) ((zk_cho hB h8 hDw hn ih hR1 hS hA hI hSt hD hch hc hX1 hX2 hX3 hok1 hok2 hok3 hb (by omega)).mono (fun z G' k => zk_k_ret rfl (fun _ => rfl) k))
theorem zk_w_rec (hB : zk_BS B S) (h8 : 8 ≤ d) (hDw : zv_wD D) {n : Nat} (hn : n ≤ 60) (ih : zk_EV B S N R r f g df D d n) (hR1 : R 1 = zk_em) {j : Nat} (hS : zv_wS σ) {r0 L : List Int32} {A : List Nat} (hA : zv_wE σ.1.length L A) (hI : zk_I B S ex sl s el va ca ka q) (hSt : zk_St ex s va ca ka σ) (hD : zk_D ex df D) {xa : Nat} {ch : Value} (hch : zk_ch ex ca ka σ.2.2.1 A.reverse ch) {c ix : Int32} (hcc : c = 43 ∨ c = 45 ∨ c = 42 ∨ c = 47 ∨ c = 37 ∨ c = 60 ∨ c = 61) {y1 y2 m1 m2 : Nat} {p3 : Value} (hX1 : zk_X ex L m1 r0 y1) (hX2 : zk_X ex L m2 (zv_sk r0 1) y2) (hok1 : zv_ok L r0 1 = true) (hok2 : zv_ok L (zv_sk r0 1) 1 = true) (hb : zv_b σ (zv_n r0 1 + (zv_n (zv_sk r0 1) 1 + (j + 1))) (zv_n r0 1 + (zv_n (zv_sk r0 1) 1 + (j + 1)))) (hc : ex[xa]? = some (Sum.inr (7, [.int c, .int ix, .ref (y1 + 37), .ref (y2 + 37), p3]) : zm_E)) {d' : Nat} (hd' : d + 3 * n + 3 ≤ d') : zm_J N d' 37 28 [(0, .ref 2), (1, .ref (xa + 37)), (2, ch), (3, .int (nI (60 - n)))] [] (zk_H R ex sl s r el f g df) (zk_EQ B S R r f g df ex s va ca ka σ.2.2.2 σ.2.2.1 (zv_B (zv_E D n r0 L A σ) (zv_G D (zv_E D n) c r0 L A))) := by
  obtain ⟨d', rfl⟩ : ∃ e, d' = e + 1 := ⟨d' - 1, by omega⟩
  have hdep : nI (60 - n) + 1 = nI (61 - n) := by rw [show 61 - n = 60 - n + 1 by omega]; exact nI_1 _
  have hr := zk_I_r hB hI
  have hcc0 := hcc
  rcases zk_ch_sh hch with rfl | ⟨z0, rfl⟩
  · rcases hcc with rfl | rfl | rfl | rfl | rfl | rfl | rfl
    · refine zm_J_run zm_T 1 (pc' := 29) (lv' := [(0, .ref 2), (1, .ref (xa + 37)), (2, .null), (3, .int (nI (60 - n)))]) (st' := [.ref (xa + 37)]) (G' := (zk_H R ex sl s r el f g df)) rfl ?_
      refine zg_gf (fs := [.int 43, .int ix, .ref (y1 + 37), .ref (y2 + 37), p3]) rfl (zk_at hc) rfl ?_
      refine zm_J_run zm_T 1 (pc' := 281) (lv' := [(0, .ref 2), (1, .ref (xa + 37)), (2, .null), (3, .int (nI (60 - n)))]) (st' := []) (G' := (zk_H R ex sl s r el f g df)) rfl ?_
      refine zm_J_run zm_T 4 (pc' := 285) (lv' := [(0, .ref 2), (1, .ref (xa + 37)), (2, .null), (3, .int (nI (60 - n)))]) (st' := [.int (nI (60 - n)), .null, .ref (xa + 37), .ref 2]) (G' := (zk_H R ex sl s r el f g df)) rfl ?_
      refine zg_VT (a := 2) (av := [.ref (xa + 37), .null, .int (nI (60 - n))]) (rest := []) (zm_T.1 37 285 _ rfl).1 zc_37_285 rfl (zm_out0 rfl) (Nat.le_of_ble_eq_true rfl) (Nat.le_of_ble_eq_true rfl) (zk_c hr) (zk_s hr) ((zk_rec hB h8 hDw hn ih hR1 hS hA hI hSt hD hch hcc0 hc hX1 hX2 hok1 hok2 hb (by omega)).mono (fun z G' k => zk_k_ret rfl (fun _ => rfl) k))
    · refine zm_J_run zm_T 1 (pc' := 29) (lv' := [(0, .ref 2), (1, .ref (xa + 37)), (2, .null), (3, .int (nI (60 - n)))]) (st' := [.ref (xa + 37)]) (G' := (zk_H R ex sl s r el f g df)) rfl ?_
      refine zg_gf (fs := [.int 45, .int ix, .ref (y1 + 37), .ref (y2 + 37), p3]) rfl (zk_at hc) rfl ?_
      refine zm_J_run zm_T 1 (pc' := 281) (lv' := [(0, .ref 2), (1, .ref (xa + 37)), (2, .null), (3, .int (nI (60 - n)))]) (st' := []) (G' := (zk_H R ex sl s r el f g df)) rfl ?_
      refine zm_J_run zm_T 4 (pc' := 285) (lv' := [(0, .ref 2), (1, .ref (xa + 37)), (2, .null), (3, .int (nI (60 - n)))]) (st' := [.int (nI (60 - n)), .null, .ref (xa + 37), .ref 2]) (G' := (zk_H R ex sl s r el f g df)) rfl ?_
      refine zg_VT (a := 2) (av := [.ref (xa + 37), .null, .int (nI (60 - n))]) (rest := []) (zm_T.1 37 285 _ rfl).1 zc_37_285 rfl (zm_out0 rfl) (Nat.le_of_ble_eq_true rfl) (Nat.le_of_ble_eq_true rfl) (zk_c hr) (zk_s hr) ((zk_rec hB h8 hDw hn ih hR1 hS hA hI hSt hD hch hcc0 hc hX1 hX2 hok1 hok2 hb (by omega)).mono (fun z G' k => zk_k_ret rfl (fun _ => rfl) k))
    · refine zm_J_run zm_T 1 (pc' := 29) (lv' := [(0, .ref 2), (1, .ref (xa + 37)), (2, .null), (3, .int (nI (60 - n)))]) (st' := [.ref (xa + 37)]) (G' := (zk_H R ex sl s r el f g df)) rfl ?_
      refine zg_gf (fs := [.int 42, .int ix, .ref (y1 + 37), .ref (y2 + 37), p3]) rfl (zk_at hc) rfl ?_
      refine zm_J_run zm_T 1 (pc' := 281) (lv' := [(0, .ref 2), (1, .ref (xa + 37)), (2, .null), (3, .int (nI (60 - n)))]) (st' := []) (G' := (zk_H R ex sl s r el f g df)) rfl ?_
      refine zm_J_run zm_T 4 (pc' := 285) (lv' := [(0, .ref 2), (1, .ref (xa + 37)), (2, .null), (3, .int (nI (60 - n)))]) (st' := [.int (nI (60 - n)), .null, .ref (xa + 37), .ref 2]) (G' := (zk_H R ex sl s r el f g df)) rfl ?_
      refine zg_VT (a := 2) (av := [.ref (xa + 37), .null, .int (nI (60 - n))]) (rest := []) (zm_T.1 37 285 _ rfl).1 zc_37_285 rfl (zm_out0 rfl) (Nat.le_of_ble_eq_true rfl) (Nat.le_of_ble_eq_true rfl) (zk_c hr) (zk_s hr) ((zk_rec hB h8 hDw hn ih hR1 hS hA hI hSt hD hch hcc0 hc hX1 hX2 hok1 hok2 hb (by omega)).mono (fun z G' k => zk_k_ret rfl (fun _ => rfl) k))
    · refine zm_J_run zm_T 1 (pc' := 29) (lv' := [(0, .ref 2), (1, .ref (xa + 37)), (2, .null), (3, .int (nI (60 - n)))]) (st' := [.ref (xa + 37)]) (G' := (zk_H R ex sl s r el f g df)) rfl ?_
      refine zg_gf (fs := [.int 47, .int ix, .ref (y1 + 37), .ref (y2 + 37), p3]) rfl (zk_at hc) rfl ?_
      refine zm_J_run zm_T 1 (pc' := 281) (lv' := [(0, .ref 2), (1, .ref (xa + 37)), (2, .null), (3, .int (nI (60 - n)))]) (st' := []) (G' := (zk_H R ex sl s r el f g df)) rfl ?_
      refine zm_J_run zm_T 4 (pc' := 285) (lv' := [(0, .ref 2), (1, .ref (xa + 37)), (2, .null), (3, .int (nI (60 - n)))]) (st' := [.int (nI (60 - n)), .null, .ref (xa + 37), .ref 2]) (G' := (zk_H R ex sl s r el f g df)) rfl ?_
      refine zg_VT (a := 2) (av := [.ref (xa + 37), .null, .int (nI (60 - n))]) (rest := []) (zm_T.1 37 285 _ rfl).1 zc_37_285 rfl (zm_out0 rfl) (Nat.le_of_ble_eq_true rfl) (Nat.le_of_ble_eq_true rfl) (zk_c hr) (zk_s hr) ((zk_rec hB h8 hDw hn ih hR1 hS hA hI hSt hD hch hcc0 hc hX1 hX2 hok1 hok2 hb (by omega)).mono (fun z G' k => zk_k_ret rfl (fun _ => rfl) k))
    · refine zm_J_run zm_T 1 (pc' := 29) (lv' := [(0, .ref 2), (1, .ref (xa + 37)), (2, .null), (3, .int (nI (60 - n)))]) (st' := [.ref (xa + 37)]) (G' := (zk_H R ex sl s r el f g df)) rfl ?_
      refine zg_gf (fs := [.int 37, .int ix, .ref (y1 + 37), .ref (y2 + 37), p3]) rfl (zk_at hc) rfl ?_
      refine zm_J_run zm_T 1 (pc' := 281) (lv' := [(0, .ref 2), (1, .ref (xa + 37)), (2, .null), (3, .int (nI (60 - n)))]) (st' := []) (G' := (zk_H R ex sl s r el f g df)) rfl ?_
      refine zm_J_run zm_T 4 (pc' := 285) (lv' := [(0, .ref 2), (1, .ref (xa + 37)), (2, .null), (3, .int (nI (60 - n)))]) (st' := [.int (nI (60 - n)), .null, .ref (xa + 37), .ref 2]) (G' := (zk_H R ex sl s r el f g df)) rfl ?_
      refine zg_VT (a := 2) (av := [.ref (xa + 37), .null, .int (nI (60 - n))]) (rest := []) (zm_T.1 37 285 _ rfl).1 zc_37_285 rfl (zm_out0 rfl) (Nat.le_of_ble_eq_true rfl) (Nat.le_of_ble_eq_true rfl) (zk_c hr) (zk_s hr) ((zk_rec hB h8 hDw hn ih hR1 hS hA hI hSt hD hch hcc0 hc hX1 hX2 hok1 hok2 hb (by omega)).mono (fun z G' k => zk_k_ret rfl (fun _ => rfl) k))
    · refine zm_J_run zm_T 1 (pc' := 29) (lv' := [(0, .ref 2), (1, .ref (xa + 37)), (2, .null), (3, .int (nI (60 - n)))]) (st' := [.ref (xa + 37)]) (G' := (zk_H R ex sl s r el f g df)) rfl ?_
      refine zg_gf (fs := [.int 60, .int ix, .ref (y1 + 37), .ref (y2 + 37), p3]) rfl (zk_at hc) rfl ?_
      refine zm_J_run zm_T 1 (pc' := 281) (lv' := [(0, .ref 2), (1, .ref (xa + 37)), (2, .null), (3, .int (nI (60 - n)))]) (st' := []) (G' := (zk_H R ex sl s r el f g df)) rfl ?_
      refine zm_J_run zm_T 4 (pc' := 285) (lv' := [(0, .ref 2), (1, .ref (xa + 37)), (2, .null), (3, .int (nI (60 - n)))]) (st' := [.int (nI (60 - n)), .null, .ref (xa + 37), .ref 2]) (G' := (zk_H R ex sl s r el f g df)) rfl ?_
      refine zg_VT (a := 2) (av := [.ref (xa + 37), .null, .int (nI (60 - n))]) (rest := []) (zm_T.1 37 285 _ rfl).1 zc_37_285 rfl (zm_out0 rfl) (Nat.le_of_ble_eq_true rfl) (Nat.le_of_ble_eq_true rfl) (zk_c hr) (zk_s hr) ((zk_rec hB h8 hDw hn ih hR1 hS hA hI hSt hD hch hcc0 hc hX1 hX2 hok1 hok2 hb (by omega)).mono (fun z G' k => zk_k_ret rfl (fun _ => rfl) k))
    · refine zm_J_run zm_T 1 (pc' := 29) (lv' := [(0, .ref 2), (1, .ref (xa + 37)), (2, .null), (3, .int (nI (60 - n)))]) (st' := [.ref (xa + 37)]) (G' := (zk_H R ex sl s r el f g df)) rfl ?_
      refine zg_gf (fs := [.int 61, .int ix, .ref (y1 + 37), .ref (y2 + 37), p3]) rfl (zk_at hc) rfl ?_
      refine zm_J_run zm_T 1 (pc' := 281) (lv' := [(0, .ref 2), (1, .ref (xa + 37)), (2, .null), (3, .int (nI (60 - n)))]) (st' := []) (G' := (zk_H R ex sl s r el f g df)) rfl ?_
      refine zm_J_run zm_T 4 (pc' := 285) (lv' := [(0, .ref 2), (1, .ref (xa + 37)), (2, .null), (3, .int (nI (60 - n)))]) (st' := [.int (nI (60 - n)), .null, .ref (xa + 37), .ref 2]) (G' := (zk_H R ex sl s r el f g df)) rfl ?_
      refine zg_VT (a := 2) (av := [.ref (xa + 37), .null, .int (nI (60 - n))]) (rest := []) (zm_T.1 37 285 _ rfl).1 zc_37_285 rfl (zm_out0 rfl) (Nat.le_of_ble_eq_true rfl) (Nat.le_of_ble_eq_true rfl) (zk_c hr) (zk_s hr) ((zk_rec hB h8 hDw hn ih hR1 hS hA hI hSt hD hch hcc0 hc hX1 hX2 hok1 hok2 hb (by omega)).mono (fun z G' k => zk_k_ret rfl (fun _ => rfl) k))
  · rcases hcc with rfl | rfl | rfl | rfl | rfl | rfl | rfl
    · refine zm_J_run zm_T 1 (pc' := 29) (lv' := [(0, .ref 2), (1, .ref (xa + 37)), (2, .ref z0), (3, .int (nI (60 - n)))]) (st' := [.ref (xa + 37)]) (G' := (zk_H R ex sl s r el f g df)) rfl ?_
      refine zg_gf (fs := [.int 43, .int ix, .ref (y1 + 37), .ref (y2 + 37), p3]) rfl (zk_at hc) rfl ?_
      refine zm_J_run zm_T 1 (pc' := 281) (lv' := [(0, .ref 2), (1, .ref (xa + 37)), (2, .ref z0), (3, .int (nI (60 - n)))]) (st' := []) (G' := (zk_H R ex sl s r el f g df)) rfl ?_
      refine zm_J_run zm_T 4 (pc' := 285) (lv' := [(0, .ref 2), (1, .ref (xa + 37)), (2, .ref z0), (3, .int (nI (60 - n)))]) (st' := [.int (nI (60 - n)), .ref z0, .ref (xa + 37), .ref 2]) (G' := (zk_H R ex sl s r el f g df)) rfl ?_
      refine zg_VT (a := 2) (av := [.ref (xa + 37), .ref z0, .int (nI (60 - n))]) (rest := []) (zm_T.1 37 285 _ rfl).1 zc_37_285 rfl (zm_out0 rfl) (Nat.le_of_ble_eq_true rfl) (Nat.le_of_ble_eq_true rfl) (zk_c hr) (zk_s hr) ((zk_rec hB h8 hDw hn ih hR1 hS hA hI hSt hD hch hcc0 hc hX1 hX2 hok1 hok2 hb (by omega)).mono (fun z G' k => zk_k_ret rfl (fun _ => rfl) k))
    · refine zm_J_run zm_T 1 (pc' := 29) (lv' := [(0, .ref 2), (1, .ref (xa + 37)), (2, .ref z0), (3, .int (nI (60 - n)))]) (st' := [.ref (xa + 37)]) (G' := (zk_H R ex sl s r el f g df)) rfl ?_
      refine zg_gf (fs := [.int 45, .int ix, .ref (y1 + 37), .ref (y2 + 37), p3]) rfl (zk_at hc) rfl ?_
      refine zm_J_run zm_T 1 (pc' := 281) (lv' := [(0, .ref 2), (1, .ref (xa + 37)), (2, .ref z0), (3, .int (nI (60 - n)))]) (st' := []) (G' := (zk_H R ex sl s r el f g df)) rfl ?_
      refine zm_J_run zm_T 4 (pc' := 285) (lv' := [(0, .ref 2), (1, .ref (xa + 37)), (2, .ref z0), (3, .int (nI (60 - n)))]) (st' := [.int (nI (60 - n)), .ref z0, .ref (xa + 37), .ref 2]) (G' := (zk_H R ex sl s r el f g df)) rfl ?_
      refine zg_VT (a := 2) (av := [.ref (xa + 37), .ref z0, .int (nI (60 - n))]) (rest := []) (zm_T.1 37 285 _ rfl).1 zc_37_285 rfl (zm_out0 rfl) (Nat.le_of_ble_eq_true rfl) (Nat.le_of_ble_eq_true rfl) (zk_c hr) (zk_s hr) ((zk_rec hB h8 hDw hn ih hR1 hS hA hI hSt hD hch hcc0 hc hX1 hX2 hok1 hok2 hb (by omega)).mono (fun z G' k => zk_k_ret rfl (fun _ => rfl) k))
    · refine zm_J_run zm_T 1 (pc' := 29) (lv' := [(0, .ref 2), (1, .ref (xa + 37)), (2, .ref z0), (3, .int (nI (60 - n)))]) (st' := [.ref (xa + 37)]) (G' := (zk_H R ex sl s r el f g df)) rfl ?_
      refine zg_gf (fs := [.int 42, .int ix, .ref (y1 + 37), .ref (y2 + 37), p3]) rfl (zk_at hc) rfl ?_
      refine zm_J_run zm_T 1 (pc' := 281) (lv' := [(0, .ref 2), (1, .ref (xa + 37)), (2, .ref z0), (3, .int (nI (60 - n)))]) (st' := []) (G' := (zk_H R ex sl s r el f g df)) rfl ?_
      refine zm_J_run zm_T 4 (pc' := 285) (lv' := [(0, .ref 2), (1, .ref (xa + 37)), (2, .ref z0), (3, .int (nI (60 - n)))]) (st' := [.int (nI (60 - n)), .ref z0, .ref (xa + 37), .ref 2]) (G' := (zk_H R ex sl s r el f g df)) rfl ?_
      refine zg_VT (a := 2) (av := [.ref (xa + 37), .ref z0, .int (nI (60 - n))]) (rest := []) (zm_T.1 37 285 _ rfl).1 zc_37_285 rfl (zm_out0 rfl) (Nat.le_of_ble_eq_true rfl) (Nat.le_of_ble_eq_true rfl) (zk_c hr) (zk_s hr) ((zk_rec hB h8 hDw hn ih hR1 hS hA hI hSt hD hch hcc0 hc hX1 hX2 hok1 hok2 hb (by omega)).mono (fun z G' k => zk_k_ret rfl (fun _ => rfl) k))
    · refine zm_J_run zm_T 1 (pc' := 29) (lv' := [(0, .ref 2), (1, .ref (xa + 37)), (2, .ref z0), (3, .int (nI (60 - n)))]) (st' := [.ref (xa + 37)]) (G' := (zk_H R ex sl s r el f g df)) rfl ?_
      refine zg_gf (fs := [.int 47, .int ix, .ref (y1 + 37), .ref (y2 + 37), p3]) rfl (zk_at hc) rfl ?_
      refine zm_J_run zm_T 1 (pc' := 281) (lv' := [(0, .ref 2), (1, .ref (xa + 37)), (2, .ref z0), (3, .int (nI (60 - n)))]) (st' := []) (G' := (zk_H R ex sl s r el f g df)) rfl ?_
      refine zm_J_run zm_T 4 (pc' := 285) (lv' := [(0, .ref 2), (1, .ref (xa + 37)), (2, .ref z0), (3, .int (nI (60 - n)))]) (st' := [.int (nI (60 - n)), .ref z0, .ref (xa + 37), .ref 2]) (G' := (zk_H R ex sl s r el f g df)) rfl ?_
      refine zg_VT (a := 2) (av := [.ref (xa + 37), .ref z0, .int (nI (60 - n))]) (rest := []) (zm_T.1 37 285 _ rfl).1 zc_37_285 rfl (zm_out0 rfl) (Nat.le_of_ble_eq_true rfl) (Nat.le_of_ble_eq_true rfl) (zk_c hr) (zk_s hr) ((zk_rec hB h8 hDw hn ih hR1 hS hA hI hSt hD hch hcc0 hc hX1 hX2 hok1 hok2 hb (by omega)).mono (fun z G' k => zk_k_ret rfl (fun _ => rfl) k))
    · refine zm_J_run zm_T 1 (pc' := 29) (lv' := [(0, .ref 2), (1, .ref (xa + 37)), (2, .ref z0), (3, .int (nI (60 - n)))]) (st' := [.ref (xa + 37)]) (G' := (zk_H R ex sl s r el f g df)) rfl ?_
      refine zg_gf (fs := [.int 37, .int ix, .ref (y1 + 37), .ref (y2 + 37), p3]) rfl (zk_at hc) rfl ?_
      refine zm_J_run zm_T 1 (pc' := 281) (lv' := [(0, .ref 2), (1, .ref (xa + 37)), (2, .ref z0), (3, .int (nI (60 - n)))]) (st' := []) (G' := (zk_H R ex sl s r el f g df)) rfl ?_
      refine zm_J_run zm_T 4 (pc' := 285) (lv' := [(0, .ref 2), (1, .ref (xa + 37)), (2, .ref z0), (3, .int (nI (60 - n)))]) (st' := [.int (nI (60 - n)), .ref z0, .ref (xa + 37), .ref 2]) (G' := (zk_H R ex sl s r el f g df)) rfl ?_
      refine zg_VT (a := 2) (av := [.ref (xa + 37), .ref z0, .int (nI (60 - n))]) (rest := []) (zm_T.1 37 285 _ rfl).1 zc_37_285 rfl (zm_out0 rfl) (Nat.le_of_ble_eq_true rfl) (Nat.le_of_ble_eq_true rfl) (zk_c hr) (zk_s hr) ((zk_rec hB h8 hDw hn ih hR1 hS hA hI hSt hD hch hcc0 hc hX1 hX2 hok1 hok2 hb (by omega)).mono (fun z G' k => zk_k_ret rfl (fun _ => rfl) k))
    · refine zm_J_run zm_T 1 (pc' := 29) (lv' := [(0, .ref 2), (1, .ref (xa + 37)), (2, .ref z0), (3, .int (nI (60 - n)))]) (st' := [.ref (xa + 37)]) (G' := (zk_H R ex sl s r el f g df)) rfl ?_
      refine zg_gf (fs := [.int 60, .int ix, .ref (y1 + 37), .ref (y2 + 37), p3]) rfl (zk_at hc) rfl ?_
      refine zm_J_run zm_T 1 (pc' := 281) (lv' := [(0, .ref 2), (1, .ref (xa + 37)), (2, .ref z0), (3, .int (nI (60 - n)))]) (st' := []) (G' := (zk_H R ex sl s r el f g df)) rfl ?_
      refine zm_J_run zm_T 4 (pc' := 285) (lv' := [(0, .ref 2), (1, .ref (xa + 37)), (2, .ref z0), (3, .int (nI (60 - n)))]) (st' := [.int (nI (60 - n)), .ref z0, .ref (xa + 37), .ref 2]) (G' := (zk_H R ex sl s r el f g df)) rfl ?_
      refine zg_VT (a := 2) (av := [.ref (xa + 37), .ref z0, .int (nI (60 - n))]) (rest := []) (zm_T.1 37 285 _ rfl).1 zc_37_285 rfl (zm_out0 rfl) (Nat.le_of_ble_eq_true rfl) (Nat.le_of_ble_eq_true rfl) (zk_c hr) (zk_s hr) ((zk_rec hB h8 hDw hn ih hR1 hS hA hI hSt hD hch hcc0 hc hX1 hX2 hok1 hok2 hb (by omega)).mono (fun z G' k => zk_k_ret rfl (fun _ => rfl) k))
    · refine zm_J_run zm_T 1 (pc' := 29) (lv' := [(0, .ref 2), (1, .ref (xa + 37)), (2, .ref z0), (3, .int (nI (60 - n)))]) (st' := [.ref (xa + 37)]) (G' := (zk_H R ex sl s r el f g df)) rfl ?_
      refine zg_gf (fs := [.int 61, .int ix, .ref (y1 + 37), .ref (y2 + 37), p3]) rfl (zk_at hc) rfl ?_
      refine zm_J_run zm_T 1 (pc' := 281) (lv' := [(0, .ref 2), (1, .ref (xa + 37)), (2, .ref z0), (3, .int (nI (60 - n)))]) (st' := []) (G' := (zk_H R ex sl s r el f g df)) rfl ?_
      refine zm_J_run zm_T 4 (pc' := 285) (lv' := [(0, .ref 2), (1, .ref (xa + 37)), (2, .ref z0), (3, .int (nI (60 - n)))]) (st' := [.int (nI (60 - n)), .ref z0, .ref (xa + 37), .ref 2]) (G' := (zk_H R ex sl s r el f g df)) rfl ?_
      refine zg_VT (a := 2) (av := [.ref (xa + 37), .ref z0, .int (nI (60 - n))]) (rest := []) (zm_T.1 37 285 _ rfl).1 zc_37_285 rfl (zm_out0 rfl) (Nat.le_of_ble_eq_true rfl) (Nat.le_of_ble_eq_true rfl) (zk_c hr) (zk_s hr) ((zk_rec hB h8 hDw hn ih hR1 hS hA hI hSt hD hch hcc0 hc hX1 hX2 hok1 hok2 hb (by omega)).mono (fun z G' k => zk_k_ret rfl (fun _ => rfl) k))
theorem zk_wk (hB : zk_BS B S) (h8 : 8 ≤ d) (hDw : zv_wD D) {n : Nat} (hn : n ≤ 60) (ih : zk_EV B S N R r f g df D d n) (hR1 : R 1 = zk_em) : zk_EV B S N R r f g df D d (n + 1) := by
  intro w L A σ j ex sl s el va ca ka q xa m ch hS hok hA hb hI hSt hD hX hch
  have hr := zk_I_r hB hI
  cases w with
  | nil => cases hok
  | cons c r0 =>
  cases m with
  | zero => exact hX.elim
  | succ m =>
  obtain ⟨c', r', sg, ix, p1, p2, p3, hw, hc, hsg, hx1, hx2, hx3⟩ := hX
  cases hw
  obtain ⟨hl, hrk⟩ := zv_ok_cons hok
  rw [zv_n_cons] at hb
  rw [show 61 - (n + 1) = 60 - n by omega, show d + 3 * (n + 1) = d + 3 * n + 2 + 1 by omega]
  have key : zm_J N (d + 3 * n + 2 + 1) 37 28 [(0, .ref 2), (1, .ref (xa + 37)), (2, ch), (3, .int (nI (60 - n)))] [] (zk_H R ex sl (zu s 4 (zk_mx (s 4) (nI (60 - n)))) r el f g df) (zk_EQ B S R r f g df ex (zu s 4 (zk_mx (s 4) (nI (60 - n)))) va ca ka σ.2.2.2 σ.2.2.1 (zv_E D (n + 1) (c :: r0) L A σ)) := by
    have hI : zk_I B S ex sl (zu s 4 (zk_mx (s 4) (nI (60 - n)))) el va ca ka q := zk_I_s rfl rfl rfl hI
    have hSt : zk_St ex (zu s 4 (zk_mx (s 4) (nI (60 - n)))) va ca ka σ := zk_St_s rfl rfl rfl rfl hSt
    generalize zu s 4 (zk_mx (s 4) (nI (60 - n))) = s at *
    have b3 := hb.2.2.1
    have b4 := hb.2.2.2
    rcases hsg with ⟨h1, rfl, rfl⟩ | ⟨h1, rfl, rfl⟩ | ⟨rfl, rfl⟩ | ⟨h1, rfl, h3, rfl⟩ | ⟨hp, rfl⟩
    · rw [zv_E_dig h1]
      exact zk_w_dig hB h8 hDw hn ih hR1 hS hA hI hSt hD hch (by omega) hc (j := 0) (r0 := []) (by omega)
    · rw [zv_E_nam h1]
      obtain ⟨k1, k2⟩ := zv_name h1
      rw [zi_nat k1] at hc ⊢
      exact zk_w_nam hB h8 hDw hn ih hR1 hS hA hI hSt hD hch k2 (hb.down (i := j + 1) (j := j + 1) (by omega) (by omega)) hc (r0 := []) (by omega)
    · rw [zv_E_nil]
      exact zk_w_nil hB h8 hDw hn ih hR1 hS hA hI hSt hD hch hc (j := 0) (r0 := []) (by omega)
    · rw [zv_E_par h1]
      exact zk_w_par hB h8 hDw hn ih hR1 hS hA hI hSt hD hch h3 (hb.down (i := j + 1) (j := j) (by omega) (by omega)) hc (r0 := []) (by omega)
    · have e0 : zv_p sg = 1 + (zv_p sg - 1) := by omega
      have hr1 : zv_ok L r0 1 = true := by
        rw [e0, zv_ok_add] at hrk
        exact hrk.1
      have hr2 : zv_ok L (zv_sk r0 1) (zv_p sg - 1) = true := by
        rw [e0, zv_ok_add] at hrk
        exact hrk.2
      rw [e0, zv_n_add] at hb
      obtain ⟨y1, rfl, hX1⟩ := hx1 (by omega)
      by_cases h46 : sg = 46
      · subst h46
        obtain ⟨y2, rfl, hX2⟩ := hx2 (by decide)
        rw [zv_E_op hp (by decide)]
        exact zk_w_app hB h8 hDw hn ih hR1 hS hA hI hSt hD hch hX1 hX2 hr1 hr2 (hb.down (i := zv_n r0 1 + (zv_n (zv_sk r0 1) 1 + (j + 1))) (j := zv_n r0 1 + (zv_n (zv_sk r0 1) 1 + (j + 1))) (by show _ ≤ zv_n r0 1 + zv_n (zv_sk r0 1) 1 + 1 + j; omega) (by show _ ≤ zv_n r0 1 + zv_n (zv_sk r0 1) 1 + 1 + j; omega)) hc (by omega)
      by_cases h122 : sg = 122
      · subst h122
        rw [zv_E_op hp (by decide)]
        exact zk_w_z hB h8 hDw hn ih hR1 hS hA hI hSt hD hch hX1 hr1 (hb.down (i := zv_n r0 1 + (j + 1)) (j := zv_n r0 1 + (j + 1)) (by omega) (by omega)) hc (by omega)
      by_cases h104 : sg = 104
      · subst h104
        rw [zv_E_op hp (by decide)]
        exact zk_w_hd hB h8 hDw hn ih hR1 hS hA hI hSt hD hch hX1 hr1 (hb.down (i := zv_n r0 1 + (j + 1)) (j := zv_n r0 1 + (j + 1)) (by omega) (by omega)) hc (by omega)
      by_cases h116 : sg = 116
      · subst h116
        rw [zv_E_op hp (by decide)]
        exact zk_w_tl hB h8 hDw hn ih hR1 hS hA hI hSt hD hch hX1 hr1 (hb.down (i := zv_n r0 1 + (j + 1)) (j := zv_n r0 1 + (j + 1)) (by omega) (by omega)) hc (by omega)
      by_cases h63 : sg = 63
      · subst h63
        obtain ⟨y2, rfl, hX2⟩ := hx2 (by decide)
        obtain ⟨y3, rfl, hX3⟩ := hx3 (by decide)
        have e3 : zv_p 63 - 1 = 1 + 1 := by decide
        rw [e3, zv_ok_add] at hr2
        rw [e3, zv_n_add] at hb
        rw [zv_E_op hp (by decide)]
        exact zk_w_cho hB h8 hDw hn ih hR1 hS hA hI hSt hD hch hX1 hX2 hX3 hr1 hr2.1 hr2.2 (hb.down (i := zv_n r0 1 + (zv_n (zv_sk r0 1) 1 + zv_n (zv_sk (zv_sk r0 1) 1) 1 + (j + 1))) (j := zv_n r0 1 + (zv_n (zv_sk r0 1) 1 + zv_n (zv_sk (zv_sk r0 1) 1) 1 + (j + 1))) (by omega) (by omega)) hc (by omega)
      by_cases h58 : sg = 58
      · subst h58
        obtain ⟨y2, rfl, hX2⟩ := hx2 (by decide)
        rw [zv_E_pair]
        exact zk_w_pair hB h8 hDw hn ih hR1 hS hA hI hSt hD hch hX1 hX2 hr1 hr2 (hb.down (i := zv_n r0 1 + (zv_n (zv_sk r0 1) 1 + (j + 1))) (j := zv_n r0 1 + (zv_n (zv_sk r0 1) 1 + (j + 1))) (by show _ ≤ zv_n r0 1 + zv_n (zv_sk r0 1) 1 + 1 + j; omega) (by show _ ≤ zv_n r0 1 + zv_n (zv_sk r0 1) 1 + 1 + j; omega)) hc (by omega)
      have hht : ¬ (sg = 104 ∨ sg = 116) := fun z => z.elim h104 h116
      have hcc := zv_p_op hp h46 h122 hht h63 h58
      have e1 : zv_p sg - 1 = 1 := by rw [zv_p_2 hp h122 hht h63]
      rw [e1] at hr2 hb
      obtain ⟨y2, rfl, hX2⟩ := hx2 (by omega)
      rw [zv_E_op hp h58]
      exact zk_w_rec hB h8 hDw hn ih hR1 hS hA hI hSt hD hch hcc hX1 hX2 hr1 hr2 (hb.down (i := zv_n r0 1 + (zv_n (zv_sk r0 1) 1 + (j + 1))) (j := zv_n r0 1 + (zv_n (zv_sk r0 1) 1 + (j + 1))) (by omega) (by omega)) hc (by omega)
  have key := key.mono (Q' := zk_EQ B S R r f g df ex s va ca ka σ.2.2.2 σ.2.2.1 (zv_E D (n + 1) (c :: r0) L A σ)) (fun z G k => zk_EQ_tr (zk_P.refl ..) (fun k h1 h2 => zk_une (by omega)) (Nat.le_refl _) (Nat.le_refl _) k)
  rcases zk_ch_sh hch with rfl | ⟨z0, rfl⟩
  · refine zm_J_run zm_T 3 (pc' := if (nI (60 - n)) ≤ 60 then 16 else 6) (lv' := [(0, .ref 2), (1, .ref (xa + 37)), (2, .null), (3, .int (nI (60 - n)))]) (st' := []) (G' := (zk_H R ex sl s r el f g df)) rfl ?_
    rw [if_pos (show (nI (60 - n)) ≤ 60 from nI_le (b := 60) (by omega) (by decide))]
    refine zm_J_run zm_T 4 (pc' := 22) (lv' := [(0, .ref 2), (1, .ref (xa + 37)), (2, .null), (3, .int (nI (60 - n)))]) (st' := [.int (nI (60 - n)), .int (s 4), .ref 2]) (G' := (zk_H R ex sl s r el f g df)) rfl ?_
    refine zm_J_mx (zm_T.1 37 22 _ rfl).1 zj_m37_22 (Nat.le_of_ble_eq_true rfl) (zk_c hr) (zk_s hr) ?_
    rw [show (if (s 4) < (nI (60 - n)) then (nI (60 - n)) else (s 4)) = zk_mx (s 4) (nI (60 - n)) from rfl]
    show zm_J N _ 37 25 [(0, .ref 2), (1, .ref (xa + 37)), (2, .null), (3, .int (nI (60 - n)))] [.int (zk_mx (s 4) (nI (60 - n))), .ref 2] (zk_H R ex sl s r el f g df) _
    refine zm_J_run zm_T 1 (pc' := 28) (lv' := [(0, .ref 2), (1, .ref (xa + 37)), (2, .null), (3, .int (nI (60 - n)))]) (st' := []) (G' := (zk_H R ex sl (zu s 4 (zk_mx (s 4) (nI (60 - n)))) r el f g df)) rfl ?_
    exact key
  · refine zm_J_run zm_T 3 (pc' := if (nI (60 - n)) ≤ 60 then 16 else 6) (lv' := [(0, .ref 2), (1, .ref (xa + 37)), (2, .ref z0), (3, .int (nI (60 - n)))]) (st' := []) (G' := (zk_H R ex sl s r el f g df)) rfl ?_
    rw [if_pos (show (nI (60 - n)) ≤ 60 from nI_le (b := 60) (by omega) (by decide))]
    refine zm_J_run zm_T 4 (pc' := 22) (lv' := [(0, .ref 2), (1, .ref (xa + 37)), (2, .ref z0), (3, .int (nI (60 - n)))]) (st' := [.int (nI (60 - n)), .int (s 4), .ref 2]) (G' := (zk_H R ex sl s r el f g df)) rfl ?_
    refine zm_J_mx (zm_T.1 37 22 _ rfl).1 zj_m37_22 (Nat.le_of_ble_eq_true rfl) (zk_c hr) (zk_s hr) ?_
    rw [show (if (s 4) < (nI (60 - n)) then (nI (60 - n)) else (s 4)) = zk_mx (s 4) (nI (60 - n)) from rfl]
    show zm_J N _ 37 25 [(0, .ref 2), (1, .ref (xa + 37)), (2, .ref z0), (3, .int (nI (60 - n)))] [.int (zk_mx (s 4) (nI (60 - n))), .ref 2] (zk_H R ex sl s r el f g df) _
    refine zm_J_run zm_T 1 (pc' := 28) (lv' := [(0, .ref 2), (1, .ref (xa + 37)), (2, .ref z0), (3, .int (nI (60 - n)))]) (st' := []) (G' := (zk_H R ex sl (zu s 4 (zk_mx (s 4) (nI (60 - n)))) r el f g df)) rfl ?_
    exact key
theorem zk_ev (hB : zk_BS B S) (h8 : 8 ≤ d) (hDw : zv_wD D) (hR1 : R 1 = zk_em) : ∀ n, n ≤ 60 → zk_EV B S N R r f g df D d n := by
  intro n
  induction n with
  | zero =>
    intro _ w L A σ j ex sl s el va ca ka q xa m ch hS hok hA hb hI hSt hD hX hch
    rw [show d + 3 * 0 = d from rfl, show 61 - 0 = 61 from rfl]
    rcases zk_ch_sh hch with rfl | ⟨z0, rfl⟩
    · refine zm_J_run zm_T 3 (pc' := if (nI 61) ≤ 60 then 16 else 6) (lv' := [(0, .ref 2), (1, .ref (xa + 37)), (2, .null), (3, .int (nI 61))]) (st' := []) (G' := (zk_H R ex sl s r el f g df)) rfl ?_
      rw [if_neg (show ¬ ((nI 61) ≤ 60) from by decide)]
      exact zk_throw (e := 4) hB hI zx_37_6 rfl (by omega) (by decide) (fun z G e => e)
    · refine zm_J_run zm_T 3 (pc' := if (nI 61) ≤ 60 then 16 else 6) (lv' := [(0, .ref 2), (1, .ref (xa + 37)), (2, .ref z0), (3, .int (nI 61))]) (st' := []) (G' := (zk_H R ex sl s r el f g df)) rfl ?_
      rw [if_neg (show ¬ ((nI 61) ≤ 60) from by decide)]
      exact zk_throw (e := 4) hB hI zx_37_6 rfl (by omega) (by decide) (fun z G e => e)
  | succ n ih =>
    intro hn
    exact zk_wk hB h8 hDw (by omega) (ih (by omega)) hR1
end ZKW

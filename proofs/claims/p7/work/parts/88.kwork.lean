/-! WORKING OUT, in the class -/
theorem zk_ch_bf {ex : List zm_E} {ca ka : List Nat} {na : Nat} {l : List Nat} {x : Value} (h : zk_ch ex ca ka na l x) : (x = .null ∧ l.length = 0) ∨ ∃ z m2 b1 b2, x = .ref (z + 37) ∧ m2 < na ∧ ka[m2]? = some z ∧ ex[z]? = some (Sum.inr (9, [b1, b2, .int (nI l.length)]) : zm_E) := by
  cases l with
  | nil => exact Or.inl ⟨h, rfl⟩
  | cons c l =>
    obtain ⟨y, m, p, b, h0, h1, h2, h3, h4, h5, h6⟩ := h
    exact Or.inr ⟨y, m, b, _, h1, h2, h3, h5⟩
theorem zv_G_app (D : zv_D) (E : zv_Ev) (r L : List Int32) (A : List Nat) (v : zv_V) (s : zv_S) : zv_G D E 46 r L A v s = zv_A D E (zv_sk r 1) L A v s := by
  unfold zv_G; rw [if_pos (by decide)]
theorem zv_G_z (D : zv_D) (E : zv_Ev) (r L : List Int32) (A : List Nat) (v : zv_V) (s : zv_S) : zv_G D E 122 r L A v s = if v.1 = 1 then (.inr (zv_num 1), zv_v s) else if v.1 = 2 then (.inr (zv_num 0), zv_v s) else (.inl 5, s) := by
  unfold zv_G; rw [if_neg (by decide), if_pos (by decide)]
theorem zv_G_h (D : zv_D) (E : zv_Ev) (r L : List Int32) (A : List Nat) (v : zv_V) (s : zv_S) : zv_G D E 104 r L A v s = if v.1 = 1 then (.inl 2, s) else if v.1 = 2 then zv_F E v.2.2.1 s else (.inl 5, s) := by
  unfold zv_G; rw [if_neg (by decide), if_neg (by decide), if_pos (by decide), if_pos (show (104 : Int32) = 104 by decide)]
theorem zv_G_t (D : zv_D) (E : zv_Ev) (r L : List Int32) (A : List Nat) (v : zv_V) (s : zv_S) : zv_G D E 116 r L A v s = if v.1 = 1 then (.inl 2, s) else if v.1 = 2 then zv_F E v.2.2.2.1 s else (.inl 5, s) := by
  unfold zv_G; rw [if_neg (by decide), if_neg (by decide), if_pos (by decide), if_neg (show ¬ (116 : Int32) = 104 by decide)]
theorem zv_G_q (D : zv_D) (E : zv_Ev) (r L : List Int32) (A : List Nat) (v : zv_V) (s : zv_S) : zv_G D E 63 r L A v s = if v.1 = 0 then E (if v.2.1 = 0 then zv_sk (zv_sk r 1) 1 else zv_sk r 1) L A s else (.inl 5, s) := by
  unfold zv_G; rw [if_neg (by decide), if_neg (by decide), if_neg (by decide), if_pos (show (63 : Int32) = 63 by decide)]
theorem zv_G_op {c : Int32} (hc : c = 43 ∨ c = 45 ∨ c = 42 ∨ c = 47 ∨ c = 37 ∨ c = 60 ∨ c = 61) (D : zv_D) (E : zv_Ev) (r L : List Int32) (A : List Nat) (v : zv_V) (s : zv_S) : zv_G D E c r L A v s = if v.1 = 0 then zv_B (E (zv_sk r 1) L A s) (zv_R c v.2.1) else (.inl 5, s) := by
  obtain ⟨n1, n2, n3, n5⟩ : ¬ c = 46 ∧ ¬ c = 122 ∧ ¬ (c = 104 ∨ c = 116) ∧ ¬ c = 63 := by rcases hc with e | e | e | e | e | e | e <;> subst e <;> decide
  unfold zv_G; rw [if_neg n1, if_neg n2, if_neg n3, if_neg n5]
section ZKW
variable {R : Nat → zm_E} {ex : List zm_E} {sl : Nat} {s : Nat → Int32} {r : Value} {el : Nat → Nat} {f g : Nat → Int32} {df : Nat → Option Nat} {N : zm_N} {d : Nat} {Q : zm_O → zm_H → Prop} {B S : Nat} {va ca ka : List Nat} {q : Nat × Nat × Nat} {σ : zv_S} {D : zv_D}
theorem zk_app (hB : zk_BS B S) (h8 : 8 ≤ d) (hDw : zv_wD D) {n : Nat} (hn : n ≤ 60) (ih : zk_EV B S N R r f g df D d n) (hR1 : R 1 = zk_em) {j : Nat} (hS : zv_wS σ) {r0 L : List Int32} {A : List Nat} (hA : zv_wE σ.1.length L A) (hI : zk_I B S ex sl s el va ca ka q) (hSt : zk_St ex s va ca ka σ) (hD : zk_D ex df D) {xa : Nat} {ch : Value} (hch : zk_ch ex ca ka σ.2.2.1 A.reverse ch) {ix : Int32} {y1 y2 m1 m2 : Nat} {p3 : Value} (hc : ex[xa]? = some (Sum.inr (7, [.int 46, .int ix, .ref (y1 + 37), .ref (y2 + 37), p3]) : zm_E)) (hX1 : zk_X ex L m1 r0 y1) (hX2 : zk_X ex L m2 (zv_sk r0 1) y2) (hok1 : zv_ok L r0 1 = true) (hok2 : zv_ok L (zv_sk r0 1) 1 = true) (hb : zv_b σ (zv_n r0 1 + (zv_n (zv_sk r0 1) 1 + (j + 1))) (zv_n r0 1 + (zv_n (zv_sk r0 1) 1 + (j + 1)))) {d' : Nat} (hd' : d + 3 * n + 2 ≤ d') : zm_J N d' 51 0 [(0, .ref 2), (1, .ref (xa + 37)), (2, ch), (3, .int (nI (60 - n)))] [] (zk_H R ex sl s r el f g df) (zk_EQ B S R r f g df ex s va ca ka σ.2.2.2 σ.2.2.1 (zv_B (zv_E D n r0 L A σ) (zv_G D (zv_E D n) 46 r0 L A))) := by
  obtain ⟨d', rfl⟩ : ∃ e, d' = e + 1 := ⟨d' - 1, by omega⟩
  have hdep : nI (60 - n) + 1 = nI (61 - n) := by rw [show 61 - n = 60 - n + 1 by omega]; exact nI_1 _
  have hr := zk_I_r hB hI
  have hq := zv_E_ok hDw n r0 L A σ _ hS hok1 hA hb
  have hih := ih r0 L A σ _ ex sl s el va ca ka q y1 m1 ch hS hok1 hA hb hI hSt hD hX1 hch
  rcases zk_ch_sh hch with rfl | ⟨z0, rfl⟩
  · refine zm_J_run zm_T 2 (pc' := 2) (lv' := [(0, .ref 2), (1, .ref (xa + 37)), (2, .null), (3, .int (nI (60 - n)))]) (st' := [.ref (xa + 37), .ref 2]) (G' := (zk_H R ex sl s r el f g df)) rfl ?_
    refine zg_gf (fs := [.int 46, .int ix, .ref (y1 + 37), .ref (y2 + 37), p3]) rfl (zk_at hc) rfl ?_
    refine zm_J_run zm_T 4 (pc' := 9) (lv' := [(0, .ref 2), (1, .ref (xa + 37)), (2, .null), (3, .int (nI (60 - n)))]) (st' := [.int ((nI (60 - n)) + 1), .null, .ref (y1 + 37), .ref 2]) (G' := (zk_H R ex sl s r el f g df)) rfl ?_
    rw [hdep]
    show zm_J N _ 51 9 [(0, .ref 2), (1, .ref (xa + 37)), (2, .null), (3, .int (nI (60 - n)))] [.int (nI (61 - n)), .null, .ref (y1 + 37), .ref 2] (zk_H R ex sl s r el f g df) _
    refine zg_VT (a := 2) (av := [.ref (y1 + 37), .null, .int (nI (61 - n))]) (rest := []) (zm_T.1 51 9 _ rfl).1 zc_51_9 rfl (zm_out0 rfl) (Nat.le_of_ble_eq_true rfl) (Nat.le_of_ble_eq_true rfl) (zk_c hr) (zk_s hr) ((zm_J_d (by omega) hih).mono (fun z G' k => ?_))
    generalize zv_E D n r0 L A σ = o at k hq ⊢
    obtain ⟨o1, σ'⟩ := o
    cases o1 with
    | inl e => exact zk_k_er k k
    | inr v =>
      obtain ⟨ex', sl', s', el', va', ca', ka', q', u, rfl, rfl, o3, o4, o5, o6, o7, o8, o9⟩ := k
      obtain ⟨w1, w2, w3, w4⟩ := hq v rfl
      dsimp only at w1 w2 w3 w4
      have hr1 := zk_I_r hB o3
      show zm_J N _ 51 12 [(0, .ref 2), (1, .ref (xa + 37)), (2, .null), (3, .int (nI (60 - n)))] [.ref u] (zk_H R ex' sl' s' r el' f g df) _
      rw [show zv_B (Sum.inr v, σ') (zv_G D (zv_E D n) 46 r0 L A) = zv_A D (zv_E D n) (zv_sk r0 1) L A v σ' from zv_G_app ..]
      unfold zv_A
      have hc' := o4.2.1 xa 7 _ (Or.inr rfl) hc
      have hD' := zk_D_up o4.2.1 hD
      have hch' := zk_ch_up o4 o9 _ _ hch
      have hX2' := zk_X_up o4.2.1 _ _ _ hX2
      have hA' := hA.up w3.len
      by_cases h3 : v.1 = 3
      · rw [if_pos h3]
        rcases o6 with ⟨e1, _⟩ | ⟨m, y, x, hh, t, a, e1, e2, rfl, e4, e5⟩
        · exact absurd (e1.symm.trans h3) (by decide)
        obtain ⟨rfl, hca⟩ : x = .int v.2.1 ∧ zk_ch ex' ca' ka' σ'.2.2.1 v.2.2.2.2.reverse a := by
          rcases e5 with z | z | z
          · exact absurd (z.1.symm.trans h3) (by decide)
          · exact absurd (z.1.symm.trans h3) (by decide)
          · exact z.2
        have hnum := w2.2.1 h3
        have hvl := w2.2.2.2
        obtain ⟨k, hk, hkv⟩ : ∃ k, k < 6 ∧ v.2.1 = nI k := ⟨_, hnum.2, zi_nat hnum.1⟩
        have hkc : v.2.1.toNatClampNeg = k := by rw [hkv]; exact nI_clamp (by omega)
        rw [hkc]
        rw [hkv] at e4
        cases hDk : D k with
        | none =>
          refine zm_J_run zm_T 2 (pc' := 16) (lv' := [(4, .ref (y + 37)), (0, .ref 2), (1, .ref (xa + 37)), (2, .null), (3, .int (nI (60 - n)))]) (st' := [.ref (y + 37)]) (G' := (zk_H R ex' sl' s' r el' f g df)) rfl ?_
          refine zg_gf (fs := [.int v.1, .int (nI k), hh, t, a]) rfl (zk_at e4) rfl ?_
          refine zm_J_run zm_T 2 (pc' := if v.1 = 3 then 33 else 23) (lv' := [(4, .ref (y + 37)), (0, .ref 2), (1, .ref (xa + 37)), (2, .null), (3, .int (nI (60 - n)))]) (st' := []) (G' := (zk_H R ex' sl' s' r el' f g df)) rfl ?_
          rw [if_pos (show v.1 = 3 from h3)]
          refine zm_J_run zm_T 2 (pc' := 36) (lv' := [(4, .ref (y + 37)), (0, .ref 2), (1, .ref (xa + 37)), (2, .null), (3, .int (nI (60 - n)))]) (st' := [.ref (y + 37), .ref 2]) (G' := (zk_H R ex' sl' s' r el' f g df)) rfl ?_
          refine zg_gf (fs := [.int v.1, .int (nI k), hh, t, a]) rfl (zk_at e4) rfl ?_
          refine zg_VT (a := 2) (av := [.int (nI k)]) (rest := []) (zm_T.1 51 39 _ rfl).1 zc_51_39 rfl (zm_out0 rfl) (Nat.le_of_ble_eq_true rfl) (Nat.le_of_ble_eq_true rfl) (zk_c hr1) (zk_s hr1) (zk_dfo0 hB o3 (by omega) hk ((hD' k hk).1 hDk) (fun z G e => zk_k_er e (zk_ER_tr o4.2.1 o7 e)))
        | some dd =>
          obtain ⟨L', b⟩ := dd
          dsimp only
          obtain ⟨yd, xb, mb, f1, hcd, hXb⟩ := (hD' k hk).2 L' b hDk
          obtain ⟨k1, k2, k3, k4, k5, -⟩ := hDw k L' b hDk
          obtain ⟨l1, l2, l3, l4⟩ := zv_b_len w1 w4
          obtain ⟨c1, c2, c3, c4⟩ := zv_cl_ok w1 hok2 hA' (hb := (w4.down (by omega) (by omega) : zv_b σ' (zv_n (zv_sk r0 1) 1 + (j + 2)) (zv_n (zv_sk r0 1) 1 + (j + 1))))
          have c5 := zv_cl_2 (zv_sk r0 1) L A σ'
          rcases zk_ch_sh hca with rfl | ⟨z1, rfl⟩
          · refine zm_J_run zm_T 2 (pc' := 16) (lv' := [(4, .ref (y + 37)), (0, .ref 2), (1, .ref (xa + 37)), (2, .null), (3, .int (nI (60 - n)))]) (st' := [.ref (y + 37)]) (G' := (zk_H R ex' sl' s' r el' f g df)) rfl ?_
            refine zg_gf (fs := [.int v.1, .int (nI k), hh, t, .null]) rfl (zk_at e4) rfl ?_
            refine zm_J_run zm_T 2 (pc' := if v.1 = 3 then 33 else 23) (lv' := [(4, .ref (y + 37)), (0, .ref 2), (1, .ref (xa + 37)), (2, .null), (3, .int (nI (60 - n)))]) (st' := []) (G' := (zk_H R ex' sl' s' r el' f g df)) rfl ?_
            rw [if_pos (show v.1 = 3 from h3)]
            refine zm_J_run zm_T 2 (pc' := 36) (lv' := [(4, .ref (y + 37)), (0, .ref 2), (1, .ref (xa + 37)), (2, .null), (3, .int (nI (60 - n)))]) (st' := [.ref (y + 37), .ref 2]) (G' := (zk_H R ex' sl' s' r el' f g df)) rfl ?_
            refine zg_gf (fs := [.int v.1, .int (nI k), hh, t, .null]) rfl (zk_at e4) rfl ?_
            refine zg_VK (a := 2) (av := [.int (nI k)]) (rest := []) (zm_T.1 51 39 _ rfl).1 zc_51_39 rfl (Nat.le_of_ble_eq_true rfl) (Nat.le_of_ble_eq_true rfl) (zk_c hr1) (zk_s hr1) (zk_dfo1 hk f1 ⟨_, rfl, ?_⟩)
            show zm_J N _ 51 42 [(4, .ref (y + 37)), (0, .ref 2), (1, .ref (xa + 37)), (2, .null), (3, .int (nI (60 - n)))] [.ref (yd + 37)] (zk_H R ex' sl' s' r el' f g df) _
            refine zm_J_run zm_T 4 (pc' := 50) (lv' := [(5, .ref (yd + 37)), (4, .ref (y + 37)), (0, .ref 2), (1, .ref (xa + 37)), (2, .null), (3, .int (nI (60 - n)))]) (st' := [.ref (y + 37), .ref 6]) (G' := (zk_H R ex' sl' s' r el' f g df)) rfl ?_
            refine zg_gf (fs := [.int v.1, .int (nI k), hh, t, .null]) rfl (zk_at e4) rfl ?_
            refine zm_J_run zm_T 2 (pc' := 55) (lv' := [(5, .ref (yd + 37)), (4, .ref (y + 37)), (0, .ref 2), (1, .ref (xa + 37)), (2, .null), (3, .int (nI (60 - n)))]) (st' := [.ref (xa + 37), .ref 2, .null, .ref 6]) (G' := (zk_H R ex' sl' s' r el' f g df)) rfl ?_
            refine zg_gf (fs := [.int 46, .int ix, .ref (y1 + 37), .ref (y2 + 37), p3]) rfl (zk_at hc') rfl ?_
            refine zm_J_run zm_T 1 (pc' := 59) (lv' := [(5, .ref (yd + 37)), (4, .ref (y + 37)), (0, .ref 2), (1, .ref (xa + 37)), (2, .null), (3, .int (nI (60 - n)))]) (st' := [.null, .ref (y2 + 37), .ref 2, .null, .ref 6]) (G' := (zk_H R ex' sl' s' r el' f g df)) rfl ?_
            refine zg_VK (a := 2) (av := [.ref (y2 + 37), .null]) (rest := [.null, .ref 6]) (zm_T.1 51 59 _ rfl).1 zc_51_59 rfl (Nat.le_of_ble_eq_true rfl) (Nat.le_of_ble_eq_true rfl) (zk_c hr1) (zk_s hr1) (zk_clf hB hR1 (by omega) o3 o5 (by omega) hX2' hA' hch' (fun ex2 sl2 s2 el2 ca2 q2 p i2 P2 t2 cp ts2 => ⟨_, rfl, ?_⟩))
            have hr2 := zk_I_r hB i2
            generalize zv_cl (zv_sk r0 1) L A σ' = xx at *
            obtain ⟨x1, σ1⟩ := xx
            dsimp only at c1 c2 c3 c4 c5 t2 cp ⊢
            have na : σ1.2.2.1 = σ'.2.2.1 := by rw [c5]
            have nvv : σ1.2.2.2 = σ'.2.2.2 := by rw [c5]
            have hca2 := zk_ch_up P2 (Nat.le_of_eq na.symm) _ _ hca
            show zm_J N _ 51 62 [(5, .ref (yd + 37)), (4, .ref (y + 37)), (0, .ref 2), (1, .ref (xa + 37)), (2, .null), (3, .int (nI (60 - n)))] [.ref (p + 37), .null, .ref 6] (zk_H R ex2 sl2 s2 r el2 f g df) _
            refine zg_VK (a := 6) (av := [.null, .ref (p + 37)]) (rest := []) (zm_T.1 51 62 _ rfl).1 zc_51_62 rfl (Nat.le_of_ble_eq_true rfl) (Nat.le_of_ble_eq_true rfl) (zk_c hr2) (zk_s hr2) (zk_mka (m := v.2.2.2.2.reverse.length) hB hR1 (by omega) i2 rfl (zk_ch_bf hca2) t2.1.2.2.2 t2.2.1.2.2 (by omega) (fun ex3 sl3 s3 el3 ka3 q3 y3 i3 n3 c3' => ⟨_, rfl, ?_⟩))
            have hr3 := zk_I_r hB i3
            obtain ⟨P3, t3, ts3⟩ := zk_mkk i2 i3 t2 n3
            have hP23 := P2.trans P3 (Nat.le_of_eq nvv.symm) (Nat.le_of_eq na.symm)
            have hPall := o4.trans hP23 o8 o9
            have htall := (o7.trans ts2).trans ts3
            have hnew : zk_ch ex3 ca2 ka3 (zv_a σ1).2.2.1 (v.2.2.2.2 ++ [x1]).reverse (.ref (y3 + 37)) := by
              rw [List.reverse_append]
              show zk_ch ex3 ca2 ka3 _ (x1 :: v.2.2.2.2.reverse) _
              exact ⟨y3, σ1.2.2.1, p, .null, by rw [List.length_reverse]; exact hvl, rfl, Nat.lt_succ_self _, n3.2.1, cp, c3', zk_ch_up P3 (Nat.le_succ _) _ _ hca2⟩
            have hcd3 := hP23.2.1 yd 6 _ (Or.inl rfl) hcd
            have e43 := (hP23.2.2.1 m y e1 e2).trans e4
            have hD3 := zk_D_up hP23.2.1 hD'
            have hlen : (v.2.2.2.2 ++ [x1]).length = v.2.2.2.2.reverse.length + 1 := by rw [List.length_append, List.length_reverse]; rfl
            have hlr : v.2.2.2.2.reverse.length ≤ 4 := by rw [List.length_reverse]; exact hvl
            have hb3 := c4.2.2.1
            have hb4 := c4.2.2.2
            show zm_J N _ 51 65 [(5, .ref (yd + 37)), (4, .ref (y + 37)), (0, .ref 2), (1, .ref (xa + 37)), (2, .null), (3, .int (nI (60 - n)))] [.ref (y3 + 37)] (zk_H R ex3 sl3 s3 r el3 f g df) _
            refine zm_J_run zm_T 2 (pc' := 69) (lv' := [(6, .ref (y3 + 37)), (5, .ref (yd + 37)), (4, .ref (y + 37)), (0, .ref 2), (1, .ref (xa + 37)), (2, .null), (3, .int (nI (60 - n)))]) (st' := [.ref (y3 + 37)]) (G' := (zk_H R ex3 sl3 s3 r el3 f g df)) rfl ?_
            refine zg_gf (fs := [.null, .ref (p + 37), .int (nI (v.2.2.2.2.reverse.length + 1))]) rfl (zk_at c3') rfl ?_
            refine zm_J_run zm_T 1 (pc' := 74) (lv' := [(6, .ref (y3 + 37)), (5, .ref (yd + 37)), (4, .ref (y + 37)), (0, .ref 2), (1, .ref (xa + 37)), (2, .null), (3, .int (nI (60 - n)))]) (st' := [.ref (yd + 37), .int (nI (v.2.2.2.2.reverse.length + 1))]) (G' := (zk_H R ex3 sl3 s3 r el3 f g df)) rfl ?_
            refine zg_gf (fs := [.int (nI k), (.int (nI L'.length)), .ref (xb + 37)]) rfl (zk_at hcd3) rfl ?_
            show zm_J N _ 51 77 [(6, .ref (y3 + 37)), (5, .ref (yd + 37)), (4, .ref (y + 37)), (0, .ref 2), (1, .ref (xa + 37)), (2, .null), (3, .int (nI (60 - n)))] [.int (nI L'.length), .int (nI (v.2.2.2.2.reverse.length + 1))] (zk_H R ex3 sl3 s3 r el3 f g df) _
            refine zm_J_run zm_T 1 (pc' := if (nI L'.length) ≤ (nI (v.2.2.2.2.reverse.length + 1)) then 95 else 80) (lv' := [(6, .ref (y3 + 37)), (5, .ref (yd + 37)), (4, .ref (y + 37)), (0, .ref 2), (1, .ref (xa + 37)), (2, .null), (3, .int (nI (60 - n)))]) (st' := []) (G' := (zk_H R ex3 sl3 s3 r el3 f g df)) rfl ?_
            by_cases hge : (nI L'.length) ≤ (nI (v.2.2.2.2.reverse.length + 1))
            · rw [if_pos hge]
              rw [if_neg (show ¬ (v.2.2.2.2 ++ [x1]).length < L'.length from by have := (nI_leI (by omega) (by omega)).mp hge; omega)]
              have hmem : ∀ q ∈ v.2.2.2.2 ++ [x1], q < σ1.1.length := fun q hq => by
                rcases List.mem_append.mp hq with h | h
                · exact Nat.lt_of_lt_of_le (w2.2.2.1 q h) c3.len
                · rw [List.mem_singleton] at h; subst h; exact c2
              have hb' : zv_b (zv_a σ1) j j := by
                obtain ⟨b1, b2, b3, b4⟩ := c4
                exact ⟨by show zv_U σ1.1 + j ≤ 40 * (σ1.2.1 + 1); omega, by show σ1.2.2.1 + 1 + zv_T σ1.1 + j ≤ 40 * (σ1.2.1 + 1); omega, by show σ1.2.2.2 + 2 * zv_T σ1.1 + 2 * j ≤ 80 * (σ1.2.1 + 1); omega, b4⟩
              refine zm_J_run zm_T 4 (pc' := 101) (lv' := [(6, .ref (y3 + 37)), (5, .ref (yd + 37)), (4, .ref (y + 37)), (0, .ref 2), (1, .ref (xa + 37)), (2, .null), (3, .int (nI (60 - n)))]) (st' := [.int (nI (60 - n)), .ref (y3 + 37), .ref (yd + 37), .ref 2]) (G' := (zk_H R ex3 sl3 s3 r el3 f g df)) rfl ?_
              refine zg_VT (a := 2) (av := [.ref (yd + 37), .ref (y3 + 37), .int (nI (60 - n))]) (rest := []) (zm_T.1 51 101 _ rfl).1 zc_51_101 rfl (zm_out0 rfl) (Nat.le_of_ble_eq_true rfl) (Nat.le_of_ble_eq_true rfl) (zk_c hr3) (zk_s hr3) ((zk_cal (j := j) hB h8 hDw hn ih (σ := zv_a σ1) c1 hb' hk hDk ⟨k3, by have := (nI_leI (by omega) (by omega)).mp hge; omega, hmem⟩ i3 t3 hD3 f1 hnew (by omega)).mono (fun z G' k => zk_k_ret rfl (fun _ => rfl) (zk_EQ_tr hPall htall (by show σ.2.2.2 ≤ σ1.2.2.2; omega) (by show σ.2.2.1 ≤ σ1.2.2.1 + 1; omega) k)))
            · rw [if_neg hge]
              rw [if_pos (show (v.2.2.2.2 ++ [x1]).length < L'.length from Nat.lt_of_not_le (fun z => hge ((nI_leI (by omega) (by omega)).mpr (by omega))))]
              refine zm_J_run zm_T 3 (pc' := 86) (lv' := [(6, .ref (y3 + 37)), (5, .ref (yd + 37)), (4, .ref (y + 37)), (0, .ref 2), (1, .ref (xa + 37)), (2, .null), (3, .int (nI (60 - n)))]) (st' := [.ref (y + 37), .ref 6]) (G' := (zk_H R ex3 sl3 s3 r el3 f g df)) rfl ?_
              refine zg_gf (fs := [.int v.1, .int (nI k), hh, t, .null]) rfl (zk_at e43) rfl ?_
              refine zm_J_run zm_T 1 (pc' := 91) (lv' := [(6, .ref (y3 + 37)), (5, .ref (yd + 37)), (4, .ref (y + 37)), (0, .ref 2), (1, .ref (xa + 37)), (2, .null), (3, .int (nI (60 - n)))]) (st' := [.ref (y3 + 37), .int (nI k), .ref 6]) (G' := (zk_H R ex3 sl3 s3 r el3 f g df)) rfl ?_
              refine zg_VT (a := 6) (av := [.int (nI k), .ref (y3 + 37)]) (rest := []) (zm_T.1 51 91 _ rfl).1 zc_51_91 rfl (zm_out0 rfl) (Nat.le_of_ble_eq_true rfl) (Nat.le_of_ble_eq_true rfl) (zk_c hr3) (zk_s hr3) (zk_mkf (σ := zv_a σ1) (x := nI k) hB hR1 (by omega) i3 t3 (by show σ1.2.2.2 < 32080; omega) hnew (fun z G' k => zk_k_ret (x := (.inr (3, v.2.1, 0, 0, v.2.2.2.2 ++ [x1]), zv_v (zv_a σ1))) rfl (fun _ => rfl) (zk_EQ_tr hPall htall (by show σ.2.2.2 ≤ σ1.2.2.2; omega) (by show σ.2.2.1 ≤ σ1.2.2.1 + 1; omega) (by rw [hkv]; exact k))))
          · refine zm_J_run zm_T 2 (pc' := 16) (lv' := [(4, .ref (y + 37)), (0, .ref 2), (1, .ref (xa + 37)), (2, .null), (3, .int (nI (60 - n)))]) (st' := [.ref (y + 37)]) (G' := (zk_H R ex' sl' s' r el' f g df)) rfl ?_
            refine zg_gf (fs := [.int v.1, .int (nI k), hh, t, .ref z1]) rfl (zk_at e4) rfl ?_
            refine zm_J_run zm_T 2 (pc' := if v.1 = 3 then 33 else 23) (lv' := [(4, .ref (y + 37)), (0, .ref 2), (1, .ref (xa + 37)), (2, .null), (3, .int (nI (60 - n)))]) (st' := []) (G' := (zk_H R ex' sl' s' r el' f g df)) rfl ?_
            rw [if_pos (show v.1 = 3 from h3)]
            refine zm_J_run zm_T 2 (pc' := 36) (lv' := [(4, .ref (y + 37)), (0, .ref 2), (1, .ref (xa + 37)), (2, .null), (3, .int (nI (60 - n)))]) (st' := [.ref (y + 37), .ref 2]) (G' := (zk_H R ex' sl' s' r el' f g df)) rfl ?_
            refine zg_gf (fs := [.int v.1, .int (nI k), hh, t, .ref z1]) rfl (zk_at e4) rfl ?_
            refine zg_VK (a := 2) (av := [.int (nI k)]) (rest := []) (zm_T.1 51 39 _ rfl).1 zc_51_39 rfl (Nat.le_of_ble_eq_true rfl) (Nat.le_of_ble_eq_true rfl) (zk_c hr1) (zk_s hr1) (zk_dfo1 hk f1 ⟨_, rfl, ?_⟩)
            show zm_J N _ 51 42 [(4, .ref (y + 37)), (0, .ref 2), (1, .ref (xa + 37)), (2, .null), (3, .int (nI (60 - n)))] [.ref (yd + 37)] (zk_H R ex' sl' s' r el' f g df) _
            refine zm_J_run zm_T 4 (pc' := 50) (lv' := [(5, .ref (yd + 37)), (4, .ref (y + 37)), (0, .ref 2), (1, .ref (xa + 37)), (2, .null), (3, .int (nI (60 - n)))]) (st' := [.ref (y + 37), .ref 6]) (G' := (zk_H R ex' sl' s' r el' f g df)) rfl ?_
            refine zg_gf (fs := [.int v.1, .int (nI k), hh, t, .ref z1]) rfl (zk_at e4) rfl ?_
            refine zm_J_run zm_T 2 (pc' := 55) (lv' := [(5, .ref (yd + 37)), (4, .ref (y + 37)), (0, .ref 2), (1, .ref (xa + 37)), (2, .null), (3, .int (nI (60 - n)))]) (st' := [.ref (xa + 37), .ref 2, .ref z1, .ref 6]) (G' := (zk_H R ex' sl' s' r el' f g df)) rfl ?_
            refine zg_gf (fs := [.int 46, .int ix, .ref (y1 + 37), .ref (y2 + 37), p3]) rfl (zk_at hc') rfl ?_
            refine zm_J_run zm_T 1 (pc' := 59) (lv' := [(5, .ref (yd + 37)), (4, .ref (y + 37)), (0, .ref 2), (1, .ref (xa + 37)), (2, .null), (3, .int (nI (60 - n)))]) (st' := [.null, .ref (y2 + 37), .ref 2, .ref z1, .ref 6]) (G' := (zk_H R ex' sl' s' r el' f g df)) rfl ?_
            refine zg_VK (a := 2) (av := [.ref (y2 + 37), .null]) (rest := [.ref z1, .ref 6]) (zm_T.1 51 59 _ rfl).1 zc_51_59 rfl (Nat.le_of_ble_eq_true rfl) (Nat.le_of_ble_eq_true rfl) (zk_c hr1) (zk_s hr1) (zk_clf hB hR1 (by omega) o3 o5 (by omega) hX2' hA' hch' (fun ex2 sl2 s2 el2 ca2 q2 p i2 P2 t2 cp ts2 => ⟨_, rfl, ?_⟩))
            have hr2 := zk_I_r hB i2
            generalize zv_cl (zv_sk r0 1) L A σ' = xx at *
            obtain ⟨x1, σ1⟩ := xx
            dsimp only at c1 c2 c3 c4 c5 t2 cp ⊢
            have na : σ1.2.2.1 = σ'.2.2.1 := by rw [c5]
            have nvv : σ1.2.2.2 = σ'.2.2.2 := by rw [c5]
            have hca2 := zk_ch_up P2 (Nat.le_of_eq na.symm) _ _ hca
            show zm_J N _ 51 62 [(5, .ref (yd + 37)), (4, .ref (y + 37)), (0, .ref 2), (1, .ref (xa + 37)), (2, .null), (3, .int (nI (60 - n)))] [.ref (p + 37), .ref z1, .ref 6] (zk_H R ex2 sl2 s2 r el2 f g df) _
            refine zg_VK (a := 6) (av := [.ref z1, .ref (p + 37)]) (rest := []) (zm_T.1 51 62 _ rfl).1 zc_51_62 rfl (Nat.le_of_ble_eq_true rfl) (Nat.le_of_ble_eq_true rfl) (zk_c hr2) (zk_s hr2) (zk_mka (m := v.2.2.2.2.reverse.length) hB hR1 (by omega) i2 rfl (zk_ch_bf hca2) t2.1.2.2.2 t2.2.1.2.2 (by omega) (fun ex3 sl3 s3 el3 ka3 q3 y3 i3 n3 c3' => ⟨_, rfl, ?_⟩))
            have hr3 := zk_I_r hB i3
            obtain ⟨P3, t3, ts3⟩ := zk_mkk i2 i3 t2 n3
            have hP23 := P2.trans P3 (Nat.le_of_eq nvv.symm) (Nat.le_of_eq na.symm)
            have hPall := o4.trans hP23 o8 o9
            have htall := (o7.trans ts2).trans ts3
            have hnew : zk_ch ex3 ca2 ka3 (zv_a σ1).2.2.1 (v.2.2.2.2 ++ [x1]).reverse (.ref (y3 + 37)) := by
              rw [List.reverse_append]
              show zk_ch ex3 ca2 ka3 _ (x1 :: v.2.2.2.2.reverse) _
              exact ⟨y3, σ1.2.2.1, p, .ref z1, by rw [List.length_reverse]; exact hvl, rfl, Nat.lt_succ_self _, n3.2.1, cp, c3', zk_ch_up P3 (Nat.le_succ _) _ _ hca2⟩
            have hcd3 := hP23.2.1 yd 6 _ (Or.inl rfl) hcd
            have e43 := (hP23.2.2.1 m y e1 e2).trans e4
            have hD3 := zk_D_up hP23.2.1 hD'
            have hlen : (v.2.2.2.2 ++ [x1]).length = v.2.2.2.2.reverse.length + 1 := by rw [List.length_append, List.length_reverse]; rfl
            have hlr : v.2.2.2.2.reverse.length ≤ 4 := by rw [List.length_reverse]; exact hvl
            have hb3 := c4.2.2.1
            have hb4 := c4.2.2.2
            show zm_J N _ 51 65 [(5, .ref (yd + 37)), (4, .ref (y + 37)), (0, .ref 2), (1, .ref (xa + 37)), (2, .null), (3, .int (nI (60 - n)))] [.ref (y3 + 37)] (zk_H R ex3 sl3 s3 r el3 f g df) _
            refine zm_J_run zm_T 2 (pc' := 69) (lv' := [(6, .ref (y3 + 37)), (5, .ref (yd + 37)), (4, .ref (y + 37)), (0, .ref 2), (1, .ref (xa + 37)), (2, .null), (3, .int (nI (60 - n)))]) (st' := [.ref (y3 + 37)]) (G' := (zk_H R ex3 sl3 s3 r el3 f g df)) rfl ?_
            refine zg_gf (fs := [.ref z1, .ref (p + 37), .int (nI (v.2.2.2.2.reverse.length + 1))]) rfl (zk_at c3') rfl ?_
            refine zm_J_run zm_T 1 (pc' := 74) (lv' := [(6, .ref (y3 + 37)), (5, .ref (yd + 37)), (4, .ref (y + 37)), (0, .ref 2), (1, .ref (xa + 37)), (2, .null), (3, .int (nI (60 - n)))]) (st' := [.ref (yd + 37), .int (nI (v.2.2.2.2.reverse.length + 1))]) (G' := (zk_H R ex3 sl3 s3 r el3 f g df)) rfl ?_
            refine zg_gf (fs := [.int (nI k), (.int (nI L'.length)), .ref (xb + 37)]) rfl (zk_at hcd3) rfl ?_
            show zm_J N _ 51 77 [(6, .ref (y3 + 37)), (5, .ref (yd + 37)), (4, .ref (y + 37)), (0, .ref 2), (1, .ref (xa + 37)), (2, .null), (3, .int (nI (60 - n)))] [.int (nI L'.length), .int (nI (v.2.2.2.2.reverse.length + 1))] (zk_H R ex3 sl3 s3 r el3 f g df) _
            refine zm_J_run zm_T 1 (pc' := if (nI L'.length) ≤ (nI (v.2.2.2.2.reverse.length + 1)) then 95 else 80) (lv' := [(6, .ref (y3 + 37)), (5, .ref (yd + 37)), (4, .ref (y + 37)), (0, .ref 2), (1, .ref (xa + 37)), (2, .null), (3, .int (nI (60 - n)))]) (st' := []) (G' := (zk_H R ex3 sl3 s3 r el3 f g df)) rfl ?_
            by_cases hge : (nI L'.length) ≤ (nI (v.2.2.2.2.reverse.length + 1))
            · rw [if_pos hge]
              rw [if_neg (show ¬ (v.2.2.2.2 ++ [x1]).length < L'.length from by have := (nI_leI (by omega) (by omega)).mp hge; omega)]
              have hmem : ∀ q ∈ v.2.2.2.2 ++ [x1], q < σ1.1.length := fun q hq => by
                rcases List.mem_append.mp hq with h | h
                · exact Nat.lt_of_lt_of_le (w2.2.2.1 q h) c3.len
                · rw [List.mem_singleton] at h; subst h; exact c2
              have hb' : zv_b (zv_a σ1) j j := by
                obtain ⟨b1, b2, b3, b4⟩ := c4
                exact ⟨by show zv_U σ1.1 + j ≤ 40 * (σ1.2.1 + 1); omega, by show σ1.2.2.1 + 1 + zv_T σ1.1 + j ≤ 40 * (σ1.2.1 + 1); omega, by show σ1.2.2.2 + 2 * zv_T σ1.1 + 2 * j ≤ 80 * (σ1.2.1 + 1); omega, b4⟩
              refine zm_J_run zm_T 4 (pc' := 101) (lv' := [(6, .ref (y3 + 37)), (5, .ref (yd + 37)), (4, .ref (y + 37)), (0, .ref 2), (1, .ref (xa + 37)), (2, .null), (3, .int (nI (60 - n)))]) (st' := [.int (nI (60 - n)), .ref (y3 + 37), .ref (yd + 37), .ref 2]) (G' := (zk_H R ex3 sl3 s3 r el3 f g df)) rfl ?_
              refine zg_VT (a := 2) (av := [.ref (yd + 37), .ref (y3 + 37), .int (nI (60 - n))]) (rest := []) (zm_T.1 51 101 _ rfl).1 zc_51_101 rfl (zm_out0 rfl) (Nat.le_of_ble_eq_true rfl) (Nat.le_of_ble_eq_true rfl) (zk_c hr3) (zk_s hr3) ((zk_cal (j := j) hB h8 hDw hn ih (σ := zv_a σ1) c1 hb' hk hDk ⟨k3, by have := (nI_leI (by omega) (by omega)).mp hge; omega, hmem⟩ i3 t3 hD3 f1 hnew (by omega)).mono (fun z G' k => zk_k_ret rfl (fun _ => rfl) (zk_EQ_tr hPall htall (by show σ.2.2.2 ≤ σ1.2.2.2; omega) (by show σ.2.2.1 ≤ σ1.2.2.1 + 1; omega) k)))
            · rw [if_neg hge]
              rw [if_pos (show (v.2.2.2.2 ++ [x1]).length < L'.length from Nat.lt_of_not_le (fun z => hge ((nI_leI (by omega) (by omega)).mpr (by omega))))]
              refine zm_J_run zm_T 3 (pc' := 86) (lv' := [(6, .ref (y3 + 37)), (5, .ref (yd + 37)), (4, .ref (y + 37)), (0, .ref 2), (1, .ref (xa + 37)), (2, .null), (3, .int (nI (60 - n)))]) (st' := [.ref (y + 37), .ref 6]) (G' := (zk_H R ex3 sl3 s3 r el3 f g df)) rfl ?_
              refine zg_gf (fs := [.int v.1, .int (nI k), hh, t, .ref z1]) rfl (zk_at e43) rfl ?_
              refine zm_J_run zm_T 1 (pc' := 91) (lv' := [(6, .ref (y3 + 37)), (5, .ref (yd + 37)), (4, .ref (y + 37)), (0, .ref 2), (1, .ref (xa + 37)), (2, .null), (3, .int (nI (60 - n)))]) (st' := [.ref (y3 + 37), .int (nI k), .ref 6]) (G' := (zk_H R ex3 sl3 s3 r el3 f g df)) rfl ?_
              refine zg_VT (a := 6) (av := [.int (nI k), .ref (y3 + 37)]) (rest := []) (zm_T.1 51 91 _ rfl).1 zc_51_91 rfl (zm_out0 rfl) (Nat.le_of_ble_eq_true rfl) (Nat.le_of_ble_eq_true rfl) (zk_c hr3) (zk_s hr3) (zk_mkf (σ := zv_a σ1) (x := nI k) hB hR1 (by omega) i3 t3 (by show σ1.2.2.2 < 32080; omega) hnew (fun z G' k => zk_k_ret (x := (.inr (3, v.2.1, 0, 0, v.2.2.2.2 ++ [x1]), zv_v (zv_a σ1))) rfl (fun _ => rfl) (zk_EQ_tr hPall htall (by show σ.2.2.2 ≤ σ1.2.2.2; omega) (by show σ.2.2.1 ≤ σ1.2.2.1 + 1; omega) (by rw [hkv]; exact k))))
      · rw [if_neg h3]
        rcases o6 with ⟨e1, rfl⟩ | ⟨m, y, x, hh, t, a, e1, e2, rfl, e4, e5⟩
        · refine zm_J_run zm_T 5 (pc' := 23) (lv' := [(4, .ref 7), (0, .ref 2), (1, .ref (xa + 37)), (2, .null), (3, .int (nI (60 - n)))]) (st' := []) (G' := (zk_H R ex' sl' s' r el' f g df)) rfl ?_
          exact zk_throw (e := 5) hB o3 zx_51_23 rfl (by omega) (by decide) (fun z G e => zk_ER_tr o4.2.1 o7 e)
        · refine zm_J_run zm_T 2 (pc' := 16) (lv' := [(4, .ref (y + 37)), (0, .ref 2), (1, .ref (xa + 37)), (2, .null), (3, .int (nI (60 - n)))]) (st' := [.ref (y + 37)]) (G' := (zk_H R ex' sl' s' r el' f g df)) rfl ?_
          refine zg_gf (fs := [.int v.1, x, hh, t, a]) rfl (zk_at e4) rfl ?_
          refine zm_J_run zm_T 2 (pc' := if v.1 = 3 then 33 else 23) (lv' := [(4, .ref (y + 37)), (0, .ref 2), (1, .ref (xa + 37)), (2, .null), (3, .int (nI (60 - n)))]) (st' := []) (G' := (zk_H R ex' sl' s' r el' f g df)) rfl ?_
          rw [if_neg (show ¬ (v.1 = 3) from h3)]
          exact zk_throw (e := 5) hB o3 zx_51_23 rfl (by omega) (by decide) (fun z G e => zk_ER_tr o4.2.1 o7 e)
  · refine zm_J_run zm_T 2 (pc' := 2) (lv' := [(0, .ref 2), (1, .ref (xa + 37)), (2, .ref z0), (3, .int (nI (60 - n)))]) (st' := [.ref (xa + 37), .ref 2]) (G' := (zk_H R ex sl s r el f g df)) rfl ?_
    refine zg_gf (fs := [.int 46, .int ix, .ref (y1 + 37), .ref (y2 + 37), p3]) rfl (zk_at hc) rfl ?_
    refine zm_J_run zm_T 4 (pc' := 9) (lv' := [(0, .ref 2), (1, .ref (xa + 37)), (2, .ref z0), (3, .int (nI (60 - n)))]) (st' := [.int ((nI (60 - n)) + 1), .ref z0, .ref (y1 + 37), .ref 2]) (G' := (zk_H R ex sl s r el f g df)) rfl ?_
    rw [hdep]
    show zm_J N _ 51 9 [(0, .ref 2), (1, .ref (xa + 37)), (2, .ref z0), (3, .int (nI (60 - n)))] [.int (nI (61 - n)), .ref z0, .ref (y1 + 37), .ref 2] (zk_H R ex sl s r el f g df) _
    refine zg_VT (a := 2) (av := [.ref (y1 + 37), .ref z0, .int (nI (61 - n))]) (rest := []) (zm_T.1 51 9 _ rfl).1 zc_51_9 rfl (zm_out0 rfl) (Nat.le_of_ble_eq_true rfl) (Nat.le_of_ble_eq_true rfl) (zk_c hr) (zk_s hr) ((zm_J_d (by omega) hih).mono (fun z G' k => ?_))
    generalize zv_E D n r0 L A σ = o at k hq ⊢
    obtain ⟨o1, σ'⟩ := o
    cases o1 with
    | inl e => exact zk_k_er k k
    | inr v =>
      obtain ⟨ex', sl', s', el', va', ca', ka', q', u, rfl, rfl, o3, o4, o5, o6, o7, o8, o9⟩ := k
      obtain ⟨w1, w2, w3, w4⟩ := hq v rfl
      dsimp only at w1 w2 w3 w4
      have hr1 := zk_I_r hB o3
      show zm_J N _ 51 12 [(0, .ref 2), (1, .ref (xa + 37)), (2, .ref z0), (3, .int (nI (60 - n)))] [.ref u] (zk_H R ex' sl' s' r el' f g df) _
      rw [show zv_B (Sum.inr v, σ') (zv_G D (zv_E D n) 46 r0 L A) = zv_A D (zv_E D n) (zv_sk r0 1) L A v σ' from zv_G_app ..]
      unfold zv_A
      have hc' := o4.2.1 xa 7 _ (Or.inr rfl) hc
      have hD' := zk_D_up o4.2.1 hD
      have hch' := zk_ch_up o4 o9 _ _ hch
      have hX2' := zk_X_up o4.2.1 _ _ _ hX2
      have hA' := hA.up w3.len
      by_cases h3 : v.1 = 3
      · rw [if_pos h3]
        rcases o6 with ⟨e1, _⟩ | ⟨m, y, x, hh, t, a, e1, e2, rfl, e4, e5⟩
        · exact absurd (e1.symm.trans h3) (by decide)
        obtain ⟨rfl, hca⟩ : x = .int v.2.1 ∧ zk_ch ex' ca' ka' σ'.2.2.1 v.2.2.2.2.reverse a := by
          rcases e5 with z | z | z
          · exact absurd (z.1.symm.trans h3) (by decide)
          · exact absurd (z.1.symm.trans h3) (by decide)
          · exact z.2
        have hnum := w2.2.1 h3
        have hvl := w2.2.2.2
        obtain ⟨k, hk, hkv⟩ : ∃ k, k < 6 ∧ v.2.1 = nI k := ⟨_, hnum.2, zi_nat hnum.1⟩
        have hkc : v.2.1.toNatClampNeg = k := by rw [hkv]; exact nI_clamp (by omega)
        rw [hkc]
        rw [hkv] at e4
        cases hDk : D k with
        | none =>
          refine zm_J_run zm_T 2 (pc' := 16) (lv' := [(4, .ref (y + 37)), (0, .ref 2), (1, .ref (xa + 37)), (2, .ref z0), (3, .int (nI (60 - n)))]) (st' := [.ref (y + 37)]) (G' := (zk_H R ex' sl' s' r el' f g df)) rfl ?_
          refine zg_gf (fs := [.int v.1, .int (nI k), hh, t, a]) rfl (zk_at e4) rfl ?_
          refine zm_J_run zm_T 2 (pc' := if v.1 = 3 then 33 else 23) (lv' := [(4, .ref (y + 37)), (0, .ref 2), (1, .ref (xa + 37)), (2, .ref z0), (3, .int (nI (60 - n)))]) (st' := []) (G' := (zk_H R ex' sl' s' r el' f g df)) rfl ?_
          rw [if_pos (show v.1 = 3 from h3)]
          refine zm_J_run zm_T 2 (pc' := 36) (lv' := [(4, .ref (y + 37)), (0, .ref 2), (1, .ref (xa + 37)), (2, .ref z0), (3, .int (nI (60 - n)))]) (st' := [.ref (y + 37), .ref 2]) (G' := (zk_H R ex' sl' s' r el' f g df)) rfl ?_
          refine zg_gf (fs := [.int v.1, .int (nI k), hh, t, a]) rfl (zk_at e4) rfl ?_
          refine zg_VT (a := 2) (av := [.int (nI k)]) (rest := []) (zm_T.1 51 39 _ rfl).1 zc_51_39 rfl (zm_out0 rfl) (Nat.le_of_ble_eq_true rfl) (Nat.le_of_ble_eq_true rfl) (zk_c hr1) (zk_s hr1) (zk_dfo0 hB o3 (by omega) hk ((hD' k hk).1 hDk) (fun z G e => zk_k_er e (zk_ER_tr o4.2.1 o7 e)))
        | some dd =>
          obtain ⟨L', b⟩ := dd
          dsimp only
          obtain ⟨yd, xb, mb, f1, hcd, hXb⟩ := (hD' k hk).2 L' b hDk
          obtain ⟨k1, k2, k3, k4, k5, -⟩ := hDw k L' b hDk
          obtain ⟨l1, l2, l3, l4⟩ := zv_b_len w1 w4
          obtain ⟨c1, c2, c3, c4⟩ := zv_cl_ok w1 hok2 hA' (hb := (w4.down (by omega) (by omega) : zv_b σ' (zv_n (zv_sk r0 1) 1 + (j + 2)) (zv_n (zv_sk r0 1) 1 + (j + 1))))
          have c5 := zv_cl_2 (zv_sk r0 1) L A σ'
          rcases zk_ch_sh hca with rfl | ⟨z1, rfl⟩
          · refine zm_J_run zm_T 2 (pc' := 16) (lv' := [(4, .ref (y + 37)), (0, .ref 2), (1, .ref (xa + 37)), (2, .ref z0), (3, .int (nI (60 - n)))]) (st' := [.ref (y + 37)]) (G' := (zk_H R ex' sl' s' r el' f g df)) rfl ?_
            refine zg_gf (fs := [.int v.1, .int (nI k), hh, t, .null]) rfl (zk_at e4) rfl ?_
            refine zm_J_run zm_T 2 (pc' := if v.1 = 3 then 33 else 23) (lv' := [(4, .ref (y + 37)), (0, .ref 2), (1, .ref (xa + 37)), (2, .ref z0), (3, .int (nI (60 - n)))]) (st' := []) (G' := (zk_H R ex' sl' s' r el' f g df)) rfl ?_
            rw [if_pos (show v.1 = 3 from h3)]
            refine zm_J_run zm_T 2 (pc' := 36) (lv' := [(4, .ref (y + 37)), (0, .ref 2), (1, .ref (xa + 37)), (2, .ref z0), (3, .int (nI (60 - n)))]) (st' := [.ref (y + 37), .ref 2]) (G' := (zk_H R ex' sl' s' r el' f g df)) rfl ?_
            refine zg_gf (fs := [.int v.1, .int (nI k), hh, t, .null]) rfl (zk_at e4) rfl ?_
            refine zg_VK (a := 2) (av := [.int (nI k)]) (rest := []) (zm_T.1 51 39 _ rfl).1 zc_51_39 rfl (Nat.le_of_ble_eq_true rfl) (Nat.le_of_ble_eq_true rfl) (zk_c hr1) (zk_s hr1) (zk_dfo1 hk f1 ⟨_, rfl, ?_⟩)
            show zm_J N _ 51 42 [(4, .ref (y + 37)), (0, .ref 2), (1, .ref (xa + 37)), (2, .ref z0), (3, .int (nI (60 - n)))] [.ref (yd + 37)] (zk_H R ex' sl' s' r el' f g df) _
            refine zm_J_run zm_T 4 (pc' := 50) (lv' := [(5, .ref (yd + 37)), (4, .ref (y + 37)), (0, .ref 2), (1, .ref (xa + 37)), (2, .ref z0), (3, .int (nI (60 - n)))]) (st' := [.ref (y + 37), .ref 6]) (G' := (zk_H R ex' sl' s' r el' f g df)) rfl ?_
            refine zg_gf (fs := [.int v.1, .int (nI k), hh, t, .null]) rfl (zk_at e4) rfl ?_
            refine zm_J_run zm_T 2 (pc' := 55) (lv' := [(5, .ref (yd + 37)), (4, .ref (y + 37)), (0, .ref 2), (1, .ref (xa + 37)), (2, .ref z0), (3, .int (nI (60 - n)))]) (st' := [.ref (xa + 37), .ref 2, .null, .ref 6]) (G' := (zk_H R ex' sl' s' r el' f g df)) rfl ?_
            refine zg_gf (fs := [.int 46, .int ix, .ref (y1 + 37), .ref (y2 + 37), p3]) rfl (zk_at hc') rfl ?_
            refine zm_J_run zm_T 1 (pc' := 59) (lv' := [(5, .ref (yd + 37)), (4, .ref (y + 37)), (0, .ref 2), (1, .ref (xa + 37)), (2, .ref z0), (3, .int (nI (60 - n)))]) (st' := [.ref z0, .ref (y2 + 37), .ref 2, .null, .ref 6]) (G' := (zk_H R ex' sl' s' r el' f g df)) rfl ?_
            refine zg_VK (a := 2) (av := [.ref (y2 + 37), .ref z0]) (rest := [.null, .ref 6]) (zm_T.1 51 59 _ rfl).1 zc_51_59 rfl (Nat.le_of_ble_eq_true rfl) (Nat.le_of_ble_eq_true rfl) (zk_c hr1) (zk_s hr1) (zk_clf hB hR1 (by omega) o3 o5 (by omega) hX2' hA' hch' (fun ex2 sl2 s2 el2 ca2 q2 p i2 P2 t2 cp ts2 => ⟨_, rfl, ?_⟩))
            have hr2 := zk_I_r hB i2
            generalize zv_cl (zv_sk r0 1) L A σ' = xx at *
            obtain ⟨x1, σ1⟩ := xx
            dsimp only at c1 c2 c3 c4 c5 t2 cp ⊢
            have na : σ1.2.2.1 = σ'.2.2.1 := by rw [c5]
            have nvv : σ1.2.2.2 = σ'.2.2.2 := by rw [c5]
            have hca2 := zk_ch_up P2 (Nat.le_of_eq na.symm) _ _ hca
            show zm_J N _ 51 62 [(5, .ref (yd + 37)), (4, .ref (y + 37)), (0, .ref 2), (1, .ref (xa + 37)), (2, .ref z0), (3, .int (nI (60 - n)))] [.ref (p + 37), .null, .ref 6] (zk_H R ex2 sl2 s2 r el2 f g df) _
            refine zg_VK (a := 6) (av := [.null, .ref (p + 37)]) (rest := []) (zm_T.1 51 62 _ rfl).1 zc_51_62 rfl (Nat.le_of_ble_eq_true rfl) (Nat.le_of_ble_eq_true rfl) (zk_c hr2) (zk_s hr2) (zk_mka (m := v.2.2.2.2.reverse.length) hB hR1 (by omega) i2 rfl (zk_ch_bf hca2) t2.1.2.2.2 t2.2.1.2.2 (by omega) (fun ex3 sl3 s3 el3 ka3 q3 y3 i3 n3 c3' => ⟨_, rfl, ?_⟩))
            have hr3 := zk_I_r hB i3
            obtain ⟨P3, t3, ts3⟩ := zk_mkk i2 i3 t2 n3
            have hP23 := P2.trans P3 (Nat.le_of_eq nvv.symm) (Nat.le_of_eq na.symm)
            have hPall := o4.trans hP23 o8 o9
            have htall := (o7.trans ts2).trans ts3
            have hnew : zk_ch ex3 ca2 ka3 (zv_a σ1).2.2.1 (v.2.2.2.2 ++ [x1]).reverse (.ref (y3 + 37)) := by
              rw [List.reverse_append]
              show zk_ch ex3 ca2 ka3 _ (x1 :: v.2.2.2.2.reverse) _
              exact ⟨y3, σ1.2.2.1, p, .null, by rw [List.length_reverse]; exact hvl, rfl, Nat.lt_succ_self _, n3.2.1, cp, c3', zk_ch_up P3 (Nat.le_succ _) _ _ hca2⟩
            have hcd3 := hP23.2.1 yd 6 _ (Or.inl rfl) hcd
            have e43 := (hP23.2.2.1 m y e1 e2).trans e4
            have hD3 := zk_D_up hP23.2.1 hD'
            have hlen : (v.2.2.2.2 ++ [x1]).length = v.2.2.2.2.reverse.length + 1 := by rw [List.length_append, List.length_reverse]; rfl
            have hlr : v.2.2.2.2.reverse.length ≤ 4 := by rw [List.length_reverse]; exact hvl
            have hb3 := c4.2.2.1
            have hb4 := c4.2.2.2
            show zm_J N _ 51 65 [(5, .ref (yd + 37)), (4, .ref (y + 37)), (0, .ref 2), (1, .ref (xa + 37)), (2, .ref z0), (3, .int (nI (60 - n)))] [.ref (y3 + 37)] (zk_H R ex3 sl3 s3 r el3 f g df) _
            refine zm_J_run zm_T 2 (pc' := 69) (lv' := [(6, .ref (y3 + 37)), (5, .ref (yd + 37)), (4, .ref (y + 37)), (0, .ref 2), (1, .ref (xa + 37)), (2, .ref z0), (3, .int (nI (60 - n)))]) (st' := [.ref (y3 + 37)]) (G' := (zk_H R ex3 sl3 s3 r el3 f g df)) rfl ?_
            refine zg_gf (fs := [.null, .ref (p + 37), .int (nI (v.2.2.2.2.reverse.length + 1))]) rfl (zk_at c3') rfl ?_
            refine zm_J_run zm_T 1 (pc' := 74) (lv' := [(6, .ref (y3 + 37)), (5, .ref (yd + 37)), (4, .ref (y + 37)), (0, .ref 2), (1, .ref (xa + 37)), (2, .ref z0), (3, .int (nI (60 - n)))]) (st' := [.ref (yd + 37), .int (nI (v.2.2.2.2.reverse.length + 1))]) (G' := (zk_H R ex3 sl3 s3 r el3 f g df)) rfl ?_
            refine zg_gf (fs := [.int (nI k), (.int (nI L'.length)), .ref (xb + 37)]) rfl (zk_at hcd3) rfl ?_
            show zm_J N _ 51 77 [(6, .ref (y3 + 37)), (5, .ref (yd + 37)), (4, .ref (y + 37)), (0, .ref 2), (1, .ref (xa + 37)), (2, .ref z0), (3, .int (nI (60 - n)))] [.int (nI L'.length), .int (nI (v.2.2.2.2.reverse.length + 1))] (zk_H R ex3 sl3 s3 r el3 f g df) _
            refine zm_J_run zm_T 1 (pc' := if (nI L'.length) ≤ (nI (v.2.2.2.2.reverse.length + 1)) then 95 else 80) (lv' := [(6, .ref (y3 + 37)), (5, .ref (yd + 37)), (4, .ref (y + 37)), (0, .ref 2), (1, .ref (xa + 37)), (2, .ref z0), (3, .int (nI (60 - n)))]) (st' := []) (G' := (zk_H R ex3 sl3 s3 r el3 f g df)) rfl ?_
            by_cases hge : (nI L'.length) ≤ (nI (v.2.2.2.2.reverse.length + 1))
            · rw [if_pos hge]
              rw [if_neg (show ¬ (v.2.2.2.2 ++ [x1]).length < L'.length from by have := (nI_leI (by omega) (by omega)).mp hge; omega)]
              have hmem : ∀ q ∈ v.2.2.2.2 ++ [x1], q < σ1.1.length := fun q hq => by
                rcases List.mem_append.mp hq with h | h
                · exact Nat.lt_of_lt_of_le (w2.2.2.1 q h) c3.len
                · rw [List.mem_singleton] at h; subst h; exact c2
              have hb' : zv_b (zv_a σ1) j j := by
                obtain ⟨b1, b2, b3, b4⟩ := c4
                exact ⟨by show zv_U σ1.1 + j ≤ 40 * (σ1.2.1 + 1); omega, by show σ1.2.2.1 + 1 + zv_T σ1.1 + j ≤ 40 * (σ1.2.1 + 1); omega, by show σ1.2.2.2 + 2 * zv_T σ1.1 + 2 * j ≤ 80 * (σ1.2.1 + 1); omega, b4⟩
              refine zm_J_run zm_T 4 (pc' := 101) (lv' := [(6, .ref (y3 + 37)), (5, .ref (yd + 37)), (4, .ref (y + 37)), (0, .ref 2), (1, .ref (xa + 37)), (2, .ref z0), (3, .int (nI (60 - n)))]) (st' := [.int (nI (60 - n)), .ref (y3 + 37), .ref (yd + 37), .ref 2]) (G' := (zk_H R ex3 sl3 s3 r el3 f g df)) rfl ?_
              refine zg_VT (a := 2) (av := [.ref (yd + 37), .ref (y3 + 37), .int (nI (60 - n))]) (rest := []) (zm_T.1 51 101 _ rfl).1 zc_51_101 rfl (zm_out0 rfl) (Nat.le_of_ble_eq_true rfl) (Nat.le_of_ble_eq_true rfl) (zk_c hr3) (zk_s hr3) ((zk_cal (j := j) hB h8 hDw hn ih (σ := zv_a σ1) c1 hb' hk hDk ⟨k3, by have := (nI_leI (by omega) (by omega)).mp hge; omega, hmem⟩ i3 t3 hD3 f1 hnew (by omega)).mono (fun z G' k => zk_k_ret rfl (fun _ => rfl) (zk_EQ_tr hPall htall (by show σ.2.2.2 ≤ σ1.2.2.2; omega) (by show σ.2.2.1 ≤ σ1.2.2.1 + 1; omega) k)))
            · rw [if_neg hge]
              rw [if_pos (show (v.2.2.2.2 ++ [x1]).length < L'.length from Nat.lt_of_not_le (fun z => hge ((nI_leI (by omega) (by omega)).mpr (by omega))))]
              refine zm_J_run zm_T 3 (pc' := 86) (lv' := [(6, .ref (y3 + 37)), (5, .ref (yd + 37)), (4, .ref (y + 37)), (0, .ref 2), (1, .ref (xa + 37)), (2, .ref z0), (3, .int (nI (60 - n)))]) (st' := [.ref (y + 37), .ref 6]) (G' := (zk_H R ex3 sl3 s3 r el3 f g df)) rfl ?_
              refine zg_gf (fs := [.int v.1, .int (nI k), hh, t, .null]) rfl (zk_at e43) rfl ?_
              refine zm_J_run zm_T 1 (pc' := 91) (lv' := [(6, .ref (y3 + 37)), (5, .ref (yd + 37)), (4, .ref (y + 37)), (0, .ref 2), (1, .ref (xa + 37)), (2, .ref z0), (3, .int (nI (60 - n)))]) (st' := [.ref (y3 + 37), .int (nI k), .ref 6]) (G' := (zk_H R ex3 sl3 s3 r el3 f g df)) rfl ?_
              refine zg_VT (a := 6) (av := [.int (nI k), .ref (y3 + 37)]) (rest := []) (zm_T.1 51 91 _ rfl).1 zc_51_91 rfl (zm_out0 rfl) (Nat.le_of_ble_eq_true rfl) (Nat.le_of_ble_eq_true rfl) (zk_c hr3) (zk_s hr3) (zk_mkf (σ := zv_a σ1) (x := nI k) hB hR1 (by omega) i3 t3 (by show σ1.2.2.2 < 32080; omega) hnew (fun z G' k => zk_k_ret (x := (.inr (3, v.2.1, 0, 0, v.2.2.2.2 ++ [x1]), zv_v (zv_a σ1))) rfl (fun _ => rfl) (zk_EQ_tr hPall htall (by show σ.2.2.2 ≤ σ1.2.2.2; omega) (by show σ.2.2.1 ≤ σ1.2.2.1 + 1; omega) (by rw [hkv]; exact k))))
          · refine zm_J_run zm_T 2 (pc' := 16) (lv' := [(4, .ref (y + 37)), (0, .ref 2), (1, .ref (xa + 37)), (2, .ref z0), (3, .int (nI (60 - n)))]) (st' := [.ref (y + 37)]) (G' := (zk_H R ex' sl' s' r el' f g df)) rfl ?_
            refine zg_gf (fs := [.int v.1, .int (nI k), hh, t, .ref z1]) rfl (zk_at e4) rfl ?_
            refine zm_J_run zm_T 2 (pc' := if v.1 = 3 then 33 else 23) (lv' := [(4, .ref (y + 37)), (0, .ref 2), (1, .ref (xa + 37)), (2, .ref z0), (3, .int (nI (60 - n)))]) (st' := []) (G' := (zk_H R ex' sl' s' r el' f g df)) rfl ?_
            rw [if_pos (show v.1 = 3 from h3)]
            refine zm_J_run zm_T 2 (pc' := 36) (lv' := [(4, .ref (y + 37)), (0, .ref 2), (1, .ref (xa + 37)), (2, .ref z0), (3, .int (nI (60 - n)))]) (st' := [.ref (y + 37), .ref 2]) (G' := (zk_H R ex' sl' s' r el' f g df)) rfl ?_
            refine zg_gf (fs := [.int v.1, .int (nI k), hh, t, .ref z1]) rfl (zk_at e4) rfl ?_
            refine zg_VK (a := 2) (av := [.int (nI k)]) (rest := []) (zm_T.1 51 39 _ rfl).1 zc_51_39 rfl (Nat.le_of_ble_eq_true rfl) (Nat.le_of_ble_eq_true rfl) (zk_c hr1) (zk_s hr1) (zk_dfo1 hk f1 ⟨_, rfl, ?_⟩)
            show zm_J N _ 51 42 [(4, .ref (y + 37)), (0, .ref 2), (1, .ref (xa + 37)), (2, .ref z0), (3, .int (nI (60 - n)))] [.ref (yd + 37)] (zk_H R ex' sl' s' r el' f g df) _
            refine zm_J_run zm_T 4 (pc' := 50) (lv' := [(5, .ref (yd + 37)), (4, .ref (y + 37)), (0, .ref 2), (1, .ref (xa + 37)), (2, .ref z0), (3, .int (nI (60 - n)))]) (st' := [.ref (y + 37), .ref 6]) (G' := (zk_H R ex' sl' s' r el' f g df)) rfl ?_
            refine zg_gf (fs := [.int v.1, .int (nI k), hh, t, .ref z1]) rfl (zk_at e4) rfl ?_
            refine zm_J_run zm_T 2 (pc' := 55) (lv' := [(5, .ref (yd + 37)), (4, .ref (y + 37)), (0, .ref 2), (1, .ref (xa + 37)), (2, .ref z0), (3, .int (nI (60 - n)))]) (st' := [.ref (xa + 37), .ref 2, .ref z1, .ref 6]) (G' := (zk_H R ex' sl' s' r el' f g df)) rfl ?_
            refine zg_gf (fs := [.int 46, .int ix, .ref (y1 + 37), .ref (y2 + 37), p3]) rfl (zk_at hc') rfl ?_
            refine zm_J_run zm_T 1 (pc' := 59) (lv' := [(5, .ref (yd + 37)), (4, .ref (y + 37)), (0, .ref 2), (1, .ref (xa + 37)), (2, .ref z0), (3, .int (nI (60 - n)))]) (st' := [.ref z0, .ref (y2 + 37), .ref 2, .ref z1, .ref 6]) (G' := (zk_H R ex' sl' s' r el' f g df)) rfl ?_
            refine zg_VK (a := 2) (av := [.ref (y2 + 37), .ref z0]) (rest := [.ref z1, .ref 6]) (zm_T.1 51 59 _ rfl).1 zc_51_59 rfl (Nat.le_of_ble_eq_true rfl) (Nat.le_of_ble_eq_true rfl) (zk_c hr1) (zk_s hr1) (zk_clf hB hR1 (by omega) o3 o5 (by omega) hX2' hA' hch' (fun ex2 sl2 s2 el2 ca2 q2 p i2 P2 t2 cp ts2 => ⟨_, rfl, ?_⟩))
            have hr2 := zk_I_r hB i2
            generalize zv_cl (zv_sk r0 1) L A σ' = xx at *
            obtain ⟨x1, σ1⟩ := xx
            dsimp only at c1 c2 c3 c4 c5 t2 cp ⊢
            have na : σ1.2.2.1 = σ'.2.2.1 := by rw [c5]
            have nvv : σ1.2.2.2 = σ'.2.2.2 := by rw [c5]
            have hca2 := zk_ch_up P2 (Nat.le_of_eq na.symm) _ _ hca
            show zm_J N _ 51 62 [(5, .ref (yd + 37)), (4, .ref (y + 37)), (0, .ref 2), (1, .ref (xa + 37)), (2, .ref z0), (3, .int (nI (60 - n)))] [.ref (p + 37), .ref z1, .ref 6] (zk_H R ex2 sl2 s2 r el2 f g df) _
            refine zg_VK (a := 6) (av := [.ref z1, .ref (p + 37)]) (rest := []) (zm_T.1 51 62 _ rfl).1 zc_51_62 rfl (Nat.le_of_ble_eq_true rfl) (Nat.le_of_ble_eq_true rfl) (zk_c hr2) (zk_s hr2) (zk_mka (m := v.2.2.2.2.reverse.length) hB hR1 (by omega) i2 rfl (zk_ch_bf hca2) t2.1.2.2.2 t2.2.1.2.2 (by omega) (fun ex3 sl3 s3 el3 ka3 q3 y3 i3 n3 c3' => ⟨_, rfl, ?_⟩))
            have hr3 := zk_I_r hB i3
            obtain ⟨P3, t3, ts3⟩ := zk_mkk i2 i3 t2 n3
            have hP23 := P2.trans P3 (Nat.le_of_eq nvv.symm) (Nat.le_of_eq na.symm)
            have hPall := o4.trans hP23 o8 o9
            have htall := (o7.trans ts2).trans ts3
            have hnew : zk_ch ex3 ca2 ka3 (zv_a σ1).2.2.1 (v.2.2.2.2 ++ [x1]).reverse (.ref (y3 + 37)) := by
              rw [List.reverse_append]
              show zk_ch ex3 ca2 ka3 _ (x1 :: v.2.2.2.2.reverse) _
              exact ⟨y3, σ1.2.2.1, p, .ref z1, by rw [List.length_reverse]; exact hvl, rfl, Nat.lt_succ_self _, n3.2.1, cp, c3', zk_ch_up P3 (Nat.le_succ _) _ _ hca2⟩
            have hcd3 := hP23.2.1 yd 6 _ (Or.inl rfl) hcd
            have e43 := (hP23.2.2.1 m y e1 e2).trans e4
            have hD3 := zk_D_up hP23.2.1 hD'
            have hlen : (v.2.2.2.2 ++ [x1]).length = v.2.2.2.2.reverse.length + 1 := by rw [List.length_append, List.length_reverse]; rfl
            have hlr : v.2.2.2.2.reverse.length ≤ 4 := by rw [List.length_reverse]; exact hvl
            have hb3 := c4.2.2.1
            have hb4 := c4.2.2.2
            show zm_J N _ 51 65 [(5, .ref (yd + 37)), (4, .ref (y + 37)), (0, .ref 2), (1, .ref (xa + 37)), (2, .ref z0), (3, .int (nI (60 - n)))] [.ref (y3 + 37)] (zk_H R ex3 sl3 s3 r el3 f g df) _
            refine zm_J_run zm_T 2 (pc' := 69) (lv' := [(6, .ref (y3 + 37)), (5, .ref (yd + 37)), (4, .ref (y + 37)), (0, .ref 2), (1, .ref (xa + 37)), (2, .ref z0), (3, .int (nI (60 - n)))]) (st' := [.ref (y3 + 37)]) (G' := (zk_H R ex3 sl3 s3 r el3 f g df)) rfl ?_
            refine zg_gf (fs := [.ref z1, .ref (p + 37), .int (nI (v.2.2.2.2.reverse.length + 1))]) rfl (zk_at c3') rfl ?_
            refine zm_J_run zm_T 1 (pc' := 74) (lv' := [(6, .ref (y3 + 37)), (5, .ref (yd + 37)), (4, .ref (y + 37)), (0, .ref 2), (1, .ref (xa + 37)), (2, .ref z0), (3, .int (nI (60 - n)))]) (st' := [.ref (yd + 37), .int (nI (v.2.2.2.2.reverse.length + 1))]) (G' := (zk_H R ex3 sl3 s3 r el3 f g df)) rfl ?_
            refine zg_gf (fs := [.int (nI k), (.int (nI L'.length)), .ref (xb + 37)]) rfl (zk_at hcd3) rfl ?_
            show zm_J N _ 51 77 [(6, .ref (y3 + 37)), (5, .ref (yd + 37)), (4, .ref (y + 37)), (0, .ref 2), (1, .ref (xa + 37)), (2, .ref z0), (3, .int (nI (60 - n)))] [.int (nI L'.length), .int (nI (v.2.2.2.2.reverse.length + 1))] (zk_H R ex3 sl3 s3 r el3 f g df) _
            refine zm_J_run zm_T 1 (pc' := if (nI L'.length) ≤ (nI (v.2.2.2.2.reverse.length + 1)) then 95 else 80) (lv' := [(6, .ref (y3 + 37)), (5, .ref (yd + 37)), (4, .ref (y + 37)), (0, .ref 2), (1, .ref (xa + 37)), (2, .ref z0), (3, .int (nI (60 - n)))]) (st' := []) (G' := (zk_H R ex3 sl3 s3 r el3 f g df)) rfl ?_
            by_cases hge : (nI L'.length) ≤ (nI (v.2.2.2.2.reverse.length + 1))
            · rw [if_pos hge]
              rw [if_neg (show ¬ (v.2.2.2.2 ++ [x1]).length < L'.length from by have := (nI_leI (by omega) (by omega)).mp hge; omega)]
              have hmem : ∀ q ∈ v.2.2.2.2 ++ [x1], q < σ1.1.length := fun q hq => by
                rcases List.mem_append.mp hq with h | h
                · exact Nat.lt_of_lt_of_le (w2.2.2.1 q h) c3.len
                · rw [List.mem_singleton] at h; subst h; exact c2
              have hb' : zv_b (zv_a σ1) j j := by
                obtain ⟨b1, b2, b3, b4⟩ := c4
                exact ⟨by show zv_U σ1.1 + j ≤ 40 * (σ1.2.1 + 1); omega, by show σ1.2.2.1 + 1 + zv_T σ1.1 + j ≤ 40 * (σ1.2.1 + 1); omega, by show σ1.2.2.2 + 2 * zv_T σ1.1 + 2 * j ≤ 80 * (σ1.2.1 + 1); omega, b4⟩
              refine zm_J_run zm_T 4 (pc' := 101) (lv' := [(6, .ref (y3 + 37)), (5, .ref (yd + 37)), (4, .ref (y + 37)), (0, .ref 2), (1, .ref (xa + 37)), (2, .ref z0), (3, .int (nI (60 - n)))]) (st' := [.int (nI (60 - n)), .ref (y3 + 37), .ref (yd + 37), .ref 2]) (G' := (zk_H R ex3 sl3 s3 r el3 f g df)) rfl ?_
              refine zg_VT (a := 2) (av := [.ref (yd + 37), .ref (y3 + 37), .int (nI (60 - n))]) (rest := []) (zm_T.1 51 101 _ rfl).1 zc_51_101 rfl (zm_out0 rfl) (Nat.le_of_ble_eq_true rfl) (Nat.le_of_ble_eq_true rfl) (zk_c hr3) (zk_s hr3) ((zk_cal (j := j) hB h8 hDw hn ih (σ := zv_a σ1) c1 hb' hk hDk ⟨k3, by have := (nI_leI (by omega) (by omega)).mp hge; omega, hmem⟩ i3 t3 hD3 f1 hnew (by omega)).mono (fun z G' k => zk_k_ret rfl (fun _ => rfl) (zk_EQ_tr hPall htall (by show σ.2.2.2 ≤ σ1.2.2.2; omega) (by show σ.2.2.1 ≤ σ1.2.2.1 + 1; omega) k)))
            · rw [if_neg hge]
              rw [if_pos (show (v.2.2.2.2 ++ [x1]).length < L'.length from Nat.lt_of_not_le (fun z => hge ((nI_leI (by omega) (by omega)).mpr (by omega))))]
              refine zm_J_run zm_T 3 (pc' := 86) (lv' := [(6, .ref (y3 + 37)), (5, .ref (yd + 37)), (4, .ref (y + 37)), (0, .ref 2), (1, .ref (xa + 37)), (2, .ref z0), (3, .int (nI (60 - n)))]) (st' := [.ref (y + 37), .ref 6]) (G' := (zk_H R ex3 sl3 s3 r el3 f g df)) rfl ?_
              refine zg_gf (fs := [.int v.1, .int (nI k), hh, t, .ref z1]) rfl (zk_at e43) rfl ?_
              refine zm_J_run zm_T 1 (pc' := 91) (lv' := [(6, .ref (y3 + 37)), (5, .ref (yd + 37)), (4, .ref (y + 37)), (0, .ref 2), (1, .ref (xa + 37)), (2, .ref z0), (3, .int (nI (60 - n)))]) (st' := [.ref (y3 + 37), .int (nI k), .ref 6]) (G' := (zk_H R ex3 sl3 s3 r el3 f g df)) rfl ?_
              refine zg_VT (a := 6) (av := [.int (nI k), .ref (y3 + 37)]) (rest := []) (zm_T.1 51 91 _ rfl).1 zc_51_91 rfl (zm_out0 rfl) (Nat.le_of_ble_eq_true rfl) (Nat.le_of_ble_eq_true rfl) (zk_c hr3) (zk_s hr3) (zk_mkf (σ := zv_a σ1) (x := nI k) hB hR1 (by omega) i3 t3 (by show σ1.2.2.2 < 32080; omega) hnew (fun z G' k => zk_k_ret (x := (.inr (3, v.2.1, 0, 0, v.2.2.2.2 ++ [x1]), zv_v (zv_a σ1))) rfl (fun _ => rfl) (zk_EQ_tr hPall htall (by show σ.2.2.2 ≤ σ1.2.2.2; omega) (by show σ.2.2.1 ≤ σ1.2.2.1 + 1; omega) (by rw [hkv]; exact k))))
      · rw [if_neg h3]
        rcases o6 with ⟨e1, rfl⟩ | ⟨m, y, x, hh, t, a, e1, e2, rfl, e4, e5⟩
        · refine zm_J_run zm_T 5 (pc' := 23) (lv' := [(4, .ref 7), (0, .ref 2), (1, .ref (xa + 37)), (2, .ref z0), (3, .int (nI (60 - n)))]) (st' := []) (G' := (zk_H R ex' sl' s' r el' f g df)) rfl ?_
          exact zk_throw (e := 5) hB o3 zx_51_23 rfl (by omega) (by decide) (fun z G e => zk_ER_tr o4.2.1 o7 e)
        · refine zm_J_run zm_T 2 (pc' := 16) (lv' := [(4, .ref (y + 37)), (0, .ref 2), (1, .ref (xa + 37)), (2, .ref z0), (3, .int (nI (60 - n)))]) (st' := [.ref (y + 37)]) (G' := (zk_H R ex' sl' s' r el' f g df)) rfl ?_
          refine zg_gf (fs := [.int v.1, x, hh, t, a]) rfl (zk_at e4) rfl ?_
          refine zm_J_run zm_T 2 (pc' := if v.1 = 3 then 33 else 23) (lv' := [(4, .ref (y + 37)), (0, .ref 2), (1, .ref (xa + 37)), (2, .ref z0), (3, .int (nI (60 - n)))]) (st' := []) (G' := (zk_H R ex' sl' s' r el' f g df)) rfl ?_
          rw [if_neg (show ¬ (v.1 = 3) from h3)]
          exact zk_throw (e := 5) hB o3 zx_51_23 rfl (by omega) (by decide) (fun z G e => zk_ER_tr o4.2.1 o7 e)
theorem zk_cho (hB : zk_BS B S) (h8 : 8 ≤ d) (hDw : zv_wD D) {n : Nat} (hn : n ≤ 60) (ih : zk_EV B S N R r f g df D d n) (hR1 : R 1 = zk_em) {j : Nat} (hS : zv_wS σ) {r0 L : List Int32} {A : List Nat} (hA : zv_wE σ.1.length L A) (hI : zk_I B S ex sl s el va ca ka q) (hSt : zk_St ex s va ca ka σ) (hD : zk_D ex df D) {xa : Nat} {ch : Value} (hch : zk_ch ex ca ka σ.2.2.1 A.reverse ch) {ix : Int32} {y1 y2 y3 m1 m2 m3 : Nat} (hc : ex[xa]? = some (Sum.inr (7, [.int 63, .int ix, .ref (y1 + 37), .ref (y2 + 37), .ref (y3 + 37)]) : zm_E)) (hX1 : zk_X ex L m1 r0 y1) (hX2 : zk_X ex L m2 (zv_sk r0 1) y2) (hX3 : zk_X ex L m3 (zv_sk (zv_sk r0 1) 1) y3) (hok1 : zv_ok L r0 1 = true) (hok2 : zv_ok L (zv_sk r0 1) 1 = true) (hok3 : zv_ok L (zv_sk (zv_sk r0 1) 1) 1 = true) (hb : zv_b σ (zv_n r0 1 + (zv_n (zv_sk r0 1) 1 + zv_n (zv_sk (zv_sk r0 1) 1) 1 + (j + 1))) (zv_n r0 1 + (zv_n (zv_sk r0 1) 1 + zv_n (zv_sk (zv_sk r0 1) 1) 1 + (j + 1)))) {d' : Nat} (hd' : d + 3 * n + 2 ≤ d') : zm_J N d' 56 0 [(0, .ref 2), (1, .ref (xa + 37)), (2, ch), (3, .int (nI (60 - n)))] [] (zk_H R ex sl s r el f g df) (zk_EQ B S R r f g df ex s va ca ka σ.2.2.2 σ.2.2.1 (zv_B (zv_E D n r0 L A σ) (zv_G D (zv_E D n) 63 r0 L A))) := by
  obtain ⟨d', rfl⟩ : ∃ e, d' = e + 1 := ⟨d' - 1, by omega⟩
  have hdep : nI (60 - n) + 1 = nI (61 - n) := by rw [show 61 - n = 60 - n + 1 by omega]; exact nI_1 _
  have hr := zk_I_r hB hI
  have hq := zv_E_ok hDw n r0 L A σ _ hS hok1 hA hb
  have hih := ih r0 L A σ _ ex sl s el va ca ka q y1 m1 ch hS hok1 hA hb hI hSt hD hX1 hch
  rcases zk_ch_sh hch with rfl | ⟨z0, rfl⟩
  · refine zm_J_run zm_T 2 (pc' := 2) (lv' := [(0, .ref 2), (1, .ref (xa + 37)), (2, .null), (3, .int (nI (60 - n)))]) (st' := [.ref (xa + 37), .ref 2]) (G' := (zk_H R ex sl s r el f g df)) rfl ?_
    refine zg_gf (fs := [.int 63, .int ix, .ref (y1 + 37), .ref (y2 + 37), .ref (y3 + 37)]) rfl (zk_at hc) rfl ?_
    refine zm_J_run zm_T 4 (pc' := 9) (lv' := [(0, .ref 2), (1, .ref (xa + 37)), (2, .null), (3, .int (nI (60 - n)))]) (st' := [.int ((nI (60 - n)) + 1), .null, .ref (y1 + 37), .ref 2]) (G' := (zk_H R ex sl s r el f g df)) rfl ?_
    rw [hdep]
    show zm_J N _ 56 9 [(0, .ref 2), (1, .ref (xa + 37)), (2, .null), (3, .int (nI (60 - n)))] [.int (nI (61 - n)), .null, .ref (y1 + 37), .ref 2] (zk_H R ex sl s r el f g df) _
    refine zg_VT (a := 2) (av := [.ref (y1 + 37), .null, .int (nI (61 - n))]) (rest := []) (zm_T.1 56 9 _ rfl).1 zc_56_9 rfl (zm_out0 rfl) (Nat.le_of_ble_eq_true rfl) (Nat.le_of_ble_eq_true rfl) (zk_c hr) (zk_s hr) ((zm_J_d (by omega) hih).mono (fun z G' k => ?_))
    generalize zv_E D n r0 L A σ = o at k hq ⊢
    obtain ⟨o1, σ'⟩ := o
    cases o1 with
    | inl e => exact zk_k_er k k
    | inr v =>
      obtain ⟨ex', sl', s', el', va', ca', ka', q', u, rfl, rfl, o3, o4, o5, o6, o7, o8, o9⟩ := k
      obtain ⟨w1, w2, w3, w4⟩ := hq v rfl
      dsimp only at w1 w2 w3 w4
      have hr1 := zk_I_r hB o3
      show zm_J N _ 56 12 [(0, .ref 2), (1, .ref (xa + 37)), (2, .null), (3, .int (nI (60 - n)))] [.ref u] (zk_H R ex' sl' s' r el' f g df) _
      have hc' := o4.2.1 xa 7 _ (Or.inr rfl) hc
      have hD' := zk_D_up o4.2.1 hD
      have hch' := zk_ch_up o4 o9 _ _ hch
      have hA' := hA.up w3.len
      have hX2' := zk_X_up o4.2.1 _ _ _ hX2
      have hX3' := zk_X_up o4.2.1 _ _ _ hX3
      rw [show zv_B (Sum.inr v, σ') (zv_G D (zv_E D n) 63 r0 L A) = if v.1 = 0 then zv_E D n (if v.2.1 = 0 then zv_sk (zv_sk r0 1) 1 else zv_sk r0 1) L A σ' else (.inl 5, σ') from zv_G_q ..]
      refine zg_ST (av := [.ref u]) (rest := []) (zm_T.1 56 12 _ rfl).1 zc_56_12 (zm_out0 rfl) (Nat.le_of_ble_eq_true rfl) (Nat.le_of_ble_eq_true rfl) (zk_c hr1) (zk_s hr1) (zk_mbn hB o3 (by omega) o6 (fun h0 => ?_) (fun h0 z G e => zk_k_er e (by rw [if_neg h0]; exact zk_ER_tr o4.2.1 o7 e)))
      rw [if_pos h0]
      show zm_J N _ 56 15 [(0, .ref 2), (1, .ref (xa + 37)), (2, .null), (3, .int (nI (60 - n)))] [.int v.2.1] (zk_H R ex' sl' s' r el' f g df) _
      refine zm_J_run zm_T 4 (pc' := if v.2.1 = 0 then 30 else 23) (lv' := [(4, .int v.2.1), (0, .ref 2), (1, .ref (xa + 37)), (2, .null), (3, .int (nI (60 - n)))]) (st' := [.ref 2]) (G' := (zk_H R ex' sl' s' r el' f g df)) rfl ?_
      by_cases hv0 : v.2.1 = 0
      · rw [if_pos hv0]
        rw [if_pos hv0]
        refine zm_J_run zm_T 1 (pc' := 31) (lv' := [(4, .int v.2.1), (0, .ref 2), (1, .ref (xa + 37)), (2, .null), (3, .int (nI (60 - n)))]) (st' := [.ref (xa + 37), .ref 2]) (G' := (zk_H R ex' sl' s' r el' f g df)) rfl ?_
        refine zg_gf (fs := [.int 63, .int ix, .ref (y1 + 37), .ref (y2 + 37), .ref (y3 + 37)]) rfl (zk_at hc') rfl ?_
        refine zm_J_run zm_T 4 (pc' := 38) (lv' := [(4, .int v.2.1), (0, .ref 2), (1, .ref (xa + 37)), (2, .null), (3, .int (nI (60 - n)))]) (st' := [.int ((nI (60 - n)) + 1), .null, .ref (y3 + 37), .ref 2]) (G' := (zk_H R ex' sl' s' r el' f g df)) rfl ?_
        rw [hdep]
        show zm_J N _ 56 38 [(4, .int v.2.1), (0, .ref 2), (1, .ref (xa + 37)), (2, .null), (3, .int (nI (60 - n)))] [.int (nI (61 - n)), .null, .ref (y3 + 37), .ref 2] (zk_H R ex' sl' s' r el' f g df) _
        refine zg_VT (a := 2) (av := [.ref (y3 + 37), .null, .int (nI (61 - n))]) (rest := []) (zm_T.1 56 38 _ rfl).1 zc_56_38 rfl (zm_out0 rfl) (Nat.le_of_ble_eq_true rfl) (Nat.le_of_ble_eq_true rfl) (zk_c hr1) (zk_s hr1) ((zm_J_d (by omega) (ih (zv_sk (zv_sk r0 1) 1) L A σ' j ex' sl' s' el' va' ca' ka' q' y3 _ _ w1 hok3 hA' (w4.down (by omega) (by omega)) o3 o5 hD' hX3' hch')).mono (fun z G' k => zk_k_ret rfl (fun _ => rfl) (zk_EQ_tr o4 o7 o8 o9 k)))
      · rw [if_neg hv0]
        rw [if_neg hv0]
        refine zm_J_run zm_T 1 (pc' := 24) (lv' := [(4, .int v.2.1), (0, .ref 2), (1, .ref (xa + 37)), (2, .null), (3, .int (nI (60 - n)))]) (st' := [.ref (xa + 37), .ref 2]) (G' := (zk_H R ex' sl' s' r el' f g df)) rfl ?_
        refine zg_gf (fs := [.int 63, .int ix, .ref (y1 + 37), .ref (y2 + 37), .ref (y3 + 37)]) rfl (zk_at hc') rfl ?_
        refine zm_J_run zm_T 5 (pc' := 38) (lv' := [(4, .int v.2.1), (0, .ref 2), (1, .ref (xa + 37)), (2, .null), (3, .int (nI (60 - n)))]) (st' := [.int ((nI (60 - n)) + 1), .null, .ref (y2 + 37), .ref 2]) (G' := (zk_H R ex' sl' s' r el' f g df)) rfl ?_
        rw [hdep]
        show zm_J N _ 56 38 [(4, .int v.2.1), (0, .ref 2), (1, .ref (xa + 37)), (2, .null), (3, .int (nI (60 - n)))] [.int (nI (61 - n)), .null, .ref (y2 + 37), .ref 2] (zk_H R ex' sl' s' r el' f g df) _
        refine zg_VT (a := 2) (av := [.ref (y2 + 37), .null, .int (nI (61 - n))]) (rest := []) (zm_T.1 56 38 _ rfl).1 zc_56_38 rfl (zm_out0 rfl) (Nat.le_of_ble_eq_true rfl) (Nat.le_of_ble_eq_true rfl) (zk_c hr1) (zk_s hr1) ((zm_J_d (by omega) (ih (zv_sk r0 1) L A σ' j ex' sl' s' el' va' ca' ka' q' y2 _ _ w1 hok2 hA' (w4.down (by omega) (by omega)) o3 o5 hD' hX2' hch')).mono (fun z G' k => zk_k_ret rfl (fun _ => rfl) (zk_EQ_tr o4 o7 o8 o9 k)))
  · refine zm_J_run zm_T 2 (pc' := 2) (lv' := [(0, .ref 2), (1, .ref (xa + 37)), (2, .ref z0), (3, .int (nI (60 - n)))]) (st' := [.ref (xa + 37), .ref 2]) (G' := (zk_H R ex sl s r el f g df)) rfl ?_
    refine zg_gf (fs := [.int 63, .int ix, .ref (y1 + 37), .ref (y2 + 37), .ref (y3 + 37)]) rfl (zk_at hc) rfl ?_
    refine zm_J_run zm_T 4 (pc' := 9) (lv' := [(0, .ref 2), (1, .ref (xa + 37)), (2, .ref z0), (3, .int (nI (60 - n)))]) (st' := [.int ((nI (60 - n)) + 1), .ref z0, .ref (y1 + 37), .ref 2]) (G' := (zk_H R ex sl s r el f g df)) rfl ?_
    rw [hdep]
    show zm_J N _ 56 9 [(0, .ref 2), (1, .ref (xa + 37)), (2, .ref z0), (3, .int (nI (60 - n)))] [.int (nI (61 - n)), .ref z0, .ref (y1 + 37), .ref 2] (zk_H R ex sl s r el f g df) _
    refine zg_VT (a := 2) (av := [.ref (y1 + 37), .ref z0, .int (nI (61 - n))]) (rest := []) (zm_T.1 56 9 _ rfl).1 zc_56_9 rfl (zm_out0 rfl) (Nat.le_of_ble_eq_true rfl) (Nat.le_of_ble_eq_true rfl) (zk_c hr) (zk_s hr) ((zm_J_d (by omega) hih).mono (fun z G' k => ?_))
    generalize zv_E D n r0 L A σ = o at k hq ⊢
    obtain ⟨o1, σ'⟩ := o
    cases o1 with
    | inl e => exact zk_k_er k k
    | inr v =>
      obtain ⟨ex', sl', s', el', va', ca', ka', q', u, rfl, rfl, o3, o4, o5, o6, o7, o8, o9⟩ := k
      obtain ⟨w1, w2, w3, w4⟩ := hq v rfl
      dsimp only at w1 w2 w3 w4
      have hr1 := zk_I_r hB o3
      show zm_J N _ 56 12 [(0, .ref 2), (1, .ref (xa + 37)), (2, .ref z0), (3, .int (nI (60 - n)))] [.ref u] (zk_H R ex' sl' s' r el' f g df) _
      have hc' := o4.2.1 xa 7 _ (Or.inr rfl) hc
      have hD' := zk_D_up o4.2.1 hD
      have hch' := zk_ch_up o4 o9 _ _ hch
      have hA' := hA.up w3.len
      have hX2' := zk_X_up o4.2.1 _ _ _ hX2
      have hX3' := zk_X_up o4.2.1 _ _ _ hX3
      rw [show zv_B (Sum.inr v, σ') (zv_G D (zv_E D n) 63 r0 L A) = if v.1 = 0 then zv_E D n (if v.2.1 = 0 then zv_sk (zv_sk r0 1) 1 else zv_sk r0 1) L A σ' else (.inl 5, σ') from zv_G_q ..]
      refine zg_ST (av := [.ref u]) (rest := []) (zm_T.1 56 12 _ rfl).1 zc_56_12 (zm_out0 rfl) (Nat.le_of_ble_eq_true rfl) (Nat.le_of_ble_eq_true rfl) (zk_c hr1) (zk_s hr1) (zk_mbn hB o3 (by omega) o6 (fun h0 => ?_) (fun h0 z G e => zk_k_er e (by rw [if_neg h0]; exact zk_ER_tr o4.2.1 o7 e)))
      rw [if_pos h0]
      show zm_J N _ 56 15 [(0, .ref 2), (1, .ref (xa + 37)), (2, .ref z0), (3, .int (nI (60 - n)))] [.int v.2.1] (zk_H R ex' sl' s' r el' f g df) _
      refine zm_J_run zm_T 4 (pc' := if v.2.1 = 0 then 30 else 23) (lv' := [(4, .int v.2.1), (0, .ref 2), (1, .ref (xa + 37)), (2, .ref z0), (3, .int (nI (60 - n)))]) (st' := [.ref 2]) (G' := (zk_H R ex' sl' s' r el' f g df)) rfl ?_
      by_cases hv0 : v.2.1 = 0
      · rw [if_pos hv0]
        rw [if_pos hv0]
        refine zm_J_run zm_T 1 (pc' := 31) (lv' := [(4, .int v.2.1), (0, .ref 2), (1, .ref (xa + 37)), (2, .ref z0), (3, .int (nI (60 - n)))]) (st' := [.ref (xa + 37), .ref 2]) (G' := (zk_H R ex' sl' s' r el' f g df)) rfl ?_
        refine zg_gf (fs := [.int 63, .int ix, .ref (y1 + 37), .ref (y2 + 37), .ref (y3 + 37)]) rfl (zk_at hc') rfl ?_
        refine zm_J_run zm_T 4 (pc' := 38) (lv' := [(4, .int v.2.1), (0, .ref 2), (1, .ref (xa + 37)), (2, .ref z0), (3, .int (nI (60 - n)))]) (st' := [.int ((nI (60 - n)) + 1), .ref z0, .ref (y3 + 37), .ref 2]) (G' := (zk_H R ex' sl' s' r el' f g df)) rfl ?_
        rw [hdep]
        show zm_J N _ 56 38 [(4, .int v.2.1), (0, .ref 2), (1, .ref (xa + 37)), (2, .ref z0), (3, .int (nI (60 - n)))] [.int (nI (61 - n)), .ref z0, .ref (y3 + 37), .ref 2] (zk_H R ex' sl' s' r el' f g df) _
        refine zg_VT (a := 2) (av := [.ref (y3 + 37), .ref z0, .int (nI (61 - n))]) (rest := []) (zm_T.1 56 38 _ rfl).1 zc_56_38 rfl (zm_out0 rfl) (Nat.le_of_ble_eq_true rfl) (Nat.le_of_ble_eq_true rfl) (zk_c hr1) (zk_s hr1) ((zm_J_d (by omega) (ih (zv_sk (zv_sk r0 1) 1) L A σ' j ex' sl' s' el' va' ca' ka' q' y3 _ _ w1 hok3 hA' (w4.down (by omega) (by omega)) o3 o5 hD' hX3' hch')).mono (fun z G' k => zk_k_ret rfl (fun _ => rfl) (zk_EQ_tr o4 o7 o8 o9 k)))
      · rw [if_neg hv0]
        rw [if_neg hv0]
        refine zm_J_run zm_T 1 (pc' := 24) (lv' := [(4, .int v.2.1), (0, .ref 2), (1, .ref (xa + 37)), (2, .ref z0), (3, .int (nI (60 - n)))]) (st' := [.ref (xa + 37), .ref 2]) (G' := (zk_H R ex' sl' s' r el' f g df)) rfl ?_
        refine zg_gf (fs := [.int 63, .int ix, .ref (y1 + 37), .ref (y2 + 37), .ref (y3 + 37)]) rfl (zk_at hc') rfl ?_
        refine zm_J_run zm_T 5 (pc' := 38) (lv' := [(4, .int v.2.1), (0, .ref 2), (1, .ref (xa + 37)), (2, .ref z0), (3, .int (nI (60 - n)))]) (st' := [.int ((nI (60 - n)) + 1), .ref z0, .ref (y2 + 37), .ref 2]) (G' := (zk_H R ex' sl' s' r el' f g df)) rfl ?_
        rw [hdep]
        show zm_J N _ 56 38 [(4, .int v.2.1), (0, .ref 2), (1, .ref (xa + 37)), (2, .ref z0), (3, .int (nI (60 - n)))] [.int (nI (61 - n)), .ref z0, .ref (y2 + 37), .ref 2] (zk_H R ex' sl' s' r el' f g df) _
        refine zg_VT (a := 2) (av := [.ref (y2 + 37), .ref z0, .int (nI (61 - n))]) (rest := []) (zm_T.1 56 38 _ rfl).1 zc_56_38 rfl (zm_out0 rfl) (Nat.le_of_ble_eq_true rfl) (Nat.le_of_ble_eq_true rfl) (zk_c hr1) (zk_s hr1) ((zm_J_d (by omega) (ih (zv_sk r0 1) L A σ' j ex' sl' s' el' va' ca' ka' q' y2 _ _ w1 hok2 hA' (w4.down (by omega) (by omega)) o3 o5 hD' hX2' hch')).mono (fun z G' k => zk_k_ret rfl (fun _ => rfl) (zk_EQ_tr o4 o7 o8 o9 k)))
theorem zk_rec (hB : zk_BS B S) (h8 : 8 ≤ d) (hDw : zv_wD D) {n : Nat} (hn : n ≤ 60) (ih : zk_EV B S N R r f g df D d n) (hR1 : R 1 = zk_em) {j : Nat} (hS : zv_wS σ) {r0 L : List Int32} {A : List Nat} (hA : zv_wE σ.1.length L A) (hI : zk_I B S ex sl s el va ca ka q) (hSt : zk_St ex s va ca ka σ) (hD : zk_D ex df D) {xa : Nat} {ch : Value} (hch : zk_ch ex ca ka σ.2.2.1 A.reverse ch) {c ix : Int32} (hcc : c = 43 ∨ c = 45 ∨ c = 42 ∨ c = 47 ∨ c = 37 ∨ c = 60 ∨ c = 61) {y1 y2 m1 m2 : Nat} {p3 : Value} (hc : ex[xa]? = some (Sum.inr (7, [.int c, .int ix, .ref (y1 + 37), .ref (y2 + 37), p3]) : zm_E)) (hX1 : zk_X ex L m1 r0 y1) (hX2 : zk_X ex L m2 (zv_sk r0 1) y2) (hok1 : zv_ok L r0 1 = true) (hok2 : zv_ok L (zv_sk r0 1) 1 = true) (hb : zv_b σ (zv_n r0 1 + (zv_n (zv_sk r0 1) 1 + (j + 1))) (zv_n r0 1 + (zv_n (zv_sk r0 1) 1 + (j + 1)))) {d' : Nat} (hd' : d + 3 * n + 2 ≤ d') : zm_J N d' 58 0 [(0, .ref 2), (1, .ref (xa + 37)), (2, ch), (3, .int (nI (60 - n)))] [] (zk_H R ex sl s r el f g df) (zk_EQ B S R r f g df ex s va ca ka σ.2.2.2 σ.2.2.1 (zv_B (zv_E D n r0 L A σ) (zv_G D (zv_E D n) c r0 L A))) := by
  obtain ⟨d', rfl⟩ : ∃ e, d' = e + 1 := ⟨d' - 1, by omega⟩
  have hdep : nI (60 - n) + 1 = nI (61 - n) := by rw [show 61 - n = 60 - n + 1 by omega]; exact nI_1 _
  have hr := zk_I_r hB hI
  have hq := zv_E_ok hDw n r0 L A σ _ hS hok1 hA hb
  have hih := ih r0 L A σ _ ex sl s el va ca ka q y1 m1 ch hS hok1 hA hb hI hSt hD hX1 hch
  rcases zk_ch_sh hch with rfl | ⟨z0, rfl⟩
  · refine zm_J_run zm_T 2 (pc' := 2) (lv' := [(0, .ref 2), (1, .ref (xa + 37)), (2, .null), (3, .int (nI (60 - n)))]) (st' := [.ref (xa + 37), .ref 2]) (G' := (zk_H R ex sl s r el f g df)) rfl ?_
    refine zg_gf (fs := [.int c, .int ix, .ref (y1 + 37), .ref (y2 + 37), p3]) rfl (zk_at hc) rfl ?_
    refine zm_J_run zm_T 4 (pc' := 9) (lv' := [(0, .ref 2), (1, .ref (xa + 37)), (2, .null), (3, .int (nI (60 - n)))]) (st' := [.int ((nI (60 - n)) + 1), .null, .ref (y1 + 37), .ref 2]) (G' := (zk_H R ex sl s r el f g df)) rfl ?_
    rw [hdep]
    show zm_J N _ 58 9 [(0, .ref 2), (1, .ref (xa + 37)), (2, .null), (3, .int (nI (60 - n)))] [.int (nI (61 - n)), .null, .ref (y1 + 37), .ref 2] (zk_H R ex sl s r el f g df) _
    refine zg_VT (a := 2) (av := [.ref (y1 + 37), .null, .int (nI (61 - n))]) (rest := []) (zm_T.1 58 9 _ rfl).1 zc_58_9 rfl (zm_out0 rfl) (Nat.le_of_ble_eq_true rfl) (Nat.le_of_ble_eq_true rfl) (zk_c hr) (zk_s hr) ((zm_J_d (by omega) hih).mono (fun z G' k => ?_))
    generalize zv_E D n r0 L A σ = o at k hq ⊢
    obtain ⟨o1, σ'⟩ := o
    cases o1 with
    | inl e => exact zk_k_er k k
    | inr v =>
      obtain ⟨ex', sl', s', el', va', ca', ka', q', u, rfl, rfl, o3, o4, o5, o6, o7, o8, o9⟩ := k
      obtain ⟨w1, w2, w3, w4⟩ := hq v rfl
      dsimp only at w1 w2 w3 w4
      have hr1 := zk_I_r hB o3
      show zm_J N _ 58 12 [(0, .ref 2), (1, .ref (xa + 37)), (2, .null), (3, .int (nI (60 - n)))] [.ref u] (zk_H R ex' sl' s' r el' f g df) _
      have hc' := o4.2.1 xa 7 _ (Or.inr rfl) hc
      have hD' := zk_D_up o4.2.1 hD
      have hch' := zk_ch_up o4 o9 _ _ hch
      have hA' := hA.up w3.len
      have hX2' := zk_X_up o4.2.1 _ _ _ hX2
      rw [show zv_B (Sum.inr v, σ') (zv_G D (zv_E D n) c r0 L A) = if v.1 = 0 then zv_B (zv_E D n (zv_sk r0 1) L A σ') (zv_R c v.2.1) else (.inl 5, σ') from zv_G_op hcc ..]
      have hb2 : zv_b σ' (zv_n (zv_sk r0 1) 1 + (j + 1)) (zv_n (zv_sk r0 1) 1 + (j + 1)) := w4.down (by omega) (by omega)
      have hq2 := zv_E_ok hDw n (zv_sk r0 1) L A σ' _ w1 hok2 hA' hb2
      have hih2 := ih (zv_sk r0 1) L A σ' _ ex' sl' s' el' va' ca' ka' q' y2 m2 _ w1 hok2 hA' hb2 o3 o5 hD' hX2' hch'
      refine zg_ST (av := [.ref u]) (rest := []) (zm_T.1 58 12 _ rfl).1 zc_58_12 (zm_out0 rfl) (Nat.le_of_ble_eq_true rfl) (Nat.le_of_ble_eq_true rfl) (zk_c hr1) (zk_s hr1) (zk_mbn hB o3 (by omega) o6 (fun h0 => ?_) (fun h0 z G e => zk_k_er e (by rw [if_neg h0]; exact zk_ER_tr o4.2.1 o7 e)))
      rw [if_pos h0]
      show zm_J N _ 58 15 [(0, .ref 2), (1, .ref (xa + 37)), (2, .null), (3, .int (nI (60 - n)))] [.int v.2.1] (zk_H R ex' sl' s' r el' f g df) _
      refine zm_J_run zm_T 3 (pc' := 19) (lv' := [(4, .int v.2.1), (0, .ref 2), (1, .ref (xa + 37)), (2, .null), (3, .int (nI (60 - n)))]) (st' := [.ref (xa + 37), .ref 2]) (G' := (zk_H R ex' sl' s' r el' f g df)) rfl ?_
      refine zg_gf (fs := [.int c, .int ix, .ref (y1 + 37), .ref (y2 + 37), p3]) rfl (zk_at hc') rfl ?_
      refine zm_J_run zm_T 4 (pc' := 26) (lv' := [(4, .int v.2.1), (0, .ref 2), (1, .ref (xa + 37)), (2, .null), (3, .int (nI (60 - n)))]) (st' := [.int ((nI (60 - n)) + 1), .null, .ref (y2 + 37), .ref 2]) (G' := (zk_H R ex' sl' s' r el' f g df)) rfl ?_
      rw [hdep]
      show zm_J N _ 58 26 [(4, .int v.2.1), (0, .ref 2), (1, .ref (xa + 37)), (2, .null), (3, .int (nI (60 - n)))] [.int (nI (61 - n)), .null, .ref (y2 + 37), .ref 2] (zk_H R ex' sl' s' r el' f g df) _
      refine zg_VT (a := 2) (av := [.ref (y2 + 37), .null, .int (nI (61 - n))]) (rest := []) (zm_T.1 58 26 _ rfl).1 zc_58_26 rfl (zm_out0 rfl) (Nat.le_of_ble_eq_true rfl) (Nat.le_of_ble_eq_true rfl) (zk_c hr1) (zk_s hr1) ((zm_J_d (by omega) hih2).mono (fun z G' k => ?_))
      generalize zv_E D n (zv_sk r0 1) L A σ' = o at k hq2 ⊢
      obtain ⟨o1, σ2⟩ := o
      cases o1 with
      | inl e => exact zk_k_er k (zk_ER_tr o4.2.1 o7 k)
      | inr v2 =>
        obtain ⟨ex2, sl2, s2, el2, va2, ca2, ka2, q2, u2, rfl, rfl, t3, t4, t5, t6, t7, t8, t9⟩ := k
        obtain ⟨x1, x2, x3, x4⟩ := hq2 v2 rfl
        dsimp only at x1 x2 x3 x4
        have hr2 := zk_I_r hB t3
        have hc2 := t4.2.1 xa 7 _ (Or.inr rfl) hc'
        have hP2 := o4.trans t4 o8 o9
        have ht2 := o7.trans t7
        have b3 := x4.2.2.1
        have b4 := x4.2.2.2
        rw [show zv_B (Sum.inr v2, σ2) (zv_R c v.2.1) = zv_R c v.2.1 v2 σ2 from rfl]
        unfold zv_R
        show zm_J N _ 58 29 [(4, .int v.2.1), (0, .ref 2), (1, .ref (xa + 37)), (2, .null), (3, .int (nI (60 - n)))] [.ref u2] (zk_H R ex2 sl2 s2 r el2 f g df) _
        refine zg_ST (av := [.ref u2]) (rest := []) (zm_T.1 58 29 _ rfl).1 zc_58_29 (zm_out0 rfl) (Nat.le_of_ble_eq_true rfl) (Nat.le_of_ble_eq_true rfl) (zk_c hr2) (zk_s hr2) (zk_mbn hB t3 (by omega) t6 (fun h1 => ?_) (fun h1 z G e => zk_k_er e (by rw [if_neg h1]; exact zk_ER_tr hP2.2.1 ht2 e)))
        rw [if_pos h1]
        show zm_J N _ 58 32 [(4, .int v.2.1), (0, .ref 2), (1, .ref (xa + 37)), (2, .null), (3, .int (nI (60 - n)))] [.int v2.2.1] (zk_H R ex2 sl2 s2 r el2 f g df) _
        refine zm_J_run zm_T 4 (pc' := 39) (lv' := [(5, .int v2.2.1), (4, .int v.2.1), (0, .ref 2), (1, .ref (xa + 37)), (2, .null), (3, .int (nI (60 - n)))]) (st' := [.ref (xa + 37), .ref 6]) (G' := (zk_H R ex2 sl2 s2 r el2 f g df)) rfl ?_
        refine zg_gf (fs := [.int c, .int ix, .ref (y1 + 37), .ref (y2 + 37), p3]) rfl (zk_at hc2) rfl ?_
        refine zm_J_run zm_T 2 (pc' := 46) (lv' := [(5, .int v2.2.1), (4, .int v.2.1), (0, .ref 2), (1, .ref (xa + 37)), (2, .null), (3, .int (nI (60 - n)))]) (st' := [.int v2.2.1, .int v.2.1, .int c, .ref 6]) (G' := (zk_H R ex2 sl2 s2 r el2 f g df)) rfl ?_
        refine zg_ST (av := [.int c, .int v.2.1, .int v2.2.1]) (rest := [.ref 6]) (zm_T.1 58 46 _ rfl).1 zc_58_46 (zm_out0 rfl) (Nat.le_of_ble_eq_true rfl) (Nat.le_of_ble_eq_true rfl) (zk_c hr2) (zk_s hr2) (zk_rck hB t3 (by omega) hcc (fun x hx => ?_) (fun hx z G e => zk_k_er e (by rw [hx]; exact zk_ER_tr hP2.2.1 ht2 e)))
        rw [hx]
        show zm_J N _ 58 49 [(5, .int v2.2.1), (4, .int v.2.1), (0, .ref 2), (1, .ref (xa + 37)), (2, .null), (3, .int (nI (60 - n)))] [.int x, .ref 6] (zk_H R ex2 sl2 s2 r el2 f g df) _
        refine zg_VT (a := 6) (av := [.int x]) (rest := []) (zm_T.1 58 49 _ rfl).1 zc_58_49 rfl (zm_out0 rfl) (Nat.le_of_ble_eq_true rfl) (Nat.le_of_ble_eq_true rfl) (zk_c hr2) (zk_s hr2) (zk_mkn hB hR1 (by omega) t3 t5 (by omega) x (fun z G' k => zk_k_ret (x := (.inr (zv_num x), zv_v σ2)) rfl (fun _ => rfl) (zk_EQ_tr hP2 ht2 (Nat.le_trans o8 t8) (Nat.le_trans o9 t9) k)))
  · refine zm_J_run zm_T 2 (pc' := 2) (lv' := [(0, .ref 2), (1, .ref (xa + 37)), (2, .ref z0), (3, .int (nI (60 - n)))]) (st' := [.ref (xa + 37), .ref 2]) (G' := (zk_H R ex sl s r el f g df)) rfl ?_
    refine zg_gf (fs := [.int c, .int ix, .ref (y1 + 37), .ref (y2 + 37), p3]) rfl (zk_at hc) rfl ?_
    refine zm_J_run zm_T 4 (pc' := 9) (lv' := [(0, .ref 2), (1, .ref (xa + 37)), (2, .ref z0), (3, .int (nI (60 - n)))]) (st' := [.int ((nI (60 - n)) + 1), .ref z0, .ref (y1 + 37), .ref 2]) (G' := (zk_H R ex sl s r el f g df)) rfl ?_
    rw [hdep]
    show zm_J N _ 58 9 [(0, .ref 2), (1, .ref (xa + 37)), (2, .ref z0), (3, .int (nI (60 - n)))] [.int (nI (61 - n)), .ref z0, .ref (y1 + 37), .ref 2] (zk_H R ex sl s r el f g df) _
    refine zg_VT (a := 2) (av := [.ref (y1 + 37), .ref z0, .int (nI (61 - n))]) (rest := []) (zm_T.1 58 9 _ rfl).1 zc_58_9 rfl (zm_out0 rfl) (Nat.le_of_ble_eq_true rfl) (Nat.le_of_ble_eq_true rfl) (zk_c hr) (zk_s hr) ((zm_J_d (by omega) hih).mono (fun z G' k => ?_))
    generalize zv_E D n r0 L A σ = o at k hq ⊢
    obtain ⟨o1, σ'⟩ := o
    cases o1 with
    | inl e => exact zk_k_er k k
    | inr v =>
      obtain ⟨ex', sl', s', el', va', ca', ka', q', u, rfl, rfl, o3, o4, o5, o6, o7, o8, o9⟩ := k
      obtain ⟨w1, w2, w3, w4⟩ := hq v rfl
      dsimp only at w1 w2 w3 w4
      have hr1 := zk_I_r hB o3
      show zm_J N _ 58 12 [(0, .ref 2), (1, .ref (xa + 37)), (2, .ref z0), (3, .int (nI (60 - n)))] [.ref u] (zk_H R ex' sl' s' r el' f g df) _
      have hc' := o4.2.1 xa 7 _ (Or.inr rfl) hc
      have hD' := zk_D_up o4.2.1 hD
      have hch' := zk_ch_up o4 o9 _ _ hch
      have hA' := hA.up w3.len
      have hX2' := zk_X_up o4.2.1 _ _ _ hX2
      rw [show zv_B (Sum.inr v, σ') (zv_G D (zv_E D n) c r0 L A) = if v.1 = 0 then zv_B (zv_E D n (zv_sk r0 1) L A σ') (zv_R c v.2.1) else (.inl 5, σ') from zv_G_op hcc ..]
      have hb2 : zv_b σ' (zv_n (zv_sk r0 1) 1 + (j + 1)) (zv_n (zv_sk r0 1) 1 + (j + 1)) := w4.down (by omega) (by omega)
      have hq2 := zv_E_ok hDw n (zv_sk r0 1) L A σ' _ w1 hok2 hA' hb2
      have hih2 := ih (zv_sk r0 1) L A σ' _ ex' sl' s' el' va' ca' ka' q' y2 m2 _ w1 hok2 hA' hb2 o3 o5 hD' hX2' hch'
      refine zg_ST (av := [.ref u]) (rest := []) (zm_T.1 58 12 _ rfl).1 zc_58_12 (zm_out0 rfl) (Nat.le_of_ble_eq_true rfl) (Nat.le_of_ble_eq_true rfl) (zk_c hr1) (zk_s hr1) (zk_mbn hB o3 (by omega) o6 (fun h0 => ?_) (fun h0 z G e => zk_k_er e (by rw [if_neg h0]; exact zk_ER_tr o4.2.1 o7 e)))
      rw [if_pos h0]
      show zm_J N _ 58 15 [(0, .ref 2), (1, .ref (xa + 37)), (2, .ref z0), (3, .int (nI (60 - n)))] [.int v.2.1] (zk_H R ex' sl' s' r el' f g df) _
      refine zm_J_run zm_T 3 (pc' := 19) (lv' := [(4, .int v.2.1), (0, .ref 2), (1, .ref (xa + 37)), (2, .ref z0), (3, .int (nI (60 - n)))]) (st' := [.ref (xa + 37), .ref 2]) (G' := (zk_H R ex' sl' s' r el' f g df)) rfl ?_
      refine zg_gf (fs := [.int c, .int ix, .ref (y1 + 37), .ref (y2 + 37), p3]) rfl (zk_at hc') rfl ?_
      refine zm_J_run zm_T 4 (pc' := 26) (lv' := [(4, .int v.2.1), (0, .ref 2), (1, .ref (xa + 37)), (2, .ref z0), (3, .int (nI (60 - n)))]) (st' := [.int ((nI (60 - n)) + 1), .ref z0, .ref (y2 + 37), .ref 2]) (G' := (zk_H R ex' sl' s' r el' f g df)) rfl ?_
      rw [hdep]
      show zm_J N _ 58 26 [(4, .int v.2.1), (0, .ref 2), (1, .ref (xa + 37)), (2, .ref z0), (3, .int (nI (60 - n)))] [.int (nI (61 - n)), .ref z0, .ref (y2 + 37), .ref 2] (zk_H R ex' sl' s' r el' f g df) _
      refine zg_VT (a := 2) (av := [.ref (y2 + 37), .ref z0, .int (nI (61 - n))]) (rest := []) (zm_T.1 58 26 _ rfl).1 zc_58_26 rfl (zm_out0 rfl) (Nat.le_of_ble_eq_true rfl) (Nat.le_of_ble_eq_true rfl) (zk_c hr1) (zk_s hr1) ((zm_J_d (by omega) hih2).mono (fun z G' k => ?_))
      generalize zv_E D n (zv_sk r0 1) L A σ' = o at k hq2 ⊢
      obtain ⟨o1, σ2⟩ := o
      cases o1 with
      | inl e => exact zk_k_er k (zk_ER_tr o4.2.1 o7 k)
      | inr v2 =>
        obtain ⟨ex2, sl2, s2, el2, va2, ca2, ka2, q2, u2, rfl, rfl, t3, t4, t5, t6, t7, t8, t9⟩ := k
        obtain ⟨x1, x2, x3, x4⟩ := hq2 v2 rfl
        dsimp only at x1 x2 x3 x4
        have hr2 := zk_I_r hB t3
        have hc2 := t4.2.1 xa 7 _ (Or.inr rfl) hc'
        have hP2 := o4.trans t4 o8 o9
        have ht2 := o7.trans t7
        have b3 := x4.2.2.1
        have b4 := x4.2.2.2
        rw [show zv_B (Sum.inr v2, σ2) (zv_R c v.2.1) = zv_R c v.2.1 v2 σ2 from rfl]
        unfold zv_R
        show zm_J N _ 58 29 [(4, .int v.2.1), (0, .ref 2), (1, .ref (xa + 37)), (2, .ref z0), (3, .int (nI (60 - n)))] [.ref u2] (zk_H R ex2 sl2 s2 r el2 f g df) _
        refine zg_ST (av := [.ref u2]) (rest := []) (zm_T.1 58 29 _ rfl).1 zc_58_29 (zm_out0 rfl) (Nat.le_of_ble_eq_true rfl) (Nat.le_of_ble_eq_true rfl) (zk_c hr2) (zk_s hr2) (zk_mbn hB t3 (by omega) t6 (fun h1 => ?_) (fun h1 z G e => zk_k_er e (by rw [if_neg h1]; exact zk_ER_tr hP2.2.1 ht2 e)))
        rw [if_pos h1]
        show zm_J N _ 58 32 [(4, .int v.2.1), (0, .ref 2), (1, .ref (xa + 37)), (2, .ref z0), (3, .int (nI (60 - n)))] [.int v2.2.1] (zk_H R ex2 sl2 s2 r el2 f g df) _
        refine zm_J_run zm_T 4 (pc' := 39) (lv' := [(5, .int v2.2.1), (4, .int v.2.1), (0, .ref 2), (1, .ref (xa + 37)), (2, .ref z0), (3, .int (nI (60 - n)))]) (st' := [.ref (xa + 37), .ref 6]) (G' := (zk_H R ex2 sl2 s2 r el2 f g df)) rfl ?_
        refine zg_gf (fs := [.int c, .int ix, .ref (y1 + 37), .ref (y2 + 37), p3]) rfl (zk_at hc2) rfl ?_
        refine zm_J_run zm_T 2 (pc' := 46) (lv' := [(5, .int v2.2.1), (4, .int v.2.1), (0, .ref 2), (1, .ref (xa + 37)), (2, .ref z0), (3, .int (nI (60 - n)))]) (st' := [.int v2.2.1, .int v.2.1, .int c, .ref 6]) (G' := (zk_H R ex2 sl2 s2 r el2 f g df)) rfl ?_
        refine zg_ST (av := [.int c, .int v.2.1, .int v2.2.1]) (rest := [.ref 6]) (zm_T.1 58 46 _ rfl).1 zc_58_46 (zm_out0 rfl) (Nat.le_of_ble_eq_true rfl) (Nat.le_of_ble_eq_true rfl) (zk_c hr2) (zk_s hr2) (zk_rck hB t3 (by omega) hcc (fun x hx => ?_) (fun hx z G e => zk_k_er e (by rw [hx]; exact zk_ER_tr hP2.2.1 ht2 e)))
        rw [hx]
        show zm_J N _ 58 49 [(5, .int v2.2.1), (4, .int v.2.1), (0, .ref 2), (1, .ref (xa + 37)), (2, .ref z0), (3, .int (nI (60 - n)))] [.int x, .ref 6] (zk_H R ex2 sl2 s2 r el2 f g df) _
        refine zg_VT (a := 6) (av := [.int x]) (rest := []) (zm_T.1 58 49 _ rfl).1 zc_58_49 rfl (zm_out0 rfl) (Nat.le_of_ble_eq_true rfl) (Nat.le_of_ble_eq_true rfl) (zk_c hr2) (zk_s hr2) (zk_mkn hB hR1 (by omega) t3 t5 (by omega) x (fun z G' k => zk_k_ret (x := (.inr (zv_num x), zv_v σ2)) rfl (fun _ => rfl) (zk_EQ_tr hP2 ht2 (Nat.le_trans o8 t8) (Nat.le_trans o9 t9) k)))
end ZKW

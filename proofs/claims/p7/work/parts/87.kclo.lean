/-! CLOSURES OF THE CLASS, FORCING, CALLS -/
theorem zk_St_s {ex : List zm_E} {s s' : Nat → Int32} {va ca ka : List Nat} {σ : zv_S} (h0 : s' 0 = s 0) (h1 : s' 11 = s 11) (h2 : s' 12 = s 12) (h3 : s' 13 = s 13) (h : zk_St ex s va ca ka σ) : zk_St ex s' va ca ka σ := by
  obtain ⟨⟨a, b, c, d⟩, k⟩ := h
  exact ⟨⟨h0.trans a, h1.trans b, h2.trans c, h3.trans d⟩, k⟩
theorem zk_not_let {c : Int32} (h : (48 ≤ c ∧ c ≤ 57) ∨ (65 ≤ c ∧ c ≤ 70) ∨ c = 110) : ¬ (97 ≤ c ∧ c ≤ 102) := by
  rintro ⟨h1, h2⟩
  have k1 := Int32.le_iff_toInt_le.mp h1
  have k2 := Int32.le_iff_toInt_le.mp h2
  have e1 : (97 : Int32).toInt = 97 := by decide
  have e2 : (102 : Int32).toInt = 102 := by decide
  rcases h with ⟨h3, h4⟩ | ⟨h3, h4⟩ | h3
  · have k3 := Int32.le_iff_toInt_le.mp h4
    have e3 : (57 : Int32).toInt = 57 := by decide
    omega
  · have k3 := Int32.le_iff_toInt_le.mp h4
    have e3 : (70 : Int32).toInt = 70 := by decide
    omega
  · subst h3
    have e3 : (110 : Int32).toInt = 110 := by decide
    omega
theorem zk_sg_p {L : List Int32} {c sg ix : Int32} (h : zk_sg L c sg ix) : ((97 ≤ c ∧ c ≤ 102) ∧ sg = 97 ∧ c ∈ L ∧ ix = nI (L.idxOf c)) ∨ (¬ (97 ≤ c ∧ c ≤ 102) ∧ ¬ sg = 97) := by
  rcases h with ⟨h1, h2, h3⟩ | ⟨h1, h2, h3⟩ | ⟨h1, h2⟩ | h | ⟨h1, h2⟩
  · exact Or.inr ⟨zk_not_let (Or.inl h1), by rw [h2]; decide⟩
  · exact Or.inr ⟨zk_not_let (Or.inr (Or.inl h1)), by rw [h2]; decide⟩
  · exact Or.inr ⟨zk_not_let (Or.inr (Or.inr h1)), by rw [h2]; decide⟩
  · exact Or.inl h
  · refine Or.inr ⟨fun z => h1 (zv_leaf (Or.inr (Or.inl z))), fun z => ?_⟩
    rw [h2] at z
    subst z
    exact h1 (by decide)
section ZKC
variable {R : Nat → zm_E} {ex : List zm_E} {sl : Nat} {s : Nat → Int32} {r : Value} {el : Nat → Nat} {f g : Nat → Int32} {df : Nat → Option Nat} {N : zm_N} {d : Nat} {Q : zm_O → zm_H → Prop} {B S : Nat} {va ca ka : List Nat} {q : Nat × Nat × Nat} {σ : zv_S} {D : zv_D}
theorem zk_cw (hI : zk_I B S ex sl s el va ca ka q) (hSt : zk_St ex s va ca ka σ) {c y : Nat} (hy : ca[c]? = some y) {xa : Nat} {ch : Value} {b : Int32} {u : Value} (hc : ex[y]? = some (Sum.inr (8, [.ref (xa + 37), ch, .int b, u]) : zm_E)) {t : List Int32 × List Int32 × List Nat} {st : Option (Option zv_V)} (hx : σ.1[c]? = some (t, st)) {o : Option (Option zv_V)} {b' : Int32} {u' : Value} (hnew : zk_so ex va ca ka σ.2.2.2 σ.2.2.1 o b' u') : (∀ nv na, zk_P ex va ca ka nv na (ex.set y (Sum.inr (8, [.ref (xa + 37), ch, .int b', u']) : zm_E)) va ca ka) ∧ zk_St (ex.set y (Sum.inr (8, [.ref (xa + 37), ch, .int b', u']) : zm_E)) s va ca ka (zv_st σ (σ.1.set c (t, o))) := by
  obtain ⟨⟨a1, a2, a3⟩, _, hnd, _⟩ := hI
  have keep : ∀ (i : Nat) (p : Nat × List Value), ex[i]? = some (Sum.inr p : zm_E) → p.1 ≠ 8 ∨ i ≠ y → (ex.set y (Sum.inr (8, [.ref (xa + 37), ch, .int b', u']) : zm_E))[i]? = ex[i]? := fun i p hp h => by
    refine List.getElem?_set_ne (fun e => ?_)
    subst e
    rcases h with h | h
    · rw [hc] at hp; cases Option.some.inj hp; exact h rfl
    · exact h rfl
  have hP : ∀ nv na, zk_P ex va ca ka nv na (ex.set y (Sum.inr (8, [.ref (xa + 37), ch, .int b', u']) : zm_E)) va ca ka := fun nv na => ⟨⟨zk_up.refl _, zk_up.refl _, zk_up.refl _⟩, fun i k fs hk e => (keep i _ e (Or.inl (by rcases hk with rfl | rfl; exact (show (6 : Nat) ≠ 8 by decide); exact (show (7 : Nat) ≠ 8 by decide)))).trans e, fun m z _ hz => by
      obtain ⟨fs, e⟩ := a1.1 z (List.mem_of_getElem? hz)
      exact keep z _ e (Or.inl (show 3 ≠ 8 by decide)), fun m z _ hz => by
      obtain ⟨fs, e⟩ := a3.1 z (List.mem_of_getElem? hz)
      exact keep z _ e (Or.inl (show 9 ≠ 8 by decide))⟩
  refine ⟨hP, ?_⟩
  obtain ⟨⟨s0, s1, s2, s3⟩, ⟨l1, l2, l3⟩, hcl⟩ := hSt
  refine ⟨⟨s0, s1, by show s 12 = nI (σ.1.set c (t, o)).length; rw [List.length_set]; exact s2, s3⟩, ⟨l1, by show (σ.1.set c (t, o)).length ≤ _; rw [List.length_set]; exact l2, l3⟩, fun c' x hx' => ?_⟩
  have hx' : (σ.1.set c (t, o))[c']? = some x := hx'
  by_cases e : c = c'
  · subst e
    rw [List.getElem?_set_self (List.getElem?_eq_some_iff.mp hx).1] at hx'
    cases Option.some.inj hx'
    obtain ⟨y2, xa2, n2, ch2, b2, u2, g1, g2, g3, g4, g5⟩ := hcl c _ hx
    cases Option.some.inj (g1.symm.trans hy)
    rw [hc] at g2
    cases Option.some.inj g2
    exact ⟨y, xa, n2, ch, b', u', hy, zk_set_at _ hc, zk_X_up (hP σ.2.2.2 σ.2.2.1).2.1 _ _ _ g3, zk_ch_up (hP σ.2.2.2 σ.2.2.1) (Nat.le_refl _) _ _ g4, zk_so_up (hP σ.2.2.2 σ.2.2.1) (Nat.le_refl _) (Nat.le_refl _) hnew⟩
  · rw [List.getElem?_set_ne e] at hx'
    refine zk_clo_up (hP σ.2.2.2 σ.2.2.1) (Nat.le_refl _) (Nat.le_refl _) (fun z hz => ?_) (hcl c' x hx')
    obtain ⟨fs, k⟩ := a2.1 z (List.mem_of_getElem? hz)
    exact keep z _ k (Or.inr (fun w => e (zk_inj hnd.2.1 hy (by rw [← w]; exact hz))))
/-- of an Expression: what stands where it says -/
theorem zk_clf (hB : zk_BS B S) (hR1 : R 1 = zk_em) (hd : 8 ≤ d) (hI : zk_I B S ex sl s el va ca ka q) (hSt : zk_St ex s va ca ka σ) (hb : σ.1.length < 16040) {w L : List Int32} {A : List Nat} {n xa : Nat} {ch : Value} (hX : zk_X ex L n w xa) (hE : zv_wE σ.1.length L A) (hA : zk_ch ex ca ka σ.2.2.1 A.reverse ch)
    (K : ∀ ex' sl' s' el' ca' q' p, zk_I B S ex' sl' s' el' va ca' ka q' → zk_P ex va ca ka σ.2.2.2 σ.2.2.1 ex' va ca' ka → zk_St ex' s' va ca' ka (zv_cl w L A σ).2 → ca'[(zv_cl w L A σ).1]? = some p → zk_ts s s' → Q (.inl (some (.ref (p + 37)))) (zk_H R ex' sl' s' r el' f g df)) : zm_J N d 47 0 [(0, .ref 2), (1, .ref (xa + 37)), (2, ch)] [] (zk_H R ex sl s r el f g df) Q := by
  obtain ⟨d, rfl⟩ : ∃ e, d = e + 8 := ⟨d - 8, by omega⟩
  have hr := zk_I_r hB hI
  cases n with
  | zero => exact hX.elim
  | succ n =>
  obtain ⟨c, r', sg, ix, p1, p2, p3, rfl, hc, hsg, hrest⟩ := hX
  rcases zk_sg_p hsg with ⟨h1, rfl, h3, rfl⟩ | ⟨h1, h2⟩
  · have hlt : L.idxOf c < A.reverse.length := by
      rw [List.length_reverse]
      exact Nat.lt_of_lt_of_le (List.idxOf_lt_length_of_mem h3) hE.2.1
    have hcl : zv_cl (c :: r') L A σ = (zv_ar L A c, σ) := if_pos h1
    rw [hcl] at K
    rcases zk_ch_sh hA with rfl | ⟨z, rfl⟩
    · refine zm_J_run zm_T 1 (pc' := 1) (lv' := [(0, .ref 2), (1, .ref (xa + 37)), (2, .null)]) (st' := [.ref (xa + 37)]) (G' := (zk_H R ex sl s r el f g df)) rfl ?_
      refine zg_gf (fs := [.int 97, .int (nI (L.idxOf c)), p1, p2, p3]) rfl (zk_at hc) rfl ?_
      refine zm_J_run zm_T 4 (pc' := 11) (lv' := [(0, .ref 2), (1, .ref (xa + 37)), (2, .null)]) (st' := [.ref (xa + 37), .null]) (G' := (zk_H R ex sl s r el f g df)) rfl ?_
      refine zg_gf (fs := [.int 97, .int (nI (L.idxOf c)), p1, p2, p3]) rfl (zk_at hc) rfl ?_
      refine zg_SK (av := [.null, .int (nI (L.idxOf c))]) (rest := []) (zm_T.1 47 14 _ rfl).1 zc_47_14 (Nat.le_of_ble_eq_true rfl) (Nat.le_of_ble_eq_true rfl) (zk_c hr) (zk_s hr) (zk_arg hA hlt (fun c' p k1 k2 => ⟨_, rfl, ?_⟩))
      rw [List.reverse_reverse] at k1
      have e1 : zv_ar L A c = c' := by
        show A.getD _ 0 = _
        rw [List.getD_eq_getElem?_getD, k1]
        rfl
      show zm_J N _ 47 17 [(0, .ref 2), (1, .ref (xa + 37)), (2, .null)] [.ref (p + 37)] (zk_H R ex sl s r el f g df) _
      exact zm_J_fin zm_T rfl rfl (K _ _ _ _ _ _ _ hI (zk_P.refl ..) hSt (by rw [e1]; exact k2) (zk_ts.refl _))
    · refine zm_J_run zm_T 1 (pc' := 1) (lv' := [(0, .ref 2), (1, .ref (xa + 37)), (2, .ref z)]) (st' := [.ref (xa + 37)]) (G' := (zk_H R ex sl s r el f g df)) rfl ?_
      refine zg_gf (fs := [.int 97, .int (nI (L.idxOf c)), p1, p2, p3]) rfl (zk_at hc) rfl ?_
      refine zm_J_run zm_T 4 (pc' := 11) (lv' := [(0, .ref 2), (1, .ref (xa + 37)), (2, .ref z)]) (st' := [.ref (xa + 37), .ref z]) (G' := (zk_H R ex sl s r el f g df)) rfl ?_
      refine zg_gf (fs := [.int 97, .int (nI (L.idxOf c)), p1, p2, p3]) rfl (zk_at hc) rfl ?_
      refine zg_SK (av := [.ref z, .int (nI (L.idxOf c))]) (rest := []) (zm_T.1 47 14 _ rfl).1 zc_47_14 (Nat.le_of_ble_eq_true rfl) (Nat.le_of_ble_eq_true rfl) (zk_c hr) (zk_s hr) (zk_arg hA hlt (fun c' p k1 k2 => ⟨_, rfl, ?_⟩))
      rw [List.reverse_reverse] at k1
      have e1 : zv_ar L A c = c' := by
        show A.getD _ 0 = _
        rw [List.getD_eq_getElem?_getD, k1]
        rfl
      show zm_J N _ 47 17 [(0, .ref 2), (1, .ref (xa + 37)), (2, .ref z)] [.ref (p + 37)] (zk_H R ex sl s r el f g df) _
      exact zm_J_fin zm_T rfl rfl (K _ _ _ _ _ _ _ hI (zk_P.refl ..) hSt (by rw [e1]; exact k2) (zk_ts.refl _))
  · have hcl : zv_cl (c :: r') L A σ = (σ.1.length, zv_st σ (σ.1 ++ [((c :: r', L, A), none)])) := if_neg h1
    have hX : zk_X ex L (n + 1) (c :: r') xa := ⟨c, r', sg, ix, p1, p2, p3, rfl, hc, hsg, hrest⟩
    rw [hcl] at K
    rcases zk_ch_sh hA with rfl | ⟨z, rfl⟩
    · refine zm_J_run zm_T 1 (pc' := 1) (lv' := [(0, .ref 2), (1, .ref (xa + 37)), (2, .null)]) (st' := [.ref (xa + 37)]) (G' := (zk_H R ex sl s r el f g df)) rfl ?_
      refine zg_gf (fs := [.int sg, .int ix, p1, p2, p3]) rfl (zk_at hc) rfl ?_
      refine zm_J_run zm_T 2 (pc' := if sg = 97 then 9 else 18) (lv' := [(0, .ref 2), (1, .ref (xa + 37)), (2, .null)]) (st' := []) (G' := (zk_H R ex sl s r el f g df)) rfl ?_
      rw [if_neg (show ¬ (sg = 97) from h2)]
      refine zm_J_run zm_T 4 (pc' := 24) (lv' := [(0, .ref 2), (1, .ref (xa + 37)), (2, .null)]) (st' := [.null, .ref (xa + 37), .ref 6]) (G' := (zk_H R ex sl s r el f g df)) rfl ?_
      refine zg_VK (a := 6) (av := [.ref (xa + 37), .null]) (rest := []) (zm_T.1 47 24 _ rfl).1 zc_47_24 rfl (Nat.le_of_ble_eq_true rfl) (Nat.le_of_ble_eq_true rfl) (zk_c hr) (zk_s hr) (zk_mkc hB hR1 (by omega) hI (zk_ch_sh hA) hSt.1.2.2.1 hSt.2.1.2.1 hb (fun ex' sl' s' el' l' q' y k1 k2 k3 => ⟨_, rfl, ?_⟩))
      obtain ⟨hP, hS2, ht⟩ := zk_mkcl hI k1 hSt k2 k3 hX hA
      show zm_J N _ 47 27 [(0, .ref 2), (1, .ref (xa + 37)), (2, .null)] [.ref (y + 37)] (zk_H R ex' sl' s' r el' f g df) _
      exact zm_J_fin zm_T rfl rfl (K _ _ _ _ _ _ _ k1 hP hS2 k2.2.1 ht)
    · refine zm_J_run zm_T 1 (pc' := 1) (lv' := [(0, .ref 2), (1, .ref (xa + 37)), (2, .ref z)]) (st' := [.ref (xa + 37)]) (G' := (zk_H R ex sl s r el f g df)) rfl ?_
      refine zg_gf (fs := [.int sg, .int ix, p1, p2, p3]) rfl (zk_at hc) rfl ?_
      refine zm_J_run zm_T 2 (pc' := if sg = 97 then 9 else 18) (lv' := [(0, .ref 2), (1, .ref (xa + 37)), (2, .ref z)]) (st' := []) (G' := (zk_H R ex sl s r el f g df)) rfl ?_
      rw [if_neg (show ¬ (sg = 97) from h2)]
      refine zm_J_run zm_T 4 (pc' := 24) (lv' := [(0, .ref 2), (1, .ref (xa + 37)), (2, .ref z)]) (st' := [.ref z, .ref (xa + 37), .ref 6]) (G' := (zk_H R ex sl s r el f g df)) rfl ?_
      refine zg_VK (a := 6) (av := [.ref (xa + 37), .ref z]) (rest := []) (zm_T.1 47 24 _ rfl).1 zc_47_24 rfl (Nat.le_of_ble_eq_true rfl) (Nat.le_of_ble_eq_true rfl) (zk_c hr) (zk_s hr) (zk_mkc hB hR1 (by omega) hI (zk_ch_sh hA) hSt.1.2.2.1 hSt.2.1.2.1 hb (fun ex' sl' s' el' l' q' y k1 k2 k3 => ⟨_, rfl, ?_⟩))
      obtain ⟨hP, hS2, ht⟩ := zk_mkcl hI k1 hSt k2 k3 hX hA
      show zm_J N _ 47 27 [(0, .ref 2), (1, .ref (xa + 37)), (2, .ref z)] [.ref (y + 37)] (zk_H R ex' sl' s' r el' f g df) _
      exact zm_J_fin zm_T rfl rfl (K _ _ _ _ _ _ _ k1 hP hS2 k2.2.1 ht)
def zk_EV (B S : Nat) (N : zm_N) (R : Nat → zm_E) (r : Value) (f g : Nat → Int32) (df : Nat → Option Nat) (D : zv_D) (d n : Nat) : Prop := ∀ (w L : List Int32) (A : List Nat) (σ : zv_S) (j : Nat) (ex : List zm_E) (sl : Nat) (s : Nat → Int32) (el : Nat → Nat) (va ca ka : List Nat) (q : Nat × Nat × Nat) (xa m : Nat) (ch : Value), zv_wS σ → zv_ok L w 1 = true → zv_wE σ.1.length L A → zv_b σ (zv_n w 1 + j) (zv_n w 1 + j) → zk_I B S ex sl s el va ca ka q → zk_St ex s va ca ka σ → zk_D ex df D → zk_X ex L m w xa → zk_ch ex ca ka σ.2.2.1 A.reverse ch →
  zm_J N (d + 3 * n) 37 0 [(0, .ref 2), (1, .ref (xa + 37)), (2, ch), (3, .int (nI (61 - n)))] [] (zk_H R ex sl s r el f g df) (zk_EQ B S R r f g df ex s va ca ka σ.2.2.2 σ.2.2.1 (zv_E D n w L A σ))
/-- FORCING -/
theorem zk_frc (hB : zk_BS B S) (h8 : 8 ≤ d) (hDw : zv_wD D) {n : Nat} (hn : n ≤ 60) (ih : zk_EV B S N R r f g df D d n) {j c y : Nat} (hS : zv_wS σ) (hb : zv_b σ (j + 1) j) (hcl : c < σ.1.length) (hI : zk_I B S ex sl s el va ca ka q) (hSt : zk_St ex s va ca ka σ) (hD : zk_D ex df D) (hy : ca[c]? = some y) {d' : Nat} (hd' : d + 3 * n + 1 ≤ d') : zm_J N d' 41 0 [(0, .ref 2), (1, .ref (y + 37)), (2, .int (nI (60 - n)))] [] (zk_H R ex sl s r el f g df) (zk_EQ B S R r f g df ex s va ca ka σ.2.2.2 σ.2.2.1 (zv_F (zv_E D n) c σ)) := by
  obtain ⟨d', rfl⟩ : ∃ e, d' = e + 1 := ⟨d' - 1, by omega⟩
  have hdep : nI (60 - n) + 1 = nI (61 - n) := by rw [show 61 - n = 60 - n + 1 by omega]; exact nI_1 _
  have hr := zk_I_r hB hI
  obtain ⟨⟨t, st⟩, hx⟩ : ∃ x, σ.1[c]? = some x := ⟨_, List.getElem?_eq_getElem hcl⟩
  obtain ⟨y', xa, m, ch, b, u, k1, k2, k3, k4, k5⟩ := hSt.2.2 c _ hx
  cases Option.some.inj (k1.symm.trans hy)
  unfold zv_F
  rw [hx]
  cases st with
  | some o =>
    cases o with
    | some v =>
      obtain ⟨rfl, a, rfl, k6⟩ := k5
      refine zm_J_run zm_T 1 (pc' := 1) (lv' := [(0, .ref 2), (1, .ref (y + 37)), (2, .int (nI (60 - n)))]) (st' := [.ref (y + 37)]) (G' := (zk_H R ex sl s r el f g df)) rfl ?_
      refine zg_gf (fs := [.ref (xa + 37), ch, .int 1, .ref a]) rfl (zk_at k2) rfl ?_
      refine zm_J_run zm_T 8 (pc' := 18) (lv' := [(0, .ref 2), (1, .ref (y + 37)), (2, .int (nI (60 - n)))]) (st' := [.ref (y + 37)]) (G' := (zk_H R ex sl (zu s 3 ((s 3) + 1)) r el f g df)) rfl ?_
      refine zg_SK (av := [.ref (y + 37)]) (rest := []) (zm_T.1 41 18 _ rfl).1 zc_41_18 (Nat.le_of_ble_eq_true rfl) (Nat.le_of_ble_eq_true rfl) (zk_c hr) (zk_s hr) (zk_mbw1 k2 ⟨_, rfl, ?_⟩)
      show zm_J N _ 41 21 [(0, .ref 2), (1, .ref (y + 37)), (2, .int (nI (60 - n)))] [.ref a] (zk_H R ex sl (zu s 3 ((s 3) + 1)) r el f g df) _
      exact zm_J_fin zm_T rfl rfl ⟨ex, sl, _, el, va, ca, ka, q, a, rfl, rfl, zk_I_s rfl rfl rfl hI, zk_P.refl .., zk_St_s rfl rfl rfl rfl hSt, k6, fun k h1 h2 => zk_une (by omega), Nat.le_refl _, Nat.le_refl _⟩
    | none =>
      obtain ⟨rfl, rfl⟩ := k5
      refine zm_J_run zm_T 1 (pc' := 1) (lv' := [(0, .ref 2), (1, .ref (y + 37)), (2, .int (nI (60 - n)))]) (st' := [.ref (y + 37)]) (G' := (zk_H R ex sl s r el f g df)) rfl ?_
      refine zg_gf (fs := [.ref (xa + 37), ch, .int 1, .null]) rfl (zk_at k2) rfl ?_
      refine zm_J_run zm_T 8 (pc' := 18) (lv' := [(0, .ref 2), (1, .ref (y + 37)), (2, .int (nI (60 - n)))]) (st' := [.ref (y + 37)]) (G' := (zk_H R ex sl (zu s 3 ((s 3) + 1)) r el f g df)) rfl ?_
      refine zg_ST (av := [.ref (y + 37)]) (rest := []) (zm_T.1 41 18 _ rfl).1 zc_41_18 (zm_out0 rfl) (Nat.le_of_ble_eq_true rfl) (Nat.le_of_ble_eq_true rfl) (zk_c hr) (zk_s hr) (zk_mbw0 hB (zk_I_s (s' := zu s 3 (s 3 + 1)) rfl rfl rfl hI) (by omega) k2 (fun z G e => zk_k_er e (zk_ER_tr (s := s) (s' := zu s 3 (s 3 + 1)) (zk_de.refl _) (fun k h1 h2 => zk_une (by omega)) e)))
  | none =>
    obtain ⟨rfl, rfl⟩ := k5
    dsimp only
    obtain ⟨hS1, hok1, hE1, hb1⟩ := zv_F_pre hS hx hb
    have hso : zk_so ex va ca ka σ.2.2.2 σ.2.2.1 (some none) 1 .null := ⟨rfl, rfl⟩
    obtain ⟨hP1, hSt1⟩ := zk_cw hI hSt hy k2 hx hso
    have hI1 := zk_I_set [.ref (xa + 37), ch, .int 1, .null] k2 rfl hI
    have hP0 := hP1 σ.2.2.2 σ.2.2.1
    have k21 := zk_set_at (Sum.inr (8, [.ref (xa + 37), ch, .int 1, .null]) : zm_E) k2
    have hq := zv_E_ok hDw n t.1 t.2.1 t.2.2 (zv_st σ (σ.1.set c (t, some none))) j hS1 hok1 hE1 hb1
    have hch1 := zk_ch_up hP0 (Nat.le_refl _) _ _ k4
    have hts : zk_ts s (zu s 2 (s 2 + 1)) := fun k h1 h2 => zk_une (by omega)
    have hih := ih t.1 t.2.1 t.2.2 (zv_st σ (σ.1.set c (t, some none))) j (ex.set y (Sum.inr (8, [.ref (xa + 37), ch, .int 1, .null]) : zm_E)) sl (zu s 2 (s 2 + 1)) el va ca ka q xa m ch hS1 hok1 hE1 hb1 (zk_I_s rfl rfl rfl hI1) (zk_St_s rfl rfl rfl rfl hSt1) (zk_D_up hP0.2.1 hD) (zk_X_up hP0.2.1 _ _ _ k3) hch1
    have hlt2 := (List.getElem?_eq_some_iff.mp hx).1
    rcases zk_ch_sh k4 with rfl | ⟨z0, rfl⟩
    · refine zm_J_run zm_T 1 (pc' := 1) (lv' := [(0, .ref 2), (1, .ref (y + 37)), (2, .int (nI (60 - n)))]) (st' := [.ref (y + 37)]) (G' := (zk_H R ex sl s r el f g df)) rfl ?_
      refine zg_gf (fs := [.ref (xa + 37), .null, .int 0, .null]) rfl (zk_at k2) rfl ?_
      refine zm_J_run zm_T 3 (pc' := 24) (lv' := [(0, .ref 2), (1, .ref (y + 37)), (2, .int (nI (60 - n)))]) (st' := [.int 1, .ref (y + 37)]) (G' := (zk_H R ex sl s r el f g df)) rfl ?_
      refine zg_pf (fs := [.ref (xa + 37), .null, .int 0, .null]) (G' := (zk_H R (ex.set y (Sum.inr (8, [.ref (xa + 37), .null, .int 1, .null]) : zm_E)) sl s r el f g df)) rfl (zk_at k2) (Nat.le_add_left 2 _) (Nat.le_of_ble_eq_true rfl) rfl rfl ?_
      refine zm_J_run zm_T 8 (pc' := 39) (lv' := [(0, .ref 2), (1, .ref (y + 37)), (2, .int (nI (60 - n)))]) (st' := [.ref (y + 37), .ref 2]) (G' := (zk_H R (ex.set y (Sum.inr (8, [.ref (xa + 37), .null, .int 1, .null]) : zm_E)) sl (zu s 2 ((s 2) + 1)) r el f g df)) rfl ?_
      refine zg_gf (fs := [.ref (xa + 37), .null, .int 1, .null]) rfl (zk_at k21) rfl ?_
      refine zm_J_run zm_T 1 (pc' := 43) (lv' := [(0, .ref 2), (1, .ref (y + 37)), (2, .int (nI (60 - n)))]) (st' := [.ref (y + 37), .ref (xa + 37), .ref 2]) (G' := (zk_H R (ex.set y (Sum.inr (8, [.ref (xa + 37), .null, .int 1, .null]) : zm_E)) sl (zu s 2 ((s 2) + 1)) r el f g df)) rfl ?_
      refine zg_gf (fs := [.ref (xa + 37), .null, .int 1, .null]) rfl (zk_at k21) rfl ?_
      refine zm_J_run zm_T 3 (pc' := 49) (lv' := [(0, .ref 2), (1, .ref (y + 37)), (2, .int (nI (60 - n)))]) (st' := [.int ((nI (60 - n)) + 1), .null, .ref (xa + 37), .ref 2]) (G' := (zk_H R (ex.set y (Sum.inr (8, [.ref (xa + 37), .null, .int 1, .null]) : zm_E)) sl (zu s 2 ((s 2) + 1)) r el f g df)) rfl ?_
      rw [hdep]
      show zm_J N _ 41 49 [(0, .ref 2), (1, .ref (y + 37)), (2, .int (nI (60 - n)))] [.int (nI (61 - n)), .null, .ref (xa + 37), .ref 2] (zk_H R (ex.set y (Sum.inr (8, [.ref (xa + 37), .null, .int 1, .null]) : zm_E)) sl (zu s 2 ((s 2) + 1)) r el f g df) _
      refine zg_VT (a := 2) (av := [.ref (xa + 37), .null, .int (nI (61 - n))]) (rest := []) (zm_T.1 41 49 _ rfl).1 zc_41_49 rfl (zm_out0 rfl) (Nat.le_of_ble_eq_true rfl) (Nat.le_of_ble_eq_true rfl) (zk_c (zk_I_r hB hI1)) (zk_s (zk_I_r hB hI1)) ((zm_J_d (by omega) hih).mono (fun z G' k => ?_))
      generalize hyE : zv_E D n t.1 t.2.1 t.2.2 (zv_st σ (σ.1.set c (t, some none))) = o at k hq ⊢
      obtain ⟨o1, σ'⟩ := o
      cases o1 with
      | inl e => exact zk_k_er k (zk_ER_tr hP0.2.1 hts k)
      | inr v =>
        obtain ⟨ex', sl', s', el', va', ca', ka', q', u, rfl, rfl, o3, o4, o5, o6, o7, o8, o9⟩ := k
        obtain ⟨w1, w2, w3, w4⟩ := hq v rfl
        obtain ⟨st', g1, g2⟩ := w3.2.2.2 c t (some none) (by show (σ.1.set c _)[c]? = _; rw [List.getElem?_set_self hlt2])
        obtain ⟨y2, xa2, m2, ch2, b2, u2, l1, l2, l3, l4, l5⟩ := o5.2.2 c _ g1
        cases Option.some.inj (l1.symm.trans (o4.1.2.1 c y hy))
        have hb2 : b2 = 1 := by
          cases st' with
          | none => exact absurd (g2 rfl) (by decide)
          | some o =>
            cases o with
            | none => exact l5.1
            | some v' => exact l5.1
        subst hb2
        have hso2 : zk_so ex' va' ca' ka' σ'.2.2.2 σ'.2.2.1 (some (some v)) 1 (.ref u) := ⟨rfl, u, rfl, o6⟩
        obtain ⟨hP2, hSt2⟩ := zk_cw o3 o5 l1 l2 g1 hso2
        have hI2 := zk_I_set [.ref (xa2 + 37), ch2, .int 1, .ref u] l2 rfl o3
        show zm_J N _ 41 52 [(0, .ref 2), (1, .ref (y + 37)), (2, .int (nI (60 - n)))] [.ref u] (zk_H R ex' sl' s' r el' f g df) _
        refine zm_J_run zm_T 3 (pc' := 55) (lv' := [(3, .ref u), (0, .ref 2), (1, .ref (y + 37)), (2, .int (nI (60 - n)))]) (st' := [.ref u, .ref (y + 37)]) (G' := (zk_H R ex' sl' s' r el' f g df)) rfl ?_
        refine zg_pf (fs := [.ref (xa2 + 37), ch2, .int 1, u2]) (G' := (zk_H R (ex'.set y (Sum.inr (8, [.ref (xa2 + 37), ch2, .int 1, .ref u]) : zm_E)) sl' s' r el' f g df)) rfl (zk_at l2) (Nat.le_add_left 2 _) (Nat.le_of_ble_eq_true rfl) rfl rfl ?_
        refine zm_J_run zm_T 1 (pc' := 59) (lv' := [(3, .ref u), (0, .ref 2), (1, .ref (y + 37)), (2, .int (nI (60 - n)))]) (st' := [.ref u]) (G' := (zk_H R (ex'.set y (Sum.inr (8, [.ref (xa2 + 37), ch2, .int 1, .ref u]) : zm_E)) sl' s' r el' f g df)) rfl ?_
        exact zm_J_fin zm_T rfl rfl ⟨_, sl', s', el', va', ca', ka', q', u, rfl, rfl, hI2, (hP0.trans o4 (Nat.le_refl _) (Nat.le_refl _)).trans (hP2 _ _) o8 o9, hSt2, zk_V_up (hP2 _ _) (Nat.le_refl _) (Nat.le_refl _) o6, hts.trans o7, o8, o9⟩
    · refine zm_J_run zm_T 1 (pc' := 1) (lv' := [(0, .ref 2), (1, .ref (y + 37)), (2, .int (nI (60 - n)))]) (st' := [.ref (y + 37)]) (G' := (zk_H R ex sl s r el f g df)) rfl ?_
      refine zg_gf (fs := [.ref (xa + 37), .ref z0, .int 0, .null]) rfl (zk_at k2) rfl ?_
      refine zm_J_run zm_T 3 (pc' := 24) (lv' := [(0, .ref 2), (1, .ref (y + 37)), (2, .int (nI (60 - n)))]) (st' := [.int 1, .ref (y + 37)]) (G' := (zk_H R ex sl s r el f g df)) rfl ?_
      refine zg_pf (fs := [.ref (xa + 37), .ref z0, .int 0, .null]) (G' := (zk_H R (ex.set y (Sum.inr (8, [.ref (xa + 37), .ref z0, .int 1, .null]) : zm_E)) sl s r el f g df)) rfl (zk_at k2) (Nat.le_add_left 2 _) (Nat.le_of_ble_eq_true rfl) rfl rfl ?_
      refine zm_J_run zm_T 8 (pc' := 39) (lv' := [(0, .ref 2), (1, .ref (y + 37)), (2, .int (nI (60 - n)))]) (st' := [.ref (y + 37), .ref 2]) (G' := (zk_H R (ex.set y (Sum.inr (8, [.ref (xa + 37), .ref z0, .int 1, .null]) : zm_E)) sl (zu s 2 ((s 2) + 1)) r el f g df)) rfl ?_
      refine zg_gf (fs := [.ref (xa + 37), .ref z0, .int 1, .null]) rfl (zk_at k21) rfl ?_
      refine zm_J_run zm_T 1 (pc' := 43) (lv' := [(0, .ref 2), (1, .ref (y + 37)), (2, .int (nI (60 - n)))]) (st' := [.ref (y + 37), .ref (xa + 37), .ref 2]) (G' := (zk_H R (ex.set y (Sum.inr (8, [.ref (xa + 37), .ref z0, .int 1, .null]) : zm_E)) sl (zu s 2 ((s 2) + 1)) r el f g df)) rfl ?_
      refine zg_gf (fs := [.ref (xa + 37), .ref z0, .int 1, .null]) rfl (zk_at k21) rfl ?_
      refine zm_J_run zm_T 3 (pc' := 49) (lv' := [(0, .ref 2), (1, .ref (y + 37)), (2, .int (nI (60 - n)))]) (st' := [.int ((nI (60 - n)) + 1), .ref z0, .ref (xa + 37), .ref 2]) (G' := (zk_H R (ex.set y (Sum.inr (8, [.ref (xa + 37), .ref z0, .int 1, .null]) : zm_E)) sl (zu s 2 ((s 2) + 1)) r el f g df)) rfl ?_
      rw [hdep]
      show zm_J N _ 41 49 [(0, .ref 2), (1, .ref (y + 37)), (2, .int (nI (60 - n)))] [.int (nI (61 - n)), .ref z0, .ref (xa + 37), .ref 2] (zk_H R (ex.set y (Sum.inr (8, [.ref (xa + 37), .ref z0, .int 1, .null]) : zm_E)) sl (zu s 2 ((s 2) + 1)) r el f g df) _
      refine zg_VT (a := 2) (av := [.ref (xa + 37), .ref z0, .int (nI (61 - n))]) (rest := []) (zm_T.1 41 49 _ rfl).1 zc_41_49 rfl (zm_out0 rfl) (Nat.le_of_ble_eq_true rfl) (Nat.le_of_ble_eq_true rfl) (zk_c (zk_I_r hB hI1)) (zk_s (zk_I_r hB hI1)) ((zm_J_d (by omega) hih).mono (fun z G' k => ?_))
      generalize hyE : zv_E D n t.1 t.2.1 t.2.2 (zv_st σ (σ.1.set c (t, some none))) = o at k hq ⊢
      obtain ⟨o1, σ'⟩ := o
      cases o1 with
      | inl e => exact zk_k_er k (zk_ER_tr hP0.2.1 hts k)
      | inr v =>
        obtain ⟨ex', sl', s', el', va', ca', ka', q', u, rfl, rfl, o3, o4, o5, o6, o7, o8, o9⟩ := k
        obtain ⟨w1, w2, w3, w4⟩ := hq v rfl
        obtain ⟨st', g1, g2⟩ := w3.2.2.2 c t (some none) (by show (σ.1.set c _)[c]? = _; rw [List.getElem?_set_self hlt2])
        obtain ⟨y2, xa2, m2, ch2, b2, u2, l1, l2, l3, l4, l5⟩ := o5.2.2 c _ g1
        cases Option.some.inj (l1.symm.trans (o4.1.2.1 c y hy))
        have hb2 : b2 = 1 := by
          cases st' with
          | none => exact absurd (g2 rfl) (by decide)
          | some o =>
            cases o with
            | none => exact l5.1
            | some v' => exact l5.1
        subst hb2
        have hso2 : zk_so ex' va' ca' ka' σ'.2.2.2 σ'.2.2.1 (some (some v)) 1 (.ref u) := ⟨rfl, u, rfl, o6⟩
        obtain ⟨hP2, hSt2⟩ := zk_cw o3 o5 l1 l2 g1 hso2
        have hI2 := zk_I_set [.ref (xa2 + 37), ch2, .int 1, .ref u] l2 rfl o3
        show zm_J N _ 41 52 [(0, .ref 2), (1, .ref (y + 37)), (2, .int (nI (60 - n)))] [.ref u] (zk_H R ex' sl' s' r el' f g df) _
        refine zm_J_run zm_T 3 (pc' := 55) (lv' := [(3, .ref u), (0, .ref 2), (1, .ref (y + 37)), (2, .int (nI (60 - n)))]) (st' := [.ref u, .ref (y + 37)]) (G' := (zk_H R ex' sl' s' r el' f g df)) rfl ?_
        refine zg_pf (fs := [.ref (xa2 + 37), ch2, .int 1, u2]) (G' := (zk_H R (ex'.set y (Sum.inr (8, [.ref (xa2 + 37), ch2, .int 1, .ref u]) : zm_E)) sl' s' r el' f g df)) rfl (zk_at l2) (Nat.le_add_left 2 _) (Nat.le_of_ble_eq_true rfl) rfl rfl ?_
        refine zm_J_run zm_T 1 (pc' := 59) (lv' := [(3, .ref u), (0, .ref 2), (1, .ref (y + 37)), (2, .int (nI (60 - n)))]) (st' := [.ref u]) (G' := (zk_H R (ex'.set y (Sum.inr (8, [.ref (xa2 + 37), ch2, .int 1, .ref u]) : zm_E)) sl' s' r el' f g df)) rfl ?_
        exact zm_J_fin zm_T rfl rfl ⟨_, sl', s', el', va', ca', ka', q', u, rfl, rfl, hI2, (hP0.trans o4 (Nat.le_refl _) (Nat.le_refl _)).trans (hP2 _ _) o8 o9, hSt2, zk_V_up (hP2 _ _) (Nat.le_refl _) (Nat.le_refl _) o6, hts.trans o7, o8, o9⟩
/-- A CALL -/
theorem zk_cal (hB : zk_BS B S) (h8 : 8 ≤ d) (hDw : zv_wD D) {n : Nat} (hn : n ≤ 60) (ih : zk_EV B S N R r f g df D d n) {j k : Nat} (hS : zv_wS σ) (hb : zv_b σ j j) (hk : k < 6) {L b : List Int32} {A : List Nat} (hDk : D k = some (L, b)) (hA : zv_wE σ.1.length L A) (hI : zk_I B S ex sl s el va ca ka q) (hSt : zk_St ex s va ca ka σ) (hD : zk_D ex df D) {yd : Nat} (hyd : df k = some (yd + 37)) {ch : Value} (hch : zk_ch ex ca ka σ.2.2.1 A.reverse ch) {d' : Nat} (hd' : d + 3 * n + 1 ≤ d') : zm_J N d' 45 0 [(0, .ref 2), (1, .ref (yd + 37)), (2, ch), (3, .int (nI (60 - n)))] [] (zk_H R ex sl s r el f g df) (zk_EQ B S R r f g df ex s va ca ka σ.2.2.2 σ.2.2.1 (zv_K (zv_E D n) b L A σ)) := by
  obtain ⟨d', rfl⟩ : ∃ e, d' = e + 1 := ⟨d' - 1, by omega⟩
  have hdep : nI (60 - n) + 1 = nI (61 - n) := by rw [show 61 - n = 60 - n + 1 by omega]; exact nI_1 _
  have hr := zk_I_r hB hI
  obtain ⟨y2, xa, m, e1, hcd, hX⟩ := (hD k hk).2 L b hDk
  cases Option.some.inj (hyd.symm.trans e1)
  obtain ⟨k1, k2, k3, k4, k5⟩ := hDw k L b hDk
  unfold zv_K
  rcases zk_ch_sh hch with rfl | ⟨z0, rfl⟩
  · by_cases h4 : 400 ≤ σ.2.1
    · rw [if_pos h4]
      have h40 : σ.2.1 = 400 := by have := hb.2.2.2; omega
      refine zm_J_run zm_T 3 (pc' := 7) (lv' := [(0, .ref 2), (1, .ref (yd + 37)), (2, .null), (3, .int (nI (60 - n)))]) (st' := [.int 400, .int (s 0)]) (G' := (zk_H R ex sl s r el f g df)) rfl ?_
      rw [show (.int (s 0) : Value) = .int (nI 400) from congrArg Value.int (hSt.1.1.trans (by rw [h40]))]
      show zm_J N _ 45 7 [(0, .ref 2), (1, .ref (yd + 37)), (2, .null), (3, .int (nI (60 - n)))] [.int 400, .int (nI 400)] (zk_H R ex sl s r el f g df) _
      refine zm_J_run zm_T 1 (pc' := if (nI 400) < 400 then 20 else 10) (lv' := [(0, .ref 2), (1, .ref (yd + 37)), (2, .null), (3, .int (nI (60 - n)))]) (st' := []) (G' := (zk_H R ex sl s r el f g df)) rfl ?_
      rw [if_neg (show ¬ ((nI 400) < 400) from by decide)]
      exact zk_throw (e := 4) hB hI zx_45_10 rfl (by omega) (by decide) (fun z G e => e)
    · rw [if_neg h4]
      have hih := ih b L A (zv_c σ) j ex sl (zu (zu s 0 (nI (σ.2.1 + 1))) 1 (s 1 + 1)) el va ca ka q xa m .null hS k1 hA (zv_K_pre k2 h4 hb) (zk_I_s rfl rfl rfl hI) ⟨⟨rfl, hSt.1.2⟩, hSt.2⟩ hD hX hch
      refine zm_J_run zm_T 3 (pc' := 7) (lv' := [(0, .ref 2), (1, .ref (yd + 37)), (2, .null), (3, .int (nI (60 - n)))]) (st' := [.int 400, .int (s 0)]) (G' := (zk_H R ex sl s r el f g df)) rfl ?_
      rw [show (.int (s 0) : Value) = .int (nI σ.2.1) from congrArg Value.int hSt.1.1]
      show zm_J N _ 45 7 [(0, .ref 2), (1, .ref (yd + 37)), (2, .null), (3, .int (nI (60 - n)))] [.int 400, .int (nI σ.2.1)] (zk_H R ex sl s r el f g df) _
      refine zm_J_run zm_T 1 (pc' := if (nI σ.2.1) < 400 then 20 else 10) (lv' := [(0, .ref 2), (1, .ref (yd + 37)), (2, .null), (3, .int (nI (60 - n)))]) (st' := []) (G' := (zk_H R ex sl s r el f g df)) rfl ?_
      rw [if_pos (show (nI σ.2.1) < 400 from nI_lt (show σ.2.1 < 400 by omega) (by decide))]
      refine zm_J_run zm_T 5 (pc' := 27) (lv' := [(0, .ref 2), (1, .ref (yd + 37)), (2, .null), (3, .int (nI (60 - n)))]) (st' := [.int ((s 0) + 1), .ref 2]) (G' := (zk_H R ex sl s r el f g df)) rfl ?_
      rw [show s 0 + 1 = nI (σ.2.1 + 1) from by rw [hSt.1.1]; exact nI_1 _]
      show zm_J N _ 45 27 [(0, .ref 2), (1, .ref (yd + 37)), (2, .null), (3, .int (nI (60 - n)))] [.int (nI (σ.2.1 + 1)), .ref 2] (zk_H R ex sl s r el f g df) _
      refine zm_J_run zm_T 9 (pc' := 42) (lv' := [(0, .ref 2), (1, .ref (yd + 37)), (2, .null), (3, .int (nI (60 - n)))]) (st' := [.ref (yd + 37), .ref 2]) (G' := (zk_H R ex sl (zu (zu s 0 (nI (σ.2.1 + 1))) 1 ((s 1) + 1)) r el f g df)) rfl ?_
      refine zg_gf (fs := [.int (nI k), .int (nI L.length), .ref (xa + 37)]) rfl (zk_at hcd) rfl ?_
      refine zm_J_run zm_T 4 (pc' := 49) (lv' := [(0, .ref 2), (1, .ref (yd + 37)), (2, .null), (3, .int (nI (60 - n)))]) (st' := [.int ((nI (60 - n)) + 1), .null, .ref (xa + 37), .ref 2]) (G' := (zk_H R ex sl (zu (zu s 0 (nI (σ.2.1 + 1))) 1 ((s 1) + 1)) r el f g df)) rfl ?_
      rw [hdep]
      show zm_J N _ 45 49 [(0, .ref 2), (1, .ref (yd + 37)), (2, .null), (3, .int (nI (60 - n)))] [.int (nI (61 - n)), .null, .ref (xa + 37), .ref 2] (zk_H R ex sl (zu (zu s 0 (nI (σ.2.1 + 1))) 1 ((s 1) + 1)) r el f g df) _
      refine zg_VT (a := 2) (av := [.ref (xa + 37), .null, .int (nI (61 - n))]) (rest := []) (zm_T.1 45 49 _ rfl).1 zc_45_49 rfl (zm_out0 rfl) (Nat.le_of_ble_eq_true rfl) (Nat.le_of_ble_eq_true rfl) (zk_c hr) (zk_s hr) ((zm_J_d (by omega) hih).mono (fun z G' k => zk_k_ret rfl (fun _ => rfl) (zk_EQ_tr (s := s) (zk_P.refl ..) (fun k h1 h2 => by rw [zk_une (by omega), zk_une (by omega)]) (Nat.le_refl _) (Nat.le_refl _) k)))
  · by_cases h4 : 400 ≤ σ.2.1
    · rw [if_pos h4]
      have h40 : σ.2.1 = 400 := by have := hb.2.2.2; omega
      refine zm_J_run zm_T 3 (pc' := 7) (lv' := [(0, .ref 2), (1, .ref (yd + 37)), (2, .ref z0), (3, .int (nI (60 - n)))]) (st' := [.int 400, .int (s 0)]) (G' := (zk_H R ex sl s r el f g df)) rfl ?_
      rw [show (.int (s 0) : Value) = .int (nI 400) from congrArg Value.int (hSt.1.1.trans (by rw [h40]))]
      show zm_J N _ 45 7 [(0, .ref 2), (1, .ref (yd + 37)), (2, .ref z0), (3, .int (nI (60 - n)))] [.int 400, .int (nI 400)] (zk_H R ex sl s r el f g df) _
      refine zm_J_run zm_T 1 (pc' := if (nI 400) < 400 then 20 else 10) (lv' := [(0, .ref 2), (1, .ref (yd + 37)), (2, .ref z0), (3, .int (nI (60 - n)))]) (st' := []) (G' := (zk_H R ex sl s r el f g df)) rfl ?_
      rw [if_neg (show ¬ ((nI 400) < 400) from by decide)]
      exact zk_throw (e := 4) hB hI zx_45_10 rfl (by omega) (by decide) (fun z G e => e)
    · rw [if_neg h4]
      have hih := ih b L A (zv_c σ) j ex sl (zu (zu s 0 (nI (σ.2.1 + 1))) 1 (s 1 + 1)) el va ca ka q xa m (.ref z0) hS k1 hA (zv_K_pre k2 h4 hb) (zk_I_s rfl rfl rfl hI) ⟨⟨rfl, hSt.1.2⟩, hSt.2⟩ hD hX hch
      refine zm_J_run zm_T 3 (pc' := 7) (lv' := [(0, .ref 2), (1, .ref (yd + 37)), (2, .ref z0), (3, .int (nI (60 - n)))]) (st' := [.int 400, .int (s 0)]) (G' := (zk_H R ex sl s r el f g df)) rfl ?_
      rw [show (.int (s 0) : Value) = .int (nI σ.2.1) from congrArg Value.int hSt.1.1]
      show zm_J N _ 45 7 [(0, .ref 2), (1, .ref (yd + 37)), (2, .ref z0), (3, .int (nI (60 - n)))] [.int 400, .int (nI σ.2.1)] (zk_H R ex sl s r el f g df) _
      refine zm_J_run zm_T 1 (pc' := if (nI σ.2.1) < 400 then 20 else 10) (lv' := [(0, .ref 2), (1, .ref (yd + 37)), (2, .ref z0), (3, .int (nI (60 - n)))]) (st' := []) (G' := (zk_H R ex sl s r el f g df)) rfl ?_
      rw [if_pos (show (nI σ.2.1) < 400 from nI_lt (show σ.2.1 < 400 by omega) (by decide))]
      refine zm_J_run zm_T 5 (pc' := 27) (lv' := [(0, .ref 2), (1, .ref (yd + 37)), (2, .ref z0), (3, .int (nI (60 - n)))]) (st' := [.int ((s 0) + 1), .ref 2]) (G' := (zk_H R ex sl s r el f g df)) rfl ?_
      rw [show s 0 + 1 = nI (σ.2.1 + 1) from by rw [hSt.1.1]; exact nI_1 _]
      show zm_J N _ 45 27 [(0, .ref 2), (1, .ref (yd + 37)), (2, .ref z0), (3, .int (nI (60 - n)))] [.int (nI (σ.2.1 + 1)), .ref 2] (zk_H R ex sl s r el f g df) _
      refine zm_J_run zm_T 9 (pc' := 42) (lv' := [(0, .ref 2), (1, .ref (yd + 37)), (2, .ref z0), (3, .int (nI (60 - n)))]) (st' := [.ref (yd + 37), .ref 2]) (G' := (zk_H R ex sl (zu (zu s 0 (nI (σ.2.1 + 1))) 1 ((s 1) + 1)) r el f g df)) rfl ?_
      refine zg_gf (fs := [.int (nI k), .int (nI L.length), .ref (xa + 37)]) rfl (zk_at hcd) rfl ?_
      refine zm_J_run zm_T 4 (pc' := 49) (lv' := [(0, .ref 2), (1, .ref (yd + 37)), (2, .ref z0), (3, .int (nI (60 - n)))]) (st' := [.int ((nI (60 - n)) + 1), .ref z0, .ref (xa + 37), .ref 2]) (G' := (zk_H R ex sl (zu (zu s 0 (nI (σ.2.1 + 1))) 1 ((s 1) + 1)) r el f g df)) rfl ?_
      rw [hdep]
      show zm_J N _ 45 49 [(0, .ref 2), (1, .ref (yd + 37)), (2, .ref z0), (3, .int (nI (60 - n)))] [.int (nI (61 - n)), .ref z0, .ref (xa + 37), .ref 2] (zk_H R ex sl (zu (zu s 0 (nI (σ.2.1 + 1))) 1 ((s 1) + 1)) r el f g df) _
      refine zg_VT (a := 2) (av := [.ref (xa + 37), .ref z0, .int (nI (61 - n))]) (rest := []) (zm_T.1 45 49 _ rfl).1 zc_45_49 rfl (zm_out0 rfl) (Nat.le_of_ble_eq_true rfl) (Nat.le_of_ble_eq_true rfl) (zk_c hr) (zk_s hr) ((zm_J_d (by omega) hih).mono (fun z G' k => zk_k_ret rfl (fun _ => rfl) (zk_EQ_tr (s := s) (zk_P.refl ..) (fun k h1 h2 => by rw [zk_une (by omega), zk_une (by omega)]) (Nat.le_refl _) (Nat.le_refl _) k)))
/-- A NAME -/
theorem zk_nam (hB : zk_BS B S) (h8 : 8 ≤ d) (hDw : zv_wD D) {n : Nat} (hn : n ≤ 60) (ih : zk_EV B S N R r f g df D d n) (hR1 : R 1 = zk_em) {j k : Nat} (hS : zv_wS σ) (hb : zv_b σ (j + 1) (j + 1)) (hk : k < 6) (hI : zk_I B S ex sl s el va ca ka q) (hSt : zk_St ex s va ca ka σ) (hD : zk_D ex df D) {d' : Nat} (hd' : d + 3 * n + 2 ≤ d') : zm_J N d' 43 0 [(0, .ref 2), (1, .int (nI k)), (2, .int (nI (60 - n)))] [] (zk_H R ex sl s r el f g df) (zk_EQ B S R r f g df ex s va ca ka σ.2.2.2 σ.2.2.1 (zv_N D (zv_E D n) (nI k) σ)) := by
  obtain ⟨d', rfl⟩ : ∃ e, d' = e + 1 := ⟨d' - 1, by omega⟩
  have hdep : nI (60 - n) + 1 = nI (61 - n) := by rw [show 61 - n = 60 - n + 1 by omega]; exact nI_1 _
  have hr := zk_I_r hB hI
  obtain ⟨l1, l2, l3, l4⟩ := zv_b_len hS hb
  unfold zv_N
  rw [nI_clamp (by omega)]
  cases hDk : D k with
  | none =>
    refine zm_J_run zm_T 2 (pc' := 2) (lv' := [(0, .ref 2), (1, .int (nI k)), (2, .int (nI (60 - n)))]) (st' := [.int (nI k), .ref 2]) (G' := (zk_H R ex sl s r el f g df)) rfl ?_
    refine zg_VT (a := 2) (av := [.int (nI k)]) (rest := []) (zm_T.1 43 2 _ rfl).1 zc_43_2 rfl (zm_out0 rfl) (Nat.le_of_ble_eq_true rfl) (Nat.le_of_ble_eq_true rfl) (zk_c hr) (zk_s hr) (zk_dfo0 hB hI (by omega) hk ((hD k hk).1 hDk) (fun z G e => zk_k_er e e))
  | some x =>
    obtain ⟨L, b⟩ := x
    dsimp only
    obtain ⟨yd, xa, m, e1, hcd, hX⟩ := (hD k hk).2 L b hDk
    obtain ⟨k1, k2, k3, k4, k5⟩ := hDw k L b hDk
    by_cases hL : L.length = 0
    · refine zm_J_run zm_T 2 (pc' := 2) (lv' := [(0, .ref 2), (1, .int (nI k)), (2, .int (nI (60 - n)))]) (st' := [.int (nI k), .ref 2]) (G' := (zk_H R ex sl s r el f g df)) rfl ?_
      refine zg_VK (a := 2) (av := [.int (nI k)]) (rest := []) (zm_T.1 43 2 _ rfl).1 zc_43_2 rfl (Nat.le_of_ble_eq_true rfl) (Nat.le_of_ble_eq_true rfl) (zk_c hr) (zk_s hr) (zk_dfo1 hk e1 ⟨_, rfl, ?_⟩)
      show zm_J N _ 43 5 [(0, .ref 2), (1, .int (nI k)), (2, .int (nI (60 - n)))] [.ref (yd + 37)] (zk_H R ex sl s r el f g df) _
      refine zm_J_run zm_T 2 (pc' := 7) (lv' := [(3, .ref (yd + 37)), (0, .ref 2), (1, .int (nI k)), (2, .int (nI (60 - n)))]) (st' := [.ref (yd + 37)]) (G' := (zk_H R ex sl s r el f g df)) rfl ?_
      refine zg_gf (fs := [.int (nI k), .int (nI L.length), .ref (xa + 37)]) rfl (zk_at hcd) rfl ?_
      refine zm_J_run zm_T 1 (pc' := if (nI L.length) = 0 then 13 else 21) (lv' := [(3, .ref (yd + 37)), (0, .ref 2), (1, .int (nI k)), (2, .int (nI (60 - n)))]) (st' := []) (G' := (zk_H R ex sl s r el f g df)) rfl ?_
      rw [if_pos (show (nI L.length) = 0 from by rw [hL]; rfl)]
      refine zm_J_run zm_T 4 (pc' := 17) (lv' := [(3, .ref (yd + 37)), (0, .ref 2), (1, .int (nI k)), (2, .int (nI (60 - n)))]) (st' := [.int (nI (60 - n)), .null, .ref (yd + 37), .ref 2]) (G' := (zk_H R ex sl s r el f g df)) rfl ?_
      refine zg_VT (a := 2) (av := [.ref (yd + 37), .null, .int (nI (60 - n))]) (rest := []) (zm_T.1 43 17 _ rfl).1 zc_43_17 rfl (zm_out0 rfl) (Nat.le_of_ble_eq_true rfl) (Nat.le_of_ble_eq_true rfl) (zk_c hr) (zk_s hr) ((zk_cal (j := j) hB h8 hDw hn ih hS (hb.down (by omega) (by omega)) hk hDk ⟨k3, by rw [hL]; exact Nat.zero_le _, fun a ha => by cases ha⟩ hI hSt hD e1 (A := []) (ch := .null) rfl (by omega)).mono (fun z G' k => zk_k_ret rfl (fun _ => rfl) (by rw [if_pos hL]; exact k)))
    · refine zm_J_run zm_T 2 (pc' := 2) (lv' := [(0, .ref 2), (1, .int (nI k)), (2, .int (nI (60 - n)))]) (st' := [.int (nI k), .ref 2]) (G' := (zk_H R ex sl s r el f g df)) rfl ?_
      refine zg_VK (a := 2) (av := [.int (nI k)]) (rest := []) (zm_T.1 43 2 _ rfl).1 zc_43_2 rfl (Nat.le_of_ble_eq_true rfl) (Nat.le_of_ble_eq_true rfl) (zk_c hr) (zk_s hr) (zk_dfo1 hk e1 ⟨_, rfl, ?_⟩)
      show zm_J N _ 43 5 [(0, .ref 2), (1, .int (nI k)), (2, .int (nI (60 - n)))] [.ref (yd + 37)] (zk_H R ex sl s r el f g df) _
      refine zm_J_run zm_T 2 (pc' := 7) (lv' := [(3, .ref (yd + 37)), (0, .ref 2), (1, .int (nI k)), (2, .int (nI (60 - n)))]) (st' := [.ref (yd + 37)]) (G' := (zk_H R ex sl s r el f g df)) rfl ?_
      refine zg_gf (fs := [.int (nI k), .int (nI L.length), .ref (xa + 37)]) rfl (zk_at hcd) rfl ?_
      refine zm_J_run zm_T 1 (pc' := if (nI L.length) = 0 then 13 else 21) (lv' := [(3, .ref (yd + 37)), (0, .ref 2), (1, .int (nI k)), (2, .int (nI (60 - n)))]) (st' := []) (G' := (zk_H R ex sl s r el f g df)) rfl ?_
      rw [if_neg (show ¬ ((nI L.length) = 0) from fun z => hL ((nI_eq (by omega) (by omega)).mp (z.trans (show (0 : Int32) = nI 0 from rfl))))]
      refine zm_J_run zm_T 4 (pc' := 27) (lv' := [(3, .ref (yd + 37)), (0, .ref 2), (1, .int (nI k)), (2, .int (nI (60 - n)))]) (st' := [.null, .int (nI k), .ref 6]) (G' := (zk_H R ex sl s r el f g df)) rfl ?_
      refine zg_VT (a := 6) (av := [.int (nI k), .null]) (rest := []) (zm_T.1 43 27 _ rfl).1 zc_43_27 rfl (zm_out0 rfl) (Nat.le_of_ble_eq_true rfl) (Nat.le_of_ble_eq_true rfl) (zk_c hr) (zk_s hr) (zk_mkf hB hR1 (by omega) hI hSt (by have h3 := hb.2.2.1; have h4 := hb.2.2.2; omega) (A := []) (ch := .null) (x := nI k) rfl (fun z G' k => zk_k_ret rfl (fun _ => rfl) (by rw [if_neg hL]; exact k)))
end ZKC

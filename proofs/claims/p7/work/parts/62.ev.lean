theorem zv_F_ok {E : zv_Ev} (hE : zv_Eok E) {c : Nat} {s : zv_S} {j : Nat} (hS : zv_wS s) (hb : zv_b s (j + 1) j) : zv_Q s j (zv_F E c s) := by
  unfold zv_F
  cases hc : s.1[c]? with
  | none => intro v hv; exact nomatch hv
  | some x =>
    obtain ⟨t, st⟩ := x
    have hx : zv_wC s.1.length (t, st) := hS _ (List.mem_of_getElem? hc)
    cases st with
    | some o =>
      cases o with
      | some u =>
        intro v hv
        cases hv
        exact ⟨hS, hx.2.2 u rfl, zv_le.refl s, hb⟩
      | none => intro v hv; exact nomatch hv
    | none =>
      dsimp only
      have hl := (List.getElem?_eq_some_iff.mp hc).1
      have h0 : zv_wS (zv_st s (s.1.set c (t, some none))) := zv_wS_set hS ⟨hx.1, hx.2.1, fun v hv => by cases hv⟩
      have hle : zv_le s (zv_st s (s.1.set c (t, some none))) := zv_le_set hc (fun z => by cases z)
      obtain ⟨e1, e2⟩ := zv_T_set (o := none) hc
      have hb0 : zv_b (zv_st s (s.1.set c (t, some none))) (zv_n t.1 1 + j) (zv_n t.1 1 + j) := by
        obtain ⟨b1, b2, b3, b4⟩ := hb
        refine ⟨?_, ?_, ?_, b4⟩
        · show zv_U (s.1.set c (t, some none)) + (zv_n t.1 1 + j) ≤ 40 * (s.2.1 + 1); omega
        · show s.2.2.1 + zv_T (s.1.set c (t, some none)) + (zv_n t.1 1 + j) ≤ 40 * (s.2.1 + 1); omega
        · show s.2.2.2 + 2 * zv_T (s.1.set c (t, some none)) + 2 * (zv_n t.1 1 + j) ≤ 80 * (s.2.1 + 1); omega
      have hq := hE t.1 t.2.1 t.2.2 (zv_st s (s.1.set c (t, some none))) j h0 hx.1 (hx.2.1.up (by show _ ≤ (s.1.set c _).length; rw [List.length_set]; exact Nat.le_refl _)) hb0
      have := zv_B_ok (k := j) (f := fun v s' => (.inr v, zv_st s' (s'.1.set c (t, some (some v))))) hq (fun v s' _ w1 w2 w3 w4 => ?_)
      · intro v hv
        obtain ⟨k1, k2, k3, k4⟩ := this v hv
        exact ⟨k1, k2, hle.trans k3, k4⟩
      · obtain ⟨st', g1, g2⟩ := w3.2.2.2 c t (some none) (by show (s.1.set c _)[c]? = _; rw [List.getElem?_set_self hl])
        have g3 := g2 rfl
        cases st' with
        | none => cases g3
        | some o =>
          obtain ⟨f1, f2⟩ := zv_T_set2 (o := some v) g1
          have hy : zv_wC s'.1.length (t, some o) := w1 _ (List.mem_of_getElem? g1)
          intro u hu
          cases hu
          refine ⟨zv_wS_set w1 ⟨hy.1, hy.2.1, fun z hz => by cases hz; exact w2⟩, ?_, zv_le_set g1 (fun _ => rfl), ?_⟩
          · show zv_wV (s'.1.set c _).length v
            rw [List.length_set]; exact w2
          · obtain ⟨b1, b2, b3, b4⟩ := w4
            refine ⟨?_, ?_, ?_, b4⟩
            · show zv_U (s'.1.set c _) + _ ≤ _; rw [f2]; exact b1
            · show _ + zv_T (s'.1.set c _) + _ ≤ _; rw [f1]; exact b2
            · show _ + 2 * zv_T (s'.1.set c _) + _ ≤ _; rw [f1]; exact b3
theorem zv_le_c (s : zv_S) : zv_le s (zv_c s) := ⟨Nat.le_succ _, Nat.le_refl _, Nat.le_refl _, fun _ _ st h => ⟨st, h, id⟩⟩
theorem zv_le_a (s : zv_S) : zv_le s (zv_a s) := ⟨Nat.le_refl _, Nat.le_succ _, Nat.le_refl _, fun _ _ st h => ⟨st, h, id⟩⟩
theorem zv_le_v (s : zv_S) : zv_le s (zv_v s) := ⟨Nat.le_refl _, Nat.le_refl _, Nat.le_succ _, fun _ _ st h => ⟨st, h, id⟩⟩
theorem zv_Q.from {a s : zv_S} {j : Nat} {x : zv_O} (h : zv_le a s) (k : zv_Q s j x) : zv_Q a j x := fun v hv => by
  obtain ⟨k1, k2, k3, k4⟩ := k v hv
  exact ⟨k1, k2, h.trans k3, k4⟩
theorem zv_Q.down {s : zv_S} {i j : Nat} {x : zv_O} (k : zv_Q s j x) (h : i ≤ j) : zv_Q s i x := fun v hv => by
  obtain ⟨k1, k2, k3, k4⟩ := k v hv
  exact ⟨k1, k2, k3, k4.down (by omega) h⟩
theorem zv_K_ok {E : zv_Ev} (hE : zv_Eok E) {b L : List Int32} {A : List Nat} {s : zv_S} {j : Nat} (hS : zv_wS s) (hok : zv_ok L b 1 = true) (hn : zv_n b 1 ≤ 40) (hA : zv_wE s.1.length L A) (hb : zv_b s j j) : zv_Q s j (zv_K E b L A s) := by
  unfold zv_K
  by_cases h : 400 ≤ s.2.1
  · rw [if_pos h]; intro v hv; exact nomatch hv
  · rw [if_neg h]
    refine zv_Q.from (zv_le_c s) (hE b L A (zv_c s) j hS hok hA ?_)
    obtain ⟨b1, b2, b3, b4⟩ := hb
    refine ⟨?_, ?_, ?_, ?_⟩
    · show zv_U s.1 + (zv_n b 1 + j) ≤ 40 * (s.2.1 + 1 + 1); omega
    · show s.2.2.1 + zv_T s.1 + (zv_n b 1 + j) ≤ 40 * (s.2.1 + 1 + 1); omega
    · show s.2.2.2 + 2 * zv_T s.1 + 2 * (zv_n b 1 + j) ≤ 80 * (s.2.1 + 1 + 1); omega
    · show s.2.1 + 1 ≤ 400; omega
theorem zv_Q_val {s : zv_S} {j : Nat} (hS : zv_wS s) (hb : zv_b s (j + 1) (j + 1)) {u : zv_V} (hu : zv_wV s.1.length u) : zv_Q s j (.inr u, zv_v s) := by
  intro v hv
  cases hv
  refine ⟨hS, hu, zv_le_v s, ?_⟩
  obtain ⟨b1, b2, b3, b4⟩ := hb
  exact ⟨b1, b2, by show s.2.2.2 + 1 + 2 * zv_T s.1 + 2 * j ≤ 80 * (s.2.1 + 1); omega, b4⟩
theorem zv_N_ok {D : zv_D} (hD : zv_wD D) {E : zv_Ev} (hE : zv_Eok E) {x : Int32} (hx : 0 ≤ x ∧ x.toNatClampNeg < 6) {s : zv_S} {j : Nat} (hS : zv_wS s) (hb : zv_b s (j + 1) (j + 1)) : zv_Q s j (zv_N D E x s) := by
  unfold zv_N
  cases hd : D x.toNatClampNeg with
  | none => intro v hv; exact nomatch hv
  | some q =>
    obtain ⟨L, b⟩ := q
    obtain ⟨d1, d2, d3, d4, d5⟩ := hD _ _ _ hd
    dsimp only
    by_cases h : L.length = 0
    · rw [if_pos h]
      exact zv_K_ok hE hS d1 d2 ⟨d3, by omega, fun a ha => by cases ha⟩ (hb.down (Nat.le_succ _) (Nat.le_succ _))
    · rw [if_neg h]
      exact zv_Q_val hS hb ⟨fun z => absurd z (by show ¬ (3 : Int32) = 2; decide), fun _ => hx, fun a ha => (by cases ha), Nat.zero_le _⟩
theorem zv_A_ok {D : zv_D} (hD : zv_wD D) {E : zv_Ev} (hE : zv_Eok E) {q L : List Int32} {A : List Nat} {v : zv_V} {s : zv_S} {j : Nat} (hS : zv_wS s) (hq : zv_ok L q 1 = true) (hA : zv_wE s.1.length L A) (hv : zv_wV s.1.length v) (hb : zv_b s (zv_n q 1 + (j + 2)) (zv_n q 1 + (j + 1))) : zv_Q s j (zv_A D E q L A v s) := by
  unfold zv_A
  by_cases hk : v.1 = 3
  · rw [if_pos hk]
    cases hd : D v.2.1.toNatClampNeg with
    | none => intro v hv; exact nomatch hv
    | some y =>
      obtain ⟨L', b⟩ := y
      obtain ⟨d1, d2, d3, d4, d5⟩ := hD _ _ _ hd
      obtain ⟨c1, c2, c3, c4⟩ := zv_cl_ok hS hq hA hb
      dsimp only
      generalize zv_cl q L A s = x at c1 c2 c3 c4 ⊢
      have hmem : ∀ a ∈ v.2.2.2.2 ++ [x.1], a < x.2.1.length := fun a ha => by
        rcases List.mem_append.mp ha with h | h
        · exact Nat.lt_of_lt_of_le (hv.2.2.1 a h) c3.len
        · rw [List.mem_singleton] at h; subst h; exact c2
      have hb' : zv_b (zv_a x.2) (j + 1) (j + 1) := by
        obtain ⟨b1, b2, b3, b4⟩ := c4
        exact ⟨by show zv_U x.2.1 + (j + 1) ≤ 40 * (x.2.2.1 + 1); omega, by show x.2.2.2.1 + 1 + zv_T x.2.1 + (j + 1) ≤ 40 * (x.2.2.1 + 1); omega, b3, b4⟩
      refine zv_Q.from (c3.trans (zv_le_a x.2)) ?_
      by_cases hl : (v.2.2.2.2 ++ [x.1]).length < L'.length
      · rw [if_pos hl]
        exact zv_Q_val (s := zv_a x.2) c1 hb' ⟨fun z => absurd z (by show ¬ (3 : Int32) = 2; decide), fun _ => hv.2.1 hk, hmem, by show (v.2.2.2.2 ++ [x.1]).length ≤ 4; omega⟩
      · rw [if_neg hl]
        exact zv_K_ok (s := zv_a x.2) hE c1 d1 d2 ⟨d3, by omega, hmem⟩ (hb'.down (Nat.le_succ _) (Nat.le_succ _))
  · rw [if_neg hk]; intro v hv; exact nomatch hv
theorem zv_P_ok {r L : List Int32} {A : List Nat} {s : zv_S} {j : Nat} (hS : zv_wS s) (h1 : zv_ok L r 1 = true) (h2 : zv_ok L (zv_sk r 1) 1 = true) (hA : zv_wE s.1.length L A) (hb : zv_b s (zv_n r 1 + (zv_n (zv_sk r 1) 1 + (j + 1))) (zv_n r 1 + (zv_n (zv_sk r 1) 1 + (j + 1)))) : zv_Q s j (zv_P r L A s) := by
  unfold zv_P
  obtain ⟨c1, c2, c3, c4⟩ := zv_cl_ok hS h1 hA hb
  generalize zv_cl r L A s = x at c1 c2 c3 c4 ⊢
  obtain ⟨e1, e2, e3, e4⟩ := zv_cl_ok c1 h2 (hA.up c3.len) c4
  generalize zv_cl (zv_sk r 1) L A x.2 = y at e1 e2 e3 e4 ⊢
  refine zv_Q.from (c3.trans e3) (zv_Q_val e1 e4 ⟨fun _ => ⟨Nat.lt_of_lt_of_le c2 e3.len, e2⟩, fun z => absurd z (by show ¬ (2 : Int32) = 3; decide), fun a ha => (by cases ha), Nat.zero_le _⟩)
theorem zv_ok_cons {L : List Int32} {c : Int32} {r : List Int32} (h : zv_ok L (c :: r) 1 = true) : zv_l L c = true ∧ zv_ok L r (zv_p c) = true := by
  have h : (zv_l L c && zv_ok L r (0 + zv_p c)) = true := h
  rw [Bool.and_eq_true, Nat.zero_add] at h
  exact h
theorem zv_n_cons (c : Int32) (r : List Int32) : zv_n (c :: r) 1 = zv_n r (zv_p c) + 1 := by
  show zv_n r (0 + zv_p c) + 1 = _
  rw [Nat.zero_add]
theorem zv_p_pos {L : List Int32} {c : Int32} (hL : zv_wL L) (h : zv_l L c = true) (h1 : ¬ (48 ≤ c ∧ c ≤ 57)) (h2 : ¬ c = 110) (h3 : ¬ (97 ≤ c ∧ c ≤ 102)) (h4 : ¬ (65 ≤ c ∧ c ≤ 70)) : zv_p c ≠ 0 := by
  unfold zv_l at h
  rw [Bool.or_eq_true, Bool.or_eq_true, Bool.or_eq_true, Bool.or_eq_true] at h
  rcases h with h | h | h | h | h
  · exact of_decide_eq_true h
  · exact absurd (of_decide_eq_true h) h1
  · exact absurd (of_decide_eq_true h) h4
  · exact absurd (of_decide_eq_true h) h2
  · exact absurd (hL c (List.contains_iff_mem.mp h)) h3
theorem zv_p_2 {c : Int32} (h : zv_p c ≠ 0) (h1 : ¬ c = 122) (h2 : ¬ (c = 104 ∨ c = 116)) (h3 : ¬ c = 63) : zv_p c = 2 := by
  unfold zv_p at h ⊢
  rw [if_neg (by rintro (e | e | e) <;> first | exact h2 (Or.inl e) | exact h2 (Or.inr e) | exact h1 e), if_neg h3] at h ⊢
  split
  · rfl
  · rename_i hn
    rw [if_neg hn] at h
    exact absurd rfl h
theorem zv_G_ok {D : zv_D} (hD : zv_wD D) {E : zv_Ev} (hE : zv_Eok E) {c : Int32} {r L : List Int32} {A : List Nat} {v : zv_V} {s : zv_S} {j : Nat} (hp : zv_p c ≠ 0) (hok : zv_ok L (zv_sk r 1) (zv_p c - 1) = true) (hS : zv_wS s) (hA : zv_wE s.1.length L A) (hv : zv_wV s.1.length v) (hb : zv_b s (zv_n (zv_sk r 1) (zv_p c - 1) + (j + 2)) (zv_n (zv_sk r 1) (zv_p c - 1) + (j + 1))) : zv_Q s j (zv_G D E c r L A v s) := by
  unfold zv_G
  by_cases h1 : c = 46
  · rw [if_pos h1]
    have e : zv_p c - 1 = 1 := by subst h1; decide
    rw [e] at hok hb
    exact zv_A_ok hD hE hS hok hA hv hb
  rw [if_neg h1]
  by_cases h2 : c = 122
  · rw [if_pos h2]
    have hb' : zv_b s (j + 1) (j + 1) := hb.down (by omega) (by omega)
    split
    · exact zv_Q_num hS hb' 1
    · split
      · exact zv_Q_num hS hb' 0
      · intro v hv; exact nomatch hv
  rw [if_neg h2]
  by_cases h3 : c = 104 ∨ c = 116
  · rw [if_pos h3]
    split
    · intro v hv; exact nomatch hv
    · split
      · exact zv_F_ok hE hS (hb.down (by omega) (by omega))
      · intro v hv; exact nomatch hv
  rw [if_neg h3]
  by_cases h4 : v.1 = 0
  · rw [if_pos h4]
    by_cases h5 : c = 63
    · rw [if_pos h5]
      have e : zv_p c - 1 = 1 + 1 := by subst h5; decide
      rw [e, zv_ok_add] at hok
      rw [e, zv_n_add] at hb
      split
      · exact hE _ L A s j hS hok.2 hA (hb.down (by omega) (by omega))
      · exact hE _ L A s j hS hok.1 hA (hb.down (by omega) (by omega))
    · rw [if_neg h5]
      have e : zv_p c - 1 = 1 := by rw [zv_p_2 hp h2 h3 h5]
      rw [e] at hok hb
      refine zv_B_ok (hE _ L A s (j + 1) hS hok hA (hb.down (by omega) (by omega))) (fun u s' _ w1 w2 w3 w4 => ?_)
      unfold zv_R
      split
      · split
        · intro v hv; exact nomatch hv
        · exact zv_Q_num w1 (w4.down (by omega) (by omega)) _
      · intro v hv; exact nomatch hv
  · rw [if_neg h4]; intro v hv; exact nomatch hv
theorem zv_name {c : Int32} (h : 65 ≤ c ∧ c ≤ 70) : 0 ≤ c - 65 ∧ (c - 65).toNatClampNeg < 6 := by
  have h1 : (65 : Int) ≤ c.toInt := Int32.le_iff_toInt_le.mp h.1
  have h2 : c.toInt ≤ 70 := Int32.le_iff_toInt_le.mp h.2
  have e : (c - 65).toInt = c.toInt - 65 := by
    rw [Int32.toInt_sub]
    show (c.toInt - 65).bmod 4294967296 = _
    rw [Int.bmod_eq_of_le] <;> omega
  refine ⟨Int32.le_iff_toInt_le.mpr (by rw [e]; show 0 ≤ _; omega), ?_⟩
  show ((c - 65).toInt).toNat < 6
  omega
theorem zv_E_ok {D : zv_D} (hD : zv_wD D) : ∀ n, zv_Eok (zv_E D n) := by
  intro n
  induction n with
  | zero => intro w L A s j _ _ _ _ v hv; exact nomatch hv
  | succ n ih =>
    intro w L A s j hS hok hA hb
    cases w with
    | nil => cases hok
    | cons c r =>
      obtain ⟨hl, hr⟩ := zv_ok_cons hok
      rw [zv_n_cons] at hb
      show zv_Q s j (if 48 ≤ c ∧ c ≤ 57 then _ else _)
      by_cases h1 : 48 ≤ c ∧ c ≤ 57
      · rw [if_pos h1]; exact zv_Q_num hS (hb.down (by omega) (by omega)) _
      rw [if_neg h1]
      by_cases h2 : c = 110
      · rw [if_pos h2]
        intro v hv
        cases hv
        exact ⟨hS, ⟨fun z => absurd z (by show ¬ (1 : Int32) = 2; decide), fun z => absurd z (by show ¬ (1 : Int32) = 3; decide), fun a ha => (by cases ha), Nat.zero_le _⟩, zv_le.refl s, hb.down (by omega) (by omega)⟩
      rw [if_neg h2]
      by_cases h3 : 97 ≤ c ∧ c ≤ 102
      · rw [if_pos h3]; exact zv_F_ok ih hS (hb.down (by omega) (by omega))
      rw [if_neg h3]
      by_cases h4 : 65 ≤ c ∧ c ≤ 70
      · rw [if_pos h4]; exact zv_N_ok hD ih (zv_name h4) hS (hb.down (by omega) (by omega))
      rw [if_neg h4]
      have hp := zv_p_pos hA.1 hl h1 h2 h3 h4
      have e : zv_p c = 1 + (zv_p c - 1) := by omega
      rw [e] at hr hb
      rw [zv_ok_add] at hr
      rw [zv_n_add] at hb
      by_cases h5 : c = 58
      · rw [if_pos h5]
        have e2 : zv_p c - 1 = 1 := by subst h5; decide
        rw [e2] at hr hb
        exact zv_P_ok hS hr.1 hr.2 hA (hb.down (by omega) (by omega))
      · rw [if_neg h5]
        refine zv_B_ok (ih r L A s (zv_n (zv_sk r 1) (zv_p c - 1) + (j + 1)) hS hr.1 hA (hb.down (by omega) (by omega))) (fun u s' _ w1 w2 w3 w4 => ?_)
        exact zv_G_ok hD ih hp hr.2 w1 (hA.up w3.len) w2 (w4.down (by omega) (by omega))
theorem zv_leaf {c : Int32} (h : (48 ≤ c ∧ c ≤ 57) ∨ (97 ≤ c ∧ c ≤ 102) ∨ (65 ≤ c ∧ c ≤ 70) ∨ c = 110) : zv_p c = 0 := by
  have h' : (48 ≤ c.toInt ∧ c.toInt ≤ 57) ∨ (97 ≤ c.toInt ∧ c.toInt ≤ 102) ∨ (65 ≤ c.toInt ∧ c.toInt ≤ 70) ∨ c.toInt = 110 := by
    rcases h with h | h | h | h
    · exact Or.inl ⟨Int32.le_iff_toInt_le.mp h.1, Int32.le_iff_toInt_le.mp h.2⟩
    · exact Or.inr (Or.inl ⟨Int32.le_iff_toInt_le.mp h.1, Int32.le_iff_toInt_le.mp h.2⟩)
    · exact Or.inr (Or.inr (Or.inl ⟨Int32.le_iff_toInt_le.mp h.1, Int32.le_iff_toInt_le.mp h.2⟩))
    · exact Or.inr (Or.inr (Or.inr (by rw [h]; decide)))
  have ne : ∀ x : Int32, ¬ ((48 ≤ x.toInt ∧ x.toInt ≤ 57) ∨ (97 ≤ x.toInt ∧ x.toInt ≤ 102) ∨ (65 ≤ x.toInt ∧ x.toInt ≤ 70) ∨ x.toInt = 110) → c ≠ x := fun x hx e => by subst e; exact hx h'
  unfold zv_p
  rw [if_neg, if_neg, if_neg]
  · rintro (e | e | e | e | e | e | e | e | e) <;> exact ne _ (by decide) e
  · exact ne _ (by decide)
  · rintro (e | e | e) <;> exact ne _ (by decide) e
theorem zv_p_le (c : Int32) : zv_p c ≤ 3 := by
  unfold zv_p
  split
  · decide
  · split
    · decide
    · split <;> decide
theorem zi_ks (x y : Int32) : x + 1 + (y - 1) = x + y := by
  rw [Int32.sub_eq_add_neg, Int32.add_assoc, Int32.add_comm y (-1), ← Int32.add_assoc 1 (-1) y, Int32.add_right_neg, Int32.zero_add]
theorem zv_idx_le {c : Int32} : ∀ {L : List Int32} {i : Nat}, L[i]? = some c → L.idxOf c ≤ i := by
  intro L
  induction L with
  | nil => intro i h; cases h
  | cons x r ih =>
    intro i h
    rw [List.idxOf_cons]
    cases i with
    | zero =>
      cases Option.some.inj h
      rw [beq_self_eq_true]
      exact Nat.le_refl 0
    | succ i =>
      have := ih (i := i) h
      cases hb : (x == c) with
      | true => exact Nat.zero_le _
      | false => exact Nat.succ_le_succ this
/-- a CLOSURE is begun: what holds then -/
theorem zv_F_pre {s : zv_S} {c : Nat} {t : List Int32 × List Int32 × List Nat} {j : Nat} (hS : zv_wS s) (hc : s.1[c]? = some (t, none)) (hb : zv_b s (j + 1) j) : zv_wS (zv_st s (s.1.set c (t, some none))) ∧ zv_ok t.2.1 t.1 1 = true ∧ zv_wE (zv_st s (s.1.set c (t, some none))).1.length t.2.1 t.2.2 ∧ zv_b (zv_st s (s.1.set c (t, some none))) (zv_n t.1 1 + j) (zv_n t.1 1 + j) := by
  have hx : zv_wC s.1.length (t, none) := hS _ (List.mem_of_getElem? hc)
  have h0 : zv_wS (zv_st s (s.1.set c (t, some none))) := zv_wS_set hS ⟨hx.1, hx.2.1, fun v hv => by cases hv⟩
  obtain ⟨e1, e2⟩ := zv_T_set (o := none) hc
  obtain ⟨b1, b2, b3, b4⟩ := hb
  refine ⟨h0, hx.1, hx.2.1.up (by show _ ≤ (s.1.set c _).length; rw [List.length_set]; exact Nat.le_refl _), ?_, ?_, ?_, b4⟩
  · show zv_U (s.1.set c (t, some none)) + (zv_n t.1 1 + j) ≤ 40 * (s.2.1 + 1); omega
  · show s.2.2.1 + zv_T (s.1.set c (t, some none)) + (zv_n t.1 1 + j) ≤ 40 * (s.2.1 + 1); omega
  · show s.2.2.2 + 2 * zv_T (s.1.set c (t, some none)) + 2 * (zv_n t.1 1 + j) ≤ 80 * (s.2.1 + 1); omega
/-- how many there are -/
theorem zv_b_len {s : zv_S} {i k : Nat} (hS : zv_wS s) (hb : zv_b s i k) : s.1.length + i ≤ 16040 ∧ s.2.2.1 + i ≤ 16040 ∧ s.2.2.2 ≤ 32080 ∧ s.2.1 ≤ 400 := by
  have h := zv_U_len hS
  obtain ⟨b1, b2, b3, b4⟩ := hb
  exact ⟨by omega, by omega, by omega, b4⟩
theorem zv_K_pre {s : zv_S} {b : List Int32} {j : Nat} (hn : zv_n b 1 ≤ 40) (h : ¬ 400 ≤ s.2.1) (hb : zv_b s j j) : zv_b (zv_c s) (zv_n b 1 + j) (zv_n b 1 + j) := by
  obtain ⟨b1, b2, b3, b4⟩ := hb
  refine ⟨?_, ?_, ?_, ?_⟩
  · show zv_U s.1 + (zv_n b 1 + j) ≤ 40 * (s.2.1 + 1 + 1); omega
  · show s.2.2.1 + zv_T s.1 + (zv_n b 1 + j) ≤ 40 * (s.2.1 + 1 + 1); omega
  · show s.2.2.2 + 2 * zv_T s.1 + 2 * (zv_n b 1 + j) ≤ 80 * (s.2.1 + 1 + 1); omega
  · show s.2.1 + 1 ≤ 400; omega

/-! TYPING -/
def zt_b (p : Int64) (s : Int32) : Int32 := (p.toUInt64 >>> (s.toInt64.toUInt64 &&& Int64.toUInt64 63)).toInt64.toInt32 &&& 255
def zt_s (n : Nat) : Int32 := nI (8 * n) + (-8)
theorem zt_s0 : zt_s 0 < 0 := by decide +kernel
theorem zt_sp : ∀ n, n < 8 → ¬ zt_s (n + 1) < 0 := by decide +kernel
theorem zt_sn : ∀ n, n < 8 → zt_s (n + 1) + (-8) = zt_s n := by decide +kernel
theorem zt_s8 : zt_s 8 = 56 := by decide +kernel
def zt_bad (c : Int32) : Prop := c ≠ 0 ∧ (c < 33 ∨ 126 < c)
def zt_n (p : Int64) : Nat → Nat
  | 0 => 0
  | n + 1 => zt_n p n + (if zt_b p (zt_s (n + 1)) = 0 then 0 else 1)
def zt_B (p : Int64) (n : Nat) : Prop := ∃ i, i < n ∧ zt_bad (zt_b p (zt_s (i + 1)))
theorem zt_n_le (p : Int64) (n : Nat) : zt_n p n ≤ n := by
  induction n with
  | zero => exact Nat.le_refl 0
  | succ n ih =>
    unfold zt_n
    split <;> omega
theorem zt_B_up {p : Int64} {n : Nat} (h : zt_B p n) : zt_B p (n + 1) := by
  obtain ⟨i, h1, h2⟩ := h
  exact ⟨i, by omega, h2⟩
theorem zt_B_no {p : Int64} {n : Nat} (h : ¬ zt_B p n) (h2 : ¬ zt_bad (zt_b p (zt_s (n + 1)))) : ¬ zt_B p (n + 1) := by
  rintro ⟨i, h3, h4⟩
  by_cases hi : i = n
  · subst hi; exact h2 h4
  · exact h ⟨i, by omega, h4⟩
theorem zt_add (a : Int32) (p : Int64) (n : Nat) : a + (if zt_b p (zt_s (n + 1)) = 0 then 0 else 1) + nI (zt_n p n) = a + nI (zt_n p (n + 1)) := by
  show _ = a + nI (zt_n p n + (if zt_b p (zt_s (n + 1)) = 0 then 0 else 1))
  split
  · rw [Int32.add_zero, Nat.add_zero]
  · rw [← nI_add, Int32.add_assoc, Int32.add_comm 1]
    rfl
theorem zt_byteAt (N : zm_N) (d : Nat) (p : Int64) (s : Int32) (G : zm_H) : zm_J N d 14 0 [(0, .long p), (2, .int s)] [] G (fun z G' => z = .inl (some (.int (zt_b p s))) ∧ G' = G) := by
  refine zm_J_run zm_T 6 (pc' := 8) (lv' := [(0, .long p), (2, .int s)]) (st' := [.int (zt_b p s)]) (G' := G) rfl ?_
  exact zm_J_fin zm_T rfl rfl ⟨rfl, rfl⟩
abbrev zt_lv (p : Int64) (a s : Int32) : zm_L := [(0, .ref 3), (1, .long p), (3, .int a), (4, .int s)]
theorem zt_c48 {N : zm_N} {d : Nat} {p : Int64} {G : zm_H} {Q : zm_O → zm_H → Prop} {a s c : Int32} (k : zm_J N d 13 6 (zt_lv p (a + (if c = 0 then 0 else 1)) (s + (-8))) [] G Q) : zm_J N d 13 48 ((5, .int c) :: zt_lv p a s) [] G Q := by
  refine zm_J_run zm_T 3 (pc' := if c = 0 then 58 else 54) (lv' := (5, .int c) :: zt_lv p a s) (st' := [.int a]) (G' := G) rfl ?_
  by_cases h0 : c = 0
  · rw [if_pos h0] at k ⊢
    refine zm_J_run zm_T 5 (pc' := 6) (lv' := [(4, .int (s + (-8))), (3, .int (a + 0)), (5, .int c), (0, .ref 3), (1, .long p)]) (st' := []) (G' := G) rfl ?_
    exact zm_J_lv (by simp) k
  · rw [if_neg h0] at k ⊢
    refine zm_J_run zm_T 6 (pc' := 6) (lv' := [(4, .int (s + (-8))), (3, .int (a + 1)), (5, .int c), (0, .ref 3), (1, .long p)]) (st' := []) (G' := G) rfl ?_
    exact zm_J_lv (by simp) k
theorem zt_h1 {N : zm_N} {d : Nat} {p : Int64} {G : zm_H} {Q : zm_O → zm_H → Prop} {a s : Int32} (hs : ¬ s < 0) (k : zm_J N d 13 14 (zt_lv p a s) [.int s, .long p] G Q) : zm_J N d 13 6 (zt_lv p a s) [] G Q := by
  refine zm_J_run zm_T 2 (pc' := if s < 0 then 67 else 11) (lv' := zt_lv p a s) (st' := []) (G' := G) rfl ?_
  rw [if_neg hs]
  exact zm_J_run zm_T 2 (pc' := 14) (lv' := zt_lv p a s) (st' := [.int s, .long p]) (G' := G) rfl k
/-- the first loop of the class's add -/
theorem zt_l1 {N : zm_N} {d : Nat} {p : Int64} {G : zm_H} {Q : zm_O → zm_H → Prop} (hr : zm_room G 6 = true) (hc : G.1.length ≤ zm_C) (hsl : G.2 ≤ zm_S) (hd : 7 ≤ d) (hbad : zt_B p 8 → Q (.inr (0, G.1.length)) (zm_new G (.inr (zm_cl.length, [])) 6)) :
    ∀ n, n ≤ 8 → ∀ a, (zt_B p n → zt_B p 8) → (¬ zt_B p n → zm_J N (d + 1) 13 67 (zt_lv p (a + nI (zt_n p n)) (zt_s 0)) [] G Q) → zm_J N (d + 1) 13 6 (zt_lv p a (zt_s n)) [] G Q := by
  intro n
  induction n with
  | zero =>
    intro _ a _ kok
    refine zm_J_run zm_T 2 (pc' := if zt_s 0 < 0 then 67 else 11) (lv' := zt_lv p a (zt_s 0)) (st' := []) (G' := G) rfl ?_
    rw [if_pos zt_s0]
    have h := kok (fun h => by obtain ⟨i, h1, -⟩ := h; omega)
    have e : a + nI (zt_n p 0) = a := by show a + nI 0 = a; rw [nI_0, Int32.add_zero]
    rw [e] at h
    exact h
  | succ n ih =>
    intro hn a hB kok
    refine zt_h1 (zt_sp n (by omega)) ?_
    refine zm_J_S (av := [.long p, .int (zt_s (n + 1))]) (rest := []) (Q1 := fun z G' => z = .inl (some (.int (zt_b p (zt_s (n + 1))))) ∧ G' = G) (zm_T.1 13 14 _ rfl).1 zc_13_14 (Nat.le_of_ble_eq_true rfl) (Nat.le_of_ble_eq_true rfl) hc hsl (zt_byteAt N d p (zt_s (n + 1)) G) ?_ ?_
    rotate_left
    · intro x G' h; exact nomatch h.1
    intro v G' h
    obtain ⟨h1, h2⟩ := h
    subst h2
    cases Sum.inl.inj h1
    have hs := zt_sn n (by omega)
    have k48 : ¬ zt_bad (zt_b p (zt_s (n + 1))) → zm_J N (d + 1) 13 48 ((5, .int (zt_b p (zt_s (n + 1)))) :: zt_lv p a (zt_s (n + 1))) [] G' Q := fun hnb => zt_c48 (by
      rw [hs]
      refine ih (by omega) _ (fun h => hB (zt_B_up h)) (fun h => ?_)
      rw [zt_add]
      exact kok (zt_B_no h hnb))
    show zm_J N (d + 1) 13 17 (zt_lv p a (zt_s (n + 1))) [.int (zt_b p (zt_s (n + 1)))] G' Q
    have hbn : zt_bad (zt_b p (zt_s (n + 1))) → zt_B p 8 := fun h => hB ⟨n, by omega, h⟩
    generalize zt_b p (zt_s (n + 1)) = c at k48 hbn
    refine zm_J_run zm_T 3 (pc' := if c = 0 then 48 else 24) (lv' := (5, .int c) :: zt_lv p a (zt_s (n + 1))) (st' := []) (G' := G') rfl ?_
    by_cases h0 : c = 0
    · rw [if_pos h0]
      exact k48 (fun h => h.1 h0)
    · rw [if_neg h0]
      refine zm_J_run zm_T 3 (pc' := if c < 33 then 38 else 31) (lv' := (5, .int c) :: zt_lv p a (zt_s (n + 1))) (st' := []) (G' := G') rfl ?_
      by_cases h1 : c < 33
      · rw [if_pos h1]
        exact zm_J_throw zx_13_38 (by omega) (Nat.le_of_ble_eq_true rfl) hr (hbad (hbn ⟨h0, Or.inl h1⟩))
      · rw [if_neg h1]
        refine zm_J_run zm_T 3 (pc' := if c ≤ 126 then 48 else 38) (lv' := (5, .int c) :: zt_lv p a (zt_s (n + 1))) (st' := []) (G' := G') rfl ?_
        by_cases h2 : c ≤ 126
        · rw [if_pos h2]
          refine k48 (fun h => ?_)
          rcases h.2 with h | h
          · exact h1 h
          · exact absurd h2 (Int32.not_le.mpr h)
        · rw [if_neg h2]
          exact zm_J_throw zx_13_38 (by omega) (Nat.le_of_ble_eq_true rfl) hr (hbad (hbn ⟨h0, Or.inr (Int32.not_le.mp h2)⟩))
/-- an array's element is written, at a place that is only known to be within -/
theorem zt_between (N : zm_N) (d : Nat) (v lo hi : Int32) (G : zm_H) : zm_J N d 73 0 [(0, .int v), (1, .int lo), (2, .int hi)] [] G (fun z G' => z = .inl (some (.int (if v < lo ∨ hi < v then 0 else 1))) ∧ G' = G) := by
  refine zm_J_run zm_T 3 (pc' := if v < lo then 14 else 5) (lv' := [(0, .int v), (1, .int lo), (2, .int hi)]) (st' := []) (G' := G) rfl ?_
  by_cases h1 : v < lo
  · rw [if_pos h1, if_pos (Or.inl h1)]
    refine zm_J_run zm_T 1 (pc' := 15) (lv' := [(0, .int v), (1, .int lo), (2, .int hi)]) (st' := [.int 0]) (G' := G) rfl ?_
    exact zm_J_fin zm_T rfl rfl ⟨rfl, rfl⟩
  · rw [if_neg h1]
    refine zm_J_run zm_T 3 (pc' := if hi < v then 14 else 10) (lv' := [(0, .int v), (1, .int lo), (2, .int hi)]) (st' := []) (G' := G) rfl ?_
    by_cases h2 : hi < v
    · rw [if_pos h2, if_pos (Or.inr h2)]
      refine zm_J_run zm_T 1 (pc' := 15) (lv' := [(0, .int v), (1, .int lo), (2, .int hi)]) (st' := [.int 0]) (G' := G) rfl ?_
      exact zm_J_fin zm_T rfl rfl ⟨rfl, rfl⟩
    · rw [if_neg h2, if_neg (fun h => h.elim h1 h2)]
      refine zm_J_run zm_T 2 (pc' := 15) (lv' := [(0, .int v), (1, .int lo), (2, .int hi)]) (st' := [.int 1]) (G' := G) rfl ?_
      exact zm_J_fin zm_T rfl rfl ⟨rfl, rfl⟩
abbrev zt_lm (p : Int64) (a fl s : Int32) : zm_L := [(0, .ref 12), (1, .long p), (3, .int a), (4, .int fl), (5, .int s)]
theorem zt_mit {N : zm_N} {d : Nat} {p : Int64} {G : zm_H} {Q : zm_O → zm_H → Prop} {a fl s : Int32} (hs : ¬ s < 0) (hc : G.1.length ≤ zm_C) (hsl : G.2 ≤ zm_S) (k0 : ¬ zt_bad (zt_b p s) → zm_J N (d + 1) 72 9 (zt_lm p (a + (if zt_b p s = 0 then 0 else 1)) fl (s + (-8))) [] G Q) (k1 : zt_bad (zt_b p s) → zm_J N (d + 1) 72 9 (zt_lm p (a + (if zt_b p s = 0 then 0 else 1)) 0 (s + (-8))) [] G Q) : zm_J N (d + 1) 72 9 (zt_lm p a fl s) [] G Q := by
  refine zm_J_run zm_T 2 (pc' := if s < 0 then 59 else 14) (lv' := zt_lm p a fl s) (st' := []) (G' := G) rfl ?_
  rw [if_neg hs]
  refine zm_J_run zm_T 9 (pc' := if zt_b p s = 0 then 33 else 30) (lv' := (6, .int (zt_b p s)) :: zt_lm p a fl s) (st' := []) (G' := G) rfl ?_
  generalize zt_b p s = c at k0 k1 ⊢
  by_cases h0 : c = 0
  · rw [if_pos h0, Int32.add_zero] at k0
    rw [if_pos h0]
    refine zm_J_run zm_T 2 (pc' := if c = 0 then 53 else 38) (lv' := (6, .int c) :: zt_lm p a fl s) (st' := []) (G' := G) rfl ?_
    rw [if_pos h0]
    refine zm_J_run zm_T 2 (pc' := 9) (lv' := [(5, .int (s + (-8))), (6, .int c), (0, .ref 12), (1, .long p), (3, .int a), (4, .int fl)]) (st' := []) (G' := G) rfl ?_
    exact zm_J_lv (by simp) (k0 (fun h => h.1 h0))
  · rw [if_neg h0] at k0 k1 ⊢
    refine zm_J_run zm_T 3 (pc' := if c = 0 then 53 else 38) (lv' := [(3, .int (a + 1)), (6, .int c), (0, .ref 12), (1, .long p), (4, .int fl), (5, .int s)]) (st' := []) (G' := G) rfl ?_
    rw [if_neg h0]
    refine zm_J_run zm_T 3 (pc' := 44) (lv' := [(3, .int (a + 1)), (6, .int c), (0, .ref 12), (1, .long p), (4, .int fl), (5, .int s)]) (st' := [.int 126, .int 33, .int c]) (G' := G) rfl ?_
    refine zm_J_S (av := [.int c, .int 33, .int 126]) (rest := []) (Q1 := fun z G' => z = .inl (some (.int (if c < 33 ∨ 126 < c then 0 else 1))) ∧ G' = G) (zm_T.1 72 44 _ rfl).1 zc_72_44 (Nat.le_of_ble_eq_true rfl) (Nat.le_of_ble_eq_true rfl) hc hsl (zt_between N d c 33 126 G) ?_ ?_
    rotate_left
    · intro x G' h; exact nomatch h.1
    intro v G' h
    obtain ⟨h1, h2⟩ := h
    subst h2
    cases Sum.inl.inj h1
    show zm_J N (d + 1) 72 47 [(3, .int (a + 1)), (6, .int c), (0, .ref 12), (1, .long p), (4, .int fl), (5, .int s)] [.int (if c < 33 ∨ 126 < c then 0 else 1)] G' Q
    by_cases hb : c < 33 ∨ 126 < c
    · rw [if_pos hb]
      refine zm_J_run zm_T 5 (pc' := 9) (lv' := [(5, .int (s + (-8))), (4, .int 0), (3, .int (a + 1)), (6, .int c), (0, .ref 12), (1, .long p)]) (st' := []) (G' := G') rfl ?_
      exact zm_J_lv (by simp) (k1 ⟨h0, hb⟩)
    · rw [if_neg hb]
      refine zm_J_run zm_T 3 (pc' := 9) (lv' := [(5, .int (s + (-8))), (3, .int (a + 1)), (6, .int c), (0, .ref 12), (1, .long p), (4, .int fl)]) (st' := []) (G' := G') rfl ?_
      exact zm_J_lv (by simp) (k0 (fun h => hb h.2))
theorem zt_ml {N : zm_N} {d : Nat} {p : Int64} {G : zm_H} {Q : zm_O → zm_H → Prop} (hc : G.1.length ≤ zm_C) (hsl : G.2 ≤ zm_S) : ∀ n, n ≤ 8 → ∀ a fl, (∀ fl', (zt_B p n → fl' = 0) → (¬ zt_B p n → fl' = fl) → zm_J N (d + 1) 72 59 (zt_lm p (a + nI (zt_n p n)) fl' (zt_s 0)) [] G Q) → zm_J N (d + 1) 72 9 (zt_lm p a fl (zt_s n)) [] G Q := by
  intro n
  induction n with
  | zero =>
    intro _ a fl kk
    refine zm_J_run zm_T 2 (pc' := if zt_s 0 < 0 then 59 else 14) (lv' := zt_lm p a fl (zt_s 0)) (st' := []) (G' := G) rfl ?_
    rw [if_pos zt_s0]
    have h := kk fl (fun h => by obtain ⟨i, h1, -⟩ := h; omega) (fun _ => rfl)
    have e : a + nI (zt_n p 0) = a := by show a + nI 0 = a; rw [nI_0, Int32.add_zero]
    rw [e] at h
    exact h
  | succ n ih =>
    intro hn a fl kk
    have hs := zt_sn n (by omega)
    refine zt_mit (zt_sp n (by omega)) hc hsl (fun hnb => ?_) (fun hb => ?_)
    · rw [hs]
      refine ih (by omega) _ fl (fun fl' h1 h2 => ?_)
      rw [zt_add]
      refine kk fl' (fun h => ?_) (fun h => h2 (fun h3 => h (zt_B_up h3)))
      by_cases h3 : zt_B p n
      · exact h1 h3
      · exact absurd h (zt_B_no h3 hnb)
    · rw [hs]
      refine ih (by omega) _ 0 (fun fl' h1 h2 => ?_)
      rw [zt_add]
      refine kk fl' (fun h => ?_) (fun h => absurd ⟨n, by omega, hb⟩ h)
      by_cases h3 : zt_B p n
      · exact h1 h3
      · exact h2 h3
/-- the characters that are typed -/
def zt_bs (p : Int64) : Nat → List Int32
  | 0 => []
  | n + 1 => if zt_b p (zt_s (n + 1)) = 0 then zt_bs p n else zt_b p (zt_s (n + 1)) :: zt_bs p n
theorem zt_bs_len (p : Int64) (n : Nat) : (zt_bs p n).length = zt_n p n := by
  induction n with
  | zero => rfl
  | succ n ih =>
    unfold zt_bs zt_n
    split
    · exact ih
    · rw [List.length_cons, ih]
section ZTN
variable {N : zm_N} {d : Nat} {p : Int64} {C : Nat → zm_E} {ex : List zm_E} {sl : Nat} {s : Nat → Int32} {a : Nat → Nat → Int32} {Q : zm_O → zm_H → Prop} {t : List Int32}
abbrev zt_ln (p : Int64) (s : Int32) : zm_L := [(0, .ref 12), (1, .long p), (5, .int s)]
theorem zt_h3 {G : zm_H} {s : Int32} (hs : ¬ s < 0) (k : zm_J N d 72 109 ((6, .int (zt_b p s)) :: zt_ln p s) [.int (zt_b p s)] G Q) : zm_J N d 72 91 (zt_ln p s) [] G Q := by
  refine zm_J_run zm_T 2 (pc' := if s < 0 then 142 else 96) (lv' := zt_ln p s) (st' := []) (G' := G) rfl ?_
  rw [if_neg hs]
  exact zm_J_run zm_T 8 (pc' := 109) (lv' := (6, .int (zt_b p s)) :: zt_ln p s) (st' := [.int (zt_b p s)]) (G' := G) rfl k
theorem zt_m2 : ∀ n, n ≤ 8 → ∀ (m : Nat) (g : Nat → Int32), m + zt_n p n ≤ 40 → (∀ g', (∀ j, j < m → g' j = g j) → (∀ j x, (zt_bs p n)[j]? = some x → g' (m + j) = x) → Q (.inl (some (.int (nI (m + zt_n p n))))) (zr_H C ex sl (zu s 8 (nI (m + zt_n p n))) (zu a 0 g'))) → zm_J N d 72 91 (zt_ln p (zt_s n)) [] (zr_H C ex sl (zu s 8 (nI m)) (zu a 0 g)) Q := by
  intro n
  induction n with
  | zero =>
    intro _ m g _ kk
    refine zm_J_run zm_T 2 (pc' := if zt_s 0 < 0 then 142 else 96) (lv' := zt_ln p (zt_s 0)) (st' := []) (G' := (zr_H C ex sl (zu s 8 (nI m)) (zu a 0 g))) rfl ?_
    rw [if_pos zt_s0]
    refine zm_J_run zm_T 2 (pc' := 146) (lv' := zt_ln p (zt_s 0)) (st' := [.int (nI m)]) (G' := (zr_H C ex sl (zu s 8 (nI m)) (zu a 0 g))) rfl ?_
    exact zm_J_fin zm_T rfl rfl (kk g (fun _ _ => rfl) (fun j x hx => by cases hx))
  | succ n ih =>
    intro hn m g hm kk
    refine zt_h3 (zt_sp n (by omega)) ?_
    have hs := zt_sn n (by omega)
    have hz : zt_n p (n + 1) = zt_n p n + (if zt_b p (zt_s (n + 1)) = 0 then 0 else 1) := rfl
    have hb : zt_bs p (n + 1) = if zt_b p (zt_s (n + 1)) = 0 then zt_bs p n else zt_b p (zt_s (n + 1)) :: zt_bs p n := rfl
    rw [hz] at kk hm
    rw [hb] at kk
    generalize zt_b p (zt_s (n + 1)) = c at kk hm
    refine zm_J_run zm_T 1 (pc' := if c = 0 then 112 else 115) (lv' := (6, .int c) :: zt_ln p (zt_s (n + 1))) (st' := []) (G' := (zr_H C ex sl (zu s 8 (nI m)) (zu a 0 g))) rfl ?_
    by_cases h0 : c = 0
    · rw [if_pos h0] at hm
      simp only [if_pos h0, Nat.add_zero] at kk
      rw [if_pos h0]
      refine zm_J_run zm_T 3 (pc' := 91) (lv' := [(5, .int (zt_s (n + 1) + (-8))), (6, .int c), (0, .ref 12), (1, .long p)]) (st' := []) (G' := (zr_H C ex sl (zu s 8 (nI m)) (zu a 0 g))) rfl ?_
      refine zm_J_lv (lv' := zt_ln p (zt_s (n + 1) + (-8))) (by simp) ?_
      rw [hs]
      exact ih (by omega) m g (by omega) kk
    · rw [if_neg h0] at hm
      simp only [if_neg h0] at kk
      rw [if_neg h0]
      refine zm_J_run zm_T 5 (pc' := 125) (lv' := (6, .int c) :: zt_ln p (zt_s (n + 1))) (st' := [.int c, .int (nI m), .ref 13]) (G' := (zr_H C ex sl (zu s 8 (nI m)) (zu a 0 g))) rfl ?_
      refine zg_ast (i := .iastore) (t := 0) (n := 40) (f := g) (m := m) (v' := c) (G' := (zr_H C ex sl (zu s 8 (nI m)) (zu a 0 (upd g m c)))) rfl rfl rfl rfl (by decide) rfl (by omega) (by decide) rfl ?_
      refine zm_J_run zm_T 6 (pc' := 136) (lv' := (6, .int c) :: zt_ln p (zt_s (n + 1))) (st' := []) (G' := (zr_H C ex sl (zu s 8 (nI m + 1)) (zu a 0 (upd g m c)))) rfl ?_
      refine zm_J_run zm_T 2 (pc' := 91) (lv' := [(5, .int (zt_s (n + 1) + (-8))), (6, .int c), (0, .ref 12), (1, .long p)]) (st' := []) (G' := (zr_H C ex sl (zu s 8 (nI m + 1)) (zu a 0 (upd g m c)))) rfl ?_
      refine zm_J_lv (lv' := zt_ln p (zt_s (n + 1) + (-8))) (by simp) ?_
      rw [hs, nI_1]
      refine ih (by omega) (m + 1) (upd g m c) (by omega) (fun g' g1 g2 => ?_)
      have e : m + 1 + zt_n p n = m + (zt_n p n + 1) := by omega
      rw [e]
      refine kk g' (fun j hj => (g1 j (by omega)).trans (zi_updn g _ (by omega))) (fun j x hx => ?_)
      cases j with
      | zero => cases Option.some.inj hx; exact (g1 m (by omega)).trans (zi_upd g m _)
      | succ j => rw [show m + (j + 1) = m + 1 + j by omega]; exact g2 j x hx
/-- type of the reference -/
theorem zr_type (hr : zr_r ex sl) (hd : 1 ≤ d) (ht : zr_tt s a t)
    (k1 : zt_B p 8 → Q (.inl (some (.int 0))) (zr_H C ex sl (zu s 12 1) a))
    (k2 : ¬ zt_B p 8 → 40 < t.length + zt_n p 8 → Q (.inl (some (.int 0))) (zr_H C ex sl (zu s 12 2) a))
    (k0 : ¬ zt_B p 8 → t.length + zt_n p 8 ≤ 40 → ∀ s' a', zr_tt s' a' (t ++ zt_bs p 8) → s' 12 = 0 → (∀ k, k ≠ 8 ∧ k ≠ 12 → s' k = s k) → (∀ k, k ≠ 0 → a' k = a k) → Q (.inl (some (.int (nI (t.length + zt_n p 8))))) (zr_H C ex sl s' a')) : zm_J N d 72 0 [(0, .ref 12), (1, .long p)] [] (zr_H C ex sl s a) Q := by
  obtain ⟨d, rfl⟩ : ∃ e, d = e + 1 := ⟨d - 1, by omega⟩
  obtain ⟨ht1, ht2, ht3⟩ := ht
  have hn8 := zt_n_le p 8
  refine zm_J_run zm_T 6 (pc' := 9) (lv' := [(5, .int 56), (4, .int 1), (3, .int 0), (0, .ref 12), (1, .long p)]) (st' := []) (G' := (zr_H C ex sl s a)) rfl ?_
  refine zm_J_lv (lv' := zt_lm p 0 1 56) (by simp) ?_
  rw [← zt_s8]
  refine zt_ml (zr_c hr) (zr_s hr) 8 (Nat.le_refl 8) 0 1 (fun fl' h1 h2 => ?_)
  rw [Int32.zero_add]
  by_cases hB : zt_B p 8
  · have hf := h1 hB
    subst hf
    refine zm_J_run zm_T 2 (pc' := 62) (lv' := zt_lm p (nI (zt_n p 8)) 0 (zt_s 0)) (st' := [.int 0, .ref 12]) (G' := (zr_H C ex sl s a)) rfl ?_
    refine zg_V (a := 12) (av := [.int 0]) (rest := []) (v := some (.int 1)) (G2 := (zr_H C ex sl (zu s 12 1) a)) (zm_T.1 72 62 _ rfl).1 zc_72_62 rfl (Nat.le_of_ble_eq_true rfl) (Nat.le_of_ble_eq_true rfl) (zr_c hr) (zr_s hr) (zr_bad false) ?_
    show zm_J N _ 72 65 (zt_lm p (nI (zt_n p 8)) 0 (zt_s 0)) [.int 1] (zr_H C ex sl (zu s 12 1) a) _
    refine zm_J_run zm_T 2 (pc' := 69) (lv' := zt_lm p (nI (zt_n p 8)) 0 (zt_s 0)) (st' := [.int 0]) (G' := (zr_H C ex sl (zu s 12 1) a)) rfl ?_
    exact zm_J_fin zm_T rfl rfl (k1 hB)
  · have hf := h2 hB
    subst hf
    refine zm_J_run zm_T 2 (pc' := 62) (lv' := zt_lm p (nI (zt_n p 8)) 1 (zt_s 0)) (st' := [.int 1, .ref 12]) (G' := (zr_H C ex sl s a)) rfl ?_
    refine zg_V (a := 12) (av := [.int 1]) (rest := []) (v := some (.int 0)) (G2 := (zr_H C ex sl (zu s 12 0) a)) (zm_T.1 72 62 _ rfl).1 zc_72_62 rfl (Nat.le_of_ble_eq_true rfl) (Nat.le_of_ble_eq_true rfl) (zr_c hr) (zr_s hr) (zr_bad true) ?_
    show zm_J N _ 72 65 (zt_lm p (nI (zt_n p 8)) 1 (zt_s 0)) [.int 0] (zr_H C ex sl (zu s 12 0) a) _
    refine zm_J_run zm_T 5 (pc' := 76) (lv' := zt_lm p (nI (zt_n p 8)) 1 (zt_s 0)) (st' := [.int (s 8 + nI (zt_n p 8))]) (G' := (zr_H C ex sl (zu s 12 0) a)) rfl ?_
    rw [ht1, nI_add]
    refine zm_J_run zm_T 2 (pc' := if nI (t.length + zt_n p 8) ≤ 40 then 87 else 81) (lv' := zt_lm p (nI (zt_n p 8)) 1 (zt_s 0)) (st' := []) (G' := (zr_H C ex sl (zu s 12 0) a)) rfl ?_
    by_cases h40 : t.length + zt_n p 8 ≤ 40
    · rw [if_pos (show nI (t.length + zt_n p 8) ≤ 40 from nI_le h40 (by decide))]
      refine zm_J_run zm_T 2 (pc' := 91) (lv' := [(5, .int 56), (0, .ref 12), (1, .long p), (3, .int (nI (zt_n p 8))), (4, .int 1)]) (st' := []) (G' := (zr_H C ex sl (zu s 12 0) a)) rfl ?_
      refine zm_J_lv (lv' := zt_ln p 56) (by simp) ?_
      rw [← zt_s8, show zr_H C ex sl (zu s 12 0) a = zr_H C ex sl (zu (zu s 12 0) 8 (nI t.length)) (zu a 0 (a 0)) from by rw [zu_same, ← ht1, show s 8 = zu s 12 0 8 from rfl, zu_same]]
      refine zt_m2 8 (Nat.le_refl 8) t.length (a 0) h40 (fun g' g1 g2 => ?_)
      refine k0 hB h40 _ _ ⟨?_, ?_, fun i x hx => ?_⟩ rfl (fun k hk => by rw [zu_ne _ _ hk.1, zu_ne _ _ hk.2]) (fun k hk => zu_ne _ _ hk)
      · show nI (t.length + zt_n p 8) = nI (t ++ zt_bs p 8).length
        rw [List.length_append, zt_bs_len]
      · rw [List.length_append, zt_bs_len]; exact h40
      · show g' i = x
        by_cases hi : i < t.length
        · rw [List.getElem?_append_left hi] at hx
          exact (g1 i hi).trans (ht3 i x hx)
        · rw [List.getElem?_append_right (by omega)] at hx
          have := g2 (i - t.length) x hx
          rw [Nat.add_sub_cancel' (by omega)] at this
          exact this
    · rw [if_neg (show ¬ nI (t.length + zt_n p 8) ≤ 40 from nI_ge (show 40 < t.length + zt_n p 8 by omega) (by omega))]
      refine zm_J_run zm_T 2 (pc' := 83) (lv' := zt_lm p (nI (zt_n p 8)) 1 (zt_s 0)) (st' := [.int 2, .ref 12]) (G' := (zr_H C ex sl (zu s 12 0) a)) rfl ?_
      refine zg_V (a := 12) (av := [.int 2]) (rest := []) (v := some (.int 0)) (G2 := (zr_H C ex sl (zu (zu s 12 0) 12 2) a)) (zm_T.1 72 83 _ rfl).1 zc_72_83 rfl (Nat.le_of_ble_eq_true rfl) (Nat.le_of_ble_eq_true rfl) (zr_c hr) (zr_s hr) (zr_fail 2) ?_
      rw [zu_1]
      show zm_J N _ 72 86 (zt_lm p (nI (zt_n p 8)) 1 (zt_s 0)) [.int 0] (zr_H C ex sl (zu s 12 2) a) _
      exact zm_J_fin zm_T rfl rfl (k2 hB (by omega))
end ZTN

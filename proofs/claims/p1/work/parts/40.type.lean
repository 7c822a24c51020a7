/-! TYPE ON FRESH OBJECTS -/
/-- the law's heap while type runs: the class's length and text, the reference's thrown, size and text, the law's own cell, what was thrown -/
def zp_H (xs : Nat → Int32) (ln : Int32) (f : Nat → Int32) (th sz : Int32) (g : Nat → Int32) (o : Nat → Int64) (ex : List zm_E) (sl : Nat) : zm_H := ([.inl (0, 3, .inl xs), .inr (99, []), .inr (0, [.ref 3, .ref 6, .ref 11, .null, .int 0, .int 0, .int 0, .int 0, .int 0]), .inr (1, [.int ln, .int (-1), .ref 4, .ref 5, .int 0, .int 0, .int 0, .int 0]), .inl (1, 40, .inl f), .inl (1, 4, .inl fun _ => 0), .inr (2, [.ref 7, .ref 8, .ref 9, .ref 10, .int 0, .int 0, .int 0]), .inr (3, [.int 1, .int 0, .null, .null, .null]), .inr (4, [.ref 1, .int 0, .int 0]), .inr (4, [.ref 1, .int 0, .int 0]), .inr (4, [.ref 1, .int 0, .int 0]), .inl (4, 6, .inr (.inr (.inr (.inr fun _ => none)))), .inr (5, [.ref 13, .ref 14, .ref 15, .ref 16, .ref 17, .ref 18, .ref 19, .ref 20, .int sz, .int (-1), .int 0, .int 0, .int th, .ref 21, .ref 22, .ref 23, .ref 24, .ref 25, .ref 26, .ref 27, .ref 28, .ref 29, .ref 30, .int 0, .int 0, .int 0, .ref 31, .ref 32, .ref 33, .ref 34, .ref 35, .int 0, .int 0, .int 0, .int 0, .int 0, .int 0, .int 0, .int 0, .int 0, .int 0, .int 0, .int 0, .int 0]), .inl (0, 40, .inl g), .inl (0, 21200, .inl fun _ => 0), .inl (0, 240, .inl fun _ => 0), .inl (0, 6, .inl fun _ => 0), .inl (0, 24, .inl fun _ => 0), .inl (0, 6, .inl fun _ => 0), .inl (0, 16, .inl fun _ => 0), .inl (3, 6, .inl fun _ => 0), .inl (0, 16400, .inl fun _ => 0), .inl (0, 16400, .inl fun _ => 0), .inl (0, 16400, .inl fun _ => 0), .inl (0, 16400, .inl fun _ => 0), .inl (0, 16400, .inl fun _ => 0), .inl (0, 16400, .inl fun _ => 0), .inl (0, 1700, .inl fun _ => 0), .inl (0, 1700, .inl fun _ => 0), .inl (0, 16400, .inl fun _ => 0), .inl (0, 16400, .inl fun _ => 0), .inl (0, 64, .inl fun _ => 0), .inl (0, 64, .inl fun _ => 0), .inl (0, 64, .inl fun _ => 0), .inl (0, 64, .inl fun _ => 0), .inl (0, 64, .inl fun _ => 0), .inl (2, 1, .inr (.inl o))] ++ ex, sl)
theorem zp_len {xs : Nat → Int32} {ln : Int32} {f : Nat → Int32} {th sz : Int32} {g : Nat → Int32} {o : Nat → Int64} {ex : List zm_E} {sl : Nat} (h : ex.length ≤ 2) : (zp_H xs ln f th sz g o ex sl).1.length + 1 ≤ zm_C := by
  show (_ ++ ex).length + 1 ≤ 600004
  rw [List.length_append]
  simp only [List.length_cons, List.length_nil]
  omega
def zt_b (p : Int64) (s : Int32) : Int32 := (p.toUInt64 >>> (s.toInt64.toUInt64 &&& Int64.toUInt64 63)).toInt64.toInt32 &&& 255
def zt_s (n : Nat) : Int32 := nI (8 * n) + (-8)
theorem zt_s0 : zt_s 0 < 0 := by decide +kernel
theorem zt_sp : ∀ n, n < 8 → ¬ zt_s (n + 1) < 0 := by decide +kernel
theorem zt_sn : ∀ n, n < 8 → zt_s (n + 1) + (-8) = zt_s n := by decide +kernel
theorem zt_s8 : zt_s 8 = 56 := by decide +kernel
def zt_bad (c : Int32) : Prop := c ≠ 0 ∧ (c < 33 ∨ 126 < c)
def zt_n (p : Int64) : Nat → Nat
  | 0 => 0
  | n + 1 => zt_n p n + (if zt_b p (zt_s (n + 1)) = 0 then 0 else 1)
def zt_B (p : Int64) (n : Nat) : Prop := ∃ i, i < n ∧ zt_bad (zt_b p (zt_s (i + 1)))
theorem zt_n_le (p : Int64) (n : Nat) : zt_n p n ≤ n := by
  induction n with
  | zero => exact Nat.le_refl 0
  | succ n ih =>
    unfold zt_n
    split <;> omega
theorem zt_B_up {p : Int64} {n : Nat} (h : zt_B p n) : zt_B p (n + 1) := by
  obtain ⟨i, h1, h2⟩ := h
  exact ⟨i, by omega, h2⟩
theorem zt_B_no {p : Int64} {n : Nat} (h : ¬ zt_B p n) (h2 : ¬ zt_bad (zt_b p (zt_s (n + 1)))) : ¬ zt_B p (n + 1) := by
  rintro ⟨i, h3, h4⟩
  by_cases hi : i = n
  · subst hi; exact h2 h4
  · exact h ⟨i, by omega, h4⟩
theorem zt_add (a : Int32) (p : Int64) (n : Nat) : a + (if zt_b p (zt_s (n + 1)) = 0 then 0 else 1) + nI (zt_n p n) = a + nI (zt_n p (n + 1)) := by
  show _ = a + nI (zt_n p n + (if zt_b p (zt_s (n + 1)) = 0 then 0 else 1))
  split
  · rw [Int32.add_zero, Nat.add_zero]
  · rw [← nI_add, Int32.add_assoc, Int32.add_comm 1]
    rfl
theorem zt_byteAt (N : zm_N) (d : Nat) (p : Int64) (s : Int32) (G : zm_H) : zm_J N d 14 0 [(0, .long p), (2, .int s)] [] G (fun z G' => z = .inl (some (.int (zt_b p s))) ∧ G' = G) := by
  refine zm_J_run zm_T 6 (pc' := 8) (lv' := [(0, .long p), (2, .int s)]) (st' := [.int (zt_b p s)]) (G' := G) rfl ?_
  exact zm_J_fin zm_T rfl rfl ⟨rfl, rfl⟩
abbrev zt_lv (p : Int64) (a s : Int32) : zm_L := [(0, .ref 3), (1, .long p), (3, .int a), (4, .int s)]
theorem zt_c48 {N : zm_N} {d : Nat} {p : Int64} {G : zm_H} {Q : zm_O → zm_H → Prop} {a s c : Int32} (k : zm_J N d 13 6 (zt_lv p (a + (if c = 0 then 0 else 1)) (s + (-8))) [] G Q) : zm_J N d 13 48 ((5, .int c) :: zt_lv p a s) [] G Q := by
  refine zm_J_run zm_T 3 (pc' := if c = 0 then 58 else 54) (lv' := (5, .int c) :: zt_lv p a s) (st' := [.int a]) (G' := G) rfl ?_
  by_cases h0 : c = 0
  · rw [if_pos h0] at k ⊢
    refine zm_J_run zm_T 5 (pc' := 6) (lv' := [(4, .int (s + (-8))), (3, .int (a + 0)), (5, .int c), (0, .ref 3), (1, .long p)]) (st' := []) (G' := G) rfl ?_
    exact zm_J_lv (by simp) k
  · rw [if_neg h0] at k ⊢
    refine zm_J_run zm_T 6 (pc' := 6) (lv' := [(4, .int (s + (-8))), (3, .int (a + 1)), (5, .int c), (0, .ref 3), (1, .long p)]) (st' := []) (G' := G) rfl ?_
    exact zm_J_lv (by simp) k
theorem zt_h1 {N : zm_N} {d : Nat} {p : Int64} {G : zm_H} {Q : zm_O → zm_H → Prop} {a s : Int32} (hs : ¬ s < 0) (k : zm_J N d 13 14 (zt_lv p a s) [.int s, .long p] G Q) : zm_J N d 13 6 (zt_lv p a s) [] G Q := by
  refine zm_J_run zm_T 2 (pc' := if s < 0 then 67 else 11) (lv' := zt_lv p a s) (st' := []) (G' := G) rfl ?_
  rw [if_neg hs]
  exact zm_J_run zm_T 2 (pc' := 14) (lv' := zt_lv p a s) (st' := [.int s, .long p]) (G' := G) rfl k
/-- the first loop of the class's add -/
theorem zt_l1 {N : zm_N} {d : Nat} {p : Int64} {G : zm_H} {Q : zm_O → zm_H → Prop} (hr : zm_room G 6 = true) (hc : G.1.length ≤ zm_C) (hsl : G.2 ≤ zm_S) (hd : 7 ≤ d) (hbad : zt_B p 8 → Q (.inr (0, G.1.length)) (zm_new G (.inr (zm_cl.length, [])) 6)) :
    ∀ n, n ≤ 8 → ∀ a, (zt_B p n → zt_B p 8) → (¬ zt_B p n → zm_J N (d + 1) 13 67 (zt_lv p (a + nI (zt_n p n)) (zt_s 0)) [] G Q) → zm_J N (d + 1) 13 6 (zt_lv p a (zt_s n)) [] G Q := by
  intro n
  induction n with
  | zero =>
    intro _ a _ kok
    refine zm_J_run zm_T 2 (pc' := if zt_s 0 < 0 then 67 else 11) (lv' := zt_lv p a (zt_s 0)) (st' := []) (G' := G) rfl ?_
    rw [if_pos zt_s0]
    have h := kok (fun h => by obtain ⟨i, h1, -⟩ := h; omega)
    have e : a + nI (zt_n p 0) = a := by show a + nI 0 = a; rw [nI_0, Int32.add_zero]
    rw [e] at h
    exact h
  | succ n ih =>
    intro hn a hB kok
    refine zt_h1 (zt_sp n (by omega)) ?_
    refine zm_J_S (av := [.long p, .int (zt_s (n + 1))]) (rest := []) (Q1 := fun z G' => z = .inl (some (.int (zt_b p (zt_s (n + 1))))) ∧ G' = G) (zm_T.1 13 14 _ rfl).1 zc_13_14 (Nat.le_of_ble_eq_true rfl) (Nat.le_of_ble_eq_true rfl) hc hsl (zt_byteAt N d p (zt_s (n + 1)) G) ?_ ?_
    rotate_left
    · intro x G' h; exact nomatch h.1
    intro v G' h
    obtain ⟨h1, h2⟩ := h
    subst h2
    cases Sum.inl.inj h1
    have hs := zt_sn n (by omega)
    have k48 : ¬ zt_bad (zt_b p (zt_s (n + 1))) → zm_J N (d + 1) 13 48 ((5, .int (zt_b p (zt_s (n + 1)))) :: zt_lv p a (zt_s (n + 1))) [] G' Q := fun hnb => zt_c48 (by
      rw [hs]
      refine ih (by omega) _ (fun h => hB (zt_B_up h)) (fun h => ?_)
      rw [zt_add]
      exact kok (zt_B_no h hnb))
    show zm_J N (d + 1) 13 17 (zt_lv p a (zt_s (n + 1))) [.int (zt_b p (zt_s (n + 1)))] G' Q
    have hbn : zt_bad (zt_b p (zt_s (n + 1))) → zt_B p 8 := fun h => hB ⟨n, by omega, h⟩
    generalize zt_b p (zt_s (n + 1)) = c at k48 hbn
    refine zm_J_run zm_T 3 (pc' := if c = 0 then 48 else 24) (lv' := (5, .int c) :: zt_lv p a (zt_s (n + 1))) (st' := []) (G' := G') rfl ?_
    by_cases h0 : c = 0
    · rw [if_pos h0]
      exact k48 (fun h => h.1 h0)
    · rw [if_neg h0]
      refine zm_J_run zm_T 3 (pc' := if c < 33 then 38 else 31) (lv' := (5, .int c) :: zt_lv p a (zt_s (n + 1))) (st' := []) (G' := G') rfl ?_
      by_cases h1 : c < 33
      · rw [if_pos h1]
        exact zm_J_throw zx_13_38 (by omega) (Nat.le_of_ble_eq_true rfl) hr (hbad (hbn ⟨h0, Or.inl h1⟩))
      · rw [if_neg h1]
        refine zm_J_run zm_T 3 (pc' := if c ≤ 126 then 48 else 38) (lv' := (5, .int c) :: zt_lv p a (zt_s (n + 1))) (st' := []) (G' := G') rfl ?_
        by_cases h2 : c ≤ 126
        · rw [if_pos h2]
          refine k48 (fun h => ?_)
          rcases h.2 with h | h
          · exact h1 h
          · exact absurd h2 (Int32.not_le.mpr h)
        · rw [if_neg h2]
          exact zm_J_throw zx_13_38 (by omega) (Nat.le_of_ble_eq_true rfl) hr (hbad (hbn ⟨h0, Or.inr (Int32.not_le.mp h2)⟩))
/-- an array's element is written, at a place that is only known to be within -/
theorem zm_J_ast {N : zm_N} {d mi pc a t qa qb : Nat} {qn : Int} {i : Instr} {lv : zm_L} {r : List Value} {G : zm_H} {Q : zm_O → zm_H → Prop} {x x' : vp_A} {ty : FieldType} {v v' : Value} {j : Int32} (hq : zm_cd mi pc = some (i, qa, qb, qn)) (ha : G.1[a]? = some (.inl (t, x))) (ht : zm_aty[t]? = some ty) (hv : zm_astv i ty v = some v') (hx : zm_aset x j.toNatClampNeg v' = some x') (hno : zm_no ≤ a) (hj : 0 ≤ j ∧ j.toNatClampNeg < x.1) (hs : zm_sto t v G = true)
    (k : zm_J N d mi (pc + zm_len i) lv r (zm_set G a (.inl (t, x'))) Q) : zm_J N d mi pc lv (v :: .int j :: .ref a :: r) G Q := by
  refine zm_hs_ok zm_T (zm_T.1 mi pc _ hq) (st' := r) (G' := zm_set G a (.inl (t, x'))) ?_ k
  unfold zm_hs
  simp only [ha, ht, hv, hx]
  rw [if_pos ⟨hno, hj.1, hj.2, hs⟩]
theorem zt_in {m : Nat} (h : m < 40) : (0 : Int32) ≤ nI m ∧ (nI m).toNatClampNeg < 40 := ⟨nI_pos' (by omega), by rw [nI_clamp (by omega)]; exact h⟩

section ZTY
variable {N : zm_N} {d : Nat} {p : Int64} {xs : Nat → Int32} {th sz : Int32} {g : Nat → Int32} {o : Nat → Int64} {sl : Nat} {Q : zm_O → zm_H → Prop}
abbrev zt_lw (p : Int64) (s : Int32) : zm_L := [(0, .ref 3), (1, .long p), (4, .int s)]
theorem zt_h2 {G : zm_H} {s : Int32} (hs : ¬ s < 0) (k : zm_J N d 13 100 (zt_lw p s) [.int s, .long p] G Q) : zm_J N d 13 92 (zt_lw p s) [] G Q := by
  refine zm_J_run zm_T 2 (pc' := if s < 0 then 138 else 97) (lv' := zt_lw p s) (st' := []) (G' := G) rfl ?_
  rw [if_neg hs]
  exact zm_J_run zm_T 2 (pc' := 100) (lv' := zt_lw p s) (st' := [.int s, .long p]) (G' := G) rfl k
/-- the second loop of the class's add -/
theorem zt_l2 (hsl : sl ≤ 200000) : ∀ n, n ≤ 8 → ∀ (m : Nat) (f : Nat → Int32), m + n ≤ 40 → (∀ f', Q (.inl (some (.int (nI (m + zt_n p n))))) (zp_H xs (nI (m + zt_n p n)) f' th sz g o [] sl)) → zm_J N (d + 1) 13 92 (zt_lw p (zt_s n)) [] (zp_H xs (nI m) f th sz g o [] sl) Q := by
  intro n
  induction n with
  | zero =>
    intro _ m f _ kk
    refine zm_J_run zm_T 2 (pc' := if zt_s 0 < 0 then 138 else 97) (lv' := zt_lw p (zt_s 0)) (st' := []) (G' := zp_H xs (nI m) f th sz g o [] sl) rfl ?_
    rw [if_pos zt_s0]
    refine zm_J_run zm_T 2 (pc' := 142) (lv' := zt_lw p (zt_s 0)) (st' := [.int (nI m)]) (G' := zp_H xs (nI m) f th sz g o [] sl) rfl ?_
    exact zm_J_fin zm_T rfl rfl (kk f)
  | succ n ih =>
    intro hn m f hm kk
    refine zt_h2 (zt_sp n (by omega)) ?_
    refine zm_J_S (av := [.long p, .int (zt_s (n + 1))]) (rest := []) (Q1 := fun z G' => z = .inl (some (.int (zt_b p (zt_s (n + 1))))) ∧ G' = zp_H xs (nI m) f th sz g o [] sl) (zm_T.1 13 100 _ rfl).1 zc_13_100 (Nat.le_of_ble_eq_true rfl) (Nat.le_of_ble_eq_true rfl) (Nat.le_of_succ_le (zp_len (by decide))) (by show sl ≤ 7302232; omega) (zt_byteAt N d p (zt_s (n + 1)) _) ?_ ?_
    rotate_left
    · intro x G' h; exact nomatch h.1
    intro v G' h
    obtain ⟨h1, h2⟩ := h
    subst h2
    cases Sum.inl.inj h1
    have hs := zt_sn n (by omega)
    have hz : m + zt_n p (n + 1) = m + (zt_n p n + (if zt_b p (zt_s (n + 1)) = 0 then 0 else 1)) := rfl
    rw [hz] at kk
    show zm_J N (d + 1) 13 103 (zt_lw p (zt_s (n + 1))) [.int (zt_b p (zt_s (n + 1)))] (zp_H xs (nI m) f th sz g o [] sl) Q
    generalize zt_b p (zt_s (n + 1)) = c at kk
    refine zm_J_run zm_T 3 (pc' := if c = 0 then 132 else 110) (lv' := (5, .int c) :: zt_lw p (zt_s (n + 1))) (st' := []) (G' := zp_H xs (nI m) f th sz g o [] sl) rfl ?_
    by_cases h0 : c = 0
    · rw [if_pos h0] at kk ⊢
      refine zm_J_run zm_T 2 (pc' := 92) (lv' := [(4, .int (zt_s (n + 1) + (-8))), (5, .int c), (0, .ref 3), (1, .long p)]) (st' := []) (G' := zp_H xs (nI m) f th sz g o [] sl) rfl ?_
      refine zm_J_lv (lv' := zt_lw p (zt_s (n + 1) + (-8))) (by simp) ?_
      rw [hs]
      exact ih (by omega) m f (by omega) kk
    · rw [if_neg h0] at kk ⊢
      refine zm_J_run zm_T 6 (pc' := 121) (lv' := (5, .int c) :: zt_lw p (zt_s (n + 1))) (st' := [.int (c.toUInt32 % 65536).toInt32, .int (nI m), .ref 4]) (G' := zp_H xs (nI m) f th sz g o [] sl) rfl ?_
      refine zm_J_ast (i := .castore) (t := 1) (x := (40, .inl f)) rfl rfl rfl rfl rfl (by decide) (zt_in (by omega)) rfl ?_
      refine zm_J_run zm_T 6 (pc' := 132) (lv' := (5, .int c) :: zt_lw p (zt_s (n + 1))) (st' := []) (G' := zp_H xs (nI m + 1) (upd f (nI m).toNatClampNeg (c.toUInt32 % 65536).toInt32.toUInt32.toUInt16.toUInt32.toInt32) th sz g o [] sl) rfl ?_
      refine zm_J_run zm_T 2 (pc' := 92) (lv' := [(4, .int (zt_s (n + 1) + (-8))), (5, .int c), (0, .ref 3), (1, .long p)]) (st' := []) (G' := zp_H xs (nI m + 1) (upd f (nI m).toNatClampNeg (c.toUInt32 % 65536).toInt32.toUInt32.toUInt16.toUInt32.toInt32) th sz g o [] sl) rfl ?_
      refine zm_J_lv (lv' := zt_lw p (zt_s (n + 1) + (-8))) (by simp) ?_
      rw [hs, nI_1]
      refine ih (by omega) (m + 1) _ (by omega) (fun f' => ?_)
      have e : m + 1 + zt_n p n = m + (zt_n p n + 1) := by omega
      rw [e]
      exact kk f'
/-- the class's type on a fresh object -/
theorem zt_class (hsl : sl ≤ 200000) (hd : 9 ≤ d) (f : Nat → Int32) (hbad : zt_B p 8 → Q (.inr (0, 37)) (zp_H xs 0 f th sz g o [.inr (10, [])] (sl + 6))) (hok : ¬ zt_B p 8 → ∀ f', Q (.inl (some (.int (nI (zt_n p 8))))) (zp_H xs (nI (zt_n p 8)) f' th sz g o [] sl)) : zm_J N d 12 0 [(0, .ref 2), (1, .long p)] [] (zp_H xs 0 f th sz g o [] sl) Q := by
  obtain ⟨d, rfl⟩ : ∃ e, d = e + 2 := ⟨d - 2, by omega⟩
  refine zm_J_run zm_T 3 (pc' := 5) (lv' := [(0, .ref 2), (1, .long p)]) (st' := [.long p, .ref 3]) (G' := zp_H xs 0 f th sz g o [] sl) rfl ?_
  have hroom : zm_room (zp_H xs 0 f th sz g o [] sl) 6 = true := by
    unfold zm_room
    rw [Bool.and_eq_true, decide_eq_true_eq, decide_eq_true_eq]
    exact ⟨zp_len (by decide), by show sl + 6 ≤ 7302232; omega⟩
  refine zm_J_V (a := 3) (av := [.long p]) (rest := []) (Q1 := fun z G' => (zt_B p 8 ∧ z = .inr (0, 37) ∧ G' = zp_H xs 0 f th sz g o [.inr (10, [])] (sl + 6)) ∨ (¬ zt_B p 8 ∧ ∃ f', z = .inl (some (.int (nI (zt_n p 8)))) ∧ G' = zp_H xs (nI (zt_n p 8)) f' th sz g o [] sl)) (zm_T.1 12 5 _ rfl).1 zc_12_5 rfl (Nat.le_of_ble_eq_true rfl) (Nat.le_of_ble_eq_true rfl) (Nat.le_of_succ_le (zp_len (by decide))) (by show sl ≤ 7302232; omega) ?_ ?_ ?_
  · show zm_J N (d + 1) 13 0 [(0, .ref 3), (1, .long p)] [] (zp_H xs 0 f th sz g o [] sl) _
    refine zm_J_run zm_T 4 (pc' := 6) (lv' := [(4, .int 56), (3, .int 0), (0, .ref 3), (1, .long p)]) (st' := []) (G' := zp_H xs 0 f th sz g o [] sl) rfl ?_
    refine zm_J_lv (lv' := zt_lv p 0 56) (by simp) ?_
    rw [← zt_s8]
    refine zt_l1 hroom (Nat.le_of_succ_le (zp_len (by decide))) (by show sl ≤ 7302232; omega) (by omega) (fun h => Or.inl ⟨h, rfl, rfl⟩) 8 (Nat.le_refl 8) 0 id (fun hnb => ?_)
    have hm := zt_n_le p 8
    refine zm_J_run zm_T 6 (pc' := if 0 + (0 + nI (zt_n p 8)) ≤ 40 then 88 else 78) (lv' := zt_lv p (0 + nI (zt_n p 8)) (zt_s 0)) (st' := []) (G' := zp_H xs 0 f th sz g o [] sl) rfl ?_
    rw [if_pos (by rw [Int32.zero_add, Int32.zero_add]; exact nI_le (b := 40) (by omega) (by decide))]
    refine zm_J_run zm_T 2 (pc' := 92) (lv' := [(4, .int 56), (0, .ref 3), (1, .long p), (3, .int (0 + nI (zt_n p 8)))]) (st' := []) (G' := zp_H xs 0 f th sz g o [] sl) rfl ?_
    refine zm_J_lv (lv' := zt_lw p 56) (by simp) ?_
    rw [← zt_s8]
    refine zt_l2 hsl 8 (Nat.le_refl 8) 0 f (by omega) (fun f' => ?_)
    rw [Nat.zero_add]
    exact Or.inr ⟨hnb, f', rfl, rfl⟩
  · intro v G' h
    rcases h with ⟨_, h, _⟩ | ⟨hnb, f', h1, rfl⟩
    · cases h
    cases Sum.inl.inj h1
    exact zm_J_fin zm_T rfl rfl (hok hnb f')
  · intro x G' h
    rcases h with ⟨hb, h1, rfl⟩ | ⟨_, _, h, _⟩
    · cases Sum.inr.inj h1
      exact Or.inl ⟨zm_out0 rfl, hbad hb⟩
    · cases h
end ZTY

/-! TYPE OF THE REFERENCE, AND THE LAW's FIRST CASE -/
theorem zt_between (N : zm_N) (d : Nat) (v lo hi : Int32) (G : zm_H) : zm_J N d 73 0 [(0, .int v), (1, .int lo), (2, .int hi)] [] G (fun z G' => z = .inl (some (.int (if v < lo ∨ hi < v then 0 else 1))) ∧ G' = G) := by
  refine zm_J_run zm_T 3 (pc' := if v < lo then 14 else 5) (lv' := [(0, .int v), (1, .int lo), (2, .int hi)]) (st' := []) (G' := G) rfl ?_
  by_cases h1 : v < lo
  · rw [if_pos h1, if_pos (Or.inl h1)]
    refine zm_J_run zm_T 1 (pc' := 15) (lv' := [(0, .int v), (1, .int lo), (2, .int hi)]) (st' := [.int 0]) (G' := G) rfl ?_
    exact zm_J_fin zm_T rfl rfl ⟨rfl, rfl⟩
  · rw [if_neg h1]
    refine zm_J_run zm_T 3 (pc' := if hi < v then 14 else 10) (lv' := [(0, .int v), (1, .int lo), (2, .int hi)]) (st' := []) (G' := G) rfl ?_
    by_cases h2 : hi < v
    · rw [if_pos h2, if_pos (Or.inr h2)]
      refine zm_J_run zm_T 1 (pc' := 15) (lv' := [(0, .int v), (1, .int lo), (2, .int hi)]) (st' := [.int 0]) (G' := G) rfl ?_
      exact zm_J_fin zm_T rfl rfl ⟨rfl, rfl⟩
    · rw [if_neg h2, if_neg (fun h => h.elim h1 h2)]
      refine zm_J_run zm_T 2 (pc' := 15) (lv' := [(0, .int v), (1, .int lo), (2, .int hi)]) (st' := [.int 1]) (G' := G) rfl ?_
      exact zm_J_fin zm_T rfl rfl ⟨rfl, rfl⟩
abbrev zt_lm (p : Int64) (a fl s : Int32) : zm_L := [(0, .ref 12), (1, .long p), (3, .int a), (4, .int fl), (5, .int s)]
theorem zt_mit {N : zm_N} {d : Nat} {p : Int64} {G : zm_H} {Q : zm_O → zm_H → Prop} {a fl s : Int32} (hs : ¬ s < 0) (hc : G.1.length ≤ zm_C) (hsl : G.2 ≤ zm_S) (k0 : ¬ zt_bad (zt_b p s) → zm_J N (d + 1) 72 9 (zt_lm p (a + (if zt_b p s = 0 then 0 else 1)) fl (s + (-8))) [] G Q) (k1 : zt_bad (zt_b p s) → zm_J N (d + 1) 72 9 (zt_lm p (a + (if zt_b p s = 0 then 0 else 1)) 0 (s + (-8))) [] G Q) : zm_J N (d + 1) 72 9 (zt_lm p a fl s) [] G Q := by
  refine zm_J_run zm_T 2 (pc' := if s < 0 then 59 else 14) (lv' := zt_lm p a fl s) (st' := []) (G' := G) rfl ?_
  rw [if_neg hs]
  refine zm_J_run zm_T 9 (pc' := if zt_b p s = 0 then 33 else 30) (lv' := (6, .int (zt_b p s)) :: zt_lm p a fl s) (st' := []) (G' := G) rfl ?_
  generalize zt_b p s = c at k0 k1 ⊢
  by_cases h0 : c = 0
  · rw [if_pos h0, Int32.add_zero] at k0
    rw [if_pos h0]
    refine zm_J_run zm_T 2 (pc' := if c = 0 then 53 else 38) (lv' := (6, .int c) :: zt_lm p a fl s) (st' := []) (G' := G) rfl ?_
    rw [if_pos h0]
    refine zm_J_run zm_T 2 (pc' := 9) (lv' := [(5, .int (s + (-8))), (6, .int c), (0, .ref 12), (1, .long p), (3, .int a), (4, .int fl)]) (st' := []) (G' := G) rfl ?_
    exact zm_J_lv (by simp) (k0 (fun h => h.1 h0))
  · rw [if_neg h0] at k0 k1 ⊢
    refine zm_J_run zm_T 3 (pc' := if c = 0 then 53 else 38) (lv' := [(3, .int (a + 1)), (6, .int c), (0, .ref 12), (1, .long p), (4, .int fl), (5, .int s)]) (st' := []) (G' := G) rfl ?_
    rw [if_neg h0]
    refine zm_J_run zm_T 3 (pc' := 44) (lv' := [(3, .int (a + 1)), (6, .int c), (0, .ref 12), (1, .long p), (4, .int fl), (5, .int s)]) (st' := [.int 126, .int 33, .int c]) (G' := G) rfl ?_
    refine zm_J_S (av := [.int c, .int 33, .int 126]) (rest := []) (Q1 := fun z G' => z = .inl (some (.int (if c < 33 ∨ 126 < c then 0 else 1))) ∧ G' = G) (zm_T.1 72 44 _ rfl).1 zc_72_44 (Nat.le_of_ble_eq_true rfl) (Nat.le_of_ble_eq_true rfl) hc hsl (zt_between N d c 33 126 G) ?_ ?_
    rotate_left
    · intro x G' h; exact nomatch h.1
    intro v G' h
    obtain ⟨h1, h2⟩ := h
    subst h2
    cases Sum.inl.inj h1
    show zm_J N (d + 1) 72 47 [(3, .int (a + 1)), (6, .int c), (0, .ref 12), (1, .long p), (4, .int fl), (5, .int s)] [.int (if c < 33 ∨ 126 < c then 0 else 1)] G' Q
    by_cases hb : c < 33 ∨ 126 < c
    · rw [if_pos hb]
      refine zm_J_run zm_T 5 (pc' := 9) (lv' := [(5, .int (s + (-8))), (4, .int 0), (3, .int (a + 1)), (6, .int c), (0, .ref 12), (1, .long p)]) (st' := []) (G' := G') rfl ?_
      exact zm_J_lv (by simp) (k1 ⟨h0, hb⟩)
    · rw [if_neg hb]
      refine zm_J_run zm_T 3 (pc' := 9) (lv' := [(5, .int (s + (-8))), (3, .int (a + 1)), (6, .int c), (0, .ref 12), (1, .long p), (4, .int fl)]) (st' := []) (G' := G') rfl ?_
      exact zm_J_lv (by simp) (k0 (fun h => hb h.2))
theorem zt_ml {N : zm_N} {d : Nat} {p : Int64} {G : zm_H} {Q : zm_O → zm_H → Prop} (hc : G.1.length ≤ zm_C) (hsl : G.2 ≤ zm_S) : ∀ n, n ≤ 8 → ∀ a fl, (∀ fl', (zt_B p n → fl' = 0) → (¬ zt_B p n → fl' = fl) → zm_J N (d + 1) 72 59 (zt_lm p (a + nI (zt_n p n)) fl' (zt_s 0)) [] G Q) → zm_J N (d + 1) 72 9 (zt_lm p a fl (zt_s n)) [] G Q := by
  intro n
  induction n with
  | zero =>
    intro _ a fl kk
    refine zm_J_run zm_T 2 (pc' := if zt_s 0 < 0 then 59 else 14) (lv' := zt_lm p a fl (zt_s 0)) (st' := []) (G' := G) rfl ?_
    rw [if_pos zt_s0]
    have h := kk fl (fun h => by obtain ⟨i, h1, -⟩ := h; omega) (fun _ => rfl)
    have e : a + nI (zt_n p 0) = a := by show a + nI 0 = a; rw [nI_0, Int32.add_zero]
    rw [e] at h
    exact h
  | succ n ih =>
    intro hn a fl kk
    have hs := zt_sn n (by omega)
    refine zt_mit (zt_sp n (by omega)) hc hsl (fun hnb => ?_) (fun hb => ?_)
    · rw [hs]
      refine ih (by omega) _ fl (fun fl' h1 h2 => ?_)
      rw [zt_add]
      refine kk fl' (fun h => ?_) (fun h => h2 (fun h3 => h (zt_B_up h3)))
      by_cases h3 : zt_B p n
      · exact h1 h3
      · exact absurd h (zt_B_no h3 hnb)
    · rw [hs]
      refine ih (by omega) _ 0 (fun fl' h1 h2 => ?_)
      rw [zt_add]
      refine kk fl' (fun h => ?_) (fun h => absurd ⟨n, by omega, hb⟩ h)
      by_cases h3 : zt_B p n
      · exact h1 h3
      · exact h2 h3
section ZTM
variable {N : zm_N} {d : Nat} {p : Int64} {xs : Nat → Int32} {ln : Int32} {f : Nat → Int32} {th : Int32} {o : Nat → Int64} {ex : List zm_E} {sl : Nat} {Q : zm_O → zm_H → Prop}
abbrev zt_ln (p : Int64) (s : Int32) : zm_L := [(0, .ref 12), (1, .long p), (5, .int s)]
theorem zt_h3 {G : zm_H} {s : Int32} (hs : ¬ s < 0) (k : zm_J N d 72 109 ((6, .int (zt_b p s)) :: zt_ln p s) [.int (zt_b p s)] G Q) : zm_J N d 72 91 (zt_ln p s) [] G Q := by
  refine zm_J_run zm_T 2 (pc' := if s < 0 then 142 else 96) (lv' := zt_ln p s) (st' := []) (G' := G) rfl ?_
  rw [if_neg hs]
  exact zm_J_run zm_T 8 (pc' := 109) (lv' := (6, .int (zt_b p s)) :: zt_ln p s) (st' := [.int (zt_b p s)]) (G' := G) rfl k
theorem zt_m2 : ∀ n, n ≤ 8 → ∀ (m : Nat) (g : Nat → Int32), m + n ≤ 40 → (∀ g', Q (.inl (some (.int (nI (m + zt_n p n))))) (zp_H xs ln f th (nI (m + zt_n p n)) g' o ex sl)) → zm_J N d 72 91 (zt_ln p (zt_s n)) [] (zp_H xs ln f th (nI m) g o ex sl) Q := by
  intro n
  induction n with
  | zero =>
    intro _ m g _ kk
    refine zm_J_run zm_T 2 (pc' := if zt_s 0 < 0 then 142 else 96) (lv' := zt_ln p (zt_s 0)) (st' := []) (G' := zp_H xs ln f th (nI m) g o ex sl) rfl ?_
    rw [if_pos zt_s0]
    refine zm_J_run zm_T 2 (pc' := 146) (lv' := zt_ln p (zt_s 0)) (st' := [.int (nI m)]) (G' := zp_H xs ln f th (nI m) g o ex sl) rfl ?_
    exact zm_J_fin zm_T rfl rfl (kk g)
  | succ n ih =>
    intro hn m g hm kk
    refine zt_h3 (zt_sp n (by omega)) ?_
    have hs := zt_sn n (by omega)
    have hz : m + zt_n p (n + 1) = m + (zt_n p n + (if zt_b p (zt_s (n + 1)) = 0 then 0 else 1)) := rfl
    rw [hz] at kk
    generalize zt_b p (zt_s (n + 1)) = c at kk
    refine zm_J_run zm_T 1 (pc' := if c = 0 then 112 else 115) (lv' := (6, .int c) :: zt_ln p (zt_s (n + 1))) (st' := []) (G' := zp_H xs ln f th (nI m) g o ex sl) rfl ?_
    by_cases h0 : c = 0
    · rw [if_pos h0] at kk ⊢
      refine zm_J_run zm_T 3 (pc' := 91) (lv' := [(5, .int (zt_s (n + 1) + (-8))), (6, .int c), (0, .ref 12), (1, .long p)]) (st' := []) (G' := zp_H xs ln f th (nI m) g o ex sl) rfl ?_
      refine zm_J_lv (lv' := zt_ln p (zt_s (n + 1) + (-8))) (by simp) ?_
      rw [hs]
      exact ih (by omega) m g (by omega) kk
    · rw [if_neg h0] at kk ⊢
      refine zm_J_run zm_T 5 (pc' := 125) (lv' := (6, .int c) :: zt_ln p (zt_s (n + 1))) (st' := [.int c, .int (nI m), .ref 13]) (G' := zp_H xs ln f th (nI m) g o ex sl) rfl ?_
      refine zm_J_ast (i := .iastore) (t := 0) (x := (40, .inl g)) rfl rfl rfl rfl rfl (by decide) (zt_in (by omega)) rfl ?_
      refine zm_J_run zm_T 6 (pc' := 136) (lv' := (6, .int c) :: zt_ln p (zt_s (n + 1))) (st' := []) (G' := zp_H xs ln f th (nI m + 1) (upd g (nI m).toNatClampNeg c) o ex sl) rfl ?_
      refine zm_J_run zm_T 2 (pc' := 91) (lv' := [(5, .int (zt_s (n + 1) + (-8))), (6, .int c), (0, .ref 12), (1, .long p)]) (st' := []) (G' := zp_H xs ln f th (nI m + 1) (upd g (nI m).toNatClampNeg c) o ex sl) rfl ?_
      refine zm_J_lv (lv' := zt_ln p (zt_s (n + 1) + (-8))) (by simp) ?_
      rw [hs, nI_1]
      refine ih (by omega) (m + 1) _ (by omega) (fun g' => ?_)
      have e : m + 1 + zt_n p n = m + (zt_n p n + 1) := by omega
      rw [e]
      exact kk g'
/-- the reference's type on a fresh object -/
theorem zt_model (hex : ex.length ≤ 1) (hsl : sl ≤ 200000) (hd : 3 ≤ d) (g : Nat → Int32) (hbad : zt_B p 8 → Q (.inl (some (.int 0))) (zp_H xs ln f 1 0 g o ex sl)) (hok : ¬ zt_B p 8 → ∀ g', Q (.inl (some (.int (nI (zt_n p 8))))) (zp_H xs ln f 0 (nI (zt_n p 8)) g' o ex sl)) : zm_J N d 72 0 [(0, .ref 12), (1, .long p)] [] (zp_H xs ln f 0 0 g o ex sl) Q := by
  obtain ⟨d, rfl⟩ : ∃ e, d = e + 1 := ⟨d - 1, by omega⟩
  have hl1 : ∀ th' sz', (zp_H xs ln f th' sz' g o ex sl).1.length ≤ zm_C := fun _ _ => Nat.le_of_succ_le (zp_len (by omega))
  have hsl2 : ∀ th' sz', (zp_H xs ln f th' sz' g o ex sl).2 ≤ zm_S := fun _ _ => by show sl ≤ 7302232; omega
  refine zm_J_run zm_T 6 (pc' := 9) (lv' := [(5, .int 56), (4, .int 1), (3, .int 0), (0, .ref 12), (1, .long p)]) (st' := []) (G' := zp_H xs ln f 0 0 g o ex sl) rfl ?_
  refine zm_J_lv (lv' := zt_lm p 0 1 56) (by simp) ?_
  rw [← zt_s8]
  refine zt_ml (hl1 0 0) (hsl2 0 0) 8 (Nat.le_refl 8) 0 1 (fun fl' h1 h2 => ?_)
  have hm := zt_n_le p 8
  by_cases hB : zt_B p 8
  · rw [h1 hB]
    refine zm_J_run zm_T 2 (pc' := 62) (lv' := zt_lm p (0 + nI (zt_n p 8)) 0 (zt_s 0)) (st' := [.int 0, .ref 12]) (G' := zp_H xs ln f 0 0 g o ex sl) rfl ?_
    refine zm_J_V (a := 12) (av := [.int 0]) (rest := []) (Q1 := fun z G' => z = .inl (some (.int 1)) ∧ G' = zp_H xs ln f 1 0 g o ex sl) (zm_T.1 72 62 _ rfl).1 zc_72_62 rfl (Nat.le_of_ble_eq_true rfl) (Nat.le_of_ble_eq_true rfl) (hl1 0 0) (hsl2 0 0) ?_ ?_ ?_
    · refine zm_J_run zm_T 9 (pc' := 22) (lv' := [(0, .ref 12), (1, .int 0)]) (st' := [.int 1]) (G' := zp_H xs ln f 1 0 g o ex sl) rfl ?_
      exact zm_J_fin zm_T rfl rfl ⟨rfl, rfl⟩
    · intro v G' h
      obtain ⟨h3, rfl⟩ := h
      cases Sum.inl.inj h3
      refine zm_J_run zm_T 2 (pc' := 69) (lv' := zt_lm p (0 + nI (zt_n p 8)) 0 (zt_s 0)) (st' := [.int 0]) (G' := zp_H xs ln f 1 0 g o ex sl) rfl ?_
      exact zm_J_fin zm_T rfl rfl (hbad hB)
    · intro x G' h; exact nomatch h.1
  · rw [h2 hB]
    refine zm_J_run zm_T 2 (pc' := 62) (lv' := zt_lm p (0 + nI (zt_n p 8)) 1 (zt_s 0)) (st' := [.int 1, .ref 12]) (G' := zp_H xs ln f 0 0 g o ex sl) rfl ?_
    refine zm_J_V (a := 12) (av := [.int 1]) (rest := []) (Q1 := fun z G' => z = .inl (some (.int 0)) ∧ G' = zp_H xs ln f 0 0 g o ex sl) (zm_T.1 72 62 _ rfl).1 zc_72_62 rfl (Nat.le_of_ble_eq_true rfl) (Nat.le_of_ble_eq_true rfl) (hl1 0 0) (hsl2 0 0) ?_ ?_ ?_
    · refine zm_J_run zm_T 9 (pc' := 22) (lv' := [(0, .ref 12), (1, .int 1)]) (st' := [.int 0]) (G' := zp_H xs ln f 0 0 g o ex sl) rfl ?_
      exact zm_J_fin zm_T rfl rfl ⟨rfl, rfl⟩
    · intro v G' h
      obtain ⟨h3, rfl⟩ := h
      cases Sum.inl.inj h3
      refine zm_J_run zm_T 7 (pc' := if 0 + (0 + nI (zt_n p 8)) ≤ 40 then 87 else 81) (lv' := zt_lm p (0 + nI (zt_n p 8)) 1 (zt_s 0)) (st' := []) (G' := zp_H xs ln f 0 0 g o ex sl) rfl ?_
      rw [if_pos (by rw [Int32.zero_add, Int32.zero_add]; exact nI_le (b := 40) (by omega) (by decide))]
      refine zm_J_run zm_T 2 (pc' := 91) (lv' := [(5, .int 56), (0, .ref 12), (1, .long p), (3, .int (0 + nI (zt_n p 8))), (4, .int 1)]) (st' := []) (G' := zp_H xs ln f 0 0 g o ex sl) rfl ?_
      refine zm_J_lv (lv' := zt_ln p 56) (by simp) ?_
      rw [← zt_s8]
      refine zt_m2 8 (Nat.le_refl 8) 0 g (by omega) (fun g' => ?_)
      rw [Nat.zero_add]
      exact hok hB g'
    · intro x G' h; exact nomatch h.1
end ZTM
theorem zt_thrown (N : zm_N) (d : Nat) {xs : Nat → Int32} {ln : Int32} {f : Nat → Int32} {th sz : Int32} {g : Nat → Int32} {o : Nat → Int64} {ex : List zm_E} {sl : Nat} : zm_J N d 71 0 [(0, .ref 12)] [] (zp_H xs ln f th sz g o ex sl) (fun z G' => z = .inl (some (.int th)) ∧ G' = zp_H xs ln f th sz g o ex sl) := by
  refine zm_J_run zm_T 2 (pc' := 4) (lv' := [(0, .ref 12)]) (st' := [.int th]) (G' := zp_H xs ln f th sz g o ex sl) rfl ?_
  exact zm_J_fin zm_T rfl rfl ⟨rfl, rfl⟩
theorem zt_cmp (x : Int64) : lg_cmp x x = 0 := by
  unfold lg_cmp
  simp
/-- what the law is asked at its end -/
def zl_Q (z : zm_O) (G : zm_H) : Prop := z = .inl (some (.int 1)) ∧ G.1.length ≤ zm_C ∧ G.2 ≤ zm_S
def zl_P (xs : Nat → Int32) : Int64 := ((xs 1).toInt64 <<< ((32 : Int32).toInt64 &&& 63)) ||| ((xs 2).toInt64 &&& 4294967295)

set_option maxRecDepth 100000 in
set_option maxHeartbeats 4000000 in
theorem zl_op0 {xs : Nat → Int32} (N : zm_N) (d : Nat) (hd : 12 ≤ d) : zm_J N d 0 39 [(4, .int 0), (3, .ref 36), (2, .ref 12), (1, .ref 2), (0, .ref 0)] [.int 0] (zp_H xs 0 (fun _ => 0) 0 0 (fun _ => 0) (fun _ => 0) [] 156591) zl_Q := by
  obtain ⟨d, rfl⟩ : ∃ e, d = e + 1 := ⟨d - 1, by omega⟩
  refine zm_J_run zm_T 20 (pc' := 108) (lv' := [(4, .int 0), (3, .ref 36), (2, .ref 12), (1, .ref 2), (0, .ref 0)]) (st' := [.ref 36, .long (zl_P xs), .ref 2]) (G' := zp_H xs 0 (fun _ => 0) 0 0 (fun _ => 0) (fun _ => 0) [] 156591) rfl ?_
  refine zm_J_S (av := [.ref 2, .long (zl_P xs), .ref 36]) (rest := []) (Q1 := fun z G' => (zt_B (zl_P xs) 8 ∧ z = .inl (some (.int 1)) ∧ G' = zp_H xs 0 (fun _ => 0) 0 0 (fun _ => 0) (fun _ => 0) [.inr (10, [])] (156591 + 6)) ∨ (¬ zt_B (zl_P xs) 8 ∧ ∃ f', z = .inl (some (.int 0)) ∧ G' = zp_H xs (nI (zt_n (zl_P xs) 8)) f' 0 0 (fun _ => 0) (vp_updL (fun _ => 0) 0 (nI (zt_n (zl_P xs) 8)).toInt64) [] 156591)) (zm_T.1 0 108 _ rfl).1 zc_0_108 (Nat.le_of_ble_eq_true rfl) (Nat.le_of_ble_eq_true rfl) (Nat.le_of_succ_le (zp_len (by decide))) (Nat.le_of_ble_eq_true rfl) ?_ ?_ ?_
  · generalize zl_P xs = p
    obtain ⟨d, rfl⟩ : ∃ e, d = e + 1 := ⟨d - 1, by omega⟩
    refine zm_J_run zm_T 4 (pc' := 4) (lv' := [(0, .ref 2), (1, .long p), (3, .ref 36)]) (st' := [.long p, .ref 2, .int 0, .ref 36]) (G' := zp_H xs 0 (fun _ => 0) 0 0 (fun _ => 0) (fun _ => 0) [] 156591) rfl ?_
    refine zm_J_V (a := 2) (av := [.long p]) (rest := [.int 0, .ref 36]) (Q1 := fun z G' => (zt_B p 8 ∧ z = .inr (0, 37) ∧ G' = zp_H xs 0 (fun _ => 0) 0 0 (fun _ => 0) (fun _ => 0) [.inr (10, [])] (156591 + 6)) ∨ (¬ zt_B p 8 ∧ ∃ f', z = .inl (some (.int (nI (zt_n p 8)))) ∧ G' = zp_H xs (nI (zt_n p 8)) f' 0 0 (fun _ => 0) (fun _ => 0) [] 156591)) (zm_T.1 11 4 _ rfl).1 zc_11_4 rfl (Nat.le_of_ble_eq_true rfl) (Nat.le_of_ble_eq_true rfl) (Nat.le_of_succ_le (zp_len (by decide))) (Nat.le_of_ble_eq_true rfl) (zt_class (by decide) (by omega) _ (fun h => Or.inl ⟨h, rfl, rfl⟩) (fun h f' => Or.inr ⟨h, f', rfl, rfl⟩)) ?_ ?_
    · intro v G' h
      rcases h with ⟨_, h, _⟩ | ⟨hnb, f', h1, rfl⟩
      · cases h
      cases Sum.inl.inj h1
      refine zm_J_run zm_T 4 (pc' := 21) (lv' := [(0, .ref 2), (1, .long p), (3, .ref 36)]) (st' := [.int 0]) (G' := zp_H xs (nI (zt_n p 8)) f' 0 0 (fun _ => 0) (vp_updL (fun _ => 0) 0 (nI (zt_n p 8)).toInt64) [] 156591) rfl ?_
      exact zm_J_fin zm_T rfl rfl (Or.inr ⟨hnb, f', rfl, rfl⟩)
    · intro x G' h
      rcases h with ⟨hb, h1, rfl⟩ | ⟨_, _, h, _⟩
      · cases Sum.inr.inj h1
        refine Or.inr ⟨12, zt_11_0, ?_⟩
        refine zm_J_run zm_T 2 (pc' := 15) (lv' := [(4, .ref 37), (0, .ref 2), (1, .long p), (3, .ref 36)]) (st' := [.int 1]) (G' := zp_H xs 0 (fun _ => 0) 0 0 (fun _ => 0) (fun _ => 0) [.inr (10, [])] (156591 + 6)) rfl ?_
        exact zm_J_fin zm_T rfl rfl (Or.inl ⟨hb, rfl, rfl⟩)
      · cases h
  · intro v G' h
    rcases h with ⟨hb, h1, rfl⟩ | ⟨hnb, f', h1, rfl⟩
    · cases Sum.inl.inj h1
      refine zm_J_run zm_T 19 (pc' := 136) (lv' := (5, .int 1) :: [(4, .int 0), (3, .ref 36), (2, .ref 12), (1, .ref 2), (0, .ref 0)]) (st' := [.long (zl_P xs), .ref 12]) (G' := zp_H xs 0 (fun _ => 0) 0 0 (fun _ => 0) (fun _ => 0) [.inr (10, [])] (156591 + 6)) rfl ?_
      refine zm_J_V (a := 12) (av := [.long (zl_P xs)]) (rest := []) (Q1 := fun z G' => z = .inl (some (.int 0)) ∧ G' = zp_H xs 0 (fun _ => 0) 1 0 (fun _ => 0) (fun _ => 0) [.inr (10, [])] (156591 + 6)) (zm_T.1 0 136 _ rfl).1 zc_0_136 rfl (Nat.le_of_ble_eq_true rfl) (Nat.le_of_ble_eq_true rfl) (Nat.le_of_succ_le (zp_len (by decide))) (Nat.le_of_ble_eq_true rfl) (zt_model (by decide) (by decide) (by omega) _ (fun _ => ⟨rfl, rfl⟩) (fun h => absurd hb h)) ?_ ?_
      rotate_left
      · intro x G' h; exact nomatch h.1
      intro v G' h
      obtain ⟨h2, rfl⟩ := h
      cases Sum.inl.inj h2
      refine zm_J_run zm_T 2 (pc' := 142) (lv' := (6, .int 0) :: (5, .int 1) :: [(4, .int 0), (3, .ref 36), (2, .ref 12), (1, .ref 2), (0, .ref 0)]) (st' := [.ref 12]) (G' := zp_H xs 0 (fun _ => 0) 1 0 (fun _ => 0) (fun _ => 0) [.inr (10, [])] (156591 + 6)) rfl ?_
      refine zm_J_V (a := 12) (av := []) (rest := []) (Q1 := fun z G' => z = .inl (some (.int 1)) ∧ G' = zp_H xs 0 (fun _ => 0) 1 0 (fun _ => 0) (fun _ => 0) [.inr (10, [])] (156591 + 6)) (zm_T.1 0 142 _ rfl).1 zc_0_142 rfl (Nat.le_of_ble_eq_true rfl) (Nat.le_of_ble_eq_true rfl) (Nat.le_of_succ_le (zp_len (by decide))) (Nat.le_of_ble_eq_true rfl) (zt_thrown N d) ?_ ?_
      rotate_left
      · intro x G' h; exact nomatch h.1
      intro v G' h
      obtain ⟨h3, rfl⟩ := h
      cases Sum.inl.inj h3
      refine zm_J_run zm_T 5 (pc' := 453) (lv' := (6, .int 0) :: (5, .int 1) :: [(4, .int 0), (3, .ref 36), (2, .ref 12), (1, .ref 2), (0, .ref 0)]) (st' := []) (G' := zp_H xs 0 (fun _ => 0) 1 0 (fun _ => 0) (fun _ => 0) [.inr (10, [])] (156591 + 6)) rfl ?_
      refine zm_J_run zm_T 2 (pc' := 23) (lv' := [(4, .int 3), (6, .int 0), (5, .int 1), (3, .ref 36), (2, .ref 12), (1, .ref 2), (0, .ref 0)]) (st' := []) (G' := zp_H xs 0 (fun _ => 0) 1 0 (fun _ => 0) (fun _ => 0) [.inr (10, [])] (156591 + 6)) rfl ?_
      refine zm_J_run zm_T 5 (pc' := 29) (lv' := [(4, .int 3), (6, .int 0), (5, .int 1), (3, .ref 36), (2, .ref 12), (1, .ref 2), (0, .ref 0)]) (st' := [.int (3 - 3), .int 3]) (G' := zp_H xs 0 (fun _ => 0) 1 0 (fun _ => 0) (fun _ => 0) [.inr (10, [])] (156591 + 6)) rfl ?_
      refine zm_J_run zm_T 1 (pc' := if (3 - 3 : Int32) < 3 then 459 else 32) (lv' := [(4, .int 3), (6, .int 0), (5, .int 1), (3, .ref 36), (2, .ref 12), (1, .ref 2), (0, .ref 0)]) (st' := []) (G' := zp_H xs 0 (fun _ => 0) 1 0 (fun _ => 0) (fun _ => 0) [.inr (10, [])] (156591 + 6)) rfl ?_
      rw [if_pos (show (3 - 3 : Int32) < 3 by decide +kernel)]
      refine zm_J_run zm_T 1 (pc' := 460) (lv' := [(4, .int 3), (6, .int 0), (5, .int 1), (3, .ref 36), (2, .ref 12), (1, .ref 2), (0, .ref 0)]) (st' := [.int 1]) (G' := zp_H xs 0 (fun _ => 0) 1 0 (fun _ => 0) (fun _ => 0) [.inr (10, [])] (156591 + 6)) rfl ?_
      exact zm_J_fin zm_T rfl rfl ⟨rfl, Nat.le_of_succ_le (zp_len (by decide)), Nat.le_of_ble_eq_true rfl⟩
    · cases Sum.inl.inj h1
      refine zm_J_run zm_T 19 (pc' := 136) (lv' := (5, .int 0) :: [(4, .int 0), (3, .ref 36), (2, .ref 12), (1, .ref 2), (0, .ref 0)]) (st' := [.long (zl_P xs), .ref 12]) (G' := zp_H xs (nI (zt_n (zl_P xs) 8)) f' 0 0 (fun _ => 0) (vp_updL (fun _ => 0) 0 (nI (zt_n (zl_P xs) 8)).toInt64) [] 156591) rfl ?_
      refine zm_J_V (a := 12) (av := [.long (zl_P xs)]) (rest := []) (Q1 := fun z G' => ∃ g', z = .inl (some (.int (nI (zt_n (zl_P xs) 8)))) ∧ G' = zp_H xs (nI (zt_n (zl_P xs) 8)) f' 0 (nI (zt_n (zl_P xs) 8)) g' (vp_updL (fun _ => 0) 0 (nI (zt_n (zl_P xs) 8)).toInt64) [] 156591) (zm_T.1 0 136 _ rfl).1 zc_0_136 rfl (Nat.le_of_ble_eq_true rfl) (Nat.le_of_ble_eq_true rfl) (Nat.le_of_succ_le (zp_len (by decide))) (Nat.le_of_ble_eq_true rfl) (zt_model (by decide) (by decide) (by omega) _ (fun h => absurd h hnb) (fun _ g' => ⟨g', rfl, rfl⟩)) ?_ ?_
      rotate_left
      · intro x G' h; obtain ⟨_, h, _⟩ := h; cases h
      intro v G' h
      obtain ⟨g', h2, rfl⟩ := h
      cases Sum.inl.inj h2
      generalize nI (zt_n (zl_P xs) 8) = w
      refine zm_J_run zm_T 2 (pc' := 142) (lv' := (6, .int w) :: (5, .int 0) :: [(4, .int 0), (3, .ref 36), (2, .ref 12), (1, .ref 2), (0, .ref 0)]) (st' := [.ref 12]) (G' := zp_H xs w f' 0 w g' (vp_updL (fun _ => 0) 0 w.toInt64) [] 156591) rfl ?_
      refine zm_J_V (a := 12) (av := []) (rest := []) (Q1 := fun z G' => z = .inl (some (.int 0)) ∧ G' = zp_H xs w f' 0 w g' (vp_updL (fun _ => 0) 0 w.toInt64) [] 156591) (zm_T.1 0 142 _ rfl).1 zc_0_142 rfl (Nat.le_of_ble_eq_true rfl) (Nat.le_of_ble_eq_true rfl) (Nat.le_of_succ_le (zp_len (by decide))) (Nat.le_of_ble_eq_true rfl) (zt_thrown N d) ?_ ?_
      rotate_left
      · intro x G' h; exact nomatch h.1
      intro v G' h
      obtain ⟨h3, rfl⟩ := h
      cases Sum.inl.inj h3
      refine zm_J_run zm_T 11 (pc' := if lg_cmp w.toInt64 w.toInt64 = 0 then 169 else 167) (lv' := (6, .int w) :: (5, .int 0) :: [(4, .int 0), (3, .ref 36), (2, .ref 12), (1, .ref 2), (0, .ref 0)]) (st' := []) (G' := zp_H xs w f' 0 w g' (vp_updL (fun _ => 0) 0 w.toInt64) [] 156591) rfl ?_
      rw [if_pos (zt_cmp _)]
      refine zm_J_run zm_T 3 (pc' := 23) (lv' := [(4, .int 3), (6, .int w), (5, .int 0), (3, .ref 36), (2, .ref 12), (1, .ref 2), (0, .ref 0)]) (st' := []) (G' := zp_H xs w f' 0 w g' (vp_updL (fun _ => 0) 0 w.toInt64) [] 156591) rfl ?_
      refine zm_J_run zm_T 5 (pc' := 29) (lv' := [(4, .int 3), (6, .int w), (5, .int 0), (3, .ref 36), (2, .ref 12), (1, .ref 2), (0, .ref 0)]) (st' := [.int (3 - 3), .int 3]) (G' := zp_H xs w f' 0 w g' (vp_updL (fun _ => 0) 0 w.toInt64) [] 156591) rfl ?_
      refine zm_J_run zm_T 1 (pc' := if (3 - 3 : Int32) < 3 then 459 else 32) (lv' := [(4, .int 3), (6, .int w), (5, .int 0), (3, .ref 36), (2, .ref 12), (1, .ref 2), (0, .ref 0)]) (st' := []) (G' := zp_H xs w f' 0 w g' (vp_updL (fun _ => 0) 0 w.toInt64) [] 156591) rfl ?_
      rw [if_pos (show (3 - 3 : Int32) < 3 by decide +kernel)]
      refine zm_J_run zm_T 1 (pc' := 460) (lv' := [(4, .int 3), (6, .int w), (5, .int 0), (3, .ref 36), (2, .ref 12), (1, .ref 2), (0, .ref 0)]) (st' := [.int 1]) (G' := zp_H xs w f' 0 w g' (vp_updL (fun _ => 0) 0 w.toInt64) [] 156591) rfl ?_
      exact zm_J_fin zm_T rfl rfl ⟨rfl, Nat.le_of_succ_le (zp_len (by decide)), Nat.le_of_ble_eq_true rfl⟩
  · intro x G' h
    rcases h with ⟨_, h, _⟩ | ⟨_, _, h, _⟩ <;> cases h

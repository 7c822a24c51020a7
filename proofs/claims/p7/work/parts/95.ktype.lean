/-! THE CLASS'S type -/
theorem zk_i2c : ∀ k, k < 127 → ((nI k).toUInt32 % 65536).toInt32 = nI k := by decide +kernel
theorem zk_c_nat {c : Int32} (h1 : 33 ≤ c) (h2 : c ≤ 126) : ∃ k, k < 127 ∧ c = nI k := by
  obtain ⟨j, hj, rfl⟩ := nI_of (zi_nlt (zk_chr h1 h2).1)
  exact ⟨j, Nat.lt_succ_of_le ((nI_leI hj (b := 126) (by decide)).mp h2), rfl⟩
theorem zk_cast {c : Int32} (h1 : 33 ≤ c) (h2 : c ≤ 126) : (c.toUInt32 % 65536).toInt32.toUInt32.toUInt16.toUInt32.toInt32 = c := by
  obtain ⟨k, hk, rfl⟩ := zk_c_nat h1 h2
  rw [zk_i2c k hk]
  exact zm_char_nar (zk_chr h1 h2)
section ZKY
variable {R : Nat → zm_E} {ex : List zm_E} {sl : Nat} {s : Nat → Int32} {r : Value} {el : Nat → Nat} {f g : Nat → Int32} {df : Nat → Option Nat} {N : zm_N} {d : Nat} {Q : zm_O → zm_H → Prop} {B S : Nat} {va ca ka : List Nat} {q : Nat × Nat × Nat} {t : List Int32} {p : Int64}
abbrev zk_lw (p : Int64) (s : Int32) : zm_L := [(0, .ref 3), (1, .long p), (4, .int s)]
theorem zk_h2 {G : zm_H} {s : Int32} (hs : ¬ s < 0) (k : zm_J N d 13 100 (zk_lw p s) [.int s, .long p] G Q) : zm_J N d 13 92 (zk_lw p s) [] G Q := by
  refine zm_J_run zm_T 2 (pc' := if s < 0 then 138 else 97) (lv' := zk_lw p s) (st' := []) (G' := G) rfl ?_
  rw [if_neg hs]
  exact zm_J_run zm_T 2 (pc' := 100) (lv' := zk_lw p s) (st' := [.int s, .long p]) (G' := G) rfl k
theorem zk_l2 (hr : zr_r ex sl) : ∀ n, n ≤ 8 → ∀ (m : Nat) (f : Nat → Int32), m + zt_n p n ≤ 40 → ¬ zt_B p n → (∀ f' : Nat → Int32, (∀ j, j < m → f' j = f j) → (∀ j x, (zt_bs p n)[j]? = some x → f' (m + j) = x ∧ 33 ≤ x ∧ x ≤ 126) → Q (.inl (some (.int (nI (m + zt_n p n))))) (zk_H R ex sl (zu s 5 (nI (m + zt_n p n))) r el f' g df)) → zm_J N (d + 1) 13 92 (zk_lw p (zt_s n)) [] (zk_H R ex sl (zu s 5 (nI m)) r el f g df) Q := by
  intro n
  induction n with
  | zero =>
    intro _ m f _ _ kk
    refine zm_J_run zm_T 2 (pc' := if zt_s 0 < 0 then 138 else 97) (lv' := zk_lw p (zt_s 0)) (st' := []) (G' := zk_H R ex sl (zu s 5 (nI m)) r el f g df) rfl ?_
    rw [if_pos zt_s0]
    refine zm_J_run zm_T 2 (pc' := 142) (lv' := zk_lw p (zt_s 0)) (st' := [.int (nI m)]) (G' := zk_H R ex sl (zu s 5 (nI m)) r el f g df) rfl ?_
    exact zm_J_fin zm_T rfl rfl (kk f (fun _ _ => rfl) (fun j x hx => by cases hx))
  | succ n ih =>
    intro hn m f hm hB kk
    refine zk_h2 (zt_sp n (by omega)) ?_
    refine zg_S (av := [.long p, .int (zt_s (n + 1))]) (rest := []) (v := some (.int (zt_b p (zt_s (n + 1))))) (G2 := zk_H R ex sl (zu s 5 (nI m)) r el f g df) (zm_T.1 13 100 _ rfl).1 zc_13_100 (Nat.le_of_ble_eq_true rfl) (Nat.le_of_ble_eq_true rfl) (zk_c hr) (zk_s hr) (zt_byteAt N d p (zt_s (n + 1)) _) ?_
    have hs := zt_sn n (by omega)
    have hz : zt_n p (n + 1) = zt_n p n + (if zt_b p (zt_s (n + 1)) = 0 then 0 else 1) := rfl
    have hb : zt_bs p (n + 1) = if zt_b p (zt_s (n + 1)) = 0 then zt_bs p n else zt_b p (zt_s (n + 1)) :: zt_bs p n := rfl
    have hnb : ¬ zt_bad (zt_b p (zt_s (n + 1))) := fun z => hB ⟨n, Nat.lt_succ_self n, z⟩
    have hB1 : ¬ zt_B p n := fun z => hB (zt_B_up z)
    rw [hz] at kk hm
    rw [hb] at kk
    show zm_J N (d + 1) 13 103 (zk_lw p (zt_s (n + 1))) [.int (zt_b p (zt_s (n + 1)))] (zk_H R ex sl (zu s 5 (nI m)) r el f g df) Q
    generalize zt_b p (zt_s (n + 1)) = c at kk hm hnb
    refine zm_J_run zm_T 3 (pc' := if c = 0 then 132 else 110) (lv' := (5, .int c) :: zk_lw p (zt_s (n + 1))) (st' := []) (G' := zk_H R ex sl (zu s 5 (nI m)) r el f g df) rfl ?_
    by_cases h0 : c = 0
    · rw [if_pos h0] at hm
      simp only [if_pos h0, Nat.add_zero] at kk
      rw [if_pos h0]
      refine zm_J_run zm_T 2 (pc' := 92) (lv' := [(4, .int (zt_s (n + 1) + (-8))), (5, .int c), (0, .ref 3), (1, .long p)]) (st' := []) (G' := zk_H R ex sl (zu s 5 (nI m)) r el f g df) rfl ?_
      refine zm_J_lv (lv' := zk_lw p (zt_s (n + 1) + (-8))) (by simp) ?_
      rw [hs]
      exact ih (by omega) m f (by omega) hB1 kk
    · rw [if_neg h0] at hm
      simp only [if_neg h0] at kk
      rw [if_neg h0]
      have hc : 33 ≤ c ∧ c ≤ 126 := ⟨Int32.not_lt.mp (fun z => hnb ⟨h0, Or.inl z⟩), Int32.not_lt.mp (fun z => hnb ⟨h0, Or.inr z⟩)⟩
      refine zm_J_run zm_T 6 (pc' := 121) (lv' := (5, .int c) :: zk_lw p (zt_s (n + 1))) (st' := [.int (c.toUInt32 % 65536).toInt32, .int (nI m), .ref 4]) (G' := zk_H R ex sl (zu s 5 (nI m)) r el f g df) rfl ?_
      refine zg_ast (i := .castore) (t := 1) (n := 40) (f := f) (m := m) (v' := c) (G' := zk_H R ex sl (zu s 5 (nI m)) r el (upd f m c) g df) rfl rfl rfl (congrArg (fun x => some (Value.int x)) (zk_cast hc.1 hc.2)) (by decide) rfl (by omega) (by decide) rfl ?_
      refine zm_J_run zm_T 6 (pc' := 132) (lv' := (5, .int c) :: zk_lw p (zt_s (n + 1))) (st' := []) (G' := zk_H R ex sl (zu s 5 (nI m + 1)) r el (upd f m c) g df) rfl ?_
      refine zm_J_run zm_T 2 (pc' := 92) (lv' := [(4, .int (zt_s (n + 1) + (-8))), (5, .int c), (0, .ref 3), (1, .long p)]) (st' := []) (G' := zk_H R ex sl (zu s 5 (nI m + 1)) r el (upd f m c) g df) rfl ?_
      refine zm_J_lv (lv' := zk_lw p (zt_s (n + 1) + (-8))) (by simp) ?_
      rw [hs, nI_1]
      refine ih (by omega) (m + 1) (upd f m c) (by omega) hB1 (fun f' g1 g2 => ?_)
      have e : m + 1 + zt_n p n = m + (zt_n p n + 1) := by omega
      rw [e]
      refine kk f' (fun j hj => (g1 j (by omega)).trans (zi_updn f _ (by omega))) (fun j x hx => ?_)
      cases j with
      | zero =>
        cases Option.some.inj hx
        exact ⟨(g1 m (by omega)).trans (zi_upd f m _), hc⟩
      | succ j => rw [show m + (j + 1) = m + 1 + j by omega]; exact g2 j x hx
theorem zk_type (htt : zk_tt t f) (h5 : s 5 = nI t.length) (hd : 10 ≤ d) (hB : zk_BS B S) (hI : zk_I B S ex sl s el va ca ka q)
    (k1 : zt_B p 8 → ∀ x, zk_I (B + 1) (S + 6) (zk_ap ex (Sum.inr (zm_cl.length, []) : zm_E)) (sl + 6) s el va ca ka q → Q (.inr (0, x)) (zk_H R (zk_ap ex (Sum.inr (zm_cl.length, []) : zm_E)) (sl + 6) s r el f g df))
    (k2 : ¬ zt_B p 8 → 40 < t.length + zt_n p 8 → ∀ x, zk_I (B + 1) (S + 6) (zk_ap ex (Sum.inr (zm_cl.length, []) : zm_E)) (sl + 6) s el va ca ka q → Q (.inr (1, x)) (zk_H R (zk_ap ex (Sum.inr (zm_cl.length, []) : zm_E)) (sl + 6) s r el f g df))
    (k0 : ¬ zt_B p 8 → t.length + zt_n p 8 ≤ 40 → ∀ f', zk_tt (t ++ zt_bs p 8) f' → Q (.inl (some (.int (nI (t.length + zt_n p 8))))) (zk_H R ex sl (zu s 5 (nI (t.length + zt_n p 8))) r el f' g df)) : zm_J N d 12 0 [(0, .ref 2), (1, .long p)] [] (zk_H R ex sl s r el f g df) Q := by
  obtain ⟨d, rfl⟩ : ∃ e, d = e + 2 := ⟨d - 2, by omega⟩
  have hr := zk_I_r hB hI
  have hrm := zk_I_room hB hI
  have hroom : zm_room (zk_H R ex sl s r el f g df) 6 = true := by
    unfold zm_room
    rw [Bool.and_eq_true, decide_eq_true_eq, decide_eq_true_eq]
    exact ⟨by show ex.length + 37 + 1 ≤ zm_C; omega, by show sl + 6 ≤ zm_S; omega⟩
  refine zm_J_run zm_T 3 (pc' := 5) (lv' := [(0, .ref 2), (1, .long p)]) (st' := [.long p, .ref 3]) (G' := zk_H R ex sl s r el f g df) rfl ?_
  refine zg_VT (a := 3) (av := [.long p]) (rest := []) (zm_T.1 12 5 _ rfl).1 zc_12_5 rfl (zm_out0 rfl) (Nat.le_of_ble_eq_true rfl) (Nat.le_of_ble_eq_true rfl) (zk_c hr) (zk_s hr) ?_
  show zm_J N (d + 1) 13 0 [(0, .ref 3), (1, .long p)] [] (zk_H R ex sl s r el f g df) _
  refine zm_J_run zm_T 4 (pc' := 6) (lv' := [(4, .int 56), (3, .int 0), (0, .ref 3), (1, .long p)]) (st' := []) (G' := zk_H R ex sl s r el f g df) rfl ?_
  refine zm_J_lv (lv' := zt_lv p 0 56) (by simp) ?_
  rw [← zt_s8]
  refine zt_l1 (d := d) (Q := zk_k N (d + 1 + 1) 12 8 [(0, .ref 2), (1, .long p)] [] Q) hroom (zk_c hr) (zk_s hr) (by omega) (fun h => k1 h _ (zk_I_ap _ 6 hI)) 8 (Nat.le_refl 8) 0 id (fun hnb => ?_)
  have hm := zt_n_le p 8
  refine zm_J_run zm_T 4 (pc' := 73) (lv' := zt_lv p (0 + nI (zt_n p 8)) (zt_s 0)) (st' := [.int (s 5 + (0 + nI (zt_n p 8)))]) (G' := zk_H R ex sl s r el f g df) rfl ?_
  rw [Int32.zero_add, h5, nI_add]
  refine zm_J_run zm_T 2 (pc' := if nI (t.length + zt_n p 8) ≤ 40 then 88 else 78) (lv' := zt_lv p (nI (zt_n p 8)) (zt_s 0)) (st' := []) (G' := zk_H R ex sl s r el f g df) rfl ?_
  by_cases h40 : t.length + zt_n p 8 ≤ 40
  · rw [if_pos (show nI (t.length + zt_n p 8) ≤ 40 from nI_le h40 (by decide))]
    refine zm_J_run zm_T 2 (pc' := 92) (lv' := [(4, .int 56), (0, .ref 3), (1, .long p), (3, .int (nI (zt_n p 8)))]) (st' := []) (G' := zk_H R ex sl s r el f g df) rfl ?_
    refine zm_J_lv (lv' := zk_lw p 56) (by simp) ?_
    rw [← zt_s8, show zk_H R ex sl s r el f g df = zk_H R ex sl (zu s 5 (nI t.length)) r el f g df from by rw [← h5, zu_same]]
    refine zk_l2 hr 8 (Nat.le_refl 8) t.length f h40 hnb (fun f' g1 g2 => ?_)
    refine zm_J_fin zm_T rfl rfl (k0 hnb h40 f' ⟨?_, fun i x hx => ?_⟩)
    · rw [List.length_append, zt_bs_len]; exact h40
    · by_cases hi : i < t.length
      · rw [List.getElem?_append_left hi] at hx
        rw [g1 i hi]
        exact htt.2 i x hx
      · rw [List.getElem?_append_right (by omega)] at hx
        have := g2 (i - t.length) x hx
        rw [Nat.add_sub_cancel' (by omega)] at this
        exact this
  · rw [if_neg (show ¬ nI (t.length + zt_n p 8) ≤ 40 from nI_ge (show 40 < t.length + zt_n p 8 by omega) (by have := htt.1; omega))]
    exact zm_J_throw (Q := zk_k N (d + 1 + 1) 12 8 [(0, .ref 2), (1, .long p)] [] Q) zx_13_78 (by omega) (Nat.le_of_ble_eq_true rfl) hroom (k2 hnb (by omega) _ (zk_I_ap _ 6 hI))
end ZKY

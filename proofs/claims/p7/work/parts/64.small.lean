/-! THE REFERENCE'S SMALL METHODS -/
def zr_p (c : Int32) : Int32 := if 48 ≤ c ∧ c ≤ 57 then 0 else if 97 ≤ c ∧ c ≤ 102 then 0 else if 65 ≤ c ∧ c ≤ 70 then 0 else if c = 110 then 0 else if c = 104 then 1 else if c = 116 then 1 else if c = 122 then 1 else if c = 63 then 3 else if c = 46 then 2 else if c = 43 then 2 else if c = 45 then 2 else if c = 42 then 2 else if c = 47 then 2 else if c = 37 then 2 else if c = 60 then 2 else if c = 61 then 2 else if c = 58 then 2 else -1
theorem zr_p_v {L : List Int32} {c : Int32} (hL : zv_wL L) (h : zv_l L c = true) : zr_p c = nI (zv_p c) := by
  by_cases h1 : 48 ≤ c ∧ c ≤ 57
  · rw [zr_p, if_pos h1, zv_leaf (Or.inl h1)]; rfl
  by_cases h2 : 97 ≤ c ∧ c ≤ 102
  · rw [zr_p, if_neg h1, if_pos h2, zv_leaf (Or.inr (Or.inl h2))]; rfl
  by_cases h3 : 65 ≤ c ∧ c ≤ 70
  · rw [zr_p, if_neg h1, if_neg h2, if_pos h3, zv_leaf (Or.inr (Or.inr (Or.inl h3)))]; rfl
  by_cases h4 : c = 110
  · rw [zr_p, if_neg h1, if_neg h2, if_neg h3, if_pos h4, zv_leaf (Or.inr (Or.inr (Or.inr h4)))]; rfl
  have hp := zv_p_pos hL h h1 h4 h2 h3
  rw [zr_p, if_neg h1, if_neg h2, if_neg h3, if_neg h4]
  unfold zv_p at hp ⊢
  by_cases k1 : c = 104
  · rw [if_pos k1, if_pos (Or.inl k1)]; rfl
  by_cases k2 : c = 116
  · rw [if_neg k1, if_pos k2, if_pos (Or.inr (Or.inl k2))]; rfl
  by_cases k3 : c = 122
  · rw [if_neg k1, if_neg k2, if_pos k3, if_pos (Or.inr (Or.inr k3))]; rfl
  have k0 : ¬ (c = 104 ∨ c = 116 ∨ c = 122) := by rintro (e | e | e) <;> contradiction
  rw [if_neg k0] at hp ⊢
  rw [if_neg k1, if_neg k2, if_neg k3]
  by_cases k4 : c = 63
  · rw [if_pos k4, if_pos k4]; rfl
  rw [if_neg k4] at hp ⊢
  rw [if_neg k4]
  by_cases hh : c = 46 ∨ c = 43 ∨ c = 45 ∨ c = 42 ∨ c = 47 ∨ c = 37 ∨ c = 60 ∨ c = 61 ∨ c = 58
  · rw [if_pos hh]
    rcases hh with e | e | e | e | e | e | e | e | e <;> (subst e; rfl)
  · rw [if_neg hh] at hp; exact absurd rfl hp
def zr_tx (M : Nat) (f : Nat → Int32) (q : Nat) (w : List Int32) : Prop := M ≤ 21200 ∧ q + w.length ≤ M ∧ ∀ i x, w[i]? = some x → f (q + i) = x
theorem zr_tx.cons {M : Nat} {f : Nat → Int32} {q : Nat} {c : Int32} {r : List Int32} (h : zr_tx M f q (c :: r)) : f q = c ∧ q < 21200 ∧ zr_tx M f (q + 1) r := by
  have h1 := h.2.1
  have h0 := h.1
  rw [List.length_cons] at h1
  refine ⟨h.2.2 0 c rfl, by omega, h0, by omega, fun i x hx => ?_⟩
  have := h.2.2 (i + 1) x hx
  rw [show q + 1 + i = q + (i + 1) by omega]
  exact this
theorem zr_tx.drop {M : Nat} {f : Nat → Int32} {q : Nat} {w : List Int32} (h : zr_tx M f q w) {n : Nat} (hn : n ≤ w.length) : zr_tx M f (q + n) (w.drop n) := by
  have h1 := h.2.1
  refine ⟨h.1, by rw [List.length_drop]; omega, fun i x hx => ?_⟩
  rw [List.getElem?_drop] at hx
  rw [Nat.add_assoc]
  exact h.2.2 (n + i) x hx
theorem zr_tx.sk {M : Nat} {f : Nat → Int32} {q : Nat} {L w : List Int32} (h : zr_tx M f q w) {k : Nat} (hk : zv_ok L w k = true) : zr_tx M f (q + zv_n w k) (zv_sk w k) := by
  rw [zv_sk_drop]
  exact h.drop (zv_n_le L w k hk)
section ZRS
variable {N : zm_N} {d : Nat} {C : Nat → zm_E} {ex : List zm_E} {sl M : Nat} {s : Nat → Int32} {a : Nat → Nat → Int32}
theorem zr_btw (v lo hi : Int32) (G : zm_H) : zm_J N d 73 0 [(0, .int v), (1, .int lo), (2, .int hi)] [] G (fun z G' => z = .inl (some (.int (if lo ≤ v ∧ v ≤ hi then 1 else 0))) ∧ G' = G) := by
  refine zm_J_run zm_T 3 (pc' := if v < lo then 14 else 5) (lv' := [(0, .int v), (1, .int lo), (2, .int hi)]) (st' := []) (G' := G) rfl ?_
  by_cases h1 : v < lo
  · rw [if_pos h1]
    refine zm_J_run zm_T 1 (pc' := 15) (lv' := [(0, .int v), (1, .int lo), (2, .int hi)]) (st' := [.int 0]) (G' := G) rfl ?_
    exact zm_J_fin zm_T rfl rfl ⟨by rw [if_neg (fun h => absurd h1 (zi_nlt h.1))], rfl⟩
  · rw [if_neg h1]
    refine zm_J_run zm_T 3 (pc' := if hi < v then 14 else 10) (lv' := [(0, .int v), (1, .int lo), (2, .int hi)]) (st' := []) (G' := G) rfl ?_
    by_cases h2 : hi < v
    · rw [if_pos h2]
      refine zm_J_run zm_T 1 (pc' := 15) (lv' := [(0, .int v), (1, .int lo), (2, .int hi)]) (st' := [.int 0]) (G' := G) rfl ?_
      exact zm_J_fin zm_T rfl rfl ⟨by rw [if_neg (fun h => absurd h2 (zi_nlt h.2))], rfl⟩
    · rw [if_neg h2]
      refine zm_J_run zm_T 2 (pc' := 15) (lv' := [(0, .int v), (1, .int lo), (2, .int hi)]) (st' := [.int 1]) (G' := G) rfl ?_
      exact zm_J_fin zm_T rfl rfl ⟨by rw [if_pos ⟨zi_ge h1, zi_ge h2⟩], rfl⟩
theorem zr_parts (hd : 1 ≤ d) (c : Int32) (G : zm_H) (hc : G.1.length ≤ zm_C) (hsl : G.2 ≤ zm_S) : zm_J N d 80 0 [(0, .int c)] [] G (fun z G' => z = .inl (some (.int (zr_p c))) ∧ G' = G) := by
  obtain ⟨d, rfl⟩ : ∃ e, d = e + 1 := ⟨d - 1, by omega⟩
  refine zm_J_run zm_T 3 (pc' := 5) (lv' := [(0, .int c)]) (st' := [.int 57, .int 48, .int c]) (G' := G) rfl ?_
  refine zg_S (av := [.int c, .int 48, .int 57]) (rest := []) (v := some (.int (if 48 ≤ c ∧ c ≤ 57 then 1 else 0))) (G2 := G) (zm_T.1 80 5 _ rfl).1 zc_80_5 (Nat.le_of_ble_eq_true rfl) (Nat.le_of_ble_eq_true rfl) hc hsl (zr_btw c 48 57 G) ?_
  show zm_J N _ 80 8 [(0, .int c)] [.int (if 48 ≤ c ∧ c ≤ 57 then 1 else 0)] G _
  by_cases h1 : 48 ≤ c ∧ c ≤ 57
  · rw [if_pos h1]
    show zm_J N _ 80 8 [(0, .int c)] [.int 1] G _
    refine zm_J_run zm_T 2 (pc' := 40) (lv' := [(0, .int c)]) (st' := [.int 0]) (G' := G) rfl ?_
    exact zm_J_fin zm_T rfl rfl ⟨by rw [zr_p, if_pos h1], rfl⟩
  · rw [if_neg h1]
    show zm_J N _ 80 8 [(0, .int c)] [.int 0] G _
    refine zm_J_run zm_T 4 (pc' := 16) (lv' := [(0, .int c)]) (st' := [.int 102, .int 97, .int c]) (G' := G) rfl ?_
    refine zg_S (av := [.int c, .int 97, .int 102]) (rest := []) (v := some (.int (if 97 ≤ c ∧ c ≤ 102 then 1 else 0))) (G2 := G) (zm_T.1 80 16 _ rfl).1 zc_80_16 (Nat.le_of_ble_eq_true rfl) (Nat.le_of_ble_eq_true rfl) hc hsl (zr_btw c 97 102 G) ?_
    show zm_J N _ 80 19 [(0, .int c)] [.int (if 97 ≤ c ∧ c ≤ 102 then 1 else 0)] G _
    by_cases h2 : 97 ≤ c ∧ c ≤ 102
    · rw [if_pos h2]
      show zm_J N _ 80 19 [(0, .int c)] [.int 1] G _
      refine zm_J_run zm_T 2 (pc' := 40) (lv' := [(0, .int c)]) (st' := [.int 0]) (G' := G) rfl ?_
      exact zm_J_fin zm_T rfl rfl ⟨by rw [zr_p, if_neg h1, if_pos h2], rfl⟩
    · rw [if_neg h2]
      show zm_J N _ 80 19 [(0, .int c)] [.int 0] G _
      refine zm_J_run zm_T 4 (pc' := 27) (lv' := [(0, .int c)]) (st' := [.int 70, .int 65, .int c]) (G' := G) rfl ?_
      refine zg_S (av := [.int c, .int 65, .int 70]) (rest := []) (v := some (.int (if 65 ≤ c ∧ c ≤ 70 then 1 else 0))) (G2 := G) (zm_T.1 80 27 _ rfl).1 zc_80_27 (Nat.le_of_ble_eq_true rfl) (Nat.le_of_ble_eq_true rfl) hc hsl (zr_btw c 65 70 G) ?_
      show zm_J N _ 80 30 [(0, .int c)] [.int (if 65 ≤ c ∧ c ≤ 70 then 1 else 0)] G _
      by_cases h3 : 65 ≤ c ∧ c ≤ 70
      · rw [if_pos h3]
        show zm_J N _ 80 30 [(0, .int c)] [.int 1] G _
        refine zm_J_run zm_T 2 (pc' := 40) (lv' := [(0, .int c)]) (st' := [.int 0]) (G' := G) rfl ?_
        exact zm_J_fin zm_T rfl rfl ⟨by rw [zr_p, if_neg h1, if_neg h2, if_pos h3], rfl⟩
      · rw [if_neg h3]
        show zm_J N _ 80 30 [(0, .int c)] [.int 0] G _
        refine zm_J_run zm_T 4 (pc' := if c = 110 then 39 else 41) (lv' := [(0, .int c)]) (st' := []) (G' := G) rfl ?_
        by_cases h4 : c = 110
        · rw [if_pos h4]
          refine zm_J_run zm_T 1 (pc' := 40) (lv' := [(0, .int c)]) (st' := [.int 0]) (G' := G) rfl ?_
          exact zm_J_fin zm_T rfl rfl ⟨by rw [zr_p, if_neg h1, if_neg h2, if_neg h3, if_pos h4], rfl⟩
        · rw [if_neg h4]
          refine zm_J_run zm_T 3 (pc' := if c = 104 then 59 else 47) (lv' := [(0, .int c)]) (st' := []) (G' := G) rfl ?_
          by_cases k1 : c = 104
          · rw [if_pos k1]
            refine zm_J_run zm_T 1 (pc' := 60) (lv' := [(0, .int c)]) (st' := [.int 1]) (G' := G) rfl ?_
            exact zm_J_fin zm_T rfl rfl ⟨by rw [zr_p, if_neg h1, if_neg h2, if_neg h3, if_neg h4, if_pos k1], rfl⟩
          · rw [if_neg k1]
            refine zm_J_run zm_T 3 (pc' := if c = 116 then 59 else 53) (lv' := [(0, .int c)]) (st' := []) (G' := G) rfl ?_
            by_cases k2 : c = 116
            · rw [if_pos k2]
              refine zm_J_run zm_T 1 (pc' := 60) (lv' := [(0, .int c)]) (st' := [.int 1]) (G' := G) rfl ?_
              exact zm_J_fin zm_T rfl rfl ⟨by rw [zr_p, if_neg h1, if_neg h2, if_neg h3, if_neg h4, if_neg k1, if_pos k2], rfl⟩
            · rw [if_neg k2]
              refine zm_J_run zm_T 3 (pc' := if c = 122 then 59 else 61) (lv' := [(0, .int c)]) (st' := []) (G' := G) rfl ?_
              by_cases k3 : c = 122
              · rw [if_pos k3]
                refine zm_J_run zm_T 1 (pc' := 60) (lv' := [(0, .int c)]) (st' := [.int 1]) (G' := G) rfl ?_
                exact zm_J_fin zm_T rfl rfl ⟨by rw [zr_p, if_neg h1, if_neg h2, if_neg h3, if_neg h4, if_neg k1, if_neg k2, if_pos k3], rfl⟩
              · rw [if_neg k3]
                refine zm_J_run zm_T 3 (pc' := if c = 63 then 67 else 69) (lv' := [(0, .int c)]) (st' := []) (G' := G) rfl ?_
                by_cases k4 : c = 63
                · rw [if_pos k4]
                  refine zm_J_run zm_T 1 (pc' := 68) (lv' := [(0, .int c)]) (st' := [.int 3]) (G' := G) rfl ?_
                  exact zm_J_fin zm_T rfl rfl ⟨by rw [zr_p, if_neg h1, if_neg h2, if_neg h3, if_neg h4, if_neg k1, if_neg k2, if_neg k3, if_pos k4], rfl⟩
                · rw [if_neg k4]
                  refine zm_J_run zm_T 3 (pc' := if c = 46 then 123 else 75) (lv' := [(0, .int c)]) (st' := []) (G' := G) rfl ?_
                  by_cases k5 : c = 46
                  · rw [if_pos k5]
                    refine zm_J_run zm_T 2 (pc' := 128) (lv' := [(0, .int c)]) (st' := [.int 2]) (G' := G) rfl ?_
                    exact zm_J_fin zm_T rfl rfl ⟨by rw [zr_p, if_neg h1, if_neg h2, if_neg h3, if_neg h4, if_neg k1, if_neg k2, if_neg k3, if_neg k4, if_pos k5], rfl⟩
                  · rw [if_neg k5]
                    refine zm_J_run zm_T 3 (pc' := if c = 43 then 123 else 81) (lv' := [(0, .int c)]) (st' := []) (G' := G) rfl ?_
                    by_cases k6 : c = 43
                    · rw [if_pos k6]
                      refine zm_J_run zm_T 2 (pc' := 128) (lv' := [(0, .int c)]) (st' := [.int 2]) (G' := G) rfl ?_
                      exact zm_J_fin zm_T rfl rfl ⟨by rw [zr_p, if_neg h1, if_neg h2, if_neg h3, if_neg h4, if_neg k1, if_neg k2, if_neg k3, if_neg k4, if_neg k5, if_pos k6], rfl⟩
                    · rw [if_neg k6]
                      refine zm_J_run zm_T 3 (pc' := if c = 45 then 123 else 87) (lv' := [(0, .int c)]) (st' := []) (G' := G) rfl ?_
                      by_cases k7 : c = 45
                      · rw [if_pos k7]
                        refine zm_J_run zm_T 2 (pc' := 128) (lv' := [(0, .int c)]) (st' := [.int 2]) (G' := G) rfl ?_
                        exact zm_J_fin zm_T rfl rfl ⟨by rw [zr_p, if_neg h1, if_neg h2, if_neg h3, if_neg h4, if_neg k1, if_neg k2, if_neg k3, if_neg k4, if_neg k5, if_neg k6, if_pos k7], rfl⟩
                      · rw [if_neg k7]
                        refine zm_J_run zm_T 3 (pc' := if c = 42 then 123 else 93) (lv' := [(0, .int c)]) (st' := []) (G' := G) rfl ?_
                        by_cases k8 : c = 42
                        · rw [if_pos k8]
                          refine zm_J_run zm_T 2 (pc' := 128) (lv' := [(0, .int c)]) (st' := [.int 2]) (G' := G) rfl ?_
                          exact zm_J_fin zm_T rfl rfl ⟨by rw [zr_p, if_neg h1, if_neg h2, if_neg h3, if_neg h4, if_neg k1, if_neg k2, if_neg k3, if_neg k4, if_neg k5, if_neg k6, if_neg k7, if_pos k8], rfl⟩
                        · rw [if_neg k8]
                          refine zm_J_run zm_T 3 (pc' := if c = 47 then 123 else 99) (lv' := [(0, .int c)]) (st' := []) (G' := G) rfl ?_
                          by_cases k9 : c = 47
                          · rw [if_pos k9]
                            refine zm_J_run zm_T 2 (pc' := 128) (lv' := [(0, .int c)]) (st' := [.int 2]) (G' := G) rfl ?_
                            exact zm_J_fin zm_T rfl rfl ⟨by rw [zr_p, if_neg h1, if_neg h2, if_neg h3, if_neg h4, if_neg k1, if_neg k2, if_neg k3, if_neg k4, if_neg k5, if_neg k6, if_neg k7, if_neg k8, if_pos k9], rfl⟩
                          · rw [if_neg k9]
                            refine zm_J_run zm_T 3 (pc' := if c = 37 then 123 else 105) (lv' := [(0, .int c)]) (st' := []) (G' := G) rfl ?_
                            by_cases k10 : c = 37
                            · rw [if_pos k10]
                              refine zm_J_run zm_T 2 (pc' := 128) (lv' := [(0, .int c)]) (st' := [.int 2]) (G' := G) rfl ?_
                              exact zm_J_fin zm_T rfl rfl ⟨by rw [zr_p, if_neg h1, if_neg h2, if_neg h3, if_neg h4, if_neg k1, if_neg k2, if_neg k3, if_neg k4, if_neg k5, if_neg k6, if_neg k7, if_neg k8, if_neg k9, if_pos k10], rfl⟩
                            · rw [if_neg k10]
                              refine zm_J_run zm_T 3 (pc' := if c = 60 then 123 else 111) (lv' := [(0, .int c)]) (st' := []) (G' := G) rfl ?_
                              by_cases k11 : c = 60
                              · rw [if_pos k11]
                                refine zm_J_run zm_T 2 (pc' := 128) (lv' := [(0, .int c)]) (st' := [.int 2]) (G' := G) rfl ?_
                                exact zm_J_fin zm_T rfl rfl ⟨by rw [zr_p, if_neg h1, if_neg h2, if_neg h3, if_neg h4, if_neg k1, if_neg k2, if_neg k3, if_neg k4, if_neg k5, if_neg k6, if_neg k7, if_neg k8, if_neg k9, if_neg k10, if_pos k11], rfl⟩
                              · rw [if_neg k11]
                                refine zm_J_run zm_T 3 (pc' := if c = 61 then 123 else 117) (lv' := [(0, .int c)]) (st' := []) (G' := G) rfl ?_
                                by_cases k12 : c = 61
                                · rw [if_pos k12]
                                  refine zm_J_run zm_T 2 (pc' := 128) (lv' := [(0, .int c)]) (st' := [.int 2]) (G' := G) rfl ?_
                                  exact zm_J_fin zm_T rfl rfl ⟨by rw [zr_p, if_neg h1, if_neg h2, if_neg h3, if_neg h4, if_neg k1, if_neg k2, if_neg k3, if_neg k4, if_neg k5, if_neg k6, if_neg k7, if_neg k8, if_neg k9, if_neg k10, if_neg k11, if_pos k12], rfl⟩
                                · rw [if_neg k12]
                                  refine zm_J_run zm_T 3 (pc' := if c = 58 then 123 else 127) (lv' := [(0, .int c)]) (st' := []) (G' := G) rfl ?_
                                  by_cases k13 : c = 58
                                  · rw [if_pos k13]
                                    refine zm_J_run zm_T 2 (pc' := 128) (lv' := [(0, .int c)]) (st' := [.int 2]) (G' := G) rfl ?_
                                    exact zm_J_fin zm_T rfl rfl ⟨by rw [zr_p, if_neg h1, if_neg h2, if_neg h3, if_neg h4, if_neg k1, if_neg k2, if_neg k3, if_neg k4, if_neg k5, if_neg k6, if_neg k7, if_neg k8, if_neg k9, if_neg k10, if_neg k11, if_neg k12, if_pos k13], rfl⟩
                                  · rw [if_neg k13]
                                    refine zm_J_run zm_T 1 (pc' := 128) (lv' := [(0, .int c)]) (st' := [.int (-1)]) (G' := G) rfl ?_
                                    exact zm_J_fin zm_T rfl rfl ⟨by rw [zr_p, if_neg h1, if_neg h2, if_neg h3, if_neg h4, if_neg k1, if_neg k2, if_neg k3, if_neg k4, if_neg k5, if_neg k6, if_neg k7, if_neg k8, if_neg k9, if_neg k10, if_neg k11, if_neg k12, if_neg k13], rfl⟩
theorem zr_skip_l {L : List Int32} (hL : zv_wL L) (hr : zr_r ex sl) (hd : 2 ≤ d) {v : Int32} : ∀ (w : List Int32) (k q : Nat), zv_ok L w k = true → k + 3 * w.length ≤ 100000 → zr_tx M (a 1) q w → zm_J N d 84 4 [(3, .int (nI k)), (2, .int (nI q)), (0, .ref 12), (1, .int v)] [] (zr_H C ex sl s a) (zr_R C ex sl (some (.int (nI (q + zv_n w k)))) s a) := by
  obtain ⟨d, rfl⟩ : ∃ e, d = e + 2 := ⟨d - 2, by omega⟩
  intro w
  induction w with
  | nil =>
    intro k q hok hk hq
    cases k with
    | succ k => cases hok
    | zero =>
      refine zm_J_run zm_T 2 (pc' := if (nI 0) ≤ 0 then 28 else 8) (lv' := [(3, .int (nI 0)), (2, .int (nI q)), (0, .ref 12), (1, .int v)]) (st' := []) (G' := (zr_H C ex sl s a)) rfl ?_
      rw [if_pos (show (nI 0) ≤ 0 from by decide)]
      refine zm_J_run zm_T 1 (pc' := 29) (lv' := [(3, .int (nI 0)), (2, .int (nI q)), (0, .ref 12), (1, .int v)]) (st' := [.int (nI q)]) (G' := (zr_H C ex sl s a)) rfl ?_
      exact zm_J_fin zm_T rfl rfl ⟨rfl, rfl⟩
  | cons c r ih =>
    intro k q hok hk hq
    cases k with
    | zero =>
      refine zm_J_run zm_T 2 (pc' := if (nI 0) ≤ 0 then 28 else 8) (lv' := [(3, .int (nI 0)), (2, .int (nI q)), (0, .ref 12), (1, .int v)]) (st' := []) (G' := (zr_H C ex sl s a)) rfl ?_
      rw [if_pos (show (nI 0) ≤ 0 from by decide)]
      refine zm_J_run zm_T 1 (pc' := 29) (lv' := [(3, .int (nI 0)), (2, .int (nI q)), (0, .ref 12), (1, .int v)]) (st' := [.int (nI q)]) (G' := (zr_H C ex sl s a)) rfl ?_
      exact zm_J_fin zm_T rfl rfl ⟨rfl, rfl⟩
    | succ k =>
      have hok : (zv_l L c && zv_ok L r (k + zv_p c)) = true := hok
      rw [Bool.and_eq_true] at hok
      obtain ⟨t1, t2, t3⟩ := hq.cons
      refine zm_J_run zm_T 2 (pc' := if (nI (k + 1)) ≤ 0 then 28 else 8) (lv' := [(3, .int (nI (k + 1))), (2, .int (nI q)), (0, .ref 12), (1, .int v)]) (st' := []) (G' := (zr_H C ex sl s a)) rfl ?_
      rw [if_neg (show ¬ ((nI (k + 1)) ≤ 0) from nI_nle (by omega) (by omega))]
      refine zm_J_run zm_T 4 (pc' := 14) (lv' := [(3, .int (nI (k + 1))), (2, .int (nI q)), (0, .ref 12), (1, .int v)]) (st' := [.int (nI q), .ref 14, .int (nI (k + 1))]) (G' := (zr_H C ex sl s a)) rfl ?_
      refine zg_ald (i := .iaload) (t := 0) (n := 21200) (f := a 1) (m := q) rfl rfl rfl rfl rfl (by omega) (by decide) ?_
      rw [show a 1 q = c from t1]
      refine zg_S (av := [.int c]) (rest := [.int (nI (k + 1))]) (v := some (.int (zr_p c))) (G2 := (zr_H C ex sl s a)) (zm_T.1 84 15 _ rfl).1 zc_84_15 (Nat.le_of_ble_eq_true rfl) (Nat.le_of_ble_eq_true rfl) (zr_c hr) (zr_s hr) (zr_parts (by omega) c _ (zr_c hr) (zr_s hr)) ?_
      show zm_J N _ 84 18 [(3, .int (nI (k + 1))), (2, .int (nI q)), (0, .ref 12), (1, .int v)] [.int (zr_p c), .int (nI (k + 1))] (zr_H C ex sl s a) _
      refine zm_J_run zm_T 5 (pc' := 25) (lv' := [(2, .int ((nI q) + 1)), (3, .int ((nI (k + 1)) + ((zr_p c) - 1))), (0, .ref 12), (1, .int v)]) (st' := []) (G' := (zr_H C ex sl s a)) rfl ?_
      rw [zr_p_v hL hok.1]
      show zm_J N _ 84 25 [(2, .int ((nI q) + 1)), (3, .int ((nI (k + 1)) + ((nI (zv_p c)) - 1))), (0, .ref 12), (1, .int v)] [] (zr_H C ex sl s a) _
      rw [show nI (k + 1) + (nI (zv_p c) - 1) = nI (k + zv_p c) from by rw [← nI_1 k, zi_ks, nI_add]]
      show zm_J N _ 84 25 [(2, .int ((nI q) + 1)), (3, .int (nI (k + zv_p c))), (0, .ref 12), (1, .int v)] [] (zr_H C ex sl s a) _
      rw [show nI q + 1 = nI (q + 1) from nI_1 q]
      show zm_J N _ 84 25 [(2, .int (nI (q + 1))), (3, .int (nI (k + zv_p c))), (0, .ref 12), (1, .int v)] [] (zr_H C ex sl s a) _
      refine zm_J_run zm_T 1 (pc' := 4) (lv' := [(2, .int (nI (q + 1))), (3, .int (nI (k + zv_p c))), (0, .ref 12), (1, .int v)]) (st' := []) (G' := (zr_H C ex sl s a)) rfl ?_
      refine zm_J_lv (lv' := [(3, .int (nI (k + zv_p c))), (2, .int (nI (q + 1))), (0, .ref 12), (1, .int v)]) (by simp) ?_
      have hh := ih (k + zv_p c) (q + 1) hok.2 (by have := zv_p_le c; rw [List.length_cons] at hk; omega) t3
      rw [show q + 1 + zv_n r (k + zv_p c) = q + zv_n (c :: r) (k + 1) from by show _ = q + (zv_n r (k + zv_p c) + 1); omega] at hh
      exact hh
theorem zr_skip {L : List Int32} (hL : zv_wL L) (hr : zr_r ex sl) (hd : 2 ≤ d) {w : List Int32} {q : Nat} (hok : zv_ok L w 1 = true) (hq : zr_tx M (a 1) q w) : zm_J N d 84 0 [(0, .ref 12), (1, .int (nI q))] [] (zr_H C ex sl s a) (zr_R C ex sl (some (.int (nI (q + zv_n w 1)))) s a) := by
  refine zm_J_run zm_T 4 (pc' := 4) (lv' := [(3, .int 1), (2, .int (nI q)), (0, .ref 12), (1, .int (nI q))]) (st' := []) (G' := (zr_H C ex sl s a)) rfl ?_
  refine zm_J_lv (lv' := [(3, .int 1), (2, .int (nI q)), (0, .ref 12), (1, .int (nI q))]) (by simp) ?_
  exact zr_skip_l hL hr hd w 1 q hok (by have := hq.1; have := hq.2.1; omega) hq
theorem zr_bad (b : Bool)  : zm_J N d 74 0 [(0, .ref 12), (1, .int (if b = true then 1 else 0))] [] (zr_H C ex sl s a) (zr_R C ex sl (some (.int (if b = true then 0 else 1))) (zu s 12 (if b = true then 0 else 1)) a) := by
  by_cases hb : b = true
  · subst hb
    show zm_J N _ 74 0 [(0, .ref 12), (1, .int 1)] [] (zr_H C ex sl s a) _
    refine zm_J_run zm_T 9 (pc' := 22) (lv' := [(0, .ref 12), (1, .int 1)]) (st' := [.int 0]) (G' := (zr_H C ex sl (zu s 12 0) a)) rfl ?_
    exact zm_J_fin zm_T rfl rfl ⟨rfl, rfl⟩
  · rw [Bool.not_eq_true] at hb; subst hb
    show zm_J N _ 74 0 [(0, .ref 12), (1, .int 0)] [] (zr_H C ex sl s a) _
    refine zm_J_run zm_T 9 (pc' := 22) (lv' := [(0, .ref 12), (1, .int 0)]) (st' := [.int 1]) (G' := (zr_H C ex sl (zu s 12 1) a)) rfl ?_
    exact zm_J_fin zm_T rfl rfl ⟨rfl, rfl⟩
theorem zr_fail (x : Int32)  : zm_J N d 75 0 [(0, .ref 12), (1, .int x)] [] (zr_H C ex sl s a) (zr_R C ex sl (some (.int 0)) (zu s 12 x) a) := by
  refine zm_J_run zm_T 4 (pc' := 6) (lv' := [(0, .ref 12), (1, .int x)]) (st' := [.int 0]) (G' := (zr_H C ex sl (zu s 12 x) a)) rfl ?_
  exact zm_J_fin zm_T rfl rfl ⟨rfl, rfl⟩
theorem zr_look1 {q n : Nat} (hq : s 10 = nI q) (hn : s 8 = nI n) (h : q < n) (h4 : n ≤ 40)  : zm_J N d 78 0 [(0, .ref 12)] [] (zr_H C ex sl s a) (zr_R C ex sl (some (.int (a 0 q))) s a) := by
  refine zm_J_run zm_T 5 (pc' := if (s 8) ≤ (s 10) then 23 else 11) (lv' := [(0, .ref 12)]) (st' := []) (G' := (zr_H C ex sl s a)) rfl ?_
  rw [if_neg (show ¬ ((s 8) ≤ (s 10)) from by rw [hq, hn]; exact nI_ge h (by omega))]
  refine zm_J_run zm_T 4 (pc' := 19) (lv' := [(0, .ref 12)]) (st' := [.int (s 10), .ref 13]) (G' := (zr_H C ex sl s a)) rfl ?_
  refine zg_ald (i := .iaload) (t := 0) (n := 40) (f := a 0) (m := q) rfl rfl rfl rfl hq (by omega) (by decide) ?_
  refine zm_J_run zm_T 1 (pc' := 24) (lv' := [(0, .ref 12)]) (st' := [.int (a 0 q)]) (G' := (zr_H C ex sl s a)) rfl ?_
  exact zm_J_fin zm_T rfl rfl ⟨rfl, rfl⟩
theorem zr_look0 {q n : Nat} (hq : s 10 = nI q) (hn : s 8 = nI n) (h : n ≤ q) (h4 : q ≤ 100)  : zm_J N d 78 0 [(0, .ref 12)] [] (zr_H C ex sl s a) (zr_R C ex sl (some (.int 0)) s a) := by
  refine zm_J_run zm_T 5 (pc' := if (s 8) ≤ (s 10) then 23 else 11) (lv' := [(0, .ref 12)]) (st' := []) (G' := (zr_H C ex sl s a)) rfl ?_
  rw [if_pos (show (s 8) ≤ (s 10) from by rw [hq, hn]; exact nI_le h (by omega))]
  refine zm_J_run zm_T 1 (pc' := 24) (lv' := [(0, .ref 12)]) (st' := [.int 0]) (G' := (zr_H C ex sl s a)) rfl ?_
  exact zm_J_fin zm_T rfl rfl ⟨rfl, rfl⟩
def zr_pS (s : Nat → Int32) (D : Nat) : Nat → Int32 := if D = 60 then zu s 12 4 else zu (zu s 31 (nI (D + 1))) 32 (if nI (D + 1) ≤ s 32 then s 32 else nI (D + 1))
def zr_pA (a : Nat → Nat → Int32) (D : Nat) (p e : Int32) : Nat → Nat → Int32 := if D = 60 then a else zu (zu (zu (zu a 18 (upd (a 18) (D + 1) p)) 19 (upd (a 19) (D + 1) e)) 20 (upd (a 20) (D + 1) 0)) 22 (upd (a 22) (D + 1) (-1))
theorem zr_push {D : Nat} (hD : s 31 = nI D) (h60 : D ≤ 60) (p e : Int32) : zm_J N d 86 0 [(0, .ref 12), (1, .int p), (2, .int e)] [] (zr_H C ex sl s a) (zr_R C ex sl none (zr_pS s D) (zr_pA a D p e)) := by
  by_cases h : D = 60
  · rw [zr_pS, zr_pA, if_pos h, if_pos h]
    subst h
    refine zm_J_run zm_T 4 (pc' := if (s 31) = 60 then 9 else 15) (lv' := [(0, .ref 12), (1, .int p), (2, .int e)]) (st' := []) (G' := (zr_H C ex sl s a)) rfl ?_
    rw [if_pos (show (s 31) = 60 from hD)]
    refine zm_J_run zm_T 3 (pc' := 14) (lv' := [(0, .ref 12), (1, .int p), (2, .int e)]) (st' := []) (G' := (zr_H C ex sl (zu s 12 4) a)) rfl ?_
    exact zm_J_fin zm_T rfl rfl ⟨rfl, rfl⟩
  · rw [zr_pS, zr_pA, if_neg h, if_neg h]
    refine zm_J_run zm_T 4 (pc' := if (s 31) = 60 then 9 else 15) (lv' := [(0, .ref 12), (1, .int p), (2, .int e)]) (st' := []) (G' := (zr_H C ex sl s a)) rfl ?_
    rw [if_neg (show ¬ ((s 31) = 60) from fun z => h ((nI_eq (by omega) (by omega)).mp (hD.symm.trans z)))]
    refine zm_J_run zm_T 6 (pc' := 25) (lv' := [(0, .ref 12), (1, .int p), (2, .int e)]) (st' := []) (G' := (zr_H C ex sl (zu s 31 ((s 31) + 1)) a)) rfl ?_
    rw [show s 31 + 1 = nI (D + 1) from by rw [hD]; exact nI_1 D]
    show zm_J N _ 86 25 [(0, .ref 12), (1, .int p), (2, .int e)] [] (zr_H C ex sl (zu s 31 (nI (D + 1))) a) _
    refine zm_J_run zm_T 5 (pc' := if (nI (D + 1)) ≤ (s 32) then 44 else 36) (lv' := [(0, .ref 12), (1, .int p), (2, .int e)]) (st' := []) (G' := (zr_H C ex sl (zu s 31 (nI (D + 1))) a)) rfl ?_
    by_cases h2 : (nI (D + 1)) ≤ (s 32)
    · rw [if_pos h2]
      refine zm_J_run zm_T 5 (pc' := 53) (lv' := [(0, .ref 12), (1, .int p), (2, .int e)]) (st' := [.int p, .int (nI (D + 1)), .ref 31]) (G' := (zr_H C ex sl (zu s 31 (nI (D + 1))) a)) rfl ?_
      refine zg_ast (i := .iastore) (t := 0) (n := 64) (f := a 18) (m := D + 1) (v' := p) (G' := (zr_H C ex sl (zu s 31 (nI (D + 1))) (zu a 18 (upd (a 18) (D + 1) p)))) rfl rfl rfl rfl (by decide) rfl (by omega) (by decide) rfl ?_
      refine zm_J_run zm_T 5 (pc' := 63) (lv' := [(0, .ref 12), (1, .int p), (2, .int e)]) (st' := [.int e, .int (nI (D + 1)), .ref 32]) (G' := (zr_H C ex sl (zu s 31 (nI (D + 1))) (zu a 18 (upd (a 18) (D + 1) p)))) rfl ?_
      refine zg_ast (i := .iastore) (t := 0) (n := 64) (f := a 19) (m := D + 1) (v' := e) (G' := (zr_H C ex sl (zu s 31 (nI (D + 1))) (zu (zu a 18 (upd (a 18) (D + 1) p)) 19 (upd (a 19) (D + 1) e)))) rfl rfl rfl rfl (by decide) rfl (by omega) (by decide) rfl ?_
      refine zm_J_run zm_T 5 (pc' := 73) (lv' := [(0, .ref 12), (1, .int p), (2, .int e)]) (st' := [.int 0, .int (nI (D + 1)), .ref 33]) (G' := (zr_H C ex sl (zu s 31 (nI (D + 1))) (zu (zu a 18 (upd (a 18) (D + 1) p)) 19 (upd (a 19) (D + 1) e)))) rfl ?_
      refine zg_ast (i := .iastore) (t := 0) (n := 64) (f := a 20) (m := D + 1) (v' := 0) (G' := (zr_H C ex sl (zu s 31 (nI (D + 1))) (zu (zu (zu a 18 (upd (a 18) (D + 1) p)) 19 (upd (a 19) (D + 1) e)) 20 (upd (a 20) (D + 1) 0)))) rfl rfl rfl rfl (by decide) rfl (by omega) (by decide) rfl ?_
      refine zm_J_run zm_T 5 (pc' := 83) (lv' := [(0, .ref 12), (1, .int p), (2, .int e)]) (st' := [.int (-1), .int (nI (D + 1)), .ref 35]) (G' := (zr_H C ex sl (zu s 31 (nI (D + 1))) (zu (zu (zu a 18 (upd (a 18) (D + 1) p)) 19 (upd (a 19) (D + 1) e)) 20 (upd (a 20) (D + 1) 0)))) rfl ?_
      refine zg_ast (i := .iastore) (t := 0) (n := 64) (f := a 22) (m := D + 1) (v' := (-1)) (G' := (zr_H C ex sl (zu s 31 (nI (D + 1))) (zu (zu (zu (zu a 18 (upd (a 18) (D + 1) p)) 19 (upd (a 19) (D + 1) e)) 20 (upd (a 20) (D + 1) 0)) 22 (upd (a 22) (D + 1) (-1))))) rfl rfl rfl rfl (by decide) rfl (by omega) (by decide) rfl ?_
      exact zm_J_fin zm_T rfl rfl ⟨rfl, congrArg (fun x => zr_H C ex sl x _) (by rw [if_pos h2]; exact (zu_same (zu s 31 (nI (D + 1))) 32).symm)⟩
    · rw [if_neg h2]
      refine zm_J_run zm_T 9 (pc' := 53) (lv' := [(0, .ref 12), (1, .int p), (2, .int e)]) (st' := [.int p, .int (nI (D + 1)), .ref 31]) (G' := (zr_H C ex sl (zu (zu s 31 (nI (D + 1))) 32 (nI (D + 1))) a)) rfl ?_
      refine zg_ast (i := .iastore) (t := 0) (n := 64) (f := a 18) (m := D + 1) (v' := p) (G' := (zr_H C ex sl (zu (zu s 31 (nI (D + 1))) 32 (nI (D + 1))) (zu a 18 (upd (a 18) (D + 1) p)))) rfl rfl rfl rfl (by decide) rfl (by omega) (by decide) rfl ?_
      refine zm_J_run zm_T 5 (pc' := 63) (lv' := [(0, .ref 12), (1, .int p), (2, .int e)]) (st' := [.int e, .int (nI (D + 1)), .ref 32]) (G' := (zr_H C ex sl (zu (zu s 31 (nI (D + 1))) 32 (nI (D + 1))) (zu a 18 (upd (a 18) (D + 1) p)))) rfl ?_
      refine zg_ast (i := .iastore) (t := 0) (n := 64) (f := a 19) (m := D + 1) (v' := e) (G' := (zr_H C ex sl (zu (zu s 31 (nI (D + 1))) 32 (nI (D + 1))) (zu (zu a 18 (upd (a 18) (D + 1) p)) 19 (upd (a 19) (D + 1) e)))) rfl rfl rfl rfl (by decide) rfl (by omega) (by decide) rfl ?_
      refine zm_J_run zm_T 5 (pc' := 73) (lv' := [(0, .ref 12), (1, .int p), (2, .int e)]) (st' := [.int 0, .int (nI (D + 1)), .ref 33]) (G' := (zr_H C ex sl (zu (zu s 31 (nI (D + 1))) 32 (nI (D + 1))) (zu (zu a 18 (upd (a 18) (D + 1) p)) 19 (upd (a 19) (D + 1) e)))) rfl ?_
      refine zg_ast (i := .iastore) (t := 0) (n := 64) (f := a 20) (m := D + 1) (v' := 0) (G' := (zr_H C ex sl (zu (zu s 31 (nI (D + 1))) 32 (nI (D + 1))) (zu (zu (zu a 18 (upd (a 18) (D + 1) p)) 19 (upd (a 19) (D + 1) e)) 20 (upd (a 20) (D + 1) 0)))) rfl rfl rfl rfl (by decide) rfl (by omega) (by decide) rfl ?_
      refine zm_J_run zm_T 5 (pc' := 83) (lv' := [(0, .ref 12), (1, .int p), (2, .int e)]) (st' := [.int (-1), .int (nI (D + 1)), .ref 35]) (G' := (zr_H C ex sl (zu (zu s 31 (nI (D + 1))) 32 (nI (D + 1))) (zu (zu (zu a 18 (upd (a 18) (D + 1) p)) 19 (upd (a 19) (D + 1) e)) 20 (upd (a 20) (D + 1) 0)))) rfl ?_
      refine zg_ast (i := .iastore) (t := 0) (n := 64) (f := a 22) (m := D + 1) (v' := (-1)) (G' := (zr_H C ex sl (zu (zu s 31 (nI (D + 1))) 32 (nI (D + 1))) (zu (zu (zu (zu a 18 (upd (a 18) (D + 1) p)) 19 (upd (a 19) (D + 1) e)) 20 (upd (a 20) (D + 1) 0)) 22 (upd (a 22) (D + 1) (-1))))) rfl rfl rfl rfl (by decide) rfl (by omega) (by decide) rfl ?_
      exact zm_J_fin zm_T rfl rfl ⟨rfl, congrArg (fun x => zr_H C ex sl x _) (by rw [if_neg h2])⟩
def zr_gS (s : Nat → Int32) (k x y : Int32) : Nat → Int32 := zu (zu (zu (zu s 37 k) 38 x) 39 y) 31 (s 31 - 1)
theorem zr_give (k x y : Int32)  : zm_J N d 90 0 [(0, .ref 12), (1, .int k), (2, .int x), (3, .int y)] [] (zr_H C ex sl s a) (zr_R C ex sl none (zr_gS s k x y) a) := by
  refine zm_J_run zm_T 12 (pc' := 20) (lv' := [(0, .ref 12), (1, .int k), (2, .int x), (3, .int y)]) (st' := [.int (s 31), .ref 12]) (G' := (zr_H C ex sl (zu (zu (zu s 37 k) 38 x) 39 y) a)) rfl ?_
  refine zm_J_run zm_T 3 (pc' := 25) (lv' := [(0, .ref 12), (1, .int k), (2, .int x), (3, .int y)]) (st' := []) (G' := (zr_H C ex sl (zu (zu (zu (zu s 37 k) 38 x) 39 y) 31 ((s 31) - 1)) a)) rfl ?_
  exact zm_J_fin zm_T rfl rfl ⟨rfl, rfl⟩
def zr_env (a : Nat → Nat → Int32) (e : Nat) (L : List Int32) (A : List Nat) : Prop := e ≤ 400 ∧ L.length ≤ 4 ∧ ∀ i x, L[i]? = some x → a 14 (4 * e + i) = x ∧ ∃ y, A[i]? = some y ∧ a 15 (4 * e + i) = nI y
theorem zr_par_l {L : List Int32} {A : List Nat} {c : Int32} {e : Nat} (he : zr_env a e L A) (hc : c ∈ L) {w : Int32} : ∀ (k i : Nat), i + k = L.idxOf c → zm_J N d 94 4 [(3, .int (nI (4 * e + i))), (0, .ref 12), (1, .int c), (2, .int w)] [] (zr_H C ex sl s a) (zr_R C ex sl (some (.int (nI (zv_ar L A c)))) s a) := by
  have hi : L.idxOf c < L.length := List.idxOf_lt_length_iff.mpr hc
  obtain ⟨he1, he2, he3⟩ := he
  intro k
  induction k with
  | zero =>
    intro i hk
    have hk : i = L.idxOf c := hk
    obtain ⟨e1, y, e2, e3⟩ := he3 i c (by rw [hk, List.getElem?_eq_getElem hi, List.getElem_idxOf hi])
    have e4 : zv_ar L A c = y := by unfold zv_ar; rw [← hk, List.getD_eq_getElem?_getD, e2]; rfl
    rw [e4]
    refine zm_J_run zm_T 3 (pc' := 9) (lv' := [(3, .int (nI (4 * e + i))), (0, .ref 12), (1, .int c), (2, .int w)]) (st' := [.int (nI (4 * e + i)), .ref 27]) (G' := (zr_H C ex sl s a)) rfl ?_
    refine zg_ald (i := .iaload) (t := 0) (n := 1700) (f := a 14) (m := 4 * e + i) rfl rfl rfl rfl rfl (by omega) (by decide) ?_
    rw [show a 14 (4 * e + i) = c from e1]
    refine zm_J_run zm_T 2 (pc' := if c = c then 20 else 14) (lv' := [(3, .int (nI (4 * e + i))), (0, .ref 12), (1, .int c), (2, .int w)]) (st' := []) (G' := (zr_H C ex sl s a)) rfl ?_
    rw [if_pos (show c = c from rfl)]
    refine zm_J_run zm_T 3 (pc' := 25) (lv' := [(3, .int (nI (4 * e + i))), (0, .ref 12), (1, .int c), (2, .int w)]) (st' := [.int (nI (4 * e + i)), .ref 28]) (G' := (zr_H C ex sl s a)) rfl ?_
    refine zg_ald (i := .iaload) (t := 0) (n := 1700) (f := a 15) (m := 4 * e + i) rfl rfl rfl rfl rfl (by omega) (by decide) ?_
    rw [show a 15 (4 * e + i) = nI y from e3]
    exact zm_J_fin zm_T rfl rfl ⟨rfl, rfl⟩
  | succ k ih =>
    intro i hk
    have hl : i < L.length := by omega
    obtain ⟨e1, -⟩ := he3 i L[i] (List.getElem?_eq_getElem hl)
    have hne : L[i] ≠ c := fun z => by
      have h1 := zv_idx_le (L := L) (i := i) (c := c) (by rw [List.getElem?_eq_getElem hl, z])
      omega
    refine zm_J_run zm_T 3 (pc' := 9) (lv' := [(3, .int (nI (4 * e + i))), (0, .ref 12), (1, .int c), (2, .int w)]) (st' := [.int (nI (4 * e + i)), .ref 27]) (G' := (zr_H C ex sl s a)) rfl ?_
    refine zg_ald (i := .iaload) (t := 0) (n := 1700) (f := a 14) (m := 4 * e + i) rfl rfl rfl rfl rfl (by omega) (by decide) ?_
    rw [show a 14 (4 * e + i) = L[i] from e1]
    refine zm_J_run zm_T 2 (pc' := if (L[i]) = c then 20 else 14) (lv' := [(3, .int (nI (4 * e + i))), (0, .ref 12), (1, .int c), (2, .int w)]) (st' := []) (G' := (zr_H C ex sl s a)) rfl ?_
    rw [if_neg (show ¬ ((L[i]) = c) from hne)]
    refine zm_J_run zm_T 1 (pc' := 17) (lv' := [(3, .int ((nI (4 * e + i)) + 1)), (0, .ref 12), (1, .int c), (2, .int w)]) (st' := []) (G' := (zr_H C ex sl s a)) rfl ?_
    rw [show nI (4 * e + i) + 1 = nI (4 * e + (i + 1)) from nI_1 _]
    show zm_J N _ 94 17 [(3, .int (nI (4 * e + (i + 1)))), (0, .ref 12), (1, .int c), (2, .int w)] [] (zr_H C ex sl s a) _
    refine zm_J_run zm_T 1 (pc' := 4) (lv' := [(3, .int (nI (4 * e + (i + 1)))), (0, .ref 12), (1, .int c), (2, .int w)]) (st' := []) (G' := (zr_H C ex sl s a)) rfl ?_
    exact ih (i + 1) (by omega)
theorem zr_par {L : List Int32} {A : List Nat} {c : Int32} {e : Nat} (he : zr_env a e L A) (hc : c ∈ L) : zm_J N d 94 0 [(0, .ref 12), (1, .int c), (2, .int (nI e))] [] (zr_H C ex sl s a) (zr_R C ex sl (some (.int (nI (zv_ar L A c)))) s a) := by
  refine zm_J_run zm_T 4 (pc' := 4) (lv' := [(3, .int ((nI e) * 4)), (0, .ref 12), (1, .int c), (2, .int (nI e))]) (st' := []) (G' := (zr_H C ex sl s a)) rfl ?_
  rw [show nI e * 4 = nI (4 * e + 0) from by rw [Nat.add_zero, Nat.mul_comm]; exact pk_mul e 4]
  show zm_J N _ 94 4 [(3, .int (nI (4 * e + 0))), (0, .ref 12), (1, .int c), (2, .int (nI e))] [] (zr_H C ex sl s a) _
  exact zr_par_l he hc (L.idxOf c) 0 (by omega)
theorem zr_cloP (hr : zr_r ex sl) {L : List Int32} {A : List Nat} {c : Int32} {e p : Nat} (he : zr_env a e L A) (hc : c ∈ L) (hp : a 1 p = c) (hp2 : p < 21200) (hl : 97 ≤ c ∧ c ≤ 102) (hd : 1 ≤ d)  : zm_J N d 93 0 [(0, .ref 12), (1, .int (nI p)), (2, .int (nI e))] [] (zr_H C ex sl s a) (zr_R C ex sl (some (.int (nI (zv_ar L A c)))) s a) := by
  obtain ⟨d, rfl⟩ : ∃ e, d = e + 1 := ⟨d - 1, by omega⟩
  refine zm_J_run zm_T 3 (pc' := 5) (lv' := [(0, .ref 12), (1, .int (nI p)), (2, .int (nI e))]) (st' := [.int (nI p), .ref 14]) (G' := (zr_H C ex sl s a)) rfl ?_
  refine zg_ald (i := .iaload) (t := 0) (n := 21200) (f := a 1) (m := p) rfl rfl rfl rfl rfl (by omega) (by decide) ?_
  rw [show a 1 p = c from hp]
  refine zm_J_run zm_T 2 (pc' := 10) (lv' := [(0, .ref 12), (1, .int (nI p)), (2, .int (nI e))]) (st' := [.int 102, .int 97, .int c]) (G' := (zr_H C ex sl s a)) rfl ?_
  refine zg_S (av := [.int c, .int 97, .int 102]) (rest := []) (v := some (.int (if 97 ≤ c ∧ c ≤ 102 then 1 else 0))) (G2 := (zr_H C ex sl s a)) (zm_T.1 93 10 _ rfl).1 zc_93_10 (Nat.le_of_ble_eq_true rfl) (Nat.le_of_ble_eq_true rfl) (zr_c hr) (zr_s hr) (zr_btw c 97 102 _) ?_
  show zm_J N _ 93 13 [(0, .ref 12), (1, .int (nI p)), (2, .int (nI e))] [.int (if 97 ≤ c ∧ c ≤ 102 then 1 else 0)] (zr_H C ex sl s a) _
  rw [if_pos hl]
  show zm_J N _ 93 13 [(0, .ref 12), (1, .int (nI p)), (2, .int (nI e))] [.int 1] (zr_H C ex sl s a) _
  refine zm_J_run zm_T 5 (pc' := 22) (lv' := [(0, .ref 12), (1, .int (nI p)), (2, .int (nI e))]) (st' := [.int (nI p), .ref 14, .ref 12]) (G' := (zr_H C ex sl s a)) rfl ?_
  refine zg_ald (i := .iaload) (t := 0) (n := 21200) (f := a 1) (m := p) rfl rfl rfl rfl rfl (by omega) (by decide) ?_
  rw [show a 1 p = c from hp]
  refine zm_J_run zm_T 1 (pc' := 24) (lv' := [(0, .ref 12), (1, .int (nI p)), (2, .int (nI e))]) (st' := [.int (nI e), .int c, .ref 12]) (G' := (zr_H C ex sl s a)) rfl ?_
  refine zg_V (a := 12) (av := [.int c, .int (nI e)]) (rest := []) (v := some (.int (nI (zv_ar L A c)))) (G2 := (zr_H C ex sl s a)) (zm_T.1 93 24 _ rfl).1 zc_93_24 rfl (Nat.le_of_ble_eq_true rfl) (Nat.le_of_ble_eq_true rfl) (zr_c hr) (zr_s hr) (zr_par he hc) ?_
  show zm_J N _ 93 27 [(0, .ref 12), (1, .int (nI p)), (2, .int (nI e))] [.int (nI (zv_ar L A c))] (zr_H C ex sl s a) _
  exact zm_J_fin zm_T rfl rfl ⟨rfl, rfl⟩
def zr_cS (s : Nat → Int32) (n : Nat) : Nat → Int32 := zu s 23 (nI (n + 1))
def zr_cA (a : Nat → Nat → Int32) (n : Nat) (p e : Int32) : Nat → Nat → Int32 := zu (zu (zu a 8 (upd (a 8) n p)) 9 (upd (a 9) n e)) 10 (upd (a 10) n 0)
theorem zr_cloN (hr : zr_r ex sl) {n p : Nat} {e : Int32} (hn : s 23 = nI n) (hn2 : n < 16400) (hp2 : p < 21200) (hl : ¬ (97 ≤ a 1 p ∧ a 1 p ≤ 102)) (hd : 1 ≤ d)  : zm_J N d 93 0 [(0, .ref 12), (1, .int (nI p)), (2, .int e)] [] (zr_H C ex sl s a) (zr_R C ex sl (some (.int (nI n))) (zr_cS s n) (zr_cA a n (nI p) e)) := by
  obtain ⟨d, rfl⟩ : ∃ e, d = e + 1 := ⟨d - 1, by omega⟩
  refine zm_J_run zm_T 3 (pc' := 5) (lv' := [(0, .ref 12), (1, .int (nI p)), (2, .int e)]) (st' := [.int (nI p), .ref 14]) (G' := (zr_H C ex sl s a)) rfl ?_
  refine zg_ald (i := .iaload) (t := 0) (n := 21200) (f := a 1) (m := p) rfl rfl rfl rfl rfl (by omega) (by decide) ?_
  refine zm_J_run zm_T 2 (pc' := 10) (lv' := [(0, .ref 12), (1, .int (nI p)), (2, .int e)]) (st' := [.int 102, .int 97, .int (a 1 p)]) (G' := (zr_H C ex sl s a)) rfl ?_
  refine zg_S (av := [.int (a 1 p), .int 97, .int 102]) (rest := []) (v := some (.int (if 97 ≤ (a 1 p) ∧ (a 1 p) ≤ 102 then 1 else 0))) (G2 := (zr_H C ex sl s a)) (zm_T.1 93 10 _ rfl).1 zc_93_10 (Nat.le_of_ble_eq_true rfl) (Nat.le_of_ble_eq_true rfl) (zr_c hr) (zr_s hr) (zr_btw (a 1 p) 97 102 _) ?_
  show zm_J N _ 93 13 [(0, .ref 12), (1, .int (nI p)), (2, .int e)] [.int (if 97 ≤ (a 1 p) ∧ (a 1 p) ≤ 102 then 1 else 0)] (zr_H C ex sl s a) _
  rw [if_neg hl]
  show zm_J N _ 93 13 [(0, .ref 12), (1, .int (nI p)), (2, .int e)] [.int 0] (zr_H C ex sl s a) _
  refine zm_J_run zm_T 6 (pc' := 37) (lv' := [(0, .ref 12), (1, .int (nI p)), (2, .int e)]) (st' := [.int (nI p), .int (s 23), .ref 21]) (G' := (zr_H C ex sl s a)) rfl ?_
  refine zg_ast (i := .iastore) (t := 0) (n := 16400) (f := a 8) (m := n) (v' := (nI p)) (G' := (zr_H C ex sl s (zu a 8 (upd (a 8) n (nI p))))) rfl rfl rfl rfl (by decide) hn (by omega) (by decide) rfl ?_
  refine zm_J_run zm_T 5 (pc' := 47) (lv' := [(0, .ref 12), (1, .int (nI p)), (2, .int e)]) (st' := [.int e, .int (s 23), .ref 22]) (G' := (zr_H C ex sl s (zu a 8 (upd (a 8) n (nI p))))) rfl ?_
  refine zg_ast (i := .iastore) (t := 0) (n := 16400) (f := a 9) (m := n) (v' := e) (G' := (zr_H C ex sl s (zu (zu a 8 (upd (a 8) n (nI p))) 9 (upd (a 9) n e)))) rfl rfl rfl rfl (by decide) hn (by omega) (by decide) rfl ?_
  refine zm_J_run zm_T 5 (pc' := 57) (lv' := [(0, .ref 12), (1, .int (nI p)), (2, .int e)]) (st' := [.int 0, .int (s 23), .ref 23]) (G' := (zr_H C ex sl s (zu (zu a 8 (upd (a 8) n (nI p))) 9 (upd (a 9) n e)))) rfl ?_
  refine zg_ast (i := .iastore) (t := 0) (n := 16400) (f := a 10) (m := n) (v' := 0) (G' := (zr_H C ex sl s (zu (zu (zu a 8 (upd (a 8) n (nI p))) 9 (upd (a 9) n e)) 10 (upd (a 10) n 0)))) rfl rfl rfl rfl (by decide) hn (by omega) (by decide) rfl ?_
  refine zm_J_run zm_T 6 (pc' := 68) (lv' := [(0, .ref 12), (1, .int (nI p)), (2, .int e)]) (st' := []) (G' := (zr_H C ex sl (zu s 23 ((s 23) + 1)) (zu (zu (zu a 8 (upd (a 8) n (nI p))) 9 (upd (a 9) n e)) 10 (upd (a 10) n 0)))) rfl ?_
  rw [show s 23 + 1 = nI (n + 1) from by rw [hn]; exact nI_1 n]
  show zm_J N _ 93 68 [(0, .ref 12), (1, .int (nI p)), (2, .int e)] [] (zr_H C ex sl (zu s 23 (nI (n + 1))) (zu (zu (zu a 8 (upd (a 8) n (nI p))) 9 (upd (a 9) n e)) 10 (upd (a 10) n 0))) _
  refine zm_J_run zm_T 4 (pc' := 74) (lv' := [(0, .ref 12), (1, .int (nI p)), (2, .int e)]) (st' := [.int ((nI (n + 1)) - 1)]) (G' := (zr_H C ex sl (zu s 23 (nI (n + 1))) (zu (zu (zu a 8 (upd (a 8) n (nI p))) 9 (upd (a 9) n e)) 10 (upd (a 10) n 0)))) rfl ?_
  rw [show nI (n + 1) - 1 = nI n from nI_pred n]
  show zm_J N _ 93 74 [(0, .ref 12), (1, .int (nI p)), (2, .int e)] [.int (nI n)] (zr_H C ex sl (zu s 23 (nI (n + 1))) (zu (zu (zu a 8 (upd (a 8) n (nI p))) 9 (upd (a 9) n e)) 10 (upd (a 10) n 0))) _
  exact zm_J_fin zm_T rfl rfl ⟨rfl, rfl⟩
theorem zr_giveC (hr : zr_r ex sl) {c : Nat} (hc : c < 16400) (hd : 1 ≤ d)  : zm_J N d 89 0 [(0, .ref 12), (1, .int (nI c))] [] (zr_H C ex sl s a) (zr_R C ex sl none (zr_gS s (a 11 c) (a 12 c) (a 13 c)) a) := by
  obtain ⟨d, rfl⟩ : ∃ e, d = e + 1 := ⟨d - 1, by omega⟩
  refine zm_J_run zm_T 4 (pc' := 6) (lv' := [(0, .ref 12), (1, .int (nI c))]) (st' := [.int (nI c), .ref 24, .ref 12]) (G' := (zr_H C ex sl s a)) rfl ?_
  refine zg_ald (i := .iaload) (t := 0) (n := 16400) (f := a 11) (m := c) rfl rfl rfl rfl rfl (by omega) (by decide) ?_
  refine zm_J_run zm_T 3 (pc' := 12) (lv' := [(0, .ref 12), (1, .int (nI c))]) (st' := [.int (nI c), .ref 25, .int (a 11 c), .ref 12]) (G' := (zr_H C ex sl s a)) rfl ?_
  refine zg_ald (i := .iaload) (t := 0) (n := 16400) (f := a 12) (m := c) rfl rfl rfl rfl rfl (by omega) (by decide) ?_
  refine zm_J_run zm_T 3 (pc' := 18) (lv' := [(0, .ref 12), (1, .int (nI c))]) (st' := [.int (nI c), .ref 26, .int (a 12 c), .int (a 11 c), .ref 12]) (G' := (zr_H C ex sl s a)) rfl ?_
  refine zg_ald (i := .iaload) (t := 0) (n := 16400) (f := a 13) (m := c) rfl rfl rfl rfl rfl (by omega) (by decide) ?_
  refine zg_V (a := 12) (av := [.int (a 11 c), .int (a 12 c), .int (a 13 c)]) (rest := []) (v := none) (G2 := (zr_H C ex sl (zr_gS s (a 11 c) (a 12 c) (a 13 c)) a)) (zm_T.1 89 19 _ rfl).1 zc_89_19 rfl (Nat.le_of_ble_eq_true rfl) (Nat.le_of_ble_eq_true rfl) (zr_c hr) (zr_s hr) (zr_give (a 11 c) (a 12 c) (a 13 c)) ?_
  show zm_J N _ 89 22 [(0, .ref 12), (1, .int (nI c))] [] (zr_H C ex sl (zr_gS s (a 11 c) (a 12 c) (a 13 c)) a) _
  exact zm_J_fin zm_T rfl rfl ⟨rfl, rfl⟩
theorem zr_forc2 (hr : zr_r ex sl) {c : Nat} (hc : c < 16400) (h : a 10 c = 2) (hd : 2 ≤ d)  : zm_J N d 97 0 [(0, .ref 12), (1, .int (nI c))] [] (zr_H C ex sl s a) (zr_R C ex sl none (zr_gS (zu s 36 (s 36 + 1)) (a 11 c) (a 12 c) (a 13 c)) a) := by
  obtain ⟨d, rfl⟩ : ∃ e, d = e + 2 := ⟨d - 2, by omega⟩
  refine zm_J_run zm_T 3 (pc' := 5) (lv' := [(0, .ref 12), (1, .int (nI c))]) (st' := [.int (nI c), .ref 23]) (G' := (zr_H C ex sl s a)) rfl ?_
  refine zg_ald (i := .iaload) (t := 0) (n := 16400) (f := a 10) (m := c) rfl rfl rfl rfl rfl (by omega) (by decide) ?_
  refine zm_J_run zm_T 2 (pc' := if (a 10 c) = 2 then 10 else 26) (lv' := [(0, .ref 12), (1, .int (nI c))]) (st' := []) (G' := (zr_H C ex sl s a)) rfl ?_
  rw [if_pos (show (a 10 c) = 2 from h)]
  refine zm_J_run zm_T 8 (pc' := 22) (lv' := [(0, .ref 12), (1, .int (nI c))]) (st' := [.int (nI c), .ref 12]) (G' := (zr_H C ex sl (zu s 36 ((s 36) + 1)) a)) rfl ?_
  refine zg_V (a := 12) (av := [.int (nI c)]) (rest := []) (v := none) (G2 := (zr_H C ex sl (zr_gS (zu s 36 (s 36 + 1)) (a 11 c) (a 12 c) (a 13 c)) a)) (zm_T.1 97 22 _ rfl).1 zc_97_22 rfl (Nat.le_of_ble_eq_true rfl) (Nat.le_of_ble_eq_true rfl) (zr_c hr) (zr_s hr) (zr_giveC hr hc (by omega)) ?_
  show zm_J N _ 97 25 [(0, .ref 12), (1, .int (nI c))] [] (zr_H C ex sl (zr_gS (zu s 36 (s 36 + 1)) (a 11 c) (a 12 c) (a 13 c)) a) _
  exact zm_J_fin zm_T rfl rfl ⟨rfl, rfl⟩
theorem zr_forc1 {c : Nat} (hc : c < 16400) (h : a 10 c = 1)  : zm_J N d 97 0 [(0, .ref 12), (1, .int (nI c))] [] (zr_H C ex sl s a) (zr_R C ex sl none (zu s 12 4) a) := by
  refine zm_J_run zm_T 3 (pc' := 5) (lv' := [(0, .ref 12), (1, .int (nI c))]) (st' := [.int (nI c), .ref 23]) (G' := (zr_H C ex sl s a)) rfl ?_
  refine zg_ald (i := .iaload) (t := 0) (n := 16400) (f := a 10) (m := c) rfl rfl rfl rfl rfl (by omega) (by decide) ?_
  refine zm_J_run zm_T 2 (pc' := if (a 10 c) = 2 then 10 else 26) (lv' := [(0, .ref 12), (1, .int (nI c))]) (st' := []) (G' := (zr_H C ex sl s a)) rfl ?_
  rw [if_neg (show ¬ ((a 10 c) = 2) from by rw [h]; decide)]
  refine zm_J_run zm_T 3 (pc' := 31) (lv' := [(0, .ref 12), (1, .int (nI c))]) (st' := [.int (nI c), .ref 23]) (G' := (zr_H C ex sl s a)) rfl ?_
  refine zg_ald (i := .iaload) (t := 0) (n := 16400) (f := a 10) (m := c) rfl rfl rfl rfl rfl (by omega) (by decide) ?_
  refine zm_J_run zm_T 2 (pc' := if (a 10 c) = 1 then 36 else 42) (lv' := [(0, .ref 12), (1, .int (nI c))]) (st' := []) (G' := (zr_H C ex sl s a)) rfl ?_
  rw [if_pos (show (a 10 c) = 1 from h)]
  refine zm_J_run zm_T 3 (pc' := 41) (lv' := [(0, .ref 12), (1, .int (nI c))]) (st' := []) (G' := (zr_H C ex sl (zu s 12 4) a)) rfl ?_
  exact zm_J_fin zm_T rfl rfl ⟨rfl, rfl⟩
def zr_fA (a : Nat → Nat → Int32) (c D : Nat) : Nat → Nat → Int32 := zu (zu (zu a 10 (upd (a 10) c 1)) 22 (upd (a 22) D (nI c))) 20 (upd (a 20) D 3)
theorem zr_forc0 (hr : zr_r ex sl) {c D : Nat} (hc : c < 16400) (h : a 10 c = 0) (hD : s 31 = nI D) (h60 : D ≤ 60) (hd : 1 ≤ d)  : zm_J N d 97 0 [(0, .ref 12), (1, .int (nI c))] [] (zr_H C ex sl s a) (zr_R C ex sl none (zr_pS (zu s 35 (s 35 + 1)) D) (zr_pA (zr_fA a c D) D (a 8 c) (a 9 c))) := by
  obtain ⟨d, rfl⟩ : ∃ e, d = e + 1 := ⟨d - 1, by omega⟩
  refine zm_J_run zm_T 3 (pc' := 5) (lv' := [(0, .ref 12), (1, .int (nI c))]) (st' := [.int (nI c), .ref 23]) (G' := (zr_H C ex sl s a)) rfl ?_
  refine zg_ald (i := .iaload) (t := 0) (n := 16400) (f := a 10) (m := c) rfl rfl rfl rfl rfl (by omega) (by decide) ?_
  refine zm_J_run zm_T 2 (pc' := if (a 10 c) = 2 then 10 else 26) (lv' := [(0, .ref 12), (1, .int (nI c))]) (st' := []) (G' := (zr_H C ex sl s a)) rfl ?_
  rw [if_neg (show ¬ ((a 10 c) = 2) from by rw [h]; decide)]
  refine zm_J_run zm_T 3 (pc' := 31) (lv' := [(0, .ref 12), (1, .int (nI c))]) (st' := [.int (nI c), .ref 23]) (G' := (zr_H C ex sl s a)) rfl ?_
  refine zg_ald (i := .iaload) (t := 0) (n := 16400) (f := a 10) (m := c) rfl rfl rfl rfl rfl (by omega) (by decide) ?_
  refine zm_J_run zm_T 2 (pc' := if (a 10 c) = 1 then 36 else 42) (lv' := [(0, .ref 12), (1, .int (nI c))]) (st' := []) (G' := (zr_H C ex sl s a)) rfl ?_
  rw [if_neg (show ¬ ((a 10 c) = 1) from by rw [h]; decide)]
  refine zm_J_run zm_T 10 (pc' := 58) (lv' := [(0, .ref 12), (1, .int (nI c))]) (st' := [.int 1, .int (nI c), .ref 23]) (G' := (zr_H C ex sl (zu s 35 ((s 35) + 1)) a)) rfl ?_
  refine zg_ast (i := .iastore) (t := 0) (n := 16400) (f := a 10) (m := c) (v' := 1) (G' := (zr_H C ex sl (zu s 35 ((s 35) + 1)) (zu a 10 (upd (a 10) c 1)))) rfl rfl rfl rfl (by decide) rfl (by omega) (by decide) rfl ?_
  refine zm_J_run zm_T 5 (pc' := 68) (lv' := [(0, .ref 12), (1, .int (nI c))]) (st' := [.int (nI c), .int (s 31), .ref 35]) (G' := (zr_H C ex sl (zu s 35 ((s 35) + 1)) (zu a 10 (upd (a 10) c 1)))) rfl ?_
  refine zg_ast (i := .iastore) (t := 0) (n := 64) (f := a 22) (m := D) (v' := (nI c)) (G' := (zr_H C ex sl (zu s 35 ((s 35) + 1)) (zu (zu a 10 (upd (a 10) c 1)) 22 (upd (a 22) D (nI c))))) rfl rfl rfl rfl (by decide) hD (by omega) (by decide) rfl ?_
  refine zm_J_run zm_T 5 (pc' := 78) (lv' := [(0, .ref 12), (1, .int (nI c))]) (st' := [.int 3, .int (s 31), .ref 33]) (G' := (zr_H C ex sl (zu s 35 ((s 35) + 1)) (zu (zu a 10 (upd (a 10) c 1)) 22 (upd (a 22) D (nI c))))) rfl ?_
  refine zg_ast (i := .iastore) (t := 0) (n := 64) (f := a 20) (m := D) (v' := 3) (G' := (zr_H C ex sl (zu s 35 ((s 35) + 1)) (zu (zu (zu a 10 (upd (a 10) c 1)) 22 (upd (a 22) D (nI c))) 20 (upd (a 20) D 3)))) rfl rfl rfl rfl (by decide) hD (by omega) (by decide) rfl ?_
  refine zm_J_run zm_T 4 (pc' := 85) (lv' := [(0, .ref 12), (1, .int (nI c))]) (st' := [.int (nI c), .ref 21, .ref 12]) (G' := (zr_H C ex sl (zu s 35 ((s 35) + 1)) (zu (zu (zu a 10 (upd (a 10) c 1)) 22 (upd (a 22) D (nI c))) 20 (upd (a 20) D 3)))) rfl ?_
  refine zg_ald (i := .iaload) (t := 0) (n := 16400) (f := a 8) (m := c) rfl rfl rfl rfl rfl (by omega) (by decide) ?_
  refine zm_J_run zm_T 3 (pc' := 91) (lv' := [(0, .ref 12), (1, .int (nI c))]) (st' := [.int (nI c), .ref 22, .int (a 8 c), .ref 12]) (G' := (zr_H C ex sl (zu s 35 ((s 35) + 1)) (zu (zu (zu a 10 (upd (a 10) c 1)) 22 (upd (a 22) D (nI c))) 20 (upd (a 20) D 3)))) rfl ?_
  refine zg_ald (i := .iaload) (t := 0) (n := 16400) (f := a 9) (m := c) rfl rfl rfl rfl rfl (by omega) (by decide) ?_
  refine zg_V (a := 12) (av := [.int (a 8 c), .int (a 9 c)]) (rest := []) (v := none) (G2 := (zr_H C ex sl (zr_pS (zu s 35 (s 35 + 1)) D) (zr_pA (zr_fA a c D) D (a 8 c) (a 9 c)))) (zm_T.1 97 92 _ rfl).1 zc_97_92 rfl (Nat.le_of_ble_eq_true rfl) (Nat.le_of_ble_eq_true rfl) (zr_c hr) (zr_s hr) (zr_push (s := zu s 35 (s 35 + 1)) (a := zr_fA a c D) hD h60 (a 8 c) (a 9 c)) ?_
  show zm_J N _ 97 95 [(0, .ref 12), (1, .int (nI c))] [] (zr_H C ex sl (zr_pS (zu s 35 (s 35 + 1)) D) (zr_pA (zr_fA a c D) D (a 8 c) (a 9 c))) _
  exact zm_J_fin zm_T rfl rfl ⟨rfl, rfl⟩
def zr_kA (a : Nat → Nat → Int32) (c : Nat) (s : Nat → Int32) : Nat → Nat → Int32 := zu (zu (zu (zu a 10 (upd (a 10) c 2)) 11 (upd (a 11) c (s 37))) 12 (upd (a 12) c (s 38))) 13 (upd (a 13) c (s 39))
theorem zr_keep (hr : zr_r ex sl) {c D : Nat} (hc : c < 16400) (hD : s 31 = nI D) (h60 : D ≤ 60) (hf : a 22 D = nI c) (hd : 2 ≤ d)  : zm_J N d 88 0 [(0, .ref 12)] [] (zr_H C ex sl s a) (zr_R C ex sl none (zr_gS s (s 37) (s 38) (s 39)) (zr_kA a c s)) := by
  obtain ⟨d, rfl⟩ : ∃ e, d = e + 2 := ⟨d - 2, by omega⟩
  refine zm_J_run zm_T 4 (pc' := 8) (lv' := [(0, .ref 12)]) (st' := [.int (s 31), .ref 35]) (G' := (zr_H C ex sl s a)) rfl ?_
  refine zg_ald (i := .iaload) (t := 0) (n := 64) (f := a 22) (m := D) rfl rfl rfl rfl hD (by omega) (by decide) ?_
  rw [show a 22 D = nI c from hf]
  refine zm_J_run zm_T 5 (pc' := 16) (lv' := [(1, .int (nI c)), (0, .ref 12)]) (st' := [.int 2, .int (nI c), .ref 23]) (G' := (zr_H C ex sl s a)) rfl ?_
  refine zg_ast (i := .iastore) (t := 0) (n := 16400) (f := a 10) (m := c) (v' := 2) (G' := (zr_H C ex sl s (zu a 10 (upd (a 10) c 2)))) rfl rfl rfl rfl (by decide) rfl (by omega) (by decide) rfl ?_
  refine zm_J_run zm_T 5 (pc' := 26) (lv' := [(1, .int (nI c)), (0, .ref 12)]) (st' := [.int (s 37), .int (nI c), .ref 24]) (G' := (zr_H C ex sl s (zu a 10 (upd (a 10) c 2)))) rfl ?_
  refine zg_ast (i := .iastore) (t := 0) (n := 16400) (f := a 11) (m := c) (v' := (s 37)) (G' := (zr_H C ex sl s (zu (zu a 10 (upd (a 10) c 2)) 11 (upd (a 11) c (s 37))))) rfl rfl rfl rfl (by decide) rfl (by omega) (by decide) rfl ?_
  refine zm_J_run zm_T 5 (pc' := 36) (lv' := [(1, .int (nI c)), (0, .ref 12)]) (st' := [.int (s 38), .int (nI c), .ref 25]) (G' := (zr_H C ex sl s (zu (zu a 10 (upd (a 10) c 2)) 11 (upd (a 11) c (s 37))))) rfl ?_
  refine zg_ast (i := .iastore) (t := 0) (n := 16400) (f := a 12) (m := c) (v' := (s 38)) (G' := (zr_H C ex sl s (zu (zu (zu a 10 (upd (a 10) c 2)) 11 (upd (a 11) c (s 37))) 12 (upd (a 12) c (s 38))))) rfl rfl rfl rfl (by decide) rfl (by omega) (by decide) rfl ?_
  refine zm_J_run zm_T 5 (pc' := 46) (lv' := [(1, .int (nI c)), (0, .ref 12)]) (st' := [.int (s 39), .int (nI c), .ref 26]) (G' := (zr_H C ex sl s (zu (zu (zu a 10 (upd (a 10) c 2)) 11 (upd (a 11) c (s 37))) 12 (upd (a 12) c (s 38))))) rfl ?_
  refine zg_ast (i := .iastore) (t := 0) (n := 16400) (f := a 13) (m := c) (v' := (s 39)) (G' := (zr_H C ex sl s (zu (zu (zu (zu a 10 (upd (a 10) c 2)) 11 (upd (a 11) c (s 37))) 12 (upd (a 12) c (s 38))) 13 (upd (a 13) c (s 39))))) rfl rfl rfl rfl (by decide) rfl (by omega) (by decide) rfl ?_
  have e1 := zr_giveC (N := N) (d := d + 1) (C := C) (s := s) (a := zr_kA a c s) hr hc (by omega)
  rw [show zr_kA a c s 11 c = s 37 from zi_upd _ c _, show zr_kA a c s 12 c = s 38 from zi_upd _ c _, show zr_kA a c s 13 c = s 39 from zi_upd _ c _] at e1
  refine zm_J_run zm_T 2 (pc' := 49) (lv' := [(1, .int (nI c)), (0, .ref 12)]) (st' := [.int (nI c), .ref 12]) (G' := (zr_H C ex sl s (zu (zu (zu (zu a 10 (upd (a 10) c 2)) 11 (upd (a 11) c (s 37))) 12 (upd (a 12) c (s 38))) 13 (upd (a 13) c (s 39))))) rfl ?_
  refine zg_V (a := 12) (av := [.int (nI c)]) (rest := []) (v := none) (G2 := (zr_H C ex sl (zr_gS s (s 37) (s 38) (s 39)) (zr_kA a c s))) (zm_T.1 88 49 _ rfl).1 zc_88_49 rfl (Nat.le_of_ble_eq_true rfl) (Nat.le_of_ble_eq_true rfl) (zr_c hr) (zr_s hr) (e1) ?_
  show zm_J N _ 88 52 [(1, .int (nI c)), (0, .ref 12)] [] (zr_H C ex sl (zr_gS s (s 37) (s 38) (s 39)) (zr_kA a c s)) _
  exact zm_J_fin zm_T rfl rfl ⟨rfl, rfl⟩
/-- a chain of ARGUMENTS, the last first -/
def zr_ch (a : Nat → Nat → Int32) (n : Nat) : Int32 → List Nat → Prop
  | x, [] => x = -1
  | x, c :: r => ∃ i, i < n ∧ x = nI i ∧ a 16 i = nI c ∧ zr_ch a n (a 17 i) r
theorem zr_ch.up {a a' : Nat → Nat → Int32} {n n' : Nat} (hn : n ≤ n') (h : ∀ q, q < n → a' 16 q = a 16 q ∧ a' 17 q = a 17 q) : ∀ {r : List Nat} {x : Int32}, zr_ch a n x r → zr_ch a' n' x r := by
  intro r
  induction r with
  | nil => intro x hx; exact hx
  | cons c r ih =>
    intro x hx
    obtain ⟨i, h1, h2, h3, h4⟩ := hx
    exact ⟨i, by omega, h2, (h i h1).1.trans h3, by rw [(h i h1).2]; exact ih h4⟩
theorem zr_cnt_l {n : Nat} (hn : n ≤ 16400) {v : Int32} : ∀ (r : List Nat) (x : Int32) (k : Nat), zr_ch a n x r → zm_J N d 95 4 [(3, .int x), (2, .int (nI k)), (0, .ref 12), (1, .int v)] [] (zr_H C ex sl s a) (zr_R C ex sl (some (.int (nI (k + r.length)))) s a) := by
  intro r
  induction r with
  | nil =>
    intro x k hx
    have hx : x = -1 := hx
    subst hx
    refine zm_J_run zm_T 2 (pc' := if ((-1) : Int32) < 0 then 21 else 8) (lv' := [(3, .int (-1)), (2, .int (nI k)), (0, .ref 12), (1, .int v)]) (st' := []) (G' := (zr_H C ex sl s a)) rfl ?_
    rw [if_pos (show ((-1) : Int32) < 0 by decide +kernel)]
    refine zm_J_run zm_T 1 (pc' := 22) (lv' := [(3, .int (-1)), (2, .int (nI k)), (0, .ref 12), (1, .int v)]) (st' := [.int (nI k)]) (G' := (zr_H C ex sl s a)) rfl ?_
    exact zm_J_fin zm_T rfl rfl ⟨rfl, rfl⟩
  | cons c r ih =>
    intro x k hx
    obtain ⟨i, h1, h2, h3, h4⟩ := hx
    subst h2
    refine zm_J_run zm_T 2 (pc' := if (nI i) < 0 then 21 else 8) (lv' := [(3, .int (nI i)), (2, .int (nI k)), (0, .ref 12), (1, .int v)]) (st' := []) (G' := (zr_H C ex sl s a)) rfl ?_
    rw [if_neg (show ¬ ((nI i) < 0) from nI_pos (by omega))]
    refine zm_J_run zm_T 4 (pc' := 16) (lv' := [(2, .int ((nI k) + 1)), (3, .int (nI i)), (0, .ref 12), (1, .int v)]) (st' := [.int (nI i), .ref 30]) (G' := (zr_H C ex sl s a)) rfl ?_
    refine zg_ald (i := .iaload) (t := 0) (n := 16400) (f := a 17) (m := i) rfl rfl rfl rfl rfl (by omega) (by decide) ?_
    refine zm_J_run zm_T 2 (pc' := 4) (lv' := [(3, .int (a 17 i)), (2, .int ((nI k) + 1)), (0, .ref 12), (1, .int v)]) (st' := []) (G' := (zr_H C ex sl s a)) rfl ?_
    refine zm_J_lv (lv' := [(3, .int (a 17 i)), (2, .int ((nI k) + 1)), (0, .ref 12), (1, .int v)]) (by simp) ?_
    have hh := ih (a 17 i) (k + 1) h4
    rw [show k + 1 + r.length = k + (c :: r).length from by rw [List.length_cons]; omega] at hh
    rw [show nI k + 1 = nI (k + 1) from nI_1 k]
    show zm_J N _ 95 4 [(3, .int (a 17 i)), (2, .int (nI (k + 1))), (0, .ref 12), (1, .int v)] [] (zr_H C ex sl s a) _
    exact hh
theorem zr_cnt {n : Nat} (hn : n ≤ 16400) {r : List Nat} {x : Int32} (hx : zr_ch a n x r) : zm_J N d 95 0 [(0, .ref 12), (1, .int x)] [] (zr_H C ex sl s a) (zr_R C ex sl (some (.int (nI r.length))) s a) := by
  refine zm_J_run zm_T 4 (pc' := 4) (lv' := [(3, .int x), (2, .int 0), (0, .ref 12), (1, .int x)]) (st' := []) (G' := (zr_H C ex sl s a)) rfl ?_
  have hh := zr_cnt_l (N := N) (d := d) (C := C) (ex := ex) (sl := sl) (s := s) (v := x) hn r x 0 hx
  rw [Nat.zero_add] at hh
  exact hh
theorem zr_isn1 (h : s 37 = 0) (h2 : s 12 = 0)  : zm_J N d 98 0 [(0, .ref 12)] [] (zr_H C ex sl s a) (zr_R C ex sl (some (.int 1)) s a) := by
  refine zm_J_run zm_T 3 (pc' := if (s 37) = 0 then 12 else 7) (lv' := [(0, .ref 12)]) (st' := []) (G' := (zr_H C ex sl s a)) rfl ?_
  rw [if_pos (show (s 37) = 0 from h)]
  refine zm_J_run zm_T 3 (pc' := if (s 12) = 0 then 19 else 23) (lv' := [(0, .ref 12)]) (st' := []) (G' := (zr_H C ex sl s a)) rfl ?_
  rw [if_pos (show (s 12) = 0 from h2)]
  refine zm_J_run zm_T 2 (pc' := 24) (lv' := [(0, .ref 12)]) (st' := [.int 1]) (G' := (zr_H C ex sl s a)) rfl ?_
  exact zm_J_fin zm_T rfl rfl ⟨rfl, rfl⟩
theorem zr_isn0 (h : ¬ s 37 = 0)  : zm_J N d 98 0 [(0, .ref 12)] [] (zr_H C ex sl s a) (zr_R C ex sl (some (.int 0)) (zu s 12 5) a) := by
  refine zm_J_run zm_T 3 (pc' := if (s 37) = 0 then 12 else 7) (lv' := [(0, .ref 12)]) (st' := []) (G' := (zr_H C ex sl s a)) rfl ?_
  rw [if_neg (show ¬ ((s 37) = 0) from h)]
  refine zm_J_run zm_T 7 (pc' := 24) (lv' := [(0, .ref 12)]) (st' := [.int 0]) (G' := (zr_H C ex sl (zu s 12 5) a)) rfl ?_
  exact zm_J_fin zm_T rfl rfl ⟨rfl, rfl⟩
theorem zr_bin (hr : zr_r ex sl) (hd : 1 ≤ d) {c : Int32} (hc : c = 43 ∨ c = 45 ∨ c = 42 ∨ c = 47 ∨ c = 37 ∨ c = 60 ∨ c = 61) (x y : Int32) : zm_J N d 99 0 [(0, .ref 12), (1, .int c), (2, .int x), (3, .int y)] [] (zr_H C ex sl s a) (zr_R C ex sl (some (.int ((zv_bn c x y).getD 0))) (if (zv_bn c x y).isSome = true then s else zu s 12 3) a) := by
  obtain ⟨d, rfl⟩ : ∃ e, d = e + 1 := ⟨d - 1, by omega⟩
  rcases hc with e | e | e | e | e | e | e <;> subst e
  · refine zm_J_run zm_T 8 (pc' := 80) (lv' := [(0, .ref 12), (1, .int 43), (2, .int x), (3, .int y)]) (st' := []) (G' := (zr_H C ex sl s a)) rfl ?_
    refine zm_J_run zm_T 3 (pc' := 83) (lv' := [(0, .ref 12), (1, .int 43), (2, .int x), (3, .int y)]) (st' := [.int (x + y)]) (G' := (zr_H C ex sl s a)) rfl ?_
    exact zm_J_fin zm_T rfl rfl ⟨rfl, rfl⟩
  · refine zm_J_run zm_T 8 (pc' := 84) (lv' := [(0, .ref 12), (1, .int 45), (2, .int x), (3, .int y)]) (st' := []) (G' := (zr_H C ex sl s a)) rfl ?_
    refine zm_J_run zm_T 3 (pc' := 87) (lv' := [(0, .ref 12), (1, .int 45), (2, .int x), (3, .int y)]) (st' := [.int (x - y)]) (G' := (zr_H C ex sl s a)) rfl ?_
    exact zm_J_fin zm_T rfl rfl ⟨rfl, rfl⟩
  · refine zm_J_run zm_T 8 (pc' := 88) (lv' := [(0, .ref 12), (1, .int 42), (2, .int x), (3, .int y)]) (st' := []) (G' := (zr_H C ex sl s a)) rfl ?_
    refine zm_J_run zm_T 3 (pc' := 91) (lv' := [(0, .ref 12), (1, .int 42), (2, .int x), (3, .int y)]) (st' := [.int (x * y)]) (G' := (zr_H C ex sl s a)) rfl ?_
    exact zm_J_fin zm_T rfl rfl ⟨rfl, rfl⟩
  · refine zm_J_run zm_T 5 (pc' := if y = 0 then 16 else 22) (lv' := [(0, .ref 12), (1, .int 47), (2, .int x), (3, .int y)]) (st' := []) (G' := (zr_H C ex sl s a)) rfl ?_
    by_cases hy : y = 0
    · rw [if_pos hy]
      refine zm_J_run zm_T 2 (pc' := 18) (lv' := [(0, .ref 12), (1, .int 47), (2, .int x), (3, .int y)]) (st' := [.int 3, .ref 12]) (G' := (zr_H C ex sl s a)) rfl ?_
      refine zg_V (a := 12) (av := [.int 3]) (rest := []) (v := some (.int 0)) (G2 := (zr_H C ex sl (zu s 12 3) a)) (zm_T.1 99 18 _ rfl).1 zc_99_18 rfl (Nat.le_of_ble_eq_true rfl) (Nat.le_of_ble_eq_true rfl) (zr_c hr) (zr_s hr) (zr_fail 3) ?_
      show zm_J N _ 99 21 [(0, .ref 12), (1, .int 47), (2, .int x), (3, .int y)] [.int 0] (zr_H C ex sl (zu s 12 3) a) _
      exact zm_J_fin zm_T rfl rfl ⟨by rw [show zv_bn 47 x y = none from if_pos ⟨Or.inl rfl, hy⟩]; rfl, by rw [show zv_bn 47 x y = none from if_pos ⟨Or.inl rfl, hy⟩]; rfl⟩
    · rw [if_neg hy]
      refine zm_J_run zm_T 2 (pc' := 92) (lv' := [(0, .ref 12), (1, .int 47), (2, .int x), (3, .int y)]) (st' := []) (G' := (zr_H C ex sl s a)) rfl ?_
      refine zm_J_run zm_T 2 (pc' := 94) (lv' := [(0, .ref 12), (1, .int 47), (2, .int x), (3, .int y)]) (st' := [.int y, .int x]) (G' := (zr_H C ex sl s a)) rfl ?_
      refine zg_idiv rfl hy ?_
      exact zm_J_fin zm_T rfl rfl ⟨by rw [show zv_bn 47 x y = some (x / y) from (if_neg (fun z => hy z.2)).trans rfl]; rfl, by rw [show zv_bn 47 x y = some (x / y) from (if_neg (fun z => hy z.2)).trans rfl]; rfl⟩
  · refine zm_J_run zm_T 8 (pc' := if y = 0 then 16 else 22) (lv' := [(0, .ref 12), (1, .int 37), (2, .int x), (3, .int y)]) (st' := []) (G' := (zr_H C ex sl s a)) rfl ?_
    by_cases hy : y = 0
    · rw [if_pos hy]
      refine zm_J_run zm_T 2 (pc' := 18) (lv' := [(0, .ref 12), (1, .int 37), (2, .int x), (3, .int y)]) (st' := [.int 3, .ref 12]) (G' := (zr_H C ex sl s a)) rfl ?_
      refine zg_V (a := 12) (av := [.int 3]) (rest := []) (v := some (.int 0)) (G2 := (zr_H C ex sl (zu s 12 3) a)) (zm_T.1 99 18 _ rfl).1 zc_99_18 rfl (Nat.le_of_ble_eq_true rfl) (Nat.le_of_ble_eq_true rfl) (zr_c hr) (zr_s hr) (zr_fail 3) ?_
      show zm_J N _ 99 21 [(0, .ref 12), (1, .int 37), (2, .int x), (3, .int y)] [.int 0] (zr_H C ex sl (zu s 12 3) a) _
      exact zm_J_fin zm_T rfl rfl ⟨by rw [show zv_bn 37 x y = none from if_pos ⟨Or.inr rfl, hy⟩]; rfl, by rw [show zv_bn 37 x y = none from if_pos ⟨Or.inr rfl, hy⟩]; rfl⟩
    · rw [if_neg hy]
      refine zm_J_run zm_T 2 (pc' := 96) (lv' := [(0, .ref 12), (1, .int 37), (2, .int x), (3, .int y)]) (st' := []) (G' := (zr_H C ex sl s a)) rfl ?_
      refine zm_J_run zm_T 2 (pc' := 98) (lv' := [(0, .ref 12), (1, .int 37), (2, .int x), (3, .int y)]) (st' := [.int y, .int x]) (G' := (zr_H C ex sl s a)) rfl ?_
      refine zg_irem rfl hy ?_
      exact zm_J_fin zm_T rfl rfl ⟨by rw [show zv_bn 37 x y = some (x - x / y * y) from (if_neg (fun z => hy z.2)).trans rfl]; rfl, by rw [show zv_bn 37 x y = some (x - x / y * y) from (if_neg (fun z => hy z.2)).trans rfl]; rfl⟩
  · refine zm_J_run zm_T 8 (pc' := 100) (lv' := [(0, .ref 12), (1, .int 60), (2, .int x), (3, .int y)]) (st' := []) (G' := (zr_H C ex sl s a)) rfl ?_
    refine zm_J_run zm_T 3 (pc' := if y ≤ x then 109 else 105) (lv' := [(0, .ref 12), (1, .int 60), (2, .int x), (3, .int y)]) (st' := []) (G' := (zr_H C ex sl s a)) rfl ?_
    by_cases hy : y ≤ x
    · rw [if_pos hy]
      refine zm_J_run zm_T 1 (pc' := 110) (lv' := [(0, .ref 12), (1, .int 60), (2, .int x), (3, .int y)]) (st' := [.int 0]) (G' := (zr_H C ex sl s a)) rfl ?_
      exact zm_J_fin zm_T rfl rfl ⟨by show _ = Sum.inl (some (Value.int (if x < y then 1 else 0))); rw [if_neg (zi_nlt hy)], rfl⟩
    · rw [if_neg hy]
      refine zm_J_run zm_T 2 (pc' := 110) (lv' := [(0, .ref 12), (1, .int 60), (2, .int x), (3, .int y)]) (st' := [.int 1]) (G' := (zr_H C ex sl s a)) rfl ?_
      exact zm_J_fin zm_T rfl rfl ⟨by show _ = Sum.inl (some (Value.int (if x < y then 1 else 0))); rw [if_pos (Int32.not_le.mp hy)], rfl⟩
  · refine zm_J_run zm_T 8 (pc' := 111) (lv' := [(0, .ref 12), (1, .int 61), (2, .int x), (3, .int y)]) (st' := []) (G' := (zr_H C ex sl s a)) rfl ?_
    refine zm_J_run zm_T 3 (pc' := if x = y then 116 else 120) (lv' := [(0, .ref 12), (1, .int 61), (2, .int x), (3, .int y)]) (st' := []) (G' := (zr_H C ex sl s a)) rfl ?_
    by_cases hy : x = y
    · rw [if_pos hy]
      refine zm_J_run zm_T 2 (pc' := 121) (lv' := [(0, .ref 12), (1, .int 61), (2, .int x), (3, .int y)]) (st' := [.int 1]) (G' := (zr_H C ex sl s a)) rfl ?_
      exact zm_J_fin zm_T rfl rfl ⟨by show _ = Sum.inl (some (Value.int (if x = y then 1 else 0))); rw [if_pos hy], rfl⟩
    · rw [if_neg hy]
      refine zm_J_run zm_T 1 (pc' := 121) (lv' := [(0, .ref 12), (1, .int 61), (2, .int x), (3, .int y)]) (st' := [.int 0]) (G' := (zr_H C ex sl s a)) rfl ?_
      exact zm_J_fin zm_T rfl rfl ⟨by show _ = Sum.inl (some (Value.int (if x = y then 1 else 0))); rw [if_neg hy], rfl⟩
/-- what a CALL writes into its own four places -/
def zr_cR (a b : Nat → Nat → Int32) (E k P : Nat) (A : List Nat) : Prop := (∃ g h, b = zu (zu a 14 g) 15 h) ∧ (∀ q, (q < 4 * E ∨ 4 * E + P ≤ q ∨ 4 * E + A.length ≤ q) → b 14 q = a 14 q ∧ b 15 q = a 15 q) ∧ ∀ j c, A[j]? = some c → j < P → b 14 (4 * E + j) = a 4 (4 * k + j) ∧ b 15 (4 * E + j) = nI c
theorem zr_cR_no {a b : Nat → Nat → Int32} {E k P c : Nat} {r : List Nat} (hb : zr_cR a b E k P r.reverse) (hp : P ≤ r.length) : zr_cR a b E k P (c :: r).reverse := by
  obtain ⟨h1, h2, h3⟩ := hb
  rw [List.length_reverse] at h2
  refine ⟨h1, fun q hq => h2 q ?_, fun j y hj hjp => h3 j y ?_ hjp⟩
  · rw [List.length_reverse, List.length_cons] at hq; omega
  · rw [List.reverse_cons, List.getElem?_append_left (by rw [List.length_reverse]; omega)] at hj
    exact hj
theorem zr_cR_yes {a b : Nat → Nat → Int32} {E k P c : Nat} {r : List Nat} (hb : zr_cR (zu (zu a 14 (upd (a 14) (4 * E + r.length) (a 4 (4 * k + r.length)))) 15 (upd (a 15) (4 * E + r.length) (nI c))) b E k P r.reverse) (hp : r.length < P) : zr_cR a b E k P (c :: r).reverse := by
  obtain ⟨⟨g, h, h1⟩, h2, h3⟩ := hb
  rw [List.length_reverse] at h2
  refine ⟨⟨g, h, by rw [h1, zu_2]⟩, fun q hq => ?_, fun j y hj hjp => ?_⟩
  · rw [List.length_reverse, List.length_cons] at hq
    obtain ⟨z1, z2⟩ := h2 q (by omega)
    exact ⟨z1.trans (zi_updn (a 14) _ (by omega)), z2.trans (zi_updn (a 15) _ (by omega))⟩
  · rcases Nat.lt_or_ge j r.length with hl | hl
    · rw [List.reverse_cons, List.getElem?_append_left (by rw [List.length_reverse]; omega)] at hj
      exact h3 j y hj hjp
    · have hj2 := (List.getElem?_eq_some_iff.mp hj).1
      rw [List.length_reverse, List.length_cons] at hj2
      have hjr : j = r.length := by omega
      subst hjr
      rw [List.reverse_cons, List.getElem?_append_right (by rw [List.length_reverse]; exact Nat.le_refl _), List.length_reverse, Nat.sub_self] at hj
      cases Option.some.inj hj
      obtain ⟨z1, z2⟩ := h2 (4 * E + r.length) (by omega)
      exact ⟨z1.trans (zi_upd (a 14) _ _), z2.trans (zi_upd (a 15) _ _)⟩
theorem zr_call_l {n E k P : Nat} (hn : n ≤ 16400) (hE : E ≤ 400) (hk : k < 6) (hP : P ≤ 4) {Q : zm_O → zm_H → Prop} : ∀ (r : List Nat) (x : Int32) (a : Nat → Nat → Int32), a 5 k = nI P → r.length ≤ 16400 → zr_ch a n x r → (∀ b, zr_cR a b E k P r.reverse → zm_J N d 96 161 [(0, .ref 12), (1, .int (nI k)), (5, .int (nI E))] [] (zr_H C ex sl s b) Q) → zm_J N d 96 88 [(6, .int (nI r.length - 1)), (4, .int x), (0, .ref 12), (1, .int (nI k)), (5, .int (nI E))] [] (zr_H C ex sl s a) Q := by
  intro r
  induction r with
  | nil =>
    intro x a h5 hr hx kk
    have hx : x = -1 := hx
    subst hx
    refine zm_J_run zm_T 2 (pc' := if (nI ([] : List Nat).length - 1) < 0 then 161 else 93) (lv' := [(6, .int (nI ([] : List Nat).length - 1)), (4, .int (-1)), (0, .ref 12), (1, .int (nI k)), (5, .int (nI E))]) (st' := []) (G' := (zr_H C ex sl s a)) rfl ?_
    rw [if_pos (show (nI ([] : List Nat).length - 1) < 0 from by decide)]
    refine zm_J_lv (lv' := [(0, .ref 12), (1, .int (nI k)), (5, .int (nI E))]) (by simp) ?_
    exact kk a ⟨⟨a 14, a 15, by rw [zu_same a 14, zu_same a 15]⟩, fun q _ => ⟨rfl, rfl⟩, fun j c h => by cases h⟩
  | cons c r ih =>
    intro x a h5 hr hx kk
    obtain ⟨i, h1, h2, h3, h4⟩ := hx
    subst h2
    rw [List.length_cons] at hr
    rw [show nI (c :: r).length - 1 = nI r.length from nI_pred r.length]
    refine zm_J_run zm_T 2 (pc' := if (nI r.length) < 0 then 161 else 93) (lv' := [(6, .int (nI r.length)), (4, .int (nI i)), (0, .ref 12), (1, .int (nI k)), (5, .int (nI E))]) (st' := []) (G' := (zr_H C ex sl s a)) rfl ?_
    rw [if_neg (show ¬ ((nI r.length) < 0) from nI_pos (by omega))]
    refine zm_J_run zm_T 4 (pc' := 100) (lv' := [(6, .int (nI r.length)), (4, .int (nI i)), (0, .ref 12), (1, .int (nI k)), (5, .int (nI E))]) (st' := [.int (nI k), .ref 18, .int (nI r.length)]) (G' := (zr_H C ex sl s a)) rfl ?_
    refine zg_ald (i := .iaload) (t := 0) (n := 6) (f := a 5) (m := k) rfl rfl rfl rfl rfl (by omega) (by decide) ?_
    rw [show a 5 k = nI P from h5]
    refine zm_J_run zm_T 1 (pc' := if (nI P) ≤ (nI r.length) then 146 else 104) (lv' := [(6, .int (nI r.length)), (4, .int (nI i)), (0, .ref 12), (1, .int (nI k)), (5, .int (nI E))]) (st' := []) (G' := (zr_H C ex sl s a)) rfl ?_
    by_cases hp : (nI P) ≤ (nI r.length)
    · rw [if_pos hp]
      refine zm_J_run zm_T 3 (pc' := 152) (lv' := [(6, .int (nI r.length)), (4, .int (nI i)), (0, .ref 12), (1, .int (nI k)), (5, .int (nI E))]) (st' := [.int (nI i), .ref 30]) (G' := (zr_H C ex sl s a)) rfl ?_
      refine zg_ald (i := .iaload) (t := 0) (n := 16400) (f := a 17) (m := i) rfl rfl rfl rfl rfl (by omega) (by decide) ?_
      refine zm_J_run zm_T 2 (pc' := 158) (lv' := [(6, .int ((nI r.length) + (-1))), (4, .int (a 17 i)), (0, .ref 12), (1, .int (nI k)), (5, .int (nI E))]) (st' := []) (G' := (zr_H C ex sl s a)) rfl ?_
      rw [show nI r.length + (-1) = nI r.length - 1 from (Int32.sub_eq_add_neg _ _).symm]
      show zm_J N _ 96 158 [(6, .int (nI r.length - 1)), (4, .int (a 17 i)), (0, .ref 12), (1, .int (nI k)), (5, .int (nI E))] [] (zr_H C ex sl s a) _
      refine zm_J_run zm_T 1 (pc' := 88) (lv' := [(6, .int (nI r.length - 1)), (4, .int (a 17 i)), (0, .ref 12), (1, .int (nI k)), (5, .int (nI E))]) (st' := []) (G' := (zr_H C ex sl s a)) rfl ?_
      have hh := ih (a 17 i) a h5 (by omega) (zr_ch.up (a := a) (a' := a) (Nat.le_refl _) (fun q _ => ⟨rfl, rfl⟩) h4) (fun b hb => kk b (zr_cR_no hb ((nI_leI (by omega) (by omega)).mp hp)))
      exact hh
    · rw [if_neg hp]
      have hp : r.length < P := by rcases Nat.lt_or_ge r.length P with z | z; exact z; exact absurd (nI_le z (by omega)) hp
      refine zm_J_run zm_T 12 (pc' := 122) (lv' := [(6, .int (nI r.length)), (4, .int (nI i)), (0, .ref 12), (1, .int (nI k)), (5, .int (nI E))]) (st' := [.int ((nI k) * 4), .ref 17, .int (((nI E) * 4) + (nI r.length)), .ref 27]) (G' := (zr_H C ex sl s a)) rfl ?_
      refine zm_J_run zm_T 2 (pc' := 125) (lv' := [(6, .int (nI r.length)), (4, .int (nI i)), (0, .ref 12), (1, .int (nI k)), (5, .int (nI E))]) (st' := [.int (((nI k) * 4) + (nI r.length)), .ref 17, .int (((nI E) * 4) + (nI r.length)), .ref 27]) (G' := (zr_H C ex sl s a)) rfl ?_
      refine zg_ald (i := .iaload) (t := 0) (n := 24) (f := a 4) (m := 4 * k + r.length) rfl rfl rfl rfl (zi_ix k r.length) (by omega) (by decide) ?_
      refine zg_ast (i := .iastore) (t := 0) (n := 1700) (f := a 14) (m := 4 * E + r.length) (v' := (a 4 (4 * k + r.length))) (G' := (zr_H C ex sl s (zu a 14 (upd (a 14) (4 * E + r.length) (a 4 (4 * k + r.length)))))) rfl rfl rfl rfl (by decide) (zi_ix E r.length) (by omega) (by decide) rfl ?_
      refine zm_J_run zm_T 10 (pc' := 144) (lv' := [(6, .int (nI r.length)), (4, .int (nI i)), (0, .ref 12), (1, .int (nI k)), (5, .int (nI E))]) (st' := [.int (nI i), .ref 29, .int (((nI E) * 4) + (nI r.length)), .ref 28]) (G' := (zr_H C ex sl s (zu a 14 (upd (a 14) (4 * E + r.length) (a 4 (4 * k + r.length)))))) rfl ?_
      refine zg_ald (i := .iaload) (t := 0) (n := 16400) (f := a 16) (m := i) rfl rfl rfl rfl rfl (by omega) (by decide) ?_
      rw [show a 16 i = nI c from h3]
      refine zg_ast (i := .iastore) (t := 0) (n := 1700) (f := a 15) (m := 4 * E + r.length) (v' := (nI c)) (G' := (zr_H C ex sl s (zu (zu a 14 (upd (a 14) (4 * E + r.length) (a 4 (4 * k + r.length)))) 15 (upd (a 15) (4 * E + r.length) (nI c))))) rfl rfl rfl rfl (by decide) (zi_ix E r.length) (by omega) (by decide) rfl ?_
      refine zm_J_run zm_T 3 (pc' := 152) (lv' := [(6, .int (nI r.length)), (4, .int (nI i)), (0, .ref 12), (1, .int (nI k)), (5, .int (nI E))]) (st' := [.int (nI i), .ref 30]) (G' := (zr_H C ex sl s (zu (zu a 14 (upd (a 14) (4 * E + r.length) (a 4 (4 * k + r.length)))) 15 (upd (a 15) (4 * E + r.length) (nI c))))) rfl ?_
      refine zg_ald (i := .iaload) (t := 0) (n := 16400) (f := a 17) (m := i) rfl rfl rfl rfl rfl (by omega) (by decide) ?_
      refine zm_J_run zm_T 2 (pc' := 158) (lv' := [(6, .int ((nI r.length) + (-1))), (4, .int (a 17 i)), (0, .ref 12), (1, .int (nI k)), (5, .int (nI E))]) (st' := []) (G' := (zr_H C ex sl s (zu (zu a 14 (upd (a 14) (4 * E + r.length) (a 4 (4 * k + r.length)))) 15 (upd (a 15) (4 * E + r.length) (nI c))))) rfl ?_
      rw [show nI r.length + (-1) = nI r.length - 1 from (Int32.sub_eq_add_neg _ _).symm]
      show zm_J N _ 96 158 [(6, .int (nI r.length - 1)), (4, .int (a 17 i)), (0, .ref 12), (1, .int (nI k)), (5, .int (nI E))] [] (zr_H C ex sl s (zu (zu a 14 (upd (a 14) (4 * E + r.length) (a 4 (4 * k + r.length)))) 15 (upd (a 15) (4 * E + r.length) (nI c)))) _
      refine zm_J_run zm_T 1 (pc' := 88) (lv' := [(6, .int (nI r.length - 1)), (4, .int (a 17 i)), (0, .ref 12), (1, .int (nI k)), (5, .int (nI E))]) (st' := []) (G' := (zr_H C ex sl s (zu (zu a 14 (upd (a 14) (4 * E + r.length) (a 4 (4 * k + r.length)))) 15 (upd (a 15) (4 * E + r.length) (nI c))))) rfl ?_
      have hh := ih (a 17 i) (zu (zu a 14 (upd (a 14) (4 * E + r.length) (a 4 (4 * k + r.length)))) 15 (upd (a 15) (4 * E + r.length) (nI c))) h5 (by omega) (zr_ch.up (a := a) (a' := (zu (zu a 14 (upd (a 14) (4 * E + r.length) (a 4 (4 * k + r.length)))) 15 (upd (a 15) (4 * E + r.length) (nI c)))) (Nat.le_refl _) (fun q _ => ⟨rfl, rfl⟩) h4) (fun b hb => kk b (zr_cR_yes hb hp))
      exact hh
/-- what a CALL writes -/
def zr_cR2 (a b : Nat → Nat → Int32) (E k P : Nat) (A : List Nat) : Prop := (∃ g h, b = zu (zu a 14 g) 15 h) ∧ (∀ q, (q < 4 * E ∨ 4 * E + 4 ≤ q) → b 14 q = a 14 q ∧ b 15 q = a 15 q) ∧ ∀ j c, A[j]? = some c → j < P → b 14 (4 * E + j) = a 4 (4 * k + j) ∧ b 15 (4 * E + j) = nI c
theorem zr_cR2_of {a b : Nat → Nat → Int32} {E k P : Nat} {A : List Nat} (hP : P ≤ 4) (h : zr_cR (zu a 14 (upd (upd (upd (upd (a 14) (4 * E + 0) 0) (4 * E + 1) 0) (4 * E + 2) 0) (4 * E + 3) 0)) b E k P A) : zr_cR2 a b E k P A := by
  obtain ⟨⟨g, h, h1⟩, h2, h3⟩ := h
  refine ⟨⟨g, h, by rw [h1, zu_1]⟩, fun q hq => ?_, h3⟩
  obtain ⟨z1, z2⟩ := h2 q (by omega)
  refine ⟨z1.trans ?_, z2⟩
  show upd _ (4 * E + 3) 0 q = _
  rw [zi_updn _ _ (by omega), zi_updn _ _ (by omega), zi_updn _ _ (by omega), zi_updn _ _ (by omega)]
theorem zr_call0 (h : s 33 = 400) (k x c : Int32) : zm_J N d 96 0 [(0, .ref 12), (1, .int k), (2, .int x), (3, .int c)] [] (zr_H C ex sl s a) (zr_R C ex sl none (zu s 12 4) a) := by
  refine zm_J_run zm_T 4 (pc' := if (s 33) = 400 then 10 else 16) (lv' := [(0, .ref 12), (1, .int k), (2, .int x), (3, .int c)]) (st' := []) (G' := (zr_H C ex sl s a)) rfl ?_
  rw [if_pos (show (s 33) = 400 from h)]
  refine zm_J_run zm_T 3 (pc' := 15) (lv' := [(0, .ref 12), (1, .int k), (2, .int x), (3, .int c)]) (st' := []) (G' := (zr_H C ex sl (zu s 12 4) a)) rfl ?_
  exact zm_J_fin zm_T rfl rfl ⟨rfl, rfl⟩
def zr_qS (s : Nat → Int32) : Nat → Int32 := zu (zu (zu s 33 (s 33 + 1)) 34 (s 34 + 1)) 24 (s 24 + 1)
theorem zr_call (hr : zr_r ex sl) (hd : 1 ≤ d) {n E k P D : Nat} (hn : n ≤ 16400) (hE : E ≤ 400) (hk : k < 6) (hP : P ≤ 4) (hD : s 31 = nI D) (h60 : D ≤ 60) {r : List Nat} {x : Int32} (h33 : ¬ s 33 = 400) (h24 : s 24 = nI E) (h5 : a 5 k = nI P) (hrl : r.length ≤ 16400) (hx : zr_ch a n x r) {Q : zm_O → zm_H → Prop}
    (kk : ∀ b, zr_cR2 a b E k P r.reverse → Q (.inl none) (zr_H C ex sl (zr_pS (zr_qS s) D) (zr_pA (zu b 20 (upd (b 20) D 4)) D (a 3 k) (nI E)))) : zm_J N d 96 0 [(0, .ref 12), (1, .int (nI k)), (2, .int x), (3, .int (nI r.length))] [] (zr_H C ex sl s a) Q := by
  obtain ⟨d, rfl⟩ : ∃ e, d = e + 1 := ⟨d - 1, by omega⟩
  refine zm_J_run zm_T 4 (pc' := if (s 33) = 400 then 10 else 16) (lv' := [(0, .ref 12), (1, .int (nI k)), (2, .int x), (3, .int (nI r.length))]) (st' := []) (G' := (zr_H C ex sl s a)) rfl ?_
  rw [if_neg (show ¬ ((s 33) = 400) from h33)]
  refine zm_J_run zm_T 12 (pc' := 36) (lv' := [(0, .ref 12), (1, .int (nI k)), (2, .int x), (3, .int (nI r.length))]) (st' := []) (G' := (zr_H C ex sl (zu (zu s 33 ((s 33) + 1)) 34 ((s 34) + 1)) a)) rfl ?_
  refine zm_J_run zm_T 12 (pc' := 56) (lv' := [(5, .int (s 24)), (4, .int x), (0, .ref 12), (1, .int (nI k)), (2, .int x), (3, .int (nI r.length))]) (st' := [.int 0]) (G' := (zr_H C ex sl (zu (zu (zu s 33 ((s 33) + 1)) 34 ((s 34) + 1)) 24 ((s 24) + 1)) a)) rfl ?_
  refine zm_J_run zm_T 4 (pc' := if (4 : Int32) ≤ 0 then 83 else 64) (lv' := [(6, .int 0), (5, .int (s 24)), (4, .int x), (0, .ref 12), (1, .int (nI k)), (2, .int x), (3, .int (nI r.length))]) (st' := []) (G' := (zr_H C ex sl (zu (zu (zu s 33 ((s 33) + 1)) 34 ((s 34) + 1)) 24 ((s 24) + 1)) a)) rfl ?_
  rw [if_neg (show ¬ ((4 : Int32) ≤ 0) by decide +kernel)]
  refine zm_J_run zm_T 8 (pc' := 76) (lv' := [(6, .int 0), (5, .int (s 24)), (4, .int x), (0, .ref 12), (1, .int (nI k)), (2, .int x), (3, .int (nI r.length))]) (st' := [.int 0, .int (((s 24) * 4) + 0), .ref 27]) (G' := (zr_H C ex sl (zu (zu (zu s 33 ((s 33) + 1)) 34 ((s 34) + 1)) 24 ((s 24) + 1)) a)) rfl ?_
  refine zg_ast (i := .iastore) (t := 0) (n := 1700) (f := a 14) (m := 4 * E + 0) (v' := 0) (G' := (zr_H C ex sl (zu (zu (zu s 33 ((s 33) + 1)) 34 ((s 34) + 1)) 24 ((s 24) + 1)) (zu a 14 (upd (a 14) (4 * E + 0) 0)))) rfl rfl rfl rfl (by decide) (by rw [h24]; exact zi_ix E 0) (by omega) (by decide) rfl ?_
  refine zm_J_run zm_T 5 (pc' := if (4 : Int32) ≤ 1 then 83 else 64) (lv' := [(6, .int 1), (5, .int (s 24)), (4, .int x), (0, .ref 12), (1, .int (nI k)), (2, .int x), (3, .int (nI r.length))]) (st' := []) (G' := (zr_H C ex sl (zu (zu (zu s 33 ((s 33) + 1)) 34 ((s 34) + 1)) 24 ((s 24) + 1)) (zu a 14 (upd (a 14) (4 * E + 0) 0)))) rfl ?_
  rw [if_neg (show ¬ ((4 : Int32) ≤ 1) by decide +kernel)]
  refine zm_J_run zm_T 8 (pc' := 76) (lv' := [(6, .int 1), (5, .int (s 24)), (4, .int x), (0, .ref 12), (1, .int (nI k)), (2, .int x), (3, .int (nI r.length))]) (st' := [.int 0, .int (((s 24) * 4) + 1), .ref 27]) (G' := (zr_H C ex sl (zu (zu (zu s 33 ((s 33) + 1)) 34 ((s 34) + 1)) 24 ((s 24) + 1)) (zu a 14 (upd (a 14) (4 * E + 0) 0)))) rfl ?_
  refine zg_ast (i := .iastore) (t := 0) (n := 1700) (f := upd (a 14) (4 * E + 0) 0) (m := 4 * E + 1) (v' := 0) (G' := (zr_H C ex sl (zu (zu (zu s 33 ((s 33) + 1)) 34 ((s 34) + 1)) 24 ((s 24) + 1)) (zu a 14 (upd (upd (a 14) (4 * E + 0) 0) (4 * E + 1) 0)))) rfl rfl rfl rfl (by decide) (by rw [h24]; exact zi_ix E 1) (by omega) (by decide) rfl ?_
  refine zm_J_run zm_T 5 (pc' := if (4 : Int32) ≤ 2 then 83 else 64) (lv' := [(6, .int 2), (5, .int (s 24)), (4, .int x), (0, .ref 12), (1, .int (nI k)), (2, .int x), (3, .int (nI r.length))]) (st' := []) (G' := (zr_H C ex sl (zu (zu (zu s 33 ((s 33) + 1)) 34 ((s 34) + 1)) 24 ((s 24) + 1)) (zu a 14 (upd (upd (a 14) (4 * E + 0) 0) (4 * E + 1) 0)))) rfl ?_
  rw [if_neg (show ¬ ((4 : Int32) ≤ 2) by decide +kernel)]
  refine zm_J_run zm_T 8 (pc' := 76) (lv' := [(6, .int 2), (5, .int (s 24)), (4, .int x), (0, .ref 12), (1, .int (nI k)), (2, .int x), (3, .int (nI r.length))]) (st' := [.int 0, .int (((s 24) * 4) + 2), .ref 27]) (G' := (zr_H C ex sl (zu (zu (zu s 33 ((s 33) + 1)) 34 ((s 34) + 1)) 24 ((s 24) + 1)) (zu a 14 (upd (upd (a 14) (4 * E + 0) 0) (4 * E + 1) 0)))) rfl ?_
  refine zg_ast (i := .iastore) (t := 0) (n := 1700) (f := upd (upd (a 14) (4 * E + 0) 0) (4 * E + 1) 0) (m := 4 * E + 2) (v' := 0) (G' := (zr_H C ex sl (zu (zu (zu s 33 ((s 33) + 1)) 34 ((s 34) + 1)) 24 ((s 24) + 1)) (zu a 14 (upd (upd (upd (a 14) (4 * E + 0) 0) (4 * E + 1) 0) (4 * E + 2) 0)))) rfl rfl rfl rfl (by decide) (by rw [h24]; exact zi_ix E 2) (by omega) (by decide) rfl ?_
  refine zm_J_run zm_T 5 (pc' := if (4 : Int32) ≤ 3 then 83 else 64) (lv' := [(6, .int 3), (5, .int (s 24)), (4, .int x), (0, .ref 12), (1, .int (nI k)), (2, .int x), (3, .int (nI r.length))]) (st' := []) (G' := (zr_H C ex sl (zu (zu (zu s 33 ((s 33) + 1)) 34 ((s 34) + 1)) 24 ((s 24) + 1)) (zu a 14 (upd (upd (upd (a 14) (4 * E + 0) 0) (4 * E + 1) 0) (4 * E + 2) 0)))) rfl ?_
  rw [if_neg (show ¬ ((4 : Int32) ≤ 3) by decide +kernel)]
  refine zm_J_run zm_T 8 (pc' := 76) (lv' := [(6, .int 3), (5, .int (s 24)), (4, .int x), (0, .ref 12), (1, .int (nI k)), (2, .int x), (3, .int (nI r.length))]) (st' := [.int 0, .int (((s 24) * 4) + 3), .ref 27]) (G' := (zr_H C ex sl (zu (zu (zu s 33 ((s 33) + 1)) 34 ((s 34) + 1)) 24 ((s 24) + 1)) (zu a 14 (upd (upd (upd (a 14) (4 * E + 0) 0) (4 * E + 1) 0) (4 * E + 2) 0)))) rfl ?_
  refine zg_ast (i := .iastore) (t := 0) (n := 1700) (f := upd (upd (upd (a 14) (4 * E + 0) 0) (4 * E + 1) 0) (4 * E + 2) 0) (m := 4 * E + 3) (v' := 0) (G' := (zr_H C ex sl (zu (zu (zu s 33 ((s 33) + 1)) 34 ((s 34) + 1)) 24 ((s 24) + 1)) (zu a 14 (upd (upd (upd (upd (a 14) (4 * E + 0) 0) (4 * E + 1) 0) (4 * E + 2) 0) (4 * E + 3) 0)))) rfl rfl rfl rfl (by decide) (by rw [h24]; exact zi_ix E 3) (by omega) (by decide) rfl ?_
  refine zm_J_run zm_T 5 (pc' := if (4 : Int32) ≤ 4 then 83 else 64) (lv' := [(6, .int 4), (5, .int (s 24)), (4, .int x), (0, .ref 12), (1, .int (nI k)), (2, .int x), (3, .int (nI r.length))]) (st' := []) (G' := (zr_H C ex sl (zu (zu (zu s 33 ((s 33) + 1)) 34 ((s 34) + 1)) 24 ((s 24) + 1)) (zu a 14 (upd (upd (upd (upd (a 14) (4 * E + 0) 0) (4 * E + 1) 0) (4 * E + 2) 0) (4 * E + 3) 0)))) rfl ?_
  rw [if_pos (show (4 : Int32) ≤ 4 by decide +kernel)]
  refine zm_J_run zm_T 4 (pc' := 88) (lv' := [(6, .int ((nI r.length) - 1)), (5, .int (s 24)), (4, .int x), (0, .ref 12), (1, .int (nI k)), (2, .int x), (3, .int (nI r.length))]) (st' := []) (G' := (zr_H C ex sl (zu (zu (zu s 33 ((s 33) + 1)) 34 ((s 34) + 1)) 24 ((s 24) + 1)) (zu a 14 (upd (upd (upd (upd (a 14) (4 * E + 0) 0) (4 * E + 1) 0) (4 * E + 2) 0) (4 * E + 3) 0)))) rfl ?_
  refine zm_J_lv (lv' := [(6, .int ((nI r.length) - 1)), (4, .int x), (0, .ref 12), (1, .int (nI k)), (5, .int (s 24))]) (by simp) ?_
  rw [show (.int (s 24) : Value) = .int (nI E) from congrArg Value.int h24]
  show zm_J N _ 96 88 [(6, .int ((nI r.length) - 1)), (4, .int x), (0, .ref 12), (1, .int (nI k)), (5, .int (nI E))] [] (zr_H C ex sl (zu (zu (zu s 33 ((s 33) + 1)) 34 ((s 34) + 1)) 24 ((s 24) + 1)) (zu a 14 (upd (upd (upd (upd (a 14) (4 * E + 0) 0) (4 * E + 1) 0) (4 * E + 2) 0) (4 * E + 3) 0))) _
  refine zr_call_l hn hE hk hP r x _ h5 hrl (zr_ch.up (a := a) (a' := zu a 14 (upd (upd (upd (upd (a 14) (4 * E + 0) 0) (4 * E + 1) 0) (4 * E + 2) 0) (4 * E + 3) 0)) (Nat.le_refl _) (fun q _ => ⟨rfl, rfl⟩) hx) (fun b hb => ?_)
  have hb2 := zr_cR2_of hP hb
  obtain ⟨⟨g, h, e1⟩, -, -⟩ := id hb2
  have e3 : b 3 = a 3 := by rw [e1]; rfl
  refine zm_J_run zm_T 5 (pc' := 170) (lv' := [(0, .ref 12), (1, .int (nI k)), (5, .int (nI E))]) (st' := [.int 4, .int ((zr_qS s) 31), .ref 33]) (G' := (zr_H C ex sl (zr_qS s) b)) rfl ?_
  refine zg_ast (i := .iastore) (t := 0) (n := 64) (f := b 20) (m := D) (v' := 4) (G' := (zr_H C ex sl (zr_qS s) (zu b 20 (upd (b 20) D 4)))) rfl rfl rfl rfl (by decide) hD (by omega) (by decide) rfl ?_
  refine zm_J_run zm_T 4 (pc' := 177) (lv' := [(0, .ref 12), (1, .int (nI k)), (5, .int (nI E))]) (st' := [.int (nI k), .ref 16, .ref 12]) (G' := (zr_H C ex sl (zr_qS s) (zu b 20 (upd (b 20) D 4)))) rfl ?_
  refine zg_ald (i := .iaload) (t := 0) (n := 6) (f := b 3) (m := k) rfl rfl rfl rfl rfl (by omega) (by decide) ?_
  rw [show b 3 k = a 3 k from congrFun e3 k]
  refine zm_J_run zm_T 1 (pc' := 180) (lv' := [(0, .ref 12), (1, .int (nI k)), (5, .int (nI E))]) (st' := [.int (nI E), .int (a 3 k), .ref 12]) (G' := (zr_H C ex sl (zr_qS s) (zu b 20 (upd (b 20) D 4)))) rfl ?_
  refine zg_V (a := 12) (av := [.int (a 3 k), .int (nI E)]) (rest := []) (v := none) (G2 := (zr_H C ex sl (zr_pS (zr_qS s) D) (zr_pA (zu b 20 (upd (b 20) D 4)) D (a 3 k) (nI E)))) (zm_T.1 96 180 _ rfl).1 zc_96_180 rfl (Nat.le_of_ble_eq_true rfl) (Nat.le_of_ble_eq_true rfl) (zr_c hr) (zr_s hr) (zr_push (s := zr_qS s) (a := zu b 20 (upd (b 20) D 4)) hD h60 (a 3 k) (nI E)) ?_
  show zm_J N _ 96 183 [(0, .ref 12), (1, .int (nI k)), (5, .int (nI E))] [] (zr_H C ex sl (zr_pS (zr_qS s) D) (zr_pA (zu b 20 (upd (b 20) D 4)) D (a 3 k) (nI E))) _
  exact zm_J_fin zm_T rfl rfl (kk b hb2)
end ZRS

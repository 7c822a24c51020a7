/-! THE CLASS'S readExpression -/
def zk_rs (t L : List Int32) (s : Nat → Int32) (w : List Int32) (p : Nat) : Prop := t.drop p = w ∧ p + w.length = t.length ∧ s 8 = nI t.length ∧ s 9 = nI p ∧ s 7 = nI L.length
def zk_RD (N : zm_N) (R : Nat → zm_E) (r : Value) (el : Nat → Nat) (f g : Nat → Int32) (df : Nat → Option Nat) (va ca ka : List Nat) (q : Nat × Nat × Nat) (t L : List Int32) (d n : Nat) : Prop := ∀ (w : List Int32) (p o B S : Nat) (ex : List zm_E) (sl : Nat) (s : Nat → Int32) (Q : zm_O → zm_H → Prop), o ≤ 40 → zk_I B S ex sl s el va ca ka q → zk_BS (B + w.length + 1) (S + 5 * w.length + 6) → zk_rs t L s w p → s 10 = nI (o + 1) →
  (∀ w' p' ex' sl' s' xa, zv_rd L n w = some w' → zk_I (B + (w.length - w'.length)) (S + 5 * (w.length - w'.length)) ex' sl' s' el va ca ka q → zk_xt ex ex' → zk_fs s s' → zk_rs t L s' w' p' → s' 10 = nI o → zk_X ex' L (n + 1) w xa → Q (.inl (some (.ref (xa + 37)))) (zk_H R ex' sl' s' r el f g df)) →
  ((∀ w', zv_rd L n w = some w' → w'.length < o) → ∀ z G, zk_RX (B + w.length + 1) (S + 5 * w.length + 6) R r el f g df va ca ka q ex s z G → Q z G) →
  zm_J N (d + n) 25 0 [(0, .ref 3), (1, .int (nI (12 - n)))] [] (zk_H R ex sl s r el f g df) Q
theorem zv_rd_nil {L : List Int32} {n : Nat} {w : List Int32} : ¬ zv_rd L n [] = some w := by
  cases n <;> exact fun h => by cases h
theorem zv_rd_leaf {L : List Int32} {n : Nat} {c : Int32} {r : List Int32} (h0 : zv_p c = 0) : zv_rd L n (c :: r) = if zv_l L c = true then some r else none := by
  cases n with
  | zero =>
    show (if zv_p c = 0 ∧ zv_l L c = true then some r else none) = _
    by_cases h : zv_l L c = true
    · rw [if_pos ⟨h0, h⟩, if_pos h]
    · rw [if_neg (fun z => h z.2), if_neg h]
  | succ n =>
    show (if zv_p c = 0 then (if zv_l L c = true then some r else none) else _) = _
    rw [if_pos h0]
theorem zv_rd_op {L : List Int32} {n : Nat} {c : Int32} {r : List Int32} (h0 : ¬ zv_p c = 0) : zv_rd L (n + 1) (c :: r) = zv_rk (zv_rd L n) (zv_p c) r := by
  show (if zv_p c = 0 then _ else _) = _
  rw [if_neg h0]
theorem zv_rd_0 {L : List Int32} {c : Int32} {r w : List Int32} (h0 : ¬ zv_p c = 0) : ¬ zv_rd L 0 (c :: r) = some w := by
  show ¬ (if zv_p c = 0 ∧ zv_l L c = true then some r else none) = some w
  rw [if_neg (fun z => h0 z.1)]
  exact fun h => by cases h
theorem zk_owed {o k : Nat} {x : Int32} (h : x = nI (o + 1)) : x + (nI k - 1) = nI (o + k) := by
  rw [h, ← nI_1 o, zi_ks, nI_add]
section ZKX
variable {R : Nat → zm_E} {r : Value} {el : Nat → Nat} {f g : Nat → Int32} {df : Nat → Option Nat} {N : zm_N} {d : Nat} {va ca ka : List Nat} {q : Nat × Nat × Nat} {t L : List Int32}
theorem zk_rd_step (hst : zk_st t L f g) (hwl : zv_wL L) (hd : 9 ≤ d) {n : Nat} (hn : n ≤ 11) (ih : ∀ m, n = m + 1 → zk_RD N R r el f g df va ca ka q t L d m) : zk_RD N R r el f g df va ca ka q t L d n := by
  intro w p o B S ex sl s Q ho hI hBS hrs h10 K1 K0
  obtain ⟨ht40, hft, hL, hg⟩ := hst
  obtain ⟨hdr, hpl, h8, h9, h7⟩ := hrs
  have hB : zk_BS B S := hBS.le (by omega) (by omega)
  have hr := zk_I_r hB hI
  have hrm := zk_I_room hB hI
  obtain ⟨d', hd'⟩ : ∃ e, d + n = e + 9 := ⟨d + n - 9, by omega⟩
  cases w with
  | nil =>
    rw [hd']
    refine zm_J_run zm_T 5 (pc' := 9) (lv' := [(0, .ref 3), (1, .int (nI (12 - n)))]) (st' := [.int (s 8), .int (s 9), .ref 3]) (G' := (zk_H R ex sl s r el f g df)) rfl ?_
    rw [show (.int (s 9) : Value) = .int (nI p) from congrArg Value.int h9, show (.int (s 8) : Value) = .int (nI t.length) from congrArg Value.int h8]
    show zm_J N _ 25 9 [(0, .ref 3), (1, .int (nI (12 - n)))] [.int (nI t.length), .int (nI p), .ref 3] (zk_H R ex sl s r el f g df) _
    refine zm_J_run zm_T 1 (pc' := if (nI t.length) ≤ (nI p) then 33 else 12) (lv' := [(0, .ref 3), (1, .int (nI (12 - n)))]) (st' := [.ref 3]) (G' := (zk_H R ex sl s r el f g df)) rfl ?_
    rw [if_pos (show (nI t.length) ≤ (nI p) from nI_le (by rw [List.length_nil] at hpl; omega) (by omega))]
    refine zm_J_run zm_T 1 (pc' := 34) (lv' := [(0, .ref 3), (1, .int (nI (12 - n)))]) (st' := [.int 0, .ref 3]) (G' := (zk_H R ex sl s r el f g df)) rfl ?_
    refine zg_VT (a := 3) (av := [.int 0]) (rest := []) (zm_T.1 25 34 _ rfl).1 zc_25_34 rfl (zm_out0 rfl) (Nat.le_of_ble_eq_true rfl) (Nat.le_of_ble_eq_true rfl) (zk_c hr) (zk_s hr) (zk_ref0 hB hI (by omega) (fun z G k => zk_k_rx k (K0 (fun w' h => absurd h zv_rd_nil) z G (zk_RX_tr (zk_xt.refl _) (zk_fs.refl _) (by omega) (by omega) k))))
  | cons c r0 =>
    rw [List.length_cons] at hpl hBS
    rw [List.length_cons] at K0
    have htp : t[p]? = some c := by
      have := congrArg (fun l => l[0]?) hdr
      rw [List.getElem?_drop] at this
      exact this
    obtain ⟨hfp, hc33, hc126⟩ := hft p c htp
    have hdr1 : t.drop (p + 1) = r0 := by
      rw [← List.drop_drop, hdr]
      rfl
    have hch : 0 ≤ c ∧ c ≤ 65535 := by
      rw [Int32.le_iff_toInt_le] at hc33 hc126 ⊢
      rw [Int32.le_iff_toInt_le]
      have e1 : (33 : Int32).toInt = 33 := by decide
      have e2 : (126 : Int32).toInt = 126 := by decide
      have e3 : (0 : Int32).toInt = 0 := by decide
      have e4 : (65535 : Int32).toInt = 65535 := by decide
      omega
    by_cases hcs : zk_cs L c (12 - n) p (o + 1)
    rotate_left
    · rw [hd']
      refine zm_J_run zm_T 5 (pc' := 9) (lv' := [(0, .ref 3), (1, .int (nI (12 - n)))]) (st' := [.int (s 8), .int (s 9), .ref 3]) (G' := (zk_H R ex sl s r el f g df)) rfl ?_
      rw [show (.int (s 9) : Value) = .int (nI p) from congrArg Value.int h9, show (.int (s 8) : Value) = .int (nI t.length) from congrArg Value.int h8]
      show zm_J N _ 25 9 [(0, .ref 3), (1, .int (nI (12 - n)))] [.int (nI t.length), .int (nI p), .ref 3] (zk_H R ex sl s r el f g df) _
      refine zm_J_run zm_T 1 (pc' := if (nI t.length) ≤ (nI p) then 33 else 12) (lv' := [(0, .ref 3), (1, .int (nI (12 - n)))]) (st' := [.ref 3]) (G' := (zk_H R ex sl s r el f g df)) rfl ?_
      rw [if_neg (show ¬ ((nI t.length) ≤ (nI p)) from nI_ge (by omega) (by omega))]
      refine zm_J_run zm_T 5 (pc' := 21) (lv' := [(0, .ref 3), (1, .int (nI (12 - n)))]) (st' := [.int (s 9), .ref 4, .ref 3, .ref 3]) (G' := (zk_H R ex sl s r el f g df)) rfl ?_
      refine zg_ald (i := .caload) (t := 1) (n := 40) (f := f) (m := p) rfl rfl rfl rfl h9 (by omega) (by decide) ?_
      rw [show f p = c from hfp]
      refine zm_J_run zm_T 1 (pc' := 23) (lv' := [(0, .ref 3), (1, .int (nI (12 - n)))]) (st' := [.int (nI (12 - n)), .int c, .ref 3, .ref 3]) (G' := (zk_H R ex sl s r el f g df)) rfl ?_
      refine zg_VK (a := 3) (av := [.int c, .int (nI (12 - n))]) (rest := [.ref 3]) (zm_T.1 25 23 _ rfl).1 zc_25_23 rfl (Nat.le_of_ble_eq_true rfl) (Nat.le_of_ble_eq_true rfl) (zk_c hr) (zk_s hr) ((zk_can hr hL hg h7 (by omega) (by omega) (by omega) (by omega) h9 h10).mono (fun z G' k => ⟨_, k.2.1 hcs, ?_⟩))
      obtain ⟨-, -, rfl⟩ := k
      show zm_J N _ 25 26 [(0, .ref 3), (1, .int (nI (12 - n)))] [.int 0, .ref 3] (zk_H R ex sl s r el f g df) _
      refine zm_J_run zm_T 2 (pc' := 34) (lv' := [(0, .ref 3), (1, .int (nI (12 - n)))]) (st' := [.int 0, .ref 3]) (G' := (zk_H R ex sl s r el f g df)) rfl ?_
      refine zg_VT (a := 3) (av := [.int 0]) (rest := []) (zm_T.1 25 34 _ rfl).1 zc_25_34 rfl (zm_out0 rfl) (Nat.le_of_ble_eq_true rfl) (Nat.le_of_ble_eq_true rfl) (zk_c hr) (zk_s hr) (zk_ref0 hB hI (by omega) (fun z G k => zk_k_rx k (K0 (fun w' h => ?_) z G (zk_RX_tr (zk_xt.refl _) (zk_fs.refl _) (by omega) (by omega) k))))
      by_cases h0 : zv_p c = 0
      · rw [zv_rd_leaf h0, if_neg (fun z => hcs (Or.inl ⟨h0, (zk_lf_l h0).mp z⟩))] at h
        cases h
      · cases n with
        | zero => exact absurd h (zv_rd_0 h0)
        | succ m =>
          rw [zv_rd_op h0] at h
          have := zv_rk_len h
          have : ¬ p + (o + 1) + zv_p c ≤ 40 := fun z => hcs (Or.inr ⟨h0, by omega, z⟩)
          omega
    · have hpl3 := zv_p_le c
      by_cases h0 : zv_p c = 0
      · rw [hd']
        refine zm_J_run zm_T 5 (pc' := 9) (lv' := [(0, .ref 3), (1, .int (nI (12 - n)))]) (st' := [.int (s 8), .int (s 9), .ref 3]) (G' := (zk_H R ex sl s r el f g df)) rfl ?_
        rw [show (.int (s 9) : Value) = .int (nI p) from congrArg Value.int h9, show (.int (s 8) : Value) = .int (nI t.length) from congrArg Value.int h8]
        show zm_J N _ 25 9 [(0, .ref 3), (1, .int (nI (12 - n)))] [.int (nI t.length), .int (nI p), .ref 3] (zk_H R ex sl s r el f g df) _
        refine zm_J_run zm_T 1 (pc' := if (nI t.length) ≤ (nI p) then 33 else 12) (lv' := [(0, .ref 3), (1, .int (nI (12 - n)))]) (st' := [.ref 3]) (G' := (zk_H R ex sl s r el f g df)) rfl ?_
        rw [if_neg (show ¬ ((nI t.length) ≤ (nI p)) from nI_ge (by omega) (by omega))]
        refine zm_J_run zm_T 5 (pc' := 21) (lv' := [(0, .ref 3), (1, .int (nI (12 - n)))]) (st' := [.int (s 9), .ref 4, .ref 3, .ref 3]) (G' := (zk_H R ex sl s r el f g df)) rfl ?_
        refine zg_ald (i := .caload) (t := 1) (n := 40) (f := f) (m := p) rfl rfl rfl rfl h9 (by omega) (by decide) ?_
        rw [show f p = c from hfp]
        refine zm_J_run zm_T 1 (pc' := 23) (lv' := [(0, .ref 3), (1, .int (nI (12 - n)))]) (st' := [.int (nI (12 - n)), .int c, .ref 3, .ref 3]) (G' := (zk_H R ex sl s r el f g df)) rfl ?_
        refine zg_VK (a := 3) (av := [.int c, .int (nI (12 - n))]) (rest := [.ref 3]) (zm_T.1 25 23 _ rfl).1 zc_25_23 rfl (Nat.le_of_ble_eq_true rfl) (Nat.le_of_ble_eq_true rfl) (zk_c hr) (zk_s hr) ((zk_can hr hL hg h7 (by omega) (by omega) (by omega) (by omega) h9 h10).mono (fun z G' k => ⟨_, k.1 hcs, ?_⟩))
        obtain ⟨-, -, rfl⟩ := k
        show zm_J N _ 25 26 [(0, .ref 3), (1, .int (nI (12 - n)))] [.int 1, .ref 3] (zk_H R ex sl s r el f g df) _
        refine zm_J_run zm_T 3 (pc' := 34) (lv' := [(0, .ref 3), (1, .int (nI (12 - n)))]) (st' := [.int 1, .ref 3]) (G' := (zk_H R ex sl s r el f g df)) rfl ?_
        refine zg_V (a := 3) (av := [.int 1]) (rest := []) (v := none) (G2 := (zk_H R ex sl s r el f g df)) (zm_T.1 25 34 _ rfl).1 zc_25_34 rfl (Nat.le_of_ble_eq_true rfl) (Nat.le_of_ble_eq_true rfl) (zk_c hr) (zk_s hr) (zk_ref1) ?_
        show zm_J N _ 25 37 [(0, .ref 3), (1, .int (nI (12 - n)))] [] (zk_H R ex sl s r el f g df) _
        refine zm_J_run zm_T 4 (pc' := 45) (lv' := [(0, .ref 3), (1, .int (nI (12 - n)))]) (st' := [.int (s 9), .ref 4]) (G' := (zk_H R ex sl s r el f g df)) rfl ?_
        refine zg_ald (i := .caload) (t := 1) (n := 40) (f := f) (m := p) rfl rfl rfl rfl h9 (by omega) (by decide) ?_
        rw [show f p = c from hfp]
        refine zm_J_run zm_T 2 (pc' := 48) (lv' := [(2, .int c), (0, .ref 3), (1, .int (nI (12 - n)))]) (st' := [.int c]) (G' := (zk_H R ex sl s r el f g df)) rfl ?_
        refine zg_S (av := [.int c]) (rest := []) (v := some (.int (nI (zv_p c)))) (G2 := (zk_H R ex sl s r el f g df)) (zm_T.1 25 48 _ rfl).1 zc_25_48 (Nat.le_of_ble_eq_true rfl) (Nat.le_of_ble_eq_true rfl) (zk_c hr) (zk_s hr) (zk_pts) ?_
        show zm_J N _ 25 51 [(2, .int c), (0, .ref 3), (1, .int (nI (12 - n)))] [.int (nI (zv_p c))] (zk_H R ex sl s r el f g df) _
        refine zm_J_run zm_T 6 (pc' := 59) (lv' := [(3, .int (nI (zv_p c))), (2, .int c), (0, .ref 3), (1, .int (nI (12 - n)))]) (st' := [.int ((s 9) + 1), .ref 3]) (G' := (zk_H R ex sl s r el f g df)) rfl ?_
        rw [show s 9 + 1 = nI (p + 1) from by rw [h9]; exact nI_1 _]
        show zm_J N _ 25 59 [(3, .int (nI (zv_p c))), (2, .int c), (0, .ref 3), (1, .int (nI (12 - n)))] [.int (nI (p + 1)), .ref 3] (zk_H R ex sl s r el f g df) _
        refine zm_J_run zm_T 8 (pc' := 71) (lv' := [(3, .int (nI (zv_p c))), (2, .int c), (0, .ref 3), (1, .int (nI (12 - n)))]) (st' := [.int ((s 10) + ((nI (zv_p c)) - 1)), .ref 3]) (G' := (zk_H R ex sl (zu s 9 (nI (p + 1))) r el f g df)) rfl ?_
        rw [zk_owed h10]
        show zm_J N _ 25 71 [(3, .int (nI (zv_p c))), (2, .int c), (0, .ref 3), (1, .int (nI (12 - n)))] [.int (nI (o + zv_p c)), .ref 3] (zk_H R ex sl (zu s 9 (nI (p + 1))) r el f g df) _
        refine zm_J_run zm_T 3 (pc' := if (nI (zv_p c)) = 0 then 78 else 84) (lv' := [(3, .int (nI (zv_p c))), (2, .int c), (0, .ref 3), (1, .int (nI (12 - n)))]) (st' := []) (G' := (zk_H R ex sl (zu (zu s 9 (nI (p + 1))) 10 (nI (o + zv_p c))) r el f g df)) rfl ?_
        rw [if_pos (show (nI (zv_p c)) = 0 from by rw [h0]; rfl)]
        refine zm_J_run zm_T 2 (pc' := 80) (lv' := [(3, .int (nI (zv_p c))), (2, .int c), (0, .ref 3), (1, .int (nI (12 - n)))]) (st' := [.int c, .ref 3]) (G' := (zk_H R ex sl (zu (zu s 9 (nI (p + 1))) 10 (nI (o + zv_p c))) r el f g df)) rfl ?_
        refine zg_VK (a := 3) (av := [.int c]) (rest := []) (zm_T.1 25 80 _ rfl).1 zc_25_80 rfl (Nat.le_of_ble_eq_true rfl) (Nat.le_of_ble_eq_true rfl) (zk_c hr) (zk_s hr) (zk_rlf (s := zu (zu s 9 (nI (p + 1))) 10 (nI (o + zv_p c))) hB (zk_I_s rfl rfl rfl hI) (by omega) hL hwl hg h7 (c := c) (hcs.elim (fun z => z.2) (fun z => absurd h0 z.1)) (fun sg ix hsg hI2 => ⟨_, rfl, ?_⟩))
        show zm_J N _ 25 83 [(3, .int (nI (zv_p c))), (2, .int c), (0, .ref 3), (1, .int (nI (12 - n)))] [.ref (ex.length + 37)] (zk_H R (zk_ap ex (Sum.inr (7, [.int sg, .int ix, .null, .null, .null]) : zm_E)) (sl + 5) (zu (zu s 9 (nI (p + 1))) 10 (nI (o + zv_p c))) r el f g df) _
        exact zm_J_fin zm_T rfl rfl (K1 r0 (p + 1) _ _ _ _ (by rw [zv_rd_leaf h0, if_pos ((zk_lf_l h0).mpr (hcs.elim (fun z => z.2) (fun z => absurd h0 z.1)))]) (zk_I_le (by rw [List.length_cons]; omega) (by rw [List.length_cons]; omega) hI2) (zk_xt_ap _ _) (fun k h1 h2 h3 => by rw [zk_une h3, zk_une h2]) ⟨hdr1, by omega, h8, rfl, h7⟩ (by show nI (o + zv_p c) = nI o; rw [h0, Nat.add_zero]) ⟨c, r0, sg, ix, .null, .null, .null, rfl, zk_ap_new ex _, hsg, fun z => absurd z (by omega), fun z => absurd z (by omega), fun z => absurd z (by omega)⟩)
      · obtain ⟨m, rfl⟩ : ∃ m, n = m + 1 := by
          rcases hcs with z | z
          · exact absurd z.1 h0
          · exact ⟨n - 1, by omega⟩
        have hpr : p + (o + 1) + zv_p c ≤ 40 := hcs.elim (fun z => absurd z.1 h0) (fun z => z.2.2)
        have ih := ih m rfl
        have hdm : d' + 8 = d + m := by omega
        have hdep : nI (12 - (m + 1)) + 1 = nI (12 - m) := by rw [show 12 - m = 12 - (m + 1) + 1 by omega]; exact nI_1 _
        rw [hd']
        refine zm_J_run zm_T 5 (pc' := 9) (lv' := [(0, .ref 3), (1, .int (nI (12 - (m + 1))))]) (st' := [.int (s 8), .int (s 9), .ref 3]) (G' := (zk_H R ex sl s r el f g df)) rfl ?_
        rw [show (.int (s 9) : Value) = .int (nI p) from congrArg Value.int h9, show (.int (s 8) : Value) = .int (nI t.length) from congrArg Value.int h8]
        show zm_J N _ 25 9 [(0, .ref 3), (1, .int (nI (12 - (m + 1))))] [.int (nI t.length), .int (nI p), .ref 3] (zk_H R ex sl s r el f g df) _
        refine zm_J_run zm_T 1 (pc' := if (nI t.length) ≤ (nI p) then 33 else 12) (lv' := [(0, .ref 3), (1, .int (nI (12 - (m + 1))))]) (st' := [.ref 3]) (G' := (zk_H R ex sl s r el f g df)) rfl ?_
        rw [if_neg (show ¬ ((nI t.length) ≤ (nI p)) from nI_ge (by omega) (by omega))]
        refine zm_J_run zm_T 5 (pc' := 21) (lv' := [(0, .ref 3), (1, .int (nI (12 - (m + 1))))]) (st' := [.int (s 9), .ref 4, .ref 3, .ref 3]) (G' := (zk_H R ex sl s r el f g df)) rfl ?_
        refine zg_ald (i := .caload) (t := 1) (n := 40) (f := f) (m := p) rfl rfl rfl rfl h9 (by omega) (by decide) ?_
        rw [show f p = c from hfp]
        refine zm_J_run zm_T 1 (pc' := 23) (lv' := [(0, .ref 3), (1, .int (nI (12 - (m + 1))))]) (st' := [.int (nI (12 - (m + 1))), .int c, .ref 3, .ref 3]) (G' := (zk_H R ex sl s r el f g df)) rfl ?_
        refine zg_VK (a := 3) (av := [.int c, .int (nI (12 - (m + 1)))]) (rest := [.ref 3]) (zm_T.1 25 23 _ rfl).1 zc_25_23 rfl (Nat.le_of_ble_eq_true rfl) (Nat.le_of_ble_eq_true rfl) (zk_c hr) (zk_s hr) ((zk_can hr hL hg h7 (by omega) (by omega) (by omega) (by omega) h9 h10).mono (fun z G' k => ⟨_, k.1 hcs, ?_⟩))
        obtain ⟨-, -, rfl⟩ := k
        show zm_J N _ 25 26 [(0, .ref 3), (1, .int (nI (12 - (m + 1))))] [.int 1, .ref 3] (zk_H R ex sl s r el f g df) _
        refine zm_J_run zm_T 3 (pc' := 34) (lv' := [(0, .ref 3), (1, .int (nI (12 - (m + 1))))]) (st' := [.int 1, .ref 3]) (G' := (zk_H R ex sl s r el f g df)) rfl ?_
        refine zg_V (a := 3) (av := [.int 1]) (rest := []) (v := none) (G2 := (zk_H R ex sl s r el f g df)) (zm_T.1 25 34 _ rfl).1 zc_25_34 rfl (Nat.le_of_ble_eq_true rfl) (Nat.le_of_ble_eq_true rfl) (zk_c hr) (zk_s hr) (zk_ref1) ?_
        show zm_J N _ 25 37 [(0, .ref 3), (1, .int (nI (12 - (m + 1))))] [] (zk_H R ex sl s r el f g df) _
        refine zm_J_run zm_T 4 (pc' := 45) (lv' := [(0, .ref 3), (1, .int (nI (12 - (m + 1))))]) (st' := [.int (s 9), .ref 4]) (G' := (zk_H R ex sl s r el f g df)) rfl ?_
        refine zg_ald (i := .caload) (t := 1) (n := 40) (f := f) (m := p) rfl rfl rfl rfl h9 (by omega) (by decide) ?_
        rw [show f p = c from hfp]
        refine zm_J_run zm_T 2 (pc' := 48) (lv' := [(2, .int c), (0, .ref 3), (1, .int (nI (12 - (m + 1))))]) (st' := [.int c]) (G' := (zk_H R ex sl s r el f g df)) rfl ?_
        refine zg_S (av := [.int c]) (rest := []) (v := some (.int (nI (zv_p c)))) (G2 := (zk_H R ex sl s r el f g df)) (zm_T.1 25 48 _ rfl).1 zc_25_48 (Nat.le_of_ble_eq_true rfl) (Nat.le_of_ble_eq_true rfl) (zk_c hr) (zk_s hr) (zk_pts) ?_
        show zm_J N _ 25 51 [(2, .int c), (0, .ref 3), (1, .int (nI (12 - (m + 1))))] [.int (nI (zv_p c))] (zk_H R ex sl s r el f g df) _
        refine zm_J_run zm_T 6 (pc' := 59) (lv' := [(3, .int (nI (zv_p c))), (2, .int c), (0, .ref 3), (1, .int (nI (12 - (m + 1))))]) (st' := [.int ((s 9) + 1), .ref 3]) (G' := (zk_H R ex sl s r el f g df)) rfl ?_
        rw [show s 9 + 1 = nI (p + 1) from by rw [h9]; exact nI_1 _]
        show zm_J N _ 25 59 [(3, .int (nI (zv_p c))), (2, .int c), (0, .ref 3), (1, .int (nI (12 - (m + 1))))] [.int (nI (p + 1)), .ref 3] (zk_H R ex sl s r el f g df) _
        refine zm_J_run zm_T 8 (pc' := 71) (lv' := [(3, .int (nI (zv_p c))), (2, .int c), (0, .ref 3), (1, .int (nI (12 - (m + 1))))]) (st' := [.int ((s 10) + ((nI (zv_p c)) - 1)), .ref 3]) (G' := (zk_H R ex sl (zu s 9 (nI (p + 1))) r el f g df)) rfl ?_
        rw [zk_owed h10]
        show zm_J N _ 25 71 [(3, .int (nI (zv_p c))), (2, .int c), (0, .ref 3), (1, .int (nI (12 - (m + 1))))] [.int (nI (o + zv_p c)), .ref 3] (zk_H R ex sl (zu s 9 (nI (p + 1))) r el f g df) _
        refine zm_J_run zm_T 1 (pc' := 74) (lv' := [(3, .int (nI (zv_p c))), (2, .int c), (0, .ref 3), (1, .int (nI (12 - (m + 1))))]) (st' := []) (G' := (zk_H R ex sl (zu (zu s 9 (nI (p + 1))) 10 (nI (o + zv_p c))) r el f g df)) rfl ?_
        have hI1 : zk_I B S ex sl (zu (zu s 9 (nI (p + 1))) 10 (nI (o + zv_p c))) el va ca ka q := zk_I_s rfl rfl rfl hI
        have hrs1 : zk_rs t L (zu (zu s 9 (nI (p + 1))) 10 (nI (o + zv_p c))) r0 (p + 1) := ⟨hdr1, by omega, h8, rfl, h7⟩
        have hfs1 : zk_fs s (zu (zu s 9 (nI (p + 1))) 10 (nI (o + zv_p c))) := fun k h1 h2 h3 => by rw [zk_une h3, zk_une h2]
        have h101 : zu (zu s 9 (nI (p + 1))) 10 (nI (o + zv_p c)) 10 = nI (o + zv_p c) := rfl
        generalize zu (zu s 9 (nI (p + 1))) 10 (nI (o + zv_p c)) = s1 at *
        rw [zv_rd_op h0] at K1 K0
        obtain hk | hk | hk : zv_p c = 1 ∨ zv_p c = 2 ∨ zv_p c = 3 := by omega
        all_goals rw [hk] at h101 hpr K1 K0 ⊢
        · show zm_J N _ 25 74 [(3, .int 1), (2, .int c), (0, .ref 3), (1, .int (nI (12 - (m + 1))))] [] (zk_H R ex sl s1 r el f g df) _
          refine zm_J_run zm_T 6 (pc' := 88) (lv' := [(3, .int 1), (2, .int c), (0, .ref 3), (1, .int (nI (12 - (m + 1))))]) (st' := [.int ((nI (12 - (m + 1))) + 1), .ref 3]) (G' := (zk_H R ex sl s1 r el f g df)) rfl ?_
          rw [hdep]
          show zm_J N _ 25 88 [(3, .int 1), (2, .int c), (0, .ref 3), (1, .int (nI (12 - (m + 1))))] [.int (nI (12 - m)), .ref 3] (zk_H R ex sl s1 r el f g df) _
          refine zg_VT (a := 3) (av := [.int (nI (12 - m))]) (rest := []) (zm_T.1 25 88 _ rfl).1 zc_25_88 rfl (zm_out0 rfl) (Nat.le_of_ble_eq_true rfl) (Nat.le_of_ble_eq_true rfl) (zk_c hr) (zk_s hr) (hdm ▸ ih r0 (p + 1) (o + 0) B S ex sl s1 _ (by omega) hI1 (hBS.le (by omega) (by omega)) hrs1 (by rw [h101]) (fun w1 p1 ex1 sl1 s2 xa1 e1 i1 x1 f1 rs1 t1 Z1 => ?_) (fun hno z G k => zk_k_rx k (K0 (fun w' h => ?_) z G (zk_RX_tr (zk_xt.refl _) hfs1 (by omega) (by omega) k))))
          rotate_left
          · exact (by
            cases e1 : zv_rd L m r0 with
            | none => rw [zv_rk, e1] at h; cases h
            | some w1 =>
              have a1 := hno w1 e1
              rw [zv_rk, e1] at h
              have a2 := zv_rk_len (L := L) (n := m) (k := 0) h
              omega)
          have len1 := zv_rd_len e1
          have I1 := i1
          have X1 := x1
          have F1 := hfs1.trans f1
          have hr1 := zk_I_r (hBS.le (by omega) (by omega)) I1
          show zm_J N _ 25 91 [(3, .int 1), (2, .int c), (0, .ref 3), (1, .int (nI (12 - (m + 1))))] [.ref (xa1 + 37)] (zk_H R ex1 sl1 s2 r el f g df) _
          have hrm1 := zk_I_room (hBS.le (by omega) (by omega)) I1
          have hrn : zr_r (zk_ap ex1 (Sum.inr (7, [.int 0, .int 0, .null, .null, .null]) : zm_E)) (sl1 + 5) := ⟨by rw [zk_ap_len]; omega, by omega⟩
          refine zm_J_run zm_T 4 (pc' := if (1 : Int32) ≤ 1 then 108 else 98) (lv' := [(4, .ref (xa1 + 37)), (3, .int 1), (2, .int c), (0, .ref 3), (1, .int (nI (12 - (m + 1))))]) (st' := []) (G' := (zk_H R ex1 sl1 s2 r el f g df)) rfl ?_
          rw [if_pos (show (1 : Int32) ≤ 1 by decide +kernel)]
          refine zm_J_run zm_T 5 (pc' := if (1 : Int32) ≤ 2 then 126 else 116) (lv' := [(5, .null), (4, .ref (xa1 + 37)), (3, .int 1), (2, .int c), (0, .ref 3), (1, .int (nI (12 - (m + 1))))]) (st' := []) (G' := (zk_H R ex1 sl1 s2 r el f g df)) rfl ?_
          rw [if_pos (show (1 : Int32) ≤ 2 by decide +kernel)]
          refine zm_J_run zm_T 2 (pc' := 129) (lv' := [(6, .null), (5, .null), (4, .ref (xa1 + 37)), (3, .int 1), (2, .int c), (0, .ref 3), (1, .int (nI (12 - (m + 1))))]) (st' := []) (G' := (zk_H R ex1 sl1 s2 r el f g df)) rfl ?_
          refine zg_newo rfl ⟨by omega, by show sl1 + 5 ≤ zm_S; omega⟩ (G' := (zk_H R (zk_ap ex1 (Sum.inr (7, [.int 0, .int 0, .null, .null, .null]) : zm_E)) (sl1 + 5) s2 r el f g df)) rfl ?_
          refine zm_J_run zm_T 6 (pc' := 141) (lv' := [(6, .null), (5, .null), (4, .ref (xa1 + 37)), (3, .int 1), (2, .int c), (0, .ref 3), (1, .int (nI (12 - (m + 1))))]) (st' := [.null, .null, .ref (xa1 + 37), .int 0, .int c, .ref (ex1.length + 37), .ref (ex1.length + 37)]) (G' := (zk_H R (zk_ap ex1 (Sum.inr (7, [.int 0, .int 0, .null, .null, .null]) : zm_E)) (sl1 + 5) s2 r el f g df)) rfl ?_
          refine zg_I (a := (ex1.length + 37)) (av := [.int c, .int 0, .ref (xa1 + 37), .null, .null]) (rest := [.ref (ex1.length + 37)]) (v := none) (G2 := (zk_H R (zk_ap ex1 (Sum.inr (7, [.int c, .int 0, .ref (xa1 + 37), .null, .null]) : zm_E)) (sl1 + 5) s2 r el f g df)) (zm_T.1 25 141 _ rfl).1 zc_25_141 (Nat.le_of_ble_eq_true rfl) (Nat.le_of_ble_eq_true rfl) (zk_c hrn) (zk_s hrn) (zm_J_d (d' := 0 + 1) (by omega) (zk_xi1 hch)) ?_
          show zm_J N _ 25 144 [(6, .null), (5, .null), (4, .ref (xa1 + 37)), (3, .int 1), (2, .int c), (0, .ref 3), (1, .int (nI (12 - (m + 1))))] [.ref (ex1.length + 37)] (zk_H R (zk_ap ex1 (Sum.inr (7, [.int c, .int 0, .ref (xa1 + 37), .null, .null]) : zm_E)) (sl1 + 5) s2 r el f g df) _
          exact zm_J_fin zm_T rfl rfl (K1 w1 p1 _ _ _ _ (by rw [zv_rk, e1]; rfl) (zk_I_le (by rw [List.length_cons]; omega) (by rw [List.length_cons]; omega) (zk_I_ap _ 5 I1)) (X1.trans (zk_xt_ap _ _)) F1 rs1 t1 ⟨c, r0, c, 0, _, _, _, rfl, zk_ap_new _ _, Or.inr (Or.inr (Or.inr (Or.inr ⟨h0, rfl⟩))), fun _ => ⟨xa1, rfl, by exact zk_X_up (zk_xt_ap _ _).de _ _ _ Z1⟩, fun z => absurd z (by omega), fun z => absurd z (by omega)⟩)
        · show zm_J N _ 25 74 [(3, .int 2), (2, .int c), (0, .ref 3), (1, .int (nI (12 - (m + 1))))] [] (zk_H R ex sl s1 r el f g df) _
          refine zm_J_run zm_T 6 (pc' := 88) (lv' := [(3, .int 2), (2, .int c), (0, .ref 3), (1, .int (nI (12 - (m + 1))))]) (st' := [.int ((nI (12 - (m + 1))) + 1), .ref 3]) (G' := (zk_H R ex sl s1 r el f g df)) rfl ?_
          rw [hdep]
          show zm_J N _ 25 88 [(3, .int 2), (2, .int c), (0, .ref 3), (1, .int (nI (12 - (m + 1))))] [.int (nI (12 - m)), .ref 3] (zk_H R ex sl s1 r el f g df) _
          refine zg_VT (a := 3) (av := [.int (nI (12 - m))]) (rest := []) (zm_T.1 25 88 _ rfl).1 zc_25_88 rfl (zm_out0 rfl) (Nat.le_of_ble_eq_true rfl) (Nat.le_of_ble_eq_true rfl) (zk_c hr) (zk_s hr) (hdm ▸ ih r0 (p + 1) (o + 1) B S ex sl s1 _ (by omega) hI1 (hBS.le (by omega) (by omega)) hrs1 (by rw [h101]) (fun w1 p1 ex1 sl1 s2 xa1 e1 i1 x1 f1 rs1 t1 Z1 => ?_) (fun hno z G k => zk_k_rx k (K0 (fun w' h => ?_) z G (zk_RX_tr (zk_xt.refl _) hfs1 (by omega) (by omega) k))))
          rotate_left
          · exact (by
            cases e1 : zv_rd L m r0 with
            | none => rw [zv_rk, e1] at h; cases h
            | some w1 =>
              have a1 := hno w1 e1
              rw [zv_rk, e1] at h
              have a2 := zv_rk_len (L := L) (n := m) (k := 1) h
              omega)
          have len1 := zv_rd_len e1
          have I1 := i1
          have X1 := x1
          have F1 := hfs1.trans f1
          have hr1 := zk_I_r (hBS.le (by omega) (by omega)) I1
          show zm_J N _ 25 91 [(3, .int 2), (2, .int c), (0, .ref 3), (1, .int (nI (12 - (m + 1))))] [.ref (xa1 + 37)] (zk_H R ex1 sl1 s2 r el f g df) _
          refine zm_J_run zm_T 4 (pc' := if (2 : Int32) ≤ 1 then 108 else 98) (lv' := [(4, .ref (xa1 + 37)), (3, .int 2), (2, .int c), (0, .ref 3), (1, .int (nI (12 - (m + 1))))]) (st' := []) (G' := (zk_H R ex1 sl1 s2 r el f g df)) rfl ?_
          rw [if_neg (show ¬ ((2 : Int32) ≤ 1) by decide +kernel)]
          refine zm_J_run zm_T 4 (pc' := 102) (lv' := [(4, .ref (xa1 + 37)), (3, .int 2), (2, .int c), (0, .ref 3), (1, .int (nI (12 - (m + 1))))]) (st' := [.int ((nI (12 - (m + 1))) + 1), .ref 3]) (G' := (zk_H R ex1 sl1 s2 r el f g df)) rfl ?_
          rw [hdep]
          show zm_J N _ 25 102 [(4, .ref (xa1 + 37)), (3, .int 2), (2, .int c), (0, .ref 3), (1, .int (nI (12 - (m + 1))))] [.int (nI (12 - m)), .ref 3] (zk_H R ex1 sl1 s2 r el f g df) _
          refine zg_VT (a := 3) (av := [.int (nI (12 - m))]) (rest := []) (zm_T.1 25 102 _ rfl).1 zc_25_102 rfl (zm_out0 rfl) (Nat.le_of_ble_eq_true rfl) (Nat.le_of_ble_eq_true rfl) (zk_c hr1) (zk_s hr1) (hdm ▸ ih w1 p1 (o + 0) (B + (r0.length - w1.length)) (S + 5 * (r0.length - w1.length)) ex1 sl1 s2 _ (by omega) I1 (hBS.le (by omega) (by omega)) rs1 (by rw [t1]) (fun w2 p2 ex2 sl2 s3 xa2 e2 i2 x2 f2 rs2 t2 Z2 => ?_) (fun hno z G k => zk_k_rx k (K0 (fun w' h => ?_) z G (zk_RX_tr X1 F1 (by omega) (by omega) k))))
          rotate_left
          · exact (by
            rw [zv_rk, e1] at h
            cases e2 : zv_rd L m w1 with
            | none => dsimp only at h; rw [zv_rk, e2] at h; cases h
            | some w2 =>
              have a1 := hno w2 e2
              dsimp only at h
              rw [zv_rk, e2] at h
              have a2 := zv_rk_len (L := L) (n := m) (k := 0) h
              omega)
          have len2 := zv_rd_len e2
          have I2 := zk_I_le (B' := B + (r0.length - w2.length)) (S' := S + 5 * (r0.length - w2.length)) (by omega) (by omega) i2
          have X2 := X1.trans x2
          have F2 := F1.trans f2
          have Z1 := zk_X_up x2.de _ _ _ Z1
          have hr2 := zk_I_r (hBS.le (by omega) (by omega)) I2
          show zm_J N _ 25 105 [(4, .ref (xa1 + 37)), (3, .int 2), (2, .int c), (0, .ref 3), (1, .int (nI (12 - (m + 1))))] [.ref (xa2 + 37)] (zk_H R ex2 sl2 s3 r el f g df) _
          have hrm2 := zk_I_room (hBS.le (by omega) (by omega)) I2
          have hrn : zr_r (zk_ap ex2 (Sum.inr (7, [.int 0, .int 0, .null, .null, .null]) : zm_E)) (sl2 + 5) := ⟨by rw [zk_ap_len]; omega, by omega⟩
          refine zm_J_run zm_T 5 (pc' := if (2 : Int32) ≤ 2 then 126 else 116) (lv' := [(5, .ref (xa2 + 37)), (4, .ref (xa1 + 37)), (3, .int 2), (2, .int c), (0, .ref 3), (1, .int (nI (12 - (m + 1))))]) (st' := []) (G' := (zk_H R ex2 sl2 s3 r el f g df)) rfl ?_
          rw [if_pos (show (2 : Int32) ≤ 2 by decide +kernel)]
          refine zm_J_run zm_T 2 (pc' := 129) (lv' := [(6, .null), (5, .ref (xa2 + 37)), (4, .ref (xa1 + 37)), (3, .int 2), (2, .int c), (0, .ref 3), (1, .int (nI (12 - (m + 1))))]) (st' := []) (G' := (zk_H R ex2 sl2 s3 r el f g df)) rfl ?_
          refine zg_newo rfl ⟨by omega, by show sl2 + 5 ≤ zm_S; omega⟩ (G' := (zk_H R (zk_ap ex2 (Sum.inr (7, [.int 0, .int 0, .null, .null, .null]) : zm_E)) (sl2 + 5) s3 r el f g df)) rfl ?_
          refine zm_J_run zm_T 6 (pc' := 141) (lv' := [(6, .null), (5, .ref (xa2 + 37)), (4, .ref (xa1 + 37)), (3, .int 2), (2, .int c), (0, .ref 3), (1, .int (nI (12 - (m + 1))))]) (st' := [.null, .ref (xa2 + 37), .ref (xa1 + 37), .int 0, .int c, .ref (ex2.length + 37), .ref (ex2.length + 37)]) (G' := (zk_H R (zk_ap ex2 (Sum.inr (7, [.int 0, .int 0, .null, .null, .null]) : zm_E)) (sl2 + 5) s3 r el f g df)) rfl ?_
          refine zg_I (a := (ex2.length + 37)) (av := [.int c, .int 0, .ref (xa1 + 37), .ref (xa2 + 37), .null]) (rest := [.ref (ex2.length + 37)]) (v := none) (G2 := (zk_H R (zk_ap ex2 (Sum.inr (7, [.int c, .int 0, .ref (xa1 + 37), .ref (xa2 + 37), .null]) : zm_E)) (sl2 + 5) s3 r el f g df)) (zm_T.1 25 141 _ rfl).1 zc_25_141 (Nat.le_of_ble_eq_true rfl) (Nat.le_of_ble_eq_true rfl) (zk_c hrn) (zk_s hrn) (zm_J_d (d' := 0 + 1) (by omega) (zk_xi2 hch)) ?_
          show zm_J N _ 25 144 [(6, .null), (5, .ref (xa2 + 37)), (4, .ref (xa1 + 37)), (3, .int 2), (2, .int c), (0, .ref 3), (1, .int (nI (12 - (m + 1))))] [.ref (ex2.length + 37)] (zk_H R (zk_ap ex2 (Sum.inr (7, [.int c, .int 0, .ref (xa1 + 37), .ref (xa2 + 37), .null]) : zm_E)) (sl2 + 5) s3 r el f g df) _
          exact zm_J_fin zm_T rfl rfl (K1 w2 p2 _ _ _ _ (by rw [zv_rk, e1]; dsimp only; rw [zv_rk, e2]; rfl) (zk_I_le (by rw [List.length_cons]; omega) (by rw [List.length_cons]; omega) (zk_I_ap _ 5 I2)) (X2.trans (zk_xt_ap _ _)) F2 rs2 t2 ⟨c, r0, c, 0, _, _, _, rfl, zk_ap_new _ _, Or.inr (Or.inr (Or.inr (Or.inr ⟨h0, rfl⟩))), fun _ => ⟨xa1, rfl, by exact zk_X_up (zk_xt_ap _ _).de _ _ _ Z1⟩, fun _ => ⟨xa2, rfl, by rw [(zv_rd_ok _ _ _ e1).2]; exact zk_X_up (zk_xt_ap _ _).de _ _ _ Z2⟩, fun z => absurd z (by omega)⟩)
        · show zm_J N _ 25 74 [(3, .int 3), (2, .int c), (0, .ref 3), (1, .int (nI (12 - (m + 1))))] [] (zk_H R ex sl s1 r el f g df) _
          refine zm_J_run zm_T 6 (pc' := 88) (lv' := [(3, .int 3), (2, .int c), (0, .ref 3), (1, .int (nI (12 - (m + 1))))]) (st' := [.int ((nI (12 - (m + 1))) + 1), .ref 3]) (G' := (zk_H R ex sl s1 r el f g df)) rfl ?_
          rw [hdep]
          show zm_J N _ 25 88 [(3, .int 3), (2, .int c), (0, .ref 3), (1, .int (nI (12 - (m + 1))))] [.int (nI (12 - m)), .ref 3] (zk_H R ex sl s1 r el f g df) _
          refine zg_VT (a := 3) (av := [.int (nI (12 - m))]) (rest := []) (zm_T.1 25 88 _ rfl).1 zc_25_88 rfl (zm_out0 rfl) (Nat.le_of_ble_eq_true rfl) (Nat.le_of_ble_eq_true rfl) (zk_c hr) (zk_s hr) (hdm ▸ ih r0 (p + 1) (o + 2) B S ex sl s1 _ (by omega) hI1 (hBS.le (by omega) (by omega)) hrs1 (by rw [h101]) (fun w1 p1 ex1 sl1 s2 xa1 e1 i1 x1 f1 rs1 t1 Z1 => ?_) (fun hno z G k => zk_k_rx k (K0 (fun w' h => ?_) z G (zk_RX_tr (zk_xt.refl _) hfs1 (by omega) (by omega) k))))
          rotate_left
          · exact (by
            cases e1 : zv_rd L m r0 with
            | none => rw [zv_rk, e1] at h; cases h
            | some w1 =>
              have a1 := hno w1 e1
              rw [zv_rk, e1] at h
              have a2 := zv_rk_len (L := L) (n := m) (k := 2) h
              omega)
          have len1 := zv_rd_len e1
          have I1 := i1
          have X1 := x1
          have F1 := hfs1.trans f1
          have hr1 := zk_I_r (hBS.le (by omega) (by omega)) I1
          show zm_J N _ 25 91 [(3, .int 3), (2, .int c), (0, .ref 3), (1, .int (nI (12 - (m + 1))))] [.ref (xa1 + 37)] (zk_H R ex1 sl1 s2 r el f g df) _
          refine zm_J_run zm_T 4 (pc' := if (3 : Int32) ≤ 1 then 108 else 98) (lv' := [(4, .ref (xa1 + 37)), (3, .int 3), (2, .int c), (0, .ref 3), (1, .int (nI (12 - (m + 1))))]) (st' := []) (G' := (zk_H R ex1 sl1 s2 r el f g df)) rfl ?_
          rw [if_neg (show ¬ ((3 : Int32) ≤ 1) by decide +kernel)]
          refine zm_J_run zm_T 4 (pc' := 102) (lv' := [(4, .ref (xa1 + 37)), (3, .int 3), (2, .int c), (0, .ref 3), (1, .int (nI (12 - (m + 1))))]) (st' := [.int ((nI (12 - (m + 1))) + 1), .ref 3]) (G' := (zk_H R ex1 sl1 s2 r el f g df)) rfl ?_
          rw [hdep]
          show zm_J N _ 25 102 [(4, .ref (xa1 + 37)), (3, .int 3), (2, .int c), (0, .ref 3), (1, .int (nI (12 - (m + 1))))] [.int (nI (12 - m)), .ref 3] (zk_H R ex1 sl1 s2 r el f g df) _
          refine zg_VT (a := 3) (av := [.int (nI (12 - m))]) (rest := []) (zm_T.1 25 102 _ rfl).1 zc_25_102 rfl (zm_out0 rfl) (Nat.le_of_ble_eq_true rfl) (Nat.le_of_ble_eq_true rfl) (zk_c hr1) (zk_s hr1) (hdm ▸ ih w1 p1 (o + 1) (B + (r0.length - w1.length)) (S + 5 * (r0.length - w1.length)) ex1 sl1 s2 _ (by omega) I1 (hBS.le (by omega) (by omega)) rs1 (by rw [t1]) (fun w2 p2 ex2 sl2 s3 xa2 e2 i2 x2 f2 rs2 t2 Z2 => ?_) (fun hno z G k => zk_k_rx k (K0 (fun w' h => ?_) z G (zk_RX_tr X1 F1 (by omega) (by omega) k))))
          rotate_left
          · exact (by
            rw [zv_rk, e1] at h
            cases e2 : zv_rd L m w1 with
            | none => dsimp only at h; rw [zv_rk, e2] at h; cases h
            | some w2 =>
              have a1 := hno w2 e2
              dsimp only at h
              rw [zv_rk, e2] at h
              have a2 := zv_rk_len (L := L) (n := m) (k := 1) h
              omega)
          have len2 := zv_rd_len e2
          have I2 := zk_I_le (B' := B + (r0.length - w2.length)) (S' := S + 5 * (r0.length - w2.length)) (by omega) (by omega) i2
          have X2 := X1.trans x2
          have F2 := F1.trans f2
          have Z1 := zk_X_up x2.de _ _ _ Z1
          have hr2 := zk_I_r (hBS.le (by omega) (by omega)) I2
          show zm_J N _ 25 105 [(4, .ref (xa1 + 37)), (3, .int 3), (2, .int c), (0, .ref 3), (1, .int (nI (12 - (m + 1))))] [.ref (xa2 + 37)] (zk_H R ex2 sl2 s3 r el f g df) _
          refine zm_J_run zm_T 5 (pc' := if (3 : Int32) ≤ 2 then 126 else 116) (lv' := [(5, .ref (xa2 + 37)), (4, .ref (xa1 + 37)), (3, .int 3), (2, .int c), (0, .ref 3), (1, .int (nI (12 - (m + 1))))]) (st' := []) (G' := (zk_H R ex2 sl2 s3 r el f g df)) rfl ?_
          rw [if_neg (show ¬ ((3 : Int32) ≤ 2) by decide +kernel)]
          refine zm_J_run zm_T 4 (pc' := 120) (lv' := [(5, .ref (xa2 + 37)), (4, .ref (xa1 + 37)), (3, .int 3), (2, .int c), (0, .ref 3), (1, .int (nI (12 - (m + 1))))]) (st' := [.int ((nI (12 - (m + 1))) + 1), .ref 3]) (G' := (zk_H R ex2 sl2 s3 r el f g df)) rfl ?_
          rw [hdep]
          show zm_J N _ 25 120 [(5, .ref (xa2 + 37)), (4, .ref (xa1 + 37)), (3, .int 3), (2, .int c), (0, .ref 3), (1, .int (nI (12 - (m + 1))))] [.int (nI (12 - m)), .ref 3] (zk_H R ex2 sl2 s3 r el f g df) _
          refine zg_VT (a := 3) (av := [.int (nI (12 - m))]) (rest := []) (zm_T.1 25 120 _ rfl).1 zc_25_120 rfl (zm_out0 rfl) (Nat.le_of_ble_eq_true rfl) (Nat.le_of_ble_eq_true rfl) (zk_c hr2) (zk_s hr2) (hdm ▸ ih w2 p2 (o + 0) (B + (r0.length - w2.length)) (S + 5 * (r0.length - w2.length)) ex2 sl2 s3 _ (by omega) I2 (hBS.le (by omega) (by omega)) rs2 (by rw [t2]) (fun w3 p3 ex3 sl3 s4 xa3 e3 i3 x3 f3 rs3 t3 Z3 => ?_) (fun hno z G k => zk_k_rx k (K0 (fun w' h => ?_) z G (zk_RX_tr X2 F2 (by omega) (by omega) k))))
          rotate_left
          · exact (by
            rw [zv_rk, e1] at h
            dsimp only at h
            rw [zv_rk, e2] at h
            dsimp only at h
            cases e3 : zv_rd L m w2 with
            | none => rw [zv_rk, e3] at h; cases h
            | some w3 =>
              have a1 := hno w3 e3
              rw [zv_rk, e3] at h
              have a2 := zv_rk_len (L := L) (n := m) (k := 0) h
              omega)
          have len3 := zv_rd_len e3
          have I3 := zk_I_le (B' := B + (r0.length - w3.length)) (S' := S + 5 * (r0.length - w3.length)) (by omega) (by omega) i3
          have X3 := X2.trans x3
          have F3 := F2.trans f3
          have Z1 := zk_X_up x3.de _ _ _ Z1
          have Z2 := zk_X_up x3.de _ _ _ Z2
          have hr3 := zk_I_r (hBS.le (by omega) (by omega)) I3
          show zm_J N _ 25 123 [(5, .ref (xa2 + 37)), (4, .ref (xa1 + 37)), (3, .int 3), (2, .int c), (0, .ref 3), (1, .int (nI (12 - (m + 1))))] [.ref (xa3 + 37)] (zk_H R ex3 sl3 s4 r el f g df) _
          have hrm3 := zk_I_room (hBS.le (by omega) (by omega)) I3
          have hrn : zr_r (zk_ap ex3 (Sum.inr (7, [.int 0, .int 0, .null, .null, .null]) : zm_E)) (sl3 + 5) := ⟨by rw [zk_ap_len]; omega, by omega⟩
          refine zm_J_run zm_T 2 (pc' := 129) (lv' := [(6, .ref (xa3 + 37)), (5, .ref (xa2 + 37)), (4, .ref (xa1 + 37)), (3, .int 3), (2, .int c), (0, .ref 3), (1, .int (nI (12 - (m + 1))))]) (st' := []) (G' := (zk_H R ex3 sl3 s4 r el f g df)) rfl ?_
          refine zg_newo rfl ⟨by omega, by show sl3 + 5 ≤ zm_S; omega⟩ (G' := (zk_H R (zk_ap ex3 (Sum.inr (7, [.int 0, .int 0, .null, .null, .null]) : zm_E)) (sl3 + 5) s4 r el f g df)) rfl ?_
          refine zm_J_run zm_T 6 (pc' := 141) (lv' := [(6, .ref (xa3 + 37)), (5, .ref (xa2 + 37)), (4, .ref (xa1 + 37)), (3, .int 3), (2, .int c), (0, .ref 3), (1, .int (nI (12 - (m + 1))))]) (st' := [.ref (xa3 + 37), .ref (xa2 + 37), .ref (xa1 + 37), .int 0, .int c, .ref (ex3.length + 37), .ref (ex3.length + 37)]) (G' := (zk_H R (zk_ap ex3 (Sum.inr (7, [.int 0, .int 0, .null, .null, .null]) : zm_E)) (sl3 + 5) s4 r el f g df)) rfl ?_
          refine zg_I (a := (ex3.length + 37)) (av := [.int c, .int 0, .ref (xa1 + 37), .ref (xa2 + 37), .ref (xa3 + 37)]) (rest := [.ref (ex3.length + 37)]) (v := none) (G2 := (zk_H R (zk_ap ex3 (Sum.inr (7, [.int c, .int 0, .ref (xa1 + 37), .ref (xa2 + 37), .ref (xa3 + 37)]) : zm_E)) (sl3 + 5) s4 r el f g df)) (zm_T.1 25 141 _ rfl).1 zc_25_141 (Nat.le_of_ble_eq_true rfl) (Nat.le_of_ble_eq_true rfl) (zk_c hrn) (zk_s hrn) (zm_J_d (d' := 0 + 1) (by omega) (zk_xi3 hch)) ?_
          show zm_J N _ 25 144 [(6, .ref (xa3 + 37)), (5, .ref (xa2 + 37)), (4, .ref (xa1 + 37)), (3, .int 3), (2, .int c), (0, .ref 3), (1, .int (nI (12 - (m + 1))))] [.ref (ex3.length + 37)] (zk_H R (zk_ap ex3 (Sum.inr (7, [.int c, .int 0, .ref (xa1 + 37), .ref (xa2 + 37), .ref (xa3 + 37)]) : zm_E)) (sl3 + 5) s4 r el f g df) _
          exact zm_J_fin zm_T rfl rfl (K1 w3 p3 _ _ _ _ (by rw [zv_rk, e1]; dsimp only; rw [zv_rk, e2]; dsimp only; rw [zv_rk, e3]; rfl) (zk_I_le (by rw [List.length_cons]; omega) (by rw [List.length_cons]; omega) (zk_I_ap _ 5 I3)) (X3.trans (zk_xt_ap _ _)) F3 rs3 t3 ⟨c, r0, c, 0, _, _, _, rfl, zk_ap_new _ _, Or.inr (Or.inr (Or.inr (Or.inr ⟨h0, rfl⟩))), fun _ => ⟨xa1, rfl, by exact zk_X_up (zk_xt_ap _ _).de _ _ _ Z1⟩, fun _ => ⟨xa2, rfl, by rw [(zv_rd_ok _ _ _ e1).2]; exact zk_X_up (zk_xt_ap _ _).de _ _ _ Z2⟩, fun _ => ⟨xa3, rfl, by rw [(zv_rd_ok _ _ _ e1).2, (zv_rd_ok _ _ _ e2).2]; exact zk_X_up (zk_xt_ap _ _).de _ _ _ Z3⟩⟩)
theorem zk_rd (hst : zk_st t L f g) (hwl : zv_wL L) (hd : 9 ≤ d) : ∀ n, n ≤ 11 → zk_RD N R r el f g df va ca ka q t L d n := by
  intro n
  induction n with
  | zero => exact fun _ => zk_rd_step hst hwl hd (by omega) (fun m h => absurd h (by omega))
  | succ n ih => exact fun hn => zk_rd_step hst hwl hd hn (fun m h => by cases h; exact ih (by omega))
end ZKX

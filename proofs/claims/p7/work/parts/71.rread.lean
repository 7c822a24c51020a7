/-! THE REFERENCE READS -/
theorem zr_p_no {c : Int32} (h : zr_p c < 0) : zv_p c = 0 ∧ ∀ L, zv_wL L → zv_l L c = false := by
  have key : ∀ L, zv_wL L → zv_l L c = true → False := fun L hL hl => by
    rw [zr_p_v hL hl] at h
    exact nI_pos (Nat.lt_of_le_of_lt (zv_p_le c) (by decide)) h
  refine ⟨?_, fun L hL => ?_⟩
  · rcases Nat.eq_zero_or_pos (zv_p c) with z | z
    · exact z
    · exact (key [] (fun _ hx => by cases hx) (zv_l_p (by omega))).elim
  · cases hb : zv_l L c with
    | false => rfl
    | true => exact (key L hL hb).elim
theorem zr_p_yes {c : Int32} (h : ¬ zr_p c < 0) : zr_p c = nI (zv_p c) := by
  by_cases h0 : zv_p c = 0
  · rw [h0]
    by_cases h1 : 48 ≤ c ∧ c ≤ 57
    · rw [zr_p, if_pos h1]; rfl
    by_cases h2 : 97 ≤ c ∧ c ≤ 102
    · rw [zr_p, if_neg h1, if_pos h2]; rfl
    by_cases h3 : 65 ≤ c ∧ c ≤ 70
    · rw [zr_p, if_neg h1, if_neg h2, if_pos h3]; rfl
    by_cases h4 : c = 110
    · rw [zr_p, if_neg h1, if_neg h2, if_neg h3, if_pos h4]; rfl
    refine absurd ?_ h
    have hz : ∀ x : Int32, zv_p x ≠ 0 → ¬ c = x := fun x hx e => hx (e ▸ h0)
    rw [zr_p, if_neg h1, if_neg h2, if_neg h3, if_neg h4, if_neg (hz _ (by decide)), if_neg (hz _ (by decide)), if_neg (hz _ (by decide)), if_neg (hz _ (by decide)), if_neg (hz _ (by decide)), if_neg (hz _ (by decide)), if_neg (hz _ (by decide)), if_neg (hz _ (by decide)), if_neg (hz _ (by decide)), if_neg (hz _ (by decide)), if_neg (hz _ (by decide)), if_neg (hz _ (by decide)), if_neg (hz _ (by decide))]
    decide
  · exact zr_p_v (L := []) (fun _ hx => by cases hx) (zv_l_p h0)
/-- which letters a mask has -/
def zr_mk (L : List Int32) (m : Int32) : Prop := ∀ c, 97 ≤ c ∧ c ≤ 102 → ((m >>> ((c - 97) &&& 31)) &&& 1 = 0 ↔ ¬ c ∈ L)
def zr_tt (s : Nat → Int32) (a : Nat → Nat → Int32) (t : List Int32) : Prop := s 8 = nI t.length ∧ t.length ≤ 40 ∧ ∀ i x, t[i]? = some x → a 0 i = x
theorem zr_let {L : List Int32} {c : Int32} (h : 97 ≤ c ∧ c ≤ 102) (hl : ¬ c ∈ L) : zv_p c = 0 ∧ zv_l L c = false := by
  refine ⟨zv_leaf (Or.inr (Or.inl h)), ?_⟩
  cases hb : zv_l L c with
  | false => rfl
  | true => exact absurd (zv_l_let hb h) hl
theorem zr_nlet {L : List Int32} {c : Int32} (h0 : zv_p c = 0) (hn : ¬ zr_p c < 0) (h : (97 ≤ c ∧ c ≤ 102) → c ∈ L) : zv_l L c = true := by
  unfold zv_l
  by_cases h1 : 48 ≤ c ∧ c ≤ 57
  · rw [decide_eq_true h1]; simp
  by_cases h2 : 97 ≤ c ∧ c ≤ 102
  · rw [List.contains_iff_mem.mpr (h h2)]; simp
  by_cases h3 : 65 ≤ c ∧ c ≤ 70
  · rw [decide_eq_true h3]; simp
  by_cases h4 : c = 110
  · rw [decide_eq_true h4]; simp
  refine absurd ?_ hn
  have hz : ∀ x : Int32, zv_p x ≠ 0 → ¬ c = x := fun x hx e => hx (e ▸ h0)
  rw [zr_p, if_neg h1, if_neg h2, if_neg h3, if_neg h4, if_neg (hz _ (by decide)), if_neg (hz _ (by decide)), if_neg (hz _ (by decide)), if_neg (hz _ (by decide)), if_neg (hz _ (by decide)), if_neg (hz _ (by decide)), if_neg (hz _ (by decide)), if_neg (hz _ (by decide)), if_neg (hz _ (by decide)), if_neg (hz _ (by decide)), if_neg (hz _ (by decide)), if_neg (hz _ (by decide)), if_neg (hz _ (by decide))]
  decide
section ZRR
variable {N : zm_N} {d : Nat} {C : Nat → zm_E} {ex : List zm_E} {sl : Nat} {s : Nat → Int32} {a : Nat → Nat → Int32} {Q : zm_O → zm_H → Prop} {t L : List Int32} {mk : Int32}
def zr_X (C : Nat → zm_E) (ex : List zm_E) (sl : Nat) (s : Nat → Int32) (a : Nat → Nat → Int32) (q : Nat) (nd : Nat → Int32) : zm_H := zr_H C ex sl (zu s 10 (nI q)) (zu a 6 nd)
/-- one turn of the loop: c is the character at the place, or 0 -/
theorem zr_rd1 (hr : zr_r ex sl) (hd : 2 ≤ d) (ht : zr_tt s a t) (hm : zr_mk L mk) (hL : zv_wL L) {e q m : Nat} {nd : Nat → Int32} (he : 1 ≤ e ∧ e ≤ 12) (hq : q ≤ t.length) (hnd : nd e = nI (m + 1))
    (kf : (t.drop q = [] ∨ ∃ c r, t.drop q = c :: r ∧ ((zv_p c = 0 ∧ zv_l L c = false) ∨ (zv_p c ≠ 0 ∧ e = 12))) → Q (.inl (some (.int 0))) (zr_H C ex sl (zu s 10 (nI q)) (zu a 6 nd)))
    (k0 : ∀ c r, t.drop q = c :: r → zv_p c = 0 → zv_l L c = true → zm_J N d 79 100 [(2, .int (nI e)), (0, .ref 12), (1, .int mk)] [] (zr_H C ex sl (zu s 10 (nI (q + 1))) (zu a 6 (upd nd e (nI m)))) Q)
    (k1 : ∀ c r, t.drop q = c :: r → zv_p c ≠ 0 → e < 12 → zm_J N d 79 9 [(2, .int (nI (e + 1))), (0, .ref 12), (1, .int mk)] [] (zr_H C ex sl (zu s 10 (nI (q + 1))) (zu a 6 (upd (upd nd e (nI m)) (e + 1) (nI (zv_p c))))) Q) : zm_J N d 79 9 [(2, .int (nI e)), (0, .ref 12), (1, .int mk)] [] (zr_H C ex sl (zu s 10 (nI q)) (zu a 6 nd)) Q := by
  obtain ⟨d, rfl⟩ : ∃ e, d = e + 2 := ⟨d - 2, by omega⟩
  obtain ⟨ht1, ht2, ht3⟩ := ht
  by_cases hql : q < t.length
  · obtain ⟨c, hc⟩ : ∃ c, t[q]? = some c := ⟨t[q], List.getElem?_eq_getElem hql⟩
    have hdr : t.drop q = c :: t.drop (q + 1) := by
      rw [List.drop_eq_getElem_cons hql]
      congr 1
      rw [List.getElem?_eq_getElem hql] at hc
      exact Option.some.inj hc
    refine zm_J_run zm_T 2 (pc' := if (nI e) ≤ 0 then 122 else 13) (lv' := [(2, .int (nI e)), (0, .ref 12), (1, .int mk)]) (st' := []) (G' := (zr_H C ex sl (zu s 10 (nI q)) (zu a 6 nd))) rfl ?_
    rw [if_neg (show ¬ ((nI e) ≤ 0) from nI_nle (by omega) (by omega))]
    refine zm_J_run zm_T 1 (pc' := 14) (lv' := [(2, .int (nI e)), (0, .ref 12), (1, .int mk)]) (st' := [.ref 12]) (G' := (zr_H C ex sl (zu s 10 (nI q)) (zu a 6 nd))) rfl ?_
    refine zg_V (a := 12) (av := []) (rest := []) (v := some (.int (a 0 q))) (G2 := (zr_H C ex sl (zu s 10 (nI q)) (zu a 6 nd))) (zm_T.1 79 14 _ rfl).1 zc_79_14 rfl (Nat.le_of_ble_eq_true rfl) (Nat.le_of_ble_eq_true rfl) (zr_c hr) (zr_s hr) (zr_look1 (s := zu s 10 (nI q)) (a := zu a 6 nd) (q := q) (n := t.length) rfl ht1 hql ht2) ?_
    show zm_J N _ 79 17 [(2, .int (nI e)), (0, .ref 12), (1, .int mk)] [.int (a 0 q)] (zr_H C ex sl (zu s 10 (nI q)) (zu a 6 nd)) _
    rw [show a 0 q = c from ht3 q c hc]
    show zm_J N _ 79 17 [(2, .int (nI e)), (0, .ref 12), (1, .int mk)] [.int c] (zr_H C ex sl (zu s 10 (nI q)) (zu a 6 nd)) _
    refine zm_J_run zm_T 2 (pc' := 19) (lv' := [(3, .int c), (2, .int (nI e)), (0, .ref 12), (1, .int mk)]) (st' := [.int c]) (G' := (zr_H C ex sl (zu s 10 (nI q)) (zu a 6 nd))) rfl ?_
    refine zg_S (av := [.int c]) (rest := []) (v := some (.int (zr_p c))) (G2 := (zr_H C ex sl (zu s 10 (nI q)) (zu a 6 nd))) (zm_T.1 79 19 _ rfl).1 zc_79_19 (Nat.le_of_ble_eq_true rfl) (Nat.le_of_ble_eq_true rfl) (zr_c hr) (zr_s hr) (zr_parts (by omega) c _ (zr_c hr) (zr_s hr)) ?_
    show zm_J N _ 79 22 [(3, .int c), (2, .int (nI e)), (0, .ref 12), (1, .int mk)] [.int (zr_p c)] (zr_H C ex sl (zu s 10 (nI q)) (zu a 6 nd)) _
    refine zm_J_run zm_T 3 (pc' := if (zr_p c) < 0 then 62 else 29) (lv' := [(4, .int (zr_p c)), (3, .int c), (2, .int (nI e)), (0, .ref 12), (1, .int mk)]) (st' := []) (G' := (zr_H C ex sl (zu s 10 (nI q)) (zu a 6 nd))) rfl ?_
    by_cases hneg : (zr_p c) < 0
    · rw [if_pos hneg]
      refine zm_J_run zm_T 1 (pc' := 63) (lv' := [(4, .int (zr_p c)), (3, .int c), (2, .int (nI e)), (0, .ref 12), (1, .int mk)]) (st' := [.int 0]) (G' := (zr_H C ex sl (zu s 10 (nI q)) (zu a 6 nd))) rfl ?_
      exact zm_J_fin zm_T rfl rfl (kf (Or.inr ⟨c, _, hdr, Or.inl ⟨(zr_p_no hneg).1, (zr_p_no hneg).2 L hL⟩⟩))
    · rw [if_neg hneg]
      have hpv := zr_p_yes hneg
      by_cases hz : zv_p c = 0
      · refine zm_J_run zm_T 2 (pc' := if (zr_p c) ≤ 0 then 40 else 34) (lv' := [(4, .int (zr_p c)), (3, .int c), (2, .int (nI e)), (0, .ref 12), (1, .int mk)]) (st' := []) (G' := (zr_H C ex sl (zu s 10 (nI q)) (zu a 6 nd))) rfl ?_
        rw [if_pos (show (zr_p c) ≤ 0 from by rw [hpv, hz]; decide)]
        by_cases hlt : 97 ≤ c ∧ c ≤ 102
        · refine zm_J_run zm_T 3 (pc' := 45) (lv' := [(4, .int (zr_p c)), (3, .int c), (2, .int (nI e)), (0, .ref 12), (1, .int mk)]) (st' := [.int 102, .int 97, .int c]) (G' := (zr_H C ex sl (zu s 10 (nI q)) (zu a 6 nd))) rfl ?_
          refine zg_S (av := [.int c, .int 97, .int 102]) (rest := []) (v := some (.int (if 97 ≤ c ∧ c ≤ 102 then 1 else 0))) (G2 := (zr_H C ex sl (zu s 10 (nI q)) (zu a 6 nd))) (zm_T.1 79 45 _ rfl).1 zc_79_45 (Nat.le_of_ble_eq_true rfl) (Nat.le_of_ble_eq_true rfl) (zr_c hr) (zr_s hr) (zr_btw c 97 102 _) ?_
          show zm_J N _ 79 48 [(4, .int (zr_p c)), (3, .int c), (2, .int (nI e)), (0, .ref 12), (1, .int mk)] [.int (if 97 ≤ c ∧ c ≤ 102 then 1 else 0)] (zr_H C ex sl (zu s 10 (nI q)) (zu a 6 nd)) _
          rw [if_pos hlt]
          show zm_J N _ 79 48 [(4, .int (zr_p c)), (3, .int c), (2, .int (nI e)), (0, .ref 12), (1, .int mk)] [.int 1] (zr_H C ex sl (zu s 10 (nI q)) (zu a 6 nd)) _
          refine zm_J_run zm_T 9 (pc' := if ((mk >>> ((c - 97) &&& 31)) &&& 1) = 0 then 62 else 64) (lv' := [(4, .int (zr_p c)), (3, .int c), (2, .int (nI e)), (0, .ref 12), (1, .int mk)]) (st' := []) (G' := (zr_H C ex sl (zu s 10 (nI q)) (zu a 6 nd))) rfl ?_
          by_cases hb : ((mk >>> ((c - 97) &&& 31)) &&& 1) = 0
          · rw [if_pos hb]
            refine zm_J_run zm_T 1 (pc' := 63) (lv' := [(4, .int (zr_p c)), (3, .int c), (2, .int (nI e)), (0, .ref 12), (1, .int mk)]) (st' := [.int 0]) (G' := (zr_H C ex sl (zu s 10 (nI q)) (zu a 6 nd))) rfl ?_
            exact zm_J_fin zm_T rfl rfl (kf (Or.inr ⟨c, _, hdr, Or.inl ⟨hz, (zr_let hlt ((hm c hlt).mp hb)).2⟩⟩))
          · rw [if_neg hb]
            have hl : zv_l L c = true := zr_nlet hz hneg (fun _ => by by_cases hcm : c ∈ L; exact hcm; exact absurd ((hm c hlt).mpr hcm) hb)
            refine zm_J_run zm_T 6 (pc' := 74) (lv' := [(4, .int (zr_p c)), (3, .int c), (2, .int (nI e)), (0, .ref 12), (1, .int mk)]) (st' := []) (G' := (zr_H C ex sl (zu s 10 ((nI q) + 1)) (zu a 6 nd))) rfl ?_
            rw [show nI q + 1 = nI (q + 1) from nI_1 q]
            show zm_J N _ 79 74 [(4, .int (zr_p c)), (3, .int c), (2, .int (nI e)), (0, .ref 12), (1, .int mk)] [] (zr_H C ex sl (zu s 10 (nI (q + 1))) (zu a 6 nd)) _
            refine zm_J_run zm_T 4 (pc' := 80) (lv' := [(4, .int (zr_p c)), (3, .int c), (2, .int (nI e)), (0, .ref 12), (1, .int mk)]) (st' := [.int (nI e), .ref 19, .int (nI e), .ref 19]) (G' := (zr_H C ex sl (zu s 10 (nI (q + 1))) (zu a 6 nd))) rfl ?_
            refine zg_ald (i := .iaload) (t := 0) (n := 16) (f := nd) (m := e) rfl rfl rfl rfl rfl (by omega) (by decide) ?_
            rw [show nd e = nI (m + 1) from hnd]
            refine zm_J_run zm_T 2 (pc' := 83) (lv' := [(4, .int (zr_p c)), (3, .int c), (2, .int (nI e)), (0, .ref 12), (1, .int mk)]) (st' := [.int ((nI (m + 1)) - 1), .int (nI e), .ref 19]) (G' := (zr_H C ex sl (zu s 10 (nI (q + 1))) (zu a 6 nd))) rfl ?_
            rw [show nI (m + 1) - 1 = nI m from nI_pred m]
            show zm_J N _ 79 83 [(4, .int (zr_p c)), (3, .int c), (2, .int (nI e)), (0, .ref 12), (1, .int mk)] [.int (nI m), .int (nI e), .ref 19] (zr_H C ex sl (zu s 10 (nI (q + 1))) (zu a 6 nd)) _
            refine zg_ast (i := .iastore) (t := 0) (n := 16) (f := nd) (m := e) (v' := (nI m)) (G' := (zr_H C ex sl (zu s 10 (nI (q + 1))) (zu a 6 (upd nd e (nI m))))) rfl rfl rfl rfl (by decide) rfl (by omega) (by decide) rfl ?_
            refine zm_J_run zm_T 2 (pc' := if (zr_p c) ≤ 0 then 100 else 89) (lv' := [(4, .int (zr_p c)), (3, .int c), (2, .int (nI e)), (0, .ref 12), (1, .int mk)]) (st' := []) (G' := (zr_H C ex sl (zu s 10 (nI (q + 1))) (zu a 6 (upd nd e (nI m))))) rfl ?_
            rw [if_pos (show (zr_p c) ≤ 0 from by rw [hpv, hz]; decide)]
            refine zm_J_lv (lv' := [(2, .int (nI e)), (0, .ref 12), (1, .int mk)]) (by simp) ?_
            exact k0 c _ hdr hz hl
        · refine zm_J_run zm_T 3 (pc' := 45) (lv' := [(4, .int (zr_p c)), (3, .int c), (2, .int (nI e)), (0, .ref 12), (1, .int mk)]) (st' := [.int 102, .int 97, .int c]) (G' := (zr_H C ex sl (zu s 10 (nI q)) (zu a 6 nd))) rfl ?_
          refine zg_S (av := [.int c, .int 97, .int 102]) (rest := []) (v := some (.int (if 97 ≤ c ∧ c ≤ 102 then 1 else 0))) (G2 := (zr_H C ex sl (zu s 10 (nI q)) (zu a 6 nd))) (zm_T.1 79 45 _ rfl).1 zc_79_45 (Nat.le_of_ble_eq_true rfl) (Nat.le_of_ble_eq_true rfl) (zr_c hr) (zr_s hr) (zr_btw c 97 102 _) ?_
          show zm_J N _ 79 48 [(4, .int (zr_p c)), (3, .int c), (2, .int (nI e)), (0, .ref 12), (1, .int mk)] [.int (if 97 ≤ c ∧ c ≤ 102 then 1 else 0)] (zr_H C ex sl (zu s 10 (nI q)) (zu a 6 nd)) _
          rw [if_neg hlt]
          show zm_J N _ 79 48 [(4, .int (zr_p c)), (3, .int c), (2, .int (nI e)), (0, .ref 12), (1, .int mk)] [.int 0] (zr_H C ex sl (zu s 10 (nI q)) (zu a 6 nd)) _
          have hl : zv_l L c = true := zr_nlet hz hneg (fun z => absurd z hlt)
          refine zm_J_run zm_T 7 (pc' := 74) (lv' := [(4, .int (zr_p c)), (3, .int c), (2, .int (nI e)), (0, .ref 12), (1, .int mk)]) (st' := []) (G' := (zr_H C ex sl (zu s 10 ((nI q) + 1)) (zu a 6 nd))) rfl ?_
          rw [show nI q + 1 = nI (q + 1) from nI_1 q]
          show zm_J N _ 79 74 [(4, .int (zr_p c)), (3, .int c), (2, .int (nI e)), (0, .ref 12), (1, .int mk)] [] (zr_H C ex sl (zu s 10 (nI (q + 1))) (zu a 6 nd)) _
          refine zm_J_run zm_T 4 (pc' := 80) (lv' := [(4, .int (zr_p c)), (3, .int c), (2, .int (nI e)), (0, .ref 12), (1, .int mk)]) (st' := [.int (nI e), .ref 19, .int (nI e), .ref 19]) (G' := (zr_H C ex sl (zu s 10 (nI (q + 1))) (zu a 6 nd))) rfl ?_
          refine zg_ald (i := .iaload) (t := 0) (n := 16) (f := nd) (m := e) rfl rfl rfl rfl rfl (by omega) (by decide) ?_
          rw [show nd e = nI (m + 1) from hnd]
          refine zm_J_run zm_T 2 (pc' := 83) (lv' := [(4, .int (zr_p c)), (3, .int c), (2, .int (nI e)), (0, .ref 12), (1, .int mk)]) (st' := [.int ((nI (m + 1)) - 1), .int (nI e), .ref 19]) (G' := (zr_H C ex sl (zu s 10 (nI (q + 1))) (zu a 6 nd))) rfl ?_
          rw [show nI (m + 1) - 1 = nI m from nI_pred m]
          show zm_J N _ 79 83 [(4, .int (zr_p c)), (3, .int c), (2, .int (nI e)), (0, .ref 12), (1, .int mk)] [.int (nI m), .int (nI e), .ref 19] (zr_H C ex sl (zu s 10 (nI (q + 1))) (zu a 6 nd)) _
          refine zg_ast (i := .iastore) (t := 0) (n := 16) (f := nd) (m := e) (v' := (nI m)) (G' := (zr_H C ex sl (zu s 10 (nI (q + 1))) (zu a 6 (upd nd e (nI m))))) rfl rfl rfl rfl (by decide) rfl (by omega) (by decide) rfl ?_
          refine zm_J_run zm_T 2 (pc' := if (zr_p c) ≤ 0 then 100 else 89) (lv' := [(4, .int (zr_p c)), (3, .int c), (2, .int (nI e)), (0, .ref 12), (1, .int mk)]) (st' := []) (G' := (zr_H C ex sl (zu s 10 (nI (q + 1))) (zu a 6 (upd nd e (nI m))))) rfl ?_
          rw [if_pos (show (zr_p c) ≤ 0 from by rw [hpv, hz]; decide)]
          refine zm_J_lv (lv' := [(2, .int (nI e)), (0, .ref 12), (1, .int mk)]) (by simp) ?_
          exact k0 c _ hdr hz hl
      · refine zm_J_run zm_T 2 (pc' := if (zr_p c) ≤ 0 then 40 else 34) (lv' := [(4, .int (zr_p c)), (3, .int c), (2, .int (nI e)), (0, .ref 12), (1, .int mk)]) (st' := []) (G' := (zr_H C ex sl (zu s 10 (nI q)) (zu a 6 nd))) rfl ?_
        rw [if_neg (show ¬ ((zr_p c) ≤ 0) from by rw [hpv]; exact nI_nle (by omega) (by have := zv_p_le c; omega))]
        by_cases h12 : e = 12
        · refine zm_J_run zm_T 3 (pc' := if (nI e) = 12 then 62 else 40) (lv' := [(4, .int (zr_p c)), (3, .int c), (2, .int (nI e)), (0, .ref 12), (1, .int mk)]) (st' := []) (G' := (zr_H C ex sl (zu s 10 (nI q)) (zu a 6 nd))) rfl ?_
          rw [if_pos (show (nI e) = 12 from by rw [h12]; rfl)]
          refine zm_J_run zm_T 1 (pc' := 63) (lv' := [(4, .int (zr_p c)), (3, .int c), (2, .int (nI e)), (0, .ref 12), (1, .int mk)]) (st' := [.int 0]) (G' := (zr_H C ex sl (zu s 10 (nI q)) (zu a 6 nd))) rfl ?_
          exact zm_J_fin zm_T rfl rfl (kf (Or.inr ⟨c, _, hdr, Or.inr ⟨hz, h12⟩⟩))
        · refine zm_J_run zm_T 3 (pc' := if (nI e) = 12 then 62 else 40) (lv' := [(4, .int (zr_p c)), (3, .int c), (2, .int (nI e)), (0, .ref 12), (1, .int mk)]) (st' := []) (G' := (zr_H C ex sl (zu s 10 (nI q)) (zu a 6 nd))) rfl ?_
          rw [if_neg (show ¬ ((nI e) = 12) from fun z => h12 ((nI_eq (by omega) (by omega)).mp z))]
          have hlt : ¬ (97 ≤ c ∧ c ≤ 102) := fun z => hz (zv_leaf (Or.inr (Or.inl z)))
          refine zm_J_run zm_T 3 (pc' := 45) (lv' := [(4, .int (zr_p c)), (3, .int c), (2, .int (nI e)), (0, .ref 12), (1, .int mk)]) (st' := [.int 102, .int 97, .int c]) (G' := (zr_H C ex sl (zu s 10 (nI q)) (zu a 6 nd))) rfl ?_
          refine zg_S (av := [.int c, .int 97, .int 102]) (rest := []) (v := some (.int (if 97 ≤ c ∧ c ≤ 102 then 1 else 0))) (G2 := (zr_H C ex sl (zu s 10 (nI q)) (zu a 6 nd))) (zm_T.1 79 45 _ rfl).1 zc_79_45 (Nat.le_of_ble_eq_true rfl) (Nat.le_of_ble_eq_true rfl) (zr_c hr) (zr_s hr) (zr_btw c 97 102 _) ?_
          show zm_J N _ 79 48 [(4, .int (zr_p c)), (3, .int c), (2, .int (nI e)), (0, .ref 12), (1, .int mk)] [.int (if 97 ≤ c ∧ c ≤ 102 then 1 else 0)] (zr_H C ex sl (zu s 10 (nI q)) (zu a 6 nd)) _
          rw [if_neg hlt]
          show zm_J N _ 79 48 [(4, .int (zr_p c)), (3, .int c), (2, .int (nI e)), (0, .ref 12), (1, .int mk)] [.int 0] (zr_H C ex sl (zu s 10 (nI q)) (zu a 6 nd)) _
          refine zm_J_run zm_T 7 (pc' := 74) (lv' := [(4, .int (zr_p c)), (3, .int c), (2, .int (nI e)), (0, .ref 12), (1, .int mk)]) (st' := []) (G' := (zr_H C ex sl (zu s 10 ((nI q) + 1)) (zu a 6 nd))) rfl ?_
          rw [show nI q + 1 = nI (q + 1) from nI_1 q]
          show zm_J N _ 79 74 [(4, .int (zr_p c)), (3, .int c), (2, .int (nI e)), (0, .ref 12), (1, .int mk)] [] (zr_H C ex sl (zu s 10 (nI (q + 1))) (zu a 6 nd)) _
          refine zm_J_run zm_T 4 (pc' := 80) (lv' := [(4, .int (zr_p c)), (3, .int c), (2, .int (nI e)), (0, .ref 12), (1, .int mk)]) (st' := [.int (nI e), .ref 19, .int (nI e), .ref 19]) (G' := (zr_H C ex sl (zu s 10 (nI (q + 1))) (zu a 6 nd))) rfl ?_
          refine zg_ald (i := .iaload) (t := 0) (n := 16) (f := nd) (m := e) rfl rfl rfl rfl rfl (by omega) (by decide) ?_
          rw [show nd e = nI (m + 1) from hnd]
          refine zm_J_run zm_T 2 (pc' := 83) (lv' := [(4, .int (zr_p c)), (3, .int c), (2, .int (nI e)), (0, .ref 12), (1, .int mk)]) (st' := [.int ((nI (m + 1)) - 1), .int (nI e), .ref 19]) (G' := (zr_H C ex sl (zu s 10 (nI (q + 1))) (zu a 6 nd))) rfl ?_
          rw [show nI (m + 1) - 1 = nI m from nI_pred m]
          show zm_J N _ 79 83 [(4, .int (zr_p c)), (3, .int c), (2, .int (nI e)), (0, .ref 12), (1, .int mk)] [.int (nI m), .int (nI e), .ref 19] (zr_H C ex sl (zu s 10 (nI (q + 1))) (zu a 6 nd)) _
          refine zg_ast (i := .iastore) (t := 0) (n := 16) (f := nd) (m := e) (v' := (nI m)) (G' := (zr_H C ex sl (zu s 10 (nI (q + 1))) (zu a 6 (upd nd e (nI m))))) rfl rfl rfl rfl (by decide) rfl (by omega) (by decide) rfl ?_
          refine zm_J_run zm_T 2 (pc' := if (zr_p c) ≤ 0 then 100 else 89) (lv' := [(4, .int (zr_p c)), (3, .int c), (2, .int (nI e)), (0, .ref 12), (1, .int mk)]) (st' := []) (G' := (zr_H C ex sl (zu s 10 (nI (q + 1))) (zu a 6 (upd nd e (nI m))))) rfl ?_
          rw [if_neg (show ¬ ((zr_p c) ≤ 0) from by rw [hpv]; exact nI_nle (by omega) (by have := zv_p_le c; omega))]
          refine zm_J_run zm_T 1 (pc' := 92) (lv' := [(2, .int ((nI e) + 1)), (4, .int (zr_p c)), (3, .int c), (0, .ref 12), (1, .int mk)]) (st' := []) (G' := (zr_H C ex sl (zu s 10 (nI (q + 1))) (zu a 6 (upd nd e (nI m))))) rfl ?_
          rw [show nI e + 1 = nI (e + 1) from nI_1 e]
          show zm_J N _ 79 92 [(2, .int (nI (e + 1))), (4, .int (zr_p c)), (3, .int c), (0, .ref 12), (1, .int mk)] [] (zr_H C ex sl (zu s 10 (nI (q + 1))) (zu a 6 (upd nd e (nI m)))) _
          refine zm_J_run zm_T 4 (pc' := 99) (lv' := [(2, .int (nI (e + 1))), (4, .int (zr_p c)), (3, .int c), (0, .ref 12), (1, .int mk)]) (st' := [.int (zr_p c), .int (nI (e + 1)), .ref 19]) (G' := (zr_H C ex sl (zu s 10 (nI (q + 1))) (zu a 6 (upd nd e (nI m))))) rfl ?_
          rw [hpv]
          show zm_J N _ 79 99 [(2, .int (nI (e + 1))), (4, .int (nI (zv_p c))), (3, .int c), (0, .ref 12), (1, .int mk)] [.int (nI (zv_p c)), .int (nI (e + 1)), .ref 19] (zr_H C ex sl (zu s 10 (nI (q + 1))) (zu a 6 (upd nd e (nI m)))) _
          refine zg_ast (i := .iastore) (t := 0) (n := 16) (f := upd nd e (nI m)) (m := e + 1) (v' := (nI (zv_p c))) (G' := (zr_H C ex sl (zu s 10 (nI (q + 1))) (zu a 6 (upd (upd nd e (nI m)) (e + 1) (nI (zv_p c)))))) rfl rfl rfl rfl (by decide) rfl (by omega) (by decide) rfl ?_
          refine zm_J_run zm_T 2 (pc' := if (nI (e + 1)) ≤ 0 then 119 else 104) (lv' := [(2, .int (nI (e + 1))), (4, .int (nI (zv_p c))), (3, .int c), (0, .ref 12), (1, .int mk)]) (st' := []) (G' := (zr_H C ex sl (zu s 10 (nI (q + 1))) (zu a 6 (upd (upd nd e (nI m)) (e + 1) (nI (zv_p c)))))) rfl ?_
          rw [if_neg (show ¬ ((nI (e + 1)) ≤ 0) from nI_nle (by omega) (by omega))]
          refine zm_J_run zm_T 3 (pc' := 109) (lv' := [(2, .int (nI (e + 1))), (4, .int (nI (zv_p c))), (3, .int c), (0, .ref 12), (1, .int mk)]) (st' := [.int (nI (e + 1)), .ref 19]) (G' := (zr_H C ex sl (zu s 10 (nI (q + 1))) (zu a 6 (upd (upd nd e (nI m)) (e + 1) (nI (zv_p c)))))) rfl ?_
          refine zg_ald (i := .iaload) (t := 0) (n := 16) (f := upd (upd nd e (nI m)) (e + 1) (nI (zv_p c))) (m := e + 1) rfl rfl rfl rfl rfl (by omega) (by decide) ?_
          rw [show (upd (upd nd e (nI m)) (e + 1) (nI (zv_p c))) (e + 1) = nI (zv_p c) from zi_upd _ (e + 1) _]
          refine zm_J_run zm_T 1 (pc' := if (nI (zv_p c)) = 0 then 113 else 119) (lv' := [(2, .int (nI (e + 1))), (4, .int (nI (zv_p c))), (3, .int c), (0, .ref 12), (1, .int mk)]) (st' := []) (G' := (zr_H C ex sl (zu s 10 (nI (q + 1))) (zu a 6 (upd (upd nd e (nI m)) (e + 1) (nI (zv_p c)))))) rfl ?_
          rw [if_neg (show ¬ ((nI (zv_p c)) = 0) from nI_ne0 (by omega) (by have := zv_p_le c; omega))]
          refine zm_J_run zm_T 1 (pc' := 9) (lv' := [(2, .int (nI (e + 1))), (4, .int (nI (zv_p c))), (3, .int c), (0, .ref 12), (1, .int mk)]) (st' := []) (G' := (zr_H C ex sl (zu s 10 (nI (q + 1))) (zu a 6 (upd (upd nd e (nI m)) (e + 1) (nI (zv_p c)))))) rfl ?_
          refine zm_J_lv (lv' := [(2, .int (nI (e + 1))), (0, .ref 12), (1, .int mk)]) (by simp) ?_
          exact k1 c _ hdr hz (by omega)
  · have hqe : t.drop q = [] := List.drop_eq_nil_of_le (by omega)
    refine zm_J_run zm_T 2 (pc' := if (nI e) ≤ 0 then 122 else 13) (lv' := [(2, .int (nI e)), (0, .ref 12), (1, .int mk)]) (st' := []) (G' := (zr_H C ex sl (zu s 10 (nI q)) (zu a 6 nd))) rfl ?_
    rw [if_neg (show ¬ ((nI e) ≤ 0) from nI_nle (by omega) (by omega))]
    refine zm_J_run zm_T 1 (pc' := 14) (lv' := [(2, .int (nI e)), (0, .ref 12), (1, .int mk)]) (st' := [.ref 12]) (G' := (zr_H C ex sl (zu s 10 (nI q)) (zu a 6 nd))) rfl ?_
    refine zg_V (a := 12) (av := []) (rest := []) (v := some (.int 0)) (G2 := (zr_H C ex sl (zu s 10 (nI q)) (zu a 6 nd))) (zm_T.1 79 14 _ rfl).1 zc_79_14 rfl (Nat.le_of_ble_eq_true rfl) (Nat.le_of_ble_eq_true rfl) (zr_c hr) (zr_s hr) (zr_look0 (s := zu s 10 (nI q)) (a := zu a 6 nd) (q := q) (n := t.length) rfl ht1 (by omega) (by omega)) ?_
    show zm_J N _ 79 17 [(2, .int (nI e)), (0, .ref 12), (1, .int mk)] [.int 0] (zr_H C ex sl (zu s 10 (nI q)) (zu a 6 nd)) _
    refine zm_J_run zm_T 2 (pc' := 19) (lv' := [(3, .int 0), (2, .int (nI e)), (0, .ref 12), (1, .int mk)]) (st' := [.int 0]) (G' := (zr_H C ex sl (zu s 10 (nI q)) (zu a 6 nd))) rfl ?_
    refine zg_S (av := [.int 0]) (rest := []) (v := some (.int (zr_p 0))) (G2 := (zr_H C ex sl (zu s 10 (nI q)) (zu a 6 nd))) (zm_T.1 79 19 _ rfl).1 zc_79_19 (Nat.le_of_ble_eq_true rfl) (Nat.le_of_ble_eq_true rfl) (zr_c hr) (zr_s hr) (zr_parts (by omega) 0 _ (zr_c hr) (zr_s hr)) ?_
    show zm_J N _ 79 22 [(3, .int 0), (2, .int (nI e)), (0, .ref 12), (1, .int mk)] [.int (zr_p 0)] (zr_H C ex sl (zu s 10 (nI q)) (zu a 6 nd)) _
    refine zm_J_run zm_T 3 (pc' := if (zr_p 0) < 0 then 62 else 29) (lv' := [(4, .int (zr_p 0)), (3, .int 0), (2, .int (nI e)), (0, .ref 12), (1, .int mk)]) (st' := []) (G' := (zr_H C ex sl (zu s 10 (nI q)) (zu a 6 nd))) rfl ?_
    rw [if_pos (show (zr_p 0) < 0 from by decide)]
    refine zm_J_run zm_T 1 (pc' := 63) (lv' := [(4, .int (zr_p 0)), (3, .int 0), (2, .int (nI e)), (0, .ref 12), (1, .int mk)]) (st' := [.int 0]) (G' := (zr_H C ex sl (zu s 10 (nI q)) (zu a 6 nd))) rfl ?_
    exact zm_J_fin zm_T rfl rfl (kf (Or.inl hqe))
theorem zr_rdz (hr : zr_r ex sl) {e : Nat} (he : e + 1 ≤ 12) (h0 : a 6 (e + 1) = 0) (k : zm_J N d 79 100 [(2, .int (nI e)), (0, .ref 12), (1, .int mk)] [] (zr_H C ex sl s a) Q) : zm_J N d 79 100 [(2, .int (nI (e + 1))), (0, .ref 12), (1, .int mk)] [] (zr_H C ex sl s a) Q := by
  refine zm_J_run zm_T 2 (pc' := if (nI (e + 1)) ≤ 0 then 119 else 104) (lv' := [(2, .int (nI (e + 1))), (0, .ref 12), (1, .int mk)]) (st' := []) (G' := (zr_H C ex sl s a)) rfl ?_
  rw [if_neg (show ¬ ((nI (e + 1)) ≤ 0) from nI_nle (by omega) (by omega))]
  refine zm_J_run zm_T 3 (pc' := 109) (lv' := [(2, .int (nI (e + 1))), (0, .ref 12), (1, .int mk)]) (st' := [.int (nI (e + 1)), .ref 19]) (G' := (zr_H C ex sl s a)) rfl ?_
  refine zg_ald (i := .iaload) (t := 0) (n := 16) (f := a 6) (m := e + 1) rfl rfl rfl rfl rfl (by omega) (by decide) ?_
  rw [show a 6 (e + 1) = 0 from h0]
  refine zm_J_run zm_T 2 (pc' := 116) (lv' := [(2, .int ((nI (e + 1)) + (-1))), (0, .ref 12), (1, .int mk)]) (st' := []) (G' := (zr_H C ex sl s a)) rfl ?_
  rw [show nI (e + 1) + (-1) = nI e from pk_m1 e]
  show zm_J N _ 79 116 [(2, .int (nI e)), (0, .ref 12), (1, .int mk)] [] (zr_H C ex sl s a) _
  refine zm_J_run zm_T 1 (pc' := 100) (lv' := [(2, .int (nI e)), (0, .ref 12), (1, .int mk)]) (st' := []) (G' := (zr_H C ex sl s a)) rfl ?_
  exact k
theorem zr_rdn (hr : zr_r ex sl) {e m : Nat} (he : e + 1 ≤ 12) (hm : m < 100) (h0 : a 6 (e + 1) = nI (m + 1)) (k : zm_J N d 79 9 [(2, .int (nI (e + 1))), (0, .ref 12), (1, .int mk)] [] (zr_H C ex sl s a) Q) : zm_J N d 79 100 [(2, .int (nI (e + 1))), (0, .ref 12), (1, .int mk)] [] (zr_H C ex sl s a) Q := by
  refine zm_J_run zm_T 2 (pc' := if (nI (e + 1)) ≤ 0 then 119 else 104) (lv' := [(2, .int (nI (e + 1))), (0, .ref 12), (1, .int mk)]) (st' := []) (G' := (zr_H C ex sl s a)) rfl ?_
  rw [if_neg (show ¬ ((nI (e + 1)) ≤ 0) from nI_nle (by omega) (by omega))]
  refine zm_J_run zm_T 3 (pc' := 109) (lv' := [(2, .int (nI (e + 1))), (0, .ref 12), (1, .int mk)]) (st' := [.int (nI (e + 1)), .ref 19]) (G' := (zr_H C ex sl s a)) rfl ?_
  refine zg_ald (i := .iaload) (t := 0) (n := 16) (f := a 6) (m := e + 1) rfl rfl rfl rfl rfl (by omega) (by decide) ?_
  rw [show a 6 (e + 1) = nI (m + 1) from h0]
  refine zm_J_run zm_T 1 (pc' := if (nI (m + 1)) = 0 then 113 else 119) (lv' := [(2, .int (nI (e + 1))), (0, .ref 12), (1, .int mk)]) (st' := []) (G' := (zr_H C ex sl s a)) rfl ?_
  rw [if_neg (show ¬ ((nI (m + 1)) = 0) from nI_ne0 (by omega) (by omega))]
  refine zm_J_run zm_T 1 (pc' := 9) (lv' := [(2, .int (nI (e + 1))), (0, .ref 12), (1, .int mk)]) (st' := []) (G' := (zr_H C ex sl s a)) rfl ?_
  exact k
set_option maxHeartbeats 1000000 in
theorem zr_rdk (hr : zr_r ex sl) (hd : 2 ≤ d) (ht : zr_tt s a t) (hm : zr_mk L mk) (hL : zv_wL L) : ∀ (n e q m : Nat) (nd : Nat → Int32), n + e = 12 → 1 ≤ e → q ≤ t.length → m < 4 → nd e = nI (m + 1) →
    (zv_rd L n (t.drop q) = none → ∀ q' nd', Q (.inl (some (.int 0))) (zr_H C ex sl (zu s 10 (nI q')) (zu a 6 nd'))) →
    (∀ q' nd', q' ≤ t.length → zv_rd L n (t.drop q) = some (t.drop q') → (∀ j, j < e → nd' j = nd j) → nd' e = nI m → zm_J N d 79 100 [(2, .int (nI e)), (0, .ref 12), (1, .int mk)] [] (zr_H C ex sl (zu s 10 (nI q')) (zu a 6 nd')) Q) →
    zm_J N d 79 9 [(2, .int (nI e)), (0, .ref 12), (1, .int mk)] [] (zr_H C ex sl (zu s 10 (nI q)) (zu a 6 nd)) Q := by
  have hlt : ∀ {q : Nat} {c : Int32} {r : List Int32}, t.drop q = c :: r → q < t.length ∧ t.drop (q + 1) = r := fun {q c r} h => by
    have hq : q < t.length := by
      rcases Nat.lt_or_ge q t.length with z | z
      · exact z
      · rw [List.drop_eq_nil_of_le z] at h; cases h
    rw [List.drop_eq_getElem_cons hq] at h
    exact ⟨hq, (List.cons.inj h).2⟩
  intro n
  induction n with
  | zero =>
    intro e q m nd hne he hq hm4 hnd kf ks
    refine zr_rd1 hr hd ht hm hL ⟨he, by omega⟩ hq hnd (fun h => kf ?_ _ _) (fun c r h hz hl => ?_) (fun c r h hz h12 => absurd h12 (by omega))
    · rcases h with h | ⟨c, r, h, h2⟩
      · rw [h]; rfl
      · rw [h]
        show (if zv_p c = 0 ∧ zv_l L c = true then some r else none) = none
        rw [if_neg (fun z => by rcases h2 with g | g; exact absurd (g.2.symm.trans z.2) (by decide); exact g.1 z.1)]
    · refine ks (q + 1) _ (hlt h).1 ?_ (fun j hj => zi_updn _ _ (by omega)) (zi_upd _ _ _)
      rw [h, (hlt h).2]
      show (if zv_p c = 0 ∧ zv_l L c = true then some r else none) = some r
      rw [if_pos ⟨hz, hl⟩]
  | succ n ih =>
    intro e q m nd hne he hq hm4 hnd kf ks
    refine zr_rd1 hr hd ht hm hL ⟨he, by omega⟩ hq hnd (fun h => kf ?_ _ _) (fun c r h hz hl => ?_) (fun c r h hz h12 => ?_)
    · rcases h with h | ⟨c, r, h, h2⟩
      · rw [h]; rfl
      · rw [h]
        show (if zv_p c = 0 then (if zv_l L c = true then some r else none) else zv_rk (zv_rd L n) (zv_p c) r) = none
        rcases h2 with g | g
        · rw [if_pos g.1, if_neg (fun z => absurd (g.2.symm.trans z) (by decide))]
        · omega
    · refine ks (q + 1) _ (hlt h).1 ?_ (fun j hj => zi_updn _ _ (by omega)) (zi_upd _ _ _)
      rw [h, (hlt h).2]
      show (if zv_p c = 0 then (if zv_l L c = true then some r else none) else zv_rk (zv_rd L n) (zv_p c) r) = some r
      rw [if_pos hz, if_pos hl]
    · have hp3 := zv_p_le c
      have hrd : ∀ x, zv_rk (zv_rd L n) (zv_p c) r = x → zv_rd L (n + 1) (t.drop q) = x := fun x hx => by
        rw [h]
        show (if zv_p c = 0 then (if zv_l L c = true then some r else none) else zv_rk (zv_rd L n) (zv_p c) r) = x
        rw [if_neg hz]
        exact hx
      -- the parts, one after the other
      have parts : ∀ (k q1 : Nat) (nd1 : Nat → Int32), k ≤ 3 → q1 ≤ t.length → (∀ j, j < e → nd1 j = nd j) → nd1 e = nI m → nd1 (e + 1) = nI (k + 1) → (∀ x, zv_rk (zv_rd L n) (k + 1) (t.drop q1) = x → zv_rk (zv_rd L n) (zv_p c) r = x) → zm_J N d 79 9 [(2, .int (nI (e + 1))), (0, .ref 12), (1, .int mk)] [] (zr_H C ex sl (zu s 10 (nI q1)) (zu a 6 nd1)) Q := by
        intro k
        induction k with
        | zero =>
          intro q1 nd1 hk3 hq1 hj1 he1 hn1 hx
          refine ih (e + 1) q1 0 nd1 (by omega) (by omega) hq1 (by omega) hn1 (fun hno q' nd' => kf (hrd _ (hx _ ?_)) q' nd') (fun q' nd' hq' hso hj' he' => ?_)
          · show (match zv_rd L n (t.drop q1) with | none => none | some w' => zv_rk (zv_rd L n) 0 w') = none
            rw [hno]
          · refine zr_rdz hr (by omega) he' (ks q' nd' hq' (hrd _ (hx _ ?_)) (fun j hj => (hj' j (by omega)).trans (hj1 j hj)) ((hj' e (by omega)).trans he1))
            show (match zv_rd L n (t.drop q1) with | none => none | some w' => zv_rk (zv_rd L n) 0 w') = some (t.drop q')
            rw [hso]
            rfl
        | succ k ihk =>
          intro q1 nd1 hk3 hq1 hj1 he1 hn1 hx
          refine ih (e + 1) q1 (k + 1) nd1 (by omega) (by omega) hq1 (by omega) hn1 (fun hno q' nd' => kf (hrd _ (hx _ ?_)) q' nd') (fun q' nd' hq' hso hj' he' => ?_)
          · show (match zv_rd L n (t.drop q1) with | none => none | some w' => zv_rk (zv_rd L n) (k + 1) w') = none
            rw [hno]
          · refine zr_rdn hr (by omega) (by omega) he' (ihk q' nd' (by omega) hq' (fun j hj => (hj' j (by omega)).trans (hj1 j hj)) ((hj' e (by omega)).trans he1) he' (fun x hx2 => hx _ ?_))
            show (match zv_rd L n (t.drop q1) with | none => none | some w' => zv_rk (zv_rd L n) (k + 1) w') = x
            rw [hso]
            exact hx2
      refine parts (zv_p c - 1) (q + 1) _ (by omega) (hlt h).1 (fun j hj => ?_) ?_ ?_ (fun x hx => ?_)
      · rw [zi_updn _ _ (by omega), zi_updn _ _ (by omega)]
      · rw [zi_updn _ _ (by omega), zi_upd]
      · rw [zi_upd, Nat.sub_add_cancel (by omega)]
      · rw [Nat.sub_add_cancel (by omega), (hlt h).2] at hx
        exact hx
/-- read(mask) from the place q on -/
theorem zr_read (hr : zr_r ex sl) (hd : 2 ≤ d) (ht : zr_tt s a t) (hm : zr_mk L mk) (hL : zv_wL L) {q : Nat} (hq : q ≤ t.length) (h10 : s 10 = nI q)
    (kf : ¬ zv_rd L 11 (t.drop q) = some [] → ∀ q' nd', Q (.inl (some (.int 0))) (zr_H C ex sl (zu s 10 (nI q')) (zu a 6 nd')))
    (ks : zv_rd L 11 (t.drop q) = some [] → ∀ q' nd', Q (.inl (some (.int 1))) (zr_H C ex sl (zu s 10 (nI q')) (zu a 6 nd'))) : zm_J N d 79 0 [(0, .ref 12), (1, .int mk)] [] (zr_H C ex sl s a) Q := by
  refine zm_J_run zm_T 6 (pc' := 8) (lv' := [(2, .int 1), (0, .ref 12), (1, .int mk)]) (st' := [.int 1, .int 1, .ref 19]) (G' := (zr_H C ex sl s a)) rfl ?_
  refine zg_ast (i := .iastore) (t := 0) (n := 16) (f := a 6) (m := 1) (v' := 1) (G' := (zr_H C ex sl s (zu a 6 (upd (a 6) 1 1)))) rfl rfl rfl rfl (by decide) rfl (by decide) (by decide) rfl ?_
  rw [show zr_H C ex sl s (zu a 6 (upd (a 6) 1 1)) = zr_H C ex sl (zu s 10 (nI q)) (zu a 6 (upd (a 6) 1 1)) from by rw [← h10, zu_same]]
  refine zr_rdk hr hd ht hm hL 11 1 q 0 _ rfl (by omega) hq (by omega) (zi_upd _ 1 1) (fun hno q' nd' => kf (by rw [hno]; exact fun z => by cases z) q' nd') (fun q' nd' hq' hso hj he => ?_)
  refine zr_rdz hr (by omega) he ?_
  obtain ⟨ht1, ht2, ht3⟩ := ht
  by_cases hqt : q' = t.length
  · refine zm_J_run zm_T 2 (pc' := if (nI 0) ≤ 0 then 119 else 104) (lv' := [(2, .int (nI 0)), (0, .ref 12), (1, .int mk)]) (st' := []) (G' := (zr_H C ex sl (zu s 10 (nI q')) (zu a 6 nd'))) rfl ?_
    rw [if_pos (show (nI 0) ≤ 0 from by decide)]
    refine zm_J_run zm_T 3 (pc' := if (nI 0) ≤ 0 then 122 else 13) (lv' := [(2, .int (nI 0)), (0, .ref 12), (1, .int mk)]) (st' := []) (G' := (zr_H C ex sl (zu s 10 (nI q')) (zu a 6 nd'))) rfl ?_
    rw [if_pos (show (nI 0) ≤ 0 from by decide)]
    refine zm_J_run zm_T 5 (pc' := if (nI q') = (s 8) then 133 else 137) (lv' := [(2, .int (nI 0)), (0, .ref 12), (1, .int mk)]) (st' := []) (G' := (zr_H C ex sl (zu s 10 (nI q')) (zu a 6 nd'))) rfl ?_
    rw [if_pos (show (nI q') = (s 8) from by rw [ht1, hqt])]
    refine zm_J_run zm_T 2 (pc' := 138) (lv' := [(2, .int (nI 0)), (0, .ref 12), (1, .int mk)]) (st' := [.int 1]) (G' := (zr_H C ex sl (zu s 10 (nI q')) (zu a 6 nd'))) rfl ?_
    exact zm_J_fin zm_T rfl rfl (ks (by rw [hso, hqt, List.drop_length]) q' nd')
  · refine zm_J_run zm_T 2 (pc' := if (nI 0) ≤ 0 then 119 else 104) (lv' := [(2, .int (nI 0)), (0, .ref 12), (1, .int mk)]) (st' := []) (G' := (zr_H C ex sl (zu s 10 (nI q')) (zu a 6 nd'))) rfl ?_
    rw [if_pos (show (nI 0) ≤ 0 from by decide)]
    refine zm_J_run zm_T 3 (pc' := if (nI 0) ≤ 0 then 122 else 13) (lv' := [(2, .int (nI 0)), (0, .ref 12), (1, .int mk)]) (st' := []) (G' := (zr_H C ex sl (zu s 10 (nI q')) (zu a 6 nd'))) rfl ?_
    rw [if_pos (show (nI 0) ≤ 0 from by decide)]
    refine zm_J_run zm_T 5 (pc' := if (nI q') = (s 8) then 133 else 137) (lv' := [(2, .int (nI 0)), (0, .ref 12), (1, .int mk)]) (st' := []) (G' := (zr_H C ex sl (zu s 10 (nI q')) (zu a 6 nd'))) rfl ?_
    rw [if_neg (show ¬ ((nI q') = (s 8)) from by rw [ht1]; exact fun z => hqt ((nI_eq (by omega) (by omega)).mp z))]
    refine zm_J_run zm_T 1 (pc' := 138) (lv' := [(2, .int (nI 0)), (0, .ref 12), (1, .int mk)]) (st' := [.int 0]) (G' := (zr_H C ex sl (zu s 10 (nI q')) (zu a 6 nd'))) rfl ?_
    exact zm_J_fin zm_T rfl rfl (kf (by rw [hso]; exact fun z => hqt (by have := congrArg List.length (Option.some.inj z); rw [List.length_drop, List.length_nil] at this; omega)) q' nd')
end ZRR

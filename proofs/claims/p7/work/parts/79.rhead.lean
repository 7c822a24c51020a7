/-! THE REFERENCE: head, tail, count, type -/
theorem zg_tsw {N : zm_N} {d mi pc t qa qb : Nat} {qn : Int} {lv : zm_L} {G : zm_H} {Q : zm_O → zm_H → Prop} {dflt lo hi : Int} {offs : Array Int} {v : Int32} {r : List Value} (hq : zm_cd mi pc = some (.tableswitch dflt lo hi offs, qa, qb, qn)) (h : v.toInt < lo ∨ hi < v.toInt) (ht : zm_tgt pc dflt = some t) (k : zm_J N d mi t lv r G Q) : zm_J N d mi pc lv (.int v :: r) G Q := by
  refine zm_stepq_ok zm_T (q := (.tableswitch dflt lo hi offs, qa, qb, qn)) (zm_T.1 mi pc _ hq) (s' := (t, lv, r, G)) ?_ k
  have e : zm_br zm_no (.tableswitch dflt lo hi offs) pc (.int v :: r) = some (t, r) := by
    show (match zm_toff dflt lo hi offs v with | some o => (match zm_tgt pc o with | some t => some (t, r) | none => none) | none => none) = _
    have e0 : zm_toff dflt lo hi offs v = some dflt := if_pos h
    rw [e0]
    show (match zm_tgt pc dflt with | some t => some (t, r) | none => none) = _
    rw [ht]
  show (match zm_br zm_no (.tableswitch dflt lo hi offs) pc (.int v :: r) with | some x => some (x.1, lv, x.2, G) | none => none) = _
  rw [e]
section ZRT
variable {N : zm_N} {d : Nat} {C : Nat → zm_E} {ex : List zm_E} {sl M : Nat} {s : Nat → Int32} {a : Nat → Nat → Int32} {Q : zm_O → zm_H → Prop} {D : zv_D} {t : List Int32}
theorem zr_head (hr : zr_r ex sl) (hd : 13 ≤ d) (hDw : zv_wD D) (hdf : zr_def M a D) {res : Option (zv_V × zv_S)} (hw : zv_wR res) (hres : zr_res M res s a)
    (ke : ∀ e s' a', zv_side D true res = .inl e → (e = 2 ∨ e = 3 ∨ e = 4 ∨ e = 5) → s' 12 = nI (e - 1) → s' 43 = 0 → zr_ks s a s' a' → Q (.inl (some (.int 0))) (zr_H C ex sl s' a'))
    (kk : ∀ u σ' s' a', zv_side D true res = .inr (u, σ') → s' 12 = 0 → s' 43 = 1 → (∀ v σ, res = some (v, σ) → zr_val a' σ'.2.2.1 (s' 40) (s' 41) (s' 42) v) → zr_St M σ' s' a' → zr_ks s a s' a' → Q (.inl (some (.int u.2.1))) (zr_H C ex sl s' a')) : zm_J N d 103 0 [(0, .ref 12)] [] (zr_H C ex sl s a) Q := by
  obtain ⟨d, rfl⟩ : ∃ e, d = e + 13 := ⟨d - 13, by omega⟩
  refine zm_J_run zm_T 2 (pc' := 2) (lv' := [(0, .ref 12)]) (st' := [.int 1, .ref 12]) (G' := (zr_H C ex sl s a)) rfl ?_
  refine zg_VK (a := 12) (av := [.int 1]) (rest := []) (zm_T.1 103 2 _ rfl).1 zc_103_2 rfl (Nat.le_of_ble_eq_true rfl) (Nat.le_of_ble_eq_true rfl) (zr_c hr) (zr_s hr) (zr_side_h hr (by omega) hDw hdf hw hres (fun e s' a' h1 h2 h3 h4 h5 => ⟨_, rfl, ?_⟩) (fun u σ' s' a' h1 h2 h3 h4 h5 h6 h7 h8 h9 h10 => ⟨_, rfl, ?_⟩))
  · show zm_J N _ 103 5 [(0, .ref 12)] [.int 0] (zr_H C ex sl s' a') _
    refine zm_J_run zm_T 2 (pc' := 16) (lv' := [(0, .ref 12)]) (st' := [.int 0]) (G' := (zr_H C ex sl s' a')) rfl ?_
    exact zm_J_fin zm_T rfl rfl (ke e s' a' h1 h2 h3 h4 h5)
  · show zm_J N _ 103 5 [(0, .ref 12)] [.int 1] (zr_H C ex sl s' a') _
    have hu0 : u.1 = 0 := by
      cases res with
      | none => cases h1
      | some q =>
        obtain ⟨v, σ⟩ := q
        unfold zv_side at h1
        dsimp only at h1
        split at h1
        · cases h1
        · split at h1
          · split at h1
            · cases h1
            · split at h1
              · cases h1
              · rename_i hh
                have e := Prod.mk.inj (Sum.inr.inj h1)
                rw [← e.1]
                exact Classical.byContradiction fun z => hh ⟨rfl, z⟩
          · cases h1
    have hk := kk u σ' s' a' h1 h2 h3 (fun v σ hv => by rw [h4, h5, h6]; exact h9 v σ hv) h8 h10
    rw [← zr_num h7 hu0] at hk
    refine zm_J_run zm_T 4 (pc' := 16) (lv' := [(0, .ref 12)]) (st' := [.int (s' 38)]) (G' := (zr_H C ex sl s' a')) rfl ?_
    exact zm_J_fin zm_T rfl rfl hk
theorem zr_tail (hr : zr_r ex sl) (hd : 13 ≤ d) (hDw : zv_wD D) (hdf : zr_def M a D) {res : Option (zv_V × zv_S)} (hw : zv_wR res) (hres : zr_res M res s a)
    (ke : ∀ e s' a', zv_side D false res = .inl e → (e = 2 ∨ e = 3 ∨ e = 4 ∨ e = 5) → s' 12 = nI (e - 1) → s' 43 = 0 → zr_ks s a s' a' → Q (.inl (some (.int 0))) (zr_H C ex sl s' a'))
    (kk : ∀ u σ' s' a', zv_side D false res = .inr (u, σ') → s' 12 = 0 → s' 43 = 1 → zr_val a' σ'.2.2.1 (s' 40) (s' 41) (s' 42) u → zr_St M σ' s' a' → zr_ks s a s' a' → Q (.inl (some (.int u.1))) (zr_H C ex sl s' a')) : zm_J N d 105 0 [(0, .ref 12)] [] (zr_H C ex sl s a) Q := by
  obtain ⟨d, rfl⟩ : ∃ e, d = e + 13 := ⟨d - 13, by omega⟩
  refine zm_J_run zm_T 2 (pc' := 2) (lv' := [(0, .ref 12)]) (st' := [.int 0, .ref 12]) (G' := (zr_H C ex sl s a)) rfl ?_
  refine zg_VK (a := 12) (av := [.int 0]) (rest := []) (zm_T.1 105 2 _ rfl).1 zc_105_2 rfl (Nat.le_of_ble_eq_true rfl) (Nat.le_of_ble_eq_true rfl) (zr_c hr) (zr_s hr) (zr_side_t hr (by omega) hDw hdf hw hres (fun e s' a' h1 h2 h3 h4 h5 => ⟨_, rfl, ?_⟩) (fun u σ' s' a' h1 h2 h3 h4 h5 h6 h7 h8 h9 h10 => ⟨_, rfl, ?_⟩))
  · show zm_J N _ 105 5 [(0, .ref 12)] [.int 0] (zr_H C ex sl s' a') _
    refine zm_J_run zm_T 2 (pc' := 16) (lv' := [(0, .ref 12)]) (st' := [.int 0]) (G' := (zr_H C ex sl s' a')) rfl ?_
    exact zm_J_fin zm_T rfl rfl (ke e s' a' h1 h2 h3 h4 h5)
  · show zm_J N _ 105 5 [(0, .ref 12)] [.int 1] (zr_H C ex sl s' a') _
    have hk := kk u σ' (zu (zu (zu (zu s' 43 1) 40 (s' 37)) 41 (s' 38)) 42 (s' 39)) a' h1 h2 rfl h7 (h8.up rfl rfl rfl rfl (fun _ _ => rfl)) ⟨h10.1, fun k hk => by rw [zu_ne _ _ (by omega), zu_ne _ _ (by omega), zu_ne _ _ (by omega), zu_ne _ _ (by omega)]; exact h10.2 k hk⟩
    rw [← h7.1] at hk
    refine zm_J_run zm_T 2 (pc' := 9) (lv' := [(0, .ref 12)]) (st' := [.ref 12]) (G' := (zr_H C ex sl s' a')) rfl ?_
    refine zg_V (a := 12) (av := []) (rest := []) (v := some (.int (s' 37))) (G2 := (zr_H C ex sl (zu (zu (zu (zu s' 43 1) 40 (s' 37)) 41 (s' 38)) 42 (s' 39)) a')) (zm_T.1 105 9 _ rfl).1 zc_105_9 rfl (Nat.le_of_ble_eq_true rfl) (Nat.le_of_ble_eq_true rfl) (zr_c hr) (zr_s hr) (zr_ans1 h2) ?_
    show zm_J N _ 105 12 [(0, .ref 12)] [.int (s' 37)] (zr_H C ex sl (zu (zu (zu (zu s' 43 1) 40 (s' 37)) 41 (s' 38)) 42 (s' 39)) a') _
    refine zm_J_run zm_T 1 (pc' := 16) (lv' := [(0, .ref 12)]) (st' := [.int (s' 37)]) (G' := (zr_H C ex sl (zu (zu (zu (zu s' 43 1) 40 (s' 37)) 41 (s' 38)) 42 (s' 39)) a')) rfl ?_
    exact zm_J_fin zm_T rfl rfl hk
/-- count's loop, whatever it counts -/
theorem zr_cn_l {v : Int32} : ∀ (m i : Nat) (n : Int32), i + m = 6 → (∀ n', zm_J N d 107 33 [(2, .int n'), (0, .ref 12), (1, .int v)] [] (zr_H C ex sl s a) Q) → zm_J N d 107 9 [(3, .int (nI i)), (2, .int n), (0, .ref 12), (1, .int v)] [] (zr_H C ex sl s a) Q := by
  intro m
  induction m with
  | zero =>
    intro i n hi K
    have h6 : i = 6 := hi
    subst h6
    refine zm_J_run zm_T 3 (pc' := if (6 : Int32) ≤ (nI 6) then 33 else 15) (lv' := [(3, .int (nI 6)), (2, .int n), (0, .ref 12), (1, .int v)]) (st' := []) (G' := (zr_H C ex sl s a)) rfl ?_
    rw [if_pos (show (6 : Int32) ≤ (nI 6) from by decide)]
    refine zm_J_lv (lv' := [(2, .int n), (0, .ref 12), (1, .int v)]) (by simp) ?_
    exact K n
  | succ m ih =>
    intro i n hi K
    refine zm_J_run zm_T 3 (pc' := if (6 : Int32) ≤ (nI i) then 33 else 15) (lv' := [(3, .int (nI i)), (2, .int n), (0, .ref 12), (1, .int v)]) (st' := []) (G' := (zr_H C ex sl s a)) rfl ?_
    rw [if_neg (show ¬ ((6 : Int32) ≤ (nI i)) from nI_ge (show i < 6 by omega) (by decide))]
    refine zm_J_run zm_T 3 (pc' := 20) (lv' := [(3, .int (nI i)), (2, .int n), (0, .ref 12), (1, .int v)]) (st' := [.int (nI i), .ref 20]) (G' := (zr_H C ex sl s a)) rfl ?_
    refine zg_ald (i := .baload) (t := 3) (n := 6) (f := a 7) (m := i) rfl rfl rfl rfl rfl (by omega) (by decide) ?_
    refine zm_J_run zm_T 1 (pc' := if (a 7 i) = 0 then 27 else 24) (lv' := [(3, .int (nI i)), (2, .int n), (0, .ref 12), (1, .int v)]) (st' := []) (G' := (zr_H C ex sl s a)) rfl ?_
    by_cases h0 : (a 7 i) = 0
    · rw [if_pos h0]
      refine zm_J_run zm_T 1 (pc' := 30) (lv' := [(3, .int ((nI i) + 1)), (2, .int n), (0, .ref 12), (1, .int v)]) (st' := []) (G' := (zr_H C ex sl s a)) rfl ?_
      rw [show nI i + 1 = nI (i + 1) from nI_1 i]
      show zm_J N _ 107 30 [(3, .int (nI (i + 1))), (2, .int n), (0, .ref 12), (1, .int v)] [] (zr_H C ex sl s a) _
      refine zm_J_run zm_T 1 (pc' := 9) (lv' := [(3, .int (nI (i + 1))), (2, .int n), (0, .ref 12), (1, .int v)]) (st' := []) (G' := (zr_H C ex sl s a)) rfl ?_
      exact ih (i + 1) n (by omega) K
    · rw [if_neg h0]
      refine zm_J_run zm_T 2 (pc' := 30) (lv' := [(3, .int ((nI i) + 1)), (2, .int (n + 1)), (0, .ref 12), (1, .int v)]) (st' := []) (G' := (zr_H C ex sl s a)) rfl ?_
      rw [show nI i + 1 = nI (i + 1) from nI_1 i]
      show zm_J N _ 107 30 [(3, .int (nI (i + 1))), (2, .int (n + 1)), (0, .ref 12), (1, .int v)] [] (zr_H C ex sl s a) _
      refine zm_J_run zm_T 1 (pc' := 9) (lv' := [(3, .int (nI (i + 1))), (2, .int (n + 1)), (0, .ref 12), (1, .int v)]) (st' := []) (G' := (zr_H C ex sl s a)) rfl ?_
      exact ih (i + 1) (n + 1) (by omega) K
theorem zr_cn_v {v n : Int32} (K : ∀ r, Q (.inl (some (.int r))) (zr_H C ex sl s a)) : zm_J N d 107 33 [(2, .int n), (0, .ref 12), (1, .int v)] [] (zr_H C ex sl s a) Q := by
  by_cases h : v = 0 ∨ v = 1 ∨ v = 2 ∨ v = 3 ∨ v = 4 ∨ v = 5 ∨ v = 6 ∨ v = 7
  · rcases h with e | e | e | e | e | e | e | e <;> subst e
    · refine zm_J_run zm_T 2 (pc' := 80) (lv' := [(2, .int n), (0, .ref 12), (1, .int 0)]) (st' := []) (G' := (zr_H C ex sl s a)) rfl ?_
      refine zm_J_run zm_T 2 (pc' := 84) (lv' := [(2, .int n), (0, .ref 12), (1, .int 0)]) (st' := [.int (s 9)]) (G' := (zr_H C ex sl s a)) rfl ?_
      exact zm_J_fin zm_T rfl rfl (K _)
    · refine zm_J_run zm_T 2 (pc' := 85) (lv' := [(2, .int n), (0, .ref 12), (1, .int 1)]) (st' := []) (G' := (zr_H C ex sl s a)) rfl ?_
      refine zm_J_run zm_T 2 (pc' := 89) (lv' := [(2, .int n), (0, .ref 12), (1, .int 1)]) (st' := [.int (s 8)]) (G' := (zr_H C ex sl s a)) rfl ?_
      exact zm_J_fin zm_T rfl rfl (K _)
    · refine zm_J_run zm_T 2 (pc' := 90) (lv' := [(2, .int n), (0, .ref 12), (1, .int 2)]) (st' := []) (G' := (zr_H C ex sl s a)) rfl ?_
      refine zm_J_run zm_T 1 (pc' := 91) (lv' := [(2, .int n), (0, .ref 12), (1, .int 2)]) (st' := [.int n]) (G' := (zr_H C ex sl s a)) rfl ?_
      exact zm_J_fin zm_T rfl rfl (K _)
    · refine zm_J_run zm_T 2 (pc' := 92) (lv' := [(2, .int n), (0, .ref 12), (1, .int 3)]) (st' := []) (G' := (zr_H C ex sl s a)) rfl ?_
      refine zm_J_run zm_T 2 (pc' := 96) (lv' := [(2, .int n), (0, .ref 12), (1, .int 3)]) (st' := [.int (s 33)]) (G' := (zr_H C ex sl s a)) rfl ?_
      exact zm_J_fin zm_T rfl rfl (K _)
    · refine zm_J_run zm_T 2 (pc' := 97) (lv' := [(2, .int n), (0, .ref 12), (1, .int 4)]) (st' := []) (G' := (zr_H C ex sl s a)) rfl ?_
      refine zm_J_run zm_T 2 (pc' := 101) (lv' := [(2, .int n), (0, .ref 12), (1, .int 4)]) (st' := [.int (s 34)]) (G' := (zr_H C ex sl s a)) rfl ?_
      exact zm_J_fin zm_T rfl rfl (K _)
    · refine zm_J_run zm_T 2 (pc' := 102) (lv' := [(2, .int n), (0, .ref 12), (1, .int 5)]) (st' := []) (G' := (zr_H C ex sl s a)) rfl ?_
      refine zm_J_run zm_T 2 (pc' := 106) (lv' := [(2, .int n), (0, .ref 12), (1, .int 5)]) (st' := [.int (s 35)]) (G' := (zr_H C ex sl s a)) rfl ?_
      exact zm_J_fin zm_T rfl rfl (K _)
    · refine zm_J_run zm_T 2 (pc' := 107) (lv' := [(2, .int n), (0, .ref 12), (1, .int 6)]) (st' := []) (G' := (zr_H C ex sl s a)) rfl ?_
      refine zm_J_run zm_T 2 (pc' := 111) (lv' := [(2, .int n), (0, .ref 12), (1, .int 6)]) (st' := [.int (s 36)]) (G' := (zr_H C ex sl s a)) rfl ?_
      exact zm_J_fin zm_T rfl rfl (K _)
    · refine zm_J_run zm_T 2 (pc' := 112) (lv' := [(2, .int n), (0, .ref 12), (1, .int 7)]) (st' := []) (G' := (zr_H C ex sl s a)) rfl ?_
      refine zm_J_run zm_T 2 (pc' := 116) (lv' := [(2, .int n), (0, .ref 12), (1, .int 7)]) (st' := [.int (s 32)]) (G' := (zr_H C ex sl s a)) rfl ?_
      exact zm_J_fin zm_T rfl rfl (K _)
  · refine zm_J_run zm_T 1 (pc' := 34) (lv' := [(2, .int n), (0, .ref 12), (1, .int v)]) (st' := [.int v]) (G' := (zr_H C ex sl s a)) rfl ?_
    refine zg_tsw (dflt := 83) (lo := 0) (hi := 7) rfl ?_ (t := 117) rfl ?_
    · by_cases h1 : v.toInt < 0
      · exact Or.inl h1
      · refine Or.inr ?_
        by_cases z : 7 < v.toInt
        · exact z
        · refine absurd ?_ h
          have hv : ∀ x : Int32, v.toInt = x.toInt → v = x := fun x hx => Int32.toInt_inj.mp hx
          rcases (by omega : v.toInt = 0 ∨ v.toInt = 1 ∨ v.toInt = 2 ∨ v.toInt = 3 ∨ v.toInt = 4 ∨ v.toInt = 5 ∨ v.toInt = 6 ∨ v.toInt = 7) with e | e | e | e | e | e | e | e
          · exact Or.inl (hv 0 e)
          · exact Or.inr (Or.inl (hv 1 e))
          · exact Or.inr (Or.inr (Or.inl (hv 2 e)))
          · exact Or.inr (Or.inr (Or.inr (Or.inl (hv 3 e))))
          · exact Or.inr (Or.inr (Or.inr (Or.inr (Or.inl (hv 4 e)))))
          · exact Or.inr (Or.inr (Or.inr (Or.inr (Or.inr (Or.inl (hv 5 e))))))
          · exact Or.inr (Or.inr (Or.inr (Or.inr (Or.inr (Or.inr (Or.inl (hv 6 e)))))))
          · exact Or.inr (Or.inr (Or.inr (Or.inr (Or.inr (Or.inr (Or.inr (hv 7 e)))))))
    refine zm_J_run zm_T 1 (pc' := 118) (lv' := [(2, .int n), (0, .ref 12), (1, .int v)]) (st' := [.int (-1)]) (G' := (zr_H C ex sl s a)) rfl ?_
    exact zm_J_fin zm_T rfl rfl (K _)
theorem zr_count {v : Int32} (K : ∀ r, Q (.inl (some (.int r))) (zr_H C ex sl (zu s 12 0) a)) : zm_J N d 107 0 [(0, .ref 12), (1, .int v)] [] (zr_H C ex sl s a) Q := by
  refine zm_J_run zm_T 7 (pc' := 9) (lv' := [(3, .int 0), (2, .int 0), (0, .ref 12), (1, .int v)]) (st' := []) (G' := (zr_H C ex sl (zu s 12 0) a)) rfl ?_
  exact zr_cn_l 6 0 0 rfl (fun n => zr_cn_v K)
end ZRT

/-! THE CLASS'S count, WHATEVER IT COUNTS -/
section ZKW
variable {R : Nat → zm_E} {ex : List zm_E} {sl : Nat} {s : Nat → Int32} {r : Value} {el : Nat → Nat} {f g : Nat → Int32} {df : Nat → Option Nat} {N : zm_N} {d : Nat} {Q : zm_O → zm_H → Prop}
theorem zk_cnl : ∀ (m i : Nat) (n : Int32), i + m = 6 → (∀ n', Q (.inl (some (.int n'))) (zk_H R ex sl s r el f g df)) → zm_J N d 10 13 [(4, .int (nI i)), (3, .int (nI 6)), (2, .ref 11), (1, .int n), (0, .ref 2)] [] (zk_H R ex sl s r el f g df) Q := by
  intro m
  induction m with
  | zero =>
    intro i n hi K
    have h6 : i = 6 := hi
    subst h6
    refine zm_J_run zm_T 3 (pc' := if (nI 6) ≤ (nI 6) then 39 else 19) (lv' := [(4, .int (nI 6)), (3, .int (nI 6)), (2, .ref 11), (1, .int n), (0, .ref 2)]) (st' := []) (G' := (zk_H R ex sl s r el f g df)) rfl ?_
    rw [if_pos (show (nI 6) ≤ (nI 6) from by decide)]
    refine zm_J_run zm_T 1 (pc' := 40) (lv' := [(4, .int (nI 6)), (3, .int (nI 6)), (2, .ref 11), (1, .int n), (0, .ref 2)]) (st' := [.int n]) (G' := (zk_H R ex sl s r el f g df)) rfl ?_
    exact zm_J_fin zm_T rfl rfl (K _)
  | succ m ih =>
    intro i n hi K
    cases hdf : df i with
    | none =>
      refine zm_J_run zm_T 3 (pc' := if (nI 6) ≤ (nI i) then 39 else 19) (lv' := [(4, .int (nI i)), (3, .int (nI 6)), (2, .ref 11), (1, .int n), (0, .ref 2)]) (st' := []) (G' := (zk_H R ex sl s r el f g df)) rfl ?_
      rw [if_neg (show ¬ ((nI 6) ≤ (nI i)) from nI_ge (show i < 6 by omega) (by decide))]
      refine zm_J_run zm_T 2 (pc' := 22) (lv' := [(4, .int (nI i)), (3, .int (nI 6)), (2, .ref 11), (1, .int n), (0, .ref 2)]) (st' := [.int (nI i), .ref 11]) (G' := (zk_H R ex sl s r el f g df)) rfl ?_
      refine zg_aald (t := 4) (n := 6) (f := df) (m := i) rfl rfl rfl rfl (by omega) (by decide) ?_
      rw [hdf]
      show zm_J N _ 10 23 [(4, .int (nI i)), (3, .int (nI 6)), (2, .ref 11), (1, .int n), (0, .ref 2)] [.null] (zk_H R ex sl s r el f g df) _
      refine zm_J_run zm_T 4 (pc' := 36) (lv' := [(4, .int ((nI i) + 1)), (5, .null), (3, .int (nI 6)), (2, .ref 11), (1, .int n), (0, .ref 2)]) (st' := []) (G' := (zk_H R ex sl s r el f g df)) rfl ?_
      rw [show nI i + 1 = nI (i + 1) from nI_1 i]
      show zm_J N _ 10 36 [(4, .int (nI (i + 1))), (5, .null), (3, .int (nI 6)), (2, .ref 11), (1, .int n), (0, .ref 2)] [] (zk_H R ex sl s r el f g df) _
      refine zm_J_run zm_T 1 (pc' := 13) (lv' := [(4, .int (nI (i + 1))), (5, .null), (3, .int (nI 6)), (2, .ref 11), (1, .int n), (0, .ref 2)]) (st' := []) (G' := (zk_H R ex sl s r el f g df)) rfl ?_
      refine zm_J_lv (lv' := [(4, .int (nI (i + 1))), (3, .int (nI 6)), (2, .ref 11), (1, .int n), (0, .ref 2)]) (by simp) ?_
      exact ih (i + 1) n (by omega) K
    | some y =>
      refine zm_J_run zm_T 3 (pc' := if (nI 6) ≤ (nI i) then 39 else 19) (lv' := [(4, .int (nI i)), (3, .int (nI 6)), (2, .ref 11), (1, .int n), (0, .ref 2)]) (st' := []) (G' := (zk_H R ex sl s r el f g df)) rfl ?_
      rw [if_neg (show ¬ ((nI 6) ≤ (nI i)) from nI_ge (show i < 6 by omega) (by decide))]
      refine zm_J_run zm_T 2 (pc' := 22) (lv' := [(4, .int (nI i)), (3, .int (nI 6)), (2, .ref 11), (1, .int n), (0, .ref 2)]) (st' := [.int (nI i), .ref 11]) (G' := (zk_H R ex sl s r el f g df)) rfl ?_
      refine zg_aald (t := 4) (n := 6) (f := df) (m := i) rfl rfl rfl rfl (by omega) (by decide) ?_
      rw [hdf]
      show zm_J N _ 10 23 [(4, .int (nI i)), (3, .int (nI 6)), (2, .ref 11), (1, .int n), (0, .ref 2)] [.ref y] (zk_H R ex sl s r el f g df) _
      refine zm_J_run zm_T 5 (pc' := 36) (lv' := [(4, .int ((nI i) + 1)), (1, .int (n + 1)), (5, .ref y), (3, .int (nI 6)), (2, .ref 11), (0, .ref 2)]) (st' := []) (G' := (zk_H R ex sl s r el f g df)) rfl ?_
      rw [show nI i + 1 = nI (i + 1) from nI_1 i]
      show zm_J N _ 10 36 [(4, .int (nI (i + 1))), (1, .int (n + 1)), (5, .ref y), (3, .int (nI 6)), (2, .ref 11), (0, .ref 2)] [] (zk_H R ex sl s r el f g df) _
      refine zm_J_run zm_T 1 (pc' := 13) (lv' := [(4, .int (nI (i + 1))), (1, .int (n + 1)), (5, .ref y), (3, .int (nI 6)), (2, .ref 11), (0, .ref 2)]) (st' := []) (G' := (zk_H R ex sl s r el f g df)) rfl ?_
      refine zm_J_lv (lv' := [(4, .int (nI (i + 1))), (3, .int (nI 6)), (2, .ref 11), (1, .int (n + 1)), (0, .ref 2)]) (by simp) ?_
      exact ih (i + 1) (n + 1) (by omega) K
theorem zk_cnd (K : ∀ n, Q (.inl (some (.int n))) (zk_H R ex sl s r el f g df)) : zm_J N d 10 0 [(0, .ref 2)] [] (zk_H R ex sl s r el f g df) Q := by
  refine zm_J_run zm_T 6 (pc' := 8) (lv' := [(2, .ref 11), (1, .int 0), (0, .ref 2)]) (st' := [.ref 11]) (G' := (zk_H R ex sl s r el f g df)) rfl ?_
  refine zg_alen (t := 4) (n := 6) rfl rfl ?_
  refine zm_J_run zm_T 3 (pc' := 13) (lv' := [(4, .int 0), (3, .int (nI 6)), (2, .ref 11), (1, .int 0), (0, .ref 2)]) (st' := []) (G' := (zk_H R ex sl s r el f g df)) rfl ?_
  exact zk_cnl 6 0 0 rfl K
theorem zk_count {v : Int32} (hr : zr_r ex sl) (hd : 1 ≤ d) (K : ∀ n, Q (.inl (some (.int n))) (zk_H R ex sl s r el f g df)) : zm_J N d 9 0 [(0, .ref 2), (1, .int v)] [] (zk_H R ex sl s r el f g df) Q := by
  obtain ⟨d, rfl⟩ : ∃ e, d = e + 1 := ⟨d - 1, by omega⟩
  by_cases h : v = 0 ∨ v = 1 ∨ v = 2 ∨ v = 3 ∨ v = 4 ∨ v = 5 ∨ v = 6 ∨ v = 7
  · rcases h with e | e | e | e | e | e | e | e <;> subst e
    · refine zm_J_run zm_T 2 (pc' := 48) (lv' := [(0, .ref 2), (1, .int 0)]) (st' := []) (G' := (zk_H R ex sl s r el f g df)) rfl ?_
      refine zm_J_run zm_T 3 (pc' := 55) (lv' := [(0, .ref 2), (1, .int 0)]) (st' := [.int (s 6)]) (G' := (zk_H R ex sl s r el f g df)) rfl ?_
      exact zm_J_fin zm_T rfl rfl (K _)
    · refine zm_J_run zm_T 2 (pc' := 56) (lv' := [(0, .ref 2), (1, .int 1)]) (st' := []) (G' := (zk_H R ex sl s r el f g df)) rfl ?_
      refine zm_J_run zm_T 3 (pc' := 63) (lv' := [(0, .ref 2), (1, .int 1)]) (st' := [.int (s 5)]) (G' := (zk_H R ex sl s r el f g df)) rfl ?_
      exact zm_J_fin zm_T rfl rfl (K _)
    · refine zm_J_run zm_T 2 (pc' := 64) (lv' := [(0, .ref 2), (1, .int 2)]) (st' := []) (G' := (zk_H R ex sl s r el f g df)) rfl ?_
      refine zm_J_run zm_T 1 (pc' := 65) (lv' := [(0, .ref 2), (1, .int 2)]) (st' := [.ref 2]) (G' := (zk_H R ex sl s r el f g df)) rfl ?_
      refine zg_VK (a := 2) (av := []) (rest := []) (zm_T.1 9 65 _ rfl).1 zc_9_65 rfl (Nat.le_of_ble_eq_true rfl) (Nat.le_of_ble_eq_true rfl) (zk_c hr) (zk_s hr) (zk_cnd (fun n => ⟨_, rfl, ?_⟩))
      show zm_J N _ 9 68 [(0, .ref 2), (1, .int 2)] [.int n] (zk_H R ex sl s r el f g df) _
      exact zm_J_fin zm_T rfl rfl (K _)
    · refine zm_J_run zm_T 2 (pc' := 69) (lv' := [(0, .ref 2), (1, .int 3)]) (st' := []) (G' := (zk_H R ex sl s r el f g df)) rfl ?_
      refine zm_J_run zm_T 2 (pc' := 73) (lv' := [(0, .ref 2), (1, .int 3)]) (st' := [.int (s 0)]) (G' := (zk_H R ex sl s r el f g df)) rfl ?_
      exact zm_J_fin zm_T rfl rfl (K _)
    · refine zm_J_run zm_T 2 (pc' := 74) (lv' := [(0, .ref 2), (1, .int 4)]) (st' := []) (G' := (zk_H R ex sl s r el f g df)) rfl ?_
      refine zm_J_run zm_T 2 (pc' := 78) (lv' := [(0, .ref 2), (1, .int 4)]) (st' := [.int (s 1)]) (G' := (zk_H R ex sl s r el f g df)) rfl ?_
      exact zm_J_fin zm_T rfl rfl (K _)
    · refine zm_J_run zm_T 2 (pc' := 79) (lv' := [(0, .ref 2), (1, .int 5)]) (st' := []) (G' := (zk_H R ex sl s r el f g df)) rfl ?_
      refine zm_J_run zm_T 2 (pc' := 83) (lv' := [(0, .ref 2), (1, .int 5)]) (st' := [.int (s 2)]) (G' := (zk_H R ex sl s r el f g df)) rfl ?_
      exact zm_J_fin zm_T rfl rfl (K _)
    · refine zm_J_run zm_T 2 (pc' := 84) (lv' := [(0, .ref 2), (1, .int 6)]) (st' := []) (G' := (zk_H R ex sl s r el f g df)) rfl ?_
      refine zm_J_run zm_T 2 (pc' := 88) (lv' := [(0, .ref 2), (1, .int 6)]) (st' := [.int (s 3)]) (G' := (zk_H R ex sl s r el f g df)) rfl ?_
      exact zm_J_fin zm_T rfl rfl (K _)
    · refine zm_J_run zm_T 2 (pc' := 89) (lv' := [(0, .ref 2), (1, .int 7)]) (st' := []) (G' := (zk_H R ex sl s r el f g df)) rfl ?_
      refine zm_J_run zm_T 2 (pc' := 93) (lv' := [(0, .ref 2), (1, .int 7)]) (st' := [.int (s 4)]) (G' := (zk_H R ex sl s r el f g df)) rfl ?_
      exact zm_J_fin zm_T rfl rfl (K _)
  · refine zm_J_run zm_T 1 (pc' := 1) (lv' := [(0, .ref 2), (1, .int v)]) (st' := [.int v]) (G' := (zk_H R ex sl s r el f g df)) rfl ?_
    refine zg_tsw (dflt := 93) (lo := 0) (hi := 7) rfl ?_ (t := 94) rfl ?_
    · by_cases h1 : v.toInt < 0
      · exact Or.inl h1
      · refine Or.inr ?_
        by_cases z : 7 < v.toInt
        · exact z
        · refine absurd ?_ h
          have hv : ∀ x : Int32, v.toInt = x.toInt → v = x := fun x hx => Int32.toInt_inj.mp hx
          rcases (by omega : v.toInt = 0 ∨ v.toInt = 1 ∨ v.toInt = 2 ∨ v.toInt = 3 ∨ v.toInt = 4 ∨ v.toInt = 5 ∨ v.toInt = 6 ∨ v.toInt = 7) with e | e | e | e | e | e | e | e
          · exact Or.inl (hv 0 e)
          · exact Or.inr (Or.inl (hv 1 e))
          · exact Or.inr (Or.inr (Or.inl (hv 2 e)))
          · exact Or.inr (Or.inr (Or.inr (Or.inl (hv 3 e))))
          · exact Or.inr (Or.inr (Or.inr (Or.inr (Or.inl (hv 4 e)))))
          · exact Or.inr (Or.inr (Or.inr (Or.inr (Or.inr (Or.inl (hv 5 e))))))
          · exact Or.inr (Or.inr (Or.inr (Or.inr (Or.inr (Or.inr (Or.inl (hv 6 e)))))))
          · exact Or.inr (Or.inr (Or.inr (Or.inr (Or.inr (Or.inr (Or.inr (hv 7 e)))))))
    refine zm_J_run zm_T 1 (pc' := 95) (lv' := [(0, .ref 2), (1, .int v)]) (st' := [.int (-1)]) (G' := (zk_H R ex sl s r el f g df)) rfl ?_
    exact zm_J_fin zm_T rfl rfl (K _)
end ZKW
/-! WHAT THE MATHEMATICS STILL OWES: which errors there are; what stays well formed from call to call. -/
def zv_e (x : zv_O) : Prop := ∀ e, x.1 = .inl e → e = 2 ∨ e = 3 ∨ e = 4 ∨ e = 5
theorem zv_e_l {e : Nat} {s : zv_S} (h : e = 2 ∨ e = 3 ∨ e = 4 ∨ e = 5) : zv_e (.inl e, s) := fun e' h' => by cases h'; exact h
theorem zv_e_r {v : zv_V} {s : zv_S} : zv_e (.inr v, s) := fun e h => by cases h
theorem zv_B_e {x : zv_O} {f : zv_V → zv_S → zv_O} (h : zv_e x) (hf : ∀ v s, zv_e (f v s)) : zv_e (zv_B x f) := by
  obtain ⟨o, s⟩ := x
  cases o with
  | inl e => exact h
  | inr v => exact hf v s
def zv_Ee (E : zv_Ev) : Prop := ∀ w L A s, zv_e (E w L A s)
theorem zv_F_e {E : zv_Ev} (hE : zv_Ee E) (c : Nat) (s : zv_S) : zv_e (zv_F E c s) := by
  unfold zv_F
  split
  · exact zv_e_l (by decide)
  · split
    · exact zv_e_r
    · exact zv_e_l (by decide)
    · exact zv_B_e (hE _ _ _ _) (fun v s' => zv_e_r)
theorem zv_K_e {E : zv_Ev} (hE : zv_Ee E) (b L : List Int32) (A : List Nat) (s : zv_S) : zv_e (zv_K E b L A s) := by
  unfold zv_K
  split
  · exact zv_e_l (by decide)
  · exact hE _ _ _ _
theorem zv_N_e {D : zv_D} {E : zv_Ev} (hE : zv_Ee E) (x : Int32) (s : zv_S) : zv_e (zv_N D E x s) := by
  unfold zv_N
  split
  · exact zv_e_l (by decide)
  · split
    · exact zv_K_e hE _ _ _ _
    · exact zv_e_r
theorem zv_A_e {D : zv_D} {E : zv_Ev} (hE : zv_Ee E) (q L : List Int32) (A : List Nat) (v : zv_V) (s : zv_S) : zv_e (zv_A D E q L A v s) := by
  unfold zv_A
  split
  · split
    · exact zv_e_l (by decide)
    · split
      · exact zv_e_r
      · exact zv_K_e hE _ _ _ _
  · exact zv_e_l (by decide)
theorem zv_R_e (c a : Int32) (v : zv_V) (s : zv_S) : zv_e (zv_R c a v s) := by
  unfold zv_R
  split
  · split
    · exact zv_e_l (by decide)
    · exact zv_e_r
  · exact zv_e_l (by decide)
theorem zv_G_e {D : zv_D} {E : zv_Ev} (hE : zv_Ee E) (c : Int32) (r L : List Int32) (A : List Nat) (v : zv_V) (s : zv_S) : zv_e (zv_G D E c r L A v s) := by
  unfold zv_G
  split
  · exact zv_A_e hE _ _ _ _ _
  · split
    · split
      · exact zv_e_r
      · split
        · exact zv_e_r
        · exact zv_e_l (by decide)
    · split
      · split
        · exact zv_e_l (by decide)
        · split
          · exact zv_F_e hE _ _
          · exact zv_e_l (by decide)
      · split
        · split
          · exact hE _ _ _ _
          · exact zv_B_e (hE _ _ _ _) (fun v s => zv_R_e _ _ _ _)
        · exact zv_e_l (by decide)
theorem zv_E_e (D : zv_D) : ∀ n, zv_Ee (zv_E D n) := by
  intro n
  induction n with
  | zero => exact fun _ _ _ s => zv_e_l (by decide)
  | succ n ih =>
    intro w L A s
    cases w with
    | nil => exact zv_e_l (by decide)
    | cons c r =>
      unfold zv_E
      dsimp only
      split
      · exact zv_e_r
      · split
        · exact zv_e_r
        · split
          · exact zv_F_e ih _ _
          · split
            · exact zv_N_e ih _ _
            · split
              · exact zv_e_r
              · exact zv_B_e (ih _ _ _ _) (fun v s' => zv_G_e ih _ _ _ _ _ _)
theorem zv_side_e {D : zv_D} {b : Bool} {res : Option (zv_V × zv_S)} {e : Nat} (h : zv_side D b res = .inl e) : e = 2 ∨ e = 3 ∨ e = 4 ∨ e = 5 := by
  unfold zv_side at h
  split at h
  · cases h; decide
  · split at h
    · cases h; decide
    · split at h
      · split at h
        · rename_i e' s' hF
          cases h
          exact zv_F_e (zv_E_e D 60) _ _ e (by rw [hF])
        · split at h
          · cases h; decide
          · cases h
      · cases h; decide
theorem zv_ask_w {D : zv_D} (hD : zv_wD D) {t : List Int32} (ht : t.length ≤ 40) (hrd : zv_rd [] 11 t = some []) {v : zv_V} {σ : zv_S} (h : zv_E D 60 t [] [] ([], 0, 0, 0) = (.inr v, σ)) : zv_wR (some (v, σ)) := by
  obtain ⟨k1, k2⟩ := zv_rd_ok _ _ _ hrd
  have hn := zv_n_le _ _ _ k1
  have hw : zv_wS ([], 0, 0, 0) := fun x hx => by cases hx
  have hb : zv_b ([], 0, 0, 0) (zv_n t 1 + 0) (zv_n t 1 + 0) := ⟨by show 0 + (zv_n t 1 + 0) ≤ 40; omega, by show 0 + 0 + (zv_n t 1 + 0) ≤ 40; omega, by show 0 + 2 * 0 + 2 * (zv_n t 1 + 0) ≤ 80; omega, Nat.zero_le _⟩
  have hE : zv_wE 0 [] [] := ⟨fun c hc => (by cases hc), Nat.le_refl _, fun a ha => (by cases ha)⟩
  have q := zv_E_ok hD 60 t [] [] ([], 0, 0, 0) 0 hw k1 hE hb v (by rw [h])
  rw [h] at q
  obtain ⟨q1, q2, q3, q4⟩ := q
  have nb := zv_E_nb D 60 t [] [] _ v σ h
  intro v' σ' e
  cases e
  exact ⟨q1, q2, q4, fun c t' hc => by cases nb c t' hc⟩
theorem zv_side_w {D : zv_D} (hD : zv_wD D) {b : Bool} {res : Option (zv_V × zv_S)} (hw : zv_wR res) {u : zv_V} {σ' : zv_S} (h : zv_side D b res = .inr (u, σ')) : zv_wR (some (u, σ')) ∧ ∃ v σ, res = some (v, σ) ∧ zv_wR (some (v, σ')) := by
  cases res with
  | none => cases h
  | some vs =>
    obtain ⟨v, σ⟩ := vs
    obtain ⟨w1, w2, w3, w4⟩ := hw v σ rfl
    have hsd : zv_side D b (some (v, σ)) = if v.1 = 1 then .inl 2 else if v.1 = 2 then match zv_F (zv_E D 60) (if b = true then v.2.2.1 else v.2.2.2.1) σ with
      | (.inl e, _) => .inl e
      | (.inr u, σ') => if b = true ∧ ¬ u.1 = 0 then .inl 5 else .inr (u, σ')
    else .inl 5 := rfl
    rw [hsd] at h
    split at h
    · cases h
    · split at h
      · split at h
        · cases h
        · rename_i u1 σ1 hF
          split at h
          · cases h
          · cases h
            have q := zv_F_ok (zv_E_ok hD 60) (c := if b = true then v.2.2.1 else v.2.2.2.1) (j := 0) w1 w3 u (by rw [hF])
            rw [hF] at q
            obtain ⟨q1, q2, q3, q4⟩ := q
            have nb := zv_F_nb (zv_E_nb D 60) hF
            refine ⟨fun v2 σ2 e => ?_, v, σ, rfl, fun v2 σ2 e => ?_⟩
            · cases e
              exact ⟨q1, q2, q4, fun c t hc => w4 c t (nb c t hc)⟩
            · cases e
              exact ⟨q1, w2.up q3.len, q4, fun c t hc => w4 c t (nb c t hc)⟩
      · cases h
theorem zv_df_w {t : List Int32} (ht : t.length ≤ 40) {x : Int32} {L b : List Int32} (h : zv_df t = some (x, L, b)) : (zv_ok L b 1 = true ∧ zv_n b 1 ≤ 40 ∧ zv_wL L ∧ L.length ≤ 4 ∧ L.Nodup ∧ zv_n b 1 = b.length) ∧ (0 ≤ x ∧ x.toNatClampNeg < 6) ∧ b.length ≤ 40 := by
  unfold zv_df at h
  cases t with
  | nil => cases h
  | cons c r =>
    dsimp only at h
    obtain ⟨g1, g2, g3, g4, g5⟩ := zv_hl_ok 4 [] r (fun c hc => by cases hc) List.nodup_nil (Nat.le_refl 4)
    rw [List.length_cons] at ht
    split at h
    · rename_i hc
      split at h
      · cases h
      · rename_i q b' heq
        rw [heq, List.length_cons, List.length_nil] at g5
        split at h
        · rename_i hq
          obtain ⟨k1, k2⟩ := zv_rd_ok _ _ _ hq.2
          have hn := zv_n_le _ _ _ k1
          have e := Option.some.inj h
          cases e
          have hd := zv_sk_drop b 1
          rw [k2] at hd
          have hd2 := congrArg List.length hd
          rw [List.length_drop, List.length_nil] at hd2
          exact ⟨⟨k1, by omega, g1, g3, g2, by omega⟩, zv_name hc, by omega⟩
        · cases h
    · cases h
theorem zv_wD_up {D : zv_D} (hD : zv_wD D) (k : Nat) {x : Option (List Int32 × List Int32)} (hx : ∀ L b, x = some (L, b) → zv_ok L b 1 = true ∧ zv_n b 1 ≤ 40 ∧ zv_wL L ∧ L.length ≤ 4 ∧ L.Nodup ∧ zv_n b 1 = b.length) : zv_wD (zv_up D k x) := by
  intro j L b h
  unfold zv_up at h
  split at h
  · exact hx L b h
  · exact hD j L b h
theorem zr_def_up {P k : Nat} {a a' : Nat → Nat → Int32} {s s' : Nat → Int32} {D : zv_D} {L b : List Int32} (hDw : zv_wD D) (hdf : zr_def P a D) (hP : P + 40 ≤ 21200) (hb : b.length ≤ 40) (hy : zr_yes P k L b s a s' a') : zr_def (P + b.length) a' (zv_up D k (some (L, b))) := by
  obtain ⟨y1, y2, y3, y4, y5, y6, y7, y8, y9, y10, y11, y12⟩ := hy
  intro j hj
  by_cases e : j = k
  · subst e
    rw [show zv_up D j (some (L, b)) j = some (L, b) from if_pos rfl]
    refine ⟨fun h => (by cases h), fun L' b' h => ?_⟩
    cases h
    exact ⟨by rw [y11, zi_upd], by rw [y8, zi_upd], ⟨P, by rw [y7, zi_upd], by omega, Nat.le_refl _, y6⟩, y9⟩
  · rw [show zv_up D k (some (L, b)) j = D j from if_neg e]
    obtain ⟨h1, h2⟩ := hdf j hj
    refine ⟨fun h => (by rw [y11, zi_updn _ _ e]; exact h1 h), fun L' b' h => ?_⟩
    obtain ⟨g1, g2, ⟨p, g3, g4⟩, g5⟩ := h2 L' b' h
    have hl := (hDw j L' b' h).2.2.2.1
    refine ⟨by rw [y11, zi_updn _ _ e]; exact g1, by rw [y8, zi_updn _ _ e]; exact g2, ⟨p, by rw [y7, zi_updn _ _ e]; exact g3, g4.pool y5 (by omega) (by omega)⟩, fun i x hx => ?_⟩
    have hi := (List.getElem?_eq_some_iff.mp hx).1
    rw [y10 (4 * j + i) (by omega)]
    exact g5 i x hx
theorem zk_res_xt {B S : Nat} {ex ex' : List zm_E} {sl : Nat} {s s' : Nat → Int32} {el : Nat → Nat} {va ca ka : List Nat} {q : Nat × Nat × Nat} {r : Value} {res : Option (zv_V × zv_S)} (x1 : zk_xt ex ex') (hs : s' 0 = s 0 ∧ s' 11 = s 11 ∧ s' 12 = s 12 ∧ s' 13 = s 13) (hI : zk_I B S ex sl s el va ca ka q) (h : zk_res ex s va ca ka r res) : zk_res ex' s' va ca ka r res := by
  have hk : ∀ (x : Nat) (e : Nat) (l : List Nat) (cap m y : Nat), zk_al x ex e l cap → l[m]? = some y → ex'[y]? = ex[y]? := by
    intro x e l cap m y ha hy
    obtain ⟨fs, k⟩ := ha.1 y (List.mem_of_getElem? hy)
    rw [k]
    exact x1 y _ k
  obtain ⟨⟨a1, a2, a3⟩, _⟩ := hI
  have hP : ∀ nv na, zk_P ex va ca ka nv na ex' va ca ka := fun nv na => ⟨⟨zk_up.refl _, zk_up.refl _, zk_up.refl _⟩, x1.de, fun m y _ hy => hk _ _ _ _ m y a1 hy, fun m y _ hy => hk _ _ _ _ m y a3 hy⟩
  refine ⟨h.1, fun v σ e => ?_⟩
  obtain ⟨u, e1, e2, ⟨e3, e4, e5, e6⟩, e7, e8⟩ := h.2 v σ e
  exact ⟨u, e1, zk_V_up (hP _ _) (Nat.le_refl _) (Nat.le_refl _) e2, ⟨hs.1.trans e3, hs.2.1.trans e4, hs.2.2.1.trans e5, hs.2.2.2.trans e6⟩, e7, fun c x hx => zk_clo_up (hP _ _) (Nat.le_refl _) (Nat.le_refl _) (fun y hy => hk _ _ _ _ c y a2 hy) (e8 c x hx)⟩

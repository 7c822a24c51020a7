theorem zu_ne {α : Type} (f : Nat → α) {k j : Nat} (v : α) (h : j ≠ k) : zu f k v j = f j := by
  unfold zu
  cases hb : Nat.beq j k with
  | false => rfl
  | true => exact absurd (Nat.eq_of_beq_eq_true hb) h
theorem zr_gS_o (s : Nat → Int32) (x y z : Int32) {k : Nat} (h : k ≠ 37 ∧ k ≠ 38 ∧ k ≠ 39 ∧ k ≠ 31) : zr_gS s x y z k = s k := by
  unfold zr_gS
  rw [zu_ne _ _ h.2.2.2, zu_ne _ _ h.2.2.1, zu_ne _ _ h.2.1, zu_ne _ _ h.1]
theorem zr_pS_o (s : Nat → Int32) (D : Nat) {k : Nat} (h : k ≠ 12 ∧ k ≠ 31 ∧ k ≠ 32) : zr_pS s D k = s k := by
  unfold zr_pS
  split
  · exact zu_ne _ _ h.1
  · rw [zu_ne _ _ h.2.2, zu_ne _ _ h.2.1]
theorem zr_pA_o (a : Nat → Nat → Int32) (D : Nat) (p e : Int32) {k : Nat} (h : k ≠ 18 ∧ k ≠ 19 ∧ k ≠ 20 ∧ k ≠ 22) : zr_pA a D p e k = a k := by
  unfold zr_pA
  split
  · rfl
  · rw [zu_ne _ _ h.2.2.2, zu_ne _ _ h.2.2.1, zu_ne _ _ h.2.1, zu_ne _ _ h.1]
theorem zr_kp.refl (s : Nat → Int32) (a : Nat → Nat → Int32) : zr_kp s a s a := ⟨fun _ _ => rfl, fun _ _ => rfl⟩
theorem zr_kp.of {s s' : Nat → Int32} {a a' : Nat → Nat → Int32} (h1 : ∀ k, (k ≠ 12 ∧ k ≠ 23 ∧ k ≠ 24 ∧ k ≠ 25 ∧ k ≠ 31 ∧ k ≠ 32 ∧ k ≠ 33 ∧ k ≠ 34 ∧ k ≠ 35 ∧ k ≠ 36 ∧ k ≠ 37 ∧ k ≠ 38 ∧ k ≠ 39) → s' k = s k) (h2 : ∀ k, k ≤ 7 → a' k = a k) : zr_kp s a s' a' := ⟨h2, fun k hk => h1 k (by omega)⟩
theorem zr_fm.refl (D B : Nat) (a : Nat → Nat → Int32) : zr_fm D B a a := ⟨fun _ _ => ⟨rfl, rfl, rfl, rfl, rfl⟩, fun _ _ => ⟨rfl, rfl⟩⟩
/-- the frames up to D are as they were when others are written above -/
theorem zr_fm.of {D B : Nat} {a a' : Nat → Nat → Int32} (h : ∀ k, 18 ≤ k ∧ k ≤ 22 → ∀ j, j ≤ D → a' k j = a k j) (h2 : ∀ q, q < 4 * B → a' 14 q = a 14 q ∧ a' 15 q = a 15 q) : zr_fm D B a a' := ⟨fun j hj => ⟨h 18 (by omega) j hj, h 19 (by omega) j hj, h 20 (by omega) j hj, h 21 (by omega) j hj, h 22 (by omega) j hj⟩, h2⟩
section ZRE
variable {N : zm_N} {d : Nat} {C : Nat → zm_E} {ex : List zm_E} {sl M : Nat} {p0 e0 : Int32} {Q : zm_O → zm_H → Prop} {D : zv_D} {s : Nat → Int32} {a : Nat → Nat → Int32}
theorem zr_turn (hr : zr_r ex sl) (hd : 1 ≤ d) {E : Nat} (h60 : E < 60) (hD : s 31 = nI (E + 1)) (h12 : s 12 = 0) (h : zm_J N (d - 1) 87 0 [(0, .ref 12)] [] (zr_H C ex sl s a) (zr_SQ C ex sl (zr_LJ N d C ex sl p0 e0 Q))) : zr_LJ N d C ex sl p0 e0 Q s a := by
  obtain ⟨d, rfl⟩ : ∃ e, d = e + 1 := ⟨d - 1, by omega⟩
  exact zr_iter hr h60 hD h12 h
def zr_EV (M : Nat) (N : zm_N) (d : Nat) (C : Nat → zm_E) (ex : List zm_E) (sl : Nat) (p0 e0 : Int32) (Q : zm_O → zm_H → Prop) (D : zv_D) (n : Nat) : Prop := ∀ (w L : List Int32) (A : List Nat) (σ : zv_S) (j : Nat) (s : Nat → Int32) (a : Nat → Nat → Int32) (p e : Nat), zv_wS σ → zv_ok L w 1 = true → zv_wE σ.1.length L A → zv_b σ (zv_n w 1 + j) (zv_n w 1 + j) → zr_St M σ s a → zr_def M a D → s 12 = 0 → s 31 = nI (60 - n) → zr_tx M (a 1) p w → zr_env a e L A → (e < σ.2.1 ∨ L = []) →
  (∀ s' a', zr_out M (zv_E D n w L A σ) (60 - n) σ.2.1 s a s' a' → zr_LJ N d C ex sl p0 e0 Q s' a') → zr_LJ N d C ex sl p0 e0 Q (zr_pS s (60 - n)) (zr_pA a (60 - n) (nI p) (nI e))
theorem zr_nI_pred {x : Int32} {E : Nat} (h : x = nI (E + 1)) : x - 1 = nI E := by rw [h]; exact nI_pred E
set_option maxHeartbeats 1000000 in
/-- FORCING in the frame E + 1 -/
theorem zr_frc (hr : zr_r ex sl) (hd : 9 ≤ d) (hDw : zv_wD D) {n E : Nat} (hnE : n + (E + 1) = 60) (ih : zr_EV M N d C ex sl p0 e0 Q D n) {c : Nat} {σ : zv_S} {j p : Nat} (hS : zv_wS σ) (hb : zv_b σ (j + 1) j) (hc : c < σ.1.length) (hSt : zr_St M σ s a) (hdf : zr_def M a D) (h12 : s 12 = 0) (h31 : s 31 = nI (E + 1)) (hat : a 18 (E + 1) = nI p) (hp : p < 21200)
    (K : ∀ s' a', zr_out M (zv_F (zv_E D n) c σ) E σ.2.1 s a s' a' → zr_LJ N d C ex sl p0 e0 Q s' a') {d' : Nat} (hd' : 5 ≤ d') : zm_J N d' 97 0 [(0, .ref 12), (1, .int (nI c))] [] (zr_H C ex sl s a) (zr_SQ C ex sl (zr_LJ N d C ex sl p0 e0 Q)) := by
  have hx : σ.1[c]? = some σ.1[c] := List.getElem?_eq_getElem hc
  generalize σ.1[c] = x at hx
  obtain ⟨t, st⟩ := x
  obtain ⟨⟨q, e, q1, q2, q3, q4, q5⟩, q6⟩ := hSt.2.2.2.2 c _ hx
  obtain ⟨l1, l2, l3, l4⟩ := zv_b_len hS hb
  unfold zv_F at K
  rw [hx] at K
  dsimp only at K
  cases st with
  | some o =>
    cases o with
    | some v =>
      have g : a 10 c = 2 ∧ zr_val a σ.2.2.1 (a 11 c) (a 12 c) (a 13 c) v := q6
      refine (zr_forc2 hr (by omega) g.1 (by omega)).mono (zr_R.sq (K _ _ ⟨zr_kp.of (fun k hk => ?_) (fun _ _ => rfl), h12, zr_nI_pred h31, hSt.up rfl rfl rfl rfl (fun _ _ => rfl), g.2, zr_fm.refl E _ a⟩))
      rw [zr_gS_o _ _ _ _ (by omega), zu_ne _ _ (by omega)]
    | none =>
      refine (zr_forc1 (by omega) q6).mono (zr_R.sq (K _ _ ⟨zr_kp.of (fun k hk => zu_ne _ _ (by omega)) (fun _ _ => rfl), rfl, Or.inr (Or.inr (Or.inl rfl))⟩))
  | none =>
    have q6 : a 10 c = 0 := q6
    obtain ⟨f1, f2, f3, f4⟩ := zv_F_pre hS hx hb
    have hE : 60 - n = E + 1 := by omega
    rw [← hE] at h31 hat
    have hcl : c < (σ.1.set c (t, some none)).length := by rw [List.length_set]; exact hc
    have hA : ∀ k, k ≠ 10 ∧ k ≠ 20 ∧ k ≠ 22 → zr_fA a c (60 - n) k = a k := fun k hk => by
      unfold zr_fA
      rw [zu_ne _ _ hk.2.1, zu_ne _ _ hk.2.2, zu_ne _ _ hk.1]
    have hA10 : ∀ q, q ≠ c → zr_fA a c (60 - n) 10 q = a 10 q := fun q hq => zi_updn (a 10) 1 hq
    have hSt0 : zr_St M (zv_st σ (σ.1.set c (t, some none))) (zu s 35 (s 35 + 1)) (zr_fA a c (60 - n)) := by
      refine ⟨by show s 23 = nI (σ.1.set c _).length; rw [List.length_set]; exact hSt.1, hSt.2.1, hSt.2.2.1, hSt.2.2.2.1, fun z x hz => ?_⟩
      have hz : (σ.1.set c (t, some none))[z]? = some x := hz
      by_cases hzc : c = z
      · subst hzc
        rw [List.getElem?_set_self hc] at hz
        cases Option.some.inj hz
        exact ⟨⟨q, e, q1, q2, q3, q4, q5⟩, zi_upd (a 10) c 1⟩
      · rw [List.getElem?_set_ne hzc] at hz
        exact zr_clo.up (a' := zr_fA a c (60 - n)) (Nat.le_refl _) (Nat.le_refl _) (hA 1 (by decide)) (congrFun (hA 8 (by decide)) z) (congrFun (hA 9 (by decide)) z) (hA10 z (Ne.symm hzc)) (congrFun (hA 11 (by decide)) z) (congrFun (hA 12 (by decide)) z) (congrFun (hA 13 (by decide)) z) (fun q _ => ⟨congrFun (hA 14 (by decide)) q, congrFun (hA 15 (by decide)) q⟩) (fun q _ => ⟨congrFun (hA 16 (by decide)) q, congrFun (hA 17 (by decide)) q⟩) (hSt.2.2.2.2 z x hz)
    have j0 := zr_forc0 (N := N) (d := d') (C := C) (ex := ex) (sl := sl) hr (by omega) q6 h31 (by omega) (by omega)
    rw [q1, q2] at j0
    refine j0.mono (zr_R.sq ?_)
    refine ih t.1 t.2.1 t.2.2 _ j (zu s 35 (s 35 + 1)) (zr_fA a c (60 - n)) q e f1 f2 f3 f4 hSt0 (hdf.up fun k hk => hA k (by omega)) h12 h31 q3 (q4.up (Or.inr fun _ _ => ⟨rfl, rfl⟩)) q5 (fun s' a' ho => ?_)
    generalize hy : zv_E D n t.1 t.2.1 t.2.2 (zv_st σ (σ.1.set c (t, some none))) = y at K ho
    have hkp0 : zr_kp s a (zu s 35 (s 35 + 1)) (zr_fA a c (60 - n)) := zr_kp.of (fun k hk => zu_ne _ _ (by omega)) (fun k hk => hA k (by omega))
    obtain ⟨r, σ1⟩ := y
    obtain ⟨o1, o2⟩ := ho
    cases r with
    | inl code => exact K s' a' ⟨hkp0.trans o1, o2⟩
    | inr v =>
      obtain ⟨o2, o3, o4, o5, o6⟩ := o2
      have hok := zv_E_ok hDw n t.1 t.2.1 t.2.2 _ j f1 f2 f3 f4 v (by rw [hy])
      rw [hy] at hok
      obtain ⟨w1, w2, w3, w4⟩ := hok
      obtain ⟨m1, m2, m3, m4⟩ := zv_b_len w1 w4
      have hcl1 : c < σ1.1.length := Nat.lt_of_lt_of_le hcl w3.len
      have g18 : a' 18 (E + 1) = nI p := by rw [← hE, (o6.1 (60 - n) (Nat.le_refl _)).1]; exact hat
      have g20 : a' 20 (E + 1) = 3 := by rw [← hE, (o6.1 (60 - n) (Nat.le_refl _)).2.2.1]; exact zi_upd (a 20) _ 3
      have g22 : a' 22 (E + 1) = nI c := by rw [← hE, (o6.1 (60 - n) (Nat.le_refl _)).2.2.2.2]; exact zi_upd (a 22) _ (nI c)
      have g1 : a' 1 = a 1 := (o1.1 1 (by omega)).trans (hA 1 (by decide))
      have o3' : s' 31 = nI (E + 1) := by rw [← hE]; exact o3
      refine zr_turn hr (by omega) (E := E) (by omega) o3' o2 (zr_s_keep hr (by omega) o3' g18 hp rfl g20 (by omega) g22 (by omega) (K _ _ ?_))
      have hB : ∀ k, k ≠ 10 ∧ k ≠ 11 ∧ k ≠ 12 ∧ k ≠ 13 → zr_kA a' c s' k = a' k := fun k hk => by
        unfold zr_kA
        rw [zu_ne _ _ hk.2.2.2, zu_ne _ _ hk.2.2.1, zu_ne _ _ hk.2.1, zu_ne _ _ hk.1]
      refine ⟨(hkp0.trans o1).trans (zr_kp.of (fun k hk => zr_gS_o _ _ _ _ (by omega)) (fun k hk => hB k (by omega))), o2, zr_nI_pred o3', ⟨?_, o4.2.1, o4.2.2.1, o4.2.2.2.1, fun z x hz => ?_⟩, ?_, ?_⟩
      · show s' 23 = nI (σ1.1.set c _).length; rw [List.length_set]; exact o4.1
      · have hz : (σ1.1.set c (t, some (some v)))[z]? = some x := hz
        obtain ⟨st', y1, y2⟩ := w3.2.2.2 c t (some none) (by show (σ.1.set c _)[c]? = _; rw [List.getElem?_set_self hc])
        have h16 : ∀ q, q < σ1.2.2.1 → zr_kA a' c s' 16 q = a' 16 q ∧ zr_kA a' c s' 17 q = a' 17 q := fun q _ => ⟨congrFun (hB 16 (by decide)) q, congrFun (hB 17 (by decide)) q⟩
        by_cases hzc : c = z
        · subst hzc
          rw [List.getElem?_set_self hcl1] at hz
          cases Option.some.inj hz
          obtain ⟨⟨q', e', u1, u2, u3, u4, u5⟩, -⟩ := o4.2.2.2.2 c _ y1
          refine ⟨⟨q', e', (congrFun (hB 8 (by decide)) c).trans u1, (congrFun (hB 9 (by decide)) c).trans u2, by rw [hB 1 (by decide)]; exact u3, u4.up (Or.inr fun _ _ => ⟨congrFun (hB 14 (by decide)) _, congrFun (hB 15 (by decide)) _⟩), u5⟩, zi_upd (a' 10) c 2, ?_⟩
          rw [show zr_kA a' c s' 11 c = s' 37 from zi_upd _ c _, show zr_kA a' c s' 12 c = s' 38 from zi_upd _ c _, show zr_kA a' c s' 13 c = s' 39 from zi_upd _ c _]
          exact o5.up (Nat.le_refl _) h16
        · rw [List.getElem?_set_ne hzc] at hz
          exact zr_clo.up (a' := zr_kA a' c s') (Nat.le_refl _) (Nat.le_refl _) (hB 1 (by decide)) (congrFun (hB 8 (by decide)) z) (congrFun (hB 9 (by decide)) z) (zi_updn (a' 10) 2 (Ne.symm hzc)) (zi_updn (a' 11) _ (Ne.symm hzc)) (zi_updn (a' 12) _ (Ne.symm hzc)) (zi_updn (a' 13) _ (Ne.symm hzc)) (fun q _ => ⟨congrFun (hB 14 (by decide)) q, congrFun (hB 15 (by decide)) q⟩) h16 (o4.2.2.2.2 z x hz)
      · exact o5.up (Nat.le_refl _) (fun q _ => ⟨congrFun (hB 16 (by decide)) q, congrFun (hB 17 (by decide)) q⟩)
      · refine zr_fm.of (fun k hk j hj => ?_) (fun q hq => ?_)
        rotate_left
        · rw [hB 14 (by decide), hB 15 (by decide)]; exact o6.2 q hq
        rw [hB k (by omega)]
        have hj2 : j ≤ 60 - n := by omega
        obtain ⟨z1, z2, z3, z4, z5⟩ := o6.1 j hj2
        rcases (by omega : k = 18 ∨ k = 19 ∨ k = 20 ∨ k = 21 ∨ k = 22) with rfl | rfl | rfl | rfl | rfl
        · exact z1
        · exact z2
        · exact z3.trans (zi_updn (a 20) 3 (by omega))
        · exact z4
        · exact z5.trans (zi_updn (a 22) _ (by omega))
end ZRE

section ZRF
variable {N : zm_N} {d : Nat} {C : Nat → zm_E} {ex : List zm_E} {sl M : Nat} {p0 e0 : Int32} {Q : zm_O → zm_H → Prop} {D : zv_D} {s : Nat → Int32} {a : Nat → Nat → Int32}
/-- behind a part whose value is the whole's: the frame goes -/
theorem zr_pop4 (hr : zr_r ex sl) (hd : 9 ≤ d) {n E p B B' : Nat} (hBB : B ≤ B') (hnE : n + (E + 1) = 60) {y : zv_O} {s0 : Nat → Int32} {a0 : Nat → Nat → Int32} (hst : a0 20 (E + 1) = 4) (hat : a0 18 (E + 1) = nI p) (hp : p < 21200) (hkp : zr_kp s a s0 a0) (hfm : zr_fm E B a a0) (K : ∀ s' a', zr_out M y E B s a s' a' → zr_LJ N d C ex sl p0 e0 Q s' a') {s' : Nat → Int32} {a' : Nat → Nat → Int32} (ho : zr_out M y (60 - n) B' s0 a0 s' a') : zr_LJ N d C ex sl p0 e0 Q s' a' := by
  have hE : 60 - n = E + 1 := by omega
  rw [hE] at ho
  obtain ⟨r, σ1⟩ := y
  obtain ⟨o1, o2⟩ := ho
  cases r with
  | inl code => exact K s' a' ⟨hkp.trans o1, o2⟩
  | inr v =>
    obtain ⟨o2, o3, o4, o5, o6⟩ := o2
    have g18 : a' 18 (E + 1) = nI p := (o6.1 (E + 1) (Nat.le_refl _)).1.trans hat
    have g20 : a' 20 (E + 1) = 4 := (o6.1 (E + 1) (Nat.le_refl _)).2.2.1.trans hst
    refine zr_turn hr (by omega) (E := E) (by omega) o3 o2 (zr_s_pop hr (by omega) o3 g18 hp rfl g20 (by omega) (K _ _ ?_))
    exact ⟨(hkp.trans o1).trans (zr_kp.of (fun k hk => zu_ne _ _ (by omega)) (fun _ _ => rfl)), o2, zr_nI_pred o3, o4.up rfl rfl rfl rfl (fun _ _ => rfl), o5, hfm.trans (o6.down (by omega) hBB)⟩
set_option maxHeartbeats 1000000 in
/-- a CALL in the frame E + 1 -/
theorem zr_cal (hr : zr_r ex sl) (hd : 9 ≤ d) (hDw : zv_wD D) {n E : Nat} (hnE : n + (E + 1) = 60) (ih : zr_EV M N d C ex sl p0 e0 Q D n) {σ : zv_S} {j p k : Nat} (hS : zv_wS σ) (hb : zv_b σ j j) (hk : k < 6) {L b : List Int32} {A : List Nat} (hDk : D k = some (L, b)) (hA : zv_wE σ.1.length L A) (hAl : A.length ≤ 16400) (hSt : zr_St M σ s a) (hdf : zr_def M a D) (h12 : s 12 = 0) (h31 : s 31 = nI (E + 1)) (hat : a 18 (E + 1) = nI p) (hp : p < 21200) {x : Int32} (hch : zr_ch a σ.2.2.1 x A.reverse)
    (K : ∀ s' a', zr_out M (zv_K (zv_E D n) b L A σ) E σ.2.1 s a s' a' → zr_LJ N d C ex sl p0 e0 Q s' a') {d' : Nat} (hd' : 3 ≤ d') : zm_J N d' 96 0 [(0, .ref 12), (1, .int (nI k)), (2, .int x), (3, .int (nI A.length))] [] (zr_H C ex sl s a) (zr_SQ C ex sl (zr_LJ N d C ex sl p0 e0 Q)) := by
  obtain ⟨l1, l2, l3, l4⟩ := zv_b_len hS hb
  unfold zv_K at K
  by_cases h4 : 400 ≤ σ.2.1
  · rw [if_pos h4] at K
    have e4 : σ.2.1 = 400 := by omega
    have h33 : s 33 = 400 := by rw [hSt.2.2.1, e4]; rfl
    exact (zr_call0 h33 _ _ _).mono (zr_R.sq (K _ _ ⟨zr_kp.of (fun k hk => zu_ne _ _ (by omega)) (fun _ _ => rfl), rfl, Or.inr (Or.inr (Or.inl rfl))⟩))
  · rw [if_neg h4] at K
    obtain ⟨k1, k2, k3, k4, k5⟩ := hDw k L b hDk
    obtain ⟨z7, z5, ⟨q, z3, zt⟩, z4⟩ := (hdf k hk).2 L b hDk
    have hE : 60 - n = E + 1 := by omega
    rw [← hE] at h31 hat
    have h33 : ¬ s 33 = 400 := by
      rw [hSt.2.2.1]
      exact fun z => absurd ((nI_eq (by omega) (by omega)).mp (z.trans (show (400 : Int32) = nI 400 from rfl))) (by omega)
    have hm := zr_call (N := N) (d := d') (C := C) (ex := ex) (sl := sl) (s := s) (a := a) hr (by omega) (n := σ.2.2.1) (E := σ.2.1) (k := k) (P := L.length) (D := 60 - n) (by omega) (by omega) hk k4 h31 (by omega) (r := A.reverse) (x := x) h33 hSt.2.1 z5 (by rw [List.length_reverse]; exact hAl) hch (Q := zr_SQ C ex sl (zr_LJ N d C ex sl p0 e0 Q))
    rw [List.length_reverse, List.reverse_reverse] at hm
    refine hm (fun b' hb' => ⟨rfl, _, _, rfl, ?_⟩)
    obtain ⟨⟨g, h, b1⟩, b2, b3⟩ := hb'
    rw [z3]
    have hB : ∀ q, q ≠ 14 ∧ q ≠ 15 ∧ q ≠ 20 → zu b' 20 (upd (b' 20) (60 - n) 4) q = a q := fun q hq => by
      rw [zu_ne _ _ hq.2.2, b1, zu_ne _ _ hq.2.1, zu_ne _ _ hq.1]
    have hB20 : b' 20 = a 20 := by rw [b1]; rfl
    have hkp0 : zr_kp s a (zr_qS s) (zu b' 20 (upd (b' 20) (60 - n) 4)) := zr_kp.of (fun k hk => by unfold zr_qS; rw [zu_ne _ _ (by omega), zu_ne _ _ (by omega), zu_ne _ _ (by omega)]) (fun k hk => hB k (by omega))
    refine ih b L A (zv_c σ) j (zr_qS s) (zu b' 20 (upd (b' 20) (60 - n) 4)) q σ.2.1 hS k1 hA (zv_K_pre k2 h4 hb) ?_ (hdf.up fun k hk => hB k (by omega)) h12 h31 (by rw [hB 1 (by decide)]; exact zt) ?_ (Or.inl (Nat.lt_succ_self _)) (fun s' a' ho => ?_)
    · refine ⟨hSt.1, ?_, ?_, hSt.2.2.2.1, fun c x hx => ?_⟩
      · show s 24 + 1 = nI (σ.2.1 + 1); rw [hSt.2.1]; exact nI_1 _
      · show s 33 + 1 = nI (σ.2.1 + 1); rw [hSt.2.2.1]; exact nI_1 _
      · exact zr_clo.up (Nat.le_succ _) (Nat.le_refl _) (hB 1 (by decide)) (congrFun (hB 8 (by decide)) c) (congrFun (hB 9 (by decide)) c) (congrFun (hB 10 (by decide)) c) (congrFun (hB 11 (by decide)) c) (congrFun (hB 12 (by decide)) c) (congrFun (hB 13 (by decide)) c) (fun q hq => b2 q (Or.inl hq)) (fun q _ => ⟨congrFun (hB 16 (by decide)) q, congrFun (hB 17 (by decide)) q⟩) (hSt.2.2.2.2 c x hx)
    · refine ⟨by omega, k4, fun i x hx => ?_⟩
      have hi := (List.getElem?_eq_some_iff.mp hx).1
      have hi2 : i < A.length := Nat.lt_of_lt_of_le hi hA.2.1
      obtain ⟨y1, y2⟩ := b3 i A[i] (List.getElem?_eq_getElem hi2) hi
      exact ⟨y1.trans (z4 i x hx), A[i], List.getElem?_eq_getElem hi2, y2⟩
    · refine zr_pop4 (p := p) hr hd (Nat.le_succ σ.2.1) hnE ?_ ?_ hp hkp0 ?_ K ho
      · rw [← hE]; exact zi_upd _ _ 4
      · rw [← hE, hB 18 (by decide)]; exact hat
      · refine zr_fm.of (fun k hk j hj => ?_) (fun q hq => b2 q (Or.inl hq))
        rcases (by omega : k = 18 ∨ k = 19 ∨ k = 20 ∨ k = 21 ∨ k = 22) with rfl | rfl | rfl | rfl | rfl
        · exact congrFun (hB 18 (by decide)) j
        · exact congrFun (hB 19 (by decide)) j
        · show upd (b' 20) (60 - n) 4 j = a 20 j
          rw [hB20]; exact zi_updn (a 20) 4 (by omega)
        · exact congrFun (hB 21 (by decide)) j
        · exact congrFun (hB 22 (by decide)) j
/-- closureOf -/
theorem zr_cl (hr : zr_r ex sl) {σ : zv_S} {w L : List Int32} {A : List Nat} {i i' p e : Nat} (hS : zv_wS σ) (hw : zv_ok L w 1 = true) (hE : zv_wE σ.1.length L A) (hb : zv_b σ (zv_n w 1 + i) i') (hSt : zr_St M σ s a) (htx : zr_tx M (a 1) p w) (he : zr_env a e L A) (hek : e < σ.2.1 ∨ L = []) {d' : Nat} (hd' : 2 ≤ d') :
    ∃ s1 a1, zm_J N d' 93 0 [(0, .ref 12), (1, .int (nI p)), (2, .int (nI e))] [] (zr_H C ex sl s a) (zr_R C ex sl (some (.int (nI (zv_cl w L A σ).1))) s1 a1) ∧ zr_St M (zv_cl w L A σ).2 s1 a1 ∧ (∀ k, k ≠ 23 → s1 k = s k) ∧ ∀ k, k ≠ 8 ∧ k ≠ 9 ∧ k ≠ 10 → a1 k = a k := by
  cases w with
  | nil => cases hw
  | cons c r =>
    obtain ⟨t1, t2, t3⟩ := htx.cons
    obtain ⟨hl, -⟩ := zv_ok_cons hw
    obtain ⟨l1, l2, l3, l4⟩ := zv_b_len hS hb
    have hn1 := zv_n_pos hw
    unfold zv_cl
    dsimp only
    by_cases hc : 97 ≤ c ∧ c ≤ 102
    · rw [if_pos hc]
      exact ⟨s, a, zr_cloP hr he (zv_l_let hl hc) t1 t2 hc (by omega), hSt, fun _ _ => rfl, fun _ _ => rfl⟩
    · rw [if_neg hc]
      refine ⟨_, _, zr_cloN hr hSt.1 (by omega) t2 (by rw [t1]; exact hc) (by omega), ?_, fun k hk => zu_ne _ _ hk, fun k hk => by unfold zr_cA; rw [zu_ne _ _ hk.2.2, zu_ne _ _ hk.2.1, zu_ne _ _ hk.1]⟩
      have hB : ∀ k, k ≠ 8 ∧ k ≠ 9 ∧ k ≠ 10 → zr_cA a σ.1.length (nI p) (nI e) k = a k := fun k hk => by unfold zr_cA; rw [zu_ne _ _ hk.2.2, zu_ne _ _ hk.2.1, zu_ne _ _ hk.1]
      refine ⟨?_, hSt.2.1, hSt.2.2.1, hSt.2.2.2.1, fun z x hz => ?_⟩
      · show nI (σ.1.length + 1) = nI (σ.1 ++ _).length
        rw [List.length_append]; rfl
      · have hz : (σ.1 ++ [((c :: r, L, A), none)])[z]? = some x := hz
        by_cases hzl : z < σ.1.length
        · rw [List.getElem?_append_left hzl] at hz
          exact zr_clo.up (a' := zr_cA a σ.1.length (nI p) (nI e)) (Nat.le_refl _) (Nat.le_refl _) (hB 1 (by decide)) (zi_updn (a 8) _ (by omega)) (zi_updn (a 9) _ (by omega)) (zi_updn (a 10) _ (by omega)) (congrFun (hB 11 (by decide)) z) (congrFun (hB 12 (by decide)) z) (congrFun (hB 13 (by decide)) z) (fun q _ => ⟨congrFun (hB 14 (by decide)) q, congrFun (hB 15 (by decide)) q⟩) (fun q _ => ⟨congrFun (hB 16 (by decide)) q, congrFun (hB 17 (by decide)) q⟩) (hSt.2.2.2.2 z x hz)
        · have hz2 := (List.getElem?_eq_some_iff.mp hz).1
          rw [List.length_append, List.length_singleton] at hz2
          have hze : z = σ.1.length := by omega
          subst hze
          rw [List.getElem?_append_right (Nat.le_refl _), Nat.sub_self] at hz
          cases Option.some.inj hz
          exact ⟨⟨p, e, zi_upd (a 8) _ _, zi_upd (a 9) _ _, by rw [hB 1 (by decide)]; exact htx, he.up (Or.inr fun _ _ => ⟨congrFun (hB 14 (by decide)) _, congrFun (hB 15 (by decide)) _⟩), hek⟩, zi_upd (a 10) _ 0⟩
end ZRF

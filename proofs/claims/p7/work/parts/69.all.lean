theorem zr_out.from {M : Nat} {y : zv_O} {E B B' : Nat} {s s2 s' : Nat → Int32} {a a2 a' : Nat → Nat → Int32} (hkp : zr_kp s a s2 a2) (hfm : zr_fm E B a a2) (hB : B ≤ B') (h : zr_out M y E B' s2 a2 s' a') : zr_out M y E B s a s' a' := by
  obtain ⟨r, σ1⟩ := y
  obtain ⟨o1, o2⟩ := h
  refine ⟨hkp.trans o1, ?_⟩
  cases r with
  | inl code => exact o2
  | inr v => exact ⟨o2.1, o2.2.1, o2.2.2.1, o2.2.2.2.1, hfm.trans (o2.2.2.2.2.down (Nat.le_refl _) hB)⟩
theorem zv_cl_2 (w L : List Int32) (A : List Nat) (s : zv_S) : (zv_cl w L A s).2.2 = s.2 := by
  unfold zv_cl
  cases w with
  | nil => rfl
  | cons c r =>
    dsimp only
    split <;> rfl
theorem zi_nat {x : Int32} (h : 0 ≤ x) : x = nI x.toNatClampNeg := by
  obtain ⟨j, h1, rfl⟩ := nI_of (zi_nlt h)
  rw [nI_clamp h1]
section ZRA
variable {N : zm_N} {d : Nat} {C : Nat → zm_E} {ex : List zm_E} {sl M : Nat} {p0 e0 : Int32} {Q : zm_O → zm_H → Prop} {D : zv_D} {s : Nat → Int32} {a : Nat → Nat → Int32}
set_option maxHeartbeats 1000000 in
/-- applying, in the frame E + 1 -/
theorem zr_app (hr : zr_r ex sl) (hd : 9 ≤ d) (hDw : zv_wD D) {n E : Nat} (hnE : n + (E + 1) = 60) (ih : zr_EV M N d C ex sl p0 e0 Q D n) {σ : zv_S} {j p e : Nat} {L r : List Int32} {A : List Nat} {v : zv_V} (hS : zv_wS σ) (hr1 : zv_ok L r 1 = true) (hr2 : zv_ok L (zv_sk r 1) 1 = true) (hA : zv_wE σ.1.length L A) (hv : zv_wV σ.1.length v) (hb : zv_b σ (zv_n (zv_sk r 1) 1 + (j + 2)) (zv_n (zv_sk r 1) 1 + (j + 1))) 
    (hSt : zr_St M σ s a) (hdf : zr_def M a D) (h12 : s 12 = 0) (h31 : s 31 = nI (E + 1)) (hat : a 18 (E + 1) = nI p) (hin : a 19 (E + 1) = nI e) (hp : p < 21200) (htx : zr_tx M (a 1) (p + 1) r) (he : zr_env a e L A) (hek : e < σ.2.1 ∨ L = []) (hval : zr_val a σ.2.2.1 (s 37) (s 38) (s 39) v)
    (K : ∀ s' a', zr_out M (zv_A D (zv_E D n) (zv_sk r 1) L A v σ) E σ.2.1 s a s' a' → zr_LJ N d C ex sl p0 e0 Q s' a') {d' : Nat} (hd' : 6 ≤ d') : zm_J N d' 92 0 [(0, .ref 12), (1, .int (nI (E + 1)))] [] (zr_H C ex sl s a) (zr_SQ C ex sl (zr_LJ N d C ex sl p0 e0 Q)) := by
  unfold zv_A at K
  by_cases h3 : v.1 = 3
  · rw [if_pos h3] at K
    obtain ⟨l1, l2, l3, l4⟩ := zv_b_len hS hb
    have hn1 := zv_n_pos hr2
    have h37 : s 37 = 3 := hval.1.trans h3
    obtain ⟨v1, v2⟩ : s 38 = v.2.1 ∧ zr_ch a σ.2.2.1 (s 39) v.2.2.2.2.reverse := by
      rcases hval.2 with h | h | h | h
      · exact absurd (h.1.symm.trans h3) (by decide)
      · exact absurd (h.symm.trans h3) (by decide)
      · exact absurd (h.1.symm.trans h3) (by decide)
      · exact h.2
    have hnum := hv.2.1 h3
    have hk : s 38 = nI v.2.1.toNatClampNeg := v1.trans (zi_nat hnum.1)
    obtain ⟨s1, a1, j1, hSt1, es, ea⟩ := zr_cl (N := N) (C := C) (ex := ex) (sl := sl) hr hS hr2 hA hb hSt (htx.sk hr1) he hek (d' := d' - 1) (by omega)
    obtain ⟨c1, c2, c3, c4⟩ := zv_cl_ok hS hr2 hA hb
    have c5 := zv_cl_2 (zv_sk r 1) L A σ
    generalize zv_cl (zv_sk r 1) L A σ = x at K j1 hSt1 c1 c2 c3 c4 c5
    obtain ⟨x, σ1⟩ := x
    dsimp only at K j1 hSt1 c1 c2 c3 c4 c5
    have na : σ1.2.2.1 = σ.2.2.1 := by rw [c5]
    have h25 : s 25 = nI σ1.2.2.1 := by rw [na]; exact hSt.2.2.2.1
    have hch : zr_ch (zr_aA a1 σ1.2.2.1 (nI x) (s 39)) (σ1.2.2.1 + 1) (nI σ1.2.2.1) (v.2.2.2.2 ++ [x]).reverse := by
      rw [List.reverse_append]
      refine ⟨σ1.2.2.1, Nat.lt_succ_self _, rfl, zi_upd (a1 16) _ _, ?_⟩
      rw [show zr_aA a1 σ1.2.2.1 (nI x) (s 39) 17 σ1.2.2.1 = s 39 from zi_upd (a1 17) _ _]
      refine zr_ch.up (by omega) (fun q hq => ?_) v2
      rw [← ea 16 (by decide), ← ea 17 (by decide)]
      exact ⟨zi_updn (a1 16) _ (by omega), zi_updn (a1 17) _ (by omega)⟩
    refine zr_a_yes hr (by omega) hat hp h37 hnum.2 hk hA.1 hr1 htx hin (by omega) h25 (by omega) j1 (es 25 (by decide)) (es 39 (by decide)) hch ?_
    rw [List.length_reverse]
    have ea2 : ∀ k, k ≠ 8 ∧ k ≠ 9 ∧ k ≠ 10 ∧ k ≠ 16 ∧ k ≠ 17 → zr_aA a1 σ1.2.2.1 (nI x) (s 39) k = a k := fun k hk => by
      unfold zr_aA
      rw [zu_ne _ _ hk.2.2.2.2, zu_ne _ _ hk.2.2.2.1, ea k ⟨hk.1, hk.2.1, hk.2.2.1⟩]
    have es2 : ∀ k, k ≠ 23 ∧ k ≠ 25 → zr_aS s1 σ1.2.2.1 k = s k := fun k hk => by
      unfold zr_aS
      rw [zu_ne _ _ hk.2, es k hk.1]
    have hkp2 : zr_kp s a (zr_aS s1 σ1.2.2.1) (zr_aA a1 σ1.2.2.1 (nI x) (s 39)) := zr_kp.of (fun k hk => es2 k (by omega)) (fun k hk => ea2 k (by omega))
    have hfm2 : zr_fm E σ.2.1 a (zr_aA a1 σ1.2.2.1 (nI x) (s 39)) := zr_fm.of (fun k hk j _ => congrFun (ea2 k (by omega)) j) (fun q _ => ⟨congrFun (ea2 14 (by decide)) q, congrFun (ea2 15 (by decide)) q⟩)
    have hSt2 : zr_St M (zv_a σ1) (zr_aS s1 σ1.2.2.1) (zr_aA a1 σ1.2.2.1 (nI x) (s 39)) := by
      refine ⟨hSt1.1, hSt1.2.1, hSt1.2.2.1, rfl, fun c y hy => ?_⟩
      have eb : ∀ k, k ≠ 16 ∧ k ≠ 17 → zr_aA a1 σ1.2.2.1 (nI x) (s 39) k = a1 k := fun k hk => by
        unfold zr_aA
        rw [zu_ne _ _ hk.2, zu_ne _ _ hk.1]
      exact zr_clo.up (Nat.le_refl _) (Nat.le_succ _) (eb 1 (by decide)) (congrFun (eb 8 (by decide)) c) (congrFun (eb 9 (by decide)) c) (congrFun (eb 10 (by decide)) c) (congrFun (eb 11 (by decide)) c) (congrFun (eb 12 (by decide)) c) (congrFun (eb 13 (by decide)) c) (fun q _ => ⟨congrFun (eb 14 (by decide)) q, congrFun (eb 15 (by decide)) q⟩) (fun q hq => ⟨zi_updn (a1 16) _ (by omega), zi_updn (a1 17) _ (by omega)⟩) (hSt1.2.2.2.2 c y hy)
    have hdf2 : zr_def M (zr_aA a1 σ1.2.2.1 (nI x) (s 39)) D := hdf.up fun k hk => ea2 k (by omega)
    have h31' : zr_aS s1 σ1.2.2.1 31 = nI (E + 1) := (es2 31 (by decide)).trans h31
    have h12' : zr_aS s1 σ1.2.2.1 12 = 0 := (es2 12 (by decide)).trans h12
    generalize hs2 : zr_aS s1 σ1.2.2.1 = s2 at *
    generalize ha2 : zr_aA a1 σ1.2.2.1 (nI x) (s 39) = a2 at *
    have hvl := hv.2.2.2
    cases hdk : D v.2.1.toNatClampNeg with
    | none =>
      rw [hdk] at K
      exact zr_b_no hr hnum.2 ((hdf2 _ hnum.2).1 hdk) (by omega) (K _ _ ⟨hkp2.trans (zr_kp.of (fun k hk => zu_ne _ _ (by omega)) (fun _ _ => rfl)), rfl, Or.inl rfl⟩)
    | some y =>
      obtain ⟨L', b⟩ := y
      rw [hdk] at K
      dsimp only at K
      obtain ⟨k1, k2, k3, k4, k5⟩ := hDw _ L' b hdk
      obtain ⟨z7, z5, -, -⟩ := (hdf2 _ hnum.2).2 L' b hdk
      have hlen : (v.2.2.2.2 ++ [x]).length = v.2.2.2.2.length + 1 := by rw [List.length_append]; rfl
      have hmem : ∀ q ∈ v.2.2.2.2 ++ [x], q < σ1.1.length := fun q hq => by
        rcases List.mem_append.mp hq with h | h
        · exact Nat.lt_of_lt_of_le (hv.2.2.1 q h) c3.len
        · rw [List.mem_singleton] at h; subst h; exact c2
      by_cases hl : (v.2.2.2.2 ++ [x]).length < L'.length
      · rw [if_pos hl] at K
        refine zr_b_fun hr hnum.2 z7 z5 k4 hl (by omega) (K _ _ ⟨hkp2.trans (zr_kp.of (fun k hk => zr_gS_o _ _ _ _ (by omega)) (fun _ _ => rfl)), h12', zr_nI_pred h31', hSt2.up rfl rfl rfl rfl (fun _ _ => rfl), ⟨rfl, Or.inr (Or.inr (Or.inr ⟨rfl, (zi_nat hnum.1).symm, hch⟩))⟩, hfm2⟩)
      · rw [if_neg hl] at K
        have hb' : zv_b (zv_a σ1) j j := by
          obtain ⟨b1, b2, b3, b4⟩ := c4
          exact ⟨by show zv_U σ1.1 + j ≤ 40 * (σ1.2.1 + 1); omega, by show σ1.2.2.1 + 1 + zv_T σ1.1 + j ≤ 40 * (σ1.2.1 + 1); omega, by show σ1.2.2.2 + 2 * zv_T σ1.1 + 2 * j ≤ 80 * (σ1.2.1 + 1); omega, b4⟩
        have h18 : a2 18 (E + 1) = nI p := by rw [ea2 18 (by decide)]; exact hat
        exact zr_b_call hr hnum.2 z7 z5 k4 (by omega) (by omega) (by omega) (zr_cal (p := p) hr hd hDw hnE ih (σ := zv_a σ1) c1 hb' hnum.2 hdk ⟨k3, by omega, hmem⟩ (by omega) hSt2 hdf2 h12' h31' h18 hp hch (fun s' a' ho => K s' a' (ho.from hkp2 hfm2 (by show σ.2.1 ≤ σ1.2.1; rw [c5]; exact Nat.le_refl _))) (by omega))
  · rw [if_neg h3] at K
    exact zr_a_no (fun z => h3 (hval.1.symm.trans z)) (K _ _ ⟨zr_kp.of (fun k hk => zu_ne _ _ (by omega)) (fun _ _ => rfl), rfl, Or.inr (Or.inr (Or.inr rfl))⟩)
theorem zr_bump {E : Nat} (hE : E < 60) {p e : Int32} : zr_pS s E 31 = nI (E + 1) ∧ zr_pS s E 12 = s 12 ∧ zr_pA a E p e 18 (E + 1) = p ∧ zr_pA a E p e 19 (E + 1) = e ∧ zr_pA a E p e 20 (E + 1) = 0 ∧ (∀ B, zr_fm E B a (zr_pA a E p e)) ∧ zr_kp s a (zr_pS s E) (zr_pA a E p e) := by
  have h : ¬ E = 60 := by omega
  refine ⟨?_, ?_, ?_, ?_, ?_, fun B => zr_fm.of (fun k hk j hj => ?_) (fun q _ => ⟨congrFun (zr_pA_o a E p e (by decide)) q, congrFun (zr_pA_o a E p e (by decide)) q⟩), zr_kp.of (fun k hk => zr_pS_o s E (by omega)) (fun k hk => zr_pA_o a E p e (by omega))⟩
  · unfold zr_pS; rw [if_neg h]; rfl
  · unfold zr_pS; rw [if_neg h]; rfl
  · unfold zr_pA; rw [if_neg h]; exact zi_upd (a 18) _ p
  · unfold zr_pA; rw [if_neg h]; exact zi_upd (a 19) _ e
  · unfold zr_pA; rw [if_neg h]; exact zi_upd (a 20) _ 0
  · unfold zr_pA
    rw [if_neg h]
    rcases (by omega : k = 18 ∨ k = 19 ∨ k = 20 ∨ k = 21 ∨ k = 22) with rfl | rfl | rfl | rfl | rfl
    · exact zi_updn (a 18) _ (by omega)
    · exact zi_updn (a 19) _ (by omega)
    · exact zi_updn (a 20) _ (by omega)
    · rfl
    · exact zi_updn (a 22) _ (by omega)
/-- a frame's stage is written, and a part pushed -/
theorem zr_stg {E B : Nat} {x : Int32} : zr_fm E B a (zu a 20 (upd (a 20) (E + 1) x)) := by
  refine zr_fm.of (fun k hk j hj => ?_) (fun q _ => ⟨rfl, rfl⟩)
  rcases (by omega : k = 18 ∨ k = 19 ∨ k = 20 ∨ k = 21 ∨ k = 22) with rfl | rfl | rfl | rfl | rfl
  · rfl
  · rfl
  · exact zi_updn (a 20) _ (by omega)
  · rfl
  · rfl
theorem zv_p_op {c : Int32} (hp : zv_p c ≠ 0) (h1 : ¬ c = 46) (h2 : ¬ c = 122) (h3 : ¬ (c = 104 ∨ c = 116)) (h4 : ¬ c = 63) (h5 : ¬ c = 58) : c = 43 ∨ c = 45 ∨ c = 42 ∨ c = 47 ∨ c = 37 ∨ c = 60 ∨ c = 61 := by
  unfold zv_p at hp
  rw [if_neg (by rintro (e | e | e) <;> first | exact h3 (Or.inl e) | exact h3 (Or.inr e) | exact h2 e), if_neg h4] at hp
  split at hp
  · rename_i hh
    rcases hh with e | e | e | e | e | e | e | e | e
    · exact absurd e h1
    · exact Or.inl e
    · exact Or.inr (Or.inl e)
    · exact Or.inr (Or.inr (Or.inl e))
    · exact Or.inr (Or.inr (Or.inr (Or.inl e)))
    · exact Or.inr (Or.inr (Or.inr (Or.inr (Or.inl e))))
    · exact Or.inr (Or.inr (Or.inr (Or.inr (Or.inr (Or.inl e)))))
    · exact Or.inr (Or.inr (Or.inr (Or.inr (Or.inr (Or.inr e)))))
    · exact absurd e h5
  · exact absurd rfl hp
theorem zr_num {n : Nat} {k x y : Int32} {v : zv_V} (h : zr_val a n k x y v) (h0 : v.1 = 0) : x = v.2.1 := by
  rcases h.2 with h | h | h | h
  · exact h.2
  · exact absurd (h.symm.trans h0) (by decide)
  · exact absurd (h.1.symm.trans h0) (by decide)
  · exact absurd (h.1.symm.trans h0) (by decide)
theorem zr_pair {n : Nat} {k x y : Int32} {v : zv_V} (h : zr_val a n k x y v) (h0 : v.1 = 2) : x = nI v.2.2.1 ∧ y = nI v.2.2.2.1 := by
  rcases h.2 with h | h | h | h
  · exact absurd (h.1.symm.trans h0) (by decide)
  · exact absurd (h.symm.trans h0) (by decide)
  · exact h.2
  · exact absurd (h.1.symm.trans h0) (by decide)
set_option maxHeartbeats 4000000 in
/-- the second number is there -/
theorem zr_goon2 (hr : zr_r ex sl) (hd : 9 ≤ d) {n E B : Nat} (hnE : n + (E + 1) = 60) {σ : zv_S} {p : Nat} {c x : Int32} {v : zv_V} (hcc : c = 43 ∨ c = 45 ∨ c = 42 ∨ c = 47 ∨ c = 37 ∨ c = 60 ∨ c = 61) (hSt : zr_St M σ s a) (h12 : s 12 = 0) (h31 : s 31 = nI (E + 1)) (hat : a 18 (E + 1) = nI p) (hp : p < 21200) (hst : a 20 (E + 1) = 2) (hkp : a 21 (E + 1) = x) (hval : zr_val a σ.2.2.1 (s 37) (s 38) (s 39) v)
    (K : ∀ s' a', zr_out M (zv_R c x v σ) E B s a s' a' → zr_LJ N d C ex sl p0 e0 Q s' a') {d' : Nat} (hd' : 4 ≤ d') : zm_J N d' 91 0 [(0, .ref 12), (1, .int (nI (E + 1))), (2, .int c)] [] (zr_H C ex sl s a) (zr_SQ C ex sl (zr_LJ N d C ex sl p0 e0 Q)) := by
  obtain ⟨n1, n2, n3, n4, n5⟩ : ¬ c = 46 ∧ ¬ c = 122 ∧ ¬ c = 104 ∧ ¬ c = 116 ∧ ¬ c = 63 := by rcases hcc with e | e | e | e | e | e | e <;> subst e <;> decide
  unfold zv_R at K
  by_cases h0 : v.1 = 0
  · rw [if_pos h0] at K
    rw [← zr_num hval h0] at K
    have hk : s 37 = 0 := hval.1.trans h0
    cases hbn : zv_bn c x (s 38) with
    | none =>
      rw [hbn] at K
      exact zr_g_op3 hr (by omega) h31 hat hp n1 n2 n3 n4 n5 hcc hst hk h12 hkp hbn (by omega) (K _ _ ⟨zr_kp.of (fun k hk => zu_ne _ _ (by omega)) (fun _ _ => rfl), rfl, Or.inr (Or.inl rfl)⟩)
    | some y =>
      rw [hbn] at K
      exact zr_g_op2 hr (by omega) h31 hat hp n1 n2 n3 n4 n5 hcc hst hk h12 hkp hbn (by omega) (K _ _ ⟨zr_kp.of (fun k hk => zr_gS_o _ _ _ _ (by omega)) (fun _ _ => rfl), h12, zr_nI_pred h31, hSt.up rfl rfl rfl rfl (fun _ _ => rfl), ⟨rfl, Or.inl ⟨rfl, rfl⟩⟩, zr_fm.refl E _ a⟩)
  · rw [if_neg h0] at K
    exact zr_g_no hr (by omega) h31 hat hp n1 n2 n3 n4 (fun z => h0 (hval.1.symm.trans z)) (by omega) (K _ _ ⟨zr_kp.of (fun k hk => zu_ne _ _ (by omega)) (fun _ _ => rfl), rfl, Or.inr (Or.inr (Or.inr rfl))⟩)
set_option maxHeartbeats 4000000 in
/-- behind the first part -/
theorem zr_goon (hr : zr_r ex sl) (hd : 9 ≤ d) (hDw : zv_wD D) {n E : Nat} (hnE : n + (E + 1) = 60) (ih : zr_EV M N d C ex sl p0 e0 Q D n) {σ : zv_S} {j p e : Nat} {c : Int32} {L r : List Int32} {A : List Nat} {v : zv_V} (hp0 : zv_p c ≠ 0) (h5 : ¬ c = 58) (hS : zv_wS σ) (hr1 : zv_ok L r 1 = true) (hr2 : zv_ok L (zv_sk r 1) (zv_p c - 1) = true) (hA : zv_wE σ.1.length L A) (hv : zv_wV σ.1.length v) (hb : zv_b σ (zv_n (zv_sk r 1) (zv_p c - 1) + (j + 2)) (zv_n (zv_sk r 1) (zv_p c - 1) + (j + 1)))
    (hSt : zr_St M σ s a) (hdf : zr_def M a D) (h12 : s 12 = 0) (h31 : s 31 = nI (E + 1)) (hat : a 18 (E + 1) = nI p) (hin : a 19 (E + 1) = nI e) (hst : a 20 (E + 1) = 1) (hp : p < 21200) (hpc : a 1 p = c) (htx : zr_tx M (a 1) (p + 1) r) (he : zr_env a e L A) (hek : e < σ.2.1 ∨ L = []) (hval : zr_val a σ.2.2.1 (s 37) (s 38) (s 39) v)
    (K : ∀ s' a', zr_out M (zv_G D (zv_E D n) c r L A v σ) E σ.2.1 s a s' a' → zr_LJ N d C ex sl p0 e0 Q s' a') {d' : Nat} (hd' : 7 ≤ d') : zm_J N d' 91 0 [(0, .ref 12), (1, .int (nI (E + 1))), (2, .int c)] [] (zr_H C ex sl s a) (zr_SQ C ex sl (zr_LJ N d C ex sl p0 e0 Q)) := by
  have hE2 : 60 - n = E + 1 := by omega
  unfold zv_G at K
  by_cases h1 : c = 46
  · rw [if_pos h1] at K
    have e1 : zv_p c - 1 = 1 := by rw [h1]; decide
    rw [e1] at hr2 hb
    exact zr_g_app hr (by omega) h31 hat hp h1 (by omega) (zr_app hr hd hDw hnE ih hS hr1 hr2 hA hv hb hSt hdf h12 h31 hat hin hp htx he hek hval K (by omega))
  rw [if_neg h1] at K
  by_cases h2 : c = 122
  · rw [if_pos h2] at K
    by_cases k1 : v.1 = 1
    · rw [if_pos k1] at K
      exact zr_g_z1 hr (by omega) h31 hat hp h2 (hval.1.trans k1) (by omega) (K _ _ ⟨zr_kp.of (fun k hk => zr_gS_o _ _ _ _ (by omega)) (fun _ _ => rfl), h12, zr_nI_pred h31, hSt.up rfl rfl rfl rfl (fun _ _ => rfl), ⟨rfl, Or.inl ⟨rfl, rfl⟩⟩, zr_fm.refl E _ a⟩)
    rw [if_neg k1] at K
    by_cases k2 : v.1 = 2
    · rw [if_pos k2] at K
      exact zr_g_z2 hr (by omega) h31 hat hp h2 (hval.1.trans k2) (by omega) (K _ _ ⟨zr_kp.of (fun k hk => zr_gS_o _ _ _ _ (by omega)) (fun _ _ => rfl), h12, zr_nI_pred h31, hSt.up rfl rfl rfl rfl (fun _ _ => rfl), ⟨rfl, Or.inl ⟨rfl, rfl⟩⟩, zr_fm.refl E _ a⟩)
    rw [if_neg k2] at K
    exact zr_g_z5 hr (by omega) h31 hat hp h2 (fun z => k1 (hval.1.symm.trans z)) (fun z => k2 (hval.1.symm.trans z)) (by omega) (K _ _ ⟨zr_kp.of (fun k hk => zu_ne _ _ (by omega)) (fun _ _ => rfl), rfl, Or.inr (Or.inr (Or.inr rfl))⟩)
  rw [if_neg h2] at K
  by_cases h3 : c = 104 ∨ c = 116
  · rw [if_pos h3] at K
    by_cases k1 : v.1 = 1
    · rw [if_pos k1] at K
      have K := K _ _ ⟨zr_kp.of (s' := zu s 12 2) (a' := a) (fun k hk => zu_ne _ _ (by omega)) (fun _ _ => rfl), rfl, Or.inl rfl⟩
      rcases h3 with h3 | h3
      · exact zr_g_h1 hr (by omega) h31 hat hp h3 (hval.1.trans k1) (by omega) K
      · exact zr_g_t1 hr (by omega) h31 hat hp h3 (hval.1.trans k1) (by omega) K
    rw [if_neg k1] at K
    by_cases k2 : v.1 = 2
    · rw [if_pos k2] at K
      obtain ⟨g1, g2⟩ := zr_pair hval k2
      obtain ⟨g3, g4⟩ := hv.1 k2
      have hb1 : zv_b σ (j + 1) j := hb.down (by omega) (by omega)
      rcases h3 with h3 | h3
      · rw [if_pos h3] at K
        refine zr_g_h2 hr (by omega) h31 hat hp h3 (hval.1.trans k2) (by omega) ?_
        rw [g1]
        exact zr_frc hr hd hDw hnE ih hS hb1 g3 hSt hdf h12 h31 hat hp K (by omega)
      · rw [if_neg (show ¬ c = 104 by rw [h3]; decide)] at K
        refine zr_g_t2 hr (by omega) h31 hat hp h3 (hval.1.trans k2) (by omega) ?_
        rw [g2]
        exact zr_frc hr hd hDw hnE ih hS hb1 g4 hSt hdf h12 h31 hat hp K (by omega)
    rw [if_neg k2] at K
    have K := K _ _ ⟨zr_kp.of (s' := zu s 12 5) (a' := a) (fun k hk => zu_ne _ _ (by omega)) (fun _ _ => rfl), rfl, Or.inr (Or.inr (Or.inr rfl))⟩
    rcases h3 with h3 | h3
    · exact zr_g_h5 hr (by omega) h31 hat hp h3 (fun z => k1 (hval.1.symm.trans z)) (fun z => k2 (hval.1.symm.trans z)) (by omega) K
    · exact zr_g_t5 hr (by omega) h31 hat hp h3 (fun z => k1 (hval.1.symm.trans z)) (fun z => k2 (hval.1.symm.trans z)) (by omega) K
  rw [if_neg h3] at K
  have n3 : ¬ c = 104 := fun z => h3 (Or.inl z)
  have n4 : ¬ c = 116 := fun z => h3 (Or.inr z)
  by_cases k0 : v.1 = 0
  · rw [if_pos k0] at K
    have hk : s 37 = 0 := hval.1.trans k0
    have g0 : s 38 = v.2.1 := zr_num hval k0
    have h31' : s 31 = nI (60 - n) := by rw [hE2]; exact h31
    by_cases h6 : c = 63
    · rw [if_pos h6] at K
      have e1 : zv_p c - 1 = 1 + 1 := by rw [h6]; decide
      rw [e1, zv_ok_add] at hr2
      rw [e1, zv_n_add] at hb
      have hx : ∀ (q : List Int32) (x : Nat), zv_ok L q 1 = true → zr_tx M (a 1) x q → zv_b σ (zv_n q 1 + j) (zv_n q 1 + j) → (∀ s' a', zr_out M (zv_E D n q L A σ) E σ.2.1 s a s' a' → zr_LJ N d C ex sl p0 e0 Q s' a') → zr_LJ N d C ex sl p0 e0 Q (zr_pS s (E + 1)) (zr_pA (zu a 20 (upd (a 20) (E + 1) 4)) (E + 1) (nI x) (nI e)) := by
        intro q x hq htq hbq K
        rw [← hE2]
        refine ih q L A σ j s (zu a 20 (upd (a 20) (60 - n) 4)) x e hS hq hA hbq (hSt.up rfl rfl rfl rfl (fun k hk => zu_ne _ _ (by omega))) (hdf.up fun k hk => zu_ne _ _ (by omega)) h12 h31' htq (he.up (Or.inr fun _ _ => ⟨rfl, rfl⟩)) hek (fun s' a' ho => ?_)
        refine zr_pop4 (p := p) hr hd (Nat.le_refl σ.2.1) hnE ?_ (by rw [zu_ne _ _ (by decide)]; exact hat) hp (zr_kp.of (fun _ _ => rfl) (fun k hk => zu_ne _ _ (by omega))) (by rw [hE2]; exact zr_stg) K ho
        rw [hE2]
        exact zi_upd (a 20) _ 4
      by_cases hv0 : v.2.1 = 0
      · rw [if_pos hv0] at K
        exact zr_g_if0 hr (by omega) h31 hat hp h6 hk h12 hA.1 htx hin ⟨hr1, hr2.1⟩ (g0.trans hv0) (by omega) (hx _ _ hr2.2 ((htx.sk hr1).sk hr2.1) (hb.down (by omega) (by omega)) K)
      · rw [if_neg hv0] at K
        exact zr_g_if1 hr (by omega) h31 hat hp h6 hk h12 hA.1 htx hin ⟨hr1, hr2.1⟩ (fun z => hv0 (g0.symm.trans z)) (by omega) (hx _ _ hr2.1 (htx.sk hr1) (hb.down (by omega) (by omega)) K)
    · rw [if_neg h6] at K
      have hcc := zv_p_op hp0 h1 h2 h3 h6 h5
      have e1 : zv_p c - 1 = 1 := by rw [zv_p_2 hp0 h2 h3 h6]
      rw [e1] at hr2 hb
      refine zr_g_op1 hr (by omega) h31 hat hp h1 h2 n3 n4 h6 hst hk h12 hA.1 htx hin hr1 (by omega) ?_
      rw [← hE2]
      have hB : ∀ k, k ≠ 20 ∧ k ≠ 21 → zu (zu a 21 (upd (a 21) (60 - n) (s 38))) 20 (upd (a 20) (60 - n) 2) k = a k := fun k hk => by rw [zu_ne _ _ hk.1, zu_ne _ _ hk.2]
      have hbb : zv_b σ (zv_n (zv_sk r 1) 1 + (j + 1)) (zv_n (zv_sk r 1) 1 + (j + 1)) := hb.down (by omega) (by omega)
      refine ih (zv_sk r 1) L A σ (j + 1) s (zu (zu a 21 (upd (a 21) (60 - n) (s 38))) 20 (upd (a 20) (60 - n) 2)) (p + 1 + zv_n r 1) e hS hr2 hA hbb (hSt.up rfl rfl rfl rfl (fun k hk => hB k (by omega))) (hdf.up fun k hk => hB k (by omega)) h12 h31' (htx.sk hr1) (he.up (Or.inr fun _ _ => ⟨rfl, rfl⟩)) hek (fun s' a' ho => ?_)
      have hkp0 : zr_kp s a s (zu (zu a 21 (upd (a 21) (60 - n) (s 38))) 20 (upd (a 20) (60 - n) 2)) := zr_kp.of (fun _ _ => rfl) (fun k hk => hB k (by omega))
      generalize hy : zv_E D n (zv_sk r 1) L A σ = y at K ho
      obtain ⟨q, σ1⟩ := y
      obtain ⟨o1, o2⟩ := ho
      cases q with
      | inl code => exact K s' a' ⟨hkp0.trans o1, o2⟩
      | inr u =>
        obtain ⟨o2, o3, o4, o5, o6⟩ := o2
        rw [hE2] at o3
        have g18 : a' 18 (E + 1) = nI p := by rw [← hE2, (o6.1 (60 - n) (Nat.le_refl _)).1, hE2]; exact hat
        have g20 : a' 20 (E + 1) = 2 := by rw [← hE2, (o6.1 (60 - n) (Nat.le_refl _)).2.2.1]; exact zi_upd (a 20) _ 2
        have g21 : a' 21 (E + 1) = v.2.1 := by rw [← hE2, (o6.1 (60 - n) (Nat.le_refl _)).2.2.2.1, ← g0]; exact zi_upd (a 21) _ (s 38)
        have g1 : a' 1 = a 1 := (o1.1 1 (by omega)).trans (hB 1 (by decide))
        have hfm0 : zr_fm E σ.2.1 a (zu (zu a 21 (upd (a 21) (60 - n) (s 38))) 20 (upd (a 20) (60 - n) 2)) := by
          refine zr_fm.of (fun k hk j hj => ?_) (fun q _ => ⟨rfl, rfl⟩)
          rcases (by omega : k = 18 ∨ k = 19 ∨ k = 20 ∨ k = 21 ∨ k = 22) with rfl | rfl | rfl | rfl | rfl
          · rfl
          · rfl
          · exact zi_updn (a 20) _ (by omega)
          · exact zi_updn (a 21) _ (by omega)
          · rfl
        exact zr_turn hr (by omega) (E := E) (by omega) o3 o2 (zr_s_go hr (by omega) o3 g18 hp (by rw [g1]; exact hpc) (Or.inr g20) (by omega) (zr_goon2 hr hd hnE hcc o4 o2 o3 g18 hp g20 g21 o5 (fun s2 a2 h2 => K s2 a2 (h2.from (hkp0.trans o1) (hfm0.trans (o6.down (by omega) (Nat.le_refl _))) (Nat.le_refl _))) (by omega)))
  · rw [if_neg k0] at K
    exact zr_g_no hr (by omega) h31 hat hp h1 h2 n3 n4 (fun z => k0 (hval.1.symm.trans z)) (by omega) (K _ _ ⟨zr_kp.of (fun k hk => zu_ne _ _ (by omega)) (fun _ _ => rfl), rfl, Or.inr (Or.inr (Or.inr rfl))⟩)
set_option maxHeartbeats 4000000 in
theorem zr_ev (hr : zr_r ex sl) (hd : 9 ≤ d) (hDw : zv_wD D) : ∀ n, n ≤ 60 → zr_EV M N d C ex sl p0 e0 Q D n := by
  intro n
  induction n with
  | zero =>
    intro _ w L A σ j s a p e _ _ _ _ _ _ _ _ _ _ _ K
    refine K _ _ ⟨zr_kp.of (fun k hk => zr_pS_o s 60 (by omega)) (fun k hk => zr_pA_o a 60 _ _ (by omega)), ?_, Or.inr (Or.inr (Or.inl rfl))⟩
    show zr_pS s 60 12 = nI 4
    unfold zr_pS
    rw [if_pos rfl]
    rfl
  | succ n ih =>
    intro hn w L A σ j s a p e hS hok hA hb hSt hdf h12 h31 htx he hek K
    have ih := ih (by omega)
    obtain ⟨E, hE⟩ : ∃ E, E = 60 - (n + 1) := ⟨_, rfl⟩
    have hnE : n + (E + 1) = 60 := by omega
    have hE2 : 60 - n = E + 1 := by omega
    rw [← hE] at h31 K ⊢
    obtain ⟨b31, b12, b18, b19, b20, bfm, bkp⟩ := zr_bump (s := s) (a := a) (E := E) (by omega) (p := nI p) (e := nI e)
    have K : ∀ s' a', zr_out M (zv_E D (n + 1) w L A σ) E σ.2.1 (zr_pS s E) (zr_pA a E (nI p) (nI e)) s' a' → zr_LJ N d C ex sl p0 e0 Q s' a' := fun s' a' ho => K s' a' (ho.from bkp (bfm _) (Nat.le_refl _))
    have hSt : zr_St M σ (zr_pS s E) (zr_pA a E (nI p) (nI e)) := hSt.up (zr_pS_o s E (by decide)) (zr_pS_o s E (by decide)) (zr_pS_o s E (by decide)) (zr_pS_o s E (by decide)) (fun k hk => zr_pA_o a E _ _ (by omega))
    have hdf : zr_def M (zr_pA a E (nI p) (nI e)) D := hdf.up fun k hk => zr_pA_o a E _ _ (by omega)
    have htx : zr_tx M (zr_pA a E (nI p) (nI e) 1) p w := by rw [zr_pA_o a E _ _ (by decide)]; exact htx
    have he : zr_env (zr_pA a E (nI p) (nI e)) e L A := he.up (Or.inr fun i _ => ⟨congrFun (zr_pA_o a E _ _ (by decide)) _, congrFun (zr_pA_o a E _ _ (by decide)) _⟩)
    have h12 : zr_pS s E 12 = 0 := b12.trans h12
    clear h31 b12 bfm bkp
    generalize zr_pS s E = s at *
    generalize zr_pA a E (nI p) (nI e) = a at *
    cases w with
    | nil => cases hok
    | cons c r =>
      obtain ⟨hl, hrk⟩ := zv_ok_cons hok
      obtain ⟨t1, t2, t3⟩ := htx.cons
      rw [zv_n_cons] at hb
      have K : ∀ s' a', zr_out M (if 48 ≤ c ∧ c ≤ 57 then (.inr (zv_num (c - 48)), zv_v σ) else if c = 110 then (.inr (1, 0, 0, 0, []), σ) else if 97 ≤ c ∧ c ≤ 102 then zv_F (zv_E D n) (zv_ar L A c) σ else if 65 ≤ c ∧ c ≤ 70 then zv_N D (zv_E D n) (c - 65) σ else if c = 58 then zv_P r L A σ else zv_B (zv_E D n r L A σ) (zv_G D (zv_E D n) c r L A)) E σ.2.1 s a s' a' → zr_LJ N d C ex sl p0 e0 Q s' a' := K
      by_cases h1 : 48 ≤ c ∧ c ≤ 57
      · rw [if_pos h1] at K
        refine zr_turn hr (by omega) (E := E) (by omega) b31 h12 (zr_s_dig hr (by omega) b31 b18 t2 t1 b20 h1 (by omega) (K _ _ ⟨zr_kp.of (fun k hk => zr_gS_o _ _ _ _ (by omega)) (fun _ _ => rfl), h12, zr_nI_pred b31, hSt.up rfl rfl rfl rfl (fun _ _ => rfl), ⟨rfl, Or.inl ⟨rfl, rfl⟩⟩, zr_fm.refl E _ a⟩))
      rw [if_neg h1] at K
      by_cases h2 : c = 110
      · rw [if_pos h2] at K
        refine zr_turn hr (by omega) (E := E) (by omega) b31 h12 (zr_s_nil hr (by omega) b31 b18 t2 t1 b20 h1 h2 (by omega) (K _ _ ⟨zr_kp.of (fun k hk => zr_gS_o _ _ _ _ (by omega)) (fun _ _ => rfl), h12, zr_nI_pred b31, hSt.up rfl rfl rfl rfl (fun _ _ => rfl), ⟨rfl, Or.inr (Or.inl rfl)⟩, zr_fm.refl E _ a⟩))
      rw [if_neg h2] at K
      by_cases h3 : 97 ≤ c ∧ c ≤ 102
      · rw [if_pos h3] at K
        have hcL := zv_l_let hl h3
        exact zr_turn hr (by omega) (E := E) (by omega) b31 h12 (zr_s_par hr (by omega) b31 b18 t2 t1 b20 h1 h2 h3 b19 he hcL (by omega) (zr_frc (j := j) hr hd hDw hnE ih hS (hb.down (by omega) (by omega)) (zv_idx hA hcL) hSt hdf h12 b31 b18 t2 K (by omega)))
      rw [if_neg h3] at K
      by_cases h4 : 65 ≤ c ∧ c ≤ 70
      · rw [if_pos h4] at K
        obtain ⟨m1, m2⟩ := zv_name h4
        have m3 := zi_nat m1
        unfold zv_N at K
        refine zr_turn hr (by omega) (E := E) (by omega) b31 h12 (zr_s_name hr (by omega) b31 b18 t2 t1 b20 h1 h2 h3 h4 (by omega) ?_)
        generalize hx : c - 65 = x at *
        rw [m3]
        cases hdk : D x.toNatClampNeg with
        | none =>
          rw [hdk] at K
          exact zr_n_no hr m2 ((hdf _ m2).1 hdk) (by omega) (K _ _ ⟨zr_kp.of (fun k hk => zu_ne _ _ (by omega)) (fun _ _ => rfl), rfl, Or.inl rfl⟩)
        | some y =>
          obtain ⟨L', b⟩ := y
          rw [hdk] at K
          dsimp only at K
          obtain ⟨k1, k2, k3, k4, k5⟩ := hDw _ L' b hdk
          obtain ⟨z7, z5, -, -⟩ := (hdf _ m2).2 L' b hdk
          by_cases hl0 : L'.length = 0
          · rw [if_pos hl0] at K
            rw [hl0] at z5
            exact zr_n_call hr m2 z7 z5 (by omega) (zr_cal (A := []) (j := j) hr hd hDw hnE ih hS (hb.down (by omega) (by omega)) m2 hdk ⟨k3, by omega, fun q hq => by cases hq⟩ (Nat.zero_le _) hSt hdf h12 b31 b18 t2 rfl K (by omega))
          · rw [if_neg hl0] at K
            exact zr_n_fun hr m2 z7 z5 k4 hl0 (by omega) (K _ _ ⟨zr_kp.of (fun k hk => zr_gS_o _ _ _ _ (by omega)) (fun _ _ => rfl), h12, zr_nI_pred b31, hSt.up rfl rfl rfl rfl (fun _ _ => rfl), ⟨rfl, Or.inr (Or.inr (Or.inr ⟨rfl, m3.symm, rfl⟩))⟩, zr_fm.refl E _ a⟩)
      rw [if_neg h4] at K
      have hp := zv_p_pos hA.1 hl h1 h2 h3 h4
      have ep : zv_p c = 1 + (zv_p c - 1) := by omega
      rw [ep] at hrk hb
      rw [zv_ok_add] at hrk
      rw [zv_n_add] at hb
      by_cases h5 : c = 58
      · rw [if_pos h5] at K
        have e2 : zv_p c - 1 = 1 := by rw [h5]; decide
        rw [e2] at hrk hb
        obtain ⟨s1, a1, j1, hSt1, es1, ea1⟩ := zr_cl (N := N) (C := C) (ex := ex) (sl := sl) (i := zv_n (zv_sk r 1) 1 + (j + 1)) (i' := zv_n r 1 + (zv_n (zv_sk r 1) 1 + (j + 1))) hr hS hrk.1 hA (hb.down (by omega) (by omega)) hSt t3 he hek (d' := d - 1 - 1) (by omega)
        obtain ⟨c1, c2, c3, c4⟩ := zv_cl_ok (i := zv_n (zv_sk r 1) 1 + (j + 1)) (j := zv_n (zv_sk r 1) 1 + (j + 1)) hS hrk.1 hA (hb.down (by omega) (by omega))
        have c5 := zv_cl_2 r L A σ
        unfold zv_P at K
        generalize zv_cl r L A σ = x at K j1 hSt1 c1 c2 c3 c4 c5
        obtain ⟨x, σ1⟩ := x
        dsimp only at K j1 hSt1 c1 c2 c3 c4 c5
        have hek1 : e < σ1.2.1 ∨ L = [] := by rw [c5]; exact hek
        obtain ⟨s2, a2, j2, hSt2, es2, ea2⟩ := zr_cl (N := N) (C := C) (ex := ex) (sl := sl) hr c1 hrk.2 (hA.up c3.len) c4 hSt1 (by rw [ea1 1 (by decide)]; exact t3.sk hrk.1) (he.up (Or.inr fun i _ => ⟨congrFun (ea1 14 (by decide)) _, congrFun (ea1 15 (by decide)) _⟩)) hek1 (d' := d - 1 - 1) (by omega)
        generalize zv_cl (zv_sk r 1) L A σ1 = x2 at K j2 hSt2
        obtain ⟨x2, σ2⟩ := x2
        dsimp only at K j2 hSt2
        refine zr_turn hr (by omega) (E := E) (by omega) b31 h12 (zr_s_pair hr (by omega) b31 b18 t2 t1 b20 h5 hA.1 hrk.1 t3 b19 j1 (ea1 1 (by decide)) (ea1 19 (by decide)) j2 (by omega) (K _ _ ?_))
        have es : ∀ k, k ≠ 23 → s2 k = s k := fun k hk => (es2 k hk).trans (es1 k hk)
        have ea : ∀ k, k ≠ 8 ∧ k ≠ 9 ∧ k ≠ 10 → a2 k = a k := fun k hk => (ea2 k hk).trans (ea1 k hk)
        exact ⟨zr_kp.of (fun k hk => by rw [zr_gS_o _ _ _ _ (by omega), es k (by omega)]) (fun k hk => ea k (by omega)), (es 12 (by decide)).trans h12, zr_nI_pred ((es 31 (by decide)).trans b31), hSt2.up rfl rfl rfl rfl (fun _ _ => rfl), ⟨rfl, Or.inr (Or.inr (Or.inl ⟨rfl, rfl, rfl⟩))⟩, zr_fm.of (fun k hk j _ => congrFun (ea k (by omega)) j) (fun q _ => ⟨congrFun (ea 14 (by decide)) q, congrFun (ea 15 (by decide)) q⟩)⟩
      rw [if_neg h5] at K
      refine zr_turn hr (by omega) (E := E) (by omega) b31 h12 (zr_s_first hr (by omega) b31 b18 t2 t1 b20 h1 h2 h3 h4 h5 b19 (by omega) ?_)
      rw [← hE2]
      have hB : ∀ k, k ≠ 20 → zu a 20 (upd (a 20) (60 - n) 1) k = a k := fun k hk => zu_ne _ _ hk
      have hbb : zv_b σ (zv_n r 1 + (zv_n (zv_sk r 1) (zv_p c - 1) + (j + 1))) (zv_n r 1 + (zv_n (zv_sk r 1) (zv_p c - 1) + (j + 1))) := hb.down (by omega) (by omega)
      refine ih r L A σ (zv_n (zv_sk r 1) (zv_p c - 1) + (j + 1)) s (zu a 20 (upd (a 20) (60 - n) 1)) (p + 1) e hS hrk.1 hA hbb (hSt.up rfl rfl rfl rfl (fun k hk => hB k (by omega))) (hdf.up fun k hk => hB k (by omega)) h12 (by rw [hE2]; exact b31) t3 (he.up (Or.inr fun _ _ => ⟨rfl, rfl⟩)) hek (fun s' a' ho => ?_)
      have hkp0 : zr_kp s a s (zu a 20 (upd (a 20) (60 - n) 1)) := zr_kp.of (fun _ _ => rfl) (fun k hk => hB k (by omega))
      have hok2 := zv_E_ok hDw n r L A σ _ hS hrk.1 hA hbb
      generalize zv_E D n r L A σ = y at K ho hok2
      obtain ⟨q, σ1⟩ := y
      obtain ⟨o1, o2⟩ := ho
      cases q with
      | inl code => exact K s' a' ⟨hkp0.trans o1, o2⟩
      | inr v =>
        obtain ⟨o2, o3, o4, o5, o6⟩ := o2
        obtain ⟨w1, w2, w3, w4⟩ := hok2 v rfl
        dsimp only at w1 w2 w3 w4
        rw [hE2] at o3
        have g18 : a' 18 (E + 1) = nI p := by rw [← hE2, (o6.1 (60 - n) (Nat.le_refl _)).1, hE2]; exact b18
        have g19 : a' 19 (E + 1) = nI e := by rw [← hE2, (o6.1 (60 - n) (Nat.le_refl _)).2.1, hE2]; exact b19
        have g20 : a' 20 (E + 1) = 1 := by rw [← hE2, (o6.1 (60 - n) (Nat.le_refl _)).2.2.1]; exact zi_upd (a 20) _ 1
        have g1 : a' 1 = a 1 := (o1.1 1 (by omega)).trans (hB 1 (by decide))
        have hdf' : zr_def M a' D := (hdf.up fun k hk => hB k (by omega)).up o1.1
        have hfm0 : zr_fm E σ.2.1 a (zu a 20 (upd (a 20) (60 - n) 1)) := by rw [hE2]; exact zr_stg
        exact zr_turn hr (by omega) (E := E) (by omega) o3 o2 (zr_s_go hr (by omega) o3 g18 t2 (by rw [g1]; exact t1) (Or.inl g20) (by omega) (zr_goon (j := j) hr hd hDw hnE ih hp h5 w1 hrk.1 hrk.2 (hA.up w3.len) w2 (w4.down (by omega) (by omega)) o4 hdf' o2 o3 g18 g19 g20 t2 (by rw [g1]; exact t1) (by rw [g1]; exact t3) (he.up (hek.elim (fun z => Or.inr fun i hi => o6.2 _ (by omega)) Or.inl)) (hek.imp (fun z => Nat.lt_of_lt_of_le z w3.1) id) o5 (fun s2 a2 h2 => K s2 a2 (h2.from (hkp0.trans o1) (hfm0.trans (o6.down (by omega) (Nat.le_refl _))) w3.1)) (by omega)))
end ZRA

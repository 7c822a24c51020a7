/-! WHAT A WORKING OUT LEAVES -/
def zk_k (N : zm_N) (d mi pc : Nat) (lv : zm_L) (rest : List Value) (Q : zm_O → zm_H → Prop) : zm_O → zm_H → Prop := fun z G' => match z with
  | .inl v => zm_J N d mi pc lv (v.toList ++ rest) G' Q
  | .inr x => Q (.inr x) G'
section ZKT
variable {N : zm_N} {d mi pc : Nat} {lv : zm_L} {G : zm_H} {Q : zm_O → zm_H → Prop}
theorem zg_VT {mj idx a x : Nat} {fs av rest : List Value} (hdg : decode (zm_by mi) pc = .ok (.invokevirtual idx, 3)) (hok : zm_okV mi idx mj av.length x) (ha : G.1[a]? = some (.inr (x, fs))) (ho : zm_out mi pc) (hw : (rest.map fun v => v.category).sum + (zm_nl mj + 11) ≤ zm_w) (hfit : (lg_sl (.ref a :: av)).length ≤ zm_nl mj) (hcm : G.1.length ≤ zm_C) (hsm : G.2 ≤ zm_S)
    (hJ : zm_J N d mj 0 (lv_args 0 (.ref a :: av)) [] G (zk_k N (d + 1) mi (pc + 3) lv rest Q)) : zm_J N (d + 1) mi pc lv (av.reverse ++ .ref a :: rest) G Q :=
  zm_J_V hdg hok ha hw hfit hcm hsm hJ (fun _ _ h => h) (fun _ _ h => Or.inl ⟨ho, h⟩)
theorem zg_ST {mj idx : Nat} {av rest : List Value} (hdg : decode (zm_by mi) pc = .ok (.invokestatic idx, 3)) (hok : zm_okS mi idx mj av.length) (ho : zm_out mi pc) (hw : (rest.map fun v => v.category).sum + (zm_nl mj + 11) ≤ zm_w) (hfit : (lg_sl av).length ≤ zm_nl mj) (hcm : G.1.length ≤ zm_C) (hsm : G.2 ≤ zm_S)
    (hJ : zm_J N d mj 0 (lv_args 0 av) [] G (zk_k N (d + 1) mi (pc + 3) lv rest Q)) : zm_J N (d + 1) mi pc lv (av.reverse ++ rest) G Q :=
  zm_J_S hdg hok hw hfit hcm hsm hJ (fun _ _ h => h) (fun _ _ h => Or.inl ⟨ho, h⟩)
end ZKT
/-- the kinds of what is thrown -/
def zk_xk (e : Nat) : Nat := if e = 2 then 2 else if e = 3 then 4 else if e = 4 then 1 else if e = 5 then 3 else 0
/-- the text's scalars stay -/
def zk_ts (s s' : Nat → Int32) : Prop := ∀ k, 5 ≤ k → k ≤ 10 → s' k = s k
theorem zk_ts.refl (s : Nat → Int32) : zk_ts s s := fun _ _ _ => rfl
theorem zk_ts.trans {a b c : Nat → Int32} (h : zk_ts a b) (k : zk_ts b c) : zk_ts a c := fun i h1 h2 => (k i h1 h2).trans (h i h1 h2)
section ZKE
variable (B S : Nat) (R : Nat → zm_E) (r : Value) (f g : Nat → Int32) (df : Nat → Option Nat)
def zk_OK (ex : List zm_E) (s : Nat → Int32) (va ca ka : List Nat) (nv na : Nat) (v : zv_V) (σ' : zv_S) (z : zm_O) (G : zm_H) : Prop := ∃ (ex' : List zm_E) (sl' : Nat) (s' : Nat → Int32) (el' : Nat → Nat) (va' ca' ka' : List Nat) (q' : Nat × Nat × Nat) (u : Nat), z = .inl (some (.ref u)) ∧ G = zk_H R ex' sl' s' r el' f g df ∧ zk_I B S ex' sl' s' el' va' ca' ka' q' ∧ zk_P ex va ca ka nv na ex' va' ca' ka' ∧ zk_St ex' s' va' ca' ka' σ' ∧ zk_V ex' va' ca' ka' σ'.2.2.2 σ'.2.2.1 v u ∧ zk_ts s s' ∧ nv ≤ σ'.2.2.2 ∧ na ≤ σ'.2.2.1
def zk_ER (ex : List zm_E) (s : Nat → Int32) (e : Nat) (z : zm_O) (G : zm_H) : Prop := ∃ (ex' : List zm_E) (sl' : Nat) (s' : Nat → Int32) (el' : Nat → Nat) (va' ca' ka' : List Nat) (q' : Nat × Nat × Nat) (p : Nat), z = .inr (zk_xk e, p) ∧ G = zk_H R ex' sl' s' r el' f g df ∧ zk_I (B + 1) (S + 6) ex' sl' s' el' va' ca' ka' q' ∧ zk_de ex ex' ∧ zk_ts s s'
def zk_EQ (ex : List zm_E) (s : Nat → Int32) (va ca ka : List Nat) (nv na : Nat) (x : zv_O) (z : zm_O) (G : zm_H) : Prop := match x with
  | (.inl e, _) => zk_ER B S R r f g df ex s e z G
  | (.inr v, σ') => zk_OK B S R r f g df ex s va ca ka nv na v σ' z G
end ZKE
section ZKF
variable {B S : Nat} {R : Nat → zm_E} {r : Value} {f g : Nat → Int32} {df : Nat → Option Nat} {ex : List zm_E} {sl : Nat} {s : Nat → Int32} {el : Nat → Nat} {va ca ka : List Nat} {q : Nat × Nat × Nat} {ex' : List zm_E} {s' : Nat → Int32} {va' ca' ka' : List Nat} {nv na nv' na' : Nat}
theorem zk_ER_tr (h : zk_de ex ex') (ht : zk_ts s s') {e : Nat} {z : zm_O} {G : zm_H} (k : zk_ER B S R r f g df ex' s' e z G) : zk_ER B S R r f g df ex s e z G := by
  obtain ⟨ex2, sl2, s2, el2, va2, ca2, ka2, q2, p, k1, k2, k3, k4, k5⟩ := k
  exact ⟨ex2, sl2, s2, el2, va2, ca2, ka2, q2, p, k1, k2, k3, h.trans k4, ht.trans k5⟩
theorem zk_EQ_tr (h : zk_P ex va ca ka nv na ex' va' ca' ka') (ht : zk_ts s s') (h1 : nv ≤ nv') (h2 : na ≤ na') {x : zv_O} {z : zm_O} {G : zm_H} (k : zk_EQ B S R r f g df ex' s' va' ca' ka' nv' na' x z G) : zk_EQ B S R r f g df ex s va ca ka nv na x z G := by
  obtain ⟨x1, σ'⟩ := x
  cases x1 with
  | inl e => exact zk_ER_tr h.2.1 ht k
  | inr v =>
    obtain ⟨ex2, sl2, s2, el2, va2, ca2, ka2, q2, u, k1, k2, k3, k4, k5, k6, k7, k8, k9⟩ := k
    exact ⟨ex2, sl2, s2, el2, va2, ca2, ka2, q2, u, k1, k2, k3, h.trans k4 h1 h2, k5, k6, ht.trans k7, Nat.le_trans h1 k8, Nat.le_trans h2 k9⟩
theorem zk_throw {N : zm_N} {d mi pc xk e : Nat} {lv : zm_L} {st : List Value} {Q : zm_O → zm_H → Prop} (hB : zk_BS B S) (h : zk_I B S ex sl s el va ca ka q) (hok : zm_okx mi pc xk) (he : zk_xk e = xk) (hd : 7 ≤ d) (hw : (st.map fun v => v.category).sum + 95 ≤ zm_w * 7) (K : ∀ z G, zk_ER B S R r f g df ex s e z G → Q z G) : zm_J N d mi pc lv st (zk_H R ex sl s r el f g df) Q := by
  have hrm := zk_I_room hB h
  subst he
  refine zm_J_throw hok hd hw ?_ (K _ _ ⟨zk_ap ex (Sum.inr (zm_cl.length, []) : zm_E), sl + 6, s, el, va, ca, ka, q, _, rfl, rfl, zk_I_ap _ 6 h, zk_de_ap _ _, zk_ts.refl _⟩)
  · unfold zm_room
    rw [Bool.and_eq_true, decide_eq_true_eq, decide_eq_true_eq]
    exact ⟨by show ex.length + 37 + 1 ≤ zm_C; omega, by show sl + 6 ≤ zm_S; omega⟩
/-- what was worked out is handed on -/
theorem zk_k_ret {N : zm_N} {d mi pc : Nat} {lv : zm_L} {i : zm_I} (hq : zm_cd mi pc = some i) (hr : ∀ u, zm_ret i.1 (zm_rt mi) [.ref u] = some (some (.ref u))) {x : zv_O} {z : zm_O} {G : zm_H} (k : zk_EQ B S R r f g df ex s va ca ka nv na x z G) : zk_k N d mi pc lv [] (zk_EQ B S R r f g df ex s va ca ka nv na x) z G := by
  have k0 := k
  obtain ⟨x1, σ'⟩ := x
  cases x1 with
  | inl e =>
    obtain ⟨ex2, sl2, s2, el2, va2, ca2, ka2, q2, p, k1, k2⟩ := k
    subst k1
    exact k0
  | inr v =>
    obtain ⟨ex2, sl2, s2, el2, va2, ca2, ka2, q2, u, k1, k2⟩ := k
    subst k1
    exact zm_J_fin zm_T hq (hr u) k0
/-- what was thrown goes on -/
theorem zk_k_er {N : zm_N} {d mi pc : Nat} {lv : zm_L} {rest : List Value} {Q : zm_O → zm_H → Prop} {e : Nat} {z : zm_O} {G : zm_H} (k : zk_ER B S R r f g df ex s e z G) (h : Q z G) : zk_k N d mi pc lv rest Q z G := by
  obtain ⟨ex2, sl2, s2, el2, va2, ca2, ka2, q2, p, k1, k2⟩ := k
  subst k1
  exact h
/-! what the makers leave -/
theorem zk_nv_keep {x u sz n y : Nat} {l l' : List Nat} (h : zk_nv x u sz ex s l n ex' s' l' y) {i : Nat} {p : Nat × List Value} (hi : ex[i]? = some (Sum.inr p : zm_E)) (hx : p.1 ≠ x ∨ i ≠ y) : ex'[i]? = ex[i]? := by
  have hy : i ≠ y := by
    rcases hx with hx | hx
    · intro e
      subst e
      exact hx (h.2.2.2.1 p hi)
    · exact hx
  rw [h.2.2.1 i p hy hi, hi]
theorem zk_nv_de {x u sz n y : Nat} {l l' : List Nat} (h : zk_nv x u sz ex s l n ex' s' l' y) (hx : x ≠ 6 ∧ x ≠ 7) : zk_de ex ex' := fun i k fs hk e => (zk_nv_keep h e (Or.inl (by
  show k ≠ x
  rcases hk with rfl | rfl
  · exact fun z => hx.1 z.symm
  · exact fun z => hx.2 z.symm))).trans e
theorem zk_nv_old {x u sz n y : Nat} {l l' : List Nat} (h : zk_nv x u sz ex s l n ex' s' l' y) (hn : l'.Nodup) {m z : Nat} {p : Nat × List Value} (hm : m < n) (hz : l[m]? = some z) (hi : ex[z]? = some (Sum.inr p : zm_E)) : ex'[z]? = ex[z]? := zk_nv_keep h hi (Or.inr (fun e => by
  subst e
  have := zk_inj hn (h.1 m z hz) h.2.1
  omega))
section ZKG
variable {sl' : Nat} {el' : Nat → Nat} {q' : Nat × Nat × Nat} {σ : zv_S} {y : Nat}
theorem zk_mkv (h : zk_I B S ex sl s el va ca ka q) (h' : zk_I B S ex' sl' s' el' va' ca ka q') (hS : zk_St ex s va ca ka σ) (hn : zk_nv 3 11 14 ex s va σ.2.2.2 ex' s' va' y) : zk_P ex va ca ka σ.2.2.2 σ.2.2.1 ex' va' ca ka ∧ zk_St ex' s' va' ca ka (zv_v σ) ∧ zk_ts s s' := by
  obtain ⟨⟨a1, a2, a3⟩, _⟩ := h
  have hP : zk_P ex va ca ka σ.2.2.2 σ.2.2.1 ex' va' ca ka := ⟨⟨hn.1, zk_up.refl _, zk_up.refl _⟩, zk_nv_de hn (by decide), fun m z hm hz => by
      obtain ⟨fs, e⟩ := a1.1 z (List.mem_of_getElem? hz)
      exact zk_nv_old hn h'.2.2.1.1 hm hz e, fun m z _ hz => by
      obtain ⟨fs, e⟩ := a3.1 z (List.mem_of_getElem? hz)
      exact zk_nv_keep hn e (Or.inl (show 9 ≠ 3 by decide))⟩
  obtain ⟨⟨s0, s1, s2, s3⟩, ⟨l1, l2, l3⟩, hc⟩ := hS
  have hk := hn.2.2.2.2.2
  refine ⟨hP, ⟨⟨(hk 0 (by decide) (by decide) (by decide)).trans s0, hn.2.2.2.2.1, (hk 12 (by decide) (by decide) (by decide)).trans s2, (hk 13 (by decide) (by decide) (by decide)).trans s3⟩, ⟨(List.getElem?_eq_some_iff.mp hn.2.1).1, l2, l3⟩, fun c x hx => ?_⟩, fun k h1 h2 => hk k (by omega) (by omega) (by omega)⟩
  refine zk_clo_up hP (Nat.le_succ _) (Nat.le_refl _) (fun z hz => ?_) (hc c x hx)
  obtain ⟨fs, e⟩ := a2.1 z (List.mem_of_getElem? hz)
  exact zk_nv_keep hn e (Or.inl (show 8 ≠ 3 by decide))
theorem zk_mkk (h : zk_I B S ex sl s el va ca ka q) (h' : zk_I B S ex' sl' s' el' va ca ka' q') (hS : zk_St ex s va ca ka σ) (hn : zk_nv 9 13 18 ex s ka σ.2.2.1 ex' s' ka' y) : zk_P ex va ca ka σ.2.2.2 σ.2.2.1 ex' va ca ka' ∧ zk_St ex' s' va ca ka' (zv_a σ) ∧ zk_ts s s' := by
  obtain ⟨⟨a1, a2, a3⟩, _⟩ := h
  have hP : zk_P ex va ca ka σ.2.2.2 σ.2.2.1 ex' va ca ka' := ⟨⟨zk_up.refl _, zk_up.refl _, hn.1⟩, zk_nv_de hn (by decide), fun m z _ hz => by
      obtain ⟨fs, e⟩ := a1.1 z (List.mem_of_getElem? hz)
      exact zk_nv_keep hn e (Or.inl (show 3 ≠ 9 by decide)), fun m z hm hz => by
      obtain ⟨fs, e⟩ := a3.1 z (List.mem_of_getElem? hz)
      exact zk_nv_old hn h'.2.2.1.2.2 hm hz e⟩
  obtain ⟨⟨s0, s1, s2, s3⟩, ⟨l1, l2, l3⟩, hc⟩ := hS
  have hk := hn.2.2.2.2.2
  refine ⟨hP, ⟨⟨(hk 0 (by decide) (by decide) (by decide)).trans s0, (hk 11 (by decide) (by decide) (by decide)).trans s1, (hk 12 (by decide) (by decide) (by decide)).trans s2, hn.2.2.2.2.1⟩, ⟨l1, l2, (List.getElem?_eq_some_iff.mp hn.2.1).1⟩, fun c x hx => ?_⟩, fun k h1 h2 => hk k (by omega) (by omega) (by omega)⟩
  refine zk_clo_up hP (Nat.le_refl _) (Nat.le_succ _) (fun z hz => ?_) (hc c x hx)
  obtain ⟨fs, e⟩ := a2.1 z (List.mem_of_getElem? hz)
  exact zk_nv_keep hn e (Or.inl (show 8 ≠ 9 by decide))
theorem zk_mkcl (h : zk_I B S ex sl s el va ca ka q) (h' : zk_I B S ex' sl' s' el' va ca' ka q') (hS : zk_St ex s va ca ka σ) (hn : zk_nv 8 12 16 ex s ca σ.1.length ex' s' ca' y) {xa n : Nat} {ch : Value} (hc : ex'[y]? = some (Sum.inr (8, [.ref (xa + 37), ch, .int 0, .null]) : zm_E)) {w L : List Int32} {A : List Nat} (hX : zk_X ex L n w xa) (hA : zk_ch ex ca ka σ.2.2.1 A.reverse ch) : zk_P ex va ca ka σ.2.2.2 σ.2.2.1 ex' va ca' ka ∧ zk_St ex' s' va ca' ka (zv_st σ (σ.1 ++ [((w, L, A), none)])) ∧ zk_ts s s' := by
  obtain ⟨⟨a1, a2, a3⟩, _⟩ := h
  have hP : zk_P ex va ca ka σ.2.2.2 σ.2.2.1 ex' va ca' ka := ⟨⟨zk_up.refl _, hn.1, zk_up.refl _⟩, zk_nv_de hn (by decide), fun m z _ hz => by
      obtain ⟨fs, e⟩ := a1.1 z (List.mem_of_getElem? hz)
      exact zk_nv_keep hn e (Or.inl (show 3 ≠ 8 by decide)), fun m z _ hz => by
      obtain ⟨fs, e⟩ := a3.1 z (List.mem_of_getElem? hz)
      exact zk_nv_keep hn e (Or.inl (show 9 ≠ 8 by decide))⟩
  obtain ⟨⟨s0, s1, s2, s3⟩, ⟨l1, l2, l3⟩, hcl⟩ := hS
  have hk := hn.2.2.2.2.2
  have hlen : (σ.1 ++ [((w, L, A), none)] : List zv_C).length = σ.1.length + 1 := by rw [List.length_append, List.length_singleton]
  refine ⟨hP, ⟨⟨(hk 0 (by decide) (by decide) (by decide)).trans s0, (hk 11 (by decide) (by decide) (by decide)).trans s1, hn.2.2.2.2.1.trans (by show _ = nI (σ.1 ++ [((w, L, A), none)] : List zv_C).length; rw [hlen]), (hk 13 (by decide) (by decide) (by decide)).trans s3⟩, ⟨l1, ?_, l3⟩, fun c x hx => ?_⟩, fun k h1 h2 => hk k (by omega) (by omega) (by omega)⟩
  · show (σ.1 ++ [((w, L, A), none)] : List zv_C).length ≤ _
    rw [hlen]
    exact (List.getElem?_eq_some_iff.mp hn.2.1).1
  · have hx : (σ.1 ++ [((w, L, A), none)] : List zv_C)[c]? = some x := hx
    by_cases hcl' : c < σ.1.length
    · rw [List.getElem?_append_left hcl'] at hx
      refine zk_clo_up hP (Nat.le_refl _) (Nat.le_refl _) (fun z hz => ?_) (hcl c x hx)
      obtain ⟨fs, e⟩ := a2.1 z (List.mem_of_getElem? hz)
      exact zk_nv_old hn h'.2.2.1.2.1 hcl' hz e
    · have hb := (List.getElem?_eq_some_iff.mp hx).1
      rw [hlen] at hb
      have hce : c = σ.1.length := by omega
      subst hce
      rw [List.getElem?_append_right (Nat.le_refl _), Nat.sub_self] at hx
      cases Option.some.inj hx
      exact ⟨y, xa, n, ch, 0, .null, hn.2.1, hc, zk_X_up hP.2.1 _ _ _ hX, zk_ch_up hP (Nat.le_refl _) _ _ hA, rfl, rfl⟩
end ZKG
end ZKF

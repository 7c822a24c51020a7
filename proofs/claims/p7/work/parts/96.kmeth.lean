/-! THE CLASS'S OTHER METHODS -/
theorem zg_aastn {N : zm_N} {d mi pc : Nat} {lv : zm_L} {G : zm_H} {Q : zm_O → zm_H → Prop} {qa qb : Nat} {qn : Int} {ad t n m : Nat} {f : Nat → Option Nat} {C : String} {j : Int32} {r : List Value} {G' : zm_H} (hq : zm_cd mi pc = some (.aastore, qa, qb, qn)) (ha : G.1[ad]? = some (.inl (t, n, .inr (.inr (.inr (.inr f)))))) (ht : zm_aty[t]? = some (.object C)) (hno : zm_no ≤ ad) (hj : j = nI m) (hm : m < n) (hn : n < 2147483648) (hG : zm_set G ad (.inl (t, n, .inr (.inr (.inr (.inr (va_up f m none)))))) = G') (k : zm_J N d mi (pc + 1) lv r G' Q) : zm_J N d mi pc lv (.null :: .int j :: .ref ad :: r) G Q := by
  subst hj hG
  have hc : (nI m).toNatClampNeg = m := nI_clamp (by omega)
  exact zg_J_ast (i := .aastore) (v' := .null) (x := (n, .inr (.inr (.inr (.inr f))))) (x' := (n, .inr (.inr (.inr (.inr (va_up f m none)))))) hq ha ht rfl (by rw [hc]; rfl) hno ⟨nI_pos' (by omega), by rw [hc]; exact hm⟩ rfl k
theorem zg_ts {N : zm_N} {d mi pc t qa qb : Nat} {qn dflt lo hi o : Int} {ps : Array Int} {lv : zm_L} {st : List Value} {G : zm_H} {Q : zm_O → zm_H → Prop} {c : Int32} (hq : zm_cd mi pc = some (.tableswitch dflt lo hi ps, qa, qb, qn)) (ho : zm_toff dflt lo hi ps c = some o) (ht : zm_tgt pc o = some t) (k : zm_J N d mi t lv st G Q) : zm_J N d mi pc lv (.int c :: st) G Q := by
  refine zm_J_run zm_T 1 (pc' := t) (lv' := lv) (st' := st) (G' := G) ?_ k
  unfold zm_run zm_step
  dsimp only
  rw [hq]
  dsimp only
  have hs : zm_sw (.int c :: st) pc (zm_toff dflt lo hi ps) = some (t, st) := by
    unfold zm_sw
    simp only [ho, ht]
  simp only [zm_stepq, zm_grp, zm_br, hs]
  rfl
section ZKQ
variable {R : Nat → zm_E} {ex : List zm_E} {sl : Nat} {s : Nat → Int32} {r : Value} {el : Nat → Nat} {f g : Nat → Int32} {df : Nat → Option Nat} {N : zm_N} {d : Nat} {Q : zm_O → zm_H → Prop} {B S : Nat} {va ca ka : List Nat} {q : Nat × Nat × Nat} {t : List Int32} {D : zv_D} {σ : zv_S}
/-- what an ASKING that was read leaves -/
def zk_AS (B S : Nat) (R : Nat → zm_E) (f g : Nat → Int32) (df : Nat → Option Nat) (ex : List zm_E) (x : zv_O) (z : zm_O) (G : zm_H) : Prop := match x with
  | (.inl e, _) => ∃ (ex' : List zm_E) (sl' : Nat) (s' : Nat → Int32) (el' : Nat → Nat) (va' ca' ka' : List Nat) (q' : Nat × Nat × Nat) (p : Nat), z = .inr (zk_xk e, p) ∧ G = zk_H R ex' sl' s' .null el' f g df ∧ zk_I (B + 42) (S + 212) ex' sl' s' el' va' ca' ka' q' ∧ zk_de ex ex' ∧ s' 5 = 0
  | (.inr v, σ') => ∃ (ex' : List zm_E) (sl' : Nat) (s' : Nat → Int32) (el' : Nat → Nat) (va' ca' ka' : List Nat) (q' : Nat × Nat × Nat) (u : Nat), z = .inl (some (.int v.1)) ∧ G = zk_H R ex' sl' s' (.ref u) el' f g df ∧ zk_I (B + 42) (S + 212) ex' sl' s' el' va' ca' ka' q' ∧ zk_de ex ex' ∧ s' 5 = 0 ∧ zk_St ex' s' va' ca' ka' σ' ∧ zk_V ex' va' ca' ka' σ'.2.2.2 σ'.2.2.1 v u
theorem zk_tab : zm_J N d 36 0 [(0, .ref 6)] [] (zk_H R ex sl s r el f g df) (fun z G' => z = .inl none ∧ G' = (zk_H R ex sl (zu (zu (zu s 11 0) 12 0) 13 0) r el f g df)) := by
  refine zm_J_run zm_T 9 (pc' := 15) (lv' := [(0, .ref 6)]) (st' := []) (G' := (zk_H R ex sl (zu (zu (zu s 11 0) 12 0) 13 0) r el f g df)) rfl ?_
  exact zm_J_fin zm_T rfl rfl ⟨rfl, rfl⟩
theorem zk_ask (htt : zk_tt t f) (h5 : s 5 = nI t.length) (hd : 200 ≤ d) (hR1 : R 1 = zk_em) (hI : zk_I B S ex sl s el va ca ka q) (hBS : zk_BS (B + 42) (S + 212)) (hD : zk_D ex df D) (hDw : zv_wD D)
    (K0 : ¬ zv_rd [] 11 t = some [] → ∀ z G, zk_RY (B + 41) (S + 206) R r el f df va ca ka q ex s z G → Q z G)
    (K1 : zv_rd [] 11 t = some [] → ∀ z G, zk_AS B S R f g df ex (zv_E D 60 t [] [] ([], 0, 0, 0)) z G → Q z G) : zm_J N d 34 0 [(0, .ref 2)] [] (zk_H R ex sl s r el f g df) Q := by
  obtain ⟨d, rfl⟩ : ∃ e, d = e + 3 * 60 + 1 := ⟨d - 181, by omega⟩
  have hr := zk_I_r (hBS.le (by omega) (by omega)) hI
  refine zm_J_run zm_T 2 (pc' := 4) (lv' := [(0, .ref 2)]) (st' := [.ref 3]) (G' := (zk_H R ex sl s r el f g df)) rfl ?_
  refine zg_VT (a := 3) (av := []) (rest := []) (zm_T.1 34 4 _ rfl).1 zc_34_4 rfl (zm_out0 rfl) (Nat.le_of_ble_eq_true rfl) (Nat.le_of_ble_eq_true rfl) (zk_c hr) (zk_s hr) (zk_rda htt h5 (by omega) hI (hBS.le (by omega) (by omega)) (fun e1 ex1 sl1 s1 xa i1 x1 f1 h51 hX => ?_) (fun hno z G k => zk_k_ry k (K0 hno z G k)))
  have hr1 := zk_I_r (hBS.le (by omega) (by omega)) i1
  obtain ⟨k1, k2⟩ := zv_rd_ok _ _ _ e1
  have hn := zv_n_le _ _ _ k1
  have ht := htt.1
  have hI2 : zk_I (B + 41) (S + 206) ex1 sl1 (zu (zu (zu (zu (zu s1 11 0) 12 0) 13 0) 0 0) 4 0) el va ca ka q := zk_I_s rfl rfl rfl i1
  have hSt : zk_St ex1 (zu (zu (zu (zu (zu s1 11 0) 12 0) 13 0) 0 0) 4 0) va ca ka ([], 0, 0, 0) := ⟨⟨rfl, rfl, rfl, rfl⟩, ⟨Nat.zero_le _, Nat.zero_le _, Nat.zero_le _⟩, fun c x hx => by cases hx⟩
  have hw : zv_wS ([], 0, 0, 0) := fun x hx => by cases hx
  have hb : zv_b ([], 0, 0, 0) (zv_n t 1 + 0) (zv_n t 1 + 0) := ⟨by show 0 + (zv_n t 1 + 0) ≤ 40; omega, by show 0 + 0 + (zv_n t 1 + 0) ≤ 40; omega, by show 0 + 2 * 0 + 2 * (zv_n t 1 + 0) ≤ 80; omega, Nat.zero_le _⟩
  have hE : zv_wE 0 [] [] := ⟨fun c hc => (by cases hc), Nat.le_refl _, fun a ha => (by cases ha)⟩
  have hev := zk_ev (N := N) (r := .null) (f := f) (g := g) (df := df) (d := d) (R := R) (hBS.le (B := B + 41) (S := S + 206) (by omega) (by omega)) (by omega) hDw hR1 60 (Nat.le_refl _) t [] [] ([], 0, 0, 0) 0 ex1 sl1 _ el va ca ka q xa 12 .null hw k1 hE hb hI2 hSt (zk_D_up x1.de hD) hX rfl
  have K1 := K1 e1
  show zm_J N _ 34 7 [(0, .ref 2)] [.ref (xa + 37)] (zk_H R ex1 sl1 s1 r el f g df) _
  refine zm_J_run zm_T 6 (pc' := 17) (lv' := [(1, .ref (xa + 37)), (0, .ref 2)]) (st' := [.ref 6]) (G' := (zk_H R ex1 sl1 s1 .null el f g df)) rfl ?_
  refine zg_V (a := 6) (av := []) (rest := []) (v := none) (G2 := (zk_H R ex1 sl1 (zu (zu (zu s1 11 0) 12 0) 13 0) .null el f g df)) (zm_T.1 34 17 _ rfl).1 zc_34_17 rfl (Nat.le_of_ble_eq_true rfl) (Nat.le_of_ble_eq_true rfl) (zk_c hr1) (zk_s hr1) (zk_tab) ?_
  show zm_J N _ 34 20 [(1, .ref (xa + 37)), (0, .ref 2)] [] (zk_H R ex1 sl1 (zu (zu (zu s1 11 0) 12 0) 13 0) .null el f g df) _
  refine zm_J_run zm_T 11 (pc' := 35) (lv' := [(1, .ref (xa + 37)), (0, .ref 2)]) (st' := [.int 1, .null, .ref (xa + 37), .ref 2, .ref 2]) (G' := (zk_H R ex1 sl1 (zu (zu (zu (zu (zu s1 11 0) 12 0) 13 0) 0 0) 4 0) .null el f g df)) rfl ?_
  refine zg_VT (a := 2) (av := [.ref (xa + 37), .null, .int 1]) (rest := [.ref 2]) (zm_T.1 34 35 _ rfl).1 zc_34_35 rfl (zm_out0 rfl) (Nat.le_of_ble_eq_true rfl) (Nat.le_of_ble_eq_true rfl) (zk_c hr1) (zk_s hr1) (hev.mono (fun z G' k => ?_))
  generalize zv_E D 60 t [] [] ([], 0, 0, 0) = o at k K1
  obtain ⟨o1, σ'⟩ := o
  cases o1 with
  | inl e =>
    obtain ⟨ex2, sl2, s2, el2, va2, ca2, ka2, q2, p, rfl, rfl, j3, j4, j5⟩ := k
    exact K1 _ _ ⟨ex2, sl2, s2, el2, va2, ca2, ka2, q2, p, rfl, rfl, j3, x1.de.trans j4, (j5 5 (by decide) (by decide)).trans h51⟩
  | inr v =>
    obtain ⟨ex2, sl2, s2, el2, va2, ca2, ka2, q2, u, rfl, rfl, j3, j4, j5, j6, j7, j8, j9⟩ := k
    have K1 := K1 (.inl (some (.int v.1))) (zk_H R ex2 sl2 s2 (.ref u) el2 f g df) ⟨ex2, sl2, s2, el2, va2, ca2, ka2, q2, u, rfl, rfl, zk_I_le (by omega) (by omega) j3, x1.de.trans j4.2.1, (j7 5 (by decide) (by decide)).trans h51, j5, j6⟩
    show zm_J N _ 34 38 [(1, .ref (xa + 37)), (0, .ref 2)] [.ref u, .ref 2] (zk_H R ex2 sl2 s2 .null el2 f g df) _
    rcases j6 with ⟨c1, rfl⟩ | ⟨m, y, x, hh, tt, a, c1, c2, rfl, c4, c5⟩
    · refine zm_J_run zm_T 4 (pc' := 48) (lv' := [(1, .ref (xa + 37)), (0, .ref 2)]) (st' := [.int 1]) (G' := (zk_H R ex2 sl2 s2 (.ref 7) el2 f g df)) rfl ?_
      exact zm_J_fin zm_T rfl rfl (by rw [c1] at K1; exact K1)
    · refine zm_J_run zm_T 3 (pc' := 45) (lv' := [(1, .ref (xa + 37)), (0, .ref 2)]) (st' := [.ref (y + 37)]) (G' := (zk_H R ex2 sl2 s2 (.ref (y + 37)) el2 f g df)) rfl ?_
      refine zg_gf (fs := [.int v.1, x, hh, tt, a]) rfl (zk_at c4) rfl ?_
      exact zm_J_fin zm_T rfl rfl K1
theorem zk_mbn2 (hB : zk_BS B S) (h : zk_I B S ex sl s el va ca ka q) (hd : 7 ≤ d) {nv na : Nat} {v : zv_V} {u : Nat} (hV : zk_V ex va ca ka nv na v u) (K0 : v.1 = 0 → Q (.inl (some (.int v.2.1))) (zk_H R ex sl s r el f g df)) (K1 : ¬ v.1 = 0 → ∀ p, zk_I (B + 1) (S + 6) (zk_ap ex (Sum.inr (zm_cl.length, []) : zm_E)) (sl + 6) s el va ca ka q → Q (.inr (3, p)) (zk_H R (zk_ap ex (Sum.inr (zm_cl.length, []) : zm_E)) (sl + 6) s r el f g df)) : zm_J N d 57 0 [(0, .ref u)] [] (zk_H R ex sl s r el f g df) Q := by
  rcases hV with ⟨h1, rfl⟩ | ⟨m, y, x, hh, t, a, e1, e2, rfl, e4, e5⟩
  · refine zm_J_run zm_T 3 (pc' := 7) (lv' := [(0, .ref 7)]) (st' := []) (G' := (zk_H R ex sl s r el f g df)) rfl ?_
    exact zk_throw2 hB h zx_57_7 (by omega) (by decide) (K1 (by rw [h1]; decide))
  · by_cases h0 : v.1 = 0
    · have hx : x = .int v.2.1 := by
        rcases e5 with z | z | z
        · exact z.2
        · exact absurd (h0.symm.trans z.1) (by decide)
        · exact absurd (h0.symm.trans z.1) (by decide)
      subst hx
      refine zm_J_run zm_T 1 (pc' := 1) (lv' := [(0, .ref (y + 37))]) (st' := [.ref (y + 37)]) (G' := (zk_H R ex sl s r el f g df)) rfl ?_
      refine zg_gf (fs := [.int v.1, .int v.2.1, hh, t, a]) rfl (zk_at e4) rfl ?_
      refine zm_J_run zm_T 1 (pc' := if v.1 = 0 then 18 else 7) (lv' := [(0, .ref (y + 37))]) (st' := []) (G' := (zk_H R ex sl s r el f g df)) rfl ?_
      rw [if_pos (show v.1 = 0 from h0)]
      refine zm_J_run zm_T 1 (pc' := 19) (lv' := [(0, .ref (y + 37))]) (st' := [.ref (y + 37)]) (G' := (zk_H R ex sl s r el f g df)) rfl ?_
      refine zg_gf (fs := [.int v.1, .int v.2.1, hh, t, a]) rfl (zk_at e4) rfl ?_
      exact zm_J_fin zm_T rfl rfl (K0 h0)
    · refine zm_J_run zm_T 1 (pc' := 1) (lv' := [(0, .ref (y + 37))]) (st' := [.ref (y + 37)]) (G' := (zk_H R ex sl s r el f g df)) rfl ?_
      refine zg_gf (fs := [.int v.1, x, hh, t, a]) rfl (zk_at e4) rfl ?_
      refine zm_J_run zm_T 1 (pc' := if v.1 = 0 then 18 else 7) (lv' := [(0, .ref (y + 37))]) (st' := []) (G' := (zk_H R ex sl s r el f g df)) rfl ?_
      rw [if_neg (show ¬ (v.1 = 0) from h0)]
      exact zk_throw2 hB h zx_57_7 (by omega) (by decide) (K1 h0)
theorem zk_num0 (hB : zk_BS B S) (h : zk_I B S ex sl s el va ca ka q) (hd : 7 ≤ d) (K : ∀ p, zk_I (B + 1) (S + 6) (zk_ap ex (Sum.inr (zm_cl.length, []) : zm_E)) (sl + 6) s el va ca ka q → Q (.inr (2, p)) (zk_H R (zk_ap ex (Sum.inr (zm_cl.length, []) : zm_E)) (sl + 6) s .null el f g df)) : zm_J N d 62 0 [(0, .ref 2)] [] (zk_H R ex sl s .null el f g df) Q := by
  refine zm_J_run zm_T 3 (pc' := 7) (lv' := [(0, .ref 2)]) (st' := []) (G' := (zk_H R ex sl s .null el f g df)) rfl ?_
  exact zk_throw2 hB h zx_62_7 (by omega) (by decide) K
theorem zk_num1 (hB : zk_BS B S) (h : zk_I B S ex sl s el va ca ka q) (hd : 8 ≤ d) {nv na : Nat} {v : zv_V} {u : Nat} (hV : zk_V ex va ca ka nv na v u) (K0 : v.1 = 0 → Q (.inl (some (.int v.2.1))) (zk_H R ex sl s (.ref u) el f g df)) (K1 : ¬ v.1 = 0 → ∀ p, zk_I (B + 1) (S + 6) (zk_ap ex (Sum.inr (zm_cl.length, []) : zm_E)) (sl + 6) s el va ca ka q → Q (.inr (3, p)) (zk_H R (zk_ap ex (Sum.inr (zm_cl.length, []) : zm_E)) (sl + 6) s (.ref u) el f g df)) : zm_J N d 62 0 [(0, .ref 2)] [] (zk_H R ex sl s (.ref u) el f g df) Q := by
  obtain ⟨d, rfl⟩ : ∃ e, d = e + 1 := ⟨d - 1, by omega⟩
  have hr := zk_I_r hB h
  refine zm_J_run zm_T 5 (pc' := 21) (lv' := [(0, .ref 2)]) (st' := [.ref u]) (G' := (zk_H R ex sl s (.ref u) el f g df)) rfl ?_
  refine zg_ST (av := [.ref u]) (rest := []) (zm_T.1 62 21 _ rfl).1 zc_62_21 (zm_out0 rfl) (Nat.le_of_ble_eq_true rfl) (Nat.le_of_ble_eq_true rfl) (zk_c hr) (zk_s hr) (zk_mbn2 hB h (by omega) hV (fun h0 => ?_) (fun h0 p k => K1 h0 p k))
  show zm_J N _ 62 24 [(0, .ref 2)] [.int v.2.1] (zk_H R ex sl s (.ref u) el f g df) _
  exact zm_J_fin zm_T rfl rfl (K0 h0)
theorem zk_trp0 (hB : zk_BS B S) (h : zk_I B S ex sl s el va ca ka q) (hd : 7 ≤ d) (K : ∀ z G, zk_ER B S R .null f g df ex s 2 z G → Q z G) : zm_J N d 65 0 [(0, .ref 2)] [] (zk_H R ex sl s .null el f g df) Q := by
  refine zm_J_run zm_T 8 (pc' := 14) (lv' := [(1, .null), (0, .ref 2)]) (st' := []) (G' := (zk_H R ex sl s .null el f g df)) rfl ?_
  exact zk_throw (e := 2) hB h zx_65_14 rfl (by omega) (by decide) K
theorem zk_trp1 (hB : zk_BS B S) (h : zk_I B S ex sl s el va ca ka q) (hd : 8 ≤ d) {nv na : Nat} {v : zv_V} {u : Nat} (hV : zk_V ex va ca ka nv na v u) (K0 : v.1 = 2 → Q (.inl (some (.ref u))) (zk_H R ex sl s .null el f g df)) (K1 : v.1 = 1 → ∀ z G, zk_ER B S R .null f g df ex s 2 z G → Q z G) (K2 : ¬ v.1 = 1 → ¬ v.1 = 2 → ∀ z G, zk_ER B S R .null f g df ex s 5 z G → Q z G) : zm_J N d 65 0 [(0, .ref 2)] [] (zk_H R ex sl s (.ref u) el f g df) Q := by
  obtain ⟨d, rfl⟩ : ∃ e, d = e + 1 := ⟨d - 1, by omega⟩
  have hr := zk_I_r hB h
  refine zm_J_run zm_T 9 (pc' := 25) (lv' := [(1, .ref u), (0, .ref 2)]) (st' := [.ref u]) (G' := (zk_H R ex sl s .null el f g df)) rfl ?_
  refine zg_ST (av := [.ref u]) (rest := []) (zm_T.1 65 25 _ rfl).1 zc_65_25 (zm_out0 rfl) (Nat.le_of_ble_eq_true rfl) (Nat.le_of_ble_eq_true rfl) (zk_c hr) (zk_s hr) (zk_mbp hB h (by omega) hV (fun h0 => ?_) (fun h1 z G e => zk_k_er e (K1 h1 z G e)) (fun h1 h2 z G e => zk_k_er e (K2 h1 h2 z G e)))
  show zm_J N _ 65 28 [(1, .ref u), (0, .ref 2)] [.ref u] (zk_H R ex sl s .null el f g df) _
  exact zm_J_fin zm_T rfl rfl (K0 h0)
/-- the RESULT of the class -/
def zk_res (ex : List zm_E) (s : Nat → Int32) (va ca ka : List Nat) (r : Value) (res : Option (zv_V × zv_S)) : Prop := (res = none → r = .null) ∧ ∀ v σ, res = some (v, σ) → ∃ u, r = .ref u ∧ zk_V ex va ca ka σ.2.2.2 σ.2.2.1 v u ∧ zk_St ex s va ca ka σ
theorem zk_head (hB : zk_BS B S) (h : zk_I B S ex sl s el va ca ka q) (hd : 200 ≤ d) (hR1 : R 1 = zk_em) (hD : zk_D ex df D) (hDw : zv_wD D) {res : Option (zv_V × zv_S)} (hw : zv_wR res) (hres : zk_res ex s va ca ka r res)
    (ke : ∀ e, zv_side D true res = .inl e → ∀ z G, zk_ER B S R .null f g df ex s e z G → Q z G)
    (kk : ∀ u' σ', zv_side D true res = .inr (u', σ') → ∀ ex' sl' s' el' va' ca' ka' q' ua, zk_I B S ex' sl' s' el' va' ca' ka' q' → zk_de ex ex' → zk_ts s s' → zk_St ex' s' va' ca' ka' σ' → (∀ v σ, res = some (v, σ) → zk_V ex' va' ca' ka' σ'.2.2.2 σ'.2.2.1 v ua) → Q (.inl (some (.int u'.2.1))) (zk_H R ex' sl' s' (.ref ua) el' f g df)) : zm_J N d 64 0 [(0, .ref 2)] [] (zk_H R ex sl s r el f g df) Q := by
  obtain ⟨d, rfl⟩ : ∃ e, d = e + 3 * 60 + 1 + 1 := ⟨d - 182, by omega⟩
  have hr := zk_I_r hB h
  cases res with
  | none =>
    have e0 := hres.1 rfl
    subst e0
    refine zm_J_run zm_T 1 (pc' := 1) (lv' := [(0, .ref 2)]) (st' := [.ref 2]) (G' := (zk_H R ex sl s .null el f g df)) rfl ?_
    refine zg_VT (a := 2) (av := []) (rest := []) (zm_T.1 64 1 _ rfl).1 zc_64_1 rfl (zm_out0 rfl) (Nat.le_of_ble_eq_true rfl) (Nat.le_of_ble_eq_true rfl) (zk_c hr) (zk_s hr) (zk_trp0 hB h (by omega) (fun z G e => zk_k_er e (ke 2 rfl z G e)))
  | some vs =>
    obtain ⟨v, σ⟩ := vs
    obtain ⟨u, rfl, hV, hSt⟩ := hres.2 v σ rfl
    obtain ⟨w1, w2, w3, w4⟩ := hw v σ rfl
    have hsd : zv_side D true (some (v, σ)) = if v.1 = 1 then .inl 2 else if v.1 = 2 then match zv_F (zv_E D 60) v.2.2.1 σ with
      | (.inl e, _) => .inl e
      | (.inr u, σ') => if true = true ∧ ¬ u.1 = 0 then .inl 5 else .inr (u, σ')
    else .inl 5 := rfl
    refine zm_J_run zm_T 1 (pc' := 1) (lv' := [(0, .ref 2)]) (st' := [.ref 2]) (G' := (zk_H R ex sl s (.ref u) el f g df)) rfl ?_
    refine zg_VT (a := 2) (av := []) (rest := []) (zm_T.1 64 1 _ rfl).1 zc_64_1 rfl (zm_out0 rfl) (Nat.le_of_ble_eq_true rfl) (Nat.le_of_ble_eq_true rfl) (zk_c hr) (zk_s hr) (zk_trp1 hB h (by omega) hV (fun h2 => ?_) (fun h1 z G e => zk_k_er e (ke 2 (hsd.trans (if_pos h1)) z G e)) (fun h1 h2 z G e => zk_k_er e (ke 5 (hsd.trans ((if_neg h1).trans (if_neg h2))) z G e)))
    have hsd := hsd.trans ((if_neg (fun z => absurd (z.symm.trans h2) (by decide))).trans (if_pos h2))
    have hV0 := hV
    rcases hV with ⟨e1, _⟩ | ⟨m, y, x, hh, t, a, e1, e2, rfl, e4, e5⟩
    · exact absurd (e1.symm.trans h2) (by decide)
    obtain ⟨⟨ph, k1, rfl⟩, pt, k2, rfl⟩ : (∃ p, ca[v.2.2.1]? = some p ∧ hh = .ref (p + 37)) ∧ ∃ p, ca[v.2.2.2.1]? = some p ∧ t = .ref (p + 37) := by
      rcases e5 with z | z | z
      · exact absurd (z.1.symm.trans h2) (by decide)
      · exact z.2
      · exact absurd (z.1.symm.trans h2) (by decide)
    have hev := zk_ev (N := N) (r := .null) (f := f) (g := g) (df := df) (d := d) (R := R) hB (by omega) hDw hR1 60 (Nat.le_refl _)
    have hfr := zk_frc (d' := d + 3 * 60 + 1) (sl := sl) (el := el) (q := q) hB (by omega) hDw (Nat.le_refl 60) hev w1 w3 (w2.1 h2).1 h hSt hD k1 (by omega)
    show zm_J N _ 64 4 [(0, .ref 2)] [.ref (y + 37)] (zk_H R ex sl s .null el f g df) _
    refine zm_J_run zm_T 3 (pc' := 7) (lv' := [(1, .ref (y + 37)), (0, .ref 2)]) (st' := [.ref (y + 37), .ref 2]) (G' := (zk_H R ex sl s .null el f g df)) rfl ?_
    refine zg_gf (fs := [.int v.1, x, .ref (ph + 37), .ref (pt + 37), a]) rfl (zk_at e4) rfl ?_
    refine zm_J_run zm_T 1 (pc' := 11) (lv' := [(1, .ref (y + 37)), (0, .ref 2)]) (st' := [.int 0, .ref (ph + 37), .ref 2]) (G' := (zk_H R ex sl s .null el f g df)) rfl ?_
    refine zg_VT (a := 2) (av := [.ref (ph + 37), .int 0]) (rest := []) (zm_T.1 64 11 _ rfl).1 zc_64_11 rfl (zm_out0 rfl) (Nat.le_of_ble_eq_true rfl) (Nat.le_of_ble_eq_true rfl) (zk_c hr) (zk_s hr) (hfr.mono (fun z G' k => ?_))
    generalize zv_F (zv_E D 60) v.2.2.1 σ = o at k hsd
    obtain ⟨o1, σ'⟩ := o
    cases o1 with
    | inl e => exact zk_k_er k (ke e hsd z G' k)
    | inr u' =>
      obtain ⟨ex', sl', s', el', va', ca', ka', q', u, rfl, rfl, j3, j4, j5, j6, j7, j8, j9⟩ := k
      have hr1 := zk_I_r hB j3
      dsimp only at hsd
      show zm_J N _ 64 14 [(1, .ref (y + 37)), (0, .ref 2)] [.ref u] (zk_H R ex' sl' s' .null el' f g df) _
      refine zg_ST (av := [.ref u]) (rest := []) (zm_T.1 64 14 _ rfl).1 zc_64_14 (zm_out0 rfl) (Nat.le_of_ble_eq_true rfl) (Nat.le_of_ble_eq_true rfl) (zk_c hr1) (zk_s hr1) (zk_mbn hB j3 (by omega) j6 (fun h0 => ?_) (fun h0 z G e => zk_k_er e (ke 5 (hsd.trans (if_pos ⟨rfl, h0⟩)) z G (zk_ER_tr j4.2.1 j7 e))))
      show zm_J N _ 64 17 [(1, .ref (y + 37)), (0, .ref 2)] [.int u'.2.1] (zk_H R ex' sl' s' .null el' f g df) _
      refine zm_J_run zm_T 5 (pc' := 24) (lv' := [(2, .int u'.2.1), (1, .ref (y + 37)), (0, .ref 2)]) (st' := [.int u'.2.1]) (G' := (zk_H R ex' sl' s' (.ref (y + 37)) el' f g df)) rfl ?_
      exact zm_J_fin zm_T rfl rfl (kk u' σ' (hsd.trans (if_neg (fun z => z.2 h0))) ex' sl' s' el' va' ca' ka' q' (y + 37) j3 j4.2.1 j7 j5 (fun v2 σ2 hv2 => by cases hv2; exact zk_V_up j4 j8 j9 hV0))
theorem zk_tail (hB : zk_BS B S) (h : zk_I B S ex sl s el va ca ka q) (hd : 200 ≤ d) (hR1 : R 1 = zk_em) (hD : zk_D ex df D) (hDw : zv_wD D) {res : Option (zv_V × zv_S)} (hw : zv_wR res) (hres : zk_res ex s va ca ka r res)
    (ke : ∀ e, zv_side D false res = .inl e → ∀ z G, zk_ER B S R .null f g df ex s e z G → Q z G)
    (kk : ∀ u' σ', zv_side D false res = .inr (u', σ') → ∀ ex' sl' s' el' va' ca' ka' q' ua, zk_I B S ex' sl' s' el' va' ca' ka' q' → zk_de ex ex' → zk_ts s s' → zk_St ex' s' va' ca' ka' σ' → (zk_V ex' va' ca' ka' σ'.2.2.2 σ'.2.2.1 u' ua) → Q (.inl (some (.int u'.1))) (zk_H R ex' sl' s' (.ref ua) el' f g df)) : zm_J N d 67 0 [(0, .ref 2)] [] (zk_H R ex sl s r el f g df) Q := by
  obtain ⟨d, rfl⟩ : ∃ e, d = e + 3 * 60 + 1 + 1 := ⟨d - 182, by omega⟩
  have hr := zk_I_r hB h
  cases res with
  | none =>
    have e0 := hres.1 rfl
    subst e0
    refine zm_J_run zm_T 1 (pc' := 1) (lv' := [(0, .ref 2)]) (st' := [.ref 2]) (G' := (zk_H R ex sl s .null el f g df)) rfl ?_
    refine zg_VT (a := 2) (av := []) (rest := []) (zm_T.1 67 1 _ rfl).1 zc_67_1 rfl (zm_out0 rfl) (Nat.le_of_ble_eq_true rfl) (Nat.le_of_ble_eq_true rfl) (zk_c hr) (zk_s hr) (zk_trp0 hB h (by omega) (fun z G e => zk_k_er e (ke 2 rfl z G e)))
  | some vs =>
    obtain ⟨v, σ⟩ := vs
    obtain ⟨u, rfl, hV, hSt⟩ := hres.2 v σ rfl
    obtain ⟨w1, w2, w3, w4⟩ := hw v σ rfl
    have hsd : zv_side D false (some (v, σ)) = if v.1 = 1 then .inl 2 else if v.1 = 2 then match zv_F (zv_E D 60) v.2.2.2.1 σ with
      | (.inl e, _) => .inl e
      | (.inr u, σ') => if false = true ∧ ¬ u.1 = 0 then .inl 5 else .inr (u, σ')
    else .inl 5 := rfl
    refine zm_J_run zm_T 1 (pc' := 1) (lv' := [(0, .ref 2)]) (st' := [.ref 2]) (G' := (zk_H R ex sl s (.ref u) el f g df)) rfl ?_
    refine zg_VT (a := 2) (av := []) (rest := []) (zm_T.1 67 1 _ rfl).1 zc_67_1 rfl (zm_out0 rfl) (Nat.le_of_ble_eq_true rfl) (Nat.le_of_ble_eq_true rfl) (zk_c hr) (zk_s hr) (zk_trp1 hB h (by omega) hV (fun h2 => ?_) (fun h1 z G e => zk_k_er e (ke 2 (hsd.trans (if_pos h1)) z G e)) (fun h1 h2 z G e => zk_k_er e (ke 5 (hsd.trans ((if_neg h1).trans (if_neg h2))) z G e)))
    have hsd := hsd.trans ((if_neg (fun z => absurd (z.symm.trans h2) (by decide))).trans (if_pos h2))
    have hV0 := hV
    rcases hV with ⟨e1, _⟩ | ⟨m, y, x, hh, t, a, e1, e2, rfl, e4, e5⟩
    · exact absurd (e1.symm.trans h2) (by decide)
    obtain ⟨⟨ph, k1, rfl⟩, pt, k2, rfl⟩ : (∃ p, ca[v.2.2.1]? = some p ∧ hh = .ref (p + 37)) ∧ ∃ p, ca[v.2.2.2.1]? = some p ∧ t = .ref (p + 37) := by
      rcases e5 with z | z | z
      · exact absurd (z.1.symm.trans h2) (by decide)
      · exact z.2
      · exact absurd (z.1.symm.trans h2) (by decide)
    have hev := zk_ev (N := N) (r := .null) (f := f) (g := g) (df := df) (d := d) (R := R) hB (by omega) hDw hR1 60 (Nat.le_refl _)
    have hfr := zk_frc (d' := d + 3 * 60 + 1) (sl := sl) (el := el) (q := q) hB (by omega) hDw (Nat.le_refl 60) hev w1 w3 (w2.1 h2).2 h hSt hD k2 (by omega)
    show zm_J N _ 67 4 [(0, .ref 2)] [.ref (y + 37)] (zk_H R ex sl s .null el f g df) _
    refine zm_J_run zm_T 4 (pc' := 8) (lv' := [(1, .ref (y + 37)), (0, .ref 2)]) (st' := [.ref (y + 37), .ref 2, .ref 2]) (G' := (zk_H R ex sl s .null el f g df)) rfl ?_
    refine zg_gf (fs := [.int v.1, x, .ref (ph + 37), .ref (pt + 37), a]) rfl (zk_at e4) rfl ?_
    refine zm_J_run zm_T 1 (pc' := 12) (lv' := [(1, .ref (y + 37)), (0, .ref 2)]) (st' := [.int 0, .ref (pt + 37), .ref 2, .ref 2]) (G' := (zk_H R ex sl s .null el f g df)) rfl ?_
    refine zg_VT (a := 2) (av := [.ref (pt + 37), .int 0]) (rest := [.ref 2]) (zm_T.1 67 12 _ rfl).1 zc_67_12 rfl (zm_out0 rfl) (Nat.le_of_ble_eq_true rfl) (Nat.le_of_ble_eq_true rfl) (zk_c hr) (zk_s hr) (hfr.mono (fun z G' k => ?_))
    generalize zv_F (zv_E D 60) v.2.2.2.1 σ = o at k hsd
    obtain ⟨o1, σ'⟩ := o
    cases o1 with
    | inl e => exact zk_k_er k (ke e hsd z G' k)
    | inr u' =>
      obtain ⟨ex', sl', s', el', va', ca', ka', q', u, rfl, rfl, j3, j4, j5, j6, j7, j8, j9⟩ := k
      have hr1 := zk_I_r hB j3
      dsimp only at hsd
      have kk := kk u' σ' (hsd.trans (if_neg (fun z => absurd z.1 (by decide)))) ex' sl' s' el' va' ca' ka' q' u j3 j4.2.1 j7 j5 j6
      show zm_J N _ 67 15 [(1, .ref (y + 37)), (0, .ref 2)] [.ref u, .ref 2] (zk_H R ex' sl' s' .null el' f g df) _
      rcases j6 with ⟨c1, rfl⟩ | ⟨m2, y2, x2, hh2, tt2, a2, c1, c2, rfl, c4, c5⟩
      · refine zm_J_run zm_T 4 (pc' := 25) (lv' := [(1, .ref (y + 37)), (0, .ref 2)]) (st' := [.int 1]) (G' := (zk_H R ex' sl' s' (.ref 7) el' f g df)) rfl ?_
        exact zm_J_fin zm_T rfl rfl (by rw [c1] at kk; exact kk)
      · refine zm_J_run zm_T 3 (pc' := 22) (lv' := [(1, .ref (y + 37)), (0, .ref 2)]) (st' := [.ref (y2 + 37)]) (G' := (zk_H R ex' sl' s' (.ref (y2 + 37)) el' f g df)) rfl ?_
        refine zg_gf (fs := [(.int u'.1), x2, hh2, tt2, a2]) rfl (zk_at c4) rfl ?_
        show zm_J N _ 67 25 [(1, .ref (y + 37)), (0, .ref 2)] [.int u'.1] (zk_H R ex' sl' s' (.ref (y2 + 37)) el' f g df) _
        exact zm_J_fin zm_T rfl rfl kk
theorem zk_dfo2 (hB : zk_BS B S) (h : zk_I B S ex sl s el va ca ka q) (hd : 7 ≤ d) {k : Nat} (hk : k < 6) (hdf : df k = none) (K : ∀ p, zk_I (B + 1) (S + 6) (zk_ap ex (Sum.inr (zm_cl.length, []) : zm_E)) (sl + 6) s el va ca ka q → Q (.inr (2, p)) (zk_H R (zk_ap ex (Sum.inr (zm_cl.length, []) : zm_E)) (sl + 6) s r el f g df)) : zm_J N d 44 0 [(0, .ref 2), (1, .int (nI k))] [] (zk_H R ex sl s r el f g df) Q := by
  refine zm_J_run zm_T 3 (pc' := 5) (lv' := [(0, .ref 2), (1, .int (nI k))]) (st' := [.int (nI k), .ref 11]) (G' := (zk_H R ex sl s r el f g df)) rfl ?_
  refine zg_aald (t := 4) (n := 6) (f := df) (m := k) rfl rfl rfl rfl hk (by decide) ?_
  rw [hdf]
  show zm_J N _ 44 6 [(0, .ref 2), (1, .int (nI k))] [.null] (zk_H R ex sl s r el f g df) _
  refine zm_J_run zm_T 3 (pc' := 11) (lv' := [(2, .null), (0, .ref 2), (1, .int (nI k))]) (st' := []) (G' := (zk_H R ex sl s r el f g df)) rfl ?_
  exact zk_throw2 hB h zx_44_11 (by omega) (by decide) K
theorem zk_rem1 (hB : zk_BS B S) (h : zk_I B S ex sl s el va ca ka q) (hd : 7 ≤ d) {x : Int32} (hx : ¬ (0 ≤ x ∧ x ≤ 5)) (K : ∀ p, zk_I (B + 1) (S + 6) (zk_ap ex (Sum.inr (zm_cl.length, []) : zm_E)) (sl + 6) s el va ca ka q → Q (.inr (0, p)) (zk_H R (zk_ap ex (Sum.inr (zm_cl.length, []) : zm_E)) (sl + 6) s r el f g df)) : zm_J N d 69 0 [(0, .ref 2), (1, .int x)] [] (zk_H R ex sl s r el f g df) Q := by
  by_cases h1 : x < 0
  · refine zm_J_run zm_T 2 (pc' := if x < 0 then 10 else 4) (lv' := [(0, .ref 2), (1, .int x)]) (st' := []) (G' := (zk_H R ex sl s r el f g df)) rfl ?_
    rw [if_pos (show x < 0 from h1)]
    exact zk_throw2 hB h zx_69_10 (by omega) (by decide) K
  have h2 : ¬ x < 6 := fun z => hx ⟨Int32.not_lt.mp h1, by
    rw [Int32.lt_iff_toInt_lt] at z
    rw [Int32.le_iff_toInt_le]
    have e1 : (6 : Int32).toInt = 6 := by decide
    have e2 : (5 : Int32).toInt = 5 := by decide
    omega⟩
  refine zm_J_run zm_T 2 (pc' := if x < 0 then 10 else 4) (lv' := [(0, .ref 2), (1, .int x)]) (st' := []) (G' := (zk_H R ex sl s r el f g df)) rfl ?_
  rw [if_neg (show ¬ (x < 0) from h1)]
  refine zm_J_run zm_T 3 (pc' := if x < 6 then 20 else 10) (lv' := [(0, .ref 2), (1, .int x)]) (st' := []) (G' := (zk_H R ex sl s r el f g df)) rfl ?_
  rw [if_neg (show ¬ (x < 6) from h2)]
  exact zk_throw2 hB h zx_69_10 (by omega) (by decide) K
theorem zk_rem2 (hB : zk_BS B S) (h : zk_I B S ex sl s el va ca ka q) (hd : 8 ≤ d) {k : Nat} (hk : k < 6) (hdf : df k = none) (K : ∀ p, zk_I (B + 1) (S + 6) (zk_ap ex (Sum.inr (zm_cl.length, []) : zm_E)) (sl + 6) s el va ca ka q → Q (.inr (2, p)) (zk_H R (zk_ap ex (Sum.inr (zm_cl.length, []) : zm_E)) (sl + 6) s r el f g df)) : zm_J N d 69 0 [(0, .ref 2), (1, .int (nI k))] [] (zk_H R ex sl s r el f g df) Q := by
  obtain ⟨d, rfl⟩ : ∃ e, d = e + 1 := ⟨d - 1, by omega⟩
  have hr := zk_I_r hB h
  refine zm_J_run zm_T 2 (pc' := if (nI k) < 0 then 10 else 4) (lv' := [(0, .ref 2), (1, .int (nI k))]) (st' := []) (G' := (zk_H R ex sl s r el f g df)) rfl ?_
  rw [if_neg (show ¬ ((nI k) < 0) from nI_pos (by omega))]
  refine zm_J_run zm_T 3 (pc' := if (nI k) < 6 then 20 else 10) (lv' := [(0, .ref 2), (1, .int (nI k))]) (st' := []) (G' := (zk_H R ex sl s r el f g df)) rfl ?_
  rw [if_pos (show (nI k) < 6 from nI_lt (b := 6) hk (by decide))]
  refine zm_J_run zm_T 2 (pc' := 22) (lv' := [(0, .ref 2), (1, .int (nI k))]) (st' := [.int (nI k), .ref 2]) (G' := (zk_H R ex sl s r el f g df)) rfl ?_
  refine zg_VT (a := 2) (av := [.int (nI k)]) (rest := []) (zm_T.1 69 22 _ rfl).1 zc_69_22 rfl (zm_out0 rfl) (Nat.le_of_ble_eq_true rfl) (Nat.le_of_ble_eq_true rfl) (zk_c hr) (zk_s hr) (zk_dfo2 hB h (by omega) hk hdf (fun p k => K p k))
theorem zk_rem0 (hB : zk_BS B S) (h : zk_I B S ex sl s el va ca ka q) (hd : 8 ≤ d) {k y : Nat} (hk : k < 6) (hdf : df k = some y) (K : Q (.inl none) (zk_H R ex sl s r el f g (va_up df k none))) : zm_J N d 69 0 [(0, .ref 2), (1, .int (nI k))] [] (zk_H R ex sl s r el f g df) Q := by
  obtain ⟨d, rfl⟩ : ∃ e, d = e + 1 := ⟨d - 1, by omega⟩
  have hr := zk_I_r hB h
  refine zm_J_run zm_T 2 (pc' := if (nI k) < 0 then 10 else 4) (lv' := [(0, .ref 2), (1, .int (nI k))]) (st' := []) (G' := (zk_H R ex sl s r el f g df)) rfl ?_
  rw [if_neg (show ¬ ((nI k) < 0) from nI_pos (by omega))]
  refine zm_J_run zm_T 3 (pc' := if (nI k) < 6 then 20 else 10) (lv' := [(0, .ref 2), (1, .int (nI k))]) (st' := []) (G' := (zk_H R ex sl s r el f g df)) rfl ?_
  rw [if_pos (show (nI k) < 6 from nI_lt (b := 6) hk (by decide))]
  refine zm_J_run zm_T 2 (pc' := 22) (lv' := [(0, .ref 2), (1, .int (nI k))]) (st' := [.int (nI k), .ref 2]) (G' := (zk_H R ex sl s r el f g df)) rfl ?_
  refine zg_VK (a := 2) (av := [.int (nI k)]) (rest := []) (zm_T.1 69 22 _ rfl).1 zc_69_22 rfl (Nat.le_of_ble_eq_true rfl) (Nat.le_of_ble_eq_true rfl) (zk_c hr) (zk_s hr) (zk_dfo1 hk hdf ⟨_, rfl, ?_⟩)
  show zm_J N _ 69 25 [(0, .ref 2), (1, .int (nI k))] [.ref y] (zk_H R ex sl s r el f g df) _
  refine zm_J_run zm_T 5 (pc' := 32) (lv' := [(0, .ref 2), (1, .int (nI k))]) (st' := [.null, .int (nI k), .ref 11]) (G' := (zk_H R ex sl s r el f g df)) rfl ?_
  refine zg_aastn (t := 4) (n := 6) (f := df) (m := k) (G' := (zk_H R ex sl s r el f g (va_up df k none))) rfl rfl rfl (by decide) rfl hk (by decide) rfl ?_
  exact zm_J_fin zm_T rfl rfl K
end ZKQ

/-! BOTH SIDES IN ONE HEAP: cells 0, 1, 36 belong to neither. -/
def zj_B (L : Nat) (xs : Nat → Int32) (o : Nat → Int64) : Nat → zm_E := fun k => cond (Nat.beq k 0) (.inl (0, L, .inl xs)) (cond (Nat.beq k 36) (.inl (2, 1, .inr (.inl o))) zk_em)
def zj_R (L : Nat) (xs : Nat → Int32) (o : Nat → Int64) (sr : Nat → Int32) (a : Nat → Nat → Int32) : Nat → zm_E := fun k => (zr_H (zj_B L xs o) [] 0 sr a).1.getD k zk_em
def zj_C (L : Nat) (xs : Nat → Int32) (o : Nat → Int64) (s : Nat → Int32) (r : Value) (el : Nat → Nat) (f g : Nat → Int32) (df : Nat → Option Nat) : Nat → zm_E := fun k => (zk_H (zj_B L xs o) [] 0 s r el f g df).1.getD k zk_em
theorem zj_eq (L : Nat) (xs : Nat → Int32) (o : Nat → Int64) (sr : Nat → Int32) (a : Nat → Nat → Int32) (ex : List zm_E) (sl : Nat) (s : Nat → Int32) (r : Value) (el : Nat → Nat) (f g : Nat → Int32) (df : Nat → Option Nat) : zk_H (zj_R L xs o sr a) ex sl s r el f g df = zr_H (zj_C L xs o s r el f g df) ex sl sr a := rfl
theorem zj_o (o : Nat → Int64) (v : Int64) : vp_updL o 0 v 0 = v := if_pos rfl
theorem zt_cmp (x : Int64) : lg_cmp x x = 0 := by
  unfold lg_cmp
  simp
/-- text, DEFINITIONS, RESULT -/
abbrev zj_T : Type := List Int32 × zv_D × Option (zv_V × zv_S)
/-- what is thrown, the answer, what stands behind it -/
abbrev zj_A : Type := Int32 × Int32 × zj_T
def zj_W (x : zj_T) : Prop := zv_wD x.2.1 ∧ zv_wR x.2.2
def zj_K (B S : Nat) (x : zj_T) (ex : List zm_E) (sl : Nat) (s : Nat → Int32) (r : Value) (el : Nat → Nat) (f : Nat → Int32) (df : Nat → Option Nat) : Prop := ∃ (va ca ka : List Nat) (q : Nat × Nat × Nat), zk_tt x.1 f ∧ s 5 = nI x.1.length ∧ zk_I B S ex sl s el va ca ka q ∧ zk_D ex df x.2.1 ∧ zk_res ex s va ca ka r x.2.2
def zj_F (P : Nat) (x : zj_T) (sr : Nat → Int32) (a : Nat → Nat → Int32) : Prop := zr_tt sr a x.1 ∧ sr 11 = nI P ∧ zr_def P a x.2.1 ∧ zr_res P x.2.2 sr a
def zj_tR (p : Int64) (x : zj_T) (y : zj_A) : Prop := (zt_B p 8 ∧ y = (1, 0, x)) ∨ (¬ zt_B p 8 ∧ 40 < x.1.length + zt_n p 8 ∧ y = (2, 0, x)) ∨ (¬ zt_B p 8 ∧ x.1.length + zt_n p 8 ≤ 40 ∧ y = (0, nI (x.1.length + zt_n p 8), x.1 ++ zt_bs p 8, x.2))
def zj_dR (x : zj_T) (y : zj_A) : Prop := (zv_df x.1 = none ∧ y = (1, 0, [], x.2)) ∨ ∃ (m : Int32) (L b : List Int32), zv_df x.1 = some (m, L, b) ∧ y = (0, nI L.length, [], zv_up x.2.1 m.toNatClampNeg (some (L, b)), x.2.2)
def zj_aR (x : zj_T) (y : zj_A) : Prop := (¬ zv_rd [] 11 x.1 = some [] ∧ y = (1, 0, [], x.2)) ∨ (zv_rd [] 11 x.1 = some [] ∧ ((∃ (e : Nat) (σ : zv_S), zv_E x.2.1 60 x.1 [] [] ([], 0, 0, 0) = (.inl e, σ) ∧ y = (nI e, 0, [], x.2.1, none)) ∨ ∃ (v : zv_V) (σ : zv_S), zv_E x.2.1 60 x.1 [] [] ([], 0, 0, 0) = (.inr v, σ) ∧ y = (0, v.1, [], x.2.1, some (v, σ))))
def zj_nR (x : zj_T) (y : zj_A) : Prop := (x.2.2 = none ∧ y = (1, 0, x)) ∨ ∃ (v : zv_V) (σ : zv_S), x.2.2 = some (v, σ) ∧ ((v.1 = 0 ∧ y = (0, v.2.1, x)) ∨ (¬ v.1 = 0 ∧ y = (2, 0, x)))
def zj_hR (x : zj_T) (y : zj_A) : Prop := (∃ e : Nat, zv_side x.2.1 true x.2.2 = .inl e ∧ y = (nI (e - 1), 0, x.1, x.2.1, none)) ∨ ∃ (u : zv_V) (σ' : zv_S) (v : zv_V) (σ : zv_S), zv_side x.2.1 true x.2.2 = .inr (u, σ') ∧ x.2.2 = some (v, σ) ∧ y = (0, u.2.1, x.1, x.2.1, some (v, σ'))
def zj_lR (x : zj_T) (y : zj_A) : Prop := (∃ e : Nat, zv_side x.2.1 false x.2.2 = .inl e ∧ y = (nI (e - 1), 0, x.1, x.2.1, none)) ∨ ∃ (u : zv_V) (σ' : zv_S), zv_side x.2.1 false x.2.2 = .inr (u, σ') ∧ y = (0, u.1, x.1, x.2.1, some (u, σ'))
def zj_mR (k : Int32) (x : zj_T) (y : zj_A) : Prop := (¬ (0 ≤ k ∧ k ≤ 5) ∧ y = (1, 0, x)) ∨ ∃ n : Nat, n < 6 ∧ k = nI n ∧ ((x.2.1 n = none ∧ y = (2, 0, x)) ∨ ∃ z : List Int32 × List Int32, x.2.1 n = some z ∧ y = (0, 0, x.1, zv_up x.2.1 n none, x.2.2))
/-! what stays well formed -/
theorem zj_tW {p : Int64} {x : zj_T} {y : zj_A} (h : zj_W x) (hy : zj_tR p x y) : zj_W y.2.2 := by
  rcases hy with ⟨_, rfl⟩ | ⟨_, _, rfl⟩ | ⟨_, _, rfl⟩ <;> exact h
theorem zj_dW {x : zj_T} {y : zj_A} (h : zj_W x) (ht : x.1.length ≤ 40) (hy : zj_dR x y) : zj_W y.2.2 := by
  rcases hy with ⟨_, rfl⟩ | ⟨m, L, b, e, rfl⟩
  · exact h
  · exact ⟨zv_wD_up h.1 _ (fun L' b' z => by cases z; exact (zv_df_w ht e).1), h.2⟩
theorem zj_aW {x : zj_T} {y : zj_A} (h : zj_W x) (ht : x.1.length ≤ 40) (hy : zj_aR x y) : zj_W y.2.2 := by
  rcases hy with ⟨_, rfl⟩ | ⟨h1, ⟨e, σ, _, rfl⟩ | ⟨v, σ, h2, rfl⟩⟩
  · exact h
  · exact ⟨h.1, fun v σ z => by cases z⟩
  · exact ⟨h.1, zv_ask_w h.1 ht h1 h2⟩
theorem zj_nW {x : zj_T} {y : zj_A} (h : zj_W x) (hy : zj_nR x y) : zj_W y.2.2 := by
  rcases hy with ⟨_, rfl⟩ | ⟨v, σ, _, ⟨_, rfl⟩ | ⟨_, rfl⟩⟩ <;> exact h
theorem zj_hW {x : zj_T} {y : zj_A} (h : zj_W x) (hy : zj_hR x y) : zj_W y.2.2 := by
  rcases hy with ⟨e, _, rfl⟩ | ⟨u, σ', v, σ, h1, h2, rfl⟩
  · exact ⟨h.1, fun v σ z => by cases z⟩
  · obtain ⟨_, v2, σ2, e2, h3⟩ := zv_side_w h.1 h.2 h1
    cases h2.symm.trans e2
    exact ⟨h.1, h3⟩
theorem zj_lW {x : zj_T} {y : zj_A} (h : zj_W x) (hy : zj_lR x y) : zj_W y.2.2 := by
  rcases hy with ⟨e, _, rfl⟩ | ⟨u, σ', h1, rfl⟩
  · exact ⟨h.1, fun v σ z => by cases z⟩
  · exact ⟨h.1, (zv_side_w h.1 h.2 h1).1⟩
theorem zj_mW {k : Int32} {x : zj_T} {y : zj_A} (h : zj_W x) (hy : zj_mR k x y) : zj_W y.2.2 := by
  rcases hy with ⟨_, rfl⟩ | ⟨n, _, _, ⟨_, rfl⟩ | ⟨z, _, rfl⟩⟩
  · exact h
  · exact h
  · exact ⟨zv_wD_up h.1 _ (fun L b z => by cases z), h.2⟩
/-! the law's own methods around the class's: what is thrown becomes a number, an answer goes into the array -/
def zj_ho (tab : Nat → Option Int32) (Q : zm_O → zm_H → Prop) (z : zm_O) (G : zm_H) : Prop := match z with
  | .inl (some (.int v)) => ∃ (L : Nat) (xs : Nat → Int32) (o : Nat → Int64) (sr : Nat → Int32) (a : Nat → Nat → Int32) (ex : List zm_E) (sl : Nat) (s : Nat → Int32) (r : Value) (el : Nat → Nat) (f g : Nat → Int32) (df : Nat → Option Nat), G = zk_H (zj_R L xs o sr a) ex sl s r el f g df ∧ Q (.inl (some (.int 0))) (zk_H (zj_R L xs (vp_updL o 0 v.toInt64) sr a) ex sl s r el f g df)
  | .inr x => ∃ c, tab x.1 = some c ∧ Q (.inl (some (.int c))) G
  | _ => False
def zj_hq (tab : Nat → Option Int32) (Q : zm_O → zm_H → Prop) (z : zm_O) (G : zm_H) : Prop := match z with
  | .inl none => Q (.inl (some (.int 0))) G
  | .inr x => ∃ c, tab x.1 = some c ∧ Q (.inl (some (.int c))) G
  | _ => False
section ZJH
variable {tab : Nat → Option Int32} {L : Nat} {xs : Nat → Int32} {o : Nat → Int64} {sr : Nat → Int32} {a : Nat → Nat → Int32} {ex : List zm_E} {sl : Nat} {s : Nat → Int32} {r : Value} {el : Nat → Nat} {f g : Nat → Int32} {df : Nat → Option Nat} {N : zm_N} {d : Nat} {Q : zm_O → zm_H → Prop} {G : zm_H}
theorem zj_ho_ok {v : Int32} (h : Q (.inl (some (.int 0))) (zk_H (zj_R L xs (vp_updL o 0 v.toInt64) sr a) ex sl s r el f g df)) : zj_ho tab Q (.inl (some (.int v))) (zk_H (zj_R L xs o sr a) ex sl s r el f g df) := by
  show ∃ _, _
  exact ⟨L, xs, o, sr, a, ex, sl, s, r, el, f, g, df, rfl, h⟩
theorem zj_ho_er {k x : Nat} {c : Int32} (h : tab k = some c) (hq : Q (.inl (some (.int c))) G) : zj_ho tab Q (.inr (k, x)) G := by
  show ∃ _, _
  exact ⟨c, h, hq⟩
theorem zj_hq_er {k x : Nat} {c : Int32} (h : tab k = some c) (hq : Q (.inl (some (.int c))) G) : zj_hq tab Q (.inr (k, x)) G := by
  show ∃ _, _
  exact ⟨c, h, hq⟩
def zj_t11 (k : Nat) : Option Int32 := match k with
  | 0 => some 1
  | 1 => some 2
  | _ => none
theorem zj_h11 {p : Int64} {fs : List Value} (hc : G.1.length ≤ zm_C) (hs : G.2 ≤ zm_S) (h2 : G.1[2]? = some (.inr (0, fs))) (hJ : zm_J N d 12 0 [(0, .ref 2), (1, .long p)] [] G (zj_ho zj_t11 Q)) : zm_J N (d + 1) 11 0 [(0, .ref 2), (1, .long p), (3, .ref 36)] [] G Q := by
  refine zm_J_run zm_T 4 (pc' := 4) (lv' := [(0, .ref 2), (1, .long p), (3, .ref 36)]) (st' := [.long p, .ref 2, .int 0, .ref 36]) (G' := G) rfl ?_
  refine zm_J_V (a := 2) (av := [.long p]) (rest := [.int 0, .ref 36]) (zm_T.1 11 4 _ rfl).1 zc_11_4 h2 (Nat.le_of_ble_eq_true rfl) (Nat.le_of_ble_eq_true rfl) hc hs hJ (fun w G' h => ?_) (fun x G' h => ?_)
  · cases w with
    | none => exact False.elim h
    | some w =>
      cases w with
      | int v =>
        obtain ⟨L, xs, o, sr, a, ex, sl, s, r, el, f, g, df, rfl, hq⟩ := (show ∃ (L : Nat) (xs : Nat → Int32) (o : Nat → Int64) (sr : Nat → Int32) (a : Nat → Nat → Int32) (ex : List zm_E) (sl : Nat) (s : Nat → Int32) (r : Value) (el : Nat → Nat) (f g : Nat → Int32) (df : Nat → Option Nat), G' = zk_H (zj_R L xs o sr a) ex sl s r el f g df ∧ Q (.inl (some (.int 0))) (zk_H (zj_R L xs (vp_updL o 0 v.toInt64) sr a) ex sl s r el f g df) from h)
        refine zm_J_run zm_T 3 (pc' := 20) (lv' := [(0, .ref 2), (1, .long p), (3, .ref 36)]) (st' := []) (G' := zk_H (zj_R L xs (vp_updL o 0 v.toInt64) sr a) ex sl s r el f g df) rfl ?_
        refine zm_J_run zm_T 1 (pc' := 21) (lv' := [(0, .ref 2), (1, .long p), (3, .ref 36)]) (st' := [.int 0]) (G' := zk_H (zj_R L xs (vp_updL o 0 v.toInt64) sr a) ex sl s r el f g df) rfl ?_
        exact zm_J_fin zm_T rfl rfl hq
      | _ => exact False.elim h
  · obtain ⟨c, h1, h2⟩ := (show ∃ c, zj_t11 x.1 = some c ∧ Q (.inl (some (.int c))) G' from h)
    obtain ⟨kx, p'⟩ := x
    match kx, h1 with
    | 0, h1 =>
      cases Option.some.inj (show some (1 : Int32) = some c from h1)
      refine Or.inr ⟨12, zt_11_0, ?_⟩
      refine zm_J_run zm_T 2 (pc' := 15) (lv' := (4, .ref p') :: [(0, .ref 2), (1, .long p), (3, .ref 36)]) (st' := [.int 1]) (G' := G') rfl ?_
      exact zm_J_fin zm_T rfl rfl h2
    | 1, h1 =>
      cases Option.some.inj (show some (2 : Int32) = some c from h1)
      refine Or.inr ⟨16, zt_11_1, ?_⟩
      refine zm_J_run zm_T 2 (pc' := 19) (lv' := (4, .ref p') :: [(0, .ref 2), (1, .long p), (3, .ref 36)]) (st' := [.int 2]) (G' := G') rfl ?_
      exact zm_J_fin zm_T rfl rfl h2
    | 2, h1 => cases (show (none : Option Int32) = some c from h1)
    | 3, h1 => cases (show (none : Option Int32) = some c from h1)
    | 4, h1 => cases (show (none : Option Int32) = some c from h1)
    | n + 5, h1 => cases (show (none : Option Int32) = some c from h1)
def zj_t15 (k : Nat) : Option Int32 := match k with
  | 0 => some 1
  | _ => none
theorem zj_h15 {fs : List Value} (hc : G.1.length ≤ zm_C) (hs : G.2 ≤ zm_S) (h2 : G.1[2]? = some (.inr (0, fs))) (hJ : zm_J N d 16 0 [(0, .ref 2)] [] G (zj_ho zj_t15 Q)) : zm_J N (d + 1) 15 0 [(0, .ref 2), (1, .ref 36)] [] G Q := by
  refine zm_J_run zm_T 3 (pc' := 3) (lv' := [(0, .ref 2), (1, .ref 36)]) (st' := [.ref 2, .int 0, .ref 36]) (G' := G) rfl ?_
  refine zm_J_V (a := 2) (av := []) (rest := [.int 0, .ref 36]) (zm_T.1 15 3 _ rfl).1 zc_15_3 h2 (Nat.le_of_ble_eq_true rfl) (Nat.le_of_ble_eq_true rfl) hc hs hJ (fun w G' h => ?_) (fun x G' h => ?_)
  · cases w with
    | none => exact False.elim h
    | some w =>
      cases w with
      | int v =>
        obtain ⟨L, xs, o, sr, a, ex, sl, s, r, el, f, g, df, rfl, hq⟩ := (show ∃ (L : Nat) (xs : Nat → Int32) (o : Nat → Int64) (sr : Nat → Int32) (a : Nat → Nat → Int32) (ex : List zm_E) (sl : Nat) (s : Nat → Int32) (r : Value) (el : Nat → Nat) (f g : Nat → Int32) (df : Nat → Option Nat), G' = zk_H (zj_R L xs o sr a) ex sl s r el f g df ∧ Q (.inl (some (.int 0))) (zk_H (zj_R L xs (vp_updL o 0 v.toInt64) sr a) ex sl s r el f g df) from h)
        refine zm_J_run zm_T 3 (pc' := 14) (lv' := [(0, .ref 2), (1, .ref 36)]) (st' := []) (G' := zk_H (zj_R L xs (vp_updL o 0 v.toInt64) sr a) ex sl s r el f g df) rfl ?_
        refine zm_J_run zm_T 1 (pc' := 15) (lv' := [(0, .ref 2), (1, .ref 36)]) (st' := [.int 0]) (G' := zk_H (zj_R L xs (vp_updL o 0 v.toInt64) sr a) ex sl s r el f g df) rfl ?_
        exact zm_J_fin zm_T rfl rfl hq
      | _ => exact False.elim h
  · obtain ⟨c, h1, h2⟩ := (show ∃ c, zj_t15 x.1 = some c ∧ Q (.inl (some (.int c))) G' from h)
    obtain ⟨kx, p'⟩ := x
    match kx, h1 with
    | 0, h1 =>
      cases Option.some.inj (show some (1 : Int32) = some c from h1)
      refine Or.inr ⟨11, zt_15_0, ?_⟩
      refine zm_J_run zm_T 2 (pc' := 13) (lv' := (2, .ref p') :: [(0, .ref 2), (1, .ref 36)]) (st' := [.int 1]) (G' := G') rfl ?_
      exact zm_J_fin zm_T rfl rfl h2
    | 1, h1 => cases (show (none : Option Int32) = some c from h1)
    | 2, h1 => cases (show (none : Option Int32) = some c from h1)
    | 3, h1 => cases (show (none : Option Int32) = some c from h1)
    | 4, h1 => cases (show (none : Option Int32) = some c from h1)
    | n + 5, h1 => cases (show (none : Option Int32) = some c from h1)
def zj_t33 (k : Nat) : Option Int32 := match k with
  | 0 => some 1
  | 1 => some 4
  | 2 => some 2
  | 3 => some 5
  | 4 => some 3
  | _ => none
theorem zj_h33 {fs : List Value} (hc : G.1.length ≤ zm_C) (hs : G.2 ≤ zm_S) (h2 : G.1[2]? = some (.inr (0, fs))) (hJ : zm_J N d 34 0 [(0, .ref 2)] [] G (zj_ho zj_t33 Q)) : zm_J N (d + 1) 33 0 [(0, .ref 2), (1, .ref 36)] [] G Q := by
  refine zm_J_run zm_T 3 (pc' := 3) (lv' := [(0, .ref 2), (1, .ref 36)]) (st' := [.ref 2, .int 0, .ref 36]) (G' := G) rfl ?_
  refine zm_J_V (a := 2) (av := []) (rest := [.int 0, .ref 36]) (zm_T.1 33 3 _ rfl).1 zc_33_3 h2 (Nat.le_of_ble_eq_true rfl) (Nat.le_of_ble_eq_true rfl) hc hs hJ (fun w G' h => ?_) (fun x G' h => ?_)
  · cases w with
    | none => exact False.elim h
    | some w =>
      cases w with
      | int v =>
        obtain ⟨L, xs, o, sr, a, ex, sl, s, r, el, f, g, df, rfl, hq⟩ := (show ∃ (L : Nat) (xs : Nat → Int32) (o : Nat → Int64) (sr : Nat → Int32) (a : Nat → Nat → Int32) (ex : List zm_E) (sl : Nat) (s : Nat → Int32) (r : Value) (el : Nat → Nat) (f g : Nat → Int32) (df : Nat → Option Nat), G' = zk_H (zj_R L xs o sr a) ex sl s r el f g df ∧ Q (.inl (some (.int 0))) (zk_H (zj_R L xs (vp_updL o 0 v.toInt64) sr a) ex sl s r el f g df) from h)
        refine zm_J_run zm_T 3 (pc' := 26) (lv' := [(0, .ref 2), (1, .ref 36)]) (st' := []) (G' := zk_H (zj_R L xs (vp_updL o 0 v.toInt64) sr a) ex sl s r el f g df) rfl ?_
        refine zm_J_run zm_T 1 (pc' := 27) (lv' := [(0, .ref 2), (1, .ref 36)]) (st' := [.int 0]) (G' := zk_H (zj_R L xs (vp_updL o 0 v.toInt64) sr a) ex sl s r el f g df) rfl ?_
        exact zm_J_fin zm_T rfl rfl hq
      | _ => exact False.elim h
  · obtain ⟨c, h1, h2⟩ := (show ∃ c, zj_t33 x.1 = some c ∧ Q (.inl (some (.int c))) G' from h)
    obtain ⟨kx, p'⟩ := x
    match kx, h1 with
    | 0, h1 =>
      cases Option.some.inj (show some (1 : Int32) = some c from h1)
      refine Or.inr ⟨11, zt_33_0, ?_⟩
      refine zm_J_run zm_T 2 (pc' := 13) (lv' := (2, .ref p') :: [(0, .ref 2), (1, .ref 36)]) (st' := [.int 1]) (G' := G') rfl ?_
      exact zm_J_fin zm_T rfl rfl h2
    | 1, h1 =>
      cases Option.some.inj (show some (4 : Int32) = some c from h1)
      refine Or.inr ⟨20, zt_33_1, ?_⟩
      refine zm_J_run zm_T 2 (pc' := 22) (lv' := (2, .ref p') :: [(0, .ref 2), (1, .ref 36)]) (st' := [.int 4]) (G' := G') rfl ?_
      exact zm_J_fin zm_T rfl rfl h2
    | 2, h1 =>
      cases Option.some.inj (show some (2 : Int32) = some c from h1)
      refine Or.inr ⟨14, zt_33_2, ?_⟩
      refine zm_J_run zm_T 2 (pc' := 16) (lv' := (2, .ref p') :: [(0, .ref 2), (1, .ref 36)]) (st' := [.int 2]) (G' := G') rfl ?_
      exact zm_J_fin zm_T rfl rfl h2
    | 3, h1 =>
      cases Option.some.inj (show some (5 : Int32) = some c from h1)
      refine Or.inr ⟨23, zt_33_3, ?_⟩
      refine zm_J_run zm_T 2 (pc' := 25) (lv' := (2, .ref p') :: [(0, .ref 2), (1, .ref 36)]) (st' := [.int 5]) (G' := G') rfl ?_
      exact zm_J_fin zm_T rfl rfl h2
    | 4, h1 =>
      cases Option.some.inj (show some (3 : Int32) = some c from h1)
      refine Or.inr ⟨17, zt_33_4, ?_⟩
      refine zm_J_run zm_T 2 (pc' := 19) (lv' := (2, .ref p') :: [(0, .ref 2), (1, .ref 36)]) (st' := [.int 3]) (G' := G') rfl ?_
      exact zm_J_fin zm_T rfl rfl h2
    | n + 5, h1 => cases (show (none : Option Int32) = some c from h1)
def zj_t61 (k : Nat) : Option Int32 := match k with
  | 2 => some 1
  | 3 => some 2
  | _ => none
theorem zj_h61 {fs : List Value} (hc : G.1.length ≤ zm_C) (hs : G.2 ≤ zm_S) (h2 : G.1[2]? = some (.inr (0, fs))) (hJ : zm_J N d 62 0 [(0, .ref 2)] [] G (zj_ho zj_t61 Q)) : zm_J N (d + 1) 61 0 [(0, .ref 2), (1, .ref 36)] [] G Q := by
  refine zm_J_run zm_T 3 (pc' := 3) (lv' := [(0, .ref 2), (1, .ref 36)]) (st' := [.ref 2, .int 0, .ref 36]) (G' := G) rfl ?_
  refine zm_J_V (a := 2) (av := []) (rest := [.int 0, .ref 36]) (zm_T.1 61 3 _ rfl).1 zc_61_3 h2 (Nat.le_of_ble_eq_true rfl) (Nat.le_of_ble_eq_true rfl) hc hs hJ (fun w G' h => ?_) (fun x G' h => ?_)
  · cases w with
    | none => exact False.elim h
    | some w =>
      cases w with
      | int v =>
        obtain ⟨L, xs, o, sr, a, ex, sl, s, r, el, f, g, df, rfl, hq⟩ := (show ∃ (L : Nat) (xs : Nat → Int32) (o : Nat → Int64) (sr : Nat → Int32) (a : Nat → Nat → Int32) (ex : List zm_E) (sl : Nat) (s : Nat → Int32) (r : Value) (el : Nat → Nat) (f g : Nat → Int32) (df : Nat → Option Nat), G' = zk_H (zj_R L xs o sr a) ex sl s r el f g df ∧ Q (.inl (some (.int 0))) (zk_H (zj_R L xs (vp_updL o 0 v.toInt64) sr a) ex sl s r el f g df) from h)
        refine zm_J_run zm_T 3 (pc' := 17) (lv' := [(0, .ref 2), (1, .ref 36)]) (st' := []) (G' := zk_H (zj_R L xs (vp_updL o 0 v.toInt64) sr a) ex sl s r el f g df) rfl ?_
        refine zm_J_run zm_T 1 (pc' := 18) (lv' := [(0, .ref 2), (1, .ref 36)]) (st' := [.int 0]) (G' := zk_H (zj_R L xs (vp_updL o 0 v.toInt64) sr a) ex sl s r el f g df) rfl ?_
        exact zm_J_fin zm_T rfl rfl hq
      | _ => exact False.elim h
  · obtain ⟨c, h1, h2⟩ := (show ∃ c, zj_t61 x.1 = some c ∧ Q (.inl (some (.int c))) G' from h)
    obtain ⟨kx, p'⟩ := x
    match kx, h1 with
    | 0, h1 => cases (show (none : Option Int32) = some c from h1)
    | 1, h1 => cases (show (none : Option Int32) = some c from h1)
    | 2, h1 =>
      cases Option.some.inj (show some (1 : Int32) = some c from h1)
      refine Or.inr ⟨11, zt_61_2, ?_⟩
      refine zm_J_run zm_T 2 (pc' := 13) (lv' := (2, .ref p') :: [(0, .ref 2), (1, .ref 36)]) (st' := [.int 1]) (G' := G') rfl ?_
      exact zm_J_fin zm_T rfl rfl h2
    | 3, h1 =>
      cases Option.some.inj (show some (2 : Int32) = some c from h1)
      refine Or.inr ⟨14, zt_61_3, ?_⟩
      refine zm_J_run zm_T 2 (pc' := 16) (lv' := (2, .ref p') :: [(0, .ref 2), (1, .ref 36)]) (st' := [.int 2]) (G' := G') rfl ?_
      exact zm_J_fin zm_T rfl rfl h2
    | 4, h1 => cases (show (none : Option Int32) = some c from h1)
    | n + 5, h1 => cases (show (none : Option Int32) = some c from h1)
def zj_t63 (k : Nat) : Option Int32 := match k with
  | 1 => some 3
  | 2 => some 1
  | 3 => some 4
  | 4 => some 2
  | _ => none
theorem zj_h63 {fs : List Value} (hc : G.1.length ≤ zm_C) (hs : G.2 ≤ zm_S) (h2 : G.1[2]? = some (.inr (0, fs))) (hJ : zm_J N d 64 0 [(0, .ref 2)] [] G (zj_ho zj_t63 Q)) : zm_J N (d + 1) 63 0 [(0, .ref 2), (1, .ref 36)] [] G Q := by
  refine zm_J_run zm_T 3 (pc' := 3) (lv' := [(0, .ref 2), (1, .ref 36)]) (st' := [.ref 2, .int 0, .ref 36]) (G' := G) rfl ?_
  refine zm_J_V (a := 2) (av := []) (rest := [.int 0, .ref 36]) (zm_T.1 63 3 _ rfl).1 zc_63_3 h2 (Nat.le_of_ble_eq_true rfl) (Nat.le_of_ble_eq_true rfl) hc hs hJ (fun w G' h => ?_) (fun x G' h => ?_)
  · cases w with
    | none => exact False.elim h
    | some w =>
      cases w with
      | int v =>
        obtain ⟨L, xs, o, sr, a, ex, sl, s, r, el, f, g, df, rfl, hq⟩ := (show ∃ (L : Nat) (xs : Nat → Int32) (o : Nat → Int64) (sr : Nat → Int32) (a : Nat → Nat → Int32) (ex : List zm_E) (sl : Nat) (s : Nat → Int32) (r : Value) (el : Nat → Nat) (f g : Nat → Int32) (df : Nat → Option Nat), G' = zk_H (zj_R L xs o sr a) ex sl s r el f g df ∧ Q (.inl (some (.int 0))) (zk_H (zj_R L xs (vp_updL o 0 v.toInt64) sr a) ex sl s r el f g df) from h)
        refine zm_J_run zm_T 3 (pc' := 23) (lv' := [(0, .ref 2), (1, .ref 36)]) (st' := []) (G' := zk_H (zj_R L xs (vp_updL o 0 v.toInt64) sr a) ex sl s r el f g df) rfl ?_
        refine zm_J_run zm_T 1 (pc' := 24) (lv' := [(0, .ref 2), (1, .ref 36)]) (st' := [.int 0]) (G' := zk_H (zj_R L xs (vp_updL o 0 v.toInt64) sr a) ex sl s r el f g df) rfl ?_
        exact zm_J_fin zm_T rfl rfl hq
      | _ => exact False.elim h
  · obtain ⟨c, h1, h2⟩ := (show ∃ c, zj_t63 x.1 = some c ∧ Q (.inl (some (.int c))) G' from h)
    obtain ⟨kx, p'⟩ := x
    match kx, h1 with
    | 0, h1 => cases (show (none : Option Int32) = some c from h1)
    | 1, h1 =>
      cases Option.some.inj (show some (3 : Int32) = some c from h1)
      refine Or.inr ⟨17, zt_63_1, ?_⟩
      refine zm_J_run zm_T 2 (pc' := 19) (lv' := (2, .ref p') :: [(0, .ref 2), (1, .ref 36)]) (st' := [.int 3]) (G' := G') rfl ?_
      exact zm_J_fin zm_T rfl rfl h2
    | 2, h1 =>
      cases Option.some.inj (show some (1 : Int32) = some c from h1)
      refine Or.inr ⟨11, zt_63_2, ?_⟩
      refine zm_J_run zm_T 2 (pc' := 13) (lv' := (2, .ref p') :: [(0, .ref 2), (1, .ref 36)]) (st' := [.int 1]) (G' := G') rfl ?_
      exact zm_J_fin zm_T rfl rfl h2
    | 3, h1 =>
      cases Option.some.inj (show some (4 : Int32) = some c from h1)
      refine Or.inr ⟨20, zt_63_3, ?_⟩
      refine zm_J_run zm_T 2 (pc' := 22) (lv' := (2, .ref p') :: [(0, .ref 2), (1, .ref 36)]) (st' := [.int 4]) (G' := G') rfl ?_
      exact zm_J_fin zm_T rfl rfl h2
    | 4, h1 =>
      cases Option.some.inj (show some (2 : Int32) = some c from h1)
      refine Or.inr ⟨14, zt_63_4, ?_⟩
      refine zm_J_run zm_T 2 (pc' := 16) (lv' := (2, .ref p') :: [(0, .ref 2), (1, .ref 36)]) (st' := [.int 2]) (G' := G') rfl ?_
      exact zm_J_fin zm_T rfl rfl h2
    | n + 5, h1 => cases (show (none : Option Int32) = some c from h1)
def zj_t66 (k : Nat) : Option Int32 := match k with
  | 1 => some 3
  | 2 => some 1
  | 3 => some 4
  | 4 => some 2
  | _ => none
theorem zj_h66 {fs : List Value} (hc : G.1.length ≤ zm_C) (hs : G.2 ≤ zm_S) (h2 : G.1[2]? = some (.inr (0, fs))) (hJ : zm_J N d 67 0 [(0, .ref 2)] [] G (zj_ho zj_t66 Q)) : zm_J N (d + 1) 66 0 [(0, .ref 2), (1, .ref 36)] [] G Q := by
  refine zm_J_run zm_T 3 (pc' := 3) (lv' := [(0, .ref 2), (1, .ref 36)]) (st' := [.ref 2, .int 0, .ref 36]) (G' := G) rfl ?_
  refine zm_J_V (a := 2) (av := []) (rest := [.int 0, .ref 36]) (zm_T.1 66 3 _ rfl).1 zc_66_3 h2 (Nat.le_of_ble_eq_true rfl) (Nat.le_of_ble_eq_true rfl) hc hs hJ (fun w G' h => ?_) (fun x G' h => ?_)
  · cases w with
    | none => exact False.elim h
    | some w =>
      cases w with
      | int v =>
        obtain ⟨L, xs, o, sr, a, ex, sl, s, r, el, f, g, df, rfl, hq⟩ := (show ∃ (L : Nat) (xs : Nat → Int32) (o : Nat → Int64) (sr : Nat → Int32) (a : Nat → Nat → Int32) (ex : List zm_E) (sl : Nat) (s : Nat → Int32) (r : Value) (el : Nat → Nat) (f g : Nat → Int32) (df : Nat → Option Nat), G' = zk_H (zj_R L xs o sr a) ex sl s r el f g df ∧ Q (.inl (some (.int 0))) (zk_H (zj_R L xs (vp_updL o 0 v.toInt64) sr a) ex sl s r el f g df) from h)
        refine zm_J_run zm_T 3 (pc' := 23) (lv' := [(0, .ref 2), (1, .ref 36)]) (st' := []) (G' := zk_H (zj_R L xs (vp_updL o 0 v.toInt64) sr a) ex sl s r el f g df) rfl ?_
        refine zm_J_run zm_T 1 (pc' := 24) (lv' := [(0, .ref 2), (1, .ref 36)]) (st' := [.int 0]) (G' := zk_H (zj_R L xs (vp_updL o 0 v.toInt64) sr a) ex sl s r el f g df) rfl ?_
        exact zm_J_fin zm_T rfl rfl hq
      | _ => exact False.elim h
  · obtain ⟨c, h1, h2⟩ := (show ∃ c, zj_t66 x.1 = some c ∧ Q (.inl (some (.int c))) G' from h)
    obtain ⟨kx, p'⟩ := x
    match kx, h1 with
    | 0, h1 => cases (show (none : Option Int32) = some c from h1)
    | 1, h1 =>
      cases Option.some.inj (show some (3 : Int32) = some c from h1)
      refine Or.inr ⟨17, zt_66_1, ?_⟩
      refine zm_J_run zm_T 2 (pc' := 19) (lv' := (2, .ref p') :: [(0, .ref 2), (1, .ref 36)]) (st' := [.int 3]) (G' := G') rfl ?_
      exact zm_J_fin zm_T rfl rfl h2
    | 2, h1 =>
      cases Option.some.inj (show some (1 : Int32) = some c from h1)
      refine Or.inr ⟨11, zt_66_2, ?_⟩
      refine zm_J_run zm_T 2 (pc' := 13) (lv' := (2, .ref p') :: [(0, .ref 2), (1, .ref 36)]) (st' := [.int 1]) (G' := G') rfl ?_
      exact zm_J_fin zm_T rfl rfl h2
    | 3, h1 =>
      cases Option.some.inj (show some (4 : Int32) = some c from h1)
      refine Or.inr ⟨20, zt_66_3, ?_⟩
      refine zm_J_run zm_T 2 (pc' := 22) (lv' := (2, .ref p') :: [(0, .ref 2), (1, .ref 36)]) (st' := [.int 4]) (G' := G') rfl ?_
      exact zm_J_fin zm_T rfl rfl h2
    | 4, h1 =>
      cases Option.some.inj (show some (2 : Int32) = some c from h1)
      refine Or.inr ⟨14, zt_66_4, ?_⟩
      refine zm_J_run zm_T 2 (pc' := 16) (lv' := (2, .ref p') :: [(0, .ref 2), (1, .ref 36)]) (st' := [.int 2]) (G' := G') rfl ?_
      exact zm_J_fin zm_T rfl rfl h2
    | n + 5, h1 => cases (show (none : Option Int32) = some c from h1)
def zj_t68 (k : Nat) : Option Int32 := match k with
  | 0 => some 1
  | 2 => some 2
  | _ => none
theorem zj_h68 {k : Int32} {fs : List Value} (hc : G.1.length ≤ zm_C) (hs : G.2 ≤ zm_S) (h2 : G.1[2]? = some (.inr (0, fs))) (hJ : zm_J N d 69 0 [(0, .ref 2), (1, .int k)] [] G (zj_hq zj_t68 Q)) : zm_J N (d + 1) 68 0 [(0, .ref 2), (1, .int k)] [] G Q := by
  refine zm_J_run zm_T 2 (pc' := 2) (lv' := [(0, .ref 2), (1, .int k)]) (st' := [.int k, .ref 2]) (G' := G) rfl ?_
  refine zm_J_V (a := 2) (av := [.int k]) (rest := []) (zm_T.1 68 2 _ rfl).1 zc_68_2 h2 (Nat.le_of_ble_eq_true rfl) (Nat.le_of_ble_eq_true rfl) hc hs hJ (fun w G' h => ?_) (fun x G' h => ?_)
  · cases w with
    | some w => exact False.elim h
    | none =>
      have h : Q (.inl (some (.int 0))) G' := h
      refine zm_J_run zm_T 2 (pc' := 15) (lv' := [(0, .ref 2), (1, .int k)]) (st' := [.int 0]) (G' := G') rfl ?_
      exact zm_J_fin zm_T rfl rfl h
  · obtain ⟨c, h1, h2⟩ := (show ∃ c, zj_t68 x.1 = some c ∧ Q (.inl (some (.int c))) G' from h)
    obtain ⟨kx, p'⟩ := x
    match kx, h1 with
    | 0, h1 =>
      cases Option.some.inj (show some (1 : Int32) = some c from h1)
      refine Or.inr ⟨8, zt_68_0, ?_⟩
      refine zm_J_run zm_T 2 (pc' := 10) (lv' := (2, .ref p') :: [(0, .ref 2), (1, .int k)]) (st' := [.int 1]) (G' := G') rfl ?_
      exact zm_J_fin zm_T rfl rfl h2
    | 1, h1 => cases (show (none : Option Int32) = some c from h1)
    | 2, h1 =>
      cases Option.some.inj (show some (2 : Int32) = some c from h1)
      refine Or.inr ⟨11, zt_68_2, ?_⟩
      refine zm_J_run zm_T 2 (pc' := 13) (lv' := (2, .ref p') :: [(0, .ref 2), (1, .int k)]) (st' := [.int 2]) (G' := G') rfl ?_
      exact zm_J_fin zm_T rfl rfl h2
    | 3, h1 => cases (show (none : Option Int32) = some c from h1)
    | 4, h1 => cases (show (none : Option Int32) = some c from h1)
    | n + 5, h1 => cases (show (none : Option Int32) = some c from h1)
end ZJH
/-! THE CLASS'S SIDE OF EACH CALL -/
theorem zj_tt0 (f : Nat → Int32) : zk_tt [] f := ⟨Nat.zero_le _, fun i x h => by cases h⟩
section ZJC
variable {L : Nat} {xs : Nat → Int32} {o : Nat → Int64} {sr : Nat → Int32} {a : Nat → Nat → Int32} {ex : List zm_E} {sl : Nat} {s : Nat → Int32} {r : Value} {el : Nat → Nat} {f g : Nat → Int32} {df : Nat → Option Nat} {N : zm_N} {d : Nat} {Q : zm_O → zm_H → Prop} {B S P : Nat} {x Y : zj_T} {y : zj_A} {p : Int64} {k : Int32}
theorem zj_K_r (hB : zk_BS B S) (hK : zj_K B S x ex sl s r el f df) : zr_r ex sl := by
  obtain ⟨va, ca, ka, q, h1, h2, h3, h4, h5⟩ := hK
  exact zk_I_r hB h3
theorem zj_K_le {B' S' : Nat} (h1 : B ≤ B') (h2 : S ≤ S') (hK : zj_K B S x ex sl s r el f df) : zj_K B' S' x ex sl s r el f df := by
  obtain ⟨va, ca, ka, q, k1, k2, k3, k4, k5⟩ := hK
  exact ⟨va, ca, ka, q, k1, k2, zk_I_le h1 h2 k3, k4, k5⟩
theorem zj_K_ap (c : zm_E) (n : Nat) (hK : zj_K B S x ex sl s r el f df) : zj_K (B + 1) (S + n) x (zk_ap ex c) (sl + n) s r el f df := by
  obtain ⟨va, ca, ka, q, k1, k2, k3, k4, k5⟩ := hK
  exact ⟨va, ca, ka, q, k1, k2, zk_I_ap c n k3, zk_D_up (zk_de_ap _ _) k4, zk_res_xt (zk_xt_ap _ _) ⟨rfl, rfl, rfl, rfl⟩ k3 k5⟩
theorem zj_ct (hB : zk_BS (B + 43) (S + 212)) (hK : zj_K B S x ex sl s r el f df) (hw : zj_W x) (hd : 300 ≤ d)
    (K : ∀ (y : zj_A) (o' : Nat → Int64) (ex' : List zm_E) (sl' : Nat) (s' : Nat → Int32) (r' : Value) (el' : Nat → Nat) (f' g' : Nat → Int32) (df' : Nat → Option Nat), zj_tR p x y → (y.1 = 0 → o' 0 = y.2.1.toInt64) → zj_K (B + 43) (S + 212) y.2.2 ex' sl' s' r' el' f' df' → Q (.inl (some (.int y.1))) (zk_H (zj_R L xs o' sr a) ex' sl' s' r' el' f' g' df')) : zm_J N d 11 0 [(0, .ref 2), (1, .long p), (3, .ref 36)] [] (zk_H (zj_R L xs o sr a) ex sl s r el f g df) Q := by
  obtain ⟨t, D, res⟩ := x
  have hK0 := hK
  obtain ⟨va, ca, ka, q, h1, h2, h3, h4, h5⟩ := hK
  obtain ⟨d, rfl⟩ : ∃ e, d = e + 1 := ⟨d - 1, by omega⟩
  have hB0 := hB.le (B := B) (S := S) (by omega) (by omega)
  have hr := zk_I_r hB0 h3
  dsimp only at h1 h2 h4 h5
  refine zj_h11 (zk_c hr) (zk_s hr) rfl (zk_type h1 h2 (by omega) hB0 h3 (fun hb p' i => ?_) (fun hb hl p' i => ?_) (fun hb hl f' htt => ?_))
  · exact zj_ho_er (c := 1) rfl (K (1, 0, t, D, res) o _ _ s r el f g df (Or.inl ⟨hb, rfl⟩) (fun z => absurd z (by dsimp only; decide)) (zj_K_le (by omega) (by omega) (zj_K_ap _ 6 hK0)))
  · exact zj_ho_er (c := 2) rfl (K (2, 0, t, D, res) o _ _ s r el f g df (Or.inr (Or.inl ⟨hb, hl, rfl⟩)) (fun z => absurd z (by dsimp only; decide)) (zj_K_le (by omega) (by omega) (zj_K_ap _ 6 hK0)))
  · refine zj_ho_ok (K (0, nI (t.length + zt_n p 8), t ++ zt_bs p 8, D, res) _ ex sl _ r el f' g df (Or.inr (Or.inr ⟨hb, hl, rfl⟩)) (fun _ => zj_o _ _) ⟨va, ca, ka, q, htt, ?_, zk_I_s rfl rfl rfl (zk_I_le (by omega) (by omega) h3), h4, zk_res_xt (zk_xt.refl _) ⟨rfl, rfl, rfl, rfl⟩ h3 h5⟩)
    show nI (t.length + zt_n p 8) = nI (t ++ zt_bs p 8).length
    rw [List.length_append, zt_bs_len]
theorem zj_cd (hB : zk_BS (B + 43) (S + 212)) (hK : zj_K B S x ex sl s r el f df) (hw : zj_W x) (hd : 300 ≤ d)
    (K : ∀ (y : zj_A) (o' : Nat → Int64) (ex' : List zm_E) (sl' : Nat) (s' : Nat → Int32) (r' : Value) (el' : Nat → Nat) (f' g' : Nat → Int32) (df' : Nat → Option Nat), zj_dR x y → (y.1 = 0 → o' 0 = y.2.1.toInt64) → zj_K (B + 43) (S + 212) y.2.2 ex' sl' s' r' el' f' df' → Q (.inl (some (.int y.1))) (zk_H (zj_R L xs o' sr a) ex' sl' s' r' el' f' g' df')) : zm_J N d 15 0 [(0, .ref 2), (1, .ref 36)] [] (zk_H (zj_R L xs o sr a) ex sl s r el f g df) Q := by
  obtain ⟨t, D, res⟩ := x
  have hK0 := hK
  obtain ⟨va, ca, ka, q, h1, h2, h3, h4, h5⟩ := hK
  obtain ⟨d, rfl⟩ : ∃ e, d = e + 1 := ⟨d - 1, by omega⟩
  have hB0 := hB.le (B := B) (S := S) (by omega) (by omega)
  have hr := zk_I_r hB0 h3
  dsimp only at h1 h2 h4 h5
  refine zj_h15 (zk_c hr) (zk_s hr) rfl (zk_define h1 h2 (by omega) h3 (hB.le (by omega) (by omega)) h4 (fun m L' b hdf ex' sl' s' g' df' i1 x1 f1 h51 hD' => ?_) (fun hno z G k => ?_))
  · exact zj_ho_ok (K (0, nI L'.length, [], zv_up D m.toNatClampNeg (some (L', b)), res) _ ex' sl' s' r el f g' df' (Or.inr ⟨m, L', b, hdf, rfl⟩) (fun _ => zj_o _ _) ⟨va, ca, ka, q, zj_tt0 _, h51, zk_I_le (by omega) (by omega) i1, hD', zk_res_xt x1 ⟨f1 0 (by decide), f1 11 (by decide), f1 12 (by decide), f1 13 (by decide)⟩ h3 h5⟩)
  · obtain ⟨ex', sl', s', g', p', rfl, rfl, i1, x1, f1, h51⟩ := k
    exact zj_ho_er (c := 1) rfl (K (1, 0, [], D, res) o ex' sl' s' r el f g' df (Or.inl ⟨hno, rfl⟩) (fun z => absurd z (by dsimp only; decide)) ⟨va, ca, ka, q, zj_tt0 _, h51, zk_I_le (by omega) (by omega) i1, zk_D_up x1.de h4, zk_res_xt x1 ⟨f1 0 (by decide), f1 11 (by decide), f1 12 (by decide), f1 13 (by decide)⟩ h3 h5⟩)
theorem zj_ca (hB : zk_BS (B + 43) (S + 212)) (hK : zj_K B S x ex sl s r el f df) (hw : zj_W x) (hd : 300 ≤ d)
    (K : ∀ (y : zj_A) (o' : Nat → Int64) (ex' : List zm_E) (sl' : Nat) (s' : Nat → Int32) (r' : Value) (el' : Nat → Nat) (f' g' : Nat → Int32) (df' : Nat → Option Nat), zj_aR x y → (y.1 = 0 → o' 0 = y.2.1.toInt64) → zj_K (B + 43) (S + 212) y.2.2 ex' sl' s' r' el' f' df' → Q (.inl (some (.int y.1))) (zk_H (zj_R L xs o' sr a) ex' sl' s' r' el' f' g' df')) : zm_J N d 33 0 [(0, .ref 2), (1, .ref 36)] [] (zk_H (zj_R L xs o sr a) ex sl s r el f g df) Q := by
  obtain ⟨t, D, res⟩ := x
  have hK0 := hK
  obtain ⟨va, ca, ka, q, h1, h2, h3, h4, h5⟩ := hK
  obtain ⟨d, rfl⟩ : ∃ e, d = e + 1 := ⟨d - 1, by omega⟩
  have hB0 := hB.le (B := B) (S := S) (by omega) (by omega)
  have hr := zk_I_r hB0 h3
  dsimp only at h1 h2 h4 h5
  refine zj_h33 (zk_c hr) (zk_s hr) rfl (zk_ask h1 h2 (by omega) rfl h3 (hB.le (by omega) (by omega)) h4 hw.1 (fun hno z G k => ?_) (fun hyes z G k => ?_))
  · obtain ⟨ex', sl', s', g', p', rfl, rfl, i1, x1, f1, h51⟩ := k
    exact zj_ho_er (c := 1) rfl (K (1, 0, [], D, res) o ex' sl' s' r el f g' df (Or.inl ⟨hno, rfl⟩) (fun z => absurd z (by dsimp only; decide)) ⟨va, ca, ka, q, zj_tt0 _, h51, zk_I_le (by omega) (by omega) i1, zk_D_up x1.de h4, zk_res_xt x1 ⟨f1 0 (by decide), f1 11 (by decide), f1 12 (by decide), f1 13 (by decide)⟩ h3 h5⟩)
  · cases hE : zv_E D 60 t [] [] ([], 0, 0, 0) with
    | mk o1 σ' =>
      have he := zv_E_e D 60 t [] [] ([], 0, 0, 0)
      rw [hE] at k he
      cases o1 with
      | inl e =>
        obtain ⟨ex', sl', s', el', va', ca', ka', q', p', rfl, rfl, i1, de, h51⟩ := k
        have hK' : zj_K (B + 43) (S + 212) ([], D, none) ex' sl' s' .null el' f df := ⟨va', ca', ka', q', zj_tt0 _, h51, zk_I_le (by omega) (by omega) i1, zk_D_up de h4, ⟨fun _ => rfl, fun v σ h => (by cases h)⟩⟩
        have kk := K (nI e, 0, [], D, none) o ex' sl' s' .null el' f g df (Or.inr ⟨hyes, Or.inl ⟨e, σ', hE, rfl⟩⟩)
        rcases he e rfl with rfl | rfl | rfl | rfl
        · exact zj_ho_er (k := zk_xk 2) (c := nI 2) (by decide) (kk (fun z => absurd z (by dsimp only; decide)) hK')
        · exact zj_ho_er (k := zk_xk 3) (c := nI 3) (by decide) (kk (fun z => absurd z (by dsimp only; decide)) hK')
        · exact zj_ho_er (k := zk_xk 4) (c := nI 4) (by decide) (kk (fun z => absurd z (by dsimp only; decide)) hK')
        · exact zj_ho_er (k := zk_xk 5) (c := nI 5) (by decide) (kk (fun z => absurd z (by dsimp only; decide)) hK')
      | inr v =>
        obtain ⟨ex', sl', s', el', va', ca', ka', q', u, rfl, rfl, i1, de, h51, hSt, hV⟩ := k
        exact zj_ho_ok (K (0, v.1, [], D, some (v, σ')) _ ex' sl' s' (.ref u) el' f g df (Or.inr ⟨hyes, Or.inr ⟨v, σ', hE, rfl⟩⟩) (fun _ => zj_o _ _) ⟨va', ca', ka', q', zj_tt0 _, h51, zk_I_le (by omega) (by omega) i1, zk_D_up de h4, ⟨fun h => (by cases h), fun v2 σ2 h => by cases h; exact ⟨u, rfl, hV, hSt⟩⟩⟩)
theorem zj_cn (hB : zk_BS (B + 43) (S + 212)) (hK : zj_K B S x ex sl s r el f df) (hw : zj_W x) (hd : 300 ≤ d)
    (K : ∀ (y : zj_A) (o' : Nat → Int64) (ex' : List zm_E) (sl' : Nat) (s' : Nat → Int32) (r' : Value) (el' : Nat → Nat) (f' g' : Nat → Int32) (df' : Nat → Option Nat), zj_nR x y → (y.1 = 0 → o' 0 = y.2.1.toInt64) → zj_K (B + 43) (S + 212) y.2.2 ex' sl' s' r' el' f' df' → Q (.inl (some (.int y.1))) (zk_H (zj_R L xs o' sr a) ex' sl' s' r' el' f' g' df')) : zm_J N d 61 0 [(0, .ref 2), (1, .ref 36)] [] (zk_H (zj_R L xs o sr a) ex sl s r el f g df) Q := by
  obtain ⟨t, D, res⟩ := x
  have hK0 := hK
  obtain ⟨va, ca, ka, q, h1, h2, h3, h4, h5⟩ := hK
  obtain ⟨d, rfl⟩ : ∃ e, d = e + 1 := ⟨d - 1, by omega⟩
  have hB0 := hB.le (B := B) (S := S) (by omega) (by omega)
  have hr := zk_I_r hB0 h3
  dsimp only at h1 h2 h4 h5
  cases res with
  | none =>
    have e0 := h5.1 rfl
    subst e0
    exact zj_h61 (zk_c hr) (zk_s hr) rfl (zk_num0 hB0 h3 (by omega) (fun p' i => zj_ho_er (c := 1) rfl (K (1, 0, t, D, none) o _ _ s .null el f g df (Or.inl ⟨rfl, rfl⟩) (fun z => absurd z (by dsimp only; decide)) (zj_K_le (by omega) (by omega) (zj_K_ap _ 6 hK0)))))
  | some vs =>
    obtain ⟨v, σ⟩ := vs
    obtain ⟨u, rfl, hV, hSt⟩ := h5.2 v σ rfl
    exact zj_h61 (zk_c hr) (zk_s hr) rfl (zk_num1 hB0 h3 (by omega) hV (fun h0 => zj_ho_ok (K (0, v.2.1, t, D, some (v, σ)) _ ex sl s (.ref u) el f g df (Or.inr ⟨v, σ, rfl, Or.inl ⟨h0, rfl⟩⟩) (fun _ => zj_o _ _) (zj_K_le (by omega) (by omega) hK0))) (fun h0 p' i => zj_ho_er (c := 2) rfl (K (2, 0, t, D, some (v, σ)) o _ _ s (.ref u) el f g df (Or.inr ⟨v, σ, rfl, Or.inr ⟨h0, rfl⟩⟩) (fun z => absurd z (by dsimp only; decide)) (zj_K_le (by omega) (by omega) (zj_K_ap _ 6 hK0)))))
theorem zj_ch (hB : zk_BS (B + 43) (S + 212)) (hK : zj_K B S x ex sl s r el f df) (hw : zj_W x) (hd : 300 ≤ d)
    (K : ∀ (y : zj_A) (o' : Nat → Int64) (ex' : List zm_E) (sl' : Nat) (s' : Nat → Int32) (r' : Value) (el' : Nat → Nat) (f' g' : Nat → Int32) (df' : Nat → Option Nat), zj_hR x y → (y.1 = 0 → o' 0 = y.2.1.toInt64) → zj_K (B + 43) (S + 212) y.2.2 ex' sl' s' r' el' f' df' → Q (.inl (some (.int y.1))) (zk_H (zj_R L xs o' sr a) ex' sl' s' r' el' f' g' df')) : zm_J N d 63 0 [(0, .ref 2), (1, .ref 36)] [] (zk_H (zj_R L xs o sr a) ex sl s r el f g df) Q := by
  obtain ⟨t, D, res⟩ := x
  have hK0 := hK
  obtain ⟨va, ca, ka, q, h1, h2, h3, h4, h5⟩ := hK
  obtain ⟨d, rfl⟩ : ∃ e, d = e + 1 := ⟨d - 1, by omega⟩
  have hB0 := hB.le (B := B) (S := S) (by omega) (by omega)
  have hr := zk_I_r hB0 h3
  dsimp only at h1 h2 h4 h5
  refine zj_h63 (zk_c hr) (zk_s hr) rfl (zk_head hB0 h3 (by omega) rfl h4 hw.1 hw.2 h5 (fun e he z G k => ?_) (fun u σ' hs ex' sl' s' el' va' ca' ka' q' ua i1 de ts hSt hV => ?_))
  · obtain ⟨ex', sl', s', el', va', ca', ka', q', p', rfl, rfl, i1, de, ts⟩ := k
    have hK' : zj_K (B + 43) (S + 212) (t, D, none) ex' sl' s' .null el' f df := ⟨va', ca', ka', q', h1, (ts 5 (by decide) (by decide)).trans h2, zk_I_le (by omega) (by omega) i1, zk_D_up de h4, ⟨fun _ => rfl, fun v σ h => (by cases h)⟩⟩
    have kk := K (nI (e - 1), 0, t, D, none) o ex' sl' s' .null el' f g df (Or.inl ⟨e, he, rfl⟩)
    rcases zv_side_e he with rfl | rfl | rfl | rfl
    · exact zj_ho_er (k := zk_xk 2) (c := nI 1) (by decide) (kk (fun z => absurd z (by dsimp only; decide)) hK')
    · exact zj_ho_er (k := zk_xk 3) (c := nI 2) (by decide) (kk (fun z => absurd z (by dsimp only; decide)) hK')
    · exact zj_ho_er (k := zk_xk 4) (c := nI 3) (by decide) (kk (fun z => absurd z (by dsimp only; decide)) hK')
    · exact zj_ho_er (k := zk_xk 5) (c := nI 4) (by decide) (kk (fun z => absurd z (by dsimp only; decide)) hK')
  · obtain ⟨_, v, σ, e, _⟩ := zv_side_w hw.1 hw.2 hs
    exact zj_ho_ok (K (0, u.2.1, t, D, some (v, σ')) _ ex' sl' s' (.ref ua) el' f g df (Or.inr ⟨u, σ', v, σ, hs, e, rfl⟩) (fun _ => zj_o _ _) ⟨va', ca', ka', q', h1, (ts 5 (by decide) (by decide)).trans h2, zk_I_le (by omega) (by omega) i1, zk_D_up de h4, ⟨fun h => (by cases h), fun v2 σ2 h => by cases h; exact ⟨ua, rfl, hV v σ e, hSt⟩⟩⟩)
theorem zj_cl (hB : zk_BS (B + 43) (S + 212)) (hK : zj_K B S x ex sl s r el f df) (hw : zj_W x) (hd : 300 ≤ d)
    (K : ∀ (y : zj_A) (o' : Nat → Int64) (ex' : List zm_E) (sl' : Nat) (s' : Nat → Int32) (r' : Value) (el' : Nat → Nat) (f' g' : Nat → Int32) (df' : Nat → Option Nat), zj_lR x y → (y.1 = 0 → o' 0 = y.2.1.toInt64) → zj_K (B + 43) (S + 212) y.2.2 ex' sl' s' r' el' f' df' → Q (.inl (some (.int y.1))) (zk_H (zj_R L xs o' sr a) ex' sl' s' r' el' f' g' df')) : zm_J N d 66 0 [(0, .ref 2), (1, .ref 36)] [] (zk_H (zj_R L xs o sr a) ex sl s r el f g df) Q := by
  obtain ⟨t, D, res⟩ := x
  have hK0 := hK
  obtain ⟨va, ca, ka, q, h1, h2, h3, h4, h5⟩ := hK
  obtain ⟨d, rfl⟩ : ∃ e, d = e + 1 := ⟨d - 1, by omega⟩
  have hB0 := hB.le (B := B) (S := S) (by omega) (by omega)
  have hr := zk_I_r hB0 h3
  dsimp only at h1 h2 h4 h5
  refine zj_h66 (zk_c hr) (zk_s hr) rfl (zk_tail hB0 h3 (by omega) rfl h4 hw.1 hw.2 h5 (fun e he z G k => ?_) (fun u σ' hs ex' sl' s' el' va' ca' ka' q' ua i1 de ts hSt hV => ?_))
  · obtain ⟨ex', sl', s', el', va', ca', ka', q', p', rfl, rfl, i1, de, ts⟩ := k
    have hK' : zj_K (B + 43) (S + 212) (t, D, none) ex' sl' s' .null el' f df := ⟨va', ca', ka', q', h1, (ts 5 (by decide) (by decide)).trans h2, zk_I_le (by omega) (by omega) i1, zk_D_up de h4, ⟨fun _ => rfl, fun v σ h => (by cases h)⟩⟩
    have kk := K (nI (e - 1), 0, t, D, none) o ex' sl' s' .null el' f g df (Or.inl ⟨e, he, rfl⟩)
    rcases zv_side_e he with rfl | rfl | rfl | rfl
    · exact zj_ho_er (k := zk_xk 2) (c := nI 1) (by decide) (kk (fun z => absurd z (by dsimp only; decide)) hK')
    · exact zj_ho_er (k := zk_xk 3) (c := nI 2) (by decide) (kk (fun z => absurd z (by dsimp only; decide)) hK')
    · exact zj_ho_er (k := zk_xk 4) (c := nI 3) (by decide) (kk (fun z => absurd z (by dsimp only; decide)) hK')
    · exact zj_ho_er (k := zk_xk 5) (c := nI 4) (by decide) (kk (fun z => absurd z (by dsimp only; decide)) hK')
  · exact zj_ho_ok (K (0, u.1, t, D, some (u, σ')) _ ex' sl' s' (.ref ua) el' f g df (Or.inr ⟨u, σ', hs, rfl⟩) (fun _ => zj_o _ _) ⟨va', ca', ka', q', h1, (ts 5 (by decide) (by decide)).trans h2, zk_I_le (by omega) (by omega) i1, zk_D_up de h4, ⟨fun h => (by cases h), fun v2 σ2 h => by cases h; exact ⟨ua, rfl, hV, hSt⟩⟩⟩)
theorem zj_cm (hB : zk_BS (B + 43) (S + 212)) (hK : zj_K B S x ex sl s r el f df) (hw : zj_W x) (hd : 300 ≤ d)
    (K : ∀ (y : zj_A) (o' : Nat → Int64) (ex' : List zm_E) (sl' : Nat) (s' : Nat → Int32) (r' : Value) (el' : Nat → Nat) (f' g' : Nat → Int32) (df' : Nat → Option Nat), zj_mR k x y → zj_K (B + 43) (S + 212) y.2.2 ex' sl' s' r' el' f' df' → Q (.inl (some (.int y.1))) (zk_H (zj_R L xs o' sr a) ex' sl' s' r' el' f' g' df')) : zm_J N d 68 0 [(0, .ref 2), (1, .int k)] [] (zk_H (zj_R L xs o sr a) ex sl s r el f g df) Q := by
  obtain ⟨t, D, res⟩ := x
  have hK0 := hK
  obtain ⟨va, ca, ka, q, h1, h2, h3, h4, h5⟩ := hK
  obtain ⟨d, rfl⟩ : ∃ e, d = e + 1 := ⟨d - 1, by omega⟩
  have hB0 := hB.le (B := B) (S := S) (by omega) (by omega)
  have hr := zk_I_r hB0 h3
  dsimp only at h1 h2 h4 h5
  by_cases hk : 0 ≤ k ∧ k ≤ 5
  · obtain ⟨n, hn, rfl⟩ := nI_of (zi_nlt hk.1)
    have hn6 : n < 6 := Nat.lt_succ_of_le ((nI_leI hn (b := 5) (by decide)).mp hk.2)
    cases hD : D n with
    | none => exact zj_h68 (zk_c hr) (zk_s hr) rfl (zk_rem2 hB0 h3 (by omega) hn6 ((h4 n hn6).1 hD) (fun p' i => zj_hq_er (c := 2) rfl (K (2, 0, t, D, res) o _ _ s r el f g df (Or.inr ⟨n, hn6, rfl, Or.inl ⟨hD, rfl⟩⟩) (zj_K_le (by omega) (by omega) (zj_K_ap _ 6 hK0)))))
    | some z =>
      obtain ⟨L', b⟩ := z
      obtain ⟨y, xa, m, e1, e2, e3⟩ := (h4 n hn6).2 L' b hD
      refine zj_h68 (zk_c hr) (zk_s hr) rfl (zk_rem0 hB0 h3 (by omega) hn6 e1 (K (0, 0, t, zv_up D n none, res) o ex sl s r el f g _ (Or.inr ⟨n, hn6, rfl, Or.inr ⟨(L', b), hD, rfl⟩⟩) ⟨va, ca, ka, q, h1, h2, zk_I_le (by omega) (by omega) h3, ?_, h5⟩))
      intro j hj
      show (zv_up D n none j = none → va_up df n none j = none) ∧ ∀ L b, zv_up D n none j = some (L, b) → _
      by_cases hjn : j = n
      · subst hjn
        rw [show zv_up D j none j = none from if_pos rfl]
        exact ⟨fun _ => if_pos rfl, fun L b h => by cases h⟩
      · rw [show zv_up D n none j = D j from if_neg hjn, show va_up df n none j = df j from if_neg hjn]
        exact h4 j hj
  · exact zj_h68 (zk_c hr) (zk_s hr) rfl (zk_rem1 hB0 h3 (by omega) hk (fun p' i => zj_hq_er (c := 1) rfl (K (1, 0, t, D, res) o _ _ s r el f g df (Or.inl ⟨hk, rfl⟩) (zj_K_le (by omega) (by omega) (zj_K_ap _ 6 hK0)))))
end ZJC
/-! THE REFERENCE'S SIDE OF EACH CALL -/
theorem zr_tt0 {s : Nat → Int32} {a : Nat → Nat → Int32} (h : s 8 = 0) : zr_tt s a [] := ⟨h, Nat.zero_le _, fun i x h => by cases h⟩
theorem zr_res_k {P : Nat} {res : Option (zv_V × zv_S)} {s s' : Nat → Int32} {a a' : Nat → Nat → Int32} (h : zr_res P res s a) (hs : ∀ k, 13 ≤ k → s' k = s k) (ha : ∀ k, k = 1 ∨ 8 ≤ k → a' k = a k) : zr_res P res s' a' := by
  refine ⟨fun e => (hs 43 (by decide)).trans (h.1 e), fun v σ e => ?_⟩
  obtain ⟨g1, g2, g3⟩ := h.2 v σ e
  refine ⟨(hs 43 (by decide)).trans g1, ?_, g3.up (hs 23 (by decide)) (hs 24 (by decide)) (hs 33 (by decide)) (hs 25 (by decide)) (fun k hk => ha k (by omega))⟩
  rw [hs 40 (by decide), hs 41 (by decide), hs 42 (by decide)]
  exact g2.up (Nat.le_refl _) (fun q _ => ⟨congrFun (ha 16 (by decide)) q, congrFun (ha 17 (by decide)) q⟩)
theorem zj_F_12 {P : Nat} {x : zj_T} {sr : Nat → Int32} {a : Nat → Nat → Int32} (v : Int32) (h : zj_F P x sr a) : zj_F P x (zu sr 12 v) a := by
  obtain ⟨h1, h2, h3, h4⟩ := h
  exact ⟨h1, h2, h3, zr_res_k h4 (fun k hk => zu_ne _ _ (by omega)) (fun _ _ => rfl)⟩
theorem zj_F_k {P : Nat} {x : zj_T} {sr s' : Nat → Int32} {a a' : Nat → Nat → Int32} {t' : List Int32} (hP : P ≤ 21200) (h : zj_F P x sr a) (ht : zr_tt s' a' t') (h11 : s' 11 = sr 11) (hs : ∀ k, 13 ≤ k → s' k = sr k) (ha : ∀ k, k ≠ 0 ∧ k ≠ 6 → a' k = a k) : zj_F P (t', x.2) s' a' := by
  obtain ⟨h1, h2, h3, h4⟩ := h
  exact ⟨ht, h11.trans h2, h3.pool (fun j _ => congrFun (ha 1 (by decide)) j) (Nat.le_refl _) hP (fun k hk => ha k (by omega)), zr_res_k h4 hs (fun k hk => ha k (by omega))⟩
theorem zr_def_rm {P n : Nat} {a : Nat → Nat → Int32} {D : zv_D} (h : zr_def P a D) : zr_def P (zu a 7 (upd (a 7) n 0)) (zv_up D n none) := by
  intro j hj
  have e7 : (zu a 7 (upd (a 7) n 0)) 7 = upd (a 7) n 0 := rfl
  by_cases e : j = n
  · subst e
    rw [show zv_up D j none j = none from if_pos rfl, e7]
    exact ⟨fun _ => zi_upd _ _ _, fun L b z => by cases z⟩
  · rw [show zv_up D n none j = D j from if_neg e, e7, zi_updn _ _ e]
    exact h j hj
section ZJF
variable {L : Nat} {xs : Nat → Int32} {o : Nat → Int64} {sr : Nat → Int32} {a : Nat → Nat → Int32} {ex : List zm_E} {sl : Nat} {s : Nat → Int32} {r : Value} {el : Nat → Nat} {f g : Nat → Int32} {df : Nat → Option Nat} {N : zm_N} {d : Nat} {Q : zm_O → zm_H → Prop} {B S P : Nat} {x Y : zj_T} {y : zj_A} {p : Int64} {k : Int32}
theorem zj_rt (hB : zk_BS B S) (hK : zj_K B S Y ex sl s r el f df) (hF : zj_F P x sr a) (hw : zj_W x) (hP : P + 40 ≤ 21200) (hy : zj_tR p x y) (hd : 300 ≤ d)
    (K : ∀ (w : Int32) (P' : Nat) (sr' : Nat → Int32) (a' : Nat → Nat → Int32) (ex' : List zm_E) (sl' : Nat), (y.1 = 0 → w = y.2.1) → sr' 12 = y.1 → zj_F P' y.2.2 sr' a' → P' ≤ P + 40 ∨ P' ≤ 280 → zj_K (B + 1) (S + 4) Y ex' sl' s r el f df → Q (.inl (some (.int w))) (zk_H (zj_R L xs o sr' a') ex' sl' s r el f g df)) : zm_J N d 72 0 [(0, .ref 12), (1, .long p)] [] (zk_H (zj_R L xs o sr a) ex sl s r el f g df) Q := by
  obtain ⟨t, D, res⟩ := x
  have hF0 := hF
  obtain ⟨e1, e2, e3, e4⟩ := hF
  have hr := zj_K_r hB hK
  have hK' := zj_K_le (B' := B + 1) (S' := S + 4) (by omega) (by omega) hK
  have ht := e1.2.1
  rw [zj_eq]
  dsimp only at e1 e2 e3 e4
  refine zr_type hr (by omega) e1 (fun hb => ?_) (fun hb hl => ?_) (fun hb hl s' a' g1 g2 g3 g4 => ?_)
  · rw [← zj_eq]
    rcases hy with ⟨_, rfl⟩ | ⟨h, _⟩ | ⟨h, _⟩
    · exact K 0 P _ a ex sl (fun z => absurd z (by dsimp only; decide)) rfl (zj_F_12 1 hF0) (Or.inl (by omega)) hK'
    · exact absurd hb h
    · exact absurd hb h
  · rw [← zj_eq]
    rcases hy with ⟨h, _⟩ | ⟨_, _, rfl⟩ | ⟨_, h, _⟩
    · exact absurd h hb
    · exact K 0 P _ a ex sl (fun z => absurd z (by dsimp only; decide)) rfl (zj_F_12 2 hF0) (Or.inl (by omega)) hK'
    · exact absurd hl (Nat.not_lt.mpr h)
  · rw [← zj_eq]
    rcases hy with ⟨h, _⟩ | ⟨_, h, _⟩ | ⟨_, _, rfl⟩
    · exact absurd h hb
    · exact absurd h (Nat.not_lt.mpr hl)
    · exact K _ P s' a' ex sl (fun _ => rfl) g2 (zj_F_k (by omega) hF0 g1 (g3 11 (by decide)) (fun k hk => g3 k (by omega)) (fun k hk => g4 k hk.1)) (Or.inl (by omega)) hK'
theorem zj_rd (hB : zk_BS B S) (hK : zj_K B S Y ex sl s r el f df) (hF : zj_F P x sr a) (hw : zj_W x) (hP : P + 40 ≤ 21200) (hy : zj_dR x y) (hd : 300 ≤ d)
    (K : ∀ (w : Int32) (P' : Nat) (sr' : Nat → Int32) (a' : Nat → Nat → Int32) (ex' : List zm_E) (sl' : Nat), (y.1 = 0 → w = y.2.1) → sr' 12 = y.1 → zj_F P' y.2.2 sr' a' → P' ≤ P + 40 ∨ P' ≤ 280 → zj_K (B + 1) (S + 4) Y ex' sl' s r el f df → Q (.inl (some (.int w))) (zk_H (zj_R L xs o sr' a') ex' sl' s r el f g df)) : zm_J N d 76 0 [(0, .ref 12)] [] (zk_H (zj_R L xs o sr a) ex sl s r el f g df) Q := by
  obtain ⟨t, D, res⟩ := x
  have hF0 := hF
  obtain ⟨e1, e2, e3, e4⟩ := hF
  have hr := zj_K_r hB hK
  have hK' := zj_K_le (B' := B + 1) (S' := S + 4) (by omega) (by omega) hK
  have ht := e1.2.1
  rw [zj_eq]
  dsimp only at e1 e2 e3 e4
  have hrm : zr_rf ex (sl + 4) := by
    obtain ⟨va, ca, ka, q, _, _, h3, _⟩ := hK
    have := zk_I_room hB h3
    exact ⟨by omega, by omega⟩
  refine zr_define hrm (by omega) e1 e2 hP (fun hno f1 s' a' hn => ?_) (fun m L' b hdf f1 s' a' hm hys => ?_)
  · unfold zr_Hf
    rw [← zj_eq]
    rcases hy with ⟨_, rfl⟩ | ⟨m, L', b, h, _⟩
    · obtain ⟨n1, n2, n3, n4⟩ := hn
      exact K 0 P s' a' _ _ (fun z => absurd z (by dsimp only; decide)) n2 (zj_F_k (by omega) hF0 (zr_tt0 n1) (n3 11 (by decide)) (fun k hk => n3 k (by omega)) (fun k hk => n4 k hk.2)) (Or.inl (by omega)) (zj_K_ap _ 4 hK)
    · rw [hno] at h
      cases h
  · unfold zr_Hf
    rw [← zj_eq]
    rcases hy with ⟨h, _⟩ | ⟨m', L2, b2, h, rfl⟩
    · rw [hdf] at h
      cases h
    · rw [hdf] at h
      cases h
      obtain ⟨_, _, hb40⟩ := zv_df_w ht hdf
      have hys0 := hys
      obtain ⟨y1, y2, y3, y4, y5, y6, y7, y8, y9, y10, y11, y12⟩ := hys
      refine K _ (P + b.length) s' a' _ _ (fun _ => rfl) y2 ⟨zr_tt0 y1, y3, zr_def_up hw.1 e3 hP hb40 hys0, ?_⟩ (Or.inl (by omega)) (zj_K_ap _ 4 hK)
      refine ⟨fun e => (y4 43 (by decide)).trans (e4.1 e), fun v σ e => ?_⟩
      obtain ⟨g1, g2, g3⟩ := e4.2 v σ e
      refine ⟨(y4 43 (by decide)).trans g1, ?_, g3.pool y5 (by omega) (by omega) (fun k hk => y12 k (by omega)) (fun k hk => y4 k (by omega))⟩
      rw [y4 40 (by decide), y4 41 (by decide), y4 42 (by decide)]
      exact g2.up (Nat.le_refl _) (fun q _ => ⟨congrFun (y12 16 (by decide)) q, congrFun (y12 17 (by decide)) q⟩)
theorem zj_ra (hB : zk_BS B S) (hK : zj_K B S Y ex sl s r el f df) (hF : zj_F P x sr a) (hw : zj_W x) (hP : P + 40 ≤ 21200) (hy : zj_aR x y) (hd : 300 ≤ d)
    (K : ∀ (w : Int32) (P' : Nat) (sr' : Nat → Int32) (a' : Nat → Nat → Int32) (ex' : List zm_E) (sl' : Nat), (y.1 = 0 → w = y.2.1) → sr' 12 = y.1 → zj_F P' y.2.2 sr' a' → P' ≤ P + 40 ∨ P' ≤ 280 → zj_K (B + 1) (S + 4) Y ex' sl' s r el f df → Q (.inl (some (.int w))) (zk_H (zj_R L xs o sr' a') ex' sl' s r el f g df)) : zm_J N d 82 0 [(0, .ref 12)] [] (zk_H (zj_R L xs o sr a) ex sl s r el f g df) Q := by
  obtain ⟨t, D, res⟩ := x
  have hF0 := hF
  obtain ⟨e1, e2, e3, e4⟩ := hF
  have hr := zj_K_r hB hK
  have hK' := zj_K_le (B' := B + 1) (S' := S + 4) (by omega) (by omega) hK
  have ht := e1.2.1
  rw [zj_eq]
  dsimp only at e1 e2 e3 e4
  refine zr_ask hr (by omega) e1 hw.1 e3 (by omega) (fun hno s' a' hn => ?_) (fun hyes M' w s' a' hM has => ?_)
  · rw [← zj_eq]
    rcases hy with ⟨_, rfl⟩ | ⟨h, _⟩
    · obtain ⟨n1, n2, n3, n4⟩ := hn
      exact K 0 P s' a' ex sl (fun z => absurd z (by dsimp only; decide)) n2 (zj_F_k (by omega) hF0 (zr_tt0 n1) (n3 11 (by decide)) (fun k hk => n3 k (by omega)) (fun k hk => n4 k hk.2)) (Or.inl (by omega)) hK'
    · exact absurd h hno
  · rw [← zj_eq]
    rcases hy with ⟨h, _⟩ | ⟨_, ⟨e, σ, hE, rfl⟩ | ⟨v, σ, hE, rfl⟩⟩
    · exact absurd hyes h
    · dsimp only at hE
      rw [hE] at has
      obtain ⟨a1, a2, a3, a4⟩ := has
      have a4 : s' 12 = nI e ∧ (e = 2 ∨ e = 3 ∨ e = 4 ∨ e = 5) ∧ s' 43 = 0 := a4
      refine K w M' s' a' ex sl (fun z => ?_) a4.1 ⟨zr_tt0 a1, a2, a3, ⟨fun _ => a4.2.2, fun v σ h => (by cases h)⟩⟩ (Or.inr hM) hK'
      rcases a4.2.1 with rfl | rfl | rfl | rfl <;> exact absurd z (by dsimp only; decide)
    · dsimp only at hE
      rw [hE] at has
      obtain ⟨a1, a2, a3, a4⟩ := has
      have a4 : s' 12 = 0 ∧ s' 43 = 1 ∧ w = v.1 ∧ zr_val a' σ.2.2.1 (s' 40) (s' 41) (s' 42) v ∧ zr_St M' σ s' a' := a4
      exact K w M' s' a' ex sl (fun _ => a4.2.2.1) a4.1 ⟨zr_tt0 a1, a2, a3, ⟨fun h => (by cases h), fun v2 σ2 h => by cases h; exact ⟨a4.2.1, a4.2.2.2.1, a4.2.2.2.2⟩⟩⟩ (Or.inr hM) hK'
theorem zj_rn (hB : zk_BS B S) (hK : zj_K B S Y ex sl s r el f df) (hF : zj_F P x sr a) (hw : zj_W x) (hP : P + 40 ≤ 21200) (hy : zj_nR x y) (hd : 300 ≤ d)
    (K : ∀ (w : Int32) (P' : Nat) (sr' : Nat → Int32) (a' : Nat → Nat → Int32) (ex' : List zm_E) (sl' : Nat), (y.1 = 0 → w = y.2.1) → sr' 12 = y.1 → zj_F P' y.2.2 sr' a' → P' ≤ P + 40 ∨ P' ≤ 280 → zj_K (B + 1) (S + 4) Y ex' sl' s r el f df → Q (.inl (some (.int w))) (zk_H (zj_R L xs o sr' a') ex' sl' s r el f g df)) : zm_J N d 102 0 [(0, .ref 12)] [] (zk_H (zj_R L xs o sr a) ex sl s r el f g df) Q := by
  obtain ⟨t, D, res⟩ := x
  have hF0 := hF
  obtain ⟨e1, e2, e3, e4⟩ := hF
  have hr := zj_K_r hB hK
  have hK' := zj_K_le (B' := B + 1) (S' := S + 4) (by omega) (by omega) hK
  have ht := e1.2.1
  rw [zj_eq]
  dsimp only at e1 e2 e3 e4
  rcases hy with ⟨h, rfl⟩ | ⟨v, σ, h, hy⟩
  · dsimp only at h
    refine (zr_num0 (e4.1 h)).mono (fun z G hz => ?_)
    obtain ⟨rfl, rfl⟩ := hz
    rw [← zj_eq]
    exact K 0 P _ a ex sl (fun z => absurd z (by dsimp only; decide)) rfl (zj_F_12 1 hF0) (Or.inl (by omega)) hK'
  · dsimp only at h
    obtain ⟨g1, g2, g3⟩ := e4.2 v σ h
    rcases hy with ⟨h0, rfl⟩ | ⟨h0, rfl⟩
    · refine (zr_num1 g1 (g2.1.trans h0)).mono (fun z G hz => ?_)
      obtain ⟨rfl, rfl⟩ := hz
      rw [← zj_eq]
      refine K _ P _ a ex sl (fun _ => ?_) rfl (zj_F_12 0 hF0) (Or.inl (by omega)) hK'
      rcases g2.2 with z | z | z | z
      · exact z.2
      · exact absurd (h0.symm.trans z) (by decide)
      · exact absurd (h0.symm.trans z.1) (by decide)
      · exact absurd (h0.symm.trans z.1) (by decide)
    · refine (zr_num2 g1 (fun z => h0 (g2.1.symm.trans z))).mono (fun z G hz => ?_)
      obtain ⟨rfl, rfl⟩ := hz
      rw [← zj_eq]
      exact K 0 P _ a ex sl (fun z => absurd z (by dsimp only; decide)) rfl (zj_F_12 2 hF0) (Or.inl (by omega)) hK'
theorem zj_rh (hB : zk_BS B S) (hK : zj_K B S Y ex sl s r el f df) (hF : zj_F P x sr a) (hw : zj_W x) (hP : P + 40 ≤ 21200) (hy : zj_hR x y) (hd : 300 ≤ d)
    (K : ∀ (w : Int32) (P' : Nat) (sr' : Nat → Int32) (a' : Nat → Nat → Int32) (ex' : List zm_E) (sl' : Nat), (y.1 = 0 → w = y.2.1) → sr' 12 = y.1 → zj_F P' y.2.2 sr' a' → P' ≤ P + 40 ∨ P' ≤ 280 → zj_K (B + 1) (S + 4) Y ex' sl' s r el f df → Q (.inl (some (.int w))) (zk_H (zj_R L xs o sr' a') ex' sl' s r el f g df)) : zm_J N d 103 0 [(0, .ref 12)] [] (zk_H (zj_R L xs o sr a) ex sl s r el f g df) Q := by
  obtain ⟨t, D, res⟩ := x
  have hF0 := hF
  obtain ⟨e1, e2, e3, e4⟩ := hF
  have hr := zj_K_r hB hK
  have hK' := zj_K_le (B' := B + 1) (S' := S + 4) (by omega) (by omega) hK
  have ht := e1.2.1
  rw [zj_eq]
  dsimp only at e1 e2 e3 e4
  refine zr_head hr (by omega) hw.1 e3 hw.2 e4 (fun e s' a' g1 g2 g3 g4 g5 => ?_) (fun u σ' s' a' g1 g2 g3 g4 g5 g6 => ?_)
  · rw [← zj_eq]
    rcases hy with ⟨e', h, rfl⟩ | ⟨u', σ2, v, σ, h, _, _⟩
    · dsimp only at h
      rw [g1] at h
      cases h
      refine K 0 P s' a' ex sl (fun z => ?_) g3 ⟨⟨(g5.2 8 (by decide)).trans e1.1, e1.2.1, by rw [g5.1 0 (by decide)]; exact e1.2.2⟩, (g5.2 11 (by decide)).trans e2, e3.up g5.1, ⟨fun _ => g4, fun v σ h => (by cases h)⟩⟩ (Or.inl (by omega)) hK'
      rcases g2 with rfl | rfl | rfl | rfl <;> exact absurd z (by dsimp only; decide)
    · dsimp only at h
      rw [g1] at h
      cases h
  · rw [← zj_eq]
    rcases hy with ⟨e', h, _⟩ | ⟨u', σ2, v, σ, h, hv, rfl⟩
    · dsimp only at h
      rw [g1] at h
      cases h
    · dsimp only at h
      rw [g1] at h
      cases h
      exact K _ P s' a' ex sl (fun _ => rfl) g2 ⟨⟨(g6.2 8 (by decide)).trans e1.1, e1.2.1, by rw [g6.1 0 (by decide)]; exact e1.2.2⟩, (g6.2 11 (by decide)).trans e2, e3.up g6.1, ⟨fun h => (by cases h), fun v2 σ2 h => by cases h; exact ⟨g3, g4 v σ hv, g5⟩⟩⟩ (Or.inl (by omega)) hK'
theorem zj_rl (hB : zk_BS B S) (hK : zj_K B S Y ex sl s r el f df) (hF : zj_F P x sr a) (hw : zj_W x) (hP : P + 40 ≤ 21200) (hy : zj_lR x y) (hd : 300 ≤ d)
    (K : ∀ (w : Int32) (P' : Nat) (sr' : Nat → Int32) (a' : Nat → Nat → Int32) (ex' : List zm_E) (sl' : Nat), (y.1 = 0 → w = y.2.1) → sr' 12 = y.1 → zj_F P' y.2.2 sr' a' → P' ≤ P + 40 ∨ P' ≤ 280 → zj_K (B + 1) (S + 4) Y ex' sl' s r el f df → Q (.inl (some (.int w))) (zk_H (zj_R L xs o sr' a') ex' sl' s r el f g df)) : zm_J N d 105 0 [(0, .ref 12)] [] (zk_H (zj_R L xs o sr a) ex sl s r el f g df) Q := by
  obtain ⟨t, D, res⟩ := x
  have hF0 := hF
  obtain ⟨e1, e2, e3, e4⟩ := hF
  have hr := zj_K_r hB hK
  have hK' := zj_K_le (B' := B + 1) (S' := S + 4) (by omega) (by omega) hK
  have ht := e1.2.1
  rw [zj_eq]
  dsimp only at e1 e2 e3 e4
  refine zr_tail hr (by omega) hw.1 e3 hw.2 e4 (fun e s' a' g1 g2 g3 g4 g5 => ?_) (fun u σ' s' a' g1 g2 g3 g4 g5 g6 => ?_)
  · rw [← zj_eq]
    rcases hy with ⟨e', h, rfl⟩ | ⟨u', σ2, h, _⟩
    · dsimp only at h
      rw [g1] at h
      cases h
      refine K 0 P s' a' ex sl (fun z => ?_) g3 ⟨⟨(g5.2 8 (by decide)).trans e1.1, e1.2.1, by rw [g5.1 0 (by decide)]; exact e1.2.2⟩, (g5.2 11 (by decide)).trans e2, e3.up g5.1, ⟨fun _ => g4, fun v σ h => (by cases h)⟩⟩ (Or.inl (by omega)) hK'
      rcases g2 with rfl | rfl | rfl | rfl <;> exact absurd z (by dsimp only; decide)
    · dsimp only at h
      rw [g1] at h
      cases h
  · rw [← zj_eq]
    rcases hy with ⟨e', h, _⟩ | ⟨u', σ2, h, rfl⟩
    · dsimp only at h
      rw [g1] at h
      cases h
    · dsimp only at h
      rw [g1] at h
      cases h
      exact K _ P s' a' ex sl (fun _ => rfl) g2 ⟨⟨(g6.2 8 (by decide)).trans e1.1, e1.2.1, by rw [g6.1 0 (by decide)]; exact e1.2.2⟩, (g6.2 11 (by decide)).trans e2, e3.up g6.1, ⟨fun h => (by cases h), fun v2 σ2 h => by cases h; exact ⟨g3, g4, g5⟩⟩⟩ (Or.inl (by omega)) hK'
theorem zj_rm (hB : zk_BS B S) (hK : zj_K B S Y ex sl s r el f df) (hF : zj_F P x sr a) (hw : zj_W x) (hP : P + 40 ≤ 21200) (hy : zj_mR k x y) (hd : 300 ≤ d)
    (K : ∀ (P' : Nat) (sr' : Nat → Int32) (a' : Nat → Nat → Int32) (ex' : List zm_E) (sl' : Nat), sr' 12 = y.1 → zj_F P' y.2.2 sr' a' → P' ≤ P + 40 ∨ P' ≤ 280 → zj_K (B + 1) (S + 4) Y ex' sl' s r el f df → Q (.inl none) (zk_H (zj_R L xs o sr' a') ex' sl' s r el f g df)) : zm_J N d 106 0 [(0, .ref 12), (1, .int k)] [] (zk_H (zj_R L xs o sr a) ex sl s r el f g df) Q := by
  obtain ⟨t, D, res⟩ := x
  have hF0 := hF
  obtain ⟨e1, e2, e3, e4⟩ := hF
  have hr := zj_K_r hB hK
  have hK' := zj_K_le (B' := B + 1) (S' := S + 4) (by omega) (by omega) hK
  have ht := e1.2.1
  rw [zj_eq]
  dsimp only at e1 e2 e3 e4
  rcases hy with ⟨h, rfl⟩ | ⟨n, hn, rfl, ⟨h, rfl⟩ | ⟨z, h, rfl⟩⟩
  · refine (zr_rem1 hr h (by omega)).mono (fun z G hz => ?_)
    obtain ⟨rfl, rfl⟩ := hz
    rw [← zj_eq]
    exact K P _ a ex sl rfl (zj_F_12 1 hF0) (Or.inl (by omega)) hK'
  · dsimp only at h
    refine (zr_rem2 hr hn ((e3 n hn).1 h) (by omega)).mono (fun z G hz => ?_)
    obtain ⟨rfl, rfl⟩ := hz
    rw [← zj_eq]
    refine K P _ _ ex sl rfl ⟨e1, e2, ?_, zr_res_k e4 (fun k hk => zu_ne _ _ (by omega)) (fun k hk => zu_ne _ _ (by omega))⟩ (Or.inl (by omega)) hK'
    have e := zr_def_rm (n := n) e3
    rw [show zv_up D n none = D from funext fun j => by unfold zv_up; split; (rename_i hj; rw [hj, h]); rfl] at e
    exact e
  · dsimp only at h
    obtain ⟨L', b⟩ := z
    refine (zr_rem0 hr hn ((e3 n hn).2 L' b h).1 (by omega)).mono (fun z G hz => ?_)
    obtain ⟨rfl, rfl⟩ := hz
    rw [← zj_eq]
    exact K P _ _ ex sl rfl ⟨e1, e2, zr_def_rm e3, zr_res_k e4 (fun k hk => zu_ne _ _ (by omega)) (fun k hk => zu_ne _ _ (by omega))⟩ (Or.inl (by omega)) hK'
end ZJF

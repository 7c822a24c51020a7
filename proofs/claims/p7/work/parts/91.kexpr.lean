/-! THE CLASS READS AN EXPRESSION -/
def zk_xt (ex ex' : List zm_E) : Prop := ∀ (i : Nat) (x : zm_E), ex[i]? = some x → ex'[i]? = some x
theorem zk_xt.refl (ex : List zm_E) : zk_xt ex ex := fun _ _ h => h
theorem zk_xt.trans {a b c : List zm_E} (h : zk_xt a b) (k : zk_xt b c) : zk_xt a c := fun i x e => k i x (h i x e)
theorem zk_xt_ap (ex : List zm_E) (c : zm_E) : zk_xt ex (zk_ap ex c) := fun _ _ h => zk_ap_old h
theorem zk_xt.de {a b : List zm_E} (h : zk_xt a b) : zk_de a b := fun i _ _ _ e => h i _ e
def zk_fs (s s' : Nat → Int32) : Prop := ∀ k, k ≠ 6 → k ≠ 9 → k ≠ 10 → s' k = s k
theorem zk_fs.refl (s : Nat → Int32) : zk_fs s s := fun _ _ _ _ => rfl
theorem zk_fs.trans {a b c : Nat → Int32} (h : zk_fs a b) (k : zk_fs b c) : zk_fs a c := fun i h1 h2 h3 => (k i h1 h2 h3).trans (h i h1 h2 h3)
theorem zk_I_fs {B S : Nat} {ex : List zm_E} {sl : Nat} {s s' : Nat → Int32} {el : Nat → Nat} {va ca ka : List Nat} {q : Nat × Nat × Nat} (h : zk_fs s s') (k : zk_I B S ex sl s el va ca ka q) : zk_I B S ex sl s' el va ca ka q := zk_I_s (h 14 (by decide) (by decide) (by decide)) (h 16 (by decide) (by decide) (by decide)) (h 18 (by decide) (by decide) (by decide)) k
theorem zk_I_le {B S B' S' : Nat} {ex : List zm_E} {sl : Nat} {s : Nat → Int32} {el : Nat → Nat} {va ca ka : List Nat} {q : Nat × Nat × Nat} (hB : B ≤ B') (hS : S ≤ S') (k : zk_I B S ex sl s el va ca ka q) : zk_I B' S' ex sl s el va ca ka q := by
  obtain ⟨h1, h2, h3, h4, ⟨b1, b2⟩, h6⟩ := k
  exact ⟨h1, h2, h3, h4, ⟨by omega, by omega⟩, h6⟩
theorem zk_BS.le {B S B' S' : Nat} (h : zk_BS B' S') (hB : B ≤ B') (hS : S ≤ S') : zk_BS B S := ⟨by have := h.1; omega, by have := h.2; omega⟩
section ZKX
variable {R : Nat → zm_E} {ex : List zm_E} {sl : Nat} {s : Nat → Int32} {r : Value} {el : Nat → Nat} {f g : Nat → Int32} {df : Nat → Option Nat} {N : zm_N} {d : Nat} {Q : zm_O → zm_H → Prop} {B S : Nat} {va ca ka : List Nat} {q : Nat × Nat × Nat}
theorem zk_sl (ex : List zm_E) (a b : zm_E) : zm_set (zk_H R (zk_ap ex a) sl s r el f g df) (ex.length + 37) b = zk_H R (zk_ap ex b) sl s r el f g df := by
  rw [zk_set, zk_setl]
theorem zk_throw2 {mi pc xk : Nat} {lv : zm_L} {st : List Value} (hB : zk_BS B S) (h : zk_I B S ex sl s el va ca ka q) (hok : zm_okx mi pc xk) (hd : 7 ≤ d) (hw : (st.map fun v => v.category).sum + 95 ≤ zm_w * 7) (K : ∀ p, zk_I (B + 1) (S + 6) (zk_ap ex (Sum.inr (zm_cl.length, []) : zm_E)) (sl + 6) s el va ca ka q → Q (.inr (xk, p)) (zk_H R (zk_ap ex (Sum.inr (zm_cl.length, []) : zm_E)) (sl + 6) s r el f g df)) : zm_J N d mi pc lv st (zk_H R ex sl s r el f g df) Q := by
  have hrm := zk_I_room hB h
  refine zm_J_throw hok hd hw ?_ (K _ (zk_I_ap _ 6 h))
  unfold zm_room
  rw [Bool.and_eq_true, decide_eq_true_eq, decide_eq_true_eq]
  exact ⟨by show ex.length + 37 + 1 ≤ zm_C; omega, by show sl + 6 ≤ zm_S; omega⟩
/-- what a refused text leaves -/
def zk_RX (B S : Nat) (R : Nat → zm_E) (r : Value) (el : Nat → Nat) (f g : Nat → Int32) (df : Nat → Option Nat) (va ca ka : List Nat) (q : Nat × Nat × Nat) (ex : List zm_E) (s : Nat → Int32) (z : zm_O) (G : zm_H) : Prop := ∃ (ex' : List zm_E) (sl' : Nat) (s' : Nat → Int32) (x : Nat), z = .inr (0, x) ∧ G = zk_H R ex' sl' s' r el f g df ∧ zk_I B S ex' sl' s' el va ca ka q ∧ zk_xt ex ex' ∧ zk_fs s s'
theorem zk_RX_tr {ex' : List zm_E} {s' : Nat → Int32} {B' S' : Nat} (h : zk_xt ex ex') (hs : zk_fs s s') (hB : B ≤ B') (hS : S ≤ S') {z : zm_O} {G : zm_H} (k : zk_RX B S R r el f g df va ca ka q ex' s' z G) : zk_RX B' S' R r el f g df va ca ka q ex s z G := by
  obtain ⟨e2, l2, s2, x, k1, k2, k3, k4, k5⟩ := k
  exact ⟨e2, l2, s2, x, k1, k2, zk_I_le hB hS k3, h.trans k4, hs.trans k5⟩
theorem zk_k_rx {mi pc : Nat} {lv : zm_L} {rest : List Value} {z : zm_O} {G : zm_H} (k : zk_RX B S R r el f g df va ca ka q ex s z G) (h : Q z G) : zk_k N d mi pc lv rest Q z G := by
  obtain ⟨e2, l2, s2, x, k1, k2⟩ := k
  subst k1
  exact h
theorem zk_ref1 : zm_J N d 20 0 [(0, .ref 3), (1, .int 1)] [] (zk_H R ex sl s r el f g df) (fun z G' => z = .inl none ∧ G' = (zk_H R ex sl s r el f g df)) := by
  refine zm_J_run zm_T 2 (pc' := 22) (lv' := [(0, .ref 3), (1, .int 1)]) (st' := []) (G' := (zk_H R ex sl s r el f g df)) rfl ?_
  exact zm_J_fin zm_T rfl rfl ⟨rfl, rfl⟩
theorem zk_ref0 (hB : zk_BS B S) (h : zk_I B S ex sl s el va ca ka q) (hd : 7 ≤ d) (K : ∀ z G, zk_RX (B + 1) (S + 6) R r el f g df va ca ka q ex s z G → Q z G) : zm_J N d 20 0 [(0, .ref 3), (1, .int 0)] [] (zk_H R ex sl s r el f g df) Q := by
  refine zm_J_run zm_T 6 (pc' := 12) (lv' := [(0, .ref 3), (1, .int 0)]) (st' := []) (G' := (zk_H R ex sl (zu s 6 (s 9)) r el f g df)) rfl ?_
  exact zk_throw2 (s := zu s 6 (s 9)) hB (zk_I_s rfl rfl rfl h) zx_20_12 (by omega) (by decide) (fun p k => K _ _ ⟨_, _, _, p, rfl, rfl, k, zk_xt_ap _ _, fun i h1 _ _ => zk_une h1⟩)
theorem zk_xi0 {sg ix : Int32} (hsg : 0 ≤ sg ∧ sg ≤ 65535) : zm_J N (d + 1) 31 0 [(0, .ref (ex.length + 37)), (1, .int sg), (2, .int ix), (3, .null), (4, .null), (5, .null)] [] (zk_H R (zk_ap ex (Sum.inr (7, [.int 0, .int 0, .null, .null, .null]) : zm_E)) sl s r el f g df) (fun z G' => z = .inl none ∧ G' = zk_H R (zk_ap ex (Sum.inr (7, [.int sg, .int ix, .null, .null, .null]) : zm_E)) sl s r el f g df) := by
  refine zm_J_run zm_T 1 (pc' := 1) (lv' := [(0, .ref (ex.length + 37)), (1, .int sg), (2, .int ix), (3, .null), (4, .null), (5, .null)]) (st' := [.ref (ex.length + 37)]) (G' := (zk_H R (zk_ap ex (Sum.inr (7, [.int 0, .int 0, .null, .null, .null]) : zm_E)) sl s r el f g df)) rfl ?_
  refine zm_J_O (rest := []) (zm_T.1 31 1 _ rfl).1 zc_31_1 (Nat.le_of_ble_eq_true rfl) ?_
  refine zm_J_run zm_T 2 (pc' := 6) (lv' := [(0, .ref (ex.length + 37)), (1, .int sg), (2, .int ix), (3, .null), (4, .null), (5, .null)]) (st' := [.int sg, .ref (ex.length + 37)]) (G' := (zk_H R (zk_ap ex (Sum.inr (7, [.int 0, .int 0, .null, .null, .null]) : zm_E)) sl s r el f g df)) rfl ?_
  refine zg_pf (fs := [.int 0, .int 0, .null, .null, .null]) (G' := (zk_H R (zk_ap ex (Sum.inr (7, [.int sg, .int 0, .null, .null, .null]) : zm_E)) sl s r el f g df)) rfl (zk_at (zk_ap_new ex _)) (Nat.le_add_left 2 _) (Nat.le_of_ble_eq_true rfl) (decide_eq_true hsg) (zk_sl ..) ?_
  refine zm_J_run zm_T 2 (pc' := 11) (lv' := [(0, .ref (ex.length + 37)), (1, .int sg), (2, .int ix), (3, .null), (4, .null), (5, .null)]) (st' := [.int ix, .ref (ex.length + 37)]) (G' := (zk_H R (zk_ap ex (Sum.inr (7, [.int sg, .int 0, .null, .null, .null]) : zm_E)) sl s r el f g df)) rfl ?_
  refine zg_pf (fs := [.int sg, .int 0, .null, .null, .null]) (G' := (zk_H R (zk_ap ex (Sum.inr (7, [.int sg, .int ix, .null, .null, .null]) : zm_E)) sl s r el f g df)) rfl (zk_at (zk_ap_new ex _)) (Nat.le_add_left 2 _) (Nat.le_of_ble_eq_true rfl) rfl (zk_sl ..) ?_
  refine zm_J_run zm_T 2 (pc' := 16) (lv' := [(0, .ref (ex.length + 37)), (1, .int sg), (2, .int ix), (3, .null), (4, .null), (5, .null)]) (st' := [.null, .ref (ex.length + 37)]) (G' := (zk_H R (zk_ap ex (Sum.inr (7, [.int sg, .int ix, .null, .null, .null]) : zm_E)) sl s r el f g df)) rfl ?_
  refine zg_pf (fs := [.int sg, .int ix, .null, .null, .null]) (G' := (zk_H R (zk_ap ex (Sum.inr (7, [.int sg, .int ix, .null, .null, .null]) : zm_E)) sl s r el f g df)) rfl (zk_at (zk_ap_new ex _)) (Nat.le_add_left 2 _) (Nat.le_of_ble_eq_true rfl) rfl (zk_sl ..) ?_
  refine zm_J_run zm_T 2 (pc' := 22) (lv' := [(0, .ref (ex.length + 37)), (1, .int sg), (2, .int ix), (3, .null), (4, .null), (5, .null)]) (st' := [.null, .ref (ex.length + 37)]) (G' := (zk_H R (zk_ap ex (Sum.inr (7, [.int sg, .int ix, .null, .null, .null]) : zm_E)) sl s r el f g df)) rfl ?_
  refine zg_pf (fs := [.int sg, .int ix, .null, .null, .null]) (G' := (zk_H R (zk_ap ex (Sum.inr (7, [.int sg, .int ix, .null, .null, .null]) : zm_E)) sl s r el f g df)) rfl (zk_at (zk_ap_new ex _)) (Nat.le_add_left 2 _) (Nat.le_of_ble_eq_true rfl) rfl (zk_sl ..) ?_
  refine zm_J_run zm_T 2 (pc' := 28) (lv' := [(0, .ref (ex.length + 37)), (1, .int sg), (2, .int ix), (3, .null), (4, .null), (5, .null)]) (st' := [.null, .ref (ex.length + 37)]) (G' := (zk_H R (zk_ap ex (Sum.inr (7, [.int sg, .int ix, .null, .null, .null]) : zm_E)) sl s r el f g df)) rfl ?_
  refine zg_pf (fs := [.int sg, .int ix, .null, .null, .null]) (G' := (zk_H R (zk_ap ex (Sum.inr (7, [.int sg, .int ix, .null, .null, .null]) : zm_E)) sl s r el f g df)) rfl (zk_at (zk_ap_new ex _)) (Nat.le_add_left 2 _) (Nat.le_of_ble_eq_true rfl) rfl (zk_sl ..) ?_
  exact zm_J_fin zm_T rfl rfl ⟨rfl, rfl⟩
theorem zk_xi1 {sg ix : Int32} {a0 : Nat} (hsg : 0 ≤ sg ∧ sg ≤ 65535) : zm_J N (d + 1) 31 0 [(0, .ref (ex.length + 37)), (1, .int sg), (2, .int ix), (3, .ref a0), (4, .null), (5, .null)] [] (zk_H R (zk_ap ex (Sum.inr (7, [.int 0, .int 0, .null, .null, .null]) : zm_E)) sl s r el f g df) (fun z G' => z = .inl none ∧ G' = zk_H R (zk_ap ex (Sum.inr (7, [.int sg, .int ix, .ref a0, .null, .null]) : zm_E)) sl s r el f g df) := by
  refine zm_J_run zm_T 1 (pc' := 1) (lv' := [(0, .ref (ex.length + 37)), (1, .int sg), (2, .int ix), (3, .ref a0), (4, .null), (5, .null)]) (st' := [.ref (ex.length + 37)]) (G' := (zk_H R (zk_ap ex (Sum.inr (7, [.int 0, .int 0, .null, .null, .null]) : zm_E)) sl s r el f g df)) rfl ?_
  refine zm_J_O (rest := []) (zm_T.1 31 1 _ rfl).1 zc_31_1 (Nat.le_of_ble_eq_true rfl) ?_
  refine zm_J_run zm_T 2 (pc' := 6) (lv' := [(0, .ref (ex.length + 37)), (1, .int sg), (2, .int ix), (3, .ref a0), (4, .null), (5, .null)]) (st' := [.int sg, .ref (ex.length + 37)]) (G' := (zk_H R (zk_ap ex (Sum.inr (7, [.int 0, .int 0, .null, .null, .null]) : zm_E)) sl s r el f g df)) rfl ?_
  refine zg_pf (fs := [.int 0, .int 0, .null, .null, .null]) (G' := (zk_H R (zk_ap ex (Sum.inr (7, [.int sg, .int 0, .null, .null, .null]) : zm_E)) sl s r el f g df)) rfl (zk_at (zk_ap_new ex _)) (Nat.le_add_left 2 _) (Nat.le_of_ble_eq_true rfl) (decide_eq_true hsg) (zk_sl ..) ?_
  refine zm_J_run zm_T 2 (pc' := 11) (lv' := [(0, .ref (ex.length + 37)), (1, .int sg), (2, .int ix), (3, .ref a0), (4, .null), (5, .null)]) (st' := [.int ix, .ref (ex.length + 37)]) (G' := (zk_H R (zk_ap ex (Sum.inr (7, [.int sg, .int 0, .null, .null, .null]) : zm_E)) sl s r el f g df)) rfl ?_
  refine zg_pf (fs := [.int sg, .int 0, .null, .null, .null]) (G' := (zk_H R (zk_ap ex (Sum.inr (7, [.int sg, .int ix, .null, .null, .null]) : zm_E)) sl s r el f g df)) rfl (zk_at (zk_ap_new ex _)) (Nat.le_add_left 2 _) (Nat.le_of_ble_eq_true rfl) rfl (zk_sl ..) ?_
  refine zm_J_run zm_T 2 (pc' := 16) (lv' := [(0, .ref (ex.length + 37)), (1, .int sg), (2, .int ix), (3, .ref a0), (4, .null), (5, .null)]) (st' := [.ref a0, .ref (ex.length + 37)]) (G' := (zk_H R (zk_ap ex (Sum.inr (7, [.int sg, .int ix, .null, .null, .null]) : zm_E)) sl s r el f g df)) rfl ?_
  refine zg_pf (fs := [.int sg, .int ix, .null, .null, .null]) (G' := (zk_H R (zk_ap ex (Sum.inr (7, [.int sg, .int ix, .ref a0, .null, .null]) : zm_E)) sl s r el f g df)) rfl (zk_at (zk_ap_new ex _)) (Nat.le_add_left 2 _) (Nat.le_of_ble_eq_true rfl) rfl (zk_sl ..) ?_
  refine zm_J_run zm_T 2 (pc' := 22) (lv' := [(0, .ref (ex.length + 37)), (1, .int sg), (2, .int ix), (3, .ref a0), (4, .null), (5, .null)]) (st' := [.null, .ref (ex.length + 37)]) (G' := (zk_H R (zk_ap ex (Sum.inr (7, [.int sg, .int ix, .ref a0, .null, .null]) : zm_E)) sl s r el f g df)) rfl ?_
  refine zg_pf (fs := [.int sg, .int ix, .ref a0, .null, .null]) (G' := (zk_H R (zk_ap ex (Sum.inr (7, [.int sg, .int ix, .ref a0, .null, .null]) : zm_E)) sl s r el f g df)) rfl (zk_at (zk_ap_new ex _)) (Nat.le_add_left 2 _) (Nat.le_of_ble_eq_true rfl) rfl (zk_sl ..) ?_
  refine zm_J_run zm_T 2 (pc' := 28) (lv' := [(0, .ref (ex.length + 37)), (1, .int sg), (2, .int ix), (3, .ref a0), (4, .null), (5, .null)]) (st' := [.null, .ref (ex.length + 37)]) (G' := (zk_H R (zk_ap ex (Sum.inr (7, [.int sg, .int ix, .ref a0, .null, .null]) : zm_E)) sl s r el f g df)) rfl ?_
  refine zg_pf (fs := [.int sg, .int ix, .ref a0, .null, .null]) (G' := (zk_H R (zk_ap ex (Sum.inr (7, [.int sg, .int ix, .ref a0, .null, .null]) : zm_E)) sl s r el f g df)) rfl (zk_at (zk_ap_new ex _)) (Nat.le_add_left 2 _) (Nat.le_of_ble_eq_true rfl) rfl (zk_sl ..) ?_
  exact zm_J_fin zm_T rfl rfl ⟨rfl, rfl⟩
theorem zk_xi2 {sg ix : Int32} {a0 a1 : Nat} (hsg : 0 ≤ sg ∧ sg ≤ 65535) : zm_J N (d + 1) 31 0 [(0, .ref (ex.length + 37)), (1, .int sg), (2, .int ix), (3, .ref a0), (4, .ref a1), (5, .null)] [] (zk_H R (zk_ap ex (Sum.inr (7, [.int 0, .int 0, .null, .null, .null]) : zm_E)) sl s r el f g df) (fun z G' => z = .inl none ∧ G' = zk_H R (zk_ap ex (Sum.inr (7, [.int sg, .int ix, .ref a0, .ref a1, .null]) : zm_E)) sl s r el f g df) := by
  refine zm_J_run zm_T 1 (pc' := 1) (lv' := [(0, .ref (ex.length + 37)), (1, .int sg), (2, .int ix), (3, .ref a0), (4, .ref a1), (5, .null)]) (st' := [.ref (ex.length + 37)]) (G' := (zk_H R (zk_ap ex (Sum.inr (7, [.int 0, .int 0, .null, .null, .null]) : zm_E)) sl s r el f g df)) rfl ?_
  refine zm_J_O (rest := []) (zm_T.1 31 1 _ rfl).1 zc_31_1 (Nat.le_of_ble_eq_true rfl) ?_
  refine zm_J_run zm_T 2 (pc' := 6) (lv' := [(0, .ref (ex.length + 37)), (1, .int sg), (2, .int ix), (3, .ref a0), (4, .ref a1), (5, .null)]) (st' := [.int sg, .ref (ex.length + 37)]) (G' := (zk_H R (zk_ap ex (Sum.inr (7, [.int 0, .int 0, .null, .null, .null]) : zm_E)) sl s r el f g df)) rfl ?_
  refine zg_pf (fs := [.int 0, .int 0, .null, .null, .null]) (G' := (zk_H R (zk_ap ex (Sum.inr (7, [.int sg, .int 0, .null, .null, .null]) : zm_E)) sl s r el f g df)) rfl (zk_at (zk_ap_new ex _)) (Nat.le_add_left 2 _) (Nat.le_of_ble_eq_true rfl) (decide_eq_true hsg) (zk_sl ..) ?_
  refine zm_J_run zm_T 2 (pc' := 11) (lv' := [(0, .ref (ex.length + 37)), (1, .int sg), (2, .int ix), (3, .ref a0), (4, .ref a1), (5, .null)]) (st' := [.int ix, .ref (ex.length + 37)]) (G' := (zk_H R (zk_ap ex (Sum.inr (7, [.int sg, .int 0, .null, .null, .null]) : zm_E)) sl s r el f g df)) rfl ?_
  refine zg_pf (fs := [.int sg, .int 0, .null, .null, .null]) (G' := (zk_H R (zk_ap ex (Sum.inr (7, [.int sg, .int ix, .null, .null, .null]) : zm_E)) sl s r el f g df)) rfl (zk_at (zk_ap_new ex _)) (Nat.le_add_left 2 _) (Nat.le_of_ble_eq_true rfl) rfl (zk_sl ..) ?_
  refine zm_J_run zm_T 2 (pc' := 16) (lv' := [(0, .ref (ex.length + 37)), (1, .int sg), (2, .int ix), (3, .ref a0), (4, .ref a1), (5, .null)]) (st' := [.ref a0, .ref (ex.length + 37)]) (G' := (zk_H R (zk_ap ex (Sum.inr (7, [.int sg, .int ix, .null, .null, .null]) : zm_E)) sl s r el f g df)) rfl ?_
  refine zg_pf (fs := [.int sg, .int ix, .null, .null, .null]) (G' := (zk_H R (zk_ap ex (Sum.inr (7, [.int sg, .int ix, .ref a0, .null, .null]) : zm_E)) sl s r el f g df)) rfl (zk_at (zk_ap_new ex _)) (Nat.le_add_left 2 _) (Nat.le_of_ble_eq_true rfl) rfl (zk_sl ..) ?_
  refine zm_J_run zm_T 2 (pc' := 22) (lv' := [(0, .ref (ex.length + 37)), (1, .int sg), (2, .int ix), (3, .ref a0), (4, .ref a1), (5, .null)]) (st' := [.ref a1, .ref (ex.length + 37)]) (G' := (zk_H R (zk_ap ex (Sum.inr (7, [.int sg, .int ix, .ref a0, .null, .null]) : zm_E)) sl s r el f g df)) rfl ?_
  refine zg_pf (fs := [.int sg, .int ix, .ref a0, .null, .null]) (G' := (zk_H R (zk_ap ex (Sum.inr (7, [.int sg, .int ix, .ref a0, .ref a1, .null]) : zm_E)) sl s r el f g df)) rfl (zk_at (zk_ap_new ex _)) (Nat.le_add_left 2 _) (Nat.le_of_ble_eq_true rfl) rfl (zk_sl ..) ?_
  refine zm_J_run zm_T 2 (pc' := 28) (lv' := [(0, .ref (ex.length + 37)), (1, .int sg), (2, .int ix), (3, .ref a0), (4, .ref a1), (5, .null)]) (st' := [.null, .ref (ex.length + 37)]) (G' := (zk_H R (zk_ap ex (Sum.inr (7, [.int sg, .int ix, .ref a0, .ref a1, .null]) : zm_E)) sl s r el f g df)) rfl ?_
  refine zg_pf (fs := [.int sg, .int ix, .ref a0, .ref a1, .null]) (G' := (zk_H R (zk_ap ex (Sum.inr (7, [.int sg, .int ix, .ref a0, .ref a1, .null]) : zm_E)) sl s r el f g df)) rfl (zk_at (zk_ap_new ex _)) (Nat.le_add_left 2 _) (Nat.le_of_ble_eq_true rfl) rfl (zk_sl ..) ?_
  exact zm_J_fin zm_T rfl rfl ⟨rfl, rfl⟩
theorem zk_xi3 {sg ix : Int32} {a0 a1 a2 : Nat} (hsg : 0 ≤ sg ∧ sg ≤ 65535) : zm_J N (d + 1) 31 0 [(0, .ref (ex.length + 37)), (1, .int sg), (2, .int ix), (3, .ref a0), (4, .ref a1), (5, .ref a2)] [] (zk_H R (zk_ap ex (Sum.inr (7, [.int 0, .int 0, .null, .null, .null]) : zm_E)) sl s r el f g df) (fun z G' => z = .inl none ∧ G' = zk_H R (zk_ap ex (Sum.inr (7, [.int sg, .int ix, .ref a0, .ref a1, .ref a2]) : zm_E)) sl s r el f g df) := by
  refine zm_J_run zm_T 1 (pc' := 1) (lv' := [(0, .ref (ex.length + 37)), (1, .int sg), (2, .int ix), (3, .ref a0), (4, .ref a1), (5, .ref a2)]) (st' := [.ref (ex.length + 37)]) (G' := (zk_H R (zk_ap ex (Sum.inr (7, [.int 0, .int 0, .null, .null, .null]) : zm_E)) sl s r el f g df)) rfl ?_
  refine zm_J_O (rest := []) (zm_T.1 31 1 _ rfl).1 zc_31_1 (Nat.le_of_ble_eq_true rfl) ?_
  refine zm_J_run zm_T 2 (pc' := 6) (lv' := [(0, .ref (ex.length + 37)), (1, .int sg), (2, .int ix), (3, .ref a0), (4, .ref a1), (5, .ref a2)]) (st' := [.int sg, .ref (ex.length + 37)]) (G' := (zk_H R (zk_ap ex (Sum.inr (7, [.int 0, .int 0, .null, .null, .null]) : zm_E)) sl s r el f g df)) rfl ?_
  refine zg_pf (fs := [.int 0, .int 0, .null, .null, .null]) (G' := (zk_H R (zk_ap ex (Sum.inr (7, [.int sg, .int 0, .null, .null, .null]) : zm_E)) sl s r el f g df)) rfl (zk_at (zk_ap_new ex _)) (Nat.le_add_left 2 _) (Nat.le_of_ble_eq_true rfl) (decide_eq_true hsg) (zk_sl ..) ?_
  refine zm_J_run zm_T 2 (pc' := 11) (lv' := [(0, .ref (ex.length + 37)), (1, .int sg), (2, .int ix), (3, .ref a0), (4, .ref a1), (5, .ref a2)]) (st' := [.int ix, .ref (ex.length + 37)]) (G' := (zk_H R (zk_ap ex (Sum.inr (7, [.int sg, .int 0, .null, .null, .null]) : zm_E)) sl s r el f g df)) rfl ?_
  refine zg_pf (fs := [.int sg, .int 0, .null, .null, .null]) (G' := (zk_H R (zk_ap ex (Sum.inr (7, [.int sg, .int ix, .null, .null, .null]) : zm_E)) sl s r el f g df)) rfl (zk_at (zk_ap_new ex _)) (Nat.le_add_left 2 _) (Nat.le_of_ble_eq_true rfl) rfl (zk_sl ..) ?_
  refine zm_J_run zm_T 2 (pc' := 16) (lv' := [(0, .ref (ex.length + 37)), (1, .int sg), (2, .int ix), (3, .ref a0), (4, .ref a1), (5, .ref a2)]) (st' := [.ref a0, .ref (ex.length + 37)]) (G' := (zk_H R (zk_ap ex (Sum.inr (7, [.int sg, .int ix, .null, .null, .null]) : zm_E)) sl s r el f g df)) rfl ?_
  refine zg_pf (fs := [.int sg, .int ix, .null, .null, .null]) (G' := (zk_H R (zk_ap ex (Sum.inr (7, [.int sg, .int ix, .ref a0, .null, .null]) : zm_E)) sl s r el f g df)) rfl (zk_at (zk_ap_new ex _)) (Nat.le_add_left 2 _) (Nat.le_of_ble_eq_true rfl) rfl (zk_sl ..) ?_
  refine zm_J_run zm_T 2 (pc' := 22) (lv' := [(0, .ref (ex.length + 37)), (1, .int sg), (2, .int ix), (3, .ref a0), (4, .ref a1), (5, .ref a2)]) (st' := [.ref a1, .ref (ex.length + 37)]) (G' := (zk_H R (zk_ap ex (Sum.inr (7, [.int sg, .int ix, .ref a0, .null, .null]) : zm_E)) sl s r el f g df)) rfl ?_
  refine zg_pf (fs := [.int sg, .int ix, .ref a0, .null, .null]) (G' := (zk_H R (zk_ap ex (Sum.inr (7, [.int sg, .int ix, .ref a0, .ref a1, .null]) : zm_E)) sl s r el f g df)) rfl (zk_at (zk_ap_new ex _)) (Nat.le_add_left 2 _) (Nat.le_of_ble_eq_true rfl) rfl (zk_sl ..) ?_
  refine zm_J_run zm_T 2 (pc' := 28) (lv' := [(0, .ref (ex.length + 37)), (1, .int sg), (2, .int ix), (3, .ref a0), (4, .ref a1), (5, .ref a2)]) (st' := [.ref a2, .ref (ex.length + 37)]) (G' := (zk_H R (zk_ap ex (Sum.inr (7, [.int sg, .int ix, .ref a0, .ref a1, .null]) : zm_E)) sl s r el f g df)) rfl ?_
  refine zg_pf (fs := [.int sg, .int ix, .ref a0, .ref a1, .null]) (G' := (zk_H R (zk_ap ex (Sum.inr (7, [.int sg, .int ix, .ref a0, .ref a1, .ref a2]) : zm_E)) sl s r el f g df)) rfl (zk_at (zk_ap_new ex _)) (Nat.le_add_left 2 _) (Nat.le_of_ble_eq_true rfl) rfl (zk_sl ..) ?_
  exact zm_J_fin zm_T rfl rfl ⟨rfl, rfl⟩
theorem zk_rlf (hB : zk_BS B S) (h : zk_I B S ex sl s el va ca ka q) (hd : 2 ≤ d) {L : List Int32} (hL : L.length ≤ 4) (hwl : zv_wL L) (hg : ∀ i x, L[i]? = some x → g i = x) (h7 : s 7 = nI L.length) {c : Int32} (hlf : zk_lf L c) (K : ∀ sg ix, zk_sg L c sg ix → zk_I (B + 1) (S + 5) (zk_ap ex (Sum.inr (7, [.int sg, .int ix, .null, .null, .null]) : zm_E)) (sl + 5) s el va ca ka q → Q (.inl (some (.ref (ex.length + 37)))) (zk_H R (zk_ap ex (Sum.inr (7, [.int sg, .int ix, .null, .null, .null]) : zm_E)) (sl + 5) s r el f g df)) : zm_J N d 30 0 [(0, .ref 3), (1, .int c)] [] (zk_H R ex sl s r el f g df) Q := by
  obtain ⟨d, rfl⟩ : ∃ e, d = e + 2 := ⟨d - 2, by omega⟩
  have hr := zk_I_r hB h
  have hrm := zk_I_room hB h
  have hr1 : zr_r (zk_ap ex (Sum.inr (7, [.int 0, .int 0, .null, .null, .null]) : zm_E)) (sl + 5) := ⟨by rw [zk_ap_len]; omega, by omega⟩
  by_cases h1 : 48 ≤ c ∧ c ≤ 57
  · refine zm_J_run zm_T 1 (pc' := 1) (lv' := [(0, .ref 3), (1, .int c)]) (st' := [.int c]) (G' := (zk_H R ex sl s r el f g df)) rfl ?_
    refine zg_S (av := [.int c]) (rest := []) (v := some (.int (zk_b (48 ≤ c ∧ c ≤ 57)))) (G2 := (zk_H R ex sl s r el f g df)) (zm_T.1 30 1 _ rfl).1 zc_30_1 (Nat.le_of_ble_eq_true rfl) (Nat.le_of_ble_eq_true rfl) (zk_c hr) (zk_s hr) (zk_dig) ?_
    show zm_J N _ 30 4 [(0, .ref 3), (1, .int c)] [.int (zk_b (48 ≤ c ∧ c ≤ 57))] (zk_H R ex sl s r el f g df) _
    refine zm_J_run zm_T 1 (pc' := if (zk_b (48 ≤ c ∧ c ≤ 57)) = 0 then 24 else 7) (lv' := [(0, .ref 3), (1, .int c)]) (st' := []) (G' := (zk_H R ex sl s r el f g df)) rfl ?_
    rw [if_neg (show ¬ ((zk_b (48 ≤ c ∧ c ≤ 57)) = 0) from by rw [zk_b_t h1]; decide)]
    refine zg_newo rfl ⟨by omega, by show sl + 5 ≤ zm_S; omega⟩ (G' := (zk_H R (zk_ap ex (Sum.inr (7, [.int 0, .int 0, .null, .null, .null]) : zm_E)) (sl + 5) s r el f g df)) rfl ?_
    refine zm_J_run zm_T 8 (pc' := 20) (lv' := [(0, .ref 3), (1, .int c)]) (st' := [.null, .null, .null, .int (c - 48), .int 48, .ref (ex.length + 37), .ref (ex.length + 37)]) (G' := (zk_H R (zk_ap ex (Sum.inr (7, [.int 0, .int 0, .null, .null, .null]) : zm_E)) (sl + 5) s r el f g df)) rfl ?_
    refine zg_I (a := (ex.length + 37)) (av := [.int 48, .int (c - 48), .null, .null, .null]) (rest := [.ref (ex.length + 37)]) (v := none) (G2 := (zk_H R (zk_ap ex (Sum.inr (7, [.int 48, .int (c - 48), .null, .null, .null]) : zm_E)) (sl + 5) s r el f g df)) (zm_T.1 30 20 _ rfl).1 zc_30_20 (Nat.le_of_ble_eq_true rfl) (Nat.le_of_ble_eq_true rfl) (zk_c hr1) (zk_s hr1) (zk_xi0 (by decide)) ?_
    show zm_J N _ 30 23 [(0, .ref 3), (1, .int c)] [.ref (ex.length + 37)] (zk_H R (zk_ap ex (Sum.inr (7, [.int 48, .int (c - 48), .null, .null, .null]) : zm_E)) (sl + 5) s r el f g df) _
    exact zm_J_fin zm_T rfl rfl (K _ _ (Or.inl ⟨h1, rfl, rfl⟩) (zk_I_ap _ 5 h))
  by_cases h2 : 65 ≤ c ∧ c ≤ 70
  · refine zm_J_run zm_T 1 (pc' := 1) (lv' := [(0, .ref 3), (1, .int c)]) (st' := [.int c]) (G' := (zk_H R ex sl s r el f g df)) rfl ?_
    refine zg_S (av := [.int c]) (rest := []) (v := some (.int (zk_b (48 ≤ c ∧ c ≤ 57)))) (G2 := (zk_H R ex sl s r el f g df)) (zm_T.1 30 1 _ rfl).1 zc_30_1 (Nat.le_of_ble_eq_true rfl) (Nat.le_of_ble_eq_true rfl) (zk_c hr) (zk_s hr) (zk_dig) ?_
    show zm_J N _ 30 4 [(0, .ref 3), (1, .int c)] [.int (zk_b (48 ≤ c ∧ c ≤ 57))] (zk_H R ex sl s r el f g df) _
    refine zm_J_run zm_T 1 (pc' := if (zk_b (48 ≤ c ∧ c ≤ 57)) = 0 then 24 else 7) (lv' := [(0, .ref 3), (1, .int c)]) (st' := []) (G' := (zk_H R ex sl s r el f g df)) rfl ?_
    rw [if_pos (show (zk_b (48 ≤ c ∧ c ≤ 57)) = 0 from zk_b_f h1)]
    refine zm_J_run zm_T 1 (pc' := 25) (lv' := [(0, .ref 3), (1, .int c)]) (st' := [.int c]) (G' := (zk_H R ex sl s r el f g df)) rfl ?_
    refine zg_S (av := [.int c]) (rest := []) (v := some (.int (zk_b (65 ≤ c ∧ c ≤ 70)))) (G2 := (zk_H R ex sl s r el f g df)) (zm_T.1 30 25 _ rfl).1 zc_30_25 (Nat.le_of_ble_eq_true rfl) (Nat.le_of_ble_eq_true rfl) (zk_c hr) (zk_s hr) (zk_isnm) ?_
    show zm_J N _ 30 28 [(0, .ref 3), (1, .int c)] [.int (zk_b (65 ≤ c ∧ c ≤ 70))] (zk_H R ex sl s r el f g df) _
    refine zm_J_run zm_T 1 (pc' := if (zk_b (65 ≤ c ∧ c ≤ 70)) = 0 then 48 else 31) (lv' := [(0, .ref 3), (1, .int c)]) (st' := []) (G' := (zk_H R ex sl s r el f g df)) rfl ?_
    rw [if_neg (show ¬ ((zk_b (65 ≤ c ∧ c ≤ 70)) = 0) from by rw [zk_b_t h2]; decide)]
    refine zg_newo rfl ⟨by omega, by show sl + 5 ≤ zm_S; omega⟩ (G' := (zk_H R (zk_ap ex (Sum.inr (7, [.int 0, .int 0, .null, .null, .null]) : zm_E)) (sl + 5) s r el f g df)) rfl ?_
    refine zm_J_run zm_T 8 (pc' := 44) (lv' := [(0, .ref 3), (1, .int c)]) (st' := [.null, .null, .null, .int (c - 65), .int 65, .ref (ex.length + 37), .ref (ex.length + 37)]) (G' := (zk_H R (zk_ap ex (Sum.inr (7, [.int 0, .int 0, .null, .null, .null]) : zm_E)) (sl + 5) s r el f g df)) rfl ?_
    refine zg_I (a := (ex.length + 37)) (av := [.int 65, .int (c - 65), .null, .null, .null]) (rest := [.ref (ex.length + 37)]) (v := none) (G2 := (zk_H R (zk_ap ex (Sum.inr (7, [.int 65, .int (c - 65), .null, .null, .null]) : zm_E)) (sl + 5) s r el f g df)) (zm_T.1 30 44 _ rfl).1 zc_30_44 (Nat.le_of_ble_eq_true rfl) (Nat.le_of_ble_eq_true rfl) (zk_c hr1) (zk_s hr1) (zk_xi0 (by decide)) ?_
    show zm_J N _ 30 47 [(0, .ref 3), (1, .int c)] [.ref (ex.length + 37)] (zk_H R (zk_ap ex (Sum.inr (7, [.int 65, .int (c - 65), .null, .null, .null]) : zm_E)) (sl + 5) s r el f g df) _
    exact zm_J_fin zm_T rfl rfl (K _ _ (Or.inr (Or.inl ⟨h2, rfl, rfl⟩)) (zk_I_ap _ 5 h))
  by_cases h4 : c ∈ L
  · refine zm_J_run zm_T 1 (pc' := 1) (lv' := [(0, .ref 3), (1, .int c)]) (st' := [.int c]) (G' := (zk_H R ex sl s r el f g df)) rfl ?_
    refine zg_S (av := [.int c]) (rest := []) (v := some (.int (zk_b (48 ≤ c ∧ c ≤ 57)))) (G2 := (zk_H R ex sl s r el f g df)) (zm_T.1 30 1 _ rfl).1 zc_30_1 (Nat.le_of_ble_eq_true rfl) (Nat.le_of_ble_eq_true rfl) (zk_c hr) (zk_s hr) (zk_dig) ?_
    show zm_J N _ 30 4 [(0, .ref 3), (1, .int c)] [.int (zk_b (48 ≤ c ∧ c ≤ 57))] (zk_H R ex sl s r el f g df) _
    refine zm_J_run zm_T 1 (pc' := if (zk_b (48 ≤ c ∧ c ≤ 57)) = 0 then 24 else 7) (lv' := [(0, .ref 3), (1, .int c)]) (st' := []) (G' := (zk_H R ex sl s r el f g df)) rfl ?_
    rw [if_pos (show (zk_b (48 ≤ c ∧ c ≤ 57)) = 0 from zk_b_f h1)]
    refine zm_J_run zm_T 1 (pc' := 25) (lv' := [(0, .ref 3), (1, .int c)]) (st' := [.int c]) (G' := (zk_H R ex sl s r el f g df)) rfl ?_
    refine zg_S (av := [.int c]) (rest := []) (v := some (.int (zk_b (65 ≤ c ∧ c ≤ 70)))) (G2 := (zk_H R ex sl s r el f g df)) (zm_T.1 30 25 _ rfl).1 zc_30_25 (Nat.le_of_ble_eq_true rfl) (Nat.le_of_ble_eq_true rfl) (zk_c hr) (zk_s hr) (zk_isnm) ?_
    show zm_J N _ 30 28 [(0, .ref 3), (1, .int c)] [.int (zk_b (65 ≤ c ∧ c ≤ 70))] (zk_H R ex sl s r el f g df) _
    refine zm_J_run zm_T 1 (pc' := if (zk_b (65 ≤ c ∧ c ≤ 70)) = 0 then 48 else 31) (lv' := [(0, .ref 3), (1, .int c)]) (st' := []) (G' := (zk_H R ex sl s r el f g df)) rfl ?_
    rw [if_pos (show (zk_b (65 ≤ c ∧ c ≤ 70)) = 0 from zk_b_f h2)]
    refine zm_J_run zm_T 2 (pc' := 50) (lv' := [(0, .ref 3), (1, .int c)]) (st' := [.int c, .ref 3]) (G' := (zk_H R ex sl s r el f g df)) rfl ?_
    refine zg_V (a := 3) (av := [.int c]) (rest := []) (v := some (.int (if c ∈ L then nI (L.idxOf c) else -1))) (G2 := (zk_H R ex sl s r el f g df)) (zm_T.1 30 50 _ rfl).1 zc_30_50 rfl (Nat.le_of_ble_eq_true rfl) (Nat.le_of_ble_eq_true rfl) (zk_c hr) (zk_s hr) (zk_pix hL hg h7) ?_
    show zm_J N _ 30 53 [(0, .ref 3), (1, .int c)] [.int (if c ∈ L then nI (L.idxOf c) else -1)] (zk_H R ex sl s r el f g df) _
    refine zm_J_run zm_T 3 (pc' := if (if c ∈ L then nI (L.idxOf c) else -1) < 0 then 72 else 58) (lv' := [(2, .int (if c ∈ L then nI (L.idxOf c) else -1)), (0, .ref 3), (1, .int c)]) (st' := []) (G' := (zk_H R ex sl s r el f g df)) rfl ?_
    rw [if_neg (show ¬ ((if c ∈ L then nI (L.idxOf c) else -1) < 0) from fun z => (zk_neg hL).mp z h4)]
    refine zg_newo rfl ⟨by omega, by show sl + 5 ≤ zm_S; omega⟩ (G' := (zk_H R (zk_ap ex (Sum.inr (7, [.int 0, .int 0, .null, .null, .null]) : zm_E)) (sl + 5) s r el f g df)) rfl ?_
    refine zm_J_run zm_T 6 (pc' := 68) (lv' := [(2, .int (if c ∈ L then nI (L.idxOf c) else -1)), (0, .ref 3), (1, .int c)]) (st' := [.null, .null, .null, .int (if c ∈ L then nI (L.idxOf c) else -1), .int 97, .ref (ex.length + 37), .ref (ex.length + 37)]) (G' := (zk_H R (zk_ap ex (Sum.inr (7, [.int 0, .int 0, .null, .null, .null]) : zm_E)) (sl + 5) s r el f g df)) rfl ?_
    refine zg_I (a := (ex.length + 37)) (av := [.int 97, .int (if c ∈ L then nI (L.idxOf c) else -1), .null, .null, .null]) (rest := [.ref (ex.length + 37)]) (v := none) (G2 := (zk_H R (zk_ap ex (Sum.inr (7, [.int 97, .int (if c ∈ L then nI (L.idxOf c) else -1), .null, .null, .null]) : zm_E)) (sl + 5) s r el f g df)) (zm_T.1 30 68 _ rfl).1 zc_30_68 (Nat.le_of_ble_eq_true rfl) (Nat.le_of_ble_eq_true rfl) (zk_c hr1) (zk_s hr1) (zk_xi0 (by decide)) ?_
    show zm_J N _ 30 71 [(2, .int (if c ∈ L then nI (L.idxOf c) else -1)), (0, .ref 3), (1, .int c)] [.ref (ex.length + 37)] (zk_H R (zk_ap ex (Sum.inr (7, [.int 97, .int (if c ∈ L then nI (L.idxOf c) else -1), .null, .null, .null]) : zm_E)) (sl + 5) s r el f g df) _
    exact zm_J_fin zm_T rfl rfl (K _ _ (Or.inr (Or.inr (Or.inr (Or.inl ⟨hwl c h4, rfl, h4, if_pos h4⟩)))) (zk_I_ap _ 5 h))
  have h3 : c = 110 := by
    rcases hlf with z | z | z | z
    · exact absurd z h1
    · exact absurd z h2
    · exact z
    · exact absurd z h4
  refine zm_J_run zm_T 1 (pc' := 1) (lv' := [(0, .ref 3), (1, .int c)]) (st' := [.int c]) (G' := (zk_H R ex sl s r el f g df)) rfl ?_
  refine zg_S (av := [.int c]) (rest := []) (v := some (.int (zk_b (48 ≤ c ∧ c ≤ 57)))) (G2 := (zk_H R ex sl s r el f g df)) (zm_T.1 30 1 _ rfl).1 zc_30_1 (Nat.le_of_ble_eq_true rfl) (Nat.le_of_ble_eq_true rfl) (zk_c hr) (zk_s hr) (zk_dig) ?_
  show zm_J N _ 30 4 [(0, .ref 3), (1, .int c)] [.int (zk_b (48 ≤ c ∧ c ≤ 57))] (zk_H R ex sl s r el f g df) _
  refine zm_J_run zm_T 1 (pc' := if (zk_b (48 ≤ c ∧ c ≤ 57)) = 0 then 24 else 7) (lv' := [(0, .ref 3), (1, .int c)]) (st' := []) (G' := (zk_H R ex sl s r el f g df)) rfl ?_
  rw [if_pos (show (zk_b (48 ≤ c ∧ c ≤ 57)) = 0 from zk_b_f h1)]
  refine zm_J_run zm_T 1 (pc' := 25) (lv' := [(0, .ref 3), (1, .int c)]) (st' := [.int c]) (G' := (zk_H R ex sl s r el f g df)) rfl ?_
  refine zg_S (av := [.int c]) (rest := []) (v := some (.int (zk_b (65 ≤ c ∧ c ≤ 70)))) (G2 := (zk_H R ex sl s r el f g df)) (zm_T.1 30 25 _ rfl).1 zc_30_25 (Nat.le_of_ble_eq_true rfl) (Nat.le_of_ble_eq_true rfl) (zk_c hr) (zk_s hr) (zk_isnm) ?_
  show zm_J N _ 30 28 [(0, .ref 3), (1, .int c)] [.int (zk_b (65 ≤ c ∧ c ≤ 70))] (zk_H R ex sl s r el f g df) _
  refine zm_J_run zm_T 1 (pc' := if (zk_b (65 ≤ c ∧ c ≤ 70)) = 0 then 48 else 31) (lv' := [(0, .ref 3), (1, .int c)]) (st' := []) (G' := (zk_H R ex sl s r el f g df)) rfl ?_
  rw [if_pos (show (zk_b (65 ≤ c ∧ c ≤ 70)) = 0 from zk_b_f h2)]
  refine zm_J_run zm_T 2 (pc' := 50) (lv' := [(0, .ref 3), (1, .int c)]) (st' := [.int c, .ref 3]) (G' := (zk_H R ex sl s r el f g df)) rfl ?_
  refine zg_V (a := 3) (av := [.int c]) (rest := []) (v := some (.int (if c ∈ L then nI (L.idxOf c) else -1))) (G2 := (zk_H R ex sl s r el f g df)) (zm_T.1 30 50 _ rfl).1 zc_30_50 rfl (Nat.le_of_ble_eq_true rfl) (Nat.le_of_ble_eq_true rfl) (zk_c hr) (zk_s hr) (zk_pix hL hg h7) ?_
  show zm_J N _ 30 53 [(0, .ref 3), (1, .int c)] [.int (if c ∈ L then nI (L.idxOf c) else -1)] (zk_H R ex sl s r el f g df) _
  refine zm_J_run zm_T 3 (pc' := if (if c ∈ L then nI (L.idxOf c) else -1) < 0 then 72 else 58) (lv' := [(2, .int (if c ∈ L then nI (L.idxOf c) else -1)), (0, .ref 3), (1, .int c)]) (st' := []) (G' := (zk_H R ex sl s r el f g df)) rfl ?_
  rw [if_pos (show (if c ∈ L then nI (L.idxOf c) else -1) < 0 from (zk_neg hL).mpr h4)]
  refine zg_newo rfl ⟨by omega, by show sl + 5 ≤ zm_S; omega⟩ (G' := (zk_H R (zk_ap ex (Sum.inr (7, [.int 0, .int 0, .null, .null, .null]) : zm_E)) (sl + 5) s r el f g df)) rfl ?_
  refine zm_J_run zm_T 6 (pc' := 82) (lv' := [(2, .int (if c ∈ L then nI (L.idxOf c) else -1)), (0, .ref 3), (1, .int c)]) (st' := [.null, .null, .null, .int 0, .int 110, .ref (ex.length + 37), .ref (ex.length + 37)]) (G' := (zk_H R (zk_ap ex (Sum.inr (7, [.int 0, .int 0, .null, .null, .null]) : zm_E)) (sl + 5) s r el f g df)) rfl ?_
  refine zg_I (a := (ex.length + 37)) (av := [.int 110, .int 0, .null, .null, .null]) (rest := [.ref (ex.length + 37)]) (v := none) (G2 := (zk_H R (zk_ap ex (Sum.inr (7, [.int 110, .int 0, .null, .null, .null]) : zm_E)) (sl + 5) s r el f g df)) (zm_T.1 30 82 _ rfl).1 zc_30_82 (Nat.le_of_ble_eq_true rfl) (Nat.le_of_ble_eq_true rfl) (zk_c hr1) (zk_s hr1) (zk_xi0 (by decide)) ?_
  show zm_J N _ 30 85 [(2, .int (if c ∈ L then nI (L.idxOf c) else -1)), (0, .ref 3), (1, .int c)] [.ref (ex.length + 37)] (zk_H R (zk_ap ex (Sum.inr (7, [.int 110, .int 0, .null, .null, .null]) : zm_E)) (sl + 5) s r el f g df) _
  exact zm_J_fin zm_T rfl rfl (K _ _ (Or.inr (Or.inr (Or.inl ⟨h3, rfl⟩))) (zk_I_ap _ 5 h))
end ZKX

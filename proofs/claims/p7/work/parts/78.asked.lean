/-! THE REFERENCE ASKS, AND GOES THROUGH A RESULT -/
theorem zr_tx.pool {M M' : Nat} {f f' : Nat → Int32} {q : Nat} {w : List Int32} (h : zr_tx M f q w) (h1 : ∀ j, j < M → f' j = f j) (h2 : M ≤ M') (h3 : M' ≤ 21200) : zr_tx M' f' q w := by
  obtain ⟨g1, g2, g3⟩ := h
  refine ⟨h3, by omega, fun i x hx => ?_⟩
  have hi := (List.getElem?_eq_some_iff.mp hx).1
  exact (h1 (q + i) (by omega)).trans (g3 i x hx)
/-- the DEFINITIONS behind a change that leaves them -/
theorem zr_def.pool {M M' : Nat} {D : zv_D} {a a' : Nat → Nat → Int32} (h : zr_def M a D) (h1 : ∀ j, j < M → a' 1 j = a 1 j) (h2 : M ≤ M') (h3 : M' ≤ 21200) (h4 : ∀ k, k = 3 ∨ k = 4 ∨ k = 5 ∨ k = 7 → a' k = a k) : zr_def M' a' D := by
  intro i hi
  rw [h4 7 (by omega), h4 5 (by omega), h4 3 (by omega), h4 4 (by omega)]
  refine ⟨(h i hi).1, fun L b hD => ?_⟩
  obtain ⟨z1, z2, ⟨p, z3, z4⟩, z5⟩ := (h i hi).2 L b hD
  exact ⟨z1, z2, ⟨p, z3, z4.pool h1 h2 h3⟩, z5⟩
theorem zr_St.pool {M M' : Nat} {σ : zv_S} {s s' : Nat → Int32} {a a' : Nat → Nat → Int32} (h : zr_St M σ s a) (h1 : ∀ j, j < M → a' 1 j = a 1 j) (h2 : M ≤ M') (h3 : M' ≤ 21200) (h4 : ∀ k, 8 ≤ k ∧ k ≤ 17 → a' k = a k) (h5 : ∀ k, k = 23 ∨ k = 24 ∨ k = 25 ∨ k = 33 → s' k = s k) : zr_St M' σ s' a' := by
  refine ⟨(h5 23 (by omega)).trans h.1, (h5 24 (by omega)).trans h.2.1, (h5 33 (by omega)).trans h.2.2.1, (h5 25 (by omega)).trans h.2.2.2.1, fun c x hx => ?_⟩
  obtain ⟨⟨p, e, g1, g2, g3, g4, g5⟩, g6⟩ := h.2.2.2.2 c x hx
  have h0 : zr_clo M a σ.2.1 σ.2.2.1 c x := ⟨⟨p, e, g1, g2, g3, g4, g5⟩, g6⟩
  have h1' : zr_clo M (zu a' 1 (a 1)) σ.2.1 σ.2.2.1 c x := zr_clo.up (a := a) (a' := zu a' 1 (a 1)) (Nat.le_refl _) (Nat.le_refl _) rfl (congrFun (h4 8 (by omega)) c) (congrFun (h4 9 (by omega)) c) (congrFun (h4 10 (by omega)) c) (congrFun (h4 11 (by omega)) c) (congrFun (h4 12 (by omega)) c) (congrFun (h4 13 (by omega)) c) (fun q _ => ⟨congrFun (h4 14 (by omega)) q, congrFun (h4 15 (by omega)) q⟩) (fun q _ => ⟨congrFun (h4 16 (by omega)) q, congrFun (h4 17 (by omega)) q⟩) h0
  obtain ⟨⟨p', e', k1, k2, k3, k4, k5⟩, k6⟩ := h1'
  refine ⟨⟨p', e', k1, k2, k3.pool h1 h2 h3, k4.up (Or.inr fun _ _ => ⟨rfl, rfl⟩), k5⟩, ?_⟩
  obtain ⟨t, o⟩ := x
  cases o with
  | none => exact k6
  | some o =>
    cases o with
    | none => exact k6
    | some v => exact ⟨k6.1, zr_val.up (a := zu a' 1 (a 1)) (a' := a') (Nat.le_refl _) (fun _ _ => ⟨rfl, rfl⟩) k6.2⟩
/-- what an answered question leaves -/
def zr_asked (M : Nat) (D : zv_D) (x : zv_O) (r : Int32) (s' : Nat → Int32) (a' : Nat → Nat → Int32) : Prop := s' 8 = 0 ∧ s' 11 = nI M ∧ zr_def M a' D ∧ match x.1 with
  | .inl e => s' 12 = nI e ∧ (e = 2 ∨ e = 3 ∨ e = 4 ∨ e = 5) ∧ s' 43 = 0
  | .inr v => s' 12 = 0 ∧ s' 43 = 1 ∧ r = v.1 ∧ zr_val a' x.2.2.2.1 (s' 40) (s' 41) (s' 42) v ∧ zr_St M x.2 s' a'
section ZRK
variable {N : zm_N} {d : Nat} {C : Nat → zm_E} {ex : List zm_E} {sl M : Nat} {s : Nat → Int32} {a : Nat → Nat → Int32} {Q : zm_O → zm_H → Prop} {D : zv_D} {t : List Int32}
set_option maxHeartbeats 1000000 in
theorem zr_ask (hr : zr_r ex sl) (hd : 14 ≤ d) (ht : zr_tt s a t) (hDw : zv_wD D) (hdf : zr_def M a D) (hM : M ≤ 21200)
    (kf : ¬ zv_rd [] 11 t = some [] → ∀ s' a', zr_no s a s' a' → Q (.inl (some (.int 0))) (zr_H C ex sl s' a'))
    (ks : zv_rd [] 11 t = some [] → ∀ M' r s' a', M' ≤ 280 → zr_asked M' D (zv_E D 60 t [] [] ([], 0, 0, 0)) r s' a' → Q (.inl (some (.int r))) (zr_H C ex sl s' a')) : zm_J N d 82 0 [(0, .ref 12)] [] (zr_H C ex sl s a) Q := by
  obtain ⟨d, rfl⟩ : ∃ e, d = e + 14 := ⟨d - 14, by omega⟩
  refine zm_J_run zm_T 5 (pc' := 7) (lv' := [(0, .ref 12)]) (st' := [.int 0, .ref 12]) (G' := (zr_H C ex sl (zu s 10 0) a)) rfl ?_
  refine zg_VK (a := 12) (av := [.int 0]) (rest := []) (zm_T.1 82 7 _ rfl).1 zc_82_7 rfl (Nat.le_of_ble_eq_true rfl) (Nat.le_of_ble_eq_true rfl) (zr_c hr) (zr_s hr) (zr_read (t := t) (L := []) (mk := 0) (q := 0) (s := zu s 10 0) hr (by omega) ht zr_mk0 (fun _ hx => by cases hx) (Nat.zero_le _) rfl (fun hno q' nd' => ⟨_, rfl, ?_⟩) (fun hyes q' nd' => ⟨_, rfl, ?_⟩))
  · rw [zu_1]
    show zm_J N _ 82 10 [(0, .ref 12)] [.int 0] (zr_H C ex sl (zu s 10 (nI q')) (zu a 6 nd')) _
    refine zm_J_run zm_T 9 (pc' := 25) (lv' := [(1, .int 0), (0, .ref 12)]) (st' := [.int 0, .ref 12]) (G' := (zr_H C ex sl (zu (zu s 10 (nI q')) 9 (nI q')) (zu a 6 nd'))) rfl ?_
    refine zg_V (a := 12) (av := [.int 0]) (rest := []) (v := some (.int 1)) (G2 := (zr_H C ex sl (zu (zu (zu s 10 (nI q')) 9 (nI q')) 12 1) (zu a 6 nd'))) (zm_T.1 82 25 _ rfl).1 zc_82_25 rfl (Nat.le_of_ble_eq_true rfl) (Nat.le_of_ble_eq_true rfl) (zr_c hr) (zr_s hr) (zr_bad false) ?_
    show zm_J N _ 82 28 [(1, .int 0), (0, .ref 12)] [.int 1] (zr_H C ex sl (zu (zu (zu s 10 (nI q')) 9 (nI q')) 12 1) (zu a 6 nd')) _
    refine zm_J_run zm_T 5 (pc' := 37) (lv' := [(1, .int 0), (0, .ref 12)]) (st' := [.int 0]) (G' := (zr_H C ex sl (zu (zu (zu (zu s 10 (nI q')) 9 (nI q')) 12 1) 8 0) (zu a 6 nd'))) rfl ?_
    exact zm_J_fin zm_T rfl rfl (kf hno _ _ ⟨rfl, rfl, fun k hk => by rw [zu_ne _ _ hk.1, zu_ne _ _ hk.2.2.2, zu_ne _ _ hk.2.1, zu_ne _ _ hk.2.2.1], fun k hk => zu_ne _ _ hk⟩)
  · rw [zu_1]
    show zm_J N _ 82 10 [(0, .ref 12)] [.int 1] (zr_H C ex sl (zu s 10 (nI q')) (zu a 6 nd')) _
    obtain ⟨ht1, ht2, ht3⟩ := ht
    obtain ⟨ok1, ok2⟩ := zv_rd_ok 11 _ _ hyes
    have hn40 := zv_n_le [] t 1 ok1
    have hMM : M ≤ 21200 := hM
    refine zm_J_run zm_T 5 (pc' := 25) (lv' := [(1, .int 1), (0, .ref 12)]) (st' := [.int 1, .ref 12]) (G' := (zr_H C ex sl (zu s 10 (nI q')) (zu a 6 nd'))) rfl ?_
    refine zg_V (a := 12) (av := [.int 1]) (rest := []) (v := some (.int 0)) (G2 := (zr_H C ex sl (zu (zu s 10 (nI q')) 12 0) (zu a 6 nd'))) (zm_T.1 82 25 _ rfl).1 zc_82_25 rfl (Nat.le_of_ble_eq_true rfl) (Nat.le_of_ble_eq_true rfl) (zr_c hr) (zr_s hr) (zr_bad true) ?_
    show zm_J N _ 82 28 [(1, .int 1), (0, .ref 12)] [.int 0] (zr_H C ex sl (zu (zu s 10 (nI q')) 12 0) (zu a 6 nd')) _
    refine zm_J_run zm_T 2 (pc' := 39) (lv' := [(1, .int 1), (0, .ref 12)]) (st' := [.ref 12]) (G' := (zr_H C ex sl (zu (zu s 10 (nI q')) 12 0) (zu a 6 nd'))) rfl ?_
    refine zg_VK (a := 12) (av := []) (rest := []) (zm_T.1 82 39 _ rfl).1 zc_82_39 rfl (Nat.le_of_ble_eq_true rfl) (Nat.le_of_ble_eq_true rfl) (zr_c hr) (zr_s hr) (zr_sweep (M := M) (a := zu a 6 nd') hr (by omega) hDw (hdf.pool (fun _ _ => rfl) (Nat.le_refl _) hMM (fun k hk => zu_ne _ _ (by omega))) (fun n f g h hn hdf2 => ⟨_, rfl, ?_⟩))
    generalize hA1 : (zu (zu (zu (zu a 6 nd') 2 g) 3 h) 1 f) = a1 at *
    have h0' : a1 0 = a 0 := by rw [← hA1]; rfl
    show zm_J N _ 82 42 [(1, .int 1), (0, .ref 12)] [] (zr_H C ex sl (zu (zu (zu (zu (zu (zu s 10 (nI q')) 12 0) 11 (nI n)) 25 0) 24 0) 23 0) a1) _
    generalize hS1 : (zu (zu (zu (zu (zu (zu s 10 (nI q')) 12 0) 11 (nI n)) 25 0) 24 0) 23 0) = s1 at *
    have e8 : s1 8 = nI t.length := by rw [← hS1]; exact ht1
    have e11 : s1 11 = nI n := by rw [← hS1]; rfl
    have e12 : s1 12 = 0 := by rw [← hS1]; rfl
    have e23 : s1 23 = 0 := by rw [← hS1]; rfl
    have e24 : s1 24 = 0 := by rw [← hS1]; rfl
    have e25 : s1 25 = 0 := by rw [← hS1]; rfl
    refine zm_J_run zm_T 2 (pc' := 44) (lv' := [(1, .int 1), (0, .ref 12)]) (st' := [.int 0, .ref 12]) (G' := (zr_H C ex sl s1 a1)) rfl ?_
    refine zg_VK (a := 12) (av := [.int 0]) (rest := []) (zm_T.1 82 44 _ rfl).1 zc_82_44 rfl (Nat.le_of_ble_eq_true rfl) (Nat.le_of_ble_eq_true rfl) (zr_c hr) (zr_s hr) (zr_store (t := t) (i := 0) (q := n) ht2 (Nat.zero_le _) (by omega) e8 e11 (by rw [h0']; exact ht3) (fun f2 g1 g2 => ⟨_, rfl, ?_⟩))
    rw [Nat.sub_zero] at g1 ⊢
    show zm_J N _ 82 47 [(1, .int 1), (0, .ref 12)] [.int (nI n)] (zr_H C ex sl (zu s1 11 (nI (n + t.length))) (zu a1 1 f2)) _
    refine zm_J_run zm_T 12 (pc' := 65) (lv' := [(2, .int (nI n)), (1, .int 1), (0, .ref 12)]) (st' := [.int (nI n), .ref 12]) (G' := (zr_H C ex sl (zu (zu (zu (zu s1 11 (nI (n + t.length))) 8 0) 33 0) 32 0) (zu a1 1 f2))) rfl ?_
    refine zm_J_run zm_T 1 (pc' := 66) (lv' := [(2, .int (nI n)), (1, .int 1), (0, .ref 12)]) (st' := [.int 0, .int (nI n), .ref 12]) (G' := (zr_H C ex sl (zu (zu (zu (zu s1 11 (nI (n + t.length))) 8 0) 33 0) 32 0) (zu a1 1 f2))) rfl ?_
    have hdf3 : zr_def (n + t.length) (zu a1 1 f2) D := hdf2.pool (fun j hj => g1 j (Or.inl hj)) (by omega) (by omega) (fun k hk => zu_ne _ _ (by omega))
    refine zg_VK (a := 12) (av := [.int (nI n), .int 0]) (rest := []) (zm_T.1 82 66 _ rfl).1 zc_82_66 rfl (Nat.le_of_ble_eq_true rfl) (Nat.le_of_ble_eq_true rfl) (zr_c hr) (zr_s hr) (zr_work (M := n + t.length) (σ := ([], 0, 0, 0)) (w := t) (L := []) (A := []) (j := 0) (p := n) (e := 0) (s := zu (zu (zu (zu s1 11 (nI (n + t.length))) 8 0) 33 0) 32 0) (a := zu a1 1 f2) hr (by omega) hDw (fun x hx => by cases hx) ok1 ⟨fun _ hx => (by cases hx), Nat.le_refl _, fun _ hx => by cases hx⟩ ⟨by show 0 + _ ≤ 40; omega, by show 0 + 0 + _ ≤ 40; omega, by show 0 + 2 * 0 + _ ≤ 80; omega, by show 0 ≤ 400; omega⟩ ⟨e23, e24, rfl, e25, fun c x hx => by cases hx⟩ hdf3 e12 ⟨by omega, by omega, fun i x hx => g2 i x (by rw [Nat.zero_add]; exact hx)⟩ ⟨by omega, Nat.zero_le _, fun i x hx => by cases hx⟩ (Or.inr rfl) (fun s' a' ho => ⟨_, rfl, ?_⟩))
    have ks := ks hyes
    generalize zv_E D 60 t [] [] ([], 0, 0, 0) = y at ho ks
    obtain ⟨q, σ1⟩ := y
    obtain ⟨⟨o0, o1⟩, o2⟩ := ho
    have hdf4 : zr_def (n + t.length) a' D := hdf3.up o0
    have o8 : s' 8 = 0 := o1 8 (by omega)
    have o11 : s' 11 = nI (n + t.length) := o1 11 (by omega)
    show zm_J N _ 82 69 [(2, .int (nI n)), (1, .int 1), (0, .ref 12)] [] (zr_H C ex sl s' a') _
    cases q with
    | inl code =>
      have o2 : s' 12 = nI code ∧ (code = 2 ∨ code = 3 ∨ code = 4 ∨ code = 5) := o2
      have hne : ¬ s' 12 = 0 := by rw [o2.1]; exact nI_ne0 (by omega) (by omega)
      refine zm_J_run zm_T 1 (pc' := 70) (lv' := [(2, .int (nI n)), (1, .int 1), (0, .ref 12)]) (st' := [.ref 12]) (G' := (zr_H C ex sl s' a')) rfl ?_
      refine zg_V (a := 12) (av := []) (rest := []) (v := some (.int 0)) (G2 := (zr_H C ex sl (zu s' 43 0) a')) (zm_T.1 82 70 _ rfl).1 zc_82_70 rfl (Nat.le_of_ble_eq_true rfl) (Nat.le_of_ble_eq_true rfl) (zr_c hr) (zr_s hr) (zr_ans0 hne) ?_
      show zm_J N _ 82 73 [(2, .int (nI n)), (1, .int 1), (0, .ref 12)] [.int 0] (zr_H C ex sl (zu s' 43 0) a') _
      exact zm_J_fin zm_T rfl rfl (ks (n + t.length) 0 _ _ (by omega) ⟨o8, o11, hdf4, o2.1, o2.2, rfl⟩)
    | inr v =>
      obtain ⟨o2, o3, o4, o5, o6⟩ := o2
      refine zm_J_run zm_T 1 (pc' := 70) (lv' := [(2, .int (nI n)), (1, .int 1), (0, .ref 12)]) (st' := [.ref 12]) (G' := (zr_H C ex sl s' a')) rfl ?_
      refine zg_V (a := 12) (av := []) (rest := []) (v := some (.int (s' 37))) (G2 := (zr_H C ex sl (zu (zu (zu (zu s' 43 1) 40 (s' 37)) 41 (s' 38)) 42 (s' 39)) a')) (zm_T.1 82 70 _ rfl).1 zc_82_70 rfl (Nat.le_of_ble_eq_true rfl) (Nat.le_of_ble_eq_true rfl) (zr_c hr) (zr_s hr) (zr_ans1 o2) ?_
      show zm_J N _ 82 73 [(2, .int (nI n)), (1, .int 1), (0, .ref 12)] [.int (s' 37)] (zr_H C ex sl (zu (zu (zu (zu s' 43 1) 40 (s' 37)) 41 (s' 38)) 42 (s' 39)) a') _
      exact zm_J_fin zm_T rfl rfl (ks (n + t.length) _ _ _ (by omega) ⟨o8, o11, hdf4, o2, rfl, o5.1, o5, o4.up rfl rfl rfl rfl (fun _ _ => rfl)⟩)
/-- one side of a RESULT -/
def zv_side (D : zv_D) (hd : Bool) (res : Option (zv_V × zv_S)) : Nat ⊕ (zv_V × zv_S) := match res with
  | none => .inl 2
  | some (v, σ) => if v.1 = 1 then .inl 2 else if v.1 = 2 then match zv_F (zv_E D 60) (if hd = true then v.2.2.1 else v.2.2.2.1) σ with
      | (.inl e, _) => .inl e
      | (.inr u, σ') => if hd = true ∧ ¬ u.1 = 0 then .inl 5 else .inr (u, σ')
    else .inl 5
def zv_wR (res : Option (zv_V × zv_S)) : Prop := ∀ v σ, res = some (v, σ) → zv_wS σ ∧ zv_wV σ.1.length v ∧ zv_b σ 1 0 ∧ ∀ (c : Nat) (t : List Int32 × List Int32 × List Nat), ¬ σ.1[c]? = some (t, some none)
def zr_res (M : Nat) (res : Option (zv_V × zv_S)) (s : Nat → Int32) (a : Nat → Nat → Int32) : Prop := (res = none → s 43 = 0) ∧ ∀ v σ, res = some (v, σ) → s 43 = 1 ∧ zr_val a σ.2.2.1 (s 40) (s 41) (s 42) v ∧ zr_St M σ s a
/-- what a side leaves as it was -/
def zr_ks (s : Nat → Int32) (a : Nat → Nat → Int32) (s' : Nat → Int32) (a' : Nat → Nat → Int32) : Prop := (∀ k, k ≤ 7 → a' k = a k) ∧ ∀ k, 8 ≤ k ∧ k ≤ 11 → s' k = s k
set_option maxHeartbeats 1000000 in
theorem zr_side_h (hr : zr_r ex sl) (hd : 12 ≤ d) (hDw : zv_wD D) (hdf : zr_def M a D) {res : Option (zv_V × zv_S)} (hw : zv_wR res) (hres : zr_res M res s a)
    (ke : ∀ e s' a', zv_side D true res = .inl e → (e = 2 ∨ e = 3 ∨ e = 4 ∨ e = 5) → s' 12 = nI (e - 1) → s' 43 = 0 → zr_ks s a s' a' → Q (.inl (some (.int 0))) (zr_H C ex sl s' a'))
    (kk : ∀ u σ' s' a', zv_side D true res = .inr (u, σ') → s' 12 = 0 → s' 43 = 1 → s' 40 = s 40 → s' 41 = s 41 → s' 42 = s 42 → zr_val a' σ'.2.2.1 (s' 37) (s' 38) (s' 39) u → zr_St M σ' s' a' → (∀ v σ, res = some (v, σ) → zr_val a' σ'.2.2.1 (s 40) (s 41) (s 42) v) → zr_ks s a s' a' → Q (.inl (some (.int 1))) (zr_H C ex sl s' a')) : zm_J N d 104 0 [(0, .ref 12), (1, .int 1)] [] (zr_H C ex sl s a) Q := by
  cases res with
  | none => exact (zr_sd_h0 (hres.1 rfl)).mono (fun z G h => by obtain ⟨rfl, rfl⟩ := h; exact ke 2 _ _ rfl (Or.inl rfl) rfl rfl ⟨fun _ _ => rfl, fun k hk => by repeat rw [zu_ne _ _ (by omega)]⟩)
  | some q =>
    obtain ⟨v, σ⟩ := q
    obtain ⟨r1, r2, r3⟩ := hres.2 v σ rfl
    obtain ⟨w1, w2, w3, w4⟩ := hw v σ rfl
    obtain ⟨l1, l2, l3, l4⟩ := zv_b_len w1 w3
    have hsd : ∀ x, (if v.1 = 1 then (.inl 2 : Nat ⊕ (zv_V × zv_S)) else if v.1 = 2 then match zv_F (zv_E D 60) v.2.2.1 σ with | (.inl e, _) => .inl e | (.inr u, σ') => if true = true ∧ ¬ u.1 = 0 then .inl 5 else .inr (u, σ') else .inl 5) = x → zv_side D true (some (v, σ)) = x := fun x hx => hx
    by_cases k1 : v.1 = 1
    · rw [if_pos k1] at hsd
      exact (zr_sd_h1 r1 (r2.1.trans k1)).mono (fun z G h => by obtain ⟨rfl, rfl⟩ := h; exact ke 2 _ _ (hsd _ rfl) (Or.inl rfl) rfl rfl ⟨fun _ _ => rfl, fun k hk => by repeat rw [zu_ne _ _ (by omega)]⟩)
    rw [if_neg k1] at hsd
    by_cases k2 : v.1 = 2
    · rw [if_pos k2] at hsd
      obtain ⟨v1, v2⟩ := w2.1 k2
      obtain ⟨g1, g2⟩ := zr_pair r2 k2
      have hfld : s 41 = nI v.2.2.1 := g1
      have hvc : v.2.2.1 < σ.1.length := v1
      generalize v.2.2.1 = c at hsd hfld hvc
      have hx : σ.1[c]? = some σ.1[c] := List.getElem?_eq_getElem hvc
      generalize σ.1[c] = x at hx
      obtain ⟨t, st⟩ := x
      obtain ⟨⟨p, e, q1, q2, q3, q4, q5⟩, q6⟩ := r3.2.2.2.2 c _ hx
      unfold zv_F at hsd
      rw [hx] at hsd
      dsimp only at hsd
      cases st with
      | some o =>
        cases o with
        | none => exact absurd hx (w4 c t)
        | some u =>
          have q6 : a 10 c = 2 ∧ zr_val a σ.2.2.1 (a 11 c) (a 12 c) (a 13 c) u := q6
          by_cases k0 : u.1 = 0
          · exact (zr_sd_h2 (by omega) r1 (r2.1.trans k2) hfld q6.1 (q6.2.1.trans k0)).mono (fun z G h => by obtain ⟨rfl, rfl⟩ := h; exact kk u σ _ _ (hsd _ (if_neg (fun z => z.2 k0))) rfl r1 rfl rfl rfl q6.2 (r3.up rfl rfl rfl rfl (fun _ _ => rfl)) (fun v' σ' hv => by cases hv; exact r2) ⟨fun _ _ => rfl, fun k hk => by repeat rw [zu_ne _ _ (by omega)]⟩)
          · exact (zr_sd_h3 (by omega) r1 (r2.1.trans k2) hfld q6.1 (fun z => k0 (q6.2.1.symm.trans z))).mono (fun z G h => by obtain ⟨rfl, rfl⟩ := h; exact ke 5 _ _ (hsd _ (if_pos ⟨rfl, k0⟩)) (Or.inr (Or.inr (Or.inr rfl))) rfl rfl ⟨fun _ _ => rfl, fun k hk => by repeat rw [zu_ne _ _ (by omega)]⟩)
      | none =>
        have q6 : a 10 c = 0 := q6
        obtain ⟨f1, f2, f3, f4⟩ := zv_F_pre w1 hx (w3 : zv_b σ (0 + 1) 0)
        have hB : ∀ k, k ≠ 10 → zu a 10 (upd (a 10) c 1) k = a k := fun k hk => zu_ne _ _ hk
        have hSt0 : zr_St M (zv_st σ (σ.1.set c (t, some none))) (zu (zu s 12 0) 35 (s 35 + 1)) (zu a 10 (upd (a 10) c 1)) := by
          refine ⟨by show s 23 = nI (σ.1.set c _).length; rw [List.length_set]; exact r3.1, r3.2.1, r3.2.2.1, r3.2.2.2.1, fun z x hz => ?_⟩
          have hz : (σ.1.set c (t, some none))[z]? = some x := hz
          by_cases hzc : c = z
          · subst hzc
            rw [List.getElem?_set_self hvc] at hz
            cases Option.some.inj hz
            exact ⟨⟨p, e, q1, q2, q3, q4.up (Or.inr fun _ _ => ⟨rfl, rfl⟩), q5⟩, zi_upd (a 10) c 1⟩
          · rw [List.getElem?_set_ne hzc] at hz
            exact zr_clo.up (a := a) (a' := zu a 10 (upd (a 10) c 1)) (Nat.le_refl _) (Nat.le_refl _) rfl rfl rfl (zi_updn (a 10) 1 (Ne.symm hzc)) rfl rfl rfl (fun q _ => ⟨rfl, rfl⟩) (fun q _ => ⟨rfl, rfl⟩) (r3.2.2.2.2 z x hz)
        refine zr_sd_hw hr (by omega) (by omega) r1 (r2.1.trans k2) hfld q6 q1 q2 (fun Q1 hQ1 => ?_)
        refine zr_work (M := M) (j := 0) hr (by omega) hDw f1 f2 f3 f4 hSt0 (hdf.up fun k hk => hB k (by omega)) rfl q3 (q4.up (Or.inr fun _ _ => ⟨rfl, rfl⟩)) q5 (fun s' a' ho => ?_)
        have hnb := zv_E_ok hDw 60 t.1 t.2.1 t.2.2 _ 0 f1 f2 f3 f4
        generalize zv_E D 60 t.1 t.2.1 t.2.2 (zv_st σ (σ.1.set c (t, some none))) = y at hsd ho hnb
        obtain ⟨qq, σ1⟩ := y
        obtain ⟨o1, o2⟩ := ho
        have hkB : ∀ k, k ≠ 10 ∧ k ≠ 11 ∧ k ≠ 12 ∧ k ≠ 13 → zr_kA a' c s' k = a' k := fun k hk => by
          unfold zr_kA
          rw [zu_ne _ _ hk.2.2.2, zu_ne _ _ hk.2.2.1, zu_ne _ _ hk.2.1, zu_ne _ _ hk.1]
        have hks : ∀ s'' : Nat → Int32, (∀ k, 8 ≤ k ∧ k ≤ 11 → s'' k = s' k) → zr_ks s a s'' (zr_kA a' c s') := fun s'' h => ⟨fun k hk => (hkB k (by omega)).trans ((o1.1 k hk).trans (hB k (by omega))), fun k hk => (h k hk).trans ((o1.2 k (Or.inl hk)).trans (by repeat rw [zu_ne _ _ (by omega)]))⟩
        cases qq with
        | inl code =>
          have o2 : s' 12 = nI code ∧ (code = 2 ∨ code = 3 ∨ code = 4 ∨ code = 5) := o2
          have hne : ¬ s' 12 = 0 := by rw [o2.1]; exact nI_ne0 (by omega) (by omega)
          refine hQ1 s' a' (fun z => absurd z hne) (fun z => absurd z hne) (fun _ => (zr_sd_he0 hne).mono (fun z G h => by
            obtain ⟨rfl, rfl⟩ := h
            refine ke code _ _ (hsd _ rfl) o2.2 ?_ rfl (hks _ (fun k hk => by first | rfl | (repeat rw [zu_ne _ _ (by omega)])))
            show s' 12 - 1 = nI (code - 1)
            rw [o2.1]
            show nI code - nI 1 = _
            exact pk_sub (by omega)))
        | inr u =>
          obtain ⟨o2, o3, o4, o5, o6⟩ := o2
          obtain ⟨n1, n2, n3, n4⟩ := hnb u rfl
          dsimp only at n1 n2 n3 n4
          obtain ⟨m1, m2, m3, m4⟩ := zv_b_len n1 n4
          have hcl1 : c < σ1.1.length := Nat.lt_of_lt_of_le (by show c < (σ.1.set c _).length; rw [List.length_set]; exact hvc) n3.len
          have h16 : ∀ q, q < σ1.2.2.1 → zr_kA a' c s' 16 q = a' 16 q ∧ zr_kA a' c s' 17 q = a' 17 q := fun q _ => ⟨congrFun (hkB 16 (by decide)) q, congrFun (hkB 17 (by decide)) q⟩
          have hStF : ∀ s'' : Nat → Int32, s'' 23 = s' 23 → s'' 24 = s' 24 → s'' 33 = s' 33 → s'' 25 = s' 25 → zr_St M (zv_st σ1 (σ1.1.set c (t, some (some u)))) s'' (zr_kA a' c s') := by
            intro s'' e1 e2 e3 e4
            refine ⟨by show s'' 23 = nI (σ1.1.set c _).length; rw [List.length_set, e1]; exact o4.1, e2.trans o4.2.1, e3.trans o4.2.2.1, e4.trans o4.2.2.2.1, fun z x hz => ?_⟩
            have hz : (σ1.1.set c (t, some (some u)))[z]? = some x := hz
            obtain ⟨st', y1, y2⟩ := n3.2.2.2 c t (some none) (by show (σ.1.set c _)[c]? = _; rw [List.getElem?_set_self hvc])
            by_cases hzc : c = z
            · subst hzc
              rw [List.getElem?_set_self hcl1] at hz
              cases Option.some.inj hz
              obtain ⟨⟨q', e', u1, u2, u3, u4, u5⟩, -⟩ := o4.2.2.2.2 c _ y1
              refine ⟨⟨q', e', (congrFun (hkB 8 (by decide)) c).trans u1, (congrFun (hkB 9 (by decide)) c).trans u2, by rw [hkB 1 (by decide)]; exact u3, u4.up (Or.inr fun _ _ => ⟨congrFun (hkB 14 (by decide)) _, congrFun (hkB 15 (by decide)) _⟩), u5⟩, zi_upd (a' 10) c 2, ?_⟩
              rw [show zr_kA a' c s' 11 c = s' 37 from zi_upd _ c _, show zr_kA a' c s' 12 c = s' 38 from zi_upd _ c _, show zr_kA a' c s' 13 c = s' 39 from zi_upd _ c _]
              exact o5.up (Nat.le_refl _) h16
            · rw [List.getElem?_set_ne hzc] at hz
              exact zr_clo.up (a' := zr_kA a' c s') (Nat.le_refl _) (Nat.le_refl _) (hkB 1 (by decide)) (congrFun (hkB 8 (by decide)) z) (congrFun (hkB 9 (by decide)) z) (zi_updn (a' 10) 2 (Ne.symm hzc)) (zi_updn (a' 11) _ (Ne.symm hzc)) (zi_updn (a' 12) _ (Ne.symm hzc)) (zi_updn (a' 13) _ (Ne.symm hzc)) (fun q _ => ⟨congrFun (hkB 14 (by decide)) q, congrFun (hkB 15 (by decide)) q⟩) h16 (o4.2.2.2.2 z x hz)
          have hr43 : ∀ k, 40 ≤ k → s' k = s k := fun k hk => (o1.2 k (Or.inr hk)).trans (by repeat rw [zu_ne _ _ (by omega)])
          have hvv : zr_val (zr_kA a' c s') σ1.2.2.1 (s 40) (s 41) (s 42) v := ⟨r2.1, Or.inr (Or.inr (Or.inl ⟨k2, g1, g2⟩))⟩
          by_cases k0 : u.1 = 0
          · refine hQ1 s' a' (fun _ _ => (zr_sd_he1 o2).mono (fun z G h => by obtain ⟨rfl, rfl⟩ := h; exact kk u _ _ _ (hsd _ (if_neg (fun z => z.2 k0))) o2 ((hr43 43 (by omega)).trans r1) (hr43 40 (by omega)) (hr43 41 (by omega)) (hr43 42 (by omega)) (o5.up (Nat.le_refl _) h16) (hStF _ rfl rfl rfl rfl) (fun v' σ' hv => by cases hv; exact hvv) (hks _ (fun k hk => by first | rfl | (repeat rw [zu_ne _ _ (by omega)]))))) (fun _ z => absurd (o5.1.trans k0) z) (fun z => absurd o2 z)
          · refine hQ1 s' a' (fun _ z => absurd (o5.1.symm.trans z) k0) (fun _ _ => (zr_sd_he0 (by show ¬ (5 : Int32) = 0; decide)).mono (fun z G h => by obtain ⟨rfl, rfl⟩ := h; exact ke 5 _ _ (hsd _ (if_pos ⟨rfl, k0⟩)) (Or.inr (Or.inr (Or.inr rfl))) (by show (5 : Int32) - 1 = nI 4; decide) rfl (hks _ (fun k hk => by first | rfl | (repeat rw [zu_ne _ _ (by omega)]))))) (fun z => absurd o2 z)
    · rw [if_neg k2] at hsd
      exact (zr_sd_h5 r1 (fun z => k1 (r2.1.symm.trans z)) (fun z => k2 (r2.1.symm.trans z))).mono (fun z G h => by obtain ⟨rfl, rfl⟩ := h; exact ke 5 _ _ (hsd _ rfl) (Or.inr (Or.inr (Or.inr rfl))) rfl rfl ⟨fun _ _ => rfl, fun k hk => by repeat rw [zu_ne _ _ (by omega)]⟩)
set_option maxHeartbeats 1000000 in
theorem zr_side_t (hr : zr_r ex sl) (hd : 12 ≤ d) (hDw : zv_wD D) (hdf : zr_def M a D) {res : Option (zv_V × zv_S)} (hw : zv_wR res) (hres : zr_res M res s a)
    (ke : ∀ e s' a', zv_side D false res = .inl e → (e = 2 ∨ e = 3 ∨ e = 4 ∨ e = 5) → s' 12 = nI (e - 1) → s' 43 = 0 → zr_ks s a s' a' → Q (.inl (some (.int 0))) (zr_H C ex sl s' a'))
    (kk : ∀ u σ' s' a', zv_side D false res = .inr (u, σ') → s' 12 = 0 → s' 43 = 1 → s' 40 = s 40 → s' 41 = s 41 → s' 42 = s 42 → zr_val a' σ'.2.2.1 (s' 37) (s' 38) (s' 39) u → zr_St M σ' s' a' → (∀ v σ, res = some (v, σ) → zr_val a' σ'.2.2.1 (s 40) (s 41) (s 42) v) → zr_ks s a s' a' → Q (.inl (some (.int 1))) (zr_H C ex sl s' a')) : zm_J N d 104 0 [(0, .ref 12), (1, .int 0)] [] (zr_H C ex sl s a) Q := by
  cases res with
  | none => exact (zr_sd_t0 (hres.1 rfl)).mono (fun z G h => by obtain ⟨rfl, rfl⟩ := h; exact ke 2 _ _ rfl (Or.inl rfl) rfl rfl ⟨fun _ _ => rfl, fun k hk => by repeat rw [zu_ne _ _ (by omega)]⟩)
  | some q =>
    obtain ⟨v, σ⟩ := q
    obtain ⟨r1, r2, r3⟩ := hres.2 v σ rfl
    obtain ⟨w1, w2, w3, w4⟩ := hw v σ rfl
    obtain ⟨l1, l2, l3, l4⟩ := zv_b_len w1 w3
    have hsd : ∀ x, (if v.1 = 1 then (.inl 2 : Nat ⊕ (zv_V × zv_S)) else if v.1 = 2 then match zv_F (zv_E D 60) v.2.2.2.1 σ with | (.inl e, _) => .inl e | (.inr u, σ') => if false = true ∧ ¬ u.1 = 0 then .inl 5 else .inr (u, σ') else .inl 5) = x → zv_side D false (some (v, σ)) = x := fun x hx => hx
    by_cases k1 : v.1 = 1
    · rw [if_pos k1] at hsd
      exact (zr_sd_t1 r1 (r2.1.trans k1)).mono (fun z G h => by obtain ⟨rfl, rfl⟩ := h; exact ke 2 _ _ (hsd _ rfl) (Or.inl rfl) rfl rfl ⟨fun _ _ => rfl, fun k hk => by repeat rw [zu_ne _ _ (by omega)]⟩)
    rw [if_neg k1] at hsd
    by_cases k2 : v.1 = 2
    · rw [if_pos k2] at hsd
      obtain ⟨v1, v2⟩ := w2.1 k2
      obtain ⟨g1, g2⟩ := zr_pair r2 k2
      have hfld : s 42 = nI v.2.2.2.1 := g2
      have hvc : v.2.2.2.1 < σ.1.length := v2
      generalize v.2.2.2.1 = c at hsd hfld hvc
      have hx : σ.1[c]? = some σ.1[c] := List.getElem?_eq_getElem hvc
      generalize σ.1[c] = x at hx
      obtain ⟨t, st⟩ := x
      obtain ⟨⟨p, e, q1, q2, q3, q4, q5⟩, q6⟩ := r3.2.2.2.2 c _ hx
      unfold zv_F at hsd
      rw [hx] at hsd
      dsimp only at hsd
      cases st with
      | some o =>
        cases o with
        | none => exact absurd hx (w4 c t)
        | some u =>
          have q6 : a 10 c = 2 ∧ zr_val a σ.2.2.1 (a 11 c) (a 12 c) (a 13 c) u := q6
          exact (zr_sd_t2 (by omega) r1 (r2.1.trans k2) hfld q6.1).mono (fun z G h => by obtain ⟨rfl, rfl⟩ := h; exact kk u σ _ _ (hsd _ (if_neg (fun z => by cases z.1))) rfl r1 rfl rfl rfl q6.2 (r3.up rfl rfl rfl rfl (fun _ _ => rfl)) (fun v' σ' hv => by cases hv; exact r2) ⟨fun _ _ => rfl, fun k hk => by repeat rw [zu_ne _ _ (by omega)]⟩)
      | none =>
        have q6 : a 10 c = 0 := q6
        obtain ⟨f1, f2, f3, f4⟩ := zv_F_pre w1 hx (w3 : zv_b σ (0 + 1) 0)
        have hB : ∀ k, k ≠ 10 → zu a 10 (upd (a 10) c 1) k = a k := fun k hk => zu_ne _ _ hk
        have hSt0 : zr_St M (zv_st σ (σ.1.set c (t, some none))) (zu (zu s 12 0) 35 (s 35 + 1)) (zu a 10 (upd (a 10) c 1)) := by
          refine ⟨by show s 23 = nI (σ.1.set c _).length; rw [List.length_set]; exact r3.1, r3.2.1, r3.2.2.1, r3.2.2.2.1, fun z x hz => ?_⟩
          have hz : (σ.1.set c (t, some none))[z]? = some x := hz
          by_cases hzc : c = z
          · subst hzc
            rw [List.getElem?_set_self hvc] at hz
            cases Option.some.inj hz
            exact ⟨⟨p, e, q1, q2, q3, q4.up (Or.inr fun _ _ => ⟨rfl, rfl⟩), q5⟩, zi_upd (a 10) c 1⟩
          · rw [List.getElem?_set_ne hzc] at hz
            exact zr_clo.up (a := a) (a' := zu a 10 (upd (a 10) c 1)) (Nat.le_refl _) (Nat.le_refl _) rfl rfl rfl (zi_updn (a 10) 1 (Ne.symm hzc)) rfl rfl rfl (fun q _ => ⟨rfl, rfl⟩) (fun q _ => ⟨rfl, rfl⟩) (r3.2.2.2.2 z x hz)
        refine zr_sd_tw hr (by omega) (by omega) r1 (r2.1.trans k2) hfld q6 q1 q2 (fun Q1 hQ1 => ?_)
        refine zr_work (M := M) (j := 0) hr (by omega) hDw f1 f2 f3 f4 hSt0 (hdf.up fun k hk => hB k (by omega)) rfl q3 (q4.up (Or.inr fun _ _ => ⟨rfl, rfl⟩)) q5 (fun s' a' ho => ?_)
        have hnb := zv_E_ok hDw 60 t.1 t.2.1 t.2.2 _ 0 f1 f2 f3 f4
        generalize zv_E D 60 t.1 t.2.1 t.2.2 (zv_st σ (σ.1.set c (t, some none))) = y at hsd ho hnb
        obtain ⟨qq, σ1⟩ := y
        obtain ⟨o1, o2⟩ := ho
        have hkB : ∀ k, k ≠ 10 ∧ k ≠ 11 ∧ k ≠ 12 ∧ k ≠ 13 → zr_kA a' c s' k = a' k := fun k hk => by
          unfold zr_kA
          rw [zu_ne _ _ hk.2.2.2, zu_ne _ _ hk.2.2.1, zu_ne _ _ hk.2.1, zu_ne _ _ hk.1]
        have hks : ∀ s'' : Nat → Int32, (∀ k, 8 ≤ k ∧ k ≤ 11 → s'' k = s' k) → zr_ks s a s'' (zr_kA a' c s') := fun s'' h => ⟨fun k hk => (hkB k (by omega)).trans ((o1.1 k hk).trans (hB k (by omega))), fun k hk => (h k hk).trans ((o1.2 k (Or.inl hk)).trans (by repeat rw [zu_ne _ _ (by omega)]))⟩
        cases qq with
        | inl code =>
          have o2 : s' 12 = nI code ∧ (code = 2 ∨ code = 3 ∨ code = 4 ∨ code = 5) := o2
          have hne : ¬ s' 12 = 0 := by rw [o2.1]; exact nI_ne0 (by omega) (by omega)
          refine hQ1 s' a' (fun z => absurd z hne) (fun _ => (zr_sd_te0 hne).mono (fun z G h => by
            obtain ⟨rfl, rfl⟩ := h
            refine ke code _ _ (hsd _ rfl) o2.2 ?_ rfl (hks _ (fun k hk => by first | rfl | (repeat rw [zu_ne _ _ (by omega)])))
            show s' 12 - 1 = nI (code - 1)
            rw [o2.1]
            show nI code - nI 1 = _
            exact pk_sub (by omega)))
        | inr u =>
          obtain ⟨o2, o3, o4, o5, o6⟩ := o2
          obtain ⟨n1, n2, n3, n4⟩ := hnb u rfl
          dsimp only at n1 n2 n3 n4
          obtain ⟨m1, m2, m3, m4⟩ := zv_b_len n1 n4
          have hcl1 : c < σ1.1.length := Nat.lt_of_lt_of_le (by show c < (σ.1.set c _).length; rw [List.length_set]; exact hvc) n3.len
          have h16 : ∀ q, q < σ1.2.2.1 → zr_kA a' c s' 16 q = a' 16 q ∧ zr_kA a' c s' 17 q = a' 17 q := fun q _ => ⟨congrFun (hkB 16 (by decide)) q, congrFun (hkB 17 (by decide)) q⟩
          have hStF : ∀ s'' : Nat → Int32, s'' 23 = s' 23 → s'' 24 = s' 24 → s'' 33 = s' 33 → s'' 25 = s' 25 → zr_St M (zv_st σ1 (σ1.1.set c (t, some (some u)))) s'' (zr_kA a' c s') := by
            intro s'' e1 e2 e3 e4
            refine ⟨by show s'' 23 = nI (σ1.1.set c _).length; rw [List.length_set, e1]; exact o4.1, e2.trans o4.2.1, e3.trans o4.2.2.1, e4.trans o4.2.2.2.1, fun z x hz => ?_⟩
            have hz : (σ1.1.set c (t, some (some u)))[z]? = some x := hz
            obtain ⟨st', y1, y2⟩ := n3.2.2.2 c t (some none) (by show (σ.1.set c _)[c]? = _; rw [List.getElem?_set_self hvc])
            by_cases hzc : c = z
            · subst hzc
              rw [List.getElem?_set_self hcl1] at hz
              cases Option.some.inj hz
              obtain ⟨⟨q', e', u1, u2, u3, u4, u5⟩, -⟩ := o4.2.2.2.2 c _ y1
              refine ⟨⟨q', e', (congrFun (hkB 8 (by decide)) c).trans u1, (congrFun (hkB 9 (by decide)) c).trans u2, by rw [hkB 1 (by decide)]; exact u3, u4.up (Or.inr fun _ _ => ⟨congrFun (hkB 14 (by decide)) _, congrFun (hkB 15 (by decide)) _⟩), u5⟩, zi_upd (a' 10) c 2, ?_⟩
              rw [show zr_kA a' c s' 11 c = s' 37 from zi_upd _ c _, show zr_kA a' c s' 12 c = s' 38 from zi_upd _ c _, show zr_kA a' c s' 13 c = s' 39 from zi_upd _ c _]
              exact o5.up (Nat.le_refl _) h16
            · rw [List.getElem?_set_ne hzc] at hz
              exact zr_clo.up (a' := zr_kA a' c s') (Nat.le_refl _) (Nat.le_refl _) (hkB 1 (by decide)) (congrFun (hkB 8 (by decide)) z) (congrFun (hkB 9 (by decide)) z) (zi_updn (a' 10) 2 (Ne.symm hzc)) (zi_updn (a' 11) _ (Ne.symm hzc)) (zi_updn (a' 12) _ (Ne.symm hzc)) (zi_updn (a' 13) _ (Ne.symm hzc)) (fun q _ => ⟨congrFun (hkB 14 (by decide)) q, congrFun (hkB 15 (by decide)) q⟩) h16 (o4.2.2.2.2 z x hz)
          have hr43 : ∀ k, 40 ≤ k → s' k = s k := fun k hk => (o1.2 k (Or.inr hk)).trans (by repeat rw [zu_ne _ _ (by omega)])
          have hvv : zr_val (zr_kA a' c s') σ1.2.2.1 (s 40) (s 41) (s 42) v := ⟨r2.1, Or.inr (Or.inr (Or.inl ⟨k2, g1, g2⟩))⟩
          refine hQ1 s' a' (fun _ => (zr_sd_te1 o2).mono (fun z G h => by obtain ⟨rfl, rfl⟩ := h; exact kk u _ _ _ (hsd _ (if_neg (fun z => by cases z.1))) o2 ((hr43 43 (by omega)).trans r1) (hr43 40 (by omega)) (hr43 41 (by omega)) (hr43 42 (by omega)) (o5.up (Nat.le_refl _) h16) (hStF _ rfl rfl rfl rfl) (fun v' σ' hv => by cases hv; exact hvv) (hks _ (fun k hk => by first | rfl | (repeat rw [zu_ne _ _ (by omega)]))))) (fun z => absurd o2 z)
    · rw [if_neg k2] at hsd
      exact (zr_sd_t5 r1 (fun z => k1 (r2.1.symm.trans z)) (fun z => k2 (r2.1.symm.trans z))).mono (fun z G h => by obtain ⟨rfl, rfl⟩ := h; exact ke 5 _ _ (hsd _ rfl) (Or.inr (Or.inr (Or.inr rfl))) rfl rfl ⟨fun _ _ => rfl, fun k hk => by repeat rw [zu_ne _ _ (by omega)]⟩)
end ZRK

/-! THE REFERENCE'S HEAP: its scalars s by field, its arrays a by number; C the other cells of fixed place, ex what was made later. -/
def zu {α : Type} (f : Nat → α) (k : Nat) (v : α) : Nat → α := fun j => cond (Nat.beq j k) v (f j)
theorem zu_same {α : Type} (f : Nat → α) (k : Nat) : zu f k (f k) = f := by
  funext j
  unfold zu
  cases h : Nat.beq j k with
  | false => rfl
  | true => rw [Nat.eq_of_beq_eq_true h]; rfl
def zr_H (C : Nat → zm_E) (ex : List zm_E) (sl : Nat) (s : Nat → Int32) (a : Nat → Nat → Int32) : zm_H := ([C 0, C 1, C 2, C 3, C 4, C 5, C 6, C 7, C 8, C 9, C 10, C 11, .inr (5, [.ref 13, .ref 14, .ref 15, .ref 16, .ref 17, .ref 18, .ref 19, .ref 20, .int (s 8), .int (s 9), .int (s 10), .int (s 11), .int (s 12), .ref 21, .ref 22, .ref 23, .ref 24, .ref 25, .ref 26, .ref 27, .ref 28, .ref 29, .ref 30, .int (s 23), .int (s 24), .int (s 25), .ref 31, .ref 32, .ref 33, .ref 34, .ref 35, .int (s 31), .int (s 32), .int (s 33), .int (s 34), .int (s 35), .int (s 36), .int (s 37), .int (s 38), .int (s 39), .int (s 40), .int (s 41), .int (s 42), .int (s 43)]), .inl (0, 40, .inl (a 0)), .inl (0, 21200, .inl (a 1)), .inl (0, 240, .inl (a 2)), .inl (0, 6, .inl (a 3)), .inl (0, 24, .inl (a 4)), .inl (0, 6, .inl (a 5)), .inl (0, 16, .inl (a 6)), .inl (3, 6, .inl (a 7)), .inl (0, 16400, .inl (a 8)), .inl (0, 16400, .inl (a 9)), .inl (0, 16400, .inl (a 10)), .inl (0, 16400, .inl (a 11)), .inl (0, 16400, .inl (a 12)), .inl (0, 16400, .inl (a 13)), .inl (0, 1700, .inl (a 14)), .inl (0, 1700, .inl (a 15)), .inl (0, 16400, .inl (a 16)), .inl (0, 16400, .inl (a 17)), .inl (0, 64, .inl (a 18)), .inl (0, 64, .inl (a 19)), .inl (0, 64, .inl (a 20)), .inl (0, 64, .inl (a 21)), .inl (0, 64, .inl (a 22)), C 36] ++ ex, sl)
def zr_r (ex : List zm_E) (sl : Nat) : Prop := ex.length + 37 ≤ zm_C ∧ sl ≤ zm_S
theorem zr_c {C : Nat → zm_E} {ex : List zm_E} {sl : Nat} {s : Nat → Int32} {a : Nat → Nat → Int32} (h : zr_r ex sl) : (zr_H C ex sl s a).1.length ≤ zm_C := h.1
theorem zr_s {C : Nat → zm_E} {ex : List zm_E} {sl : Nat} {s : Nat → Int32} {a : Nat → Nat → Int32} (h : zr_r ex sl) : (zr_H C ex sl s a).2 ≤ zm_S := h.2
/-- it gives v, and the reference's state is then s, a -/
def zr_R (C : Nat → zm_E) (ex : List zm_E) (sl : Nat) (v : Option Value) (s : Nat → Int32) (a : Nat → Nat → Int32) : zm_O → zm_H → Prop := fun z G => z = .inl v ∧ G = zr_H C ex sl s a
def zg_ldk (i : Instr) : Bool := match i with
  | .iaload => true
  | .caload => true
  | .baload => true
  | _ => false
section ZG
variable {N : zm_N} {d mi pc : Nat} {lv : zm_L} {G : zm_H} {Q : zm_O → zm_H → Prop}
theorem zg_ald {i : Instr} {qa qb : Nat} {qn : Int} {ad t n m : Nat} {f : Nat → Int32} {ty : FieldType} {j : Int32} {r : List Value} (hq : zm_cd mi pc = some (i, qa, qb, qn)) (ha : G.1[ad]? = some (.inl (t, n, .inl f))) (ht : zm_aty[t]? = some ty) (hi : (zm_aldt i ty && zg_ldk i) = true)
    (hj : j = nI m) (hm : m < n) (hn : n < 2147483648) (k : zm_J N d mi (pc + 1) lv (.int (f m) :: r) G Q) : zm_J N d mi pc lv (.int j :: .ref ad :: r) G Q := by
  subst hj
  rw [Bool.and_eq_true] at hi
  have hc : (nI m).toNatClampNeg = m := nI_clamp (by omega)
  have hif : zm_aldt i ty = true ∧ (0 : Int32) ≤ nI m ∧ (nI m).toNatClampNeg < n := ⟨hi.1, nI_pos' (by omega), by rw [hc]; exact hm⟩
  have hk : zm_len i = 1 ∧ zm_grp i = 5 ∧ zm_hp (i, qa, qb, qn) (.int (nI m) :: .ref ad :: r) G = some (.int (f m) :: r, G) := by
    have h2 := hi.2
    unfold zg_ldk at h2
    split at h2
    · refine ⟨rfl, rfl, ?_⟩; simp only [zm_hp, ha, ht]; rw [if_pos hif, hc]; rfl
    · refine ⟨rfl, rfl, ?_⟩; simp only [zm_hp, ha, ht]; rw [if_pos hif, hc]; rfl
    · refine ⟨rfl, rfl, ?_⟩; simp only [zm_hp, ha, ht]; rw [if_pos hif, hc]; rfl
    · cases h2
  refine zm_hp_ok zm_T (q := (i, qa, qb, qn)) (zm_T.1 mi pc _ hq) hk.2.1 (st' := .int (f m) :: r) (G' := G) hk.2.2 ?_
  show zm_J N d mi (pc + zm_len i) lv _ G Q
  rw [hk.1]
  exact k
theorem zg_J_ast {ad t qa qb : Nat} {qn : Int} {i : Instr} {r : List Value} {x x' : vp_A} {ty : FieldType} {v v' : Value} {j : Int32} (hq : zm_cd mi pc = some (i, qa, qb, qn)) (ha : G.1[ad]? = some (.inl (t, x))) (ht : zm_aty[t]? = some ty) (hv : zm_astv i ty v = some v') (hx : zm_aset x j.toNatClampNeg v' = some x') (hno : zm_no ≤ ad) (hj : 0 ≤ j ∧ j.toNatClampNeg < x.1) (hs : zm_sto t v G = true)
    (k : zm_J N d mi (pc + zm_len i) lv r (zm_set G ad (.inl (t, x'))) Q) : zm_J N d mi pc lv (v :: .int j :: .ref ad :: r) G Q := by
  refine zm_hs_ok zm_T (zm_T.1 mi pc _ hq) (st' := r) (G' := zm_set G ad (.inl (t, x'))) ?_ k
  unfold zm_hs
  simp only [ha, ht, hv, hx]
  rw [if_pos ⟨hno, hj.1, hj.2, hs⟩]
theorem zg_ast {i : Instr} {qa qb : Nat} {qn : Int} {ad t n m : Nat} {f : Nat → Int32} {ty : FieldType} {j v v' : Int32} {r : List Value} {G' : zm_H} (hq : zm_cd mi pc = some (i, qa, qb, qn)) (ha : G.1[ad]? = some (.inl (t, n, .inl f))) (ht : zm_aty[t]? = some ty) (hv : zm_astv i ty (.int v) = some (.int v')) (hno : zm_no ≤ ad)
    (hj : j = nI m) (hm : m < n) (hn : n < 2147483648) (hG : zm_set G ad (.inl (t, n, .inl (upd f m v'))) = G') (k : zm_J N d mi (pc + 1) lv r G' Q) : zm_J N d mi pc lv (.int v :: .int j :: .ref ad :: r) G Q := by
  subst hj hG
  have hc : (nI m).toNatClampNeg = m := nI_clamp (by omega)
  have hl : zm_len i = 1 := by
    unfold zm_astv at hv
    split at hv <;> first | rfl | cases hv
  refine zg_J_ast (x := (n, .inl f)) (x' := (n, .inl (upd f m v'))) hq ha ht hv (by rw [hc]; rfl) hno ⟨nI_pos' (by omega), by rw [hc]; exact hm⟩ rfl ?_
  rw [hl]
  exact k
theorem zg_S {mj idx : Nat} {av rest : List Value} {v : Option Value} {G2 : zm_H} (hdg : decode (zm_by mi) pc = .ok (.invokestatic idx, 3)) (hok : zm_okS mi idx mj av.length) (hw : (rest.map fun v => v.category).sum + (zm_nl mj + 11) ≤ zm_w) (hfit : (lg_sl av).length ≤ zm_nl mj) (hcm : G.1.length ≤ zm_C) (hsm : G.2 ≤ zm_S)
    (hJ : zm_J N d mj 0 (lv_args 0 av) [] G (fun z G' => z = .inl v ∧ G' = G2)) (k : zm_J N (d + 1) mi (pc + 3) lv (v.toList ++ rest) G2 Q) : zm_J N (d + 1) mi pc lv (av.reverse ++ rest) G Q := by
  refine zm_J_S hdg hok hw hfit hcm hsm hJ (fun u G' h => ?_) (fun x G' h => nomatch h.1)
  obtain ⟨h1, rfl⟩ := h
  cases Sum.inl.inj h1
  exact k
theorem zg_V {mj idx a x : Nat} {fs av rest : List Value} {v : Option Value} {G2 : zm_H} (hdg : decode (zm_by mi) pc = .ok (.invokevirtual idx, 3)) (hok : zm_okV mi idx mj av.length x) (ha : G.1[a]? = some (.inr (x, fs))) (hw : (rest.map fun v => v.category).sum + (zm_nl mj + 11) ≤ zm_w) (hfit : (lg_sl (.ref a :: av)).length ≤ zm_nl mj) (hcm : G.1.length ≤ zm_C) (hsm : G.2 ≤ zm_S)
    (hJ : zm_J N d mj 0 (lv_args 0 (.ref a :: av)) [] G (fun z G' => z = .inl v ∧ G' = G2)) (k : zm_J N (d + 1) mi (pc + 3) lv (v.toList ++ rest) G2 Q) : zm_J N (d + 1) mi pc lv (av.reverse ++ .ref a :: rest) G Q := by
  refine zm_J_V hdg hok ha hw hfit hcm hsm hJ (fun u G' h => ?_) (fun x G' h => nomatch h.1)
  obtain ⟨h1, rfl⟩ := h
  cases Sum.inl.inj h1
  exact k
theorem zg_I {mj idx a : Nat} {av rest : List Value} {v : Option Value} {G2 : zm_H} (hdg : decode (zm_by mi) pc = .ok (.invokespecial idx, 3)) (hok : zm_okI mi idx mj av.length) (hw : (rest.map fun v => v.category).sum + (zm_nl mj + 11) ≤ zm_w) (hfit : (lg_sl (.ref a :: av)).length ≤ zm_nl mj) (hcm : G.1.length ≤ zm_C) (hsm : G.2 ≤ zm_S)
    (hJ : zm_J N d mj 0 (lv_args 0 (.ref a :: av)) [] G (fun z G' => z = .inl v ∧ G' = G2)) (k : zm_J N (d + 1) mi (pc + 3) lv (v.toList ++ rest) G2 Q) : zm_J N (d + 1) mi pc lv (av.reverse ++ .ref a :: rest) G Q := by
  refine zm_J_I hdg hok hw hfit hcm hsm hJ (fun u G' h => ?_) (fun x G' h => nomatch h.1)
  obtain ⟨h1, rfl⟩ := h
  cases Sum.inl.inj h1
  exact k
/-- a call whose ends are told one by one -/
theorem zg_VK {mj idx a x : Nat} {fs av rest : List Value} (hdg : decode (zm_by mi) pc = .ok (.invokevirtual idx, 3)) (hok : zm_okV mi idx mj av.length x) (ha : G.1[a]? = some (.inr (x, fs))) (hw : (rest.map fun v => v.category).sum + (zm_nl mj + 11) ≤ zm_w) (hfit : (lg_sl (.ref a :: av)).length ≤ zm_nl mj) (hcm : G.1.length ≤ zm_C) (hsm : G.2 ≤ zm_S)
    (hJ : zm_J N d mj 0 (lv_args 0 (.ref a :: av)) [] G (fun z G' => ∃ v, z = .inl v ∧ zm_J N (d + 1) mi (pc + 3) lv (v.toList ++ rest) G' Q)) : zm_J N (d + 1) mi pc lv (av.reverse ++ .ref a :: rest) G Q := by
  refine zm_J_V hdg hok ha hw hfit hcm hsm hJ (fun u G' h => ?_) (fun x G' h => ?_)
  · obtain ⟨v, h1, h2⟩ := h
    cases Sum.inl.inj h1
    exact h2
  · obtain ⟨v, h1, h2⟩ := h
    cases h1
theorem zg_SK {mj idx : Nat} {av rest : List Value} (hdg : decode (zm_by mi) pc = .ok (.invokestatic idx, 3)) (hok : zm_okS mi idx mj av.length) (hw : (rest.map fun v => v.category).sum + (zm_nl mj + 11) ≤ zm_w) (hfit : (lg_sl av).length ≤ zm_nl mj) (hcm : G.1.length ≤ zm_C) (hsm : G.2 ≤ zm_S)
    (hJ : zm_J N d mj 0 (lv_args 0 av) [] G (fun z G' => ∃ v, z = .inl v ∧ zm_J N (d + 1) mi (pc + 3) lv (v.toList ++ rest) G' Q)) : zm_J N (d + 1) mi pc lv (av.reverse ++ rest) G Q := by
  refine zm_J_S hdg hok hw hfit hcm hsm hJ (fun u G' h => ?_) (fun x G' h => ?_)
  · obtain ⟨v, h1, h2⟩ := h
    cases Sum.inl.inj h1
    exact h2
  · obtain ⟨v, h1, h2⟩ := h
    cases h1
/-- a field of a cell that is known -/
theorem zg_gf {idx qa qb : Nat} {qn : Int} {ad : Nat} {fs r : List Value} {v : Value} (hq : zm_cd mi pc = some (.getfield idx, qa, qb, qn)) (ha : G.1[ad]? = some (.inr (qa, fs))) (hv : fs[qb]? = some v) (k : zm_J N d mi (pc + 3) lv (v :: r) G Q) : zm_J N d mi pc lv (.ref ad :: r) G Q := by
  refine zm_hp_ok zm_T (q := (.getfield idx, qa, qb, qn)) (zm_T.1 mi pc _ hq) rfl (st' := v :: r) (G' := G) ?_ k
  simp only [zm_hp, ha, hv, if_pos]
theorem zg_pf {idx qa qb : Nat} {qn : Int} {ad : Nat} {fs r : List Value} {v : Value} {G' : zm_H} (hq : zm_cd mi pc = some (.putfield idx, qa, qb, qn)) (ha : G.1[ad]? = some (.inr (qa, fs))) (hno : zm_no ≤ ad) (hl : qb < fs.length) (hv : zm_fit (zm_fty qa qb) v = true) (hG : zm_set G ad (.inr (qa, fs.set qb v)) = G') (k : zm_J N d mi (pc + 3) lv r G' Q) : zm_J N d mi pc lv (v :: .ref ad :: r) G Q := by
  subst hG
  refine zm_hp_ok zm_T (q := (.putfield idx, qa, qb, qn)) (zm_T.1 mi pc _ hq) rfl (st' := r) (G' := zm_set G ad (.inr (qa, fs.set qb v))) ?_ k
  simp only [zm_hp, ha]
  rw [if_pos ⟨trivial, hno, hl, hv⟩]
theorem zg_idiv {qa qb : Nat} {qn : Int} {x y : Int32} {r : List Value} (hq : zm_cd mi pc = some (.idiv, qa, qb, qn)) (hy : ¬ y = 0) (k : zm_J N d mi (pc + 1) lv (.int (x / y) :: r) G Q) : zm_J N d mi pc lv (.int y :: .int x :: r) G Q := by
  refine zm_stepq_ok zm_T (q := (.idiv, qa, qb, qn)) (zm_T.1 mi pc _ hq) (s' := (pc + 1, lv, .int (x / y) :: r, G)) ?_ k
  have h : zm_pure .idiv (.int y :: .int x :: r) = some (.int (x / y) :: r) := if_neg hy
  show (match zm_pure .idiv (.int y :: .int x :: r) with | some st => some (pc + 1, lv, st, G) | none => none) = _
  rw [h]
theorem zg_irem {qa qb : Nat} {qn : Int} {x y : Int32} {r : List Value} (hq : zm_cd mi pc = some (.irem, qa, qb, qn)) (hy : ¬ y = 0) (k : zm_J N d mi (pc + 1) lv (.int (x - x / y * y) :: r) G Q) : zm_J N d mi pc lv (.int y :: .int x :: r) G Q := by
  refine zm_stepq_ok zm_T (q := (.irem, qa, qb, qn)) (zm_T.1 mi pc _ hq) (s' := (pc + 1, lv, .int (x - x / y * y) :: r, G)) ?_ k
  have h : zm_pure .irem (.int y :: .int x :: r) = some (.int (x - x / y * y) :: r) := if_neg hy
  show (match zm_pure .irem (.int y :: .int x :: r) with | some st => some (pc + 1, lv, st, G) | none => none) = _
  rw [h]
end ZG
/-! numbers -/
theorem zi_ix (e i : Nat) : nI e * 4 + nI i = nI (4 * e + i) := by
  rw [Nat.mul_comm 4 e]
  show nI e * nI 4 + nI i = _
  rw [pk_mul, nI_add]
theorem zu_1 {α : Type} (f : Nat → α) (k : Nat) (x y : α) : zu (zu f k x) k y = zu f k y := by
  funext j
  unfold zu
  cases Nat.beq j k <;> rfl
theorem zu_2 {α : Type} (f : Nat → α) (x x' y y' : α) : zu (zu (zu (zu f 14 x) 15 x') 14 y) 15 y' = zu (zu f 14 y) 15 y' := by
  funext j
  unfold zu
  cases Nat.beq j 15 <;> cases Nat.beq j 14 <;> rfl
theorem zi_ge {a b : Int32} (h : ¬ a < b) : b ≤ a := Int32.not_lt.mp h
theorem zi_nlt {a b : Int32} (h : b ≤ a) : ¬ a < b := Int32.not_lt.mpr h
theorem zi_up (n : Nat) : nI n + 1 = nI (n + 1) := nI_1 n
theorem zi_dn (n : Nat) : nI (n + 1) - 1 = nI n := by rw [← nI_1]; exact Int32.add_sub_cancel (nI n) 1
theorem zi_upd (f : Nat → Int32) (m : Nat) (v : Int32) : upd f m v m = v := if_pos rfl
theorem zi_updn (f : Nat → Int32) {m q : Nat} (v : Int32) (h : q ≠ m) : upd f m v q = f q := if_neg h

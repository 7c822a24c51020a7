/-! THE STEPS IN ONE FUNCTION -/
def zm_room (G : zm_H) (n : Nat) : Bool := decide (G.1.length + 1 ≤ zm_C) && decide (G.2 + n ≤ zm_S)
/-- instructions that touch the heap or the tables -/
def zm_hp (q : zm_I) (st : List Value) (G : zm_H) : Option (List Value × zm_H) := match q.1 with
  | .ldc _ => some (.int (Int32.ofInt q.2.2.2) :: st, G)
  | .ldc2_w _ => some (.long (Int64.ofInt q.2.2.2) :: st, G)
  | .getstatic _ => some (.ref q.2.1 :: st, G)
  | .getfield _ => match st with
    | .ref a :: r => match G.1[a]? with
      | some (.inr x) => if x.1 = q.2.1 then match x.2[q.2.2.1]? with
          | some v => some (v :: r, G)
          | none => none
        else none
      | _ => none
    | _ => none
  | .putfield _ => match st with
    | v :: .ref a :: r => match G.1[a]? with
      | some (.inr x) => if x.1 = q.2.1 ∧ zm_no ≤ a ∧ q.2.2.1 < x.2.length ∧ zm_fit (zm_fty x.1 q.2.2.1) v = true then some (r, zm_set G a (.inr (x.1, x.2.set q.2.2.1 v))) else none
      | _ => none
    | _ => none
  | .new _ => if zm_room G (zm_fl q.2.1).length = true then some (.ref G.1.length :: st, zm_new G (.inr (q.2.1, (zm_fl q.2.1).map defaultValue)) (zm_fl q.2.1).length) else none
  | .newarray _ => match st with
    | .int n :: r => match zm_aty[q.2.1]? with
      | some ty => match zm_dflt n.toNatClampNeg ty with
        | some a0 => if 0 ≤ n ∧ n.toNatClampNeg * 8 ≤ 536870912 ∧ zm_room G n.toNatClampNeg = true then some (.ref G.1.length :: r, zm_new G (.inl (q.2.1, a0)) n.toNatClampNeg) else none
        | none => none
      | none => none
    | _ => none
  | .anewarray _ => match st with
    | .int n :: r => match zm_aty[q.2.1]? with
      | some (.object C) => match zm_dflt n.toNatClampNeg (.object C) with
        | some a0 => if 0 ≤ n ∧ n.toNatClampNeg * 8 ≤ 536870912 ∧ zm_room G n.toNatClampNeg = true then some (.ref G.1.length :: r, zm_new G (.inl (q.2.1, a0)) n.toNatClampNeg) else none
        | none => none
      | _ => none
    | _ => none
  | .arraylength => match st with
    | .ref a :: r => match G.1[a]? with
      | some (.inl x) => some (.int (Int32.ofNat x.2.1) :: r, G)
      | _ => none
    | _ => none
  | .checkcast _ => match st with
    | .null :: r => some (.null :: r, G)
    | .ref a :: r => match G.1[a]? with
      | some (.inr x) => if x.1 = q.2.1 then some (.ref a :: r, G) else none
      | _ => none
    | _ => none
  | i => match st with
    | .int j :: .ref a :: r => match G.1[a]? with
      | some (.inl x) => match zm_aty[x.1]? with
        | some ty => if zm_aldt i ty = true ∧ 0 ≤ j ∧ j.toNatClampNeg < x.2.1 then some (zm_el x.2 j.toNatClampNeg :: r, G) else none
        | none => none
      | _ => none
    | _ => none
/-- may it be written into an array of the kind t -/
def zm_sto (t : Nat) (v : Value) (G : zm_H) : Bool := match v with
  | .ref b => match G.1[b]? with
    | some (.inr y) => zm_sub.any (fun q => q.1 == t && q.2 == y.1)
    | _ => false
  | _ => true
/-- array stores -/
def zm_hs (q : zm_I) (st : List Value) (G : zm_H) : Option (List Value × zm_H) := match st with
  | v :: .int j :: .ref a :: r => match G.1[a]? with
    | some (.inl x) => match zm_aty[x.1]? with
      | some ty => match zm_astv q.1 ty v with
        | some v' => match zm_aset x.2 j.toNatClampNeg v' with
          | some x' => if zm_no ≤ a ∧ 0 ≤ j ∧ j.toNatClampNeg < x.2.1 ∧ zm_sto x.1 v G = true then some (r, zm_set G a (.inl (x.1, x'))) else none
          | none => none
        | none => none
      | none => none
    | _ => none
  | _ => none
/-- the groups -/
def zm_grp (i : Instr) : Nat := match i with
  | .iload_n _ => 1
  | .iload _ => 1
  | .lload_n _ => 1
  | .lload _ => 1
  | .aload_n _ => 1
  | .aload _ => 1
  | .istore_n _ => 2
  | .istore _ => 2
  | .lstore_n _ => 2
  | .lstore _ => 2
  | .astore_n _ => 2
  | .astore _ => 2
  | .iinc _ _ => 3
  | .goto _ => 4
  | .ifCond _ _ => 4
  | .if_icmp _ _ => 4
  | .if_acmp _ _ => 4
  | .ifnull _ => 4
  | .ifnonnull _ => 4
  | .tableswitch _ _ _ _ => 4
  | .lookupswitch _ _ => 4
  | .ldc _ => 5
  | .ldc2_w _ => 5
  | .getstatic _ => 5
  | .getfield _ => 5
  | .putfield _ => 5
  | .new _ => 5
  | .newarray _ => 5
  | .anewarray _ => 5
  | .arraylength => 5
  | .checkcast _ => 5
  | .iaload => 5
  | .laload => 5
  | .caload => 5
  | .baload => 5
  | .aaload => 5
  | .iastore => 6
  | .lastore => 6
  | .castore => 6
  | .bastore => 6
  | .aastore => 6
  | _ => 0
abbrev zm_S4 : Type := Nat × zm_L × List Value × zm_H
def zm_stepq (mi : Nat) (q : zm_I) (s : zm_S4) : Option zm_S4 := match zm_grp q.1 with
  | 0 => match zm_pure q.1 s.2.2.1 with
    | some st => some (s.1 + zm_len q.1, s.2.1, st, s.2.2.2)
    | none => none
  | 1 => match zm_load q.1 s.2.1 with
    | some v => some (s.1 + zm_len q.1, s.2.1, v :: s.2.2.1, s.2.2.2)
    | none => none
  | 2 => match zm_stor (zm_nl mi) q.1 s.2.1 s.2.2.1 with
    | some x => some (s.1 + zm_len q.1, x.1, x.2, s.2.2.2)
    | none => none
  | 3 => match zm_inc (zm_nl mi) q.1 s.2.1 with
    | some x => some (s.1 + zm_len q.1, x, s.2.2.1, s.2.2.2)
    | none => none
  | 4 => match zm_br zm_no q.1 s.1 s.2.2.1 with
    | some x => some (x.1, s.2.1, x.2, s.2.2.2)
    | none => none
  | 5 => match zm_hp q s.2.2.1 s.2.2.2 with
    | some x => some (s.1 + zm_len q.1, s.2.1, x.1, x.2)
    | none => none
  | _ => match zm_hs q s.2.2.1 s.2.2.2 with
    | some x => some (s.1 + zm_len q.1, s.2.1, x.1, x.2)
    | none => none
def zm_step (mi : Nat) (s : zm_S4) : Option zm_S4 := match zm_cd mi s.1 with
  | some q => zm_stepq mi q s
  | none => none
def zm_run (mi : Nat) : Nat → zm_S4 → Option zm_S4
  | 0, s => some s
  | n + 1, s => match zm_step mi s with
    | some s' => zm_run mi n s'
    | none => none
/-- the length as the table has it -/
def zm_ln (q : zm_I) : Nat := match q.1 with
  | .tableswitch _ _ _ _ => q.2.1
  | .lookupswitch _ _ => q.2.1
  | i => zm_len i
/-- the words of an instruction -/
def zm_okq (mi : Nat) (q : zm_I) : Prop := match q.1 with
  | .ldc idx => Cond.constant (zm_mn mi).cls idx (Int32.ofInt q.2.2.2) ∈ zm_tb
  | .ldc2_w idx => Cond.constantLong (zm_mn mi).cls idx (Int64.ofInt q.2.2.2) ∈ zm_tb
  | .getstatic idx => ∃ o ∈ zm_os, o.1 = q.2.1 ∧ Cond.fieldLink (zm_mn mi).cls idx o.2.1 o.2.2.1 o.2.2.2 ∈ zm_tb
  | .getfield idx => zm_okf mi idx q.2.1 q.2.2.1
  | .putfield idx => zm_okf mi idx q.2.1 q.2.2.1 ∧ zm_okw mi idx q.2.1 q.2.2.1
  | .new idx => zm_okn mi idx q.2.1
  | .newarray at_ => ∃ ty, zm_aty[q.2.1]? = some ty ∧ newarray.typeOf at_ = ty ∧ Cond.arrayClass ty ∈ zm_tb
  | .anewarray idx => ∃ C, zm_aty[q.2.1]? = some (.object C) ∧ Cond.arrayOver (.object C) ∈ zm_tb ∧ Cond.classLink (zm_mn mi).cls idx C ∈ zm_tb
  | .checkcast idx => ∃ nm C T n, Cond.classLink (zm_mn mi).cls idx nm ∈ zm_tb ∧ zm_cl[q.2.1]? = some (C, T, n) ∧ (C = nm ∨ Cond.castable C nm ∈ zm_tb)
  | _ => True
def zm_oke (mi pc : Nat) (q : zm_I) : Prop := decode (zm_by mi) pc = .ok (q.1, zm_ln q) ∧ zm_okq mi q
/-- the tables' own rows: every instruction is as it stands in the code -/
def zm_okt : Prop := (∀ mi pc q, zm_cd mi pc = some q → zm_oke mi pc q) ∧ ∀ q ∈ zm_sub, ∀ C, zm_aty[q.1]? = some (.object C) → zm_oka q.2 C
section ZT
variable {N : zm_N} {d mi : Nat} {Q : zm_O → zm_H → Prop}
theorem zm_hp_ok (hT : zm_okt) {q : zm_I} {pc : Nat} {lv : zm_L} {st st' : List Value} {G G' : zm_H} (he : zm_oke mi pc q) (hg : zm_grp q.1 = 5) (h : zm_hp q st G = some (st', G')) (k : zm_J N d mi (pc + zm_len q.1) lv st' G' Q) : zm_J N d mi pc lv st G Q := by
  obtain ⟨i, qa, qb, qn⟩ := q
  obtain ⟨hdg, hok⟩ := he
  intro p e R s m args below meth c sl0 Cx H locs ls cells slots hR hl hL hc hs
  have k0 := k p e R s m args below meth c sl0 Cx
  obtain ⟨cx1, cx2, cx3, cx4, cx5, cx6, cx7, cx8, cx9, cx10, cx11, cx12, cx13⟩ := id Cx
  unfold zm_hp at h
  simp only at h
  split at h
  · rename_i idx
    cases h
    exact lv_ldc cx1 cx2 cx4 (zm_wd N cx5 hok rfl args) hdg (k0 H locs ls cells slots hR hl hL hc hs)
  · rename_i idx
    cases h
    exact lv_ldc2 cx1 cx2 cx4 (zm_wd N cx5 hok rfl args) hdg (k0 H locs ls cells slots hR hl hL hc hs)
  · rename_i idx
    cases h
    obtain ⟨o, o1, o2, o3⟩ := hok
    have o2 : o.1 = qa := o2
    subst o2
    exact zm_gets_ok Cx hR o1 o3 hdg (k0 H locs ls cells slots hR hl hL hc hs)
  · rename_i idx
    split at h
    · split at h
      · rename_i a r x hx
        split at h
        · rename_i hxq
          split at h
          · rename_i v hv
            cases h
            have hxq : x.1 = qa := hxq
            subst hxq
            exact zm_getf_ok Cx hok hR hx hv hdg (k0 H locs ls cells slots hR hl hL hc hs)
          · cases h
        · cases h
      · cases h
    · cases h
  · rename_i idx
    split at h
    · split at h
      · rename_i v a r x hx
        split at h
        · rename_i hxq
          cases h
          obtain ⟨h1, h2, h3, h4⟩ := hxq
          have h1 : x.1 = qa := h1
          subst h1
          exact zm_putf_ok Cx hok.1 hok.2 hR hL hx h2 h3 h4 hdg (fun H' locs' r1 r2 r3 => k0 H' locs' ls cells slots r1 hl r3 (by rw [r2]; exact hc) hs)
        · cases h
      · cases h
    · cases h
  · rename_i idx
    split at h
    · rename_i hr
      cases h
      simp only [zm_room, Bool.and_eq_true, decide_eq_true_eq] at hr
      exact zm_new_ok Cx hok hR hc hs hr.1 hr.2 hdg (fun H' r1 r2 => k0 H' locs ls (cells + 1) (slots + (zm_fl qa).length) r1 hl hL (by omega) (by show sl0 + (slots + (zm_fl qa).length) = G.2 + (zm_fl qa).length; omega))
    · cases h
  · rename_i at_
    obtain ⟨ty, t1, t2, t3⟩ := hok
    split at h
    · split at h
      · rename_i n r _ ty' hty
        cases Option.some.inj (hty.symm.trans t1)
        split at h
        · rename_i a0 ha
          split at h
          · rename_i hr
            cases h
            obtain ⟨h1, h2, h3⟩ := hr
            simp only [zm_room, Bool.and_eq_true, decide_eq_true_eq] at h3
            exact zm_newp_ok Cx hR t1 t2 t3 h1 ha h2 hc hs h3.1 h3.2 hdg (fun H' r1 r2 => k0 H' locs ls (cells + 1) (slots + n.toNatClampNeg) r1 hl hL (by omega) (by show sl0 + (slots + n.toNatClampNeg) = G.2 + n.toNatClampNeg; omega))
          · cases h
        · cases h
      · cases h
    · cases h
  · rename_i idx
    obtain ⟨C, t1, t2, t3⟩ := hok
    split at h
    · split at h
      · rename_i n r _ C' hty
        cases Option.some.inj (hty.symm.trans t1)
        split at h
        · rename_i a0 ha
          split at h
          · rename_i hr
            cases h
            obtain ⟨h1, h2, h3⟩ := hr
            simp only [zm_room, Bool.and_eq_true, decide_eq_true_eq] at h3
            exact zm_newr_ok Cx hR t1 t2 t3 h1 ha h2 hc hs h3.1 h3.2 hdg (fun H' r1 r2 => k0 H' locs ls (cells + 1) (slots + n.toNatClampNeg) r1 hl hL (by omega) (by show sl0 + (slots + n.toNatClampNeg) = G.2 + n.toNatClampNeg; omega))
          · cases h
        · cases h
      · cases h
    · cases h
  · split at h
    · split at h
      · rename_i a r x hx
        cases h
        exact zm_alen_ok Cx hR hx hdg (k0 H locs ls cells slots hR hl hL hc hs)
      · cases h
    · cases h
  · rename_i idx
    obtain ⟨nm, C, T, n, t1, t2, t3⟩ := hok
    split at h
    · cases h
      exact lv_castN cx1 cx2 hdg (k0 H locs ls cells slots hR hl hL hc hs)
    · split at h
      · rename_i a r x hx
        split at h
        · rename_i hxq
          cases h
          have hxq : x.1 = qa := hxq
          subst hxq
          exact zm_cast_ok Cx hR t1 hx t2 t3 hdg (k0 H locs ls cells slots hR hl hL hc hs)
        · cases h
      · cases h
    · cases h
  · split at h
    · split at h
      · rename_i j a r x hx
        split at h
        · rename_i ty hty
          split at h
          · rename_i hr
            cases h
            obtain ⟨h1, h2⟩ := hr
            have hl1 : zm_len i = 1 ∧ zm_ln (i, qa, qb, qn) = 1 := by
              unfold zm_aldt at h1
              split at h1 <;> first | exact ⟨rfl, rfl⟩ | cases h1
            have k1 := k0 H locs ls cells slots hR hl hL hc hs
            have hdg : decode (zm_by mi) pc = .ok (i, 1) := by rw [← hl1.2]; exact hdg
            have hz : pc + zm_len i = pc + 1 := by rw [hl1.1]
            rw [show pc + zm_len (i, qa, qb, qn).1 = pc + 1 from hz] at k1
            exact zm_ald_ok Cx hR hx hty h1 h2 hdg k1
          · cases h
        · cases h
      · cases h
    · cases h
theorem zm_hs_ok (hT : zm_okt) {q : zm_I} {pc : Nat} {lv : zm_L} {st st' : List Value} {G G' : zm_H} (he : zm_oke mi pc q) (h : zm_hs q st G = some (st', G')) (k : zm_J N d mi (pc + zm_len q.1) lv st' G' Q) : zm_J N d mi pc lv st G Q := by
  obtain ⟨i, qa, qb, qn⟩ := q
  obtain ⟨hdg, hok⟩ := he
  intro p e R s m args below meth c sl0 Cx H locs ls cells slots hR hl hL hc hs
  have k0 := k p e R s m args below meth c sl0 Cx
  obtain ⟨cx1, cx2, cx3, cx4, cx5, cx6, cx7, cx8, cx9, cx10, cx11, cx12, cx13⟩ := id Cx
  unfold zm_hs at h
  simp only at h
  split at h
  · split at h
    · rename_i v j a r x hx
      split at h
      · rename_i ty hty
        split at h
        · rename_i v' hv'
          split at h
          · rename_i x' hx'
            split at h
            · rename_i hr
              cases h
              obtain ⟨h1, h2, h3, h4⟩ := hr
              have hl1 : zm_len i = 1 ∧ zm_ln (i, qa, qb, qn) = 1 := by
                unfold zm_astv at hv'
                split at hv' <;> first | exact ⟨rfl, rfl⟩ | cases hv'
              have hdg : decode (zm_by mi) pc = .ok (i, 1) := by rw [← hl1.2]; exact hdg
              have hz : pc + zm_len i = pc + 1 := by rw [hl1.1]
              rw [show pc + zm_len (i, qa, qb, qn).1 = pc + 1 from hz] at k0
              refine zm_ast_ok Cx hR hL hx h1 hty ⟨h2, h3⟩ hv' ?_ hx' hdg (fun H' locs' r1 r2 r3 => k0 H' locs' ls cells slots r1 hl r3 (by rw [r2]; exact hc) hs)
              intro b C hC hb
              subst hb
              unfold zm_sto at h4
              simp only at h4
              split at h4
              · rename_i y hy
                obtain ⟨w, hw, hw2⟩ := List.any_eq_true.mp h4
                simp only [Bool.and_eq_true, beq_iff_eq] at hw2
                refine ⟨y.1, y.2, hy, ?_⟩
                have := hT.2 w hw C (by rw [hw2.1, hty, hC])
                rw [hw2.2] at this
                exact this
              · cases h4
            · cases h
          · cases h
        · cases h
      · cases h
    · cases h
  · cases h
set_option maxHeartbeats 1000000 in
theorem zm_stepq_ok (hT : zm_okt) {q : zm_I} {pc : Nat} {lv : zm_L} {st : List Value} {G : zm_H} {s' : zm_S4} (he : zm_oke mi pc q) (h : zm_stepq mi q (pc, lv, st, G) = some s') (k : zm_J N d mi s'.1 s'.2.1 s'.2.2.1 s'.2.2.2 Q) : zm_J N d mi pc lv st G Q := by
  unfold zm_stepq at h
  simp only at h
  have hln : zm_grp q.1 ≠ 4 → zm_ln q = zm_len q.1 := by
    intro hg
    unfold zm_ln
    split
    · rename_i hi; rw [hi] at hg; exact absurd rfl hg
    · rename_i hi; rw [hi] at hg; exact absurd rfl hg
    · rfl
  split at h
  · rename_i hg
    have hdg := he.1
    rw [hln (by omega)] at hdg
    split at h
    · rename_i st' hst
      cases h
      intro p e R s m args below meth c sl0 Cx H locs ls cells slots hR hl hL hc hs
      exact zm_pure_ok N.ad Cx.1 Cx.2.1 hst hdg (k p e R s m args below meth c sl0 Cx H locs ls cells slots hR hl hL hc hs)
    · cases h
  · rename_i hg
    have hdg := he.1
    rw [hln (by omega)] at hdg
    split at h
    · rename_i v hst
      cases h
      intro p e R s m args below meth c sl0 Cx H locs ls cells slots hR hl hL hc hs
      exact zm_load_ok N.ad Cx.1 Cx.2.1 hl hst hdg (k p e R s m args below meth c sl0 Cx H locs ls cells slots hR hl hL hc hs)
    · cases h
  · rename_i hg
    have hdg := he.1
    rw [hln (by omega)] at hdg
    split at h
    · rename_i x hst
      cases h
      intro p e R s m args below meth c sl0 Cx H locs ls cells slots hR hl hL hc hs
      exact zm_stor_ok N.ad Cx.1 Cx.2.1 hl hst hdg (fun ls' hl' => k p e R s m args below meth c sl0 Cx H locs ls' cells slots hR hl' hL hc hs)
    · cases h
  · rename_i hg
    have hdg := he.1
    rw [hln (by omega)] at hdg
    split at h
    · rename_i x hst
      cases h
      intro p e R s m args below meth c sl0 Cx H locs ls cells slots hR hl hL hc hs
      exact zm_inc_ok N.ad Cx.1 Cx.2.1 hl hst hdg (fun ls' hl' => k p e R s m args below meth c sl0 Cx H locs ls' cells slots hR hl' hL hc hs)
    · cases h
  · split at h
    · rename_i x hst
      cases h
      intro p e R s m args below meth c sl0 Cx H locs ls cells slots hR hl hL hc hs
      refine zm_br_ok N.ad (zm_ad_inj N) Cx.1 Cx.2.1 hst he.1 ?_ (k p e R s m args below meth c sl0 Cx H locs ls cells slots hR hl hL hc hs)
      intro ho
      unfold zm_ln
      split
      · rename_i hi; rw [hi] at ho; cases ho
      · rename_i hi; rw [hi] at ho; cases ho
      · rfl
    · cases h
  · rename_i hg
    split at h
    · rename_i x hst
      cases h
      exact zm_hp_ok hT he hg hst k
    · cases h
  · split at h
    · rename_i x hst
      cases h
      exact zm_hs_ok hT he hst k
    · cases h
theorem zm_J_run0 (hT : zm_okt) (n : Nat) {pc : Nat} {lv : zm_L} {st : List Value} {G : zm_H} {s' : zm_S4} (h : zm_run mi n (pc, lv, st, G) = some s') (k : zm_J N d mi s'.1 s'.2.1 s'.2.2.1 s'.2.2.2 Q) : zm_J N d mi pc lv st G Q := by
  induction n generalizing pc lv st G with
  | zero =>
    cases h
    exact k
  | succ n ih =>
    unfold zm_run at h
    split at h
    · rename_i s1 hs1
      unfold zm_step at hs1
      split at hs1
      · rename_i q hq
        exact zm_stepq_ok hT (hT.1 mi pc q hq) hs1 (ih h)
      · cases hs1
    · cases h
/-- n steps at once -/
theorem zm_J_run (hT : zm_okt) (n : Nat) {pc pc' : Nat} {lv lv' : zm_L} {st st' : List Value} {G G' : zm_H} (h : zm_run mi n (pc, lv, st, G) = some (pc', lv', st', G')) (k : zm_J N d mi pc' lv' st' G' Q) : zm_J N d mi pc lv st G Q := zm_J_run0 hT n h k
/-- fewer locals, in any order -/
theorem zm_J_lv {pc : Nat} {lv lv' : zm_L} {st : List Value} {G : zm_H} (h : ∀ q ∈ lv', q ∈ lv) (k : zm_J N d mi pc lv' st G Q) : zm_J N d mi pc lv st G Q := by
  intro p e R s m args below meth c sl0 Cx H locs ls cells slots hR hl hL hc hs
  refine k p e R s m args below meth c sl0 Cx H locs ls cells slots hR ⟨hl.1, hl.2.1, fun q hq => ?_⟩ hL hc hs
  obtain ⟨q', hq', rfl⟩ := List.mem_map.mp hq
  exact hl.2.2 _ (List.mem_map.mpr ⟨q', h q' hq', rfl⟩)
/-- fewer frames -/
theorem zm_J_d {d' pc : Nat} {lv : zm_L} {st : List Value} {G : zm_H} (h : d' ≤ d) (k : zm_J N d' mi pc lv st G Q) : zm_J N d mi pc lv st G Q := by
  intro p e R s m args below meth c sl0 Cx H locs ls cells slots hR hl hL hc hs
  obtain ⟨cx1, cx2, cx3, cx4, cx5, cx6, cx7, cx8, cx9, cx10, cx11, cx12, cx13⟩ := Cx
  exact k p e R s m args below meth c sl0 ⟨cx1, cx2, cx3, cx4, cx5, cx6, cx7, cx8, cx9, Nat.le_trans h cx10, Nat.le_trans (Nat.mul_le_mul_left _ h) cx11, cx12, cx13⟩ H locs ls cells slots hR hl hL hc hs
end ZT

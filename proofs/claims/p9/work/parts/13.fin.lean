/-! returns in one rule -/
def zm_ret (i : Instr) (rt : Option FieldType) (st : List Value) : Option (Option Value) := match i, rt, st with
  | .ireturn, some .int, [.int v] => some (some (.int v))
  | .ireturn, some .boolean, [.int v] => if v = 0 ∨ v = 1 then some (some (.int v)) else none
  | .areturn, some (.object _), [.ref a] => some (some (.ref a))
  | .areturn, some (.object _), [.null] => some (some .null)
  | .areturn, some (.array _), [.ref a] => some (some (.ref a))
  | .return_, none, [] => some none
  | _, _, _ => none
theorem zm_J_fin (hT : zm_okt) {N : zm_N} {d mi pc : Nat} {lv : zm_L} {st : List Value} {G : zm_H} {Q : zm_O → zm_H → Prop} {q : zm_I} {v : Option Value} (hq : zm_cd mi pc = some q) (h : zm_ret q.1 (zm_rt mi) st = some v) (k : Q (.inl v) G) : zm_J N d mi pc lv st G Q := by
  obtain ⟨i, qa, qb, qn⟩ := q
  have hdg := (hT.1 mi pc _ hq).1
  unfold zm_ret at h
  split at h
  · rename_i hi hr
    have hi : i = .ireturn := hi
    subst hi
    cases Option.some.inj h
    exact zm_J_iret hdg hr rfl k
  · rename_i x hi hr
    have hi : i = .ireturn := hi
    subst hi
    split at h
    · rename_i hx
      cases Option.some.inj h
      refine zm_J_iret hdg hr ?_ k
      rcases hx with rfl | rfl <;> rfl
    · cases h
  · rename_i hi hr
    have hi : i = .areturn := hi
    subst hi
    cases Option.some.inj h
    exact zm_J_aret hdg hr rfl rfl k
  · rename_i hi hr
    have hi : i = .areturn := hi
    subst hi
    cases Option.some.inj h
    exact zm_J_aret hdg hr rfl rfl k
  · rename_i hi hr
    have hi : i = .areturn := hi
    subst hi
    cases Option.some.inj h
    exact zm_J_aret hdg hr rfl rfl k
  · rename_i hi hr
    have hi : i = .return_ := hi
    subst hi
    cases Option.some.inj h
    exact zm_J_vret hdg hr k
  · cases h

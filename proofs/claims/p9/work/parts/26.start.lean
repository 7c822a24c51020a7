/-! THE LAW's START: the bundle N of the small machine -/
theorem zm_clk : ∀ q ∈ zm_cl, (∀ w ∈ u_ws q.1 q.2.1 q.2.2, w ∈ zm_tb) ∧ ∃ n, Cond.instantiable q.1 n ∈ zm_tb := List.forall_mem_cons.mpr ⟨⟨zm_f0.1, _, zw_28⟩, List.forall_mem_cons.mpr ⟨⟨zm_f1.1, _, zw_36⟩, List.forall_mem_cons.mpr ⟨⟨zm_f2.1, _, zw_70⟩, List.forall_mem_cons.mpr ⟨⟨zm_f3.1, _, zw_76⟩, List.forall_mem_cons.mpr ⟨⟨zm_f4.1, _, zw_103⟩, List.forall_mem_cons.mpr ⟨⟨zm_f5.1, _, zw_715⟩, List.forall_mem_cons.mpr ⟨⟨zm_f6.1, _, zw_327⟩, List.forall_mem_cons.mpr ⟨⟨zm_f7.1, _, zw_355⟩, List.forall_mem_cons.mpr ⟨⟨zm_f8.1, _, zw_566⟩, List.forall_mem_cons.mpr ⟨⟨zm_f9.1, _, zw_617⟩, fun _ h => absurd h List.not_mem_nil⟩⟩⟩⟩⟩⟩⟩⟩⟩⟩
theorem zm_arO {A : Array Value} {s : State} {C : String} (h : (Cond.arrayOver (.object C)).before A s = true) : ∃ cA : ClassId, ArrOfT s cA (.object C) ∧ va_RA s cA (.object C) := by
  obtain ⟨comp, c, k, h1, h2, h3, h4, h5⟩ := Cond.arrayOver_spec h
  exact ⟨c, fun n z => ⟨fun k h => (by cases h), k, h3, comp, h4⟩, k, comp, h3, h4, h1, h5⟩
theorem zm_arP {A : Array Value} {s : State} {ty : FieldType} (h : (Cond.arrayClass ty).before A s = true) : ∃ cA : ClassId, ArrOfT s cA ty ∧ s.vm.findClass ("[" ++ ty.toString) = some cA := by
  obtain ⟨c, k, comp, h1, h2, h3⟩ := Cond.arrayClass_spec h
  exact ⟨c, fun n z => ⟨fun k h => (by cases h), k, h2, comp, h3⟩, h1⟩
theorem zm_arrRef {A : Array Value} {s : State} {t : Term} {ty : FieldType} (h : (Cond.arrayOf t ty).before A s = true) : ∃ a : Nat, t.eval A s none [] s = some (.ref a) ∧ a < s.heap.size := by
  simp only [Cond.before, Cond.holds, Cond.value] at h
  split at h
  · simp at h
  · split at h
    · rename_i a ha
      refine ⟨a, ha, ?_⟩
      cases hc : s.heap[a]? with
      | none => rw [hc] at h; simp at h
      | some cell => exact (Array.getElem?_eq_some_iff.mp hc).1
    · simp at h
    · simp at h
theorem zm_arrRef2 {A : Array Value} {s : State} {t : Term} {ty : FieldType} {a : Nat} (h : (Cond.arrayOf t ty).before A s = true) (h0 : (Cond.eq (.length t) (.int 0)).before A s = true) (ha : t.eval A s none [] s = some (.ref a)) : ∃ cell : Cell, s.heap[a]? = some cell ∧ s.isArrayOf cell ty ∧ cell.vm ≠ .unknown ∧ cell.slots.size = 0 := by
  obtain ⟨a', ha', hl⟩ := zm_arrRef h
  cases Option.some.inj (ha.symm.trans ha')
  have hc : s.heap[a]? = some s.heap[a] := Array.getElem?_eq_getElem hl
  obtain ⟨h1, h2⟩ := Cond.arrayOf_spec h ha hc
  refine ⟨_, hc, h1, h2, ?_⟩
  obtain ⟨y, k1, k2⟩ := Cond.eq_one h0
  cases k2
  have harr : s.arrayAt? a = some s.heap[a] := by
    obtain ⟨g1, k, g2, comp, g3⟩ := h1
    have hst : (s.heap[a]).vm.isStatics = false := by cases hv : (s.heap[a]).vm <;> first | rfl | exact absurd hv (g1 _)
    simp [State.arrayAt?, hc, g2, g3, h2, hst]
  by_cases hs : (s.heap[a]).slots.size < 2147483648
  · have e : (s.heap[a]).slots.size.toInt32 = 0 := by simpa [Term.eval, ha, harr, hs] using k1
    have h1 := nI_clamp (n := (s.heap[a]).slots.size) (by omega)
    rw [show nI (s.heap[a]).slots.size = 0 from e] at h1
    exact h1.symm.trans (by decide)
  · simp [Term.eval, ha, harr, hs] at k1
def zm_G0h (L : Nat) (xs : Nat → Int32) : zm_H := ([.inl (0, L, .inl xs), .inl (5, 0, .inr (.inr (.inr (.inr fun _ => none))))], 0)
set_option maxHeartbeats 1000000 in
theorem zm_start {s : State} {b L : Nat} {xs : Nat → Int32} (l : Launch) (hlt : l.stackTraces = false) (hts : ∀ w ∈ lw_tbl, w.before #[Value.ref b] s = true) (hX : va_X b L xs s s.heap) (hbl : b < s.heap.size) (hgv : (Jvm.Cond.and given_1 narrow_1).before #[Value.ref b] s = true) :
    ∃ N : zm_N, N.l = l ∧ N.s0 = s ∧ N.ad 0 = b ∧ zm_Rp N (zm_G0h L xs) s.heap := by
  have hex : ∀ w ∈ zm_ex, w.before #[Value.ref b] s = true := fun w hw => flat_of_before _ hgv w ((by decide +kernel : ∀ w ∈ zm_ex, w ∈ flatC (Jvm.Cond.and given_1 narrow_1)) w hw)
  have htb : ∀ w ∈ zm_tb, w.before #[Value.ref b] s = true := fun w hw => (List.mem_append.mp hw).elim (hts w) (hex w)
  have hcl : ∀ k : Nat, ∃ (cC : ClassId) (iS : Nat → Nat), ∀ q : vw_C, zm_cl[k]? = some q → u_Kn s q.1 q.2.1 q.2.2 cC iS := by
    intro k
    cases h : zm_cl[k]? with
    | none => exact ⟨0, fun _ => 0, fun q hq => by cases hq⟩
    | some q =>
      obtain ⟨h1, n, h2⟩ := zm_clk q (List.mem_of_getElem? h)
      obtain ⟨cC, iS, hk⟩ := u_known htb h1 (htb _ h2)
      exact ⟨cC, iS, fun q' hq' => by cases hq'; exact hk⟩
  have har : ∀ t : Nat, ∃ cA : ClassId, ∀ ty : FieldType, zm_aty[t]? = some ty → ArrOfT s cA ty ∧ va_RA s cA ty := by
    intro t
    match t with
    | 0 => obtain ⟨cA, h1, h2⟩ := zm_arP (htb _ zw_853); exact ⟨cA, fun ty h => by cases Option.some.inj (show some FieldType.int = some ty from h); exact ⟨h1, h2⟩⟩
    | 1 => obtain ⟨cA, h1, h2⟩ := zm_arP (htb _ zw_68); exact ⟨cA, fun ty h => by cases Option.some.inj (show some FieldType.char = some ty from h); exact ⟨h1, h2⟩⟩
    | 2 => obtain ⟨cA, h1, h2⟩ := zm_arP (htb _ zw_998); exact ⟨cA, fun ty h => by cases Option.some.inj (show some FieldType.long = some ty from h); exact ⟨h1, h2⟩⟩
    | 3 => obtain ⟨cA, h1, h2⟩ := zm_arP (htb _ zw_854); exact ⟨cA, fun ty h => by cases Option.some.inj (show some FieldType.boolean = some ty from h); exact ⟨h1, h2⟩⟩
    | 4 => obtain ⟨cA, h1, h2⟩ := zm_arO (htb _ zw_152); exact ⟨cA, fun ty h => by cases Option.some.inj (show some (FieldType.object "NeedMachine$Definition") = some ty from h); exact ⟨h1, h2⟩⟩
    | 5 => obtain ⟨cA, h1, h2⟩ := zm_arO (htb _ (by decide +kernel : Cond.arrayOver (.object "java/lang/Object") ∈ zm_tb)); exact ⟨cA, fun ty h => by cases Option.some.inj (show some (FieldType.object "java/lang/Object") = some ty from h); exact ⟨h1, h2⟩⟩
    | t + 6 => exact ⟨0, fun ty h => by cases (show none = some ty from h)⟩
  have hda : (Cond.arrayOf (.static "java/util/ArrayList" "DEFAULTCAPACITY_EMPTY_ELEMENTDATA" "[Ljava/lang/Object;") (.object "java/lang/Object")).before #[Value.ref b] s = true := flat_of_before _ hgv _ (by decide +kernel)
  obtain ⟨t, ht, htl⟩ := zm_arrRef hda
  have hZ : va_Z "java/util/ArrayList" "DEFAULTCAPACITY_EMPTY_ELEMENTDATA" "[Ljava/lang/Object;" (.ref t) (fun a => s.heap.size ≤ a) s s.heap := va_Zref (htb _ (by decide +kernel : Cond.laysStatic "java/util/ArrayList" "DEFAULTCAPACITY_EMPTY_ELEMENTDATA" "[Ljava/lang/Object;" ∈ zm_tb)) (htb _ (by decide +kernel : Cond.initialized "java/util/ArrayList" ∈ zm_tb)) ht (fun a ha => Nat.not_le.mpr ha)
  refine ⟨⟨(l, s, (fun k => Classical.choose (hcl k), fun k => Classical.choose (Classical.choose_spec (hcl k))), fun k => Classical.choose (har k), fun k => if k = 0 then b else t), ⟨_, htb⟩, ⟨fun c q hq => Classical.choose_spec (Classical.choose_spec (hcl c)) q hq, fun k ty hk => Classical.choose_spec (har k) ty hk⟩, hlt, ?_, ?_⟩, rfl, rfl, rfl, ?_, ?_, ?_, ?_⟩
  · intro k hk
    show (if k = 0 then b else t) < s.heap.size
    split
    · exact hbl
    · exact htl
  · intro q hq
    rw [List.mem_singleton.mp hq]
    exact ⟨by decide, hZ⟩
  · rfl
  · exact Nat.le_refl 2
  · intro k x hk
    match k with
    | 0 =>
      cases Option.some.inj (show some (Sum.inl (0, L, .inl xs) : zm_E) = some x from hk)
      obtain ⟨scr, h1, h2, h3, h4, h5⟩ := hX
      exact ⟨fun z => absurd z (by decide), scr, .int, rfl, h1, h2, h3, h4, fun j hj => h5 j hj⟩
    | 1 =>
      cases Option.some.inj (show some (Sum.inl (5, 0, .inr (.inr (.inr (.inr fun _ => none)))) : zm_E) = some x from hk)
      obtain ⟨cell, h1, h2, h3, h4⟩ := zm_arrRef2 hda (flat_of_before _ hgv _ (by decide +kernel)) ht
      exact ⟨fun z => absurd z (by decide), cell, .object "java/lang/Object", rfl, h1, h2, h3, h4, fun j hj => absurd hj (Nat.not_lt_zero j)⟩
    | k + 2 => cases (show none = some x from hk)
  · intro q hq
    rfl

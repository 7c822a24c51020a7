/-! THE CLAIM IS FALSE: at the script zz_S the law answers false, and the witness's own start with this script meets all that the claim asks of a start. Laid by wip/gen/refute.py -/
def zz_law_name : String := "NeedMachineLaw"
def zz_P (b : Addr) (args : Array Value) (s : State) : Prop := args = #[.ref b] ∧ s.IntsAt b zz_S ∧ (Jvm.Cond.and given_1 narrow_1).before args s = true
def zz_Q (_ : Array Value) (_ : State) (o : Outcome) (_ : State) : Prop := o = .returned (some (.int 0))
set_option maxHeartbeats 4000000 in
theorem zz_walk (l : Launch) (hlt : l.stackTraces = false) (b : Addr) : MetFree l x (headSpec (Jvm.Cond.code x code maxLocals ret :: tables_1) room_1) (zz_P b) (fun _ _ _ _ _ => True) zz_Q := by
  refine MetFree.of_bodyS (code := code) (maxLocals := maxLocals) (ret := ret) (by decide) ?_ ?_
  · intro args s m h hn
    obtain ⟨meth, c, h1, h2, h3, h4, h5, h6, -, -⟩ := Cond.code_spec hn (atoms_spec (ws := Jvm.Cond.code x code maxLocals ret :: tables_1) h _ List.mem_cons_self)
    exact ⟨meth, c, h1, h2, h3, h4, h5, h6⟩
  · intro p e s m args below meth c s₁ B hml0 hP _
    obtain ⟨rfl, hx, hgv⟩ := hP
    obtain ⟨scr, harrAt, hlist, hof, hsmall⟩ := hx
    obtain ⟨hcb, hkn, -, -⟩ := State.arrayAt?_spec harrAt
    have hown : s.vm.findClass zz_law_name = some m.cls := findClass_of_methodNamed B.named
    have hts0 : ∀ c ∈ (Jvm.Cond.code x code maxLocals ret :: tables_1), c.before #[Value.ref b] s = true := atoms_spec (ws := Jvm.Cond.code x code maxLocals ret :: tables_1) B.pre
    have hts : ∀ w ∈ lw_tbl, w.before #[Value.ref b] s = true := k2_hts_sels lw_privs (fun w hw => hts0 w (List.mem_cons_of_mem _ hw)) lw_privs_ok
    have hml : c.maxLocals = 7 := B.maxLocals_eq (hts0 _ List.mem_cons_self)
    have X₀ : Stand p l e room_1 s m #[Value.ref b] below meth c s₁ [] 0 0 := Stand.of_body B
    have hh0 : s₁.heap = s.heap := by rw [B.state]; rfl
    have hsz : scr.slots.size = zz_S.length := by rw [← Array.length_toList, hlist, List.length_map]
    have hval : ∀ j : Nat, j < zz_S.length → scr.slots[j]? = some (.int (zz_S.getD j 0)) := fun j hj => by
      rw [← Array.getElem?_toList, hlist]
      simp [hj]
    have hbl : b < s.heap.size := (Array.getElem?_eq_some_iff.mp hcb).1
    have hX : va_X b zz_S.length (fun j => zz_S.getD j 0) s s.heap := ⟨scr, hcb, hof, hkn, hsz, hval⟩
    obtain ⟨N, hNl, hNs, hN0, hR⟩ := zm_start l hlt hts hX hbl hgv
    subst hNl
    subst hNs
    subst hN0
    obtain ⟨meth', c', g1, g2, g3, g4, g5, g6, g7, g8⟩ := Cond.code_spec B.named (hts0 _ List.mem_cons_self)
    cases Option.some.inj (g1.symm.trans X₀.method)
    cases Option.some.inj (g2.symm.trans X₀.code)
    have hexc : c.exceptionTable = #[] := by simpa using g7
    have hC : zm_Cx N 2048 0 p room_1 N.s0 m meth c 0 := by
      refine ⟨B.exec, B.bytes, hml, hown, State.WarmedH.refl _, B.notSynchronized, B.returns, (name_of_methodNamed B.named X₀.method).1, by rw [hexc]; rfl, Nat.le_of_ble_eq_true rfl, Nat.le_of_ble_eq_true rfl, ?_, Nat.le_of_ble_eq_true rfl⟩
      have hz : N.b = N.s0.heap.size := rfl
      show N.b + zm_C ≤ N.s0.heap.size + 601024 + 2
      rw [hz, Nat.add_assoc]
      exact Nat.add_le_add_left (Nat.le_of_ble_eq_true rfl) _
    have hl := lv_entry [Value.ref (N.ad 0)] (n := 7) (Nat.le_of_ble_eq_true rfl)
    have hJ := zz_law N 2048 (by decide) p e room_1 N.s0 m #[Value.ref (N.ad 0)] below meth c 0 hC N.s0.heap [] _ 0 0 hR hl (fun q h => by cases h) rfl rfl
    have K : W p N.l e room_1 N.s0 m #[Value.ref (N.ad 0)] below meth c s₁.heap [] 0 0 (fun t => ∃ o, t.status = .running ∧ Ended t below o ∧ o = .returned (some (.int 0))) (entryFrame m ([Value.ref (N.ad 0)] : List Value).toArray 7) := by
      rw [hh0, lg_entry_eq]
      refine zm_Wmono ?_ hJ
      intro t ht
      obtain ⟨z, G, o, Ls, ce, sl, h1, h2, h3, h4, h7⟩ := ht
      have h4 : z = .inl (some (.int 0)) := h4
      subst h4
      exact ⟨o, h1, h2, h3⟩
    obtain ⟨t, a1, o, b1, b2, b3⟩ := K s₁ rfl X₀
    exact ⟨t, o, a1, b1, b2, b3⟩
/-- at a start with this script the second half of the claim fails -/
theorem zz_falls {l : Launch} (hfl : l.flags = flags0) {p : Program} {e : Env} {s : State} {m : MethodId} {args : Array Value} {below : List Frame} {b : Addr} (hA : AtStart classFile x code maxLocals ret World_1 tables_1 room_1 Calls_1 rest_1 Pre_1 l p e s m args below) (ha : args = #[.ref b]) (hx : s.IntsAt b zz_S) : ¬ Claimed_1_2 := by
  intro hC
  have hlt : l.stackTraces = false := by unfold Launch.stackTraces; rw [hfl]; decide +kernel
  obtain ⟨hL, hW, had, _, hc, hk, hf, hfit, hheap, happ, h1, h2, h3⟩ := hA
  obtain ⟨n, o, w1, r1, e1, post, _⟩ := hC l hfl hL hW p e had hc hk s m args below hf hfit hheap happ ⟨h1, h2, h3⟩
  obtain ⟨n', o', w2, r2, e2, hq⟩ := zz_walk l hlt b p e had hc hk s m args below hf ((Spec.applies_iff_loose hf).mp happ).1 ⟨ha, hx, h3⟩ trivial
  have hn : n = n' := by
    rcases Nat.lt_trichotomy n n' with h | h | h
    · exact absurd (w2 n h) e1.not_within
    · exact h
    · exact absurd (w1 n' h) e2.not_within
  subst hn
  have ho := e1.outcome_unique e2
  subst ho
  have hq : o = .returned (some (.int 0)) := hq
  subst hq
  have post : limb_1_2.after args s (.returned (some (.int 0))) (stepsAlone p.tables e n s) = true := post
  have hp := Cond.after_iff.mp post
  rw [show limb_1_2 = Cond.eq .result (.int 1) from rfl, Cond.eq_ints (x := 0) (y := 1) rfl rfl] at hp
  simp at hp
/-! the start: the witness's, with this script -/
def zz_cells : Array Value := (zz_S.map Value.int).toArray
def zz_about : State := start1.aboutOf zz_cells
set_option maxRecDepth 100000 in
theorem zz_onT : (Jvm.Cond.code x code maxLocals ret :: tables_1).all (fun w => (w.onTables && w.keeps) || w.before start1.args0 zz_about) = true := by decide +kernel
theorem zz_words : ∀ c ∈ (Jvm.Cond.code x code maxLocals ret :: tables_1), c.before start1.args0 zz_about = true := by
  intro c hc
  have h := List.all_eq_true.mp zz_onT c hc
  have hW : start1.about.WarmedH zz_about.vm := State.WarmedH.refl start1.about
  rcases (Bool.or_eq_true _ _).mp h with h | h
  · exact word_at hW (Or.inl h) (start1.words c hc)
  · exact h
set_option maxRecDepth 16384 in
theorem zz_atStart : AtStart classFile x code maxLocals ret World_1 tables_1 room_1 Calls_1 rest_1 Pre_1 launch0 start1.p0 start1.e0 zz_about ⟨0, 0⟩ start1.args0 Lib.HandBits.below0 :=
  ⟨lists_1, trivial, launch0.admits_env _ _ _, launch0.least_env, fairChoices_fair.cas, fairChoices_fair.clock, rfl, by decide +kernel, by decide +kernel,
    (Spec.applies_iff rfl).mpr ⟨rfl, rfl, rfl, by decide +kernel, by decide +kernel, by decide +kernel, launch0.hasRoom_least _ room_1 (by decide +kernel) (by decide +kernel) (by decide +kernel) (by decide +kernel) (by decide +kernel) (by decide +kernel), atoms_intro zz_words⟩,
    trivial, (show rest_1_c.before start1.args0 zz_about = true by decide +kernel), (show (Cond.and given_1 narrow_1).before start1.args0 zz_about = true by decide +kernel)⟩
theorem zz_ints : zz_about.IntsAt 0 zz_S := by
  refine ⟨_, rfl, rfl, ?_, by decide⟩
  exact ⟨fun k h => (by cases h), _, rfl, _, rfl⟩
/-- THE CLAIM IS FALSE -/
theorem zz_false : ¬ (Claimed_1_1 ∧ Claimed_1_2) := fun h => zz_falls rfl zz_atStart rfl zz_ints h.2

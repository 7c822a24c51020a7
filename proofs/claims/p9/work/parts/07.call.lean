/-! CALLS: a callee's judgement, from its entry, serves every call of it. -/
theorem zm_weaken {tb : Tables} {e : Env} {g : Frame} {below : List Frame} {a b : State} (h : Steps tb e (g :: below) a b) : Steps tb e below a b := by
  obtain ⟨n, hn, hw⟩ := h
  exact ⟨n, hn, fun k hk => Within.weaken (mid := [g]) (hw k hk)⟩
theorem zm_args_sh (ad : Nat → Nat) (vs : List Value) : ∀ i : Nat, lv_args i (vs.map (zm_sh ad)) = zm_shL ad (lv_args i vs) := by
  induction vs with
  | nil => intro i; rfl
  | cons v r ih =>
    intro i
    show (i, zm_sh ad v) :: lv_args (if (zm_sh ad v).category = 2 then i + 2 else i + 1) (r.map (zm_sh ad)) = (i, zm_sh ad v) :: zm_shL ad (lv_args (if v.category = 2 then i + 2 else i + 1) r)
    rw [zm_sh_cat, ih]
theorem zm_sl_sh (ad : Nat → Nat) (vs : List Value) : (lg_sl (vs.map (zm_sh ad))).length = (lg_sl vs).length := by
  induction vs with
  | nil => rfl
  | cons v r ih =>
    unfold lg_sl at ih ⊢
    rw [List.map_cons, List.flatMap_cons, List.flatMap_cons, List.length_append, List.length_append, ih, zm_sh_cat]
    by_cases h : v.category = 2
    · rw [if_pos h, if_pos h]; rfl
    · rw [if_neg h, if_neg h]; rfl
theorem zm_cat_sh (ad : Nat → Nat) (vs : List Value) : ((vs.map (zm_sh ad)).map fun v => v.category).sum = (vs.map fun v => v.category).sum := by
  rw [List.map_map]
  exact congrArg List.sum (List.map_congr_left fun v _ => zm_sh_cat ad v)
/-- the method's code stands in the tables -/
def zm_okm (mj : Nat) : Prop := plainName (zm_mn mj).cls = true ∧ ((Cond.code (zm_mn mj) (zm_by mj) (zm_nl mj) (zm_rt mj) ∈ zm_tb ∧ zm_hd mj = []) ∨ Cond.codeWith (zm_mn mj) (zm_by mj) (zm_nl mj) (zm_rt mj) (zm_hd mj) ∈ zm_tb)
theorem zm_okm_spec (N : zm_N) {U : State} (hW : N.s0.WarmedH U.vm) {mj : Nat} (h : zm_okm mj) :
    ∃ (mk : MethodId) (methk : Method) (ck : Code), U.methodNamed? (zm_mn mj) = some mk ∧ U.vm.method? mk = some methk ∧ methk.code = some ck ∧ ck.code = zm_by mj ∧ ck.maxLocals = zm_nl mj ∧ methk.sig.returnType = zm_rt mj ∧ methk.locks = false ∧ ck.exceptionTable.toList = tableOf (zm_hd mj) ∧ parseMethodDescriptor (zm_mn mj).desc = some methk.sig := by
  rcases h.2 with ⟨h1, h2⟩ | h1
  · have hw := zm_wd N hW h1 rfl #[]
    obtain ⟨mk, hn⟩ := Cond.code_named hw
    obtain ⟨methk, ck, a1, a2, a3, a4, a5, a6, a7, a8⟩ := Cond.code_spec hn hw
    refine ⟨mk, methk, ck, hn, a1, a2, a3, a4, a5, a6, ?_, a8⟩
    rw [h2]
    have : ck.exceptionTable = #[] := by simpa using a7
    rw [this]
    rfl
  · obtain ⟨mk, methk, ck, hn, a1, a2, a3, a4, a5, a6, a7, a8⟩ := Cond.codeWith_spec (zm_wd N hW h1 rfl #[])
    refine ⟨mk, methk, ck, hn, a1, a2, a3, a4, a6, a7, ?_, a8⟩
    rw [← a5, tableOf, List.map_map]
    exact (List.map_id' _).symm.trans (List.map_congr_left fun x _ => by cases x; rfl)
set_option maxHeartbeats 4000000 in
theorem zm_callc {N : zm_N} {d mi mj : Nat} {av : List Value} {G : zm_H} {Q1 : zm_O → zm_H → Prop} (hJ : zm_J N d mj 0 (lv_args 0 av) [] G Q1) (hok : zm_okm mj)
    {p : Program} {e : Env} {R : Room} {s : State} {m : MethodId} {args : Array Value} {below : List Frame} {meth : Method} {c : Code} {sl0 : Nat} (C : zm_Cx N (d + 1) mi p R s m meth c sl0)
    {T : State} {locs : List Loc} {cells slots : Nat} (X : Stand p N.l e R s m args below meth c T locs cells slots) (hR : zm_Rp N G T.heap) (hL : ∀ q ∈ locs, N.b ≤ q.base) (hc : s.heap.size + cells = T.heap.size) (hs : sl0 + slots = G.2)
    {g : JFrame} (hg : g.method = m) (hsize : g.locals.size = c.maxLocals) {ig : Instr} {len : Nat} (hdg : decode c.code g.pc = .ok (ig, len)) (hw : 2 * g.monitorRoom + (g.stack.map fun v => v.category).sum + (zm_nl mj + 11) ≤ zm_w)
    {mk : MethodId} (hn : T.methodNamed? (zm_mn mj) = some mk) (hfit : (lg_sl av).length ≤ zm_nl mj) (hcm : G.1.length ≤ zm_C) (hsm : G.2 ≤ zm_S) :
    ∃ (z : zm_O) (G' : zm_H) (T' : State) (L : List Loc) (k n : Nat), Q1 z G' ∧ Stand p N.l e R s m args below meth c T' (locs ++ L) (cells + k) (slots + n) ∧ zm_Rp N G' T'.heap ∧ (∀ q ∈ locs ++ L, N.b ≤ q.base) ∧ s.heap.size + (cells + k) = T'.heap.size ∧ sl0 + (slots + n) = G'.2 ∧
      ((∃ v, z = .inl v ∧ ∀ acts, Steps p.tables e below (doInvoke e (T.setTop g) acts mk (av.map (zm_sh N.ad)).toArray).1 (T'.setTop { g with pc := g.pc + len, stack := (v.map (zm_sh N.ad)).toList ++ g.stack })) ∨
       (∃ x, z = .inr x ∧ zm_xc N x T' ∧ ∀ acts, Steps p.tables e below (doInvoke e (T.setTop g) acts mk (av.map (zm_sh N.ad)).toArray).1 ((T'.setTop g).pushFrame (.throwing (N.ad x.2))))) := by
  obtain ⟨cx1, cx2, cx3, cx4, cx5, cx6, cx7, cx8, cx9, cx10, cx11, cx12, cx13⟩ := C
  have hWT : N.s0.WarmedH T.vm := State.WarmedH.trans cx5 X.warmed
  obtain ⟨mk', methk, ck, hn', hmk, hck, hbk, hlk, hrk, hlock, hek, hsig⟩ := zm_okm_spec N hWT hok
  cases Option.some.inj (hn.symm.trans hn')
  have hpk : T.plainMethod mk := State.plainMethod.of_named (plainFor_of_name hok.1) hn hmk
  have hz := hR.1
  have hcr : cells ≤ R.cells := by omega
  have hsr : slots ≤ R.slots := by omega
  have hwd : zm_w * (d + 1) = zm_w * d + zm_w := Nat.mul_succ _ _
  generalize hav : av.map (zm_sh N.ad) = av'
  have hfit' : (lg_sl av').length ≤ zm_nl mj := by rw [← hav, zm_sl_sh]; exact hfit
  obtain ⟨Y, hin⟩ := X.into hg hsize hdg av'.toArray (R' := { frames := R.frames - 1, cells := R.cells - cells, slots := R.slots - slots, locals := R.locals - zm_w }) hmk hck hlock hpk
    (by show R.frames - 1 + 1 ≤ R.frames; omega) (by show _ + _ + (R.locals - zm_w) ≤ R.locals; rw [hlk]; omega)
    (by show cells + (R.cells - cells) ≤ R.cells; omega) (by show slots + (R.slots - slots) ≤ R.slots; omega)
  have hl := lv_entry av' (n := zm_nl mj) hfit'
  rw [← hav, zm_args_sh, hav] at hl
  have hent : entryFrame mk av'.toArray ck.maxLocals = F0 mk 0 ((lg_sl av' ++ List.replicate (zm_nl mj - (lg_sl av').length) Slot.unset).toArray) [] := by rw [hlk, lg_entry_eq]
  generalize hU : (T.setTop g).pushFrame (.java (entryFrame mk av'.toArray ck.maxLocals)) = U at Y hin
  have hUh : U.heap = T.heap := by rw [← hU]; rfl
  have hCk : zm_Cx N d mj p { frames := R.frames - 1, cells := R.cells - cells, slots := R.slots - slots, locals := R.locals - zm_w } (T.calling g mk av'.toArray) mk methk ck G.2 := by
    refine ⟨cx1, hbk, hlk, findClass_of_methodNamed hn, hWT, hlock, hrk, (name_of_methodNamed hn hmk).1, hek, ?_, ?_, ?_, ?_⟩
    · show d ≤ R.frames - 1; omega
    · show zm_w * d ≤ R.locals - zm_w
      omega
    · show N.b + zm_C ≤ T.heap.size + (R.cells - cells) + zm_no; omega
    · show zm_S ≤ G.2 + (R.slots - slots); omega
  obtain ⟨t, hst, z, G', o, L, k, n, b1, b2, b3, b4, b5, b6, b7, b8, b9, b10⟩ := hJ p e _ (T.calling g mk av'.toArray) mk av'.toArray (.java g :: below) methk ck G.2 hCk T.heap [] _ 0 0 hR hl (fun q h => by cases h) (by show T.heap.size + 0 = T.heap.size; omega) rfl U hUh Y
  have b9' : T.heap.size + k = t.heap.size := b9
  have hLL : ∀ q ∈ locs ++ L, N.b ≤ q.base := fun q hq => by
    rcases List.mem_append.mp hq with h | h
    · exact hL q h
    · exact b8 q h
  have hsteps : ∀ acts, Steps p.tables e below (doInvoke e (T.setTop g) acts mk av'.toArray).1 t := fun acts => by
    rw [hin acts, hent]
    exact zm_weaken hst
  cases z with
  | inl v =>
    cases (show o = .returned (v.map (zm_sh N.ad)) from b3)
    obtain ⟨T', X', hW', hsame', ht⟩ := X.outOf hg hdg b2 b6 b7
    have hh : t.heap = T'.heap := by rw [ht]; rfl
    refine ⟨.inl v, G', T', L, k, n, b4, X', by rw [← hh]; exact b5, hLL, by rw [← hh]; omega, by omega, Or.inl ⟨v, rfl, fun acts => by rw [← ht]; exact hsteps acts⟩⟩
  | inr x =>
    obtain ⟨ho, C0, cell, y1, y2, y3, y4⟩ := (show o = .threw (N.ad x.2) ∧ zm_xc N x t from b3)
    subst ho
    obtain ⟨T', X', hW', hsame', ht⟩ := X.outOfThrown hg b2 b6 b7
    have hh : t.heap = T'.heap := by rw [ht]; rfl
    have hv : t.vm = T'.vm := by rw [ht]; rfl
    refine ⟨.inr x, G', T', L, k, n, b4, X', by rw [← hh]; exact b5, hLL, by rw [← hh]; omega, by omega, Or.inr ⟨x, rfl, ⟨C0, cell, y1, by rw [← hh]; exact y2, y3, by rw [← hv]; exact y4⟩, fun acts => by rw [← ht]; exact hsteps acts⟩⟩

/-! THROWS: 'throw new X(text)' under a launch without traces -/
theorem zm_wdS (N : zm_N) {U : State} (hW : N.s0.WarmedH U.vm) (hH : ∀ q : Nat, q < N.b → U.heap[q]? = N.s0.heap[q]?) {C n d : String} (hw : Cond.isRef (.static C n d) ∈ zm_tb) (a : Array Value) : (Cond.isRef (.static C n d)).before a U = true := by
  obtain ⟨A, hA⟩ := N.2.1
  have h1 : (Cond.isRef (.static C n d)).before A (N.s0.setVm U.vm) = true := Cond.before_shiftedFace (State.Shifted.of_warmed hW) _ rfl (hA _ hw)
  simp only [Cond.before, Cond.holds, Cond.value, Term.eval] at h1 ⊢
  have e1 : (N.s0.setVm U.vm).fieldNamed? C n d true = U.fieldNamed? C n d true := rfl
  rw [e1] at h1
  cases hf : U.fieldNamed? C n d true with
  | none => rw [hf] at h1; simp at h1
  | some q =>
    obtain ⟨c0, k0, slot⟩ := q
    rw [hf] at h1
    simp only [Option.bind_eq_bind, Option.bind_some] at h1 ⊢
    cases hk : k0.statics with
    | none => rw [hk] at h1; simp at h1
    | some a1 =>
      rw [hk] at h1
      simp only [Option.bind_some] at h1 ⊢
      cases hc : N.s0.heap[a1]? with
      | none =>
        have e2 : (N.s0.setVm U.vm).heap[a1]? = none := hc
        rw [e2] at h1; simp at h1
      | some cell =>
        have hlt : a1 < N.b := (Array.getElem?_eq_some_iff.mp hc).1
        have e2 : (N.s0.setVm U.vm).heap[a1]? = some cell := hc
        rw [hH a1 hlt, hc]
        rw [e2] at h1
        exact h1
theorem zm_wdL (N : zm_N) {U : State} (hW : N.s0.WarmedH U.vm) (hH : ∀ q : Nat, q < N.b → U.heap[q]? = N.s0.heap[q]?) {C n d : String} (hw : Cond.laysStatic C n d ∈ zm_tb) (a : Array Value) : (Cond.laysStatic C n d).before a U = true := by
  obtain ⟨A, hA⟩ := N.2.1
  have h1 : (Cond.laysStatic C n d).before A (N.s0.setVm U.vm) = true := Cond.before_shiftedFace (State.Shifted.of_warmed hW) _ rfl (hA _ hw)
  obtain ⟨c, k, i, f, st, cell, g1, g2, g3, g4, g5, g6, g7, g8, g9⟩ := Cond.laysStatic_spec h1
  have hlt : st < N.b := (Array.getElem?_eq_some_iff.mp (show N.s0.heap[st]? = some cell from g5)).1
  show (Cond.laysStatic C n d).holds a U none U [] = true
  exact Cond.laysStatic_of (s := U) g1 g2 g3 g4 (by rw [hH st hlt]; exact g5) g6 g7 g8 g9
theorem zm_wdT (N : zm_N) {U : State} (hW : N.s0.WarmedH U.vm) {w : Cond} (hw : w ∈ zm_tb) (h1 : w.onTables = true) (h2 : w.keepsFace = true) (a : Array Value) : w.before a U = true := by
  obtain ⟨A, hA⟩ := N.2.1
  have h3 : w.before A (N.s0.setVm U.vm) = true := Cond.before_shiftedFace (State.Shifted.of_warmed hW) _ h2 (hA _ hw)
  exact va_tabs h1 (u := N.s0.setVm U.vm) rfl h3
/-- a word that is carried along -/
def zm_gw (w : Cond) : Bool := (w.onTables && w.keepsFace) || match w with
  | .isRef (.static _ _ _) => true
  | .laysStatic _ _ _ => true
  | _ => false
/-- the words of a throw's atoms -/
theorem zm_atoms (N : zm_N) {U : State} (hW : N.s0.WarmedH U.vm) (hH : ∀ q : Nat, q < N.b → U.heap[q]? = N.s0.heap[q]?) {ws : List Cond} (h : ∀ w ∈ ws, w ∈ zm_tb ∧ zm_gw w = true) (a : Array Value) : ∀ w ∈ ws, w.before a U = true := by
  intro w hw
  obtain ⟨h1, h2⟩ := h w hw
  unfold zm_gw at h2
  rcases Bool.or_eq_true_iff.mp h2 with h2 | h2
  · rw [Bool.and_eq_true] at h2
    exact zm_wdT N hW h1 h2.1 h2.2 a
  · split at h2
    · exact zm_wdS N hW hH h1 a
    · exact zm_wdL N hW hH h1 a
    · cases h2
theorem zm_ldcS (N : zm_N) {U : State} (hW : N.s0.WarmedH U.vm) {own tx : String} {k cur : Nat} (hcur : U.vm.findClass own = some cur) (hw : Cond.stringRef own k tx ∈ zm_tb) : ∃ q, vk_R own k tx q U := by
  obtain ⟨A, hA⟩ := N.2.1
  have hcur0 : N.s0.vm.findClass own = some cur := by rw [← hW.alike.findClass]; exact hcur
  obtain ⟨k0, cf, i, a, hk, hcf, hcp, -, hr, hev⟩ := Cond.stringRef_spec hcur0 (hA _ hw)
  exact ⟨a, vk_R.warm hW (vk_R.of (hA _ hw) hev)⟩
/-- what a 'new X(text)' needs of the tables, where X comes right below RuntimeException and its own text-constructor has the code rx, which names its upper one at ix -/
def zm_ownX (X : String) (ix : Nat) (rx : ByteArray) : List Cond :=
  Bundle.throwableAtoms ++ Bundle.throwableSAtoms ++ Bundle.passSAtoms X "java/lang/RuntimeException" ix rx ++ Bundle.chainSAtoms "java/lang/RuntimeException" ["java/lang/Exception"] ++
  [.instantiable X 6, .castable X X, .selects X Bundle.tFill0 Bundle.tFill0, .selects X Bundle.tFill Bundle.tFill,
   .lays X Bundle.tN "cause" "Ljava/lang/Throwable;", .lays X Bundle.tN "stackTrace" Bundle.steD, .lays X Bundle.tN "suppressedExceptions" Bundle.listD, .lays X Bundle.tN "detailMessage" "Ljava/lang/String;",
   .isRef (.static Bundle.tN "UNASSIGNED_STACK" Bundle.steD), .isRef (.static Bundle.tN "SUPPRESSED_SENTINEL" Bundle.listD),
   .fieldLink Bundle.tN 198 Bundle.tN "backtrace" "Ljava/lang/Object;", .lays Bundle.tN Bundle.tN "backtrace" "Ljava/lang/Object;", .lays X Bundle.tN "backtrace" "Ljava/lang/Object;"]
def zm_own (own : String) (ic : Nat) (X : String) (ix : Nat) (rx : ByteArray) : List Cond := .methodLink own ic (Bundle.initS X) :: zm_ownX X ix rx
section ZV
variable {p : Program} {l : Launch} {e : Env} {R : Room} {s : State} {m₀ : MethodId} {args : Array Value} {below : List Frame} {meth : Method} {c : Code} {V : State} {locs : List Loc} {cells slots : Nat}
set_option maxHeartbeats 2000000 in
/-- from the call of X's text-constructor to the throw's end: what is thrown is that very cell, nothing else changes -/
theorem zm_ctorT (X : Stand p l e R s m₀ args below meth c V locs cells slots) (hexec : p.tables.exec = Jvm.exec) (htr : e.platform.stackTraces = false) {own cls : String} {ic ix : Nat} {rx : ByteArray}
    (x0 : decode rx 0 = .ok (.aload_n 0, 1)) (x1 : decode rx 1 = .ok (.aload_n 1, 1)) (x2 : decode rx 2 = .ok (.invokespecial ix, 3)) (x5 : decode rx 5 = .ok (.return_, 1))
    (hown : s.vm.findClass own = some m₀.cls) (hcls : Bundle.fit cls = true) (h : ∀ a ∈ zm_own own ic cls ix rx, a.before args s = true)
    (hlocs : ∀ x ∈ locs, ∀ cell, s.heap[x.base]? = some cell → cell.vm.isStatics = false)
    {a : Addr} {cX : ClassId} {kX : Class} (hfoundX : s.vm.findClass cls = some cX) (hkX : s.vm.classes[cX]? = some kX) (hcell : V.heap[a]? = some (freshCell cX kX)) (hnew : s.heap.size ≤ a)
    {msg : Value} (hmsg : msg.isRef = true)
    {g : JFrame} (hg : g.method = m₀) (hsize : g.locals.size = c.maxLocals) (hlocked : g.locked = none) (hentered : g.entered = []) {rest : List Value} (hstack : g.stack = msg :: .ref a :: .ref a :: rest)
    (hd6 : decode c.code g.pc = .ok (.invokespecial ic, 3)) (hd9 : decode c.code (g.pc + 3) = .ok (.athrow, 1)) (hout : ∀ x ∈ c.exceptionTable.toList, covers x (g.pc + 3) = false)
    (hRframes : 5 < R.frames) (hRlocals : 2 * g.monitorRoom + ((Value.ref a :: rest).map fun v => v.category).sum + 81 ≤ R.locals) (hlocks : meth.locks = false) :
    ∃ U : State, Steps p.tables e below (V.setTop g) U ∧ U.status = .running ∧ Ended U below (.threw a) ∧ s.WarmedH U.vm ∧ s.sameButNew ({ U with vm := s.vm } : State) locs cells slots ∧
      ∃ ce : Cell, U.heap[a]? = some ce ∧ ce.vm = .none ∧ s.vm.findClass cls = some ce.cls := by
  have howns : e.platform.frameOwnsMonitors = true := by rw [X.admits.platform]
  have hfin : e.platform.finalization = false := by rw [X.admits.platform]
  have hpl : e.platform.magicAccessors = ({} : Platform).magicAccessors := by rw [X.admits.platform]
  have a' : ∀ x, x ∈ zm_own own ic cls ix rx → x.holds args s none s [] = true := fun x hx => h x hx
  obtain ⟨T, Z0, L, -, Y⟩ := ThrowableC.of_atoms (args := args) howns hfin hpl (fun x hx => h x (by simp [zm_own, zm_ownX, hx]))
  obtain ⟨Z, M, LZ, LM, hnZ⟩ := Init0T.ofS_atoms (args := args) hpl L Y (fun x hx => h x (by simp [zm_own, zm_ownX, hx]))
  obtain ⟨P2, Ps, hlen, L2, hL, hP2m, hlink2, hlink⟩ := Bundle.chainS (args := args) hpl hnZ ["java/lang/Exception"] "java/lang/RuntimeException" (by decide +kernel) (fun n hn => by rw [List.mem_singleton.mp hn]; decide +kernel) (fun x hx => h x (by simp [zm_own, zm_ownX, hx]))
  obtain ⟨P1, L1, hP1m, hP1s⟩ := PassC.ofS_atoms (args := args) (s := s) hpl (X := cls) (Y := "java/lang/RuntimeException") (Bundle.fit_spec hcls).1 (by decide) x0 x1 x2 x5 (fun x hx => h x (by simp [zm_own, zm_ownX, hx]))
  have hlink1 : P1.sup = P2.m := Option.some.inj (hP1s.symm.trans hP2m)
  have hfound : s.vm.findClass cls = some P1.m.cls := findClass_of_methodNamed hP1m
  cases Option.some.inj (hfoundX.symm.trans hfound)
  obtain ⟨c1, kX', hc1, hk, hord, -, -, hn6⟩ := Cond.instantiable_spec (a' (.instantiable cls 6) (by simp [zm_own, zm_ownX]))
  cases Option.some.inj (hc1.symm.trans hfound)
  cases Option.some.inj (hkX.symm.trans hk)
  have hsel0 : selectMethod e.platform s.vm P1.m.cls T.fill0 = .method T.fill0 := by
    obtain ⟨c2, r2, m2, q1, q2, q3, q4, -⟩ := Cond.selects_spec (a' (.selects cls Bundle.tFill0 Bundle.tFill0) (by simp [zm_own, zm_ownX]))
    cases Option.some.inj (q1.symm.trans hfound)
    cases Option.some.inj (q2.symm.trans (State.methodFound?_of_named Y.fill0 (by decide)))
    cases Option.some.inj (q3.symm.trans Y.fill0)
    rw [Launch.admits_selectMethod X.admits]; exact q4
  have hselF : selectMethod e.platform s.vm P1.m.cls T.fill = .method T.fill := by
    obtain ⟨c2, r2, m2, q1, q2, q3, q4, -⟩ := Cond.selects_spec (a' (.selects cls Bundle.tFill Bundle.tFill) (by simp [zm_own, zm_ownX]))
    cases Option.some.inj (q1.symm.trans hfound)
    cases Option.some.inj (q2.symm.trans (State.methodFound?_of_named Y.fill (by decide)))
    cases Option.some.inj (q3.symm.trans Y.fill)
    rw [Launch.admits_selectMethod X.admits]; exact q4
  obtain ⟨cellS0, hcS0, hiss⟩ := Y.statics
  obtain ⟨u0, hu0⟩ := Cond.staticRefV Y.unassigned L.unassignedStatic L.statics hcS0 hiss (a' (.isRef (.static Bundle.tN "UNASSIGNED_STACK" Bundle.steD)) (by simp [zm_own, zm_ownX]))
  obtain ⟨sen, hsen⟩ := Cond.staticRefV Y.sentinel L.sentinelStatic L.statics hcS0 hiss (a' (.isRef (.static Bundle.tN "SUPPRESSED_SENTINEL" Bundle.listD)) (by simp [zm_own, zm_ownX]))
  obtain ⟨ci198, i198, fB, hk198, hg198, ha198, hsB, -, hnB, htB, hffB⟩ := Cond.ownField (t := .object "java/lang/Object") Y.found L.cls (by decide +kernel) (a' (.fieldLink Bundle.tN 198 Bundle.tN "backtrace" "Ljava/lang/Object;") (by simp [zm_own, zm_ownX])) (a' (.lays Bundle.tN Bundle.tN "backtrace" "Ljava/lang/Object;") (by simp [zm_own, zm_ownX])) e.platform hpl
  obtain ⟨cellS, hcS', heS, -, hkeep⟩ := X.same.2.2.2.2.2 T.aS cellS0 hcS0
  have hcellS : V.heap[T.aS]? = some cellS := hcS'
  have hout' : ∀ i, (⟨T.aS, i⟩ : Loc) ∉ locs := fun i hmem => by
    have := hlocs _ hmem cellS0 hcS0
    rw [hiss] at this; cases this
  have hknownS : cellS.vm ≠ .unknown := by
    rw [heS]; intro hu
    rw [show cellS0.vm = .unknown from hu] at hiss
    cases hiss
  have hneS : T.aS ≠ a := Nat.ne_of_lt (Nat.lt_of_lt_of_le (Array.getElem?_eq_some_iff.mp hcS0).1 hnew)
  obtain ⟨iM, hffM⟩ := Y.msg
  obtain ⟨tyC, dC, hdC, hdnC⟩ := Cond.laysAt hfound hk Y.cause (a' (.lays cls Bundle.tN "cause" "Ljava/lang/Throwable;") (by simp [zm_own, zm_ownX]))
  obtain ⟨tyS, dS, hdS, hdnS⟩ := Cond.laysAt hfound hk Y.stack (a' (.lays cls Bundle.tN "stackTrace" Bundle.steD) (by simp [zm_own, zm_ownX]))
  obtain ⟨tyP, dP, hdP, hdnP⟩ := Cond.laysAt hfound hk Y.supp (a' (.lays cls Bundle.tN "suppressedExceptions" Bundle.listD) (by simp [zm_own, zm_ownX]))
  obtain ⟨tyM, dM, hdM, hdnM⟩ := Cond.laysAt hfound hk hffM (a' (.lays cls Bundle.tN "detailMessage" "Ljava/lang/String;") (by simp [zm_own, zm_ownX]))
  obtain ⟨tyB, dB, hdB, hdnB⟩ := Cond.laysAt hfound hk hffB (a' (.lays cls Bundle.tN "backtrace" "Ljava/lang/Object;") (by simp [zm_own, zm_ownX]))
  have bC := Cond.laysApart hdB hdC hdnB hdnC (by rw [hnB, Y.causeName]; decide)
  have bS := Cond.laysApart hdB hdS hdnB hdnS (by rw [hnB, Y.stackName]; decide)
  have bP := Cond.laysApart hdB hdP hdnB hdnP (by rw [hnB, Y.suppName]; decide)
  have hskip : SkipFacts T e.platform s (fun u => u) u0 ((preparedCellV T.toThrowableT (freshCell P1.m.cls kX) a u0 sen).withEntry V.cur) :=
    ⟨{ ci198 := ci198, i198 := i198, fBack := fB }, ⟨hk198, hg198, ha198, hsB⟩, by
      have := fresh_default (c := P1.m.cls) tyB
      rw [htB] at this
      simpa [preparedCellV, Cell.setSlot, Cell.withEntry, Array.getElem?_setIfInBounds, bC, bS, bP, bC.symm, bS.symm, bP.symm, defaultValue] using this, fun _ _ => rfl⟩
  obtain ⟨tm, methC, cdC, kC, vm₁, hnC, -, -, -, -, -, -, -, hW₁, st1⟩ := Steps.initColdS (tb := p.tables) (e := e) (below := below) (s := s) (U := V) X.here hexec X.warmed hpl hown (t := Bundle.initS cls) rfl rfl (Bundle.fit_spec hcls).2
    (a' (.methodLink own ic (Bundle.initS cls)) (by simp [zm_own, zm_ownX])) (h (.instanceMethod (Bundle.initS cls)) (by simp [zm_own, zm_ownX, Bundle.passSAtoms])) (bytes := rx) (maxL := 2) (h (.code (Bundle.initS cls) rx 2 none) (by simp [zm_own, zm_ownX, Bundle.passSAtoms]))
    (f := g) hg (a := a) (msg := msg) (rest := .ref a :: rest) hstack hd6
  cases Option.some.inj (hnC.symm.trans hP1m)
  have X₁ := X.noted hW₁
  obtain ⟨vm₂, X₂, st2⟩ := X₁.ctorMessageOffV hexec (g := { g with stack := .ref a :: rest }) hg hsize T L Z LZ M LM (P1 :: P2 :: Ps)
    (fun P hP => by
      rcases List.mem_cons.mp hP with rfl | hP
      · exact L1
      · rcases List.mem_cons.mp hP with rfl | hP
        · exact L2
        · exact hL P hP) ⟨hlink1, hlink2, hlink⟩ (u0 := u0) (sen := sen) (self := a) hmsg (cell := freshCell P1.m.cls kX) (cellS := cellS)
    hcell (fun _ => by simp) (by simp) rfl rfl hsel0 hselF hcellS hneS hknownS (by rw [hkeep _ (hout' _)]; exact hu0) (by rw [hkeep _ (hout' _)]; exact hsen)
    (Takes.of_laid hk hord tyC (by rw [Y.causeType]; rfl)) (Takes.of_laid hk hord tyS (by rw [Y.stackType]; exact fits_refV_array _ u0)) (Takes.of_laid hk hord tyP (by rw [Y.suppType]; exact fits_refV_object _ sen))
    (Takes.of_laid hk hord tyM (by rw [Y.msgType]; exact fits_refV_object _ ⟨msg, hmsg⟩)) Y.objLocals hskip htr [] hd6
    (by simp only [List.length_cons, List.length_nil] at hlen ⊢; rw [hlen]; omega) (by simp only [List.length_cons, List.length_nil] at hlen ⊢; rw [hlen]; exact hRlocals)
  obtain ⟨hwalk, hrun, hended, hWU, hsame⟩ := X₂.athrowLeaves hexec (g := { g with stack := .ref a :: rest, pc := g.pc + 3 }) hg hlocked hentered hout (a := a) (rest := rest) rfl hd9
  have hlt : a < ((V.setVm vm₁).setVm vm₂).heap.size := (Array.getElem?_eq_some_iff.mp hcell).1
  have hU := heapAt_setCell_self (s := (V.setVm vm₁).setVm vm₂) (plainBareV T.toThrowableT (freshCell P1.m.cls kX) a u0 sen msg) hlt
  refine ⟨_, st1 _ (fun acts => ?_), hrun, hended, hWU, hsame.weaken (fun y hy hlt' => ?_) (Nat.le_refl _) (Nat.le_refl _), _, hU, rfl, hfound⟩
  · rw [doInvoke_state]
    exact st2 _ hwalk
  · rcases List.mem_append.mp hy with h1 | h1
    · exact h1
    · exfalso
      have hb : y.base = a := by
        simp only [List.mem_cons, List.not_mem_nil, or_false] at h1
        rcases h1 with rfl | rfl | rfl | rfl | rfl <;> rfl
      rw [hb] at hlt'
      exact Nat.not_lt.mpr hnew hlt'
end ZV
section ZU
variable {p : Program} {l : Launch} {e : Env} {R : Room} {s : State} {m : MethodId} {args : Array Value} {below : List Frame} {meth : Method} {c : Code} {H : Heap} {locs : List Loc} {cells slots : Nat} {Q : State → Prop}
/-- a text is loaded, by a short or a wide number -/
theorem zm_ldcS_ok {cc : ByteArray} {pc iw i q : Nat} {ls : Array Slot} {rest : List Value} (hexec : p.tables.exec = Jvm.exec) (hb : c.code = cc) {own tx : String} (hown : s.vm.findClass own = some m.cls) (hZ : vk_R own i tx q s) (hdg : (decode cc pc = .ok (.ldc i, 2) ∧ iw = 2) ∨ (decode cc pc = .ok (.ldc_w i, 3) ∧ iw = 3))
    (k : W p l e R s m args below meth c H locs cells slots Q (F0 m (pc + iw) ls (.ref q :: rest))) : W p l e R s m args below meth c H locs cells slots Q (F0 m pc ls rest) := by
  rcases hdg with ⟨hdg, rfl⟩ | ⟨hdg, rfl⟩
  · exact va_ldcS hexec hb hown hZ hdg k
  · intro T hT X
    obtain ⟨t, a1, b1⟩ := k T hT X
    exact ⟨t, X.ldcStringW hexec hown (text := tx) (a := q) hZ.1 hZ.2 (g := F0 m pc ls rest) rfl (by rw [hb]; exact hdg) t a1, b1⟩
end ZU
section ZW
variable {N : zm_N} {d mi pc : Nat} {lv : zm_L} {st : List Value} {G : zm_H} {Q : zm_O → zm_H → Prop}
/-- the place at pc of the method mi throws a thing of the kind xk -/
def zm_okx (mi pc xk : Nat) : Prop := ∃ (i0 i1 ic ix : Nat) (X tx : String) (rx : ByteArray) (iw : Nat), decode rx 0 = .ok (.aload_n 0, 1) ∧ decode rx 1 = .ok (.aload_n 1, 1) ∧ decode rx 2 = .ok (.invokespecial ix, 3) ∧ decode rx 5 = .ok (.return_, 1) ∧ decode (zm_by mi) pc = .ok (.new i0, 3) ∧ decode (zm_by mi) (pc + 3) = .ok (.dup, 1) ∧
  ((decode (zm_by mi) (pc + 4) = .ok (.ldc i1, 2) ∧ iw = 2) ∨ (decode (zm_by mi) (pc + 4) = .ok (.ldc_w i1, 3) ∧ iw = 3)) ∧ decode (zm_by mi) (pc + 4 + iw) = .ok (.invokespecial ic, 3) ∧ decode (zm_by mi) (pc + 4 + iw + 3) = .ok (.athrow, 1) ∧
  zm_xn[xk]? = some X ∧ Cond.classLink (zm_mn mi).cls i0 X ∈ zm_tb ∧ Cond.instantiable X 6 ∈ zm_tb ∧ Cond.initialized X ∈ zm_tb ∧ Cond.stringRef (zm_mn mi).cls i1 tx ∈ zm_tb ∧ Bundle.fit X = true ∧ zm_out mi (pc + 4 + iw + 3) ∧ Cond.methodLink (zm_mn mi).cls ic (Bundle.initS X) ∈ zm_tb ∧ ∀ w ∈ zm_ownX X ix rx, w ∈ zm_tb ∧ zm_gw w = true
set_option maxHeartbeats 1000000 in
theorem zm_J_throw {xk : Nat} (hok : zm_okx mi pc xk) (hd : 7 ≤ d) (hw : (st.map fun v => v.category).sum + 95 ≤ zm_w * 7) (hr : zm_room G 6 = true) (hq : Q (.inr (xk, G.1.length)) (zm_new G (.inr (zm_cl.length, [])) 6)) : zm_J N d mi pc lv st G Q := by
  obtain ⟨i0, i1, ic, ix, X, tx, rx, iw, x0, x1, x2, x5, d0, d1, d2, d3, d4, hxn, w1, w2, w3, w4, f1, hout, wm, hat0⟩ := hok
  have hat : ∀ w ∈ zm_own (zm_mn mi).cls ic X ix rx, w ∈ zm_tb ∧ zm_gw w = true := List.forall_mem_cons.mpr ⟨⟨wm, rfl⟩, hat0⟩
  intro p e R s m args below meth c sl0 Cx H locs ls cells slots hR hl hL hc hs T hT XX
  subst hT
  obtain ⟨cx1, cx2, cx3, cx4, cx5, cx6, cx7, cx8, cx9, cx10, cx11, cx12, cx13⟩ := id Cx
  simp only [zm_room, Bool.and_eq_true, decide_eq_true_eq] at hr
  have hz := hR.1
  have hWT : N.s0.WarmedH T.vm := State.WarmedH.trans cx5 XX.warmed
  have Y := zm_rebase XX (by omega) (by omega)
  generalize hs' : T.setFrames (.invoking m args :: below) = s' at Y
  have hvm : s'.vm = T.vm := by rw [← hs']; rfl
  have hhp : s'.heap = T.heap := by rw [← hs']; rfl
  have hWs : N.s0.WarmedH s'.vm := by rw [hvm]; exact hWT
  have hHs : ∀ q : Nat, q < N.b → s'.heap[q]? = N.s0.heap[q]? := by rw [hhp]; exact hR.2.2.2
  have hown : s'.vm.findClass (zm_mn mi).cls = some m.cls := by rw [hvm, XX.warmed.alike.findClass]; exact cx4
  obtain ⟨cX, hcX, -⟩ : ∃ cX, s'.vm.findClass X = some cX ∧ True := by
    obtain ⟨c1, k1, h1, -⟩ := Cond.instantiable_spec (zm_wd N hWs w2 rfl args)
    exact ⟨c1, h1, trivial⟩
  obtain ⟨qs, hqs⟩ := zm_ldcS N hWs hown w4
  have hmul : zm_w * 7 ≤ zm_w * d := Nat.mul_le_mul_left _ hd
  have key : W p N.l e { R with cells := R.cells - cells, slots := R.slots - slots } s' m args below meth c T.heap [] 0 0 (zm_End N s sl0 below Q) (F0 m pc ls (st.map (zm_sh N.ad))) := by
    refine W.newcK cx1 cx2 hown (zm_wd N hWs w1 rfl args) (zm_wd N hWs w2 rfl args) (zm_wd N hWs w3 rfl args) rfl d0 (by show 0 + 1 ≤ R.cells - cells; omega) (by show 0 + 6 ≤ R.slots - slots; omega) hcX rfl fun H1 kX hkX e1 z1 o1 => ?_
    refine lv_dup cx1 cx2 d1 rfl ?_
    refine zm_ldcS_ok cx1 cx2 hown hqs d2 ?_
    intro T3 hT3 X3
    obtain ⟨U, hsteps, hrun, hend, hWU, hsame, ce, hce, hcv, hcn⟩ := zm_ctorT X3 cx1 (by rw [X3.admits.platform]; exact N.2.2.2.1) x0 x1 x2 x5 hown f1 (zm_atoms N hWs hHs hat args) (fun x hx => by cases hx) hcX hkX (by rw [hT3]; exact e1) (by rw [hhp]; exact Nat.le_refl _) (msg := .ref qs) rfl
      (g := F0 m (pc + 4 + iw) ls (.ref qs :: .ref T.heap.size :: .ref T.heap.size :: st.map (zm_sh N.ad))) rfl (by rw [cx3]; exact hl.1) rfl rfl rfl (by rw [cx2]; exact d3) (by rw [cx2]; exact d4) (by rw [cx9]; exact hout) (by show 5 < R.frames; omega)
      (by show 2 * 0 + ((Value.ref T.heap.size :: st.map (zm_sh N.ad)).map fun v => v.category).sum + _ ≤ R.locals; rw [List.map_cons, List.sum_cons, zm_cat_sh]; show 2 * 0 + (1 + _) + _ ≤ _; omega) cx6
    have hsz : U.heap.size = T.heap.size + 1 := by
      have h1 : U.heap.size ≤ s'.heap.size + (0 + 1) := hsame.2.2.1
      have h2 : T.heap.size < U.heap.size := (Array.getElem?_eq_some_iff.mp hce).1
      rw [hhp] at h1
      omega
    have hold : ∀ q : Nat, q < T.heap.size → U.heap[q]? = T.heap[q]? := by
      intro q hq
      have h1 : s'.heap[q]? = some (T.heap[q]) := by rw [hhp]; exact Array.getElem?_eq_getElem hq
      have h2 : ({ U with vm := s'.vm } : State).heap[q]? = some (T.heap[q]) := State.sameButNew.old_cell hsame h1
      rw [Array.getElem?_eq_getElem hq]
      exact h2
    have hnx : N.ad G.1.length = T.heap.size := hR.next
    have hsame2 : s.sameButNew ({ U with vm := s.vm } : State) (locs ++ []) (cells + (0 + 1)) (slots + (0 + 6)) := by
      refine XX.same.trans ?_
      obtain ⟨a1, a2, a3, a4, a5, a6⟩ := hsame
      refine ⟨?_, ?_, ?_, ?_, ?_, ?_⟩
      · have h1 := congrArg (fun z : State => z.setVm s.vm) a1
        rw [← hs', State.setFrames_setFrames] at h1
        exact h1
      · rw [hhp] at a2; exact a2
      · rw [hhp] at a3; exact a3
      · rw [← hs'] at a4; exact a4
      · rw [hhp] at a5; exact a5
      · rw [hhp] at a6; exact a6
    refine ⟨U, hsteps, .inr (xk, G.1.length), _, .threw T.heap.size, locs ++ [], cells + (0 + 1), slots + (0 + 6), hrun, hend, ⟨by rw [hnx], X, ce, hxn, by rw [hnx]; exact hce, hcv, ?_⟩, hq, ?_, State.WarmedH.trans XX.warmed (by rw [← hs'] at hWU; exact hWU), hsame2, ?_, ?_, ?_⟩
    · rw [hWU.alike.findClass]; exact hcn
    · exact hR.new (fun z => absurd z (Nat.lt_irrefl _)) hsz hold
    · intro q hq
      rw [List.append_nil] at hq
      exact hL q hq
    · omega
    · show sl0 + (slots + (0 + 6)) = G.2 + 6
      omega
  exact key T rfl Y
end ZW
/-! Object's own constructor -/
def zm_okO (mi idx : Nat) : Prop := Cond.methodLink (zm_mn mi).cls idx Lib.objectInit ∈ zm_tb ∧ Cond.instanceMethod Lib.objectInit ∈ zm_tb ∧ Cond.code Lib.objectInit ⟨#[0xb1]⟩ 1 none ∈ zm_tb
theorem zm_J_O {N : zm_N} {d mi pc idx a : Nat} {lv : zm_L} {rest : List Value} {G : zm_H} {Q : zm_O → zm_H → Prop} (hdg : decode (zm_by mi) pc = .ok (.invokespecial idx, 3)) (hok : zm_okO mi idx) (hw : (rest.map fun v => v.category).sum + 12 ≤ zm_w) (k : zm_J N (d + 1) mi (pc + 3) lv rest G Q) : zm_J N (d + 1) mi pc lv (.ref a :: rest) G Q := by
  intro p e R s m args below meth c sl0 Cx H locs ls cells slots hR hl hL hc hs
  obtain ⟨cx1, cx2, cx3, cx4, cx5, cx6, cx7, cx8, cx9, cx10, cx11, cx12, cx13⟩ := id Cx
  have hwd : zm_w * (d + 1) = zm_w * d + zm_w := Nat.mul_succ _ _
  exact W.objInit cx1 cx2 cx4 (zm_wd N cx5 hok.1 rfl args) (zm_wd N cx5 hok.2.1 rfl args) (zm_wd N cx5 hok.2.2 rfl args) (g := F0 m pc ls (.ref (N.ad a) :: rest.map (zm_sh N.ad))) rfl (by rw [cx3]; exact hl.1) rfl hdg (by omega) (by show 2 * 0 + ((rest.map (zm_sh N.ad)).map fun v => v.category).sum + 12 ≤ _; rw [zm_cat_sh]; omega) (k p e R s m args below meth c sl0 Cx H locs ls cells slots hR hl hL hc hs)

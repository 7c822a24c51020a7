/-! THE INVOKING INSTRUCTIONS -/
def zm_okl (mi idx mj : Nat) : Prop := Cond.methodLink (zm_mn mi).cls idx (zm_mn mj) ∈ zm_tb ∨ ∃ host, Cond.methodLinkNest (zm_mn mi).cls idx (zm_mn mj) host ∈ zm_tb
def zm_okc (mi idx mj n : Nat) : Prop := zm_okm mj ∧ zm_okl mi idx mj ∧ ((zm_mn mj).cls ≠ "java/lang/invoke/MethodHandle" ∧ (zm_mn mj).cls ≠ "java/lang/invoke/VarHandle") ∧ (parseMethodDescriptor (zm_mn mj).desc).map (fun q => q.parameters.length) = some n
def zm_okS (mi idx mj n : Nat) : Prop := zm_okc mi idx mj n ∧ Cond.static (zm_mn mj) ∈ zm_tb ∧ Cond.initialized (zm_mn mj).cls ∈ zm_tb
def zm_okI (mi idx mj n : Nat) : Prop := zm_okc mi idx mj n ∧ Cond.instanceMethod (zm_mn mj) ∈ zm_tb ∧ (zm_mn mj).name = "<init>" ∧ Cond.code (zm_mn mj) (zm_by mj) (zm_nl mj) none ∈ zm_tb
/-- .. on objects of the kind x -/
def zm_okV (mi idx mj n x : Nat) : Prop := zm_okc mi idx mj n ∧ Cond.instanceMethod (zm_mn mj) ∈ zm_tb ∧ ∃ (C : String) (T : u_T) (k : Nat), zm_cl[x]? = some (C, T, k) ∧ Cond.selects C (zm_mn mj) (zm_mn mj) ∈ zm_tb
theorem zm_npar {mj n : Nat} {sg : MethodDescriptor} (h : (parseMethodDescriptor (zm_mn mj).desc).map (fun q => q.parameters.length) = some n) (hs : parseMethodDescriptor (zm_mn mj).desc = some sg) : n = sg.parameters.length := by
  rw [hs] at h
  exact (Option.some.inj h).symm
/-- what is thrown at pc of the method mi leaves it -/
def zm_out (mi pc : Nat) : Prop := ∀ q ∈ tableOf (zm_hd mi), covers q pc = false
/-- a row of a handler table lets a thing of the kind X pass -/
def zm_pass (mi pc : Nat) (X : String) (y : ExceptionTableEntry) : Prop := covers y pc = false ∨ (y.catchType ≠ 0 ∧ ∃ nm, Cond.classLink (zm_mn mi).cls y.catchType nm ∈ zm_tb ∧ Cond.not (.castable X nm) ∈ zm_tb)
/-- it takes it -/
def zm_take (mi : Nat) (X : String) (y : ExceptionTableEntry) : Prop := y.catchType ≠ 0 ∧ ∃ nm, Cond.classLink (zm_mn mi).cls y.catchType nm ∈ zm_tb ∧ Cond.castable X nm ∈ zm_tb
/-- what of the kind xk is thrown at pc of the method mi is taken at h -/
def zm_cat (mi pc xk h : Nat) : Prop := ∃ (X : String) (pre : List ExceptionTableEntry) (y : ExceptionTableEntry) (rest : List ExceptionTableEntry), zm_xn[xk]? = some X ∧ tableOf (zm_hd mi) = pre ++ y :: rest ∧ (∀ z ∈ pre, zm_pass mi pc X z) ∧ covers y pc = true ∧ zm_take mi X y ∧ y.handlerPc = h
/-! the search for a handler, where its row's kind is linked as it is looked at -/
theorem zm_find_yes {Q : Handler → Pre} {E : CtlPost} {e : Env} {dd : Bool} {acts : List Action} {s : State} {f : JFrame} {a : Addr} {x : ExceptionTableEntry} {t : List ExceptionTableEntry} {c : ClassId} {cell : Cell} (hx : covers x f.pc = true) (h0 : x.catchType ≠ 0)
    (hl : s.vm.ClassLinks e.platform f.method.cls x.catchType c) (hcell : s.heap[a]? = some cell) (hobj : ∀ k, cell.vm ≠ .statics k) (hk : ∃ k, s.vm.classes[cell.cls]? = some k) (hc : ∃ k, s.vm.classes[c]? = some k) (hfit : s.vm.assignable cell.cls c = true) :
    wp (findHandler.go f a (x :: t)) Q E e dd acts s ↔ Q (.found x.handlerPc) dd acts (s.setVm (s.vm.noted f.method.cls x.catchType (.cls c))) := by
  simp only [covers] at hx
  obtain ⟨ha, ht⟩ := (resolveClass_links e.toSetting hl).op (op := VmOp.resolveClass f.method.cls x.catchType) rfl
  have hal : s.vm.Alike (s.vm.noted f.method.cls x.catchType (.cls c)) := (Vm.Alike.refl s.vm).noted _ _ _
  obtain ⟨k1, hk1⟩ := hk
  obtain ⟨k2, hk2⟩ := hc
  obtain ⟨k1', hk1', -⟩ := hal.2.2 _ _ hk1
  obtain ⟨k2', hk2', -⟩ := hal.2.2 _ _ hk2
  have hfit' : (s.vm.noted f.method.cls x.catchType (.cls c)).assignable cell.cls c = true := by rw [hal.assignable]; exact hfit
  simp [findHandler.go, hx, h0, ha, ht, hcell, hobj, hk1', hk2', hfit', VmOp.dirties, VmOp.acts]
theorem zm_find_no {Q : Handler → Pre} {E : CtlPost} {e : Env} {dd : Bool} {acts : List Action} {s : State} {f : JFrame} {a : Addr} {x : ExceptionTableEntry} {t : List ExceptionTableEntry} {c : ClassId} {cell : Cell} (hx : covers x f.pc = true) (h0 : x.catchType ≠ 0)
    (hl : s.vm.ClassLinks e.platform f.method.cls x.catchType c) (hcell : s.heap[a]? = some cell) (hobj : ∀ k, cell.vm ≠ .statics k) (hk : ∃ k, s.vm.classes[cell.cls]? = some k) (hc : ∃ k, s.vm.classes[c]? = some k) (hno : s.vm.assignable cell.cls c = false) :
    wp (findHandler.go f a (x :: t)) Q E e dd acts s ↔ wp (findHandler.go f a t) Q E e dd acts (s.setVm (s.vm.noted f.method.cls x.catchType (.cls c))) := by
  simp only [covers] at hx
  obtain ⟨ha, ht⟩ := (resolveClass_links e.toSetting hl).op (op := VmOp.resolveClass f.method.cls x.catchType) rfl
  have hal : s.vm.Alike (s.vm.noted f.method.cls x.catchType (.cls c)) := (Vm.Alike.refl s.vm).noted _ _ _
  obtain ⟨k1, hk1⟩ := hk
  obtain ⟨k2, hk2⟩ := hc
  obtain ⟨k1', hk1', -⟩ := hal.2.2 _ _ hk1
  obtain ⟨k2', hk2', -⟩ := hal.2.2 _ _ hk2
  have hno' : (s.vm.noted f.method.cls x.catchType (.cls c)).assignable cell.cls c = false := by rw [hal.assignable]; exact hno
  simp [findHandler.go, hx, h0, ha, ht, hcell, hobj, hk1', hk2', hno', VmOp.dirties, VmOp.acts]
/-- the search, through rows that let pass, up to one that takes -/
theorem zm_search {e : Env} {s₀ : State} {f : JFrame} {a : Addr} {cell : Cell} {mi : Nat} {X : String} (N : zm_N) (hpl : e.platform.magicAccessors = ({} : Platform).magicAccessors) (hW0 : N.s0.WarmedH s₀.vm) (hown : s₀.vm.findClass (zm_mn mi).cls = some f.method.cls) (hcv : cell.vm = .none) (hcc : s₀.vm.findClass X = some cell.cls)
    (y : ExceptionTableEntry) (rest : List ExceptionTableEntry) (hy : covers y f.pc = true) (htk : zm_take mi X y) :
    ∀ (pre : List ExceptionTableEntry) (S : State), s₀.WarmedH S.vm → S.heap[a]? = some cell → (∀ z ∈ pre, zm_pass mi f.pc X z) →
      ∃ vm', s₀.WarmedH vm' ∧ ∀ (Q : Handler → Pre) (E : CtlPost) (dd : Bool) (acts : List Action), wp (findHandler.go f a (pre ++ y :: rest)) Q E e dd acts S ↔ Q (.found y.handlerPc) dd acts (S.setVm vm') := by
  have hobj : ∀ k, cell.vm ≠ .statics k := fun k h => by rw [hcv] at h; cases h
  obtain ⟨k0, hk0⟩ := zm_findClass_some hcc
  intro pre
  induction pre with
  | nil =>
    intro S hW hcell _
    obtain ⟨k0', hk0', -⟩ := hW.alike.2.2 _ _ hk0
    obtain ⟨h0, nm, hlk, hc⟩ := htk
    obtain ⟨c', hc', hl⟩ := Cond.classLink_spec hown (zm_wd N hW0 hlk rfl #[]) e.platform hpl
    have hfit : s₀.vm.assignable cell.cls c' = true := by
      obtain ⟨c0, t0, f1, f2, f3⟩ := Cond.castable_spec (va_Nw.use (A := #[]) rfl (zm_wdC N hW0 hc))
      cases Option.some.inj (hcc.symm.trans f1)
      cases Option.some.inj (hc'.symm.trans f2)
      exact f3
    obtain ⟨dk, _, _, kt, hd, _, _, _, _, hkt, _, hopen⟩ := hl.here
    obtain ⟨kt', hkt', -⟩ := hW.alike.2.2 _ _ hkt
    exact ⟨_, hW.noted hd hopen (State.rightAt_cls hl), fun Q E dd acts => by
      rw [List.nil_append]
      exact zm_find_yes hy h0 (hW.classLinks hl) hcell hobj ⟨k0', hk0'⟩ ⟨kt', hkt'⟩ (by rw [hW.alike.assignable]; exact hfit)⟩
  | cons z zs ih =>
    intro S hW hcell hpass
    obtain ⟨k0', hk0', -⟩ := hW.alike.2.2 _ _ hk0
    have hrest : ∀ w ∈ zs, zm_pass mi f.pc X w := fun w hw => hpass w (List.mem_cons_of_mem _ hw)
    by_cases hcov : covers z f.pc = true
    · rcases hpass z List.mem_cons_self with h | ⟨h0, nm, hlk, hno⟩
      · rw [h] at hcov; cases hcov
      · obtain ⟨c', hc', hl⟩ := Cond.classLink_spec hown (zm_wd N hW0 hlk rfl #[]) e.platform hpl
        have hnf : s₀.vm.assignable cell.cls c' = false := by
          obtain ⟨A, hA⟩ := N.2.1
          have hv := Cond.holds_not_iff.mp (show (Cond.not (.castable X nm)).before A N.s0 = true from hA _ hno)
          have e1 : N.s0.vm.findClass X = some cell.cls := by rw [← hW0.alike.findClass]; exact hcc
          have e2 : N.s0.vm.findClass nm = some c' := by rw [← hW0.alike.findClass]; exact hc'
          simp only [Cond.value, e1, e2] at hv
          rw [hW0.alike.assignable]
          exact Option.some.inj hv
        obtain ⟨dk, _, _, kt, hd, _, _, _, _, hkt, _, hopen⟩ := hl.here
        obtain ⟨kt', hkt', -⟩ := hW.alike.2.2 _ _ hkt
        obtain ⟨vm', h1, h2⟩ := ih (S.setVm (S.vm.noted f.method.cls z.catchType (.cls c'))) (hW.noted hd hopen (State.rightAt_cls hl)) hcell hrest
        refine ⟨vm', h1, fun Q E dd acts => ?_⟩
        rw [List.cons_append, zm_find_no hcov h0 (hW.classLinks hl) hcell hobj ⟨k0', hk0'⟩ ⟨kt', hkt'⟩ (by rw [hW.alike.assignable]; exact hnf)]
        exact h2 Q E dd acts
    · have hcov : covers z f.pc = false := by cases h : covers z f.pc <;> simp_all
      obtain ⟨vm', h1, h2⟩ := ih S hW hcell hrest
      exact ⟨vm', h1, fun Q E dd acts => by rw [List.cons_append, W.findHandler_go_skip hcov]; exact h2 Q E dd acts⟩
theorem zm_sfv (u : State) (vm' : Vm) (F E : List Frame) : ((u.setFrames F).setVm vm').setFrames E = (u.setVm vm').setFrames E := by
  have h1 : (u.setFrames F).setVm vm' = (u.setVm vm').setFrames F := rfl
  rw [h1, State.setFrames_setFrames]
/-- a thrown thing is taken in the method that is walked -/
theorem zm_caught {tb : Tables} {e : Env} {s target : State} {g : JFrame} {c : Code} {below : List Frame} {a : Addr} (h : At s g.method c below) {pc : Nat} {vm' : Vm}
    (hfind : ∀ (Q : Handler → Pre) (E : CtlPost) (dd : Bool) (acts : List Action), wp (findHandler g a) Q E e dd acts ((s.setTop g).pushFrame (.throwing a)) ↔ Q (.found pc) dd acts (((s.setTop g).pushFrame (.throwing a)).setVm vm'))
    (hrest : Steps tb e below ((s.setVm vm').setTop { g with pc := pc, stack := [.ref a] }) target) : Steps tb e below ((s.setTop g).pushFrame (.throwing a)) target := by
  obtain ⟨hgo, hw⟩ := h.throwing a
  refine Steps.head hgo hw ?_
  obtain ⟨g₀, hg⟩ := Option.isSome_iff_exists.mp h.top
  obtain ⟨r, hr⟩ := State.topJava?_eq_some.mp hg
  have key : (stepThrowing e ((s.setTop g).pushFrame (.throwing a)) a (.java g :: r)).1 = (((s.setTop g).pushFrame (.throwing a)).setVm vm').setFrames (.java { g with pc := pc, stack := [.ref a] } :: r) := by
    simp only [stepThrowing, searchFrame, vmDo]
    generalize hres : Sem.go _ e false [] ((s.setTop g).pushFrame (.throwing a)) = res
    obtain ⟨as, rfl, ha⟩ := Sem.eq_ok_of hres (a := Handler.found pc) (s' := ((s.setTop g).pushFrame (.throwing a)).setVm vm') (acts' := []) (by simp [hfind _ _ _ _])
    rfl
  have hr' : (s.setVm vm').frames = .java g₀ :: r := hr
  rw [State.setTop_of_frames _ hr'] at hrest
  rw [stepThread_throwing (frames_entered h.top _), hr, List.tail_cons, key, State.pushFrame, State.setTop_of_frames _ hr, zm_sfv, zm_sfv]
  exact hrest
section ZI
variable {N : zm_N} {d mi mj pc idx : Nat} {lv : zm_L} {av rest : List Value} {G : zm_H} {Q Q1 : zm_O → zm_H → Prop}
set_option maxHeartbeats 1000000 in
/-- what is left of a call when the callee's end is known -/
theorem zm_after {p : Program} {e : Env} {R : Room} {s : State} {m : MethodId} {args : Array Value} {below : List Frame} {meth : Method} {c : Code} {sl0 : Nat} (Cx : zm_Cx N (d + 1) mi p R s m meth c sl0) {ls : Array Slot} (hl : lv_has ls (zm_nl mi) (zm_shL N.ad lv)) {ig : Instr} {st : List Value}
    (hdg : decode (zm_by mi) pc = .ok (ig, 3)) (hw : (rest.map fun v => v.category).sum + (zm_nl mj + 11) ≤ zm_w) (hfit : (lg_sl av).length ≤ zm_nl mj) (hcm : G.1.length ≤ zm_C) (hsm : G.2 ≤ zm_S) (hokm : zm_okm mj)
    (hJ : zm_J N d mj 0 (lv_args 0 av) [] G Q1) (kr : ∀ v G', Q1 (.inl v) G' → zm_J N (d + 1) mi (pc + 3) lv (v.toList ++ rest) G' Q) (kt : ∀ x G', Q1 (.inr x) G' → (zm_out mi pc ∧ Q (.inr x) G') ∨ ∃ h, zm_cat mi pc x.1 h ∧ zm_J N (d + 1) mi h lv [.ref x.2] G' Q)
    {T : State} {locs : List Loc} {cells slots : Nat} (hL : ∀ q ∈ locs, N.b ≤ q.base) (hc : s.heap.size + cells = T.heap.size) (hs : sl0 + slots = G.2) {vm₁ : Vm} (X₁ : Stand p N.l e R s m args below meth c (T.setVm vm₁) locs cells slots) (hR : zm_Rp N G T.heap)
    {mk : MethodId} (hn : s.methodNamed? (zm_mn mj) = some mk)
    (hstep : ∀ target, (∀ acts, Steps p.tables e below (doInvoke e ((T.setVm vm₁).setTop { F0 m pc ls st with stack := rest.map (zm_sh N.ad) }) acts mk (av.map (zm_sh N.ad)).toArray).1 target) → Steps p.tables e below (T.setTop (F0 m pc ls st)) target) :
    ∃ t, Steps p.tables e below (T.setTop (F0 m pc ls st)) t ∧ zm_End N s sl0 below Q t := by
  obtain ⟨cx1, cx2, cx3, cx4, cx5, cx6, cx7, cx8, cx9, cx10, cx11, cx12, cx13⟩ := id Cx
  obtain ⟨z, G', T', L, k, n, b1, X', b3, b4, b5, b6, b7⟩ := zm_callc hJ hokm Cx X₁ hR hL hc hs (g := F0 m pc ls (rest.map (zm_sh N.ad))) rfl (by rw [cx3]; exact hl.1) (by rw [cx2]; exact hdg) (by show 2 * 0 + ((rest.map (zm_sh N.ad)).map fun v => v.category).sum + _ ≤ _; rw [zm_cat_sh]; omega) (X₁.named hn) hfit hcm hsm
  rcases b7 with ⟨v, rfl, hst⟩ | ⟨x, rfl, hxc, hst⟩
  · have hJ' := kr v G' b1 p e R s m args below meth c sl0 Cx T'.heap (locs ++ L) ls (cells + k) (slots + n) b3 hl b4 b5 b6
    have hm : (v.toList ++ rest).map (zm_sh N.ad) = (v.map (zm_sh N.ad)).toList ++ rest.map (zm_sh N.ad) := by cases v <;> rfl
    rw [hm] at hJ'
    obtain ⟨t, a1, a2⟩ := hJ' T' rfl X'
    exact ⟨t, hstep _ (fun acts => (hst acts).trans a1), a2⟩
  · rcases kt x G' b1 with ⟨hout, hq⟩ | ⟨h, ⟨Xn, pre, y, rs, y1, y2, y3, y4, y5, y6⟩, hJ'⟩
    · obtain ⟨w1, w2, w3, w4, w5⟩ := X'.leaveThrown (N.ad x.2) (g := F0 m pc ls (rest.map (zm_sh N.ad))) rfl rfl rfl (by rw [cx9]; exact hout) cx6
      exact ⟨_, hstep _ (fun acts => (hst acts).trans w1), .inr x, G', .threw (N.ad x.2), locs ++ L, cells + k, slots + n, w2, w3, ⟨rfl, hxc⟩, hq, b3, w4, w5, b4, b5, b6⟩
    · obtain ⟨C0, cell, x1, x2, x3, x4⟩ := hxc
      cases Option.some.inj (y1.symm.trans x1)
      have hpl : e.platform.magicAccessors = ({} : Platform).magicAccessors := by rw [X'.admits.platform]
      have hWT : s.WarmedH T'.vm := X'.warmed
      have hcc : s.vm.findClass Xn = some cell.cls := by rw [← hWT.alike.findClass]; exact x4
      obtain ⟨vm', v1, v2⟩ := zm_search (e := e) (f := F0 m pc ls (rest.map (zm_sh N.ad))) (a := N.ad x.2) N hpl cx5 cx4 x3 hcc y rs y4 y5 pre (((T'.setTop (F0 m pc ls (rest.map (zm_sh N.ad)))).pushFrame (.throwing (N.ad x.2)))) (by rw [Stand.throwing_vm]; exact hWT) (by rw [Stand.throwing_heap]; exact x2) y3
      obtain ⟨t, a1, a2⟩ := hJ' p e R s m args below meth c sl0 Cx T'.heap (locs ++ L) ls (cells + k) (slots + n) b3 hl b4 b5 b6 (T'.setVm vm') rfl (X'.noted v1)
      refine ⟨t, hstep _ (fun acts => (hst acts).trans ?_), a2⟩
      refine zm_caught (c := c) (vm' := vm') (pc := h) X'.here ?_ a1
      intro Q E dd acts
      rw [W.findHandler_eq (meth := meth) (code := c) (by rw [Stand.throwing_vm]; exact X'.method') X'.code, cx9, y2, v2, y6]
set_option maxHeartbeats 1000000 in
theorem zm_J_S (hdg : decode (zm_by mi) pc = .ok (.invokestatic idx, 3)) (hok : zm_okS mi idx mj av.length) (hw : (rest.map fun v => v.category).sum + (zm_nl mj + 11) ≤ zm_w) (hfit : (lg_sl av).length ≤ zm_nl mj) (hcm : G.1.length ≤ zm_C) (hsm : G.2 ≤ zm_S)
    (hJ : zm_J N d mj 0 (lv_args 0 av) [] G Q1) (kr : ∀ v G', Q1 (.inl v) G' → zm_J N (d + 1) mi (pc + 3) lv (v.toList ++ rest) G' Q) (kt : ∀ x G', Q1 (.inr x) G' → (zm_out mi pc ∧ Q (.inr x) G') ∨ ∃ h, zm_cat mi pc x.1 h ∧ zm_J N (d + 1) mi h lv [.ref x.2] G' Q) : zm_J N (d + 1) mi pc lv (av.reverse ++ rest) G Q := by
  intro p e R s m args below meth c sl0 Cx H locs ls cells slots hR hl hL hc hs T hT X
  subst hT
  rw [List.map_append, List.map_reverse]
  obtain ⟨cx1, cx2, cx3, cx4, cx5, cx6, cx7, cx8, cx9, cx10, cx11, cx12, cx13⟩ := id Cx
  obtain ⟨⟨hokm, hokl, hy, hn⟩, hst, hini⟩ := hok
  obtain ⟨mk, methM, cM, hnamed, hmethM, -, -, -, -, -, -, hsigM⟩ := zm_okm_spec N cx5 hokm
  have hstatic : methM.isStatic = true := Cond.static_spec hnamed hmethM (zm_wd N cx5 hst rfl args)
  obtain ⟨kP, hkP, -⟩ := className_of_methodNamed hnamed
  have hinitP : kP.init = .initialized := Cond.initialized_spec (findClass_of_methodNamed hnamed) hkP (zm_wd N cx5 hini rfl args)
  have hlen : (av.map (zm_sh N.ad)).length = _ := (List.length_map ..).trans (zm_npar hn hsigM)
  have hx : ∃ vm₁, Stand p N.l e R s m args below meth c (T.setVm vm₁) locs cells slots ∧ ∀ target, (∀ acts, Steps p.tables e below (doInvoke e ((T.setVm vm₁).setTop { F0 m pc ls ((av.map (zm_sh N.ad)).reverse ++ rest.map (zm_sh N.ad)) with stack := rest.map (zm_sh N.ad) }) acts mk (av.map (zm_sh N.ad)).toArray).1 target) → Steps p.tables e below (T.setTop (F0 m pc ls ((av.map (zm_sh N.ad)).reverse ++ rest.map (zm_sh N.ad)))) target := by
    rcases hokl with h | ⟨host, h⟩
    · exact X.invokestatic cx1 cx4 (zm_wd N cx5 h rfl args) hnamed hmethM hstatic hkP hinitP hy (g := F0 m pc ls ((av.map (zm_sh N.ad)).reverse ++ rest.map (zm_sh N.ad))) rfl hlen rfl (by rw [cx2]; exact hdg)
    · exact X.invokestaticNest cx1 cx4 (zm_wdM N cx5 h args) hnamed hmethM hstatic hkP hinitP hy (g := F0 m pc ls ((av.map (zm_sh N.ad)).reverse ++ rest.map (zm_sh N.ad))) rfl hlen rfl (by rw [cx2]; exact hdg)
  obtain ⟨vm₁, X₁, hstep⟩ := hx
  exact zm_after Cx hl hdg hw hfit hcm hsm hokm hJ kr kt hL hc hs X₁ hR hnamed hstep
set_option maxHeartbeats 1000000 in
theorem zm_J_I {a : Nat} (hdg : decode (zm_by mi) pc = .ok (.invokespecial idx, 3)) (hok : zm_okI mi idx mj av.length) (hw : (rest.map fun v => v.category).sum + (zm_nl mj + 11) ≤ zm_w) (hfit : (lg_sl (.ref a :: av)).length ≤ zm_nl mj) (hcm : G.1.length ≤ zm_C) (hsm : G.2 ≤ zm_S)
    (hJ : zm_J N d mj 0 (lv_args 0 (.ref a :: av)) [] G Q1) (kr : ∀ v G', Q1 (.inl v) G' → zm_J N (d + 1) mi (pc + 3) lv (v.toList ++ rest) G' Q) (kt : ∀ x G', Q1 (.inr x) G' → (zm_out mi pc ∧ Q (.inr x) G') ∨ ∃ h, zm_cat mi pc x.1 h ∧ zm_J N (d + 1) mi h lv [.ref x.2] G' Q) : zm_J N (d + 1) mi pc lv (av.reverse ++ .ref a :: rest) G Q := by
  intro p e R s m args below meth c sl0 Cx H locs ls cells slots hR hl hL hc hs T hT X
  subst hT
  rw [List.map_append, List.map_reverse, List.map_cons]
  show ∃ t, Steps p.tables e below (T.setTop (F0 m pc ls ((av.map (zm_sh N.ad)).reverse ++ .ref (N.ad a) :: rest.map (zm_sh N.ad)))) t ∧ zm_End N s sl0 below Q t
  obtain ⟨cx1, cx2, cx3, cx4, cx5, cx6, cx7, cx8, cx9, cx10, cx11, cx12, cx13⟩ := id Cx
  obtain ⟨⟨hokm, hokl, hy, hn⟩, hinst, hname, hcode⟩ := hok
  have hpl : e.platform.magicAccessors = ({} : Platform).magicAccessors := by rw [X.admits.platform]
  have hlen : ∀ sig, parseMethodDescriptor (zm_mn mj).desc = some sig → (av.map (zm_sh N.ad)).length = sig.parameters.length := fun sg h => (List.length_map ..).trans (zm_npar hn h)
  have hx : ∃ mk vm₁, s.methodNamed? (zm_mn mj) = some mk ∧ s.WarmedH vm₁ ∧ ∀ target, (∀ acts, Steps p.tables e below (doInvoke e ((T.setVm vm₁).setTop { F0 m pc ls ((av.map (zm_sh N.ad)).reverse ++ .ref (N.ad a) :: rest.map (zm_sh N.ad)) with stack := rest.map (zm_sh N.ad) }) acts mk (Value.ref (N.ad a) :: av.map (zm_sh N.ad)).toArray).1 target) → Steps p.tables e below (T.setTop (F0 m pc ls ((av.map (zm_sh N.ad)).reverse ++ .ref (N.ad a) :: rest.map (zm_sh N.ad)))) target := by
    rcases hokl with h | ⟨host, h⟩
    · obtain ⟨mk, methM, cM, kP, vm₁, hnamed, hmethM, hcodeM, -, hlocalsM, -, hkP, -, hW₁, hstep₁⟩ := Steps.initColdArgs (e := e) X.here cx1 X.warmed hpl cx4 hname hy (zm_wd N cx5 h rfl args) (zm_wd N cx5 hinst rfl args) (zm_wd N cx5 hcode rfl args) (f := F0 m pc ls ((av.map (zm_sh N.ad)).reverse ++ .ref (N.ad a) :: rest.map (zm_sh N.ad))) rfl hlen rfl (by rw [cx2]; exact hdg)
      exact ⟨mk, vm₁, hnamed, hW₁, hstep₁⟩
    · obtain ⟨mk, methM, cM, kP, vm₁, hnamed, hmethM, hcodeM, -, hlocalsM, -, hkP, -, hW₁, hstep₁⟩ := Steps.initColdArgsNest (e := e) X.here cx1 X.warmed hpl cx4 hname hy (zm_wdM N cx5 h args) (zm_wd N cx5 hinst rfl args) (zm_wd N cx5 hcode rfl args) (f := F0 m pc ls ((av.map (zm_sh N.ad)).reverse ++ .ref (N.ad a) :: rest.map (zm_sh N.ad))) rfl hlen rfl (by rw [cx2]; exact hdg)
      exact ⟨mk, vm₁, hnamed, hW₁, hstep₁⟩
  obtain ⟨mk, vm₁, hnamed, hW₁, hstep⟩ := hx
  exact zm_after (av := .ref a :: av) Cx hl hdg hw hfit hcm hsm hokm hJ kr kt hL hc hs (X.noted hW₁) hR hnamed hstep
set_option maxHeartbeats 1000000 in
theorem zm_J_V {a x : Nat} {fs : List Value} (hdg : decode (zm_by mi) pc = .ok (.invokevirtual idx, 3)) (hok : zm_okV mi idx mj av.length x) (ha : G.1[a]? = some (.inr (x, fs))) (hw : (rest.map fun v => v.category).sum + (zm_nl mj + 11) ≤ zm_w) (hfit : (lg_sl (.ref a :: av)).length ≤ zm_nl mj) (hcm : G.1.length ≤ zm_C) (hsm : G.2 ≤ zm_S)
    (hJ : zm_J N d mj 0 (lv_args 0 (.ref a :: av)) [] G Q1) (kr : ∀ v G', Q1 (.inl v) G' → zm_J N (d + 1) mi (pc + 3) lv (v.toList ++ rest) G' Q) (kt : ∀ x G', Q1 (.inr x) G' → (zm_out mi pc ∧ Q (.inr x) G') ∨ ∃ h, zm_cat mi pc x.1 h ∧ zm_J N (d + 1) mi h lv [.ref x.2] G' Q) : zm_J N (d + 1) mi pc lv (av.reverse ++ .ref a :: rest) G Q := by
  intro p e R s m args below meth c sl0 Cx H locs ls cells slots hR hl hL hc hs T hT X
  subst hT
  rw [List.map_append, List.map_reverse, List.map_cons]
  show ∃ t, Steps p.tables e below (T.setTop (F0 m pc ls ((av.map (zm_sh N.ad)).reverse ++ .ref (N.ad a) :: rest.map (zm_sh N.ad)))) t ∧ zm_End N s sl0 below Q t
  obtain ⟨cx1, cx2, cx3, cx4, cx5, cx6, cx7, cx8, cx9, cx10, cx11, cx12, cx13⟩ := id Cx
  obtain ⟨⟨hokm, hokl, hy, hn⟩, hinst, C, Tb, kn, hcl, hsel⟩ := hok
  obtain ⟨mk, methM, hnamed, hmethM, hstM, habM⟩ := Cond.instanceMethod_spec (zm_wd N cx5 hinst rfl args)
  obtain ⟨mk', methM', cM, hnamed', hmethM', -, -, -, -, -, -, hsigM⟩ := zm_okm_spec N cx5 hokm
  cases Option.some.inj (hnamed.symm.trans hnamed')
  cases Option.some.inj (hmethM.symm.trans hmethM')
  obtain ⟨c2, r2, m2, q1, q2, q3, q4, kP, hkP, hkPi⟩ := Cond.selects_spec (zm_wd N cx5 hsel rfl args)
  cases Option.some.inj ((State.methodFound?_of_named hnamed hy).symm.trans q2)
  cases Option.some.inj (hnamed.symm.trans q3)
  obtain ⟨r', h7, cell, g1, g2, g3, g4⟩ := hR.2.2.1 a _ ha (List.getElem?_eq_some_iff.mp hcl).1
  have hr : r' = (C, Tb, kn) := Option.some.inj (h7.symm.trans hcl)
  subst hr
  have hfc := ((zm_kn N cx5).1 x _ hcl).2.1
  have hcc : c2 = cell.cls := by rw [g2]; exact Option.some.inj (q1.symm.trans hfc)
  subst hcc
  have hselP : selectMethod e.platform s.vm cell.cls mk = .method mk := by rw [Launch.admits_selectMethod X.admits]; exact q4
  have hlen : (av.map (zm_sh N.ad)).length = _ := (List.length_map ..).trans (zm_npar hn hsigM)
  have hx : ∃ vm₁, Stand p N.l e R s m args below meth c (T.setVm vm₁) locs cells slots ∧ ∀ target, (∀ acts, Steps p.tables e below (doInvoke e ((T.setVm vm₁).setTop { F0 m pc ls ((av.map (zm_sh N.ad)).reverse ++ .ref (N.ad a) :: rest.map (zm_sh N.ad)) with stack := rest.map (zm_sh N.ad) }) acts mk (Value.ref (N.ad a) :: av.map (zm_sh N.ad)).toArray).1 target) → Steps p.tables e below (T.setTop (F0 m pc ls ((av.map (zm_sh N.ad)).reverse ++ .ref (N.ad a) :: rest.map (zm_sh N.ad)))) target := by
    rcases hokl with h | ⟨host, h⟩
    · exact X.invokevirtual cx1 cx4 (zm_wd N cx5 h rfl args) hnamed hmethM hstM hkP hkPi hy g1 (fun z h => by rw [g3] at h; cases h) hselP hmethM habM hkP hkPi (g := F0 m pc ls ((av.map (zm_sh N.ad)).reverse ++ .ref (N.ad a) :: rest.map (zm_sh N.ad))) rfl hlen rfl (by rw [cx2]; exact hdg)
    · exact X.invokevirtualNest cx1 cx4 (zm_wdM N cx5 h args) hnamed hmethM hstM hkP hkPi hy g1 (fun z h => by rw [g3] at h; cases h) hselP hmethM habM hkP hkPi (g := F0 m pc ls ((av.map (zm_sh N.ad)).reverse ++ .ref (N.ad a) :: rest.map (zm_sh N.ad))) rfl hlen rfl (by rw [cx2]; exact hdg)
  obtain ⟨vm₁, X₁, hstep⟩ := hx
  exact zm_after (av := .ref a :: av) Cx hl hdg hw hfit hcm hsm hokm hJ kr kt hL hc hs X₁ hR hnamed hstep
end ZI

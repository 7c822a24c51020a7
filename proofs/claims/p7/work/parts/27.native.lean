/-! RAW: the same judgement over the machine's own values; the natives that ArrayList's growth wants -/
def zm_JW (N : zm_N) (d mi pc : Nat) (lv : zm_L) (st : List Value) (G : zm_H) (Q : zm_O → zm_H → Prop) : Prop :=
  ∀ (p : Program) (e : Env) (R : Room) (s : State) (m : MethodId) (args : Array Value) (below : List Frame) (meth : Method) (c : Code) (sl0 : Nat), zm_Cx N d mi p R s m meth c sl0 →
  ∀ (H : Heap) (locs : List Loc) (ls : Array Slot) (cells slots : Nat), zm_Rp N G H → lv_has ls (zm_nl mi) lv → (∀ q ∈ locs, N.b ≤ q.base) → s.heap.size + cells = H.size → sl0 + slots = G.2 →
    W p N.l e R s m args below meth c H locs cells slots (zm_End N s sl0 below Q) (F0 m pc ls st)
set_option maxHeartbeats 4000000 in
theorem zm_callcW {N : zm_N} {d mi mj : Nat} {av : List Value} {G : zm_H} {Q1 : zm_O → zm_H → Prop} (hJ : zm_JW N d mj 0 (lv_args 0 av) [] G Q1) (hno : ∀ x G', ¬ Q1 (.inr x) G') (hok : zm_okm mj)
    {p : Program} {e : Env} {R : Room} {s : State} {m : MethodId} {args : Array Value} {below : List Frame} {meth : Method} {c : Code} {sl0 : Nat} (C : zm_Cx N (d + 1) mi p R s m meth c sl0)
    {T : State} {locs : List Loc} {cells slots : Nat} (X : Stand p N.l e R s m args below meth c T locs cells slots) (hR : zm_Rp N G T.heap) (hL : ∀ q ∈ locs, N.b ≤ q.base) (hc : s.heap.size + cells = T.heap.size) (hs : sl0 + slots = G.2)
    {g : JFrame} (hg : g.method = m) (hsize : g.locals.size = c.maxLocals) {ig : Instr} {len : Nat} (hdg : decode c.code g.pc = .ok (ig, len)) (hw : 2 * g.monitorRoom + (g.stack.map fun v => v.category).sum + (zm_nl mj + 11) ≤ zm_w)
    {mk : MethodId} (hn : T.methodNamed? (zm_mn mj) = some mk) (hfit : (lg_sl av).length ≤ zm_nl mj) (hcm : G.1.length ≤ zm_C) (hsm : G.2 ≤ zm_S) :
    ∃ (v : Option Value) (G' : zm_H) (T' : State) (L : List Loc) (k n : Nat), Q1 (.inl v) G' ∧ Stand p N.l e R s m args below meth c T' (locs ++ L) (cells + k) (slots + n) ∧ zm_Rp N G' T'.heap ∧ (∀ q ∈ locs ++ L, N.b ≤ q.base) ∧ s.heap.size + (cells + k) = T'.heap.size ∧ sl0 + (slots + n) = G'.2 ∧
      ∀ acts, Steps p.tables e below (doInvoke e (T.setTop g) acts mk av.toArray).1 (T'.setTop { g with pc := g.pc + len, stack := (v.map (zm_sh N.ad)).toList ++ g.stack }) := by
  obtain ⟨cx1, cx2, cx3, cx4, cx5, cx6, cx7, cx8, cx9, cx10, cx11, cx12, cx13⟩ := C
  have hWT : N.s0.WarmedH T.vm := State.WarmedH.trans cx5 X.warmed
  obtain ⟨mk', methk, ck, hn', hmk, hck, hbk, hlk, hrk, hlock, hek, hsig⟩ := zm_okm_spec N hWT hok
  cases Option.some.inj (hn.symm.trans hn')
  have hpk : T.plainMethod mk := State.plainMethod.of_named (plainFor_of_name hok.1) hn hmk
  have hz := hR.1
  have hcr : cells ≤ R.cells := by omega
  have hsr : slots ≤ R.slots := by omega
  have hwd : zm_w * (d + 1) = zm_w * d + zm_w := Nat.mul_succ _ _
  obtain ⟨Y, hin⟩ := X.into hg hsize hdg av.toArray (R' := { frames := R.frames - 1, cells := R.cells - cells, slots := R.slots - slots, locals := R.locals - zm_w }) hmk hck hlock hpk
    (by show R.frames - 1 + 1 ≤ R.frames; omega) (by show _ + _ + (R.locals - zm_w) ≤ R.locals; rw [hlk]; omega)
    (by show cells + (R.cells - cells) ≤ R.cells; omega) (by show slots + (R.slots - slots) ≤ R.slots; omega)
  have hl := lv_entry av (n := zm_nl mj) hfit
  have hent : entryFrame mk av.toArray ck.maxLocals = F0 mk 0 ((lg_sl av ++ List.replicate (zm_nl mj - (lg_sl av).length) Slot.unset).toArray) [] := by rw [hlk, lg_entry_eq]
  generalize hU : (T.setTop g).pushFrame (.java (entryFrame mk av.toArray ck.maxLocals)) = U at Y hin
  have hUh : U.heap = T.heap := by rw [← hU]; rfl
  have hCk : zm_Cx N d mj p { frames := R.frames - 1, cells := R.cells - cells, slots := R.slots - slots, locals := R.locals - zm_w } (T.calling g mk av.toArray) mk methk ck G.2 := by
    refine ⟨cx1, hbk, hlk, findClass_of_methodNamed hn, hWT, hlock, hrk, (name_of_methodNamed hn hmk).1, hek, ?_, ?_, ?_, ?_⟩
    · show d ≤ R.frames - 1; omega
    · show zm_w * d ≤ R.locals - zm_w
      omega
    · show N.b + zm_C ≤ T.heap.size + (R.cells - cells) + zm_no; omega
    · show zm_S ≤ G.2 + (R.slots - slots); omega
  obtain ⟨t, hst, z, G', o, L, k, n, b1, b2, b3, b4, b5, b6, b7, b8, b9, b10⟩ := hJ p e _ (T.calling g mk av.toArray) mk av.toArray (.java g :: below) methk ck G.2 hCk T.heap [] _ 0 0 hR hl (fun q h => by cases h) (by show T.heap.size + 0 = T.heap.size; omega) rfl U hUh Y
  have b9' : T.heap.size + k = t.heap.size := b9
  have hLL : ∀ q ∈ locs ++ L, N.b ≤ q.base := fun q hq => by
    rcases List.mem_append.mp hq with h | h
    · exact hL q h
    · exact b8 q h
  have hsteps : ∀ acts, Steps p.tables e below (doInvoke e (T.setTop g) acts mk av.toArray).1 t := fun acts => by
    rw [hin acts, hent]
    exact zm_weaken hst
  cases z with
  | inl v =>
    cases (show o = .returned (v.map (zm_sh N.ad)) from b3)
    obtain ⟨T', X', hW', hsame', ht⟩ := X.outOf hg hdg b2 b6 b7
    have hh : t.heap = T'.heap := by rw [ht]; rfl
    exact ⟨v, G', T', L, k, n, b4, X', by rw [← hh]; exact b5, hLL, by rw [← hh]; omega, by omega, fun acts => by rw [← ht]; exact hsteps acts⟩
  | inr x => exact absurd b4 (hno x G')
/-- the class object of Object[] -/
theorem zm_mir (N : zm_N) : ∃ mi : Nat, ∀ s : State, N.s0.WarmedH s.vm → va_Mi "[Ljava/lang/Object;" mi s := by
  obtain ⟨A, hA⟩ := N.2.1
  obtain ⟨mi, h⟩ := va_Mi.of (hA _ (by decide +kernel : Cond.isRef (.mirror "[Ljava/lang/Object;") ∈ zm_tb))
  exact ⟨mi, fun s hW => h.moved hW.alike⟩
theorem zm_dcl (N : zm_N) {U : State} (hW : N.s0.WarmedH U.vm) (a : Array Value) : (Cond.declares ⟨"java/lang/Object", "getClass", "()Ljava/lang/Class;"⟩).before a U = true := by
  obtain ⟨A, hA⟩ := N.2.1
  exact ((va_Dc.of (hA _ zj_getD)).moved hW.alike).use
theorem zm_d118_3 : decode (zm_by 118) 3 = .ok (.invokevirtual 86, 3) := by decide +kernel
theorem zm_d118_6 : decode (zm_by 118) 6 = .ok (.invokestatic 300, 3) := by decide +kernel
theorem zm_d119_0 : decode (zm_by 119) 0 = .ok (.aload_n 2, 1) := by decide +kernel
theorem zm_d119_1 : decode (zm_by 119) 1 = .ok (.ldc 110, 2) := by decide +kernel
theorem zm_d119_3 : decode (zm_by 119) 3 = .ok (.if_acmp .ne 10, 3) := by decide +kernel
theorem zm_d119_35 : decode (zm_by 119) 35 = .ok (.invokestatic 150, 3) := by decide +kernel
set_option maxHeartbeats 1000000 in
/-- copyOf of three: the class is Object[]'s -/
theorem zm_copy3 {N : zm_N} {d a mi : Nat} {n : Int32} {G : zm_H} {Q : zm_O → zm_H → Prop} (hM : ∀ s : State, N.s0.WarmedH s.vm → va_Mi "[Ljava/lang/Object;" mi s) (k : zm_J N d 119 6 [(0, .ref a), (1, .int n)] [] G Q) : zm_JW N d 119 0 [(0, .ref (N.ad a)), (1, .int n), (2, .ref mi)] [] G Q := by
  intro p e R s m args below meth c sl0 Cx H locs ls cells slots hR hl hL hc hs
  obtain ⟨cx1, cx2, cx3, cx4, cx5, cx6, cx7, cx8, cx9, cx10, cx11, cx12, cx13⟩ := id Cx
  refine lv_aload_n cx1 cx2 zm_d119_0 rfl (hl.2.2 (2, .ref mi) (by simp)) ?_
  refine va_ldcM cx1 cx2 cx4 (zm_wd N cx5 zj_mirL rfl args) (hM s cx5) zm_d119_1 ?_
  refine lv_acmp_ne (rx := some mi) (ry := some mi) cx1 cx2 zm_d119_3 (tgt := 13) rfl (fun z => absurd rfl z) (fun _ => ?_)
  refine k p e R s m args below meth c sl0 Cx H locs ls cells slots hR ⟨hl.1, hl.2.1, fun q hq => hl.2.2 q ?_⟩ hL hc hs
  rcases List.mem_cons.mp hq with h | h
  · rw [h]; simp [zm_sh]
  · rw [List.mem_singleton.mp h]; simp [zm_sh]
set_option maxHeartbeats 1000000 in
/-- copyOf of two, of an Object[] -/
theorem zm_copy2 {N : zm_N} {d a n0 : Nat} {f : (Nat → Int32) ⊕ ((Nat → Int64) ⊕ ((Nat → UInt32) ⊕ ((Nat → UInt64) ⊕ (Nat → Option Nat))))} {n : Int32} {G : zm_H} {Q Q1 : zm_O → zm_H → Prop} (ha : G.1[a]? = some (.inl (5, n0, f))) (hno : zm_no ≤ a) (hcm : G.1.length ≤ zm_C) (hsm : G.2 ≤ zm_S)
    (k : zm_J N d 119 6 [(0, .ref a), (1, .int n)] [] G Q1) (hQ : ∀ z G', Q1 z G' → ∃ b, z = .inl (some (.ref b)) ∧ Q z G') : zm_J N (d + 1) 118 0 [(0, .ref a), (1, .int n)] [] G Q := by
  refine zm_J_run zm_T 3 (pc' := 3) (lv' := [(0, .ref a), (1, .int n)]) (st' := [.ref a, .int n, .ref a]) (G' := G) rfl ?_
  obtain ⟨mi, hM⟩ := zm_mir N
  intro p e R s m args below meth c sl0 Cx H locs ls cells slots hR hl hL hc hs
  obtain ⟨cx1, cx2, cx3, cx4, cx5, cx6, cx7, cx8, cx9, cx10, cx11, cx12, cx13⟩ := id Cx
  have hcell : H[N.ad a]? = some (vp_cell (N.kA 5) (zm_sha N.ad (n0, f))) := (hR.2.2.1 a _ ha).1 hno
  rw [zm_cell_el] at hcell
  have hfc : s.vm.findClass "[Ljava/lang/Object;" = some (N.kA 5) := va_nmO ((zm_kn N cx5).2 5 _ rfl).2 rfl
  have hw41 : 41 ≤ zm_w * (d + 1) := by show 41 ≤ 41 * (d + 1); omega
  refine va_getC (rest := [.int n, .ref (N.ad a)]) cx1 cx2 (by rw [cx3]; exact hl.1.symm) cx4 (zm_wd N cx5 zj_getL rfl args) (zm_dcl N cx5 args) (zm_wd N cx5 zj_getS rfl args) (zm_wd N cx5 zj_getI rfl args) (zm_wd N cx5 zj_getN rfl args) (hM s cx5) ⟨_, hcell, rfl, hfc⟩ (by omega) (by show 1 + (1 + 0) + 14 ≤ _; omega) zm_d118_3 ?_
  intro T hT X
  subst hT
  obtain ⟨⟨hokm, hokl, hy, hnn⟩, hst, hini⟩ := zc_118_6
  obtain ⟨mk, methM, cM, hnamed, hmethM, -, -, -, -, -, -, hsigM⟩ := zm_okm_spec N cx5 hokm
  have hstatic : methM.isStatic = true := Cond.static_spec hnamed hmethM (zm_wd N cx5 hst rfl args)
  obtain ⟨kP, hkP, -⟩ := className_of_methodNamed hnamed
  have hinitP : kP.init = .initialized := Cond.initialized_spec (findClass_of_methodNamed hnamed) hkP (zm_wd N cx5 hini rfl args)
  have hlen : ([.ref (N.ad a), .int n, .ref mi] : List Value).length = _ := zm_npar hnn hsigM
  have hx : ∃ vm₁, Stand p N.l e R s m args below meth c (T.setVm vm₁) locs cells slots ∧ ∀ target, (∀ acts, Steps p.tables e below (doInvoke e ((T.setVm vm₁).setTop { F0 m 6 ls [.ref mi, .int n, .ref (N.ad a)] with stack := [] }) acts mk ([.ref (N.ad a), .int n, .ref mi] : List Value).toArray).1 target) → Steps p.tables e below (T.setTop (F0 m 6 ls [.ref mi, .int n, .ref (N.ad a)])) target := by
    rcases hokl with h | ⟨host, h⟩
    · exact X.invokestatic cx1 cx4 (zm_wd N cx5 h rfl args) hnamed hmethM hstatic hkP hinitP hy (g := F0 m 6 ls [.ref mi, .int n, .ref (N.ad a)]) rfl hlen rfl (by rw [cx2]; exact zm_d118_6)
    · exact X.invokestaticNest cx1 cx4 (zm_wdM N cx5 h args) hnamed hmethM hstatic hkP hinitP hy (g := F0 m 6 ls [.ref mi, .int n, .ref (N.ad a)]) rfl hlen rfl (by rw [cx2]; exact zm_d118_6)
  obtain ⟨vm₁, X₁, hstep⟩ := hx
  obtain ⟨v, G', T', L, k', n', b1, X', b3, b4, b5, b6, b7⟩ := zm_callcW (av := [.ref (N.ad a), .int n, .ref mi]) (zm_copy3 hM k) (fun x G' h => by obtain ⟨b, h1, -⟩ := hQ _ _ h; cases h1) hokm Cx X₁ hR hL hc hs (g := F0 m 6 ls []) rfl (by rw [cx3]; exact hl.1) (by rw [cx2]; exact zm_d118_6) (by show 2 * 0 + 0 + _ ≤ _; decide) (X₁.named hnamed) (Nat.le_of_ble_eq_true rfl) hcm hsm
  obtain ⟨b, hb1, hb2⟩ := hQ _ _ b1
  cases Sum.inl.inj hb1
  have K : zm_J N (d + 1) 118 9 [(0, .ref a), (1, .int n)] [.ref b] G' Q := zm_J_fin zm_T rfl rfl hb2
  obtain ⟨t, a1, a2⟩ := K p e R s m args below meth c sl0 Cx T'.heap (locs ++ L) ls (cells + k') (slots + n') b3 hl b4 b5 b6 T' rfl X'
  exact ⟨t, hstep _ (fun acts => (b7 acts).trans a1), a2⟩
theorem zm_cpy_map (ad : Nat → Nat) (f g : Nat → Option Nat) (sp dp n : Nat) : va_cpy (fun j => (f j).map ad) (fun j => (g j).map ad) sp dp n = fun j => (va_cpy f g sp dp n j).map ad := by
  funext j
  unfold va_cpy
  split <;> rfl
set_option maxHeartbeats 4000000 in
/-- arraycopy between two Object[], all of whose things are of one kind -/
theorem zm_J_cpy {N : zm_N} {d a b n0 n1 m0 x : Nat} {f g : Nat → Option Nat} {lv : zm_L} {rest : List Value} {G : zm_H} {Q : zm_O → zm_H → Prop} (ha : G.1[a]? = some (.inl (5, n0, .inr (.inr (.inr (.inr f)))))) (hna : zm_no ≤ a) (hb : G.1[b]? = some (.inl (5, n1, .inr (.inr (.inr (.inr g)))))) (hnb : zm_no ≤ b) (h0 : m0 ≤ n0) (h1 : m0 ≤ n1) (hm : m0 < 2147483648)
    (hx : zm_oka x "java/lang/Object") (hel : ∀ i, i < m0 → ∀ y, f i = some y → ∃ fs, G.1[y]? = some (.inr (x, fs))) (hw : (rest.map fun v => v.category).sum ≤ 5)
    (k : zm_J N (d + 1) 119 38 lv rest (zm_set G b (.inl (5, n1, .inr (.inr (.inr (.inr (va_cpy f g 0 0 m0))))))) Q) : zm_J N (d + 1) 119 35 lv (.int (nI m0) :: .int 0 :: .ref b :: .int 0 :: .ref a :: rest) G Q := by
  intro p e R s m args below meth c sl0 Cx H locs ls cells slots hR hl hL hc hs T hT X
  subst hT
  obtain ⟨cx1, cx2, cx3, cx4, cx5, cx6, cx7, cx8, cx9, cx10, cx11, cx12, cx13⟩ := id Cx
  have hc0 : T.heap[N.ad a]? = some (vp_cell (N.kA 5) (n0, .inr (.inr (.inr (.inr fun j => (f j).map N.ad))))) := (hR.2.2.1 a _ ha).1 hna
  have hc1 : T.heap[N.ad b]? = some (vp_cell (N.kA 5) (n1, .inr (.inr (.inr (.inr fun j => (g j).map N.ad))))) := (hR.2.2.1 b _ hb).1 hnb
  have hK := (zm_kn N cx5).2 5 _ (show zm_aty[5]? = some (.object "java/lang/Object") from rfl)
  obtain ⟨-, k0, hk0, cm0, hkk0⟩ := hK.1 n0 (fun j => va_rf ((f j).map N.ad))
  obtain ⟨-, k1, hk1, cm1, hkk1⟩ := hK.1 n1 (fun j => va_rf ((g j).map N.ad))
  have e0 : (0 : Int32).toNatClampNeg = 0 := by decide
  have em : (nI m0).toNatClampNeg = m0 := nI_clamp hm
  have eI : (nI m0).toInt = (m0 : Int) := nI_toInt hm
  have hw41 : 41 ≤ zm_w * (d + 1) := by show 41 ≤ 41 * (d + 1); omega
  obtain ⟨C', T', n', g2, g3⟩ := hx
  have hxl : x < zm_cl.length := (List.getElem?_eq_some_iff.mp g2).1
  have hcls := ((zm_kn N cx5).1 x _ g2).2
  obtain ⟨vm', X', step⟩ := X.arraycopy cx1 cx4 (zm_wd N cx5 zj_cpL rfl args) (zm_wd N cx5 zj_cpN rfl args) (zm_wd N cx5 zj_cpS rfl args) (zm_wd N cx5 zj_sysI rfl args) (src := N.ad a) (dst := N.ad b) (srcPos := 0) (destPos := 0) (n := nI m0) hc0 hc1
    (fun _ h => by cases h) (fun _ h => by cases h) (fun h => by cases h) (fun h => by cases h) hk0 hk1 hkk0 hkk1 rfl (by decide) (by decide) (nI_pos hm)
    (by rw [eI]; show ¬ (0 : Int) + _ > ((arrV (N.kA 5) n0 (fun j => va_rf ((f j).map N.ad))).slots.size : Int); rw [arrV_size]; omega)
    (by rw [eI]; show ¬ (0 : Int) + _ > ((arrV (N.kA 5) n1 (fun j => va_rf ((g j).map N.ad))).slots.size : Int); rw [arrV_size]; omega)
    (fun vm₁ hal i hi => by
      rw [em] at hi
      have e : (vp_cell (N.kA 5) (n0, .inr (.inr (.inr (.inr fun j => (f j).map N.ad))))).slots.getD ((0 : Int32).toNatClampNeg + i) .null = va_rf ((f i).map N.ad) := by
        show (arrV (N.kA 5) n0 (fun j => va_rf ((f j).map N.ad))).slots.getD _ _ = _
        rw [e0, Nat.zero_add, Array.getD_eq_getD_getElem?, arrV_read _ _ (by omega)]
        rfl
      rw [e]
      cases hy : f i with
      | none => exact ⟨rfl, trivial⟩
      | some y =>
        obtain ⟨fs, gy⟩ := hel i hi y hy
        obtain ⟨r', h7, cellV, q1, q2, q3, q4⟩ := hR.2.2.1 y _ gy hxl
        have hr : r' = (C', T', n') := Option.some.inj (h7.symm.trans g2)
        subst hr
        obtain ⟨kA, comp, r1, r2, r3, -⟩ := hK.2
        cases hk1.symm.trans r1
        cases hkk1.symm.trans r2
        obtain ⟨kC, hkC, -⟩ := Vm.findClass_spec hcls.1
        obtain ⟨kE, hkE, -⟩ := Vm.findClass_spec r3
        obtain ⟨kC', hkC', -⟩ := hal.2.2 _ _ hkC
        obtain ⟨kE', hkE', -⟩ := hal.2.2 _ _ hkE
        refine ⟨rfl, cellV, q1, (fun q h => by rw [q3] at h; cases h), ⟨kC', by rw [q2]; exact hkC'⟩, ⟨kE', hkE'⟩, ?_⟩
        show vm₁.assignable _ _ = true
        rw [hal.assignable, q2]
        rcases g3 with rfl | g3
        · have : cm1 = N.D.1 x := Option.some.inj (r3.symm.trans hcls.1)
          rw [this]
          exact va_assign hcls
        · obtain ⟨c0, t0, f1, f2, f3⟩ := Cond.castable_spec (va_Nw.use (A := args) rfl (zm_wdC N cx5 g3))
          have e1 : c0 = N.D.1 x := Option.some.inj (f1.symm.trans hcls.1)
          have e2 : t0 = cm1 := Option.some.inj (f2.symm.trans r3)
          rw [← e1, ← e2]
          exact f3)
    (g := F0 m 35 ls ((.int (nI m0) :: .int 0 :: .ref b :: .int 0 :: .ref a :: rest).map (zm_sh N.ad))) rfl (by rw [cx3]; exact hl.1) (rest := rest.map (zm_sh N.ad)) rfl (by rw [cx2]; exact zm_d119_35) (by omega) (by show 2 * 0 + ((rest.map (zm_sh N.ad)).map fun v => v.category).sum + (nativeFrameWords "java/lang/System" "arraycopy" 5 + 11) ≤ _; rw [zm_cat_sh]; have : nativeFrameWords "java/lang/System" "arraycopy" 5 ≤ 20 := (by decide); omega)
  have e1 : copied (vp_cell (N.kA 5) (n0, .inr (.inr (.inr (.inr fun j => (f j).map N.ad))))) (vp_cell (N.kA 5) (n1, .inr (.inr (.inr (.inr fun j => (g j).map N.ad))))) 0 0 (nI m0) = vp_cell (N.kA 5) (zm_sha N.ad (n1, .inr (.inr (.inr (.inr (va_cpy f g 0 0 m0)))))) := by
    rw [vp_cell_q, vp_cell_q]
    have := va_copied (fun z => va_rf z) (N.kA 5) (N.kA 5) (n0 := n0) (n1 := n1) (sp := (0 : Int32).toNatClampNeg) (dp := (0 : Int32).toNatClampNeg) (n := (nI m0).toNatClampNeg) (fun j => (f j).map N.ad) (fun j => (g j).map N.ad) (by rw [e0, em]; omega)
    refine Eq.trans this ?_
    rw [e0, em, zm_cpy_map]
    rfl
  rw [e1] at X' step
  have hlt : N.ad b < T.heap.size := (Array.getElem?_eq_some_iff.mp hc1).1
  have hheap : ((T.setVm vm').setCell (N.ad b) (vp_cell (N.kA 5) (zm_sha N.ad (n1, .inr (.inr (.inr (.inr (va_cpy f g 0 0 m0)))))))).heap = T.heap.setIfInBounds (N.ad b) (vp_cell (N.kA 5) (zm_sha N.ad (n1, .inr (.inr (.inr (.inr (va_cpy f g 0 0 m0))))))) := rfl
  have oq : ∀ q : Nat, q ≠ N.ad b → (T.heap.setIfInBounds (N.ad b) (vp_cell (N.kA 5) (zm_sha N.ad (n1, .inr (.inr (.inr (.inr (va_cpy f g 0 0 m0))))))))[q]? = T.heap[q]? := fun q hq => by simp [Array.getElem?_setIfInBounds, Ne.symm hq]
  have hR' := hR.set (e := .inl (5, n1, .inr (.inr (.inr (.inr (va_cpy f g 0 0 m0)))))) hnb (zm_at.arr (ty := .object "java/lang/Object") rfl (show (T.heap.setIfInBounds (N.ad b) _)[N.ad b]? = some _ by simp [Array.getElem?_setIfInBounds, hlt])) (by simp) oq
  have key : ∀ locs', Stand p N.l e R s m args below meth c ((T.setVm vm').setCell (N.ad b) (vp_cell (N.kA 5) (zm_sha N.ad (n1, .inr (.inr (.inr (.inr (va_cpy f g 0 0 m0)))))))) locs' cells slots → (∀ q ∈ locs', N.b ≤ q.base) → ∃ t, Steps p.tables e below (T.setTop (F0 m 35 ls ((.int (nI m0) :: .int 0 :: .ref b :: .int 0 :: .ref a :: rest).map (zm_sh N.ad)))) t ∧ zm_End N s sl0 below Q t := fun locs' X2 hL2 => by
    obtain ⟨t, a1, b1⟩ := k p e R s m args below meth c sl0 Cx _ locs' ls cells slots hR' hl hL2 (by rw [← hheap]; simp [State.setCell, State.setVm]; exact hc) hs _ hheap X2
    exact ⟨t, step t a1, b1⟩
  refine key _ X' (fun q hq => ?_)
  rcases List.mem_append.mp hq with h | h
  · exact hL q h
  · obtain ⟨z, -, hz⟩ := List.mem_map.mp h
    rw [← hz]
    show N.b ≤ N.ad b
    rw [zm_ad_new N hnb]
    omega
section ZMM
variable {N : zm_N} {d mi pc idx : Nat} {lv : zm_L} {rest : List Value} {G : zm_H} {Q : zm_O → zm_H → Prop} {x y : Int32}
theorem zm_J_mx (hdg : decode (zm_by mi) pc = .ok (.invokestatic idx, 3)) (hlk : Cond.methodLink (zm_mn mi).cls idx Lib.Math.max.name ∈ zm_tb) (hw : (rest.map fun v => v.category).sum + 13 ≤ zm_w) (hcm : G.1.length ≤ zm_C) (hsm : G.2 ≤ zm_S) (k : zm_J N (d + 1) mi (pc + 3) lv (.int (if x < y then y else x) :: rest) G Q) : zm_J N (d + 1) mi pc lv (.int y :: .int x :: rest) G Q := by
  intro p e R s m args below meth c sl0 Cx H locs ls cells slots hR hl hL hc hs
  obtain ⟨cx1, cx2, cx3, cx4, cx5, cx6, cx7, cx8, cx9, cx10, cx11, cx12, cx13⟩ := id Cx
  have hz := hR.1
  have hw41 : zm_w ≤ zm_w * (d + 1) := Nat.le_mul_of_pos_right _ (Nat.succ_pos d)
  exact va_mmax cx1 cx2 (by rw [cx3]; exact hl.1.symm) cx4 (zm_wd N cx5 hlk rfl args) (zm_wd N cx5 zj_mxS rfl args) (zm_wd N cx5 zj_mI rfl args) (zm_wd N cx5 zj_mxC rfl args) (by omega) (by rw [zm_cat_sh]; omega) (by omega) (by omega) hdg (k p e R s m args below meth c sl0 Cx H locs ls cells slots hR hl hL hc hs)
theorem zm_J_mn (hdg : decode (zm_by mi) pc = .ok (.invokestatic idx, 3)) (hlk : Cond.methodLink (zm_mn mi).cls idx Lib.Math.min.name ∈ zm_tb) (hw : (rest.map fun v => v.category).sum + 13 ≤ zm_w) (hcm : G.1.length ≤ zm_C) (hsm : G.2 ≤ zm_S) (k : zm_J N (d + 1) mi (pc + 3) lv (.int (if y < x then y else x) :: rest) G Q) : zm_J N (d + 1) mi pc lv (.int y :: .int x :: rest) G Q := by
  intro p e R s m args below meth c sl0 Cx H locs ls cells slots hR hl hL hc hs
  obtain ⟨cx1, cx2, cx3, cx4, cx5, cx6, cx7, cx8, cx9, cx10, cx11, cx12, cx13⟩ := id Cx
  have hz := hR.1
  have hw41 : zm_w ≤ zm_w * (d + 1) := Nat.le_mul_of_pos_right _ (Nat.succ_pos d)
  exact va_mmin cx1 cx2 (by rw [cx3]; exact hl.1.symm) cx4 (zm_wd N cx5 hlk rfl args) (zm_wd N cx5 zj_mnS rfl args) (zm_wd N cx5 zj_mI rfl args) (zm_wd N cx5 zj_mnC rfl args) (by omega) (by rw [zm_cat_sh]; omega) (by omega) (by omega) hdg (k p e R s m args below meth c sl0 Cx H locs ls cells slots hR hl hL hc hs)
end ZMM

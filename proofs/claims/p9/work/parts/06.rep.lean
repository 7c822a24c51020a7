/-! THE SMALL HEAP IN THE MACHINE's, AND THE JUDGEMENT zm_J: from here the method comes to an end of which Q speaks. -/
/-- what is known at the law's start: the words of the tables; the kinds of objects (D) and of arrays (kA) -/
def zm_K (D : va_G) (kA : Nat → ClassId) (U : State) : Prop := (∀ (c : Nat) (q : vw_C), zm_cl[c]? = some q → u_Kn U q.1 q.2.1 q.2.2 (D.1 c) (D.2 c)) ∧ ∀ (k : Nat) (ty : FieldType), zm_aty[k]? = some ty → ArrOfT U (kA k) ty ∧ va_RA U (kA k) ty
theorem zm_K.moved {D : va_G} {kA : Nat → ClassId} {u U : State} (hvm : u.vm.Alike U.vm) (h : zm_K D kA u) : zm_K D kA U := ⟨fun c q hq => u_Kn_moved hvm (h.1 c q hq), fun k ty hk => ⟨arrOfT_moved hvm (h.2 k ty hk).1, (h.2 k ty hk).2.moved hvm⟩⟩
abbrev zm_X : Type := Launch × State × va_G × (Nat → ClassId) × (Nat → Nat)
def zm_G0 (x : zm_X) : Prop := (∃ A : Array Value, ∀ w ∈ zm_tb, w.before A x.2.1 = true) ∧ zm_K x.2.2.1 x.2.2.2.1 x.2.1 ∧ x.1.stackTraces = false ∧ (∀ k, k < zm_no → x.2.2.2.2 k < x.2.1.heap.size) ∧
  ∀ q ∈ zm_os, q.1 < zm_no ∧ va_Z q.2.1 q.2.2.1 q.2.2.2 (.ref (x.2.2.2.2 q.1)) (fun a => x.2.1.heap.size ≤ a) x.2.1 x.2.1.heap
abbrev zm_N : Type := { x : zm_X // zm_G0 x }
abbrev zm_N.l (N : zm_N) : Launch := N.1.1
abbrev zm_N.s0 (N : zm_N) : State := N.1.2.1
abbrev zm_N.D (N : zm_N) : va_G := N.1.2.2.1
abbrev zm_N.kA (N : zm_N) : Nat → ClassId := N.1.2.2.2.1
/-- the lowest address that may be written -/
abbrev zm_N.b (N : zm_N) : Nat := N.s0.heap.size
def zm_N.ad (N : zm_N) (k : Nat) : Nat := if k < zm_no then N.1.2.2.2.2 k else N.b + (k - zm_no)
theorem zm_ad_new (N : zm_N) {k : Nat} (h : zm_no ≤ k) : N.ad k = N.b + (k - zm_no) := if_neg (Nat.not_lt.mpr h)
theorem zm_ad_old (N : zm_N) {k : Nat} (h : k < zm_no) : N.ad k < N.b := by
  unfold zm_N.ad
  rw [if_pos h]
  exact N.2.2.2.2.1 k h
theorem zm_ad_inj (N : zm_N) : zm_inj zm_no N.ad := by
  intro x y hxy ho he
  rcases Nat.lt_or_ge x zm_no with hx | hx
  · rcases Nat.lt_or_ge y zm_no with hy | hy
    · omega
    · have := zm_ad_old N hx
      rw [he, zm_ad_new N hy] at this
      omega
  · rcases Nat.lt_or_ge y zm_no with hy | hy
    · have := zm_ad_old N hy
      rw [← he, zm_ad_new N hx] at this
      omega
    · rw [zm_ad_new N hx, zm_ad_new N hy] at he
      omega
/-- an array, its references turned -/
def zm_sha (ad : Nat → Nat) (a : vp_A) : vp_A := match a.2 with
  | .inr (.inr (.inr (.inr f))) => (a.1, .inr (.inr (.inr (.inr fun j => (f j).map ad))))
  | _ => a
/-- an array's element -/
def zm_el (a : vp_A) (j : Nat) : Value := match a.2 with
  | .inl f => .int (f j)
  | .inr (.inl f) => .long (f j)
  | .inr (.inr (.inl f)) => .float (f j)
  | .inr (.inr (.inr (.inl f))) => .double (f j)
  | .inr (.inr (.inr (.inr f))) => va_rf (f j)
theorem zm_cell_el (cA : ClassId) (a : vp_A) : vp_cell cA a = arrV cA a.1 (zm_el a) := by
  obtain ⟨n, f | f | f | f | f⟩ := a <;> rfl
theorem zm_sha_1 (ad : Nat → Nat) (a : vp_A) : (zm_sha ad a).1 = a.1 := by
  obtain ⟨n, f | f | f | f | f⟩ := a <;> rfl
theorem zm_rf_sh (ad : Nat → Nat) (r : Option Nat) : va_rf (r.map ad) = zm_sh ad (va_rf r) := by cases r <;> rfl
theorem zm_sha_el (ad : Nat → Nat) (a : vp_A) (j : Nat) : zm_el (zm_sha ad a) j = zm_sh ad (zm_el a j) := by
  obtain ⟨n, f | f | f | f | f⟩ := a
  · rfl
  · rfl
  · rfl
  · rfl
  · exact zm_rf_sh ad (f j)
def zm_at (N : zm_N) (k : Nat) (e : zm_E) (H : Heap) : Prop := match e with
  | .inl x => (zm_no ≤ k → H[N.ad k]? = some (vp_cell (N.kA x.1) (zm_sha N.ad x.2))) ∧
      ∃ (cell : Cell) (ty : FieldType), zm_aty[x.1]? = some ty ∧ H[N.ad k]? = some cell ∧ N.s0.isArrayOf cell ty ∧ cell.vm ≠ .unknown ∧ cell.slots.size = x.2.1 ∧ ∀ j : Nat, j < x.2.1 → cell.slots[j]? = some (zm_sh N.ad (zm_el x.2 j))
  | .inr x => x.1 < zm_cl.length → va_at N.D zm_cl (N.ad k, .inr (x.1, x.2.map (zm_sh N.ad))) H
theorem zm_at.kept {N : zm_N} {k : Nat} {e : zm_E} {H H' : Heap} (h : zm_at N k e H) (hq : H'[N.ad k]? = H[N.ad k]?) : zm_at N k e H' := by
  cases e with
  | inl x =>
    obtain ⟨h1, cell, ty, h2, h3, h4⟩ := h
    exact ⟨fun z => by rw [hq]; exact h1 z, cell, ty, h2, by rw [hq]; exact h3, h4⟩
  | inr x => exact fun z => (h z).kept hq
/-- a new array stands -/
theorem zm_at.arr {N : zm_N} {k t : Nat} {a : vp_A} {ty : FieldType} {H : Heap} (ht : zm_aty[t]? = some ty) (h : H[N.ad k]? = some (vp_cell (N.kA t) (zm_sha N.ad a))) : zm_at N k (.inl (t, a)) H := by
  refine ⟨fun _ => h, _, ty, ht, h, ?_, ?_, ?_, ?_⟩
  · rw [zm_cell_el]
    exact (N.2.2.1.2 t ty ht).1 _ _
  · rw [zm_cell_el]
    exact fun z => by cases z
  · rw [zm_cell_el, arrV_size, zm_sha_1]
  · intro j hj
    rw [zm_cell_el, arrV_read _ _ (by rw [zm_sha_1]; exact hj), zm_sha_el]
def zm_Rp (N : zm_N) (G : zm_H) (H : Heap) : Prop :=
  H.size + zm_no = N.b + G.1.length ∧ zm_no ≤ G.1.length ∧ (∀ (k : Nat) (e : zm_E), G.1[k]? = some e → zm_at N k e H) ∧ ∀ q : Nat, q < N.b → H[q]? = N.s0.heap[q]?
/-- how a method ends: it gives a value or none, or it throws (the number of the exception's kind, its place) -/
abbrev zm_O : Type := Option Value ⊕ (Nat × Nat)
/-- what is known of a thrown thing -/
def zm_xc (N : zm_N) (x : Nat × Nat) (t : State) : Prop := ∃ (C : String) (cell : Cell), zm_xn[x.1]? = some C ∧ t.heap[N.ad x.2]? = some cell ∧ cell.vm = .none ∧ t.vm.findClass C = some cell.cls
def zm_om (N : zm_N) (z : zm_O) (o : Outcome) (t : State) : Prop := match z with
  | .inl v => o = .returned (v.map (zm_sh N.ad))
  | .inr x => o = .threw (N.ad x.2) ∧ zm_xc N x t
def zm_End (N : zm_N) (s : State) (sl0 : Nat) (below : List Frame) (Q : zm_O → zm_H → Prop) (t : State) : Prop :=
  ∃ (z : zm_O) (G : zm_H) (o : Outcome) (L : List Loc) (cells slots : Nat), t.status = .running ∧ Ended t below o ∧ zm_om N z o t ∧ Q z G ∧ zm_Rp N G t.heap ∧ s.WarmedH t.vm ∧ s.sameButNew ({ t with vm := s.vm } : State) L cells slots ∧ (∀ q ∈ L, N.b ≤ q.base) ∧ s.heap.size + cells = t.heap.size ∧ sl0 + slots = G.2
/-- an invocation of the method mi, with d frames of room -/
def zm_Cx (N : zm_N) (d mi : Nat) (p : Program) (R : Room) (s : State) (m : MethodId) (meth : Method) (c : Code) (sl0 : Nat) : Prop :=
  p.tables.exec = Jvm.exec ∧ c.code = zm_by mi ∧ c.maxLocals = zm_nl mi ∧ s.vm.findClass (zm_mn mi).cls = some m.cls ∧ N.s0.WarmedH s.vm ∧ meth.locks = false ∧ meth.sig.returnType = zm_rt mi ∧ meth.name = (zm_mn mi).name ∧
  c.exceptionTable.toList = tableOf (zm_hd mi) ∧ d ≤ R.frames ∧ zm_w * d ≤ R.locals ∧ N.b + zm_C ≤ s.heap.size + R.cells + zm_no ∧ zm_S ≤ sl0 + R.slots
def zm_J (N : zm_N) (d mi pc : Nat) (lv : zm_L) (st : List Value) (G : zm_H) (Q : zm_O → zm_H → Prop) : Prop :=
  ∀ (p : Program) (e : Env) (R : Room) (s : State) (m : MethodId) (args : Array Value) (below : List Frame) (meth : Method) (c : Code) (sl0 : Nat), zm_Cx N d mi p R s m meth c sl0 →
  ∀ (H : Heap) (locs : List Loc) (ls : Array Slot) (cells slots : Nat), zm_Rp N G H → lv_has ls (zm_nl mi) (zm_shL N.ad lv) → (∀ q ∈ locs, N.b ≤ q.base) → s.heap.size + cells = H.size → sl0 + slots = G.2 →
    W p N.l e R s m args below meth c H locs cells slots (zm_End N s sl0 below Q) (F0 m pc ls (st.map (zm_sh N.ad)))
theorem zm_Wmono {p : Program} {l : Launch} {e : Env} {R : Room} {s : State} {m : MethodId} {args : Array Value} {below : List Frame} {meth : Method} {c : Code} {H : Heap} {locs : List Loc} {cells slots : Nat} {Q Q' : State → Prop} {g : JFrame} (h : ∀ t, Q t → Q' t)
    (k : W p l e R s m args below meth c H locs cells slots Q g) : W p l e R s m args below meth c H locs cells slots Q' g := fun T hT X => by
  obtain ⟨t, a, b⟩ := k T hT X
  exact ⟨t, a, h t b⟩
theorem zm_End.mono {N : zm_N} {s : State} {sl0 : Nat} {below : List Frame} {Q Q' : zm_O → zm_H → Prop} (h : ∀ z G, Q z G → Q' z G) {t : State} (k : zm_End N s sl0 below Q t) : zm_End N s sl0 below Q' t := by
  obtain ⟨z, G, o, L, ce, sl, a1, a2, a3, a4, a5⟩ := k
  exact ⟨z, G, o, L, ce, sl, a1, a2, a3, h z G a4, a5⟩
theorem zm_J.mono {N : zm_N} {d mi pc : Nat} {lv : zm_L} {st : List Value} {G : zm_H} {Q Q' : zm_O → zm_H → Prop} (k : zm_J N d mi pc lv st G Q) (h : ∀ z G, Q z G → Q' z G) : zm_J N d mi pc lv st G Q' :=
  fun p e R s m args below meth c sl0 C H locs ls cells slots h1 h2 h3 h4 h5 => zm_Wmono (fun _ q => q.mono h) (k p e R s m args below meth c sl0 C H locs ls cells slots h1 h2 h3 h4 h5)
/-! words -/
theorem zm_wd (N : zm_N) {U : State} (hW : N.s0.WarmedH U.vm) {w : Cond} (hw : w ∈ zm_tb) (hg : (w.onTables && w.keeps) = true) (a : Array Value) : w.before a U = true := by
  obtain ⟨A, hA⟩ := N.2.1
  exact word_at hW (Or.inl hg) (hA w hw)
theorem zm_wdA (N : zm_N) {U : State} (hW : N.s0.WarmedH U.vm) {ty : FieldType} (hw : Cond.arrayClass ty ∈ zm_tb) (a : Array Value) : (Cond.arrayClass ty).before a U = true := by
  obtain ⟨A, hA⟩ := N.2.1
  exact word_at hW (Or.inr ⟨ty, rfl⟩) (hA _ hw)
theorem zm_kn (N : zm_N) {U : State} (hW : N.s0.WarmedH U.vm) : zm_K N.D N.kA U := N.2.2.1.moved hW.alike
/-! the heap's moves -/
def zm_set (G : zm_H) (a : Nat) (e : zm_E) : zm_H := (G.1.set a e, G.2)
def zm_new (G : zm_H) (e : zm_E) (n : Nat) : zm_H := (G.1 ++ [e], G.2 + n)
theorem zm_Rp.lt {N : zm_N} {G : zm_H} {a : Nat} {e : zm_E} (ha : G.1[a]? = some e) : a < G.1.length := (List.getElem?_eq_some_iff.mp ha).1
theorem zm_Rp.ne {N : zm_N} {G : zm_H} {a q : Nat} {e e' : zm_E} (hn : zm_no ≤ a) (h : q ≠ a) : N.ad q ≠ N.ad a := zm_ad_inj N q a h (Or.inr hn)
theorem zm_Rp.set {N : zm_N} {G : zm_H} {H H' : Heap} (h : zm_Rp N G H) {a : Nat} {e : zm_E} (hn : zm_no ≤ a) (ha : zm_at N a e H') (hz : H'.size = H.size) (ho : ∀ q : Nat, q ≠ N.ad a → H'[q]? = H[q]?) : zm_Rp N (zm_set G a e) H' := by
  refine ⟨by rw [hz, h.1]; simp [zm_set], by simp only [zm_set, List.length_set]; exact h.2.1, fun q x hq => ?_, fun q hq => ?_⟩
  · by_cases hqa : q = a
    · subst hqa
      have hl : q < G.1.length := by
        have := (List.getElem?_eq_some_iff.mp hq).1
        simpa [zm_set] using this
      have : (zm_set G q e).1[q]? = some e := by simp [zm_set, hl]
      rw [this] at hq
      cases hq
      exact ha
    · have : (zm_set G a e).1[q]? = G.1[q]? := by simp only [zm_set]; exact List.getElem?_set_ne (Ne.symm hqa)
      rw [this] at hq
      exact (h.2.2.1 q x hq).kept (ho _ (zm_ad_inj N q a hqa (Or.inr hn)))
  · rw [ho q (by have := zm_ad_new N hn; omega)]
    exact h.2.2.2 q hq
theorem zm_Rp.new {N : zm_N} {G : zm_H} {H H' : Heap} (h : zm_Rp N G H) {e : zm_E} {n : Nat} (ha : zm_at N G.1.length e H') (hz : H'.size = H.size + 1) (ho : ∀ q : Nat, q < H.size → H'[q]? = H[q]?) : zm_Rp N (zm_new G e n) H' := by
  have h1 := h.1
  have h2 := h.2.1
  refine ⟨by rw [hz]; simp only [zm_new, List.length_append, List.length_singleton]; omega, by simp only [zm_new, List.length_append, List.length_singleton]; omega, fun q x hq => ?_, fun q hq => ?_⟩
  · by_cases hqa : q = G.1.length
    · subst hqa
      have : (zm_new G e n).1[G.1.length]? = some e := by simp [zm_new]
      rw [this] at hq
      cases hq
      exact ha
    · have hl : q < G.1.length := by
        have := (List.getElem?_eq_some_iff.mp hq).1
        simp only [zm_new, List.length_append, List.length_singleton] at this
        omega
      have : (zm_new G e n).1[q]? = G.1[q]? := by simp only [zm_new]; exact List.getElem?_append_left hl
      rw [this] at hq
      refine (h.2.2.1 q x hq).kept (ho _ ?_)
      rcases Nat.lt_or_ge q zm_no with hx | hx
      · have := zm_ad_old N hx
        omega
      · rw [zm_ad_new N hx]
        omega
  · rw [ho q (by omega)]
    exact h.2.2.2 q hq
theorem zm_Rp.next {N : zm_N} {G : zm_H} {H : Heap} (h : zm_Rp N G H) : N.ad G.1.length = H.size := by
  rw [zm_ad_new N h.2.1]
  have := h.1
  have := h.2.1
  omega

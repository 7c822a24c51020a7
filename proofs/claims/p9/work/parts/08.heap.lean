/-! THE HEAP's INSTRUCTIONS -/
def zm_fl (x : Nat) : List FieldType := zm_ft.getD x []
def zm_fty (x y : Nat) : FieldType := (zm_fl x).getD y .int
/-- a variable of this type keeps this value as it is -/
def zm_fit (ty : FieldType) (v : Value) : Bool := match ty, v with
  | .int, .int _ => true
  | .long, .long _ => true
  | .object _, .null => true
  | .object _, .ref _ => true
  | .array _, .null => true
  | .array _, .ref _ => true
  | .boolean, .int x => decide (x = 0 ∨ x = 1)
  | .char, .int x => decide (0 ≤ x ∧ x ≤ 65535)
  | _, _ => false
theorem zm_char_nar {x : Int32} (h : 0 ≤ x ∧ x ≤ 65535) : x.toUInt32.toUInt16.toUInt32.toInt32 = x := by
  have h1 : 0 ≤ x.toInt := by have := Int32.le_iff_toInt_le.mp h.1; simpa using this
  have h2 : x.toInt ≤ 65535 := by have := Int32.le_iff_toInt_le.mp h.2; simpa using this
  obtain ⟨n, hn, rfl⟩ : ∃ n : Nat, n < 65536 ∧ x = nI n := by
    refine ⟨x.toInt.toNat, by omega, ?_⟩
    apply Int32.toInt_inj.mp
    rw [nI_toInt (by omega)]
    omega
  have := (pk_charN hn).1
  simpa [narrow] using this
theorem zm_fit_of {ty : FieldType} {v : Value} (h : zm_fit ty v = true) : narrow ty v = v ∧ fits ty v = true := by
  unfold zm_fit at h
  split at h
  · exact ⟨rfl, rfl⟩
  · exact ⟨rfl, rfl⟩
  · exact ⟨rfl, rfl⟩
  · exact ⟨rfl, rfl⟩
  · exact ⟨rfl, rfl⟩
  · exact ⟨rfl, rfl⟩
  · rcases of_decide_eq_true h with rfl | rfl <;> exact ⟨rfl, rfl⟩
  · have h := of_decide_eq_true h
    refine ⟨?_, ?_⟩
    · show Value.int _ = _
      rw [zm_char_nar h]
    · simp [fits, h.1, h.2]
  · cases h
theorem zm_fit_sh (ad : Nat → Nat) {ty : FieldType} {v : Value} (h : zm_fit ty v = true) : zm_fit ty (zm_sh ad v) = true := by
  cases v <;> first | exact h | (cases ty <;> first | exact h | rfl)
theorem zm_P1 {N : zm_N} {G : zm_H} {H : Heap} (hR : zm_Rp N G H) {a x : Nat} {fs : List Value} (hx : x < zm_cl.length) (ha : G.1[a]? = some (.inr (x, fs))) : va_P N.D zm_cl [(N.ad a, .inr (x, fs.map (zm_sh N.ad)))] H := by
  intro k q hk
  match k, hk with
  | 0, hk => cases hk; exact hR.2.2.1 a _ ha hx
/-- the words of a field's reference: pool number idx of the method mi's kind, field y of the objects x -/
def zm_okf (mi idx x y : Nat) : Prop := ∃ (C : String) (T : u_T) (n : Nat), zm_cl[x]? = some (C, T, n) ∧ y < n ∧ (∀ w ∈ u_ws C T n, w ∈ zm_tb) ∧ (∀ k, k < n → parseFieldDescriptor (T k).2.2.1 = some (zm_fty x k)) ∧ (∀ a, a < n → ∀ b, b < n → a ≠ b → (T a).2.1 ≠ (T b).2.1) ∧
  ((∃ ref, Cond.fieldLink (zm_mn mi).cls idx ref (T y).2.1 (T y).2.2.1 ∈ zm_tb ∧ (ref = (T y).1 ∨ Cond.sameField ref (T y).1 (T y).2.1 (T y).2.2.1 ∈ zm_tb)) ∨
   ∃ host, Cond.fieldLinkNest (zm_mn mi).cls idx (T y).1 (T y).2.1 (T y).2.2.1 host ∈ zm_tb)
/-- a field may be written in the method mi: it isn't final, or mi makes objects of its own kind and names it without a host -/
def zm_okw (mi idx x y : Nat) : Prop := ∀ (C : String) (T : u_T) (n : Nat), zm_cl[x]? = some (C, T, n) → (T y).2.2.2 = false ∨ ((zm_mn mi).name = "<init>" ∧ (T y).1 = (zm_mn mi).cls ∧ Cond.fieldLink (zm_mn mi).cls idx (T y).1 (T y).2.1 (T y).2.2.1 ∈ zm_tb)
theorem zm_wdF (N : zm_N) {U : State} (hW : N.s0.WarmedH U.vm) {a : String} {i : Nat} {b n d h : String} (hw : Cond.fieldLinkNest a i b n d h ∈ zm_tb) (ar : Array Value) : (Cond.fieldLinkNest a i b n d h).before ar U = true := by
  obtain ⟨A, hA⟩ := N.2.1
  exact va_Nw.use rfl (va_Nw.warmF hW (va_Nw.of rfl (hA _ hw)))
theorem zm_wdM (N : zm_N) {U : State} (hW : N.s0.WarmedH U.vm) {a : String} {i : Nat} {x : MethodName} {h : String} (hw : Cond.methodLinkNest a i x h ∈ zm_tb) (ar : Array Value) : (Cond.methodLinkNest a i x h).before ar U = true := by
  obtain ⟨A, hA⟩ := N.2.1
  exact va_Nw.use rfl (va_Nw.warmM hW (va_Nw.of rfl (hA _ hw)))
theorem zm_wdC (N : zm_N) {U : State} (hW : N.s0.WarmedH U.vm) {C T : String} (hw : Cond.castable C T ∈ zm_tb) : va_Nw (.castable C T) U := by
  obtain ⟨A, hA⟩ := N.2.1
  exact va_Nw.warmC hW (va_Nw.of rfl (hA _ hw))
theorem zm_wdO (N : zm_N) {U : State} (hW : N.s0.WarmedH U.vm) {C : String} (hw : Cond.arrayOver (.object C) ∈ zm_tb) : va_AO C U := by
  obtain ⟨A, hA⟩ := N.2.1
  exact va_AO.moved hW.alike (va_AO.of (hA _ hw))
theorem zm_hts (N : zm_N) {s : State} (hW : N.s0.WarmedH s.vm) {C : String} {T : u_T} {n : Nat} (h : ∀ w ∈ u_ws C T n, w ∈ zm_tb) (args : Array Value) : ∀ w ∈ u_ws C T n, w.before args s = true := by
  intro w hw
  refine zm_wd N hW (h w hw) ?_ args
  obtain ⟨k, -, rfl⟩ := List.mem_map.mp hw
  unfold u_lay
  split <;> rfl
theorem zm_findClass_some {s : State} {C : String} {c : ClassId} (h : s.vm.findClass C = some c) : ∃ k, s.vm.classes[c]? = some k := by
  obtain ⟨hlt, -, -⟩ := Array.findIdx?_eq_some_iff_getElem.mp h
  exact ⟨_, Array.getElem?_eq_getElem hlt⟩
section ZH
variable {N : zm_N} {d mi : Nat} {p : Program} {e : Env} {R : Room} {s : State} {m : MethodId} {args : Array Value} {below : List Frame} {meth : Method} {c : Code} {sl0 : Nat} {G : zm_H} {H : Heap} {locs : List Loc} {cells slots : Nat} {Q : State → Prop}
variable {pc : Nat} {ls : Array Slot} {r : List Value}
theorem zm_getf_ok (Cx : zm_Cx N d mi p R s m meth c sl0) {idx x y a : Nat} (hok : zm_okf mi idx x y) (hR : zm_Rp N G H) {fs : List Value} (ha : G.1[a]? = some (.inr (x, fs))) {v : Value} (hy : fs[y]? = some v) (hdg : decode (zm_by mi) pc = .ok (.getfield idx, 3))
    (k : W p N.l e R s m args below meth c H locs cells slots Q (F0 m (pc + 3) ls (zm_sh N.ad v :: r))) : W p N.l e R s m args below meth c H locs cells slots Q (F0 m pc ls (.ref (N.ad a) :: r)) := by
  obtain ⟨C, T, n, h1, h2, h3, -, -, h6⟩ := hok
  have hxl : x < zm_cl.length := (List.getElem?_eq_some_iff.mp h1).1
  have hK := zm_kn N Cx.2.2.2.2.1
  have hVK : va_K N.D zm_cl [] s := ⟨hK.1, fun k q h => by simp at h⟩
  have hy' : (fs.map (zm_sh N.ad))[y]? = some (zm_sh N.ad v) := by rw [List.getElem?_map, hy]; rfl
  rcases h6 with ⟨ref, h7, h8⟩ | ⟨host, h7⟩
  · refine va_get Cx.1 Cx.2.1 (zm_hts N Cx.2.2.2.2.1 h3 args) (fun w h => h) Cx.2.2.2.1 hVK (zm_P1 hR hxl ha) 0 rfl h1 y h2 (zm_wd N Cx.2.2.2.2.1 h7 rfl args) ?_ hy' hdg k
    intro z hz
    rcases h8 with rfl | h8
    · exact hz
    · exact u_same (zm_wd N Cx.2.2.2.2.1 h8 rfl args) z hz
  · exact va_getN Cx.1 Cx.2.1 (zm_hts N Cx.2.2.2.2.1 h3 args) (fun w h => h) Cx.2.2.2.1 hVK (zm_P1 hR hxl ha) 0 rfl h1 y h2 (zm_wdF N Cx.2.2.2.2.1 h7 args) (fun z hz => hz) hy' hdg k
set_option maxHeartbeats 1000000 in
theorem zm_putf_ok (Cx : zm_Cx N d mi p R s m meth c sl0) {idx x y a : Nat} (hok : zm_okf mi idx x y) (hfin : zm_okw mi idx x y) (hR : zm_Rp N G H) (hL : ∀ q ∈ locs, N.b ≤ q.base) {fs : List Value} (ha : G.1[a]? = some (.inr (x, fs))) (hno : zm_no ≤ a) {v : Value} (hl : y < fs.length) (hv : zm_fit (zm_fty x y) v = true) (hdg : decode (zm_by mi) pc = .ok (.putfield idx, 3))
    (k : ∀ (H' : Heap) (locs' : List Loc), zm_Rp N (zm_set G a (.inr (x, fs.set y v))) H' → H'.size = H.size → (∀ q ∈ locs', N.b ≤ q.base) → W p N.l e R s m args below meth c H' locs' cells slots Q (F0 m (pc + 3) ls r)) : W p N.l e R s m args below meth c H locs cells slots Q (F0 m pc ls (zm_sh N.ad v :: .ref (N.ad a) :: r)) := by
  obtain ⟨C, T, n, h1, h2, h3, h4, h5, h6⟩ := hok
  have hxl : x < zm_cl.length := (List.getElem?_eq_some_iff.mp h1).1
  have hK := zm_kn N Cx.2.2.2.2.1
  have hVK : va_K N.D zm_cl [] s := ⟨hK.1, fun k q h => by simp at h⟩
  have hts := zm_hts N Cx.2.2.2.2.1 h3 args
  have hap := va_apart (D := N.D) (own := C) hts (fun w h => h) (zm_fty x) h4 h5 hVK h1
  have hba : N.b ≤ N.ad a := by rw [zm_ad_new N hno]; omega
  obtain ⟨r', h7, cell, q1, q2, q3, q4⟩ := hR.2.2.1 a _ ha hxl
  have hr : r' = (C, T, n) := Option.some.inj (h7.symm.trans h1)
  subst hr
  obtain ⟨hS, hfc, kC, hkC, hkind⟩ := hK.1 x _ h1
  obtain ⟨cf, kf, fi, f, hi, hsl⟩ := hS y h2
  have hst := (u_facts hfc hkC (u_lays hts (fun w h => h) h2) hi).1
  have hn := zm_fit_of (zm_fit_sh N.ad hv)
  have hlay := hts _ (u_in_lay h2)
  have hl' : y < (fs.map (zm_sh N.ad)).length := by rw [List.length_map]; exact hl
  have fin : ∀ H' : Heap, H'[N.ad a]? = some (cell.setSlot f.slot (zm_sh N.ad v)) → H'.size = H.size → (∀ q, q ≠ N.ad a → H'[q]? = H[q]?) → W p N.l e R s m args below meth c H' (locs ++ [⟨N.ad a, f.slot⟩]) cells slots Q (F0 m (pc + 3) ls r) := by
    intro H' e1 e2 e3
    refine k H' _ (hR.set hno (fun _ => ?_) e2 e3) e2 (fun q hq => ?_)
    · rw [hsl] at e1
      show va_at N.D zm_cl (N.ad a, .inr (x, (fs.set y v).map (zm_sh N.ad))) H'
      rw [List.map_set]
      exact ⟨_, h1, t_OB.to (V := updV (vp_V (fs.map (zm_sh N.ad))) y (zm_sh N.ad v)) ⟨_, e1, q2, q3, t_set q4 hap h2 _⟩ (fun j _ => vp_updV_set hl' _ j)⟩
    · rcases List.mem_append.mp hq with h | h
      · exact hL q h
      · rw [List.mem_singleton.mp h]; exact hba
  have hslot : f.slot < cell.slots.size := by rw [hsl]; exact k2_hasslot (q4 y h2)
  unfold u_lay at hlay
  by_cases hF : (T y).2.2.2 = true
  · rw [if_pos hF] at hlay
    rcases hfin C T n h1 with hfin | ⟨hini, hdecl, h8⟩
    · rw [hF] at hfin; cases hfin
    have hcf : m.cls = cf := by
      obtain ⟨_, _, c', _, _, _, -, -, hf', -, -, -, hown2, -⟩ := Cond.laysFinal_spec hlay
      have e1 : c' = cf := by have := hi.symm.trans hf'; simp at this; exact this.1.symm
      rw [hdecl] at hown2
      rw [← e1]; exact Option.some.inj (Cx.2.2.2.1.symm.trans hown2)
    have h6 := u_fits hfc hkC hkind (Or.inr hlay) hi (h4 y h2) hn.1 hn.2
    exact W.putFinK Cx.1 Cx.2.1 Cx.2.2.2.1 (zm_wd N Cx.2.2.2.2.1 h8 rfl args) hi hst hcf (Cx.2.2.2.2.2.2.2.1.trans hini) (by rw [q2]; exact h6) q1 q3 hslot rfl rfl hdg fin
  · rw [if_neg hF] at hlay
    have h6' := u_store hfc hkC hkind hlay hi (h4 y h2) hn.1 hn.2
    rcases h6 with ⟨ref, h8, h9⟩ | ⟨host, h8⟩
    · have hsame : s.fieldFound? ref (T y).2.1 (T y).2.2.1 = some (cf, kf, fi, f) := by
        rcases h9 with rfl | h9
        · exact hi
        · exact u_same (zm_wd N Cx.2.2.2.2.1 h9 rfl args) _ hi
      exact W.putK Cx.1 Cx.2.1 (f := f) ⟨Cx.2.2.2.1, zm_wd N Cx.2.2.2.2.1 h8 rfl args, ⟨_, _, _, hsame⟩, hst⟩ (by rw [q2]; exact h6') q1 q3 hslot rfl rfl hdg fin
    · exact va_WputK Cx.1 Cx.2.1 (f := f) Cx.2.2.2.1 (zm_wdF N Cx.2.2.2.2.1 h8 args) hi hst (by rw [q2]; exact h6') q1 q3 hslot rfl rfl hdg fin
/-- objects of the kind x can be made in the method mi -/
def zm_okn (mi idx x : Nat) : Prop := ∃ (C : String) (T : u_T) (n : Nat), zm_cl[x]? = some (C, T, n) ∧ (zm_fl x).length = n ∧ (∀ w ∈ u_ws C T n, w ∈ zm_tb) ∧ (∀ k, k < n → parseFieldDescriptor (T k).2.2.1 = some (zm_fty x k)) ∧ Cond.classLink (zm_mn mi).cls idx C ∈ zm_tb ∧ Cond.instantiable C n ∈ zm_tb ∧ Cond.initialized C ∈ zm_tb
theorem zm_sh_def (ad : Nat → Nat) (ty : FieldType) : zm_sh ad (defaultValue ty) = defaultValue ty := by cases ty <;> rfl
theorem zm_new_ok (Cx : zm_Cx N d mi p R s m meth c sl0) {idx x : Nat} (hok : zm_okn mi idx x) (hR : zm_Rp N G H) (hc : s.heap.size + cells = H.size) (hs : sl0 + slots = G.2) (hC : G.1.length + 1 ≤ zm_C) (hS : G.2 + (zm_fl x).length ≤ zm_S) (hdg : decode (zm_by mi) pc = .ok (.new idx, 3))
    (k : ∀ (H' : Heap), zm_Rp N (zm_new G (.inr (x, (zm_fl x).map defaultValue)) (zm_fl x).length) H' → H'.size = H.size + 1 → W p N.l e R s m args below meth c H' locs (cells + 1) (slots + (zm_fl x).length) Q (F0 m (pc + 3) ls (.ref (N.ad G.1.length) :: r))) : W p N.l e R s m args below meth c H locs cells slots Q (F0 m pc ls r) := by
  obtain ⟨C, T, n, h1, h2, h3, h4, h5, h6, h7⟩ := hok
  obtain ⟨cx1, cx2, cx3, cx4, cx5, cx6, cx7, cx8, cx9, cx10, cx11, cx12, cx13⟩ := id Cx
  have hK := zm_kn N cx5
  have hKn := hK.1 x _ h1
  have hts := zm_hts N cx5 h3 args
  have hz := hR.1
  subst h2
  refine W.newcK cx1 cx2 cx4 (zm_wd N cx5 h5 rfl args) (zm_wd N cx5 h6 rfl args) (zm_wd N cx5 h7 rfl args) rfl hdg (by omega) (by omega) hKn.2.1 hR.next.symm fun H1 kC hkC e1 z1 o1 => ?_
  have hz1 : H1.size = H.size + 1 := by rw [z1, hR.next]
  refine k H1 (hR.new (fun _ => ⟨_, h1, (u_born (zm_fty x) hts (fun w h => h) hKn hkC e1 h4).to ?_⟩) hz1 (fun q hq => o1 q (by rw [hR.next]; exact hq))) hz1
  intro j hj
  show _ = (((zm_fl x).map defaultValue).map (zm_sh N.ad)).getD j .null
  have hj' : j < (zm_fl x).length := hj
  rw [List.getD_eq_getElem?_getD, List.getElem?_map, List.getElem?_map]
  unfold zm_fty
  rw [List.getD_eq_getElem?_getD, List.getElem?_eq_getElem hj']
  exact (zm_sh_def N.ad _).symm
/-! arrays -/
theorem zm_alen_ok (Cx : zm_Cx N d mi p R s m meth c sl0) (hR : zm_Rp N G H) {a t : Nat} {x : vp_A} (ha : G.1[a]? = some (.inl (t, x))) (hdg : decode (zm_by mi) pc = .ok (.arraylength, 1))
    (k : W p N.l e R s m args below meth c H locs cells slots Q (F0 m (pc + 1) ls (.int (Int32.ofNat x.1) :: r))) : W p N.l e R s m args below meth c H locs cells slots Q (F0 m pc ls (.ref (N.ad a) :: r)) := by
  obtain ⟨-, cell, ty, h1, h2, h3, h4, h5, h6⟩ := hR.2.2.1 a _ ha
  exact W.alen (n := Int32.ofNat x.1) Cx.1 Cx.2.1 h2 (State.isArrayOf_alike Cx.2.2.2.2.1.alike h3) (by rw [h5]) rfl rfl hdg k
/-- which array an instruction reads or writes -/
def zm_aldt (i : Instr) (ty : FieldType) : Bool := match i, ty with
  | .iaload, .int => true
  | .laload, .long => true
  | .caload, .char => true
  | .baload, .boolean => true
  | .aaload, .object _ => true
  | _, _ => false
theorem zm_ald_ok (Cx : zm_Cx N d mi p R s m meth c sl0) (hR : zm_Rp N G H) {a t : Nat} {x : vp_A} (ha : G.1[a]? = some (.inl (t, x))) {i : Instr} {ty : FieldType} (ht : zm_aty[t]? = some ty) (hi : zm_aldt i ty = true) {j : Int32} (hj : 0 ≤ j ∧ j.toNatClampNeg < x.1) (hdg : decode (zm_by mi) pc = .ok (i, 1))
    (k : W p N.l e R s m args below meth c H locs cells slots Q (F0 m (pc + 1) ls (zm_sh N.ad (zm_el x j.toNatClampNeg) :: r))) : W p N.l e R s m args below meth c H locs cells slots Q (F0 m pc ls (.int j :: .ref (N.ad a) :: r)) := by
  obtain ⟨-, cell, ty', h1, h2, h3, h4, h5, h6⟩ := hR.2.2.1 a _ ha
  cases Option.some.inj (h1.symm.trans ht)
  have h3 := State.isArrayOf_alike Cx.2.2.2.2.1.alike h3
  have hin : ¬ (j < 0 ∨ cell.slots.size ≤ j.toNatClampNeg) := by
    rw [h5]
    rintro (q | q)
    · exact absurd hj.1 (Int32.not_le.mpr q)
    · exact absurd hj.2 (Nat.not_lt.mpr q)
  have h6 := h6 _ hj.2
  unfold zm_aldt at hi
  split at hi
  · exact W.iald Cx.1 Cx.2.1 h2 h3 h4 hin h6 rfl rfl hdg k
  · exact W.lald Cx.1 Cx.2.1 h2 h3 h4 hin h6 rfl rfl hdg k
  · exact W.cald Cx.1 Cx.2.1 h2 h3 h4 hin h6 rfl rfl hdg k
  · exact W.zald Cx.1 Cx.2.1 h2 h3 h4 hin h6 rfl rfl hdg k
  · exact W.aald Cx.1 Cx.2.1 h2 h3 rfl h4 hin h6 rfl rfl hdg k
  · cases hi
/-- an array's element is written -/
def zm_aset (x : vp_A) (j : Nat) (v : Value) : Option vp_A := match x.2, v with
  | .inl f, .int y => some (x.1, .inl (upd f j y))
  | .inr (.inl f), .long y => some (x.1, .inr (.inl (vp_updL f j y)))
  | .inr (.inr (.inr (.inr f))), .ref y => some (x.1, .inr (.inr (.inr (.inr (va_up f j (some y))))))
  | .inr (.inr (.inr (.inr f))), .null => some (x.1, .inr (.inr (.inr (.inr (va_up f j none)))))
  | _, _ => none
theorem zm_aset_of {x x' : vp_A} {j : Nat} {v : Value} (h : zm_aset x j v = some x') : x'.1 = x.1 ∧ zm_el x' = updV (zm_el x) j v := by
  obtain ⟨n, f⟩ := x
  unfold zm_aset at h
  split at h
  · rename_i f y hf
    simp only at hf
    subst hf
    cases Option.some.inj h
    refine ⟨rfl, funext fun q => ?_⟩
    simp only [zm_el, updV, upd]
    by_cases hq : q = j <;> simp [hq]
  · rename_i f y hf
    simp only at hf
    subst hf
    cases Option.some.inj h
    refine ⟨rfl, funext fun q => ?_⟩
    simp only [zm_el, updV, vp_updL]
    by_cases hq : q = j <;> simp [hq]
  · rename_i f y hf
    simp only at hf
    subst hf
    cases Option.some.inj h
    refine ⟨rfl, funext fun q => ?_⟩
    simp only [zm_el, updV, va_up]
    by_cases hq : q = j <;> simp [hq, va_rf]
  · rename_i f hf
    simp only at hf
    subst hf
    cases Option.some.inj h
    refine ⟨rfl, funext fun q => ?_⟩
    simp only [zm_el, updV, va_up]
    by_cases hq : q = j <;> simp [hq, va_rf]
  · cases h
/-- a thing of the kind xv may stand in an array of references to C -/
def zm_oka (xv : Nat) (C : String) : Prop := ∃ (C' : String) (T : u_T) (n : Nat), zm_cl[xv]? = some (C', T, n) ∧ (C' = C ∨ Cond.castable C' C ∈ zm_tb)
theorem zm_ast_fin {a t : Nat} {x x' : vp_A} {j : Nat} {v : Value} {ty : FieldType} (hR : zm_Rp N G H) (hL : ∀ q ∈ locs, N.b ≤ q.base) (hno : zm_no ≤ a) (ht : zm_aty[t]? = some ty) (hx : zm_aset x j v = some x') (k : ∀ (H' : Heap) (locs' : List Loc), zm_Rp N (zm_set G a (.inl (t, x'))) H' → H'.size = H.size → (∀ q ∈ locs', N.b ≤ q.base) → W p N.l e R s m args below meth c H' locs' cells slots Q (F0 m (pc + 1) ls r)) :
    ∀ H' : Heap, H'[N.ad a]? = some ((vp_cell (N.kA t) (zm_sha N.ad x)).setSlot j (zm_sh N.ad v)) → H'.size = H.size → (∀ q, q ≠ N.ad a → H'[q]? = H[q]?) → W p N.l e R s m args below meth c H' (locs ++ [⟨N.ad a, j⟩]) cells slots Q (F0 m (pc + 1) ls r) := by
  intro H' e1 e2 e3
  obtain ⟨x1, x2⟩ := zm_aset_of hx
  refine k H' _ (hR.set hno (zm_at.arr ht ?_) e2 e3) e2 (fun q hq => ?_)
  · rw [e1, zm_cell_el, zm_cell_el, arrV_store, zm_sha_1, zm_sha_1, x1]
    congr 2
    funext q
    rw [zm_sha_el, x2]
    unfold updV
    by_cases hq : q = j
    · rw [if_pos hq, if_pos hq]
    · rw [if_neg hq, if_neg hq, zm_sha_el]
  · rcases List.mem_append.mp hq with h | h
    · exact hL q h
    · rw [List.mem_singleton.mp h, zm_ad_new N hno]; exact Nat.le_add_right _ _
/-- what is written, and by which instruction into which array -/
def zm_astv (i : Instr) (ty : FieldType) (v : Value) : Option Value := match i, ty, v with
  | .iastore, .int, .int y => some (.int y)
  | .lastore, .long, .long y => some (.long y)
  | .castore, .char, .int y => some (.int y.toUInt32.toUInt16.toUInt32.toInt32)
  | .bastore, .boolean, .int y => some (.int (y &&& 1))
  | .aastore, .object _, .ref y => some (.ref y)
  | .aastore, .object _, .null => some .null
  | _, _, _ => none
set_option maxHeartbeats 1000000 in
theorem zm_ast_ok (Cx : zm_Cx N d mi p R s m meth c sl0) (hR : zm_Rp N G H) (hL : ∀ q ∈ locs, N.b ≤ q.base) {a t : Nat} {x x' : vp_A} (ha : G.1[a]? = some (.inl (t, x))) (hno : zm_no ≤ a) {i : Instr} {ty : FieldType} (ht : zm_aty[t]? = some ty) {j : Int32} (hj : 0 ≤ j ∧ j.toNatClampNeg < x.1) {v v' : Value} (hi : zm_astv i ty v = some v')
    (hv : ∀ b C, ty = .object C → v = .ref b → ∃ xv fs, G.1[b]? = some (.inr (xv, fs)) ∧ zm_oka xv C) (hx : zm_aset x j.toNatClampNeg v' = some x') (hdg : decode (zm_by mi) pc = .ok (i, 1))
    (k : ∀ (H' : Heap) (locs' : List Loc), zm_Rp N (zm_set G a (.inl (t, x'))) H' → H'.size = H.size → (∀ q ∈ locs', N.b ≤ q.base) → W p N.l e R s m args below meth c H' locs' cells slots Q (F0 m (pc + 1) ls r)) : W p N.l e R s m args below meth c H locs cells slots Q (F0 m pc ls (zm_sh N.ad v :: .int j :: .ref (N.ad a) :: r)) := by
  obtain ⟨cx1, cx2, cx3, cx4, cx5, cx6, cx7, cx8, cx9, cx10, cx11, cx12, cx13⟩ := id Cx
  have hcell := (hR.2.2.1 a _ ha).1 hno
  have hK := (zm_kn N cx5).2 t ty ht
  have harr : s.isArrayOf (vp_cell (N.kA t) (zm_sha N.ad x)) ty := by rw [zm_cell_el]; exact hK.1 _ _
  have hkn : (vp_cell (N.kA t) (zm_sha N.ad x)).vm ≠ .unknown := by rw [zm_cell_el]; exact fun z => by cases z
  have hsz : (vp_cell (N.kA t) (zm_sha N.ad x)).slots.size = x.1 := by rw [zm_cell_el, arrV_size, zm_sha_1]
  have hj0 : ¬ j < 0 := fun q => absurd hj.1 (Int32.not_le.mpr q)
  have hin : ¬ (j < 0 ∨ (vp_cell (N.kA t) (zm_sha N.ad x)).slots.size ≤ j.toNatClampNeg) := by
    rw [hsz]
    rintro (q | q)
    · exact hj0 q
    · exact absurd hj.2 (Nat.not_lt.mpr q)
  have fin := zm_ast_fin (e := e) (args := args) (below := below) (c := c) (cells := cells) (slots := slots) (Q := Q) (pc := pc) (ls := ls) (r := r) hR hL hno ht hx k
  unfold zm_astv at hi
  split at hi
  · cases Option.some.inj hi
    exact W.iast cx1 cx2 hcell harr hkn hin rfl rfl hdg fin
  · cases Option.some.inj hi
    exact W.last cx1 cx2 hcell harr hkn hin rfl rfl hdg fin
  · cases Option.some.inj hi
    exact W.cast cx1 cx2 hcell harr hkn hin rfl rfl hdg fin
  · cases Option.some.inj hi
    exact W.zast cx1 cx2 hcell harr hkn hin rfl rfl hdg fin
  · rename_i C y
    cases Option.some.inj hi
    obtain ⟨xv, fs, g1, C', T, n, g2, g3⟩ := hv y C rfl rfl
    have hxl : xv < zm_cl.length := (List.getElem?_eq_some_iff.mp g2).1
    obtain ⟨r', h7, cellV, q1, q2, q3, q4⟩ := hR.2.2.1 y _ g1 hxl
    have hr : r' = (C', T, n) := Option.some.inj (h7.symm.trans g2)
    subst hr
    have hcls := ((zm_kn N cx5).1 xv _ g2).2
    obtain ⟨kC, hkC, -⟩ := hcls.2
    obtain ⟨kA, comp, k1, k2, k3, -⟩ := hK.2
    have hasg : s.vm.assignable cellV.cls comp = true := by
      rw [q2]
      rcases g3 with rfl | g3
      · have : comp = N.D.1 xv := Option.some.inj (k3.symm.trans hcls.1)
        rw [this]
        exact va_assign hcls
      · obtain ⟨c0, t0, f1, f2, f3⟩ := Cond.castable_spec (va_Nw.use (A := args) rfl (zm_wdC N cx5 g3))
        have e1 : c0 = N.D.1 xv := Option.some.inj (f1.symm.trans hcls.1)
        have e2 : t0 = comp := Option.some.inj (f2.symm.trans k3)
        rw [← e1, ← e2]
        exact f3
    obtain ⟨kc, hkc⟩ := zm_findClass_some k3
    refine W.aast cx1 cx2 hcell (fun q h => by rw [zm_cell_el] at h; cases h) hkn (by rw [zm_cell_el]; exact k1) k2 rfl hkc ⟨hj0, by rw [hsz]; exact hj.2⟩ q1 (fun q h => by rw [q3] at h; cases h) (by rw [q2]; exact hkC) hasg rfl rfl hdg fin
  · rename_i C
    cases Option.some.inj hi
    exact va_WaastN (C := C) cx1 cx2 hcell harr hkn hin rfl rfl hdg fin
  · cases hi
/-! new arrays -/
def zm_dflt (n : Nat) (ty : FieldType) : Option vp_A := match ty with
  | .int => some (n, .inl fun _ => 0)
  | .char => some (n, .inl fun _ => 0)
  | .boolean => some (n, .inl fun _ => 0)
  | .long => some (n, .inr (.inl fun _ => 0))
  | .object _ => some (n, .inr (.inr (.inr (.inr fun _ => none))))
  | _ => none
theorem zm_dflt_of {n : Nat} {ty : FieldType} {a : vp_A} (h : zm_dflt n ty = some a) (ad : Nat → Nat) (cA : ClassId) : a.1 = n ∧ vp_cell cA (zm_sha ad a) = arrV cA n (fun _ => defaultValue ty) := by
  unfold zm_dflt at h
  split at h <;> first | (cases Option.some.inj h; exact ⟨rfl, rfl⟩) | cases h
def zm_prim (at_ : ArrayType) : FieldType := newarray.typeOf at_
theorem zm_newp_ok (Cx : zm_Cx N d mi p R s m meth c sl0) (hR : zm_Rp N G H) {at_ : ArrayType} {t : Nat} {ty : FieldType} (ht : zm_aty[t]? = some ty) (hty : newarray.typeOf at_ = ty) (hw : Cond.arrayClass ty ∈ zm_tb) {n : Int32} (hn : 0 ≤ n) {a0 : vp_A} (ha : zm_dflt n.toNatClampNeg ty = some a0) (hbytes : n.toNatClampNeg * 8 ≤ 536870912)
    (hc : s.heap.size + cells = H.size) (hs : sl0 + slots = G.2) (hC : G.1.length + 1 ≤ zm_C) (hS : G.2 + n.toNatClampNeg ≤ zm_S) (hdg : decode (zm_by mi) pc = .ok (.newarray at_, 2))
    (k : ∀ H' : Heap, zm_Rp N (zm_new G (.inl (t, a0)) n.toNatClampNeg) H' → H'.size = H.size + 1 → W p N.l e R s m args below meth c H' locs (cells + 1) (slots + n.toNatClampNeg) Q (F0 m (pc + 2) ls (.ref (N.ad G.1.length) :: r))) : W p N.l e R s m args below meth c H locs cells slots Q (F0 m pc ls (.int n :: r)) := by
  obtain ⟨cx1, cx2, cx3, cx4, cx5, cx6, cx7, cx8, cx9, cx10, cx11, cx12, cx13⟩ := id Cx
  have hz := hR.1
  subst hty
  have hb8 : componentBytes (newarray.typeOf at_) ≤ 8 := by cases at_ <;> decide
  have hbb : n.toNatClampNeg * componentBytes (newarray.typeOf at_) ≤ 536870912 := Nat.le_trans (Nat.mul_le_mul_left _ hb8) hbytes
  refine va_newaK cx1 cx2 (zm_wdA N cx5 hw args) rfl hdg rfl (fun q => absurd hn (Int32.not_le.mpr q)) rfl hbb (by omega) (by omega) hR.next.symm fun H1 cA e1 z1 o1 hAr hNm => ?_
  have hz1 : H1.size = H.size + 1 := by rw [z1, hR.next]
  have hcA : cA = N.kA t := by
    have := ((zm_kn N cx5).2 t _ ht).2
    have h2 : s.vm.findClass ("[" ++ (newarray.typeOf at_).toString) = some (N.kA t) := by cases at_ <;> exact this
    exact Option.some.inj (hNm.symm.trans h2)
  subst hcA
  refine k H1 (hR.new (zm_at.arr ht ?_) hz1 (fun q hq => o1 q (by rw [hR.next]; exact hq))) hz1
  rw [e1, (zm_dflt_of ha N.ad _).2]
theorem zm_newr_ok (Cx : zm_Cx N d mi p R s m meth c sl0) (hR : zm_Rp N G H) {idx t : Nat} {C : String} (ht : zm_aty[t]? = some (.object C)) (hw : Cond.arrayOver (.object C) ∈ zm_tb) (hcl : Cond.classLink (zm_mn mi).cls idx C ∈ zm_tb) {n : Int32} (hn : 0 ≤ n) {a0 : vp_A} (ha : zm_dflt n.toNatClampNeg (.object C) = some a0) (hbytes : n.toNatClampNeg * 8 ≤ 536870912)
    (hc : s.heap.size + cells = H.size) (hs : sl0 + slots = G.2) (hC : G.1.length + 1 ≤ zm_C) (hS : G.2 + n.toNatClampNeg ≤ zm_S) (hdg : decode (zm_by mi) pc = .ok (.anewarray idx, 3))
    (k : ∀ H' : Heap, zm_Rp N (zm_new G (.inl (t, a0)) n.toNatClampNeg) H' → H'.size = H.size + 1 → W p N.l e R s m args below meth c H' locs (cells + 1) (slots + n.toNatClampNeg) Q (F0 m (pc + 3) ls (.ref (N.ad G.1.length) :: r))) : W p N.l e R s m args below meth c H locs cells slots Q (F0 m pc ls (.int n :: r)) := by
  obtain ⟨cx1, cx2, cx3, cx4, cx5, cx6, cx7, cx8, cx9, cx10, cx11, cx12, cx13⟩ := id Cx
  have hz := hR.1
  refine W.anew cx1 cx2 cx4 (zm_wd N cx5 hcl rfl args) (va_AO.use (zm_wdO N cx5 hw)) rfl hdg rfl (fun q => absurd hn (Int32.not_le.mpr q)) (by omega) (by omega) (by omega) fun cA kA comp f1 f2 f3 f4 => ?_
  have hcA : cA = N.kA t := by
    obtain ⟨kA', comp', k1, k2, k3, k4⟩ := ((zm_kn N cx5).2 t _ ht).2
    exact Option.some.inj (f1.symm.trans k4)
  subst hcA
  rw [← hR.next]
  refine k _ (hR.new (zm_at.arr ht ?_) (Array.size_push ..) (fun q hq => by rw [Array.getElem?_push, if_neg (Nat.ne_of_lt hq)])) (Array.size_push ..)
  rw [hR.next, Array.getElem?_push_size, (zm_dflt_of ha N.ad _).2, ← arrV_new]
  rfl
/-! constants, statics, casts -/
theorem zm_gets_ok (Cx : zm_Cx N d mi p R s m meth c sl0) (hR : zm_Rp N G H) {idx : Nat} {q : Nat × String × String × String} (hq : q ∈ zm_os) (hl : Cond.fieldLink (zm_mn mi).cls idx q.2.1 q.2.2.1 q.2.2.2 ∈ zm_tb) (hdg : decode (zm_by mi) pc = .ok (.getstatic idx, 3))
    (k : W p N.l e R s m args below meth c H locs cells slots Q (F0 m (pc + 3) ls (.ref (N.ad q.1) :: r))) : W p N.l e R s m args below meth c H locs cells slots Q (F0 m pc ls r) := by
  obtain ⟨cx1, cx2, cx3, cx4, cx5, cx6, cx7, cx8, cx9, cx10, cx11, cx12, cx13⟩ := id Cx
  obtain ⟨h1, h2⟩ := N.2.2.2.2.2 q hq
  have h3 := va_Z.moved cx5.alike h2
  obtain ⟨cf, kf, fi, f, a, cell, g1, g2, g3, g4, g5, g6, g7, g8⟩ := h3
  have hlt : a < N.b := Nat.not_le.mp g8
  have had : N.ad q.1 = N.1.2.2.2.2 q.1 := if_pos h1
  rw [had] at k
  exact W.gets cx1 cx2 cx4 (zm_wd N cx5 hl rfl args) g1 g2 g3 g4 (by rw [hR.2.2.2 a hlt]; exact g5) (fun e => by rw [e] at g6; cases g6) g7 rfl hdg k
theorem zm_cast_ok (Cx : zm_Cx N d mi p R s m meth c sl0) (hR : zm_Rp N G H) {idx a x : Nat} {fs : List Value} {nm : String} (hl : Cond.classLink (zm_mn mi).cls idx nm ∈ zm_tb) (ha : G.1[a]? = some (.inr (x, fs))) {C : String} {T : u_T} {n : Nat} (hx : zm_cl[x]? = some (C, T, n)) (hc : C = nm ∨ Cond.castable C nm ∈ zm_tb) (hdg : decode (zm_by mi) pc = .ok (.checkcast idx, 3))
    (k : W p N.l e R s m args below meth c H locs cells slots Q (F0 m (pc + 3) ls (.ref (N.ad a) :: r))) : W p N.l e R s m args below meth c H locs cells slots Q (F0 m pc ls (.ref (N.ad a) :: r)) := by
  obtain ⟨cx1, cx2, cx3, cx4, cx5, cx6, cx7, cx8, cx9, cx10, cx11, cx12, cx13⟩ := id Cx
  have hxl : x < zm_cl.length := (List.getElem?_eq_some_iff.mp hx).1
  obtain ⟨r', h7, cell, q1, q2, q3, q4⟩ := hR.2.2.1 a _ ha hxl
  have hcls := ((zm_kn N cx5).1 x _ hx).2
  have hr : ∃ cell : Cell, H[N.ad a]? = some cell ∧ cell.vm.isStatics = false ∧ s.vm.findClass C = some cell.cls := ⟨cell, q1, by rw [q3]; rfl, by rw [q2]; exact hcls.1⟩
  rcases hc with rfl | hc
  · exact va_castS cx1 cx2 cx4 (zm_wd N cx5 hl rfl args) hcls hr hdg k
  · exact va_castY cx1 cx2 cx4 (zm_wd N cx5 hl rfl args) (zm_wdC N cx5 hc) hr hdg k
end ZH

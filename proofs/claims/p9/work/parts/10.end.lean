/-! ENDS: returns and throws -/
section ZE
variable {N : zm_N} {d mi pc : Nat} {lv : zm_L} {G : zm_H} {Q : zm_O → zm_H → Prop}
theorem zm_J_iret {v : Int32} {ty : FieldType} (hdg : decode (zm_by mi) pc = .ok (.ireturn, 1)) (hr : zm_rt mi = some ty) (hn : narrow ty (.int v) = .int v) (hq : Q (.inl (some (.int v))) G) : zm_J N d mi pc lv [.int v] G Q := by
  intro p e R s m args below meth c sl0 Cx H locs ls cells slots hR hl hL hc hs
  obtain ⟨cx1, cx2, cx3, cx4, cx5, cx6, cx7, cx8, cx9, cx10, cx11, cx12, cx13⟩ := id Cx
  refine zm_Wmono ?_ (W.zret (Qc := fun _ _ o t => o = .returned (some (.int v)) ∧ t.heap = H) (free := fun q => N.b ≤ q) cx1 cx2 (by rw [cx7]; exact hr) hn (fun t ht hw => ⟨rfl, ht⟩) hL hdg cx6)
  intro t ⟨o, h1, h2, ⟨h3, h4⟩, L, ⟨h5, h6, h7⟩, h8⟩
  exact ⟨.inl (some (.int v)), G, o, L, cells, slots, h1, h2, h3, hq, by rw [h4]; exact hR, h6, h7, h8, by rw [h4]; exact hc, hs⟩
theorem zm_J_vret (hdg : decode (zm_by mi) pc = .ok (.return_, 1)) (hr : zm_rt mi = none) (hq : Q (.inl none) G) : zm_J N d mi pc lv [] G Q := by
  intro p e R s m args below meth c sl0 Cx H locs ls cells slots hR hl hL hc hs
  obtain ⟨cx1, cx2, cx3, cx4, cx5, cx6, cx7, cx8, cx9, cx10, cx11, cx12, cx13⟩ := id Cx
  refine zm_Wmono ?_ (W.vret (Qc := fun _ _ o t => o = .returned none ∧ t.heap = H) (free := fun q => N.b ≤ q) cx1 cx2 (by rw [cx7]; exact hr) (fun t ht hw => ⟨rfl, ht⟩) hL hdg cx6)
  intro t ⟨o, h1, h2, ⟨h3, h4⟩, L, ⟨h5, h6, h7⟩, h8⟩
  exact ⟨.inl none, G, o, L, cells, slots, h1, h2, h3, hq, by rw [h4]; exact hR, h6, h7, h8, by rw [h4]; exact hc, hs⟩
theorem zm_J_aret {v : Value} {ty : FieldType} (hdg : decode (zm_by mi) pc = .ok (.areturn, 1)) (hr : zm_rt mi = some ty) (hty : ty.isReference = true) (hv : zm_isR v = true) (hq : Q (.inl (some v)) G) : zm_J N d mi pc lv [v] G Q := by
  intro p e R s m args below meth c sl0 Cx H locs ls cells slots hR hl hL hc hs
  obtain ⟨cx1, cx2, cx3, cx4, cx5, cx6, cx7, cx8, cx9, cx10, cx11, cx12, cx13⟩ := id Cx
  have hrt : (∃ n, ty = .object n) ∨ ∃ t, ty = .array t := by
    cases ty with
    | object n => exact Or.inl ⟨n, rfl⟩
    | array t => exact Or.inr ⟨t, rfl⟩
    | _ => cases hty
  have hv' : zm_sh N.ad v = .null ∨ ∃ a, zm_sh N.ad v = .ref a := by
    obtain ⟨r, rfl⟩ := zm_isR_of hv
    cases r with
    | none => exact Or.inl rfl
    | some x => exact Or.inr ⟨_, rfl⟩
  refine zm_Wmono ?_ (W.aret (Qc := fun _ _ o t => o = .returned (some (zm_sh N.ad v)) ∧ t.heap = H) (free := fun q => N.b ≤ q) cx1 cx2 (by rw [cx7]; exact hr) hrt hv' (fun t ht hw => ⟨rfl, ht⟩) hL hdg cx6)
  intro t ⟨o, h1, h2, ⟨h3, h4⟩, L, ⟨h5, h6, h7⟩, h8⟩
  exact ⟨.inl (some v), G, o, L, cells, slots, h1, h2, h3, hq, by rw [h4]; exact hR, h6, h7, h8, by rw [h4]; exact hc, hs⟩
end ZE
theorem zm_rebase {p : Program} {l : Launch} {e : Env} {R : Room} {s : State} {m : MethodId} {args : Array Value} {below : List Frame} {meth : Method} {c : Code} {T : State} {locs : List Loc} {cells slots : Nat} (X : Stand p l e R s m args below meth c T locs cells slots) (hc : cells ≤ R.cells) (hs : slots ≤ R.slots) :
    Stand p l e { R with cells := R.cells - cells, slots := R.slots - slots } (T.setFrames (.invoking m args :: below)) m args below meth c T [] 0 0 := by
  obtain ⟨g₀, hfr⟩ := X.frames_eq
  have hcur : T.cur < T.threads.size := State.cur_lt_of_frames hfr
  have hf : (T.setFrames (.invoking m args :: below)).frames = .invoking m args :: below := State.frames_setFrames _ hcur
  have hm : (T.setFrames (.invoking m args :: below)).vm.method? m = some meth := X.method'
  have hli : (T.setFrames (.invoking m args :: below)).localsInUse = s.localsInUse := by
    rw [State.localsInUse_invoking hf hm X.code, State.localsInUse_invoking X.frames X.method X.code]
  have hroom := X.room
  have hz := X.heapSize
  have hu := X.used
  simp only [State.hasRoom, Bool.and_eq_true, decide_eq_true_eq] at hroom
  obtain ⟨⟨⟨⟨r1, r2, r3, r4, r5, r6⟩, r7⟩, r8⟩, r9⟩ := hroom
  rw [X.frames] at r2 r3
  refine ⟨X.admits, X.cas, X.clock, hf, ?_, ?_, hm, X.code, X.here, X.tail, State.WarmedH.refl _, by rw [State.stackLimits_setFrames], by rw [State.stackBytes_setFrames], ?_⟩
  · simp only [State.hasRoom, Bool.and_eq_true, decide_eq_true_eq]
    rw [hli, hf]
    refine ⟨⟨⟨⟨r1, r2, by rw [State.stackLimits_setFrames, X.limits]; exact r3, r4, by rw [State.stackLimits_setFrames, X.limits]; exact r5, by rw [State.stackBytes_setFrames, X.bytes]; exact r6⟩, ?_⟩, ?_⟩, X.book⟩
    · show T.heap.size + (R.cells - cells) ≤ _
      omega
    · show T.slotsUsed + (R.slots - slots) ≤ _
      omega
  · have hh := X.hears
    have ha := X.warmed.alike
    have hvm : (T.setFrames (.invoking m args :: below)).vm = T.vm := rfl
    unfold State.hears at hh ⊢
    simp only [State.code?_eq, hvm, ha.method?] at hh ⊢
    exact hh
  · obtain ⟨th, hth, -⟩ := State.frames_cons hfr
    have hcur' : (T.setFrames (.invoking m args :: below)).cur < (T.setFrames (.invoking m args :: below)).threads.size := State.cur_lt_of_frames hf
    obtain ⟨th', hth', -⟩ := State.frames_cons hf
    have h := (State.sameButNew.refl (T.setFrames (.invoking m args :: below)) hth').setFrames T.frames hcur'
    rw [State.setFrames_setFrames, State.setFrames_self hth] at h
    exact h

/-! A SMALL MACHINE: the instructions that the methods of this claim use, over a list of locals, a stack and a small heap: a list of cells (the first few are old ones, which are only read) and the number of slots made so far. Its addresses are places in that list; 'ad' turns them into the machine's. What is proved of it is carried to the machine by zm_J. -/
abbrev zm_E : Type := (Nat × vp_A) ⊕ (Nat × List Value)
abbrev zm_H : Type := List zm_E × Nat
abbrev zm_L : Type := List (Nat × Value)
def zm_sh (ad : Nat → Nat) (v : Value) : Value := match v with
  | .ref a => .ref (ad a)
  | .int x => .int x
  | .long x => .long x
  | .float x => .float x
  | .double x => .double x
  | .null => .null
  | .retAddr x => .retAddr x
theorem zm_sh_cat (ad : Nat → Nat) (v : Value) : (zm_sh ad v).category = v.category := by cases v <;> rfl
def zm_shL (ad : Nat → Nat) (lv : zm_L) : zm_L := lv.map (fun q => (q.1, zm_sh ad q.2))
def zm_isI (v : Value) : Bool := match v with | .int _ => true | _ => false
def zm_isL (v : Value) : Bool := match v with | .long _ => true | _ => false
def zm_isR (v : Value) : Bool := match v with | .ref _ => true | .null => true | _ => false
theorem zm_isR_rf (r : Option Nat) : zm_isR (va_rf r) = true := by cases r <;> rfl
theorem zm_isR_of {v : Value} (h : zm_isR v = true) : ∃ r : Option Nat, v = va_rf r := by
  cases v <;> first | (simp [zm_isR] at h; done) | exact ⟨none, rfl⟩ | exact ⟨some _, rfl⟩
theorem zm_isI_of {v : Value} (h : zm_isI v = true) : ∃ x : Int32, v = .int x := by
  cases v <;> first | (simp [zm_isI] at h; done) | exact ⟨_, rfl⟩
theorem zm_isL_of {v : Value} (h : zm_isL v = true) : ∃ x : Int64, v = .long x := by
  cases v <;> first | (simp [zm_isL] at h; done) | exact ⟨_, rfl⟩
theorem zm_cat_rf (r : Option Nat) : (va_rf r).category = 1 := by cases r <;> rfl
/-! the stack alone -/
def zm_ii (st : List Value) (f : Int32 → Int32 → Int32) : Option (List Value) := match st with
  | .int y :: .int x :: r => some (.int (f x y) :: r)
  | _ => none
def zm_ll (st : List Value) (f : Int64 → Int64 → Value) : Option (List Value) := match st with
  | .long y :: .long x :: r => some (f x y :: r)
  | _ => none
def zm_li (st : List Value) (f : Int64 → Int32 → Int64) : Option (List Value) := match st with
  | .int y :: .long x :: r => some (.long (f x y) :: r)
  | _ => none
def zm_i1 (st : List Value) (f : Int32 → Value) : Option (List Value) := match st with
  | .int x :: r => some (f x :: r)
  | _ => none
def zm_l1 (st : List Value) (f : Int64 → Value) : Option (List Value) := match st with
  | .long x :: r => some (f x :: r)
  | _ => none
theorem zm_ii_of {st st' : List Value} {f : Int32 → Int32 → Int32} (h : zm_ii st f = some st') : ∃ x y r, st = .int y :: .int x :: r ∧ st' = .int (f x y) :: r := by
  unfold zm_ii at h
  split at h
  · exact ⟨_, _, _, rfl, (Option.some.inj h).symm⟩
  · cases h
theorem zm_ll_of {st st' : List Value} {f : Int64 → Int64 → Value} (h : zm_ll st f = some st') : ∃ x y r, st = .long y :: .long x :: r ∧ st' = f x y :: r := by
  unfold zm_ll at h
  split at h
  · exact ⟨_, _, _, rfl, (Option.some.inj h).symm⟩
  · cases h
theorem zm_li_of {st st' : List Value} {f : Int64 → Int32 → Int64} (h : zm_li st f = some st') : ∃ x y r, st = .int y :: .long x :: r ∧ st' = .long (f x y) :: r := by
  unfold zm_li at h
  split at h
  · exact ⟨_, _, _, rfl, (Option.some.inj h).symm⟩
  · cases h
theorem zm_i1_of {st st' : List Value} {f : Int32 → Value} (h : zm_i1 st f = some st') : ∃ x r, st = .int x :: r ∧ st' = f x :: r := by
  unfold zm_i1 at h
  split at h
  · exact ⟨_, _, rfl, (Option.some.inj h).symm⟩
  · cases h
theorem zm_l1_of {st st' : List Value} {f : Int64 → Value} (h : zm_l1 st f = some st') : ∃ x r, st = .long x :: r ∧ st' = f x :: r := by
  unfold zm_l1 at h
  split at h
  · exact ⟨_, _, rfl, (Option.some.inj h).symm⟩
  · cases h
def zm_div (st : List Value) (f : Int32 → Int32 → Int32) : Option (List Value) := match st with
  | .int y :: .int x :: r => if y = 0 then none else some (.int (f x y) :: r)
  | _ => none
theorem zm_div_of {st st' : List Value} {f : Int32 → Int32 → Int32} (h : zm_div st f = some st') : ∃ x y r, st = .int y :: .int x :: r ∧ ¬ y = 0 ∧ st' = .int (f x y) :: r := by
  unfold zm_div at h
  split at h
  · split at h
    · cases h
    · rename_i hy
      exact ⟨_, _, _, rfl, hy, (Option.some.inj h).symm⟩
  · cases h
/-- the top, of one word -/
def zm_d1 (st : List Value) (f : Value → List Value → List Value) : Option (List Value) := match st with
  | a :: r => if a.category = 1 then some (f a r) else none
  | _ => none
theorem zm_d1_of {st st' : List Value} {f : Value → List Value → List Value} (h : zm_d1 st f = some st') : ∃ a r, st = a :: r ∧ a.category = 1 ∧ st' = f a r := by
  unfold zm_d1 at h
  split at h
  · split at h
    · rename_i hy
      exact ⟨_, _, rfl, hy, (Option.some.inj h).symm⟩
    · cases h
  · cases h
def zm_d2 (st : List Value) (f : Value → Value → List Value → List Value) : Option (List Value) := match st with
  | a :: b :: r => if a.category = 1 ∧ b.category = 1 then some (f a b r) else none
  | _ => none
theorem zm_d2_of {st st' : List Value} {f : Value → Value → List Value → List Value} (h : zm_d2 st f = some st') : ∃ a b r, st = a :: b :: r ∧ a.category = 1 ∧ b.category = 1 ∧ st' = f a b r := by
  unfold zm_d2 at h
  split at h
  · split at h
    · rename_i hy
      exact ⟨_, _, _, rfl, hy.1, hy.2, (Option.some.inj h).symm⟩
    · cases h
  · cases h
def zm_d3 (st : List Value) (f : Value → Value → Value → List Value → List Value) : Option (List Value) := match st with
  | a :: b :: d :: r => if a.category = 1 ∧ b.category = 1 ∧ d.category = 1 then some (f a b d r) else none
  | _ => none
theorem zm_d3_of {st st' : List Value} {f : Value → Value → Value → List Value → List Value} (h : zm_d3 st f = some st') : ∃ a b d r, st = a :: b :: d :: r ∧ a.category = 1 ∧ b.category = 1 ∧ d.category = 1 ∧ st' = f a b d r := by
  unfold zm_d3 at h
  split at h
  · split at h
    · rename_i hy
      exact ⟨_, _, _, _, rfl, hy.1, hy.2.1, hy.2.2, (Option.some.inj h).symm⟩
    · cases h
  · cases h
def zm_pure (i : Instr) (st : List Value) : Option (List Value) := match i with
  | .iconst n => some (.int (Int32.ofInt n) :: st)
  | .bipush n => some (.int (Int8.ofInt n).toInt32 :: st)
  | .sipush n => some (.int (Int16.ofInt n).toInt32 :: st)
  | .lconst n => some (.long (Int64.ofNat (n : Nat)) :: st)
  | .aconst_null => some (.null :: st)
  | .iadd => zm_ii st (fun x y => x + y)
  | .isub => zm_ii st (fun x y => x - y)
  | .imul => zm_ii st (fun x y => x * y)
  | .iand => zm_ii st (fun x y => x &&& y)
  | .ior => zm_ii st (fun x y => x ||| y)
  | .ixor => zm_ii st (fun x y => x ^^^ y)
  | .ishl => zm_ii st (fun x y => x <<< (y &&& 31))
  | .ishr => zm_ii st (fun x y => x >>> (y &&& 31))
  | .iushr => zm_ii st (fun x y => (x.toUInt32 >>> (y.toUInt32 &&& Int32.toUInt32 31)).toInt32)
  | .idiv => zm_div st (fun x y => x / y)
  | .irem => zm_div st (fun x y => x - x / y * y)
  | .ineg => zm_i1 st (fun x => .int (-x))
  | .ladd => zm_ll st (fun x y => .long (x + y))
  | .lsub => zm_ll st (fun x y => .long (x - y))
  | .land => zm_ll st (fun x y => .long (x &&& y))
  | .lor => zm_ll st (fun x y => .long (x ||| y))
  | .lcmp => zm_ll st (fun x y => .int (lg_cmp x y))
  | .lushr => zm_li st (fun x y => (x.toUInt64 >>> (y.toInt64.toUInt64 &&& Int64.toUInt64 63)).toInt64)
  | .lshl => zm_li st (fun x y => x <<< (y.toInt64 &&& 63))
  | .lshr => zm_li st (fun x y => x >>> (y.toInt64 &&& 63))
  | .i2l => zm_i1 st (fun x => .long x.toInt64)
  | .i2c => zm_i1 st (fun x => .int (x.toUInt32 % 65536).toInt32)
  | .i2b => zm_i1 st (fun x => .int x.toInt8.toInt32)
  | .l2i => zm_l1 st (fun x => .int x.toInt32)
  | .dup => zm_d1 st (fun a r => a :: a :: r)
  | .pop => zm_d1 st (fun _ r => r)
  | .dup_x1 => zm_d2 st (fun a b r => a :: b :: a :: r)
  | .dup2 => zm_d2 st (fun a b r => a :: b :: a :: b :: r)
  | .dup_x2 => zm_d3 st (fun a b d r => a :: b :: d :: a :: r)
  | _ => none
/-- how long an instruction is -/
def zm_len (i : Instr) : Nat := match i with
  | .bipush _ => 2
  | .sipush _ => 3
  | .iload _ => 2
  | .lload _ => 2
  | .aload _ => 2
  | .istore _ => 2
  | .lstore _ => 2
  | .astore _ => 2
  | .iinc _ _ => 3
  | .goto _ => 3
  | .ifCond _ _ => 3
  | .if_icmp _ _ => 3
  | .if_acmp _ _ => 3
  | .ifnull _ => 3
  | .ifnonnull _ => 3
  | .getfield _ => 3
  | .putfield _ => 3
  | .getstatic _ => 3
  | .new _ => 3
  | .newarray _ => 2
  | .anewarray _ => 3
  | .checkcast _ => 3
  | .instanceof _ => 3
  | .ldc _ => 2
  | .ldc2_w _ => 3
  | .invokestatic _ => 3
  | .invokespecial _ => 3
  | .invokevirtual _ => 3
  | _ => 1
section ZP
variable {p : Program} {l : Launch} {e : Env} {R : Room} {s : State} {m : MethodId} {args : Array Value} {below : List Frame} {meth : Method} {c : Code} {H : Heap} {locs : List Loc} {cells slots : Nat} {Q : State → Prop}
variable {cc : ByteArray} {pc : Nat} {ls : Array Slot}
set_option maxHeartbeats 4000000 in
theorem zm_pure_ok (ad : Nat → Nat) (hexec : p.tables.exec = Jvm.exec) (hb : c.code = cc) {i : Instr} {st st' : List Value} (h : zm_pure i st = some st') (hdg : decode cc pc = .ok (i, zm_len i))
    (k : W p l e R s m args below meth c H locs cells slots Q (F0 m (pc + zm_len i) ls (st'.map (zm_sh ad)))) : W p l e R s m args below meth c H locs cells slots Q (F0 m pc ls (st.map (zm_sh ad))) := by
  unfold zm_pure at h
  split at h
  · cases h; exact lv_iconst hexec hb hdg rfl k
  · cases h; exact lv_bipush hexec hb hdg rfl k
  · cases h; exact lv_sipush hexec hb hdg rfl k
  · cases h; exact lv_lconst hexec hb hdg rfl k
  · cases h; exact lv_null hexec hb hdg k
  · obtain ⟨x, y, r, rfl, rfl⟩ := zm_ii_of h; exact lv_iadd hexec hb hdg k
  · obtain ⟨x, y, r, rfl, rfl⟩ := zm_ii_of h; exact lv_isub hexec hb hdg k
  · obtain ⟨x, y, r, rfl, rfl⟩ := zm_ii_of h; exact lv_imul hexec hb hdg k
  · obtain ⟨x, y, r, rfl, rfl⟩ := zm_ii_of h; exact lv_iand hexec hb hdg k
  · obtain ⟨x, y, r, rfl, rfl⟩ := zm_ii_of h; exact lv_ior hexec hb hdg k
  · obtain ⟨x, y, r, rfl, rfl⟩ := zm_ii_of h; exact lv_ixor hexec hb hdg k
  · obtain ⟨x, y, r, rfl, rfl⟩ := zm_ii_of h; exact lv_ishl hexec hb hdg k
  · obtain ⟨x, y, r, rfl, rfl⟩ := zm_ii_of h; exact lv_ishr hexec hb hdg k
  · obtain ⟨x, y, r, rfl, rfl⟩ := zm_ii_of h; exact lv_iushr hexec hb hdg rfl k
  · obtain ⟨x, y, r, rfl, hne, rfl⟩ := zm_div_of h; exact lv_idiv hexec hb hdg hne k
  · obtain ⟨x, y, r, rfl, hne, rfl⟩ := zm_div_of h; exact lv_irem hexec hb hdg hne k
  · obtain ⟨x, r, rfl, rfl⟩ := zm_i1_of h; exact lv_ineg hexec hb hdg k
  · obtain ⟨x, y, r, rfl, rfl⟩ := zm_ll_of h; exact lv_ladd hexec hb hdg k
  · obtain ⟨x, y, r, rfl, rfl⟩ := zm_ll_of h; exact lv_lsub hexec hb hdg k
  · obtain ⟨x, y, r, rfl, rfl⟩ := zm_ll_of h; exact lv_land hexec hb hdg k
  · obtain ⟨x, y, r, rfl, rfl⟩ := zm_ll_of h; exact lv_lor hexec hb hdg k
  · obtain ⟨x, y, r, rfl, rfl⟩ := zm_ll_of h; exact W.lcmp hexec hb hdg k
  · obtain ⟨x, y, r, rfl, rfl⟩ := zm_li_of h; exact lv_lushr hexec hb hdg rfl k
  · obtain ⟨x, y, r, rfl, rfl⟩ := zm_li_of h; exact lv_lshl hexec hb hdg rfl k
  · obtain ⟨x, y, r, rfl, rfl⟩ := zm_li_of h; exact lv_lshr hexec hb hdg rfl k
  · obtain ⟨x, r, rfl, rfl⟩ := zm_i1_of h; exact lv_i2l hexec hb hdg rfl k
  · obtain ⟨x, r, rfl, rfl⟩ := zm_i1_of h; exact lv_i2c hexec hb hdg rfl k
  · obtain ⟨x, r, rfl, rfl⟩ := zm_i1_of h; exact lv_i2b hexec hb hdg rfl k
  · obtain ⟨x, r, rfl, rfl⟩ := zm_l1_of h; exact lv_l2i hexec hb hdg rfl k
  · obtain ⟨a, r, rfl, ha, rfl⟩ := zm_d1_of h; exact lv_dup hexec hb hdg (by rw [zm_sh_cat]; exact ha) k
  · obtain ⟨a, r, rfl, ha, rfl⟩ := zm_d1_of h; exact lv_pop hexec hb hdg (by rw [zm_sh_cat]; exact ha) k
  · obtain ⟨a, b, r, rfl, ha, hb', rfl⟩ := zm_d2_of h; exact lv_dup_x1 hexec hb hdg (by rw [zm_sh_cat]; exact ha) (by rw [zm_sh_cat]; exact hb') k
  · obtain ⟨a, b, r, rfl, ha, hb', rfl⟩ := zm_d2_of h; exact lv_dup2_11 hexec hb hdg (by rw [zm_sh_cat]; exact ha) (by rw [zm_sh_cat]; exact hb') k
  · obtain ⟨a, b, d, r, rfl, ha, hb', hd', rfl⟩ := zm_d3_of h; exact lv_dup_x2 hexec hb hdg (by rw [zm_sh_cat]; exact ha) (by rw [zm_sh_cat]; exact hb') (by rw [zm_sh_cat]; exact hd') k
  · cases h
end ZP
/-! locals -/
def zm_get (lv : zm_L) (i : Nat) : Option Value := match lv with
  | [] => none
  | q :: r => if q.1 = i then some q.2 else zm_get r i
theorem zm_get_mem {lv : zm_L} {i : Nat} {v : Value} (h : zm_get lv i = some v) : (i, v) ∈ lv := by
  induction lv with
  | nil => cases h
  | cons q r ih =>
    unfold zm_get at h
    split at h
    · rename_i hq
      obtain ⟨a, b⟩ := q
      cases Option.some.inj h
      cases hq
      exact List.mem_cons_self
    · exact List.mem_cons_of_mem _ (ih h)
theorem zm_get_sh (ad : Nat → Nat) {lv : zm_L} {i : Nat} {v : Value} (h : zm_get lv i = some v) : zm_get (zm_shL ad lv) i = some (zm_sh ad v) := by
  induction lv with
  | nil => cases h
  | cons q r ih =>
    show (if q.1 = i then some (zm_sh ad q.2) else zm_get (zm_shL ad r) i) = _
    unfold zm_get at h
    split at h
    · rename_i hq
      rw [if_pos hq]
      cases Option.some.inj h
      rfl
    · rename_i hq
      rw [if_neg hq]
      exact ih h
theorem zm_get_ok {ls : Array Slot} {n : Nat} {lv : zm_L} {i : Nat} {v : Value} (hl : lv_has ls n lv) (h : zm_get lv i = some v) : ls[i]? = some (.val v) := hl.2.2 _ (zm_get_mem h)
/-- which local an instruction reads, and what it wants there: 0 an int, 1 a long, 2 a reference -/
def zm_ldi (i : Instr) : Option (Nat × Nat) := match i with
  | .iload_n n => some (0, (n : Nat))
  | .iload n => some (0, n)
  | .lload_n n => some (1, (n : Nat))
  | .lload n => some (1, n)
  | .aload_n n => some (2, (n : Nat))
  | .aload n => some (2, n)
  | _ => none
def zm_okv (k : Nat) (v : Value) : Bool := match k with
  | 0 => zm_isI v
  | 1 => zm_isL v
  | _ => zm_isR v
def zm_load (i : Instr) (lv : zm_L) : Option Value := match zm_ldi i with
  | some q => match zm_get lv q.2 with
    | some v => if zm_okv q.1 v = true then some v else none
    | none => none
  | none => none
theorem zm_load_of {i : Instr} {lv : zm_L} {v : Value} (h : zm_load i lv = some v) : ∃ k n, zm_ldi i = some (k, n) ∧ zm_get lv n = some v ∧ zm_okv k v = true := by
  unfold zm_load at h
  split at h
  · rename_i q hq
    split at h
    · rename_i w hw
      split at h
      · rename_i hk
        cases Option.some.inj h
        exact ⟨q.1, q.2, hq, hw, hk⟩
      · cases h
    · cases h
  · cases h
section ZL
variable {p : Program} {l : Launch} {e : Env} {R : Room} {s : State} {m : MethodId} {args : Array Value} {below : List Frame} {meth : Method} {c : Code} {H : Heap} {locs : List Loc} {cells slots : Nat} {Q : State → Prop}
variable {cc : ByteArray} {pc nL : Nat} {ls : Array Slot}
set_option maxHeartbeats 1000000 in
theorem zm_load_ok (ad : Nat → Nat) (hexec : p.tables.exec = Jvm.exec) (hb : c.code = cc) {i : Instr} {lv : zm_L} {st : List Value} {v : Value} (hl : lv_has ls nL (zm_shL ad lv)) (h : zm_load i lv = some v) (hdg : decode cc pc = .ok (i, zm_len i))
    (k : W p l e R s m args below meth c H locs cells slots Q (F0 m (pc + zm_len i) ls ((v :: st).map (zm_sh ad)))) : W p l e R s m args below meth c H locs cells slots Q (F0 m pc ls (st.map (zm_sh ad))) := by
  obtain ⟨kd, n, h1, h2, h3⟩ := zm_load_of h
  have h2 := zm_get_ok hl (zm_get_sh ad h2)
  unfold zm_ldi at h1
  split at h1
  · cases h1; obtain ⟨x, rfl⟩ := zm_isI_of h3; exact lv_iload_n hexec hb hdg rfl h2 k
  · cases h1; obtain ⟨x, rfl⟩ := zm_isI_of h3; exact lv_iload hexec hb hdg h2 k
  · cases h1; obtain ⟨x, rfl⟩ := zm_isL_of h3; exact lv_lload_n hexec hb hdg rfl h2 k
  · cases h1; obtain ⟨x, rfl⟩ := zm_isL_of h3; exact lv_lload hexec hb hdg h2 k
  · cases h1
    obtain ⟨r, rfl⟩ := zm_isR_of h3
    cases r with
    | none => exact lv_aload_nN hexec hb hdg rfl h2 k
    | some x => exact lv_aload_n hexec hb hdg rfl h2 k
  · cases h1
    obtain ⟨r, rfl⟩ := zm_isR_of h3
    cases r with
    | none => exact lv_aloadN hexec hb hdg h2 k
    | some x => exact lv_aload hexec hb hdg h2 k
  · cases h1
end ZL
def zm_sti (i : Instr) : Option (Nat × Nat) := match i with
  | .istore_n n => some (0, (n : Nat))
  | .istore n => some (0, n)
  | .lstore_n n => some (1, (n : Nat))
  | .lstore n => some (1, n)
  | .astore_n n => some (2, (n : Nat))
  | .astore n => some (2, n)
  | _ => none
def zm_set1 (lv : zm_L) (i : Nat) (v : Value) : zm_L := (i, v) :: lv.filter (fun q => !(q.1 == i) && !(q.1 + 1 == i && q.2.category == 2))
def zm_set2 (lv : zm_L) (i : Nat) (v : Value) : zm_L := (i, v) :: lv.filter (fun q => !(q.1 == i) && (!(q.1 == i + 1) && !(q.1 + 1 == i && q.2.category == 2)))
theorem zm_set1_sh (ad : Nat → Nat) (lv : zm_L) (i : Nat) (v : Value) : zm_shL ad (zm_set1 lv i v) = zm_set1 (zm_shL ad lv) i (zm_sh ad v) := by
  unfold zm_shL zm_set1
  rw [List.map_cons, List.filter_map]
  simp only [Function.comp_def, zm_sh_cat]
theorem zm_set2_sh (ad : Nat → Nat) (lv : zm_L) (i : Nat) (v : Value) : zm_shL ad (zm_set2 lv i v) = zm_set2 (zm_shL ad lv) i (zm_sh ad v) := by
  unfold zm_shL zm_set2
  rw [List.map_cons, List.filter_map]
  simp only [Function.comp_def, zm_sh_cat]
def zm_stor (nL : Nat) (i : Instr) (lv : zm_L) (st : List Value) : Option (zm_L × List Value) := match zm_sti i with
  | some q => match st with
    | v :: r => if zm_okv q.1 v = true ∧ q.2 + 1 < nL + (if q.1 = 1 then 0 else 1) then some (if q.1 = 1 then zm_set2 lv q.2 v else zm_set1 lv q.2 v, r) else none
    | [] => none
  | none => none
theorem zm_stor_of {nL : Nat} {i : Instr} {lv lv' : zm_L} {st st' : List Value} (h : zm_stor nL i lv st = some (lv', st')) : ∃ k n v, zm_sti i = some (k, n) ∧ st = v :: st' ∧ zm_okv k v = true ∧ n + 1 < nL + (if k = 1 then 0 else 1) ∧ lv' = (if k = 1 then zm_set2 lv n v else zm_set1 lv n v) := by
  unfold zm_stor at h
  split at h
  · rename_i q hq
    split at h
    · rename_i v r
      by_cases hk : zm_okv q.1 v = true ∧ q.2 + 1 < nL + (if q.1 = 1 then 0 else 1)
      · rw [if_pos hk] at h
        have e := Option.some.inj h
        cases e
        exact ⟨q.1, q.2, v, hq, rfl, hk.1, hk.2, rfl⟩
      · rw [if_neg hk] at h
        cases h
    · cases h
  · cases h
section ZS
variable {p : Program} {l : Launch} {e : Env} {R : Room} {s : State} {m : MethodId} {args : Array Value} {below : List Frame} {meth : Method} {c : Code} {H : Heap} {locs : List Loc} {cells slots : Nat} {Q : State → Prop}
variable {cc : ByteArray} {pc nL : Nat} {ls : Array Slot}
set_option maxHeartbeats 1000000 in
theorem zm_stor_ok (ad : Nat → Nat) (hexec : p.tables.exec = Jvm.exec) (hb : c.code = cc) {i : Instr} {lv lv' : zm_L} {st st' : List Value} (hl : lv_has ls nL (zm_shL ad lv)) (h : zm_stor nL i lv st = some (lv', st')) (hdg : decode cc pc = .ok (i, zm_len i))
    (kk : ∀ ls' : Array Slot, lv_has ls' nL (zm_shL ad lv') → W p l e R s m args below meth c H locs cells slots Q (F0 m (pc + zm_len i) ls' (st'.map (zm_sh ad)))) : W p l e R s m args below meth c H locs cells slots Q (F0 m pc ls (st.map (zm_sh ad))) := by
  obtain ⟨kd, n, v, h1, rfl, h3, h4, h5⟩ := zm_stor_of h
  unfold zm_sti at h1
  split at h1
  · cases h1; obtain ⟨x, rfl⟩ := zm_isI_of h3; exact lv_istore_n hexec hb hdg rfl hl (Nat.lt_of_succ_lt_succ h4) ((zm_set1_sh ad lv _ _).symm.trans (congrArg (zm_shL ad) h5.symm)) kk
  · cases h1; obtain ⟨x, rfl⟩ := zm_isI_of h3; exact lv_istore hexec hb hdg hl (Nat.lt_of_succ_lt_succ h4) ((zm_set1_sh ad lv _ _).symm.trans (congrArg (zm_shL ad) h5.symm)) kk
  · cases h1; obtain ⟨x, rfl⟩ := zm_isL_of h3; exact lv_lstore_n hexec hb hdg rfl hl h4 ((zm_set2_sh ad lv _ _).symm.trans (congrArg (zm_shL ad) h5.symm)) kk
  · cases h1; obtain ⟨x, rfl⟩ := zm_isL_of h3; exact lv_lstore hexec hb hdg hl h4 ((zm_set2_sh ad lv _ _).symm.trans (congrArg (zm_shL ad) h5.symm)) kk
  · cases h1
    obtain ⟨r, rfl⟩ := zm_isR_of h3
    cases r with
    | none => exact lv_astore_nN hexec hb hdg rfl hl (Nat.lt_of_succ_lt_succ h4) ((zm_set1_sh ad lv _ _).symm.trans (congrArg (zm_shL ad) h5.symm)) kk
    | some x => exact lv_astore_n hexec hb hdg rfl hl (Nat.lt_of_succ_lt_succ h4) ((zm_set1_sh ad lv _ _).symm.trans (congrArg (zm_shL ad) h5.symm)) kk
  · cases h1
    obtain ⟨r, rfl⟩ := zm_isR_of h3
    cases r with
    | none => exact lv_astoreN hexec hb hdg hl (Nat.lt_of_succ_lt_succ h4) ((zm_set1_sh ad lv _ _).symm.trans (congrArg (zm_shL ad) h5.symm)) kk
    | some x => exact lv_astore hexec hb hdg hl (Nat.lt_of_succ_lt_succ h4) ((zm_set1_sh ad lv _ _).symm.trans (congrArg (zm_shL ad) h5.symm)) kk
  · cases h1
end ZS
/-! iinc -/
def zm_inc (nL : Nat) (i : Instr) (lv : zm_L) : Option zm_L := match i with
  | .iinc j n => match zm_get lv j with
    | some (.int x) => if j < nL then some (zm_set1 lv j (.int (x + Int32.ofInt n))) else none
    | _ => none
  | _ => none
theorem zm_inc_of {nL : Nat} {i : Instr} {lv lv' : zm_L} (h : zm_inc nL i lv = some lv') : ∃ j n x, i = .iinc j n ∧ zm_get lv j = some (.int x) ∧ j < nL ∧ lv' = zm_set1 lv j (.int (x + Int32.ofInt n)) := by
  unfold zm_inc at h
  split at h
  · split at h
    · rename_i x hx
      split at h
      · rename_i hj
        exact ⟨_, _, x, rfl, hx, hj, (Option.some.inj h).symm⟩
      · cases h
    · cases h
  · cases h
section ZC
variable {p : Program} {l : Launch} {e : Env} {R : Room} {s : State} {m : MethodId} {args : Array Value} {below : List Frame} {meth : Method} {c : Code} {H : Heap} {locs : List Loc} {cells slots : Nat} {Q : State → Prop}
variable {cc : ByteArray} {pc nL : Nat} {ls : Array Slot}
theorem zm_inc_ok (ad : Nat → Nat) (hexec : p.tables.exec = Jvm.exec) (hb : c.code = cc) {i : Instr} {lv lv' : zm_L} {st : List Value} (hl : lv_has ls nL (zm_shL ad lv)) (h : zm_inc nL i lv = some lv') (hdg : decode cc pc = .ok (i, zm_len i))
    (kk : ∀ ls' : Array Slot, lv_has ls' nL (zm_shL ad lv') → W p l e R s m args below meth c H locs cells slots Q (F0 m (pc + zm_len i) ls' st)) : W p l e R s m args below meth c H locs cells slots Q (F0 m pc ls st) := by
  obtain ⟨j, n, x, rfl, h2, h3, h4⟩ := zm_inc_of h
  obtain ⟨k, hk⟩ := List.getElem?_of_mem (zm_get_mem (zm_get_sh ad h2))
  exact lv_iinc hexec hb hdg hl hk rfl h3 ((zm_set1_sh ad lv _ _).symm.trans (congrArg (zm_shL ad) h4.symm)) kk
end ZC
/-! branches -/
def zm_tgt (pc : Nat) (o : Int) : Option Nat := if 0 ≤ (pc : Int) + o then some ((pc : Int) + o).toNat else none
theorem zm_tgt_of {pc t : Nat} {o : Int} (h : zm_tgt pc o = some t) : (pc : Int) + o = (t : Int) := by
  unfold zm_tgt at h
  split at h
  · cases Option.some.inj h
    omega
  · cases h
def zm_b1 (st : List Value) (f : Int32 → Nat) : Option (Nat × List Value) := match st with
  | .int x :: r => some (f x, r)
  | _ => none
def zm_b2 (st : List Value) (f : Int32 → Int32 → Nat) : Option (Nat × List Value) := match st with
  | .int y :: .int x :: r => some (f x y, r)
  | _ => none
def zm_bn (st : List Value) (a b : Nat) : Option (Nat × List Value) := match st with
  | .null :: r => some (a, r)
  | .ref _ :: r => some (b, r)
  | _ => none
/-- two references: old cells are told apart from new ones alone -/
def zm_ba (no : Nat) (st : List Value) (a b : Nat) : Option (Nat × List Value) := match st with
  | .ref y :: .ref x :: r => if x = y then some (a, r) else if no ≤ x ∨ no ≤ y then some (b, r) else none
  | .null :: .null :: r => some (a, r)
  | .null :: .ref _ :: r => some (b, r)
  | .ref _ :: .null :: r => some (b, r)
  | _ => none
def zm_br0 (no : Nat) (i : Instr) (t pc : Nat) (st : List Value) : Option (Nat × List Value) := match i with
  | .goto _ => some (t, st)
  | .ifCond .eq _ => zm_b1 st (fun x => if x = 0 then t else pc + 3)
  | .ifCond .ne _ => zm_b1 st (fun x => if x = 0 then pc + 3 else t)
  | .ifCond .lt _ => zm_b1 st (fun x => if x < 0 then t else pc + 3)
  | .ifCond .ge _ => zm_b1 st (fun x => if 0 ≤ x then t else pc + 3)
  | .ifCond .gt _ => zm_b1 st (fun x => if 0 < x then t else pc + 3)
  | .ifCond .le _ => zm_b1 st (fun x => if x ≤ 0 then t else pc + 3)
  | .if_icmp .eq _ => zm_b2 st (fun x y => if x = y then t else pc + 3)
  | .if_icmp .ne _ => zm_b2 st (fun x y => if x = y then pc + 3 else t)
  | .if_icmp .lt _ => zm_b2 st (fun x y => if x < y then t else pc + 3)
  | .if_icmp .ge _ => zm_b2 st (fun x y => if y ≤ x then t else pc + 3)
  | .if_icmp .gt _ => zm_b2 st (fun x y => if y < x then t else pc + 3)
  | .if_icmp .le _ => zm_b2 st (fun x y => if x ≤ y then t else pc + 3)
  | .ifnull _ => zm_bn st t (pc + 3)
  | .ifnonnull _ => zm_bn st (pc + 3) t
  | .if_acmp .eq _ => zm_ba no st t (pc + 3)
  | .if_acmp .ne _ => zm_ba no st (pc + 3) t
  | _ => none
theorem zm_b1_of {st st' : List Value} {f : Int32 → Nat} {q : Nat} (h : zm_b1 st f = some (q, st')) : ∃ x, st = .int x :: st' ∧ q = f x := by
  unfold zm_b1 at h
  split at h
  · cases Option.some.inj h; exact ⟨_, rfl, rfl⟩
  · cases h
theorem zm_b2_of {st st' : List Value} {f : Int32 → Int32 → Nat} {q : Nat} (h : zm_b2 st f = some (q, st')) : ∃ x y, st = .int y :: .int x :: st' ∧ q = f x y := by
  unfold zm_b2 at h
  split at h
  · cases Option.some.inj h; exact ⟨_, _, rfl, rfl⟩
  · cases h
theorem zm_bn_of {st st' : List Value} {a b q : Nat} (h : zm_bn st a b = some (q, st')) : (st = .null :: st' ∧ q = a) ∨ ∃ x, st = .ref x :: st' ∧ q = b := by
  unfold zm_bn at h
  split at h
  · cases Option.some.inj h; exact Or.inl ⟨rfl, rfl⟩
  · cases Option.some.inj h; exact Or.inr ⟨_, rfl, rfl⟩
  · cases h
def zm_inj (no : Nat) (ad : Nat → Nat) : Prop := ∀ x y, x ≠ y → (no ≤ x ∨ no ≤ y) → ad x ≠ ad y
theorem zm_ba_of {no : Nat} {ad : Nat → Nat} (hi : zm_inj no ad) {st st' : List Value} {a b q : Nat} (h : zm_ba no st a b = some (q, st')) : ∃ rx ry : Option Nat, st.map (zm_sh ad) = va_rf ry :: va_rf rx :: st'.map (zm_sh ad) ∧ q = if rx = ry then a else b := by
  unfold zm_ba at h
  split at h
  · rename_i y x r
    split at h
    · rename_i hxy
      subst hxy
      cases Option.some.inj h
      exact ⟨some (ad x), some (ad x), rfl, (if_pos rfl).symm⟩
    · rename_i hxy
      split at h
      · rename_i ho
        cases Option.some.inj h
        exact ⟨some (ad x), some (ad y), rfl, (if_neg fun z => hi x y hxy ho (Option.some.inj z)).symm⟩
      · cases h
  · cases Option.some.inj h; exact ⟨none, none, rfl, (if_pos rfl).symm⟩
  · rename_i x r; cases Option.some.inj h; exact ⟨some (ad x), none, rfl, (if_neg fun z => by cases z).symm⟩
  · rename_i x r; cases Option.some.inj h; exact ⟨none, some (ad x), rfl, (if_neg fun z => by cases z).symm⟩
  · cases h
/-- the offset of a jump -/
def zm_off (i : Instr) : Option Int := match i with
  | .goto o => some o
  | .ifCond _ o => some o
  | .if_icmp _ o => some o
  | .if_acmp _ o => some o
  | .ifnull o => some o
  | .ifnonnull o => some o
  | _ => none
def zm_toff (dflt lo hi : Int) (offs : Array Int) (x : Int32) : Option Int := if x.toInt < lo ∨ hi < x.toInt then some dflt else offs[(x.toInt - lo).toNat]?
def zm_loff (dflt : Int) (ps : Array (Int × Int)) (x : Int32) : Option Int := if (ps.toList.zip (ps.toList.drop 1)).all (fun (a, next) => a.1 < next.1) = true then some (Op.lookupswitch.offset ps.toList dflt x.toInt) else none
def zm_sw (st : List Value) (pc : Nat) (f : Int32 → Option Int) : Option (Nat × List Value) := match st with
  | .int x :: r => match f x with
    | some o => match zm_tgt pc o with
      | some t => some (t, r)
      | none => none
    | none => none
  | _ => none
theorem zm_sw_of {st st' : List Value} {pc q : Nat} {f : Int32 → Option Int} (h : zm_sw st pc f = some (q, st')) : ∃ x o, st = .int x :: st' ∧ f x = some o ∧ (pc : Int) + o = (q : Int) := by
  unfold zm_sw at h
  split at h
  · rename_i x r
    split at h
    · rename_i o ho
      split at h
      · rename_i t ht
        cases Option.some.inj h
        exact ⟨x, o, rfl, ho, zm_tgt_of ht⟩
      · cases h
    · cases h
  · cases h
def zm_br (no : Nat) (i : Instr) (pc : Nat) (st : List Value) : Option (Nat × List Value) := match i with
  | .tableswitch dflt lo hi offs => zm_sw st pc (zm_toff dflt lo hi offs)
  | .lookupswitch dflt ps => zm_sw st pc (zm_loff dflt ps)
  | i => match zm_off i with
    | some o => match zm_tgt pc o with
      | some t => zm_br0 no i t pc st
      | none => none
    | none => none
section ZB
variable {p : Program} {l : Launch} {e : Env} {R : Room} {s : State} {m : MethodId} {args : Array Value} {below : List Frame} {meth : Method} {c : Code} {H : Heap} {locs : List Loc} {cells slots : Nat} {Q : State → Prop}
variable {cc : ByteArray} {pc t no : Nat} {ls : Array Slot}
set_option maxHeartbeats 4000000 in
theorem zm_br0_ok (ad : Nat → Nat) (hi : zm_inj no ad) (hexec : p.tables.exec = Jvm.exec) (hb : c.code = cc) {i : Instr} {st st' : List Value} {q : Nat} (h : zm_br0 no i t pc st = some (q, st')) (ht : ∀ o, zm_off i = some o → (pc : Int) + o = (t : Int)) (hdg : decode cc pc = .ok (i, zm_len i))
    (k : W p l e R s m args below meth c H locs cells slots Q (F0 m q ls (st'.map (zm_sh ad)))) : W p l e R s m args below meth c H locs cells slots Q (F0 m pc ls (st.map (zm_sh ad))) := by
  unfold zm_br0 at h
  split at h
  · cases h; exact lv_goto hexec hb hdg (ht _ rfl) k
  · obtain ⟨x, rfl, rfl⟩ := zm_b1_of h; exact lv_if_eq hexec hb hdg (ht _ rfl) (fun z => by rw [if_pos z] at k; exact k) (fun z => by rw [if_neg z] at k; exact k)
  · obtain ⟨x, rfl, rfl⟩ := zm_b1_of h; exact lv_if_ne hexec hb hdg (ht _ rfl) (fun z => by rw [if_neg z] at k; exact k) (fun z => by rw [if_pos z] at k; exact k)
  · obtain ⟨x, rfl, rfl⟩ := zm_b1_of h; exact lv_if_lt hexec hb hdg (ht _ rfl) (fun z => by rw [if_pos z] at k; exact k) (fun z => by rw [if_neg z] at k; exact k)
  · obtain ⟨x, rfl, rfl⟩ := zm_b1_of h; exact lv_if_ge hexec hb hdg (ht _ rfl) (fun z => by rw [if_pos z] at k; exact k) (fun z => by rw [if_neg z] at k; exact k)
  · obtain ⟨x, rfl, rfl⟩ := zm_b1_of h; exact lv_if_gt hexec hb hdg (ht _ rfl) (fun z => by rw [if_pos z] at k; exact k) (fun z => by rw [if_neg z] at k; exact k)
  · obtain ⟨x, rfl, rfl⟩ := zm_b1_of h; exact lv_if_le hexec hb hdg (ht _ rfl) (fun z => by rw [if_pos z] at k; exact k) (fun z => by rw [if_neg z] at k; exact k)
  · obtain ⟨x, y, rfl, rfl⟩ := zm_b2_of h; exact lv_icmp_eq hexec hb hdg (ht _ rfl) (fun z => by rw [if_pos z] at k; exact k) (fun z => by rw [if_neg z] at k; exact k)
  · obtain ⟨x, y, rfl, rfl⟩ := zm_b2_of h; exact lv_icmp_ne hexec hb hdg (ht _ rfl) (fun z => by rw [if_neg z] at k; exact k) (fun z => by rw [if_pos z] at k; exact k)
  · obtain ⟨x, y, rfl, rfl⟩ := zm_b2_of h; exact lv_icmp_lt hexec hb hdg (ht _ rfl) (fun z => by rw [if_pos z] at k; exact k) (fun z => by rw [if_neg z] at k; exact k)
  · obtain ⟨x, y, rfl, rfl⟩ := zm_b2_of h; exact lv_icmp_ge hexec hb hdg (ht _ rfl) (fun z => by rw [if_pos z] at k; exact k) (fun z => by rw [if_neg z] at k; exact k)
  · obtain ⟨x, y, rfl, rfl⟩ := zm_b2_of h; exact lv_icmp_gt hexec hb hdg (ht _ rfl) (fun z => by rw [if_pos z] at k; exact k) (fun z => by rw [if_neg z] at k; exact k)
  · obtain ⟨x, y, rfl, rfl⟩ := zm_b2_of h; exact lv_icmp_le hexec hb hdg (ht _ rfl) (fun z => by rw [if_pos z] at k; exact k) (fun z => by rw [if_neg z] at k; exact k)
  · rcases zm_bn_of h with ⟨rfl, rfl⟩ | ⟨x, rfl, rfl⟩
    · exact lv_ifnullN hexec hb hdg (ht _ rfl) k
    · exact lv_ifnull hexec hb hdg k
  · rcases zm_bn_of h with ⟨rfl, rfl⟩ | ⟨x, rfl, rfl⟩
    · exact lv_ifnonnullN hexec hb hdg k
    · exact lv_ifnonnull hexec hb hdg (ht _ rfl) k
  · obtain ⟨rx, ry, e1, rfl⟩ := zm_ba_of hi h; rw [e1]; exact lv_acmp_eq hexec hb hdg (ht _ rfl) (fun z => by rw [if_pos z] at k; exact k) (fun z => by rw [if_neg z] at k; exact k)
  · obtain ⟨rx, ry, e1, rfl⟩ := zm_ba_of hi h; rw [e1]; exact lv_acmp_ne hexec hb hdg (ht _ rfl) (fun z => by rw [if_neg z] at k; exact k) (fun z => by rw [if_pos z] at k; exact k)
  · cases h
theorem zm_br_ok (ad : Nat → Nat) (hi : zm_inj no ad) (hexec : p.tables.exec = Jvm.exec) (hb : c.code = cc) {i : Instr} {st st' : List Value} {q len : Nat} (h : zm_br no i pc st = some (q, st')) (hdg : decode cc pc = .ok (i, len)) (hlen : (zm_off i).isSome = true → len = zm_len i)
    (k : W p l e R s m args below meth c H locs cells slots Q (F0 m q ls (st'.map (zm_sh ad)))) : W p l e R s m args below meth c H locs cells slots Q (F0 m pc ls (st.map (zm_sh ad))) := by
  unfold zm_br at h
  split at h
  · obtain ⟨x, o, rfl, h1, h2⟩ := zm_sw_of h
    unfold zm_toff at h1
    split at h1
    · rename_i hx
      cases Option.some.inj h1
      exact lv_tableOut hexec hb hdg hx h2 k
    · rename_i hx
      exact lv_tableIn hexec hb hdg (fun z => hx (Or.inl z)) (fun z => hx (Or.inr z)) h1 h2 k
  · obtain ⟨x, o, rfl, h1, h2⟩ := zm_sw_of h
    unfold zm_loff at h1
    split at h1
    · rename_i hx
      exact lv_lookup hexec hb hdg hx (Option.some.inj h1) h2 k
    · cases h1
  · split at h
    · rename_i o ho
      split at h
      · rename_i t ht
        have hz := hlen (by rw [ho]; rfl)
        subst hz
        exact zm_br0_ok ad hi hexec hb h (fun o' ho' => by rw [ho] at ho'; cases Option.some.inj ho'; exact zm_tgt_of ht) hdg k
      · cases h
    · cases h
end ZB

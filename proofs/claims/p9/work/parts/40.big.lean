/-! A RUN OF A GIVEN SCRIPT IN ONE FUNCTION: the small machine with its calls, throws and catches; what it answers is what zm_J says. Laid by wip/gen/refute.py -/
abbrev zq_E : Type := Nat × Nat × Nat × Nat × Nat × Nat × Nat
/-- a row: method, pc, kind (0 static, 1 constructor, 2 virtual, 3 Object's constructor, 4 a throw), index, what is called or thrown, how many arguments, the receiver's kind -/
def zq_P (e : zq_E) : Prop :=
  (e.2.2.1 = 0 → decode (zm_by e.1) e.2.1 = .ok (.invokestatic e.2.2.2.1, 3) ∧ zm_okS e.1 e.2.2.2.1 e.2.2.2.2.1 e.2.2.2.2.2.1) ∧
  (e.2.2.1 = 1 → decode (zm_by e.1) e.2.1 = .ok (.invokespecial e.2.2.2.1, 3) ∧ zm_okI e.1 e.2.2.2.1 e.2.2.2.2.1 e.2.2.2.2.2.1) ∧
  (e.2.2.1 = 2 → decode (zm_by e.1) e.2.1 = .ok (.invokevirtual e.2.2.2.1, 3) ∧ zm_okV e.1 e.2.2.2.1 e.2.2.2.2.1 e.2.2.2.2.2.1 e.2.2.2.2.2.2) ∧
  (e.2.2.1 = 3 → decode (zm_by e.1) e.2.1 = .ok (.invokespecial e.2.2.2.1, 3) ∧ zm_okO e.1 e.2.2.2.1) ∧
  (e.2.2.1 = 4 → zm_okx e.1 e.2.1 e.2.2.2.2.1)
section ZQ0
variable {mi pc idx mj n x : Nat}
theorem zq_P0 (h1 : decode (zm_by mi) pc = .ok (.invokestatic idx, 3)) (h2 : zm_okS mi idx mj n) : zq_P (mi, pc, 0, idx, mj, n, x) :=
  ⟨fun _ => ⟨h1, h2⟩, fun h => absurd (show (0 : Nat) = 1 from h) (by decide), fun h => absurd (show (0 : Nat) = 2 from h) (by decide), fun h => absurd (show (0 : Nat) = 3 from h) (by decide), fun h => absurd (show (0 : Nat) = 4 from h) (by decide)⟩
theorem zq_P1 (h1 : decode (zm_by mi) pc = .ok (.invokespecial idx, 3)) (h2 : zm_okI mi idx mj n) : zq_P (mi, pc, 1, idx, mj, n, x) :=
  ⟨fun h => absurd (show (1 : Nat) = 0 from h) (by decide), fun _ => ⟨h1, h2⟩, fun h => absurd (show (1 : Nat) = 2 from h) (by decide), fun h => absurd (show (1 : Nat) = 3 from h) (by decide), fun h => absurd (show (1 : Nat) = 4 from h) (by decide)⟩
theorem zq_P2 (h1 : decode (zm_by mi) pc = .ok (.invokevirtual idx, 3)) (h2 : zm_okV mi idx mj n x) : zq_P (mi, pc, 2, idx, mj, n, x) :=
  ⟨fun h => absurd (show (2 : Nat) = 0 from h) (by decide), fun h => absurd (show (2 : Nat) = 1 from h) (by decide), fun _ => ⟨h1, h2⟩, fun h => absurd (show (2 : Nat) = 3 from h) (by decide), fun h => absurd (show (2 : Nat) = 4 from h) (by decide)⟩
theorem zq_P3 (h1 : decode (zm_by mi) pc = .ok (.invokespecial idx, 3)) (h2 : zm_okO mi idx) : zq_P (mi, pc, 3, idx, mj, n, x) :=
  ⟨fun h => absurd (show (3 : Nat) = 0 from h) (by decide), fun h => absurd (show (3 : Nat) = 1 from h) (by decide), fun h => absurd (show (3 : Nat) = 2 from h) (by decide), fun _ => ⟨h1, h2⟩, fun h => absurd (show (3 : Nat) = 4 from h) (by decide)⟩
theorem zq_P4 (h1 : zm_okx mi pc mj) : zq_P (mi, pc, 4, idx, mj, n, x) :=
  ⟨fun h => absurd (show (4 : Nat) = 0 from h) (by decide), fun h => absurd (show (4 : Nat) = 1 from h) (by decide), fun h => absurd (show (4 : Nat) = 2 from h) (by decide), fun h => absurd (show (4 : Nat) = 3 from h) (by decide), fun _ => h1⟩
end ZQ0
def zq_fd (mi pc : Nat) : List zq_E → Option zq_E
  | [] => none
  | e :: r => cond (Nat.beq e.1 mi && Nat.beq e.2.1 pc) (some e) (zq_fd mi pc r)
theorem zq_fd_ok {mi pc : Nat} {e : zq_E} {L : List zq_E} (h : zq_fd mi pc L = some e) : e ∈ L ∧ e.1 = mi ∧ e.2.1 = pc := by
  induction L with
  | nil => cases h
  | cons y r ih =>
    have h' : cond (Nat.beq y.1 mi && Nat.beq y.2.1 pc) (some y) (zq_fd mi pc r) = some e := h
    cases hc : (Nat.beq y.1 mi && Nat.beq y.2.1 pc) with
    | true =>
      rw [hc] at h'
      have h2 : some y = some e := h'
      cases Option.some.inj h2
      rw [Bool.and_eq_true] at hc
      exact ⟨List.mem_cons_self, Nat.eq_of_beq_eq_true hc.1, Nat.eq_of_beq_eq_true hc.2⟩
    | false =>
      rw [hc] at h'
      obtain ⟨h1, h2⟩ := ih h'
      exact ⟨List.mem_cons_of_mem _ h1, h2⟩
def zq_fc (mi pc xk : Nat) : List (Nat × Nat × Nat × Nat) → Option Nat
  | [] => none
  | e :: r => cond (Nat.beq e.1 mi && (Nat.beq e.2.1 pc && Nat.beq e.2.2.1 xk)) (some e.2.2.2) (zq_fc mi pc xk r)
theorem zq_fc_ok {mi pc xk h : Nat} {L : List (Nat × Nat × Nat × Nat)} (hL : ∀ e ∈ L, zm_cat e.1 e.2.1 e.2.2.1 e.2.2.2) (hf : zq_fc mi pc xk L = some h) : zm_cat mi pc xk h := by
  induction L with
  | nil => cases hf
  | cons y r ih =>
    have h' : cond (Nat.beq y.1 mi && (Nat.beq y.2.1 pc && Nat.beq y.2.2.1 xk)) (some y.2.2.2) (zq_fc mi pc xk r) = some h := hf
    cases hc : (Nat.beq y.1 mi && (Nat.beq y.2.1 pc && Nat.beq y.2.2.1 xk)) with
    | true =>
      rw [hc] at h'
      have h2 : some y.2.2.2 = some h := h'
      have hy := hL y List.mem_cons_self
      rw [Bool.and_eq_true, Bool.and_eq_true] at hc
      rw [Nat.eq_of_beq_eq_true hc.1, Nat.eq_of_beq_eq_true hc.2.1, Nat.eq_of_beq_eq_true hc.2.2, Option.some.inj h2] at hy
      exact hy
    | false =>
      rw [hc] at h'
      exact ih (fun e he => hL e (List.mem_cons_of_mem _ he)) h'
theorem zq_cond {α : Type} {b : Bool} {x y : α} (h : cond b (some x) none = some y) : b = true ∧ x = y := by
  cases b with
  | true => exact ⟨rfl, Option.some.inj h⟩
  | false => cases h
def zq_sum (r : List Value) : Nat := (r.map fun v => v.category).sum
def zq_chk (av r : List Value) (mj : Nat) (G : zm_H) : Bool := Nat.ble (zq_sum r + (zm_nl mj + 11)) zm_w && (Nat.ble (lg_sl av).length (zm_nl mj) && (Nat.ble G.1.length zm_C && Nat.ble G.2 zm_S))
theorem zq_chk_ok {av r : List Value} {mj : Nat} {G : zm_H} (h : zq_chk av r mj G = true) : (r.map fun v => v.category).sum + (zm_nl mj + 11) ≤ zm_w ∧ (lg_sl av).length ≤ zm_nl mj ∧ G.1.length ≤ zm_C ∧ G.2 ≤ zm_S := by
  unfold zq_chk at h
  rw [Bool.and_eq_true, Bool.and_eq_true, Bool.and_eq_true] at h
  exact ⟨Nat.le_of_ble_eq_true h.1, Nat.le_of_ble_eq_true h.2.1, Nat.le_of_ble_eq_true h.2.2.1, Nat.le_of_ble_eq_true h.2.2.2⟩
/-- Object's constructor: what is left on the stack -/
def zq_o (e : zq_E) (d : Nat) (st : List Value) : Option (List Value) := match st with
  | .ref _ :: r => cond (Nat.beq e.2.2.1 3 && (Nat.ble 1 d && Nat.ble (zq_sum r + 12) zm_w)) (some r) none
  | _ => none
/-- a throw -/
def zq_t (e : zq_E) (d : Nat) (st : List Value) (G : zm_H) : Option (zm_O × zm_H) :=
  cond (Nat.beq e.2.2.1 4 && (Nat.ble 7 d && (Nat.ble (zq_sum st + 95) (zm_w * 7) && zm_room G 6))) (some (.inr (e.2.2.2.2.1, G.1.length), zm_new G (.inr (zm_cl.length, [])) 6)) none
/-- a call: its arguments, what is left on the stack -/
def zq_pS (e : zq_E) (st : List Value) (G : zm_H) : Option (List Value × List Value) :=
  cond (Nat.beq e.2.2.1 0 && (Nat.ble e.2.2.2.2.2.1 st.length && zq_chk (st.take e.2.2.2.2.2.1).reverse (st.drop e.2.2.2.2.2.1) e.2.2.2.2.1 G)) (some ((st.take e.2.2.2.2.2.1).reverse, st.drop e.2.2.2.2.2.1)) none
def zq_pI (e : zq_E) (st : List Value) (G : zm_H) : Option (List Value × List Value) := match st.drop e.2.2.2.2.2.1 with
  | .ref a :: r => cond (Nat.beq e.2.2.1 1 && (Nat.ble e.2.2.2.2.2.1 st.length && zq_chk (.ref a :: (st.take e.2.2.2.2.2.1).reverse) r e.2.2.2.2.1 G)) (some (.ref a :: (st.take e.2.2.2.2.2.1).reverse, r)) none
  | _ => none
def zq_pV (e : zq_E) (st : List Value) (G : zm_H) : Option (List Value × List Value) := match st.drop e.2.2.2.2.2.1 with
  | .ref a :: r => match G.1[a]? with
    | some (.inr y) => cond (Nat.beq e.2.2.1 2 && (Nat.beq y.1 e.2.2.2.2.2.2 && (Nat.ble e.2.2.2.2.2.1 st.length && zq_chk (.ref a :: (st.take e.2.2.2.2.2.1).reverse) r e.2.2.2.2.1 G))) (some (.ref a :: (st.take e.2.2.2.2.2.1).reverse, r)) none
    | _ => none
  | _ => none
def zq_pl (e : zq_E) (d : Nat) (st : List Value) (G : zm_H) : Option (List Value × List Value) :=
  cond (Nat.ble 1 d) (cond (Nat.beq e.2.2.1 0) (zq_pS e st G) (cond (Nat.beq e.2.2.1 1) (zq_pI e st G) (zq_pV e st G))) none
/-- a return -/
def zq_rt (mi pc : Nat) (st : List Value) (G : zm_H) : Option (zm_O × zm_H) := match zm_cd mi pc with
  | some q => match zm_ret q.1 (zm_rt mi) st with
    | some v => some (.inl v, G)
    | none => none
  | none => none
section ZQ1
variable {N : zm_N} {d mi pc : Nat} {lv : zm_L} {st : List Value} {G : zm_H} {Q Q1 : zm_O → zm_H → Prop} {e : zq_E}
theorem zq_rt_ok {z : zm_O} {G' : zm_H} (h : zq_rt mi pc st G = some (z, G')) : zm_J N d mi pc lv st G (fun z1 G1 => z1 = z ∧ G1 = G') := by
  unfold zq_rt at h
  split at h
  · rename_i q hq
    split at h
    · rename_i v hv
      cases Option.some.inj h
      exact zm_J_fin zm_T hq hv ⟨rfl, rfl⟩
    · cases h
  · cases h
theorem zq_o_ok (hP : zq_P e) (h1 : e.1 = mi) (h2 : e.2.1 = pc) {r : List Value} (h : zq_o e d st = some r) (k : zm_J N d mi (pc + 3) lv r G Q) : zm_J N d mi pc lv st G Q := by
  subst h1
  subst h2
  unfold zq_o at h
  split at h
  · obtain ⟨hb, rfl⟩ := zq_cond h
    rw [Bool.and_eq_true, Bool.and_eq_true] at hb
    obtain ⟨d, rfl⟩ : ∃ y, d = y + 1 := ⟨d - 1, by have := Nat.le_of_ble_eq_true hb.2.1; omega⟩
    obtain ⟨hd, hok⟩ := hP.2.2.2.1 (Nat.eq_of_beq_eq_true hb.1)
    exact zm_J_O hd hok (Nat.le_of_ble_eq_true hb.2.2) k
  · cases h
theorem zq_t_ok (hP : zq_P e) (h1 : e.1 = mi) (h2 : e.2.1 = pc) {z : zm_O} {G' : zm_H} (h : zq_t e d st G = some (z, G')) : zm_J N d mi pc lv st G (fun z1 G1 => z1 = z ∧ G1 = G') := by
  subst h1
  subst h2
  unfold zq_t at h
  obtain ⟨hb, hx⟩ := zq_cond h
  rw [Bool.and_eq_true, Bool.and_eq_true, Bool.and_eq_true] at hb
  cases hx
  exact zm_J_throw (hP.2.2.2.2 (Nat.eq_of_beq_eq_true hb.1)) (Nat.le_of_ble_eq_true hb.2.1) (Nat.le_of_ble_eq_true hb.2.2.1) hb.2.2.2 ⟨rfl, rfl⟩
theorem zq_pl_ok (hP : zq_P e) (h1 : e.1 = mi) (h2 : e.2.1 = pc) {av r : List Value} (h : zq_pl e d st G = some (av, r)) (hJ : zm_J N (d - 1) e.2.2.2.2.1 0 (lv_args 0 av) [] G Q1)
    (kr : ∀ v G', Q1 (.inl v) G' → zm_J N d mi (pc + 3) lv (v.toList ++ r) G' Q) (kt : ∀ x G', Q1 (.inr x) G' → (zm_out mi pc ∧ Q (.inr x) G') ∨ ∃ h, zm_cat mi pc x.1 h ∧ zm_J N d mi h lv [.ref x.2] G' Q) : zm_J N d mi pc lv st G Q := by
  subst h1
  subst h2
  obtain ⟨mi, pc, k, idx, mj, n, x⟩ := e
  unfold zq_pl at h
  cases hd : Nat.ble 1 d with
  | false => rw [hd] at h; cases h
  | true =>
  rw [hd] at h
  have h : cond (Nat.beq k 0) (zq_pS (mi, pc, k, idx, mj, n, x) st G) (cond (Nat.beq k 1) (zq_pI (mi, pc, k, idx, mj, n, x) st G) (zq_pV (mi, pc, k, idx, mj, n, x) st G)) = some (av, r) := h
  obtain ⟨d, rfl⟩ : ∃ y, d = y + 1 := ⟨d - 1, by have := Nat.le_of_ble_eq_true hd; omega⟩
  rw [Nat.add_sub_cancel] at hJ
  cases h0 : Nat.beq k 0 with
  | true =>
    rw [h0] at h
    have h : cond (Nat.beq k 0 && (Nat.ble n st.length && zq_chk (st.take n).reverse (st.drop n) mj G)) (some ((st.take n).reverse, st.drop n)) none = some (av, r) := h
    obtain ⟨hb, hx⟩ := zq_cond h
    rw [Bool.and_eq_true, Bool.and_eq_true] at hb
    have hav : av = (st.take n).reverse := (congrArg Prod.fst hx).symm
    have hr : r = st.drop n := (congrArg Prod.snd hx).symm
    subst hav
    subst hr
    obtain ⟨g1, g2⟩ := hP.1 (Nat.eq_of_beq_eq_true hb.1)
    obtain ⟨c1, c2, c3, c4⟩ := zq_chk_ok hb.2.2
    have hn : (st.take n).reverse.length = n := by rw [List.length_reverse, List.length_take]; exact Nat.min_eq_left (Nat.le_of_ble_eq_true hb.2.1)
    have hst : (st.take n).reverse.reverse ++ st.drop n = st := by rw [List.reverse_reverse, List.take_append_drop]
    have hR := zm_J_S (av := (st.take n).reverse) (rest := st.drop n) (lv := lv) (Q := Q) g1 (by rw [hn]; exact g2) c1 c2 c3 c4 hJ kr kt
    rw [hst] at hR
    exact hR
  | false =>
    rw [h0] at h
    have h : cond (Nat.beq k 1) (zq_pI (mi, pc, k, idx, mj, n, x) st G) (zq_pV (mi, pc, k, idx, mj, n, x) st G) = some (av, r) := h
    cases h3 : Nat.beq k 1 with
    | true =>
      rw [h3] at h
      have h : zq_pI (mi, pc, k, idx, mj, n, x) st G = some (av, r) := h
      unfold zq_pI at h
      split at h
      · rename_i a r0 hdr
        have hdr : st.drop n = .ref a :: r0 := hdr
        have h : cond (Nat.beq k 1 && (Nat.ble n st.length && zq_chk (.ref a :: (st.take n).reverse) r0 mj G)) (some (.ref a :: (st.take n).reverse, r0)) none = some (av, r) := h
        obtain ⟨hb, hx⟩ := zq_cond h
        rw [Bool.and_eq_true, Bool.and_eq_true] at hb
        have hav : av = .ref a :: (st.take n).reverse := (congrArg Prod.fst hx).symm
        have hr : r0 = r := congrArg Prod.snd hx
        rw [hr] at hdr hb
        subst hav
        obtain ⟨g1, g2⟩ := hP.2.1 (Nat.eq_of_beq_eq_true hb.1)
        obtain ⟨c1, c2, c3, c4⟩ := zq_chk_ok hb.2.2
        have hn : (st.take n).reverse.length = n := by rw [List.length_reverse, List.length_take]; exact Nat.min_eq_left (Nat.le_of_ble_eq_true hb.2.1)
        have hst : (st.take n).reverse.reverse ++ .ref a :: r = st := by rw [List.reverse_reverse, ← hdr, List.take_append_drop]
        have hR := zm_J_I (a := a) (av := (st.take n).reverse) (rest := r) (lv := lv) (Q := Q) g1 (by rw [hn]; exact g2) c1 c2 c3 c4 hJ kr kt
        rw [hst] at hR
        exact hR
      · cases h
    | false =>
      rw [h3] at h
      have h : zq_pV (mi, pc, k, idx, mj, n, x) st G = some (av, r) := h
      unfold zq_pV at h
      split at h
      · rename_i a r0 hdr
        have hdr2 : st.drop n = .ref a :: r0 := hdr
        split at h
        · rename_i y hy
          obtain ⟨y1, fs⟩ := y
          have h : cond (Nat.beq k 2 && (Nat.beq y1 x && (Nat.ble n st.length && zq_chk (.ref a :: (st.take n).reverse) r0 mj G))) (some (.ref a :: (st.take n).reverse, r0)) none = some (av, r) := h
          obtain ⟨hb, hx⟩ := zq_cond h
          rw [Bool.and_eq_true, Bool.and_eq_true, Bool.and_eq_true] at hb
          have hav : av = .ref a :: (st.take n).reverse := (congrArg Prod.fst hx).symm
          have hr : r0 = r := congrArg Prod.snd hx
          rw [hr] at hdr2 hb
          subst hav
          obtain ⟨g1, g2⟩ := hP.2.2.1 (Nat.eq_of_beq_eq_true hb.1)
          obtain ⟨c1, c2, c3, c4⟩ := zq_chk_ok hb.2.2.2
          have hy1 : y1 = x := Nat.eq_of_beq_eq_true hb.2.1
          subst hy1
          have hn : (st.take n).reverse.length = n := by rw [List.length_reverse, List.length_take]; exact Nat.min_eq_left (Nat.le_of_ble_eq_true hb.2.2.1)
          have hst : (st.take n).reverse.reverse ++ .ref a :: r = st := by rw [List.reverse_reverse, ← hdr2, List.take_append_drop]
          have hR := zm_J_V (a := a) (x := y1) (fs := fs) (av := (st.take n).reverse) (rest := r) (lv := lv) (Q := Q) g1 (by rw [hn]; exact g2) hy c1 c2 c3 c4 hJ kr kt
          rw [hst] at hR
          exact hR
        · cases h
      · cases h
end ZQ1
/-- the run: f steps at most in a row, d frames of room, the calls' table C, the catches' table K -/
def zq_ev (C : List zq_E) (K : List (Nat × Nat × Nat × Nat)) : Nat → Nat → Nat → Nat → zm_L → List Value → zm_H → Option (zm_O × zm_H)
  | 0, _, _, _, _, _, _ => none
  | f + 1, d, mi, pc, lv, st, G => match zm_step mi (pc, lv, st, G) with
    | some s => zq_ev C K f d mi s.1 s.2.1 s.2.2.1 s.2.2.2
    | none => match zq_fd mi pc C with
      | none => zq_rt mi pc st G
      | some e => match zq_pl e d st G with
        | some q => match zq_ev C K f (d - 1) e.2.2.2.2.1 0 (lv_args 0 q.1) [] G with
          | none => none
          | some (.inl v, G') => zq_ev C K f d mi (pc + 3) lv (v.toList ++ q.2) G'
          | some (.inr y, G') => match zq_fc mi pc y.1 K with
            | some h => zq_ev C K f d mi h lv [.ref y.2] G'
            | none => match (zm_hd mi).isEmpty with
              | true => some (.inr y, G')
              | false => none
        | none => match zq_o e d st with
          | some r => zq_ev C K f d mi (pc + 3) lv r G
          | none => zq_t e d st G
set_option maxHeartbeats 1000000 in
theorem zq_ok {N : zm_N} {C : List zq_E} {K : List (Nat × Nat × Nat × Nat)} (hC : ∀ e ∈ C, zq_P e) (hK : ∀ e ∈ K, zm_cat e.1 e.2.1 e.2.2.1 e.2.2.2) : ∀ (f d mi pc : Nat) (lv : zm_L) (st : List Value) (G : zm_H) (z : zm_O) (G' : zm_H), zq_ev C K f d mi pc lv st G = some (z, G') → zm_J N d mi pc lv st G (fun z1 G1 => z1 = z ∧ G1 = G') := by
  intro f
  induction f with
  | zero =>
    intro d mi pc lv st G z G' h
    rw [zq_ev] at h
    cases h
  | succ f ih =>
    intro d mi pc lv st G z G' h
    rw [zq_ev] at h
    cases hs : zm_step mi (pc, lv, st, G) with
    | some s =>
      simp only [hs] at h
      refine zm_J_run0 zm_T 1 (s' := s) ?_ (ih _ _ _ _ _ _ _ _ h)
      show (match zm_step mi (pc, lv, st, G) with | some s' => zm_run mi 0 s' | none => none) = some s
      rw [hs]
      rfl
    | none =>
      cases he : zq_fd mi pc C with
      | none =>
        simp only [hs, he] at h
        exact zq_rt_ok h
      | some e =>
        obtain ⟨e1, e2, e3⟩ := zq_fd_ok he
        have hP := hC e e1
        cases hp : zq_pl e d st G with
        | some q =>
          obtain ⟨av, r⟩ := q
          cases hc : zq_ev C K f (d - 1) e.2.2.2.2.1 0 (lv_args 0 av) [] G with
          | none =>
            simp only [hs, he, hp, hc] at h
            cases h
          | some o =>
            obtain ⟨o, G1⟩ := o
            have hJ := ih _ _ _ _ _ _ _ _ hc
            cases o with
            | inl v =>
              simp only [hs, he, hp, hc] at h
              refine zq_pl_ok hP e2 e3 hp hJ ?_ ?_
              · intro v' G2 h2
                obtain ⟨h3, rfl⟩ := h2
                cases Sum.inl.inj h3
                exact ih _ _ _ _ _ _ _ _ h
              · intro y G2 h2
                exact nomatch h2.1
            | inr y =>
              refine zq_pl_ok hP e2 e3 hp hJ ?_ ?_
              · intro v' G2 h2
                exact nomatch h2.1
              · intro y' G2 h2
                obtain ⟨h3, rfl⟩ := h2
                cases Sum.inr.inj h3
                cases hf : zq_fc mi pc y.1 K with
                | some hh =>
                  simp only [hs, he, hp, hc, hf] at h
                  exact Or.inr ⟨hh, zq_fc_ok hK hf, ih _ _ _ _ _ _ _ _ h⟩
                | none =>
                  cases hm : (zm_hd mi).isEmpty with
                  | false =>
                    simp only [hs, he, hp, hc, hf, hm] at h
                    cases h
                  | true =>
                    simp only [hs, he, hp, hc, hf, hm] at h
                    cases Option.some.inj h
                    exact Or.inl ⟨zm_out0 (List.isEmpty_iff.mp hm), rfl, rfl⟩
        | none =>
          cases ho : zq_o e d st with
          | some r =>
            simp only [hs, he, hp, ho] at h
            exact zq_o_ok hP e2 e3 ho (ih _ _ _ _ _ _ _ _ h)
          | none =>
            simp only [hs, he, hp, ho] at h
            exact zq_t_ok hP e2 e3 h

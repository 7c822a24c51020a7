/-! WHAT HOLDS OF EVERY WORKING OUT: what it makes is well formed, and paid for. -/
/-- the sizes of those not yet FORCED; the same, and one for each other -/
def zv_T : List zv_C → Nat
  | [] => 0
  | (t, none) :: r => zv_n t.1 1 + zv_T r
  | (_, some _) :: r => zv_T r
def zv_U : List zv_C → Nat
  | [] => 0
  | (t, none) :: r => zv_n t.1 1 + zv_U r
  | (_, some _) :: r => 1 + zv_U r
def zv_b (s : zv_S) (i k : Nat) : Prop := zv_U s.1 + i ≤ 40 * (s.2.1 + 1) ∧ s.2.2.1 + zv_T s.1 + i ≤ 40 * (s.2.1 + 1) ∧ s.2.2.2 + 2 * zv_T s.1 + 2 * k ≤ 80 * (s.2.1 + 1) ∧ s.2.1 ≤ 400
def zv_wL (L : List Int32) : Prop := ∀ c ∈ L, 97 ≤ c ∧ c ≤ 102
def zv_wE (n : Nat) (L : List Int32) (A : List Nat) : Prop := zv_wL L ∧ L.length ≤ A.length ∧ ∀ a ∈ A, a < n
def zv_wV (n : Nat) (v : zv_V) : Prop := (v.1 = 2 → v.2.2.1 < n ∧ v.2.2.2.1 < n) ∧ (v.1 = 3 → 0 ≤ v.2.1 ∧ v.2.1.toNatClampNeg < 6) ∧ (∀ a ∈ v.2.2.2.2, a < n) ∧ v.2.2.2.2.length ≤ 4
def zv_wC (n : Nat) (x : zv_C) : Prop := zv_ok x.1.2.1 x.1.1 1 = true ∧ zv_wE n x.1.2.1 x.1.2.2 ∧ ∀ v, x.2 = some (some v) → zv_wV n v
def zv_wS (s : zv_S) : Prop := ∀ x ∈ s.1, zv_wC s.1.length x
def zv_wD (D : zv_D) : Prop := ∀ k L b, D k = some (L, b) → zv_ok L b 1 = true ∧ zv_n b 1 ≤ 40 ∧ zv_wL L ∧ L.length ≤ 4 ∧ L.Nodup ∧ zv_n b 1 = b.length
/-- what was made stays, and what was FORCED stays so -/
def zv_le (s s' : zv_S) : Prop := s.2.1 ≤ s'.2.1 ∧ s.2.2.1 ≤ s'.2.2.1 ∧ s.2.2.2 ≤ s'.2.2.2 ∧ ∀ (c : Nat) (t : List Int32 × List Int32 × List Nat) (st : Option (Option zv_V)), s.1[c]? = some (t, st) → ∃ st' : Option (Option zv_V), s'.1[c]? = some (t, st') ∧ (st.isSome = true → st'.isSome = true)
theorem zv_le.refl (s : zv_S) : zv_le s s := ⟨Nat.le_refl _, Nat.le_refl _, Nat.le_refl _, fun _ _ st h => ⟨st, h, id⟩⟩
theorem zv_le.trans {a b c : zv_S} (h : zv_le a b) (k : zv_le b c) : zv_le a c := by
  refine ⟨Nat.le_trans h.1 k.1, Nat.le_trans h.2.1 k.2.1, Nat.le_trans h.2.2.1 k.2.2.1, fun x t st hx => ?_⟩
  obtain ⟨st', h1, h2⟩ := h.2.2.2 x t st hx
  obtain ⟨st2, h3, h4⟩ := k.2.2.2 x t st' h1
  exact ⟨st2, h3, fun z => h4 (h2 z)⟩
theorem zv_le.len {s s' : zv_S} (h : zv_le s s') : s.1.length ≤ s'.1.length := by
  rcases Nat.lt_or_ge s'.1.length s.1.length with hl | hl
  · obtain ⟨st', h1, -⟩ := h.2.2.2 s'.1.length (s.1[s'.1.length]).1 (s.1[s'.1.length]).2 (by rw [List.getElem?_eq_getElem hl])
    rw [List.getElem?_eq_none (Nat.le_refl _)] at h1
    cases h1
  · exact hl
theorem zv_wE.up {n m : Nat} {L : List Int32} {A : List Nat} (h : zv_wE n L A) (k : n ≤ m) : zv_wE m L A := ⟨h.1, h.2.1, fun a ha => Nat.lt_of_lt_of_le (h.2.2 a ha) k⟩
theorem zv_wV.up {n m : Nat} {v : zv_V} (h : zv_wV n v) (k : n ≤ m) : zv_wV m v := ⟨fun z => ⟨Nat.lt_of_lt_of_le (h.1 z).1 k, Nat.lt_of_lt_of_le (h.1 z).2 k⟩, h.2.1, fun a ha => Nat.lt_of_lt_of_le (h.2.2.1 a ha) k, h.2.2.2⟩
theorem zv_wC.up {n m : Nat} {x : zv_C} (h : zv_wC n x) (k : n ≤ m) : zv_wC m x := ⟨h.1, h.2.1.up k, fun v hv => (h.2.2 v hv).up k⟩
theorem zv_b.down {s : zv_S} {i j k l : Nat} (h : zv_b s k l) (hj : i ≤ k) (hl : j ≤ l) : zv_b s i j := by
  obtain ⟨h1, h2, h3, h4⟩ := h
  exact ⟨by omega, by omega, by omega, h4⟩
theorem zv_T_app (l : List zv_C) (t : List Int32 × List Int32 × List Nat) : zv_T (l ++ [(t, none)]) = zv_T l + zv_n t.1 1 := by
  induction l with
  | nil => exact Nat.add_comm _ _
  | cons x r ih =>
    obtain ⟨u, st⟩ := x
    cases st with
    | none => show zv_n u.1 1 + zv_T (r ++ [(t, none)]) = zv_n u.1 1 + zv_T r + _; rw [ih, Nat.add_assoc]
    | some o => exact ih
theorem zv_U_app (l : List zv_C) (t : List Int32 × List Int32 × List Nat) : zv_U (l ++ [(t, none)]) = zv_U l + zv_n t.1 1 := by
  induction l with
  | nil => exact Nat.add_comm _ _
  | cons x r ih =>
    obtain ⟨u, st⟩ := x
    cases st with
    | none => show zv_n u.1 1 + zv_U (r ++ [(t, none)]) = zv_n u.1 1 + zv_U r + _; rw [ih, Nat.add_assoc]
    | some o => show 1 + zv_U (r ++ [(t, none)]) = 1 + zv_U r + _; rw [ih, Nat.add_assoc]
theorem zv_T_set {l : List zv_C} {c : Nat} {t : List Int32 × List Int32 × List Nat} {o : Option zv_V} (h : l[c]? = some (t, none)) : zv_T (l.set c (t, some o)) + zv_n t.1 1 = zv_T l ∧ zv_U (l.set c (t, some o)) + zv_n t.1 1 = zv_U l + 1 := by
  induction l generalizing c with
  | nil => cases h
  | cons x r ih =>
    cases c with
    | zero =>
      cases Option.some.inj h
      exact ⟨Nat.add_comm _ _, by show 1 + zv_U r + zv_n t.1 1 = zv_n t.1 1 + zv_U r + 1; omega⟩
    | succ c =>
      obtain ⟨h1, h2⟩ := ih (c := c) h
      obtain ⟨u, st⟩ := x
      cases st with
      | none => exact ⟨by show zv_n u.1 1 + zv_T (r.set c (t, some o)) + _ = zv_n u.1 1 + zv_T r; omega, by show zv_n u.1 1 + zv_U (r.set c (t, some o)) + _ = zv_n u.1 1 + zv_U r + 1; omega⟩
      | some q => exact ⟨h1, by show 1 + zv_U (r.set c (t, some o)) + _ = 1 + zv_U r + 1; omega⟩
theorem zv_T_set2 {l : List zv_C} {c : Nat} {t : List Int32 × List Int32 × List Nat} {o p : Option zv_V} (h : l[c]? = some (t, some p)) : zv_T (l.set c (t, some o)) = zv_T l ∧ zv_U (l.set c (t, some o)) = zv_U l := by
  induction l generalizing c with
  | nil => cases h
  | cons x r ih =>
    cases c with
    | zero =>
      cases Option.some.inj h
      exact ⟨rfl, rfl⟩
    | succ c =>
      obtain ⟨h1, h2⟩ := ih (c := c) h
      obtain ⟨u, st⟩ := x
      cases st with
      | none => exact ⟨by show zv_n u.1 1 + zv_T (r.set c (t, some o)) = zv_n u.1 1 + zv_T r; omega, by show zv_n u.1 1 + zv_U (r.set c (t, some o)) = zv_n u.1 1 + zv_U r; omega⟩
      | some q => exact ⟨h1, by show 1 + zv_U (r.set c (t, some o)) = 1 + zv_U r; omega⟩
theorem zv_U_len {s : zv_S} (h : zv_wS s) : s.1.length ≤ zv_U s.1 := by
  have : ∀ l : List zv_C, (∀ x ∈ l, zv_ok x.1.2.1 x.1.1 1 = true) → l.length ≤ zv_U l := by
    intro l
    induction l with
    | nil => intro _; exact Nat.le_refl 0
    | cons x r ih =>
      intro hx
      have h1 := ih (fun y hy => hx y (List.mem_cons_of_mem _ hy))
      have h2 := zv_n_pos (hx x List.mem_cons_self)
      obtain ⟨u, st⟩ := x
      cases st with
      | none => show r.length + 1 ≤ zv_n u.1 1 + zv_U r; exact (by have h2 : 1 ≤ zv_n u.1 1 := h2; omega)
      | some q => show r.length + 1 ≤ 1 + zv_U r; omega
  exact this s.1 (fun x hx => (h x hx).1)
/-- a state with a CLOSURE changed or one more -/
theorem zv_wS_set {s : zv_S} (h : zv_wS s) {c : Nat} {x : zv_C} (hx : zv_wC s.1.length x) : zv_wS (zv_st s (s.1.set c x)) := by
  intro y hy
  show zv_wC (s.1.set c x).length y
  rw [List.length_set]
  rcases List.mem_or_eq_of_mem_set hy with h1 | h1
  · exact h y h1
  · rw [h1]; exact hx
theorem zv_le_set {s : zv_S} {c : Nat} {t : List Int32 × List Int32 × List Nat} {st o : Option (Option zv_V)} (h : s.1[c]? = some (t, st)) (ho : st.isSome = true → o.isSome = true) : zv_le s (zv_st s (s.1.set c (t, o))) := by
  refine ⟨Nat.le_refl _, Nat.le_refl _, Nat.le_refl _, fun x u q hx => ?_⟩
  show ∃ st', (s.1.set c (t, o))[x]? = some (u, st') ∧ _
  by_cases hc : c = x
  · subst hc
    rw [h] at hx
    cases hx
    have hl := (List.getElem?_eq_some_iff.mp h).1
    exact ⟨o, by rw [List.getElem?_set_self hl], ho⟩
  · exact ⟨q, by rw [List.getElem?_set_ne hc]; exact hx, id⟩
theorem zv_idx {L : List Int32} {A : List Nat} {n : Nat} {c : Int32} (hE : zv_wE n L A) (hc : c ∈ L) : zv_ar L A c < n := by
  have h1 : L.idxOf c < L.length := List.idxOf_lt_length_iff.mpr hc
  have h2 : L.idxOf c < A.length := Nat.lt_of_lt_of_le h1 hE.2.1
  unfold zv_ar
  rw [List.getD_eq_getElem?_getD, List.getElem?_eq_getElem h2]
  exact hE.2.2 _ (List.getElem_mem h2)
/-- a letter that stands is one of L -/
theorem zv_l_let {L : List Int32} {c : Int32} (h : zv_l L c = true) (hc : 97 ≤ c ∧ c ≤ 102) : c ∈ L := by
  have hn : c.toInt = c.toInt := rfl
  have h1 : (97 : Int) ≤ c.toInt := Int32.le_iff_toInt_le.mp hc.1
  have h2 : c.toInt ≤ 102 := Int32.le_iff_toInt_le.mp hc.2
  have ne : ∀ x : Int32, (x.toInt < 97 ∨ 102 < x.toInt) → c ≠ x := fun x hx e => by subst e; omega
  have hp : zv_p c = 0 := by
    unfold zv_p
    rw [if_neg, if_neg, if_neg]
    · rintro (e | e | e | e | e | e | e | e | e) <;> exact ne _ (by decide) e
    · exact ne _ (by decide)
    · rintro (e | e | e) <;> exact ne _ (by decide) e
  unfold zv_l at h
  rw [Bool.or_eq_true, Bool.or_eq_true, Bool.or_eq_true, Bool.or_eq_true] at h
  rcases h with h | h | h | h | h
  · exact absurd hp (of_decide_eq_true h)
  · have h3 := Int32.le_iff_toInt_le.mp (of_decide_eq_true h).2
    have : (57 : Int32).toInt = 57 := by decide
    omega
  · have h3 := Int32.le_iff_toInt_le.mp (of_decide_eq_true h).2
    have : (70 : Int32).toInt = 70 := by decide
    omega
  · exact absurd (of_decide_eq_true h) (ne _ (by decide))
  · exact List.contains_iff_mem.mp h
/-- closureOf -/
theorem zv_cl_ok {w L : List Int32} {A : List Nat} {s : zv_S} (hS : zv_wS s) (hw : zv_ok L w 1 = true) (hE : zv_wE s.1.length L A) {i j : Nat} (hb : zv_b s (zv_n w 1 + i) (zv_n w 1 + j)) : zv_wS (zv_cl w L A s).2 ∧ (zv_cl w L A s).1 < (zv_cl w L A s).2.1.length ∧ zv_le s (zv_cl w L A s).2 ∧ zv_b (zv_cl w L A s).2 i j := by
  cases w with
  | nil => cases hw
  | cons c r =>
    have hlc : zv_l L c = true := by
      have h : (zv_l L c && zv_ok L r (0 + zv_p c)) = true := hw
      rw [Bool.and_eq_true] at h
      exact h.1
    unfold zv_cl
    dsimp only
    by_cases hc : 97 ≤ c ∧ c ≤ 102
    · rw [if_pos hc]
      exact ⟨hS, zv_idx hE (zv_l_let hlc hc), zv_le.refl s, hb.down (Nat.le_add_left _ _) (Nat.le_add_left _ _)⟩
    · rw [if_neg hc]
      refine ⟨fun x hx => ?_, ?_, ⟨Nat.le_refl _, Nat.le_refl _, Nat.le_refl _, fun x t st hx => ⟨st, ?_, id⟩⟩, ?_⟩
      · show zv_wC (s.1 ++ _).length x
        rcases List.mem_append.mp hx with h | h
        · exact (hS x h).up (by rw [List.length_append]; omega)
        · rw [List.mem_singleton] at h
          subst h
          refine ⟨hw, hE.up (by rw [List.length_append]; omega), fun v hv => ?_⟩
          cases hv
      · show s.1.length < (s.1 ++ _).length
        rw [List.length_append, List.length_singleton]; omega
      · show (s.1 ++ _)[x]? = _
        rw [List.getElem?_append_left (List.getElem?_eq_some_iff.mp hx).1]
        exact hx
      · obtain ⟨b1, b2, b3, b4⟩ := hb
        refine ⟨?_, ?_, ?_, b4⟩
        · show zv_U (s.1 ++ _) + i ≤ 40 * (s.2.1 + 1)
          rw [zv_U_app]; show zv_U s.1 + zv_n (c :: r) 1 + i ≤ _; omega
        · show s.2.2.1 + zv_T (s.1 ++ _) + i ≤ 40 * (s.2.1 + 1)
          rw [zv_T_app]; show s.2.2.1 + (zv_T s.1 + zv_n (c :: r) 1) + i ≤ _; omega
        · show s.2.2.2 + 2 * zv_T (s.1 ++ _) + 2 * j ≤ 80 * (s.2.1 + 1)
          rw [zv_T_app]; show s.2.2.2 + 2 * (zv_T s.1 + zv_n (c :: r) 1) + 2 * j ≤ _; omega
/-- an outcome that is as it should be, with j left -/
def zv_Q (s : zv_S) (j : Nat) (x : zv_O) : Prop := ∀ v, x.1 = .inr v → zv_wS x.2 ∧ zv_wV x.2.1.length v ∧ zv_le s x.2 ∧ zv_b x.2 (j + 1) j
def zv_Eok (E : zv_Ev) : Prop := ∀ w L A s j, zv_wS s → zv_ok L w 1 = true → zv_wE s.1.length L A → zv_b s (zv_n w 1 + j) (zv_n w 1 + j) → zv_Q s j (E w L A s)
theorem zv_B_ok {s : zv_S} {j k : Nat} {x : zv_O} {f : zv_V → zv_S → zv_O} (h : zv_Q s j x) (hf : ∀ v s', x = (.inr v, s') → zv_wS s' → zv_wV s'.1.length v → zv_le s s' → zv_b s' (j + 1) j → zv_Q s' k (f v s')) : zv_Q s k (zv_B x f) := by
  obtain ⟨r, s'⟩ := x
  cases r with
  | inl e => intro v hv; exact nomatch hv
  | inr u =>
    obtain ⟨h1, h2, h3, h4⟩ := h u rfl
    intro v hv
    obtain ⟨k1, k2, k3, k4⟩ := hf u s' rfl h1 h2 h3 h4 v hv
    exact ⟨k1, k2, h3.trans k3, k4⟩
theorem zv_Q_num {s : zv_S} {j : Nat} (hS : zv_wS s) (hb : zv_b s (j + 1) (j + 1)) (x : Int32) : zv_Q s j (.inr (zv_num x), zv_v s) := by
  intro v hv
  cases hv
  refine ⟨hS, ⟨fun z => absurd z (by show ¬ (0 : Int32) = 2; decide), fun z => absurd z (by show ¬ (0 : Int32) = 3; decide), fun a ha => (by cases ha), Nat.zero_le _⟩, ⟨Nat.le_refl _, Nat.le_refl _, Nat.le_succ _, fun _ _ st h => ⟨st, h, id⟩⟩, ?_⟩
  obtain ⟨b1, b2, b3, b4⟩ := hb
  exact ⟨by show zv_U s.1 + (j + 1) ≤ 40 * (s.2.1 + 1); omega, by show s.2.2.1 + zv_T s.1 + (j + 1) ≤ 40 * (s.2.1 + 1); omega, by show s.2.2.2 + 1 + 2 * zv_T s.1 + 2 * j ≤ 80 * (s.2.1 + 1); omega, b4⟩

/-! READING: one expression, at most n deep below -/
def zv_rk (f : List Int32 → Option (List Int32)) : Nat → List Int32 → Option (List Int32)
  | 0, w => some w
  | k + 1, w => match f w with
    | none => none
    | some w' => zv_rk f k w'
def zv_rd (L : List Int32) : Nat → List Int32 → Option (List Int32)
  | 0 => fun w => match w with
    | [] => none
    | c :: r => if zv_p c = 0 ∧ zv_l L c = true then some r else none
  | n + 1 => fun w => match w with
    | [] => none
    | c :: r => if zv_p c = 0 then (if zv_l L c = true then some r else none) else zv_rk (zv_rd L n) (zv_p c) r
theorem zv_l_p {L : List Int32} {c : Int32} (h : zv_p c ≠ 0) : zv_l L c = true := by
  unfold zv_l
  rw [decide_eq_true h]
  rfl
theorem zv_rk_ok {L : List Int32} {f : List Int32 → Option (List Int32)} (hf : ∀ w w', f w = some w' → zv_ok L w 1 = true ∧ zv_sk w 1 = w') : ∀ k w w', zv_rk f k w = some w' → zv_ok L w k = true ∧ zv_sk w k = w' := by
  intro k
  induction k with
  | zero =>
    intro w w' h
    cases Option.some.inj h
    exact ⟨zv_ok_0 L w, zv_sk_0 w⟩
  | succ k ih =>
    intro w w' h
    unfold zv_rk at h
    cases hw : f w with
    | none => rw [hw] at h; cases h
    | some u =>
      rw [hw] at h
      obtain ⟨h1, h2⟩ := hf w u hw
      obtain ⟨h3, h4⟩ := ih u w' h
      rw [Nat.add_comm k 1, zv_ok_add, zv_sk_add, h2]
      exact ⟨⟨h1, h3⟩, h4⟩
theorem zv_rd_ok {L : List Int32} : ∀ n w w', zv_rd L n w = some w' → zv_ok L w 1 = true ∧ zv_sk w 1 = w' := by
  have leaf : ∀ (c : Int32) (r : List Int32), zv_p c = 0 → zv_l L c = true → zv_ok L (c :: r) 1 = true ∧ zv_sk (c :: r) 1 = r := by
    intro c r h1 h2
    show (zv_l L c && zv_ok L r (0 + zv_p c)) = true ∧ zv_sk r (0 + zv_p c) = r
    rw [h1, h2, zv_ok_0, zv_sk_0]
    exact ⟨rfl, rfl⟩
  intro n
  induction n with
  | zero =>
    intro w w' h
    cases w with
    | nil => cases h
    | cons c r =>
      have h : (if zv_p c = 0 ∧ zv_l L c = true then some r else none) = some w' := h
      split at h
      · rename_i hh
        cases Option.some.inj h
        exact leaf c _ hh.1 hh.2
      · cases h
  | succ n ih =>
    intro w w' h
    cases w with
    | nil => cases h
    | cons c r =>
      have h : (if zv_p c = 0 then (if zv_l L c = true then some r else none) else zv_rk (zv_rd L n) (zv_p c) r) = some w' := h
      split at h
      · rename_i h0
        split at h
        · rename_i h1
          cases Option.some.inj h
          exact leaf c _ h0 h1
        · cases h
      · rename_i h0
        obtain ⟨h1, h2⟩ := zv_rk_ok ih _ _ _ h
        show (zv_l L c && zv_ok L r (0 + zv_p c)) = true ∧ zv_sk r (0 + zv_p c) = w'
        rw [Nat.zero_add, zv_l_p h0, h1]
        exact ⟨rfl, h2⟩
theorem zv_rd_len {L : List Int32} {n : Nat} {w w' : List Int32} (h : zv_rd L n w = some w') : w'.length + 1 ≤ w.length := by
  obtain ⟨h1, h2⟩ := zv_rd_ok n w w' h
  have h3 := zv_n_le L w 1 h1
  have h4 : 1 ≤ zv_n w 1 := zv_n_pos h1
  rw [← h2, zv_sk_drop, List.length_drop]
  omega
theorem zv_rk_len {L : List Int32} {n : Nat} : ∀ {k : Nat} {w w' : List Int32}, zv_rk (zv_rd L n) k w = some w' → w'.length + k ≤ w.length := by
  intro k
  induction k with
  | zero => intro w w' h; cases Option.some.inj h; exact Nat.le_refl _
  | succ k ih =>
    intro w w' h
    unfold zv_rk at h
    cases hw : zv_rd L n w with
    | none => rw [hw] at h; cases h
    | some u =>
      rw [hw] at h
      have h1 := zv_rd_len hw
      have h2 := ih h
      omega
/-- the letters of a heading: L those found, k how many more there may be -/
def zv_hl : Nat → List Int32 → List Int32 → List Int32 × List Int32
  | 0, L, w => (L, w)
  | _ + 1, L, [] => (L, [])
  | k + 1, L, c :: r => if (97 ≤ c ∧ c ≤ 102) ∧ ¬ c ∈ L then zv_hl k (L ++ [c]) r else (L, c :: r)
/-- a DEFINITION: its NAME's number, its PARAMETERS, its EXPRESSION -/
def zv_df (t : List Int32) : Option (Int32 × List Int32 × List Int32) := match t with
  | [] => none
  | c :: r => if 65 ≤ c ∧ c ≤ 70 then match (zv_hl 4 [] r).2 with
      | [] => none
      | q :: b => if q = 61 ∧ zv_rd (zv_hl 4 [] r).1 11 b = some [] then some (c - 65, (zv_hl 4 [] r).1, b) else none
    else none
theorem zv_hl_ok : ∀ (k : Nat) (L w : List Int32), zv_wL L → L.Nodup → L.length + k ≤ 4 → zv_wL (zv_hl k L w).1 ∧ (zv_hl k L w).1.Nodup ∧ (zv_hl k L w).1.length ≤ 4 ∧ L.length ≤ (zv_hl k L w).1.length ∧ (zv_hl k L w).1.length + (zv_hl k L w).2.length = L.length + w.length := by
  intro k
  induction k with
  | zero => intro L w h1 h2 h3; cases w <;> exact ⟨h1, h2, by show L.length ≤ 4; omega, Nat.le_refl _, rfl⟩
  | succ k ih =>
    intro L w h1 h2 h3
    cases w with
    | nil => exact ⟨h1, h2, by show L.length ≤ 4; omega, Nat.le_refl _, rfl⟩
    | cons c r =>
      unfold zv_hl
      by_cases h : (97 ≤ c ∧ c ≤ 102) ∧ ¬ c ∈ L
      · rw [if_pos h]
        obtain ⟨g1, g2, g3, g4, g5⟩ := ih (L ++ [c]) r (fun x hx => by
          rcases List.mem_append.mp hx with z | z
          · exact h1 x z
          · rw [List.mem_singleton] at z; subst z; exact h.1) (List.nodup_append.mpr ⟨h2, List.nodup_cons.mpr ⟨List.not_mem_nil, List.nodup_nil⟩, fun x hx y hy e => by rw [List.mem_singleton] at hy; subst hy; subst e; exact h.2 hx⟩) (by rw [List.length_append, List.length_singleton]; omega)
        rw [List.length_append, List.length_singleton] at g4 g5
        exact ⟨g1, g2, g3, by omega, by rw [g5, List.length_cons]; omega⟩
      · rw [if_neg h]
        exact ⟨h1, h2, by show L.length ≤ 4; omega, Nat.le_refl _, rfl⟩

/-! THE MATHEMATICS OF THE DOCUMENT'S EXPRESSIONS: a text is a list of characters, in it an expression stands with its parts behind it. -/
/-- how many parts a character has -/
def zv_p (c : Int32) : Nat := if c = 104 ∨ c = 116 ∨ c = 122 then 1 else if c = 63 then 3 else if c = 46 ∨ c = 43 ∨ c = 45 ∨ c = 42 ∨ c = 47 ∨ c = 37 ∨ c = 60 ∨ c = 61 ∨ c = 58 then 2 else 0
/-- may it stand where the letters L are PARAMETERS -/
def zv_l (L : List Int32) (c : Int32) : Bool := decide (zv_p c ≠ 0) || (decide (48 ≤ c ∧ c ≤ 57) || (decide (65 ≤ c ∧ c ≤ 70) || (decide (c = 110) || L.contains c)))
/-- k expressions stand there -/
def zv_ok (L : List Int32) : List Int32 → Nat → Bool
  | _, 0 => true
  | [], _ + 1 => false
  | c :: r, k + 1 => zv_l L c && zv_ok L r (k + zv_p c)
/-- what stands behind k expressions -/
def zv_sk : List Int32 → Nat → List Int32
  | w, 0 => w
  | [], _ + 1 => []
  | c :: r, k + 1 => zv_sk r (k + zv_p c)
/-- how many characters k expressions have -/
def zv_n : List Int32 → Nat → Nat
  | _, 0 => 0
  | [], _ + 1 => 0
  | c :: r, k + 1 => zv_n r (k + zv_p c) + 1
theorem zv_ok_0 (L w : List Int32) : zv_ok L w 0 = true := by cases w <;> rfl
theorem zv_sk_0 (w : List Int32) : zv_sk w 0 = w := by cases w <;> rfl
theorem zv_n_0 (w : List Int32) : zv_n w 0 = 0 := by cases w <;> rfl
theorem zv_ok_add (L : List Int32) : ∀ (w : List Int32) (a b : Nat), zv_ok L w (a + b) = true ↔ (zv_ok L w a = true ∧ zv_ok L (zv_sk w a) b = true) := by
  intro w
  induction w with
  | nil =>
    intro a b
    cases a with
    | zero => rw [Nat.zero_add, zv_sk_0, zv_ok_0]; simp
    | succ a => rw [Nat.succ_add]; simp [zv_ok]
  | cons c r ih =>
    intro a b
    cases a with
    | zero => rw [Nat.zero_add, zv_sk_0, zv_ok_0]; simp
    | succ a =>
      rw [Nat.succ_add]
      show (zv_l L c && zv_ok L r (a + b + zv_p c)) = true ↔ ((zv_l L c && zv_ok L r (a + zv_p c)) = true ∧ zv_ok L (zv_sk r (a + zv_p c)) b = true)
      rw [show a + b + zv_p c = (a + zv_p c) + b by omega, Bool.and_eq_true, Bool.and_eq_true, ih]
      exact and_assoc.symm
theorem zv_sk_add : ∀ (w : List Int32) (a b : Nat), zv_sk w (a + b) = zv_sk (zv_sk w a) b := by
  intro w
  induction w with
  | nil =>
    intro a b
    cases a with
    | zero => rw [Nat.zero_add, zv_sk_0]
    | succ a => rw [Nat.succ_add]; cases b <;> rfl
  | cons c r ih =>
    intro a b
    cases a with
    | zero => rw [Nat.zero_add, zv_sk_0]
    | succ a =>
      rw [Nat.succ_add]
      show zv_sk r (a + b + zv_p c) = zv_sk (zv_sk r (a + zv_p c)) b
      rw [show a + b + zv_p c = (a + zv_p c) + b by omega, ih]
theorem zv_n_add : ∀ (w : List Int32) (a b : Nat), zv_n w (a + b) = zv_n w a + zv_n (zv_sk w a) b := by
  intro w
  induction w with
  | nil =>
    intro a b
    cases a with
    | zero => rw [Nat.zero_add, zv_sk_0, zv_n_0, Nat.zero_add]
    | succ a => rw [Nat.succ_add]; cases b <;> rfl
  | cons c r ih =>
    intro a b
    cases a with
    | zero => rw [Nat.zero_add, zv_sk_0, zv_n_0, Nat.zero_add]
    | succ a =>
      rw [Nat.succ_add]
      show zv_n r (a + b + zv_p c) + 1 = zv_n r (a + zv_p c) + 1 + zv_n (zv_sk r (a + zv_p c)) b
      rw [show a + b + zv_p c = (a + zv_p c) + b by omega, ih]
      omega
theorem zv_sk_drop : ∀ (w : List Int32) (a : Nat), zv_sk w a = w.drop (zv_n w a) := by
  intro w
  induction w with
  | nil => intro a; cases a <;> rfl
  | cons c r ih =>
    intro a
    cases a with
    | zero => rfl
    | succ a => exact ih _
theorem zv_n_le (L : List Int32) : ∀ (w : List Int32) (a : Nat), zv_ok L w a = true → zv_n w a ≤ w.length := by
  intro w
  induction w with
  | nil => intro a _; cases a <;> exact Nat.le_refl 0
  | cons c r ih =>
    intro a h
    cases a with
    | zero => exact Nat.zero_le _
    | succ a =>
      have h : (zv_l L c && zv_ok L r (a + zv_p c)) = true := h
      rw [Bool.and_eq_true] at h
      exact Nat.succ_le_succ (ih _ h.2)
theorem zv_n_pos {L w : List Int32} {k : Nat} (h : zv_ok L w (k + 1) = true) : 1 ≤ zv_n w (k + 1) := by
  cases w with
  | nil => cases h
  | cons c r => exact Nat.succ_le_succ (Nat.zero_le _)
/-- the values: kind (0 NUMBER, 1 nil, 2 PAIR, 3 FUNCTION), the NUMBER or NAME, head, tail, ARGUMENTS -/
abbrev zv_V : Type := Int32 × Int32 × Nat × Nat × List Nat
/-- a CLOSURE: text, letters, ARGUMENTS; its state -/
abbrev zv_C : Type := (List Int32 × List Int32 × List Nat) × Option (Option zv_V)
/-- the state of an ASKING: CLOSURES, CALLS, how many ARGUMENTS and how many values were made -/
abbrev zv_S : Type := List zv_C × Nat × Nat × Nat
abbrev zv_O : Type := (Nat ⊕ zv_V) × zv_S
abbrev zv_D : Type := Nat → Option (List Int32 × List Int32)
def zv_B (x : zv_O) (f : zv_V → zv_S → zv_O) : zv_O := match x with
  | (.inl e, s) => (.inl e, s)
  | (.inr v, s) => f v s
def zv_v (s : zv_S) : zv_S := (s.1, s.2.1, s.2.2.1, s.2.2.2 + 1)
def zv_a (s : zv_S) : zv_S := (s.1, s.2.1, s.2.2.1 + 1, s.2.2.2)
def zv_c (s : zv_S) : zv_S := (s.1, s.2.1 + 1, s.2.2.1, s.2.2.2)
def zv_st (s : zv_S) (l : List zv_C) : zv_S := (l, s.2)
def zv_num (x : Int32) : zv_V := (0, x, 0, 0, [])
def zv_ar (L : List Int32) (A : List Nat) (c : Int32) : Nat := A.getD (L.idxOf c) 0
def zv_cl (w L : List Int32) (A : List Nat) (s : zv_S) : Nat × zv_S := match w with
  | [] => (0, s)
  | c :: r => if 97 ≤ c ∧ c ≤ 102 then (zv_ar L A c, s) else (s.1.length, zv_st s (s.1 ++ [((c :: r, L, A), none)]))
abbrev zv_Ev : Type := List Int32 → List Int32 → List Nat → zv_S → zv_O
def zv_F (E : zv_Ev) (c : Nat) (s : zv_S) : zv_O := match s.1[c]? with
  | none => (.inl 4, s)
  | some (t, st) => match st with
    | some (some v) => (.inr v, s)
    | some none => (.inl 4, s)
    | none => zv_B (E t.1 t.2.1 t.2.2 (zv_st s (s.1.set c (t, some none)))) (fun v s' => (.inr v, zv_st s' (s'.1.set c (t, some (some v)))))
def zv_K (E : zv_Ev) (b L : List Int32) (A : List Nat) (s : zv_S) : zv_O := if 400 ≤ s.2.1 then (.inl 4, s) else E b L A (zv_c s)
def zv_N (D : zv_D) (E : zv_Ev) (x : Int32) (s : zv_S) : zv_O := match D x.toNatClampNeg with
  | none => (.inl 2, s)
  | some (L, b) => if L.length = 0 then zv_K E b L [] s else (.inr (3, x, 0, 0, []), zv_v s)
def zv_A (D : zv_D) (E : zv_Ev) (q L : List Int32) (A : List Nat) (v : zv_V) (s : zv_S) : zv_O := if v.1 = 3 then match D v.2.1.toNatClampNeg with
  | none => (.inl 2, s)
  | some (L', b) => if (v.2.2.2.2 ++ [(zv_cl q L A s).1]).length < L'.length then (.inr (3, v.2.1, 0, 0, v.2.2.2.2 ++ [(zv_cl q L A s).1]), zv_v (zv_a (zv_cl q L A s).2))
      else zv_K E b L' (v.2.2.2.2 ++ [(zv_cl q L A s).1]) (zv_a (zv_cl q L A s).2)
  else (.inl 5, s)
def zv_P (r L : List Int32) (A : List Nat) (s : zv_S) : zv_O :=
  (.inr (2, 0, (zv_cl r L A s).1, (zv_cl (zv_sk r 1) L A (zv_cl r L A s).2).1, []), zv_v (zv_cl (zv_sk r 1) L A (zv_cl r L A s).2).2)
def zv_bn (c a b : Int32) : Option Int32 := if (c = 47 ∨ c = 37) ∧ b = 0 then none else
  some (if c = 43 then a + b else if c = 45 then a - b else if c = 42 then a * b else if c = 47 then a / b else if c = 37 then a - a / b * b else if c = 60 then (if a < b then 1 else 0) else (if a = b then 1 else 0))
def zv_R (c a : Int32) (v : zv_V) (s : zv_S) : zv_O := if v.1 = 0 then match zv_bn c a v.2.1 with
  | none => (.inl 3, s)
  | some x => (.inr (zv_num x), zv_v s)
  else (.inl 5, s)
/-- behind the first part -/
def zv_G (D : zv_D) (E : zv_Ev) (c : Int32) (r L : List Int32) (A : List Nat) (v : zv_V) (s : zv_S) : zv_O :=
  if c = 46 then zv_A D E (zv_sk r 1) L A v s
  else if c = 122 then (if v.1 = 1 then (.inr (zv_num 1), zv_v s) else if v.1 = 2 then (.inr (zv_num 0), zv_v s) else (.inl 5, s))
  else if c = 104 ∨ c = 116 then (if v.1 = 1 then (.inl 2, s) else if v.1 = 2 then zv_F E (if c = 104 then v.2.2.1 else v.2.2.2.1) s else (.inl 5, s))
  else if v.1 = 0 then (if c = 63 then E (if v.2.1 = 0 then zv_sk (zv_sk r 1) 1 else zv_sk r 1) L A s else zv_B (E (zv_sk r 1) L A s) (zv_R c v.2.1))
  else (.inl 5, s)
/-- WORKING OUT: n is how many may still stand within one another -/
def zv_E (D : zv_D) : Nat → zv_Ev
  | 0 => fun _ _ _ s => (.inl 4, s)
  | n + 1 => fun w L A s => match w with
    | [] => (.inl 4, s)
    | c :: r =>
      if 48 ≤ c ∧ c ≤ 57 then (.inr (zv_num (c - 48)), zv_v s)
      else if c = 110 then (.inr (1, 0, 0, 0, []), s)
      else if 97 ≤ c ∧ c ≤ 102 then zv_F (zv_E D n) (zv_ar L A c) s
      else if 65 ≤ c ∧ c ≤ 70 then zv_N D (zv_E D n) (c - 65) s
      else if c = 58 then zv_P r L A s
      else zv_B (zv_E D n r L A s) (zv_G D (zv_E D n) c r L A)

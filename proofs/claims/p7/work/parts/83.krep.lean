/-! WHAT THE CLASS'S OBJECTS SAY -/
def zk_up (l l' : List Nat) : Prop := ∀ (m y : Nat), l[m]? = some y → l'[m]? = some y
theorem zk_up.refl (l : List Nat) : zk_up l l := fun _ _ h => h
theorem zk_up.trans {a b c : List Nat} (h : zk_up a b) (k : zk_up b c) : zk_up a c := fun m y e => k m y (h m y e)
theorem zk_up_ap (l t : List Nat) : zk_up l (l ++ t) := fun m y h => by
  rw [List.getElem?_append_left (List.getElem?_eq_some_iff.mp h).1]
  exact h
theorem zk_up.len {a b : List Nat} (h : zk_up a b) : a.length ≤ b.length := by
  cases ha : a.length with
  | zero => exact Nat.zero_le _
  | succ n =>
    have h1 := h n _ (List.getElem?_eq_getElem (show n < a.length by omega))
    have := (List.getElem?_eq_some_iff.mp h1).1
    omega
def zk_sg (L : List Int32) (c sg ix : Int32) : Prop := ((48 ≤ c ∧ c ≤ 57) ∧ sg = 48 ∧ ix = c - 48) ∨ ((65 ≤ c ∧ c ≤ 70) ∧ sg = 65 ∧ ix = c - 65) ∨ (c = 110 ∧ sg = 110) ∨ ((97 ≤ c ∧ c ≤ 102) ∧ sg = 97 ∧ c ∈ L ∧ ix = nI (L.idxOf c)) ∨ (zv_p c ≠ 0 ∧ sg = c)
/-- an Expression stands for the first expression of w, at most n deep -/
def zk_X (ex : List zm_E) (L : List Int32) : Nat → List Int32 → Nat → Prop
  | 0, _, _ => False
  | n + 1, w, a => ∃ (c : Int32) (r : List Int32) (sg ix : Int32) (p1 p2 p3 : Value), w = c :: r ∧ ex[a]? = some (Sum.inr (7, [.int sg, .int ix, p1, p2, p3]) : zm_E) ∧ zk_sg L c sg ix ∧ (1 ≤ zv_p c → ∃ y, p1 = .ref (y + 37) ∧ zk_X ex L n r y) ∧ (2 ≤ zv_p c → ∃ y, p2 = .ref (y + 37) ∧ zk_X ex L n (zv_sk r 1) y) ∧ (3 ≤ zv_p c → ∃ y, p3 = .ref (y + 37) ∧ zk_X ex L n (zv_sk (zv_sk r 1) 1) y)
def zk_de (ex ex' : List zm_E) : Prop := ∀ (i k : Nat) (fs : List Value), (k = 6 ∨ k = 7) → ex[i]? = some (Sum.inr (k, fs) : zm_E) → ex'[i]? = some (Sum.inr (k, fs) : zm_E)
theorem zk_de.refl (ex : List zm_E) : zk_de ex ex := fun _ _ _ _ h => h
theorem zk_de.trans {a b c : List zm_E} (h : zk_de a b) (k : zk_de b c) : zk_de a c := fun i x fs hx e => k i x fs hx (h i x fs hx e)
theorem zk_de_ap (ex : List zm_E) (c : zm_E) : zk_de ex (zk_ap ex c) := fun _ _ _ _ h => zk_ap_old h
theorem zk_X_up {ex ex' : List zm_E} {L : List Int32} (h : zk_de ex ex') : ∀ (n : Nat) (w : List Int32) (a : Nat), zk_X ex L n w a → zk_X ex' L n w a := by
  intro n
  induction n with
  | zero => exact fun _ _ k => k
  | succ n ih =>
    rintro w a ⟨c, r, sg, ix, p1, p2, p3, h1, h2, h3, h4, h5, h6⟩
    refine ⟨c, r, sg, ix, p1, p2, p3, h1, h a 7 _ (Or.inr rfl) h2, h3, fun z => ?_, fun z => ?_, fun z => ?_⟩
    · obtain ⟨y, e1, e2⟩ := h4 z; exact ⟨y, e1, ih _ _ e2⟩
    · obtain ⟨y, e1, e2⟩ := h5 z; exact ⟨y, e1, ih _ _ e2⟩
    · obtain ⟨y, e1, e2⟩ := h6 z; exact ⟨y, e1, ih _ _ e2⟩
/-- ARGUMENTS, the last first -/
def zk_ch (ex : List zm_E) (ca ka : List Nat) (na : Nat) : List Nat → Value → Prop
  | [], x => x = .null
  | c :: l, x => ∃ (y m p : Nat) (b : Value), l.length ≤ 4 ∧ x = .ref (y + 37) ∧ m < na ∧ ka[m]? = some y ∧ ca[c]? = some p ∧ ex[y]? = some (Sum.inr (9, [b, .ref (p + 37), .int (nI (l.length + 1))]) : zm_E) ∧ zk_ch ex ca ka na l b
theorem zk_ch_len {ex : List zm_E} {ca ka : List Nat} {na : Nat} {l : List Nat} {x : Value} (h : zk_ch ex ca ka na l x) : l.length ≤ 5 := by
  cases l with
  | nil => exact Nat.zero_le _
  | cons c l =>
    obtain ⟨y, m, p, b, h0, _⟩ := h
    exact Nat.succ_le_succ h0
def zk_V (ex : List zm_E) (va ca ka : List Nat) (nv na : Nat) (v : zv_V) (u : Nat) : Prop := (v.1 = 1 ∧ u = 7) ∨ ∃ (m y : Nat) (x h t a : Value), m < nv ∧ va[m]? = some y ∧ u = y + 37 ∧ ex[y]? = some (Sum.inr (3, [.int v.1, x, h, t, a]) : zm_E) ∧
  ((v.1 = 0 ∧ x = .int v.2.1) ∨ (v.1 = 2 ∧ (∃ p, ca[v.2.2.1]? = some p ∧ h = .ref (p + 37)) ∧ ∃ p, ca[v.2.2.2.1]? = some p ∧ t = .ref (p + 37)) ∨ (v.1 = 3 ∧ x = .int v.2.1 ∧ zk_ch ex ca ka na v.2.2.2.2.reverse a))
def zk_so (ex : List zm_E) (va ca ka : List Nat) (nv na : Nat) (o : Option (Option zv_V)) (b : Int32) (u : Value) : Prop := match o with
  | none => b = 0 ∧ u = .null
  | some none => b = 1 ∧ u = .null
  | some (some v) => b = 1 ∧ ∃ a, u = .ref a ∧ zk_V ex va ca ka nv na v a
def zk_clo (ex : List zm_E) (va ca ka : List Nat) (nv na c : Nat) (x : zv_C) : Prop := ∃ (y xa n : Nat) (ch : Value) (b : Int32) (u : Value), ca[c]? = some y ∧ ex[y]? = some (Sum.inr (8, [.ref (xa + 37), ch, .int b, u]) : zm_E) ∧ zk_X ex x.1.2.1 n x.1.1 xa ∧ zk_ch ex ca ka na x.1.2.2.reverse ch ∧ zk_so ex va ca ka nv na x.2 b u
def zk_St (ex : List zm_E) (s : Nat → Int32) (va ca ka : List Nat) (σ : zv_S) : Prop := (s 0 = nI σ.2.1 ∧ s 11 = nI σ.2.2.2 ∧ s 12 = nI σ.1.length ∧ s 13 = nI σ.2.2.1) ∧ (σ.2.2.2 ≤ va.length ∧ σ.1.length ≤ ca.length ∧ σ.2.2.1 ≤ ka.length) ∧ ∀ c x, σ.1[c]? = some x → zk_clo ex va ca ka σ.2.2.2 σ.2.2.1 c x
def zk_D (ex : List zm_E) (df : Nat → Option Nat) (D : zv_D) : Prop := ∀ k, k < 6 → (D k = none → df k = none) ∧ ∀ L b, D k = some (L, b) → ∃ (y xa n : Nat), df k = some (y + 37) ∧ ex[y]? = some (Sum.inr (6, [.int (nI k), .int (nI L.length), .ref (xa + 37)]) : zm_E) ∧ zk_X ex L n b xa
theorem zk_D_up {ex ex' : List zm_E} {df : Nat → Option Nat} {D : zv_D} (h : zk_de ex ex') (k : zk_D ex df D) : zk_D ex' df D := fun i hi => ⟨(k i hi).1, fun L b e => by
  obtain ⟨y, xa, n, h1, h2, h3⟩ := (k i hi).2 L b e
  exact ⟨y, xa, n, h1, h y 6 _ (Or.inl rfl) h2, zk_X_up h _ _ _ h3⟩⟩
/-- what stays: of the first nv values and the first na ARGUMENTS everything -/
def zk_P (ex : List zm_E) (va ca ka : List Nat) (nv na : Nat) (ex' : List zm_E) (va' ca' ka' : List Nat) : Prop := (zk_up va va' ∧ zk_up ca ca' ∧ zk_up ka ka') ∧ zk_de ex ex' ∧ (∀ m y, m < nv → va[m]? = some y → ex'[y]? = ex[y]?) ∧ ∀ m y, m < na → ka[m]? = some y → ex'[y]? = ex[y]?
theorem zk_P.refl (ex : List zm_E) (va ca ka : List Nat) (nv na : Nat) : zk_P ex va ca ka nv na ex va ca ka := ⟨⟨zk_up.refl _, zk_up.refl _, zk_up.refl _⟩, zk_de.refl _, fun _ _ _ _ => rfl, fun _ _ _ _ => rfl⟩
theorem zk_P.trans {ex : List zm_E} {va ca ka : List Nat} {nv na : Nat} {ex' : List zm_E} {va' ca' ka' : List Nat} {nv' na' : Nat} {ex'' : List zm_E} {va'' ca'' ka'' : List Nat} (h : zk_P ex va ca ka nv na ex' va' ca' ka') (k : zk_P ex' va' ca' ka' nv' na' ex'' va'' ca'' ka'') (h1 : nv ≤ nv') (h2 : na ≤ na') : zk_P ex va ca ka nv na ex'' va'' ca'' ka'' := by
  obtain ⟨⟨a1, a2, a3⟩, a4, a5, a6⟩ := h
  obtain ⟨⟨b1, b2, b3⟩, b4, b5, b6⟩ := k
  exact ⟨⟨a1.trans b1, a2.trans b2, a3.trans b3⟩, a4.trans b4, fun m y hm e => (b5 m y (by omega) (a1 m y e)).trans (a5 m y hm e), fun m y hm e => (b6 m y (by omega) (a3 m y e)).trans (a6 m y hm e)⟩
section ZKP
variable {ex : List zm_E} {va ca ka : List Nat} {nv na : Nat} {ex' : List zm_E} {va' ca' ka' : List Nat} {nv' na' : Nat}
theorem zk_ch_up (h : zk_P ex va ca ka nv na ex' va' ca' ka') (hn : na ≤ na') : ∀ (l : List Nat) (x : Value), zk_ch ex ca ka na l x → zk_ch ex' ca' ka' na' l x := by
  intro l
  induction l with
  | nil => exact fun _ k => k
  | cons c l ih =>
    rintro x ⟨y, m, p, b, e0, e1, e2, e3, e4, e5, e6⟩
    obtain ⟨⟨a1, a2, a3⟩, a4, a5, a6⟩ := h
    exact ⟨y, m, p, b, e0, e1, by omega, a3 m y e3, a2 c p e4, (a6 m y e2 e3).trans e5, ih b e6⟩
theorem zk_V_up (h : zk_P ex va ca ka nv na ex' va' ca' ka') (hv : nv ≤ nv') (hn : na ≤ na') {v : zv_V} {u : Nat} (k : zk_V ex va ca ka nv na v u) : zk_V ex' va' ca' ka' nv' na' v u := by
  rcases k with k | ⟨m, y, x, hh, t, a, e1, e2, e3, e4, e5⟩
  · exact Or.inl k
  · have h' := h
    obtain ⟨⟨a1, a2, a3⟩, a4, a5, a6⟩ := h
    refine Or.inr ⟨m, y, x, hh, t, a, by omega, a1 m y e2, e3, (a5 m y e1 e2).trans e4, ?_⟩
    rcases e5 with e | ⟨z1, ⟨p, z2, z3⟩, ⟨p', z4, z5⟩⟩ | ⟨z1, z2, z3⟩
    · exact Or.inl e
    · exact Or.inr (Or.inl ⟨z1, ⟨p, a2 _ _ z2, z3⟩, ⟨p', a2 _ _ z4, z5⟩⟩)
    · exact Or.inr (Or.inr ⟨z1, z2, zk_ch_up h' hn _ _ z3⟩)
theorem zk_so_up (h : zk_P ex va ca ka nv na ex' va' ca' ka') (hv : nv ≤ nv') (hn : na ≤ na') {o : Option (Option zv_V)} {b : Int32} {u : Value} (k : zk_so ex va ca ka nv na o b u) : zk_so ex' va' ca' ka' nv' na' o b u := by
  cases o with
  | none => exact k
  | some o =>
    cases o with
    | none => exact k
    | some v =>
      obtain ⟨k1, a, k2, k3⟩ := k
      exact ⟨k1, a, k2, zk_V_up h hv hn k3⟩
theorem zk_clo_up (h : zk_P ex va ca ka nv na ex' va' ca' ka') (hv : nv ≤ nv') (hn : na ≤ na') {c : Nat} {x : zv_C} (hc : ∀ y, ca[c]? = some y → ex'[y]? = ex[y]?) (k : zk_clo ex va ca ka nv na c x) : zk_clo ex' va' ca' ka' nv' na' c x := by
  obtain ⟨y, xa, n, ch, b, u, e1, e2, e3, e4, e5⟩ := k
  exact ⟨y, xa, n, ch, b, u, h.1.2.1 c y e1, (hc y e1).trans e2, zk_X_up h.2.1 _ _ _ e3, zk_ch_up h hn _ _ e4, zk_so_up h hv hn e5⟩
end ZKP
/-! the lists' state: B, S what else there may be -/
def zk_I (B S : Nat) (ex : List zm_E) (sl : Nat) (s : Nat → Int32) (el : Nat → Nat) (va ca ka : List Nat) (q : Nat × Nat × Nat) : Prop :=
  (zk_al 3 ex (el 0) va q.1 ∧ zk_al 8 ex (el 1) ca q.2.1 ∧ zk_al 9 ex (el 2) ka q.2.2) ∧ (s 14 = nI va.length ∧ s 16 = nI ca.length ∧ s 18 = nI ka.length) ∧ (va.Nodup ∧ ca.Nodup ∧ ka.Nodup) ∧ ((el 0 = el 1 → el 0 = 1) ∧ (el 0 = el 2 → el 0 = 1) ∧ (el 1 = el 2 → el 1 = 1)) ∧
  (ex.length ≤ B + (va.length + ca.length + ka.length) + (q.1 + q.2.1 + q.2.2) ∧ sl ≤ S + 5 * (va.length + ca.length + ka.length) + 4 * (q.1 + q.2.1 + q.2.2)) ∧ (va.length ≤ 32080 ∧ ca.length ≤ 16040 ∧ ka.length ≤ 16040) ∧
  (∀ y fs, y ∈ va → ex[y]? = some (Sum.inr (3, fs) : zm_E) → fs.length = 5) ∧ (∀ y fs, y ∈ ca → ex[y]? = some (Sum.inr (8, fs) : zm_E) → fs.length = 4) ∧ (∀ y fs, y ∈ ka → ex[y]? = some (Sum.inr (9, fs) : zm_E) → fs.length = 3)
def zk_BS (B S : Nat) : Prop := B + 300000 ≤ zm_C ∧ S + 1200000 ≤ zm_S
theorem zk_al_cap {x : Nat} {ex : List zm_E} {e : Nat} {l : List Nat} {cap : Nat} (h : zk_al x ex e l cap) : cap ≤ 60000 := by
  obtain ⟨_, ⟨_, _, rfl⟩ | ⟨i, fn, h1, h2, h3, h4, h5, h6⟩⟩ := h
  · decide
  · exact h5
theorem zk_I_room {B S : Nat} {ex : List zm_E} {sl : Nat} {s : Nat → Int32} {el : Nat → Nat} {va ca ka : List Nat} {q : Nat × Nat × Nat} (hB : zk_BS B S) (h : zk_I B S ex sl s el va ca ka q) : ex.length + 1000 ≤ zm_C ∧ sl + 100000 ≤ zm_S := by
  obtain ⟨⟨a1, a2, a3⟩, _, _, _, ⟨b1, b2⟩, ⟨c1, c2, c3⟩, _⟩ := h
  have := zk_al_cap a1
  have := zk_al_cap a2
  have := zk_al_cap a3
  obtain ⟨d1, d2⟩ := hB
  omega
theorem zk_I_r {B S : Nat} {ex : List zm_E} {sl : Nat} {s : Nat → Int32} {el : Nat → Nat} {va ca ka : List Nat} {q : Nat × Nat × Nat} (hB : zk_BS B S) (h : zk_I B S ex sl s el va ca ka q) : zr_r ex sl := by
  obtain ⟨h1, h2⟩ := zk_I_room hB h
  exact ⟨by omega, by omega⟩
/-- one more thing that is of no list -/
theorem zk_al_ap {x : Nat} {ex : List zm_E} {e : Nat} {l : List Nat} {cap : Nat} (c : zm_E) (h : zk_al x ex e l cap) : zk_al x (zk_ap ex c) e l cap := by
  obtain ⟨h0, h⟩ := h
  refine ⟨fun y hy => ?_, ?_⟩
  · obtain ⟨fs, k⟩ := h0 y hy
    exact ⟨fs, zk_ap_old k⟩
  · rcases h with h | ⟨i, fn, h1, h2, h3⟩
    · exact Or.inl h
    · exact Or.inr ⟨i, fn, h1, zk_ap_old h2, h3⟩
theorem zk_sh_ap {x k : Nat} {ex : List zm_E} {e : Nat} {l : List Nat} {cap : Nat} {c : zm_E} (h : zk_al x ex e l cap) (hs : ∀ y fs, y ∈ l → ex[y]? = some (Sum.inr (x, fs) : zm_E) → fs.length = k) : ∀ y fs, y ∈ l → (zk_ap ex c)[y]? = some (Sum.inr (x, fs) : zm_E) → fs.length = k := fun y fs hy hz => by
  obtain ⟨fs', hk⟩ := h.1 y hy
  have h1 := zk_ap_old (c := c) hk
  rw [h1] at hz
  cases Option.some.inj hz
  exact hs y _ hy hk
theorem zk_I_ap {B S : Nat} {ex : List zm_E} {sl : Nat} {s : Nat → Int32} {el : Nat → Nat} {va ca ka : List Nat} {q : Nat × Nat × Nat} (c : zm_E) (n : Nat) (h : zk_I B S ex sl s el va ca ka q) : zk_I (B + 1) (S + n) (zk_ap ex c) (sl + n) s el va ca ka q := by
  obtain ⟨⟨a1, a2, a3⟩, h2, h3, h4, ⟨b1, b2⟩, h6, h7, h8, h9⟩ := h
  refine ⟨⟨zk_al_ap c a1, zk_al_ap c a2, zk_al_ap c a3⟩, h2, h3, h4, ⟨?_, by omega⟩, h6, zk_sh_ap a1 h7, zk_sh_ap a2 h8, zk_sh_ap a3 h9⟩
  rw [zk_ap_len]
  omega
/-- a thing is written -/
theorem zk_al_set {x x' : Nat} {ex : List zm_E} {e : Nat} {l : List Nat} {cap y : Nat} {fs : List Value} (fs' : List Value) (hy : ex[y]? = some (Sum.inr (x', fs) : zm_E)) (h : zk_al x ex e l cap) : zk_al x (ex.set y (Sum.inr (x', fs') : zm_E)) e l cap := by
  obtain ⟨h0, h⟩ := h
  refine ⟨fun z hz => ?_, ?_⟩
  · obtain ⟨gs, k⟩ := h0 z hz
    by_cases e : y = z
    · subst e
      rw [hy] at k
      cases Option.some.inj k
      exact ⟨fs', List.getElem?_set_self (List.getElem?_eq_some_iff.mp hy).1⟩
    · exact ⟨gs, by rw [List.getElem?_set_ne e]; exact k⟩
  · rcases h with h | ⟨i, fn, h1, h2, h3⟩
    · exact Or.inl h
    · refine Or.inr ⟨i, fn, h1, ?_, h3⟩
      rw [List.getElem?_set_ne (fun e => by subst e; rw [hy] at h2; cases h2)]
      exact h2
theorem zk_sh_set {x x' k : Nat} {ex : List zm_E} {l : List Nat} {y : Nat} {fs fs' : List Value} (hy : ex[y]? = some (Sum.inr (x', fs) : zm_E)) (hl : fs'.length = fs.length) (hs : ∀ y fs, y ∈ l → ex[y]? = some (Sum.inr (x, fs) : zm_E) → fs.length = k) : ∀ z gs, z ∈ l → (ex.set y (Sum.inr (x', fs') : zm_E))[z]? = some (Sum.inr (x, gs) : zm_E) → gs.length = k := fun z gs hz hg => by
  by_cases e : y = z
  · subst e
    rw [List.getElem?_set_self (List.getElem?_eq_some_iff.mp hy).1] at hg
    cases Option.some.inj hg
    rw [hl]
    exact hs y fs hz hy
  · rw [List.getElem?_set_ne e] at hg
    exact hs z gs hz hg
theorem zk_I_set {B S : Nat} {ex : List zm_E} {sl : Nat} {s : Nat → Int32} {el : Nat → Nat} {va ca ka : List Nat} {q : Nat × Nat × Nat} {x' y : Nat} {fs : List Value} (fs' : List Value) (hy : ex[y]? = some (Sum.inr (x', fs) : zm_E)) (hl : fs'.length = fs.length) (h : zk_I B S ex sl s el va ca ka q) : zk_I B S (ex.set y (Sum.inr (x', fs') : zm_E)) sl s el va ca ka q := by
  obtain ⟨⟨a1, a2, a3⟩, h2, h3, h4, h5, h6, h7, h8, h9⟩ := h
  refine ⟨⟨zk_al_set _ hy a1, zk_al_set _ hy a2, zk_al_set _ hy a3⟩, h2, h3, h4, ?_, h6, zk_sh_set hy hl h7, zk_sh_set hy hl h8, zk_sh_set hy hl h9⟩
  rw [List.length_set]
  exact h5
/-- scalars -/
theorem zk_I_s {B S : Nat} {ex : List zm_E} {sl : Nat} {s s' : Nat → Int32} {el : Nat → Nat} {va ca ka : List Nat} {q : Nat × Nat × Nat} (h1 : s' 14 = s 14) (h2 : s' 16 = s 16) (h3 : s' 18 = s 18) (h : zk_I B S ex sl s el va ca ka q) : zk_I B S ex sl s' el va ca ka q := by
  obtain ⟨a, ⟨b1, b2, b3⟩, c⟩ := h
  exact ⟨a, ⟨h1.trans b1, h2.trans b2, h3.trans b3⟩, c⟩
/-- of a list that did not grow -/
theorem zk_al_other {x : Nat} {ex ex' : List zm_E} {e e' e2 : Nat} {l : List Nat} {cap cap' c2 sl sl' : Nat} (h : zk_al x ex e2 l c2) (g : zk_gr ex ex' e e' cap cap' sl sl') (hne : e = e2 → e = 1) : zk_al x ex' e2 l c2 := by
  obtain ⟨h0, h⟩ := h
  refine ⟨fun y hy => ?_, ?_⟩
  · obtain ⟨fs, k⟩ := h0 y hy
    exact ⟨fs, g.1 y _ k⟩
  · rcases h with h | ⟨i, fn, h1, h2, h3⟩
    · exact Or.inl h
    · exact Or.inr ⟨i, fn, h1, g.2.1 i _ rfl h2 (fun z => by have := hne (z.trans h1.symm); omega), h3⟩
theorem zk_ne_other {x : Nat} {ex ex' : List zm_E} {e e' e2 : Nat} {l : List Nat} {cap cap' c2 sl sl' : Nat} (h : zk_al x ex e2 l c2) (g : zk_gr ex ex' e e' cap cap' sl sl') (hne : e = e2 → e = 1) : e' = e2 → e' = 1 := by
  rcases g.2.2.1 with k | k
  · rw [k]; exact hne
  · intro z
    obtain ⟨h0, h⟩ := h
    rcases h with h | ⟨i, fn, h1, h2, h3⟩
    · rw [z]; exact h.1
    · have := (List.getElem?_eq_some_iff.mp h2).1
      omega
theorem zk_sh_gr {x k : Nat} {ex ex' : List zm_E} {e e' : Nat} {l : List Nat} {cap cap' sl sl' : Nat} (h : ∀ y ∈ l, ∃ fs, ex[y]? = some (Sum.inr (x, fs) : zm_E)) (g : zk_gr ex ex' e e' cap cap' sl sl') (hs : ∀ y fs, y ∈ l → ex[y]? = some (Sum.inr (x, fs) : zm_E) → fs.length = k) : ∀ y fs, y ∈ l → ex'[y]? = some (Sum.inr (x, fs) : zm_E) → fs.length = k := fun y fs hy hz => by
  obtain ⟨fs', hk⟩ := h y hy
  rw [g.1 y _ hk] at hz
  cases Option.some.inj hz
  exact hs y _ hy hk
theorem zk_nd_ap {x : Nat} {ex : List zm_E} {l : List Nat} (h : ∀ y ∈ l, ∃ fs, ex[y]? = some (Sum.inr (x, fs) : zm_E)) (hn : l.Nodup) : (l ++ [ex.length]).Nodup := by
  refine List.nodup_append.mpr ⟨hn, List.nodup_cons.mpr ⟨List.not_mem_nil, List.nodup_nil⟩, fun a ha b hb e => ?_⟩
  rw [List.mem_singleton] at hb
  subst hb; subst e
  obtain ⟨fs, k⟩ := h _ ha
  have := (List.getElem?_eq_some_iff.mp k).1
  omega
/-- what was there and is no list's array stays when a thing is made and put into a list -/
def zk_fr (ex ex' : List zm_E) (y : Nat) : Prop := ∀ (i : Nat) (q : Nat × List Value), i ≠ y → ex[i]? = some (Sum.inr q : zm_E) → ex'[i]? = some (Sum.inr q : zm_E)
theorem zk_fr_set {ex ex' : List zm_E} {y : Nat} (z : zm_E) (h : zk_fr ex ex' y) : zk_fr ex (ex'.set y z) y := fun i q hi e => by
  rw [List.getElem?_set_ne (fun z => hi z.symm)]
  exact h i q hi e

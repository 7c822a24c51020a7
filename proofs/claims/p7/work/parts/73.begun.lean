/-! WHAT IS BEGUN AND NOT DONE was so before -/
def zv_nb (s s' : zv_S) : Prop := ∀ (c : Nat) (t : List Int32 × List Int32 × List Nat), s'.1[c]? = some (t, some none) → s.1[c]? = some (t, some none)
theorem zv_nb.refl (s : zv_S) : zv_nb s s := fun _ _ h => h
theorem zv_nb.trans {a b c : zv_S} (h : zv_nb a b) (k : zv_nb b c) : zv_nb a c := fun x t hx => h x t (k x t hx)
def zv_Eb (E : zv_Ev) : Prop := ∀ w L A s v s', E w L A s = (.inr v, s') → zv_nb s s'
theorem zv_B_nb {s : zv_S} {x : zv_O} {f : zv_V → zv_S → zv_O} {v : zv_V} {s' : zv_S} (hx : ∀ u s1, x = (.inr u, s1) → zv_nb s s1) (hf : ∀ u s1, f u s1 = (.inr v, s') → zv_nb s1 s') (h : zv_B x f = (.inr v, s')) : zv_nb s s' := by
  obtain ⟨r, s1⟩ := x
  cases r with
  | inl e => cases h
  | inr u => exact (hx u s1 rfl).trans (hf u s1 h)
theorem zv_cl_nb (w L : List Int32) (A : List Nat) (s : zv_S) : zv_nb s (zv_cl w L A s).2 := by
  intro c t h
  unfold zv_cl at h
  cases w with
  | nil => exact h
  | cons x r =>
    dsimp only at h
    split at h
    · exact h
    · have h : (s.1 ++ [((x :: r, L, A), none)])[c]? = some (t, some none) := h
      by_cases hl : c < s.1.length
      · rw [List.getElem?_append_left hl] at h; exact h
      · have hm := List.mem_of_getElem? h
        rw [List.getElem?_append_right (by omega)] at h
        have hm := List.mem_of_getElem? h
        rw [List.mem_singleton] at hm
        cases hm
theorem zv_F_nb {E : zv_Ev} (hE : zv_Eb E) {c : Nat} {s : zv_S} {v : zv_V} {s' : zv_S} (h : zv_F E c s = (.inr v, s')) : zv_nb s s' := by
  unfold zv_F at h
  cases hc : s.1[c]? with
  | none => rw [hc] at h; cases h
  | some x =>
    obtain ⟨t, st⟩ := x
    rw [hc] at h
    cases st with
    | some o =>
      cases o with
      | some u => cases h; exact zv_nb.refl s
      | none => cases h
    | none =>
      dsimp only at h
      generalize hy : E t.1 t.2.1 t.2.2 (zv_st s (s.1.set c (t, some none))) = y at h
      obtain ⟨r, s1⟩ := y
      cases r with
      | inl e => cases h
      | inr u =>
        cases h
        have h1 := hE _ _ _ _ _ _ hy
        intro x q hx
        have hx : (s1.1.set c (t, some (some v)))[x]? = some (q, some none) := hx
        have hne : c ≠ x := by
          intro e
          subst e
          rw [List.getElem?_set] at hx
          simp only [if_true] at hx
          split at hx
          · cases hx
          · cases hx
        rw [List.getElem?_set_ne hne] at hx
        have h2 : (s.1.set c (t, some none))[x]? = some (q, some none) := h1 x q hx
        rw [List.getElem?_set_ne hne] at h2
        exact h2
theorem zv_K_nb {E : zv_Ev} (hE : zv_Eb E) {b L : List Int32} {A : List Nat} {s : zv_S} {v : zv_V} {s' : zv_S} (h : zv_K E b L A s = (.inr v, s')) : zv_nb s s' := by
  unfold zv_K at h
  split at h
  · cases h
  · have := hE _ _ _ (zv_c s) _ _ h
    exact this
theorem zv_G_nb {D : zv_D} {E : zv_Ev} (hE : zv_Eb E) {c : Int32} {r L : List Int32} {A : List Nat} {u : zv_V} {s : zv_S} {v : zv_V} {s' : zv_S} (h : zv_G D E c r L A u s = (.inr v, s')) : zv_nb s s' := by
  unfold zv_G at h
  split at h
  · unfold zv_A at h
    split at h
    · split at h
      · cases h
      · split at h
        · cases h; exact zv_cl_nb _ _ _ _
        · exact (zv_cl_nb _ _ _ _).trans (zv_K_nb (s := zv_a _) hE h)
    · cases h
  split at h
  · split at h
    · cases h; exact zv_nb.refl s
    · split at h
      · cases h; exact zv_nb.refl s
      · cases h
  split at h
  · split at h
    · cases h
    · split at h
      · exact zv_F_nb hE h
      · cases h
  split at h
  · split at h
    · exact hE _ _ _ _ _ _ h
    · refine zv_B_nb (fun u s1 hu => hE _ _ _ _ _ _ hu) (fun u s1 hu => ?_) h
      unfold zv_R at hu
      split at hu
      · split at hu
        · cases hu
        · cases hu; exact zv_nb.refl s1
      · cases hu
  · cases h
theorem zv_E_nb (D : zv_D) : ∀ n, zv_Eb (zv_E D n) := by
  intro n
  induction n with
  | zero => intro w L A s v s' h; cases h
  | succ n ih =>
    intro w L A s v s' h
    unfold zv_E at h
    cases w with
    | nil => cases h
    | cons c r =>
      dsimp only at h
      split at h
      · cases h; exact zv_nb.refl s
      split at h
      · cases h; exact zv_nb.refl s
      split at h
      · exact zv_F_nb ih h
      split at h
      · unfold zv_N at h
        split at h
        · cases h
        · split at h
          · exact zv_K_nb ih h
          · cases h; exact zv_nb.refl s
      split at h
      · cases h
        exact (zv_cl_nb _ _ _ _).trans (zv_cl_nb _ _ _ _)
      · exact zv_B_nb (fun u s1 hu => ih _ _ _ _ _ _ hu) (fun u s1 hu => zv_G_nb ih hu) h

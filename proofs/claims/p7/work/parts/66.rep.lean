/-! THE REFERENCE'S STATE, AND WHAT ITS LOOP DOES -/
def zr_val (a : Nat → Nat → Int32) (n : Nat) (k x y : Int32) (v : zv_V) : Prop := k = v.1 ∧ ((v.1 = 0 ∧ x = v.2.1) ∨ v.1 = 1 ∨ (v.1 = 2 ∧ x = nI v.2.2.1 ∧ y = nI v.2.2.2.1) ∨ (v.1 = 3 ∧ x = v.2.1 ∧ zr_ch a n y v.2.2.2.2.reverse))
def zr_sta (a : Nat → Nat → Int32) (n : Nat) (c : Nat) (o : Option (Option zv_V)) : Prop := match o with
  | none => a 10 c = 0
  | some none => a 10 c = 1
  | some (some v) => a 10 c = 2 ∧ zr_val a n (a 11 c) (a 12 c) (a 13 c) v
def zr_clo (M : Nat) (a : Nat → Nat → Int32) (K n c : Nat) (x : zv_C) : Prop := (∃ p e, a 8 c = nI p ∧ a 9 c = nI e ∧ zr_tx M (a 1) p x.1.1 ∧ zr_env a e x.1.2.1 x.1.2.2 ∧ (e < K ∨ x.1.2.1 = [])) ∧ zr_sta a n c x.2
def zr_def (M : Nat) (a : Nat → Nat → Int32) (D : zv_D) : Prop := ∀ k, k < 6 → (D k = none → a 7 k = 0) ∧ ∀ L b, D k = some (L, b) → a 7 k = 1 ∧ a 5 k = nI L.length ∧ (∃ p, a 3 k = nI p ∧ zr_tx M (a 1) p b) ∧ ∀ i x, L[i]? = some x → a 4 (4 * k + i) = x
def zr_St (M : Nat) (σ : zv_S) (s : Nat → Int32) (a : Nat → Nat → Int32) : Prop := s 23 = nI σ.1.length ∧ s 24 = nI σ.2.1 ∧ s 33 = nI σ.2.1 ∧ s 25 = nI σ.2.2.1 ∧ ∀ c x, σ.1[c]? = some x → zr_clo M a σ.2.1 σ.2.2.1 c x
/-- what working out leaves as it is -/
def zr_kp (s : Nat → Int32) (a : Nat → Nat → Int32) (s' : Nat → Int32) (a' : Nat → Nat → Int32) : Prop := (∀ k, k ≤ 7 → a' k = a k) ∧ ∀ k, (8 ≤ k ∧ k ≤ 11) ∨ 40 ≤ k → s' k = s k
def zr_fm (D B : Nat) (a a' : Nat → Nat → Int32) : Prop := (∀ j, j ≤ D → a' 18 j = a 18 j ∧ a' 19 j = a 19 j ∧ a' 20 j = a 20 j ∧ a' 21 j = a 21 j ∧ a' 22 j = a 22 j) ∧ ∀ q, q < 4 * B → a' 14 q = a 14 q ∧ a' 15 q = a 15 q
def zr_out (M : Nat) (x : zv_O) (D B : Nat) (s : Nat → Int32) (a : Nat → Nat → Int32) (s' : Nat → Int32) (a' : Nat → Nat → Int32) : Prop := zr_kp s a s' a' ∧ match x.1 with
  | .inl e => s' 12 = nI e ∧ (e = 2 ∨ e = 3 ∨ e = 4 ∨ e = 5)
  | .inr v => s' 12 = 0 ∧ s' 31 = nI D ∧ zr_St M x.2 s' a' ∧ zr_val a' x.2.2.2.1 (s' 37) (s' 38) (s' 39) v ∧ zr_fm D B a a'
theorem zr_kp.trans {s s' s2 : Nat → Int32} {a a' a2 : Nat → Nat → Int32} (h : zr_kp s a s' a') (k : zr_kp s' a' s2 a2) : zr_kp s a s2 a2 := ⟨fun q hq => (k.1 q hq).trans (h.1 q hq), fun q hq => (k.2 q hq).trans (h.2 q hq)⟩
theorem zr_fm.trans {D B : Nat} {a a' a2 : Nat → Nat → Int32} (h : zr_fm D B a a') (k : zr_fm D B a' a2) : zr_fm D B a a2 := ⟨fun j hj => ⟨(k.1 j hj).1.trans (h.1 j hj).1, (k.1 j hj).2.1.trans (h.1 j hj).2.1, (k.1 j hj).2.2.1.trans (h.1 j hj).2.2.1, (k.1 j hj).2.2.2.1.trans (h.1 j hj).2.2.2.1, (k.1 j hj).2.2.2.2.trans (h.1 j hj).2.2.2.2⟩, fun q hq => ⟨(k.2 q hq).1.trans (h.2 q hq).1, (k.2 q hq).2.trans (h.2 q hq).2⟩⟩
theorem zr_fm.down {D E B B' : Nat} {a a' : Nat → Nat → Int32} (h : zr_fm D B a a') (hE : E ≤ D) (hB : B' ≤ B) : zr_fm E B' a a' := ⟨fun j hj => h.1 j (Nat.le_trans hj hE), fun q hq => h.2 q (by omega)⟩
theorem zr_val.up {a a' : Nat → Nat → Int32} {n n' : Nat} (hn : n ≤ n') (h : ∀ q, q < n → a' 16 q = a 16 q ∧ a' 17 q = a 17 q) {k x y : Int32} {v : zv_V} (hv : zr_val a n k x y v) : zr_val a' n' k x y v := by
  obtain ⟨h0, h1 | h1 | h1 | h1⟩ := hv
  · exact ⟨h0, Or.inl h1⟩
  · exact ⟨h0, Or.inr (Or.inl h1)⟩
  · exact ⟨h0, Or.inr (Or.inr (Or.inl h1))⟩
  · exact ⟨h0, Or.inr (Or.inr (Or.inr ⟨h1.1, h1.2.1, zr_ch.up hn h h1.2.2⟩))⟩
theorem zr_env.up {a a' : Nat → Nat → Int32} {e : Nat} {L : List Int32} {A : List Nat} (h : L = [] ∨ ∀ i, i < 4 → a' 14 (4 * e + i) = a 14 (4 * e + i) ∧ a' 15 (4 * e + i) = a 15 (4 * e + i)) (he : zr_env a e L A) : zr_env a' e L A := by
  obtain ⟨h1, h2, h3⟩ := he
  refine ⟨h1, h2, fun i x hx => ?_⟩
  rcases h with h | h
  · subst h; cases hx
  · have hi := (List.getElem?_eq_some_iff.mp hx).1
    obtain ⟨z1, z2⟩ := h i (by omega)
    obtain ⟨g1, y, g2, g3⟩ := h3 i x hx
    exact ⟨z1.trans g1, y, g2, z2.trans g3⟩
theorem zr_clo.up {M : Nat} {a a' : Nat → Nat → Int32} {K K' n n' c : Nat} {x : zv_C} (hK : K ≤ K') (hn : n ≤ n') (h1 : a' 1 = a 1) (h8 : a' 8 c = a 8 c) (h9 : a' 9 c = a 9 c) (h10 : a' 10 c = a 10 c) (h11 : a' 11 c = a 11 c) (h12 : a' 12 c = a 12 c) (h13 : a' 13 c = a 13 c) (h14 : ∀ q, q < 4 * K → a' 14 q = a 14 q ∧ a' 15 q = a 15 q) (h16 : ∀ q, q < n → a' 16 q = a 16 q ∧ a' 17 q = a 17 q) (h : zr_clo M a K n c x) : zr_clo M a' K' n' c x := by
  obtain ⟨⟨p, e, g1, g2, g3, g4, g5⟩, g6⟩ := h
  refine ⟨⟨p, e, h8.trans g1, h9.trans g2, by rw [h1]; exact g3, zr_env.up ?_ g4, ?_⟩, ?_⟩
  · rcases g5 with g | g
    · exact Or.inr fun i hi => h14 _ (by omega)
    · exact Or.inl g
  · rcases g5 with g | g
    · exact Or.inl (by omega)
    · exact Or.inr g
  · obtain ⟨t, o⟩ := x
    cases o with
    | none => exact h10.trans g6
    | some o =>
      cases o with
      | none => exact h10.trans g6
      | some v =>
        have g6 : a 10 c = 2 ∧ zr_val a n (a 11 c) (a 12 c) (a 13 c) v := g6
        show a' 10 c = 2 ∧ zr_val a' n' (a' 11 c) (a' 12 c) (a' 13 c) v
        rw [h11, h12, h13]
        exact ⟨h10.trans g6.1, g6.2.up hn h16⟩
/-- arrays that no CLOSURE looks at -/
theorem zr_St.up {M : Nat} {σ : zv_S} {s s' : Nat → Int32} {a a' : Nat → Nat → Int32} (h : zr_St M σ s a) (h1 : s' 23 = s 23) (h2 : s' 24 = s 24) (h3 : s' 33 = s 33) (h4 : s' 25 = s 25) (h5 : ∀ k, k = 1 ∨ (8 ≤ k ∧ k ≤ 17) → a' k = a k) : zr_St M σ s' a' := by
  refine ⟨h1.trans h.1, h2.trans h.2.1, h3.trans h.2.2.1, h4.trans h.2.2.2.1, fun c x hx => ?_⟩
  have e := fun k hk => h5 k (Or.inr hk)
  exact zr_clo.up (Nat.le_refl _) (Nat.le_refl _) (h5 1 (Or.inl rfl)) (congrFun (e 8 (by omega)) c) (congrFun (e 9 (by omega)) c) (congrFun (e 10 (by omega)) c) (congrFun (e 11 (by omega)) c) (congrFun (e 12 (by omega)) c) (congrFun (e 13 (by omega)) c) (fun q _ => ⟨congrFun (e 14 (by omega)) q, congrFun (e 15 (by omega)) q⟩) (fun q _ => ⟨congrFun (e 16 (by omega)) q, congrFun (e 17 (by omega)) q⟩) (h.2.2.2.2 c x hx)
theorem zr_def.up {M : Nat} {D : zv_D} {a a' : Nat → Nat → Int32} (h : zr_def M a D) (k : ∀ q, q ≤ 7 → a' q = a q) : zr_def M a' D := by
  intro i hi
  rw [k 7 (by omega), k 5 (by omega), k 3 (by omega), k 1 (by omega), k 4 (by omega)]
  exact h i hi

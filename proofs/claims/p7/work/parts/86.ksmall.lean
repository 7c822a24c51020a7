/-! THE CLASS'S SMALL METHODS -/
theorem zk_nv_set {x u sz n y : Nat} {ex ex' : List zm_E} {s s' : Nat → Int32} {l l' : List Nat} (c : zm_E) (h : zk_nv x u sz ex s l n ex' s' l' y) : zk_nv x u sz ex s l n (ex'.set y c) s' l' y := ⟨h.1, h.2.1, zk_fr_set _ h.2.2.1, h.2.2.2⟩
theorem zk_ch_sh {ex : List zm_E} {ca ka : List Nat} {na : Nat} {l : List Nat} {x : Value} (h : zk_ch ex ca ka na l x) : x = .null ∨ ∃ z, x = .ref z := by
  cases l with
  | nil => exact Or.inl h
  | cons c l =>
    obtain ⟨y, m, p, b, h0, h1, _⟩ := h
    exact Or.inr ⟨_, h1⟩
section ZKM
variable {R : Nat → zm_E} {ex : List zm_E} {sl : Nat} {s : Nat → Int32} {r : Value} {el : Nat → Nat} {f g : Nat → Int32} {df : Nat → Option Nat} {N : zm_N} {d : Nat} {Q : zm_O → zm_H → Prop} {B S : Nat} {va ca ka : List Nat} {q : Nat × Nat × Nat} {σ : zv_S}
theorem zk_mkn (hB : zk_BS B S) (hR1 : R 1 = zk_em) (hd : 8 ≤ d) (h : zk_I B S ex sl s el va ca ka q) (hS : zk_St ex s va ca ka σ) (hb : σ.2.2.2 < 32080) (x : Int32) (K : ∀ z G, zk_OK B S R r f g df ex s va ca ka σ.2.2.2 σ.2.2.1 (zv_num x) (zv_v σ) z G → Q z G) : zm_J N d 38 0 [(0, .ref 6), (1, .int x)] [] (zk_H R ex sl s r el f g df) Q := by
  obtain ⟨d, rfl⟩ : ∃ e, d = e + 8 := ⟨d - 8, by omega⟩
  have hr := zk_I_r hB h
  refine zm_J_run zm_T 2 (pc' := 2) (lv' := [(0, .ref 6), (1, .int x)]) (st' := [.int 0, .ref 6]) (G' := (zk_H R ex sl s r el f g df)) rfl ?_
  refine zg_VK (a := 6) (av := [.int 0]) (rest := []) (zm_T.1 38 2 _ rfl).1 zc_38_2 rfl (Nat.le_of_ble_eq_true rfl) (Nat.le_of_ble_eq_true rfl) (zk_c hr) (zk_s hr) (zk_nxv (kd := 0) hB hR1 (by omega) h hS.1.2.1 hS.2.1.1 hb (fun ex' sl' s' el' l' q' y b c e g' h1 h2 h3 => ⟨_, rfl, ?_⟩))
  show zm_J N _ 38 5 [(0, .ref 6), (1, .int x)] [.ref (y + 37)] (zk_H R ex' sl' s' r el' f g df) _
  refine zm_J_run zm_T 3 (pc' := 8) (lv' := [(2, .ref (y + 37)), (0, .ref 6), (1, .int x)]) (st' := [.int x, .ref (y + 37)]) (G' := (zk_H R ex' sl' s' r el' f g df)) rfl ?_
  have hI2 := zk_I_set [.int 0, .int x, c, e, g'] h3 rfl h1
  obtain ⟨hP, hS2, ht⟩ := zk_mkv h hI2 hS (zk_nv_set _ h2)
  refine zg_pf (fs := [.int 0, b, c, e, g']) (G' := (zk_H R (ex'.set y (Sum.inr (3, [.int 0, .int x, c, e, g']) : zm_E)) sl' s' r el' f g df)) rfl (zk_at h3) (Nat.le_add_left 2 _) (Nat.le_of_ble_eq_true rfl) rfl rfl ?_
  refine zm_J_run zm_T 1 (pc' := 12) (lv' := [(2, .ref (y + 37)), (0, .ref 6), (1, .int x)]) (st' := [.ref (y + 37)]) (G' := (zk_H R (ex'.set y (Sum.inr (3, [.int 0, .int x, c, e, g']) : zm_E)) sl' s' r el' f g df)) rfl ?_
  exact zm_J_fin zm_T rfl rfl (K _ _ ⟨_, _, _, _, _, _, _, _, _, rfl, rfl, hI2, hP, hS2, Or.inr ⟨σ.2.2.2, y, .int x, c, e, g', Nat.lt_succ_self _, h2.2.1, rfl, zk_set_at _ h3, Or.inl ⟨rfl, rfl⟩⟩, ht, Nat.le_succ _, Nat.le_refl _⟩)
theorem zk_mkp (hB : zk_BS B S) (hR1 : R 1 = zk_em) (hd : 8 ≤ d) (h : zk_I B S ex sl s el va ca ka q) (hS : zk_St ex s va ca ka σ) (hb : σ.2.2.2 < 32080) {c1 c2 p1 p2 : Nat} (hc1 : ca[c1]? = some p1) (hc2 : ca[c2]? = some p2) (K : ∀ z G, zk_OK B S R r f g df ex s va ca ka σ.2.2.2 σ.2.2.1 (2, 0, c1, c2, []) (zv_v σ) z G → Q z G) : zm_J N d 50 0 [(0, .ref 6), (1, .ref (p1 + 37)), (2, .ref (p2 + 37))] [] (zk_H R ex sl s r el f g df) Q := by
  obtain ⟨d, rfl⟩ : ∃ e, d = e + 8 := ⟨d - 8, by omega⟩
  have hr := zk_I_r hB h
  refine zm_J_run zm_T 2 (pc' := 2) (lv' := [(0, .ref 6), (1, .ref (p1 + 37)), (2, .ref (p2 + 37))]) (st' := [.int 2, .ref 6]) (G' := (zk_H R ex sl s r el f g df)) rfl ?_
  refine zg_VK (a := 6) (av := [.int 2]) (rest := []) (zm_T.1 50 2 _ rfl).1 zc_50_2 rfl (Nat.le_of_ble_eq_true rfl) (Nat.le_of_ble_eq_true rfl) (zk_c hr) (zk_s hr) (zk_nxv (kd := 2) hB hR1 (by omega) h hS.1.2.1 hS.2.1.1 hb (fun ex' sl' s' el' l' q' y b c e g' h1 h2 h3 => ⟨_, rfl, ?_⟩))
  show zm_J N _ 50 5 [(0, .ref 6), (1, .ref (p1 + 37)), (2, .ref (p2 + 37))] [.ref (y + 37)] (zk_H R ex' sl' s' r el' f g df) _
  refine zm_J_run zm_T 3 (pc' := 8) (lv' := [(3, .ref (y + 37)), (0, .ref 6), (1, .ref (p1 + 37)), (2, .ref (p2 + 37))]) (st' := [.ref (p1 + 37), .ref (y + 37)]) (G' := (zk_H R ex' sl' s' r el' f g df)) rfl ?_
  have hI2 := zk_I_set [.int 2, b, .ref (p1 + 37), .ref (p2 + 37), g'] h3 rfl h1
  obtain ⟨hP, hS2, ht⟩ := zk_mkv h hI2 hS (zk_nv_set _ h2)
  have h4 := zk_set_at (Sum.inr (3, [.int 2, b, .ref (p1 + 37), e, g']) : zm_E) h3
  refine zg_pf (fs := [.int 2, b, c, e, g']) (G' := (zk_H R (ex'.set y (Sum.inr (3, [.int 2, b, .ref (p1 + 37), e, g']) : zm_E)) sl' s' r el' f g df)) rfl (zk_at h3) (Nat.le_add_left 2 _) (Nat.le_of_ble_eq_true rfl) rfl rfl ?_
  refine zm_J_run zm_T 2 (pc' := 13) (lv' := [(3, .ref (y + 37)), (0, .ref 6), (1, .ref (p1 + 37)), (2, .ref (p2 + 37))]) (st' := [.ref (p2 + 37), .ref (y + 37)]) (G' := (zk_H R (ex'.set y (Sum.inr (3, [.int 2, b, .ref (p1 + 37), e, g']) : zm_E)) sl' s' r el' f g df)) rfl ?_
  refine zg_pf (fs := [.int 2, b, .ref (p1 + 37), e, g']) (G' := (zk_H R (ex'.set y (Sum.inr (3, [.int 2, b, .ref (p1 + 37), .ref (p2 + 37), g']) : zm_E)) sl' s' r el' f g df)) rfl (zk_at h4) (Nat.le_add_left 2 _) (Nat.le_of_ble_eq_true rfl) rfl (zk_ss ..) ?_
  refine zm_J_run zm_T 1 (pc' := 17) (lv' := [(3, .ref (y + 37)), (0, .ref 6), (1, .ref (p1 + 37)), (2, .ref (p2 + 37))]) (st' := [.ref (y + 37)]) (G' := (zk_H R (ex'.set y (Sum.inr (3, [.int 2, b, .ref (p1 + 37), .ref (p2 + 37), g']) : zm_E)) sl' s' r el' f g df)) rfl ?_
  exact zm_J_fin zm_T rfl rfl (K _ _ ⟨_, _, _, _, _, _, _, _, _, rfl, rfl, hI2, hP, hS2, Or.inr ⟨σ.2.2.2, y, b, .ref (p1 + 37), .ref (p2 + 37), g', Nat.lt_succ_self _, h2.2.1, rfl, zk_set_at _ h3, Or.inr (Or.inl ⟨rfl, ⟨p1, hc1, rfl⟩, ⟨p2, hc2, rfl⟩⟩)⟩, ht, Nat.le_succ _, Nat.le_refl _⟩)
theorem zk_mkf (hB : zk_BS B S) (hR1 : R 1 = zk_em) (hd : 8 ≤ d) (h : zk_I B S ex sl s el va ca ka q) (hS : zk_St ex s va ca ka σ) (hb : σ.2.2.2 < 32080) {x : Int32} {A : List Nat} {ch : Value} (hA : zk_ch ex ca ka σ.2.2.1 A.reverse ch) (K : ∀ z G, zk_OK B S R r f g df ex s va ca ka σ.2.2.2 σ.2.2.1 (3, x, 0, 0, A) (zv_v σ) z G → Q z G) : zm_J N d 46 0 [(0, .ref 6), (1, .int x), (2, ch)] [] (zk_H R ex sl s r el f g df) Q := by
  obtain ⟨d, rfl⟩ : ∃ e, d = e + 8 := ⟨d - 8, by omega⟩
  have hr := zk_I_r hB h
  rcases zk_ch_sh hA with rfl | ⟨z, rfl⟩
  · refine zm_J_run zm_T 2 (pc' := 2) (lv' := [(0, .ref 6), (1, .int x), (2, .null)]) (st' := [.int 3, .ref 6]) (G' := (zk_H R ex sl s r el f g df)) rfl ?_
    refine zg_VK (a := 6) (av := [.int 3]) (rest := []) (zm_T.1 46 2 _ rfl).1 zc_46_2 rfl (Nat.le_of_ble_eq_true rfl) (Nat.le_of_ble_eq_true rfl) (zk_c hr) (zk_s hr) (zk_nxv (kd := 3) hB hR1 (by omega) h hS.1.2.1 hS.2.1.1 hb (fun ex' sl' s' el' l' q' y b c e g' h1 h2 h3 => ⟨_, rfl, ?_⟩))
    show zm_J N _ 46 5 [(0, .ref 6), (1, .int x), (2, .null)] [.ref (y + 37)] (zk_H R ex' sl' s' r el' f g df) _
    refine zm_J_run zm_T 3 (pc' := 8) (lv' := [(3, .ref (y + 37)), (0, .ref 6), (1, .int x), (2, .null)]) (st' := [.int x, .ref (y + 37)]) (G' := (zk_H R ex' sl' s' r el' f g df)) rfl ?_
    have hI2 := zk_I_set [.int 3, .int x, c, e, .null] h3 rfl h1
    obtain ⟨hP, hS2, ht⟩ := zk_mkv h hI2 hS (zk_nv_set _ h2)
    have h4 := zk_set_at (Sum.inr (3, [.int 3, .int x, c, e, g']) : zm_E) h3
    refine zg_pf (fs := [.int 3, b, c, e, g']) (G' := (zk_H R (ex'.set y (Sum.inr (3, [.int 3, .int x, c, e, g']) : zm_E)) sl' s' r el' f g df)) rfl (zk_at h3) (Nat.le_add_left 2 _) (Nat.le_of_ble_eq_true rfl) rfl rfl ?_
    refine zm_J_run zm_T 2 (pc' := 13) (lv' := [(3, .ref (y + 37)), (0, .ref 6), (1, .int x), (2, .null)]) (st' := [.null, .ref (y + 37)]) (G' := (zk_H R (ex'.set y (Sum.inr (3, [.int 3, .int x, c, e, g']) : zm_E)) sl' s' r el' f g df)) rfl ?_
    refine zg_pf (fs := [.int 3, .int x, c, e, g']) (G' := (zk_H R (ex'.set y (Sum.inr (3, [.int 3, .int x, c, e, .null]) : zm_E)) sl' s' r el' f g df)) rfl (zk_at h4) (Nat.le_add_left 2 _) (Nat.le_of_ble_eq_true rfl) rfl (zk_ss ..) ?_
    refine zm_J_run zm_T 1 (pc' := 17) (lv' := [(3, .ref (y + 37)), (0, .ref 6), (1, .int x), (2, .null)]) (st' := [.ref (y + 37)]) (G' := (zk_H R (ex'.set y (Sum.inr (3, [.int 3, .int x, c, e, .null]) : zm_E)) sl' s' r el' f g df)) rfl ?_
    exact zm_J_fin zm_T rfl rfl (K _ _ ⟨_, _, _, _, _, _, _, _, _, rfl, rfl, hI2, hP, hS2, Or.inr ⟨σ.2.2.2, y, .int x, c, e, .null, Nat.lt_succ_self _, h2.2.1, rfl, zk_set_at _ h3, Or.inr (Or.inr ⟨rfl, rfl, zk_ch_up hP (Nat.le_refl _) _ _ hA⟩)⟩, ht, Nat.le_succ _, Nat.le_refl _⟩)
  · refine zm_J_run zm_T 2 (pc' := 2) (lv' := [(0, .ref 6), (1, .int x), (2, .ref z)]) (st' := [.int 3, .ref 6]) (G' := (zk_H R ex sl s r el f g df)) rfl ?_
    refine zg_VK (a := 6) (av := [.int 3]) (rest := []) (zm_T.1 46 2 _ rfl).1 zc_46_2 rfl (Nat.le_of_ble_eq_true rfl) (Nat.le_of_ble_eq_true rfl) (zk_c hr) (zk_s hr) (zk_nxv (kd := 3) hB hR1 (by omega) h hS.1.2.1 hS.2.1.1 hb (fun ex' sl' s' el' l' q' y b c e g' h1 h2 h3 => ⟨_, rfl, ?_⟩))
    show zm_J N _ 46 5 [(0, .ref 6), (1, .int x), (2, .ref z)] [.ref (y + 37)] (zk_H R ex' sl' s' r el' f g df) _
    refine zm_J_run zm_T 3 (pc' := 8) (lv' := [(3, .ref (y + 37)), (0, .ref 6), (1, .int x), (2, .ref z)]) (st' := [.int x, .ref (y + 37)]) (G' := (zk_H R ex' sl' s' r el' f g df)) rfl ?_
    have hI2 := zk_I_set [.int 3, .int x, c, e, .ref z] h3 rfl h1
    obtain ⟨hP, hS2, ht⟩ := zk_mkv h hI2 hS (zk_nv_set _ h2)
    have h4 := zk_set_at (Sum.inr (3, [.int 3, .int x, c, e, g']) : zm_E) h3
    refine zg_pf (fs := [.int 3, b, c, e, g']) (G' := (zk_H R (ex'.set y (Sum.inr (3, [.int 3, .int x, c, e, g']) : zm_E)) sl' s' r el' f g df)) rfl (zk_at h3) (Nat.le_add_left 2 _) (Nat.le_of_ble_eq_true rfl) rfl rfl ?_
    refine zm_J_run zm_T 2 (pc' := 13) (lv' := [(3, .ref (y + 37)), (0, .ref 6), (1, .int x), (2, .ref z)]) (st' := [.ref z, .ref (y + 37)]) (G' := (zk_H R (ex'.set y (Sum.inr (3, [.int 3, .int x, c, e, g']) : zm_E)) sl' s' r el' f g df)) rfl ?_
    refine zg_pf (fs := [.int 3, .int x, c, e, g']) (G' := (zk_H R (ex'.set y (Sum.inr (3, [.int 3, .int x, c, e, .ref z]) : zm_E)) sl' s' r el' f g df)) rfl (zk_at h4) (Nat.le_add_left 2 _) (Nat.le_of_ble_eq_true rfl) rfl (zk_ss ..) ?_
    refine zm_J_run zm_T 1 (pc' := 17) (lv' := [(3, .ref (y + 37)), (0, .ref 6), (1, .int x), (2, .ref z)]) (st' := [.ref (y + 37)]) (G' := (zk_H R (ex'.set y (Sum.inr (3, [.int 3, .int x, c, e, .ref z]) : zm_E)) sl' s' r el' f g df)) rfl ?_
    exact zm_J_fin zm_T rfl rfl (K _ _ ⟨_, _, _, _, _, _, _, _, _, rfl, rfl, hI2, hP, hS2, Or.inr ⟨σ.2.2.2, y, .int x, c, e, .ref z, Nat.lt_succ_self _, h2.2.1, rfl, zk_set_at _ h3, Or.inr (Or.inr ⟨rfl, rfl, zk_ch_up hP (Nat.le_refl _) _ _ hA⟩)⟩, ht, Nat.le_succ _, Nat.le_refl _⟩)
theorem zk_mbn (hB : zk_BS B S) (h : zk_I B S ex sl s el va ca ka q) (hd : 7 ≤ d) {nv na : Nat} {v : zv_V} {u : Nat} (hV : zk_V ex va ca ka nv na v u) (K0 : v.1 = 0 → Q (.inl (some (.int v.2.1))) (zk_H R ex sl s r el f g df)) (K1 : ¬ v.1 = 0 → ∀ z G, zk_ER B S R r f g df ex s 5 z G → Q z G) : zm_J N d 57 0 [(0, .ref u)] [] (zk_H R ex sl s r el f g df) Q := by
  rcases hV with ⟨h1, rfl⟩ | ⟨m, y, x, hh, t, a, e1, e2, rfl, e4, e5⟩
  · refine zm_J_run zm_T 3 (pc' := 7) (lv' := [(0, .ref 7)]) (st' := []) (G' := (zk_H R ex sl s r el f g df)) rfl ?_
    exact zk_throw (e := 5) hB h zx_57_7 rfl (by omega) (by decide) (K1 (by rw [h1]; decide))
  · by_cases h0 : v.1 = 0
    · have hx : x = .int v.2.1 := by
        rcases e5 with z | z | z
        · exact z.2
        · exact absurd (h0.symm.trans z.1) (by decide)
        · exact absurd (h0.symm.trans z.1) (by decide)
      subst hx
      refine zm_J_run zm_T 1 (pc' := 1) (lv' := [(0, .ref (y + 37))]) (st' := [.ref (y + 37)]) (G' := (zk_H R ex sl s r el f g df)) rfl ?_
      refine zg_gf (fs := [.int v.1, .int v.2.1, hh, t, a]) rfl (zk_at e4) rfl ?_
      refine zm_J_run zm_T 1 (pc' := if v.1 = 0 then 18 else 7) (lv' := [(0, .ref (y + 37))]) (st' := []) (G' := (zk_H R ex sl s r el f g df)) rfl ?_
      rw [if_pos (show v.1 = 0 from h0)]
      refine zm_J_run zm_T 1 (pc' := 19) (lv' := [(0, .ref (y + 37))]) (st' := [.ref (y + 37)]) (G' := (zk_H R ex sl s r el f g df)) rfl ?_
      refine zg_gf (fs := [.int v.1, .int v.2.1, hh, t, a]) rfl (zk_at e4) rfl ?_
      exact zm_J_fin zm_T rfl rfl (K0 h0)
    · refine zm_J_run zm_T 1 (pc' := 1) (lv' := [(0, .ref (y + 37))]) (st' := [.ref (y + 37)]) (G' := (zk_H R ex sl s r el f g df)) rfl ?_
      refine zg_gf (fs := [.int v.1, x, hh, t, a]) rfl (zk_at e4) rfl ?_
      refine zm_J_run zm_T 1 (pc' := if v.1 = 0 then 18 else 7) (lv' := [(0, .ref (y + 37))]) (st' := []) (G' := (zk_H R ex sl s r el f g df)) rfl ?_
      rw [if_neg (show ¬ (v.1 = 0) from h0)]
      exact zk_throw (e := 5) hB h zx_57_7 rfl (by omega) (by decide) (K1 h0)
theorem zk_mbp (hB : zk_BS B S) (h : zk_I B S ex sl s el va ca ka q) (hd : 7 ≤ d) {nv na : Nat} {v : zv_V} {u : Nat} (hV : zk_V ex va ca ka nv na v u) (K0 : v.1 = 2 → Q (.inl (some (.ref u))) (zk_H R ex sl s r el f g df)) (K1 : v.1 = 1 → ∀ z G, zk_ER B S R r f g df ex s 2 z G → Q z G) (K2 : ¬ v.1 = 1 → ¬ v.1 = 2 → ∀ z G, zk_ER B S R r f g df ex s 5 z G → Q z G) : zm_J N d 54 0 [(0, .ref u)] [] (zk_H R ex sl s r el f g df) Q := by
  rcases hV with ⟨h1, rfl⟩ | ⟨m, y, x, hh, t, a, e1, e2, rfl, e4, e5⟩
  · refine zm_J_run zm_T 4 (pc' := 8) (lv' := [(0, .ref 7)]) (st' := []) (G' := (zk_H R ex sl s r el f g df)) rfl ?_
    exact zk_throw (e := 2) hB h zx_54_8 rfl (by omega) (by decide) (K1 h1)
  · have h1 : ¬ v.1 = 1 := fun z => by
      rcases e5 with k | k | k
      · exact absurd (z.symm.trans k.1) (by decide)
      · exact absurd (z.symm.trans k.1) (by decide)
      · exact absurd (z.symm.trans k.1) (by decide)
    by_cases h2 : v.1 = 2
    · refine zm_J_run zm_T 1 (pc' := 1) (lv' := [(0, .ref (y + 37))]) (st' := [.ref (y + 37)]) (G' := (zk_H R ex sl s r el f g df)) rfl ?_
      refine zg_gf (fs := [.int v.1, x, hh, t, a]) rfl (zk_at e4) rfl ?_
      refine zm_J_run zm_T 2 (pc' := if v.1 = 1 then 8 else 19) (lv' := [(0, .ref (y + 37))]) (st' := []) (G' := (zk_H R ex sl s r el f g df)) rfl ?_
      rw [if_neg (show ¬ (v.1 = 1) from h1)]
      refine zm_J_run zm_T 1 (pc' := 20) (lv' := [(0, .ref (y + 37))]) (st' := [.ref (y + 37)]) (G' := (zk_H R ex sl s r el f g df)) rfl ?_
      refine zg_gf (fs := [.int v.1, x, hh, t, a]) rfl (zk_at e4) rfl ?_
      refine zm_J_run zm_T 2 (pc' := if v.1 = 2 then 38 else 27) (lv' := [(0, .ref (y + 37))]) (st' := []) (G' := (zk_H R ex sl s r el f g df)) rfl ?_
      rw [if_pos (show v.1 = 2 from h2)]
      refine zm_J_run zm_T 1 (pc' := 39) (lv' := [(0, .ref (y + 37))]) (st' := [.ref (y + 37)]) (G' := (zk_H R ex sl s r el f g df)) rfl ?_
      exact zm_J_fin zm_T rfl rfl (K0 h2)
    · refine zm_J_run zm_T 1 (pc' := 1) (lv' := [(0, .ref (y + 37))]) (st' := [.ref (y + 37)]) (G' := (zk_H R ex sl s r el f g df)) rfl ?_
      refine zg_gf (fs := [.int v.1, x, hh, t, a]) rfl (zk_at e4) rfl ?_
      refine zm_J_run zm_T 2 (pc' := if v.1 = 1 then 8 else 19) (lv' := [(0, .ref (y + 37))]) (st' := []) (G' := (zk_H R ex sl s r el f g df)) rfl ?_
      rw [if_neg (show ¬ (v.1 = 1) from h1)]
      refine zm_J_run zm_T 1 (pc' := 20) (lv' := [(0, .ref (y + 37))]) (st' := [.ref (y + 37)]) (G' := (zk_H R ex sl s r el f g df)) rfl ?_
      refine zg_gf (fs := [.int v.1, x, hh, t, a]) rfl (zk_at e4) rfl ?_
      refine zm_J_run zm_T 2 (pc' := if v.1 = 2 then 38 else 27) (lv' := [(0, .ref (y + 37))]) (st' := []) (G' := (zk_H R ex sl s r el f g df)) rfl ?_
      rw [if_neg (show ¬ (v.1 = 2) from h2)]
      exact zk_throw (e := 5) hB h zx_54_27 rfl (by omega) (by decide) (K2 h1 h2)
theorem zk_isn (hB : zk_BS B S) (h : zk_I B S ex sl s el va ca ka q) (hd : 7 ≤ d) {nv na : Nat} {v : zv_V} {u : Nat} (hV : zk_V ex va ca ka nv na v u) (K0 : v.1 = 1 → Q (.inl (some (.int 1))) (zk_H R ex sl s r el f g df)) (K1 : ¬ v.1 = 1 → v.1 = 2 → Q (.inl (some (.int 0))) (zk_H R ex sl s r el f g df)) (K2 : ¬ v.1 = 1 → ¬ v.1 = 2 → ∀ z G, zk_ER B S R r f g df ex s 5 z G → Q z G) : zm_J N d 55 0 [(0, .ref u)] [] (zk_H R ex sl s r el f g df) Q := by
  rcases hV with ⟨h1, rfl⟩ | ⟨m, y, x, hh, t, a, e1, e2, rfl, e4, e5⟩
  · refine zm_J_run zm_T 10 (pc' := 40) (lv' := [(0, .ref 7)]) (st' := [.int 1]) (G' := (zk_H R ex sl s r el f g df)) rfl ?_
    exact zm_J_fin zm_T rfl rfl (K0 h1)
  · have h1 : ¬ v.1 = 1 := fun z => by
      rcases e5 with k | k | k
      · exact absurd (z.symm.trans k.1) (by decide)
      · exact absurd (z.symm.trans k.1) (by decide)
      · exact absurd (z.symm.trans k.1) (by decide)
    by_cases h2 : v.1 = 2
    · refine zm_J_run zm_T 1 (pc' := 1) (lv' := [(0, .ref (y + 37))]) (st' := [.ref (y + 37)]) (G' := (zk_H R ex sl s r el f g df)) rfl ?_
      refine zg_gf (fs := [.int v.1, x, hh, t, a]) rfl (zk_at e4) rfl ?_
      refine zm_J_run zm_T 2 (pc' := if v.1 = 1 then 27 else 8) (lv' := [(0, .ref (y + 37))]) (st' := []) (G' := (zk_H R ex sl s r el f g df)) rfl ?_
      rw [if_neg (show ¬ (v.1 = 1) from h1)]
      refine zm_J_run zm_T 1 (pc' := 9) (lv' := [(0, .ref (y + 37))]) (st' := [.ref (y + 37)]) (G' := (zk_H R ex sl s r el f g df)) rfl ?_
      refine zg_gf (fs := [.int v.1, x, hh, t, a]) rfl (zk_at e4) rfl ?_
      refine zm_J_run zm_T 2 (pc' := if v.1 = 2 then 27 else 16) (lv' := [(0, .ref (y + 37))]) (st' := []) (G' := (zk_H R ex sl s r el f g df)) rfl ?_
      rw [if_pos (show v.1 = 2 from h2)]
      refine zm_J_run zm_T 1 (pc' := 28) (lv' := [(0, .ref (y + 37))]) (st' := [.ref (y + 37)]) (G' := (zk_H R ex sl s r el f g df)) rfl ?_
      refine zg_gf (fs := [.int v.1, x, hh, t, a]) rfl (zk_at e4) rfl ?_
      refine zm_J_run zm_T 2 (pc' := if v.1 = 1 then 35 else 39) (lv' := [(0, .ref (y + 37))]) (st' := []) (G' := (zk_H R ex sl s r el f g df)) rfl ?_
      rw [if_neg (show ¬ (v.1 = 1) from h1)]
      refine zm_J_run zm_T 1 (pc' := 40) (lv' := [(0, .ref (y + 37))]) (st' := [.int 0]) (G' := (zk_H R ex sl s r el f g df)) rfl ?_
      exact zm_J_fin zm_T rfl rfl (K1 h1 h2)
    · refine zm_J_run zm_T 1 (pc' := 1) (lv' := [(0, .ref (y + 37))]) (st' := [.ref (y + 37)]) (G' := (zk_H R ex sl s r el f g df)) rfl ?_
      refine zg_gf (fs := [.int v.1, x, hh, t, a]) rfl (zk_at e4) rfl ?_
      refine zm_J_run zm_T 2 (pc' := if v.1 = 1 then 27 else 8) (lv' := [(0, .ref (y + 37))]) (st' := []) (G' := (zk_H R ex sl s r el f g df)) rfl ?_
      rw [if_neg (show ¬ (v.1 = 1) from h1)]
      refine zm_J_run zm_T 1 (pc' := 9) (lv' := [(0, .ref (y + 37))]) (st' := [.ref (y + 37)]) (G' := (zk_H R ex sl s r el f g df)) rfl ?_
      refine zg_gf (fs := [.int v.1, x, hh, t, a]) rfl (zk_at e4) rfl ?_
      refine zm_J_run zm_T 2 (pc' := if v.1 = 2 then 27 else 16) (lv' := [(0, .ref (y + 37))]) (st' := []) (G' := (zk_H R ex sl s r el f g df)) rfl ?_
      rw [if_neg (show ¬ (v.1 = 2) from h2)]
      exact zk_throw (e := 5) hB h zx_55_16 rfl (by omega) (by decide) (K2 h1 h2)
theorem zk_mbw0 (hB : zk_BS B S) (h : zk_I B S ex sl s el va ca ka q) (hd : 7 ≤ d) {y : Nat} {x0 x1 : Value} (hc : ex[y]? = some (Sum.inr (8, [x0, x1, .int 1, .null]) : zm_E)) (K : ∀ z G, zk_ER B S R r f g df ex s 4 z G → Q z G) : zm_J N d 42 0 [(0, .ref (y + 37))] [] (zk_H R ex sl s r el f g df) Q := by
  refine zm_J_run zm_T 1 (pc' := 1) (lv' := [(0, .ref (y + 37))]) (st' := [.ref (y + 37)]) (G' := (zk_H R ex sl s r el f g df)) rfl ?_
  refine zg_gf (fs := [x0, x1, .int 1, .null]) rfl (zk_at hc) rfl ?_
  refine zm_J_run zm_T 1 (pc' := 7) (lv' := [(0, .ref (y + 37))]) (st' := []) (G' := (zk_H R ex sl s r el f g df)) rfl ?_
  exact zk_throw (e := 4) hB h zx_42_7 rfl (by omega) (by decide) K
theorem zk_mbw1 {y a : Nat} {x0 x1 : Value} (hc : ex[y]? = some (Sum.inr (8, [x0, x1, .int 1, .ref a]) : zm_E)) (K : Q (.inl (some (.ref a))) (zk_H R ex sl s r el f g df)) : zm_J N d 42 0 [(0, .ref (y + 37))] [] (zk_H R ex sl s r el f g df) Q := by
  refine zm_J_run zm_T 1 (pc' := 1) (lv' := [(0, .ref (y + 37))]) (st' := [.ref (y + 37)]) (G' := (zk_H R ex sl s r el f g df)) rfl ?_
  refine zg_gf (fs := [x0, x1, .int 1, .ref a]) rfl (zk_at hc) rfl ?_
  refine zm_J_run zm_T 2 (pc' := 19) (lv' := [(0, .ref (y + 37))]) (st' := [.ref (y + 37)]) (G' := (zk_H R ex sl s r el f g df)) rfl ?_
  refine zg_gf (fs := [x0, x1, .int 1, .ref a]) rfl (zk_at hc) rfl ?_
  exact zm_J_fin zm_T rfl rfl K
theorem zk_dfo0 (hB : zk_BS B S) (h : zk_I B S ex sl s el va ca ka q) (hd : 7 ≤ d) {k : Nat} (hk : k < 6) (hdf : df k = none) (K : ∀ z G, zk_ER B S R r f g df ex s 2 z G → Q z G) : zm_J N d 44 0 [(0, .ref 2), (1, .int (nI k))] [] (zk_H R ex sl s r el f g df) Q := by
  refine zm_J_run zm_T 3 (pc' := 5) (lv' := [(0, .ref 2), (1, .int (nI k))]) (st' := [.int (nI k), .ref 11]) (G' := (zk_H R ex sl s r el f g df)) rfl ?_
  refine zg_aald (t := 4) (n := 6) (f := df) (m := k) rfl rfl rfl rfl hk (by decide) ?_
  rw [hdf]
  show zm_J N _ 44 6 [(0, .ref 2), (1, .int (nI k))] [.null] (zk_H R ex sl s r el f g df) _
  refine zm_J_run zm_T 3 (pc' := 11) (lv' := [(2, .null), (0, .ref 2), (1, .int (nI k))]) (st' := []) (G' := (zk_H R ex sl s r el f g df)) rfl ?_
  exact zk_throw (e := 2) hB h zx_44_11 rfl (by omega) (by decide) K
theorem zk_dfo1 {k y : Nat} (hk : k < 6) (hdf : df k = some y) (K : Q (.inl (some (.ref y))) (zk_H R ex sl s r el f g df)) : zm_J N d 44 0 [(0, .ref 2), (1, .int (nI k))] [] (zk_H R ex sl s r el f g df) Q := by
  refine zm_J_run zm_T 3 (pc' := 5) (lv' := [(0, .ref 2), (1, .int (nI k))]) (st' := [.int (nI k), .ref 11]) (G' := (zk_H R ex sl s r el f g df)) rfl ?_
  refine zg_aald (t := 4) (n := 6) (f := df) (m := k) rfl rfl rfl rfl hk (by decide) ?_
  rw [hdf]
  show zm_J N _ 44 6 [(0, .ref 2), (1, .int (nI k))] [.ref y] (zk_H R ex sl s r el f g df) _
  refine zm_J_run zm_T 4 (pc' := 23) (lv' := [(2, .ref y), (0, .ref 2), (1, .int (nI k))]) (st' := [.ref y]) (G' := (zk_H R ex sl s r el f g df)) rfl ?_
  exact zm_J_fin zm_T rfl rfl K
theorem zk_mnz0 (hB : zk_BS B S) (h : zk_I B S ex sl s el va ca ka q) (hd : 7 ≤ d) (K : ∀ z G, zk_ER B S R r f g df ex s 3 z G → Q z G) : zm_J N d 60 0 [(0, .int 0)] [] (zk_H R ex sl s r el f g df) Q := by
  refine zm_J_run zm_T 2 (pc' := 4) (lv' := [(0, .int 0)]) (st' := []) (G' := (zk_H R ex sl s r el f g df)) rfl ?_
  exact zk_throw (e := 3) hB h zx_60_4 rfl (by omega) (by decide) K
theorem zk_mnz1 {x : Int32} (hx : ¬ x = 0) (K : Q (.inl (some (.int x))) (zk_H R ex sl s r el f g df)) : zm_J N d 60 0 [(0, .int x)] [] (zk_H R ex sl s r el f g df) Q := by
  refine zm_J_run zm_T 2 (pc' := if x = 0 then 4 else 15) (lv' := [(0, .int x)]) (st' := []) (G' := (zk_H R ex sl s r el f g df)) rfl ?_
  rw [if_neg (show ¬ (x = 0) from hx)]
  refine zm_J_run zm_T 1 (pc' := 16) (lv' := [(0, .int x)]) (st' := [.int x]) (G' := (zk_H R ex sl s r el f g df)) rfl ?_
  exact zm_J_fin zm_T rfl rfl K
theorem zk_rck (hB : zk_BS B S) (h : zk_I B S ex sl s el va ca ka q) (hd : 8 ≤ d) {c a b : Int32} (hc : c = 43 ∨ c = 45 ∨ c = 42 ∨ c = 47 ∨ c = 37 ∨ c = 60 ∨ c = 61) (K0 : ∀ x, zv_bn c a b = some x → Q (.inl (some (.int x))) (zk_H R ex sl s r el f g df)) (K1 : zv_bn c a b = none → ∀ z G, zk_ER B S R r f g df ex s 3 z G → Q z G) : zm_J N d 59 0 [(0, .int c), (1, .int a), (2, .int b)] [] (zk_H R ex sl s r el f g df) Q := by
  obtain ⟨d, rfl⟩ : ∃ e, d = e + 8 := ⟨d - 8, by omega⟩
  have hr := zk_I_r hB h
  rcases hc with rfl | rfl | rfl | rfl | rfl | rfl | rfl
  · refine zm_J_run zm_T 2 (pc' := 60) (lv' := [(0, .int 43), (1, .int a), (2, .int b)]) (st' := []) (G' := (zk_H R ex sl s r el f g df)) rfl ?_
    refine zm_J_run zm_T 3 (pc' := 63) (lv' := [(0, .int 43), (1, .int a), (2, .int b)]) (st' := [.int (a + b)]) (G' := (zk_H R ex sl s r el f g df)) rfl ?_
    exact zm_J_fin zm_T rfl rfl (K0 _ rfl)
  · refine zm_J_run zm_T 2 (pc' := 64) (lv' := [(0, .int 45), (1, .int a), (2, .int b)]) (st' := []) (G' := (zk_H R ex sl s r el f g df)) rfl ?_
    refine zm_J_run zm_T 3 (pc' := 67) (lv' := [(0, .int 45), (1, .int a), (2, .int b)]) (st' := [.int (a - b)]) (G' := (zk_H R ex sl s r el f g df)) rfl ?_
    exact zm_J_fin zm_T rfl rfl (K0 _ rfl)
  · refine zm_J_run zm_T 2 (pc' := 68) (lv' := [(0, .int 42), (1, .int a), (2, .int b)]) (st' := []) (G' := (zk_H R ex sl s r el f g df)) rfl ?_
    refine zm_J_run zm_T 3 (pc' := 71) (lv' := [(0, .int 42), (1, .int a), (2, .int b)]) (st' := [.int (a * b)]) (G' := (zk_H R ex sl s r el f g df)) rfl ?_
    exact zm_J_fin zm_T rfl rfl (K0 _ rfl)
  · by_cases hb : b = 0
    · subst hb
      refine zm_J_run zm_T 2 (pc' := 72) (lv' := [(0, .int 47), (1, .int a), (2, .int 0)]) (st' := []) (G' := (zk_H R ex sl s r el f g df)) rfl ?_
      refine zm_J_run zm_T 2 (pc' := 74) (lv' := [(0, .int 47), (1, .int a), (2, .int 0)]) (st' := [.int 0, .int a]) (G' := (zk_H R ex sl s r el f g df)) rfl ?_
      refine zg_ST (av := [.int 0]) (rest := [.int a]) (zm_T.1 59 74 _ rfl).1 zc_59_74 (zm_out0 rfl) (Nat.le_of_ble_eq_true rfl) (Nat.le_of_ble_eq_true rfl) (zk_c hr) (zk_s hr) (zk_mnz0 hB h (by omega) (fun z G e => zk_k_er e (K1 rfl z G e)))
    · refine zm_J_run zm_T 2 (pc' := 72) (lv' := [(0, .int 47), (1, .int a), (2, .int b)]) (st' := []) (G' := (zk_H R ex sl s r el f g df)) rfl ?_
      refine zm_J_run zm_T 2 (pc' := 74) (lv' := [(0, .int 47), (1, .int a), (2, .int b)]) (st' := [.int b, .int a]) (G' := (zk_H R ex sl s r el f g df)) rfl ?_
      refine zg_SK (av := [.int b]) (rest := [.int a]) (zm_T.1 59 74 _ rfl).1 zc_59_74 (Nat.le_of_ble_eq_true rfl) (Nat.le_of_ble_eq_true rfl) (zk_c hr) (zk_s hr) (zk_mnz1 hb ⟨_, rfl, ?_⟩)
      show zm_J N _ 59 77 [(0, .int 47), (1, .int a), (2, .int b)] [.int b, .int a] (zk_H R ex sl s r el f g df) _
      refine zg_idiv rfl hb ?_
      exact zm_J_fin zm_T rfl rfl (K0 _ (by unfold zv_bn; rw [if_neg (fun z => hb z.2)]; rfl))
  · by_cases hb : b = 0
    · subst hb
      refine zm_J_run zm_T 2 (pc' := 79) (lv' := [(0, .int 37), (1, .int a), (2, .int 0)]) (st' := []) (G' := (zk_H R ex sl s r el f g df)) rfl ?_
      refine zm_J_run zm_T 2 (pc' := 81) (lv' := [(0, .int 37), (1, .int a), (2, .int 0)]) (st' := [.int 0, .int a]) (G' := (zk_H R ex sl s r el f g df)) rfl ?_
      refine zg_ST (av := [.int 0]) (rest := [.int a]) (zm_T.1 59 81 _ rfl).1 zc_59_81 (zm_out0 rfl) (Nat.le_of_ble_eq_true rfl) (Nat.le_of_ble_eq_true rfl) (zk_c hr) (zk_s hr) (zk_mnz0 hB h (by omega) (fun z G e => zk_k_er e (K1 rfl z G e)))
    · refine zm_J_run zm_T 2 (pc' := 79) (lv' := [(0, .int 37), (1, .int a), (2, .int b)]) (st' := []) (G' := (zk_H R ex sl s r el f g df)) rfl ?_
      refine zm_J_run zm_T 2 (pc' := 81) (lv' := [(0, .int 37), (1, .int a), (2, .int b)]) (st' := [.int b, .int a]) (G' := (zk_H R ex sl s r el f g df)) rfl ?_
      refine zg_SK (av := [.int b]) (rest := [.int a]) (zm_T.1 59 81 _ rfl).1 zc_59_81 (Nat.le_of_ble_eq_true rfl) (Nat.le_of_ble_eq_true rfl) (zk_c hr) (zk_s hr) (zk_mnz1 hb ⟨_, rfl, ?_⟩)
      show zm_J N _ 59 84 [(0, .int 37), (1, .int a), (2, .int b)] [.int b, .int a] (zk_H R ex sl s r el f g df) _
      refine zg_irem rfl hb ?_
      exact zm_J_fin zm_T rfl rfl (K0 _ (by unfold zv_bn; rw [if_neg (fun z => hb z.2)]; rfl))
  · by_cases hab : a < b
    · refine zm_J_run zm_T 2 (pc' := 86) (lv' := [(0, .int 60), (1, .int a), (2, .int b)]) (st' := []) (G' := (zk_H R ex sl s r el f g df)) rfl ?_
      refine zm_J_run zm_T 3 (pc' := if b ≤ a then 95 else 91) (lv' := [(0, .int 60), (1, .int a), (2, .int b)]) (st' := []) (G' := (zk_H R ex sl s r el f g df)) rfl ?_
      rw [if_neg (show ¬ (b ≤ a) from fun z => Int32.not_lt.mpr z hab)]
      refine zm_J_run zm_T 2 (pc' := 96) (lv' := [(0, .int 60), (1, .int a), (2, .int b)]) (st' := [.int 1]) (G' := (zk_H R ex sl s r el f g df)) rfl ?_
      exact zm_J_fin zm_T rfl rfl (K0 _ (by show some (if a < b then (1 : Int32) else 0) = _; rw [if_pos hab]))
    · refine zm_J_run zm_T 2 (pc' := 86) (lv' := [(0, .int 60), (1, .int a), (2, .int b)]) (st' := []) (G' := (zk_H R ex sl s r el f g df)) rfl ?_
      refine zm_J_run zm_T 3 (pc' := if b ≤ a then 95 else 91) (lv' := [(0, .int 60), (1, .int a), (2, .int b)]) (st' := []) (G' := (zk_H R ex sl s r el f g df)) rfl ?_
      rw [if_pos (show b ≤ a from Int32.not_lt.mp hab)]
      refine zm_J_run zm_T 1 (pc' := 96) (lv' := [(0, .int 60), (1, .int a), (2, .int b)]) (st' := [.int 0]) (G' := (zk_H R ex sl s r el f g df)) rfl ?_
      exact zm_J_fin zm_T rfl rfl (K0 _ (by show some (if a < b then (1 : Int32) else 0) = _; rw [if_neg hab]))
  · by_cases hab : a = b
    · refine zm_J_run zm_T 2 (pc' := 97) (lv' := [(0, .int 61), (1, .int a), (2, .int b)]) (st' := []) (G' := (zk_H R ex sl s r el f g df)) rfl ?_
      refine zm_J_run zm_T 3 (pc' := if a = b then 102 else 106) (lv' := [(0, .int 61), (1, .int a), (2, .int b)]) (st' := []) (G' := (zk_H R ex sl s r el f g df)) rfl ?_
      rw [if_pos (show a = b from hab)]
      refine zm_J_run zm_T 2 (pc' := 107) (lv' := [(0, .int 61), (1, .int a), (2, .int b)]) (st' := [.int 1]) (G' := (zk_H R ex sl s r el f g df)) rfl ?_
      exact zm_J_fin zm_T rfl rfl (K0 _ (by show some (if a = b then (1 : Int32) else 0) = _; rw [if_pos hab]))
    · refine zm_J_run zm_T 2 (pc' := 97) (lv' := [(0, .int 61), (1, .int a), (2, .int b)]) (st' := []) (G' := (zk_H R ex sl s r el f g df)) rfl ?_
      refine zm_J_run zm_T 3 (pc' := if a = b then 102 else 106) (lv' := [(0, .int 61), (1, .int a), (2, .int b)]) (st' := []) (G' := (zk_H R ex sl s r el f g df)) rfl ?_
      rw [if_neg (show ¬ (a = b) from hab)]
      refine zm_J_run zm_T 1 (pc' := 107) (lv' := [(0, .int 61), (1, .int a), (2, .int b)]) (st' := [.int 0]) (G' := (zk_H R ex sl s r el f g df)) rfl ?_
      exact zm_J_fin zm_T rfl rfl (K0 _ (by show some (if a = b then (1 : Int32) else 0) = _; rw [if_neg hab]))
theorem zk_arg2 {na i : Nat} : ∀ (l : List Nat) (x : Value), zk_ch ex ca ka na l x → i < l.length → (∀ c p, l.reverse[i]? = some c → ca[c]? = some p → Q (.inl (some (.ref (p + 37)))) (zk_H R ex sl s r el f g df)) → zm_J N d 40 2 [(2, x), (1, .int (nI i))] [] (zk_H R ex sl s r el f g df) Q := by
  intro l
  induction l with
  | nil => intro x _ hi; exact absurd hi (Nat.not_lt_zero _)
  | cons c l ih =>
    rintro x ⟨y, m, p, b, e0, rfl, e2, e3, e4, e5, e6⟩ hi K
    rw [List.length_cons] at hi
    by_cases hil : i = l.length
    · refine zm_J_run zm_T 3 (pc' := 7) (lv' := [(2, .ref (y + 37)), (1, .int (nI i))]) (st' := [.ref (y + 37)]) (G' := (zk_H R ex sl s r el f g df)) rfl ?_
      refine zg_gf (fs := [b, .ref (p + 37), .int (nI (l.length + 1))]) rfl (zk_at e5) rfl ?_
      refine zm_J_run zm_T 3 (pc' := 13) (lv' := [(2, .ref (y + 37)), (1, .int (nI i))]) (st' := [.int ((nI i) + 1), .int (nI (l.length + 1))]) (G' := (zk_H R ex sl s r el f g df)) rfl ?_
      rw [show nI i + 1 = nI (i + 1) from nI_1 _]
      show zm_J N _ 40 13 [(2, .ref (y + 37)), (1, .int (nI i))] [.int (nI (i + 1)), .int (nI (l.length + 1))] (zk_H R ex sl s r el f g df) _
      refine zm_J_run zm_T 1 (pc' := if (nI (l.length + 1)) = (nI (i + 1)) then 16 else 21) (lv' := [(2, .ref (y + 37)), (1, .int (nI i))]) (st' := []) (G' := (zk_H R ex sl s r el f g df)) rfl ?_
      rw [if_pos (show (nI (l.length + 1)) = (nI (i + 1)) from by rw [hil])]
      refine zm_J_run zm_T 1 (pc' := 17) (lv' := [(2, .ref (y + 37)), (1, .int (nI i))]) (st' := [.ref (y + 37)]) (G' := (zk_H R ex sl s r el f g df)) rfl ?_
      refine zg_gf (fs := [b, .ref (p + 37), .int (nI (l.length + 1))]) rfl (zk_at e5) rfl ?_
      exact zm_J_fin zm_T rfl rfl (K c p (by rw [List.reverse_cons, List.getElem?_append_right (by rw [List.length_reverse]; omega), List.length_reverse, hil, Nat.sub_self]; rfl) e4)
    · refine zm_J_run zm_T 3 (pc' := 7) (lv' := [(2, .ref (y + 37)), (1, .int (nI i))]) (st' := [.ref (y + 37)]) (G' := (zk_H R ex sl s r el f g df)) rfl ?_
      refine zg_gf (fs := [b, .ref (p + 37), .int (nI (l.length + 1))]) rfl (zk_at e5) rfl ?_
      refine zm_J_run zm_T 3 (pc' := 13) (lv' := [(2, .ref (y + 37)), (1, .int (nI i))]) (st' := [.int ((nI i) + 1), .int (nI (l.length + 1))]) (G' := (zk_H R ex sl s r el f g df)) rfl ?_
      rw [show nI i + 1 = nI (i + 1) from nI_1 _]
      show zm_J N _ 40 13 [(2, .ref (y + 37)), (1, .int (nI i))] [.int (nI (i + 1)), .int (nI (l.length + 1))] (zk_H R ex sl s r el f g df) _
      refine zm_J_run zm_T 1 (pc' := if (nI (l.length + 1)) = (nI (i + 1)) then 16 else 21) (lv' := [(2, .ref (y + 37)), (1, .int (nI i))]) (st' := []) (G' := (zk_H R ex sl s r el f g df)) rfl ?_
      rw [if_neg (show ¬ ((nI (l.length + 1)) = (nI (i + 1))) from fun z => hil (by have := (nI_eq (by omega) (by omega)).mp z; omega))]
      refine zm_J_run zm_T 1 (pc' := 22) (lv' := [(2, .ref (y + 37)), (1, .int (nI i))]) (st' := [.ref (y + 37)]) (G' := (zk_H R ex sl s r el f g df)) rfl ?_
      refine zg_gf (fs := [b, .ref (p + 37), .int (nI (l.length + 1))]) rfl (zk_at e5) rfl ?_
      rcases zk_ch_sh e6 with rfl | ⟨z, rfl⟩
      · refine zm_J_run zm_T 2 (pc' := 2) (lv' := [(2, .null), (1, .int (nI i))]) (st' := []) (G' := (zk_H R ex sl s r el f g df)) rfl ?_
        exact (ih _ e6 (by omega) (fun c' p' k1 k2 => K c' p' (by rw [List.reverse_cons, List.getElem?_append_left (by rw [List.length_reverse]; omega)]; exact k1) k2))
      · refine zm_J_run zm_T 2 (pc' := 2) (lv' := [(2, .ref z), (1, .int (nI i))]) (st' := []) (G' := (zk_H R ex sl s r el f g df)) rfl ?_
        exact (ih _ e6 (by omega) (fun c' p' k1 k2 => K c' p' (by rw [List.reverse_cons, List.getElem?_append_left (by rw [List.length_reverse]; omega)]; exact k1) k2))
theorem zk_arg {na i : Nat} {l : List Nat} {x : Value} (hA : zk_ch ex ca ka na l x) (hi : i < l.length) (K : ∀ c p, l.reverse[i]? = some c → ca[c]? = some p → Q (.inl (some (.ref (p + 37)))) (zk_H R ex sl s r el f g df)) : zm_J N d 40 0 [(0, x), (1, .int (nI i))] [] (zk_H R ex sl s r el f g df) Q := by
  rcases zk_ch_sh hA with rfl | ⟨z, rfl⟩
  · refine zm_J_run zm_T 2 (pc' := 2) (lv' := [(2, .null), (0, .null), (1, .int (nI i))]) (st' := []) (G' := (zk_H R ex sl s r el f g df)) rfl ?_
    refine zm_J_lv (lv' := [(2, .null), (1, .int (nI i))]) (by simp) ?_
    exact (zk_arg2 _ _ hA hi K)
  · refine zm_J_run zm_T 2 (pc' := 2) (lv' := [(2, .ref z), (0, .ref z), (1, .int (nI i))]) (st' := []) (G' := (zk_H R ex sl s r el f g df)) rfl ?_
    refine zm_J_lv (lv' := [(2, .ref z), (1, .int (nI i))]) (by simp) ?_
    exact (zk_arg2 _ _ hA hi K)
end ZKM

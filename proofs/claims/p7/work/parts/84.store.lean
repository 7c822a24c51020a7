/-! THE CLASS'S STORE -/
theorem zk_une {α : Type} {f : Nat → α} {k j : Nat} {v : α} (h : j ≠ k) : zu f k v j = f j := by
  unfold zu
  cases e : Nat.beq j k with
  | false => rfl
  | true => exact absurd (Nat.eq_of_beq_eq_true e) h
theorem zk_ueq {α : Type} {f : Nat → α} {k : Nat} {v : α} : zu f k v k = v := by
  unfold zu
  rw [show Nat.beq k k = true from Nat.beq_refl k]
  rfl
/-- the thing of the kind x that is used next: y -/
def zk_nv (x u sz : Nat) (ex : List zm_E) (s : Nat → Int32) (l : List Nat) (n : Nat) (ex' : List zm_E) (s' : Nat → Int32) (l' : List Nat) (y : Nat) : Prop := zk_up l l' ∧ l'[n]? = some y ∧ zk_fr ex ex' y ∧ (∀ p : Nat × List Value, ex[y]? = some (Sum.inr p : zm_E) → p.1 = x) ∧ s' u = nI (n + 1) ∧ ∀ k, k ≠ u → k ≠ sz → k ≠ sz + 1 → s' k = s k
theorem zk_l5 {l : List Value} (h : l.length = 5) : ∃ a b c d e, l = [a, b, c, d, e] := by
  match l, h with
  | [a, b, c, d, e], _ => exact ⟨a, b, c, d, e, rfl⟩
theorem zk_l4 {l : List Value} (h : l.length = 4) : ∃ a b c d, l = [a, b, c, d] := by
  match l, h with
  | [a, b, c, d], _ => exact ⟨a, b, c, d, rfl⟩
theorem zk_l3 {l : List Value} (h : l.length = 3) : ∃ a b c, l = [a, b, c] := by
  match l, h with
  | [a, b, c], _ => exact ⟨a, b, c, rfl⟩
theorem zk_inj {l : List Nat} {i j a : Nat} (h : l.Nodup) (h1 : l[i]? = some a) (h2 : l[j]? = some a) : i = j := (List.getElem?_inj (List.getElem?_eq_some_iff.mp h1).1 h).mp (h1.trans h2.symm)
section ZKS
variable {R : Nat → zm_E} {ex : List zm_E} {sl : Nat} {s : Nat → Int32} {r : Value} {el : Nat → Nat} {f g : Nat → Int32} {df : Nat → Option Nat} {N : zm_N} {d : Nat} {Q : zm_O → zm_H → Prop} {B S : Nat} {va ca ka : List Nat} {q : Nat × Nat × Nat}
theorem zk_set_at {ex : List zm_E} {y : Nat} {x : zm_E} (z : zm_E) (h : ex[y]? = some x) : (ex.set y z)[y]? = some z := List.getElem?_set_self (List.getElem?_eq_some_iff.mp h).1
theorem zk_ss (ex : List zm_E) (y : Nat) (a b : zm_E) : zm_set (zk_H R (ex.set y a) sl s r el f g df) (y + 37) b = zk_H R (ex.set y b) sl s r el f g df := by
  rw [zk_set, List.set_set]
theorem zk_I_add0 (h : zk_I B S ex sl s el va ca ka q) (hl : va.length < 32080) {fs : List Value} (h5 : fs.length = 5) {ex' : List zm_E} {e' cap' sl' : Nat} (ha : zk_al 3 ex' e' (va ++ [ex.length]) cap') (g : zk_gr (zk_ap ex (Sum.inr (3, fs) : zm_E)) ex' (el 0) e' q.1 cap' (sl + 5) sl') (z : Int32) : zk_I B S ex' sl' (zu (zu s 15 z) 14 (nI (va.length + 1))) (zu el 0 e') (va ++ [ex.length]) ca ka (cap', q.2.1, q.2.2) := by
  obtain ⟨⟨a1, a2, a3⟩, ⟨s1, s2, s3⟩, ⟨nd1, nd2, nd3⟩, ⟨n1, n2, n3⟩, ⟨b1, b2⟩, h6, h7, h8, h9⟩ := h
  obtain ⟨_, _, _, g4, g5, g6, g7⟩ := id g
  rw [zk_ap_len] at g5
  have hsh : ∀ y fs, y ∈ va ++ [ex.length] → ex'[y]? = some (Sum.inr (3, fs) : zm_E) → fs.length = 5 := by
    refine zk_sh_gr (ex := zk_ap ex (Sum.inr (3, fs) : zm_E)) (fun y hy => ?_) g (fun y gs hy hz => ?_)
    · rcases List.mem_append.mp hy with k | k
      · exact (zk_al_ap _ a1).1 y k
      · rw [List.mem_singleton] at k
        subst k
        exact ⟨fs, zk_ap_new ex _⟩
    · rcases List.mem_append.mp hy with k | k
      · exact zk_sh_ap a1 h7 y gs k hz
      · rw [List.mem_singleton] at k
        subst k
        rw [zk_ap_new] at hz
        cases Option.some.inj hz
        exact h5
  refine ⟨⟨ha, zk_al_other (zk_al_ap _ a2) g n1, zk_al_other (zk_al_ap _ a3) g n2⟩, ⟨by rw [List.length_append, List.length_singleton]; rfl, s2, s3⟩, ⟨(zk_nd_ap a1.1 nd1), nd2, nd3⟩, ⟨zk_ne_other (zk_al_ap _ a2) g n1, zk_ne_other (zk_al_ap _ a3) g n2, n3⟩, ⟨?_, ?_⟩, ⟨by rw [List.length_append, List.length_singleton]; omega, h6.2.1, h6.2.2⟩, hsh, zk_sh_gr (zk_al_ap _ a2).1 g (zk_sh_ap a2 h8), zk_sh_gr (zk_al_ap _ a3).1 g (zk_sh_ap a3 h9)⟩
  · rw [List.length_append, List.length_singleton]
    dsimp only
    omega
  · rw [List.length_append, List.length_singleton]
    dsimp only
    omega
theorem zk_gt0 (hB : zk_BS B S) (hd : 3 ≤ d) (h : zk_I B S ex sl s el va ca ka q) {n y : Nat} (hy : va[n]? = some y) : zm_J N d 109 0 [(0, .ref 8), (1, .int (nI n))] [] (zk_H R ex sl s r el f g df) (fun z G' => z = .inl (some (.ref (y + 37))) ∧ G' = zk_H R ex sl s r el f g df) := by
  have hr := zk_I_r hB h
  obtain ⟨⟨a1, a2, a3⟩, ⟨s1, s2, s3⟩, _⟩ := h
  have hn := (List.getElem?_eq_some_iff.mp hy).1
  obtain ⟨_, ⟨_, k, _⟩ | ⟨i, fn, k1, k2, k3, k4, k5, k6⟩⟩ := a1
  · rw [k] at hn; exact absurd hn (Nat.not_lt_zero _)
  · exact zk_get0 hr hd s1 k3 k1 k2 hn k5 (k6 n y hy)
theorem zk_I_add1 (h : zk_I B S ex sl s el va ca ka q) (hl : ca.length < 16040) {fs : List Value} (h5 : fs.length = 4) {ex' : List zm_E} {e' cap' sl' : Nat} (ha : zk_al 8 ex' e' (ca ++ [ex.length]) cap') (g : zk_gr (zk_ap ex (Sum.inr (8, fs) : zm_E)) ex' (el 1) e' q.2.1 cap' (sl + 4) sl') (z : Int32) : zk_I B S ex' sl' (zu (zu s 17 z) 16 (nI (ca.length + 1))) (zu el 1 e') va (ca ++ [ex.length]) ka (q.1, cap', q.2.2) := by
  obtain ⟨⟨a1, a2, a3⟩, ⟨s1, s2, s3⟩, ⟨nd1, nd2, nd3⟩, ⟨n1, n2, n3⟩, ⟨b1, b2⟩, h6, h7, h8, h9⟩ := h
  obtain ⟨_, _, _, g4, g5, g6, g7⟩ := id g
  rw [zk_ap_len] at g5
  have hsh : ∀ y fs, y ∈ ca ++ [ex.length] → ex'[y]? = some (Sum.inr (8, fs) : zm_E) → fs.length = 4 := by
    refine zk_sh_gr (ex := zk_ap ex (Sum.inr (8, fs) : zm_E)) (fun y hy => ?_) g (fun y gs hy hz => ?_)
    · rcases List.mem_append.mp hy with k | k
      · exact (zk_al_ap _ a2).1 y k
      · rw [List.mem_singleton] at k
        subst k
        exact ⟨fs, zk_ap_new ex _⟩
    · rcases List.mem_append.mp hy with k | k
      · exact zk_sh_ap a2 h8 y gs k hz
      · rw [List.mem_singleton] at k
        subst k
        rw [zk_ap_new] at hz
        cases Option.some.inj hz
        exact h5
  refine ⟨⟨zk_al_other (zk_al_ap _ a1) g (fun z => z.trans (n1 z.symm)), ha, zk_al_other (zk_al_ap _ a3) g n3⟩, ⟨s1, by rw [List.length_append, List.length_singleton]; rfl, s3⟩, ⟨nd1, (zk_nd_ap a2.1 nd2), nd3⟩, ⟨(fun z => z.trans ((zk_ne_other (zk_al_ap _ a1) g (fun z => z.trans (n1 z.symm))) z.symm)), n2, zk_ne_other (zk_al_ap _ a3) g n3⟩, ⟨?_, ?_⟩, ⟨h6.1, by rw [List.length_append, List.length_singleton]; omega, h6.2.2⟩, zk_sh_gr (zk_al_ap _ a1).1 g (zk_sh_ap a1 h7), hsh, zk_sh_gr (zk_al_ap _ a3).1 g (zk_sh_ap a3 h9)⟩
  · rw [List.length_append, List.length_singleton]
    dsimp only
    omega
  · rw [List.length_append, List.length_singleton]
    dsimp only
    omega
theorem zk_gt1 (hB : zk_BS B S) (hd : 3 ≤ d) (h : zk_I B S ex sl s el va ca ka q) {n y : Nat} (hy : ca[n]? = some y) : zm_J N d 109 0 [(0, .ref 9), (1, .int (nI n))] [] (zk_H R ex sl s r el f g df) (fun z G' => z = .inl (some (.ref (y + 37))) ∧ G' = zk_H R ex sl s r el f g df) := by
  have hr := zk_I_r hB h
  obtain ⟨⟨a1, a2, a3⟩, ⟨s1, s2, s3⟩, _⟩ := h
  have hn := (List.getElem?_eq_some_iff.mp hy).1
  obtain ⟨_, ⟨_, k, _⟩ | ⟨i, fn, k1, k2, k3, k4, k5, k6⟩⟩ := a2
  · rw [k] at hn; exact absurd hn (Nat.not_lt_zero _)
  · exact zk_get1 hr hd s2 k3 k1 k2 hn k5 (k6 n y hy)
theorem zk_I_add2 (h : zk_I B S ex sl s el va ca ka q) (hl : ka.length < 16040) {fs : List Value} (h5 : fs.length = 3) {ex' : List zm_E} {e' cap' sl' : Nat} (ha : zk_al 9 ex' e' (ka ++ [ex.length]) cap') (g : zk_gr (zk_ap ex (Sum.inr (9, fs) : zm_E)) ex' (el 2) e' q.2.2 cap' (sl + 3) sl') (z : Int32) : zk_I B S ex' sl' (zu (zu s 19 z) 18 (nI (ka.length + 1))) (zu el 2 e') va ca (ka ++ [ex.length]) (q.1, q.2.1, cap') := by
  obtain ⟨⟨a1, a2, a3⟩, ⟨s1, s2, s3⟩, ⟨nd1, nd2, nd3⟩, ⟨n1, n2, n3⟩, ⟨b1, b2⟩, h6, h7, h8, h9⟩ := h
  obtain ⟨_, _, _, g4, g5, g6, g7⟩ := id g
  rw [zk_ap_len] at g5
  have hsh : ∀ y fs, y ∈ ka ++ [ex.length] → ex'[y]? = some (Sum.inr (9, fs) : zm_E) → fs.length = 3 := by
    refine zk_sh_gr (ex := zk_ap ex (Sum.inr (9, fs) : zm_E)) (fun y hy => ?_) g (fun y gs hy hz => ?_)
    · rcases List.mem_append.mp hy with k | k
      · exact (zk_al_ap _ a3).1 y k
      · rw [List.mem_singleton] at k
        subst k
        exact ⟨fs, zk_ap_new ex _⟩
    · rcases List.mem_append.mp hy with k | k
      · exact zk_sh_ap a3 h9 y gs k hz
      · rw [List.mem_singleton] at k
        subst k
        rw [zk_ap_new] at hz
        cases Option.some.inj hz
        exact h5
  refine ⟨⟨zk_al_other (zk_al_ap _ a1) g (fun z => z.trans (n2 z.symm)), zk_al_other (zk_al_ap _ a2) g (fun z => z.trans (n3 z.symm)), ha⟩, ⟨s1, s2, by rw [List.length_append, List.length_singleton]; rfl⟩, ⟨nd1, nd2, (zk_nd_ap a3.1 nd3)⟩, ⟨n1, (fun z => z.trans ((zk_ne_other (zk_al_ap _ a1) g (fun z => z.trans (n2 z.symm))) z.symm)), (fun z => z.trans ((zk_ne_other (zk_al_ap _ a2) g (fun z => z.trans (n3 z.symm))) z.symm))⟩, ⟨?_, ?_⟩, ⟨h6.1, h6.2.1, by rw [List.length_append, List.length_singleton]; omega⟩, zk_sh_gr (zk_al_ap _ a1).1 g (zk_sh_ap a1 h7), zk_sh_gr (zk_al_ap _ a2).1 g (zk_sh_ap a2 h8), hsh⟩
  · rw [List.length_append, List.length_singleton]
    dsimp only
    omega
  · rw [List.length_append, List.length_singleton]
    dsimp only
    omega
theorem zk_gt2 (hB : zk_BS B S) (hd : 3 ≤ d) (h : zk_I B S ex sl s el va ca ka q) {n y : Nat} (hy : ka[n]? = some y) : zm_J N d 109 0 [(0, .ref 10), (1, .int (nI n))] [] (zk_H R ex sl s r el f g df) (fun z G' => z = .inl (some (.ref (y + 37))) ∧ G' = zk_H R ex sl s r el f g df) := by
  have hr := zk_I_r hB h
  obtain ⟨⟨a1, a2, a3⟩, ⟨s1, s2, s3⟩, _⟩ := h
  have hn := (List.getElem?_eq_some_iff.mp hy).1
  obtain ⟨_, ⟨_, k, _⟩ | ⟨i, fn, k1, k2, k3, k4, k5, k6⟩⟩ := a3
  · rw [k] at hn; exact absurd hn (Nat.not_lt_zero _)
  · exact zk_get2 hr hd s3 k3 k1 k2 hn k5 (k6 n y hy)
theorem zk_nv29 (hB : zk_BS B S) (hd : 4 ≤ d) (h : zk_I B S ex sl s el va ca ka q) {n y : Nat} {kd : Int32} {a b c e g' : Value} (hu : s 11 = nI n) (hy : va[n]? = some y) (hc : ex[y]? = some (Sum.inr (3, [a, b, c, e, g']) : zm_E)) (k : Q (.inl (some (.ref (y + 37)))) (zk_H R (ex.set y (Sum.inr (3, [.int kd, b, c, e, g']) : zm_E)) sl (zu s 11 (nI (n + 1))) r el f g df)) : zm_J N d 39 29 [(0, .ref 6), (1, .int kd)] [] (zk_H R ex sl s r el f g df) Q := by
  obtain ⟨d, rfl⟩ : ∃ e, d = e + 4 := ⟨d - 4, by omega⟩
  have hr := zk_I_r hB h
  refine zm_J_run zm_T 4 (pc' := 37) (lv' := [(0, .ref 6), (1, .int kd)]) (st' := [.int (s 11), .ref 8]) (G' := (zk_H R ex sl s r el f g df)) rfl ?_
  rw [show (.int (s 11) : Value) = .int (nI n) from congrArg Value.int hu]
  show zm_J N _ 39 37 [(0, .ref 6), (1, .int kd)] [.int (nI n), .ref 8] (zk_H R ex sl s r el f g df) _
  refine zg_V (a := 8) (av := [.int (nI n)]) (rest := []) (v := some (.ref (y + 37))) (G2 := (zk_H R ex sl s r el f g df)) (zm_T.1 39 37 _ rfl).1 zc_39_37 rfl (Nat.le_of_ble_eq_true rfl) (Nat.le_of_ble_eq_true rfl) (zk_c hr) (zk_s hr) (zk_gt0 hB (by omega) h hy) ?_
  show zm_J N _ 39 40 [(0, .ref 6), (1, .int kd)] [.ref (y + 37)] (zk_H R ex sl s r el f g df) _
  refine zg_cast rfl (zk_at hc) ?_
  refine zm_J_run zm_T 6 (pc' := 51) (lv' := [(2, .ref (y + 37)), (0, .ref 6), (1, .int kd)]) (st' := [.int ((s 11) + 1), .ref 6]) (G' := (zk_H R ex sl s r el f g df)) rfl ?_
  rw [show s 11 + 1 = nI (n + 1) from by rw [hu]; exact nI_1 _]
  show zm_J N _ 39 51 [(2, .ref (y + 37)), (0, .ref 6), (1, .int kd)] [.int (nI (n + 1)), .ref 6] (zk_H R ex sl s r el f g df) _
  refine zm_J_run zm_T 3 (pc' := 56) (lv' := [(2, .ref (y + 37)), (0, .ref 6), (1, .int kd)]) (st' := [.int kd, .ref (y + 37)]) (G' := (zk_H R ex sl (zu s 11 (nI (n + 1))) r el f g df)) rfl ?_
  refine zg_pf (fs := [a, b, c, e, g']) (G' := (zk_H R (ex.set y (Sum.inr (3, [.int kd, b, c, e, g']) : zm_E)) sl (zu s 11 (nI (n + 1))) r el f g df)) rfl (zk_at hc) (Nat.le_add_left 2 _) (Nat.le_of_ble_eq_true rfl) rfl rfl ?_
  refine zm_J_run zm_T 1 (pc' := 60) (lv' := [(2, .ref (y + 37)), (0, .ref 6), (1, .int kd)]) (st' := [.ref (y + 37)]) (G' := (zk_H R (ex.set y (Sum.inr (3, [.int kd, b, c, e, g']) : zm_E)) sl (zu s 11 (nI (n + 1))) r el f g df)) rfl ?_
  exact zm_J_fin zm_T rfl rfl k
theorem zk_cl29 (hB : zk_BS B S) (hd : 4 ≤ d) (h : zk_I B S ex sl s el va ca ka q) {n y : Nat} {xa : Nat} {ch : Value} (hch : ch = .null ∨ ∃ z, ch = .ref z) {a b c e : Value} (hu : s 12 = nI n) (hy : ca[n]? = some y) (hc : ex[y]? = some (Sum.inr (8, [a, b, c, e]) : zm_E)) (k : Q (.inl (some (.ref (y + 37)))) (zk_H R (ex.set y (Sum.inr (8, [.ref xa, ch, .int 0, .null]) : zm_E)) sl (zu s 12 (nI (n + 1))) r el f g df)) : zm_J N d 48 29 [(0, .ref 6), (1, .ref xa), (2, ch)] [] (zk_H R ex sl s r el f g df) Q := by
  obtain ⟨d, rfl⟩ : ∃ e, d = e + 4 := ⟨d - 4, by omega⟩
  have hr := zk_I_r hB h
  have hc1 := zk_set_at (Sum.inr (8, [.ref xa, b, c, e]) : zm_E) hc
  have hc2 := zk_set_at (Sum.inr (8, [.ref xa, ch, c, e]) : zm_E) hc
  have hc3 := zk_set_at (Sum.inr (8, [.ref xa, ch, .int 0, e]) : zm_E) hc
  rcases hch with rfl | ⟨z, rfl⟩
  · refine zm_J_run zm_T 4 (pc' := 37) (lv' := [(0, .ref 6), (1, .ref xa), (2, .null)]) (st' := [.int (s 12), .ref 9]) (G' := (zk_H R ex sl s r el f g df)) rfl ?_
    rw [show (.int (s 12) : Value) = .int (nI n) from congrArg Value.int hu]
    show zm_J N _ 48 37 [(0, .ref 6), (1, .ref xa), (2, .null)] [.int (nI n), .ref 9] (zk_H R ex sl s r el f g df) _
    refine zg_V (a := 9) (av := [.int (nI n)]) (rest := []) (v := some (.ref (y + 37))) (G2 := (zk_H R ex sl s r el f g df)) (zm_T.1 48 37 _ rfl).1 zc_48_37 rfl (Nat.le_of_ble_eq_true rfl) (Nat.le_of_ble_eq_true rfl) (zk_c hr) (zk_s hr) (zk_gt1 hB (by omega) h hy) ?_
    show zm_J N _ 48 40 [(0, .ref 6), (1, .ref xa), (2, .null)] [.ref (y + 37)] (zk_H R ex sl s r el f g df) _
    refine zg_cast rfl (zk_at hc) ?_
    refine zm_J_run zm_T 6 (pc' := 51) (lv' := [(3, .ref (y + 37)), (0, .ref 6), (1, .ref xa), (2, .null)]) (st' := [.int ((s 12) + 1), .ref 6]) (G' := (zk_H R ex sl s r el f g df)) rfl ?_
    rw [show s 12 + 1 = nI (n + 1) from by rw [hu]; exact nI_1 _]
    show zm_J N _ 48 51 [(3, .ref (y + 37)), (0, .ref 6), (1, .ref xa), (2, .null)] [.int (nI (n + 1)), .ref 6] (zk_H R ex sl s r el f g df) _
    refine zm_J_run zm_T 3 (pc' := 56) (lv' := [(3, .ref (y + 37)), (0, .ref 6), (1, .ref xa), (2, .null)]) (st' := [.ref xa, .ref (y + 37)]) (G' := (zk_H R ex sl (zu s 12 (nI (n + 1))) r el f g df)) rfl ?_
    refine zg_pf (fs := [a, b, c, e]) (G' := (zk_H R (ex.set y (Sum.inr (8, [.ref xa, b, c, e]) : zm_E)) sl (zu s 12 (nI (n + 1))) r el f g df)) rfl (zk_at hc) (Nat.le_add_left 2 _) (Nat.le_of_ble_eq_true rfl) rfl rfl ?_
    refine zm_J_run zm_T 2 (pc' := 61) (lv' := [(3, .ref (y + 37)), (0, .ref 6), (1, .ref xa), (2, .null)]) (st' := [.null, .ref (y + 37)]) (G' := (zk_H R (ex.set y (Sum.inr (8, [.ref xa, b, c, e]) : zm_E)) sl (zu s 12 (nI (n + 1))) r el f g df)) rfl ?_
    refine zg_pf (fs := [.ref xa, b, c, e]) (G' := (zk_H R (ex.set y (Sum.inr (8, [.ref xa, .null, c, e]) : zm_E)) sl (zu s 12 (nI (n + 1))) r el f g df)) rfl (zk_at hc1) (Nat.le_add_left 2 _) (Nat.le_of_ble_eq_true rfl) rfl (zk_ss ..) ?_
    refine zm_J_run zm_T 2 (pc' := 66) (lv' := [(3, .ref (y + 37)), (0, .ref 6), (1, .ref xa), (2, .null)]) (st' := [.int 0, .ref (y + 37)]) (G' := (zk_H R (ex.set y (Sum.inr (8, [.ref xa, .null, c, e]) : zm_E)) sl (zu s 12 (nI (n + 1))) r el f g df)) rfl ?_
    refine zg_pf (fs := [.ref xa, .null, c, e]) (G' := (zk_H R (ex.set y (Sum.inr (8, [.ref xa, .null, .int 0, e]) : zm_E)) sl (zu s 12 (nI (n + 1))) r el f g df)) rfl (zk_at hc2) (Nat.le_add_left 2 _) (Nat.le_of_ble_eq_true rfl) rfl (zk_ss ..) ?_
    refine zm_J_run zm_T 2 (pc' := 71) (lv' := [(3, .ref (y + 37)), (0, .ref 6), (1, .ref xa), (2, .null)]) (st' := [.null, .ref (y + 37)]) (G' := (zk_H R (ex.set y (Sum.inr (8, [.ref xa, .null, .int 0, e]) : zm_E)) sl (zu s 12 (nI (n + 1))) r el f g df)) rfl ?_
    refine zg_pf (fs := [.ref xa, .null, .int 0, e]) (G' := (zk_H R (ex.set y (Sum.inr (8, [.ref xa, .null, .int 0, .null]) : zm_E)) sl (zu s 12 (nI (n + 1))) r el f g df)) rfl (zk_at hc3) (Nat.le_add_left 2 _) (Nat.le_of_ble_eq_true rfl) rfl (zk_ss ..) ?_
    refine zm_J_run zm_T 1 (pc' := 75) (lv' := [(3, .ref (y + 37)), (0, .ref 6), (1, .ref xa), (2, .null)]) (st' := [.ref (y + 37)]) (G' := (zk_H R (ex.set y (Sum.inr (8, [.ref xa, .null, .int 0, .null]) : zm_E)) sl (zu s 12 (nI (n + 1))) r el f g df)) rfl ?_
    exact zm_J_fin zm_T rfl rfl k
  · refine zm_J_run zm_T 4 (pc' := 37) (lv' := [(0, .ref 6), (1, .ref xa), (2, .ref z)]) (st' := [.int (s 12), .ref 9]) (G' := (zk_H R ex sl s r el f g df)) rfl ?_
    rw [show (.int (s 12) : Value) = .int (nI n) from congrArg Value.int hu]
    show zm_J N _ 48 37 [(0, .ref 6), (1, .ref xa), (2, .ref z)] [.int (nI n), .ref 9] (zk_H R ex sl s r el f g df) _
    refine zg_V (a := 9) (av := [.int (nI n)]) (rest := []) (v := some (.ref (y + 37))) (G2 := (zk_H R ex sl s r el f g df)) (zm_T.1 48 37 _ rfl).1 zc_48_37 rfl (Nat.le_of_ble_eq_true rfl) (Nat.le_of_ble_eq_true rfl) (zk_c hr) (zk_s hr) (zk_gt1 hB (by omega) h hy) ?_
    show zm_J N _ 48 40 [(0, .ref 6), (1, .ref xa), (2, .ref z)] [.ref (y + 37)] (zk_H R ex sl s r el f g df) _
    refine zg_cast rfl (zk_at hc) ?_
    refine zm_J_run zm_T 6 (pc' := 51) (lv' := [(3, .ref (y + 37)), (0, .ref 6), (1, .ref xa), (2, .ref z)]) (st' := [.int ((s 12) + 1), .ref 6]) (G' := (zk_H R ex sl s r el f g df)) rfl ?_
    rw [show s 12 + 1 = nI (n + 1) from by rw [hu]; exact nI_1 _]
    show zm_J N _ 48 51 [(3, .ref (y + 37)), (0, .ref 6), (1, .ref xa), (2, .ref z)] [.int (nI (n + 1)), .ref 6] (zk_H R ex sl s r el f g df) _
    refine zm_J_run zm_T 3 (pc' := 56) (lv' := [(3, .ref (y + 37)), (0, .ref 6), (1, .ref xa), (2, .ref z)]) (st' := [.ref xa, .ref (y + 37)]) (G' := (zk_H R ex sl (zu s 12 (nI (n + 1))) r el f g df)) rfl ?_
    refine zg_pf (fs := [a, b, c, e]) (G' := (zk_H R (ex.set y (Sum.inr (8, [.ref xa, b, c, e]) : zm_E)) sl (zu s 12 (nI (n + 1))) r el f g df)) rfl (zk_at hc) (Nat.le_add_left 2 _) (Nat.le_of_ble_eq_true rfl) rfl rfl ?_
    refine zm_J_run zm_T 2 (pc' := 61) (lv' := [(3, .ref (y + 37)), (0, .ref 6), (1, .ref xa), (2, .ref z)]) (st' := [.ref z, .ref (y + 37)]) (G' := (zk_H R (ex.set y (Sum.inr (8, [.ref xa, b, c, e]) : zm_E)) sl (zu s 12 (nI (n + 1))) r el f g df)) rfl ?_
    refine zg_pf (fs := [.ref xa, b, c, e]) (G' := (zk_H R (ex.set y (Sum.inr (8, [.ref xa, .ref z, c, e]) : zm_E)) sl (zu s 12 (nI (n + 1))) r el f g df)) rfl (zk_at hc1) (Nat.le_add_left 2 _) (Nat.le_of_ble_eq_true rfl) rfl (zk_ss ..) ?_
    refine zm_J_run zm_T 2 (pc' := 66) (lv' := [(3, .ref (y + 37)), (0, .ref 6), (1, .ref xa), (2, .ref z)]) (st' := [.int 0, .ref (y + 37)]) (G' := (zk_H R (ex.set y (Sum.inr (8, [.ref xa, .ref z, c, e]) : zm_E)) sl (zu s 12 (nI (n + 1))) r el f g df)) rfl ?_
    refine zg_pf (fs := [.ref xa, .ref z, c, e]) (G' := (zk_H R (ex.set y (Sum.inr (8, [.ref xa, .ref z, .int 0, e]) : zm_E)) sl (zu s 12 (nI (n + 1))) r el f g df)) rfl (zk_at hc2) (Nat.le_add_left 2 _) (Nat.le_of_ble_eq_true rfl) rfl (zk_ss ..) ?_
    refine zm_J_run zm_T 2 (pc' := 71) (lv' := [(3, .ref (y + 37)), (0, .ref 6), (1, .ref xa), (2, .ref z)]) (st' := [.null, .ref (y + 37)]) (G' := (zk_H R (ex.set y (Sum.inr (8, [.ref xa, .ref z, .int 0, e]) : zm_E)) sl (zu s 12 (nI (n + 1))) r el f g df)) rfl ?_
    refine zg_pf (fs := [.ref xa, .ref z, .int 0, e]) (G' := (zk_H R (ex.set y (Sum.inr (8, [.ref xa, .ref z, .int 0, .null]) : zm_E)) sl (zu s 12 (nI (n + 1))) r el f g df)) rfl (zk_at hc3) (Nat.le_add_left 2 _) (Nat.le_of_ble_eq_true rfl) rfl (zk_ss ..) ?_
    refine zm_J_run zm_T 1 (pc' := 75) (lv' := [(3, .ref (y + 37)), (0, .ref 6), (1, .ref xa), (2, .ref z)]) (st' := [.ref (y + 37)]) (G' := (zk_H R (ex.set y (Sum.inr (8, [.ref xa, .ref z, .int 0, .null]) : zm_E)) sl (zu s 12 (nI (n + 1))) r el f g df)) rfl ?_
    exact zm_J_fin zm_T rfl rfl k
theorem zk_ar29 (hB : zk_BS B S) (hd : 4 ≤ d) (h : zk_I B S ex sl s el va ca ka q) {n y m : Nat} {bf la : Value} {lp : Nat} (hla : la = .ref lp) (hbf : (bf = .null ∧ m = 0) ∨ ∃ z b1 b2, bf = .ref (z + 37) ∧ z ≠ y ∧ ex[z]? = some (Sum.inr (9, [b1, b2, .int (nI m)]) : zm_E)) {a b c : Value} (hu : s 13 = nI n) (hy : ka[n]? = some y) (hc : ex[y]? = some (Sum.inr (9, [a, b, c]) : zm_E)) (k : Q (.inl (some (.ref (y + 37)))) (zk_H R (ex.set y (Sum.inr (9, [bf, .ref lp, .int (nI (m + 1))]) : zm_E)) sl (zu s 13 (nI (n + 1))) r el f g df)) : zm_J N d 52 29 [(0, .ref 6), (1, bf), (2, la)] [] (zk_H R ex sl s r el f g df) Q := by
  obtain ⟨d, rfl⟩ : ∃ e, d = e + 4 := ⟨d - 4, by omega⟩
  subst hla
  have hr := zk_I_r hB h
  have hc1 := zk_set_at (Sum.inr (9, [bf, b, c]) : zm_E) hc
  have hc2 := zk_set_at (Sum.inr (9, [bf, .ref lp, c]) : zm_E) hc
  rcases hbf with ⟨rfl, rfl⟩ | ⟨z, b1, b2, rfl, hz, hz2⟩
  · refine zm_J_run zm_T 4 (pc' := 37) (lv' := [(0, .ref 6), (1, .null), (2, .ref lp)]) (st' := [.int (s 13), .ref 10]) (G' := (zk_H R ex sl s r el f g df)) rfl ?_
    rw [show (.int (s 13) : Value) = .int (nI n) from congrArg Value.int hu]
    show zm_J N _ 52 37 [(0, .ref 6), (1, .null), (2, .ref lp)] [.int (nI n), .ref 10] (zk_H R ex sl s r el f g df) _
    refine zg_V (a := 10) (av := [.int (nI n)]) (rest := []) (v := some (.ref (y + 37))) (G2 := (zk_H R ex sl s r el f g df)) (zm_T.1 52 37 _ rfl).1 zc_52_37 rfl (Nat.le_of_ble_eq_true rfl) (Nat.le_of_ble_eq_true rfl) (zk_c hr) (zk_s hr) (zk_gt2 hB (by omega) h hy) ?_
    show zm_J N _ 52 40 [(0, .ref 6), (1, .null), (2, .ref lp)] [.ref (y + 37)] (zk_H R ex sl s r el f g df) _
    refine zg_cast rfl (zk_at hc) ?_
    refine zm_J_run zm_T 6 (pc' := 51) (lv' := [(3, .ref (y + 37)), (0, .ref 6), (1, .null), (2, .ref lp)]) (st' := [.int ((s 13) + 1), .ref 6]) (G' := (zk_H R ex sl s r el f g df)) rfl ?_
    rw [show s 13 + 1 = nI (n + 1) from by rw [hu]; exact nI_1 _]
    show zm_J N _ 52 51 [(3, .ref (y + 37)), (0, .ref 6), (1, .null), (2, .ref lp)] [.int (nI (n + 1)), .ref 6] (zk_H R ex sl s r el f g df) _
    refine zm_J_run zm_T 3 (pc' := 56) (lv' := [(3, .ref (y + 37)), (0, .ref 6), (1, .null), (2, .ref lp)]) (st' := [.null, .ref (y + 37)]) (G' := (zk_H R ex sl (zu s 13 (nI (n + 1))) r el f g df)) rfl ?_
    refine zg_pf (fs := [a, b, c]) (G' := (zk_H R (ex.set y (Sum.inr (9, [.null, b, c]) : zm_E)) sl (zu s 13 (nI (n + 1))) r el f g df)) rfl (zk_at hc) (Nat.le_add_left 2 _) (Nat.le_of_ble_eq_true rfl) rfl rfl ?_
    refine zm_J_run zm_T 2 (pc' := 61) (lv' := [(3, .ref (y + 37)), (0, .ref 6), (1, .null), (2, .ref lp)]) (st' := [.ref lp, .ref (y + 37)]) (G' := (zk_H R (ex.set y (Sum.inr (9, [.null, b, c]) : zm_E)) sl (zu s 13 (nI (n + 1))) r el f g df)) rfl ?_
    refine zg_pf (fs := [.null, b, c]) (G' := (zk_H R (ex.set y (Sum.inr (9, [.null, .ref lp, c]) : zm_E)) sl (zu s 13 (nI (n + 1))) r el f g df)) rfl (zk_at hc1) (Nat.le_add_left 2 _) (Nat.le_of_ble_eq_true rfl) rfl (zk_ss ..) ?_
    refine zm_J_run zm_T 5 (pc' := 79) (lv' := [(3, .ref (y + 37)), (0, .ref 6), (1, .null), (2, .ref lp)]) (st' := [.int 1, .ref (y + 37)]) (G' := (zk_H R (ex.set y (Sum.inr (9, [.null, .ref lp, c]) : zm_E)) sl (zu s 13 (nI (n + 1))) r el f g df)) rfl ?_
    show zm_J N _ 52 79 [(3, .ref (y + 37)), (0, .ref 6), (1, .null), (2, .ref lp)] [.int (nI 1), .ref (y + 37)] (zk_H R (ex.set y (Sum.inr (9, [.null, .ref lp, c]) : zm_E)) sl (zu s 13 (nI (n + 1))) r el f g df) _
    refine zg_pf (fs := [.null, .ref lp, c]) (G' := (zk_H R (ex.set y (Sum.inr (9, [.null, .ref lp, .int (nI (0 + 1))]) : zm_E)) sl (zu s 13 (nI (n + 1))) r el f g df)) rfl (zk_at hc2) (Nat.le_add_left 2 _) (Nat.le_of_ble_eq_true rfl) rfl (zk_ss ..) ?_
    refine zm_J_run zm_T 1 (pc' := 83) (lv' := [(3, .ref (y + 37)), (0, .ref 6), (1, .null), (2, .ref lp)]) (st' := [.ref (y + 37)]) (G' := (zk_H R (ex.set y (Sum.inr (9, [.null, .ref lp, .int (nI (0 + 1))]) : zm_E)) sl (zu s 13 (nI (n + 1))) r el f g df)) rfl ?_
    exact zm_J_fin zm_T rfl rfl k
  · refine zm_J_run zm_T 4 (pc' := 37) (lv' := [(0, .ref 6), (1, .ref (z + 37)), (2, .ref lp)]) (st' := [.int (s 13), .ref 10]) (G' := (zk_H R ex sl s r el f g df)) rfl ?_
    rw [show (.int (s 13) : Value) = .int (nI n) from congrArg Value.int hu]
    show zm_J N _ 52 37 [(0, .ref 6), (1, .ref (z + 37)), (2, .ref lp)] [.int (nI n), .ref 10] (zk_H R ex sl s r el f g df) _
    refine zg_V (a := 10) (av := [.int (nI n)]) (rest := []) (v := some (.ref (y + 37))) (G2 := (zk_H R ex sl s r el f g df)) (zm_T.1 52 37 _ rfl).1 zc_52_37 rfl (Nat.le_of_ble_eq_true rfl) (Nat.le_of_ble_eq_true rfl) (zk_c hr) (zk_s hr) (zk_gt2 hB (by omega) h hy) ?_
    show zm_J N _ 52 40 [(0, .ref 6), (1, .ref (z + 37)), (2, .ref lp)] [.ref (y + 37)] (zk_H R ex sl s r el f g df) _
    refine zg_cast rfl (zk_at hc) ?_
    refine zm_J_run zm_T 6 (pc' := 51) (lv' := [(3, .ref (y + 37)), (0, .ref 6), (1, .ref (z + 37)), (2, .ref lp)]) (st' := [.int ((s 13) + 1), .ref 6]) (G' := (zk_H R ex sl s r el f g df)) rfl ?_
    rw [show s 13 + 1 = nI (n + 1) from by rw [hu]; exact nI_1 _]
    show zm_J N _ 52 51 [(3, .ref (y + 37)), (0, .ref 6), (1, .ref (z + 37)), (2, .ref lp)] [.int (nI (n + 1)), .ref 6] (zk_H R ex sl s r el f g df) _
    refine zm_J_run zm_T 3 (pc' := 56) (lv' := [(3, .ref (y + 37)), (0, .ref 6), (1, .ref (z + 37)), (2, .ref lp)]) (st' := [.ref (z + 37), .ref (y + 37)]) (G' := (zk_H R ex sl (zu s 13 (nI (n + 1))) r el f g df)) rfl ?_
    refine zg_pf (fs := [a, b, c]) (G' := (zk_H R (ex.set y (Sum.inr (9, [.ref (z + 37), b, c]) : zm_E)) sl (zu s 13 (nI (n + 1))) r el f g df)) rfl (zk_at hc) (Nat.le_add_left 2 _) (Nat.le_of_ble_eq_true rfl) rfl rfl ?_
    refine zm_J_run zm_T 2 (pc' := 61) (lv' := [(3, .ref (y + 37)), (0, .ref 6), (1, .ref (z + 37)), (2, .ref lp)]) (st' := [.ref lp, .ref (y + 37)]) (G' := (zk_H R (ex.set y (Sum.inr (9, [.ref (z + 37), b, c]) : zm_E)) sl (zu s 13 (nI (n + 1))) r el f g df)) rfl ?_
    refine zg_pf (fs := [.ref (z + 37), b, c]) (G' := (zk_H R (ex.set y (Sum.inr (9, [.ref (z + 37), .ref lp, c]) : zm_E)) sl (zu s 13 (nI (n + 1))) r el f g df)) rfl (zk_at hc1) (Nat.le_add_left 2 _) (Nat.le_of_ble_eq_true rfl) rfl (zk_ss ..) ?_
    refine zm_J_run zm_T 4 (pc' := 74) (lv' := [(3, .ref (y + 37)), (0, .ref 6), (1, .ref (z + 37)), (2, .ref lp)]) (st' := [.ref (z + 37), .ref (y + 37)]) (G' := (zk_H R (ex.set y (Sum.inr (9, [.ref (z + 37), .ref lp, c]) : zm_E)) sl (zu s 13 (nI (n + 1))) r el f g df)) rfl ?_
    refine zg_gf (fs := [b1, b2, .int (nI m)]) rfl (zk_at (by rw [List.getElem?_set_ne (fun e => hz e.symm)]; exact hz2)) rfl ?_
    refine zm_J_run zm_T 2 (pc' := 79) (lv' := [(3, .ref (y + 37)), (0, .ref 6), (1, .ref (z + 37)), (2, .ref lp)]) (st' := [.int ((nI m) + 1), .ref (y + 37)]) (G' := (zk_H R (ex.set y (Sum.inr (9, [.ref (z + 37), .ref lp, c]) : zm_E)) sl (zu s 13 (nI (n + 1))) r el f g df)) rfl ?_
    rw [show nI m + 1 = nI (m + 1) from nI_1 _]
    show zm_J N _ 52 79 [(3, .ref (y + 37)), (0, .ref 6), (1, .ref (z + 37)), (2, .ref lp)] [.int (nI (m + 1)), .ref (y + 37)] (zk_H R (ex.set y (Sum.inr (9, [.ref (z + 37), .ref lp, c]) : zm_E)) sl (zu s 13 (nI (n + 1))) r el f g df) _
    refine zg_pf (fs := [.ref (z + 37), .ref lp, c]) (G' := (zk_H R (ex.set y (Sum.inr (9, [.ref (z + 37), .ref lp, .int (nI (m + 1))]) : zm_E)) sl (zu s 13 (nI (n + 1))) r el f g df)) rfl (zk_at hc2) (Nat.le_add_left 2 _) (Nat.le_of_ble_eq_true rfl) rfl (zk_ss ..) ?_
    refine zm_J_run zm_T 1 (pc' := 83) (lv' := [(3, .ref (y + 37)), (0, .ref 6), (1, .ref (z + 37)), (2, .ref lp)]) (st' := [.ref (y + 37)]) (G' := (zk_H R (ex.set y (Sum.inr (9, [.ref (z + 37), .ref lp, .int (nI (m + 1))]) : zm_E)) sl (zu s 13 (nI (n + 1))) r el f g df)) rfl ?_
    exact zm_J_fin zm_T rfl rfl k
theorem zk_ini5 {a : Nat} {G : zm_H} : zm_J N (d + 1) 5 0 [(0, .ref a)] [] G (fun z G' => z = .inl none ∧ G' = G) := by
  refine zm_J_run zm_T 1 (pc' := 1) (lv' := [(0, .ref a)]) (st' := [.ref a]) (G' := G) rfl ?_
  refine zm_J_O (rest := []) (zm_T.1 5 1 _ rfl).1 zc_5_1 (Nat.le_of_ble_eq_true rfl) ?_
  exact zm_J_fin zm_T rfl rfl ⟨rfl, rfl⟩
theorem zk_ini49 {a : Nat} {G : zm_H} : zm_J N (d + 1) 49 0 [(0, .ref a)] [] G (fun z G' => z = .inl none ∧ G' = G) := by
  refine zm_J_run zm_T 1 (pc' := 1) (lv' := [(0, .ref a)]) (st' := [.ref a]) (G' := G) rfl ?_
  refine zm_J_O (rest := []) (zm_T.1 49 1 _ rfl).1 zc_49_1 (Nat.le_of_ble_eq_true rfl) ?_
  exact zm_J_fin zm_T rfl rfl ⟨rfl, rfl⟩
theorem zk_ini53 {a : Nat} {G : zm_H} : zm_J N (d + 1) 53 0 [(0, .ref a)] [] G (fun z G' => z = .inl none ∧ G' = G) := by
  refine zm_J_run zm_T 1 (pc' := 1) (lv' := [(0, .ref a)]) (st' := [.ref a]) (G' := G) rfl ?_
  refine zm_J_O (rest := []) (zm_T.1 53 1 _ rfl).1 zc_53_1 (Nat.le_of_ble_eq_true rfl) ?_
  exact zm_J_fin zm_T rfl rfl ⟨rfl, rfl⟩
theorem zk_ce0 (h : zk_I B S ex sl s el va ca ka q) {n y : Nat} (hy : va[n]? = some y) : ∃ a b c e g', ex[y]? = some (Sum.inr (3, [a, b, c, e, g']) : zm_E) := by
  have hm := List.mem_of_getElem? hy
  obtain ⟨⟨a1, a2, a3⟩, _, _, _, _, _, h7, h8, h9⟩ := h
  obtain ⟨fs, k⟩ := a1.1 y hm
  obtain ⟨a, b, c, e, g', rfl⟩ := zk_l5 (h7 y fs hm k)
  exact ⟨a, b, c, e, g', k⟩
theorem zk_nxv (hB : zk_BS B S) (hR1 : R 1 = zk_em) (hd : 7 ≤ d) (h : zk_I B S ex sl s el va ca ka q) {n : Nat} {kd : Int32} (hu : s 11 = nI n) (hn : n ≤ va.length) (hm : n < 32080)
    (K : ∀ ex' sl' s' el' l' q' y b c e g', zk_I B S ex' sl' s' el' l' ca ka q' → zk_nv 3 11 14 ex s va n ex' s' l' y → ex'[y]? = some (Sum.inr (3, [.int kd, b, c, e, g']) : zm_E) → Q (.inl (some (.ref (y + 37)))) (zk_H R ex' sl' s' r el' f g df)) : zm_J N d 39 0 [(0, .ref 6), (1, .int kd)] [] (zk_H R ex sl s r el f g df) Q := by
  obtain ⟨d, rfl⟩ : ∃ e, d = e + 7 := ⟨d - 7, by omega⟩
  have hr := zk_I_r hB h
  have hrm := zk_I_room hB h
  have hsz : s 14 = nI va.length := h.2.1.1
  by_cases hlt : n < va.length
  · refine zm_J_run zm_T 4 (pc' := 8) (lv' := [(0, .ref 6), (1, .int kd)]) (st' := [.ref 8, .int (s 11)]) (G' := (zk_H R ex sl s r el f g df)) rfl ?_
    refine zg_V (a := 8) (av := []) (rest := [.int (s 11)]) (v := some (.int (s 14))) (G2 := (zk_H R ex sl s r el f g df)) (zm_T.1 39 8 _ rfl).1 zc_39_8 rfl (Nat.le_of_ble_eq_true rfl) (Nat.le_of_ble_eq_true rfl) (zk_c hr) (zk_s hr) (zk_size0) ?_
    show zm_J N _ 39 11 [(0, .ref 6), (1, .int kd)] [.int (s 14), .int (s 11)] (zk_H R ex sl s r el f g df) _
    rw [show (.int (s 11) : Value) = .int (nI n) from congrArg Value.int hu, show (.int (s 14) : Value) = .int (nI va.length) from congrArg Value.int hsz]
    show zm_J N _ 39 11 [(0, .ref 6), (1, .int kd)] [.int (nI va.length), .int (nI n)] (zk_H R ex sl s r el f g df) _
    refine zm_J_run zm_T 1 (pc' := if (nI n) < (nI va.length) then 29 else 14) (lv' := [(0, .ref 6), (1, .int kd)]) (st' := []) (G' := (zk_H R ex sl s r el f g df)) rfl ?_
    rw [if_pos (show (nI n) < (nI va.length) from nI_lt hlt (by have := h.2.2.2.2.2.1; omega))]
    have hy : va[n]? = some va[n] := List.getElem?_eq_getElem hlt
    obtain ⟨a, b, c, e, g', hc⟩ := zk_ce0 h hy
    refine zk_nv29 hB (by omega) h  hu hy hc (K _ _ _ _ _ _ _ _ _ _ _ (zk_I_s rfl rfl rfl (zk_I_set _ hc rfl h)) ⟨zk_up.refl _, hy, zk_fr_set _ (fun i p _ e => e), fun p hp => (by rw [hc] at hp; cases Option.some.inj hp; rfl), zk_ueq, fun k k1 _ _ => zk_une k1⟩ (zk_set_at _ hc))
  · have hr1 : zr_r (zk_ap ex (Sum.inr (3, [.int 0, .int 0, .null, .null, .null]) : zm_E)) (sl + 5) := ⟨by rw [zk_ap_len]; omega, by omega⟩
    refine zm_J_run zm_T 4 (pc' := 8) (lv' := [(0, .ref 6), (1, .int kd)]) (st' := [.ref 8, .int (s 11)]) (G' := (zk_H R ex sl s r el f g df)) rfl ?_
    refine zg_V (a := 8) (av := []) (rest := [.int (s 11)]) (v := some (.int (s 14))) (G2 := (zk_H R ex sl s r el f g df)) (zm_T.1 39 8 _ rfl).1 zc_39_8 rfl (Nat.le_of_ble_eq_true rfl) (Nat.le_of_ble_eq_true rfl) (zk_c hr) (zk_s hr) (zk_size0) ?_
    show zm_J N _ 39 11 [(0, .ref 6), (1, .int kd)] [.int (s 14), .int (s 11)] (zk_H R ex sl s r el f g df) _
    rw [show (.int (s 11) : Value) = .int (nI n) from congrArg Value.int hu, show (.int (s 14) : Value) = .int (nI va.length) from congrArg Value.int hsz]
    show zm_J N _ 39 11 [(0, .ref 6), (1, .int kd)] [.int (nI va.length), .int (nI n)] (zk_H R ex sl s r el f g df) _
    refine zm_J_run zm_T 1 (pc' := if (nI n) < (nI va.length) then 29 else 14) (lv' := [(0, .ref 6), (1, .int kd)]) (st' := []) (G' := (zk_H R ex sl s r el f g df)) rfl ?_
    rw [if_neg (show ¬ ((nI n) < (nI va.length)) from nI_nlt (by omega) (by omega))]
    refine zm_J_run zm_T 2 (pc' := 18) (lv' := [(0, .ref 6), (1, .int kd)]) (st' := [.ref 8]) (G' := (zk_H R ex sl s r el f g df)) rfl ?_
    refine zg_newo rfl ⟨by omega, by show sl + 5 ≤ zm_S; omega⟩ (G' := (zk_H R (zk_ap ex (Sum.inr (3, [.int 0, .int 0, .null, .null, .null]) : zm_E)) (sl + 5) s r el f g df)) rfl ?_
    refine zm_J_run zm_T 1 (pc' := 22) (lv' := [(0, .ref 6), (1, .int kd)]) (st' := [.ref (ex.length + 37), .ref (ex.length + 37), .ref 8]) (G' := (zk_H R (zk_ap ex (Sum.inr (3, [.int 0, .int 0, .null, .null, .null]) : zm_E)) (sl + 5) s r el f g df)) rfl ?_
    refine zg_I (a := (ex.length + 37)) (av := []) (rest := [.ref (ex.length + 37), .ref 8]) (v := none) (G2 := (zk_H R (zk_ap ex (Sum.inr (3, [.int 0, .int 0, .null, .null, .null]) : zm_E)) (sl + 5) s r el f g df)) (zm_T.1 39 22 _ rfl).1 zc_39_22 (Nat.le_of_ble_eq_true rfl) (Nat.le_of_ble_eq_true rfl) (zk_c hr1) (zk_s hr1) (zk_ini5) ?_
    show zm_J N _ 39 25 [(0, .ref 6), (1, .int kd)] [.ref (ex.length + 37), .ref 8] (zk_H R (zk_ap ex (Sum.inr (3, [.int 0, .int 0, .null, .null, .null]) : zm_E)) (sl + 5) s r el f g df) _
    refine zg_VK (a := 8) (av := [.ref (ex.length + 37)]) (rest := []) (zm_T.1 39 25 _ rfl).1 zc_39_25 rfl (Nat.le_of_ble_eq_true rfl) (Nat.le_of_ble_eq_true rfl) (zk_c hr1) (zk_s hr1) (zk_add0 (by omega) hR1 (zk_al_ap _ h.1.1) hsz (by omega) (zk_ap_new ex _) (Or.inl rfl) ⟨by rw [zk_ap_len]; omega, by omega⟩ (fun ex' sl' e' cap' h1 h2 => ⟨_, rfl, ?_⟩))
    show zm_J N _ 39 28 [(0, .ref 6), (1, .int kd)] [.int 1] (zk_H R ex' sl' (zu (zu s 15 (s 15 + 1)) 14 (nI (va.length + 1))) r (zu el 0 e') f g df) _
    refine zm_J_run zm_T 1 (pc' := 29) (lv' := [(0, .ref 6), (1, .int kd)]) (st' := []) (G' := (zk_H R ex' sl' (zu (zu s 15 (s 15 + 1)) 14 (nI (va.length + 1))) r (zu el 0 e') f g df)) rfl ?_
    have hnl : n = va.length := by omega
    have hI := zk_I_add0 h (by omega) rfl h1 h2 (s 15 + 1)
    have hy : (va ++ [ex.length])[n]? = some ex.length := by rw [hnl, List.getElem?_append_right (Nat.le_refl _), Nat.sub_self]; rfl
    have hc := h2.1 ex.length _ (zk_ap_new ex _)
    have hfr : zk_fr ex ex' ex.length := fun i p _ e => h2.1 i p (zk_ap_old e)
    refine zk_nv29 hB (by omega) hI  hu hy hc (K _ _ _ _ _ _ _ _ _ _ _ (zk_I_s rfl rfl rfl (zk_I_set _ hc rfl hI)) ⟨zk_up_ap _ _, hy, zk_fr_set _ hfr, fun p hp => (by rw [List.getElem?_eq_none (Nat.le_refl _)] at hp; cases hp), zk_ueq, fun k k1 k2 k3 => by rw [zk_une k1, zk_une k2, zk_une k3]⟩ (zk_set_at _ hc))
theorem zk_ce1 (h : zk_I B S ex sl s el va ca ka q) {n y : Nat} (hy : ca[n]? = some y) : ∃ a b c e, ex[y]? = some (Sum.inr (8, [a, b, c, e]) : zm_E) := by
  have hm := List.mem_of_getElem? hy
  obtain ⟨⟨a1, a2, a3⟩, _, _, _, _, _, h7, h8, h9⟩ := h
  obtain ⟨fs, k⟩ := a2.1 y hm
  obtain ⟨a, b, c, e, rfl⟩ := zk_l4 (h8 y fs hm k)
  exact ⟨a, b, c, e, k⟩
theorem zk_mkc (hB : zk_BS B S) (hR1 : R 1 = zk_em) (hd : 7 ≤ d) (h : zk_I B S ex sl s el va ca ka q) {n : Nat} {xa : Nat} {ch : Value} (hch : ch = .null ∨ ∃ z, ch = .ref z) (hu : s 12 = nI n) (hn : n ≤ ca.length) (hm : n < 16040)
    (K : ∀ ex' sl' s' el' l' q' y, zk_I B S ex' sl' s' el' va l' ka q' → zk_nv 8 12 16 ex s ca n ex' s' l' y → ex'[y]? = some (Sum.inr (8, [.ref xa, ch, .int 0, .null]) : zm_E) → Q (.inl (some (.ref (y + 37)))) (zk_H R ex' sl' s' r el' f g df)) : zm_J N d 48 0 [(0, .ref 6), (1, .ref xa), (2, ch)] [] (zk_H R ex sl s r el f g df) Q := by
  obtain ⟨d, rfl⟩ : ∃ e, d = e + 7 := ⟨d - 7, by omega⟩
  have hr := zk_I_r hB h
  have hrm := zk_I_room hB h
  have hsz : s 16 = nI ca.length := h.2.1.2.1
  by_cases hlt : n < ca.length
  · refine zm_J_run zm_T 4 (pc' := 8) (lv' := [(0, .ref 6), (1, .ref xa), (2, ch)]) (st' := [.ref 9, .int (s 12)]) (G' := (zk_H R ex sl s r el f g df)) rfl ?_
    refine zg_V (a := 9) (av := []) (rest := [.int (s 12)]) (v := some (.int (s 16))) (G2 := (zk_H R ex sl s r el f g df)) (zm_T.1 48 8 _ rfl).1 zc_48_8 rfl (Nat.le_of_ble_eq_true rfl) (Nat.le_of_ble_eq_true rfl) (zk_c hr) (zk_s hr) (zk_size1) ?_
    show zm_J N _ 48 11 [(0, .ref 6), (1, .ref xa), (2, ch)] [.int (s 16), .int (s 12)] (zk_H R ex sl s r el f g df) _
    rw [show (.int (s 12) : Value) = .int (nI n) from congrArg Value.int hu, show (.int (s 16) : Value) = .int (nI ca.length) from congrArg Value.int hsz]
    show zm_J N _ 48 11 [(0, .ref 6), (1, .ref xa), (2, ch)] [.int (nI ca.length), .int (nI n)] (zk_H R ex sl s r el f g df) _
    refine zm_J_run zm_T 1 (pc' := if (nI n) < (nI ca.length) then 29 else 14) (lv' := [(0, .ref 6), (1, .ref xa), (2, ch)]) (st' := []) (G' := (zk_H R ex sl s r el f g df)) rfl ?_
    rw [if_pos (show (nI n) < (nI ca.length) from nI_lt hlt (by have := h.2.2.2.2.2.1; omega))]
    have hy : ca[n]? = some ca[n] := List.getElem?_eq_getElem hlt
    obtain ⟨a, b, c, e, hc⟩ := zk_ce1 h hy
    refine zk_cl29 hB (by omega) h hch hu hy hc (K _ _ _ _ _ _ _ (zk_I_s rfl rfl rfl (zk_I_set _ hc rfl h)) ⟨zk_up.refl _, hy, zk_fr_set _ (fun i p _ e => e), fun p hp => (by rw [hc] at hp; cases Option.some.inj hp; rfl), zk_ueq, fun k k1 _ _ => zk_une k1⟩ (zk_set_at _ hc))
  · have hr1 : zr_r (zk_ap ex (Sum.inr (8, [.null, .null, .int 0, .null]) : zm_E)) (sl + 4) := ⟨by rw [zk_ap_len]; omega, by omega⟩
    refine zm_J_run zm_T 4 (pc' := 8) (lv' := [(0, .ref 6), (1, .ref xa), (2, ch)]) (st' := [.ref 9, .int (s 12)]) (G' := (zk_H R ex sl s r el f g df)) rfl ?_
    refine zg_V (a := 9) (av := []) (rest := [.int (s 12)]) (v := some (.int (s 16))) (G2 := (zk_H R ex sl s r el f g df)) (zm_T.1 48 8 _ rfl).1 zc_48_8 rfl (Nat.le_of_ble_eq_true rfl) (Nat.le_of_ble_eq_true rfl) (zk_c hr) (zk_s hr) (zk_size1) ?_
    show zm_J N _ 48 11 [(0, .ref 6), (1, .ref xa), (2, ch)] [.int (s 16), .int (s 12)] (zk_H R ex sl s r el f g df) _
    rw [show (.int (s 12) : Value) = .int (nI n) from congrArg Value.int hu, show (.int (s 16) : Value) = .int (nI ca.length) from congrArg Value.int hsz]
    show zm_J N _ 48 11 [(0, .ref 6), (1, .ref xa), (2, ch)] [.int (nI ca.length), .int (nI n)] (zk_H R ex sl s r el f g df) _
    refine zm_J_run zm_T 1 (pc' := if (nI n) < (nI ca.length) then 29 else 14) (lv' := [(0, .ref 6), (1, .ref xa), (2, ch)]) (st' := []) (G' := (zk_H R ex sl s r el f g df)) rfl ?_
    rw [if_neg (show ¬ ((nI n) < (nI ca.length)) from nI_nlt (by omega) (by omega))]
    refine zm_J_run zm_T 2 (pc' := 18) (lv' := [(0, .ref 6), (1, .ref xa), (2, ch)]) (st' := [.ref 9]) (G' := (zk_H R ex sl s r el f g df)) rfl ?_
    refine zg_newo rfl ⟨by omega, by show sl + 4 ≤ zm_S; omega⟩ (G' := (zk_H R (zk_ap ex (Sum.inr (8, [.null, .null, .int 0, .null]) : zm_E)) (sl + 4) s r el f g df)) rfl ?_
    refine zm_J_run zm_T 1 (pc' := 22) (lv' := [(0, .ref 6), (1, .ref xa), (2, ch)]) (st' := [.ref (ex.length + 37), .ref (ex.length + 37), .ref 9]) (G' := (zk_H R (zk_ap ex (Sum.inr (8, [.null, .null, .int 0, .null]) : zm_E)) (sl + 4) s r el f g df)) rfl ?_
    refine zg_I (a := (ex.length + 37)) (av := []) (rest := [.ref (ex.length + 37), .ref 9]) (v := none) (G2 := (zk_H R (zk_ap ex (Sum.inr (8, [.null, .null, .int 0, .null]) : zm_E)) (sl + 4) s r el f g df)) (zm_T.1 48 22 _ rfl).1 zc_48_22 (Nat.le_of_ble_eq_true rfl) (Nat.le_of_ble_eq_true rfl) (zk_c hr1) (zk_s hr1) (zk_ini49) ?_
    show zm_J N _ 48 25 [(0, .ref 6), (1, .ref xa), (2, ch)] [.ref (ex.length + 37), .ref 9] (zk_H R (zk_ap ex (Sum.inr (8, [.null, .null, .int 0, .null]) : zm_E)) (sl + 4) s r el f g df) _
    refine zg_VK (a := 9) (av := [.ref (ex.length + 37)]) (rest := []) (zm_T.1 48 25 _ rfl).1 zc_48_25 rfl (Nat.le_of_ble_eq_true rfl) (Nat.le_of_ble_eq_true rfl) (zk_c hr1) (zk_s hr1) (zk_add1 (by omega) hR1 (zk_al_ap _ h.1.2.1) hsz (by omega) (zk_ap_new ex _) (Or.inr (Or.inl rfl)) ⟨by rw [zk_ap_len]; omega, by omega⟩ (fun ex' sl' e' cap' h1 h2 => ⟨_, rfl, ?_⟩))
    show zm_J N _ 48 28 [(0, .ref 6), (1, .ref xa), (2, ch)] [.int 1] (zk_H R ex' sl' (zu (zu s 17 (s 17 + 1)) 16 (nI (ca.length + 1))) r (zu el 1 e') f g df) _
    refine zm_J_run zm_T 1 (pc' := 29) (lv' := [(0, .ref 6), (1, .ref xa), (2, ch)]) (st' := []) (G' := (zk_H R ex' sl' (zu (zu s 17 (s 17 + 1)) 16 (nI (ca.length + 1))) r (zu el 1 e') f g df)) rfl ?_
    have hnl : n = ca.length := by omega
    have hI := zk_I_add1 h (by omega) rfl h1 h2 (s 17 + 1)
    have hy : (ca ++ [ex.length])[n]? = some ex.length := by rw [hnl, List.getElem?_append_right (Nat.le_refl _), Nat.sub_self]; rfl
    have hc := h2.1 ex.length _ (zk_ap_new ex _)
    have hfr : zk_fr ex ex' ex.length := fun i p _ e => h2.1 i p (zk_ap_old e)
    refine zk_cl29 hB (by omega) hI hch hu hy hc (K _ _ _ _ _ _ _ (zk_I_s rfl rfl rfl (zk_I_set _ hc rfl hI)) ⟨zk_up_ap _ _, hy, zk_fr_set _ hfr, fun p hp => (by rw [List.getElem?_eq_none (Nat.le_refl _)] at hp; cases hp), zk_ueq, fun k k1 k2 k3 => by rw [zk_une k1, zk_une k2, zk_une k3]⟩ (zk_set_at _ hc))
theorem zk_ce2 (h : zk_I B S ex sl s el va ca ka q) {n y : Nat} (hy : ka[n]? = some y) : ∃ a b c, ex[y]? = some (Sum.inr (9, [a, b, c]) : zm_E) := by
  have hm := List.mem_of_getElem? hy
  obtain ⟨⟨a1, a2, a3⟩, _, _, _, _, _, h7, h8, h9⟩ := h
  obtain ⟨fs, k⟩ := a3.1 y hm
  obtain ⟨a, b, c, rfl⟩ := zk_l3 (h9 y fs hm k)
  exact ⟨a, b, c, k⟩
theorem zk_mka (hB : zk_BS B S) (hR1 : R 1 = zk_em) (hd : 7 ≤ d) (h : zk_I B S ex sl s el va ca ka q) {n : Nat} {m : Nat} {bf la : Value} {lp : Nat} (hla : la = .ref lp) (hbf : (bf = .null ∧ m = 0) ∨ ∃ z m2 b1 b2, bf = .ref (z + 37) ∧ m2 < n ∧ ka[m2]? = some z ∧ ex[z]? = some (Sum.inr (9, [b1, b2, .int (nI m)]) : zm_E)) (hu : s 13 = nI n) (hn : n ≤ ka.length) (hm : n < 16040)
    (K : ∀ ex' sl' s' el' l' q' y, zk_I B S ex' sl' s' el' va ca l' q' → zk_nv 9 13 18 ex s ka n ex' s' l' y → ex'[y]? = some (Sum.inr (9, [bf, .ref lp, .int (nI (m + 1))]) : zm_E) → Q (.inl (some (.ref (y + 37)))) (zk_H R ex' sl' s' r el' f g df)) : zm_J N d 52 0 [(0, .ref 6), (1, bf), (2, la)] [] (zk_H R ex sl s r el f g df) Q := by
  obtain ⟨d, rfl⟩ : ∃ e, d = e + 7 := ⟨d - 7, by omega⟩
  have hr := zk_I_r hB h
  have hrm := zk_I_room hB h
  have hsz : s 18 = nI ka.length := h.2.1.2.2
  by_cases hlt : n < ka.length
  · refine zm_J_run zm_T 4 (pc' := 8) (lv' := [(0, .ref 6), (1, bf), (2, la)]) (st' := [.ref 10, .int (s 13)]) (G' := (zk_H R ex sl s r el f g df)) rfl ?_
    refine zg_V (a := 10) (av := []) (rest := [.int (s 13)]) (v := some (.int (s 18))) (G2 := (zk_H R ex sl s r el f g df)) (zm_T.1 52 8 _ rfl).1 zc_52_8 rfl (Nat.le_of_ble_eq_true rfl) (Nat.le_of_ble_eq_true rfl) (zk_c hr) (zk_s hr) (zk_size2) ?_
    show zm_J N _ 52 11 [(0, .ref 6), (1, bf), (2, la)] [.int (s 18), .int (s 13)] (zk_H R ex sl s r el f g df) _
    rw [show (.int (s 13) : Value) = .int (nI n) from congrArg Value.int hu, show (.int (s 18) : Value) = .int (nI ka.length) from congrArg Value.int hsz]
    show zm_J N _ 52 11 [(0, .ref 6), (1, bf), (2, la)] [.int (nI ka.length), .int (nI n)] (zk_H R ex sl s r el f g df) _
    refine zm_J_run zm_T 1 (pc' := if (nI n) < (nI ka.length) then 29 else 14) (lv' := [(0, .ref 6), (1, bf), (2, la)]) (st' := []) (G' := (zk_H R ex sl s r el f g df)) rfl ?_
    rw [if_pos (show (nI n) < (nI ka.length) from nI_lt hlt (by have := h.2.2.2.2.2.1; omega))]
    have hy : ka[n]? = some ka[n] := List.getElem?_eq_getElem hlt
    obtain ⟨a, b, c, hc⟩ := zk_ce2 h hy
    have hbf' : (bf = .null ∧ m = 0) ∨ ∃ z b1 b2, bf = .ref (z + 37) ∧ z ≠ ka[n] ∧ ex[z]? = some (Sum.inr (9, [b1, b2, .int (nI m)]) : zm_E) := by
      rcases hbf with k | ⟨z, m2, b1, b2, k1, k2, k3, k4⟩
      · exact Or.inl k
      · exact Or.inr ⟨z, b1, b2, k1, fun e => absurd (zk_inj h.2.2.1.2.2 k3 (by rw [e]; exact hy)) (by omega), k4⟩
    refine zk_ar29 hB (by omega) h hla hbf' hu hy hc (K _ _ _ _ _ _ _ (zk_I_s rfl rfl rfl (zk_I_set _ hc rfl h)) ⟨zk_up.refl _, hy, zk_fr_set _ (fun i p _ e => e), fun p hp => (by rw [hc] at hp; cases Option.some.inj hp; rfl), zk_ueq, fun k k1 _ _ => zk_une k1⟩ (zk_set_at _ hc))
  · have hr1 : zr_r (zk_ap ex (Sum.inr (9, [.null, .null, .int 0]) : zm_E)) (sl + 3) := ⟨by rw [zk_ap_len]; omega, by omega⟩
    refine zm_J_run zm_T 4 (pc' := 8) (lv' := [(0, .ref 6), (1, bf), (2, la)]) (st' := [.ref 10, .int (s 13)]) (G' := (zk_H R ex sl s r el f g df)) rfl ?_
    refine zg_V (a := 10) (av := []) (rest := [.int (s 13)]) (v := some (.int (s 18))) (G2 := (zk_H R ex sl s r el f g df)) (zm_T.1 52 8 _ rfl).1 zc_52_8 rfl (Nat.le_of_ble_eq_true rfl) (Nat.le_of_ble_eq_true rfl) (zk_c hr) (zk_s hr) (zk_size2) ?_
    show zm_J N _ 52 11 [(0, .ref 6), (1, bf), (2, la)] [.int (s 18), .int (s 13)] (zk_H R ex sl s r el f g df) _
    rw [show (.int (s 13) : Value) = .int (nI n) from congrArg Value.int hu, show (.int (s 18) : Value) = .int (nI ka.length) from congrArg Value.int hsz]
    show zm_J N _ 52 11 [(0, .ref 6), (1, bf), (2, la)] [.int (nI ka.length), .int (nI n)] (zk_H R ex sl s r el f g df) _
    refine zm_J_run zm_T 1 (pc' := if (nI n) < (nI ka.length) then 29 else 14) (lv' := [(0, .ref 6), (1, bf), (2, la)]) (st' := []) (G' := (zk_H R ex sl s r el f g df)) rfl ?_
    rw [if_neg (show ¬ ((nI n) < (nI ka.length)) from nI_nlt (by omega) (by omega))]
    refine zm_J_run zm_T 2 (pc' := 18) (lv' := [(0, .ref 6), (1, bf), (2, la)]) (st' := [.ref 10]) (G' := (zk_H R ex sl s r el f g df)) rfl ?_
    refine zg_newo rfl ⟨by omega, by show sl + 3 ≤ zm_S; omega⟩ (G' := (zk_H R (zk_ap ex (Sum.inr (9, [.null, .null, .int 0]) : zm_E)) (sl + 3) s r el f g df)) rfl ?_
    refine zm_J_run zm_T 1 (pc' := 22) (lv' := [(0, .ref 6), (1, bf), (2, la)]) (st' := [.ref (ex.length + 37), .ref (ex.length + 37), .ref 10]) (G' := (zk_H R (zk_ap ex (Sum.inr (9, [.null, .null, .int 0]) : zm_E)) (sl + 3) s r el f g df)) rfl ?_
    refine zg_I (a := (ex.length + 37)) (av := []) (rest := [.ref (ex.length + 37), .ref 10]) (v := none) (G2 := (zk_H R (zk_ap ex (Sum.inr (9, [.null, .null, .int 0]) : zm_E)) (sl + 3) s r el f g df)) (zm_T.1 52 22 _ rfl).1 zc_52_22 (Nat.le_of_ble_eq_true rfl) (Nat.le_of_ble_eq_true rfl) (zk_c hr1) (zk_s hr1) (zk_ini53) ?_
    show zm_J N _ 52 25 [(0, .ref 6), (1, bf), (2, la)] [.ref (ex.length + 37), .ref 10] (zk_H R (zk_ap ex (Sum.inr (9, [.null, .null, .int 0]) : zm_E)) (sl + 3) s r el f g df) _
    refine zg_VK (a := 10) (av := [.ref (ex.length + 37)]) (rest := []) (zm_T.1 52 25 _ rfl).1 zc_52_25 rfl (Nat.le_of_ble_eq_true rfl) (Nat.le_of_ble_eq_true rfl) (zk_c hr1) (zk_s hr1) (zk_add2 (by omega) hR1 (zk_al_ap _ h.1.2.2) hsz (by omega) (zk_ap_new ex _) (Or.inr (Or.inr rfl)) ⟨by rw [zk_ap_len]; omega, by omega⟩ (fun ex' sl' e' cap' h1 h2 => ⟨_, rfl, ?_⟩))
    show zm_J N _ 52 28 [(0, .ref 6), (1, bf), (2, la)] [.int 1] (zk_H R ex' sl' (zu (zu s 19 (s 19 + 1)) 18 (nI (ka.length + 1))) r (zu el 2 e') f g df) _
    refine zm_J_run zm_T 1 (pc' := 29) (lv' := [(0, .ref 6), (1, bf), (2, la)]) (st' := []) (G' := (zk_H R ex' sl' (zu (zu s 19 (s 19 + 1)) 18 (nI (ka.length + 1))) r (zu el 2 e') f g df)) rfl ?_
    have hnl : n = ka.length := by omega
    have hI := zk_I_add2 h (by omega) rfl h1 h2 (s 19 + 1)
    have hy : (ka ++ [ex.length])[n]? = some ex.length := by rw [hnl, List.getElem?_append_right (Nat.le_refl _), Nat.sub_self]; rfl
    have hc := h2.1 ex.length _ (zk_ap_new ex _)
    have hfr : zk_fr ex ex' ex.length := fun i p _ e => h2.1 i p (zk_ap_old e)
    have hbf' : (bf = .null ∧ m = 0) ∨ ∃ z b1 b2, bf = .ref (z + 37) ∧ z ≠ ex.length ∧ ex'[z]? = some (Sum.inr (9, [b1, b2, .int (nI m)]) : zm_E) := by
      rcases hbf with k | ⟨z, m2, b1, b2, k1, k2, k3, k4⟩
      · exact Or.inl k
      · have hzl := (List.getElem?_eq_some_iff.mp k4).1
        exact Or.inr ⟨z, b1, b2, k1, Nat.ne_of_lt hzl, hfr z _ (Nat.ne_of_lt hzl) k4⟩
    refine zk_ar29 hB (by omega) hI hla hbf' hu hy hc (K _ _ _ _ _ _ _ (zk_I_s rfl rfl rfl (zk_I_set _ hc rfl hI)) ⟨zk_up_ap _ _, hy, zk_fr_set _ hfr, fun p hp => (by rw [List.getElem?_eq_none (Nat.le_refl _)] at hp; cases hp), zk_ueq, fun k k1 k2 k3 => by rw [zk_une k1, zk_une k2, zk_une k3]⟩ (zk_set_at _ hc))
end ZKS

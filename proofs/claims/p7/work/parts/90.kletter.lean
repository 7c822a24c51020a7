/-! THE CLASS READS: its small methods -/
theorem zg_lk {N : zm_N} {d mi pc t qa qb : Nat} {qn dflt o : Int} {ps : Array (Int × Int)} {lv : zm_L} {st : List Value} {G : zm_H} {Q : zm_O → zm_H → Prop} {c : Int32} (hq : zm_cd mi pc = some (.lookupswitch dflt ps, qa, qb, qn)) (ho : zm_loff dflt ps c = some o) (ht : zm_tgt pc o = some t) (k : zm_J N d mi t lv st G Q) : zm_J N d mi pc lv (.int c :: st) G Q := by
  refine zm_J_run zm_T 1 (pc' := t) (lv' := lv) (st' := st) (G' := G) ?_ k
  unfold zm_run zm_step
  dsimp only
  rw [hq]
  dsimp only
  have hs : zm_sw (.int c :: st) pc (zm_loff dflt ps) = some (t, st) := by
    unfold zm_sw
    simp only [ho, ht]
  simp only [zm_stepq, zm_grp, zm_br, hs]
  rfl
def zk_b (p : Prop) [Decidable p] : Int32 := if p then 1 else 0
theorem zk_b_t {p : Prop} [Decidable p] (h : p) : zk_b p = 1 := if_pos h
theorem zk_b_f {p : Prop} [Decidable p] (h : ¬ p) : zk_b p = 0 := if_neg h
theorem zk_ti {c x : Int32} {a : Int} (hx : x.toInt = a) (h : ¬ c = x) : ¬ a = c.toInt := fun z => h (Int32.toInt_inj.mp (z.symm.trans hx.symm))
/-- what a text and its letters are -/
def zk_st (t L : List Int32) (f g : Nat → Int32) : Prop := t.length ≤ 40 ∧ (∀ i x, t[i]? = some x → f i = x ∧ 33 ≤ x ∧ x ≤ 126) ∧ L.length ≤ 4 ∧ ∀ i x, L[i]? = some x → g i = x
def zk_lf (L : List Int32) (c : Int32) : Prop := (48 ≤ c ∧ c ≤ 57) ∨ (65 ≤ c ∧ c ≤ 70) ∨ c = 110 ∨ c ∈ L
theorem zk_lf_l {L : List Int32} {c : Int32} (h : zv_p c = 0) : zv_l L c = true ↔ zk_lf L c := by
  unfold zv_l zk_lf
  simp [h]
theorem zk_idx {L : List Int32} {c : Int32} (h : L.idxOf c < L.length) : L[L.idxOf c] = c := by
  have := List.findIdx_getElem (p := (· == c)) (w := h)
  exact eq_of_beq this
section ZKP
variable {R : Nat → zm_E} {ex : List zm_E} {sl : Nat} {s : Nat → Int32} {r : Value} {el : Nat → Nat} {f g : Nat → Int32} {df : Nat → Option Nat} {N : zm_N} {d : Nat} {Q : zm_O → zm_H → Prop} {B S : Nat} {va ca ka : List Nat} {q : Nat × Nat × Nat} {G : zm_H}
theorem zk_pts {c : Int32} : zm_J N d 27 0 [(0, .int c)] [] G (fun z G' => z = .inl (some (.int (nI (zv_p c)))) ∧ G' = G) := by
  by_cases h37 : c = 37
  · subst h37
    refine zm_J_run zm_T 2 (pc' := 118) (lv' := [(0, .int 37)]) (st' := []) (G' := G) rfl ?_
    refine zm_J_run zm_T 1 (pc' := 119) (lv' := [(0, .int 37)]) (st' := [.int 2]) (G' := G) rfl ?_
    exact zm_J_fin zm_T rfl rfl ⟨rfl, rfl⟩
  by_cases h42 : c = 42
  · subst h42
    refine zm_J_run zm_T 2 (pc' := 118) (lv' := [(0, .int 42)]) (st' := []) (G' := G) rfl ?_
    refine zm_J_run zm_T 1 (pc' := 119) (lv' := [(0, .int 42)]) (st' := [.int 2]) (G' := G) rfl ?_
    exact zm_J_fin zm_T rfl rfl ⟨rfl, rfl⟩
  by_cases h43 : c = 43
  · subst h43
    refine zm_J_run zm_T 2 (pc' := 118) (lv' := [(0, .int 43)]) (st' := []) (G' := G) rfl ?_
    refine zm_J_run zm_T 1 (pc' := 119) (lv' := [(0, .int 43)]) (st' := [.int 2]) (G' := G) rfl ?_
    exact zm_J_fin zm_T rfl rfl ⟨rfl, rfl⟩
  by_cases h45 : c = 45
  · subst h45
    refine zm_J_run zm_T 2 (pc' := 118) (lv' := [(0, .int 45)]) (st' := []) (G' := G) rfl ?_
    refine zm_J_run zm_T 1 (pc' := 119) (lv' := [(0, .int 45)]) (st' := [.int 2]) (G' := G) rfl ?_
    exact zm_J_fin zm_T rfl rfl ⟨rfl, rfl⟩
  by_cases h46 : c = 46
  · subst h46
    refine zm_J_run zm_T 2 (pc' := 118) (lv' := [(0, .int 46)]) (st' := []) (G' := G) rfl ?_
    refine zm_J_run zm_T 1 (pc' := 119) (lv' := [(0, .int 46)]) (st' := [.int 2]) (G' := G) rfl ?_
    exact zm_J_fin zm_T rfl rfl ⟨rfl, rfl⟩
  by_cases h47 : c = 47
  · subst h47
    refine zm_J_run zm_T 2 (pc' := 118) (lv' := [(0, .int 47)]) (st' := []) (G' := G) rfl ?_
    refine zm_J_run zm_T 1 (pc' := 119) (lv' := [(0, .int 47)]) (st' := [.int 2]) (G' := G) rfl ?_
    exact zm_J_fin zm_T rfl rfl ⟨rfl, rfl⟩
  by_cases h58 : c = 58
  · subst h58
    refine zm_J_run zm_T 2 (pc' := 118) (lv' := [(0, .int 58)]) (st' := []) (G' := G) rfl ?_
    refine zm_J_run zm_T 1 (pc' := 119) (lv' := [(0, .int 58)]) (st' := [.int 2]) (G' := G) rfl ?_
    exact zm_J_fin zm_T rfl rfl ⟨rfl, rfl⟩
  by_cases h60 : c = 60
  · subst h60
    refine zm_J_run zm_T 2 (pc' := 118) (lv' := [(0, .int 60)]) (st' := []) (G' := G) rfl ?_
    refine zm_J_run zm_T 1 (pc' := 119) (lv' := [(0, .int 60)]) (st' := [.int 2]) (G' := G) rfl ?_
    exact zm_J_fin zm_T rfl rfl ⟨rfl, rfl⟩
  by_cases h61 : c = 61
  · subst h61
    refine zm_J_run zm_T 2 (pc' := 118) (lv' := [(0, .int 61)]) (st' := []) (G' := G) rfl ?_
    refine zm_J_run zm_T 1 (pc' := 119) (lv' := [(0, .int 61)]) (st' := [.int 2]) (G' := G) rfl ?_
    exact zm_J_fin zm_T rfl rfl ⟨rfl, rfl⟩
  by_cases h63 : c = 63
  · subst h63
    refine zm_J_run zm_T 2 (pc' := 120) (lv' := [(0, .int 63)]) (st' := []) (G' := G) rfl ?_
    refine zm_J_run zm_T 1 (pc' := 121) (lv' := [(0, .int 63)]) (st' := [.int 3]) (G' := G) rfl ?_
    exact zm_J_fin zm_T rfl rfl ⟨rfl, rfl⟩
  by_cases h104 : c = 104
  · subst h104
    refine zm_J_run zm_T 2 (pc' := 116) (lv' := [(0, .int 104)]) (st' := []) (G' := G) rfl ?_
    refine zm_J_run zm_T 1 (pc' := 117) (lv' := [(0, .int 104)]) (st' := [.int 1]) (G' := G) rfl ?_
    exact zm_J_fin zm_T rfl rfl ⟨rfl, rfl⟩
  by_cases h116 : c = 116
  · subst h116
    refine zm_J_run zm_T 2 (pc' := 116) (lv' := [(0, .int 116)]) (st' := []) (G' := G) rfl ?_
    refine zm_J_run zm_T 1 (pc' := 117) (lv' := [(0, .int 116)]) (st' := [.int 1]) (G' := G) rfl ?_
    exact zm_J_fin zm_T rfl rfl ⟨rfl, rfl⟩
  by_cases h122 : c = 122
  · subst h122
    refine zm_J_run zm_T 2 (pc' := 116) (lv' := [(0, .int 122)]) (st' := []) (G' := G) rfl ?_
    refine zm_J_run zm_T 1 (pc' := 117) (lv' := [(0, .int 122)]) (st' := [.int 1]) (G' := G) rfl ?_
    exact zm_J_fin zm_T rfl rfl ⟨rfl, rfl⟩
  have hp : zv_p c = 0 := by
    unfold zv_p
    rw [if_neg (by rintro (e | e | e) <;> first | exact h104 e | exact h116 e | exact h122 e), if_neg h63, if_neg (by rintro (e | e | e | e | e | e | e | e | e) <;> first | exact h46 e | exact h43 e | exact h45 e | exact h42 e | exact h47 e | exact h37 e | exact h60 e | exact h61 e | exact h58 e)]
  rw [hp]
  have ho : zm_loff 121 #[(37, 117), (42, 117), (43, 117), (45, 117), (46, 117), (47, 117), (58, 117), (60, 117), (61, 117), (63, 119), (104, 115), (116, 115), (122, 115)] c = some 121 := by
    unfold zm_loff
    rw [if_pos (by decide)]
    congr 1
    show Op.lookupswitch.offset [(37, 117), (42, 117), (43, 117), (45, 117), (46, 117), (47, 117), (58, 117), (60, 117), (61, 117), (63, 119), (104, 115), (116, 115), (122, 115)] 121 c.toInt = 121
    rw [Op.lookupswitch.offset_cons, if_neg (zk_ti (x := 37) (by decide) h37), Op.lookupswitch.offset_cons, if_neg (zk_ti (x := 42) (by decide) h42), Op.lookupswitch.offset_cons, if_neg (zk_ti (x := 43) (by decide) h43), Op.lookupswitch.offset_cons, if_neg (zk_ti (x := 45) (by decide) h45), Op.lookupswitch.offset_cons, if_neg (zk_ti (x := 46) (by decide) h46), Op.lookupswitch.offset_cons, if_neg (zk_ti (x := 47) (by decide) h47), Op.lookupswitch.offset_cons, if_neg (zk_ti (x := 58) (by decide) h58), Op.lookupswitch.offset_cons, if_neg (zk_ti (x := 60) (by decide) h60), Op.lookupswitch.offset_cons, if_neg (zk_ti (x := 61) (by decide) h61), Op.lookupswitch.offset_cons, if_neg (zk_ti (x := 63) (by decide) h63), Op.lookupswitch.offset_cons, if_neg (zk_ti (x := 104) (by decide) h104), Op.lookupswitch.offset_cons, if_neg (zk_ti (x := 116) (by decide) h116), Op.lookupswitch.offset_cons, if_neg (zk_ti (x := 122) (by decide) h122)]
    rfl
  refine zm_J_run zm_T 1 (pc' := 1) (lv' := [(0, .int c)]) (st' := [.int c]) (G' := G) rfl ?_
  refine zg_lk (t := 122) rfl ho rfl ?_
  refine zm_J_run zm_T 1 (pc' := 123) (lv' := [(0, .int c)]) (st' := [.int 0]) (G' := G) rfl ?_
  exact zm_J_fin zm_T rfl rfl ⟨rfl, rfl⟩
theorem zk_dig {c : Int32} : zm_J N d 29 0 [(0, .int c)] [] G (fun z G' => z = .inl (some (.int (zk_b (48 ≤ c ∧ c ≤ 57)))) ∧ G' = G) := by
  by_cases h1 : c < 48
  · refine zm_J_run zm_T 3 (pc' := if c < 48 then 16 else 6) (lv' := [(0, .int c)]) (st' := []) (G' := G) rfl ?_
    rw [if_pos (show c < 48 from h1)]
    refine zm_J_run zm_T 1 (pc' := 17) (lv' := [(0, .int c)]) (st' := [.int 0]) (G' := G) rfl ?_
    exact zm_J_fin zm_T rfl rfl ⟨by rw [zk_b_f (fun z => Int32.not_lt.mpr z.1 h1)], rfl⟩
  by_cases h2 : 57 < c
  · refine zm_J_run zm_T 3 (pc' := if c < 48 then 16 else 6) (lv' := [(0, .int c)]) (st' := []) (G' := G) rfl ?_
    rw [if_neg (show ¬ (c < 48) from h1)]
    refine zm_J_run zm_T 3 (pc' := if (57 : Int32) < c then 16 else 12) (lv' := [(0, .int c)]) (st' := []) (G' := G) rfl ?_
    rw [if_pos (show (57 : Int32) < c from h2)]
    refine zm_J_run zm_T 1 (pc' := 17) (lv' := [(0, .int c)]) (st' := [.int 0]) (G' := G) rfl ?_
    exact zm_J_fin zm_T rfl rfl ⟨by rw [zk_b_f (fun z => Int32.not_lt.mpr z.2 h2)], rfl⟩
  refine zm_J_run zm_T 3 (pc' := if c < 48 then 16 else 6) (lv' := [(0, .int c)]) (st' := []) (G' := G) rfl ?_
  rw [if_neg (show ¬ (c < 48) from h1)]
  refine zm_J_run zm_T 3 (pc' := if (57 : Int32) < c then 16 else 12) (lv' := [(0, .int c)]) (st' := []) (G' := G) rfl ?_
  rw [if_neg (show ¬ ((57 : Int32) < c) from h2)]
  refine zm_J_run zm_T 2 (pc' := 17) (lv' := [(0, .int c)]) (st' := [.int 1]) (G' := G) rfl ?_
  exact zm_J_fin zm_T rfl rfl ⟨by rw [zk_b_t ⟨Int32.not_lt.mp h1, Int32.not_lt.mp h2⟩], rfl⟩
theorem zk_c71 {c : Int32} : 71 ≤ c ↔ ¬ c ≤ 70 := by
  rw [Int32.le_iff_toInt_le, Int32.le_iff_toInt_le]
  have e1 : (71 : Int32).toInt = 71 := by decide
  have e2 : (70 : Int32).toInt = 70 := by decide
  omega
theorem zk_isnm {c : Int32} : zm_J N d 19 0 [(0, .int c)] [] G (fun z G' => z = .inl (some (.int (zk_b (65 ≤ c ∧ c ≤ 70)))) ∧ G' = G) := by
  by_cases h1 : c < 65
  · refine zm_J_run zm_T 3 (pc' := if c < 65 then 16 else 6) (lv' := [(0, .int c)]) (st' := []) (G' := G) rfl ?_
    rw [if_pos (show c < 65 from h1)]
    refine zm_J_run zm_T 1 (pc' := 17) (lv' := [(0, .int c)]) (st' := [.int 0]) (G' := G) rfl ?_
    exact zm_J_fin zm_T rfl rfl ⟨by rw [zk_b_f (fun z => Int32.not_lt.mpr z.1 h1)], rfl⟩
  by_cases h2 : 71 ≤ c
  · refine zm_J_run zm_T 3 (pc' := if c < 65 then 16 else 6) (lv' := [(0, .int c)]) (st' := []) (G' := G) rfl ?_
    rw [if_neg (show ¬ (c < 65) from h1)]
    refine zm_J_run zm_T 3 (pc' := if (71 : Int32) ≤ c then 16 else 12) (lv' := [(0, .int c)]) (st' := []) (G' := G) rfl ?_
    rw [if_pos (show (71 : Int32) ≤ c from h2)]
    refine zm_J_run zm_T 1 (pc' := 17) (lv' := [(0, .int c)]) (st' := [.int 0]) (G' := G) rfl ?_
    exact zm_J_fin zm_T rfl rfl ⟨by rw [zk_b_f (fun z => zk_c71.mp h2 z.2)], rfl⟩
  refine zm_J_run zm_T 3 (pc' := if c < 65 then 16 else 6) (lv' := [(0, .int c)]) (st' := []) (G' := G) rfl ?_
  rw [if_neg (show ¬ (c < 65) from h1)]
  refine zm_J_run zm_T 3 (pc' := if (71 : Int32) ≤ c then 16 else 12) (lv' := [(0, .int c)]) (st' := []) (G' := G) rfl ?_
  rw [if_neg (show ¬ ((71 : Int32) ≤ c) from h2)]
  refine zm_J_run zm_T 2 (pc' := 17) (lv' := [(0, .int c)]) (st' := [.int 1]) (G' := G) rfl ?_
  exact zm_J_fin zm_T rfl rfl ⟨by rw [zk_b_t ⟨Int32.not_lt.mp h1, Decidable.of_not_not (fun z => h2 (zk_c71.mpr z))⟩], rfl⟩
theorem zk_pix2 {L : List Int32} (hL : L.length ≤ 4) (hg : ∀ i x, L[i]? = some x → g i = x) (h7 : s 7 = nI L.length) {c : Int32} : ∀ (n i : Nat), i + n = L.length → (∀ j x, j < i → L[j]? = some x → ¬ x = c) → zm_J N d 23 2 [(2, .int (nI i)), (0, .ref 3), (1, .int c)] [] (zk_H R ex sl s r el f g df) (fun z G' => z = .inl (some (.int (if c ∈ L then nI (L.idxOf c) else -1))) ∧ G' = (zk_H R ex sl s r el f g df)) := by
  intro n
  induction n with
  | zero =>
    intro i hi hno
    have hni : ¬ c ∈ L := fun z => by
      obtain ⟨j, hj⟩ := List.mem_iff_getElem?.mp z
      have := (List.getElem?_eq_some_iff.mp hj).1
      exact hno j c (by omega) hj rfl
    refine zm_J_run zm_T 3 (pc' := 7) (lv' := [(2, .int (nI i)), (0, .ref 3), (1, .int c)]) (st' := [.int (s 7), .int (nI i)]) (G' := (zk_H R ex sl s r el f g df)) rfl ?_
    rw [show (.int (s 7) : Value) = .int (nI L.length) from congrArg Value.int h7]
    show zm_J N _ 23 7 [(2, .int (nI i)), (0, .ref 3), (1, .int c)] [.int (nI L.length), .int (nI i)] (zk_H R ex sl s r el f g df) _
    refine zm_J_run zm_T 1 (pc' := if (nI L.length) ≤ (nI i) then 28 else 10) (lv' := [(2, .int (nI i)), (0, .ref 3), (1, .int c)]) (st' := []) (G' := (zk_H R ex sl s r el f g df)) rfl ?_
    rw [if_pos (show (nI L.length) ≤ (nI i) from nI_le (by omega) (by omega))]
    refine zm_J_run zm_T 1 (pc' := 29) (lv' := [(2, .int (nI i)), (0, .ref 3), (1, .int c)]) (st' := [.int (-1)]) (G' := (zk_H R ex sl s r el f g df)) rfl ?_
    exact zm_J_fin zm_T rfl rfl ⟨by rw [if_neg hni], rfl⟩
  | succ n ih =>
    intro i hi hno
    have hil : i < L.length := by omega
    have hx := List.getElem?_eq_getElem hil
    have hgx := hg i _ hx
    by_cases he : L[i] = c
    · refine zm_J_run zm_T 3 (pc' := 7) (lv' := [(2, .int (nI i)), (0, .ref 3), (1, .int c)]) (st' := [.int (s 7), .int (nI i)]) (G' := (zk_H R ex sl s r el f g df)) rfl ?_
      rw [show (.int (s 7) : Value) = .int (nI L.length) from congrArg Value.int h7]
      show zm_J N _ 23 7 [(2, .int (nI i)), (0, .ref 3), (1, .int c)] [.int (nI L.length), .int (nI i)] (zk_H R ex sl s r el f g df) _
      refine zm_J_run zm_T 1 (pc' := if (nI L.length) ≤ (nI i) then 28 else 10) (lv' := [(2, .int (nI i)), (0, .ref 3), (1, .int c)]) (st' := []) (G' := (zk_H R ex sl s r el f g df)) rfl ?_
      rw [if_neg (show ¬ ((nI L.length) ≤ (nI i)) from nI_ge (by omega) (by omega))]
      refine zm_J_run zm_T 3 (pc' := 15) (lv' := [(2, .int (nI i)), (0, .ref 3), (1, .int c)]) (st' := [.int (nI i), .ref 5]) (G' := (zk_H R ex sl s r el f g df)) rfl ?_
      refine zg_ald (i := .caload) (t := 1) (n := 4) (f := g) (m := i) rfl rfl rfl rfl rfl (by omega) (by decide) ?_
      refine zm_J_run zm_T 2 (pc' := if (g i) = c then 20 else 22) (lv' := [(2, .int (nI i)), (0, .ref 3), (1, .int c)]) (st' := []) (G' := (zk_H R ex sl s r el f g df)) rfl ?_
      rw [if_pos (show (g i) = c from hgx.trans he)]
      refine zm_J_run zm_T 1 (pc' := 21) (lv' := [(2, .int (nI i)), (0, .ref 3), (1, .int c)]) (st' := [.int (nI i)]) (G' := (zk_H R ex sl s r el f g df)) rfl ?_
      exact zm_J_fin zm_T rfl rfl ⟨by
        have hm : c ∈ L := he ▸ List.getElem_mem hil
        rw [if_pos hm]
        have h1 := zv_idx_le (hx.trans (congrArg some he))
        have h2 : ¬ L.idxOf c < i := fun z => by
          have hlt : L.idxOf c < L.length := List.idxOf_lt_length_of_mem hm
          exact hno _ _ z (List.getElem?_eq_getElem hlt) (zk_idx hlt)
        rw [show L.idxOf c = i by omega], rfl⟩
    · refine zm_J_run zm_T 3 (pc' := 7) (lv' := [(2, .int (nI i)), (0, .ref 3), (1, .int c)]) (st' := [.int (s 7), .int (nI i)]) (G' := (zk_H R ex sl s r el f g df)) rfl ?_
      rw [show (.int (s 7) : Value) = .int (nI L.length) from congrArg Value.int h7]
      show zm_J N _ 23 7 [(2, .int (nI i)), (0, .ref 3), (1, .int c)] [.int (nI L.length), .int (nI i)] (zk_H R ex sl s r el f g df) _
      refine zm_J_run zm_T 1 (pc' := if (nI L.length) ≤ (nI i) then 28 else 10) (lv' := [(2, .int (nI i)), (0, .ref 3), (1, .int c)]) (st' := []) (G' := (zk_H R ex sl s r el f g df)) rfl ?_
      rw [if_neg (show ¬ ((nI L.length) ≤ (nI i)) from nI_ge (by omega) (by omega))]
      refine zm_J_run zm_T 3 (pc' := 15) (lv' := [(2, .int (nI i)), (0, .ref 3), (1, .int c)]) (st' := [.int (nI i), .ref 5]) (G' := (zk_H R ex sl s r el f g df)) rfl ?_
      refine zg_ald (i := .caload) (t := 1) (n := 4) (f := g) (m := i) rfl rfl rfl rfl rfl (by omega) (by decide) ?_
      refine zm_J_run zm_T 2 (pc' := if (g i) = c then 20 else 22) (lv' := [(2, .int (nI i)), (0, .ref 3), (1, .int c)]) (st' := []) (G' := (zk_H R ex sl s r el f g df)) rfl ?_
      rw [if_neg (show ¬ ((g i) = c) from fun z => he (hgx.symm.trans z))]
      refine zm_J_run zm_T 2 (pc' := 2) (lv' := [(2, .int ((nI i) + 1)), (0, .ref 3), (1, .int c)]) (st' := []) (G' := (zk_H R ex sl s r el f g df)) rfl ?_
      rw [show (nI i) + 1 = nI (i + 1) from nI_1 i]
      show zm_J N _ 23 2 [(2, .int (nI (i + 1))), (0, .ref 3), (1, .int c)] [] (zk_H R ex sl s r el f g df) _
      exact ih (i + 1) (by omega) (fun j x hj hx' => by
        by_cases hji : j = i
        · subst hji
          rw [hx] at hx'
          cases Option.some.inj hx'
          exact he
        · exact hno j x (by omega) hx')
theorem zk_pix {L : List Int32} (hL : L.length ≤ 4) (hg : ∀ i x, L[i]? = some x → g i = x) (h7 : s 7 = nI L.length) {c : Int32} : zm_J N d 23 0 [(0, .ref 3), (1, .int c)] [] (zk_H R ex sl s r el f g df) (fun z G' => z = .inl (some (.int (if c ∈ L then nI (L.idxOf c) else -1))) ∧ G' = (zk_H R ex sl s r el f g df)) := by
  refine zm_J_run zm_T 2 (pc' := 2) (lv' := [(2, .int 0), (0, .ref 3), (1, .int c)]) (st' := []) (G' := (zk_H R ex sl s r el f g df)) rfl ?_
  show zm_J N _ 23 2 [(2, .int (nI 0)), (0, .ref 3), (1, .int c)] [] (zk_H R ex sl s r el f g df) _
  exact zk_pix2 hL hg h7 L.length 0 (Nat.zero_add _) (fun j x hj => absurd hj (Nat.not_lt_zero _))
theorem zk_neg {L : List Int32} (hL : L.length ≤ 4) {c : Int32} : (if c ∈ L then nI (L.idxOf c) else -1) < 0 ↔ ¬ c ∈ L := by
  by_cases h : c ∈ L
  · rw [if_pos h]
    have := List.idxOf_lt_length_of_mem h
    exact ⟨fun z => absurd z (nI_pos (by omega)), fun z => absurd h z⟩
  · rw [if_neg h]
    exact ⟨fun _ => h, fun _ => by decide⟩
theorem zk_neg' {L : List Int32} (hL : L.length ≤ 4) {c : Int32} : 0 ≤ (if c ∈ L then nI (L.idxOf c) else -1) ↔ c ∈ L := by
  rw [← Int32.not_lt, zk_neg hL]
  exact Decidable.not_not
theorem zk_isl (hr : zr_r ex sl) {L : List Int32} (hL : L.length ≤ 4) (hg : ∀ i x, L[i]? = some x → g i = x) (h7 : s 7 = nI L.length) (hd : 1 ≤ d) {c : Int32} : zm_J N d 28 0 [(0, .ref 3), (1, .int c)] [] (zk_H R ex sl s r el f g df) (fun z G' => (zk_lf L c → z = .inl (some (.int 1))) ∧ (¬ zk_lf L c → z = .inl (some (.int 0))) ∧ G' = (zk_H R ex sl s r el f g df)) := by
  obtain ⟨d, rfl⟩ : ∃ e, d = e + 1 := ⟨d - 1, by omega⟩
  by_cases h1 : 48 ≤ c ∧ c ≤ 57
  · refine zm_J_run zm_T 1 (pc' := 1) (lv' := [(0, .ref 3), (1, .int c)]) (st' := [.int c]) (G' := (zk_H R ex sl s r el f g df)) rfl ?_
    refine zg_S (av := [.int c]) (rest := []) (v := some (.int (zk_b (48 ≤ c ∧ c ≤ 57)))) (G2 := (zk_H R ex sl s r el f g df)) (zm_T.1 28 1 _ rfl).1 zc_28_1 (Nat.le_of_ble_eq_true rfl) (Nat.le_of_ble_eq_true rfl) (zk_c hr) (zk_s hr) (zk_dig) ?_
    show zm_J N _ 28 4 [(0, .ref 3), (1, .int c)] [.int (zk_b (48 ≤ c ∧ c ≤ 57))] (zk_H R ex sl s r el f g df) _
    refine zm_J_run zm_T 1 (pc' := if (zk_b (48 ≤ c ∧ c ≤ 57)) = 0 then 7 else 28) (lv' := [(0, .ref 3), (1, .int c)]) (st' := []) (G' := (zk_H R ex sl s r el f g df)) rfl ?_
    rw [if_neg (show ¬ ((zk_b (48 ≤ c ∧ c ≤ 57)) = 0) from by rw [zk_b_t h1]; decide)]
    refine zm_J_run zm_T 2 (pc' := 33) (lv' := [(0, .ref 3), (1, .int c)]) (st' := [.int 1]) (G' := (zk_H R ex sl s r el f g df)) rfl ?_
    exact zm_J_fin zm_T rfl rfl ⟨fun _ => rfl, fun z => absurd (Or.inl h1) z, rfl⟩
  by_cases h2 : 65 ≤ c ∧ c ≤ 70
  · refine zm_J_run zm_T 1 (pc' := 1) (lv' := [(0, .ref 3), (1, .int c)]) (st' := [.int c]) (G' := (zk_H R ex sl s r el f g df)) rfl ?_
    refine zg_S (av := [.int c]) (rest := []) (v := some (.int (zk_b (48 ≤ c ∧ c ≤ 57)))) (G2 := (zk_H R ex sl s r el f g df)) (zm_T.1 28 1 _ rfl).1 zc_28_1 (Nat.le_of_ble_eq_true rfl) (Nat.le_of_ble_eq_true rfl) (zk_c hr) (zk_s hr) (zk_dig) ?_
    show zm_J N _ 28 4 [(0, .ref 3), (1, .int c)] [.int (zk_b (48 ≤ c ∧ c ≤ 57))] (zk_H R ex sl s r el f g df) _
    refine zm_J_run zm_T 1 (pc' := if (zk_b (48 ≤ c ∧ c ≤ 57)) = 0 then 7 else 28) (lv' := [(0, .ref 3), (1, .int c)]) (st' := []) (G' := (zk_H R ex sl s r el f g df)) rfl ?_
    rw [if_pos (show (zk_b (48 ≤ c ∧ c ≤ 57)) = 0 from zk_b_f h1)]
    refine zm_J_run zm_T 1 (pc' := 8) (lv' := [(0, .ref 3), (1, .int c)]) (st' := [.int c]) (G' := (zk_H R ex sl s r el f g df)) rfl ?_
    refine zg_S (av := [.int c]) (rest := []) (v := some (.int (zk_b (65 ≤ c ∧ c ≤ 70)))) (G2 := (zk_H R ex sl s r el f g df)) (zm_T.1 28 8 _ rfl).1 zc_28_8 (Nat.le_of_ble_eq_true rfl) (Nat.le_of_ble_eq_true rfl) (zk_c hr) (zk_s hr) (zk_isnm) ?_
    show zm_J N _ 28 11 [(0, .ref 3), (1, .int c)] [.int (zk_b (65 ≤ c ∧ c ≤ 70))] (zk_H R ex sl s r el f g df) _
    refine zm_J_run zm_T 1 (pc' := if (zk_b (65 ≤ c ∧ c ≤ 70)) = 0 then 14 else 28) (lv' := [(0, .ref 3), (1, .int c)]) (st' := []) (G' := (zk_H R ex sl s r el f g df)) rfl ?_
    rw [if_neg (show ¬ ((zk_b (65 ≤ c ∧ c ≤ 70)) = 0) from by rw [zk_b_t h2]; decide)]
    refine zm_J_run zm_T 2 (pc' := 33) (lv' := [(0, .ref 3), (1, .int c)]) (st' := [.int 1]) (G' := (zk_H R ex sl s r el f g df)) rfl ?_
    exact zm_J_fin zm_T rfl rfl ⟨fun _ => rfl, fun z => absurd (Or.inr (Or.inl h2)) z, rfl⟩
  by_cases h3 : c = 110
  · refine zm_J_run zm_T 1 (pc' := 1) (lv' := [(0, .ref 3), (1, .int c)]) (st' := [.int c]) (G' := (zk_H R ex sl s r el f g df)) rfl ?_
    refine zg_S (av := [.int c]) (rest := []) (v := some (.int (zk_b (48 ≤ c ∧ c ≤ 57)))) (G2 := (zk_H R ex sl s r el f g df)) (zm_T.1 28 1 _ rfl).1 zc_28_1 (Nat.le_of_ble_eq_true rfl) (Nat.le_of_ble_eq_true rfl) (zk_c hr) (zk_s hr) (zk_dig) ?_
    show zm_J N _ 28 4 [(0, .ref 3), (1, .int c)] [.int (zk_b (48 ≤ c ∧ c ≤ 57))] (zk_H R ex sl s r el f g df) _
    refine zm_J_run zm_T 1 (pc' := if (zk_b (48 ≤ c ∧ c ≤ 57)) = 0 then 7 else 28) (lv' := [(0, .ref 3), (1, .int c)]) (st' := []) (G' := (zk_H R ex sl s r el f g df)) rfl ?_
    rw [if_pos (show (zk_b (48 ≤ c ∧ c ≤ 57)) = 0 from zk_b_f h1)]
    refine zm_J_run zm_T 1 (pc' := 8) (lv' := [(0, .ref 3), (1, .int c)]) (st' := [.int c]) (G' := (zk_H R ex sl s r el f g df)) rfl ?_
    refine zg_S (av := [.int c]) (rest := []) (v := some (.int (zk_b (65 ≤ c ∧ c ≤ 70)))) (G2 := (zk_H R ex sl s r el f g df)) (zm_T.1 28 8 _ rfl).1 zc_28_8 (Nat.le_of_ble_eq_true rfl) (Nat.le_of_ble_eq_true rfl) (zk_c hr) (zk_s hr) (zk_isnm) ?_
    show zm_J N _ 28 11 [(0, .ref 3), (1, .int c)] [.int (zk_b (65 ≤ c ∧ c ≤ 70))] (zk_H R ex sl s r el f g df) _
    refine zm_J_run zm_T 1 (pc' := if (zk_b (65 ≤ c ∧ c ≤ 70)) = 0 then 14 else 28) (lv' := [(0, .ref 3), (1, .int c)]) (st' := []) (G' := (zk_H R ex sl s r el f g df)) rfl ?_
    rw [if_pos (show (zk_b (65 ≤ c ∧ c ≤ 70)) = 0 from zk_b_f h2)]
    refine zm_J_run zm_T 3 (pc' := if c = 110 then 28 else 20) (lv' := [(0, .ref 3), (1, .int c)]) (st' := []) (G' := (zk_H R ex sl s r el f g df)) rfl ?_
    rw [if_pos (show c = 110 from h3)]
    refine zm_J_run zm_T 2 (pc' := 33) (lv' := [(0, .ref 3), (1, .int c)]) (st' := [.int 1]) (G' := (zk_H R ex sl s r el f g df)) rfl ?_
    exact zm_J_fin zm_T rfl rfl ⟨fun _ => rfl, fun z => absurd (Or.inr (Or.inr (Or.inl h3))) z, rfl⟩
  by_cases h4 : c ∈ L
  · refine zm_J_run zm_T 1 (pc' := 1) (lv' := [(0, .ref 3), (1, .int c)]) (st' := [.int c]) (G' := (zk_H R ex sl s r el f g df)) rfl ?_
    refine zg_S (av := [.int c]) (rest := []) (v := some (.int (zk_b (48 ≤ c ∧ c ≤ 57)))) (G2 := (zk_H R ex sl s r el f g df)) (zm_T.1 28 1 _ rfl).1 zc_28_1 (Nat.le_of_ble_eq_true rfl) (Nat.le_of_ble_eq_true rfl) (zk_c hr) (zk_s hr) (zk_dig) ?_
    show zm_J N _ 28 4 [(0, .ref 3), (1, .int c)] [.int (zk_b (48 ≤ c ∧ c ≤ 57))] (zk_H R ex sl s r el f g df) _
    refine zm_J_run zm_T 1 (pc' := if (zk_b (48 ≤ c ∧ c ≤ 57)) = 0 then 7 else 28) (lv' := [(0, .ref 3), (1, .int c)]) (st' := []) (G' := (zk_H R ex sl s r el f g df)) rfl ?_
    rw [if_pos (show (zk_b (48 ≤ c ∧ c ≤ 57)) = 0 from zk_b_f h1)]
    refine zm_J_run zm_T 1 (pc' := 8) (lv' := [(0, .ref 3), (1, .int c)]) (st' := [.int c]) (G' := (zk_H R ex sl s r el f g df)) rfl ?_
    refine zg_S (av := [.int c]) (rest := []) (v := some (.int (zk_b (65 ≤ c ∧ c ≤ 70)))) (G2 := (zk_H R ex sl s r el f g df)) (zm_T.1 28 8 _ rfl).1 zc_28_8 (Nat.le_of_ble_eq_true rfl) (Nat.le_of_ble_eq_true rfl) (zk_c hr) (zk_s hr) (zk_isnm) ?_
    show zm_J N _ 28 11 [(0, .ref 3), (1, .int c)] [.int (zk_b (65 ≤ c ∧ c ≤ 70))] (zk_H R ex sl s r el f g df) _
    refine zm_J_run zm_T 1 (pc' := if (zk_b (65 ≤ c ∧ c ≤ 70)) = 0 then 14 else 28) (lv' := [(0, .ref 3), (1, .int c)]) (st' := []) (G' := (zk_H R ex sl s r el f g df)) rfl ?_
    rw [if_pos (show (zk_b (65 ≤ c ∧ c ≤ 70)) = 0 from zk_b_f h2)]
    refine zm_J_run zm_T 3 (pc' := if c = 110 then 28 else 20) (lv' := [(0, .ref 3), (1, .int c)]) (st' := []) (G' := (zk_H R ex sl s r el f g df)) rfl ?_
    rw [if_neg (show ¬ (c = 110) from h3)]
    refine zm_J_run zm_T 2 (pc' := 22) (lv' := [(0, .ref 3), (1, .int c)]) (st' := [.int c, .ref 3]) (G' := (zk_H R ex sl s r el f g df)) rfl ?_
    refine zg_V (a := 3) (av := [.int c]) (rest := []) (v := some (.int (if c ∈ L then nI (L.idxOf c) else -1))) (G2 := (zk_H R ex sl s r el f g df)) (zm_T.1 28 22 _ rfl).1 zc_28_22 rfl (Nat.le_of_ble_eq_true rfl) (Nat.le_of_ble_eq_true rfl) (zk_c hr) (zk_s hr) (zk_pix hL hg h7) ?_
    show zm_J N _ 28 25 [(0, .ref 3), (1, .int c)] [.int (if c ∈ L then nI (L.idxOf c) else -1)] (zk_H R ex sl s r el f g df) _
    refine zm_J_run zm_T 1 (pc' := if (if c ∈ L then nI (L.idxOf c) else -1) < 0 then 32 else 28) (lv' := [(0, .ref 3), (1, .int c)]) (st' := []) (G' := (zk_H R ex sl s r el f g df)) rfl ?_
    rw [if_neg (show ¬ ((if c ∈ L then nI (L.idxOf c) else -1) < 0) from fun z => (zk_neg hL).mp z h4)]
    refine zm_J_run zm_T 2 (pc' := 33) (lv' := [(0, .ref 3), (1, .int c)]) (st' := [.int 1]) (G' := (zk_H R ex sl s r el f g df)) rfl ?_
    exact zm_J_fin zm_T rfl rfl ⟨fun _ => rfl, fun z => absurd (Or.inr (Or.inr (Or.inr h4))) z, rfl⟩
  refine zm_J_run zm_T 1 (pc' := 1) (lv' := [(0, .ref 3), (1, .int c)]) (st' := [.int c]) (G' := (zk_H R ex sl s r el f g df)) rfl ?_
  refine zg_S (av := [.int c]) (rest := []) (v := some (.int (zk_b (48 ≤ c ∧ c ≤ 57)))) (G2 := (zk_H R ex sl s r el f g df)) (zm_T.1 28 1 _ rfl).1 zc_28_1 (Nat.le_of_ble_eq_true rfl) (Nat.le_of_ble_eq_true rfl) (zk_c hr) (zk_s hr) (zk_dig) ?_
  show zm_J N _ 28 4 [(0, .ref 3), (1, .int c)] [.int (zk_b (48 ≤ c ∧ c ≤ 57))] (zk_H R ex sl s r el f g df) _
  refine zm_J_run zm_T 1 (pc' := if (zk_b (48 ≤ c ∧ c ≤ 57)) = 0 then 7 else 28) (lv' := [(0, .ref 3), (1, .int c)]) (st' := []) (G' := (zk_H R ex sl s r el f g df)) rfl ?_
  rw [if_pos (show (zk_b (48 ≤ c ∧ c ≤ 57)) = 0 from zk_b_f h1)]
  refine zm_J_run zm_T 1 (pc' := 8) (lv' := [(0, .ref 3), (1, .int c)]) (st' := [.int c]) (G' := (zk_H R ex sl s r el f g df)) rfl ?_
  refine zg_S (av := [.int c]) (rest := []) (v := some (.int (zk_b (65 ≤ c ∧ c ≤ 70)))) (G2 := (zk_H R ex sl s r el f g df)) (zm_T.1 28 8 _ rfl).1 zc_28_8 (Nat.le_of_ble_eq_true rfl) (Nat.le_of_ble_eq_true rfl) (zk_c hr) (zk_s hr) (zk_isnm) ?_
  show zm_J N _ 28 11 [(0, .ref 3), (1, .int c)] [.int (zk_b (65 ≤ c ∧ c ≤ 70))] (zk_H R ex sl s r el f g df) _
  refine zm_J_run zm_T 1 (pc' := if (zk_b (65 ≤ c ∧ c ≤ 70)) = 0 then 14 else 28) (lv' := [(0, .ref 3), (1, .int c)]) (st' := []) (G' := (zk_H R ex sl s r el f g df)) rfl ?_
  rw [if_pos (show (zk_b (65 ≤ c ∧ c ≤ 70)) = 0 from zk_b_f h2)]
  refine zm_J_run zm_T 3 (pc' := if c = 110 then 28 else 20) (lv' := [(0, .ref 3), (1, .int c)]) (st' := []) (G' := (zk_H R ex sl s r el f g df)) rfl ?_
  rw [if_neg (show ¬ (c = 110) from h3)]
  refine zm_J_run zm_T 2 (pc' := 22) (lv' := [(0, .ref 3), (1, .int c)]) (st' := [.int c, .ref 3]) (G' := (zk_H R ex sl s r el f g df)) rfl ?_
  refine zg_V (a := 3) (av := [.int c]) (rest := []) (v := some (.int (if c ∈ L then nI (L.idxOf c) else -1))) (G2 := (zk_H R ex sl s r el f g df)) (zm_T.1 28 22 _ rfl).1 zc_28_22 rfl (Nat.le_of_ble_eq_true rfl) (Nat.le_of_ble_eq_true rfl) (zk_c hr) (zk_s hr) (zk_pix hL hg h7) ?_
  show zm_J N _ 28 25 [(0, .ref 3), (1, .int c)] [.int (if c ∈ L then nI (L.idxOf c) else -1)] (zk_H R ex sl s r el f g df) _
  refine zm_J_run zm_T 1 (pc' := if (if c ∈ L then nI (L.idxOf c) else -1) < 0 then 32 else 28) (lv' := [(0, .ref 3), (1, .int c)]) (st' := []) (G' := (zk_H R ex sl s r el f g df)) rfl ?_
  rw [if_pos (show (if c ∈ L then nI (L.idxOf c) else -1) < 0 from (zk_neg hL).mpr h4)]
  refine zm_J_run zm_T 1 (pc' := 33) (lv' := [(0, .ref 3), (1, .int c)]) (st' := [.int 0]) (G' := (zk_H R ex sl s r el f g df)) rfl ?_
  exact zm_J_fin zm_T rfl rfl ⟨fun z => absurd z (by rintro (z | z | z | z) <;> first | exact h1 z | exact h2 z | exact h3 z | exact h4 z), fun _ => rfl, rfl⟩
theorem zk_inp (hr : zr_r ex sl) {L : List Int32} (hL : L.length ≤ 4) (hg : ∀ i x, L[i]? = some x → g i = x) (h7 : s 7 = nI L.length) (hd : 1 ≤ d) {c : Int32} : zm_J N d 22 0 [(0, .ref 3), (1, .int c)] [] (zk_H R ex sl s r el f g df) (fun z G' => ((97 ≤ c ∧ c ≤ 102) ∧ ¬ c ∈ L → z = .inl (some (.int 1))) ∧ (¬ ((97 ≤ c ∧ c ≤ 102) ∧ ¬ c ∈ L) → z = .inl (some (.int 0))) ∧ G' = (zk_H R ex sl s r el f g df)) := by
  obtain ⟨d, rfl⟩ : ∃ e, d = e + 1 := ⟨d - 1, by omega⟩
  by_cases h1 : c < 97
  · refine zm_J_run zm_T 3 (pc' := if c < 97 then 24 else 6) (lv' := [(0, .ref 3), (1, .int c)]) (st' := []) (G' := (zk_H R ex sl s r el f g df)) rfl ?_
    rw [if_pos (show c < 97 from h1)]
    refine zm_J_run zm_T 1 (pc' := 25) (lv' := [(0, .ref 3), (1, .int c)]) (st' := [.int 0]) (G' := (zk_H R ex sl s r el f g df)) rfl ?_
    exact zm_J_fin zm_T rfl rfl ⟨fun z => absurd z (fun z => Int32.not_lt.mpr z.1.1 h1), fun _ => rfl, rfl⟩
  by_cases h2 : 102 < c
  · refine zm_J_run zm_T 3 (pc' := if c < 97 then 24 else 6) (lv' := [(0, .ref 3), (1, .int c)]) (st' := []) (G' := (zk_H R ex sl s r el f g df)) rfl ?_
    rw [if_neg (show ¬ (c < 97) from h1)]
    refine zm_J_run zm_T 3 (pc' := if (102 : Int32) < c then 24 else 12) (lv' := [(0, .ref 3), (1, .int c)]) (st' := []) (G' := (zk_H R ex sl s r el f g df)) rfl ?_
    rw [if_pos (show (102 : Int32) < c from h2)]
    refine zm_J_run zm_T 1 (pc' := 25) (lv' := [(0, .ref 3), (1, .int c)]) (st' := [.int 0]) (G' := (zk_H R ex sl s r el f g df)) rfl ?_
    exact zm_J_fin zm_T rfl rfl ⟨fun z => absurd z (fun z => Int32.not_lt.mpr z.1.2 h2), fun _ => rfl, rfl⟩
  by_cases h4 : c ∈ L
  · refine zm_J_run zm_T 3 (pc' := if c < 97 then 24 else 6) (lv' := [(0, .ref 3), (1, .int c)]) (st' := []) (G' := (zk_H R ex sl s r el f g df)) rfl ?_
    rw [if_neg (show ¬ (c < 97) from h1)]
    refine zm_J_run zm_T 3 (pc' := if (102 : Int32) < c then 24 else 12) (lv' := [(0, .ref 3), (1, .int c)]) (st' := []) (G' := (zk_H R ex sl s r el f g df)) rfl ?_
    rw [if_neg (show ¬ ((102 : Int32) < c) from h2)]
    refine zm_J_run zm_T 2 (pc' := 14) (lv' := [(0, .ref 3), (1, .int c)]) (st' := [.int c, .ref 3]) (G' := (zk_H R ex sl s r el f g df)) rfl ?_
    refine zg_V (a := 3) (av := [.int c]) (rest := []) (v := some (.int (if c ∈ L then nI (L.idxOf c) else -1))) (G2 := (zk_H R ex sl s r el f g df)) (zm_T.1 22 14 _ rfl).1 zc_22_14 rfl (Nat.le_of_ble_eq_true rfl) (Nat.le_of_ble_eq_true rfl) (zk_c hr) (zk_s hr) (zk_pix hL hg h7) ?_
    show zm_J N _ 22 17 [(0, .ref 3), (1, .int c)] [.int (if c ∈ L then nI (L.idxOf c) else -1)] (zk_H R ex sl s r el f g df) _
    refine zm_J_run zm_T 1 (pc' := if (0 : Int32) ≤ (if c ∈ L then nI (L.idxOf c) else -1) then 24 else 20) (lv' := [(0, .ref 3), (1, .int c)]) (st' := []) (G' := (zk_H R ex sl s r el f g df)) rfl ?_
    rw [if_pos (show (0 : Int32) ≤ (if c ∈ L then nI (L.idxOf c) else -1) from (zk_neg' hL).mpr h4)]
    refine zm_J_run zm_T 1 (pc' := 25) (lv' := [(0, .ref 3), (1, .int c)]) (st' := [.int 0]) (G' := (zk_H R ex sl s r el f g df)) rfl ?_
    exact zm_J_fin zm_T rfl rfl ⟨fun z => absurd z (fun z => z.2 h4), fun _ => rfl, rfl⟩
  refine zm_J_run zm_T 3 (pc' := if c < 97 then 24 else 6) (lv' := [(0, .ref 3), (1, .int c)]) (st' := []) (G' := (zk_H R ex sl s r el f g df)) rfl ?_
  rw [if_neg (show ¬ (c < 97) from h1)]
  refine zm_J_run zm_T 3 (pc' := if (102 : Int32) < c then 24 else 12) (lv' := [(0, .ref 3), (1, .int c)]) (st' := []) (G' := (zk_H R ex sl s r el f g df)) rfl ?_
  rw [if_neg (show ¬ ((102 : Int32) < c) from h2)]
  refine zm_J_run zm_T 2 (pc' := 14) (lv' := [(0, .ref 3), (1, .int c)]) (st' := [.int c, .ref 3]) (G' := (zk_H R ex sl s r el f g df)) rfl ?_
  refine zg_V (a := 3) (av := [.int c]) (rest := []) (v := some (.int (if c ∈ L then nI (L.idxOf c) else -1))) (G2 := (zk_H R ex sl s r el f g df)) (zm_T.1 22 14 _ rfl).1 zc_22_14 rfl (Nat.le_of_ble_eq_true rfl) (Nat.le_of_ble_eq_true rfl) (zk_c hr) (zk_s hr) (zk_pix hL hg h7) ?_
  show zm_J N _ 22 17 [(0, .ref 3), (1, .int c)] [.int (if c ∈ L then nI (L.idxOf c) else -1)] (zk_H R ex sl s r el f g df) _
  refine zm_J_run zm_T 1 (pc' := if (0 : Int32) ≤ (if c ∈ L then nI (L.idxOf c) else -1) then 24 else 20) (lv' := [(0, .ref 3), (1, .int c)]) (st' := []) (G' := (zk_H R ex sl s r el f g df)) rfl ?_
  rw [if_neg (show ¬ ((0 : Int32) ≤ (if c ∈ L then nI (L.idxOf c) else -1)) from fun z => h4 ((zk_neg' hL).mp z))]
  refine zm_J_run zm_T 2 (pc' := 25) (lv' := [(0, .ref 3), (1, .int c)]) (st' := [.int 1]) (G' := (zk_H R ex sl s r el f g df)) rfl ?_
  exact zm_J_fin zm_T rfl rfl ⟨fun _ => rfl, fun z => absurd ⟨⟨Int32.not_lt.mp h1, Int32.not_lt.mp h2⟩, h4⟩ z, rfl⟩
def zk_cs (L : List Int32) (c : Int32) (δ p o : Nat) : Prop := (zv_p c = 0 ∧ zk_lf L c) ∨ (¬ zv_p c = 0 ∧ δ < 12 ∧ p + o + zv_p c ≤ 40)
theorem zk_can (hr : zr_r ex sl) {L : List Int32} (hL : L.length ≤ 4) (hg : ∀ i x, L[i]? = some x → g i = x) (h7 : s 7 = nI L.length) (hd : 2 ≤ d) {c : Int32} {δ p o : Nat} (hδ : δ ≤ 100) (hp : p ≤ 100) (ho : o ≤ 100) (h9 : s 9 = nI p) (h10 : s 10 = nI o) : zm_J N d 26 0 [(0, .ref 3), (1, .int c), (2, .int (nI δ))] [] (zk_H R ex sl s r el f g df) (fun z G' => (zk_cs L c δ p o → z = .inl (some (.int 1))) ∧ (¬ zk_cs L c δ p o → z = .inl (some (.int 0))) ∧ G' = (zk_H R ex sl s r el f g df)) := by
  obtain ⟨d, rfl⟩ : ∃ e, d = e + 2 := ⟨d - 2, by omega⟩
  have hpl := zv_p_le c
  by_cases h0 : zv_p c = 0
  · refine zm_J_run zm_T 1 (pc' := 1) (lv' := [(0, .ref 3), (1, .int c), (2, .int (nI δ))]) (st' := [.int c]) (G' := (zk_H R ex sl s r el f g df)) rfl ?_
    refine zg_S (av := [.int c]) (rest := []) (v := some (.int (nI (zv_p c)))) (G2 := (zk_H R ex sl s r el f g df)) (zm_T.1 26 1 _ rfl).1 zc_26_1 (Nat.le_of_ble_eq_true rfl) (Nat.le_of_ble_eq_true rfl) (zk_c hr) (zk_s hr) (zk_pts) ?_
    show zm_J N _ 26 4 [(0, .ref 3), (1, .int c), (2, .int (nI δ))] [.int (nI (zv_p c))] (zk_H R ex sl s r el f g df) _
    refine zm_J_run zm_T 3 (pc' := if (nI (zv_p c)) = 0 then 9 else 15) (lv' := [(3, .int (nI (zv_p c))), (0, .ref 3), (1, .int c), (2, .int (nI δ))]) (st' := []) (G' := (zk_H R ex sl s r el f g df)) rfl ?_
    rw [if_pos (show (nI (zv_p c)) = 0 from by rw [h0]; rfl)]
    refine zm_J_run zm_T 2 (pc' := 11) (lv' := [(3, .int (nI (zv_p c))), (0, .ref 3), (1, .int c), (2, .int (nI δ))]) (st' := [.int c, .ref 3]) (G' := (zk_H R ex sl s r el f g df)) rfl ?_
    refine zg_VT (a := 3) (av := [.int c]) (rest := []) (zm_T.1 26 11 _ rfl).1 zc_26_11 rfl (zm_out0 rfl) (Nat.le_of_ble_eq_true rfl) (Nat.le_of_ble_eq_true rfl) (zk_c hr) (zk_s hr) ((zk_isl hr hL hg h7 (by omega)).mono (fun z G' k => ?_))
    obtain ⟨k1, k2, rfl⟩ := k
    by_cases h1 : zk_lf L c
    · rw [k1 h1]
      exact zm_J_fin zm_T rfl rfl ⟨fun _ => rfl, fun z => absurd (Or.inl ⟨h0, h1⟩) z, rfl⟩
    · rw [k2 h1]
      exact zm_J_fin zm_T rfl rfl ⟨fun z => absurd z (by rintro (z | z); exact h1 z.2; exact z.1 h0), fun _ => rfl, rfl⟩
  by_cases h1 : 12 ≤ δ
  · refine zm_J_run zm_T 1 (pc' := 1) (lv' := [(0, .ref 3), (1, .int c), (2, .int (nI δ))]) (st' := [.int c]) (G' := (zk_H R ex sl s r el f g df)) rfl ?_
    refine zg_S (av := [.int c]) (rest := []) (v := some (.int (nI (zv_p c)))) (G2 := (zk_H R ex sl s r el f g df)) (zm_T.1 26 1 _ rfl).1 zc_26_1 (Nat.le_of_ble_eq_true rfl) (Nat.le_of_ble_eq_true rfl) (zk_c hr) (zk_s hr) (zk_pts) ?_
    show zm_J N _ 26 4 [(0, .ref 3), (1, .int c), (2, .int (nI δ))] [.int (nI (zv_p c))] (zk_H R ex sl s r el f g df) _
    refine zm_J_run zm_T 3 (pc' := if (nI (zv_p c)) = 0 then 9 else 15) (lv' := [(3, .int (nI (zv_p c))), (0, .ref 3), (1, .int c), (2, .int (nI δ))]) (st' := []) (G' := (zk_H R ex sl s r el f g df)) rfl ?_
    rw [if_neg (show ¬ ((nI (zv_p c)) = 0) from fun z => h0 ((nI_eq (by omega) (by omega)).mp (z.trans (show (0 : Int32) = nI 0 from rfl))))]
    refine zm_J_run zm_T 3 (pc' := if (12 : Int32) ≤ (nI δ) then 41 else 21) (lv' := [(3, .int (nI (zv_p c))), (0, .ref 3), (1, .int c), (2, .int (nI δ))]) (st' := []) (G' := (zk_H R ex sl s r el f g df)) rfl ?_
    rw [if_pos (show (12 : Int32) ≤ (nI δ) from nI_le (a := 12) h1 (by omega))]
    refine zm_J_run zm_T 1 (pc' := 42) (lv' := [(3, .int (nI (zv_p c))), (0, .ref 3), (1, .int c), (2, .int (nI δ))]) (st' := [.int 0]) (G' := (zk_H R ex sl s r el f g df)) rfl ?_
    exact zm_J_fin zm_T rfl rfl ⟨fun z => absurd z (by rintro (z | z); exact h0 z.1; omega), fun _ => rfl, rfl⟩
  by_cases h2 : p + o + zv_p c ≤ 40
  · refine zm_J_run zm_T 1 (pc' := 1) (lv' := [(0, .ref 3), (1, .int c), (2, .int (nI δ))]) (st' := [.int c]) (G' := (zk_H R ex sl s r el f g df)) rfl ?_
    refine zg_S (av := [.int c]) (rest := []) (v := some (.int (nI (zv_p c)))) (G2 := (zk_H R ex sl s r el f g df)) (zm_T.1 26 1 _ rfl).1 zc_26_1 (Nat.le_of_ble_eq_true rfl) (Nat.le_of_ble_eq_true rfl) (zk_c hr) (zk_s hr) (zk_pts) ?_
    show zm_J N _ 26 4 [(0, .ref 3), (1, .int c), (2, .int (nI δ))] [.int (nI (zv_p c))] (zk_H R ex sl s r el f g df) _
    refine zm_J_run zm_T 3 (pc' := if (nI (zv_p c)) = 0 then 9 else 15) (lv' := [(3, .int (nI (zv_p c))), (0, .ref 3), (1, .int c), (2, .int (nI δ))]) (st' := []) (G' := (zk_H R ex sl s r el f g df)) rfl ?_
    rw [if_neg (show ¬ ((nI (zv_p c)) = 0) from fun z => h0 ((nI_eq (by omega) (by omega)).mp (z.trans (show (0 : Int32) = nI 0 from rfl))))]
    refine zm_J_run zm_T 3 (pc' := if (12 : Int32) ≤ (nI δ) then 41 else 21) (lv' := [(3, .int (nI (zv_p c))), (0, .ref 3), (1, .int c), (2, .int (nI δ))]) (st' := []) (G' := (zk_H R ex sl s r el f g df)) rfl ?_
    rw [if_neg (show ¬ ((12 : Int32) ≤ (nI δ)) from nI_ge (b := 12) (by omega) (by decide))]
    refine zm_J_run zm_T 7 (pc' := 32) (lv' := [(3, .int (nI (zv_p c))), (0, .ref 3), (1, .int c), (2, .int (nI δ))]) (st' := [.int (((s 9) + (s 10)) + (nI (zv_p c)))]) (G' := (zk_H R ex sl s r el f g df)) rfl ?_
    rw [h9, h10, show nI p + nI o = nI (p + o) from nI_add _ _, show nI (p + o) + nI (zv_p c) = nI (p + o + zv_p c) from nI_add _ _]
    show zm_J N _ 26 32 [(3, .int (nI (zv_p c))), (0, .ref 3), (1, .int c), (2, .int (nI δ))] [.int (nI (p + o + zv_p c))] (zk_H R ex sl s r el f g df) _
    show zm_J N _ 26 32 [(3, .int (nI (zv_p c))), (0, .ref 3), (1, .int c), (2, .int (nI δ))] [.int (nI (p + o + zv_p c))] (zk_H R ex sl s r el f g df) _
    show zm_J N _ 26 32 [(3, .int (nI (zv_p c))), (0, .ref 3), (1, .int c), (2, .int (nI δ))] [.int (nI (p + o + zv_p c))] (zk_H R ex sl s r el f g df) _
    refine zm_J_run zm_T 2 (pc' := if (40 : Int32) < (nI (p + o + zv_p c)) then 41 else 37) (lv' := [(3, .int (nI (zv_p c))), (0, .ref 3), (1, .int c), (2, .int (nI δ))]) (st' := []) (G' := (zk_H R ex sl s r el f g df)) rfl ?_
    rw [if_neg (show ¬ ((40 : Int32) < (nI (p + o + zv_p c))) from nI_nlt (a := 40) h2 (by decide))]
    refine zm_J_run zm_T 2 (pc' := 42) (lv' := [(3, .int (nI (zv_p c))), (0, .ref 3), (1, .int c), (2, .int (nI δ))]) (st' := [.int 1]) (G' := (zk_H R ex sl s r el f g df)) rfl ?_
    exact zm_J_fin zm_T rfl rfl ⟨fun _ => rfl, fun z => absurd (Or.inr ⟨h0, by omega, h2⟩) z, rfl⟩
  refine zm_J_run zm_T 1 (pc' := 1) (lv' := [(0, .ref 3), (1, .int c), (2, .int (nI δ))]) (st' := [.int c]) (G' := (zk_H R ex sl s r el f g df)) rfl ?_
  refine zg_S (av := [.int c]) (rest := []) (v := some (.int (nI (zv_p c)))) (G2 := (zk_H R ex sl s r el f g df)) (zm_T.1 26 1 _ rfl).1 zc_26_1 (Nat.le_of_ble_eq_true rfl) (Nat.le_of_ble_eq_true rfl) (zk_c hr) (zk_s hr) (zk_pts) ?_
  show zm_J N _ 26 4 [(0, .ref 3), (1, .int c), (2, .int (nI δ))] [.int (nI (zv_p c))] (zk_H R ex sl s r el f g df) _
  refine zm_J_run zm_T 3 (pc' := if (nI (zv_p c)) = 0 then 9 else 15) (lv' := [(3, .int (nI (zv_p c))), (0, .ref 3), (1, .int c), (2, .int (nI δ))]) (st' := []) (G' := (zk_H R ex sl s r el f g df)) rfl ?_
  rw [if_neg (show ¬ ((nI (zv_p c)) = 0) from fun z => h0 ((nI_eq (by omega) (by omega)).mp (z.trans (show (0 : Int32) = nI 0 from rfl))))]
  refine zm_J_run zm_T 3 (pc' := if (12 : Int32) ≤ (nI δ) then 41 else 21) (lv' := [(3, .int (nI (zv_p c))), (0, .ref 3), (1, .int c), (2, .int (nI δ))]) (st' := []) (G' := (zk_H R ex sl s r el f g df)) rfl ?_
  rw [if_neg (show ¬ ((12 : Int32) ≤ (nI δ)) from nI_ge (b := 12) (by omega) (by decide))]
  refine zm_J_run zm_T 7 (pc' := 32) (lv' := [(3, .int (nI (zv_p c))), (0, .ref 3), (1, .int c), (2, .int (nI δ))]) (st' := [.int (((s 9) + (s 10)) + (nI (zv_p c)))]) (G' := (zk_H R ex sl s r el f g df)) rfl ?_
  rw [h9, h10, show nI p + nI o = nI (p + o) from nI_add _ _, show nI (p + o) + nI (zv_p c) = nI (p + o + zv_p c) from nI_add _ _]
  show zm_J N _ 26 32 [(3, .int (nI (zv_p c))), (0, .ref 3), (1, .int c), (2, .int (nI δ))] [.int (nI (p + o + zv_p c))] (zk_H R ex sl s r el f g df) _
  show zm_J N _ 26 32 [(3, .int (nI (zv_p c))), (0, .ref 3), (1, .int c), (2, .int (nI δ))] [.int (nI (p + o + zv_p c))] (zk_H R ex sl s r el f g df) _
  show zm_J N _ 26 32 [(3, .int (nI (zv_p c))), (0, .ref 3), (1, .int c), (2, .int (nI δ))] [.int (nI (p + o + zv_p c))] (zk_H R ex sl s r el f g df) _
  refine zm_J_run zm_T 2 (pc' := if (40 : Int32) < (nI (p + o + zv_p c)) then 41 else 37) (lv' := [(3, .int (nI (zv_p c))), (0, .ref 3), (1, .int c), (2, .int (nI δ))]) (st' := []) (G' := (zk_H R ex sl s r el f g df)) rfl ?_
  rw [if_pos (show (40 : Int32) < (nI (p + o + zv_p c)) from nI_lt (a := 40) (by omega) (by omega))]
  refine zm_J_run zm_T 1 (pc' := 42) (lv' := [(3, .int (nI (zv_p c))), (0, .ref 3), (1, .int c), (2, .int (nI δ))]) (st' := [.int 0]) (G' := (zk_H R ex sl s r el f g df)) rfl ?_
  exact zm_J_fin zm_T rfl rfl ⟨fun z => absurd z (by rintro (z | z); exact h0 z.1; omega), fun _ => rfl, rfl⟩
end ZKP

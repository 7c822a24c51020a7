/-! THE CLASS'S HEAP: scalars s, the RESULT r, its lists' arrays el, the texts f and g, the definitions df; R the other cells of fixed place, ex what was made later. -/
def zk_H (R : Nat → zm_E) (ex : List zm_E) (sl : Nat) (s : Nat → Int32) (r : Value) (el : Nat → Nat) (f g : Nat → Int32) (df : Nat → Option Nat) : zm_H := ([R 0, R 1, .inr (0, [.ref 3, .ref 6, .ref 11, r, .int (s 0), .int (s 1), .int (s 2), .int (s 3), .int (s 4)]), .inr (1, [.int (s 5), .int (s 6), .ref 4, .ref 5, .int (s 7), .int (s 8), .int (s 9), .int (s 10)]), .inl (1, 40, .inl f), .inl (1, 4, .inl g), .inr (2, [.ref 7, .ref 8, .ref 9, .ref 10, .int (s 11), .int (s 12), .int (s 13)]), .inr (3, [.int 1, .int 0, .null, .null, .null]), .inr (4, [.ref (el 0), .int (s 14), .int (s 15)]), .inr (4, [.ref (el 1), .int (s 16), .int (s 17)]), .inr (4, [.ref (el 2), .int (s 18), .int (s 19)]), .inl (4, 6, .inr (.inr (.inr (.inr df)))), R 12, R 13, R 14, R 15, R 16, R 17, R 18, R 19, R 20, R 21, R 22, R 23, R 24, R 25, R 26, R 27, R 28, R 29, R 30, R 31, R 32, R 33, R 34, R 35, R 36] ++ ex, sl)
def zk_ap (ex : List zm_E) (c : zm_E) : List zm_E := ex ++ [c]
theorem zk_ap_len (ex : List zm_E) (c : zm_E) : (zk_ap ex c).length = ex.length + 1 := by
  unfold zk_ap
  rw [List.length_append, List.length_singleton]
theorem zk_ap_old {ex : List zm_E} {c x : zm_E} {i : Nat} (h : ex[i]? = some x) : (zk_ap ex c)[i]? = some x := by
  unfold zk_ap
  rw [List.getElem?_append_left (List.getElem?_eq_some_iff.mp h).1]
  exact h
theorem zk_ap_new (ex : List zm_E) (c : zm_E) : (zk_ap ex c)[ex.length]? = some c := by
  unfold zk_ap
  rw [List.getElem?_append_right (Nat.le_refl _), Nat.sub_self]
  rfl
section ZKR
variable {R : Nat → zm_E} {ex : List zm_E} {sl : Nat} {s : Nat → Int32} {r : Value} {el : Nat → Nat} {f g : Nat → Int32} {df : Nat → Option Nat} {N : zm_N} {d mi pc : Nat} {lv : zm_L} {G : zm_H} {Q : zm_O → zm_H → Prop}
theorem zk_c (h : zr_r ex sl) : (zk_H R ex sl s r el f g df).1.length ≤ zm_C := h.1
theorem zk_s (h : zr_r ex sl) : (zk_H R ex sl s r el f g df).2 ≤ zm_S := h.2
theorem zk_at {i : Nat} {x : zm_E} (h : ex[i]? = some x) : (zk_H R ex sl s r el f g df).1[i + 37]? = some x := h
theorem zk_set {i : Nat} {y : zm_E} : zm_set (zk_H R ex sl s r el f g df) (i + 37) y = zk_H R (ex.set i y) sl s r el f g df := rfl
theorem zk_new {c : zm_E} {n : Nat} : zm_new (zk_H R ex sl s r el f g df) c n = zk_H R (zk_ap ex c) (sl + n) s r el f g df := rfl
theorem zg_aald {qa qb : Nat} {qn : Int} {ad t n m : Nat} {f : Nat → Option Nat} {C : String} {j : Int32} {r : List Value} (hq : zm_cd mi pc = some (.aaload, qa, qb, qn)) (ha : G.1[ad]? = some (.inl (t, n, .inr (.inr (.inr (.inr f)))))) (ht : zm_aty[t]? = some (.object C)) (hj : j = nI m) (hm : m < n) (hn : n < 2147483648) (k : zm_J N d mi (pc + 1) lv (va_rf (f m) :: r) G Q) : zm_J N d mi pc lv (.int j :: .ref ad :: r) G Q := by
  subst hj
  have hc : (nI m).toNatClampNeg = m := nI_clamp (by omega)
  refine zm_hp_ok zm_T (q := (.aaload, qa, qb, qn)) (zm_T.1 mi pc _ hq) rfl (st' := va_rf (f m) :: r) (G' := G) ?_ k
  simp only [zm_hp, ha, ht]
  rw [if_pos ⟨rfl, nI_pos' (by omega), by rw [hc]; exact hm⟩, hc]
  rfl
theorem zg_aast {qa qb : Nat} {qn : Int} {ad t n m b : Nat} {f : Nat → Option Nat} {C : String} {j : Int32} {r : List Value} {G' : zm_H} (hq : zm_cd mi pc = some (.aastore, qa, qb, qn)) (ha : G.1[ad]? = some (.inl (t, n, .inr (.inr (.inr (.inr f)))))) (ht : zm_aty[t]? = some (.object C)) (hs : zm_sto t (.ref b) G = true) (hno : zm_no ≤ ad) (hj : j = nI m) (hm : m < n) (hn : n < 2147483648) (hG : zm_set G ad (.inl (t, n, .inr (.inr (.inr (.inr (va_up f m (some b))))))) = G') (k : zm_J N d mi (pc + 1) lv r G' Q) : zm_J N d mi pc lv (.ref b :: .int j :: .ref ad :: r) G Q := by
  subst hj hG
  have hc : (nI m).toNatClampNeg = m := nI_clamp (by omega)
  exact zg_J_ast (i := .aastore) (v' := .ref b) (x := (n, .inr (.inr (.inr (.inr f))))) (x' := (n, .inr (.inr (.inr (.inr (va_up f m (some b))))))) hq ha ht rfl (by rw [hc]; rfl) hno ⟨nI_pos' (by omega), by rw [hc]; exact hm⟩ hs k
theorem zg_alen {qa qb : Nat} {qn : Int} {ad t n : Nat} {x : (Nat → Int32) ⊕ ((Nat → Int64) ⊕ ((Nat → UInt32) ⊕ ((Nat → UInt64) ⊕ (Nat → Option Nat))))} {r : List Value} (hq : zm_cd mi pc = some (.arraylength, qa, qb, qn)) (ha : G.1[ad]? = some (.inl (t, n, x))) (k : zm_J N d mi (pc + 1) lv (.int (nI n) :: r) G Q) : zm_J N d mi pc lv (.ref ad :: r) G Q := by
  refine zm_hp_ok zm_T (q := (.arraylength, qa, qb, qn)) (zm_T.1 mi pc _ hq) rfl (st' := .int (nI n) :: r) (G' := G) ?_ k
  simp only [zm_hp, ha]
  rfl
theorem zg_cast {idx qa qb : Nat} {qn : Int} {ad : Nat} {fs r : List Value} (hq : zm_cd mi pc = some (.checkcast idx, qa, qb, qn)) (ha : G.1[ad]? = some (.inr (qa, fs))) (k : zm_J N d mi (pc + 3) lv (.ref ad :: r) G Q) : zm_J N d mi pc lv (.ref ad :: r) G Q := by
  refine zm_hp_ok zm_T (q := (.checkcast idx, qa, qb, qn)) (zm_T.1 mi pc _ hq) rfl (st' := .ref ad :: r) (G' := G) ?_ k
  simp only [zm_hp, ha, if_pos]
theorem zg_newo {idx qa qb : Nat} {qn : Int} {st : List Value} {G' : zm_H} (hq : zm_cd mi pc = some (.new idx, qa, qb, qn)) (hr : ex.length + 38 ≤ zm_C ∧ sl + (zm_fl qa).length ≤ zm_S) (hG : zk_H R (zk_ap ex (.inr (qa, (zm_fl qa).map defaultValue))) (sl + (zm_fl qa).length) s r el f g df = G') (k : zm_J N d mi (pc + 3) lv (.ref (ex.length + 37) :: st) G' Q) : zm_J N d mi pc lv st (zk_H R ex sl s r el f g df) Q := by
  subst hG
  refine zm_hp_ok zm_T (q := (.new idx, qa, qb, qn)) (zm_T.1 mi pc _ hq) rfl (st' := .ref (ex.length + 37) :: st) (G' := zk_H R (zk_ap ex (.inr (qa, (zm_fl qa).map defaultValue))) (sl + (zm_fl qa).length) s r el f g df) ?_ k
  have hroom : zm_room (zk_H R ex sl s r el f g df) (zm_fl qa).length = true := by
    unfold zm_room
    rw [Bool.and_eq_true, decide_eq_true_eq, decide_eq_true_eq]
    exact hr
  simp only [zm_hp, hroom, if_true]
  rfl
theorem zg_newa {idx qa qb m : Nat} {qn : Int} {C : String} {j : Int32} {st : List Value} {G' : zm_H} (hq : zm_cd mi pc = some (.anewarray idx, qa, qb, qn)) (ht : zm_aty[qa]? = some (.object C)) (hj : j = nI m ∧ m * 8 ≤ 536870912) (hr : ex.length + 38 ≤ zm_C ∧ sl + m ≤ zm_S) (hG : zk_H R (zk_ap ex (.inl (qa, m, .inr (.inr (.inr (.inr fun _ => none)))))) (sl + m) s r el f g df = G') (k : zm_J N d mi (pc + 3) lv (.ref (ex.length + 37) :: st) G' Q) : zm_J N d mi pc lv (.int j :: st) (zk_H R ex sl s r el f g df) Q := by
  subst hG
  obtain ⟨rfl, h8⟩ := hj
  have hc : (nI m).toNatClampNeg = m := nI_clamp (by omega)
  refine zm_hp_ok zm_T (q := (.anewarray idx, qa, qb, qn)) (zm_T.1 mi pc _ hq) rfl (st' := .ref (ex.length + 37) :: st) (G' := zk_H R (zk_ap ex (.inl (qa, m, .inr (.inr (.inr (.inr fun _ => none)))))) (sl + m) s r el f g df) ?_ k
  have hroom : zm_room (zk_H R ex sl s r el f g df) m = true := by
    unfold zm_room
    rw [Bool.and_eq_true, decide_eq_true_eq, decide_eq_true_eq]
    exact hr
  simp only [zm_hp, ht, hc]
  show (match zm_dflt m (.object C) with | some a0 => if 0 ≤ nI m ∧ m * 8 ≤ 536870912 ∧ zm_room (zk_H R ex sl s r el f g df) m = true then some ((Value.ref (zk_H R ex sl s r el f g df).1.length :: st), zm_new (zk_H R ex sl s r el f g df) (.inl (qa, a0)) m) else none | none => none) = _
  have hd : zm_dflt m (.object C) = some (m, .inr (.inr (.inr (.inr fun _ => none)))) := rfl
  rw [hd]
  show (if 0 ≤ nI m ∧ m * 8 ≤ 536870912 ∧ zm_room (zk_H R ex sl s r el f g df) m = true then some ((Value.ref (zk_H R ex sl s r el f g df).1.length :: st), zm_new (zk_H R ex sl s r el f g df) (.inl (qa, (m, .inr (.inr (.inr (.inr fun _ => none)))))) m) else none) = _
  rw [if_pos ⟨nI_pos' (by omega), h8, hroom⟩]
  rfl
end ZKR

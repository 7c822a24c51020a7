/-! THE LAW'S ANSWER AT ONE SCRIPT, by the kernel; laid by wip/gen/refute.py -/
def zz_S : List Int32 := [0, 1061109567, 1061109567, 0, 1061109553, 825307441, 0, 49, 826228543, 2, 0, 0, 7, 0, 0]
def zz_is0 (r : Option (zm_O × zm_H)) : Bool := match r with
  | some (.inl (some (.int v)), _) => v == 0
  | _ => false
theorem zz_is0_ok {r : Option (zm_O × zm_H)} (h : zz_is0 r = true) : ∃ G, r = some (.inl (some (.int 0)), G) := by
  unfold zz_is0 at h
  split at h
  · rename_i v G
    have hv : v = 0 := by simpa using h
    exact ⟨G, by rw [hv]⟩
  · cases h
set_option maxRecDepth 1000000 in
theorem zz_run : zz_is0 (zq_ev zq_cs zq_ts 3000 64 0 0 [(0, .ref 0)] [] (zm_G0h 15 (fun j => zz_S.getD j 0))) = true := by decide +kernel
/-- whoever starts the law with this script: it comes to its end with false -/
theorem zz_law (N : zm_N) (d : Nat) (hd : 64 ≤ d) : zm_J N d 0 0 [(0, .ref 0)] [] (zm_G0h 15 (fun j => zz_S.getD j 0)) (fun z _ => z = .inl (some (.int 0))) := by
  obtain ⟨G, hG⟩ := zz_is0_ok zz_run
  exact zm_J_d hd ((zq_ok zq_cs_ok zq_ts_ok _ _ _ _ _ _ _ _ _ hG).mono (fun z G' h => h.1))

theorem zm_lk_mem {l : List (Nat × zm_I)} {pc : Nat} {q : zm_I} (h : zm_lk l pc = some q) : (pc, q) ∈ l := by
  induction l with
  | nil => cases h
  | cons a r ih =>
    unfold zm_lk at h
    split at h
    · rename_i hp
      cases Option.some.inj h
      rw [← Nat.eq_of_beq_eq_true hp]
      exact List.mem_cons_self
    · exact List.mem_cons_of_mem _ (ih h)
theorem zm_okd {k : Nat} {l : List (Nat × zm_I)} (h : (l.all fun e => decide (decode (zm_by k) e.1 = .ok (e.2.1, zm_ln e.2))) = true) (h2 : ∀ e ∈ l, zm_okq k e.2) : ∀ e ∈ l, zm_oke k e.1 e.2 := fun e he => ⟨of_decide_eq_true (List.all_eq_true.mp h e he), h2 e he⟩
theorem zm_all (k : Nat) : ∀ e ∈ zm_cs.getD k [], zm_oke k e.1 e.2 := by
  match k with
  | 0 => exact zm_okd zd_0 zq_0
  | 1 => exact zm_okd zd_1 zq_1
  | 2 => exact zm_okd zd_2 zq_2
  | 3 => exact zm_okd zd_3 zq_3
  | 4 => exact zm_okd zd_4 zq_4
  | 5 => exact zm_okd zd_5 zq_5
  | 6 => exact zm_okd zd_6 zq_6
  | 7 => exact zm_okd zd_7 zq_7
  | 8 => exact zm_okd zd_8 zq_8
  | 9 => exact zm_okd zd_9 zq_9
  | 10 => exact zm_okd zd_10 zq_10
  | 11 => exact zm_okd zd_11 zq_11
  | 12 => exact zm_okd zd_12 zq_12
  | 13 => exact zm_okd zd_13 zq_13
  | 14 => exact zm_okd zd_14 zq_14
  | 15 => exact zm_okd zd_15 zq_15
  | 16 => exact zm_okd zd_16 zq_16
  | 17 => exact zm_okd zd_17 zq_17
  | 18 => exact zm_okd zd_18 zq_18
  | 19 => exact zm_okd zd_19 zq_19
  | 20 => exact zm_okd zd_20 zq_20
  | 21 => exact zm_okd zd_21 zq_21
  | 22 => exact zm_okd zd_22 zq_22
  | 23 => exact zm_okd zd_23 zq_23
  | 24 => exact zm_okd zd_24 zq_24
  | 25 => exact zm_okd zd_25 zq_25
  | 26 => exact zm_okd zd_26 zq_26
  | 27 => exact zm_okd zd_27 zq_27
  | 28 => exact zm_okd zd_28 zq_28
  | 29 => exact zm_okd zd_29 zq_29
  | 30 => exact zm_okd zd_30 zq_30
  | 31 => exact zm_okd zd_31 zq_31
  | 32 => exact zm_okd zd_32 zq_32
  | 33 => exact zm_okd zd_33 zq_33
  | 34 => exact zm_okd zd_34 zq_34
  | 35 => exact zm_okd zd_35 zq_35
  | 36 => exact zm_okd zd_36 zq_36
  | 37 => exact zm_okd zd_37 zq_37
  | 38 => exact zm_okd zd_38 zq_38
  | 39 => exact zm_okd zd_39 zq_39
  | 40 => exact zm_okd zd_40 zq_40
  | 41 => exact zm_okd zd_41 zq_41
  | 42 => exact zm_okd zd_42 zq_42
  | 43 => exact zm_okd zd_43 zq_43
  | 44 => exact zm_okd zd_44 zq_44
  | 45 => exact zm_okd zd_45 zq_45
  | 46 => exact zm_okd zd_46 zq_46
  | 47 => exact zm_okd zd_47 zq_47
  | 48 => exact zm_okd zd_48 zq_48
  | 49 => exact zm_okd zd_49 zq_49
  | 50 => exact zm_okd zd_50 zq_50
  | 51 => exact zm_okd zd_51 zq_51
  | 52 => exact zm_okd zd_52 zq_52
  | 53 => exact zm_okd zd_53 zq_53
  | 54 => exact zm_okd zd_54 zq_54
  | 55 => exact zm_okd zd_55 zq_55
  | 56 => exact zm_okd zd_56 zq_56
  | 57 => exact zm_okd zd_57 zq_57
  | 58 => exact zm_okd zd_58 zq_58
  | 59 => exact zm_okd zd_59 zq_59
  | 60 => exact zm_okd zd_60 zq_60
  | 61 => exact zm_okd zd_61 zq_61
  | 62 => exact zm_okd zd_62 zq_62
  | 63 => exact zm_okd zd_63 zq_63
  | 64 => exact zm_okd zd_64 zq_64
  | 65 => exact zm_okd zd_65 zq_65
  | 66 => exact zm_okd zd_66 zq_66
  | 67 => exact zm_okd zd_67 zq_67
  | 68 => exact zm_okd zd_68 zq_68
  | 69 => exact zm_okd zd_69 zq_69
  | 70 => exact zm_okd zd_70 zq_70
  | 71 => exact zm_okd zd_71 zq_71
  | 72 => exact zm_okd zd_72 zq_72
  | 73 => exact zm_okd zd_73 zq_73
  | 74 => exact zm_okd zd_74 zq_74
  | 75 => exact zm_okd zd_75 zq_75
  | 76 => exact zm_okd zd_76 zq_76
  | 77 => exact zm_okd zd_77 zq_77
  | 78 => exact zm_okd zd_78 zq_78
  | 79 => exact zm_okd zd_79 zq_79
  | 80 => exact zm_okd zd_80 zq_80
  | 81 => exact zm_okd zd_81 zq_81
  | 82 => exact zm_okd zd_82 zq_82
  | 83 => exact zm_okd zd_83 zq_83
  | 84 => exact zm_okd zd_84 zq_84
  | 85 => exact zm_okd zd_85 zq_85
  | 86 => exact zm_okd zd_86 zq_86
  | 87 => exact zm_okd zd_87 zq_87
  | 88 => exact zm_okd zd_88 zq_88
  | 89 => exact zm_okd zd_89 zq_89
  | 90 => exact zm_okd zd_90 zq_90
  | 91 => exact zm_okd zd_91 zq_91
  | 92 => exact zm_okd zd_92 zq_92
  | 93 => exact zm_okd zd_93 zq_93
  | 94 => exact zm_okd zd_94 zq_94
  | 95 => exact zm_okd zd_95 zq_95
  | 96 => exact zm_okd zd_96 zq_96
  | 97 => exact zm_okd zd_97 zq_97
  | 98 => exact zm_okd zd_98 zq_98
  | 99 => exact zm_okd zd_99 zq_99
  | 100 => exact zm_okd zd_100 zq_100
  | 101 => exact zm_okd zd_101 zq_101
  | 102 => exact zm_okd zd_102 zq_102
  | 103 => exact zm_okd zd_103 zq_103
  | 104 => exact zm_okd zd_104 zq_104
  | 105 => exact zm_okd zd_105 zq_105
  | 106 => exact zm_okd zd_106 zq_106
  | 107 => exact zm_okd zd_107 zq_107
  | k + 108 => intro e he; exact absurd he List.not_mem_nil
theorem zm_T : zm_okt := ⟨fun mi pc q h => zm_all mi (pc, q) (zm_lk_mem (l := zm_cs.getD mi []) h), by
  intro q hq C hC
  rw [List.mem_singleton.mp hq] at hC ⊢
  cases Option.some.inj (show some (FieldType.object "NeedMachine$Definition") = some (.object C) from hC)
  exact ⟨_, _, _, rfl, Or.inl rfl⟩⟩

theorem zk_1 : zm_okm 1 := ⟨by decide +kernel, Or.inl ⟨zw_31, rfl⟩⟩
theorem zk_3 : zm_okm 3 := ⟨by decide +kernel, Or.inl ⟨zw_39, rfl⟩⟩
theorem zk_4 : zm_okm 4 := ⟨by decide +kernel, Or.inl ⟨zw_73, rfl⟩⟩
theorem zk_5 : zm_okm 5 := ⟨by decide +kernel, Or.inl ⟨zw_79, rfl⟩⟩
theorem zk_6 : zm_okm 6 := ⟨by decide +kernel, Or.inl ⟨zw_106, rfl⟩⟩
theorem zk_7 : zm_okm 7 := ⟨by decide +kernel, Or.inl ⟨zw_109, rfl⟩⟩
theorem zk_8 : zm_okm 8 := ⟨by decide +kernel, Or.inl ⟨zw_112, rfl⟩⟩
theorem zk_9 : zm_okm 9 := ⟨by decide +kernel, Or.inl ⟨zw_184, rfl⟩⟩
theorem zk_10 : zm_okm 10 := ⟨by decide +kernel, Or.inl ⟨zw_188, rfl⟩⟩
theorem zk_11 : zm_okm 11 := ⟨by decide +kernel, Or.inr zw_191⟩
theorem zk_12 : zm_okm 12 := ⟨by decide +kernel, Or.inl ⟨zw_197, rfl⟩⟩
theorem zk_13 : zm_okm 13 := ⟨by decide +kernel, Or.inl ⟨zw_201, rfl⟩⟩
theorem zk_14 : zm_okm 14 := ⟨by decide +kernel, Or.inl ⟨zw_204, rfl⟩⟩
theorem zk_15 : zm_okm 15 := ⟨by decide +kernel, Or.inr zw_293⟩
theorem zk_16 : zm_okm 16 := ⟨by decide +kernel, Or.inl ⟨zw_297, rfl⟩⟩
theorem zk_17 : zm_okm 17 := ⟨by decide +kernel, Or.inl ⟨zw_301, rfl⟩⟩
theorem zk_18 : zm_okm 18 := ⟨by decide +kernel, Or.inl ⟨zw_305, rfl⟩⟩
theorem zk_19 : zm_okm 19 := ⟨by decide +kernel, Or.inl ⟨zw_308, rfl⟩⟩
theorem zk_20 : zm_okm 20 := ⟨by decide +kernel, Or.inl ⟨zw_312, rfl⟩⟩
theorem zk_21 : zm_okm 21 := ⟨by decide +kernel, Or.inl ⟨zw_317, rfl⟩⟩
theorem zk_22 : zm_okm 22 := ⟨by decide +kernel, Or.inl ⟨zw_321, rfl⟩⟩
theorem zk_23 : zm_okm 23 := ⟨by decide +kernel, Or.inl ⟨zw_325, rfl⟩⟩
theorem zk_24 : zm_okm 24 := ⟨by decide +kernel, Or.inl ⟨zw_331, rfl⟩⟩
theorem zk_25 : zm_okm 25 := ⟨by decide +kernel, Or.inl ⟨zw_335, rfl⟩⟩
theorem zk_26 : zm_okm 26 := ⟨by decide +kernel, Or.inl ⟨zw_339, rfl⟩⟩
theorem zk_27 : zm_okm 27 := ⟨by decide +kernel, Or.inl ⟨zw_342, rfl⟩⟩
theorem zk_28 : zm_okm 28 := ⟨by decide +kernel, Or.inl ⟨zw_346, rfl⟩⟩
theorem zk_29 : zm_okm 29 := ⟨by decide +kernel, Or.inl ⟨zw_349, rfl⟩⟩
theorem zk_30 : zm_okm 30 := ⟨by decide +kernel, Or.inl ⟨zw_353, rfl⟩⟩
theorem zk_31 : zm_okm 31 := ⟨by decide +kernel, Or.inl ⟨zw_358, rfl⟩⟩
theorem zk_32 : zm_okm 32 := ⟨by decide +kernel, Or.inl ⟨zw_383, rfl⟩⟩
theorem zk_33 : zm_okm 33 := ⟨by decide +kernel, Or.inr zw_400⟩
theorem zk_34 : zm_okm 34 := ⟨by decide +kernel, Or.inl ⟨zw_407, rfl⟩⟩
theorem zk_35 : zm_okm 35 := ⟨by decide +kernel, Or.inl ⟨zw_411, rfl⟩⟩
theorem zk_36 : zm_okm 36 := ⟨by decide +kernel, Or.inl ⟨zw_415, rfl⟩⟩
theorem zk_37 : zm_okm 37 := ⟨by decide +kernel, Or.inl ⟨zw_419, rfl⟩⟩
theorem zk_38 : zm_okm 38 := ⟨by decide +kernel, Or.inl ⟨zw_429, rfl⟩⟩
theorem zk_39 : zm_okm 39 := ⟨by decide +kernel, Or.inl ⟨zw_433, rfl⟩⟩
theorem zk_40 : zm_okm 40 := ⟨by decide +kernel, Or.inl ⟨zw_514, rfl⟩⟩
theorem zk_41 : zm_okm 41 := ⟨by decide +kernel, Or.inl ⟨zw_519, rfl⟩⟩
theorem zk_42 : zm_okm 42 := ⟨by decide +kernel, Or.inl ⟨zw_522, rfl⟩⟩
theorem zk_43 : zm_okm 43 := ⟨by decide +kernel, Or.inl ⟨zw_527, rfl⟩⟩
theorem zk_44 : zm_okm 44 := ⟨by decide +kernel, Or.inl ⟨zw_531, rfl⟩⟩
theorem zk_45 : zm_okm 45 := ⟨by decide +kernel, Or.inl ⟨zw_551, rfl⟩⟩
theorem zk_46 : zm_okm 46 := ⟨by decide +kernel, Or.inl ⟨zw_556, rfl⟩⟩
theorem zk_47 : zm_okm 47 := ⟨by decide +kernel, Or.inl ⟨zw_560, rfl⟩⟩
theorem zk_48 : zm_okm 48 := ⟨by decide +kernel, Or.inl ⟨zw_564, rfl⟩⟩
theorem zk_49 : zm_okm 49 := ⟨by decide +kernel, Or.inl ⟨zw_569, rfl⟩⟩
theorem zk_50 : zm_okm 50 := ⟨by decide +kernel, Or.inl ⟨zw_591, rfl⟩⟩
theorem zk_51 : zm_okm 51 := ⟨by decide +kernel, Or.inl ⟨zw_595, rfl⟩⟩
theorem zk_52 : zm_okm 52 := ⟨by decide +kernel, Or.inl ⟨zw_615, rfl⟩⟩
theorem zk_53 : zm_okm 53 := ⟨by decide +kernel, Or.inl ⟨zw_620, rfl⟩⟩
theorem zk_54 : zm_okm 54 := ⟨by decide +kernel, Or.inl ⟨zw_637, rfl⟩⟩
theorem zk_55 : zm_okm 55 := ⟨by decide +kernel, Or.inl ⟨zw_642, rfl⟩⟩
theorem zk_56 : zm_okm 56 := ⟨by decide +kernel, Or.inl ⟨zw_647, rfl⟩⟩
theorem zk_57 : zm_okm 57 := ⟨by decide +kernel, Or.inl ⟨zw_650, rfl⟩⟩
theorem zk_58 : zm_okm 58 := ⟨by decide +kernel, Or.inl ⟨zw_655, rfl⟩⟩
theorem zk_59 : zm_okm 59 := ⟨by decide +kernel, Or.inl ⟨zw_658, rfl⟩⟩
theorem zk_60 : zm_okm 60 := ⟨by decide +kernel, Or.inl ⟨zw_661, rfl⟩⟩
theorem zk_61 : zm_okm 61 := ⟨by decide +kernel, Or.inr zw_680⟩
theorem zk_62 : zm_okm 62 := ⟨by decide +kernel, Or.inl ⟨zw_684, rfl⟩⟩
theorem zk_63 : zm_okm 63 := ⟨by decide +kernel, Or.inr zw_688⟩
theorem zk_64 : zm_okm 64 := ⟨by decide +kernel, Or.inl ⟨zw_692, rfl⟩⟩
theorem zk_65 : zm_okm 65 := ⟨by decide +kernel, Or.inl ⟨zw_696, rfl⟩⟩
theorem zk_66 : zm_okm 66 := ⟨by decide +kernel, Or.inr zw_699⟩
theorem zk_67 : zm_okm 67 := ⟨by decide +kernel, Or.inl ⟨zw_703, rfl⟩⟩
theorem zk_68 : zm_okm 68 := ⟨by decide +kernel, Or.inr zw_706⟩
theorem zk_69 : zm_okm 69 := ⟨by decide +kernel, Or.inl ⟨zw_710, rfl⟩⟩
theorem zk_70 : zm_okm 70 := ⟨by decide +kernel, Or.inl ⟨zw_718, rfl⟩⟩
theorem zk_71 : zm_okm 71 := ⟨by decide +kernel, Or.inl ⟨zw_858, rfl⟩⟩
theorem zk_72 : zm_okm 72 := ⟨by decide +kernel, Or.inl ⟨zw_861, rfl⟩⟩
theorem zk_73 : zm_okm 73 := ⟨by decide +kernel, Or.inl ⟨zw_865, rfl⟩⟩
theorem zk_74 : zm_okm 74 := ⟨by decide +kernel, Or.inl ⟨zw_869, rfl⟩⟩
theorem zk_75 : zm_okm 75 := ⟨by decide +kernel, Or.inl ⟨zw_873, rfl⟩⟩
theorem zk_76 : zm_okm 76 := ⟨by decide +kernel, Or.inl ⟨zw_877, rfl⟩⟩
theorem zk_77 : zm_okm 77 := ⟨by decide +kernel, Or.inl ⟨zw_881, rfl⟩⟩
theorem zk_78 : zm_okm 78 := ⟨by decide +kernel, Or.inl ⟨zw_885, rfl⟩⟩
theorem zk_79 : zm_okm 79 := ⟨by decide +kernel, Or.inl ⟨zw_888, rfl⟩⟩
theorem zk_80 : zm_okm 80 := ⟨by decide +kernel, Or.inl ⟨zw_892, rfl⟩⟩
theorem zk_81 : zm_okm 81 := ⟨by decide +kernel, Or.inl ⟨zw_896, rfl⟩⟩
theorem zk_82 : zm_okm 82 := ⟨by decide +kernel, Or.inl ⟨zw_900, rfl⟩⟩
theorem zk_83 : zm_okm 83 := ⟨by decide +kernel, Or.inl ⟨zw_904, rfl⟩⟩
theorem zk_84 : zm_okm 84 := ⟨by decide +kernel, Or.inl ⟨zw_908, rfl⟩⟩
theorem zk_85 : zm_okm 85 := ⟨by decide +kernel, Or.inl ⟨zw_912, rfl⟩⟩
theorem zk_86 : zm_okm 86 := ⟨by decide +kernel, Or.inl ⟨zw_916, rfl⟩⟩
theorem zk_87 : zm_okm 87 := ⟨by decide +kernel, Or.inl ⟨zw_920, rfl⟩⟩
theorem zk_88 : zm_okm 88 := ⟨by decide +kernel, Or.inl ⟨zw_924, rfl⟩⟩
theorem zk_89 : zm_okm 89 := ⟨by decide +kernel, Or.inl ⟨zw_928, rfl⟩⟩
theorem zk_90 : zm_okm 90 := ⟨by decide +kernel, Or.inl ⟨zw_932, rfl⟩⟩
theorem zk_91 : zm_okm 91 := ⟨by decide +kernel, Or.inl ⟨zw_936, rfl⟩⟩
theorem zk_92 : zm_okm 92 := ⟨by decide +kernel, Or.inl ⟨zw_940, rfl⟩⟩
theorem zk_93 : zm_okm 93 := ⟨by decide +kernel, Or.inl ⟨zw_944, rfl⟩⟩
theorem zk_94 : zm_okm 94 := ⟨by decide +kernel, Or.inl ⟨zw_948, rfl⟩⟩
theorem zk_95 : zm_okm 95 := ⟨by decide +kernel, Or.inl ⟨zw_952, rfl⟩⟩
theorem zk_96 : zm_okm 96 := ⟨by decide +kernel, Or.inl ⟨zw_956, rfl⟩⟩
theorem zk_97 : zm_okm 97 := ⟨by decide +kernel, Or.inl ⟨zw_960, rfl⟩⟩
theorem zk_98 : zm_okm 98 := ⟨by decide +kernel, Or.inl ⟨zw_964, rfl⟩⟩
theorem zk_99 : zm_okm 99 := ⟨by decide +kernel, Or.inl ⟨zw_968, rfl⟩⟩
theorem zk_100 : zm_okm 100 := ⟨by decide +kernel, Or.inl ⟨zw_972, rfl⟩⟩
theorem zk_101 : zm_okm 101 := ⟨by decide +kernel, Or.inl ⟨zw_976, rfl⟩⟩
theorem zk_102 : zm_okm 102 := ⟨by decide +kernel, Or.inl ⟨zw_980, rfl⟩⟩
theorem zk_103 : zm_okm 103 := ⟨by decide +kernel, Or.inl ⟨zw_984, rfl⟩⟩
theorem zk_104 : zm_okm 104 := ⟨by decide +kernel, Or.inl ⟨zw_988, rfl⟩⟩
theorem zk_105 : zm_okm 105 := ⟨by decide +kernel, Or.inl ⟨zw_992, rfl⟩⟩
theorem zk_106 : zm_okm 106 := ⟨by decide +kernel, Or.inl ⟨zw_996, rfl⟩⟩
theorem zk_107 : zm_okm 107 := ⟨by decide +kernel, Or.inl ⟨zw_437, rfl⟩⟩
theorem zk_108 : zm_okm 108 := ⟨by decide +kernel, Or.inl ⟨zw_501, rfl⟩⟩
theorem zk_109 : zm_okm 109 := ⟨by decide +kernel, Or.inl ⟨zw_511, rfl⟩⟩
theorem zk_110 : zm_okm 110 := ⟨by decide +kernel, Or.inl ⟨zw_441, rfl⟩⟩
theorem zk_111 : zm_okm 111 := ⟨by decide +kernel, Or.inl ⟨zw_445, rfl⟩⟩
theorem zk_112 : zm_okm 112 := ⟨by decide +kernel, Or.inl ⟨zw_449, rfl⟩⟩
theorem zk_113 : zm_okm 113 := ⟨by decide +kernel, Or.inl ⟨zw_453, rfl⟩⟩
theorem zk_114 : zm_okm 114 := ⟨by decide +kernel, Or.inl ⟨zw_504, rfl⟩⟩
theorem zk_115 : zm_okm 115 := ⟨by decide +kernel, Or.inl ⟨zw_507, rfl⟩⟩
theorem zk_116 : zm_okm 116 := ⟨by decide +kernel, Or.inl ⟨zw_456, rfl⟩⟩
theorem zk_117 : zm_okm 117 := ⟨by decide +kernel, Or.inl ⟨zw_464, rfl⟩⟩
theorem zk_118 : zm_okm 118 := ⟨by decide +kernel, Or.inl ⟨zw_486, rfl⟩⟩
theorem zc_0_4 : zm_okI 0 43 1 0 := ⟨⟨zk_1, Or.inl zw_29, by decide +kernel, by decide +kernel⟩, zw_30, rfl, zw_31⟩
theorem zc_0_12 : zm_okI 0 46 70 0 := ⟨⟨zk_70, Or.inl zw_716, by decide +kernel, by decide +kernel⟩, zw_717, rfl, zw_718⟩
theorem zc_0_108 : zm_okS 0 49 11 3 := ⟨⟨zk_11, Or.inl zw_189, by decide +kernel, by decide +kernel⟩, zw_190, zw_0⟩
theorem zc_0_136 : zm_okV 0 54 71 1 5 := ⟨⟨zk_71, Or.inl zw_855, by decide +kernel, by decide +kernel⟩, zw_856, _, _, _, rfl, zw_857⟩
theorem zc_0_146 : zm_okS 0 55 15 2 := ⟨⟨zk_15, Or.inl zw_291, by decide +kernel, by decide +kernel⟩, zw_292, zw_0⟩
theorem zc_0_152 : zm_okV 0 58 75 0 5 := ⟨⟨zk_75, Or.inl zw_870, by decide +kernel, by decide +kernel⟩, zw_871, _, _, _, rfl, zw_872⟩
theorem zc_0_162 : zm_okS 0 59 33 2 := ⟨⟨zk_33, Or.inl zw_398, by decide +kernel, by decide +kernel⟩, zw_399, zw_0⟩
theorem zc_0_168 : zm_okV 0 61 81 0 5 := ⟨⟨zk_81, Or.inl zw_893, by decide +kernel, by decide +kernel⟩, zw_894, _, _, _, rfl, zw_895⟩
theorem zc_0_178 : zm_okS 0 62 61 2 := ⟨⟨zk_61, Or.inl zw_678, by decide +kernel, by decide +kernel⟩, zw_679, zw_0⟩
theorem zc_0_184 : zm_okV 0 64 101 0 5 := ⟨⟨zk_101, Or.inl zw_973, by decide +kernel, by decide +kernel⟩, zw_974, _, _, _, rfl, zw_975⟩
theorem zc_0_194 : zm_okS 0 65 63 2 := ⟨⟨zk_63, Or.inl zw_686, by decide +kernel, by decide +kernel⟩, zw_687, zw_0⟩
theorem zc_0_200 : zm_okV 0 67 102 0 5 := ⟨⟨zk_102, Or.inl zw_977, by decide +kernel, by decide +kernel⟩, zw_978, _, _, _, rfl, zw_979⟩
theorem zc_0_210 : zm_okS 0 68 66 2 := ⟨⟨zk_66, Or.inl zw_697, by decide +kernel, by decide +kernel⟩, zw_698, zw_0⟩
theorem zc_0_216 : zm_okV 0 70 104 0 5 := ⟨⟨zk_104, Or.inl zw_985, by decide +kernel, by decide +kernel⟩, zw_986, _, _, _, rfl, zw_987⟩
theorem zc_0_231 : zm_okS 0 71 68 2 := ⟨⟨zk_68, Or.inl zw_704, by decide +kernel, by decide +kernel⟩, zw_705, zw_0⟩
theorem zc_0_243 : zm_okV 0 74 105 1 5 := ⟨⟨zk_105, Or.inl zw_989, by decide +kernel, by decide +kernel⟩, zw_990, _, _, _, rfl, zw_991⟩
theorem zc_0_256 : zm_okV 0 75 9 1 0 := ⟨⟨zk_9, Or.inl zw_181, by decide +kernel, by decide +kernel⟩, zw_182, _, _, _, rfl, zw_183⟩
theorem zc_0_266 : zm_okV 0 79 106 1 5 := ⟨⟨zk_106, Or.inl zw_993, by decide +kernel, by decide +kernel⟩, zw_994, _, _, _, rfl, zw_995⟩
theorem zc_1_1 : zm_okO 1 1 := ⟨zw_32, zw_33, zw_34⟩
theorem zc_1_9 : zm_okI 1 9 3 0 := ⟨⟨zk_3, Or.inl zw_37, by decide +kernel, by decide +kernel⟩, zw_38, rfl, zw_39⟩
theorem zc_1_20 : zm_okI 1 18 4 0 := ⟨⟨zk_4, Or.inl zw_71, by decide +kernel, by decide +kernel⟩, zw_72, rfl, zw_73⟩
theorem zc_3_1 : zm_okO 3 3 := ⟨zw_40, zw_33, zw_34⟩
theorem zc_4_1 : zm_okO 4 3 := ⟨zw_74, zw_33, zw_34⟩
theorem zc_4_9 : zm_okI 4 11 5 0 := ⟨⟨zk_5, Or.inr ⟨_, zw_77⟩, by decide +kernel, by decide +kernel⟩, zw_78, rfl, zw_79⟩
theorem zc_4_28 : zm_okI 4 24 6 0 := ⟨⟨zk_6, Or.inl zw_104, by decide +kernel, by decide +kernel⟩, zw_105, rfl, zw_106⟩
theorem zc_4_39 : zm_okI 4 24 6 0 := ⟨⟨zk_6, Or.inl zw_104, by decide +kernel, by decide +kernel⟩, zw_105, rfl, zw_106⟩
theorem zc_4_50 : zm_okI 4 24 6 0 := ⟨⟨zk_6, Or.inl zw_104, by decide +kernel, by decide +kernel⟩, zw_105, rfl, zw_106⟩
theorem zc_5_1 : zm_okO 5 1 := ⟨zw_80, zw_33, zw_34⟩
theorem zc_6_1 : zm_okI 6 1 7 0 := ⟨⟨zk_7, Or.inl zw_107, by decide +kernel, by decide +kernel⟩, zw_108, rfl, zw_109⟩
theorem zc_7_1 : zm_okI 7 1 8 0 := ⟨⟨zk_8, Or.inl zw_110, by decide +kernel, by decide +kernel⟩, zw_111, rfl, zw_112⟩
theorem zc_8_1 : zm_okO 8 1 := ⟨zw_113, zw_33, zw_34⟩
theorem zc_9_65 : zm_okV 9 111 10 0 0 := ⟨⟨zk_10, Or.inl zw_185, by decide +kernel, by decide +kernel⟩, zw_187, _, _, _, rfl, zm_memS 0 rfl⟩
theorem zc_11_4 : zm_okV 11 7 12 1 0 := ⟨⟨zk_12, Or.inl zw_194, by decide +kernel, by decide +kernel⟩, zw_195, _, _, _, rfl, zw_196⟩
theorem zc_12_5 : zm_okV 12 29 13 1 1 := ⟨⟨zk_13, Or.inl zw_198, by decide +kernel, by decide +kernel⟩, zw_199, _, _, _, rfl, zw_200⟩
theorem zc_13_14 : zm_okS 13 22 14 2 := ⟨⟨zk_14, Or.inl zw_202, by decide +kernel, by decide +kernel⟩, zw_203, zw_2⟩
theorem zc_13_100 : zm_okS 13 22 14 2 := ⟨⟨zk_14, Or.inl zw_202, by decide +kernel, by decide +kernel⟩, zw_203, zw_2⟩
theorem zc_15_3 : zm_okV 15 17 16 0 0 := ⟨⟨zk_16, Or.inl zw_294, by decide +kernel, by decide +kernel⟩, zw_295, _, _, _, rfl, zw_296⟩
theorem zc_16_4 : zm_okV 16 33 17 0 1 := ⟨⟨zk_17, Or.inl zw_298, by decide +kernel, by decide +kernel⟩, zw_299, _, _, _, rfl, zw_300⟩
theorem zc_17_1 : zm_okV 17 41 18 0 1 := ⟨⟨zk_18, Or.inl zw_302, by decide +kernel, by decide +kernel⟩, zw_304, _, _, _, rfl, zm_memS 2 rfl⟩
theorem zc_17_25 : zm_okS 17 50 19 1 := ⟨⟨zk_19, Or.inl zw_306, by decide +kernel, by decide +kernel⟩, zw_307, zw_2⟩
theorem zc_17_36 : zm_okV 17 54 20 1 1 := ⟨⟨zk_20, Or.inl zw_309, by decide +kernel, by decide +kernel⟩, zw_311, _, _, _, rfl, zm_memS 3 rfl⟩
theorem zc_17_63 : zm_okV 17 58 21 0 1 := ⟨⟨zk_21, Or.inl zw_314, by decide +kernel, by decide +kernel⟩, zw_316, _, _, _, rfl, zm_memS 4 rfl⟩
theorem zc_17_97 : zm_okV 17 54 20 1 1 := ⟨⟨zk_20, Or.inl zw_309, by decide +kernel, by decide +kernel⟩, zw_311, _, _, _, rfl, zm_memS 3 rfl⟩
theorem zc_17_120 : zm_okV 17 66 24 0 1 := ⟨⟨zk_24, Or.inl zw_328, by decide +kernel, by decide +kernel⟩, zw_330, _, _, _, rfl, zm_memS 7 rfl⟩
theorem zc_17_123 : zm_okI 17 70 32 3 := ⟨⟨zk_32, Or.inl zw_381, by decide +kernel, by decide +kernel⟩, zw_382, rfl, zw_383⟩
theorem zc_21_29 : zm_okV 21 73 22 1 1 := ⟨⟨zk_22, Or.inl zw_318, by decide +kernel, by decide +kernel⟩, zw_320, _, _, _, rfl, zm_memS 5 rfl⟩
theorem zc_22_14 : zm_okV 22 103 23 1 1 := ⟨⟨zk_23, Or.inl zw_322, by decide +kernel, by decide +kernel⟩, zw_324, _, _, _, rfl, zm_memS 6 rfl⟩
theorem zc_24_7 : zm_okV 24 79 25 1 1 := ⟨⟨zk_25, Or.inl zw_332, by decide +kernel, by decide +kernel⟩, zw_334, _, _, _, rfl, zm_memS 8 rfl⟩
theorem zc_24_28 : zm_okV 24 54 20 1 1 := ⟨⟨zk_20, Or.inl zw_309, by decide +kernel, by decide +kernel⟩, zw_311, _, _, _, rfl, zm_memS 3 rfl⟩
theorem zc_25_23 : zm_okV 25 83 26 2 1 := ⟨⟨zk_26, Or.inl zw_336, by decide +kernel, by decide +kernel⟩, zw_338, _, _, _, rfl, zm_memS 9 rfl⟩
theorem zc_25_34 : zm_okV 25 54 20 1 1 := ⟨⟨zk_20, Or.inl zw_309, by decide +kernel, by decide +kernel⟩, zw_311, _, _, _, rfl, zm_memS 3 rfl⟩
theorem zc_25_48 : zm_okS 25 87 27 1 := ⟨⟨zk_27, Or.inl zw_340, by decide +kernel, by decide +kernel⟩, zw_341, zw_2⟩
theorem zc_25_80 : zm_okV 25 91 30 1 1 := ⟨⟨zk_30, Or.inl zw_350, by decide +kernel, by decide +kernel⟩, zw_352, _, _, _, rfl, zm_memS 11 rfl⟩
theorem zc_25_88 : zm_okV 25 79 25 1 1 := ⟨⟨zk_25, Or.inl zw_332, by decide +kernel, by decide +kernel⟩, zw_334, _, _, _, rfl, zm_memS 8 rfl⟩
theorem zc_25_102 : zm_okV 25 79 25 1 1 := ⟨⟨zk_25, Or.inl zw_332, by decide +kernel, by decide +kernel⟩, zw_334, _, _, _, rfl, zm_memS 8 rfl⟩
theorem zc_25_120 : zm_okV 25 79 25 1 1 := ⟨⟨zk_25, Or.inl zw_332, by decide +kernel, by decide +kernel⟩, zw_334, _, _, _, rfl, zm_memS 8 rfl⟩
theorem zc_25_141 : zm_okI 25 97 31 5 := ⟨⟨zk_31, Or.inl zw_356, by decide +kernel, by decide +kernel⟩, zw_357, rfl, zw_358⟩
theorem zc_26_1 : zm_okS 26 87 27 1 := ⟨⟨zk_27, Or.inl zw_340, by decide +kernel, by decide +kernel⟩, zw_341, zw_2⟩
theorem zc_26_11 : zm_okV 26 106 28 1 1 := ⟨⟨zk_28, Or.inl zw_343, by decide +kernel, by decide +kernel⟩, zw_345, _, _, _, rfl, zm_memS 10 rfl⟩
theorem zc_28_1 : zm_okS 28 100 29 1 := ⟨⟨zk_29, Or.inl zw_347, by decide +kernel, by decide +kernel⟩, zw_348, zw_2⟩
theorem zc_28_8 : zm_okS 28 50 19 1 := ⟨⟨zk_19, Or.inl zw_306, by decide +kernel, by decide +kernel⟩, zw_307, zw_2⟩
theorem zc_28_22 : zm_okV 28 103 23 1 1 := ⟨⟨zk_23, Or.inl zw_322, by decide +kernel, by decide +kernel⟩, zw_324, _, _, _, rfl, zm_memS 6 rfl⟩
theorem zc_30_1 : zm_okS 30 100 29 1 := ⟨⟨zk_29, Or.inl zw_347, by decide +kernel, by decide +kernel⟩, zw_348, zw_2⟩
theorem zc_30_20 : zm_okI 30 97 31 5 := ⟨⟨zk_31, Or.inl zw_356, by decide +kernel, by decide +kernel⟩, zw_357, rfl, zw_358⟩
theorem zc_30_25 : zm_okS 30 50 19 1 := ⟨⟨zk_19, Or.inl zw_306, by decide +kernel, by decide +kernel⟩, zw_307, zw_2⟩
theorem zc_30_44 : zm_okI 30 97 31 5 := ⟨⟨zk_31, Or.inl zw_356, by decide +kernel, by decide +kernel⟩, zw_357, rfl, zw_358⟩
theorem zc_30_50 : zm_okV 30 103 23 1 1 := ⟨⟨zk_23, Or.inl zw_322, by decide +kernel, by decide +kernel⟩, zw_324, _, _, _, rfl, zm_memS 6 rfl⟩
theorem zc_30_68 : zm_okI 30 97 31 5 := ⟨⟨zk_31, Or.inl zw_356, by decide +kernel, by decide +kernel⟩, zw_357, rfl, zw_358⟩
theorem zc_30_82 : zm_okI 30 97 31 5 := ⟨⟨zk_31, Or.inl zw_356, by decide +kernel, by decide +kernel⟩, zw_357, rfl, zw_358⟩
theorem zc_31_1 : zm_okO 31 1 := ⟨zw_359, zw_33, zw_34⟩
theorem zc_32_1 : zm_okO 32 1 := ⟨zw_384, zw_33, zw_34⟩
theorem zc_33_3 : zm_okV 33 21 34 0 0 := ⟨⟨zk_34, Or.inl zw_404, by decide +kernel, by decide +kernel⟩, zw_405, _, _, _, rfl, zw_406⟩
theorem zc_34_4 : zm_okV 34 44 35 0 1 := ⟨⟨zk_35, Or.inl zw_408, by decide +kernel, by decide +kernel⟩, zw_409, _, _, _, rfl, zw_410⟩
theorem zc_34_17 : zm_okV 34 52 36 0 2 := ⟨⟨zk_36, Or.inl zw_412, by decide +kernel, by decide +kernel⟩, zw_413, _, _, _, rfl, zw_414⟩
theorem zc_34_35 : zm_okV 34 61 37 3 0 := ⟨⟨zk_37, Or.inl zw_416, by decide +kernel, by decide +kernel⟩, zw_418, _, _, _, rfl, zm_memS 12 rfl⟩
theorem zc_35_1 : zm_okV 35 41 18 0 1 := ⟨⟨zk_18, Or.inl zw_302, by decide +kernel, by decide +kernel⟩, zw_304, _, _, _, rfl, zm_memS 2 rfl⟩
theorem zc_35_5 : zm_okV 35 66 24 0 1 := ⟨⟨zk_24, Or.inl zw_328, by decide +kernel, by decide +kernel⟩, zw_330, _, _, _, rfl, zm_memS 7 rfl⟩
theorem zc_37_132 : zm_okV 37 148 38 1 2 := ⟨⟨zk_38, Or.inl zw_426, by decide +kernel, by decide +kernel⟩, zw_427, _, _, _, rfl, zw_428⟩
theorem zc_37_150 : zm_okS 37 155 40 2 := ⟨⟨zk_40, Or.inl zw_512, by decide +kernel, by decide +kernel⟩, zw_513, zw_1⟩
theorem zc_37_154 : zm_okV 37 89 41 2 0 := ⟨⟨zk_41, Or.inl zw_516, by decide +kernel, by decide +kernel⟩, zw_518, _, _, _, rfl, zm_memS 17 rfl⟩
theorem zc_37_164 : zm_okV 37 159 43 2 0 := ⟨⟨zk_43, Or.inl zw_524, by decide +kernel, by decide +kernel⟩, zw_526, _, _, _, rfl, zm_memS 18 rfl⟩
theorem zc_37_178 : zm_okV 37 167 47 2 0 := ⟨⟨zk_47, Or.inl zw_557, by decide +kernel, by decide +kernel⟩, zw_559, _, _, _, rfl, zm_memS 21 rfl⟩
theorem zc_37_187 : zm_okV 37 167 47 2 0 := ⟨⟨zk_47, Or.inl zw_557, by decide +kernel, by decide +kernel⟩, zw_559, _, _, _, rfl, zm_memS 21 rfl⟩
theorem zc_37_190 : zm_okV 37 174 50 2 2 := ⟨⟨zk_50, Or.inl zw_588, by decide +kernel, by decide +kernel⟩, zw_589, _, _, _, rfl, zw_590⟩
theorem zc_37_198 : zm_okV 37 178 51 3 0 := ⟨⟨zk_51, Or.inl zw_592, by decide +kernel, by decide +kernel⟩, zw_594, _, _, _, rfl, zm_memS 22 rfl⟩
theorem zc_37_212 : zm_okV 37 61 37 3 0 := ⟨⟨zk_37, Or.inl zw_416, by decide +kernel, by decide +kernel⟩, zw_418, _, _, _, rfl, zm_memS 12 rfl⟩
theorem zc_37_215 : zm_okS 37 124 54 1 := ⟨⟨zk_54, Or.inl zw_635, by decide +kernel, by decide +kernel⟩, zw_636, zw_1⟩
theorem zc_37_222 : zm_okV 37 89 41 2 0 := ⟨⟨zk_41, Or.inl zw_516, by decide +kernel, by decide +kernel⟩, zw_518, _, _, _, rfl, zm_memS 17 rfl⟩
theorem zc_37_236 : zm_okV 37 61 37 3 0 := ⟨⟨zk_37, Or.inl zw_416, by decide +kernel, by decide +kernel⟩, zw_418, _, _, _, rfl, zm_memS 12 rfl⟩
theorem zc_37_239 : zm_okS 37 124 54 1 := ⟨⟨zk_54, Or.inl zw_635, by decide +kernel, by decide +kernel⟩, zw_636, zw_1⟩
theorem zc_37_246 : zm_okV 37 89 41 2 0 := ⟨⟨zk_41, Or.inl zw_516, by decide +kernel, by decide +kernel⟩, zw_518, _, _, _, rfl, zm_memS 17 rfl⟩
theorem zc_37_263 : zm_okV 37 61 37 3 0 := ⟨⟨zk_37, Or.inl zw_416, by decide +kernel, by decide +kernel⟩, zw_418, _, _, _, rfl, zm_memS 12 rfl⟩
theorem zc_37_266 : zm_okS 37 181 55 1 := ⟨⟨zk_55, Or.inl zw_640, by decide +kernel, by decide +kernel⟩, zw_641, zw_1⟩
theorem zc_37_269 : zm_okV 37 148 38 1 2 := ⟨⟨zk_38, Or.inl zw_426, by decide +kernel, by decide +kernel⟩, zw_427, _, _, _, rfl, zw_428⟩
theorem zc_37_277 : zm_okV 37 184 56 3 0 := ⟨⟨zk_56, Or.inl zw_644, by decide +kernel, by decide +kernel⟩, zw_646, _, _, _, rfl, zm_memS 23 rfl⟩
theorem zc_37_285 : zm_okV 37 187 58 3 0 := ⟨⟨zk_58, Or.inl zw_652, by decide +kernel, by decide +kernel⟩, zw_654, _, _, _, rfl, zm_memS 24 rfl⟩
theorem zc_38_2 : zm_okV 38 44 39 1 2 := ⟨⟨zk_39, Or.inl zw_430, by decide +kernel, by decide +kernel⟩, zw_432, _, _, _, rfl, zm_memS 13 rfl⟩
theorem zc_39_8 : zm_okV 39 62 107 0 4 := ⟨⟨zk_107, Or.inl zw_434, by decide +kernel, by decide +kernel⟩, zw_435, _, _, _, rfl, zw_436⟩
theorem zc_39_22 : zm_okI 39 11 5 0 := ⟨⟨zk_5, Or.inr ⟨_, zw_77⟩, by decide +kernel, by decide +kernel⟩, zw_78, rfl, zw_79⟩
theorem zc_39_25 : zm_okV 39 69 110 1 4 := ⟨⟨zk_110, Or.inl zw_438, by decide +kernel, by decide +kernel⟩, zw_439, _, _, _, rfl, zw_440⟩
theorem zc_39_37 : zm_okV 39 73 108 1 4 := ⟨⟨zk_108, Or.inl zw_498, by decide +kernel, by decide +kernel⟩, zw_499, _, _, _, rfl, zw_500⟩
theorem zc_41_18 : zm_okS 41 241 42 1 := ⟨⟨zk_42, Or.inl zw_520, by decide +kernel, by decide +kernel⟩, zw_521, zw_1⟩
theorem zc_41_49 : zm_okV 41 61 37 3 0 := ⟨⟨zk_37, Or.inl zw_416, by decide +kernel, by decide +kernel⟩, zw_418, _, _, _, rfl, zm_memS 12 rfl⟩
theorem zc_43_2 : zm_okV 43 101 44 1 0 := ⟨⟨zk_44, Or.inl zw_528, by decide +kernel, by decide +kernel⟩, zw_530, _, _, _, rfl, zm_memS 19 rfl⟩
theorem zc_43_17 : zm_okV 43 190 45 3 0 := ⟨⟨zk_45, Or.inl zw_548, by decide +kernel, by decide +kernel⟩, zw_550, _, _, _, rfl, zm_memS 20 rfl⟩
theorem zc_43_27 : zm_okV 43 194 46 2 2 := ⟨⟨zk_46, Or.inl zw_553, by decide +kernel, by decide +kernel⟩, zw_554, _, _, _, rfl, zw_555⟩
theorem zc_45_49 : zm_okV 45 61 37 3 0 := ⟨⟨zk_37, Or.inl zw_416, by decide +kernel, by decide +kernel⟩, zw_418, _, _, _, rfl, zm_memS 12 rfl⟩
theorem zc_46_2 : zm_okV 46 44 39 1 2 := ⟨⟨zk_39, Or.inl zw_430, by decide +kernel, by decide +kernel⟩, zw_432, _, _, _, rfl, zm_memS 13 rfl⟩
theorem zc_47_14 : zm_okS 47 155 40 2 := ⟨⟨zk_40, Or.inl zw_512, by decide +kernel, by decide +kernel⟩, zw_513, zw_1⟩
theorem zc_47_24 : zm_okV 47 254 48 2 2 := ⟨⟨zk_48, Or.inl zw_561, by decide +kernel, by decide +kernel⟩, zw_562, _, _, _, rfl, zw_563⟩
theorem zc_48_8 : zm_okV 48 62 107 0 4 := ⟨⟨zk_107, Or.inl zw_434, by decide +kernel, by decide +kernel⟩, zw_435, _, _, _, rfl, zw_436⟩
theorem zc_48_22 : zm_okI 48 68 49 0 := ⟨⟨zk_49, Or.inr ⟨_, zw_567⟩, by decide +kernel, by decide +kernel⟩, zw_568, rfl, zw_569⟩
theorem zc_48_25 : zm_okV 48 69 110 1 4 := ⟨⟨zk_110, Or.inl zw_438, by decide +kernel, by decide +kernel⟩, zw_439, _, _, _, rfl, zw_440⟩
theorem zc_48_37 : zm_okV 48 73 108 1 4 := ⟨⟨zk_108, Or.inl zw_498, by decide +kernel, by decide +kernel⟩, zw_499, _, _, _, rfl, zw_500⟩
theorem zc_49_1 : zm_okO 49 1 := ⟨zw_570, zw_33, zw_34⟩
theorem zc_50_2 : zm_okV 50 44 39 1 2 := ⟨⟨zk_39, Or.inl zw_430, by decide +kernel, by decide +kernel⟩, zw_432, _, _, _, rfl, zm_memS 13 rfl⟩
theorem zc_51_9 : zm_okV 51 61 37 3 0 := ⟨⟨zk_37, Or.inl zw_416, by decide +kernel, by decide +kernel⟩, zw_418, _, _, _, rfl, zm_memS 12 rfl⟩
theorem zc_51_39 : zm_okV 51 101 44 1 0 := ⟨⟨zk_44, Or.inl zw_528, by decide +kernel, by decide +kernel⟩, zw_530, _, _, _, rfl, zm_memS 19 rfl⟩
theorem zc_51_59 : zm_okV 51 167 47 2 0 := ⟨⟨zk_47, Or.inl zw_557, by decide +kernel, by decide +kernel⟩, zw_559, _, _, _, rfl, zm_memS 21 rfl⟩
theorem zc_51_62 : zm_okV 51 210 52 2 2 := ⟨⟨zk_52, Or.inl zw_612, by decide +kernel, by decide +kernel⟩, zw_613, _, _, _, rfl, zw_614⟩
theorem zc_51_91 : zm_okV 51 194 46 2 2 := ⟨⟨zk_46, Or.inl zw_553, by decide +kernel, by decide +kernel⟩, zw_554, _, _, _, rfl, zw_555⟩
theorem zc_51_101 : zm_okV 51 190 45 3 0 := ⟨⟨zk_45, Or.inl zw_548, by decide +kernel, by decide +kernel⟩, zw_550, _, _, _, rfl, zm_memS 20 rfl⟩
theorem zc_52_8 : zm_okV 52 62 107 0 4 := ⟨⟨zk_107, Or.inl zw_434, by decide +kernel, by decide +kernel⟩, zw_435, _, _, _, rfl, zw_436⟩
theorem zc_52_22 : zm_okI 52 93 53 0 := ⟨⟨zk_53, Or.inr ⟨_, zw_618⟩, by decide +kernel, by decide +kernel⟩, zw_619, rfl, zw_620⟩
theorem zc_52_25 : zm_okV 52 69 110 1 4 := ⟨⟨zk_110, Or.inl zw_438, by decide +kernel, by decide +kernel⟩, zw_439, _, _, _, rfl, zw_440⟩
theorem zc_52_37 : zm_okV 52 73 108 1 4 := ⟨⟨zk_108, Or.inl zw_498, by decide +kernel, by decide +kernel⟩, zw_499, _, _, _, rfl, zw_500⟩
theorem zc_53_1 : zm_okO 53 1 := ⟨zw_621, zw_33, zw_34⟩
theorem zc_56_9 : zm_okV 56 61 37 3 0 := ⟨⟨zk_37, Or.inl zw_416, by decide +kernel, by decide +kernel⟩, zw_418, _, _, _, rfl, zm_memS 12 rfl⟩
theorem zc_56_12 : zm_okS 56 77 57 1 := ⟨⟨zk_57, Or.inl zw_648, by decide +kernel, by decide +kernel⟩, zw_649, zw_1⟩
theorem zc_56_38 : zm_okV 56 61 37 3 0 := ⟨⟨zk_37, Or.inl zw_416, by decide +kernel, by decide +kernel⟩, zw_418, _, _, _, rfl, zm_memS 12 rfl⟩
theorem zc_58_9 : zm_okV 58 61 37 3 0 := ⟨⟨zk_37, Or.inl zw_416, by decide +kernel, by decide +kernel⟩, zw_418, _, _, _, rfl, zm_memS 12 rfl⟩
theorem zc_58_12 : zm_okS 58 77 57 1 := ⟨⟨zk_57, Or.inl zw_648, by decide +kernel, by decide +kernel⟩, zw_649, zw_1⟩
theorem zc_58_26 : zm_okV 58 61 37 3 0 := ⟨⟨zk_37, Or.inl zw_416, by decide +kernel, by decide +kernel⟩, zw_418, _, _, _, rfl, zm_memS 12 rfl⟩
theorem zc_58_29 : zm_okS 58 77 57 1 := ⟨⟨zk_57, Or.inl zw_648, by decide +kernel, by decide +kernel⟩, zw_649, zw_1⟩
theorem zc_58_46 : zm_okS 58 227 59 3 := ⟨⟨zk_59, Or.inl zw_656, by decide +kernel, by decide +kernel⟩, zw_657, zw_1⟩
theorem zc_58_49 : zm_okV 58 148 38 1 2 := ⟨⟨zk_38, Or.inl zw_426, by decide +kernel, by decide +kernel⟩, zw_427, _, _, _, rfl, zw_428⟩
theorem zc_59_74 : zm_okS 59 231 60 1 := ⟨⟨zk_60, Or.inl zw_659, by decide +kernel, by decide +kernel⟩, zw_660, zw_1⟩
theorem zc_59_81 : zm_okS 59 231 60 1 := ⟨⟨zk_60, Or.inl zw_659, by decide +kernel, by decide +kernel⟩, zw_660, zw_1⟩
theorem zc_61_3 : zm_okV 61 30 62 0 0 := ⟨⟨zk_62, Or.inl zw_681, by decide +kernel, by decide +kernel⟩, zw_682, _, _, _, rfl, zw_683⟩
theorem zc_62_21 : zm_okS 62 77 57 1 := ⟨⟨zk_57, Or.inl zw_648, by decide +kernel, by decide +kernel⟩, zw_649, zw_1⟩
theorem zc_63_3 : zm_okV 63 33 64 0 0 := ⟨⟨zk_64, Or.inl zw_689, by decide +kernel, by decide +kernel⟩, zw_690, _, _, _, rfl, zw_691⟩
theorem zc_64_1 : zm_okV 64 81 65 0 0 := ⟨⟨zk_65, Or.inl zw_693, by decide +kernel, by decide +kernel⟩, zw_695, _, _, _, rfl, zm_memS 25 rfl⟩
theorem zc_64_11 : zm_okV 64 89 41 2 0 := ⟨⟨zk_41, Or.inl zw_516, by decide +kernel, by decide +kernel⟩, zw_518, _, _, _, rfl, zm_memS 17 rfl⟩
theorem zc_64_14 : zm_okS 64 77 57 1 := ⟨⟨zk_57, Or.inl zw_648, by decide +kernel, by decide +kernel⟩, zw_649, zw_1⟩
theorem zc_65_25 : zm_okS 65 124 54 1 := ⟨⟨zk_54, Or.inl zw_635, by decide +kernel, by decide +kernel⟩, zw_636, zw_1⟩
theorem zc_66_3 : zm_okV 66 36 67 0 0 := ⟨⟨zk_67, Or.inl zw_700, by decide +kernel, by decide +kernel⟩, zw_701, _, _, _, rfl, zw_702⟩
theorem zc_67_1 : zm_okV 67 81 65 0 0 := ⟨⟨zk_65, Or.inl zw_693, by decide +kernel, by decide +kernel⟩, zw_695, _, _, _, rfl, zm_memS 25 rfl⟩
theorem zc_67_12 : zm_okV 67 89 41 2 0 := ⟨⟨zk_41, Or.inl zw_516, by decide +kernel, by decide +kernel⟩, zw_518, _, _, _, rfl, zm_memS 17 rfl⟩
theorem zc_68_2 : zm_okV 68 39 69 1 0 := ⟨⟨zk_69, Or.inl zw_707, by decide +kernel, by decide +kernel⟩, zw_708, _, _, _, rfl, zw_709⟩
theorem zc_69_22 : zm_okV 69 101 44 1 0 := ⟨⟨zk_44, Or.inl zw_528, by decide +kernel, by decide +kernel⟩, zw_530, _, _, _, rfl, zm_memS 19 rfl⟩
theorem zc_70_1 : zm_okO 70 1 := ⟨zw_719, zw_33, zw_34⟩
theorem zc_71_44 : zm_okS 71 87 72 3 := ⟨⟨zk_72, Or.inl zw_859, by decide +kernel, by decide +kernel⟩, zw_860, zw_8⟩
theorem zc_71_62 : zm_okV 71 91 73 1 5 := ⟨⟨zk_73, Or.inl zw_862, by decide +kernel, by decide +kernel⟩, zw_864, _, _, _, rfl, zm_memS 26 rfl⟩
theorem zc_71_83 : zm_okV 71 98 74 1 5 := ⟨⟨zk_74, Or.inl zw_866, by decide +kernel, by decide +kernel⟩, zw_868, _, _, _, rfl, zm_memS 27 rfl⟩
theorem zc_75_27 : zm_okV 75 115 76 1 5 := ⟨⟨zk_76, Or.inl zw_874, by decide +kernel, by decide +kernel⟩, zw_876, _, _, _, rfl, zm_memS 28 rfl⟩
theorem zc_75_42 : zm_okV 75 119 78 1 5 := ⟨⟨zk_78, Or.inl zw_882, by decide +kernel, by decide +kernel⟩, zw_884, _, _, _, rfl, zm_memS 30 rfl⟩
theorem zc_75_98 : zm_okV 75 123 80 1 5 := ⟨⟨zk_80, Or.inl zw_889, by decide +kernel, by decide +kernel⟩, zw_891, _, _, _, rfl, zm_memS 31 rfl⟩
theorem zc_75_159 : zm_okV 75 91 73 1 5 := ⟨⟨zk_73, Or.inl zw_862, by decide +kernel, by decide +kernel⟩, zw_864, _, _, _, rfl, zm_memS 26 rfl⟩
theorem zc_76_5 : zm_okV 76 105 77 0 5 := ⟨⟨zk_77, Or.inl zw_878, by decide +kernel, by decide +kernel⟩, zw_880, _, _, _, rfl, zm_memS 29 rfl⟩
theorem zc_76_12 : zm_okS 76 87 72 3 := ⟨⟨zk_72, Or.inl zw_859, by decide +kernel, by decide +kernel⟩, zw_860, zw_8⟩
theorem zc_76_36 : zm_okV 76 105 77 0 5 := ⟨⟨zk_77, Or.inl zw_878, by decide +kernel, by decide +kernel⟩, zw_880, _, _, _, rfl, zm_memS 29 rfl⟩
theorem zc_76_43 : zm_okS 76 87 72 3 := ⟨⟨zk_72, Or.inl zw_859, by decide +kernel, by decide +kernel⟩, zw_860, zw_8⟩
theorem zc_76_51 : zm_okV 76 105 77 0 5 := ⟨⟨zk_77, Or.inl zw_878, by decide +kernel, by decide +kernel⟩, zw_880, _, _, _, rfl, zm_memS 29 rfl⟩
theorem zc_76_66 : zm_okV 76 105 77 0 5 := ⟨⟨zk_77, Or.inl zw_878, by decide +kernel, by decide +kernel⟩, zw_880, _, _, _, rfl, zm_memS 29 rfl⟩
theorem zc_76_78 : zm_okV 76 105 77 0 5 := ⟨⟨zk_77, Or.inl zw_878, by decide +kernel, by decide +kernel⟩, zw_880, _, _, _, rfl, zm_memS 29 rfl⟩
theorem zc_76_99 : zm_okV 76 105 77 0 5 := ⟨⟨zk_77, Or.inl zw_878, by decide +kernel, by decide +kernel⟩, zw_880, _, _, _, rfl, zm_memS 29 rfl⟩
theorem zc_78_14 : zm_okV 78 105 77 0 5 := ⟨⟨zk_77, Or.inl zw_878, by decide +kernel, by decide +kernel⟩, zw_880, _, _, _, rfl, zm_memS 29 rfl⟩
theorem zc_78_19 : zm_okS 78 109 79 1 := ⟨⟨zk_79, Or.inl zw_886, by decide +kernel, by decide +kernel⟩, zw_887, zw_8⟩
theorem zc_78_45 : zm_okS 78 87 72 3 := ⟨⟨zk_72, Or.inl zw_859, by decide +kernel, by decide +kernel⟩, zw_860, zw_8⟩
theorem zc_79_5 : zm_okS 79 87 72 3 := ⟨⟨zk_72, Or.inl zw_859, by decide +kernel, by decide +kernel⟩, zw_860, zw_8⟩
theorem zc_79_16 : zm_okS 79 87 72 3 := ⟨⟨zk_72, Or.inl zw_859, by decide +kernel, by decide +kernel⟩, zw_860, zw_8⟩
theorem zc_79_27 : zm_okS 79 87 72 3 := ⟨⟨zk_72, Or.inl zw_859, by decide +kernel, by decide +kernel⟩, zw_860, zw_8⟩
theorem zc_81_7 : zm_okV 81 119 78 1 5 := ⟨⟨zk_78, Or.inl zw_882, by decide +kernel, by decide +kernel⟩, zw_884, _, _, _, rfl, zm_memS 30 rfl⟩
theorem zc_81_25 : zm_okV 81 91 73 1 5 := ⟨⟨zk_73, Or.inl zw_862, by decide +kernel, by decide +kernel⟩, zw_864, _, _, _, rfl, zm_memS 26 rfl⟩
theorem zc_81_39 : zm_okV 81 229 82 0 5 := ⟨⟨zk_82, Or.inl zw_897, by decide +kernel, by decide +kernel⟩, zw_899, _, _, _, rfl, zm_memS 32 rfl⟩
theorem zc_81_44 : zm_okV 81 123 80 1 5 := ⟨⟨zk_80, Or.inl zw_889, by decide +kernel, by decide +kernel⟩, zw_891, _, _, _, rfl, zm_memS 31 rfl⟩
theorem zc_81_66 : zm_okV 81 232 84 2 5 := ⟨⟨zk_84, Or.inl zw_905, by decide +kernel, by decide +kernel⟩, zw_907, _, _, _, rfl, zm_memS 34 rfl⟩
theorem zc_81_70 : zm_okV 81 235 100 0 5 := ⟨⟨zk_100, Or.inl zw_969, by decide +kernel, by decide +kernel⟩, zw_971, _, _, _, rfl, zm_memS 50 rfl⟩
theorem zc_82_29 : zm_okV 82 126 83 1 5 := ⟨⟨zk_83, Or.inl zw_901, by decide +kernel, by decide +kernel⟩, zw_903, _, _, _, rfl, zm_memS 33 rfl⟩
theorem zc_83_15 : zm_okS 83 109 79 1 := ⟨⟨zk_79, Or.inl zw_886, by decide +kernel, by decide +kernel⟩, zw_887, zw_8⟩
theorem zc_84_8 : zm_okV 84 171 85 2 5 := ⟨⟨zk_85, Or.inl zw_909, by decide +kernel, by decide +kernel⟩, zw_911, _, _, _, rfl, zm_memS 35 rfl⟩
theorem zc_84_26 : zm_okV 84 213 86 0 5 := ⟨⟨zk_86, Or.inl zw_913, by decide +kernel, by decide +kernel⟩, zw_915, _, _, _, rfl, zm_memS 36 rfl⟩
theorem zc_86_30 : zm_okV 86 204 87 0 5 := ⟨⟨zk_87, Or.inl zw_917, by decide +kernel, by decide +kernel⟩, zw_919, _, _, _, rfl, zm_memS 37 rfl⟩
theorem zc_86_71 : zm_okV 86 207 90 2 5 := ⟨⟨zk_90, Or.inl zw_929, by decide +kernel, by decide +kernel⟩, zw_931, _, _, _, rfl, zm_memS 40 rfl⟩
theorem zc_86_82 : zm_okS 86 87 72 3 := ⟨⟨zk_72, Or.inl zw_859, by decide +kernel, by decide +kernel⟩, zw_860, zw_8⟩
theorem zc_86_95 : zm_okV 86 157 89 3 5 := ⟨⟨zk_89, Or.inl zw_925, by decide +kernel, by decide +kernel⟩, zw_927, _, _, _, rfl, zm_memS 39 rfl⟩
theorem zc_86_111 : zm_okV 86 157 89 3 5 := ⟨⟨zk_89, Or.inl zw_925, by decide +kernel, by decide +kernel⟩, zw_927, _, _, _, rfl, zm_memS 39 rfl⟩
theorem zc_86_122 : zm_okS 86 87 72 3 := ⟨⟨zk_72, Or.inl zw_859, by decide +kernel, by decide +kernel⟩, zw_860, zw_8⟩
theorem zc_86_137 : zm_okV 86 153 93 2 5 := ⟨⟨zk_93, Or.inl zw_941, by decide +kernel, by decide +kernel⟩, zw_943, _, _, _, rfl, zm_memS 43 rfl⟩
theorem zc_86_140 : zm_okV 86 193 96 1 5 := ⟨⟨zk_96, Or.inl zw_953, by decide +kernel, by decide +kernel⟩, zw_955, _, _, _, rfl, zm_memS 46 rfl⟩
theorem zc_86_151 : zm_okS 86 87 72 3 := ⟨⟨zk_72, Or.inl zw_859, by decide +kernel, by decide +kernel⟩, zw_860, zw_8⟩
theorem zc_86_162 : zm_okV 86 210 99 1 5 := ⟨⟨zk_99, Or.inl zw_965, by decide +kernel, by decide +kernel⟩, zw_967, _, _, _, rfl, zm_memS 49 rfl⟩
theorem zc_86_184 : zm_okV 86 181 92 2 5 := ⟨⟨zk_92, Or.inl zw_937, by decide +kernel, by decide +kernel⟩, zw_939, _, _, _, rfl, zm_memS 42 rfl⟩
theorem zc_86_198 : zm_okV 86 126 83 1 5 := ⟨⟨zk_83, Or.inl zw_901, by decide +kernel, by decide +kernel⟩, zw_903, _, _, _, rfl, zm_memS 33 rfl⟩
theorem zc_86_207 : zm_okV 86 181 92 2 5 := ⟨⟨zk_92, Or.inl zw_937, by decide +kernel, by decide +kernel⟩, zw_939, _, _, _, rfl, zm_memS 42 rfl⟩
theorem zc_86_210 : zm_okV 86 157 89 3 5 := ⟨⟨zk_89, Or.inl zw_925, by decide +kernel, by decide +kernel⟩, zw_927, _, _, _, rfl, zm_memS 39 rfl⟩
theorem zc_86_233 : zm_okV 86 171 85 2 5 := ⟨⟨zk_85, Or.inl zw_909, by decide +kernel, by decide +kernel⟩, zw_911, _, _, _, rfl, zm_memS 35 rfl⟩
theorem zc_87_49 : zm_okV 87 164 88 1 5 := ⟨⟨zk_88, Or.inl zw_921, by decide +kernel, by decide +kernel⟩, zw_923, _, _, _, rfl, zm_memS 38 rfl⟩
theorem zc_88_19 : zm_okV 88 157 89 3 5 := ⟨⟨zk_89, Or.inl zw_925, by decide +kernel, by decide +kernel⟩, zw_927, _, _, _, rfl, zm_memS 39 rfl⟩
theorem zc_90_15 : zm_okV 90 190 91 1 5 := ⟨⟨zk_91, Or.inl zw_933, by decide +kernel, by decide +kernel⟩, zw_935, _, _, _, rfl, zm_memS 41 rfl⟩
theorem zc_90_67 : zm_okV 90 157 89 3 5 := ⟨⟨zk_89, Or.inl zw_925, by decide +kernel, by decide +kernel⟩, zw_927, _, _, _, rfl, zm_memS 39 rfl⟩
theorem zc_90_131 : zm_okV 90 193 96 1 5 := ⟨⟨zk_96, Or.inl zw_953, by decide +kernel, by decide +kernel⟩, zw_955, _, _, _, rfl, zm_memS 46 rfl⟩
theorem zc_90_138 : zm_okV 90 196 97 0 5 := ⟨⟨zk_97, Or.inl zw_957, by decide +kernel, by decide +kernel⟩, zw_959, _, _, _, rfl, zm_memS 47 rfl⟩
theorem zc_90_155 : zm_okV 90 126 83 1 5 := ⟨⟨zk_83, Or.inl zw_901, by decide +kernel, by decide +kernel⟩, zw_903, _, _, _, rfl, zm_memS 33 rfl⟩
theorem zc_90_183 : zm_okV 90 126 83 1 5 := ⟨⟨zk_83, Or.inl zw_901, by decide +kernel, by decide +kernel⟩, zw_903, _, _, _, rfl, zm_memS 33 rfl⟩
theorem zc_90_192 : zm_okV 90 171 85 2 5 := ⟨⟨zk_85, Or.inl zw_909, by decide +kernel, by decide +kernel⟩, zw_911, _, _, _, rfl, zm_memS 35 rfl⟩
theorem zc_90_230 : zm_okV 90 126 83 1 5 := ⟨⟨zk_83, Or.inl zw_901, by decide +kernel, by decide +kernel⟩, zw_903, _, _, _, rfl, zm_memS 33 rfl⟩
theorem zc_90_239 : zm_okV 90 171 85 2 5 := ⟨⟨zk_85, Or.inl zw_909, by decide +kernel, by decide +kernel⟩, zw_911, _, _, _, rfl, zm_memS 35 rfl⟩
theorem zc_90_257 : zm_okV 90 200 98 3 5 := ⟨⟨zk_98, Or.inl zw_961, by decide +kernel, by decide +kernel⟩, zw_963, _, _, _, rfl, zm_memS 48 rfl⟩
theorem zc_90_274 : zm_okV 90 157 89 3 5 := ⟨⟨zk_89, Or.inl zw_925, by decide +kernel, by decide +kernel⟩, zw_927, _, _, _, rfl, zm_memS 39 rfl⟩
theorem zc_91_39 : zm_okV 91 126 83 1 5 := ⟨⟨zk_83, Or.inl zw_901, by decide +kernel, by decide +kernel⟩, zw_903, _, _, _, rfl, zm_memS 33 rfl⟩
theorem zc_91_48 : zm_okV 91 181 92 2 5 := ⟨⟨zk_92, Or.inl zw_937, by decide +kernel, by decide +kernel⟩, zw_939, _, _, _, rfl, zm_memS 42 rfl⟩
theorem zc_91_86 : zm_okV 91 184 94 1 5 := ⟨⟨zk_94, Or.inl zw_945, by decide +kernel, by decide +kernel⟩, zw_947, _, _, _, rfl, zm_memS 44 rfl⟩
theorem zc_91_124 : zm_okV 91 157 89 3 5 := ⟨⟨zk_89, Or.inl zw_925, by decide +kernel, by decide +kernel⟩, zw_927, _, _, _, rfl, zm_memS 39 rfl⟩
theorem zc_91_136 : zm_okV 91 187 95 3 5 := ⟨⟨zk_95, Or.inl zw_949, by decide +kernel, by decide +kernel⟩, zw_951, _, _, _, rfl, zm_memS 45 rfl⟩
theorem zc_92_10 : zm_okS 92 87 72 3 := ⟨⟨zk_72, Or.inl zw_859, by decide +kernel, by decide +kernel⟩, zw_860, zw_8⟩
theorem zc_92_24 : zm_okV 92 153 93 2 5 := ⟨⟨zk_93, Or.inl zw_941, by decide +kernel, by decide +kernel⟩, zw_943, _, _, _, rfl, zm_memS 43 rfl⟩
theorem zc_95_180 : zm_okV 95 171 85 2 5 := ⟨⟨zk_85, Or.inl zw_909, by decide +kernel, by decide +kernel⟩, zw_911, _, _, _, rfl, zm_memS 35 rfl⟩
theorem zc_96_22 : zm_okV 96 164 88 1 5 := ⟨⟨zk_88, Or.inl zw_921, by decide +kernel, by decide +kernel⟩, zw_923, _, _, _, rfl, zm_memS 38 rfl⟩
theorem zc_96_92 : zm_okV 96 171 85 2 5 := ⟨⟨zk_85, Or.inl zw_909, by decide +kernel, by decide +kernel⟩, zw_911, _, _, _, rfl, zm_memS 35 rfl⟩
theorem zc_98_18 : zm_okV 98 98 74 1 5 := ⟨⟨zk_74, Or.inl zw_866, by decide +kernel, by decide +kernel⟩, zw_868, _, _, _, rfl, zm_memS 27 rfl⟩
theorem zc_99_30 : zm_okV 99 187 95 3 5 := ⟨⟨zk_95, Or.inl zw_949, by decide +kernel, by decide +kernel⟩, zw_951, _, _, _, rfl, zm_memS 45 rfl⟩
theorem zc_99_40 : zm_okV 99 157 89 3 5 := ⟨⟨zk_89, Or.inl zw_925, by decide +kernel, by decide +kernel⟩, zw_927, _, _, _, rfl, zm_memS 39 rfl⟩
theorem zc_102_2 : zm_okV 102 238 103 1 5 := ⟨⟨zk_103, Or.inl zw_981, by decide +kernel, by decide +kernel⟩, zw_983, _, _, _, rfl, zm_memS 51 rfl⟩
theorem zc_103_112 : zm_okV 103 232 84 2 5 := ⟨⟨zk_84, Or.inl zw_905, by decide +kernel, by decide +kernel⟩, zw_907, _, _, _, rfl, zm_memS 34 rfl⟩
theorem zc_104_2 : zm_okV 104 238 103 1 5 := ⟨⟨zk_103, Or.inl zw_981, by decide +kernel, by decide +kernel⟩, zw_983, _, _, _, rfl, zm_memS 51 rfl⟩
theorem zc_104_9 : zm_okV 104 235 100 0 5 := ⟨⟨zk_100, Or.inl zw_969, by decide +kernel, by decide +kernel⟩, zw_971, _, _, _, rfl, zm_memS 50 rfl⟩
theorem zc_105_4 : zm_okS 105 87 72 3 := ⟨⟨zk_72, Or.inl zw_859, by decide +kernel, by decide +kernel⟩, zw_860, zw_8⟩
theorem zc_105_7 : zm_okV 105 91 73 1 5 := ⟨⟨zk_73, Or.inl zw_862, by decide +kernel, by decide +kernel⟩, zw_864, _, _, _, rfl, zm_memS 26 rfl⟩
theorem zc_108_5 : zm_okS 108 118 114 2 := ⟨⟨zk_114, Or.inl zw_502, by decide +kernel, by decide +kernel⟩, zw_503, zw_20⟩
theorem zc_108_11 : zm_okV 108 123 109 1 4 := ⟨⟨zk_109, Or.inl zw_508, by decide +kernel, by decide +kernel⟩, zw_509, _, _, _, rfl, zw_510⟩
theorem zc_110_20 : zm_okV 110 131 111 3 4 := ⟨⟨zk_111, Or.inl zw_442, by decide +kernel, by decide +kernel⟩, zw_444, _, _, _, rfl, zm_memS 14 rfl⟩
theorem zc_111_7 : zm_okV 111 129 112 0 4 := ⟨⟨zk_112, Or.inl zw_446, by decide +kernel, by decide +kernel⟩, zw_448, _, _, _, rfl, zm_memS 15 rfl⟩
theorem zc_112_7 : zm_okV 112 69 113 1 4 := ⟨⟨zk_113, Or.inl zw_450, by decide +kernel, by decide +kernel⟩, zw_452, _, _, _, rfl, zm_memS 16 rfl⟩
theorem zc_113_27 : zm_okS 113 73 116 3 := ⟨⟨zk_116, Or.inl zw_454, by decide +kernel, by decide +kernel⟩, zw_455, zw_17⟩
theorem zc_113_37 : zm_okS 113 66 117 2 := ⟨⟨zk_117, Or.inl zw_462, by decide +kernel, by decide +kernel⟩, zw_463, zw_18⟩
theorem zc_114_3 : zm_okS 114 105 115 3 := ⟨⟨zk_115, Or.inl zw_505, by decide +kernel, by decide +kernel⟩, zw_506, zw_21⟩
theorem zc_117_6 : zm_okS 117 300 118 3 := ⟨⟨zk_118, Or.inl zw_484, by decide +kernel, by decide +kernel⟩, zw_485, zw_18⟩
theorem zy_0 : ∀ w ∈ zm_ownX "java/lang/IllegalArgumentException" 7 prog_15_method_2_code, w ∈ zm_tb ∧ zm_gw w = true := by decide +kernel
theorem zy_1 : ∀ w ∈ zm_ownX "java/lang/IllegalStateException" 7 prog_16_method_2_code, w ∈ zm_tb ∧ zm_gw w = true := by decide +kernel
theorem zy_2 : ∀ w ∈ zm_ownX "java/util/NoSuchElementException" 13 prog_30_method_4_code, w ∈ zm_tb ∧ zm_gw w = true := by decide +kernel
theorem zy_3 : ∀ w ∈ zm_ownX "java/lang/UnsupportedOperationException" 7 prog_23_method_2_code, w ∈ zm_tb ∧ zm_gw w = true := by decide +kernel
theorem zy_4 : ∀ w ∈ zm_ownX "java/lang/ArithmeticException" 7 prog_12_method_2_code, w ∈ zm_tb ∧ zm_gw w = true := by decide +kernel
theorem zx_13_38 : zm_okx 13 38 0 := ⟨26, 28, 30, 7, _, _, prog_15_method_2_code, 2, by decide +kernel, by decide +kernel, by decide +kernel, by decide +kernel, by decide +kernel, by decide +kernel, Or.inl ⟨by decide +kernel, rfl⟩, by decide +kernel, by decide +kernel, rfl, zw_205, zw_206, zw_12, zw_248, by decide +kernel, zm_out0 rfl, zw_249, zy_0⟩
theorem zx_13_78 : zm_okx 13 78 1 := ⟨36, 38, 40, 7, _, _, prog_16_method_2_code, 2, by decide +kernel, by decide +kernel, by decide +kernel, by decide +kernel, by decide +kernel, by decide +kernel, Or.inl ⟨by decide +kernel, rfl⟩, by decide +kernel, by decide +kernel, rfl, zw_275, zw_276, zw_13, zw_284, by decide +kernel, zm_out0 rfl, zw_285, zy_1⟩
theorem zx_20_12 : zm_okx 20 12 0 := ⟨26, 109, 30, 7, _, _, prog_15_method_2_code, 2, by decide +kernel, by decide +kernel, by decide +kernel, by decide +kernel, by decide +kernel, by decide +kernel, Or.inl ⟨by decide +kernel, rfl⟩, by decide +kernel, by decide +kernel, rfl, zw_205, zw_206, zw_12, zw_313, by decide +kernel, zm_out0 rfl, zw_249, zy_0⟩
theorem zx_37_6 : zm_okx 37 6 1 := ⟨128, 130, 132, 7, _, _, prog_16_method_2_code, 2, by decide +kernel, by decide +kernel, by decide +kernel, by decide +kernel, by decide +kernel, by decide +kernel, Or.inl ⟨by decide +kernel, rfl⟩, by decide +kernel, by decide +kernel, rfl, zw_420, zw_276, zw_13, zw_421, by decide +kernel, zm_out0 rfl, zw_422, zy_1⟩
theorem zx_40_29 : zm_okx 40 29 1 := ⟨128, 265, 132, 7, _, _, prog_16_method_2_code, 3, by decide +kernel, by decide +kernel, by decide +kernel, by decide +kernel, by decide +kernel, by decide +kernel, Or.inr ⟨by decide +kernel, rfl⟩, by decide +kernel, by decide +kernel, rfl, zw_420, zw_276, zw_13, zw_515, by decide +kernel, zm_out0 rfl, zw_422, zy_1⟩
theorem zx_42_7 : zm_okx 42 7 1 := ⟨128, 267, 132, 7, _, _, prog_16_method_2_code, 3, by decide +kernel, by decide +kernel, by decide +kernel, by decide +kernel, by decide +kernel, by decide +kernel, Or.inr ⟨by decide +kernel, rfl⟩, by decide +kernel, by decide +kernel, rfl, zw_420, zw_276, zw_13, zw_523, by decide +kernel, zm_out0 rfl, zw_422, zy_1⟩
theorem zx_44_11 : zm_okx 44 11 2 := ⟨70, 257, 74, 13, _, _, prog_30_method_4_code, 3, by decide +kernel, by decide +kernel, by decide +kernel, by decide +kernel, by decide +kernel, by decide +kernel, Or.inr ⟨by decide +kernel, rfl⟩, by decide +kernel, by decide +kernel, rfl, zw_532, zw_533, zw_22, zw_541, by decide +kernel, zm_out0 rfl, zw_542, zy_2⟩
theorem zx_45_10 : zm_okx 45 10 1 := ⟨128, 219, 132, 7, _, _, prog_16_method_2_code, 2, by decide +kernel, by decide +kernel, by decide +kernel, by decide +kernel, by decide +kernel, by decide +kernel, Or.inl ⟨by decide +kernel, rfl⟩, by decide +kernel, by decide +kernel, rfl, zw_420, zw_276, zw_13, zw_552, by decide +kernel, zm_out0 rfl, zw_422, zy_1⟩
theorem zx_51_23 : zm_okx 51 23 3 := ⟨198, 200, 202, 7, _, _, prog_23_method_2_code, 2, by decide +kernel, by decide +kernel, by decide +kernel, by decide +kernel, by decide +kernel, by decide +kernel, Or.inl ⟨by decide +kernel, rfl⟩, by decide +kernel, by decide +kernel, rfl, zw_596, zw_597, zw_24, zw_605, by decide +kernel, zm_out0 rfl, zw_606, zy_3⟩
theorem zx_54_8 : zm_okx 54 8 2 := ⟨70, 271, 74, 13, _, _, prog_30_method_4_code, 3, by decide +kernel, by decide +kernel, by decide +kernel, by decide +kernel, by decide +kernel, by decide +kernel, Or.inr ⟨by decide +kernel, rfl⟩, by decide +kernel, by decide +kernel, rfl, zw_532, zw_533, zw_22, zw_638, by decide +kernel, zm_out0 rfl, zw_542, zy_2⟩
theorem zx_54_27 : zm_okx 54 27 3 := ⟨198, 273, 202, 7, _, _, prog_23_method_2_code, 3, by decide +kernel, by decide +kernel, by decide +kernel, by decide +kernel, by decide +kernel, by decide +kernel, Or.inr ⟨by decide +kernel, rfl⟩, by decide +kernel, by decide +kernel, rfl, zw_596, zw_597, zw_24, zw_639, by decide +kernel, zm_out0 rfl, zw_606, zy_3⟩
theorem zx_55_16 : zm_okx 55 16 3 := ⟨198, 275, 202, 7, _, _, prog_23_method_2_code, 3, by decide +kernel, by decide +kernel, by decide +kernel, by decide +kernel, by decide +kernel, by decide +kernel, Or.inr ⟨by decide +kernel, rfl⟩, by decide +kernel, by decide +kernel, rfl, zw_596, zw_597, zw_24, zw_643, by decide +kernel, zm_out0 rfl, zw_606, zy_3⟩
theorem zx_57_7 : zm_okx 57 7 3 := ⟨198, 269, 202, 7, _, _, prog_23_method_2_code, 3, by decide +kernel, by decide +kernel, by decide +kernel, by decide +kernel, by decide +kernel, by decide +kernel, Or.inr ⟨by decide +kernel, rfl⟩, by decide +kernel, by decide +kernel, rfl, zw_596, zw_597, zw_24, zw_651, by decide +kernel, zm_out0 rfl, zw_606, zy_3⟩
theorem zx_60_4 : zm_okx 60 4 4 := ⟨277, 279, 281, 7, _, _, prog_12_method_2_code, 3, by decide +kernel, by decide +kernel, by decide +kernel, by decide +kernel, by decide +kernel, by decide +kernel, Or.inr ⟨by decide +kernel, rfl⟩, by decide +kernel, by decide +kernel, rfl, zw_662, zw_663, zw_26, zw_671, by decide +kernel, zm_out0 rfl, zw_672, zy_4⟩
theorem zx_62_7 : zm_okx 62 7 2 := ⟨70, 72, 74, 13, _, _, prog_30_method_4_code, 2, by decide +kernel, by decide +kernel, by decide +kernel, by decide +kernel, by decide +kernel, by decide +kernel, Or.inl ⟨by decide +kernel, rfl⟩, by decide +kernel, by decide +kernel, rfl, zw_532, zw_533, zw_22, zw_685, by decide +kernel, zm_out0 rfl, zw_542, zy_2⟩
theorem zx_65_14 : zm_okx 65 14 2 := ⟨70, 72, 74, 13, _, _, prog_30_method_4_code, 2, by decide +kernel, by decide +kernel, by decide +kernel, by decide +kernel, by decide +kernel, by decide +kernel, Or.inl ⟨by decide +kernel, rfl⟩, by decide +kernel, by decide +kernel, rfl, zw_532, zw_533, zw_22, zw_685, by decide +kernel, zm_out0 rfl, zw_542, zy_2⟩
theorem zx_69_10 : zm_okx 69 10 0 := ⟨96, 98, 100, 7, _, _, prog_15_method_2_code, 2, by decide +kernel, by decide +kernel, by decide +kernel, by decide +kernel, by decide +kernel, by decide +kernel, Or.inl ⟨by decide +kernel, rfl⟩, by decide +kernel, by decide +kernel, rfl, zw_711, zw_206, zw_12, zw_712, by decide +kernel, zm_out0 rfl, zw_713, zy_0⟩
theorem zt_11_0 : zm_cat 11 4 0 12 := ⟨_, tableOf [], ⟨0, 9, 12, 13⟩, tableOf [(0, 9, 16, 15)], rfl, rfl, fun _ h => absurd h List.not_mem_nil, rfl, ⟨by decide, _, zw_192, zw_207⟩, rfl⟩
theorem zt_11_1 : zm_cat 11 4 1 16 := ⟨_, tableOf [(0, 9, 12, 13)], ⟨0, 9, 16, 15⟩, tableOf [], rfl, rfl, List.forall_mem_cons.mpr ⟨Or.inr ⟨by decide, _, zw_192, zm_memE 4 rfl⟩, fun _ h => absurd h List.not_mem_nil⟩, rfl, ⟨by decide, _, zw_193, zw_277⟩, rfl⟩
theorem zt_15_0 : zm_cat 15 3 0 11 := ⟨_, tableOf [], ⟨0, 8, 11, 13⟩, tableOf [], rfl, rfl, fun _ h => absurd h List.not_mem_nil, rfl, ⟨by decide, _, zw_192, zw_207⟩, rfl⟩
theorem zt_33_0 : zm_cat 33 3 0 11 := ⟨_, tableOf [], ⟨0, 8, 11, 13⟩, tableOf [(0, 8, 14, 24), (0, 8, 17, 26), (0, 8, 20, 15), (0, 8, 23, 28)], rfl, rfl, fun _ h => absurd h List.not_mem_nil, rfl, ⟨by decide, _, zw_192, zw_207⟩, rfl⟩
theorem zt_33_2 : zm_cat 33 3 2 14 := ⟨_, tableOf [(0, 8, 11, 13)], ⟨0, 8, 14, 24⟩, tableOf [(0, 8, 17, 26), (0, 8, 20, 15), (0, 8, 23, 28)], rfl, rfl, List.forall_mem_cons.mpr ⟨Or.inr ⟨by decide, _, zw_192, zm_memE 8 rfl⟩, fun _ h => absurd h List.not_mem_nil⟩, rfl, ⟨by decide, _, zw_401, zw_534⟩, rfl⟩
theorem zt_33_4 : zm_cat 33 3 4 17 := ⟨_, tableOf [(0, 8, 11, 13), (0, 8, 14, 24)], ⟨0, 8, 17, 26⟩, tableOf [(0, 8, 20, 15), (0, 8, 23, 28)], rfl, rfl, List.forall_mem_cons.mpr ⟨Or.inr ⟨by decide, _, zw_192, zm_memE 16 rfl⟩, List.forall_mem_cons.mpr ⟨Or.inr ⟨by decide, _, zw_401, zm_memE 18 rfl⟩, fun _ h => absurd h List.not_mem_nil⟩⟩, rfl, ⟨by decide, _, zw_402, zw_664⟩, rfl⟩
theorem zt_33_1 : zm_cat 33 3 1 20 := ⟨_, tableOf [(0, 8, 11, 13), (0, 8, 14, 24), (0, 8, 17, 26)], ⟨0, 8, 20, 15⟩, tableOf [(0, 8, 23, 28)], rfl, rfl, List.forall_mem_cons.mpr ⟨Or.inr ⟨by decide, _, zw_192, zm_memE 4 rfl⟩, List.forall_mem_cons.mpr ⟨Or.inr ⟨by decide, _, zw_401, zm_memE 5 rfl⟩, List.forall_mem_cons.mpr ⟨Or.inr ⟨by decide, _, zw_402, zm_memE 7 rfl⟩, fun _ h => absurd h List.not_mem_nil⟩⟩⟩, rfl, ⟨by decide, _, zw_193, zw_277⟩, rfl⟩
theorem zt_33_3 : zm_cat 33 3 3 23 := ⟨_, tableOf [(0, 8, 11, 13), (0, 8, 14, 24), (0, 8, 17, 26), (0, 8, 20, 15)], ⟨0, 8, 23, 28⟩, tableOf [], rfl, rfl, List.forall_mem_cons.mpr ⟨Or.inr ⟨by decide, _, zw_192, zm_memE 12 rfl⟩, List.forall_mem_cons.mpr ⟨Or.inr ⟨by decide, _, zw_401, zm_memE 14 rfl⟩, List.forall_mem_cons.mpr ⟨Or.inr ⟨by decide, _, zw_402, zm_memE 15 rfl⟩, List.forall_mem_cons.mpr ⟨Or.inr ⟨by decide, _, zw_193, zm_memE 13 rfl⟩, fun _ h => absurd h List.not_mem_nil⟩⟩⟩⟩, rfl, ⟨by decide, _, zw_403, zw_598⟩, rfl⟩
theorem zt_61_2 : zm_cat 61 3 2 11 := ⟨_, tableOf [], ⟨0, 8, 11, 24⟩, tableOf [(0, 8, 14, 28)], rfl, rfl, fun _ h => absurd h List.not_mem_nil, rfl, ⟨by decide, _, zw_401, zw_534⟩, rfl⟩
theorem zt_61_3 : zm_cat 61 3 3 14 := ⟨_, tableOf [(0, 8, 11, 24)], ⟨0, 8, 14, 28⟩, tableOf [], rfl, rfl, List.forall_mem_cons.mpr ⟨Or.inr ⟨by decide, _, zw_401, zm_memE 14 rfl⟩, fun _ h => absurd h List.not_mem_nil⟩, rfl, ⟨by decide, _, zw_403, zw_598⟩, rfl⟩
theorem zt_63_2 : zm_cat 63 3 2 11 := ⟨_, tableOf [], ⟨0, 8, 11, 24⟩, tableOf [(0, 8, 14, 26), (0, 8, 17, 15), (0, 8, 20, 28)], rfl, rfl, fun _ h => absurd h List.not_mem_nil, rfl, ⟨by decide, _, zw_401, zw_534⟩, rfl⟩
theorem zt_63_4 : zm_cat 63 3 4 14 := ⟨_, tableOf [(0, 8, 11, 24)], ⟨0, 8, 14, 26⟩, tableOf [(0, 8, 17, 15), (0, 8, 20, 28)], rfl, rfl, List.forall_mem_cons.mpr ⟨Or.inr ⟨by decide, _, zw_401, zm_memE 18 rfl⟩, fun _ h => absurd h List.not_mem_nil⟩, rfl, ⟨by decide, _, zw_402, zw_664⟩, rfl⟩
theorem zt_63_1 : zm_cat 63 3 1 17 := ⟨_, tableOf [(0, 8, 11, 24), (0, 8, 14, 26)], ⟨0, 8, 17, 15⟩, tableOf [(0, 8, 20, 28)], rfl, rfl, List.forall_mem_cons.mpr ⟨Or.inr ⟨by decide, _, zw_401, zm_memE 5 rfl⟩, List.forall_mem_cons.mpr ⟨Or.inr ⟨by decide, _, zw_402, zm_memE 7 rfl⟩, fun _ h => absurd h List.not_mem_nil⟩⟩, rfl, ⟨by decide, _, zw_193, zw_277⟩, rfl⟩
theorem zt_63_3 : zm_cat 63 3 3 20 := ⟨_, tableOf [(0, 8, 11, 24), (0, 8, 14, 26), (0, 8, 17, 15)], ⟨0, 8, 20, 28⟩, tableOf [], rfl, rfl, List.forall_mem_cons.mpr ⟨Or.inr ⟨by decide, _, zw_401, zm_memE 14 rfl⟩, List.forall_mem_cons.mpr ⟨Or.inr ⟨by decide, _, zw_402, zm_memE 15 rfl⟩, List.forall_mem_cons.mpr ⟨Or.inr ⟨by decide, _, zw_193, zm_memE 13 rfl⟩, fun _ h => absurd h List.not_mem_nil⟩⟩⟩, rfl, ⟨by decide, _, zw_403, zw_598⟩, rfl⟩
theorem zt_66_2 : zm_cat 66 3 2 11 := ⟨_, tableOf [], ⟨0, 8, 11, 24⟩, tableOf [(0, 8, 14, 26), (0, 8, 17, 15), (0, 8, 20, 28)], rfl, rfl, fun _ h => absurd h List.not_mem_nil, rfl, ⟨by decide, _, zw_401, zw_534⟩, rfl⟩
theorem zt_66_4 : zm_cat 66 3 4 14 := ⟨_, tableOf [(0, 8, 11, 24)], ⟨0, 8, 14, 26⟩, tableOf [(0, 8, 17, 15), (0, 8, 20, 28)], rfl, rfl, List.forall_mem_cons.mpr ⟨Or.inr ⟨by decide, _, zw_401, zm_memE 18 rfl⟩, fun _ h => absurd h List.not_mem_nil⟩, rfl, ⟨by decide, _, zw_402, zw_664⟩, rfl⟩
theorem zt_66_1 : zm_cat 66 3 1 17 := ⟨_, tableOf [(0, 8, 11, 24), (0, 8, 14, 26)], ⟨0, 8, 17, 15⟩, tableOf [(0, 8, 20, 28)], rfl, rfl, List.forall_mem_cons.mpr ⟨Or.inr ⟨by decide, _, zw_401, zm_memE 5 rfl⟩, List.forall_mem_cons.mpr ⟨Or.inr ⟨by decide, _, zw_402, zm_memE 7 rfl⟩, fun _ h => absurd h List.not_mem_nil⟩⟩, rfl, ⟨by decide, _, zw_193, zw_277⟩, rfl⟩
theorem zt_66_3 : zm_cat 66 3 3 20 := ⟨_, tableOf [(0, 8, 11, 24), (0, 8, 14, 26), (0, 8, 17, 15)], ⟨0, 8, 20, 28⟩, tableOf [], rfl, rfl, List.forall_mem_cons.mpr ⟨Or.inr ⟨by decide, _, zw_401, zm_memE 14 rfl⟩, List.forall_mem_cons.mpr ⟨Or.inr ⟨by decide, _, zw_402, zm_memE 15 rfl⟩, List.forall_mem_cons.mpr ⟨Or.inr ⟨by decide, _, zw_193, zm_memE 13 rfl⟩, fun _ h => absurd h List.not_mem_nil⟩⟩⟩, rfl, ⟨by decide, _, zw_403, zw_598⟩, rfl⟩
theorem zt_68_0 : zm_cat 68 2 0 8 := ⟨_, tableOf [], ⟨0, 5, 8, 13⟩, tableOf [(0, 5, 11, 24)], rfl, rfl, fun _ h => absurd h List.not_mem_nil, rfl, ⟨by decide, _, zw_192, zw_207⟩, rfl⟩
theorem zt_68_2 : zm_cat 68 2 2 11 := ⟨_, tableOf [(0, 5, 8, 13)], ⟨0, 5, 11, 24⟩, tableOf [], rfl, rfl, List.forall_mem_cons.mpr ⟨Or.inr ⟨by decide, _, zw_192, zm_memE 8 rfl⟩, fun _ h => absurd h List.not_mem_nil⟩, rfl, ⟨by decide, _, zw_401, zw_534⟩, rfl⟩
theorem zj_m37_22 : (Jvm.Cond.methodLink "NeedMachine" (133 : Nat) ({ cls := "java/lang/Math", name := "max", desc := "(II)I" } : Jvm.MethodName)) ∈ zm_tb := zw_423
theorem zj_m113_49 : (Jvm.Cond.methodLink "java/util/ArrayList" (79 : Nat) ({ cls := "java/lang/Math", name := "max", desc := "(II)I" } : Jvm.MethodName)) ∈ zm_tb := zw_496
theorem zj_m116_3 : (Jvm.Cond.methodLink "jdk/internal/util/ArraysSupport" (194 : Nat) ({ cls := "java/lang/Math", name := "max", desc := "(II)I" } : Jvm.MethodName)) ∈ zm_tb := zw_457
theorem zj_m118_32 : (Jvm.Cond.methodLink "java/util/Arrays" (304 : Nat) ({ cls := "java/lang/Math", name := "min", desc := "(II)I" } : Jvm.MethodName)) ∈ zm_tb := zw_490
theorem zj_mxS : (Jvm.Cond.static ({ cls := "java/lang/Math", name := "max", desc := "(II)I" } : Jvm.MethodName)) ∈ zm_tb := zw_424
theorem zj_mxC : (Jvm.Cond.code ({ cls := "java/lang/Math", name := "max", desc := "(II)I" } : Jvm.MethodName) prog_18_method_65_code (2 : Nat) (Option.some Jvm.ClassFile.FieldType.int)) ∈ zm_tb := zw_425
theorem zj_mnS : (Jvm.Cond.static ({ cls := "java/lang/Math", name := "min", desc := "(II)I" } : Jvm.MethodName)) ∈ zm_tb := zw_491
theorem zj_mnC : (Jvm.Cond.code ({ cls := "java/lang/Math", name := "min", desc := "(II)I" } : Jvm.MethodName) prog_18_method_69_code (2 : Nat) (Option.some Jvm.ClassFile.FieldType.int)) ∈ zm_tb := zw_492
theorem zj_mI : (Jvm.Cond.initialized "java/lang/Math") ∈ zm_tb := zw_16
theorem zj_getL : (Jvm.Cond.methodLink "java/util/Arrays" (86 : Nat) ({ cls := "java/lang/Object", name := "getClass", desc := "()Ljava/lang/Class;" } : Jvm.MethodName)) ∈ zm_tb := zw_465
theorem zj_getI : (Jvm.Cond.instanceMethod ({ cls := "java/lang/Object", name := "getClass", desc := "()Ljava/lang/Class;" } : Jvm.MethodName)) ∈ zm_tb := zw_466
theorem zj_getN : (Jvm.Cond.native ({ cls := "java/lang/Object", name := "getClass", desc := "()Ljava/lang/Class;" } : Jvm.MethodName)) ∈ zm_tb := zw_483
theorem zj_getS : (Jvm.Cond.selects "[Ljava/lang/Object;" ({ cls := "java/lang/Object", name := "getClass", desc := "()Ljava/lang/Class;" } : Jvm.MethodName) ({ cls := "java/lang/Object", name := "getClass", desc := "()Ljava/lang/Class;" } : Jvm.MethodName)) ∈ zm_tb := zw_1004
theorem zj_getD : (Jvm.Cond.declares ({ cls := "java/lang/Object", name := "getClass", desc := "()Ljava/lang/Class;" } : Jvm.MethodName)) ∈ zm_tb := zw_1005
theorem zj_mirL : (Jvm.Cond.classLink "java/util/Arrays" (110 : Nat) "[Ljava/lang/Object;") ∈ zm_tb := zw_487
theorem zj_cpL : (Jvm.Cond.methodLink "java/util/Arrays" (150 : Nat) ({ cls := "java/lang/System", name := "arraycopy", desc := "(Ljava/lang/Object;ILjava/lang/Object;II)V" } : Jvm.MethodName)) ∈ zm_tb := zw_493
theorem zj_cpS : (Jvm.Cond.static ({ cls := "java/lang/System", name := "arraycopy", desc := "(Ljava/lang/Object;ILjava/lang/Object;II)V" } : Jvm.MethodName)) ∈ zm_tb := zw_494
theorem zj_cpN : (Jvm.Cond.native ({ cls := "java/lang/System", name := "arraycopy", desc := "(Ljava/lang/Object;ILjava/lang/Object;II)V" } : Jvm.MethodName)) ∈ zm_tb := zw_495
theorem zj_sysI : (Jvm.Cond.initialized "java/lang/System") ∈ zm_tb := zw_19

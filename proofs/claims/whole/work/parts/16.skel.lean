def sk0 (c : Nat) : mx_Sk := [.inr (11, [some 1, some 33, some 43, some 47, some 65, some 55, some 74, some 106, some 116, none]), .inr (10, [some 2, some 8, some 18, some 24, some 28, none, none, none]), .inr (5, [some 3, some 4, some 5, some 6, some 7, none]), .inl 30, .inl 30, .inl 30, .inl 30, .inl 30, .inr (2, [some 9, some 10, some 11, some 12, some 13, some 14, some 15, some 16, some 17, none]), .inl 20, .inl 20, .inl 20, .inl 20, .inl 20, .inl 20, .inl 20, .inl 20, .inl 20, .inr (6, [some 19, some 20, some 21, some 22, some 23, none]), .inl 8, .inl 8, .inl 8, .inl 8, .inl 8, .inr (4, [some 25, some 26, some 27, none]), .inl 20, .inl 20, .inl 20, .inr (3, [some 29, some 30, some 31, some 32, none, none]), .inl 400, .inl 17, .inl 16, .inl 64, .inr (9, [some 34, some 35, some 36, some 37, some 38, some 39, some 40, some 41, some 42, none, none]), .inl 30, .inl 30, .inl 30, .inl 30, .inl 120, .inl 4, .inl 20, .inl 20, .inl 20, .inr (0, [some 44, some 45, some 46, none]), .inl 300, .inl 300, .inl 300, .inr (8, [some 48, some 49, some 54, none, none, none, none, none, none, none, none, none, none, none, none]), .inl 400, .inr (3, [some 50, some 51, some 52, some 53, none, none]), .inl 400, .inl 17, .inl 16, .inl 64, .inl 64, .inr (9, [some 56, some 57, some 58, some 59, some 60, some 61, some 62, some 63, some 64, none, none]), .inl 30, .inl 30, .inl 30, .inl 30, .inl 120, .inl 4, .inl 20, .inl 20, .inl 20, .inr (1, [some 1, some 43, some 66, some 72, some 73, none, some c, none, none, none, none, none, none, none, none, none]), .inr (7, [some 67, some 68, some 69, some 70, some 71]), .inl 168, .inl 168, .inl 168, .inl 168, .inl 168, .inl 30, .inl 7, .inr (10, [some 75, some 81, some 91, some 97, some 101, none, none, none]), .inr (5, [some 76, some 77, some 78, some 79, some 80, none]), .inl 30, .inl 30, .inl 30, .inl 30, .inl 30, .inr (2, [some 82, some 83, some 84, some 85, some 86, some 87, some 88, some 89, some 90, none]), .inl 20, .inl 20, .inl 20, .inl 20, .inl 20, .inl 20, .inl 20, .inl 20, .inl 20, .inr (6, [some 92, some 93, some 94, some 95, some 96, none]), .inl 8, .inl 8, .inl 8, .inl 8, .inl 8, .inr (4, [some 98, some 99, some 100, none]), .inl 20, .inl 20, .inl 20, .inr (3, [some 102, some 103, some 104, some 105, none, none]), .inl 400, .inl 17, .inl 16, .inl 64, .inr (9, [some 107, some 108, some 109, some 110, some 111, some 112, some 113, some 114, some 115, none, none]), .inl 30, .inl 30, .inl 30, .inl 30, .inl 120, .inl 4, .inl 20, .inl 20, .inl 20, .inr (0, [some 117, some 118, some 119, none]), .inl 300, .inl 300, .inl 300, .inr (12, [some 121, some 122, some 123, none, some 124, some 125, some 126, some 127, some 128, none, none, none, none, none, none, none, none, none, none, none, none, none, none, none, none, none, none, some 129, some 130, none, none, none, some 131]), .inl 2490, .inl 2490, .inl 600, .inl 48, .inl 820, .inl 400, .inl 420, .inl 8, .inl 30, .inl 30, .inl 8]
theorem sk_0 (c : Nat) : (sk0 c)[0]? = some (.inr (11, [some 1, some 33, some 43, some 47, some 65, some 55, some 74, some 106, some 116, none])) := rfl
theorem sk_1 (c : Nat) : (sk0 c)[1]? = some (.inr (10, [some 2, some 8, some 18, some 24, some 28, none, none, none])) := rfl
theorem sk_2 (c : Nat) : (sk0 c)[2]? = some (.inr (5, [some 3, some 4, some 5, some 6, some 7, none])) := rfl
theorem sk_3 (c : Nat) : (sk0 c)[3]? = some (.inl 30) := rfl
theorem sk_4 (c : Nat) : (sk0 c)[4]? = some (.inl 30) := rfl
theorem sk_5 (c : Nat) : (sk0 c)[5]? = some (.inl 30) := rfl
theorem sk_6 (c : Nat) : (sk0 c)[6]? = some (.inl 30) := rfl
theorem sk_7 (c : Nat) : (sk0 c)[7]? = some (.inl 30) := rfl
theorem sk_8 (c : Nat) : (sk0 c)[8]? = some (.inr (2, [some 9, some 10, some 11, some 12, some 13, some 14, some 15, some 16, some 17, none])) := rfl
theorem sk_9 (c : Nat) : (sk0 c)[9]? = some (.inl 20) := rfl
theorem sk_10 (c : Nat) : (sk0 c)[10]? = some (.inl 20) := rfl
theorem sk_11 (c : Nat) : (sk0 c)[11]? = some (.inl 20) := rfl
theorem sk_12 (c : Nat) : (sk0 c)[12]? = some (.inl 20) := rfl
theorem sk_13 (c : Nat) : (sk0 c)[13]? = some (.inl 20) := rfl
theorem sk_14 (c : Nat) : (sk0 c)[14]? = some (.inl 20) := rfl
theorem sk_15 (c : Nat) : (sk0 c)[15]? = some (.inl 20) := rfl
theorem sk_16 (c : Nat) : (sk0 c)[16]? = some (.inl 20) := rfl
theorem sk_17 (c : Nat) : (sk0 c)[17]? = some (.inl 20) := rfl
theorem sk_18 (c : Nat) : (sk0 c)[18]? = some (.inr (6, [some 19, some 20, some 21, some 22, some 23, none])) := rfl
theorem sk_19 (c : Nat) : (sk0 c)[19]? = some (.inl 8) := rfl
theorem sk_20 (c : Nat) : (sk0 c)[20]? = some (.inl 8) := rfl
theorem sk_21 (c : Nat) : (sk0 c)[21]? = some (.inl 8) := rfl
theorem sk_22 (c : Nat) : (sk0 c)[22]? = some (.inl 8) := rfl
theorem sk_23 (c : Nat) : (sk0 c)[23]? = some (.inl 8) := rfl
theorem sk_24 (c : Nat) : (sk0 c)[24]? = some (.inr (4, [some 25, some 26, some 27, none])) := rfl
theorem sk_25 (c : Nat) : (sk0 c)[25]? = some (.inl 20) := rfl
theorem sk_26 (c : Nat) : (sk0 c)[26]? = some (.inl 20) := rfl
theorem sk_27 (c : Nat) : (sk0 c)[27]? = some (.inl 20) := rfl
theorem sk_28 (c : Nat) : (sk0 c)[28]? = some (.inr (3, [some 29, some 30, some 31, some 32, none, none])) := rfl
theorem sk_29 (c : Nat) : (sk0 c)[29]? = some (.inl 400) := rfl
theorem sk_30 (c : Nat) : (sk0 c)[30]? = some (.inl 17) := rfl
theorem sk_31 (c : Nat) : (sk0 c)[31]? = some (.inl 16) := rfl
theorem sk_32 (c : Nat) : (sk0 c)[32]? = some (.inl 64) := rfl
theorem sk_33 (c : Nat) : (sk0 c)[33]? = some (.inr (9, [some 34, some 35, some 36, some 37, some 38, some 39, some 40, some 41, some 42, none, none])) := rfl
theorem sk_34 (c : Nat) : (sk0 c)[34]? = some (.inl 30) := rfl
theorem sk_35 (c : Nat) : (sk0 c)[35]? = some (.inl 30) := rfl
theorem sk_36 (c : Nat) : (sk0 c)[36]? = some (.inl 30) := rfl
theorem sk_37 (c : Nat) : (sk0 c)[37]? = some (.inl 30) := rfl
theorem sk_38 (c : Nat) : (sk0 c)[38]? = some (.inl 120) := rfl
theorem sk_39 (c : Nat) : (sk0 c)[39]? = some (.inl 4) := rfl
theorem sk_40 (c : Nat) : (sk0 c)[40]? = some (.inl 20) := rfl
theorem sk_41 (c : Nat) : (sk0 c)[41]? = some (.inl 20) := rfl
theorem sk_42 (c : Nat) : (sk0 c)[42]? = some (.inl 20) := rfl
theorem sk_43 (c : Nat) : (sk0 c)[43]? = some (.inr (0, [some 44, some 45, some 46, none])) := rfl
theorem sk_44 (c : Nat) : (sk0 c)[44]? = some (.inl 300) := rfl
theorem sk_45 (c : Nat) : (sk0 c)[45]? = some (.inl 300) := rfl
theorem sk_46 (c : Nat) : (sk0 c)[46]? = some (.inl 300) := rfl
theorem sk_47 (c : Nat) : (sk0 c)[47]? = some (.inr (8, [some 48, some 49, some 54, none, none, none, none, none, none, none, none, none, none, none, none])) := rfl
theorem sk_48 (c : Nat) : (sk0 c)[48]? = some (.inl 400) := rfl
theorem sk_49 (c : Nat) : (sk0 c)[49]? = some (.inr (3, [some 50, some 51, some 52, some 53, none, none])) := rfl
theorem sk_50 (c : Nat) : (sk0 c)[50]? = some (.inl 400) := rfl
theorem sk_51 (c : Nat) : (sk0 c)[51]? = some (.inl 17) := rfl
theorem sk_52 (c : Nat) : (sk0 c)[52]? = some (.inl 16) := rfl
theorem sk_53 (c : Nat) : (sk0 c)[53]? = some (.inl 64) := rfl
theorem sk_54 (c : Nat) : (sk0 c)[54]? = some (.inl 64) := rfl
theorem sk_55 (c : Nat) : (sk0 c)[55]? = some (.inr (9, [some 56, some 57, some 58, some 59, some 60, some 61, some 62, some 63, some 64, none, none])) := rfl
theorem sk_56 (c : Nat) : (sk0 c)[56]? = some (.inl 30) := rfl
theorem sk_57 (c : Nat) : (sk0 c)[57]? = some (.inl 30) := rfl
theorem sk_58 (c : Nat) : (sk0 c)[58]? = some (.inl 30) := rfl
theorem sk_59 (c : Nat) : (sk0 c)[59]? = some (.inl 30) := rfl
theorem sk_60 (c : Nat) : (sk0 c)[60]? = some (.inl 120) := rfl
theorem sk_61 (c : Nat) : (sk0 c)[61]? = some (.inl 4) := rfl
theorem sk_62 (c : Nat) : (sk0 c)[62]? = some (.inl 20) := rfl
theorem sk_63 (c : Nat) : (sk0 c)[63]? = some (.inl 20) := rfl
theorem sk_64 (c : Nat) : (sk0 c)[64]? = some (.inl 20) := rfl
theorem sk_65 (c : Nat) : (sk0 c)[65]? = some (.inr (1, [some 1, some 43, some 66, some 72, some 73, none, some c, none, none, none, none, none, none, none, none, none])) := rfl
theorem sk_66 (c : Nat) : (sk0 c)[66]? = some (.inr (7, [some 67, some 68, some 69, some 70, some 71])) := rfl
theorem sk_67 (c : Nat) : (sk0 c)[67]? = some (.inl 168) := rfl
theorem sk_68 (c : Nat) : (sk0 c)[68]? = some (.inl 168) := rfl
theorem sk_69 (c : Nat) : (sk0 c)[69]? = some (.inl 168) := rfl
theorem sk_70 (c : Nat) : (sk0 c)[70]? = some (.inl 168) := rfl
theorem sk_71 (c : Nat) : (sk0 c)[71]? = some (.inl 168) := rfl
theorem sk_72 (c : Nat) : (sk0 c)[72]? = some (.inl 30) := rfl
theorem sk_73 (c : Nat) : (sk0 c)[73]? = some (.inl 7) := rfl
theorem sk_74 (c : Nat) : (sk0 c)[74]? = some (.inr (10, [some 75, some 81, some 91, some 97, some 101, none, none, none])) := rfl
theorem sk_75 (c : Nat) : (sk0 c)[75]? = some (.inr (5, [some 76, some 77, some 78, some 79, some 80, none])) := rfl
theorem sk_76 (c : Nat) : (sk0 c)[76]? = some (.inl 30) := rfl
theorem sk_77 (c : Nat) : (sk0 c)[77]? = some (.inl 30) := rfl
theorem sk_78 (c : Nat) : (sk0 c)[78]? = some (.inl 30) := rfl
theorem sk_79 (c : Nat) : (sk0 c)[79]? = some (.inl 30) := rfl
theorem sk_80 (c : Nat) : (sk0 c)[80]? = some (.inl 30) := rfl
theorem sk_81 (c : Nat) : (sk0 c)[81]? = some (.inr (2, [some 82, some 83, some 84, some 85, some 86, some 87, some 88, some 89, some 90, none])) := rfl
theorem sk_82 (c : Nat) : (sk0 c)[82]? = some (.inl 20) := rfl
theorem sk_83 (c : Nat) : (sk0 c)[83]? = some (.inl 20) := rfl
theorem sk_84 (c : Nat) : (sk0 c)[84]? = some (.inl 20) := rfl
theorem sk_85 (c : Nat) : (sk0 c)[85]? = some (.inl 20) := rfl
theorem sk_86 (c : Nat) : (sk0 c)[86]? = some (.inl 20) := rfl
theorem sk_87 (c : Nat) : (sk0 c)[87]? = some (.inl 20) := rfl
theorem sk_88 (c : Nat) : (sk0 c)[88]? = some (.inl 20) := rfl
theorem sk_89 (c : Nat) : (sk0 c)[89]? = some (.inl 20) := rfl
theorem sk_90 (c : Nat) : (sk0 c)[90]? = some (.inl 20) := rfl
theorem sk_91 (c : Nat) : (sk0 c)[91]? = some (.inr (6, [some 92, some 93, some 94, some 95, some 96, none])) := rfl
theorem sk_92 (c : Nat) : (sk0 c)[92]? = some (.inl 8) := rfl
theorem sk_93 (c : Nat) : (sk0 c)[93]? = some (.inl 8) := rfl
theorem sk_94 (c : Nat) : (sk0 c)[94]? = some (.inl 8) := rfl
theorem sk_95 (c : Nat) : (sk0 c)[95]? = some (.inl 8) := rfl
theorem sk_96 (c : Nat) : (sk0 c)[96]? = some (.inl 8) := rfl
theorem sk_97 (c : Nat) : (sk0 c)[97]? = some (.inr (4, [some 98, some 99, some 100, none])) := rfl
theorem sk_98 (c : Nat) : (sk0 c)[98]? = some (.inl 20) := rfl
theorem sk_99 (c : Nat) : (sk0 c)[99]? = some (.inl 20) := rfl
theorem sk_100 (c : Nat) : (sk0 c)[100]? = some (.inl 20) := rfl
theorem sk_101 (c : Nat) : (sk0 c)[101]? = some (.inr (3, [some 102, some 103, some 104, some 105, none, none])) := rfl
theorem sk_102 (c : Nat) : (sk0 c)[102]? = some (.inl 400) := rfl
theorem sk_103 (c : Nat) : (sk0 c)[103]? = some (.inl 17) := rfl
theorem sk_104 (c : Nat) : (sk0 c)[104]? = some (.inl 16) := rfl
theorem sk_105 (c : Nat) : (sk0 c)[105]? = some (.inl 64) := rfl
theorem sk_106 (c : Nat) : (sk0 c)[106]? = some (.inr (9, [some 107, some 108, some 109, some 110, some 111, some 112, some 113, some 114, some 115, none, none])) := rfl
theorem sk_107 (c : Nat) : (sk0 c)[107]? = some (.inl 30) := rfl
theorem sk_108 (c : Nat) : (sk0 c)[108]? = some (.inl 30) := rfl
theorem sk_109 (c : Nat) : (sk0 c)[109]? = some (.inl 30) := rfl
theorem sk_110 (c : Nat) : (sk0 c)[110]? = some (.inl 30) := rfl
theorem sk_111 (c : Nat) : (sk0 c)[111]? = some (.inl 120) := rfl
theorem sk_112 (c : Nat) : (sk0 c)[112]? = some (.inl 4) := rfl
theorem sk_113 (c : Nat) : (sk0 c)[113]? = some (.inl 20) := rfl
theorem sk_114 (c : Nat) : (sk0 c)[114]? = some (.inl 20) := rfl
theorem sk_115 (c : Nat) : (sk0 c)[115]? = some (.inl 20) := rfl
theorem sk_116 (c : Nat) : (sk0 c)[116]? = some (.inr (0, [some 117, some 118, some 119, none])) := rfl
theorem sk_117 (c : Nat) : (sk0 c)[117]? = some (.inl 300) := rfl
theorem sk_118 (c : Nat) : (sk0 c)[118]? = some (.inl 300) := rfl
theorem sk_119 (c : Nat) : (sk0 c)[119]? = some (.inl 300) := rfl
theorem sk_120 (c : Nat) : (sk0 c)[120]? = some (.inr (12, [some 121, some 122, some 123, none, some 124, some 125, some 126, some 127, some 128, none, none, none, none, none, none, none, none, none, none, none, none, none, none, none, none, none, none, some 129, some 130, none, none, none, some 131])) := rfl
theorem sk_121 (c : Nat) : (sk0 c)[121]? = some (.inl 2490) := rfl
theorem sk_122 (c : Nat) : (sk0 c)[122]? = some (.inl 2490) := rfl
theorem sk_123 (c : Nat) : (sk0 c)[123]? = some (.inl 600) := rfl
theorem sk_124 (c : Nat) : (sk0 c)[124]? = some (.inl 48) := rfl
theorem sk_125 (c : Nat) : (sk0 c)[125]? = some (.inl 820) := rfl
theorem sk_126 (c : Nat) : (sk0 c)[126]? = some (.inl 400) := rfl
theorem sk_127 (c : Nat) : (sk0 c)[127]? = some (.inl 420) := rfl
theorem sk_128 (c : Nat) : (sk0 c)[128]? = some (.inl 8) := rfl
theorem sk_129 (c : Nat) : (sk0 c)[129]? = some (.inl 30) := rfl
theorem sk_130 (c : Nat) : (sk0 c)[130]? = some (.inl 30) := rfl
theorem sk_131 (c : Nat) : (sk0 c)[131]? = some (.inl 8) := rfl
def at9 (sk : mx_Sk) (k : Nat) : Prop := sk[k]? = some (.inr (9, [some (k + 1), some (k + 2), some (k + 3), some (k + 4), some (k + 5), some (k + 6), some (k + 7), some (k + 8), some (k + 9), none, none])) ∧ sk[k + 1]? = some (.inl 30) ∧ sk[k + 2]? = some (.inl 30) ∧ sk[k + 3]? = some (.inl 30) ∧ sk[k + 4]? = some (.inl 30) ∧ sk[k + 5]? = some (.inl 120) ∧ sk[k + 6]? = some (.inl 4) ∧ sk[k + 7]? = some (.inl 20) ∧ sk[k + 8]? = some (.inl 20) ∧ sk[k + 9]? = some (.inl 20)
theorem at9_33 (c : Nat) : at9 (sk0 c) 33 := ⟨rfl, rfl, rfl, rfl, rfl, rfl, rfl, rfl, rfl, rfl⟩
theorem at9_55 (c : Nat) : at9 (sk0 c) 55 := ⟨rfl, rfl, rfl, rfl, rfl, rfl, rfl, rfl, rfl, rfl⟩
theorem at9_106 (c : Nat) : at9 (sk0 c) 106 := ⟨rfl, rfl, rfl, rfl, rfl, rfl, rfl, rfl, rfl, rfl⟩

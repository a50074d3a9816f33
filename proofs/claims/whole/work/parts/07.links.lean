/-! links of the pools, constants, the layouts of the objects: written by program (wip/gen/mk07.py) -/
theorem bp_m14 : (Int8.ofInt (-14)).toInt32 = (-14) := by decide
theorem bp_m13 : (Int8.ofInt (-13)).toInt32 = (-13) := by decide
theorem bp_m12 : (Int8.ofInt (-12)).toInt32 = (-12) := by decide
theorem bp_m11 : (Int8.ofInt (-11)).toInt32 = (-11) := by decide
theorem bp_m10 : (Int8.ofInt (-10)).toInt32 = (-10) := by decide
theorem bp_m9 : (Int8.ofInt (-9)).toInt32 = (-9) := by decide
theorem bp_m3 : (Int8.ofInt (-3)).toInt32 = (-3) := by decide
theorem bp_6 : (Int8.ofInt 6).toInt32 = 6 := by decide
theorem bp_7 : (Int8.ofInt 7).toInt32 = 7 := by decide
theorem bp_8 : (Int8.ofInt 8).toInt32 = 8 := by decide
theorem bp_9 : (Int8.ofInt 9).toInt32 = 9 := by decide
theorem bp_10 : (Int8.ofInt 10).toInt32 = 10 := by decide
theorem bp_11 : (Int8.ofInt 11).toInt32 = 11 := by decide
theorem bp_12 : (Int8.ofInt 12).toInt32 = 12 := by decide
theorem bp_13 : (Int8.ofInt 13).toInt32 = 13 := by decide
theorem bp_14 : (Int8.ofInt 14).toInt32 = 14 := by decide
theorem bp_15 : (Int8.ofInt 15).toInt32 = 15 := by decide
theorem bp_16 : (Int8.ofInt 16).toInt32 = 16 := by decide
theorem bp_20 : (Int8.ofInt 20).toInt32 = 20 := by decide
theorem bp_23 : (Int8.ofInt 23).toInt32 = 23 := by decide
theorem bp_24 : (Int8.ofInt 24).toInt32 = 24 := by decide
theorem bp_26 : (Int8.ofInt 26).toInt32 = 26 := by decide
theorem bp_32 : (Int8.ofInt 32).toInt32 = 32 := by decide
theorem bp_35 : (Int8.ofInt 35).toInt32 = 35 := by decide
theorem bp_40 : (Int8.ofInt 40).toInt32 = 40 := by decide
theorem bp_41 : (Int8.ofInt 41).toInt32 = 41 := by decide
theorem bp_43 : (Int8.ofInt 43).toInt32 = 43 := by decide
theorem bp_48 : (Int8.ofInt 48).toInt32 = 48 := by decide
theorem bp_50 : (Int8.ofInt 50).toInt32 = 50 := by decide
theorem bp_57 : (Int8.ofInt 57).toInt32 = 57 := by decide
theorem bp_59 : (Int8.ofInt 59).toInt32 = 59 := by decide
theorem bp_60 : (Int8.ofInt 60).toInt32 = 60 := by decide
theorem bp_62 : (Int8.ofInt 62).toInt32 = 62 := by decide
theorem bp_63 : (Int8.ofInt 63).toInt32 = 63 := by decide
theorem bp_65 : (Int8.ofInt 65).toInt32 = 65 := by decide
theorem bp_74 : (Int8.ofInt 74).toInt32 = 74 := by decide
theorem bp_97 : (Int8.ofInt 97).toInt32 = 97 := by decide
theorem bp_99 : (Int8.ofInt 99).toInt32 = 99 := by decide
theorem bp_122 : (Int8.ofInt 122).toInt32 = 122 := by decide
theorem bp_123 : (Int8.ofInt 123).toInt32 = 123 := by decide
theorem bp_124 : (Int8.ofInt 124).toInt32 = 124 := by decide
theorem bp_125 : (Int8.ofInt 125).toInt32 = 125 := by decide
theorem bp_126 : (Int8.ofInt 126).toInt32 = 126 := by decide
theorem bp_127 : (Int8.ofInt 127).toInt32 = 127 := by decide
theorem ic_m8 : Int32.ofInt (-8) = (-8) := by decide
theorem ic_m1 : Int32.ofInt (-1) = (-1) := by decide
theorem ic_0 : Int32.ofInt 0 = 0 := by decide
theorem ic_1 : Int32.ofInt 1 = 1 := by decide
theorem ic_2 : Int32.ofInt 2 = 2 := by decide
theorem ic_3 : Int32.ofInt 3 = 3 := by decide
theorem ic_4 : Int32.ofInt 4 = 4 := by decide
theorem ic_5 : Int32.ofInt 5 = 5 := by decide
theorem ol_24 : Int32.ofNat 24 = 24 := by decide
theorem ol_32 : Int32.ofNat 32 = 32 := by decide
theorem ol_208 : Int32.ofNat 208 = 208 := by decide
theorem ol_360 : Int32.ofNat 360 = 360 := by decide
theorem ol_400 : Int32.ofNat 400 = 400 := by decide
theorem sp_144 : (Int16.ofInt 144).toInt32 = 144 := by decide
theorem sp_208 : (Int16.ofInt 208).toInt32 = 208 := by decide
theorem sp_255 : (Int16.ofInt 255).toInt32 = 255 := by decide
theorem sp_359 : (Int16.ofInt 359).toInt32 = 359 := by decide
theorem sp_400 : (Int16.ofInt 400).toInt32 = 400 := by decide
theorem sp_482 : (Int16.ofInt 482).toInt32 = 482 := by decide
theorem sp_483 : (Int16.ofInt 483).toInt32 = 483 := by decide
theorem sp_531 : (Int16.ofInt 531).toInt32 = 531 := by decide
theorem sp_849 : (Int16.ofInt 849).toInt32 = 849 := by decide
theorem sp_999 : (Int16.ofInt 999).toInt32 = 999 := by decide
theorem sp_1331 : (Int16.ofInt 1331).toInt32 = 1331 := by decide
theorem sp_1332 : (Int16.ofInt 1332).toInt32 = 1332 := by decide
theorem sp_1380 : (Int16.ofInt 1380).toInt32 = 1380 := by decide
theorem sp_5302 : (Int16.ofInt 5302).toInt32 = 5302 := by decide
theorem sp_6561 : (Int16.ofInt 6561).toInt32 = 6561 := by decide
theorem sp_9999 : (Int16.ofInt 9999).toInt32 = 9999 := by decide
theorem sp_12345 : (Int16.ofInt 12345).toInt32 = 12345 := by decide
theorem sp_32767 : (Int16.ofInt 32767).toInt32 = 32767 := by decide
theorem sh_0 : ea_sh 0 = .inr (.inl (11, [some 1, none, none, some 2, some 16, some 24, some 38, some 46, some 48, none, some 50, some 64, some 72, none, none, some 73, some 76, some 79, none, some 80, some 83])) := rfl
theorem sh_1 : ea_sh 1 = .inl (0, 400) := rfl
theorem sh_2 : ea_sh 2 = .inr (.inl (2, [none, none, none, none, none, none, none, none, none, some 3, some 4, some 5, some 6, some 7, some 8, some 14])) := rfl
theorem sh_3 : ea_sh 3 = .inl (0, 13) := rfl
theorem sh_4 : ea_sh 4 = .inl (0, 6) := rfl
theorem sh_5 : ea_sh 5 = .inl (0, 6) := rfl
theorem sh_6 : ea_sh 6 = .inl (0, 6) := rfl
theorem sh_7 : ea_sh 7 = .inl (0, 6) := rfl
theorem sh_8 : ea_sh 8 = .inr (.inl (1, [none, none, some 9, some 10, some 11, some 12, some 13])) := rfl
theorem sh_9 : ea_sh 9 = .inl (0, 24) := rfl
theorem sh_10 : ea_sh 10 = .inl (0, 12) := rfl
theorem sh_11 : ea_sh 11 = .inl (0, 12) := rfl
theorem sh_12 : ea_sh 12 = .inl (0, 12) := rfl
theorem sh_13 : ea_sh 13 = .inl (0, 12) := rfl
theorem sh_14 : ea_sh 14 = .inr (.inl (6, [none, none, some 15])) := rfl
theorem sh_15 : ea_sh 15 = .inl (0, 360) := rfl
theorem sh_16 : ea_sh 16 = .inr (.inl (7, [none, none, none, none, some 17, some 18, some 19, some 20, some 21, some 22, some 23])) := rfl
theorem sh_17 : ea_sh 17 = .inl (0, 12) := rfl
theorem sh_18 : ea_sh 18 = .inl (0, 12) := rfl
theorem sh_19 : ea_sh 19 = .inl (0, 12) := rfl
theorem sh_20 : ea_sh 20 = .inl (0, 12) := rfl
theorem sh_21 : ea_sh 21 = .inl (0, 400) := rfl
theorem sh_22 : ea_sh 22 = .inl (0, 8) := rfl
theorem sh_23 : ea_sh 23 = .inl (0, 32) := rfl
theorem sh_24 : ea_sh 24 = .inr (.inl (2, [none, none, none, none, none, none, none, none, none, some 25, some 26, some 27, some 28, some 29, some 30, some 36])) := rfl
theorem sh_25 : ea_sh 25 = .inl (0, 13) := rfl
theorem sh_26 : ea_sh 26 = .inl (0, 6) := rfl
theorem sh_27 : ea_sh 27 = .inl (0, 6) := rfl
theorem sh_28 : ea_sh 28 = .inl (0, 6) := rfl
theorem sh_29 : ea_sh 29 = .inl (0, 6) := rfl
theorem sh_30 : ea_sh 30 = .inr (.inl (1, [none, none, some 31, some 32, some 33, some 34, some 35])) := rfl
theorem sh_31 : ea_sh 31 = .inl (0, 24) := rfl
theorem sh_32 : ea_sh 32 = .inl (0, 12) := rfl
theorem sh_33 : ea_sh 33 = .inl (0, 12) := rfl
theorem sh_34 : ea_sh 34 = .inl (0, 12) := rfl
theorem sh_35 : ea_sh 35 = .inl (0, 12) := rfl
theorem sh_36 : ea_sh 36 = .inr (.inl (6, [none, none, some 37])) := rfl
theorem sh_37 : ea_sh 37 = .inl (0, 360) := rfl
theorem sh_38 : ea_sh 38 = .inr (.inl (7, [none, none, none, none, some 39, some 40, some 41, some 42, some 43, some 44, some 45])) := rfl
theorem sh_39 : ea_sh 39 = .inl (0, 12) := rfl
theorem sh_40 : ea_sh 40 = .inl (0, 12) := rfl
theorem sh_41 : ea_sh 41 = .inl (0, 12) := rfl
theorem sh_42 : ea_sh 42 = .inl (0, 12) := rfl
theorem sh_43 : ea_sh 43 = .inl (0, 400) := rfl
theorem sh_44 : ea_sh 44 = .inl (0, 8) := rfl
theorem sh_45 : ea_sh 45 = .inl (0, 32) := rfl
theorem sh_46 : ea_sh 46 = .inr (.inl (3, [some 47, some 24])) := rfl
theorem sh_47 : ea_sh 47 = .inr (.inl (9, [some 1, none, none, none, none, none, none])) := rfl
theorem sh_48 : ea_sh 48 = .inr (.inl (8, [some 49, some 38])) := rfl
theorem sh_49 : ea_sh 49 = .inr (.inl (9, [some 1, none, none, none, none, none, none])) := rfl
theorem sh_50 : ea_sh 50 = .inr (.inl (2, [none, none, none, none, none, none, none, none, none, some 51, some 52, some 53, some 54, some 55, some 56, some 62])) := rfl
theorem sh_51 : ea_sh 51 = .inl (0, 13) := rfl
theorem sh_52 : ea_sh 52 = .inl (0, 6) := rfl
theorem sh_53 : ea_sh 53 = .inl (0, 6) := rfl
theorem sh_54 : ea_sh 54 = .inl (0, 6) := rfl
theorem sh_55 : ea_sh 55 = .inl (0, 6) := rfl
theorem sh_56 : ea_sh 56 = .inr (.inl (1, [none, none, some 57, some 58, some 59, some 60, some 61])) := rfl
theorem sh_57 : ea_sh 57 = .inl (0, 24) := rfl
theorem sh_58 : ea_sh 58 = .inl (0, 12) := rfl
theorem sh_59 : ea_sh 59 = .inl (0, 12) := rfl
theorem sh_60 : ea_sh 60 = .inl (0, 12) := rfl
theorem sh_61 : ea_sh 61 = .inl (0, 12) := rfl
theorem sh_62 : ea_sh 62 = .inr (.inl (6, [none, none, some 63])) := rfl
theorem sh_63 : ea_sh 63 = .inl (0, 360) := rfl
theorem sh_64 : ea_sh 64 = .inr (.inl (7, [none, none, none, none, some 65, some 66, some 67, some 68, some 69, some 70, some 71])) := rfl
theorem sh_65 : ea_sh 65 = .inl (0, 12) := rfl
theorem sh_66 : ea_sh 66 = .inl (0, 12) := rfl
theorem sh_67 : ea_sh 67 = .inl (0, 12) := rfl
theorem sh_68 : ea_sh 68 = .inl (0, 12) := rfl
theorem sh_69 : ea_sh 69 = .inl (0, 400) := rfl
theorem sh_70 : ea_sh 70 = .inl (0, 8) := rfl
theorem sh_71 : ea_sh 71 = .inl (0, 32) := rfl
theorem sh_72 : ea_sh 72 = .inr (.inr (3, [86, 100, 114, 128, 142, 156, 170, 184, 198, 212, 226, 240])) := rfl
theorem sh_73 : ea_sh 73 = .inr (.inl (0, [some 2, some 16, some 74, some 75, none, none, none])) := rfl
theorem sh_74 : ea_sh 74 = .inr (.inl (5, [none, none, none, none, none, none])) := rfl
theorem sh_75 : ea_sh 75 = .inr (.inl (5, [none, none, none, none, none, none])) := rfl
theorem sh_76 : ea_sh 76 = .inr (.inl (10, [some 73, some 77, some 78])) := rfl
theorem sh_77 : ea_sh 77 = .inl (0, 208) := rfl
theorem sh_78 : ea_sh 78 = .inl (0, 208) := rfl
theorem sh_79 : ea_sh 79 = .inr (.inr (4, [254, 257, 260, 263, 266, 269])) := rfl
theorem sh_80 : ea_sh 80 = .inr (.inl (4, [none, none, some 81, some 82])) := rfl
theorem sh_81 : ea_sh 81 = .inl (0, 128) := rfl
theorem sh_82 : ea_sh 82 = .inl (0, 9) := rfl
theorem sh_83 : ea_sh 83 = .inr (.inl (4, [none, none, some 84, some 85])) := rfl
theorem sh_84 : ea_sh 84 = .inl (0, 128) := rfl
theorem sh_85 : ea_sh 85 = .inl (0, 9) := rfl
theorem sh_272 : ea_sh 272 = .inr (.inl (12, [none, some 273, some 274, some 275, some 276, some 277, none, none, some 278, none, none, none, none, none, none, some 279, none, some 280, none, none, none, none, some 281, some 282, some 283, none, none, some 284, some 285, some 286])) := rfl
theorem sh_273 : ea_sh 273 = .inl (0, 2180) := rfl
theorem sh_274 : ea_sh 274 = .inl (0, 1331) := rfl
theorem sh_275 : ea_sh 275 = .inl (0, 1331) := rfl
theorem sh_276 : ea_sh 276 = .inl (0, 482) := rfl
theorem sh_277 : ea_sh 277 = .inl (0, 5784) := rfl
theorem sh_278 : ea_sh 278 = .inl (1, 400) := rfl
theorem sh_279 : ea_sh 279 = .inl (0, 5) := rfl
theorem sh_280 : ea_sh 280 = .inl (0, 400) := rfl
theorem sh_281 : ea_sh 281 = .inl (0, 208) := rfl
theorem sh_282 : ea_sh 282 = .inl (0, 208) := rfl
theorem sh_283 : ea_sh 283 = .inl (0, 144) := rfl
theorem sh_284 : ea_sh 284 = .inl (0, 8) := rfl
theorem sh_285 : ea_sh 285 = .inl (0, 2) := rfl
theorem sh_286 : ea_sh 286 = .inl (0, 54) := rfl
theorem sh_287 : ea_sh 287 = .inl (2, 1) := rfl
def ea_isBench (a : Nat) : Prop := ea_sh a = .inr (.inl (1, [none, none, some (a + 1), some (a + 2), some (a + 3), some (a + 4), some (a + 5)])) ∧ ea_sh (a + 1) = .inl (0, 24) ∧ ea_sh (a + 2) = .inl (0, 12) ∧ ea_sh (a + 3) = .inl (0, 12) ∧ ea_sh (a + 4) = .inl (0, 12) ∧ ea_sh (a + 5) = .inl (0, 12)
def ea_isJournal (a : Nat) : Prop := ea_sh a = .inr (.inl (6, [none, none, some (a + 1)])) ∧ ea_sh (a + 1) = .inl (0, 360)
def ea_isCourt (a : Nat) : Prop := ea_sh a = .inr (.inl (2, [none, none, none, none, none, none, none, none, none, some (a + 1), some (a + 2), some (a + 3), some (a + 4), some (a + 5), some (a + 6), some (a + 12)])) ∧ ea_sh (a + 1) = .inl (0, 13) ∧ ea_sh (a + 2) = .inl (0, 6) ∧ ea_sh (a + 3) = .inl (0, 6) ∧ ea_sh (a + 4) = .inl (0, 6) ∧ ea_sh (a + 5) = .inl (0, 6) ∧ ea_isBench (a + 6) ∧ ea_isJournal (a + 12)
def ea_isLaw (a : Nat) : Prop := ea_sh a = .inr (.inl (7, [none, none, none, none, some (a + 1), some (a + 2), some (a + 3), some (a + 4), some (a + 5), some (a + 6), some (a + 7)])) ∧ ea_sh (a + 1) = .inl (0, 12) ∧ ea_sh (a + 2) = .inl (0, 12) ∧ ea_sh (a + 3) = .inl (0, 12) ∧ ea_sh (a + 4) = .inl (0, 12) ∧ ea_sh (a + 5) = .inl (0, 400) ∧ ea_sh (a + 6) = .inl (0, 8) ∧ ea_sh (a + 7) = .inl (0, 32)
def ea_isFates (a : Nat) : Prop := ea_sh a = .inr (.inl (4, [none, none, some (a + 1), some (a + 2)])) ∧ ea_sh (a + 1) = .inl (0, 128) ∧ ea_sh (a + 2) = .inl (0, 9)
def ea_isFeather (a : Nat) : Prop := ea_sh a = .inr (.inl (5, [none, none, none, none, none, none]))
def ea_isReader (a : Nat) : Prop := ea_sh a = .inr (.inl (9, [some 1, none, none, none, none, none, none]))
theorem is_Bench_8 : ea_isBench 8 := ⟨rfl, rfl, rfl, rfl, rfl, rfl⟩
theorem is_Journal_14 : ea_isJournal 14 := ⟨rfl, rfl⟩
theorem is_Bench_30 : ea_isBench 30 := ⟨rfl, rfl, rfl, rfl, rfl, rfl⟩
theorem is_Journal_36 : ea_isJournal 36 := ⟨rfl, rfl⟩
theorem is_Bench_56 : ea_isBench 56 := ⟨rfl, rfl, rfl, rfl, rfl, rfl⟩
theorem is_Journal_62 : ea_isJournal 62 := ⟨rfl, rfl⟩
theorem is_Bench_92 : ea_isBench 92 := ⟨rfl, rfl, rfl, rfl, rfl, rfl⟩
theorem is_Journal_98 : ea_isJournal 98 := ⟨rfl, rfl⟩
theorem is_Bench_106 : ea_isBench 106 := ⟨rfl, rfl, rfl, rfl, rfl, rfl⟩
theorem is_Journal_112 : ea_isJournal 112 := ⟨rfl, rfl⟩
theorem is_Bench_120 : ea_isBench 120 := ⟨rfl, rfl, rfl, rfl, rfl, rfl⟩
theorem is_Journal_126 : ea_isJournal 126 := ⟨rfl, rfl⟩
theorem is_Bench_134 : ea_isBench 134 := ⟨rfl, rfl, rfl, rfl, rfl, rfl⟩
theorem is_Journal_140 : ea_isJournal 140 := ⟨rfl, rfl⟩
theorem is_Bench_148 : ea_isBench 148 := ⟨rfl, rfl, rfl, rfl, rfl, rfl⟩
theorem is_Journal_154 : ea_isJournal 154 := ⟨rfl, rfl⟩
theorem is_Bench_162 : ea_isBench 162 := ⟨rfl, rfl, rfl, rfl, rfl, rfl⟩
theorem is_Journal_168 : ea_isJournal 168 := ⟨rfl, rfl⟩
theorem is_Bench_176 : ea_isBench 176 := ⟨rfl, rfl, rfl, rfl, rfl, rfl⟩
theorem is_Journal_182 : ea_isJournal 182 := ⟨rfl, rfl⟩
theorem is_Bench_190 : ea_isBench 190 := ⟨rfl, rfl, rfl, rfl, rfl, rfl⟩
theorem is_Journal_196 : ea_isJournal 196 := ⟨rfl, rfl⟩
theorem is_Bench_204 : ea_isBench 204 := ⟨rfl, rfl, rfl, rfl, rfl, rfl⟩
theorem is_Journal_210 : ea_isJournal 210 := ⟨rfl, rfl⟩
theorem is_Bench_218 : ea_isBench 218 := ⟨rfl, rfl, rfl, rfl, rfl, rfl⟩
theorem is_Journal_224 : ea_isJournal 224 := ⟨rfl, rfl⟩
theorem is_Bench_232 : ea_isBench 232 := ⟨rfl, rfl, rfl, rfl, rfl, rfl⟩
theorem is_Journal_238 : ea_isJournal 238 := ⟨rfl, rfl⟩
theorem is_Bench_246 : ea_isBench 246 := ⟨rfl, rfl, rfl, rfl, rfl, rfl⟩
theorem is_Journal_252 : ea_isJournal 252 := ⟨rfl, rfl⟩
theorem is_Court_2 : ea_isCourt 2 := ⟨rfl, rfl, rfl, rfl, rfl, rfl, is_Bench_8, is_Journal_14⟩
theorem is_Law_16 : ea_isLaw 16 := ⟨rfl, rfl, rfl, rfl, rfl, rfl, rfl, rfl⟩
theorem is_Court_24 : ea_isCourt 24 := ⟨rfl, rfl, rfl, rfl, rfl, rfl, is_Bench_30, is_Journal_36⟩
theorem is_Law_38 : ea_isLaw 38 := ⟨rfl, rfl, rfl, rfl, rfl, rfl, rfl, rfl⟩
theorem is_Reader_47 : ea_isReader 47 := rfl
theorem is_Reader_49 : ea_isReader 49 := rfl
theorem is_Court_50 : ea_isCourt 50 := ⟨rfl, rfl, rfl, rfl, rfl, rfl, is_Bench_56, is_Journal_62⟩
theorem is_Law_64 : ea_isLaw 64 := ⟨rfl, rfl, rfl, rfl, rfl, rfl, rfl, rfl⟩
theorem is_Feather_74 : ea_isFeather 74 := rfl
theorem is_Feather_75 : ea_isFeather 75 := rfl
theorem is_Fates_80 : ea_isFates 80 := ⟨rfl, rfl, rfl⟩
theorem is_Fates_83 : ea_isFates 83 := ⟨rfl, rfl, rfl⟩
theorem is_Court_86 : ea_isCourt 86 := ⟨rfl, rfl, rfl, rfl, rfl, rfl, is_Bench_92, is_Journal_98⟩
theorem is_Court_100 : ea_isCourt 100 := ⟨rfl, rfl, rfl, rfl, rfl, rfl, is_Bench_106, is_Journal_112⟩
theorem is_Court_114 : ea_isCourt 114 := ⟨rfl, rfl, rfl, rfl, rfl, rfl, is_Bench_120, is_Journal_126⟩
theorem is_Court_128 : ea_isCourt 128 := ⟨rfl, rfl, rfl, rfl, rfl, rfl, is_Bench_134, is_Journal_140⟩
theorem is_Court_142 : ea_isCourt 142 := ⟨rfl, rfl, rfl, rfl, rfl, rfl, is_Bench_148, is_Journal_154⟩
theorem is_Court_156 : ea_isCourt 156 := ⟨rfl, rfl, rfl, rfl, rfl, rfl, is_Bench_162, is_Journal_168⟩
theorem is_Court_170 : ea_isCourt 170 := ⟨rfl, rfl, rfl, rfl, rfl, rfl, is_Bench_176, is_Journal_182⟩
theorem is_Court_184 : ea_isCourt 184 := ⟨rfl, rfl, rfl, rfl, rfl, rfl, is_Bench_190, is_Journal_196⟩
theorem is_Court_198 : ea_isCourt 198 := ⟨rfl, rfl, rfl, rfl, rfl, rfl, is_Bench_204, is_Journal_210⟩
theorem is_Court_212 : ea_isCourt 212 := ⟨rfl, rfl, rfl, rfl, rfl, rfl, is_Bench_218, is_Journal_224⟩
theorem is_Court_226 : ea_isCourt 226 := ⟨rfl, rfl, rfl, rfl, rfl, rfl, is_Bench_232, is_Journal_238⟩
theorem is_Court_240 : ea_isCourt 240 := ⟨rfl, rfl, rfl, rfl, rfl, rfl, is_Bench_246, is_Journal_252⟩
theorem is_Fates_254 : ea_isFates 254 := ⟨rfl, rfl, rfl⟩
theorem is_Fates_257 : ea_isFates 257 := ⟨rfl, rfl, rfl⟩
theorem is_Fates_260 : ea_isFates 260 := ⟨rfl, rfl, rfl⟩
theorem is_Fates_263 : ea_isFates 263 := ⟨rfl, rfl, rfl⟩
theorem is_Fates_266 : ea_isFates 266 := ⟨rfl, rfl, rfl⟩
theorem is_Fates_269 : ea_isFates 269 := ⟨rfl, rfl, rfl⟩
def ea_rCourt : List Nat := [86, 100, 114, 128, 142, 156, 170, 184, 198, 212, 226, 240]
def ea_rFates : List Nat := [254, 257, 260, 263, 266, 269]
theorem ea_rCourt_is : ∀ r ∈ ea_rCourt, ea_isCourt r := by
  intro r hr
  simp only [ea_rCourt, List.mem_cons, List.not_mem_nil, or_false] at hr
  rcases hr with rfl | rfl | rfl | rfl | rfl | rfl | rfl | rfl | rfl | rfl | rfl | rfl
  · exact is_Court_86
  · exact is_Court_100
  · exact is_Court_114
  · exact is_Court_128
  · exact is_Court_142
  · exact is_Court_156
  · exact is_Court_170
  · exact is_Court_184
  · exact is_Court_198
  · exact is_Court_212
  · exact is_Court_226
  · exact is_Court_240
theorem ea_rFates_is : ∀ r ∈ ea_rFates, ea_isFates r := by
  intro r hr
  simp only [ea_rFates, List.mem_cons, List.not_mem_nil, or_false] at hr
  rcases hr with rfl | rfl | rfl | rfl | rfl | rfl
  · exact is_Fates_254
  · exact is_Fates_257
  · exact is_Fates_260
  · exact is_Fates_263
  · exact is_Fates_266
  · exact is_Fates_269
theorem cast_2 : Cond.castable (ea_exn 2) "java/lang/IllegalArgumentException" ∈ lw_tbl := List.mem_append_right _ (List.mem_of_getElem? (i := 796) (by decide +kernel))
theorem cast_3 : Cond.castable (ea_exn 3) "java/lang/IllegalStateException" ∈ lw_tbl := List.mem_append_right _ (List.mem_of_getElem? (i := 1081) (by decide +kernel))
theorem cast_1 : Cond.castable (ea_exn 1) "java/lang/IndexOutOfBoundsException" ∈ lw_tbl := List.mem_append_right _ (List.mem_of_getElem? (i := 982) (by decide +kernel))
theorem cast_5 : Cond.castable (ea_exn 5) "java/lang/UnsupportedOperationException" ∈ lw_tbl := List.mem_append_right _ (List.mem_of_getElem? (i := 866) (by decide +kernel))
theorem cast_4 : Cond.castable (ea_exn 4) "java/util/NoSuchElementException" ∈ lw_tbl := List.mem_append_right _ (List.mem_of_getElem? (i := 998) (by decide +kernel))
theorem cl_X11_129 : Cond.classLink RX11 129 "java/lang/IllegalArgumentException" ∈ lw_tbl := List.mem_append_right _ (List.mem_of_getElem? (i := 794) (by decide +kernel))
theorem cl_X11_139 : Cond.classLink RX11 139 "java/lang/UnsupportedOperationException" ∈ lw_tbl := List.mem_append_right _ (List.mem_of_getElem? (i := 864) (by decide +kernel))
theorem cl_X11_172 : Cond.classLink RX11 172 "java/util/NoSuchElementException" ∈ lw_tbl := List.mem_append_right _ (List.mem_of_getElem? (i := 996) (by decide +kernel))
theorem cl_X11_276 : Cond.classLink RX11 276 "java/lang/IllegalStateException" ∈ lw_tbl := List.mem_append_right _ (List.mem_of_getElem? (i := 1079) (by decide +kernel))
theorem cl_X11_433 : Cond.classLink RX11 433 "java/lang/IndexOutOfBoundsException" ∈ lw_tbl := List.mem_append_right _ (List.mem_of_getElem? (i := 980) (by decide +kernel))
theorem cl_L_13 : Cond.classLink RL 13 "java/lang/IllegalArgumentException" ∈ lw_tbl := List.mem_append_right _ (List.mem_of_getElem? (i := 637) (by decide +kernel))
theorem cl_L_15 : Cond.classLink RL 15 "java/lang/UnsupportedOperationException" ∈ lw_tbl := List.mem_append_right _ (List.mem_of_getElem? (i := 638) (by decide +kernel))
theorem cl_L_24 : Cond.classLink RL 24 "java/lang/IndexOutOfBoundsException" ∈ lw_tbl := List.mem_append_right _ (List.mem_of_getElem? (i := 970) (by decide +kernel))
theorem cl_L_26 : Cond.classLink RL 26 "java/util/NoSuchElementException" ∈ lw_tbl := List.mem_append_right _ (List.mem_of_getElem? (i := 971) (by decide +kernel))
theorem cl_L_46 : Cond.classLink RL 46 "java/lang/IllegalStateException" ∈ lw_tbl := List.mem_append_right _ (List.mem_of_getElem? (i := 1074) (by decide +kernel))
theorem fl_X0_100 : ea_FL RX0 100 5 4 := ⟨_, _, _, rfl, by decide, List.mem_append_right _ (List.mem_of_getElem? (i := 322) (by decide +kernel))⟩
theorem fl_X0_103 : ea_FL RX0 103 5 5 := ⟨_, _, _, rfl, by decide, List.mem_append_right _ (List.mem_of_getElem? (i := 325) (by decide +kernel))⟩
theorem fl_X0_12 : ea_FL RX0 12 0 2 := ⟨_, _, _, rfl, by decide, List.mem_append_right _ (List.mem_of_getElem? (i := 342) (by decide +kernel))⟩
theorem fl_X0_18 : ea_FL RX0 18 0 3 := ⟨_, _, _, rfl, by decide, List.mem_append_right _ (List.mem_of_getElem? (i := 344) (by decide +kernel))⟩
theorem fl_X0_21 : ea_FL RX0 21 0 4 := ⟨_, _, _, rfl, by decide, List.mem_append_right _ (List.mem_of_getElem? (i := 345) (by decide +kernel))⟩
theorem fl_X0_25 : ea_FL RX0 25 0 5 := ⟨_, _, _, rfl, by decide, List.mem_append_right _ (List.mem_of_getElem? (i := 348) (by decide +kernel))⟩
theorem fl_X0_28 : ea_FL RX0 28 0 6 := ⟨_, _, _, rfl, by decide, List.mem_append_right _ (List.mem_of_getElem? (i := 351) (by decide +kernel))⟩
theorem fl_X0_31 : ea_FL RX0 31 0 0 := ⟨_, _, _, rfl, by decide, List.mem_append_right _ (List.mem_of_getElem? (i := 339) (by decide +kernel))⟩
theorem fl_X0_35 : ea_FL RX0 35 0 1 := ⟨_, _, _, rfl, by decide, List.mem_append_right _ (List.mem_of_getElem? (i := 341) (by decide +kernel))⟩
theorem fl_X0_39 : ea_FL RX0 39 2 11 := ⟨_, _, _, rfl, by decide, List.mem_append_right _ (List.mem_of_getElem? (i := 141) (by decide +kernel))⟩
theorem fl_X0_45 : ea_FL RX0 45 7 9 := ⟨_, _, _, rfl, by decide, List.mem_append_right _ (List.mem_of_getElem? (i := 208) (by decide +kernel))⟩
theorem fl_X0_50 : ea_FL RX0 50 2 4 := ⟨_, _, _, rfl, by decide, List.mem_append_right _ (List.mem_of_getElem? (i := 120) (by decide +kernel))⟩
theorem fl_X0_53 : ea_FL RX0 53 2 1 := ⟨_, _, _, rfl, by decide, List.mem_append_right _ (List.mem_of_getElem? (i := 110) (by decide +kernel))⟩
theorem fl_X0_63 : ea_FL RX0 63 2 10 := ⟨_, _, _, rfl, by decide, List.mem_append_right _ (List.mem_of_getElem? (i := 137) (by decide +kernel))⟩
theorem fl_X0_66 : ea_FL RX0 66 7 2 := ⟨_, _, _, rfl, by decide, List.mem_append_right _ (List.mem_of_getElem? (i := 199) (by decide +kernel))⟩
theorem fl_X0_78 : ea_FL RX0 78 2 9 := ⟨_, _, _, rfl, by decide, List.mem_append_right _ (List.mem_of_getElem? (i := 133) (by decide +kernel))⟩
theorem fl_X0_81 : ea_FL RX0 81 7 3 := ⟨_, _, _, rfl, by decide, List.mem_append_right _ (List.mem_of_getElem? (i := 201) (by decide +kernel))⟩
theorem fl_X0_84 : ea_FL RX0 84 5 0 := ⟨_, _, _, rfl, by decide, List.mem_append_right _ (List.mem_of_getElem? (i := 312) (by decide +kernel))⟩
theorem fl_X0_87 : ea_FL RX0 87 5 1 := ⟨_, _, _, rfl, by decide, List.mem_append_right _ (List.mem_of_getElem? (i := 314) (by decide +kernel))⟩
theorem fl_X0_90 : ea_FL RX0 90 2 0 := ⟨_, _, _, rfl, by decide, List.mem_append_right _ (List.mem_of_getElem? (i := 105) (by decide +kernel))⟩
theorem fl_X0_93 : ea_FL RX0 93 5 2 := ⟨_, _, _, rfl, by decide, List.mem_append_right _ (List.mem_of_getElem? (i := 316) (by decide +kernel))⟩
theorem fl_X0_96 : ea_FL RX0 96 5 3 := ⟨_, _, _, rfl, by decide, List.mem_append_right _ (List.mem_of_getElem? (i := 319) (by decide +kernel))⟩
theorem fl_X1_15 : ea_FL RX1 15 1 1 := ⟨_, _, _, rfl, by decide, List.mem_append_right _ (List.mem_of_getElem? (i := 53) (by decide +kernel))⟩
theorem fl_X1_18 : ea_FL RX1 18 1 2 := ⟨_, _, _, rfl, by decide, List.mem_append_right _ (List.mem_of_getElem? (i := 56) (by decide +kernel))⟩
theorem fl_X1_22 : ea_FL RX1 22 1 3 := ⟨_, _, _, rfl, by decide, List.mem_append_right _ (List.mem_of_getElem? (i := 58) (by decide +kernel))⟩
theorem fl_X1_25 : ea_FL RX1 25 1 4 := ⟨_, _, _, rfl, by decide, List.mem_append_right _ (List.mem_of_getElem? (i := 61) (by decide +kernel))⟩
theorem fl_X1_28 : ea_FL RX1 28 1 5 := ⟨_, _, _, rfl, by decide, List.mem_append_right _ (List.mem_of_getElem? (i := 64) (by decide +kernel))⟩
theorem fl_X1_31 : ea_FL RX1 31 1 6 := ⟨_, _, _, rfl, by decide, List.mem_append_right _ (List.mem_of_getElem? (i := 67) (by decide +kernel))⟩
theorem fl_X1_9 : ea_FL RX1 9 1 0 := ⟨_, _, _, rfl, by decide, List.mem_append_right _ (List.mem_of_getElem? (i := 50) (by decide +kernel))⟩
theorem fl_X2_15 : ea_FL RX2 15 2 1 := ⟨_, _, _, rfl, by decide, List.mem_append_right _ (List.mem_of_getElem? (i := 108) (by decide +kernel))⟩
theorem fl_X2_18 : ea_FL RX2 18 2 2 := ⟨_, _, _, rfl, by decide, List.mem_append_right _ (List.mem_of_getElem? (i := 113) (by decide +kernel))⟩
theorem fl_X2_21 : ea_FL RX2 21 2 3 := ⟨_, _, _, rfl, by decide, List.mem_append_right _ (List.mem_of_getElem? (i := 116) (by decide +kernel))⟩
theorem fl_X2_24 : ea_FL RX2 24 2 4 := ⟨_, _, _, rfl, by decide, List.mem_append_right _ (List.mem_of_getElem? (i := 119) (by decide +kernel))⟩
theorem fl_X2_27 : ea_FL RX2 27 2 5 := ⟨_, _, _, rfl, by decide, List.mem_append_right _ (List.mem_of_getElem? (i := 123) (by decide +kernel))⟩
theorem fl_X2_30 : ea_FL RX2 30 2 6 := ⟨_, _, _, rfl, by decide, List.mem_append_right _ (List.mem_of_getElem? (i := 125) (by decide +kernel))⟩
theorem fl_X2_33 : ea_FL RX2 33 2 7 := ⟨_, _, _, rfl, by decide, List.mem_append_right _ (List.mem_of_getElem? (i := 127) (by decide +kernel))⟩
theorem fl_X2_36 : ea_FL RX2 36 2 8 := ⟨_, _, _, rfl, by decide, List.mem_append_right _ (List.mem_of_getElem? (i := 129) (by decide +kernel))⟩
theorem fl_X2_39 : ea_FL RX2 39 2 9 := ⟨_, _, _, rfl, by decide, List.mem_append_right _ (List.mem_of_getElem? (i := 132) (by decide +kernel))⟩
theorem fl_X2_43 : ea_FL RX2 43 2 10 := ⟨_, _, _, rfl, by decide, List.mem_append_right _ (List.mem_of_getElem? (i := 136) (by decide +kernel))⟩
theorem fl_X2_46 : ea_FL RX2 46 2 11 := ⟨_, _, _, rfl, by decide, List.mem_append_right _ (List.mem_of_getElem? (i := 140) (by decide +kernel))⟩
theorem fl_X2_49 : ea_FL RX2 49 2 12 := ⟨_, _, _, rfl, by decide, List.mem_append_right _ (List.mem_of_getElem? (i := 145) (by decide +kernel))⟩
theorem fl_X2_52 : ea_FL RX2 52 2 13 := ⟨_, _, _, rfl, by decide, List.mem_append_right _ (List.mem_of_getElem? (i := 148) (by decide +kernel))⟩
theorem fl_X2_58 : ea_FL RX2 58 2 14 := ⟨_, _, _, rfl, by decide, List.mem_append_right _ (List.mem_of_getElem? (i := 151) (by decide +kernel))⟩
theorem fl_X2_65 : ea_FL RX2 65 2 15 := ⟨_, _, _, rfl, by decide, List.mem_append_right _ (List.mem_of_getElem? (i := 154) (by decide +kernel))⟩
theorem fl_X2_9 : ea_FL RX2 9 2 0 := ⟨_, _, _, rfl, by decide, List.mem_append_right _ (List.mem_of_getElem? (i := 103) (by decide +kernel))⟩
theorem fl_X3_101 : ea_FL RX3 101 2 10 := ⟨_, _, _, rfl, by decide, List.mem_append_right _ (List.mem_of_getElem? (i := 138) (by decide +kernel))⟩
theorem fl_X3_106 : ea_FL RX3 106 2 11 := ⟨_, _, _, rfl, by decide, List.mem_append_right _ (List.mem_of_getElem? (i := 143) (by decide +kernel))⟩
theorem fl_X3_118 : ea_FL RX3 118 2 12 := ⟨_, _, _, rfl, by decide, List.mem_append_right _ (List.mem_of_getElem? (i := 146) (by decide +kernel))⟩
theorem fl_X3_123 : ea_FL RX3 123 2 13 := ⟨_, _, _, rfl, by decide, List.mem_append_right _ (List.mem_of_getElem? (i := 149) (by decide +kernel))⟩
theorem fl_X3_126 : ea_FL RX3 126 2 14 := ⟨_, _, _, rfl, by decide, List.mem_append_right _ (List.mem_of_getElem? (i := 152) (by decide +kernel))⟩
theorem fl_X3_130 : ea_FL RX3 130 1 0 := ⟨_, _, _, rfl, by decide, List.mem_append_right _ (List.mem_of_getElem? (i := 51) (by decide +kernel))⟩
theorem fl_X3_135 : ea_FL RX3 135 9 4 := ⟨_, _, _, rfl, by decide, List.mem_append_right _ (List.mem_of_getElem? (i := 254) (by decide +kernel))⟩
theorem fl_X3_138 : ea_FL RX3 138 9 3 := ⟨_, _, _, rfl, by decide, List.mem_append_right _ (List.mem_of_getElem? (i := 252) (by decide +kernel))⟩
theorem fl_X3_14 : ea_FL RX3 14 3 0 := ⟨_, _, _, rfl, by decide, List.mem_append_right _ (List.mem_of_getElem? (i := 276) (by decide +kernel))⟩
theorem fl_X3_141 : ea_FL RX3 141 9 0 := ⟨_, _, _, rfl, by decide, List.mem_append_right _ (List.mem_of_getElem? (i := 246) (by decide +kernel))⟩
theorem fl_X3_144 : ea_FL RX3 144 1 2 := ⟨_, _, _, rfl, by decide, List.mem_append_right _ (List.mem_of_getElem? (i := 57) (by decide +kernel))⟩
theorem fl_X3_147 : ea_FL RX3 147 1 1 := ⟨_, _, _, rfl, by decide, List.mem_append_right _ (List.mem_of_getElem? (i := 54) (by decide +kernel))⟩
theorem fl_X3_154 : ea_FL RX3 154 1 3 := ⟨_, _, _, rfl, by decide, List.mem_append_right _ (List.mem_of_getElem? (i := 59) (by decide +kernel))⟩
theorem fl_X3_157 : ea_FL RX3 157 1 4 := ⟨_, _, _, rfl, by decide, List.mem_append_right _ (List.mem_of_getElem? (i := 62) (by decide +kernel))⟩
theorem fl_X3_162 : ea_FL RX3 162 1 5 := ⟨_, _, _, rfl, by decide, List.mem_append_right _ (List.mem_of_getElem? (i := 65) (by decide +kernel))⟩
theorem fl_X3_164 : ea_FL RX3 164 1 6 := ⟨_, _, _, rfl, by decide, List.mem_append_right _ (List.mem_of_getElem? (i := 68) (by decide +kernel))⟩
theorem fl_X3_167 : ea_FL RX3 167 2 0 := ⟨_, _, _, rfl, by decide, List.mem_append_right _ (List.mem_of_getElem? (i := 106) (by decide +kernel))⟩
theorem fl_X3_171 : ea_FL RX3 171 2 1 := ⟨_, _, _, rfl, by decide, List.mem_append_right _ (List.mem_of_getElem? (i := 111) (by decide +kernel))⟩
theorem fl_X3_173 : ea_FL RX3 173 2 2 := ⟨_, _, _, rfl, by decide, List.mem_append_right _ (List.mem_of_getElem? (i := 114) (by decide +kernel))⟩
theorem fl_X3_178 : ea_FL RX3 178 2 3 := ⟨_, _, _, rfl, by decide, List.mem_append_right _ (List.mem_of_getElem? (i := 117) (by decide +kernel))⟩
theorem fl_X3_184 : ea_FL RX3 184 2 9 := ⟨_, _, _, rfl, by decide, List.mem_append_right _ (List.mem_of_getElem? (i := 134) (by decide +kernel))⟩
theorem fl_X3_20 : ea_FL RX3 20 3 1 := ⟨_, _, _, rfl, by decide, List.mem_append_right _ (List.mem_of_getElem? (i := 277) (by decide +kernel))⟩
theorem fl_X3_28 : ea_FL RX3 28 9 2 := ⟨_, _, _, rfl, by decide, List.mem_append_right _ (List.mem_of_getElem? (i := 249) (by decide +kernel))⟩
theorem fl_X3_43 : ea_FL RX3 43 9 6 := ⟨_, _, _, rfl, by decide, List.mem_append_right _ (List.mem_of_getElem? (i := 259) (by decide +kernel))⟩
theorem fl_X3_86 : ea_FL RX3 86 9 5 := ⟨_, _, _, rfl, by decide, List.mem_append_right _ (List.mem_of_getElem? (i := 257) (by decide +kernel))⟩
theorem fl_X3_89 : ea_FL RX3 89 2 4 := ⟨_, _, _, rfl, by decide, List.mem_append_right _ (List.mem_of_getElem? (i := 121) (by decide +kernel))⟩
theorem fl_X3_93 : ea_FL RX3 93 2 8 := ⟨_, _, _, rfl, by decide, List.mem_append_right _ (List.mem_of_getElem? (i := 130) (by decide +kernel))⟩
theorem fl_X4_15 : ea_FL RX4 15 4 1 := ⟨_, _, _, rfl, by decide, List.mem_append_right _ (List.mem_of_getElem? (i := 394) (by decide +kernel))⟩
theorem fl_X4_18 : ea_FL RX4 18 4 2 := ⟨_, _, _, rfl, by decide, List.mem_append_right _ (List.mem_of_getElem? (i := 397) (by decide +kernel))⟩
theorem fl_X4_22 : ea_FL RX4 22 4 3 := ⟨_, _, _, rfl, by decide, List.mem_append_right _ (List.mem_of_getElem? (i := 398) (by decide +kernel))⟩
theorem fl_X4_9 : ea_FL RX4 9 4 0 := ⟨_, _, _, rfl, by decide, List.mem_append_right _ (List.mem_of_getElem? (i := 391) (by decide +kernel))⟩
theorem fl_X6_15 : ea_FL RX6 15 6 1 := ⟨_, _, _, rfl, by decide, List.mem_append_right _ (List.mem_of_getElem? (i := 94) (by decide +kernel))⟩
theorem fl_X6_18 : ea_FL RX6 18 6 2 := ⟨_, _, _, rfl, by decide, List.mem_append_right _ (List.mem_of_getElem? (i := 95) (by decide +kernel))⟩
theorem fl_X6_9 : ea_FL RX6 9 6 0 := ⟨_, _, _, rfl, by decide, List.mem_append_right _ (List.mem_of_getElem? (i := 92) (by decide +kernel))⟩
theorem fl_X7_15 : ea_FL RX7 15 7 1 := ⟨_, _, _, rfl, by decide, List.mem_append_right _ (List.mem_of_getElem? (i := 197) (by decide +kernel))⟩
theorem fl_X7_18 : ea_FL RX7 18 7 2 := ⟨_, _, _, rfl, by decide, List.mem_append_right _ (List.mem_of_getElem? (i := 198) (by decide +kernel))⟩
theorem fl_X7_21 : ea_FL RX7 21 7 3 := ⟨_, _, _, rfl, by decide, List.mem_append_right _ (List.mem_of_getElem? (i := 200) (by decide +kernel))⟩
theorem fl_X7_24 : ea_FL RX7 24 7 4 := ⟨_, _, _, rfl, by decide, List.mem_append_right _ (List.mem_of_getElem? (i := 202) (by decide +kernel))⟩
theorem fl_X7_28 : ea_FL RX7 28 7 5 := ⟨_, _, _, rfl, by decide, List.mem_append_right _ (List.mem_of_getElem? (i := 203) (by decide +kernel))⟩
theorem fl_X7_31 : ea_FL RX7 31 7 6 := ⟨_, _, _, rfl, by decide, List.mem_append_right _ (List.mem_of_getElem? (i := 204) (by decide +kernel))⟩
theorem fl_X7_34 : ea_FL RX7 34 7 7 := ⟨_, _, _, rfl, by decide, List.mem_append_right _ (List.mem_of_getElem? (i := 205) (by decide +kernel))⟩
theorem fl_X7_37 : ea_FL RX7 37 7 8 := ⟨_, _, _, rfl, by decide, List.mem_append_right _ (List.mem_of_getElem? (i := 206) (by decide +kernel))⟩
theorem fl_X7_40 : ea_FL RX7 40 7 9 := ⟨_, _, _, rfl, by decide, List.mem_append_right _ (List.mem_of_getElem? (i := 207) (by decide +kernel))⟩
theorem fl_X7_43 : ea_FL RX7 43 7 10 := ⟨_, _, _, rfl, by decide, List.mem_append_right _ (List.mem_of_getElem? (i := 209) (by decide +kernel))⟩
theorem fl_X7_9 : ea_FL RX7 9 7 0 := ⟨_, _, _, rfl, by decide, List.mem_append_right _ (List.mem_of_getElem? (i := 195) (by decide +kernel))⟩
theorem fl_X8_14 : ea_FL RX8 14 8 0 := ⟨_, _, _, rfl, by decide, List.mem_append_right _ (List.mem_of_getElem? (i := 291) (by decide +kernel))⟩
theorem fl_X8_20 : ea_FL RX8 20 8 1 := ⟨_, _, _, rfl, by decide, List.mem_append_right _ (List.mem_of_getElem? (i := 292) (by decide +kernel))⟩
theorem fl_X8_33 : ea_FL RX8 33 9 2 := ⟨_, _, _, rfl, by decide, List.mem_append_right _ (List.mem_of_getElem? (i := 250) (by decide +kernel))⟩
theorem fl_X8_48 : ea_FL RX8 48 9 6 := ⟨_, _, _, rfl, by decide, List.mem_append_right _ (List.mem_of_getElem? (i := 260) (by decide +kernel))⟩
theorem fl_X8_62 : ea_FL RX8 62 9 5 := ⟨_, _, _, rfl, by decide, List.mem_append_right _ (List.mem_of_getElem? (i := 256) (by decide +kernel))⟩
theorem fl_X9_15 : ea_FL RX9 15 9 2 := ⟨_, _, _, rfl, by decide, List.mem_append_right _ (List.mem_of_getElem? (i := 248) (by decide +kernel))⟩
theorem fl_X9_18 : ea_FL RX9 18 9 3 := ⟨_, _, _, rfl, by decide, List.mem_append_right _ (List.mem_of_getElem? (i := 251) (by decide +kernel))⟩
theorem fl_X9_21 : ea_FL RX9 21 9 4 := ⟨_, _, _, rfl, by decide, List.mem_append_right _ (List.mem_of_getElem? (i := 253) (by decide +kernel))⟩
theorem fl_X9_24 : ea_FL RX9 24 9 5 := ⟨_, _, _, rfl, by decide, List.mem_append_right _ (List.mem_of_getElem? (i := 255) (by decide +kernel))⟩
theorem fl_X9_27 : ea_FL RX9 27 9 6 := ⟨_, _, _, rfl, by decide, List.mem_append_right _ (List.mem_of_getElem? (i := 258) (by decide +kernel))⟩
theorem fl_X9_30 : ea_FL RX9 30 9 0 := ⟨_, _, _, rfl, by decide, List.mem_append_right _ (List.mem_of_getElem? (i := 245) (by decide +kernel))⟩
theorem fl_X9_9 : ea_FL RX9 9 9 1 := ⟨_, _, _, rfl, by decide, List.mem_append_right _ (List.mem_of_getElem? (i := 247) (by decide +kernel))⟩
theorem fl_X10_15 : ea_FL RX10 15 10 2 := ⟨_, _, _, rfl, by decide, List.mem_append_right _ (List.mem_of_getElem? (i := 376) (by decide +kernel))⟩
theorem fl_X10_18 : ea_FL RX10 18 10 0 := ⟨_, _, _, rfl, by decide, List.mem_append_right _ (List.mem_of_getElem? (i := 374) (by decide +kernel))⟩
theorem fl_X10_33 : ea_FL RX10 33 0 0 := ⟨_, _, _, rfl, by decide, List.mem_append_right _ (List.mem_of_getElem? (i := 340) (by decide +kernel))⟩
theorem fl_X10_39 : ea_FL RX10 39 2 1 := ⟨_, _, _, rfl, by decide, List.mem_append_right _ (List.mem_of_getElem? (i := 109) (by decide +kernel))⟩
theorem fl_X10_45 : ea_FL RX10 45 2 0 := ⟨_, _, _, rfl, by decide, List.mem_append_right _ (List.mem_of_getElem? (i := 104) (by decide +kernel))⟩
theorem fl_X10_58 : ea_FL RX10 58 4 1 := ⟨_, _, _, rfl, by decide, List.mem_append_right _ (List.mem_of_getElem? (i := 395) (by decide +kernel))⟩
theorem fl_X10_65 : ea_FL RX10 65 2 11 := ⟨_, _, _, rfl, by decide, List.mem_append_right _ (List.mem_of_getElem? (i := 142) (by decide +kernel))⟩
theorem fl_X10_68 : ea_FL RX10 68 0 5 := ⟨_, _, _, rfl, by decide, List.mem_append_right _ (List.mem_of_getElem? (i := 349) (by decide +kernel))⟩
theorem fl_X10_71 : ea_FL RX10 71 0 4 := ⟨_, _, _, rfl, by decide, List.mem_append_right _ (List.mem_of_getElem? (i := 346) (by decide +kernel))⟩
theorem fl_X10_78 : ea_FL RX10 78 4 0 := ⟨_, _, _, rfl, by decide, List.mem_append_right _ (List.mem_of_getElem? (i := 392) (by decide +kernel))⟩
theorem fl_X10_9 : ea_FL RX10 9 10 1 := ⟨_, _, _, rfl, by decide, List.mem_append_right _ (List.mem_of_getElem? (i := 375) (by decide +kernel))⟩
theorem fl_X11_102 : ea_FL RX11 102 11 18 := ⟨_, _, _, rfl, by decide, List.mem_append_right _ (List.mem_of_getElem? (i := 427) (by decide +kernel))⟩
theorem fl_X11_106 : ea_FL RX11 106 11 19 := ⟨_, _, _, rfl, by decide, List.mem_append_right _ (List.mem_of_getElem? (i := 428) (by decide +kernel))⟩
theorem fl_X11_110 : ea_FL RX11 110 11 20 := ⟨_, _, _, rfl, by decide, List.mem_append_right _ (List.mem_of_getElem? (i := 429) (by decide +kernel))⟩
theorem fl_X11_13 : ea_FL RX11 13 11 1 := ⟨_, _, _, rfl, by decide, List.mem_append_right _ (List.mem_of_getElem? (i := 410) (by decide +kernel))⟩
theorem fl_X11_136 : ea_FL RX11 136 2 7 := ⟨_, _, _, rfl, by decide, List.mem_append_right _ (List.mem_of_getElem? (i := 128) (by decide +kernel))⟩
theorem fl_X11_154 : ea_FL RX11 154 7 0 := ⟨_, _, _, rfl, by decide, List.mem_append_right _ (List.mem_of_getElem? (i := 196) (by decide +kernel))⟩
theorem fl_X11_160 : ea_FL RX11 160 2 10 := ⟨_, _, _, rfl, by decide, List.mem_append_right _ (List.mem_of_getElem? (i := 139) (by decide +kernel))⟩
theorem fl_X11_163 : ea_FL RX11 163 2 11 := ⟨_, _, _, rfl, by decide, List.mem_append_right _ (List.mem_of_getElem? (i := 144) (by decide +kernel))⟩
theorem fl_X11_166 : ea_FL RX11 166 2 12 := ⟨_, _, _, rfl, by decide, List.mem_append_right _ (List.mem_of_getElem? (i := 147) (by decide +kernel))⟩
theorem fl_X11_169 : ea_FL RX11 169 2 13 := ⟨_, _, _, rfl, by decide, List.mem_append_right _ (List.mem_of_getElem? (i := 150) (by decide +kernel))⟩
theorem fl_X11_17 : ea_FL RX11 17 11 2 := ⟨_, _, _, rfl, by decide, List.mem_append_right _ (List.mem_of_getElem? (i := 411) (by decide +kernel))⟩
theorem fl_X11_180 : ea_FL RX11 180 2 14 := ⟨_, _, _, rfl, by decide, List.mem_append_right _ (List.mem_of_getElem? (i := 153) (by decide +kernel))⟩
theorem fl_X11_193 : ea_FL RX11 193 1 3 := ⟨_, _, _, rfl, by decide, List.mem_append_right _ (List.mem_of_getElem? (i := 60) (by decide +kernel))⟩
theorem fl_X11_196 : ea_FL RX11 196 1 4 := ⟨_, _, _, rfl, by decide, List.mem_append_right _ (List.mem_of_getElem? (i := 63) (by decide +kernel))⟩
theorem fl_X11_199 : ea_FL RX11 199 1 5 := ⟨_, _, _, rfl, by decide, List.mem_append_right _ (List.mem_of_getElem? (i := 66) (by decide +kernel))⟩
theorem fl_X11_202 : ea_FL RX11 202 1 6 := ⟨_, _, _, rfl, by decide, List.mem_append_right _ (List.mem_of_getElem? (i := 69) (by decide +kernel))⟩
theorem fl_X11_213 : ea_FL RX11 213 2 9 := ⟨_, _, _, rfl, by decide, List.mem_append_right _ (List.mem_of_getElem? (i := 135) (by decide +kernel))⟩
theorem fl_X11_227 : ea_FL RX11 227 0 5 := ⟨_, _, _, rfl, by decide, List.mem_append_right _ (List.mem_of_getElem? (i := 350) (by decide +kernel))⟩
theorem fl_X11_23 : ea_FL RX11 23 11 3 := ⟨_, _, _, rfl, by decide, List.mem_append_right _ (List.mem_of_getElem? (i := 412) (by decide +kernel))⟩
theorem fl_X11_230 : ea_FL RX11 230 0 4 := ⟨_, _, _, rfl, by decide, List.mem_append_right _ (List.mem_of_getElem? (i := 347) (by decide +kernel))⟩
theorem fl_X11_233 : ea_FL RX11 233 2 8 := ⟨_, _, _, rfl, by decide, List.mem_append_right _ (List.mem_of_getElem? (i := 131) (by decide +kernel))⟩
theorem fl_X11_236 : ea_FL RX11 236 1 0 := ⟨_, _, _, rfl, by decide, List.mem_append_right _ (List.mem_of_getElem? (i := 52) (by decide +kernel))⟩
theorem fl_X11_239 : ea_FL RX11 239 1 1 := ⟨_, _, _, rfl, by decide, List.mem_append_right _ (List.mem_of_getElem? (i := 55) (by decide +kernel))⟩
theorem fl_X11_242 : ea_FL RX11 242 2 5 := ⟨_, _, _, rfl, by decide, List.mem_append_right _ (List.mem_of_getElem? (i := 124) (by decide +kernel))⟩
theorem fl_X11_245 : ea_FL RX11 245 2 4 := ⟨_, _, _, rfl, by decide, List.mem_append_right _ (List.mem_of_getElem? (i := 122) (by decide +kernel))⟩
theorem fl_X11_248 : ea_FL RX11 248 2 0 := ⟨_, _, _, rfl, by decide, List.mem_append_right _ (List.mem_of_getElem? (i := 107) (by decide +kernel))⟩
theorem fl_X11_251 : ea_FL RX11 251 2 1 := ⟨_, _, _, rfl, by decide, List.mem_append_right _ (List.mem_of_getElem? (i := 112) (by decide +kernel))⟩
theorem fl_X11_254 : ea_FL RX11 254 2 2 := ⟨_, _, _, rfl, by decide, List.mem_append_right _ (List.mem_of_getElem? (i := 115) (by decide +kernel))⟩
theorem fl_X11_257 : ea_FL RX11 257 2 3 := ⟨_, _, _, rfl, by decide, List.mem_append_right _ (List.mem_of_getElem? (i := 118) (by decide +kernel))⟩
theorem fl_X11_267 : ea_FL RX11 267 2 15 := ⟨_, _, _, rfl, by decide, List.mem_append_right _ (List.mem_of_getElem? (i := 155) (by decide +kernel))⟩
theorem fl_X11_271 : ea_FL RX11 271 6 0 := ⟨_, _, _, rfl, by decide, List.mem_append_right _ (List.mem_of_getElem? (i := 93) (by decide +kernel))⟩
theorem fl_X11_288 : ea_FL RX11 288 2 6 := ⟨_, _, _, rfl, by decide, List.mem_append_right _ (List.mem_of_getElem? (i := 126) (by decide +kernel))⟩
theorem fl_X11_294 : ea_FL RX11 294 0 6 := ⟨_, _, _, rfl, by decide, List.mem_append_right _ (List.mem_of_getElem? (i := 352) (by decide +kernel))⟩
theorem fl_X11_30 : ea_FL RX11 30 11 4 := ⟨_, _, _, rfl, by decide, List.mem_append_right _ (List.mem_of_getElem? (i := 413) (by decide +kernel))⟩
theorem fl_X11_322 : ea_FL RX11 322 4 0 := ⟨_, _, _, rfl, by decide, List.mem_append_right _ (List.mem_of_getElem? (i := 393) (by decide +kernel))⟩
theorem fl_X11_325 : ea_FL RX11 325 4 1 := ⟨_, _, _, rfl, by decide, List.mem_append_right _ (List.mem_of_getElem? (i := 396) (by decide +kernel))⟩
theorem fl_X11_331 : ea_FL RX11 331 4 3 := ⟨_, _, _, rfl, by decide, List.mem_append_right _ (List.mem_of_getElem? (i := 399) (by decide +kernel))⟩
theorem fl_X11_334 : ea_FL RX11 334 0 2 := ⟨_, _, _, rfl, by decide, List.mem_append_right _ (List.mem_of_getElem? (i := 343) (by decide +kernel))⟩
theorem fl_X11_34 : ea_FL RX11 34 11 5 := ⟨_, _, _, rfl, by decide, List.mem_append_right _ (List.mem_of_getElem? (i := 414) (by decide +kernel))⟩
theorem fl_X11_342 : ea_FL RX11 342 5 3 := ⟨_, _, _, rfl, by decide, List.mem_append_right _ (List.mem_of_getElem? (i := 320) (by decide +kernel))⟩
theorem fl_X11_351 : ea_FL RX11 351 5 4 := ⟨_, _, _, rfl, by decide, List.mem_append_right _ (List.mem_of_getElem? (i := 323) (by decide +kernel))⟩
theorem fl_X11_353 : ea_FL RX11 353 5 2 := ⟨_, _, _, rfl, by decide, List.mem_append_right _ (List.mem_of_getElem? (i := 317) (by decide +kernel))⟩
theorem fl_X11_37 : ea_FL RX11 37 11 6 := ⟨_, _, _, rfl, by decide, List.mem_append_right _ (List.mem_of_getElem? (i := 415) (by decide +kernel))⟩
theorem fl_X11_45 : ea_FL RX11 45 11 7 := ⟨_, _, _, rfl, by decide, List.mem_append_right _ (List.mem_of_getElem? (i := 416) (by decide +kernel))⟩
theorem fl_X11_54 : ea_FL RX11 54 11 8 := ⟨_, _, _, rfl, by decide, List.mem_append_right _ (List.mem_of_getElem? (i := 417) (by decide +kernel))⟩
theorem fl_X11_58 : ea_FL RX11 58 11 9 := ⟨_, _, _, rfl, by decide, List.mem_append_right _ (List.mem_of_getElem? (i := 418) (by decide +kernel))⟩
theorem fl_X11_62 : ea_FL RX11 62 11 10 := ⟨_, _, _, rfl, by decide, List.mem_append_right _ (List.mem_of_getElem? (i := 419) (by decide +kernel))⟩
theorem fl_X11_65 : ea_FL RX11 65 11 11 := ⟨_, _, _, rfl, by decide, List.mem_append_right _ (List.mem_of_getElem? (i := 420) (by decide +kernel))⟩
theorem fl_X11_68 : ea_FL RX11 68 11 12 := ⟨_, _, _, rfl, by decide, List.mem_append_right _ (List.mem_of_getElem? (i := 421) (by decide +kernel))⟩
theorem fl_X11_72 : ea_FL RX11 72 11 13 := ⟨_, _, _, rfl, by decide, List.mem_append_right _ (List.mem_of_getElem? (i := 422) (by decide +kernel))⟩
theorem fl_X11_75 : ea_FL RX11 75 11 14 := ⟨_, _, _, rfl, by decide, List.mem_append_right _ (List.mem_of_getElem? (i := 423) (by decide +kernel))⟩
theorem fl_X11_83 : ea_FL RX11 83 11 15 := ⟨_, _, _, rfl, by decide, List.mem_append_right _ (List.mem_of_getElem? (i := 424) (by decide +kernel))⟩
theorem fl_X11_9 : ea_FL RX11 9 11 0 := ⟨_, _, _, rfl, by decide, List.mem_append_right _ (List.mem_of_getElem? (i := 409) (by decide +kernel))⟩
theorem fl_X11_92 : ea_FL RX11 92 11 16 := ⟨_, _, _, rfl, by decide, List.mem_append_right _ (List.mem_of_getElem? (i := 425) (by decide +kernel))⟩
theorem fl_X11_98 : ea_FL RX11 98 11 17 := ⟨_, _, _, rfl, by decide, List.mem_append_right _ (List.mem_of_getElem? (i := 426) (by decide +kernel))⟩
theorem fl_X12_102 : ea_FL RX12 102 12 12 := ⟨_, _, _, rfl, by decide, List.mem_append_right _ (List.mem_of_getElem? (i := 1418) (by decide +kernel))⟩
theorem fl_X12_13 : ea_FL RX12 13 12 1 := ⟨_, _, _, rfl, by decide, List.mem_append_right _ (List.mem_of_getElem? (i := 1407) (by decide +kernel))⟩
theorem fl_X12_17 : ea_FL RX12 17 12 2 := ⟨_, _, _, rfl, by decide, List.mem_append_right _ (List.mem_of_getElem? (i := 1408) (by decide +kernel))⟩
theorem fl_X12_191 : ea_FL RX12 191 12 16 := ⟨_, _, _, rfl, by decide, List.mem_append_right _ (List.mem_of_getElem? (i := 1422) (by decide +kernel))⟩
theorem fl_X12_20 : ea_FL RX12 20 12 3 := ⟨_, _, _, rfl, by decide, List.mem_append_right _ (List.mem_of_getElem? (i := 1409) (by decide +kernel))⟩
theorem fl_X12_215 : ea_FL RX12 215 12 13 := ⟨_, _, _, rfl, by decide, List.mem_append_right _ (List.mem_of_getElem? (i := 1419) (by decide +kernel))⟩
theorem fl_X12_26 : ea_FL RX12 26 12 5 := ⟨_, _, _, rfl, by decide, List.mem_append_right _ (List.mem_of_getElem? (i := 1411) (by decide +kernel))⟩
theorem fl_X12_268 : ea_FL RX12 268 12 18 := ⟨_, _, _, rfl, by decide, List.mem_append_right _ (List.mem_of_getElem? (i := 1424) (by decide +kernel))⟩
theorem fl_X12_271 : ea_FL RX12 271 12 19 := ⟨_, _, _, rfl, by decide, List.mem_append_right _ (List.mem_of_getElem? (i := 1425) (by decide +kernel))⟩
theorem fl_X12_274 : ea_FL RX12 274 12 20 := ⟨_, _, _, rfl, by decide, List.mem_append_right _ (List.mem_of_getElem? (i := 1426) (by decide +kernel))⟩
theorem fl_X12_280 : ea_FL RX12 280 12 21 := ⟨_, _, _, rfl, by decide, List.mem_append_right _ (List.mem_of_getElem? (i := 1427) (by decide +kernel))⟩
theorem fl_X12_29 : ea_FL RX12 29 12 8 := ⟨_, _, _, rfl, by decide, List.mem_append_right _ (List.mem_of_getElem? (i := 1414) (by decide +kernel))⟩
theorem fl_X12_3 : ea_FL RX12 3 12 0 := ⟨_, _, _, rfl, by decide, List.mem_append_right _ (List.mem_of_getElem? (i := 1406) (by decide +kernel))⟩
theorem fl_X12_328 : ea_FL RX12 328 12 25 := ⟨_, _, _, rfl, by decide, List.mem_append_right _ (List.mem_of_getElem? (i := 1431) (by decide +kernel))⟩
theorem fl_X12_33 : ea_FL RX12 33 12 14 := ⟨_, _, _, rfl, by decide, List.mem_append_right _ (List.mem_of_getElem? (i := 1420) (by decide +kernel))⟩
theorem fl_X12_334 : ea_FL RX12 334 12 26 := ⟨_, _, _, rfl, by decide, List.mem_append_right _ (List.mem_of_getElem? (i := 1432) (by decide +kernel))⟩
theorem fl_X12_36 : ea_FL RX12 36 12 15 := ⟨_, _, _, rfl, by decide, List.mem_append_right _ (List.mem_of_getElem? (i := 1421) (by decide +kernel))⟩
theorem fl_X12_39 : ea_FL RX12 39 12 17 := ⟨_, _, _, rfl, by decide, List.mem_append_right _ (List.mem_of_getElem? (i := 1423) (by decide +kernel))⟩
theorem fl_X12_42 : ea_FL RX12 42 12 22 := ⟨_, _, _, rfl, by decide, List.mem_append_right _ (List.mem_of_getElem? (i := 1428) (by decide +kernel))⟩
theorem fl_X12_45 : ea_FL RX12 45 12 23 := ⟨_, _, _, rfl, by decide, List.mem_append_right _ (List.mem_of_getElem? (i := 1429) (by decide +kernel))⟩
theorem fl_X12_48 : ea_FL RX12 48 12 24 := ⟨_, _, _, rfl, by decide, List.mem_append_right _ (List.mem_of_getElem? (i := 1430) (by decide +kernel))⟩
theorem fl_X12_51 : ea_FL RX12 51 12 27 := ⟨_, _, _, rfl, by decide, List.mem_append_right _ (List.mem_of_getElem? (i := 1433) (by decide +kernel))⟩
theorem fl_X12_54 : ea_FL RX12 54 12 28 := ⟨_, _, _, rfl, by decide, List.mem_append_right _ (List.mem_of_getElem? (i := 1434) (by decide +kernel))⟩
theorem fl_X12_57 : ea_FL RX12 57 12 29 := ⟨_, _, _, rfl, by decide, List.mem_append_right _ (List.mem_of_getElem? (i := 1435) (by decide +kernel))⟩
theorem fl_X12_60 : ea_FL RX12 60 12 6 := ⟨_, _, _, rfl, by decide, List.mem_append_right _ (List.mem_of_getElem? (i := 1412) (by decide +kernel))⟩
theorem fl_X12_64 : ea_FL RX12 64 12 7 := ⟨_, _, _, rfl, by decide, List.mem_append_right _ (List.mem_of_getElem? (i := 1413) (by decide +kernel))⟩
theorem fl_X12_89 : ea_FL RX12 89 12 9 := ⟨_, _, _, rfl, by decide, List.mem_append_right _ (List.mem_of_getElem? (i := 1415) (by decide +kernel))⟩
theorem fl_X12_92 : ea_FL RX12 92 12 10 := ⟨_, _, _, rfl, by decide, List.mem_append_right _ (List.mem_of_getElem? (i := 1416) (by decide +kernel))⟩
theorem fl_X12_95 : ea_FL RX12 95 12 11 := ⟨_, _, _, rfl, by decide, List.mem_append_right _ (List.mem_of_getElem? (i := 1417) (by decide +kernel))⟩
theorem flw_X10_81 : Cond.fieldLink RX10 81 "FeatherYard$Reckoner" "ROWS_LEFT" "[I" ∈ lw_tbl := List.mem_append_right _ (List.mem_of_getElem? (i := 558) (by decide +kernel))
theorem fp_0_4 : ea_FP 0 4 .int := ⟨_, _, _, rfl, by decide, rfl, by decide⟩
theorem fp_0_5 : ea_FP 0 5 .int := ⟨_, _, _, rfl, by decide, rfl, by decide⟩
theorem fp_0_6 : ea_FP 0 6 .int := ⟨_, _, _, rfl, by decide, rfl, by decide⟩
theorem fp_1_0 : ea_FP 1 0 .int := ⟨_, _, _, rfl, by decide, rfl, by decide⟩
theorem fp_1_1 : ea_FP 1 1 .int := ⟨_, _, _, rfl, by decide, rfl, by decide⟩
theorem fp_11_1 : ea_FP 11 1 .int := ⟨_, _, _, rfl, by decide, rfl, by decide⟩
theorem fp_11_13 : ea_FP 11 13 .int := ⟨_, _, _, rfl, by decide, rfl, by decide⟩
theorem fp_11_14 : ea_FP 11 14 .int := ⟨_, _, _, rfl, by decide, rfl, by decide⟩
theorem fp_11_18 : ea_FP 11 18 .boolean := ⟨_, _, _, rfl, by decide, rfl, by decide⟩
theorem fp_11_2 : ea_FP 11 2 .int := ⟨_, _, _, rfl, by decide, rfl, by decide⟩
theorem fp_11_9 : ea_FP 11 9 .boolean := ⟨_, _, _, rfl, by decide, rfl, by decide⟩
theorem fp_12_0 : ea_FP 12 0 .int := ⟨_, _, _, rfl, by decide, rfl, by decide⟩
theorem fp_12_10 : ea_FP 12 10 .int := ⟨_, _, _, rfl, by decide, rfl, by decide⟩
theorem fp_12_11 : ea_FP 12 11 .int := ⟨_, _, _, rfl, by decide, rfl, by decide⟩
theorem fp_12_12 : ea_FP 12 12 .int := ⟨_, _, _, rfl, by decide, rfl, by decide⟩
theorem fp_12_13 : ea_FP 12 13 .int := ⟨_, _, _, rfl, by decide, rfl, by decide⟩
theorem fp_12_14 : ea_FP 12 14 .int := ⟨_, _, _, rfl, by decide, rfl, by decide⟩
theorem fp_12_16 : ea_FP 12 16 .int := ⟨_, _, _, rfl, by decide, rfl, by decide⟩
theorem fp_12_18 : ea_FP 12 18 .int := ⟨_, _, _, rfl, by decide, rfl, by decide⟩
theorem fp_12_19 : ea_FP 12 19 .int := ⟨_, _, _, rfl, by decide, rfl, by decide⟩
theorem fp_12_20 : ea_FP 12 20 .int := ⟨_, _, _, rfl, by decide, rfl, by decide⟩
theorem fp_12_21 : ea_FP 12 21 .int := ⟨_, _, _, rfl, by decide, rfl, by decide⟩
theorem fp_12_25 : ea_FP 12 25 .int := ⟨_, _, _, rfl, by decide, rfl, by decide⟩
theorem fp_12_26 : ea_FP 12 26 .int := ⟨_, _, _, rfl, by decide, rfl, by decide⟩
theorem fp_12_6 : ea_FP 12 6 .boolean := ⟨_, _, _, rfl, by decide, rfl, by decide⟩
theorem fp_12_7 : ea_FP 12 7 .int := ⟨_, _, _, rfl, by decide, rfl, by decide⟩
theorem fp_12_9 : ea_FP 12 9 .int := ⟨_, _, _, rfl, by decide, rfl, by decide⟩
theorem fp_2_0 : ea_FP 2 0 .int := ⟨_, _, _, rfl, by decide, rfl, by decide⟩
theorem fp_2_1 : ea_FP 2 1 .int := ⟨_, _, _, rfl, by decide, rfl, by decide⟩
theorem fp_2_2 : ea_FP 2 2 .int := ⟨_, _, _, rfl, by decide, rfl, by decide⟩
theorem fp_2_3 : ea_FP 2 3 .int := ⟨_, _, _, rfl, by decide, rfl, by decide⟩
theorem fp_2_4 : ea_FP 2 4 .int := ⟨_, _, _, rfl, by decide, rfl, by decide⟩
theorem fp_2_5 : ea_FP 2 5 .int := ⟨_, _, _, rfl, by decide, rfl, by decide⟩
theorem fp_2_6 : ea_FP 2 6 .int := ⟨_, _, _, rfl, by decide, rfl, by decide⟩
theorem fp_2_7 : ea_FP 2 7 .int := ⟨_, _, _, rfl, by decide, rfl, by decide⟩
theorem fp_2_8 : ea_FP 2 8 .int := ⟨_, _, _, rfl, by decide, rfl, by decide⟩
theorem fp_4_0 : ea_FP 4 0 .int := ⟨_, _, _, rfl, by decide, rfl, by decide⟩
theorem fp_4_1 : ea_FP 4 1 .int := ⟨_, _, _, rfl, by decide, rfl, by decide⟩
theorem fp_5_0 : ea_FP 5 0 .int := ⟨_, _, _, rfl, by decide, rfl, by decide⟩
theorem fp_5_1 : ea_FP 5 1 .int := ⟨_, _, _, rfl, by decide, rfl, by decide⟩
theorem fp_5_2 : ea_FP 5 2 .int := ⟨_, _, _, rfl, by decide, rfl, by decide⟩
theorem fp_5_3 : ea_FP 5 3 .boolean := ⟨_, _, _, rfl, by decide, rfl, by decide⟩
theorem fp_5_4 : ea_FP 5 4 .int := ⟨_, _, _, rfl, by decide, rfl, by decide⟩
theorem fp_5_5 : ea_FP 5 5 .int := ⟨_, _, _, rfl, by decide, rfl, by decide⟩
theorem fp_6_0 : ea_FP 6 0 .int := ⟨_, _, _, rfl, by decide, rfl, by decide⟩
theorem fp_6_1 : ea_FP 6 1 .int := ⟨_, _, _, rfl, by decide, rfl, by decide⟩
theorem fp_7_0 : ea_FP 7 0 .int := ⟨_, _, _, rfl, by decide, rfl, by decide⟩
theorem fp_7_1 : ea_FP 7 1 .int := ⟨_, _, _, rfl, by decide, rfl, by decide⟩
theorem fp_7_2 : ea_FP 7 2 .int := ⟨_, _, _, rfl, by decide, rfl, by decide⟩
theorem fp_7_3 : ea_FP 7 3 .int := ⟨_, _, _, rfl, by decide, rfl, by decide⟩
theorem fp_9_1 : ea_FP 9 1 .int := ⟨_, _, _, rfl, by decide, rfl, by decide⟩
theorem fp_9_2 : ea_FP 9 2 .int := ⟨_, _, _, rfl, by decide, rfl, by decide⟩
theorem fp_9_3 : ea_FP 9 3 .int := ⟨_, _, _, rfl, by decide, rfl, by decide⟩
theorem fp_9_4 : ea_FP 9 4 .int := ⟨_, _, _, rfl, by decide, rfl, by decide⟩
theorem fp_9_5 : ea_FP 9 5 .int := ⟨_, _, _, rfl, by decide, rfl, by decide⟩
theorem fp_9_6 : ea_FP 9 6 .int := ⟨_, _, _, rfl, by decide, rfl, by decide⟩
theorem ini_2 : Cond.initialized "java/lang/IllegalArgumentException" ∈ lw_tbl := List.mem_append_right _ (List.mem_of_getElem? (i := 23) (by decide +kernel))
theorem ini_3 : Cond.initialized "java/lang/IllegalStateException" ∈ lw_tbl := List.mem_append_right _ (List.mem_of_getElem? (i := 27) (by decide +kernel))
theorem ini_1 : Cond.initialized "java/lang/IndexOutOfBoundsException" ∈ lw_tbl := List.mem_append_right _ (List.mem_of_getElem? (i := 25) (by decide +kernel))
theorem ini_5 : Cond.initialized "java/lang/UnsupportedOperationException" ∈ lw_tbl := List.mem_append_right _ (List.mem_of_getElem? (i := 24) (by decide +kernel))
theorem ini_4 : Cond.initialized "java/util/NoSuchElementException" ∈ lw_tbl := List.mem_append_right _ (List.mem_of_getElem? (i := 26) (by decide +kernel))
theorem ki_X0_121 : Cond.constant RX0 121 1103515245 ∈ lw_tbl := List.mem_append_right _ (List.mem_of_getElem? (i := 1118) (by decide +kernel))
theorem ki_X11_383 : Cond.constant RX11 383 43046721 ∈ lw_tbl := List.mem_append_right _ (List.mem_of_getElem? (i := 1271) (by decide +kernel))
theorem ki_X11_392 : Cond.constant RX11 392 43046722 ∈ lw_tbl := List.mem_append_right _ (List.mem_of_getElem? (i := 1292) (by decide +kernel))
theorem ki_X12_402 : Cond.constant RX12 402 43046721 ∈ lw_tbl := List.mem_append_right _ (List.mem_of_getElem? (i := 1900) (by decide +kernel))
theorem ki_X12_416 : Cond.constant RX12 416 43046722 ∈ lw_tbl := List.mem_append_right _ (List.mem_of_getElem? (i := 1915) (by decide +kernel))
theorem ki_X12_88 : Cond.constant RX12 88 1103515245 ∈ lw_tbl := List.mem_append_right _ (List.mem_of_getElem? (i := 1933) (by decide +kernel))
theorem ki_J6_265 : Cond.constant RJ6 265 1431655765 ∈ lw_tbl := List.mem_append_right _ (List.mem_of_getElem? (i := 587) (by decide +kernel))
theorem ki_J6_266 : Cond.constant RJ6 266 858993459 ∈ lw_tbl := List.mem_append_right _ (List.mem_of_getElem? (i := 588) (by decide +kernel))
theorem ki_J6_267 : Cond.constant RJ6 267 252645135 ∈ lw_tbl := List.mem_append_right _ (List.mem_of_getElem? (i := 589) (by decide +kernel))
theorem kl_X11_384 : Cond.constantLong RX11 384 100 ∈ lw_tbl := List.mem_append_right _ (List.mem_of_getElem? (i := 1272) (by decide +kernel))
theorem kl_X11_386 : Cond.constantLong RX11 386 43046721 ∈ lw_tbl := List.mem_append_right _ (List.mem_of_getElem? (i := 1273) (by decide +kernel))
theorem kl_X12_403 : Cond.constantLong RX12 403 100 ∈ lw_tbl := List.mem_append_right _ (List.mem_of_getElem? (i := 1901) (by decide +kernel))
theorem kl_X12_405 : Cond.constantLong RX12 405 43046721 ∈ lw_tbl := List.mem_append_right _ (List.mem_of_getElem? (i := 1902) (by decide +kernel))
theorem ml_X0_106 : Cond.methodLink RX0 106 yX0_weigh ∈ lw_tbl := List.mem_append_right _ (List.mem_of_getElem? (i := 1123) (by decide +kernel))
theorem ml_X0_109 : Cond.methodLink RX0 109 yX0_release ∈ lw_tbl := List.mem_append_right _ (List.mem_of_getElem? (i := 1110) (by decide +kernel))
theorem ml_X0_113 : Cond.methodLink RX0 113 yX0_gust ∈ lw_tbl := List.mem_append_right _ (List.mem_of_getElem? (i := 1114) (by decide +kernel))
theorem ml_X0_117 : Cond.methodLink RX0 117 yX0_drift ∈ lw_tbl := List.mem_append_right _ (List.mem_of_getElem? (i := 1119) (by decide +kernel))
theorem ml_X0_122 : Cond.methodLink RX0 122 yX0_firstGood ∈ lw_tbl := List.mem_append_right _ (List.mem_of_getElem? (i := 1128) (by decide +kernel))
theorem ml_X0_56 : Cond.methodLink RX0 56 yX2_isYard ∈ lw_tbl := List.mem_append_right _ (List.mem_of_getElem? (i := 533) (by decide +kernel))
theorem ml_X0_60 : Cond.methodLink RX0 60 yX7_weigh ∈ lw_tbl := List.mem_append_right _ (List.mem_of_getElem? (i := 537) (by decide +kernel))
theorem ml_X0_69 : Cond.methodLink RX0 69 Lib.Math.min.name ∈ lw_tbl := List.mem_append_right _ (List.mem_of_getElem? (i := 548) (by decide +kernel))
theorem ml_X0_75 : Cond.methodLink RX0 75 Lib.Math.max.name ∈ lw_tbl := List.mem_append_right _ (List.mem_of_getElem? (i := 551) (by decide +kernel))
theorem ml_X1_34 : Cond.methodLink RX1 34 arraycopyName ∈ lw_tbl := List.mem_append_right _ (List.mem_of_getElem? (i := 607) (by decide +kernel))
theorem ml_X1_40 : Cond.methodLink RX1 40 yX1_held ∈ lw_tbl := List.mem_append_right _ (List.mem_of_getElem? (i := 1040) (by decide +kernel))
theorem ml_X1_44 : Cond.methodLink RX1 44 Lib.Math.min.name ∈ lw_tbl := List.mem_append_right _ (List.mem_of_getElem? (i := 1104) (by decide +kernel))
theorem ml_X1_49 : Cond.methodLink RX1 49 Lib.Math.max.name ∈ lw_tbl := List.mem_append_right _ (List.mem_of_getElem? (i := 1105) (by decide +kernel))
theorem ml_X2_69 : Cond.methodLink RX2 69 arraycopyName ∈ lw_tbl := List.mem_append_right _ (List.mem_of_getElem? (i := 602) (by decide +kernel))
theorem ml_X2_75 : Cond.methodLink RX2 75 yX1_copyFrom ∈ lw_tbl := List.mem_append_right _ (List.mem_of_getElem? (i := 603) (by decide +kernel))
theorem ml_X2_79 : Cond.methodLink RX2 79 yX6_copyFrom ∈ lw_tbl := List.mem_append_right _ (List.mem_of_getElem? (i := 608) (by decide +kernel))
theorem ml_X3_111 : Cond.methodLink RX3 111 yX9_takes ∈ lw_tbl := List.mem_append_right _ (List.mem_of_getElem? (i := 748) (by decide +kernel))
theorem ml_X3_114 : Cond.methodLink RX3 114 yX9_takesLetters ∈ lw_tbl := List.mem_append_right _ (List.mem_of_getElem? (i := 749) (by decide +kernel))
theorem ml_X3_150 : Cond.methodLink RX3 150 yX9_takesNumber ∈ lw_tbl := List.mem_append_right _ (List.mem_of_getElem? (i := 764) (by decide +kernel))
theorem ml_X3_24 : Cond.methodLink RX3 24 yX9_open ∈ lw_tbl := List.mem_append_right _ (List.mem_of_getElem? (i := 651) (by decide +kernel))
theorem ml_X3_32 : Cond.methodLink RX3 32 yX3_takesLine ∈ lw_tbl := List.mem_append_right _ (List.mem_of_getElem? (i := 665) (by decide +kernel))
theorem ml_X3_36 : Cond.methodLink RX3 36 yX9_refuse ∈ lw_tbl := List.mem_append_right _ (List.mem_of_getElem? (i := 726) (by decide +kernel))
theorem ml_X3_39 : Cond.methodLink RX3 39 yX9_takesSign ∈ lw_tbl := List.mem_append_right _ (List.mem_of_getElem? (i := 786) (by decide +kernel))
theorem ml_X3_48 : Cond.methodLink RX3 48 yX9_sees ∈ lw_tbl := List.mem_append_right _ (List.mem_of_getElem? (i := 670) (by decide +kernel))
theorem ml_X3_52 : Cond.methodLink RX3 52 yX3_takesBird ∈ lw_tbl := List.mem_append_right _ (List.mem_of_getElem? (i := 722) (by decide +kernel))
theorem ml_X3_57 : Cond.methodLink RX3 57 yX3_takesCounsel ∈ lw_tbl := List.mem_append_right _ (List.mem_of_getElem? (i := 755) (by decide +kernel))
theorem ml_X3_62 : Cond.methodLink RX3 62 yX3_takesCase ∈ lw_tbl := List.mem_append_right _ (List.mem_of_getElem? (i := 760) (by decide +kernel))
theorem ml_X3_67 : Cond.methodLink RX3 67 yX3_takesTower ∈ lw_tbl := List.mem_append_right _ (List.mem_of_getElem? (i := 767) (by decide +kernel))
theorem ml_X3_72 : Cond.methodLink RX3 72 yX3_takesYard ∈ lw_tbl := List.mem_append_right _ (List.mem_of_getElem? (i := 773) (by decide +kernel))
theorem ml_X3_77 : Cond.methodLink RX3 77 yX3_takesWind ∈ lw_tbl := List.mem_append_right _ (List.mem_of_getElem? (i := 779) (by decide +kernel))
theorem ml_X3_82 : Cond.methodLink RX3 82 yX9_takesNamed ∈ lw_tbl := List.mem_append_right _ (List.mem_of_getElem? (i := 732) (by decide +kernel))
theorem ml_X3_96 : Cond.methodLink RX3 96 yX9_step ∈ lw_tbl := List.mem_append_right _ (List.mem_of_getElem? (i := 730) (by decide +kernel))
theorem ml_X4_25 : Cond.methodLink RX4 25 yJ7_fill_53178 ∈ lw_tbl := List.mem_append_right _ (List.mem_of_getElem? (i := 521) (by decide +kernel))
theorem ml_X4_31 : Cond.methodLink RX4 31 yX4_allGood ∈ lw_tbl := List.mem_append_right _ (List.mem_of_getElem? (i := 1240) (by decide +kernel))
theorem ml_X6_22 : Cond.methodLink RX6 22 arraycopyName ∈ lw_tbl := List.mem_append_right _ (List.mem_of_getElem? (i := 612) (by decide +kernel))
theorem ml_X6_28 : Cond.methodLink RX6 28 Lib.Math.min.name ∈ lw_tbl := List.mem_append_right _ (List.mem_of_getElem? (i := 1136) (by decide +kernel))
theorem ml_X7_46 : Cond.methodLink RX7 46 arraycopyName ∈ lw_tbl := List.mem_append_right _ (List.mem_of_getElem? (i := 625) (by decide +kernel))
theorem ml_X7_52 : Cond.methodLink RX7 52 yX7_put ∈ lw_tbl := List.mem_append_right _ (List.mem_of_getElem? (i := 946) (by decide +kernel))
theorem ml_X7_56 : Cond.methodLink RX7 56 yX7_holds ∈ lw_tbl := List.mem_append_right _ (List.mem_of_getElem? (i := 541) (by decide +kernel))
theorem ml_X7_60 : Cond.methodLink RX7 60 yX7_joined ∈ lw_tbl := List.mem_append_right _ (List.mem_of_getElem? (i := 545) (by decide +kernel))
theorem ml_X8_105 : Cond.methodLink RX8 105 yX9_seesSign ∈ lw_tbl := List.mem_append_right _ (List.mem_of_getElem? (i := 930) (by decide +kernel))
theorem ml_X8_108 : Cond.methodLink RX8 108 yX8_takesNot ∈ lw_tbl := List.mem_append_right _ (List.mem_of_getElem? (i := 931) (by decide +kernel))
theorem ml_X8_115 : Cond.methodLink RX8 115 yX7_putFact ∈ lw_tbl := List.mem_append_right _ (List.mem_of_getElem? (i := 942) (by decide +kernel))
theorem ml_X8_118 : Cond.methodLink RX8 118 yX8_takesSum ∈ lw_tbl := List.mem_append_right _ (List.mem_of_getElem? (i := 947) (by decide +kernel))
theorem ml_X8_121 : Cond.methodLink RX8 121 yX8_factSeen ∈ lw_tbl := List.mem_append_right _ (List.mem_of_getElem? (i := 951) (by decide +kernel))
theorem ml_X8_24 : Cond.methodLink RX8 24 yX7_clear ∈ lw_tbl := List.mem_append_right _ (List.mem_of_getElem? (i := 891) (by decide +kernel))
theorem ml_X8_29 : Cond.methodLink RX8 29 yX9_open ∈ lw_tbl := List.mem_append_right _ (List.mem_of_getElem? (i := 895) (by decide +kernel))
theorem ml_X8_37 : Cond.methodLink RX8 37 yX8_takesLine ∈ lw_tbl := List.mem_append_right _ (List.mem_of_getElem? (i := 896) (by decide +kernel))
theorem ml_X8_41 : Cond.methodLink RX8 41 yX9_refuse ∈ lw_tbl := List.mem_append_right _ (List.mem_of_getElem? (i := 909) (by decide +kernel))
theorem ml_X8_44 : Cond.methodLink RX8 44 yX9_takesSign ∈ lw_tbl := List.mem_append_right _ (List.mem_of_getElem? (i := 939) (by decide +kernel))
theorem ml_X8_51 : Cond.methodLink RX8 51 yX8_lineKind ∈ lw_tbl := List.mem_append_right _ (List.mem_of_getElem? (i := 900) (by decide +kernel))
theorem ml_X8_55 : Cond.methodLink RX8 55 yX9_step ∈ lw_tbl := List.mem_append_right _ (List.mem_of_getElem? (i := 910) (by decide +kernel))
theorem ml_X8_58 : Cond.methodLink RX8 58 yX9_takesNumber ∈ lw_tbl := List.mem_append_right _ (List.mem_of_getElem? (i := 911) (by decide +kernel))
theorem ml_X8_65 : Cond.methodLink RX8 65 yX7_openLine ∈ lw_tbl := List.mem_append_right _ (List.mem_of_getElem? (i := 912) (by decide +kernel))
theorem ml_X8_71 : Cond.methodLink RX8 71 yX9_sees ∈ lw_tbl := List.mem_append_right _ (List.mem_of_getElem? (i := 905) (by decide +kernel))
theorem ml_X8_75 : Cond.methodLink RX8 75 yX8_takesEither ∈ lw_tbl := List.mem_append_right _ (List.mem_of_getElem? (i := 917) (by decide +kernel))
theorem ml_X8_79 : Cond.methodLink RX8 79 yX7_closeLine ∈ lw_tbl := List.mem_append_right _ (List.mem_of_getElem? (i := 963) (by decide +kernel))
theorem ml_X8_90 : Cond.methodLink RX8 90 yX8_takesBoth ∈ lw_tbl := List.mem_append_right _ (List.mem_of_getElem? (i := 921) (by decide +kernel))
theorem ml_X8_95 : Cond.methodLink RX8 95 yX7_put ∈ lw_tbl := List.mem_append_right _ (List.mem_of_getElem? (i := 935) (by decide +kernel))
theorem ml_X8_98 : Cond.methodLink RX8 98 yX8_takesAtom ∈ lw_tbl := List.mem_append_right _ (List.mem_of_getElem? (i := 925) (by decide +kernel))
theorem ml_X9_34 : Cond.methodLink RX9 34 Lib.Math.min.name ∈ lw_tbl := List.mem_append_right _ (List.mem_of_getElem? (i := 655) (by decide +kernel))
theorem ml_X9_40 : Cond.methodLink RX9 40 Lib.Math.max.name ∈ lw_tbl := List.mem_append_right _ (List.mem_of_getElem? (i := 656) (by decide +kernel))
theorem ml_X9_43 : Cond.methodLink RX9 43 yX9_step ∈ lw_tbl := List.mem_append_right _ (List.mem_of_getElem? (i := 657) (by decide +kernel))
theorem ml_X9_46 : Cond.methodLink RX9 46 yX9_kindAt ∈ lw_tbl := List.mem_append_right _ (List.mem_of_getElem? (i := 661) (by decide +kernel))
theorem ml_X9_50 : Cond.methodLink RX9 50 yJ0_length_8abf5 ∈ lw_tbl := List.mem_append_right _ (List.mem_of_getElem? (i := 674) (by decide +kernel))
theorem ml_X9_55 : Cond.methodLink RX9 55 yJ0_charAt_5068e ∈ lw_tbl := List.mem_append_right _ (List.mem_of_getElem? (i := 684) (by decide +kernel))
theorem ml_X9_59 : Cond.methodLink RX9 59 yX9_sees ∈ lw_tbl := List.mem_append_right _ (List.mem_of_getElem? (i := 740) (by decide +kernel))
theorem ml_X9_63 : Cond.methodLink RX9 63 yX9_refuse ∈ lw_tbl := List.mem_append_right _ (List.mem_of_getElem? (i := 741) (by decide +kernel))
theorem ml_X9_67 : Cond.methodLink RX9 67 yX9_seesSign ∈ lw_tbl := List.mem_append_right _ (List.mem_of_getElem? (i := 790) (by decide +kernel))
theorem ml_X9_71 : Cond.methodLink RX9 71 yX9_takes ∈ lw_tbl := List.mem_append_right _ (List.mem_of_getElem? (i := 736) (by decide +kernel))
theorem ml_X9_74 : Cond.methodLink RX9 74 yX9_takesNumber ∈ lw_tbl := List.mem_append_right _ (List.mem_of_getElem? (i := 742) (by decide +kernel))
theorem ml_X10_22 : Cond.methodLink RX10 22 yX4_clear ∈ lw_tbl := List.mem_append_right _ (List.mem_of_getElem? (i := 517) (by decide +kernel))
theorem ml_X10_27 : Cond.methodLink RX10 27 yJ7_fill_53178 ∈ lw_tbl := List.mem_append_right _ (List.mem_of_getElem? (i := 524) (by decide +kernel))
theorem ml_X10_48 : Cond.methodLink RX10 48 yX10_spread ∈ lw_tbl := List.mem_append_right _ (List.mem_of_getElem? (i := 525) (by decide +kernel))
theorem ml_X10_52 : Cond.methodLink RX10 52 arraycopyName ∈ lw_tbl := List.mem_append_right _ (List.mem_of_getElem? (i := 565) (by decide +kernel))
theorem ml_X10_61 : Cond.methodLink RX10 61 yX0_weigh ∈ lw_tbl := List.mem_append_right _ (List.mem_of_getElem? (i := 529) (by decide +kernel))
theorem ml_X10_74 : Cond.methodLink RX10 74 yX10_settle ∈ lw_tbl := List.mem_append_right _ (List.mem_of_getElem? (i := 554) (by decide +kernel))
theorem ml_X10_84 : Cond.methodLink RX10 84 yX2_isYard ∈ lw_tbl := List.mem_append_right _ (List.mem_of_getElem? (i := 560) (by decide +kernel))
theorem ml_X10_88 : Cond.methodLink RX10 88 yX4_land ∈ lw_tbl := List.mem_append_right _ (List.mem_of_getElem? (i := 561) (by decide +kernel))
theorem ml_X11_113 : Cond.methodLink RX11 113 yX11_putOnTape ∈ lw_tbl := List.mem_append_right _ (List.mem_of_getElem? (i := 477) (by decide +kernel))
theorem ml_X11_117 : Cond.methodLink RX11 117 yX11_useTapeUp ∈ lw_tbl := List.mem_append_right _ (List.mem_of_getElem? (i := 643) (by decide +kernel))
theorem ml_X11_121 : Cond.methodLink RX11 121 yX2_copyFrom ∈ lw_tbl := List.mem_append_right _ (List.mem_of_getElem? (i := 598) (by decide +kernel))
theorem ml_X11_125 : Cond.methodLink RX11 125 yX3_read ∈ lw_tbl := List.mem_append_right _ (List.mem_of_getElem? (i := 647) (by decide +kernel))
theorem ml_X11_133 : Cond.methodLink RX11 133 (Jvm.Bundle.initS "java/lang/IllegalArgumentException") ∈ lw_tbl := List.mem_append_right _ (List.mem_of_getElem? (i := 838) (by decide +kernel))
theorem ml_X11_143 : Cond.methodLink RX11 143 (Jvm.Bundle.initS "java/lang/UnsupportedOperationException") ∈ lw_tbl := List.mem_append_right _ (List.mem_of_getElem? (i := 874) (by decide +kernel))
theorem ml_X11_144 : Cond.methodLink RX11 144 yX11_forgetActs ∈ lw_tbl := List.mem_append_right _ (List.mem_of_getElem? (i := 630) (by decide +kernel))
theorem ml_X11_147 : Cond.methodLink RX11 147 yX11_forgetFates ∈ lw_tbl := List.mem_append_right _ (List.mem_of_getElem? (i := 613) (by decide +kernel))
theorem ml_X11_150 : Cond.methodLink RX11 150 yX8_read ∈ lw_tbl := List.mem_append_right _ (List.mem_of_getElem? (i := 887) (by decide +kernel))
theorem ml_X11_151 : Cond.methodLink RX11 151 yX7_copyFrom ∈ lw_tbl := List.mem_append_right _ (List.mem_of_getElem? (i := 621) (by decide +kernel))
theorem ml_X11_157 : Cond.methodLink RX11 157 yX11_needBird ∈ lw_tbl := List.mem_append_right _ (List.mem_of_getElem? (i := 976) (by decide +kernel))
theorem ml_X11_176 : Cond.methodLink RX11 176 (Jvm.Bundle.initS "java/util/NoSuchElementException") ∈ lw_tbl := List.mem_append_right _ (List.mem_of_getElem? (i := 1006) (by decide +kernel))
theorem ml_X11_177 : Cond.methodLink RX11 177 yX11_needCounsel ∈ lw_tbl := List.mem_append_right _ (List.mem_of_getElem? (i := 1019) (by decide +kernel))
theorem ml_X11_184 : Cond.methodLink RX11 184 yX1_held ∈ lw_tbl := List.mem_append_right _ (List.mem_of_getElem? (i := 576) (by decide +kernel))
theorem ml_X11_190 : Cond.methodLink RX11 190 yX11_needCase ∈ lw_tbl := List.mem_append_right _ (List.mem_of_getElem? (i := 1031) (by decide +kernel))
theorem ml_X11_205 : Cond.methodLink RX11 205 yX1_choices ∈ lw_tbl := List.mem_append_right _ (List.mem_of_getElem? (i := 1036) (by decide +kernel))
theorem ml_X11_209 : Cond.methodLink RX11 209 yX11_needLevel ∈ lw_tbl := List.mem_append_right _ (List.mem_of_getElem? (i := 1048) (by decide +kernel))
theorem ml_X11_216 : Cond.methodLink RX11 216 yX11_needColumn ∈ lw_tbl := List.mem_append_right _ (List.mem_of_getElem? (i := 1060) (by decide +kernel))
theorem ml_X11_219 : Cond.methodLink RX11 219 yX11_needWithin ∈ lw_tbl := List.mem_append_right _ (List.mem_of_getElem? (i := 1065) (by decide +kernel))
theorem ml_X11_223 : Cond.methodLink RX11 223 yX0_weigh ∈ lw_tbl := List.mem_append_right _ (List.mem_of_getElem? (i := 1070) (by decide +kernel))
theorem ml_X11_260 : Cond.methodLink RX11 260 yX1_openCases ∈ lw_tbl := List.mem_append_right _ (List.mem_of_getElem? (i := 493) (by decide +kernel))
theorem ml_X11_263 : Cond.methodLink RX11 263 yX2_isCalm ∈ lw_tbl := List.mem_append_right _ (List.mem_of_getElem? (i := 497) (by decide +kernel))
theorem ml_X11_280 : Cond.methodLink RX11 280 (Jvm.Bundle.initS "java/lang/IllegalStateException") ∈ lw_tbl := List.mem_append_right _ (List.mem_of_getElem? (i := 1089) (by decide +kernel))
theorem ml_X11_281 : Cond.methodLink RX11 281 yX11_remember ∈ lw_tbl := List.mem_append_right _ (List.mem_of_getElem? (i := 1095) (by decide +kernel))
theorem ml_X11_284 : Cond.methodLink RX11 284 yX1_add ∈ lw_tbl := List.mem_append_right _ (List.mem_of_getElem? (i := 1100) (by decide +kernel))
theorem ml_X11_291 : Cond.methodLink RX11 291 yX0_duel ∈ lw_tbl := List.mem_append_right _ (List.mem_of_getElem? (i := 1106) (by decide +kernel))
theorem ml_X11_295 : Cond.methodLink RX11 295 yX0_ending ∈ lw_tbl := List.mem_append_right _ (List.mem_of_getElem? (i := 1124) (by decide +kernel))
theorem ml_X11_298 : Cond.methodLink RX11 298 yX6_open ∈ lw_tbl := List.mem_append_right _ (List.mem_of_getElem? (i := 1132) (by decide +kernel))
theorem ml_X11_301 : Cond.methodLink RX11 301 yX0_firstGood ∈ lw_tbl := List.mem_append_right _ (List.mem_of_getElem? (i := 1137) (by decide +kernel))
theorem ml_X11_304 : Cond.methodLink RX11 304 yX6_write ∈ lw_tbl := List.mem_append_right _ (List.mem_of_getElem? (i := 1138) (by decide +kernel))
theorem ml_X11_311 : Cond.methodLink RX11 311 Lib.Math.min.name ∈ lw_tbl := List.mem_append_right _ (List.mem_of_getElem? (i := 1099) (by decide +kernel))
theorem ml_X11_316 : Cond.methodLink RX11 316 yX11_reckonFates ∈ lw_tbl := List.mem_append_right _ (List.mem_of_getElem? (i := 509) (by decide +kernel))
theorem ml_X11_319 : Cond.methodLink RX11 319 yX4_allGood ∈ lw_tbl := List.mem_append_right _ (List.mem_of_getElem? (i := 1186) (by decide +kernel))
theorem ml_X11_328 : Cond.methodLink RX11 328 yX4_landedIn ∈ lw_tbl := List.mem_append_right _ (List.mem_of_getElem? (i := 1197) (by decide +kernel))
theorem ml_X11_338 : Cond.methodLink RX11 338 yX0_release ∈ lw_tbl := List.mem_append_right _ (List.mem_of_getElem? (i := 1215) (by decide +kernel))
theorem ml_X11_347 : Cond.methodLink RX11 347 yX0_drift ∈ lw_tbl := List.mem_append_right _ (List.mem_of_getElem? (i := 1216) (by decide +kernel))
theorem ml_X11_356 : Cond.methodLink RX11 356 yX4_isAsGoodAs ∈ lw_tbl := List.mem_append_right _ (List.mem_of_getElem? (i := 568) (by decide +kernel))
theorem ml_X11_360 : Cond.methodLink RX11 360 yX10_reckon ∈ lw_tbl := List.mem_append_right _ (List.mem_of_getElem? (i := 513) (by decide +kernel))
theorem ml_X11_364 : Cond.methodLink RX11 364 yX11_hasIt ∈ lw_tbl := List.mem_append_right _ (List.mem_of_getElem? (i := 1224) (by decide +kernel))
theorem ml_X11_367 : Cond.methodLink RX11 367 yX4_together ∈ lw_tbl := List.mem_append_right _ (List.mem_of_getElem? (i := 1232) (by decide +kernel))
theorem ml_X11_371 : Cond.methodLink RX11 371 yX4_neither ∈ lw_tbl := List.mem_append_right _ (List.mem_of_getElem? (i := 1236) (by decide +kernel))
theorem ml_X11_374 : Cond.methodLink RX11 374 yX4_ahead ∈ lw_tbl := List.mem_append_right _ (List.mem_of_getElem? (i := 1228) (by decide +kernel))
theorem ml_X11_377 : Cond.methodLink RX11 377 yX11_needOpenCase ∈ lw_tbl := List.mem_append_right _ (List.mem_of_getElem? (i := 1262) (by decide +kernel))
theorem ml_X11_380 : Cond.methodLink RX11 380 yX11_atLeast ∈ lw_tbl := List.mem_append_right _ (List.mem_of_getElem? (i := 1267) (by decide +kernel))
theorem ml_X11_388 : Cond.methodLink RX11 388 yX11_isBestOf ∈ lw_tbl := List.mem_append_right _ (List.mem_of_getElem? (i := 1281) (by decide +kernel))
theorem ml_X11_393 : Cond.methodLink RX11 393 Lib.Math.abs.name ∈ lw_tbl := List.mem_append_right _ (List.mem_of_getElem? (i := 1293) (by decide +kernel))
theorem ml_X11_396 : Cond.methodLink RX11 396 yX11_needSongs ∈ lw_tbl := List.mem_append_right _ (List.mem_of_getElem? (i := 1303) (by decide +kernel))
theorem ml_X11_399 : Cond.methodLink RX11 399 yX11_canHaveSung ∈ lw_tbl := List.mem_append_right _ (List.mem_of_getElem? (i := 1308) (by decide +kernel))
theorem ml_X11_403 : Cond.methodLink RX11 403 yX11_setsThatSing ∈ lw_tbl := List.mem_append_right _ (List.mem_of_getElem? (i := 1323) (by decide +kernel))
theorem ml_X11_406 : Cond.methodLink RX11 406 Lib.Math.max.name ∈ lw_tbl := List.mem_append_right _ (List.mem_of_getElem? (i := 1327) (by decide +kernel))
theorem ml_X11_409 : Cond.methodLink RX11 409 yX2_tunesOf ∈ lw_tbl := List.mem_append_right _ (List.mem_of_getElem? (i := 1312) (by decide +kernel))
theorem ml_X11_414 : Cond.methodLink RX11 414 yJ6_bitCount_0f7a4 ∈ lw_tbl := List.mem_append_right _ (List.mem_of_getElem? (i := 584) (by decide +kernel))
theorem ml_X11_419 : Cond.methodLink RX11 419 yX1_isCoveredBy ∈ lw_tbl := List.mem_append_right _ (List.mem_of_getElem? (i := 590) (by decide +kernel))
theorem ml_X11_423 : Cond.methodLink RX11 423 yX11_needTrial ∈ lw_tbl := List.mem_append_right _ (List.mem_of_getElem? (i := 1363) (by decide +kernel))
theorem ml_X11_426 : Cond.methodLink RX11 426 yX11_firstHasIt ∈ lw_tbl := List.mem_append_right _ (List.mem_of_getElem? (i := 1367) (by decide +kernel))
theorem ml_X11_430 : Cond.methodLink RX11 430 yX6_told ∈ lw_tbl := List.mem_append_right _ (List.mem_of_getElem? (i := 1385) (by decide +kernel))
theorem ml_X11_437 : Cond.methodLink RX11 437 (Jvm.Bundle.initS "java/lang/IndexOutOfBoundsException") ∈ lw_tbl := List.mem_append_right _ (List.mem_of_getElem? (i := 990) (by decide +kernel))
theorem ml_L_100 : Cond.methodLink RL 100 yX11_ask ∈ lw_tbl := List.mem_append_right _ (List.mem_of_getElem? (i := 1319) (by decide +kernel))
theorem ml_L_103 : Cond.methodLink RL 103 yX11_tell ∈ lw_tbl := List.mem_append_right _ (List.mem_of_getElem? (i := 1331) (by decide +kernel))
theorem ml_L_106 : Cond.methodLink RL 106 yX11_lasts ∈ lw_tbl := List.mem_append_right _ (List.mem_of_getElem? (i := 1338) (by decide +kernel))
theorem ml_L_109 : Cond.methodLink RL 109 yX11_won ∈ lw_tbl := List.mem_append_right _ (List.mem_of_getElem? (i := 1345) (by decide +kernel))
theorem ml_L_112 : Cond.methodLink RL 112 yX11_widest ∈ lw_tbl := List.mem_append_right _ (List.mem_of_getElem? (i := 1352) (by decide +kernel))
theorem ml_L_115 : Cond.methodLink RL 115 yX11_trial ∈ lw_tbl := List.mem_append_right _ (List.mem_of_getElem? (i := 1359) (by decide +kernel))
theorem ml_L_118 : Cond.methodLink RL 118 yX11_span ∈ lw_tbl := List.mem_append_right _ (List.mem_of_getElem? (i := 1374) (by decide +kernel))
theorem ml_L_122 : Cond.methodLink RL 122 yX11_led ∈ lw_tbl := List.mem_append_right _ (List.mem_of_getElem? (i := 1381) (by decide +kernel))
theorem ml_L_125 : Cond.methodLink RL 125 yX11_log ∈ lw_tbl := List.mem_append_right _ (List.mem_of_getElem? (i := 1392) (by decide +kernel))
theorem ml_L_17 : Cond.methodLink RL 17 yX11_law ∈ lw_tbl := List.mem_append_right _ (List.mem_of_getElem? (i := 883) (by decide +kernel))
theorem ml_L_20 : Cond.methodLink RL 20 yX11_bird ∈ lw_tbl := List.mem_append_right _ (List.mem_of_getElem? (i := 972) (by decide +kernel))
theorem ml_L_28 : Cond.methodLink RL 28 yX11_stock ∈ lw_tbl := List.mem_append_right _ (List.mem_of_getElem? (i := 1015) (by decide +kernel))
theorem ml_L_31 : Cond.methodLink RL 31 yX11_matter ∈ lw_tbl := List.mem_append_right _ (List.mem_of_getElem? (i := 1027) (by decide +kernel))
theorem ml_L_34 : Cond.methodLink RL 34 yX11_wind ∈ lw_tbl := List.mem_append_right _ (List.mem_of_getElem? (i := 1044) (by decide +kernel))
theorem ml_L_38 : Cond.methodLink RL 38 yX11_moves ∈ lw_tbl := List.mem_append_right _ (List.mem_of_getElem? (i := 1056) (by decide +kernel))
theorem ml_L_42 : Cond.methodLink RL 42 yX11_call ∈ lw_tbl := List.mem_append_right _ (List.mem_of_getElem? (i := 1075) (by decide +kernel))
theorem ml_L_48 : Cond.methodLink RL 48 yX11_hour ∈ lw_tbl := List.mem_append_right _ (List.mem_of_getElem? (i := 1145) (by decide +kernel))
theorem ml_L_51 : Cond.methodLink RL 51 yX11_blow ∈ lw_tbl := List.mem_append_right _ (List.mem_of_getElem? (i := 1152) (by decide +kernel))
theorem ml_L_54 : Cond.methodLink RL 54 yX11_give ∈ lw_tbl := List.mem_append_right _ (List.mem_of_getElem? (i := 1159) (by decide +kernel))
theorem ml_L_58 : Cond.methodLink RL 58 yX11_appeal ∈ lw_tbl := List.mem_append_right _ (List.mem_of_getElem? (i := 1167) (by decide +kernel))
theorem ml_L_61 : Cond.methodLink RL 61 yX11_weeks ∈ lw_tbl := List.mem_append_right _ (List.mem_of_getElem? (i := 1175) (by decide +kernel))
theorem ml_L_64 : Cond.methodLink RL 64 yX11_ways ∈ lw_tbl := List.mem_append_right _ (List.mem_of_getElem? (i := 1182) (by decide +kernel))
theorem ml_L_67 : Cond.methodLink RL 67 yX11_lands ∈ lw_tbl := List.mem_append_right _ (List.mem_of_getElem? (i := 1193) (by decide +kernel))
theorem ml_L_7 : Cond.methodLink RL 7 yX11_court ∈ lw_tbl := List.mem_append_right _ (List.mem_of_getElem? (i := 639) (by decide +kernel))
theorem ml_L_70 : Cond.methodLink RL 70 yX11_good ∈ lw_tbl := List.mem_append_right _ (List.mem_of_getElem? (i := 1204) (by decide +kernel))
theorem ml_L_73 : Cond.methodLink RL 73 yX11_straight ∈ lw_tbl := List.mem_append_right _ (List.mem_of_getElem? (i := 1211) (by decide +kernel))
theorem ml_L_77 : Cond.methodLink RL 77 yX11_odds ∈ lw_tbl := List.mem_append_right _ (List.mem_of_getElem? (i := 1220) (by decide +kernel))
theorem ml_L_80 : Cond.methodLink RL 80 yX11_best ∈ lw_tbl := List.mem_append_right _ (List.mem_of_getElem? (i := 1244) (by decide +kernel))
theorem ml_L_83 : Cond.methodLink RL 83 yX11_when ∈ lw_tbl := List.mem_append_right _ (List.mem_of_getElem? (i := 1251) (by decide +kernel))
theorem ml_L_86 : Cond.methodLink RL 86 yX11_surest ∈ lw_tbl := List.mem_append_right _ (List.mem_of_getElem? (i := 1258) (by decide +kernel))
theorem ml_L_90 : Cond.methodLink RL 90 yX11_rests ∈ lw_tbl := List.mem_append_right _ (List.mem_of_getElem? (i := 1277) (by decide +kernel))
theorem ml_L_93 : Cond.methodLink RL 93 yX11_fair ∈ lw_tbl := List.mem_append_right _ (List.mem_of_getElem? (i := 1288) (by decide +kernel))
theorem ml_L_96 : Cond.methodLink RL 96 yX11_songs ∈ lw_tbl := List.mem_append_right _ (List.mem_of_getElem? (i := 1299) (by decide +kernel))
theorem ml_X12_105 : Cond.methodLink RX12 105 yX12_blanks ∈ lw_tbl := List.mem_append_right _ (List.mem_of_getElem? (i := 1533) (by decide +kernel))
theorem ml_X12_108 : Cond.methodLink RX12 108 yJ0_length_8abf5 ∈ lw_tbl := List.mem_append_right _ (List.mem_of_getElem? (i := 1558) (by decide +kernel))
theorem ml_X12_113 : Cond.methodLink RX12 113 yJ0_charAt_5068e ∈ lw_tbl := List.mem_append_right _ (List.mem_of_getElem? (i := 1559) (by decide +kernel))
theorem ml_X12_117 : Cond.methodLink RX12 117 yX12_letters ∈ lw_tbl := List.mem_append_right _ (List.mem_of_getElem? (i := 1545) (by decide +kernel))
theorem ml_X12_120 : Cond.methodLink RX12 120 yX12_isWord ∈ lw_tbl := List.mem_append_right _ (List.mem_of_getElem? (i := 1554) (by decide +kernel))
theorem ml_X12_124 : Cond.methodLink RX12 124 yX12_number ∈ lw_tbl := List.mem_append_right _ (List.mem_of_getElem? (i := 1569) (by decide +kernel))
theorem ml_X12_127 : Cond.methodLink RX12 127 yX12_has ∈ lw_tbl := List.mem_append_right _ (List.mem_of_getElem? (i := 1586) (by decide +kernel))
theorem ml_X12_134 : Cond.methodLink RX12 134 yX12_after ∈ lw_tbl := List.mem_append_right _ (List.mem_of_getElem? (i := 1574) (by decide +kernel))
theorem ml_X12_140 : Cond.methodLink RX12 140 yX12_lettersTold ∈ lw_tbl := List.mem_append_right _ (List.mem_of_getElem? (i := 1579) (by decide +kernel))
theorem ml_X12_158 : Cond.methodLink RX12 158 yX12_readBird ∈ lw_tbl := List.mem_append_right _ (List.mem_of_getElem? (i := 1560) (by decide +kernel))
theorem ml_X12_163 : Cond.methodLink RX12 163 yX12_readCounsel ∈ lw_tbl := List.mem_append_right _ (List.mem_of_getElem? (i := 1594) (by decide +kernel))
theorem ml_X12_168 : Cond.methodLink RX12 168 yX12_readCase ∈ lw_tbl := List.mem_append_right _ (List.mem_of_getElem? (i := 1603) (by decide +kernel))
theorem ml_X12_173 : Cond.methodLink RX12 173 yX12_readTower ∈ lw_tbl := List.mem_append_right _ (List.mem_of_getElem? (i := 1616) (by decide +kernel))
theorem ml_X12_178 : Cond.methodLink RX12 178 yX12_readYard ∈ lw_tbl := List.mem_append_right _ (List.mem_of_getElem? (i := 1622) (by decide +kernel))
theorem ml_X12_183 : Cond.methodLink RX12 183 yX12_readWind ∈ lw_tbl := List.mem_append_right _ (List.mem_of_getElem? (i := 1628) (by decide +kernel))
theorem ml_X12_188 : Cond.methodLink RX12 188 yX12_readHour ∈ lw_tbl := List.mem_append_right _ (List.mem_of_getElem? (i := 1635) (by decide +kernel))
theorem ml_X12_194 : Cond.methodLink RX12 194 yX12_emits ∈ lw_tbl := List.mem_append_right _ (List.mem_of_getElem? (i := 1667) (by decide +kernel))
theorem ml_X12_204 : Cond.methodLink RX12 204 yX12_readPart ∈ lw_tbl := List.mem_append_right _ (List.mem_of_getElem? (i := 1681) (by decide +kernel))
theorem ml_X12_207 : Cond.methodLink RX12 207 yX12_sign ∈ lw_tbl := List.mem_append_right _ (List.mem_of_getElem? (i := 1662) (by decide +kernel))
theorem ml_X12_218 : Cond.methodLink RX12 218 yX12_readCond ∈ lw_tbl := List.mem_append_right _ (List.mem_of_getElem? (i := 1650) (by decide +kernel))
theorem ml_X12_223 : Cond.methodLink RX12 223 yX12_passes ∈ lw_tbl := List.mem_append_right _ (List.mem_of_getElem? (i := 1646) (by decide +kernel))
theorem ml_X12_226 : Cond.methodLink RX12 226 yX12_readAtom ∈ lw_tbl := List.mem_append_right _ (List.mem_of_getElem? (i := 1658) (by decide +kernel))
theorem ml_X12_229 : Cond.methodLink RX12 229 yX12_readTag ∈ lw_tbl := List.mem_append_right _ (List.mem_of_getElem? (i := 1671) (by decide +kernel))
theorem ml_X12_232 : Cond.methodLink RX12 232 yX12_readSum ∈ lw_tbl := List.mem_append_right _ (List.mem_of_getElem? (i := 1677) (by decide +kernel))
theorem ml_X12_237 : Cond.methodLink RX12 237 yX12_readAllOf ∈ lw_tbl := List.mem_append_right _ (List.mem_of_getElem? (i := 1654) (by decide +kernel))
theorem ml_X12_248 : Cond.methodLink RX12 248 yX12_readCourtLine ∈ lw_tbl := List.mem_append_right _ (List.mem_of_getElem? (i := 1549) (by decide +kernel))
theorem ml_X12_251 : Cond.methodLink RX12 251 yX12_readLawLine ∈ lw_tbl := List.mem_append_right _ (List.mem_of_getElem? (i := 1639) (by decide +kernel))
theorem ml_X12_254 : Cond.methodLink RX12 254 yX12_uses ∈ lw_tbl := List.mem_append_right _ (List.mem_of_getElem? (i := 1529) (by decide +kernel))
theorem ml_X12_257 : Cond.methodLink RX12 257 yX12_readLine ∈ lw_tbl := List.mem_append_right _ (List.mem_of_getElem? (i := 1541) (by decide +kernel))
theorem ml_X12_261 : Cond.methodLink RX12 261 yX12_readAll ∈ lw_tbl := List.mem_append_right _ (List.mem_of_getElem? (i := 1525) (by decide +kernel))
theorem ml_X12_265 : Cond.methodLink RX12 265 yX12_throwsIf ∈ lw_tbl := List.mem_append_right _ (List.mem_of_getElem? (i := 1690) (by decide +kernel))
theorem ml_X12_277 : Cond.methodLink RX12 277 yX12_ofBird ∈ lw_tbl := List.mem_append_right _ (List.mem_of_getElem? (i := 1720) (by decide +kernel))
theorem ml_X12_283 : Cond.methodLink RX12 283 yX12_isOver ∈ lw_tbl := List.mem_append_right _ (List.mem_of_getElem? (i := 1736) (by decide +kernel))
theorem ml_X12_286 : Cond.methodLink RX12 286 yX12_factOf ∈ lw_tbl := List.mem_append_right _ (List.mem_of_getElem? (i := 1732) (by decide +kernel))
theorem ml_X12_289 : Cond.methodLink RX12 289 yX12_holdsLine ∈ lw_tbl := List.mem_append_right _ (List.mem_of_getElem? (i := 1728) (by decide +kernel))
theorem ml_X12_292 : Cond.methodLink RX12 292 yX12_sumOf ∈ lw_tbl := List.mem_append_right _ (List.mem_of_getElem? (i := 1724) (by decide +kernel))
theorem ml_X12_295 : Cond.methodLink RX12 295 Lib.Math.min.name ∈ lw_tbl := List.mem_append_right _ (List.mem_of_getElem? (i := 1744) (by decide +kernel))
theorem ml_X12_300 : Cond.methodLink RX12 300 Lib.Math.max.name ∈ lw_tbl := List.mem_append_right _ (List.mem_of_getElem? (i := 1745) (by decide +kernel))
theorem ml_X12_303 : Cond.methodLink RX12 303 yX12_noBird ∈ lw_tbl := List.mem_append_right _ (List.mem_of_getElem? (i := 1702) (by decide +kernel))
theorem ml_X12_306 : Cond.methodLink RX12 306 yX12_noLevel ∈ lw_tbl := List.mem_append_right _ (List.mem_of_getElem? (i := 1706) (by decide +kernel))
theorem ml_X12_309 : Cond.methodLink RX12 309 yX12_noColumn ∈ lw_tbl := List.mem_append_right _ (List.mem_of_getElem? (i := 1709) (by decide +kernel))
theorem ml_X12_312 : Cond.methodLink RX12 312 yX12_looks ∈ lw_tbl := List.mem_append_right _ (List.mem_of_getElem? (i := 1712) (by decide +kernel))
theorem ml_X12_316 : Cond.methodLink RX12 316 yX12_carries ∈ lw_tbl := List.mem_append_right _ (List.mem_of_getElem? (i := 1716) (by decide +kernel))
theorem ml_X12_319 : Cond.methodLink RX12 319 yX12_sinks ∈ lw_tbl := List.mem_append_right _ (List.mem_of_getElem? (i := 1740) (by decide +kernel))
theorem ml_X12_322 : Cond.methodLink RX12 322 yX12_at ∈ lw_tbl := List.mem_append_right _ (List.mem_of_getElem? (i := 1754) (by decide +kernel))
theorem ml_X12_325 : Cond.methodLink RX12 325 yX12_driftOf ∈ lw_tbl := List.mem_append_right _ (List.mem_of_getElem? (i := 1761) (by decide +kernel))
theorem ml_X12_331 : Cond.methodLink RX12 331 yX12_waysLeft ∈ lw_tbl := List.mem_append_right _ (List.mem_of_getElem? (i := 1765) (by decide +kernel))
theorem ml_X12_337 : Cond.methodLink RX12 337 yX12_goesOn ∈ lw_tbl := List.mem_append_right _ (List.mem_of_getElem? (i := 1757) (by decide +kernel))
theorem ml_X12_341 : Cond.methodLink RX12 341 yX12_landedAt ∈ lw_tbl := List.mem_append_right _ (List.mem_of_getElem? (i := 1776) (by decide +kernel))
theorem ml_X12_344 : Cond.methodLink RX12 344 yX12_goodAt ∈ lw_tbl := List.mem_append_right _ (List.mem_of_getElem? (i := 1772) (by decide +kernel))
theorem ml_X12_347 : Cond.methodLink RX12 347 yX12_laysWays ∈ lw_tbl := List.mem_append_right _ (List.mem_of_getElem? (i := 1750) (by decide +kernel))
theorem ml_X12_351 : Cond.methodLink RX12 351 yX12_goodAll ∈ lw_tbl := List.mem_append_right _ (List.mem_of_getElem? (i := 1768) (by decide +kernel))
theorem ml_X12_354 : Cond.methodLink RX12 354 yX12_begins ∈ lw_tbl := List.mem_append_right _ (List.mem_of_getElem? (i := 1800) (by decide +kernel))
theorem ml_X12_357 : Cond.methodLink RX12 357 yX12_isFlying ∈ lw_tbl := List.mem_append_right _ (List.mem_of_getElem? (i := 1804) (by decide +kernel))
theorem ml_X12_360 : Cond.methodLink RX12 360 yX12_breathes ∈ lw_tbl := List.mem_append_right _ (List.mem_of_getElem? (i := 1808) (by decide +kernel))
theorem ml_X12_363 : Cond.methodLink RX12 363 yX12_drawn ∈ lw_tbl := List.mem_append_right _ (List.mem_of_getElem? (i := 1929) (by decide +kernel))
theorem ml_X12_366 : Cond.methodLink RX12 366 yX12_goodIn ∈ lw_tbl := List.mem_append_right _ (List.mem_of_getElem? (i := 1934) (by decide +kernel))
theorem ml_X12_369 : Cond.methodLink RX12 369 yX12_laysGoods ∈ lw_tbl := List.mem_append_right _ (List.mem_of_getElem? (i := 1820) (by decide +kernel))
theorem ml_X12_372 : Cond.methodLink RX12 372 yX12_goodOf ∈ lw_tbl := List.mem_append_right _ (List.mem_of_getElem? (i := 1828) (by decide +kernel))
theorem ml_X12_375 : Cond.methodLink RX12 375 yX12_notGood ∈ lw_tbl := List.mem_append_right _ (List.mem_of_getElem? (i := 1832) (by decide +kernel))
theorem ml_X12_378 : Cond.methodLink RX12 378 yX12_laysAllGoods ∈ lw_tbl := List.mem_append_right _ (List.mem_of_getElem? (i := 1816) (by decide +kernel))
theorem ml_X12_381 : Cond.methodLink RX12 381 yX12_firstHas ∈ lw_tbl := List.mem_append_right _ (List.mem_of_getElem? (i := 1824) (by decide +kernel))
theorem ml_X12_384 : Cond.methodLink RX12 384 yX12_bothHave ∈ lw_tbl := List.mem_append_right _ (List.mem_of_getElem? (i := 1836) (by decide +kernel))
theorem ml_X12_387 : Cond.methodLink RX12 387 yX12_ofCase ∈ lw_tbl := List.mem_append_right _ (List.mem_of_getElem? (i := 1876) (by decide +kernel))
theorem ml_X12_390 : Cond.methodLink RX12 390 yX12_stockOf ∈ lw_tbl := List.mem_append_right _ (List.mem_of_getElem? (i := 1864) (by decide +kernel))
theorem ml_X12_393 : Cond.methodLink RX12 393 yX12_noCounsel ∈ lw_tbl := List.mem_append_right _ (List.mem_of_getElem? (i := 1860) (by decide +kernel))
theorem ml_X12_396 : Cond.methodLink RX12 396 yX12_noCase ∈ lw_tbl := List.mem_append_right _ (List.mem_of_getElem? (i := 1872) (by decide +kernel))
theorem ml_X12_399 : Cond.methodLink RX12 399 yX12_choices ∈ lw_tbl := List.mem_append_right _ (List.mem_of_getElem? (i := 1880) (by decide +kernel))
theorem ml_X12_407 : Cond.methodLink RX12 407 yX12_isOpen ∈ lw_tbl := List.mem_append_right _ (List.mem_of_getElem? (i := 1892) (by decide +kernel))
theorem ml_X12_410 : Cond.methodLink RX12 410 yX12_leastBy ∈ lw_tbl := List.mem_append_right _ (List.mem_of_getElem? (i := 1896) (by decide +kernel))
theorem ml_X12_413 : Cond.methodLink RX12 413 yX12_isBestOf ∈ lw_tbl := List.mem_append_right _ (List.mem_of_getElem? (i := 1907) (by decide +kernel))
theorem ml_X12_417 : Cond.methodLink RX12 417 Lib.Math.abs.name ∈ lw_tbl := List.mem_append_right _ (List.mem_of_getElem? (i := 1916) (by decide +kernel))
theorem ml_X12_420 : Cond.methodLink RX12 420 yX12_goodFirst ∈ lw_tbl := List.mem_append_right _ (List.mem_of_getElem? (i := 1942) (by decide +kernel))
theorem ml_X12_423 : Cond.methodLink RX12 423 yX12_remembers ∈ lw_tbl := List.mem_append_right _ (List.mem_of_getElem? (i := 1921) (by decide +kernel))
theorem ml_X12_426 : Cond.methodLink RX12 426 yX12_called ∈ lw_tbl := List.mem_append_right _ (List.mem_of_getElem? (i := 1925) (by decide +kernel))
theorem ml_X12_429 : Cond.methodLink RX12 429 yX12_tells ∈ lw_tbl := List.mem_append_right _ (List.mem_of_getElem? (i := 1938) (by decide +kernel))
theorem ml_X12_432 : Cond.methodLink RX12 432 yX12_oneWeek ∈ lw_tbl := List.mem_append_right _ (List.mem_of_getElem? (i := 1966) (by decide +kernel))
theorem ml_X12_435 : Cond.methodLink RX12 435 yX12_songsOf ∈ lw_tbl := List.mem_append_right _ (List.mem_of_getElem? (i := 1982) (by decide +kernel))
theorem ml_X12_438 : Cond.methodLink RX12 438 yX12_isTold ∈ lw_tbl := List.mem_append_right _ (List.mem_of_getElem? (i := 1974) (by decide +kernel))
theorem ml_X12_441 : Cond.methodLink RX12 441 yX12_fits ∈ lw_tbl := List.mem_append_right _ (List.mem_of_getElem? (i := 1978) (by decide +kernel))
theorem ml_X12_444 : Cond.methodLink RX12 444 yX12_allOf ∈ lw_tbl := List.mem_append_right _ (List.mem_of_getElem? (i := 1998) (by decide +kernel))
theorem ml_X12_447 : Cond.methodLink RX12 447 yX12_covers ∈ lw_tbl := List.mem_append_right _ (List.mem_of_getElem? (i := 2010) (by decide +kernel))
theorem ml_X12_450 : Cond.methodLink RX12 450 yJ6_bitCount_0f7a4 ∈ lw_tbl := List.mem_append_right _ (List.mem_of_getElem? (i := 2014) (by decide +kernel))
theorem ml_X12_455 : Cond.methodLink RX12 455 yX12_tries ∈ lw_tbl := List.mem_append_right _ (List.mem_of_getElem? (i := 2019) (by decide +kernel))
theorem ml_X12_459 : Cond.methodLink RX12 459 yX12_ofLog ∈ lw_tbl := List.mem_append_right _ (List.mem_of_getElem? (i := 2031) (by decide +kernel))
theorem ml_X12_462 : Cond.methodLink RX12 462 yX12_openOnes ∈ lw_tbl := List.mem_append_right _ (List.mem_of_getElem? (i := 2047) (by decide +kernel))
theorem ml_X12_465 : Cond.methodLink RX12 465 yX12_isCalm ∈ lw_tbl := List.mem_append_right _ (List.mem_of_getElem? (i := 2051) (by decide +kernel))
theorem ml_X12_67 : Cond.methodLink RX12 67 yX12_stockAt ∈ lw_tbl := List.mem_append_right _ (List.mem_of_getElem? (i := 1590) (by decide +kernel))
theorem ml_X12_71 : Cond.methodLink RX12 71 yX12_caseAt ∈ lw_tbl := List.mem_append_right _ (List.mem_of_getElem? (i := 1612) (by decide +kernel))
theorem ml_X12_74 : Cond.methodLink RX12 74 yX12_birds ∈ lw_tbl := List.mem_append_right _ (List.mem_of_getElem? (i := 1564) (by decide +kernel))
theorem ml_X12_78 : Cond.methodLink RX12 78 yX12_in ∈ lw_tbl := List.mem_append_right _ (List.mem_of_getElem? (i := 1583) (by decide +kernel))
theorem ml_X12_82 : Cond.methodLink RX12 82 yX12_counsel ∈ lw_tbl := List.mem_append_right _ (List.mem_of_getElem? (i := 1598) (by decide +kernel))
theorem ml_X12_85 : Cond.methodLink RX12 85 yX12_cases ∈ lw_tbl := List.mem_append_right _ (List.mem_of_getElem? (i := 1607) (by decide +kernel))
theorem ml_X12_98 : Cond.methodLink RX12 98 yX12_isAt ∈ lw_tbl := List.mem_append_right _ (List.mem_of_getElem? (i := 1537) (by decide +kernel))
theorem ea_maW_max : ea_MaW Lib.Math.max.name Lib.Math.max.code 2 := ⟨List.mem_append_right _ (List.mem_of_getElem? (i := 552) (by decide +kernel)), List.mem_append_right _ (List.mem_of_getElem? (i := 15) (by decide +kernel)), List.mem_append_right _ (List.mem_of_getElem? (i := 553) (by decide +kernel))⟩
theorem ea_maW_min : ea_MaW Lib.Math.min.name Lib.Math.min.code 2 := ⟨List.mem_append_right _ (List.mem_of_getElem? (i := 549) (by decide +kernel)), List.mem_append_right _ (List.mem_of_getElem? (i := 15) (by decide +kernel)), List.mem_append_right _ (List.mem_of_getElem? (i := 550) (by decide +kernel))⟩
theorem ea_maW_abs : ea_MaW Lib.Math.abs.name Lib.Math.abs.code 1 := ⟨List.mem_append_right _ (List.mem_of_getElem? (i := 1294) (by decide +kernel)), List.mem_append_right _ (List.mem_of_getElem? (i := 15) (by decide +kernel)), List.mem_append_right _ (List.mem_of_getElem? (i := 1295) (by decide +kernel))⟩
theorem ea_copyW : Cond.native arraycopyName ∈ lw_tbl ∧ Cond.static arraycopyName ∈ lw_tbl ∧ Cond.initialized "java/lang/System" ∈ lw_tbl := ⟨List.mem_append_right _ (List.mem_of_getElem? (i := 567) (by decide +kernel)), List.mem_append_right _ (List.mem_of_getElem? (i := 566) (by decide +kernel)), List.mem_append_right _ (List.mem_of_getElem? (i := 14) (by decide +kernel))⟩

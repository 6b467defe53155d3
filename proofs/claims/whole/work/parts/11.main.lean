-- the small machine runs as the real one: every method's contract
def am_PS (y : Nat) : Prop := ∃ pcs : Nat → Nat, pcs 0 = 0 ∧ plainName (am_nm y).cls = true ∧ ∀ ix, am_Sd (am_by y) (am_nm y).cls (am_mL y) (am_rk y) (am_re y) pcs ix (am_cd y ix)
theorem ps_0 : am_PS 0 := ⟨am_n2 0 pt_0, rfl, by decide, fun ix => am_i2 (fun _ => S_no) so_0 ix⟩
theorem ps_1 : am_PS 1 := ⟨am_n2 0 pt_1, rfl, by decide, fun ix => am_i2 (fun _ => S_no) so_1 ix⟩
theorem ps_2 : am_PS 2 := ⟨am_n2 0 pt_2, rfl, by decide, fun ix => am_i2 (fun _ => S_no) so_2 ix⟩
theorem ps_3 : am_PS 3 := ⟨am_n2 0 pt_3, rfl, by decide, fun ix => am_i2 (fun _ => S_no) so_3 ix⟩
theorem ps_4 : am_PS 4 := ⟨am_n2 0 pt_4, rfl, by decide, fun ix => am_i2 (fun _ => S_no) so_4 ix⟩
theorem ps_5 : am_PS 5 := ⟨am_n2 0 pt_5, rfl, by decide, fun ix => am_i2 (fun _ => S_no) so_5 ix⟩
theorem ps_6 : am_PS 6 := ⟨am_n2 0 pt_6, rfl, by decide, fun ix => am_i2 (fun _ => S_no) so_6 ix⟩
theorem ps_7 : am_PS 7 := ⟨am_n2 0 pt_7, rfl, by decide, fun ix => am_i2 (fun _ => S_no) so_7 ix⟩
theorem ps_8 : am_PS 8 := ⟨am_n2 0 pt_8, rfl, by decide, fun ix => am_i2 (fun _ => S_no) so_8 ix⟩
theorem ps_9 : am_PS 9 := ⟨am_n2 0 pt_9, rfl, by decide, fun ix => am_i2 (fun _ => S_no) so_9 ix⟩
theorem ps_10 : am_PS 10 := ⟨am_n2 0 pt_10, rfl, by decide, fun ix => am_i2 (fun _ => S_no) so_10 ix⟩
theorem ps_11 : am_PS 11 := ⟨am_n2 0 pt_11, rfl, by decide, fun ix => am_i2 (fun _ => S_no) so_11 ix⟩
theorem ps_12 : am_PS 12 := ⟨am_n2 0 pt_12, rfl, by decide, fun ix => am_i2 (fun _ => S_no) so_12 ix⟩
theorem ps_13 : am_PS 13 := ⟨am_n2 0 pt_13, rfl, by decide, fun ix => am_i2 (fun _ => S_no) so_13 ix⟩
theorem ps_14 : am_PS 14 := ⟨am_n2 0 pt_14, rfl, by decide, fun ix => am_i2 (fun _ => S_no) so_14 ix⟩
theorem ps_15 : am_PS 15 := ⟨am_n2 0 pt_15, rfl, by decide, fun ix => am_i2 (fun _ => S_no) so_15 ix⟩
theorem ps_16 : am_PS 16 := ⟨am_n2 0 pt_16, rfl, by decide, fun ix => am_i2 (fun _ => S_no) so_16 ix⟩
theorem ps_17 : am_PS 17 := ⟨am_n2 0 pt_17, rfl, by decide, fun ix => am_i2 (fun _ => S_no) so_17 ix⟩
theorem ps_18 : am_PS 18 := ⟨am_n2 0 pt_18, rfl, by decide, fun ix => am_i2 (fun _ => S_no) so_18 ix⟩
theorem ps_19 : am_PS 19 := ⟨am_n2 0 pt_19, rfl, by decide, fun ix => am_i2 (fun _ => S_no) so_19 ix⟩
theorem ps_20 : am_PS 20 := ⟨am_n2 0 pt_20, rfl, by decide, fun ix => am_i2 (fun _ => S_no) so_20 ix⟩
theorem ps_21 : am_PS 21 := ⟨am_n2 0 pt_21, rfl, by decide, fun ix => am_i2 (fun _ => S_no) so_21 ix⟩
theorem ps_22 : am_PS 22 := ⟨am_n2 0 pt_22, rfl, by decide, fun ix => am_i2 (fun _ => S_no) so_22 ix⟩
theorem ps_23 : am_PS 23 := ⟨am_n2 0 pt_23, rfl, by decide, fun ix => am_i2 (fun _ => S_no) so_23 ix⟩
theorem ps_24 : am_PS 24 := ⟨am_n2 0 pt_24, rfl, by decide, fun ix => am_i2 (fun _ => S_no) so_24 ix⟩
theorem ps_25 : am_PS 25 := ⟨am_n2 0 pt_25, rfl, by decide, fun ix => am_i2 (fun _ => S_no) so_25 ix⟩
theorem ps_26 : am_PS 26 := ⟨am_n2 0 pt_26, rfl, by decide, fun ix => am_i2 (fun _ => S_no) so_26 ix⟩
theorem ps_27 : am_PS 27 := ⟨am_n2 0 pt_27, rfl, by decide, fun ix => am_i2 (fun _ => S_no) so_27 ix⟩
theorem ps_28 : am_PS 28 := ⟨am_n2 0 pt_28, rfl, by decide, fun ix => am_i2 (fun _ => S_no) so_28 ix⟩
theorem ps_29 : am_PS 29 := ⟨am_n2 0 pt_29, rfl, by decide, fun ix => am_i2 (fun _ => S_no) so_29 ix⟩
theorem ps_30 : am_PS 30 := ⟨am_n2 0 pt_30, rfl, by decide, fun ix => am_i2 (fun _ => S_no) so_30 ix⟩
theorem ps_31 : am_PS 31 := ⟨am_n2 0 pt_31, rfl, by decide, fun ix => am_i2 (fun _ => S_no) so_31 ix⟩
theorem ps_32 : am_PS 32 := ⟨am_n2 0 pt_32, rfl, by decide, fun ix => am_i2 (fun _ => S_no) so_32 ix⟩
theorem ps_33 : am_PS 33 := ⟨am_n2 0 pt_33, rfl, by decide, fun ix => am_i2 (fun _ => S_no) so_33 ix⟩
theorem ps_34 : am_PS 34 := ⟨am_n2 0 pt_34, rfl, by decide, fun ix => am_i2 (fun _ => S_no) so_34 ix⟩
theorem ps_35 : am_PS 35 := ⟨am_n2 0 pt_35, rfl, by decide, fun ix => am_i2 (fun _ => S_no) so_35 ix⟩
theorem ps_36 : am_PS 36 := ⟨am_n2 0 pt_36, rfl, by decide, fun ix => am_i2 (fun _ => S_no) so_36 ix⟩
theorem ps_37 : am_PS 37 := ⟨am_n2 0 pt_37, rfl, by decide, fun ix => am_i2 (fun _ => S_no) so_37 ix⟩
theorem ps_38 : am_PS 38 := ⟨am_n2 0 pt_38, rfl, by decide, fun ix => am_i2 (fun _ => S_no) so_38 ix⟩
theorem ps_39 : am_PS 39 := ⟨am_n2 0 pt_39, rfl, by decide, fun ix => am_i2 (fun _ => S_no) so_39 ix⟩
theorem ps_40 : am_PS 40 := ⟨am_n2 0 pt_40, rfl, by decide, fun ix => am_i2 (fun _ => S_no) so_40 ix⟩
theorem ps_41 : am_PS 41 := ⟨am_n2 0 pt_41, rfl, by decide, fun ix => am_i2 (fun _ => S_no) so_41 ix⟩
theorem ps_42 : am_PS 42 := ⟨am_n2 0 pt_42, rfl, by decide, fun ix => am_i2 (fun _ => S_no) so_42 ix⟩
theorem ps_43 : am_PS 43 := ⟨am_n2 0 pt_43, rfl, by decide, fun ix => am_i2 (fun _ => S_no) so_43 ix⟩
theorem ps_44 : am_PS 44 := ⟨am_n2 0 pt_44, rfl, by decide, fun ix => am_i2 (fun _ => S_no) so_44 ix⟩
theorem ps_45 : am_PS 45 := ⟨am_n2 0 pt_45, rfl, by decide, fun ix => am_i2 (fun _ => S_no) so_45 ix⟩
theorem ps_46 : am_PS 46 := ⟨am_n2 0 pt_46, rfl, by decide, fun ix => am_i2 (fun _ => S_no) so_46 ix⟩
theorem ps_47 : am_PS 47 := ⟨am_n2 0 pt_47, rfl, by decide, fun ix => am_i2 (fun _ => S_no) so_47 ix⟩
theorem ps_48 : am_PS 48 := ⟨am_n2 0 pt_48, rfl, by decide, fun ix => am_i2 (fun _ => S_no) so_48 ix⟩
theorem ps_49 : am_PS 49 := ⟨am_n2 0 pt_49, rfl, by decide, fun ix => am_i2 (fun _ => S_no) so_49 ix⟩
theorem ps_50 : am_PS 50 := ⟨am_n2 0 pt_50, rfl, by decide, fun ix => am_i2 (fun _ => S_no) so_50 ix⟩
theorem ps_51 : am_PS 51 := ⟨am_n2 0 pt_51, rfl, by decide, fun ix => am_i2 (fun _ => S_no) so_51 ix⟩
theorem ps_52 : am_PS 52 := ⟨am_n2 0 pt_52, rfl, by decide, fun ix => am_i2 (fun _ => S_no) so_52 ix⟩
theorem ps_53 : am_PS 53 := ⟨am_n2 0 pt_53, rfl, by decide, fun ix => am_i2 (fun _ => S_no) so_53 ix⟩
theorem ps_54 : am_PS 54 := ⟨am_n2 0 pt_54, rfl, by decide, fun ix => am_i2 (fun _ => S_no) so_54 ix⟩
theorem ps_55 : am_PS 55 := ⟨am_n2 0 pt_55, rfl, by decide, fun ix => am_i2 (fun _ => S_no) so_55 ix⟩
theorem ps_56 : am_PS 56 := ⟨am_n2 0 pt_56, rfl, by decide, fun ix => am_i2 (fun _ => S_no) so_56 ix⟩
theorem ps_57 : am_PS 57 := ⟨am_n2 0 pt_57, rfl, by decide, fun ix => am_i2 (fun _ => S_no) so_57 ix⟩
theorem ps_58 : am_PS 58 := ⟨am_n2 0 pt_58, rfl, by decide, fun ix => am_i2 (fun _ => S_no) so_58 ix⟩
theorem ps_59 : am_PS 59 := ⟨am_n2 0 pt_59, rfl, by decide, fun ix => am_i2 (fun _ => S_no) so_59 ix⟩
theorem ps_60 : am_PS 60 := ⟨am_n2 0 pt_60, rfl, by decide, fun ix => am_i2 (fun _ => S_no) so_60 ix⟩
theorem ps_61 : am_PS 61 := ⟨am_n2 0 pt_61, rfl, by decide, fun ix => am_i2 (fun _ => S_no) so_61 ix⟩
theorem ps_62 : am_PS 62 := ⟨am_n2 0 pt_62, rfl, by decide, fun ix => am_i2 (fun _ => S_no) so_62 ix⟩
theorem ps_63 : am_PS 63 := ⟨am_n2 0 pt_63, rfl, by decide, fun ix => am_i2 (fun _ => S_no) so_63 ix⟩
theorem ps_64 : am_PS 64 := ⟨am_n2 0 pt_64, rfl, by decide, fun ix => am_i2 (fun _ => S_no) so_64 ix⟩
theorem ps_65 : am_PS 65 := ⟨am_n2 0 pt_65, rfl, by decide, fun ix => am_i2 (fun _ => S_no) so_65 ix⟩
theorem ps_66 : am_PS 66 := ⟨am_n2 0 pt_66, rfl, by decide, fun ix => am_i2 (fun _ => S_no) so_66 ix⟩
theorem ps_67 : am_PS 67 := ⟨am_n2 0 pt_67, rfl, by decide, fun ix => am_i2 (fun _ => S_no) so_67 ix⟩
theorem ps_68 : am_PS 68 := ⟨am_n2 0 pt_68, rfl, by decide, fun ix => am_i2 (fun _ => S_no) so_68 ix⟩
theorem ps_69 : am_PS 69 := ⟨am_n2 0 pt_69, rfl, by decide, fun ix => am_i2 (fun _ => S_no) so_69 ix⟩
theorem ps_70 : am_PS 70 := ⟨am_n2 0 pt_70, rfl, by decide, fun ix => am_i2 (fun _ => S_no) so_70 ix⟩
theorem ps_71 : am_PS 71 := ⟨am_n2 0 pt_71, rfl, by decide, fun ix => am_i2 (fun _ => S_no) so_71 ix⟩
theorem ps_72 : am_PS 72 := ⟨am_n2 0 pt_72, rfl, by decide, fun ix => am_i2 (fun _ => S_no) so_72 ix⟩
theorem ps_73 : am_PS 73 := ⟨am_n2 0 pt_73, rfl, by decide, fun ix => am_i2 (fun _ => S_no) so_73 ix⟩
theorem ps_74 : am_PS 74 := ⟨am_n2 0 pt_74, rfl, by decide, fun ix => am_i2 (fun _ => S_no) so_74 ix⟩
theorem ps_75 : am_PS 75 := ⟨am_n2 0 pt_75, rfl, by decide, fun ix => am_i2 (fun _ => S_no) so_75 ix⟩
theorem ps_76 : am_PS 76 := ⟨am_n2 0 pt_76, rfl, by decide, fun ix => am_i2 (fun _ => S_no) so_76 ix⟩
theorem ps_77 : am_PS 77 := ⟨am_n2 0 pt_77, rfl, by decide, fun ix => am_i2 (fun _ => S_no) so_77 ix⟩
theorem ps_78 : am_PS 78 := ⟨am_n2 0 pt_78, rfl, by decide, fun ix => am_i2 (fun _ => S_no) so_78 ix⟩
theorem ps_79 : am_PS 79 := ⟨am_n2 0 pt_79, rfl, by decide, fun ix => am_i2 (fun _ => S_no) so_79 ix⟩
theorem ps_80 : am_PS 80 := ⟨am_n2 0 pt_80, rfl, by decide, fun ix => am_i2 (fun _ => S_no) so_80 ix⟩
theorem ps_81 : am_PS 81 := ⟨am_n2 0 pt_81, rfl, by decide, fun ix => am_i2 (fun _ => S_no) so_81 ix⟩
theorem ps_82 : am_PS 82 := ⟨am_n2 0 pt_82, rfl, by decide, fun ix => am_i2 (fun _ => S_no) so_82 ix⟩
theorem ps_83 : am_PS 83 := ⟨am_n2 0 pt_83, rfl, by decide, fun ix => am_i2 (fun _ => S_no) so_83 ix⟩
theorem ps_84 : am_PS 84 := ⟨am_n2 0 pt_84, rfl, by decide, fun ix => am_i2 (fun _ => S_no) so_84 ix⟩
theorem ps_85 : am_PS 85 := ⟨am_n2 0 pt_85, rfl, by decide, fun ix => am_i2 (fun _ => S_no) so_85 ix⟩
theorem ps_86 : am_PS 86 := ⟨am_n2 0 pt_86, rfl, by decide, fun ix => am_i2 (fun _ => S_no) so_86 ix⟩
theorem ps_87 : am_PS 87 := ⟨am_n2 0 pt_87, rfl, by decide, fun ix => am_i2 (fun _ => S_no) so_87 ix⟩
theorem ps_88 : am_PS 88 := ⟨am_n2 0 pt_88, rfl, by decide, fun ix => am_i2 (fun _ => S_no) so_88 ix⟩
theorem ps_89 : am_PS 89 := ⟨am_n2 0 pt_89, rfl, by decide, fun ix => am_i2 (fun _ => S_no) so_89 ix⟩
theorem ps_90 : am_PS 90 := ⟨am_n2 0 pt_90, rfl, by decide, fun ix => am_i2 (fun _ => S_no) so_90 ix⟩
theorem ps_91 : am_PS 91 := ⟨am_n2 0 pt_91, rfl, by decide, fun ix => am_i2 (fun _ => S_no) so_91 ix⟩
theorem ps_92 : am_PS 92 := ⟨am_n2 0 pt_92, rfl, by decide, fun ix => am_i2 (fun _ => S_no) so_92 ix⟩
theorem ps_93 : am_PS 93 := ⟨am_n2 0 pt_93, rfl, by decide, fun ix => am_i2 (fun _ => S_no) so_93 ix⟩
theorem ps_94 : am_PS 94 := ⟨am_n2 0 pt_94, rfl, by decide, fun ix => am_i2 (fun _ => S_no) so_94 ix⟩
theorem ps_95 : am_PS 95 := ⟨am_n2 0 pt_95, rfl, by decide, fun ix => am_i2 (fun _ => S_no) so_95 ix⟩
theorem ps_96 : am_PS 96 := ⟨am_n2 0 pt_96, rfl, by decide, fun ix => am_i2 (fun _ => S_no) so_96 ix⟩
theorem ps_97 : am_PS 97 := ⟨am_n2 0 pt_97, rfl, by decide, fun ix => am_i2 (fun _ => S_no) so_97 ix⟩
theorem ps_98 : am_PS 98 := ⟨am_n2 0 pt_98, rfl, by decide, fun ix => am_i2 (fun _ => S_no) so_98 ix⟩
theorem ps_99 : am_PS 99 := ⟨am_n2 0 pt_99, rfl, by decide, fun ix => am_i2 (fun _ => S_no) so_99 ix⟩
theorem ps_100 : am_PS 100 := ⟨am_n2 0 pt_100, rfl, by decide, fun ix => am_i2 (fun _ => S_no) so_100 ix⟩
theorem ps_101 : am_PS 101 := ⟨am_n2 0 pt_101, rfl, by decide, fun ix => am_i2 (fun _ => S_no) so_101 ix⟩
theorem ps_102 : am_PS 102 := ⟨am_n2 0 pt_102, rfl, by decide, fun ix => am_i2 (fun _ => S_no) so_102 ix⟩
theorem ps_103 : am_PS 103 := ⟨am_n2 0 pt_103, rfl, by decide, fun ix => am_i2 (fun _ => S_no) so_103 ix⟩
theorem ps_104 : am_PS 104 := ⟨am_n2 0 pt_104, rfl, by decide, fun ix => am_i2 (fun _ => S_no) so_104 ix⟩
theorem ps_105 : am_PS 105 := ⟨am_n2 0 pt_105, rfl, by decide, fun ix => am_i2 (fun _ => S_no) so_105 ix⟩
theorem ps_106 : am_PS 106 := ⟨am_n2 0 pt_106, rfl, by decide, fun ix => am_i2 (fun _ => S_no) so_106 ix⟩
theorem ps_107 : am_PS 107 := ⟨am_n2 0 pt_107, rfl, by decide, fun ix => am_i2 (fun _ => S_no) so_107 ix⟩
theorem ps_108 : am_PS 108 := ⟨am_n2 0 pt_108, rfl, by decide, fun ix => am_i2 (fun _ => S_no) so_108 ix⟩
theorem ps_109 : am_PS 109 := ⟨am_n2 0 pt_109, rfl, by decide, fun ix => am_i2 (fun _ => S_no) so_109 ix⟩
theorem ps_110 : am_PS 110 := ⟨am_n2 0 pt_110, rfl, by decide, fun ix => am_i2 (fun _ => S_no) so_110 ix⟩
theorem ps_111 : am_PS 111 := ⟨am_n2 0 pt_111, rfl, by decide, fun ix => am_i2 (fun _ => S_no) so_111 ix⟩
theorem ps_112 : am_PS 112 := ⟨am_n2 0 pt_112, rfl, by decide, fun ix => am_i2 (fun _ => S_no) so_112 ix⟩
theorem ps_113 : am_PS 113 := ⟨am_n2 0 pt_113, rfl, by decide, fun ix => am_i2 (fun _ => S_no) so_113 ix⟩
theorem ps_114 : am_PS 114 := ⟨am_n2 0 pt_114, rfl, by decide, fun ix => am_i2 (fun _ => S_no) so_114 ix⟩
theorem ps_115 : am_PS 115 := ⟨am_n2 0 pt_115, rfl, by decide, fun ix => am_i2 (fun _ => S_no) so_115 ix⟩
theorem ps_116 : am_PS 116 := ⟨am_n2 0 pt_116, rfl, by decide, fun ix => am_i2 (fun _ => S_no) so_116 ix⟩
theorem ps_117 : am_PS 117 := ⟨am_n2 0 pt_117, rfl, by decide, fun ix => am_i2 (fun _ => S_no) so_117 ix⟩
theorem ps_118 : am_PS 118 := ⟨am_n2 0 pt_118, rfl, by decide, fun ix => am_i2 (fun _ => S_no) so_118 ix⟩
theorem ps_119 : am_PS 119 := ⟨am_n2 0 pt_119, rfl, by decide, fun ix => am_i2 (fun _ => S_no) so_119 ix⟩
theorem ps_120 : am_PS 120 := ⟨am_n2 0 pt_120, rfl, by decide, fun ix => am_i2 (fun _ => S_no) so_120 ix⟩
theorem ps_121 : am_PS 121 := ⟨am_n2 0 pt_121, rfl, by decide, fun ix => am_i2 (fun _ => S_no) so_121 ix⟩
theorem ps_122 : am_PS 122 := ⟨am_n2 0 pt_122, rfl, by decide, fun ix => am_i2 (fun _ => S_no) so_122 ix⟩
theorem ps_123 : am_PS 123 := ⟨am_n2 0 pt_123, rfl, by decide, fun ix => am_i2 (fun _ => S_no) so_123 ix⟩
theorem ps_124 : am_PS 124 := ⟨am_n2 0 pt_124, rfl, by decide, fun ix => am_i2 (fun _ => S_no) so_124 ix⟩
theorem ps_125 : am_PS 125 := ⟨am_n2 0 pt_125, rfl, by decide, fun ix => am_i2 (fun _ => S_no) so_125 ix⟩
theorem ps_126 : am_PS 126 := ⟨am_n2 0 pt_126, rfl, by decide, fun ix => am_i2 (fun _ => S_no) so_126 ix⟩
theorem ps_127 : am_PS 127 := ⟨am_n2 0 pt_127, rfl, by decide, fun ix => am_i2 (fun _ => S_no) so_127 ix⟩
theorem ps_128 : am_PS 128 := ⟨am_n2 0 pt_128, rfl, by decide, fun ix => am_i2 (fun _ => S_no) so_128 ix⟩
theorem ps_129 : am_PS 129 := ⟨am_n2 0 pt_129, rfl, by decide, fun ix => am_i2 (fun _ => S_no) so_129 ix⟩
theorem ps_130 : am_PS 130 := ⟨am_n2 0 pt_130, rfl, by decide, fun ix => am_i2 (fun _ => S_no) so_130 ix⟩
theorem ps_131 : am_PS 131 := ⟨am_n2 0 pt_131, rfl, by decide, fun ix => am_i2 (fun _ => S_no) so_131 ix⟩
theorem ps_132 : am_PS 132 := ⟨am_n2 0 pt_132, rfl, by decide, fun ix => am_i2 (fun _ => S_no) so_132 ix⟩
theorem ps_133 : am_PS 133 := ⟨am_n2 0 pt_133, rfl, by decide, fun ix => am_i2 (fun _ => S_no) so_133 ix⟩
theorem ps_134 : am_PS 134 := ⟨am_n2 0 pt_134, rfl, by decide, fun ix => am_i2 (fun _ => S_no) so_134 ix⟩
theorem ps_135 : am_PS 135 := ⟨am_n2 0 pt_135, rfl, by decide, fun ix => am_i2 (fun _ => S_no) so_135 ix⟩
theorem ps_136 : am_PS 136 := ⟨am_n2 0 pt_136, rfl, by decide, fun ix => am_i2 (fun _ => S_no) so_136 ix⟩
theorem ps_137 : am_PS 137 := ⟨am_n2 0 pt_137, rfl, by decide, fun ix => am_i2 (fun _ => S_no) so_137 ix⟩
theorem ps_138 : am_PS 138 := ⟨am_n2 0 pt_138, rfl, by decide, fun ix => am_i2 (fun _ => S_no) so_138 ix⟩
theorem ps_139 : am_PS 139 := ⟨am_n2 0 pt_139, rfl, by decide, fun ix => am_i2 (fun _ => S_no) so_139 ix⟩
theorem ps_140 : am_PS 140 := ⟨am_n2 0 pt_140, rfl, by decide, fun ix => am_i2 (fun _ => S_no) so_140 ix⟩
theorem ps_141 : am_PS 141 := ⟨am_n2 0 pt_141, rfl, by decide, fun ix => am_i2 (fun _ => S_no) so_141 ix⟩
theorem ps_142 : am_PS 142 := ⟨am_n2 0 pt_142, rfl, by decide, fun ix => am_i2 (fun _ => S_no) so_142 ix⟩
theorem ps_143 : am_PS 143 := ⟨am_n2 0 pt_143, rfl, by decide, fun ix => am_i2 (fun _ => S_no) so_143 ix⟩
theorem ps_144 : am_PS 144 := ⟨am_n2 0 pt_144, rfl, by decide, fun ix => am_i2 (fun _ => S_no) so_144 ix⟩
theorem ps_145 : am_PS 145 := ⟨am_n2 0 pt_145, rfl, by decide, fun ix => am_i2 (fun _ => S_no) so_145 ix⟩
theorem ps_146 : am_PS 146 := ⟨am_n2 0 pt_146, rfl, by decide, fun ix => am_i2 (fun _ => S_no) so_146 ix⟩
theorem ps_147 : am_PS 147 := ⟨am_n2 0 pt_147, rfl, by decide, fun ix => am_i2 (fun _ => S_no) so_147 ix⟩
theorem ps_148 : am_PS 148 := ⟨am_n2 0 pt_148, rfl, by decide, fun ix => am_i2 (fun _ => S_no) so_148 ix⟩
theorem ps_149 : am_PS 149 := ⟨am_n2 0 pt_149, rfl, by decide, fun ix => am_i2 (fun _ => S_no) so_149 ix⟩
theorem ps_150 : am_PS 150 := ⟨am_n2 0 pt_150, rfl, by decide, fun ix => am_i2 (fun _ => S_no) so_150 ix⟩
theorem ps_151 : am_PS 151 := ⟨am_n2 0 pt_151, rfl, by decide, fun ix => am_i2 (fun _ => S_no) so_151 ix⟩
theorem ps_152 : am_PS 152 := ⟨am_n2 0 pt_152, rfl, by decide, fun ix => am_i2 (fun _ => S_no) so_152 ix⟩
theorem ps_153 : am_PS 153 := ⟨am_n2 0 pt_153, rfl, by decide, fun ix => am_i2 (fun _ => S_no) so_153 ix⟩
theorem ps_154 : am_PS 154 := ⟨am_n2 0 pt_154, rfl, by decide, fun ix => am_i2 (fun _ => S_no) so_154 ix⟩
theorem ps_155 : am_PS 155 := ⟨am_n2 0 pt_155, rfl, by decide, fun ix => am_i2 (fun _ => S_no) so_155 ix⟩
theorem ps_156 : am_PS 156 := ⟨am_n2 0 pt_156, rfl, by decide, fun ix => am_i2 (fun _ => S_no) so_156 ix⟩
theorem ps_157 : am_PS 157 := ⟨am_n2 0 pt_157, rfl, by decide, fun ix => am_i2 (fun _ => S_no) so_157 ix⟩
theorem ps_158 : am_PS 158 := ⟨am_n2 0 pt_158, rfl, by decide, fun ix => am_i2 (fun _ => S_no) so_158 ix⟩
theorem ps_159 : am_PS 159 := ⟨am_n2 0 pt_159, rfl, by decide, fun ix => am_i2 (fun _ => S_no) so_159 ix⟩
theorem ps_160 : am_PS 160 := ⟨am_n2 0 pt_160, rfl, by decide, fun ix => am_i2 (fun _ => S_no) so_160 ix⟩
theorem ps_161 : am_PS 161 := ⟨am_n2 0 pt_161, rfl, by decide, fun ix => am_i2 (fun _ => S_no) so_161 ix⟩
theorem ps_162 : am_PS 162 := ⟨am_n2 0 pt_162, rfl, by decide, fun ix => am_i2 (fun _ => S_no) so_162 ix⟩
theorem ps_163 : am_PS 163 := ⟨am_n2 0 pt_163, rfl, by decide, fun ix => am_i2 (fun _ => S_no) so_163 ix⟩
theorem ps_164 : am_PS 164 := ⟨am_n2 0 pt_164, rfl, by decide, fun ix => am_i2 (fun _ => S_no) so_164 ix⟩
theorem ps_165 : am_PS 165 := ⟨am_n2 0 pt_165, rfl, by decide, fun ix => am_i2 (fun _ => S_no) so_165 ix⟩
theorem ps_166 : am_PS 166 := ⟨am_n2 0 pt_166, rfl, by decide, fun ix => am_i2 (fun _ => S_no) so_166 ix⟩
theorem ps_167 : am_PS 167 := ⟨am_n2 0 pt_167, rfl, by decide, fun ix => am_i2 (fun _ => S_no) so_167 ix⟩
theorem ps_168 : am_PS 168 := ⟨am_n2 0 pt_168, rfl, by decide, fun ix => am_i2 (fun _ => S_no) so_168 ix⟩
theorem ps_169 : am_PS 169 := ⟨am_n2 0 pt_169, rfl, by decide, fun ix => am_i2 (fun _ => S_no) so_169 ix⟩
theorem ps_170 : am_PS 170 := ⟨am_n2 0 pt_170, rfl, by decide, fun ix => am_i2 (fun _ => S_no) so_170 ix⟩
theorem ps_171 : am_PS 171 := ⟨am_n2 0 pt_171, rfl, by decide, fun ix => am_i2 (fun _ => S_no) so_171 ix⟩
theorem ps_172 : am_PS 172 := ⟨am_n2 0 pt_172, rfl, by decide, fun ix => am_i2 (fun _ => S_no) so_172 ix⟩
theorem ps_173 : am_PS 173 := ⟨am_n2 0 pt_173, rfl, by decide, fun ix => am_i2 (fun _ => S_no) so_173 ix⟩
theorem ps_174 : am_PS 174 := ⟨am_n2 0 pt_174, rfl, by decide, fun ix => am_i2 (fun _ => S_no) so_174 ix⟩
theorem ps_175 : am_PS 175 := ⟨am_n2 0 pt_175, rfl, by decide, fun ix => am_i2 (fun _ => S_no) so_175 ix⟩
theorem ps_176 : am_PS 176 := ⟨am_n2 0 pt_176, rfl, by decide, fun ix => am_i2 (fun _ => S_no) so_176 ix⟩
theorem ps_177 : am_PS 177 := ⟨am_n2 0 pt_177, rfl, by decide, fun ix => am_i2 (fun _ => S_no) so_177 ix⟩
theorem ps_178 : am_PS 178 := ⟨am_n2 0 pt_178, rfl, by decide, fun ix => am_i2 (fun _ => S_no) so_178 ix⟩
theorem ps_179 : am_PS 179 := ⟨am_n2 0 pt_179, rfl, by decide, fun ix => am_i2 (fun _ => S_no) so_179 ix⟩
theorem ps_180 : am_PS 180 := ⟨am_n2 0 pt_180, rfl, by decide, fun ix => am_i2 (fun _ => S_no) so_180 ix⟩
theorem ps_181 : am_PS 181 := ⟨am_n2 0 pt_181, rfl, by decide, fun ix => am_i2 (fun _ => S_no) so_181 ix⟩
theorem ps_182 : am_PS 182 := ⟨am_n2 0 pt_182, rfl, by decide, fun ix => am_i2 (fun _ => S_no) so_182 ix⟩
theorem ps_183 : am_PS 183 := ⟨am_n2 0 pt_183, rfl, by decide, fun ix => am_i2 (fun _ => S_no) so_183 ix⟩
theorem ps_184 : am_PS 184 := ⟨am_n2 0 pt_184, rfl, by decide, fun ix => am_i2 (fun _ => S_no) so_184 ix⟩
theorem ps_185 : am_PS 185 := ⟨am_n2 0 pt_185, rfl, by decide, fun ix => am_i2 (fun _ => S_no) so_185 ix⟩
theorem ps_186 : am_PS 186 := ⟨am_n2 0 pt_186, rfl, by decide, fun ix => am_i2 (fun _ => S_no) so_186 ix⟩
theorem ps_187 : am_PS 187 := ⟨am_n2 0 pt_187, rfl, by decide, fun ix => am_i2 (fun _ => S_no) so_187 ix⟩
theorem ps_188 : am_PS 188 := ⟨am_n2 0 pt_188, rfl, by decide, fun ix => am_i2 (fun _ => S_no) so_188 ix⟩
theorem ps_189 : am_PS 189 := ⟨am_n2 0 pt_189, rfl, by decide, fun ix => am_i2 (fun _ => S_no) so_189 ix⟩
theorem ps_190 : am_PS 190 := ⟨am_n2 0 pt_190, rfl, by decide, fun ix => am_i2 (fun _ => S_no) so_190 ix⟩
theorem ps_191 : am_PS 191 := ⟨am_n2 0 pt_191, rfl, by decide, fun ix => am_i2 (fun _ => S_no) so_191 ix⟩
theorem ps_192 : am_PS 192 := ⟨am_n2 0 pt_192, rfl, by decide, fun ix => am_i2 (fun _ => S_no) so_192 ix⟩
theorem ps_193 : am_PS 193 := ⟨am_n2 0 pt_193, rfl, by decide, fun ix => am_i2 (fun _ => S_no) so_193 ix⟩
theorem ps_194 : am_PS 194 := ⟨am_n2 0 pt_194, rfl, by decide, fun ix => am_i2 (fun _ => S_no) so_194 ix⟩
theorem ps_195 : am_PS 195 := ⟨am_n2 0 pt_195, rfl, by decide, fun ix => am_i2 (fun _ => S_no) so_195 ix⟩
theorem ps_196 : am_PS 196 := ⟨am_n2 0 pt_196, rfl, by decide, fun ix => am_i2 (fun _ => S_no) so_196 ix⟩
theorem ps_197 : am_PS 197 := ⟨am_n2 0 pt_197, rfl, by decide, fun ix => am_i2 (fun _ => S_no) so_197 ix⟩
theorem ps_198 : am_PS 198 := ⟨am_n2 0 pt_198, rfl, by decide, fun ix => am_i2 (fun _ => S_no) so_198 ix⟩
theorem ps_199 : am_PS 199 := ⟨am_n2 0 pt_199, rfl, by decide, fun ix => am_i2 (fun _ => S_no) so_199 ix⟩
theorem ps_200 : am_PS 200 := ⟨am_n2 0 pt_200, rfl, by decide, fun ix => am_i2 (fun _ => S_no) so_200 ix⟩
theorem ps_201 : am_PS 201 := ⟨am_n2 0 pt_201, rfl, by decide, fun ix => am_i2 (fun _ => S_no) so_201 ix⟩
theorem ps_202 : am_PS 202 := ⟨am_n2 0 pt_202, rfl, by decide, fun ix => am_i2 (fun _ => S_no) so_202 ix⟩
theorem ps_203 : am_PS 203 := ⟨am_n2 0 pt_203, rfl, by decide, fun ix => am_i2 (fun _ => S_no) so_203 ix⟩
theorem ps_204 : am_PS 204 := ⟨am_n2 0 pt_204, rfl, by decide, fun ix => am_i2 (fun _ => S_no) so_204 ix⟩
theorem ps_205 : am_PS 205 := ⟨am_n2 0 pt_205, rfl, by decide, fun ix => am_i2 (fun _ => S_no) so_205 ix⟩
theorem ps_206 : am_PS 206 := ⟨am_n2 0 pt_206, rfl, by decide, fun ix => am_i2 (fun _ => S_no) so_206 ix⟩
theorem ps_207 : am_PS 207 := ⟨am_n2 0 pt_207, rfl, by decide, fun ix => am_i2 (fun _ => S_no) so_207 ix⟩
theorem ps_208 : am_PS 208 := ⟨am_n2 0 pt_208, rfl, by decide, fun ix => am_i2 (fun _ => S_no) so_208 ix⟩
theorem ps_209 : am_PS 209 := ⟨am_n2 0 pt_209, rfl, by decide, fun ix => am_i2 (fun _ => S_no) so_209 ix⟩
theorem ps_210 : am_PS 210 := ⟨am_n2 0 pt_210, rfl, by decide, fun ix => am_i2 (fun _ => S_no) so_210 ix⟩
theorem ps_211 : am_PS 211 := ⟨am_n2 0 pt_211, rfl, by decide, fun ix => am_i2 (fun _ => S_no) so_211 ix⟩
theorem ps_212 : am_PS 212 := ⟨am_n2 0 pt_212, rfl, by decide, fun ix => am_i2 (fun _ => S_no) so_212 ix⟩
theorem ps_213 : am_PS 213 := ⟨am_n2 0 pt_213, rfl, by decide, fun ix => am_i2 (fun _ => S_no) so_213 ix⟩
theorem ps_214 : am_PS 214 := ⟨am_n2 0 pt_214, rfl, by decide, fun ix => am_i2 (fun _ => S_no) so_214 ix⟩
theorem ps_215 : am_PS 215 := ⟨am_n2 0 pt_215, rfl, by decide, fun ix => am_i2 (fun _ => S_no) so_215 ix⟩
theorem ps_216 : am_PS 216 := ⟨am_n2 0 pt_216, rfl, by decide, fun ix => am_i2 (fun _ => S_no) so_216 ix⟩
theorem ps_217 : am_PS 217 := ⟨am_n2 0 pt_217, rfl, by decide, fun ix => am_i2 (fun _ => S_no) so_217 ix⟩
theorem ps_218 : am_PS 218 := ⟨am_n2 0 pt_218, rfl, by decide, fun ix => am_i2 (fun _ => S_no) so_218 ix⟩
theorem ps_219 : am_PS 219 := ⟨am_n2 0 pt_219, rfl, by decide, fun ix => am_i2 (fun _ => S_no) so_219 ix⟩
theorem ps_220 : am_PS 220 := ⟨am_n2 0 pt_220, rfl, by decide, fun ix => am_i2 (fun _ => S_no) so_220 ix⟩
theorem ps_221 : am_PS 221 := ⟨am_n2 0 pt_221, rfl, by decide, fun ix => am_i2 (fun _ => S_no) so_221 ix⟩
theorem ps_222 : am_PS 222 := ⟨am_n2 0 pt_222, rfl, by decide, fun ix => am_i2 (fun _ => S_no) so_222 ix⟩
theorem ps_223 : am_PS 223 := ⟨am_n2 0 pt_223, rfl, by decide, fun ix => am_i2 (fun _ => S_no) so_223 ix⟩
theorem ps_224 : am_PS 224 := ⟨am_n2 0 pt_224, rfl, by decide, fun ix => am_i2 (fun _ => S_no) so_224 ix⟩
theorem ps_225 : am_PS 225 := ⟨am_n2 0 pt_225, rfl, by decide, fun ix => am_i2 (fun _ => S_no) so_225 ix⟩
theorem ps_226 : am_PS 226 := ⟨am_n2 0 pt_226, rfl, by decide, fun ix => am_i2 (fun _ => S_no) so_226 ix⟩
theorem ps_227 : am_PS 227 := ⟨am_n2 0 pt_227, rfl, by decide, fun ix => am_i2 (fun _ => S_no) so_227 ix⟩
theorem ps_228 : am_PS 228 := ⟨am_n2 0 pt_228, rfl, by decide, fun ix => am_i2 (fun _ => S_no) so_228 ix⟩
theorem ps_229 : am_PS 229 := ⟨am_n2 0 pt_229, rfl, by decide, fun ix => am_i2 (fun _ => S_no) so_229 ix⟩
theorem ps_230 : am_PS 230 := ⟨am_n2 0 pt_230, rfl, by decide, fun ix => am_i2 (fun _ => S_no) so_230 ix⟩
theorem ps_231 : am_PS 231 := ⟨am_n2 0 pt_231, rfl, by decide, fun ix => am_i2 (fun _ => S_no) so_231 ix⟩
theorem ps_232 : am_PS 232 := ⟨am_n2 0 pt_232, rfl, by decide, fun ix => am_i2 (fun _ => S_no) so_232 ix⟩
theorem ps_233 : am_PS 233 := ⟨am_n2 0 pt_233, rfl, by decide, fun ix => am_i2 (fun _ => S_no) so_233 ix⟩
theorem ps_234 : am_PS 234 := ⟨am_n2 0 pt_234, rfl, by decide, fun ix => am_i2 (fun _ => S_no) so_234 ix⟩
theorem ps_235 : am_PS 235 := ⟨am_n2 0 pt_235, rfl, by decide, fun ix => am_i2 (fun _ => S_no) so_235 ix⟩
theorem ps_236 : am_PS 236 := ⟨am_n2 0 pt_236, rfl, by decide, fun ix => am_i2 (fun _ => S_no) so_236 ix⟩
theorem ps_237 : am_PS 237 := ⟨am_n2 0 pt_237, rfl, by decide, fun ix => am_i2 (fun _ => S_no) so_237 ix⟩
theorem ps_238 : am_PS 238 := ⟨am_n2 0 pt_238, rfl, by decide, fun ix => am_i2 (fun _ => S_no) so_238 ix⟩
theorem ps_239 : am_PS 239 := ⟨am_n2 0 pt_239, rfl, by decide, fun ix => am_i2 (fun _ => S_no) so_239 ix⟩
theorem ps_240 : am_PS 240 := ⟨am_n2 0 pt_240, rfl, by decide, fun ix => am_i2 (fun _ => S_no) so_240 ix⟩
theorem ps_241 : am_PS 241 := ⟨am_n2 0 pt_241, rfl, by decide, fun ix => am_i2 (fun _ => S_no) so_241 ix⟩
theorem ps_242 : am_PS 242 := ⟨am_n2 0 pt_242, rfl, by decide, fun ix => am_i2 (fun _ => S_no) so_242 ix⟩
theorem ps_243 : am_PS 243 := ⟨am_n2 0 pt_243, rfl, by decide, fun ix => am_i2 (fun _ => S_no) so_243 ix⟩
theorem ps_244 : am_PS 244 := ⟨am_n2 0 pt_244, rfl, by decide, fun ix => am_i2 (fun _ => S_no) so_244 ix⟩
theorem ps_245 : am_PS 245 := ⟨am_n2 0 pt_245, rfl, by decide, fun ix => am_i2 (fun _ => S_no) so_245 ix⟩
theorem ps_246 : am_PS 246 := ⟨am_n2 0 pt_246, rfl, by decide, fun ix => am_i2 (fun _ => S_no) so_246 ix⟩
theorem ps_247 : am_PS 247 := ⟨am_n2 0 pt_247, rfl, by decide, fun ix => am_i2 (fun _ => S_no) so_247 ix⟩
theorem ps_248 : am_PS 248 := ⟨am_n2 0 pt_248, rfl, by decide, fun ix => am_i2 (fun _ => S_no) so_248 ix⟩
theorem ps_249 : am_PS 249 := ⟨am_n2 0 pt_249, rfl, by decide, fun ix => am_i2 (fun _ => S_no) so_249 ix⟩
theorem ps_250 : am_PS 250 := ⟨am_n2 0 pt_250, rfl, by decide, fun ix => am_i2 (fun _ => S_no) so_250 ix⟩
theorem ps_251 : am_PS 251 := ⟨am_n2 0 pt_251, rfl, by decide, fun ix => am_i2 (fun _ => S_no) so_251 ix⟩
theorem ps_252 : am_PS 252 := ⟨am_n2 0 pt_252, rfl, by decide, fun ix => am_i2 (fun _ => S_no) so_252 ix⟩
theorem ps_253 : am_PS 253 := ⟨am_n2 0 pt_253, rfl, by decide, fun ix => am_i2 (fun _ => S_no) so_253 ix⟩
theorem ps_254 : am_PS 254 := ⟨am_n2 0 pt_254, rfl, by decide, fun ix => am_i2 (fun _ => S_no) so_254 ix⟩
theorem ps_255 : am_PS 255 := ⟨am_n2 0 pt_255, rfl, by decide, fun ix => am_i2 (fun _ => S_no) so_255 ix⟩
theorem ps_256 : am_PS 256 := ⟨am_n2 0 pt_256, rfl, by decide, fun ix => am_i2 (fun _ => S_no) so_256 ix⟩
theorem ps_257 : am_PS 257 := ⟨am_n2 0 pt_257, rfl, by decide, fun ix => am_i2 (fun _ => S_no) so_257 ix⟩
theorem ps_258 : am_PS 258 := ⟨am_n2 0 pt_258, rfl, by decide, fun ix => am_i2 (fun _ => S_no) so_258 ix⟩
theorem ps_259 : am_PS 259 := ⟨am_n2 0 pt_259, rfl, by decide, fun ix => am_i2 (fun _ => S_no) so_259 ix⟩
theorem ps_260 : am_PS 260 := ⟨am_n2 0 pt_260, rfl, by decide, fun ix => am_i2 (fun _ => S_no) so_260 ix⟩
theorem ps_261 : am_PS 261 := ⟨am_n2 0 pt_261, rfl, by decide, fun ix => am_i2 (fun _ => S_no) so_261 ix⟩
theorem ps_262 : am_PS 262 := ⟨am_n2 0 pt_262, rfl, by decide, fun ix => am_i2 (fun _ => S_no) so_262 ix⟩
theorem ps_263 : am_PS 263 := ⟨am_n2 0 pt_263, rfl, by decide, fun ix => am_i2 (fun _ => S_no) so_263 ix⟩
theorem ps_264 : am_PS 264 := ⟨am_n2 0 pt_264, rfl, by decide, fun ix => am_i2 (fun _ => S_no) so_264 ix⟩
theorem ps_265 : am_PS 265 := ⟨am_n2 0 pt_265, rfl, by decide, fun ix => am_i2 (fun _ => S_no) so_265 ix⟩
theorem ps_266 : am_PS 266 := ⟨am_n2 0 pt_266, rfl, by decide, fun ix => am_i2 (fun _ => S_no) so_266 ix⟩
theorem ps_267 : am_PS 267 := ⟨am_n2 0 pt_267, rfl, by decide, fun ix => am_i2 (fun _ => S_no) so_267 ix⟩
theorem ps_268 : am_PS 268 := ⟨am_n2 0 pt_268, rfl, by decide, fun ix => am_i2 (fun _ => S_no) so_268 ix⟩
theorem ps_269 : am_PS 269 := ⟨am_n2 0 pt_269, rfl, by decide, fun ix => am_i2 (fun _ => S_no) so_269 ix⟩
theorem ps_270 : am_PS 270 := ⟨am_n2 0 pt_270, rfl, by decide, fun ix => am_i2 (fun _ => S_no) so_270 ix⟩
theorem ps_271 : am_PS 271 := ⟨am_n2 0 pt_271, rfl, by decide, fun ix => am_i2 (fun _ => S_no) so_271 ix⟩
theorem ps_272 : am_PS 272 := ⟨am_n2 0 pt_272, rfl, by decide, fun ix => am_i2 (fun _ => S_no) so_272 ix⟩
theorem ps_273 : am_PS 273 := ⟨am_n2 0 pt_273, rfl, by decide, fun ix => am_i2 (fun _ => S_no) so_273 ix⟩
theorem ps_274 : am_PS 274 := ⟨am_n2 0 pt_274, rfl, by decide, fun ix => am_i2 (fun _ => S_no) so_274 ix⟩
theorem ps_275 : am_PS 275 := ⟨am_n2 0 pt_275, rfl, by decide, fun ix => am_i2 (fun _ => S_no) so_275 ix⟩
theorem ps_276 : am_PS 276 := ⟨am_n2 0 pt_276, rfl, by decide, fun ix => am_i2 (fun _ => S_no) so_276 ix⟩
theorem ps_277 : am_PS 277 := ⟨am_n2 0 pt_277, rfl, by decide, fun ix => am_i2 (fun _ => S_no) so_277 ix⟩
theorem ps_278 : am_PS 278 := ⟨am_n2 0 pt_278, rfl, by decide, fun ix => am_i2 (fun _ => S_no) so_278 ix⟩
theorem ps_279 : am_PS 279 := ⟨am_n2 0 pt_279, rfl, by decide, fun ix => am_i2 (fun _ => S_no) so_279 ix⟩
theorem am_sp1 {P : Nat → Prop} {a b : Nat} (h : P a) (t : ∀ y, a + 1 ≤ y → y < b → P y) : ∀ y, a ≤ y → y < b → P y := fun y h1 h2 => by
  rcases Nat.lt_or_ge a y with q | q
  · exact t y q h2
  · rw [show y = a by omega]; exact h
theorem am_sp0 {P : Nat → Prop} {b : Nat} : ∀ y, b ≤ y → y < b → P y := fun y h1 h2 => by omega
theorem pq_0 : ∀ y, 0 ≤ y → y < 40 → am_PS y := am_sp1 (a := 0) ps_0 (am_sp1 (a := 1) ps_1 (am_sp1 (a := 2) ps_2 (am_sp1 (a := 3) ps_3 (am_sp1 (a := 4) ps_4 (am_sp1 (a := 5) ps_5 (am_sp1 (a := 6) ps_6 (am_sp1 (a := 7) ps_7 (am_sp1 (a := 8) ps_8 (am_sp1 (a := 9) ps_9 (am_sp1 (a := 10) ps_10 (am_sp1 (a := 11) ps_11 (am_sp1 (a := 12) ps_12 (am_sp1 (a := 13) ps_13 (am_sp1 (a := 14) ps_14 (am_sp1 (a := 15) ps_15 (am_sp1 (a := 16) ps_16 (am_sp1 (a := 17) ps_17 (am_sp1 (a := 18) ps_18 (am_sp1 (a := 19) ps_19 (am_sp1 (a := 20) ps_20 (am_sp1 (a := 21) ps_21 (am_sp1 (a := 22) ps_22 (am_sp1 (a := 23) ps_23 (am_sp1 (a := 24) ps_24 (am_sp1 (a := 25) ps_25 (am_sp1 (a := 26) ps_26 (am_sp1 (a := 27) ps_27 (am_sp1 (a := 28) ps_28 (am_sp1 (a := 29) ps_29 (am_sp1 (a := 30) ps_30 (am_sp1 (a := 31) ps_31 (am_sp1 (a := 32) ps_32 (am_sp1 (a := 33) ps_33 (am_sp1 (a := 34) ps_34 (am_sp1 (a := 35) ps_35 (am_sp1 (a := 36) ps_36 (am_sp1 (a := 37) ps_37 (am_sp1 (a := 38) ps_38 (am_sp1 (a := 39) ps_39 (am_sp0))))))))))))))))))))))))))))))))))))))))
theorem pq_40 : ∀ y, 40 ≤ y → y < 80 → am_PS y := am_sp1 (a := 40) ps_40 (am_sp1 (a := 41) ps_41 (am_sp1 (a := 42) ps_42 (am_sp1 (a := 43) ps_43 (am_sp1 (a := 44) ps_44 (am_sp1 (a := 45) ps_45 (am_sp1 (a := 46) ps_46 (am_sp1 (a := 47) ps_47 (am_sp1 (a := 48) ps_48 (am_sp1 (a := 49) ps_49 (am_sp1 (a := 50) ps_50 (am_sp1 (a := 51) ps_51 (am_sp1 (a := 52) ps_52 (am_sp1 (a := 53) ps_53 (am_sp1 (a := 54) ps_54 (am_sp1 (a := 55) ps_55 (am_sp1 (a := 56) ps_56 (am_sp1 (a := 57) ps_57 (am_sp1 (a := 58) ps_58 (am_sp1 (a := 59) ps_59 (am_sp1 (a := 60) ps_60 (am_sp1 (a := 61) ps_61 (am_sp1 (a := 62) ps_62 (am_sp1 (a := 63) ps_63 (am_sp1 (a := 64) ps_64 (am_sp1 (a := 65) ps_65 (am_sp1 (a := 66) ps_66 (am_sp1 (a := 67) ps_67 (am_sp1 (a := 68) ps_68 (am_sp1 (a := 69) ps_69 (am_sp1 (a := 70) ps_70 (am_sp1 (a := 71) ps_71 (am_sp1 (a := 72) ps_72 (am_sp1 (a := 73) ps_73 (am_sp1 (a := 74) ps_74 (am_sp1 (a := 75) ps_75 (am_sp1 (a := 76) ps_76 (am_sp1 (a := 77) ps_77 (am_sp1 (a := 78) ps_78 (am_sp1 (a := 79) ps_79 (am_sp0))))))))))))))))))))))))))))))))))))))))
theorem pq_80 : ∀ y, 80 ≤ y → y < 120 → am_PS y := am_sp1 (a := 80) ps_80 (am_sp1 (a := 81) ps_81 (am_sp1 (a := 82) ps_82 (am_sp1 (a := 83) ps_83 (am_sp1 (a := 84) ps_84 (am_sp1 (a := 85) ps_85 (am_sp1 (a := 86) ps_86 (am_sp1 (a := 87) ps_87 (am_sp1 (a := 88) ps_88 (am_sp1 (a := 89) ps_89 (am_sp1 (a := 90) ps_90 (am_sp1 (a := 91) ps_91 (am_sp1 (a := 92) ps_92 (am_sp1 (a := 93) ps_93 (am_sp1 (a := 94) ps_94 (am_sp1 (a := 95) ps_95 (am_sp1 (a := 96) ps_96 (am_sp1 (a := 97) ps_97 (am_sp1 (a := 98) ps_98 (am_sp1 (a := 99) ps_99 (am_sp1 (a := 100) ps_100 (am_sp1 (a := 101) ps_101 (am_sp1 (a := 102) ps_102 (am_sp1 (a := 103) ps_103 (am_sp1 (a := 104) ps_104 (am_sp1 (a := 105) ps_105 (am_sp1 (a := 106) ps_106 (am_sp1 (a := 107) ps_107 (am_sp1 (a := 108) ps_108 (am_sp1 (a := 109) ps_109 (am_sp1 (a := 110) ps_110 (am_sp1 (a := 111) ps_111 (am_sp1 (a := 112) ps_112 (am_sp1 (a := 113) ps_113 (am_sp1 (a := 114) ps_114 (am_sp1 (a := 115) ps_115 (am_sp1 (a := 116) ps_116 (am_sp1 (a := 117) ps_117 (am_sp1 (a := 118) ps_118 (am_sp1 (a := 119) ps_119 (am_sp0))))))))))))))))))))))))))))))))))))))))
theorem pq_120 : ∀ y, 120 ≤ y → y < 160 → am_PS y := am_sp1 (a := 120) ps_120 (am_sp1 (a := 121) ps_121 (am_sp1 (a := 122) ps_122 (am_sp1 (a := 123) ps_123 (am_sp1 (a := 124) ps_124 (am_sp1 (a := 125) ps_125 (am_sp1 (a := 126) ps_126 (am_sp1 (a := 127) ps_127 (am_sp1 (a := 128) ps_128 (am_sp1 (a := 129) ps_129 (am_sp1 (a := 130) ps_130 (am_sp1 (a := 131) ps_131 (am_sp1 (a := 132) ps_132 (am_sp1 (a := 133) ps_133 (am_sp1 (a := 134) ps_134 (am_sp1 (a := 135) ps_135 (am_sp1 (a := 136) ps_136 (am_sp1 (a := 137) ps_137 (am_sp1 (a := 138) ps_138 (am_sp1 (a := 139) ps_139 (am_sp1 (a := 140) ps_140 (am_sp1 (a := 141) ps_141 (am_sp1 (a := 142) ps_142 (am_sp1 (a := 143) ps_143 (am_sp1 (a := 144) ps_144 (am_sp1 (a := 145) ps_145 (am_sp1 (a := 146) ps_146 (am_sp1 (a := 147) ps_147 (am_sp1 (a := 148) ps_148 (am_sp1 (a := 149) ps_149 (am_sp1 (a := 150) ps_150 (am_sp1 (a := 151) ps_151 (am_sp1 (a := 152) ps_152 (am_sp1 (a := 153) ps_153 (am_sp1 (a := 154) ps_154 (am_sp1 (a := 155) ps_155 (am_sp1 (a := 156) ps_156 (am_sp1 (a := 157) ps_157 (am_sp1 (a := 158) ps_158 (am_sp1 (a := 159) ps_159 (am_sp0))))))))))))))))))))))))))))))))))))))))
theorem pq_160 : ∀ y, 160 ≤ y → y < 200 → am_PS y := am_sp1 (a := 160) ps_160 (am_sp1 (a := 161) ps_161 (am_sp1 (a := 162) ps_162 (am_sp1 (a := 163) ps_163 (am_sp1 (a := 164) ps_164 (am_sp1 (a := 165) ps_165 (am_sp1 (a := 166) ps_166 (am_sp1 (a := 167) ps_167 (am_sp1 (a := 168) ps_168 (am_sp1 (a := 169) ps_169 (am_sp1 (a := 170) ps_170 (am_sp1 (a := 171) ps_171 (am_sp1 (a := 172) ps_172 (am_sp1 (a := 173) ps_173 (am_sp1 (a := 174) ps_174 (am_sp1 (a := 175) ps_175 (am_sp1 (a := 176) ps_176 (am_sp1 (a := 177) ps_177 (am_sp1 (a := 178) ps_178 (am_sp1 (a := 179) ps_179 (am_sp1 (a := 180) ps_180 (am_sp1 (a := 181) ps_181 (am_sp1 (a := 182) ps_182 (am_sp1 (a := 183) ps_183 (am_sp1 (a := 184) ps_184 (am_sp1 (a := 185) ps_185 (am_sp1 (a := 186) ps_186 (am_sp1 (a := 187) ps_187 (am_sp1 (a := 188) ps_188 (am_sp1 (a := 189) ps_189 (am_sp1 (a := 190) ps_190 (am_sp1 (a := 191) ps_191 (am_sp1 (a := 192) ps_192 (am_sp1 (a := 193) ps_193 (am_sp1 (a := 194) ps_194 (am_sp1 (a := 195) ps_195 (am_sp1 (a := 196) ps_196 (am_sp1 (a := 197) ps_197 (am_sp1 (a := 198) ps_198 (am_sp1 (a := 199) ps_199 (am_sp0))))))))))))))))))))))))))))))))))))))))
theorem pq_200 : ∀ y, 200 ≤ y → y < 240 → am_PS y := am_sp1 (a := 200) ps_200 (am_sp1 (a := 201) ps_201 (am_sp1 (a := 202) ps_202 (am_sp1 (a := 203) ps_203 (am_sp1 (a := 204) ps_204 (am_sp1 (a := 205) ps_205 (am_sp1 (a := 206) ps_206 (am_sp1 (a := 207) ps_207 (am_sp1 (a := 208) ps_208 (am_sp1 (a := 209) ps_209 (am_sp1 (a := 210) ps_210 (am_sp1 (a := 211) ps_211 (am_sp1 (a := 212) ps_212 (am_sp1 (a := 213) ps_213 (am_sp1 (a := 214) ps_214 (am_sp1 (a := 215) ps_215 (am_sp1 (a := 216) ps_216 (am_sp1 (a := 217) ps_217 (am_sp1 (a := 218) ps_218 (am_sp1 (a := 219) ps_219 (am_sp1 (a := 220) ps_220 (am_sp1 (a := 221) ps_221 (am_sp1 (a := 222) ps_222 (am_sp1 (a := 223) ps_223 (am_sp1 (a := 224) ps_224 (am_sp1 (a := 225) ps_225 (am_sp1 (a := 226) ps_226 (am_sp1 (a := 227) ps_227 (am_sp1 (a := 228) ps_228 (am_sp1 (a := 229) ps_229 (am_sp1 (a := 230) ps_230 (am_sp1 (a := 231) ps_231 (am_sp1 (a := 232) ps_232 (am_sp1 (a := 233) ps_233 (am_sp1 (a := 234) ps_234 (am_sp1 (a := 235) ps_235 (am_sp1 (a := 236) ps_236 (am_sp1 (a := 237) ps_237 (am_sp1 (a := 238) ps_238 (am_sp1 (a := 239) ps_239 (am_sp0))))))))))))))))))))))))))))))))))))))))
theorem pq_240 : ∀ y, 240 ≤ y → y < 280 → am_PS y := am_sp1 (a := 240) ps_240 (am_sp1 (a := 241) ps_241 (am_sp1 (a := 242) ps_242 (am_sp1 (a := 243) ps_243 (am_sp1 (a := 244) ps_244 (am_sp1 (a := 245) ps_245 (am_sp1 (a := 246) ps_246 (am_sp1 (a := 247) ps_247 (am_sp1 (a := 248) ps_248 (am_sp1 (a := 249) ps_249 (am_sp1 (a := 250) ps_250 (am_sp1 (a := 251) ps_251 (am_sp1 (a := 252) ps_252 (am_sp1 (a := 253) ps_253 (am_sp1 (a := 254) ps_254 (am_sp1 (a := 255) ps_255 (am_sp1 (a := 256) ps_256 (am_sp1 (a := 257) ps_257 (am_sp1 (a := 258) ps_258 (am_sp1 (a := 259) ps_259 (am_sp1 (a := 260) ps_260 (am_sp1 (a := 261) ps_261 (am_sp1 (a := 262) ps_262 (am_sp1 (a := 263) ps_263 (am_sp1 (a := 264) ps_264 (am_sp1 (a := 265) ps_265 (am_sp1 (a := 266) ps_266 (am_sp1 (a := 267) ps_267 (am_sp1 (a := 268) ps_268 (am_sp1 (a := 269) ps_269 (am_sp1 (a := 270) ps_270 (am_sp1 (a := 271) ps_271 (am_sp1 (a := 272) ps_272 (am_sp1 (a := 273) ps_273 (am_sp1 (a := 274) ps_274 (am_sp1 (a := 275) ps_275 (am_sp1 (a := 276) ps_276 (am_sp1 (a := 277) ps_277 (am_sp1 (a := 278) ps_278 (am_sp1 (a := 279) ps_279 (am_sp0))))))))))))))))))))))))))))))))))))))))
theorem am_psl {y : Nat} (h : y < 280) : am_PS y := by
  rcases Nat.lt_or_ge y 40 with q40 | q40
  · exact pq_0 y (by omega) q40
  rcases Nat.lt_or_ge y 80 with q80 | q80
  · exact pq_40 y (by omega) q80
  rcases Nat.lt_or_ge y 120 with q120 | q120
  · exact pq_80 y (by omega) q120
  rcases Nat.lt_or_ge y 160 with q160 | q160
  · exact pq_120 y (by omega) q160
  rcases Nat.lt_or_ge y 200 with q200 | q200
  · exact pq_160 y (by omega) q200
  rcases Nat.lt_or_ge y 240 with q240 | q240
  · exact pq_200 y (by omega) q240
  exact pq_240 y (by omega) h
theorem am_cd_out {y ix : Nat} (h : 280 ≤ y) : am_cd y ix = o_no := by
  have e : am_n2 [] am_cdT y = [] := by
    unfold am_n2
    rcases Nat.lt_or_ge (y / 16) 18 with q | q
    · have e1 : y / 16 = 17 := by omega
      rw [e1]
      show am_n1 [] [cd_272, cd_273, cd_274, cd_275, cd_276, cd_277, cd_278, cd_279] (y % 16) = []
      exact am_n1_out (by show 8 ≤ _; omega)
    · rw [am_n1_out (l := am_cdT) (by exact q)]
      rfl
  unfold am_cd
  rw [e]
  rfl
theorem am_gl_app : ∀ (l : am_L) (k i : Nat) (v : am_V), am_gl (l ++ List.replicate k none) i = some v → am_gl l i = some v := by
  intro l
  induction l with
  | nil =>
    intro k
    induction k with
    | zero => intro i v h; exact h
    | succ k ih =>
      intro i v h
      rw [List.nil_append, List.replicate_succ] at h
      cases i with
      | zero => cases h
      | succ i => exact absurd (ih i v h) (by simp [am_gl])
  | cons x t ih =>
    intro k i v h
    cases i with
    | zero => exact h
    | succ i => exact ih k i v h
theorem am_e1_sl (ad : Nat → Nat) : ∀ (as : List am_V), (lg_sl (as.map (am_rv ad))).length = (am_e1 as).length ∧ ∀ i v, am_gl (am_e1 as) i = some v → v ∈ as ∧ (lg_sl (as.map (am_rv ad)))[i]? = some (.val (am_rv ad v)) := by
  intro as
  induction as with
  | nil => exact ⟨rfl, fun i v h => by simp [am_e1, am_gl] at h⟩
  | cons w t ih =>
    have e : ∀ x : Value, lg_sl (x :: t.map (am_rv ad)) = (if x.category = 2 then [.val x, .second] else [.val x]) ++ lg_sl (t.map (am_rv ad)) := fun x => by simp [lg_sl]
    rcases w with w | w | w
    · have e2 : lg_sl ((Sum.inl w :: t).map (am_rv ad)) = .val (am_rv ad (iV w)) :: lg_sl (t.map (am_rv ad)) := e _
      rw [e2]
      refine ⟨by simp [am_e1, ih.1], fun i v h => ?_⟩
      cases i with
      | zero => cases h; exact ⟨List.mem_cons_self, rfl⟩
      | succ i => exact ⟨List.mem_cons_of_mem _ (ih.2 i v h).1, (ih.2 i v h).2⟩
    · have e2 : lg_sl ((Sum.inr (Sum.inl w) :: t).map (am_rv ad)) = .val (am_rv ad (lV w)) :: .second :: lg_sl (t.map (am_rv ad)) := e _
      rw [e2]
      refine ⟨by simp [am_e1, ih.1], fun i v h => ?_⟩
      rcases i with _ | i | i
      · cases h; exact ⟨List.mem_cons_self, rfl⟩
      · cases h
      · exact ⟨List.mem_cons_of_mem _ (ih.2 i v h).1, (ih.2 i v h).2⟩
    · have e2 : lg_sl ((Sum.inr (Sum.inr w) :: t).map (am_rv ad)) = .val (am_rv ad (rV w)) :: lg_sl (t.map (am_rv ad)) := e _
      rw [e2]
      refine ⟨by simp [am_e1, ih.1], fun i v h => ?_⟩
      cases i with
      | zero => cases h; exact ⟨List.mem_cons_self, rfl⟩
      | succ i => exact ⟨List.mem_cons_of_mem _ (ih.2 i v h).1, (ih.2 i v h).2⟩
theorem am_LR_entry {ad : Nat → Nat} {as : List am_V} {n : Nat} (hr : ∀ v ∈ as, am_rg v) (hf : (am_e1 as).length ≤ n) : am_LR ad (am_en n as) ((lg_sl (as.map (am_rv ad)) ++ List.replicate (n - (lg_sl (as.map (am_rv ad))).length) Slot.unset).toArray) n := by
  obtain ⟨h1, h2⟩ := am_e1_sl ad as
  have hl := lv_entry (as.map (am_rv ad)) (n := n) (by rw [h1]; exact hf)
  refine ⟨hl.1, hl.2.1, fun i v h => ?_⟩
  obtain ⟨h3, h4⟩ := h2 i v (am_gl_app _ _ _ _ h)
  refine ⟨hr v h3, ?_⟩
  rw [List.getElem?_toArray, List.getElem?_append_left (List.getElem?_eq_some_iff.mp h4).1]
  exact h4
theorem am_S (l : Launch) (u : am_U) (hAd : am_Ad u) (n : Nat) (ih : ∀ k, k < n → ∀ y as M r M', am_co am_cd am_mL k y as M = some (r, M') → (∀ v ∈ as, am_rg v) → am_wf M → am_Mt l u y as M r M') : ∀ y as M r M', am_co am_cd am_mL n y as M = some (r, M') → (∀ v ∈ as, am_rg v) → am_wf M → am_Mt l u y as M r M' := by
  intro y as M r M' h hr hM
  obtain ⟨hf, h⟩ := am_co_some h
  rcases Nat.lt_or_ge y 280 with hy | hy
  · obtain ⟨pcs, h0, hpl, hS⟩ := am_psl hy
    refine Met.ofW (cc := am_by y) (maxL := am_mL y) (ret := am_re y) hpl rfl ?_
    intro p e s m args below meth c s₁ B hml hv
    obtain ⟨rfl, hP, hK, hEv⟩ := hv
    have hcx : am_Cx p (headSpec (am_ws y) (am_rm (am_rk y))).room s m _ meth c u (am_by y) (am_nm y).cls (am_mL y) (am_rk y) (am_re y) := ⟨B.exec, B.bytes, B.returns, hml, findClass_of_methodNamed B.named, fun w hw => atoms_spec (ws := am_ws y) B.pre w (List.mem_cons_of_mem _ hw), hK, hEv, hAd, B.notSynchronized, rfl⟩
    have G : ∀ j, j ≤ n → ∀ ix ls st M1, am_ex am_cd am_mL j y ix ls st M1 = some (r, M') → am_G p l e (headSpec (am_ws y) (am_rm (am_rk y))).room s m (List.map (am_rv u.2.2) as).toArray below meth c (MQ below (am_Qc u (am_rc (am_re y)) r M') (List.map (am_rv u.2.2) as).toArray s 0 0 (am_AW u)) u (am_mL y) (pcs ix) ls st M1 := by
      intro j
      induction j with
      | zero => intro _ ix ls st M1 h; cases h
      | succ j ihj =>
        intro hj ix ls st M1 h1
        rw [am_ex_s] at h1
        exact hS ix p l e _ s m _ below meth c u (r, M') hcx _ _ (ihj (by omega)) (fun y2 as2 M2 r2 M3 q1 q2 q3 => ih j (by omega) y2 as2 M2 r2 M3 q1 q2 q3) ls st M1 h1
    have k := G n (Nat.le_refl n) 0 _ [] M h _ s.heap [] (am_LR_entry hr (Nat.le_of_ble_eq_true hf)) (fun v hv => absurd hv List.not_mem_nil) hM hP va_S.rf
    rw [h0] at k
    rw [lg_entry_eq]
    exact k
  · exfalso
    cases n with
    | zero => cases h
    | succ n => rw [am_ex_s, am_cd_out hy] at h; cases h
/-- THE SMALL MACHINE'S ANSWER IS THE REAL ONE'S -/
theorem am_met (l : Launch) {u : am_U} (hAd : am_Ad u) {y : Nat} {as : List am_V} {M : am_M} {r : Int} {M' : am_M} (h : am_Y am_cd am_mL y as M = some (r, M')) (hr : ∀ v ∈ as, am_rg v) (hM : am_wf M) : am_Mt l u y as M r M' := by
  obtain ⟨hf, h⟩ := am_Y_some h
  obtain ⟨n, h⟩ := (am_X_iff am_hV).mp h
  have key : ∀ n, ∀ y as M r M', am_co am_cd am_mL n y as M = some (r, M') → (∀ v ∈ as, am_rg v) → am_wf M → am_Mt l u y as M r M' := fun n => Nat.strongRecOn n (fun n ih => am_S l u hAd n ih)
  exact key n y as M r M' (am_co_of hf h) hr hM

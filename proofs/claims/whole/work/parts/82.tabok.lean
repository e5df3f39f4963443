theorem vo_0_0 : (vl_0_0).all (fun q => vt_okb 0 q.1 q.2) = true := by decide +kernel
theorem vo_0_1 : (vl_0_1).all (fun q => vt_okb 0 q.1 q.2) = true := by decide +kernel
theorem vo_0_2 : (vl_0_2).all (fun q => vt_okb 0 q.1 q.2) = true := by decide +kernel
theorem vo_0_3 : (vl_0_3).all (fun q => vt_okb 0 q.1 q.2) = true := by decide +kernel
theorem vo_0_4 : (vl_0_4).all (fun q => vt_okb 0 q.1 q.2) = true := by decide +kernel
theorem vo_0_5 : (vl_0_5).all (fun q => vt_okb 0 q.1 q.2) = true := by decide +kernel
theorem vo_0_6 : (vl_0_6).all (fun q => vt_okb 0 q.1 q.2) = true := by decide +kernel
theorem vo_0_7 : (vl_0_7).all (fun q => vt_okb 0 q.1 q.2) = true := by decide +kernel
theorem vo_1_0 : (vl_1_0).all (fun q => vt_okb 1 q.1 q.2) = true := by decide +kernel
theorem vo_2_0 : (vl_2_0).all (fun q => vt_okb 2 q.1 q.2) = true := by decide +kernel
theorem vo_3_0 : (vl_3_0).all (fun q => vt_okb 3 q.1 q.2) = true := by decide +kernel
theorem vo_4_0 : (vl_4_0).all (fun q => vt_okb 4 q.1 q.2) = true := by decide +kernel
theorem vo_5_0 : (vl_5_0).all (fun q => vt_okb 5 q.1 q.2) = true := by decide +kernel
theorem vo_6_0 : (vl_6_0).all (fun q => vt_okb 6 q.1 q.2) = true := by decide +kernel
theorem vo_7_0 : (vl_7_0).all (fun q => vt_okb 7 q.1 q.2) = true := by decide +kernel
theorem vo_8_0 : (vl_8_0).all (fun q => vt_okb 8 q.1 q.2) = true := by decide +kernel
theorem vo_9_0 : (vl_9_0).all (fun q => vt_okb 9 q.1 q.2) = true := by decide +kernel
theorem vo_10_0 : (vl_10_0).all (fun q => vt_okb 10 q.1 q.2) = true := by decide +kernel
theorem vo_11_0 : (vl_11_0).all (fun q => vt_okb 11 q.1 q.2) = true := by decide +kernel
theorem vo_12_0 : (vl_12_0).all (fun q => vt_okb 12 q.1 q.2) = true := by decide +kernel
theorem vo_13_0 : (vl_13_0).all (fun q => vt_okb 13 q.1 q.2) = true := by decide +kernel
theorem vo_14_0 : (vl_14_0).all (fun q => vt_okb 14 q.1 q.2) = true := by decide +kernel
theorem vo_15_0 : (vl_15_0).all (fun q => vt_okb 15 q.1 q.2) = true := by decide +kernel
theorem vo_16_0 : (vl_16_0).all (fun q => vt_okb 16 q.1 q.2) = true := by decide +kernel
theorem vo_17_0 : (vl_17_0).all (fun q => vt_okb 17 q.1 q.2) = true := by decide +kernel
theorem vo_18_0 : (vl_18_0).all (fun q => vt_okb 18 q.1 q.2) = true := by decide +kernel
theorem vo_19_0 : (vl_19_0).all (fun q => vt_okb 19 q.1 q.2) = true := by decide +kernel
theorem vo_20_0 : (vl_20_0).all (fun q => vt_okb 20 q.1 q.2) = true := by decide +kernel
theorem vo_21_0 : (vl_21_0).all (fun q => vt_okb 21 q.1 q.2) = true := by decide +kernel
theorem vo_22_0 : (vl_22_0).all (fun q => vt_okb 22 q.1 q.2) = true := by decide +kernel
theorem vo_23_0 : (vl_23_0).all (fun q => vt_okb 23 q.1 q.2) = true := by decide +kernel
theorem vo_24_0 : (vl_24_0).all (fun q => vt_okb 24 q.1 q.2) = true := by decide +kernel
theorem vo_25_0 : (vl_25_0).all (fun q => vt_okb 25 q.1 q.2) = true := by decide +kernel
theorem vo_26_0 : (vl_26_0).all (fun q => vt_okb 26 q.1 q.2) = true := by decide +kernel
theorem vo_27_0 : (vl_27_0).all (fun q => vt_okb 27 q.1 q.2) = true := by decide +kernel
theorem vo_28_0 : (vl_28_0).all (fun q => vt_okb 28 q.1 q.2) = true := by decide +kernel
theorem vo_29_0 : (vl_29_0).all (fun q => vt_okb 29 q.1 q.2) = true := by decide +kernel
theorem vo_30_0 : (vl_30_0).all (fun q => vt_okb 30 q.1 q.2) = true := by decide +kernel
theorem vo_31_0 : (vl_31_0).all (fun q => vt_okb 31 q.1 q.2) = true := by decide +kernel
theorem vo_31_1 : (vl_31_1).all (fun q => vt_okb 31 q.1 q.2) = true := by decide +kernel
theorem vo_32_0 : (vl_32_0).all (fun q => vt_okb 32 q.1 q.2) = true := by decide +kernel
theorem vo_33_0 : (vl_33_0).all (fun q => vt_okb 33 q.1 q.2) = true := by decide +kernel
theorem vo_34_0 : (vl_34_0).all (fun q => vt_okb 34 q.1 q.2) = true := by decide +kernel
theorem vo_35_0 : (vl_35_0).all (fun q => vt_okb 35 q.1 q.2) = true := by decide +kernel
theorem vo_36_0 : (vl_36_0).all (fun q => vt_okb 36 q.1 q.2) = true := by decide +kernel
theorem vo_36_1 : (vl_36_1).all (fun q => vt_okb 36 q.1 q.2) = true := by decide +kernel
theorem vo_37_0 : (vl_37_0).all (fun q => vt_okb 37 q.1 q.2) = true := by decide +kernel
theorem vo_38_0 : (vl_38_0).all (fun q => vt_okb 38 q.1 q.2) = true := by decide +kernel
theorem vo_39_0 : (vl_39_0).all (fun q => vt_okb 39 q.1 q.2) = true := by decide +kernel
theorem vo_40_0 : (vl_40_0).all (fun q => vt_okb 40 q.1 q.2) = true := by decide +kernel
theorem vo_41_0 : (vl_41_0).all (fun q => vt_okb 41 q.1 q.2) = true := by decide +kernel
theorem vo_42_0 : (vl_42_0).all (fun q => vt_okb 42 q.1 q.2) = true := by decide +kernel
theorem vo_43_0 : (vl_43_0).all (fun q => vt_okb 43 q.1 q.2) = true := by decide +kernel
theorem vo_43_1 : (vl_43_1).all (fun q => vt_okb 43 q.1 q.2) = true := by decide +kernel
theorem vo_44_0 : (vl_44_0).all (fun q => vt_okb 44 q.1 q.2) = true := by decide +kernel
theorem vo_45_0 : (vl_45_0).all (fun q => vt_okb 45 q.1 q.2) = true := by decide +kernel
theorem vo_45_1 : (vl_45_1).all (fun q => vt_okb 45 q.1 q.2) = true := by decide +kernel
theorem vo_45_2 : (vl_45_2).all (fun q => vt_okb 45 q.1 q.2) = true := by decide +kernel
theorem vo_46_0 : (vl_46_0).all (fun q => vt_okb 46 q.1 q.2) = true := by decide +kernel
theorem vo_47_0 : (vl_47_0).all (fun q => vt_okb 47 q.1 q.2) = true := by decide +kernel
theorem vo_47_1 : (vl_47_1).all (fun q => vt_okb 47 q.1 q.2) = true := by decide +kernel
theorem vo_48_0 : (vl_48_0).all (fun q => vt_okb 48 q.1 q.2) = true := by decide +kernel
theorem vo_48_1 : (vl_48_1).all (fun q => vt_okb 48 q.1 q.2) = true := by decide +kernel
theorem vo_49_0 : (vl_49_0).all (fun q => vt_okb 49 q.1 q.2) = true := by decide +kernel
theorem vo_50_0 : (vl_50_0).all (fun q => vt_okb 50 q.1 q.2) = true := by decide +kernel
theorem vo_51_0 : (vl_51_0).all (fun q => vt_okb 51 q.1 q.2) = true := by decide +kernel
theorem vo_51_1 : (vl_51_1).all (fun q => vt_okb 51 q.1 q.2) = true := by decide +kernel
theorem vo_52_0 : (vl_52_0).all (fun q => vt_okb 52 q.1 q.2) = true := by decide +kernel
theorem vo_53_0 : (vl_53_0).all (fun q => vt_okb 53 q.1 q.2) = true := by decide +kernel
theorem vo_53_1 : (vl_53_1).all (fun q => vt_okb 53 q.1 q.2) = true := by decide +kernel
theorem vo_54_0 : (vl_54_0).all (fun q => vt_okb 54 q.1 q.2) = true := by decide +kernel
theorem vo_54_1 : (vl_54_1).all (fun q => vt_okb 54 q.1 q.2) = true := by decide +kernel
theorem vo_55_0 : (vl_55_0).all (fun q => vt_okb 55 q.1 q.2) = true := by decide +kernel
theorem vo_56_0 : (vl_56_0).all (fun q => vt_okb 56 q.1 q.2) = true := by decide +kernel
theorem vo_56_1 : (vl_56_1).all (fun q => vt_okb 56 q.1 q.2) = true := by decide +kernel
theorem vo_57_0 : (vl_57_0).all (fun q => vt_okb 57 q.1 q.2) = true := by decide +kernel
theorem vo_58_0 : (vl_58_0).all (fun q => vt_okb 58 q.1 q.2) = true := by decide +kernel
theorem vo_59_0 : (vl_59_0).all (fun q => vt_okb 59 q.1 q.2) = true := by decide +kernel
theorem vo_60_0 : (vl_60_0).all (fun q => vt_okb 60 q.1 q.2) = true := by decide +kernel
theorem vo_60_1 : (vl_60_1).all (fun q => vt_okb 60 q.1 q.2) = true := by decide +kernel
theorem vo_60_2 : (vl_60_2).all (fun q => vt_okb 60 q.1 q.2) = true := by decide +kernel
theorem vo_61_0 : (vl_61_0).all (fun q => vt_okb 61 q.1 q.2) = true := by decide +kernel
theorem vo_62_0 : (vl_62_0).all (fun q => vt_okb 62 q.1 q.2) = true := by decide +kernel
theorem vo_63_0 : (vl_63_0).all (fun q => vt_okb 63 q.1 q.2) = true := by decide +kernel
theorem vo_63_1 : (vl_63_1).all (fun q => vt_okb 63 q.1 q.2) = true := by decide +kernel
theorem vo_64_0 : (vl_64_0).all (fun q => vt_okb 64 q.1 q.2) = true := by decide +kernel
theorem vo_65_0 : (vl_65_0).all (fun q => vt_okb 65 q.1 q.2) = true := by decide +kernel
theorem vo_65_1 : (vl_65_1).all (fun q => vt_okb 65 q.1 q.2) = true := by decide +kernel
theorem vo_66_0 : (vl_66_0).all (fun q => vt_okb 66 q.1 q.2) = true := by decide +kernel
theorem vo_67_0 : (vl_67_0).all (fun q => vt_okb 67 q.1 q.2) = true := by decide +kernel
theorem vo_68_0 : (vl_68_0).all (fun q => vt_okb 68 q.1 q.2) = true := by decide +kernel
theorem vo_69_0 : (vl_69_0).all (fun q => vt_okb 69 q.1 q.2) = true := by decide +kernel
theorem vo_70_0 : (vl_70_0).all (fun q => vt_okb 70 q.1 q.2) = true := by decide +kernel
theorem vo_70_1 : (vl_70_1).all (fun q => vt_okb 70 q.1 q.2) = true := by decide +kernel
theorem vo_71_0 : (vl_71_0).all (fun q => vt_okb 71 q.1 q.2) = true := by decide +kernel
theorem vo_72_0 : (vl_72_0).all (fun q => vt_okb 72 q.1 q.2) = true := by decide +kernel
theorem vo_73_0 : (vl_73_0).all (fun q => vt_okb 73 q.1 q.2) = true := by decide +kernel
theorem vo_74_0 : (vl_74_0).all (fun q => vt_okb 74 q.1 q.2) = true := by decide +kernel
theorem vo_75_0 : (vl_75_0).all (fun q => vt_okb 75 q.1 q.2) = true := by decide +kernel
theorem vo_76_0 : (vl_76_0).all (fun q => vt_okb 76 q.1 q.2) = true := by decide +kernel
theorem vo_77_0 : (vl_77_0).all (fun q => vt_okb 77 q.1 q.2) = true := by decide +kernel
theorem vo_78_0 : (vl_78_0).all (fun q => vt_okb 78 q.1 q.2) = true := by decide +kernel
theorem vo_79_0 : (vl_79_0).all (fun q => vt_okb 79 q.1 q.2) = true := by decide +kernel
theorem vo_80_0 : (vl_80_0).all (fun q => vt_okb 80 q.1 q.2) = true := by decide +kernel
theorem vo_81_0 : (vl_81_0).all (fun q => vt_okb 81 q.1 q.2) = true := by decide +kernel
theorem vo_81_1 : (vl_81_1).all (fun q => vt_okb 81 q.1 q.2) = true := by decide +kernel
theorem vo_82_0 : (vl_82_0).all (fun q => vt_okb 82 q.1 q.2) = true := by decide +kernel
theorem vo_83_0 : (vl_83_0).all (fun q => vt_okb 83 q.1 q.2) = true := by decide +kernel
theorem vo_84_0 : (vl_84_0).all (fun q => vt_okb 84 q.1 q.2) = true := by decide +kernel
theorem vo_85_0 : (vl_85_0).all (fun q => vt_okb 85 q.1 q.2) = true := by decide +kernel
theorem vo_86_0 : (vl_86_0).all (fun q => vt_okb 86 q.1 q.2) = true := by decide +kernel
theorem vo_87_0 : (vl_87_0).all (fun q => vt_okb 87 q.1 q.2) = true := by decide +kernel
theorem vo_88_0 : (vl_88_0).all (fun q => vt_okb 88 q.1 q.2) = true := by decide +kernel
theorem vo_88_1 : (vl_88_1).all (fun q => vt_okb 88 q.1 q.2) = true := by decide +kernel
theorem vo_89_0 : (vl_89_0).all (fun q => vt_okb 89 q.1 q.2) = true := by decide +kernel
theorem vo_90_0 : (vl_90_0).all (fun q => vt_okb 90 q.1 q.2) = true := by decide +kernel
theorem vo_91_0 : (vl_91_0).all (fun q => vt_okb 91 q.1 q.2) = true := by decide +kernel
theorem vo_92_0 : (vl_92_0).all (fun q => vt_okb 92 q.1 q.2) = true := by decide +kernel
theorem vo_92_1 : (vl_92_1).all (fun q => vt_okb 92 q.1 q.2) = true := by decide +kernel
theorem vo_93_0 : (vl_93_0).all (fun q => vt_okb 93 q.1 q.2) = true := by decide +kernel
theorem vo_94_0 : (vl_94_0).all (fun q => vt_okb 94 q.1 q.2) = true := by decide +kernel
theorem vo_95_0 : (vl_95_0).all (fun q => vt_okb 95 q.1 q.2) = true := by decide +kernel
theorem vo_95_1 : (vl_95_1).all (fun q => vt_okb 95 q.1 q.2) = true := by decide +kernel
theorem vo_96_0 : (vl_96_0).all (fun q => vt_okb 96 q.1 q.2) = true := by decide +kernel
theorem vo_97_0 : (vl_97_0).all (fun q => vt_okb 97 q.1 q.2) = true := by decide +kernel
theorem vo_97_1 : (vl_97_1).all (fun q => vt_okb 97 q.1 q.2) = true := by decide +kernel
theorem vo_98_0 : (vl_98_0).all (fun q => vt_okb 98 q.1 q.2) = true := by decide +kernel
theorem vo_99_0 : (vl_99_0).all (fun q => vt_okb 99 q.1 q.2) = true := by decide +kernel
theorem vo_100_0 : (vl_100_0).all (fun q => vt_okb 100 q.1 q.2) = true := by decide +kernel
theorem vo_100_1 : (vl_100_1).all (fun q => vt_okb 100 q.1 q.2) = true := by decide +kernel
theorem vo_100_2 : (vl_100_2).all (fun q => vt_okb 100 q.1 q.2) = true := by decide +kernel
theorem vo_101_0 : (vl_101_0).all (fun q => vt_okb 101 q.1 q.2) = true := by decide +kernel
theorem vo_101_1 : (vl_101_1).all (fun q => vt_okb 101 q.1 q.2) = true := by decide +kernel
theorem vo_101_2 : (vl_101_2).all (fun q => vt_okb 101 q.1 q.2) = true := by decide +kernel
theorem vo_101_3 : (vl_101_3).all (fun q => vt_okb 101 q.1 q.2) = true := by decide +kernel
theorem vo_102_0 : (vl_102_0).all (fun q => vt_okb 102 q.1 q.2) = true := by decide +kernel
theorem vo_102_1 : (vl_102_1).all (fun q => vt_okb 102 q.1 q.2) = true := by decide +kernel
theorem vo_103_0 : (vl_103_0).all (fun q => vt_okb 103 q.1 q.2) = true := by decide +kernel
theorem vo_103_1 : (vl_103_1).all (fun q => vt_okb 103 q.1 q.2) = true := by decide +kernel
theorem vo_103_2 : (vl_103_2).all (fun q => vt_okb 103 q.1 q.2) = true := by decide +kernel
theorem vo_103_3 : (vl_103_3).all (fun q => vt_okb 103 q.1 q.2) = true := by decide +kernel
theorem vo_104_0 : (vl_104_0).all (fun q => vt_okb 104 q.1 q.2) = true := by decide +kernel
theorem vo_104_1 : (vl_104_1).all (fun q => vt_okb 104 q.1 q.2) = true := by decide +kernel
theorem vo_105_0 : (vl_105_0).all (fun q => vt_okb 105 q.1 q.2) = true := by decide +kernel
theorem vo_105_1 : (vl_105_1).all (fun q => vt_okb 105 q.1 q.2) = true := by decide +kernel
theorem vo_105_2 : (vl_105_2).all (fun q => vt_okb 105 q.1 q.2) = true := by decide +kernel
theorem vo_106_0 : (vl_106_0).all (fun q => vt_okb 106 q.1 q.2) = true := by decide +kernel
theorem vo_106_1 : (vl_106_1).all (fun q => vt_okb 106 q.1 q.2) = true := by decide +kernel
theorem vo_107_0 : (vl_107_0).all (fun q => vt_okb 107 q.1 q.2) = true := by decide +kernel
theorem vo_107_1 : (vl_107_1).all (fun q => vt_okb 107 q.1 q.2) = true := by decide +kernel
theorem vo_108_0 : (vl_108_0).all (fun q => vt_okb 108 q.1 q.2) = true := by decide +kernel
theorem vo_109_0 : (vl_109_0).all (fun q => vt_okb 109 q.1 q.2) = true := by decide +kernel
theorem vo_110_0 : (vl_110_0).all (fun q => vt_okb 110 q.1 q.2) = true := by decide +kernel
theorem vo_111_0 : (vl_111_0).all (fun q => vt_okb 111 q.1 q.2) = true := by decide +kernel
theorem vo_112_0 : (vl_112_0).all (fun q => vt_okb 112 q.1 q.2) = true := by decide +kernel
theorem vo_113_0 : (vl_113_0).all (fun q => vt_okb 113 q.1 q.2) = true := by decide +kernel
theorem vo_114_0 : (vl_114_0).all (fun q => vt_okb 114 q.1 q.2) = true := by decide +kernel
theorem vo_115_0 : (vl_115_0).all (fun q => vt_okb 115 q.1 q.2) = true := by decide +kernel
theorem vo_116_0 : (vl_116_0).all (fun q => vt_okb 116 q.1 q.2) = true := by decide +kernel
theorem vt_ok_of {m pc : Nat} (h : (vt_code m).all (fun q => vt_okb m q.1 q.2) = true) : vt_okb m pc (vt_i m pc) = true ∨ (vt_i m pc).1 = 999 := by
  unfold vt_i
  cases hl : (vt_code m).lookup pc with
  | none => exact Or.inr rfl
  | some i => exact Or.inl (List.all_eq_true.mp h (pc, i) (vt_lkm hl))
theorem vt_ok (m pc : Nat) : vt_okb m pc (vt_i m pc) = true ∨ (vt_i m pc).1 = 999 := by
  match m with
  | 0 => exact vt_ok_of (m := 0) (List.all_append.trans (Bool.and_eq_true_iff.mpr ⟨vo_0_0, (List.all_append.trans (Bool.and_eq_true_iff.mpr ⟨vo_0_1, (List.all_append.trans (Bool.and_eq_true_iff.mpr ⟨vo_0_2, (List.all_append.trans (Bool.and_eq_true_iff.mpr ⟨vo_0_3, (List.all_append.trans (Bool.and_eq_true_iff.mpr ⟨vo_0_4, (List.all_append.trans (Bool.and_eq_true_iff.mpr ⟨vo_0_5, (List.all_append.trans (Bool.and_eq_true_iff.mpr ⟨vo_0_6, vo_0_7⟩))⟩))⟩))⟩))⟩))⟩))⟩))
  | 1 => exact vt_ok_of (m := 1) vo_1_0
  | 2 => exact vt_ok_of (m := 2) vo_2_0
  | 3 => exact vt_ok_of (m := 3) vo_3_0
  | 4 => exact vt_ok_of (m := 4) vo_4_0
  | 5 => exact vt_ok_of (m := 5) vo_5_0
  | 6 => exact vt_ok_of (m := 6) vo_6_0
  | 7 => exact vt_ok_of (m := 7) vo_7_0
  | 8 => exact vt_ok_of (m := 8) vo_8_0
  | 9 => exact vt_ok_of (m := 9) vo_9_0
  | 10 => exact vt_ok_of (m := 10) vo_10_0
  | 11 => exact vt_ok_of (m := 11) vo_11_0
  | 12 => exact vt_ok_of (m := 12) vo_12_0
  | 13 => exact vt_ok_of (m := 13) vo_13_0
  | 14 => exact vt_ok_of (m := 14) vo_14_0
  | 15 => exact vt_ok_of (m := 15) vo_15_0
  | 16 => exact vt_ok_of (m := 16) vo_16_0
  | 17 => exact vt_ok_of (m := 17) vo_17_0
  | 18 => exact vt_ok_of (m := 18) vo_18_0
  | 19 => exact vt_ok_of (m := 19) vo_19_0
  | 20 => exact vt_ok_of (m := 20) vo_20_0
  | 21 => exact vt_ok_of (m := 21) vo_21_0
  | 22 => exact vt_ok_of (m := 22) vo_22_0
  | 23 => exact vt_ok_of (m := 23) vo_23_0
  | 24 => exact vt_ok_of (m := 24) vo_24_0
  | 25 => exact vt_ok_of (m := 25) vo_25_0
  | 26 => exact vt_ok_of (m := 26) vo_26_0
  | 27 => exact vt_ok_of (m := 27) vo_27_0
  | 28 => exact vt_ok_of (m := 28) vo_28_0
  | 29 => exact vt_ok_of (m := 29) vo_29_0
  | 30 => exact vt_ok_of (m := 30) vo_30_0
  | 31 => exact vt_ok_of (m := 31) (List.all_append.trans (Bool.and_eq_true_iff.mpr ⟨vo_31_0, vo_31_1⟩))
  | 32 => exact vt_ok_of (m := 32) vo_32_0
  | 33 => exact vt_ok_of (m := 33) vo_33_0
  | 34 => exact vt_ok_of (m := 34) vo_34_0
  | 35 => exact vt_ok_of (m := 35) vo_35_0
  | 36 => exact vt_ok_of (m := 36) (List.all_append.trans (Bool.and_eq_true_iff.mpr ⟨vo_36_0, vo_36_1⟩))
  | 37 => exact vt_ok_of (m := 37) vo_37_0
  | 38 => exact vt_ok_of (m := 38) vo_38_0
  | 39 => exact vt_ok_of (m := 39) vo_39_0
  | 40 => exact vt_ok_of (m := 40) vo_40_0
  | 41 => exact vt_ok_of (m := 41) vo_41_0
  | 42 => exact vt_ok_of (m := 42) vo_42_0
  | 43 => exact vt_ok_of (m := 43) (List.all_append.trans (Bool.and_eq_true_iff.mpr ⟨vo_43_0, vo_43_1⟩))
  | 44 => exact vt_ok_of (m := 44) vo_44_0
  | 45 => exact vt_ok_of (m := 45) (List.all_append.trans (Bool.and_eq_true_iff.mpr ⟨vo_45_0, (List.all_append.trans (Bool.and_eq_true_iff.mpr ⟨vo_45_1, vo_45_2⟩))⟩))
  | 46 => exact vt_ok_of (m := 46) vo_46_0
  | 47 => exact vt_ok_of (m := 47) (List.all_append.trans (Bool.and_eq_true_iff.mpr ⟨vo_47_0, vo_47_1⟩))
  | 48 => exact vt_ok_of (m := 48) (List.all_append.trans (Bool.and_eq_true_iff.mpr ⟨vo_48_0, vo_48_1⟩))
  | 49 => exact vt_ok_of (m := 49) vo_49_0
  | 50 => exact vt_ok_of (m := 50) vo_50_0
  | 51 => exact vt_ok_of (m := 51) (List.all_append.trans (Bool.and_eq_true_iff.mpr ⟨vo_51_0, vo_51_1⟩))
  | 52 => exact vt_ok_of (m := 52) vo_52_0
  | 53 => exact vt_ok_of (m := 53) (List.all_append.trans (Bool.and_eq_true_iff.mpr ⟨vo_53_0, vo_53_1⟩))
  | 54 => exact vt_ok_of (m := 54) (List.all_append.trans (Bool.and_eq_true_iff.mpr ⟨vo_54_0, vo_54_1⟩))
  | 55 => exact vt_ok_of (m := 55) vo_55_0
  | 56 => exact vt_ok_of (m := 56) (List.all_append.trans (Bool.and_eq_true_iff.mpr ⟨vo_56_0, vo_56_1⟩))
  | 57 => exact vt_ok_of (m := 57) vo_57_0
  | 58 => exact vt_ok_of (m := 58) vo_58_0
  | 59 => exact vt_ok_of (m := 59) vo_59_0
  | 60 => exact vt_ok_of (m := 60) (List.all_append.trans (Bool.and_eq_true_iff.mpr ⟨vo_60_0, (List.all_append.trans (Bool.and_eq_true_iff.mpr ⟨vo_60_1, vo_60_2⟩))⟩))
  | 61 => exact vt_ok_of (m := 61) vo_61_0
  | 62 => exact vt_ok_of (m := 62) vo_62_0
  | 63 => exact vt_ok_of (m := 63) (List.all_append.trans (Bool.and_eq_true_iff.mpr ⟨vo_63_0, vo_63_1⟩))
  | 64 => exact vt_ok_of (m := 64) vo_64_0
  | 65 => exact vt_ok_of (m := 65) (List.all_append.trans (Bool.and_eq_true_iff.mpr ⟨vo_65_0, vo_65_1⟩))
  | 66 => exact vt_ok_of (m := 66) vo_66_0
  | 67 => exact vt_ok_of (m := 67) vo_67_0
  | 68 => exact vt_ok_of (m := 68) vo_68_0
  | 69 => exact vt_ok_of (m := 69) vo_69_0
  | 70 => exact vt_ok_of (m := 70) (List.all_append.trans (Bool.and_eq_true_iff.mpr ⟨vo_70_0, vo_70_1⟩))
  | 71 => exact vt_ok_of (m := 71) vo_71_0
  | 72 => exact vt_ok_of (m := 72) vo_72_0
  | 73 => exact vt_ok_of (m := 73) vo_73_0
  | 74 => exact vt_ok_of (m := 74) vo_74_0
  | 75 => exact vt_ok_of (m := 75) vo_75_0
  | 76 => exact vt_ok_of (m := 76) vo_76_0
  | 77 => exact vt_ok_of (m := 77) vo_77_0
  | 78 => exact vt_ok_of (m := 78) vo_78_0
  | 79 => exact vt_ok_of (m := 79) vo_79_0
  | 80 => exact vt_ok_of (m := 80) vo_80_0
  | 81 => exact vt_ok_of (m := 81) (List.all_append.trans (Bool.and_eq_true_iff.mpr ⟨vo_81_0, vo_81_1⟩))
  | 82 => exact vt_ok_of (m := 82) vo_82_0
  | 83 => exact vt_ok_of (m := 83) vo_83_0
  | 84 => exact vt_ok_of (m := 84) vo_84_0
  | 85 => exact vt_ok_of (m := 85) vo_85_0
  | 86 => exact vt_ok_of (m := 86) vo_86_0
  | 87 => exact vt_ok_of (m := 87) vo_87_0
  | 88 => exact vt_ok_of (m := 88) (List.all_append.trans (Bool.and_eq_true_iff.mpr ⟨vo_88_0, vo_88_1⟩))
  | 89 => exact vt_ok_of (m := 89) vo_89_0
  | 90 => exact vt_ok_of (m := 90) vo_90_0
  | 91 => exact vt_ok_of (m := 91) vo_91_0
  | 92 => exact vt_ok_of (m := 92) (List.all_append.trans (Bool.and_eq_true_iff.mpr ⟨vo_92_0, vo_92_1⟩))
  | 93 => exact vt_ok_of (m := 93) vo_93_0
  | 94 => exact vt_ok_of (m := 94) vo_94_0
  | 95 => exact vt_ok_of (m := 95) (List.all_append.trans (Bool.and_eq_true_iff.mpr ⟨vo_95_0, vo_95_1⟩))
  | 96 => exact vt_ok_of (m := 96) vo_96_0
  | 97 => exact vt_ok_of (m := 97) (List.all_append.trans (Bool.and_eq_true_iff.mpr ⟨vo_97_0, vo_97_1⟩))
  | 98 => exact vt_ok_of (m := 98) vo_98_0
  | 99 => exact vt_ok_of (m := 99) vo_99_0
  | 100 => exact vt_ok_of (m := 100) (List.all_append.trans (Bool.and_eq_true_iff.mpr ⟨vo_100_0, (List.all_append.trans (Bool.and_eq_true_iff.mpr ⟨vo_100_1, vo_100_2⟩))⟩))
  | 101 => exact vt_ok_of (m := 101) (List.all_append.trans (Bool.and_eq_true_iff.mpr ⟨vo_101_0, (List.all_append.trans (Bool.and_eq_true_iff.mpr ⟨vo_101_1, (List.all_append.trans (Bool.and_eq_true_iff.mpr ⟨vo_101_2, vo_101_3⟩))⟩))⟩))
  | 102 => exact vt_ok_of (m := 102) (List.all_append.trans (Bool.and_eq_true_iff.mpr ⟨vo_102_0, vo_102_1⟩))
  | 103 => exact vt_ok_of (m := 103) (List.all_append.trans (Bool.and_eq_true_iff.mpr ⟨vo_103_0, (List.all_append.trans (Bool.and_eq_true_iff.mpr ⟨vo_103_1, (List.all_append.trans (Bool.and_eq_true_iff.mpr ⟨vo_103_2, vo_103_3⟩))⟩))⟩))
  | 104 => exact vt_ok_of (m := 104) (List.all_append.trans (Bool.and_eq_true_iff.mpr ⟨vo_104_0, vo_104_1⟩))
  | 105 => exact vt_ok_of (m := 105) (List.all_append.trans (Bool.and_eq_true_iff.mpr ⟨vo_105_0, (List.all_append.trans (Bool.and_eq_true_iff.mpr ⟨vo_105_1, vo_105_2⟩))⟩))
  | 106 => exact vt_ok_of (m := 106) (List.all_append.trans (Bool.and_eq_true_iff.mpr ⟨vo_106_0, vo_106_1⟩))
  | 107 => exact vt_ok_of (m := 107) (List.all_append.trans (Bool.and_eq_true_iff.mpr ⟨vo_107_0, vo_107_1⟩))
  | 108 => exact vt_ok_of (m := 108) vo_108_0
  | 109 => exact vt_ok_of (m := 109) vo_109_0
  | 110 => exact vt_ok_of (m := 110) vo_110_0
  | 111 => exact vt_ok_of (m := 111) vo_111_0
  | 112 => exact vt_ok_of (m := 112) vo_112_0
  | 113 => exact vt_ok_of (m := 113) vo_113_0
  | 114 => exact vt_ok_of (m := 114) vo_114_0
  | 115 => exact vt_ok_of (m := 115) vo_115_0
  | 116 => exact vt_ok_of (m := 116) vo_116_0
  | k + 117 =>
    right
    have : vt_code (k + 117) = [] := by
      unfold vt_code
      rw [List.getD_eq_getElem?_getD, List.getElem?_eq_none (by show _ ≤ k + 117; exact Nat.le_add_left _ _)]
      rfl
    unfold vt_i
    rw [this]
    rfl

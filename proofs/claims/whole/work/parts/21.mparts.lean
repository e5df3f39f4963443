-- ===== the reference: a part more =====
def MP (h : vt_H) : Prop := vh_K h 129 = 106 ∧ vh_R h 129 4 = some 134 ∧ vh_K h 134 = 1 ∧ vh_Z h 134 = 16 ∧ vh_R h 129 5 = some 135 ∧ vh_K h 135 = 1 ∧ vh_Z h 135 = 320
theorem m_part {r k : Nat} {s w x y : Int32} {h : vt_H} (Q : vt_Q) (hM : MP h) (hr : r < 16) (hk : vh_I h 134 r = nI k) (h5k : k ≤ 5) : Wp 92 0 [.ref 129, .int (nI r), .int s, .int w, .int x, .int y, vt_un] [] h Q ↔ if k = 5 then Q (some (.int (-nI 3))) h else Q (some (.int (nI (k + 1)))) (vh_sI h (up2 (up2 (up2 (up2 (up2 (up2 (vh_I h) 135 (20 * r + 4 * k) s) 135 (20 * r + 4 * k + 1) w) 135 (20 * r + 4 * k + 2) x) 135 (20 * r + 4 * k + 3) y) 134 r (nI (k + 1))) 129 7 (nI 0))) := by
  obtain ⟨h1, h2, h3, h4, h5, h6, h7⟩ := hM
  simp only [s_92_0, s_92_1, s_92_4, s_92_5, s_92_6, s_92_7, h1, h2, h3, h4, hk, va_rf_s, cl (show r < 2 ^ 31 by omega), ib hr (show 16 ≤ 2 ^ 31 by omega), not_false_eq_true, and_self, true_and]
  by_cases e : k = 5
  · subst e
    rw [if_neg (fun z => z rfl), if_pos rfl]
    simp only [s_92_10, s_92_12]
  · have hk5 : k < 5 := by omega
    have hne : ¬ nI k = nI 5 := fun q => e ((nI_eq (by omega) (by omega)).mp q)
    have b0 : 20 * r + 4 * k < 320 := by omega
    have b1 : 20 * r + 4 * k + 1 < 320 := by omega
    have b2 : 20 * r + 4 * k + 2 < 320 := by omega
    have b3 : 20 * r + 4 * k + 3 < 320 := by omega
    rw [if_pos hne, if_neg e]
    simp only [s_92_13, s_92_15, s_92_16, s_92_17, s_92_18, s_92_19, s_92_22, s_92_23, s_92_24, s_92_25, s_92_26, s_92_28, s_92_29, s_92_32, s_92_34, s_92_35, s_92_36, s_92_37, s_92_40, s_92_42, s_92_43, s_92_44, s_92_45, s_92_46, s_92_47, s_92_50, s_92_52, s_92_53, s_92_54, s_92_56, s_92_57, s_92_58, s_92_61, s_92_63, s_92_64, s_92_65, s_92_67, s_92_68, s_92_69, s_92_72, s_92_73, s_92_74, s_92_75, s_92_76, s_92_77, s_92_78, s_92_79, s_92_80, s_92_83, s_92_84, s_92_87, s_92_88, s_92_89, h1, h2, h3, h4, h5, h6, h7, hk, va_rf_s, pk_mul, nI_add, cl (show r < 2 ^ 31 by omega), ib hr (show 16 ≤ 2 ^ 31 by omega), cl (show 20 * r + 4 * k < 2 ^ 31 by omega), cl (show 20 * r + 4 * k + 1 < 2 ^ 31 by omega), cl (show 20 * r + 4 * k + 2 < 2 ^ 31 by omega), cl (show 20 * r + 4 * k + 3 < 2 ^ 31 by omega), ib b0 (show 320 ≤ 2 ^ 31 by omega), ib b1 (show 320 ≤ 2 ^ 31 by omega), ib b2 (show 320 ≤ 2 ^ 31 by omega), ib b3 (show 320 ≤ 2 ^ 31 by omega), not_false_eq_true, and_self, true_and, nI_01, vh_K_wI, vh_R_wI, vh_Z_wI, vh_wI_sI, vh_K_sI, vh_R_sI, vh_Z_sI, vh_sI_sI, vh_I_sI, up2_a _ _ _ (show 134 ≠ 135 by decide), up2_a _ _ _ (show 134 ≠ 129 by decide), up2_s]

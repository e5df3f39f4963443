-- ===== the reference: remove, isRule, part; the class: isBadRule =====
theorem m_remove_bad {n a b : Int32} {h : vt_H} (Q : vt_Q) (hb : jbad n a b) : Wp 87 0 [.ref 129, .int n, .int a, .int b] [] h Q ↔ Q (some (.int (-nI 1))) h := by
  unfold jbad at hb
  simp only [s_87_0, s_87_1, s_87_2, s_87_3, s_87_6, s_87_9, s_87_10, c_isFact, Option.toList_some, List.append_nil, List.cons_append, List.nil_append, jb_0]
  rw [if_neg (fun q => q (fun z => z hb))]
theorem m_remove {n a b : Nat} {h : vt_H} (Q : vt_Q) (hM : MD h) (hn : n < 16) (ha : a < 32) (hb : b < 32) : Wp 87 0 [.ref 129, .int (nI n), .int (nI a), .int (nI b)] [] h Q ↔ if vh_I h 130 (1024 * n + 32 * a + b) = 0 then Q (some (.int (nI 0))) h else Q (some (.int (nI 1))) (vh_sI h (up2 (up2 (vh_I h) 130 (1024 * n + 32 * a + b) (nI 0)) 129 7 (nI 0))) := by
  obtain ⟨h1, h2, h3, h4⟩ := hM
  have hk : 1024 * n + 32 * a + b < 16384 := by omega
  simp only [s_87_0, s_87_1, s_87_2, s_87_3, s_87_6, c_isFact, Option.toList_some, List.append_nil, List.cons_append, List.nil_append, jb_0]
  rw [if_pos (fun z => z (jnbad hn ha hb))]
  simp only [s_87_11, s_87_12, s_87_15, s_87_16, s_87_17, s_87_18, s_87_21, s_87_22, h1, h2, h3, h4, va_rf_s, true_and, c_code, pk_mul, nI_add, cl (show 1024 * n + 32 * a + b < 2 ^ 31 by omega), ib hk (show 16384 ≤ 2 ^ 31 by omega), not_false_eq_true, and_self, Option.toList_some, List.append_nil, List.cons_append, List.nil_append]
  by_cases q : vh_I h 130 (1024 * n + 32 * a + b) = 0
  · rw [if_neg (fun z => z q), if_pos q]
    simp only [s_87_25, s_87_26]
  · rw [if_pos q, if_neg q]
    simp only [s_87_27, s_87_28, s_87_31, s_87_32, s_87_33, s_87_34, s_87_37, s_87_38, s_87_39, s_87_40, s_87_41, s_87_44, s_87_45, h1, h2, h3, h4, va_rf_s, true_and, c_code, pk_mul, nI_add, cl (show 1024 * n + 32 * a + b < 2 ^ 31 by omega), ib hk (show 16384 ≤ 2 ^ 31 by omega), not_false_eq_true, and_self, Option.toList_some, List.append_nil, List.cons_append, List.nil_append, nI_11, nI_01, vh_K_wI, vh_wI_sI, vh_K_sI, vh_sI_sI, vh_I_sI]
theorem m_isRule {r : Int32} {h : vt_H} (Q : vt_Q) (hM : vh_K h 129 = 106) : Wp 91 0 [.ref 129, .int r] [] h Q ↔ Q (some (.int (jb (¬ (r < 0 ∨ vh_I h 129 6 ≤ r))))) h := by
  simp only [s_91_0, s_91_1, s_91_4, s_91_5, s_91_6, s_91_9, s_91_12, s_91_13, s_91_16, s_91_17, hM, true_and, nI_01, nI_11, ← i32_nle]
  by_cases h1 : r < 0 <;> by_cases h2 : vh_I h 129 6 ≤ r <;> simp [h1, h2, jb]
theorem c_isBadRule {r : Int32} {h : vt_H} (Q : vt_Q) (hE : vh_K h 0 = 105) : Wp 20 0 [.ref 0, .int r] [] h Q ↔ Q (some (.int (jb (r < 0 ∨ vh_I h 0 3 ≤ r)))) h := by
  simp only [s_20_0, s_20_1, s_20_4, s_20_5, s_20_6, s_20_9, s_20_12, s_20_13, s_20_16, s_20_17, hE, true_and, nI_01, nI_11, ← i32_nle]
  by_cases h1 : r < 0 <;> by_cases h2 : vh_I h 0 3 ≤ r <;> simp [h1, h2, jb]
theorem m_valueOf {v : Int32} {h : vt_H} {k : Nat} (Q : vt_Q) (hK : vh_K h 129 = 106) (hR : vh_R h 129 15 = some 141) (h1 : vh_K h 141 = 1) (h2 : vh_Z h 141 = 6) (hv : v = -nI 1 - nI k) (hk : k < 6) (hn : v < 0) : Wp 108 0 [.ref 129, .int v] [] h Q ↔ Q (some (.int (vh_I h 141 k))) h := by
  have e : -nI 1 - v = nI k := by subst hv; exact (by decide +kernel : ∀ k, k < 6 → -nI 1 - (-nI 1 - nI k) = nI k) k hk
  simp only [s_108_0, s_108_1, s_108_4, s_108_5, s_108_8, s_108_9, s_108_12, s_108_13, s_108_14, s_108_15, s_108_16, if_pos hn, if_neg (show ¬ 0 ≤ v from fun q => absurd hn (i32_nlt.mpr q)), hK, hR, h1, h2, va_rf_s, e, cl (show k < 2 ^ 31 by omega), ib hk (show 6 ≤ 2 ^ 31 by omega), not_false_eq_true, and_self, true_and]

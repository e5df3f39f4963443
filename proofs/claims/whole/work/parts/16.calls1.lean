-- ===== fact, remove: of the class, of the reference =====
/-- no name, or no numbers -/
def jbad (n a b : Int32) : Prop := (n < 0 ∨ nI 16 ≤ n) ∨ (a < 0 ∨ nI 32 ≤ a) ∨ (b < 0 ∨ nI 32 ≤ b)
theorem jrng {x : Int32} {N : Nat} (hN : N < 2 ^ 31) (h : ¬ (x < 0 ∨ nI N ≤ x)) : ∃ k, k < N ∧ x = nI k := by
  rcases pk_ix x hN with q | q | q
  · exact absurd (Or.inl q) h
  · exact absurd (Or.inr q) h
  · exact q
theorem jgood {n a b : Int32} (h : ¬ jbad n a b) : ∃ n' a' b', (n' < 16 ∧ a' < 32 ∧ b' < 32) ∧ n = nI n' ∧ a = nI a' ∧ b = nI b' := by
  unfold jbad at h
  obtain ⟨n', h1, e1⟩ := jrng (x := n) (N := 16) (by omega) (fun q => h (Or.inl q))
  obtain ⟨a', h2, e2⟩ := jrng (x := a) (N := 32) (by omega) (fun q => h (Or.inr (Or.inl q)))
  obtain ⟨b', h3, e3⟩ := jrng (x := b) (N := 32) (by omega) (fun q => h (Or.inr (Or.inr q)))
  exact ⟨n', a', b', ⟨h1, h2, h3⟩, e1, e2, e3⟩
theorem jnbad {n a b : Nat} (hn : n < 16) (ha : a < 32) (hb : b < 32) : ¬ ((nI n < 0 ∨ nI 16 ≤ nI n) ∨ (nI a < 0 ∨ nI 32 ≤ nI a) ∨ (nI b < 0 ∨ nI 32 ≤ nI b)) := by
  rintro ((q | q) | (q | q) | (q | q))
  · exact nI_pos (by omega) q
  · exact nI_ge hn (by omega) q
  · exact nI_pos (by omega) q
  · exact nI_ge ha (by omega) q
  · exact nI_pos (by omega) q
  · exact nI_ge hb (by omega) q
/-- the engine's first objects: engine 0, said 1 2 3, model 4 -/
def EN (h : vt_H) : Prop := vh_K h 0 = 105 ∧ vh_R h 0 0 = some 1 ∧ vh_R h 0 1 = some 48 ∧ vh_R h 0 2 = some 4 ∧ vh_K h 4 = 102 ∧ FT h 1 2 3
theorem c_fact_bad {n a b : Int32} {h : vt_H} (Q : vt_Q) (hb : jbad n a b) : Wp 7 0 [.ref 0, .int n, .int a, .int b] [] h Q ↔ Q (some (.int (-nI 1))) h := by
  unfold jbad at hb
  simp only [s_7_0, s_7_1, s_7_2, s_7_3, s_7_6, s_7_9, s_7_10, c_isBadFact, Option.toList_some, List.append_nil, List.cons_append, List.nil_append, jb_0]
  rw [if_neg (fun q => q hb)]
theorem c_fact {n a b : Nat} {h : vt_H} (Q : vt_Q) (hE : EN h) (hn : n < 16) (ha : a < 32) (hb : b < 32) : Wp 7 0 [.ref 0, .int (nI n), .int (nI a), .int (nI b)] [] h Q ↔ if bt (vh_I h 2 (32 * n + a)) b = true then Q (some (.int (nI 0))) h else Q (some (.int (nI 1))) (vh_sI h (up2 (up2 (up2 (vh_I h) 2 (32 * n + a) (vh_I h 2 (32 * n + a) ||| j1 (nI b))) 3 (32 * n + b) (vh_I h 3 (32 * n + b) ||| j1 (nI a))) 4 0 (nI 1))) := by
  obtain ⟨h1, h2, h3, h4, h5, h6⟩ := hE
  simp only [s_7_0, s_7_1, s_7_2, s_7_3, s_7_6, c_isBadFact, Option.toList_some, List.append_nil, List.cons_append, List.nil_append, jb_0]
  rw [if_pos (jnbad hn ha hb)]
  simp only [s_7_11, s_7_12, s_7_15, s_7_16, s_7_17, s_7_18, s_7_21, h1, h2, h6.1, va_rf_s, true_and, c_has _ h6 hn ha, Option.toList_some, List.append_nil, List.cons_append, List.nil_append, jbit_bt _ hb, jb_0]
  by_cases q : bt (vh_I h 2 (32 * n + a)) b = true
  · rw [if_neg (by simp [q]), if_pos q]
    simp only [s_7_24, s_7_25]
  · rw [if_pos q, if_neg q]
    simp only [s_7_26, s_7_27, s_7_30, s_7_31, s_7_32, s_7_33, s_7_36, s_7_37, s_7_40, s_7_41, s_7_44, s_7_45, h1, h2, h4, h5, h6.1, va_rf_s, true_and, c_add _ h6 (show 3 ≠ 2 by decide) hn ha hb, Option.toList_none, List.nil_append, vh_K_sI, vh_R_sI, nI_11, and_self, vh_wI_sI, vh_sI_sI, vh_I_sI]
theorem c_remove_bad {n a b : Int32} {h : vt_H} (Q : vt_Q) (hb : jbad n a b) : Wp 13 0 [.ref 0, .int n, .int a, .int b] [] h Q ↔ Q (some (.int (-nI 1))) h := by
  unfold jbad at hb
  simp only [s_13_0, s_13_1, s_13_2, s_13_3, s_13_6, s_13_9, s_13_10, c_isBadFact, Option.toList_some, List.append_nil, List.cons_append, List.nil_append, jb_0]
  rw [if_neg (fun q => q hb)]
theorem c_remove {n a b : Nat} {h : vt_H} (Q : vt_Q) (hE : EN h) (hn : n < 16) (ha : a < 32) (hb : b < 32) : Wp 13 0 [.ref 0, .int (nI n), .int (nI a), .int (nI b)] [] h Q ↔ if bt (vh_I h 2 (32 * n + a)) b = true then Q (some (.int (nI 1))) (vh_sI h (up2 (up2 (up2 (vh_I h) 2 (32 * n + a) (vh_I h 2 (32 * n + a) &&& (j1 (nI b) ^^^ -nI 1))) 3 (32 * n + b) (vh_I h 3 (32 * n + b) &&& (j1 (nI a) ^^^ -nI 1))) 4 0 (nI 1))) else Q (some (.int (nI 0))) h := by
  obtain ⟨h1, h2, h3, h4, h5, h6⟩ := hE
  simp only [s_13_0, s_13_1, s_13_2, s_13_3, s_13_6, c_isBadFact, Option.toList_some, List.append_nil, List.cons_append, List.nil_append, jb_0]
  rw [if_pos (jnbad hn ha hb)]
  simp only [s_13_11, s_13_12, s_13_15, s_13_16, s_13_17, s_13_18, s_13_21, h1, h2, h6.1, va_rf_s, true_and, c_has _ h6 hn ha, Option.toList_some, List.append_nil, List.cons_append, List.nil_append, jbit_bt _ hb, jb_0]
  by_cases q : bt (vh_I h 2 (32 * n + a)) b = true
  · rw [if_pos (by simp [q]), if_pos q]
    simp only [s_13_26, s_13_27, s_13_30, s_13_31, s_13_32, s_13_33, s_13_36, s_13_37, s_13_40, s_13_41, s_13_44, s_13_45, h1, h2, h4, h5, h6.1, va_rf_s, true_and, c_cut _ h6 (show 3 ≠ 2 by decide) hn ha hb, Option.toList_none, List.nil_append, vh_K_sI, vh_R_sI, nI_11, and_self, vh_wI_sI, vh_sI_sI, vh_I_sI]
  · rw [if_neg (by simp [q]), if_neg q]
    simp only [s_13_24, s_13_25]
/-- the reference's object 129 and its arrays -/
def MD (h : vt_H) : Prop := vh_K h 129 = 106 ∧ vh_R h 129 0 = some 130 ∧ vh_K h 130 = 4 ∧ vh_Z h 130 = 16384
theorem m_fact_bad {n a b : Int32} {h : vt_H} (Q : vt_Q) (hb : jbad n a b) : Wp 82 0 [.ref 129, .int n, .int a, .int b] [] h Q ↔ Q (some (.int (-nI 1))) h := by
  unfold jbad at hb
  simp only [s_82_0, s_82_1, s_82_2, s_82_3, s_82_6, s_82_9, s_82_10, c_isFact, Option.toList_some, List.append_nil, List.cons_append, List.nil_append, jb_0]
  rw [if_neg (fun q => q (fun z => z hb))]
theorem m_fact {n a b : Nat} {h : vt_H} (Q : vt_Q) (hM : MD h) (hn : n < 16) (ha : a < 32) (hb : b < 32) : Wp 82 0 [.ref 129, .int (nI n), .int (nI a), .int (nI b)] [] h Q ↔ if vh_I h 130 (1024 * n + 32 * a + b) = 0 then Q (some (.int (nI 1))) (vh_sI h (up2 (up2 (vh_I h) 130 (1024 * n + 32 * a + b) (nI 1)) 129 7 (nI 0))) else Q (some (.int (nI 0))) h := by
  obtain ⟨h1, h2, h3, h4⟩ := hM
  have hk : 1024 * n + 32 * a + b < 16384 := by omega
  simp only [s_82_0, s_82_1, s_82_2, s_82_3, s_82_6, c_isFact, Option.toList_some, List.append_nil, List.cons_append, List.nil_append, jb_0]
  rw [if_pos (fun z => z (jnbad hn ha hb))]
  simp only [s_82_11, s_82_12, s_82_15, s_82_16, s_82_17, s_82_18, s_82_21, s_82_22, h1, h2, h3, h4, va_rf_s, true_and, c_code, pk_mul, nI_add, cl (show 1024 * n + 32 * a + b < 2 ^ 31 by omega), ib hk (show 16384 ≤ 2 ^ 31 by omega), not_false_eq_true, and_self, Option.toList_some, List.append_nil, List.cons_append, List.nil_append]
  by_cases q : vh_I h 130 (1024 * n + 32 * a + b) = 0
  · rw [if_pos q, if_pos q]
    simp only [s_82_27, s_82_28, s_82_31, s_82_32, s_82_33, s_82_34, s_82_37, s_82_38, s_82_39, s_82_40, s_82_41, s_82_44, s_82_45, h1, h2, h3, h4, va_rf_s, true_and, c_code, pk_mul, nI_add, cl (show 1024 * n + 32 * a + b < 2 ^ 31 by omega), ib hk (show 16384 ≤ 2 ^ 31 by omega), not_false_eq_true, and_self, Option.toList_some, List.append_nil, List.cons_append, List.nil_append, nI_11, nI_01, vh_K_wI, vh_wI_sI, vh_K_sI, vh_sI_sI, vh_I_sI]
  · rw [if_neg q, if_neg q]
    simp only [s_82_25, s_82_26]

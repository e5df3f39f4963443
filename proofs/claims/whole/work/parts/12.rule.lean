-- ===== RULES of the class =====
/-- a rule's object and its four arrays -/
def RL (h : vt_H) (r d n x y : Nat) : Prop := vh_K h r = 103 ∧ vh_R h r 6 = some d ∧ vh_R h r 7 = some n ∧ vh_R h r 8 = some x ∧ vh_R h r 9 = some y ∧ (vh_K h d = 1 ∧ vh_Z h d = 5) ∧ (vh_K h n = 1 ∧ vh_Z h n = 5) ∧ (vh_K h x = 1 ∧ vh_Z h x = 5) ∧ (vh_K h y = 1 ∧ vh_Z h y = 5)
theorem c_start {r d n x y : Nat} {a b c : Int32} {h : vt_H} (Q : vt_Q) (hR : RL h r d n x y) : Wp 17 0 [.ref r, .int a, .int b, .int c] [] h Q ↔ Q none (vh_sI h (up2 (up2 (up2 (up2 (up2 (up2 (vh_I h) r 0 a) r 1 b) r 2 c) r 3 (-nI 1)) r 4 (nI 0)) r 5 (nI 0))) := by
  obtain ⟨h1, -⟩ := hR
  simp only [s_17_0, s_17_1, s_17_2, s_17_5, s_17_6, s_17_7, s_17_10, s_17_11, s_17_12, s_17_15, s_17_16, s_17_17, s_17_20, s_17_21, s_17_22, s_17_25, s_17_26, s_17_27, s_17_30, h1, vh_K_wI, true_and, vh_wI_sI, vh_K_sI, vh_sI_sI, vh_I_sI]
theorem c_secondItem {r d n x y : Nat} {h : vt_H} (Q : vt_Q) (hR : RL h r d n x y) : Wp 27 0 [.ref r] [] h Q ↔ Q (some (.int (if vh_I h r 3 = -nI 1 then vh_I h r 2 else vh_I h r 4))) h := by
  obtain ⟨h1, -⟩ := hR
  simp only [s_27_0, s_27_1, s_27_4, s_27_5, s_27_8, s_27_9, s_27_12, s_27_15, s_27_16, s_27_19, h1, true_and]
  by_cases q : vh_I h r 3 = -nI 1 <;> simp [q]
theorem c_isTallied {r d n x y : Nat} {h : vt_H} (Q : vt_Q) (hR : RL h r d n x y) : Wp 44 0 [.ref r] [] h Q ↔ Q (some (.int (jb (vh_I h r 3 = 0 ∨ vh_I h r 3 = nI 1)))) h := by
  obtain ⟨h1, -⟩ := hR
  simp only [s_44_0, s_44_1, s_44_4, s_44_7, s_44_8, s_44_11, s_44_12, s_44_15, s_44_16, s_44_19, s_44_20, h1, true_and, nI_01, nI_11]
  by_cases q : vh_I h r 3 = 0 <;> by_cases q2 : vh_I h r 3 = nI 1 <;> simp [q, q2, jb]
/-- the variables among two items, as bits -/
def jvar (x y : Int32) : Int32 := if y < 0 then (if x < 0 then j1 (-nI 1 - x) else nI 0) ||| j1 (-nI 1 - y) else if x < 0 then j1 (-nI 1 - x) else nI 0
theorem c_variables {x y : Int32} {h : vt_H} (Q : vt_Q) : Wp 28 0 [.int x, .int y, vt_un] [] h Q ↔ Q (some (.int (jvar x y))) h := by
  simp only [s_28_0, s_28_1, s_28_4, s_28_5, s_28_6, s_28_9, s_28_10, s_28_13, s_28_14, s_28_15, s_28_16, s_28_19, s_28_20, s_28_21, s_28_22, s_28_25, s_28_26, s_28_27, s_28_30, s_28_31, c_variableOf, Option.toList_some, List.append_nil, List.cons_append, List.nil_append, ← i32_nlt]
  by_cases q : x < 0 <;> by_cases q2 : y < 0 <;> simp [q, q2, jvar, j1]
theorem c_addPart {r d n x y k : Nat} {pd pn px py : Int32} {h : vt_H} (Q : vt_Q) (hR : RL h r d n x y) (hs : vh_I h r 5 = nI k) (hk : k < 5) (hd : d ≠ r) (hn : n ≠ r) (hx : x ≠ r) (hy : y ≠ r) : Wp 21 0 [.ref r, .int pd, .int pn, .int px, .int py] [] h Q ↔ Q none (vh_sI h (up2 (up2 (up2 (up2 (up2 (vh_I h) d k pd) n k pn) x k px) y k py) r 5 (nI (k + 1)))) := by
  obtain ⟨h1, h2, h3, h4, h5, ⟨h6, h7⟩, ⟨h8, h9⟩, ⟨h10, h11⟩, ⟨h12, h13⟩⟩ := hR
  have hnl : ¬ nI 5 ≤ nI k := nI_ge hk (by omega)
  simp only [s_21_0, s_21_1, s_21_4, s_21_5, s_21_8, s_21_9, s_21_12, s_21_13, s_21_16, s_21_17, s_21_18, s_21_19, s_21_22, s_21_23, s_21_26, s_21_27, s_21_28, s_21_29, s_21_32, s_21_33, s_21_36, s_21_37, s_21_38, s_21_39, s_21_42, s_21_43, s_21_46, s_21_48, s_21_49, s_21_50, s_21_51, s_21_54, s_21_55, s_21_56, s_21_59, h1, h2, h3, h4, h5, h6, h7, h8, h9, h10, h11, h12, h13, hs, va_rf_s, if_neg hnl, cl (show k < 2 ^ 31 by omega), ib hk (show 5 ≤ 2 ^ 31 by omega), not_false_eq_true, and_self, true_and, vh_K_wI, vh_R_wI, vh_Z_wI, vh_wI_sI, vh_K_sI, vh_R_sI, vh_Z_sI, vh_sI_sI, vh_I_sI, up2_a _ _ _ hd.symm, up2_a _ _ _ hn.symm, up2_a _ _ _ hx.symm, up2_a _ _ _ hy.symm, nI_add]

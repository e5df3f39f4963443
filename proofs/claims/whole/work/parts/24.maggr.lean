-- ===== the reference: aggregate, body, filter =====
theorem m_aggregate {i : Nat} {kd v : Int32} {h : vt_H} (Q : vt_Q) (hM : MH h) (hb : ¬ ((nI i < 0 ∨ vh_I h 129 6 ≤ nI i) ∨ (kd < -nI 1 ∨ nI 3 < kd) ∨ (¬ kd < 0 ∧ (-nI 1 < v ∨ v < -nI 6)))) (hi : i < 16) : Wp 94 0 [.ref 129, .int (nI i), .int kd, .int v] [] h Q ↔ Q (some (.int (nI 1))) (vh_sI h (up2 (up2 (up2 (vh_I h) 132 i kd) 133 i v) 129 7 (nI 0))) := by
  obtain ⟨h1, ⟨a1, a2, a3⟩, ⟨b1, b2, b3⟩, ⟨c1, c2, c3⟩, ⟨d1, d2, d3⟩⟩ := hM
  have q1 : ¬ (nI i < 0 ∨ vh_I h 129 6 ≤ nI i) := fun q => hb (Or.inl q)
  have q2 : ¬ kd < -nI 1 := fun q => hb (Or.inr (Or.inl (Or.inl q)))
  have q3 : ¬ nI 3 < kd := fun q => hb (Or.inr (Or.inl (Or.inr q)))
  have fin : Wp 94 35 [.ref 129, .int (nI i), .int kd, .int v] [] h Q ↔ Q (some (.int (nI 1))) (vh_sI h (up2 (up2 (up2 (vh_I h) 132 i kd) 133 i v) 129 7 (nI 0))) := by
    simp only [s_94_35, s_94_36, s_94_39, s_94_40, s_94_41, s_94_42, s_94_43, s_94_46, s_94_47, s_94_48, s_94_49, s_94_50, s_94_51, s_94_54, s_94_55, h1, b1, b2, b3, c1, c2, c3, va_rf_s, cl (show i < 2 ^ 31 by omega), ib hi (show 16 ≤ 2 ^ 31 by omega), not_false_eq_true, and_self, true_and, nI_01, vh_K_wI, vh_R_wI, vh_Z_wI, vh_wI_sI, vh_K_sI, vh_R_sI, vh_Z_sI, vh_sI_sI, vh_I_sI]
  simp only [s_94_0, s_94_1, s_94_2, s_94_5, h1, true_and, m_isRule _ h1, Option.toList_some, List.append_nil, List.cons_append, List.nil_append, jb_0]
  rw [if_neg (fun z => z q1)]
  simp only [s_94_8, s_94_9, s_94_10]
  rw [if_neg q2]
  simp only [s_94_13, s_94_14, s_94_15]
  rw [if_neg q3]
  simp only [s_94_18, s_94_19]
  by_cases e : kd < 0
  · rw [if_pos e]
    exact fin
  · have q4 : ¬ (-nI 1 < v ∨ v < -nI 6) := fun q => hb (Or.inr (Or.inr ⟨e, q⟩))
    rw [if_neg e]
    simp only [s_94_22, s_94_23, s_94_24]
    rw [if_neg (fun q => q4 (Or.inl q))]
    simp only [s_94_27, s_94_28, s_94_30]
    rw [if_pos (i32_nlt.mp (fun q => q4 (Or.inr q)))]
    exact fin

-- ===== the class: aggregate =====
def jbadA (rc r kd v : Int32) : Prop := (r < 0 ∨ rc ≤ r) ∨ (kd < -nI 1 ∨ nI 3 < kd) ∨ (¬ kd = -nI 1 ∧ (v < -nI 6 ∨ -nI 1 < v))
theorem c_aggregate_bad {r kd v : Int32} {h : vt_H} (Q : vt_Q) (hE : vh_K h 0 = 105) (hb : jbadA (vh_I h 0 3) r kd v) : Wp 23 0 [.ref 0, .int r, .int kd, .int v] [] h Q ↔ Q (some (.int (-nI 1))) h := by
  unfold jbadA at hb
  simp only [s_23_0, s_23_1, s_23_2, s_23_5, hE, true_and, c_isBadRule _ hE, Option.toList_some, List.append_nil, List.cons_append, List.nil_append, jb_0]
  by_cases q1 : r < 0 ∨ vh_I h 0 3 ≤ r
  · rw [if_pos (fun z => z q1)]
    simp only [s_23_18, s_23_19]
  · rw [if_neg (fun z => z q1)]
    simp only [s_23_8, s_23_9, s_23_10]
    by_cases q2 : kd < -nI 1
    · rw [if_pos q2]
      simp only [s_23_18, s_23_19]
    · rw [if_neg q2]
      simp only [s_23_13, s_23_14, s_23_15]
      by_cases q3 : nI 3 < kd
      · rw [if_neg (i32_nle.mpr q3)]
        simp only [s_23_18, s_23_19]
      · rw [if_pos (i32_nlt.mp q3)]
        obtain ⟨k1, k2⟩ := (hb.resolve_left q1).resolve_left (fun z => z.elim q2 q3)
        simp only [s_23_20, s_23_21, s_23_22]
        rw [if_neg k1]
        simp only [s_23_25, s_23_26, s_23_28]
        by_cases q4 : v < -nI 6
        · rw [if_pos q4]
          simp only [s_23_36, s_23_37]
        · rw [if_neg q4]
          simp only [s_23_31, s_23_32, s_23_33]
          rw [if_neg (i32_nle.mpr (k2.resolve_left q4))]
          simp only [s_23_36, s_23_37]
theorem c_aggregate {i r d n x y : Nat} {kd v : Int32} {h : vt_H} (Q : vt_Q) (hE : EN h) (hb : ¬ jbadA (vh_I h 0 3) (nI i) kd v) (hi : i < 16) (hA : vh_K h 48 = 2 ∧ vh_Z h 48 = 16) (hr : vh_R h 48 i = some r) (hR : RL h r d n x y) : Wp 23 0 [.ref 0, .int (nI i), .int kd, .int v] [] h Q ↔ Q (some (.int (nI 1))) (vh_sI h (up2 (up2 (up2 (vh_I h) r 3 kd) r 4 v) 4 0 (nI 1))) := by
  unfold jbadA at hb
  obtain ⟨h1, h2, h3, h4, h5, h6⟩ := hE
  have q1 : ¬ (nI i < 0 ∨ vh_I h 0 3 ≤ nI i) := fun q => hb (Or.inl q)
  have q2 : ¬ kd < -nI 1 := fun q => hb (Or.inr (Or.inl (Or.inl q)))
  have q3 : ¬ nI 3 < kd := fun q => hb (Or.inr (Or.inl (Or.inr q)))
  simp only [s_23_0, s_23_1, s_23_2, s_23_5, h1, true_and, c_isBadRule _ h1, Option.toList_some, List.append_nil, List.cons_append, List.nil_append, jb_0]
  rw [if_neg (fun z => z q1)]
  simp only [s_23_8, s_23_9, s_23_10]
  rw [if_neg q2]
  simp only [s_23_13, s_23_14, s_23_15]
  rw [if_pos (i32_nlt.mp q3)]
  simp only [s_23_20, s_23_21, s_23_22]
  have fin : Wp 23 38 [.ref 0, .int (nI i), .int kd, .int v] [] h Q ↔ Q (some (.int (nI 1))) (vh_sI h (up2 (up2 (up2 (vh_I h) r 3 kd) r 4 v) 4 0 (nI 1))) := by
    simp only [s_23_38, s_23_39, s_23_42, s_23_43, s_23_44, s_23_45, s_23_48, s_23_49, s_23_52, s_23_53, s_23_54, s_23_55, s_23_58, s_23_59, s_23_62, s_23_63, s_23_66, s_23_67, h1, h3, h4, h5, hA.1, hA.2, hr, hR.1, va_rf_s, cl (show i < 2 ^ 31 by omega), ib hi (show 16 ≤ 2 ^ 31 by omega), not_false_eq_true, and_self, true_and, nI_11, vh_K_wI, vh_R_wI, vh_Z_wI, vh_wI_sI, vh_K_sI, vh_R_sI, vh_Z_sI, vh_sI_sI, vh_I_sI]
  by_cases e : kd = -nI 1
  · rw [if_pos e]
    exact fin
  · have q4 : ¬ (v < -nI 6 ∨ -nI 1 < v) := fun q => hb (Or.inr (Or.inr ⟨e, q⟩))
    rw [if_neg e]
    simp only [s_23_25, s_23_26, s_23_28]
    rw [if_neg (fun q => q4 (Or.inl q))]
    simp only [s_23_31, s_23_32, s_23_33]
    rw [if_pos (i32_nlt.mp (fun q => q4 (Or.inr q)))]
    exact fin

-- ===== the class: a part more =====
/-- no such rule, or a bad item -/
def jbadP (rc : Int32) (r x y : Int32) : Prop := (r < 0 ∨ rc ≤ r) ∨ (x < -nI 6 ∨ nI 32 ≤ x) ∨ (y < -nI 6 ∨ nI 32 ≤ y)
theorem c_addPartE_bad {r pd pn px py : Int32} {h : vt_H} (Q : vt_Q) (hE : vh_K h 0 = 105) (hb : jbadP (vh_I h 0 3) r px py) : Wp 19 0 [.ref 0, .int r, .int pd, .int pn, .int px, .int py] [] h Q ↔ Q (some (.int (-nI 1))) h := by
  unfold jbadP at hb
  simp only [s_19_0, s_19_1, s_19_2, s_19_5, hE, true_and, c_isBadRule _ hE, Option.toList_some, List.append_nil, List.cons_append, List.nil_append, jb_0]
  by_cases q1 : r < 0 ∨ vh_I h 0 3 ≤ r
  · rw [if_pos (fun z => z q1)]
    simp only [s_19_24, s_19_25]
  · rw [if_neg (fun z => z q1)]
    simp only [s_19_8, s_19_10, s_19_13, c_isBadItem, Option.toList_some, List.append_nil, List.cons_append, List.nil_append, jb_0]
    by_cases q2 : px < -nI 6 ∨ nI 32 ≤ px
    · rw [if_pos (fun z => z q2)]
      simp only [s_19_24, s_19_25]
    · rw [if_neg (fun z => z q2)]
      simp only [s_19_16, s_19_18, s_19_21, c_isBadItem, Option.toList_some, List.append_nil, List.cons_append, List.nil_append, jb_0]
      have q3 : py < -nI 6 ∨ nI 32 ≤ py := (hb.resolve_left q1).resolve_left q2
      rw [if_neg (fun z => z q3)]
      simp only [s_19_24, s_19_25]
theorem c_addPartE {i r d n x y k : Nat} {pd pn px py : Int32} {h : vt_H} (Q : vt_Q) (hE : EN h) (hb : ¬ jbadP (vh_I h 0 3) (nI i) px py) (hi : i < 16) (hA : vh_K h 48 = 2 ∧ vh_Z h 48 = 16) (hr : vh_R h 48 i = some r) (hR : RL h r d n x y) (hs : vh_I h r 5 = nI k) (hk : k ≤ 5) (ha : (d ≠ r ∧ n ≠ r ∧ x ≠ r ∧ y ≠ r) ∧ r ≠ 4) : Wp 19 0 [.ref 0, .int (nI i), .int pd, .int pn, .int px, .int py] [] h Q ↔ if k = 5 then Q (some (.int (-nI 3))) h else Q (some (.int (nI (k + 1)))) (vh_sI h (up2 (up2 (up2 (up2 (up2 (up2 (vh_I h) d k pd) n k pn) x k px) y k py) r 5 (nI (k + 1))) 4 0 (nI 1))) := by
  unfold jbadP at hb
  obtain ⟨h1, h2, h3, h4, h5, h6⟩ := hE
  have q1 : ¬ (nI i < 0 ∨ vh_I h 0 3 ≤ nI i) := fun q => hb (Or.inl q)
  have q2 : ¬ (px < -nI 6 ∨ nI 32 ≤ px) := fun q => hb (Or.inr (Or.inl q))
  have q3 : ¬ (py < -nI 6 ∨ nI 32 ≤ py) := fun q => hb (Or.inr (Or.inr q))
  simp only [s_19_0, s_19_1, s_19_2, s_19_5, h1, true_and, c_isBadRule _ h1, Option.toList_some, List.append_nil, List.cons_append, List.nil_append, jb_0]
  rw [if_neg (fun z => z q1)]
  simp only [s_19_8, s_19_10, s_19_13, c_isBadItem, Option.toList_some, List.append_nil, List.cons_append, List.nil_append, jb_0]
  rw [if_neg (fun z => z q2)]
  simp only [s_19_16, s_19_18, s_19_21, c_isBadItem, Option.toList_some, List.append_nil, List.cons_append, List.nil_append, jb_0]
  rw [if_pos q3]
  simp only [s_19_26, s_19_27, s_19_30, s_19_31, s_19_32, s_19_35, s_19_36, h1, h3, hA.1, hA.2, hr, hR.1, hs, va_rf_s, cl (show i < 2 ^ 31 by omega), ib hi (show 16 ≤ 2 ^ 31 by omega), not_false_eq_true, and_self, true_and]
  by_cases e : k = 5
  · subst e
    rw [if_neg (nI_nlt (Nat.le_refl 5) (by omega)), if_pos rfl]
    simp only [s_19_39, s_19_41]
  · have hk5 : k < 5 := by omega
    rw [if_pos (nI_lt hk5 (by omega)), if_neg e]
    simp only [s_19_42, s_19_43, s_19_46, s_19_47, s_19_48, s_19_49, s_19_50, s_19_52, s_19_54, s_19_57, s_19_58, s_19_61, s_19_62, s_19_65, s_19_66, s_19_69, s_19_70, s_19_71, s_19_74, h1, h3, h4, h5, hA.1, hA.2, hr, hR.1, va_rf_s, cl (show i < 2 ^ 31 by omega), ib hi (show 16 ≤ 2 ^ 31 by omega), not_false_eq_true, and_self, true_and, c_addPart _ hR hs hk5 ha.1.1 ha.1.2.1 ha.1.2.2.1 ha.1.2.2.2, Option.toList_none, List.nil_append, vh_K_sI, vh_R_sI, vh_Z_sI, nI_11, vh_K_wI, vh_R_wI, vh_Z_wI, vh_wI_sI, vh_sI_sI, vh_I_sI, up2_a _ _ _ ha.2, up2_s]

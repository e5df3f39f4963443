-- ===== the class: rule, aggregate =====
def jbadH (n x y : Int32) : Prop := (n < 0 ∨ nI 16 ≤ n) ∨ (x < -nI 6 ∨ nI 32 ≤ x) ∨ (y < -nI 6 ∨ nI 32 ≤ y)
theorem c_rule_bad {n x y : Int32} {h : vt_H} (Q : vt_Q) (hb : jbadH n x y) : Wp 15 0 [.ref 0, .int n, .int x, .int y] [] h Q ↔ Q (some (.int (-nI 1))) h := by
  unfold jbadH at hb
  simp only [s_15_0, s_15_1, s_15_4, c_isBadName, Option.toList_some, List.append_nil, List.cons_append, List.nil_append, jb_0]
  by_cases q1 : n < 0 ∨ nI 16 ≤ n
  · rw [if_pos (fun z => z q1)]
    simp only [s_15_21, s_15_22]
  · rw [if_neg (fun z => z q1)]
    simp only [s_15_7, s_15_8, s_15_11, c_isBadItem, Option.toList_some, List.append_nil, List.cons_append, List.nil_append, jb_0]
    by_cases q2 : x < -nI 6 ∨ nI 32 ≤ x
    · rw [if_pos (fun z => z q2)]
      simp only [s_15_21, s_15_22]
    · rw [if_neg (fun z => z q2)]
      simp only [s_15_14, s_15_15, s_15_18, c_isBadItem, Option.toList_some, List.append_nil, List.cons_append, List.nil_append, jb_0]
      have q3 : y < -nI 6 ∨ nI 32 ≤ y := (hb.resolve_left q1).resolve_left q2
      rw [if_neg (fun z => z q3)]
      simp only [s_15_21, s_15_22]
theorem c_rule {n x y : Int32} {rc r d na xs ys : Nat} {h : vt_H} (Q : vt_Q) (hE : EN h) (hb : ¬ jbadH n x y) (hrc : vh_I h 0 3 = nI rc) (h16 : rc ≤ 16) (hA : vh_K h 48 = 2 ∧ vh_Z h 48 = 16) (hr : rc < 16 → vh_R h 48 rc = some r) (hR : rc < 16 → RL h r d na xs ys) (hr0 : r ≠ 0) : Wp 15 0 [.ref 0, .int n, .int x, .int y] [] h Q ↔ if rc = 16 then Q (some (.int (-nI 3))) h else Q (some (.int (nI rc))) (vh_sI h (up2 (up2 (up2 (up2 (up2 (up2 (up2 (up2 (vh_I h) r 0 n) r 1 x) r 2 y) r 3 (-nI 1)) r 4 (nI 0)) r 5 (nI 0)) 4 0 (nI 1)) 0 3 (nI (rc + 1)))) := by
  unfold jbadH at hb
  obtain ⟨h1, h2, h3, h4, h5, h6⟩ := hE
  have q1 : ¬ (n < 0 ∨ nI 16 ≤ n) := fun q => hb (Or.inl q)
  have q2 : ¬ (x < -nI 6 ∨ nI 32 ≤ x) := fun q => hb (Or.inr (Or.inl q))
  have q3 : ¬ (y < -nI 6 ∨ nI 32 ≤ y) := fun q => hb (Or.inr (Or.inr q))
  simp only [s_15_0, s_15_1, s_15_4, c_isBadName, Option.toList_some, List.append_nil, List.cons_append, List.nil_append, jb_0]
  rw [if_neg (fun z => z q1)]
  simp only [s_15_7, s_15_8, s_15_11, c_isBadItem, Option.toList_some, List.append_nil, List.cons_append, List.nil_append, jb_0]
  rw [if_neg (fun z => z q2)]
  simp only [s_15_14, s_15_15, s_15_18, c_isBadItem, Option.toList_some, List.append_nil, List.cons_append, List.nil_append, jb_0]
  rw [if_pos q3]
  simp only [s_15_23, s_15_24, s_15_27, s_15_29, h1, hrc, true_and]
  by_cases e : rc = 16
  · subst e
    rw [if_neg (nI_nlt (Nat.le_refl 16) (by omega)), if_pos rfl]
    simp only [s_15_32, s_15_34]
  · have hlt : rc < 16 := by omega
    rw [if_pos (nI_lt hlt (by omega)), if_neg e]
    have hR := hR hlt
    simp only [s_15_35, s_15_36, s_15_39, s_15_40, s_15_43, s_15_44, s_15_45, s_15_46, s_15_47, s_15_50, s_15_51, s_15_54, s_15_55, s_15_58, s_15_59, s_15_60, s_15_63, s_15_64, s_15_65, s_15_68, s_15_69, s_15_72, s_15_73, s_15_74, h1, h3, h4, h5, hA.1, hA.2, hr hlt, hR.1, hrc, va_rf_s, cl (show rc < 2 ^ 31 by omega), ib hlt (show 16 ≤ 2 ^ 31 by omega), not_false_eq_true, and_self, true_and, c_start _ hR, Option.toList_none, List.nil_append, vh_K_sI, vh_R_sI, vh_Z_sI, nI_11, vh_K_wI, vh_R_wI, vh_Z_wI, vh_wI_sI, vh_sI_sI, vh_I_sI, up2_a _ _ _ hr0.symm, up2_a _ _ _ (show 0 ≠ 4 by decide), up2_s, nI_add, pk_sub (show 1 ≤ rc + 1 by omega), Nat.add_sub_cancel]

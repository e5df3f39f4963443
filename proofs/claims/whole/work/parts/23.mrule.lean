-- ===== the reference: rule =====
/-- heads 131, kinds 132, folded 133, lengths 134 -/
def MH (h : vt_H) : Prop := vh_K h 129 = 106 ∧ (vh_R h 129 1 = some 131 ∧ vh_K h 131 = 1 ∧ vh_Z h 131 = 48) ∧ (vh_R h 129 2 = some 132 ∧ vh_K h 132 = 1 ∧ vh_Z h 132 = 16) ∧ (vh_R h 129 3 = some 133 ∧ vh_K h 133 = 1 ∧ vh_Z h 133 = 16) ∧ (vh_R h 129 4 = some 134 ∧ vh_K h 134 = 1 ∧ vh_Z h 134 = 16)
theorem m_rule_bad {n x y : Int32} {h : vt_H} (Q : vt_Q) (hb : jbadH n x y) : Wp 88 0 [.ref 129, .int n, .int x, .int y] [] h Q ↔ Q (some (.int (-nI 1))) h := by
  unfold jbadH at hb
  simp only [s_88_0, s_88_1, s_88_4, c_isName, Option.toList_some, List.append_nil, List.cons_append, List.nil_append, jb_0]
  by_cases q1 : n < 0 ∨ nI 16 ≤ n
  · rw [if_pos (fun z => z q1)]
    simp only [s_88_21, s_88_22]
  · rw [if_neg (fun z => z q1)]
    simp only [s_88_7, s_88_8, s_88_11, c_isItem, Option.toList_some, List.append_nil, List.cons_append, List.nil_append, jb_0]
    by_cases q2 : x < -nI 6 ∨ nI 32 ≤ x
    · rw [if_pos (fun z => z q2)]
      simp only [s_88_21, s_88_22]
    · rw [if_neg (fun z => z q2)]
      simp only [s_88_14, s_88_15, s_88_18, c_isItem, Option.toList_some, List.append_nil, List.cons_append, List.nil_append, jb_0]
      have q3 : y < -nI 6 ∨ nI 32 ≤ y := (hb.resolve_left q1).resolve_left q2
      rw [if_neg (fun z => z (fun w => w q3))]
      simp only [s_88_21, s_88_22]
set_option maxHeartbeats 1000000 in
theorem m_rule {n x y : Int32} {rc : Nat} {h : vt_H} (Q : vt_Q) (hM : MH h) (hb : ¬ jbadH n x y) (hrc : vh_I h 129 6 = nI rc) (h16 : rc ≤ 16) : Wp 88 0 [.ref 129, .int n, .int x, .int y] [] h Q ↔ if rc = 16 then Q (some (.int (-nI 3))) h else Q (some (.int (nI rc))) (vh_sI h (up2 (up2 (up2 (up2 (up2 (up2 (up2 (up2 (vh_I h) 131 (3 * rc) n) 131 (3 * rc + 1) x) 131 (3 * rc + 2) y) 132 rc (-nI 1)) 133 rc (nI 0)) 134 rc (nI 0)) 129 6 (nI (rc + 1))) 129 7 (nI 0))) := by
  unfold jbadH at hb
  obtain ⟨h1, ⟨a1, a2, a3⟩, ⟨b1, b2, b3⟩, ⟨c1, c2, c3⟩, ⟨d1, d2, d3⟩⟩ := hM
  have q1 : ¬ (n < 0 ∨ nI 16 ≤ n) := fun q => hb (Or.inl q)
  have q2 : ¬ (x < -nI 6 ∨ nI 32 ≤ x) := fun q => hb (Or.inr (Or.inl q))
  have q3 : ¬ (y < -nI 6 ∨ nI 32 ≤ y) := fun q => hb (Or.inr (Or.inr q))
  simp only [s_88_0, s_88_1, s_88_4, c_isName, Option.toList_some, List.append_nil, List.cons_append, List.nil_append, jb_0]
  rw [if_neg (fun z => z q1)]
  simp only [s_88_7, s_88_8, s_88_11, c_isItem, Option.toList_some, List.append_nil, List.cons_append, List.nil_append, jb_0]
  rw [if_neg (fun z => z q2)]
  simp only [s_88_14, s_88_15, s_88_18, c_isItem, Option.toList_some, List.append_nil, List.cons_append, List.nil_append, jb_0]
  rw [if_pos (fun z => z q3)]
  simp only [s_88_23, s_88_24, s_88_27, s_88_29, h1, hrc, true_and]
  by_cases e : rc = 16
  · subst e
    rw [if_neg (fun z => z rfl), if_pos rfl]
    simp only [s_88_32, s_88_34]
  · have hlt : rc < 16 := by omega
    have hne : ¬ nI rc = nI 16 := fun q => e ((nI_eq (by omega) (by omega)).mp q)
    have k0 : 3 * rc < 48 := by omega
    have k1 : 3 * rc + 1 < 48 := by omega
    have k2 : 3 * rc + 2 < 48 := by omega
    rw [if_pos hne, if_neg e]
    simp only [s_88_35, s_88_36, s_88_39, s_88_40, s_88_41, s_88_44, s_88_45, s_88_46, s_88_47, s_88_48, s_88_51, s_88_52, s_88_53, s_88_56, s_88_57, s_88_58, s_88_59, s_88_60, s_88_61, s_88_62, s_88_65, s_88_66, s_88_67, s_88_70, s_88_71, s_88_72, s_88_73, s_88_74, s_88_75, s_88_76, s_88_79, s_88_80, s_88_83, s_88_84, s_88_85, s_88_86, s_88_89, s_88_90, s_88_93, s_88_94, s_88_95, s_88_96, s_88_99, s_88_100, s_88_103, s_88_104, s_88_105, s_88_106, s_88_107, s_88_110, s_88_111, s_88_112, s_88_115, s_88_116, s_88_117, s_88_120, s_88_121, s_88_124, s_88_125, s_88_126, h1, a1, a2, a3, b1, b2, b3, c1, c2, c3, d1, d2, d3, hrc, va_rf_s, pk_mul, nI_add, cl (show rc < 2 ^ 31 by omega), ib hlt (show 16 ≤ 2 ^ 31 by omega), cl (show 3 * rc < 2 ^ 31 by omega), cl (show 3 * rc + 1 < 2 ^ 31 by omega), cl (show 3 * rc + 2 < 2 ^ 31 by omega), ib k0 (show 48 ≤ 2 ^ 31 by omega), ib k1 (show 48 ≤ 2 ^ 31 by omega), ib k2 (show 48 ≤ 2 ^ 31 by omega), not_false_eq_true, and_self, true_and, nI_01, vh_K_wI, vh_R_wI, vh_Z_wI, vh_wI_sI, vh_K_sI, vh_R_sI, vh_Z_sI, vh_sI_sI, vh_I_sI, up2_a _ _ _ (show 129 ≠ 131 by decide), up2_a _ _ _ (show 129 ≠ 132 by decide), up2_a _ _ _ (show 129 ≠ 133 by decide), up2_a _ _ _ (show 129 ≠ 134 by decide), up2_i _ _ _ _ (show 6 ≠ 7 by decide), up2_s, pk_sub (show 1 ≤ rc + 1 by omega), Nat.add_sub_cancel]

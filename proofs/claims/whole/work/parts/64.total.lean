-- ===== an aggregate's number =====
/-- v is what the aggregate of kind k makes of how often each number comes -/
def AG (k : Nat) (N : Nat → Nat) (v : Nat) : Prop := (k = 1 ∧ v = sg_S N 32 % 32) ∨ (k = 2 ∧ v = sg_S (fun b => b * N b) 32 % 32) ∨ (k = 3 ∧ v < 32 ∧ N v ≠ 0 ∧ ∀ j, j < v → N j = 0) ∨ (k = 4 ∧ v < 32 ∧ N v ≠ 0 ∧ ∀ j, v < j → j < 32 → N j = 0)
theorem AG_lt {k : Nat} {N : Nat → Nat} {v : Nat} (h : AG k N v) : v < 32 := by
  rcases h with h | h | h | h
  · rw [h.2]; exact Nat.mod_lt _ (by omega)
  · rw [h.2]; exact Nat.mod_lt _ (by omega)
  · exact h.2.1
  · exact h.2.1
theorem AG_uniq {k : Nat} {N : Nat → Nat} {v v' : Nat} (h : AG k N v) (h' : AG k N v') : v = v' := by
  rcases h with h | h | h | h <;> rcases h' with h' | h' | h' | h'
  all_goals first | (exact h.2.trans h'.2.symm) | (exfalso; omega) | skip
  · rcases Nat.lt_trichotomy v v' with q | q | q
    · exact absurd (h'.2.2.2 v q) h.2.2.1
    · exact q
    · exact absurd (h.2.2.2 v' q) h'.2.2.1
  · rcases Nat.lt_trichotomy v v' with q | q | q
    · exact absurd (h.2.2.2 v' q h'.2.1) h'.2.2.1
    · exact q
    · exact absurd (h'.2.2.2 v q h.2.1) h.2.2.1
theorem and31 (S : Nat) : nI S &&& nI 31 = nI (S % 32) := by
  rw [pk_and (nI S) 5 (by decide +kernel)]
  congr 1
  have : (nI S).toBitVec.toNat = S % 2 ^ 32 := by
    show (BitVec.ofNat 32 S).toNat = _
    exact BitVec.toNat_ofNat S 32
  rw [this]
  omega
theorem l_total {kd : Nat} {fd : Int32} {N : Nat → Nat} {h : vt_H} {Q : vt_Q} (hC : CL h) (hk : kd = 1 ∨ kd = 2) (ht : ∀ b, b < 32 → vh_I h 23 b = nI (N b)) (hQ : ∀ v, v < 32 → AG kd N v → Q (some (.int (nI v))) h) :
    ∀ (k i : Nat), i + k = 32 → Wp 66 15 [.ref 13, .int (kI kd), .int fd, .int (nI (sg_S (fun b => if kd = 2 then b * N b else N b) i)), .int (nI i)] [] h Q := by
  obtain ⟨ck13, cr0, cr1, cr2, cr3, cr4, cr5, cr6, cr7, cr8, cr9, ck14, ck15, ck16, ck17, ck18, ck19, ck20, ck21, ck22, ck23, cz14, cz15, cz16, cz17, cz18, cz19, cz20, cz21, cz22, cz23⟩ := hC
  intro k
  induction k with
  | zero =>
    intro i hi
    have : i = 32 := by omega
    subst this
    simp only [s_66_15, s_66_17, s_66_19, s_66_80, s_66_81, s_66_83, s_66_84, va_rf_s, pk_mul, nI_add, not_false_eq_true, and_self, true_and, Option.toList_some, Option.toList_none, List.append_nil, List.cons_append, List.nil_append, nI_01, nI_11, vh_K_wI, vh_R_wI, vh_Z_wI, vh_wI_sI, vh_K_sI, vh_R_sI, vh_Z_sI, vh_sI_sI, vh_I_sI, if_pos (nI_le (Nat.le_refl 32) (show 32 < 2 ^ 31 by omega)), and31]
    rcases hk with rfl | rfl
    · exact hQ _ (Nat.mod_lt _ (by omega)) (Or.inl ⟨rfl, rfl⟩)
    · exact hQ _ (Nat.mod_lt _ (by omega)) (Or.inr (Or.inl ⟨rfl, rfl⟩))
  | succ k ih =>
    intro i hi
    have hlt : i < 32 := by omega
    have g := ih (i + 1) (by omega)
    rw [sg_succ] at g
    simp only [s_66_15, s_66_17, s_66_19, if_neg (nI_ge hlt (show 32 < 2 ^ 31 by omega))]
    simp only [s_66_22, s_66_23, s_66_24]
    rw [if_pos (by rcases hk with rfl | rfl <;> decide)]
    simp only [s_66_46, s_66_47, s_66_48, s_66_49]
    rcases hk with rfl | rfl
    · rw [if_pos (by decide)]
      simp only [s_66_65, s_66_66, s_66_69, s_66_71, s_66_72, s_66_73, s_66_74, s_66_77, ck13, cr0, cr1, cr2, cr3, cr4, cr5, cr6, cr7, cr8, cr9, ck14, ck15, ck16, ck17, ck18, ck19, ck20, ck21, ck22, ck23, cz14, cz15, cz16, cz17, cz18, cz19, cz20, cz21, cz22, cz23, va_rf_s, pk_mul, nI_add, not_false_eq_true, and_self, true_and, Option.toList_some, Option.toList_none, List.append_nil, List.cons_append, List.nil_append, nI_01, nI_11, vh_K_wI, vh_R_wI, vh_Z_wI, vh_wI_sI, vh_K_sI, vh_R_sI, vh_Z_sI, vh_sI_sI, vh_I_sI, cl (show i < 2 ^ 31 by omega), ib hlt (show 32 ≤ 2 ^ 31 by omega), ht i hlt]
      exact g
    · rw [if_neg (by decide)]
      simp only [s_66_52, s_66_54, s_66_55, s_66_58, s_66_60, s_66_61, s_66_62, s_66_72, s_66_73, s_66_74, s_66_77, ck13, cr0, cr1, cr2, cr3, cr4, cr5, cr6, cr7, cr8, cr9, ck14, ck15, ck16, ck17, ck18, ck19, ck20, ck21, ck22, ck23, cz14, cz15, cz16, cz17, cz18, cz19, cz20, cz21, cz22, cz23, va_rf_s, pk_mul, nI_add, not_false_eq_true, and_self, true_and, Option.toList_some, Option.toList_none, List.append_nil, List.cons_append, List.nil_append, nI_01, nI_11, vh_K_wI, vh_R_wI, vh_Z_wI, vh_wI_sI, vh_K_sI, vh_R_sI, vh_Z_sI, vh_sI_sI, vh_I_sI, cl (show i < 2 ^ 31 by omega), ib hlt (show 32 ≤ 2 ^ 31 by omega), ht i hlt]
      exact g
theorem l_totalG {fd : Int32} {N : Nat → Nat} {h : vt_H} {Q : vt_Q} (hb : ∀ b, b < 32 → (bt fd b = true ↔ N b ≠ 0)) (hn : ¬ fd = 0) (hQ : ∀ v, v < 32 → AG 4 N v → Q (some (.int (nI v))) h) :
    ∀ (k i : Nat), i + k = 32 → ∀ s, s < 32 → (∀ j, s < j → j < i → N j = 0) → ((N s ≠ 0 ∧ s < i) ∨ (s = 0 ∧ ∀ j, j < i → N j = 0)) → Wp 66 15 [.ref 13, .int (kI 4), .int fd, .int (nI s), .int (nI i)] [] h Q := by
  intro k
  induction k with
  | zero =>
    intro i hi s hs h1 h2
    have : i = 32 := by omega
    subst this
    simp only [s_66_15, s_66_17, s_66_19, s_66_80, s_66_81, s_66_83, s_66_84, va_rf_s, pk_mul, nI_add, not_false_eq_true, and_self, true_and, Option.toList_some, Option.toList_none, List.append_nil, List.cons_append, List.nil_append, nI_01, nI_11, vh_K_wI, vh_R_wI, vh_Z_wI, vh_wI_sI, vh_K_sI, vh_R_sI, vh_Z_sI, vh_sI_sI, vh_I_sI, if_pos (nI_le (Nat.le_refl 32) (show 32 < 2 ^ 31 by omega)), and31]
    rw [Nat.mod_eq_of_lt hs]
    refine hQ s hs (Or.inr (Or.inr (Or.inr ⟨rfl, hs, ?_, h1⟩)))
    rcases h2 with h2 | h2
    · exact h2.1
    · obtain ⟨b, hb1, hb2, _⟩ := bt_ex hn
      exact absurd (h2.2 b hb1) ((hb b hb1).mp hb2)
  | succ k ih =>
    intro i hi s hs h1 h2
    have hlt : i < 32 := by omega
    simp only [s_66_15, s_66_17, s_66_19, if_neg (nI_ge hlt (show 32 < 2 ^ 31 by omega))]
    simp only [s_66_22, s_66_23, s_66_24]
    rw [if_neg (by decide)]
    simp only [s_66_27, s_66_28, s_66_30, va_rf_s, pk_mul, nI_add, not_false_eq_true, and_self, true_and, Option.toList_some, Option.toList_none, List.append_nil, List.cons_append, List.nil_append, nI_01, nI_11, vh_K_wI, vh_R_wI, vh_Z_wI, vh_wI_sI, vh_K_sI, vh_R_sI, vh_Z_sI, vh_sI_sI, vh_I_sI, c_isIn, jbit_bt _ hlt, jb_0, s_66_33]
    by_cases q : bt fd i = true
    · rw [if_neg (fun z => z q)]
      simp only [s_66_36, s_66_38, s_66_42, s_66_43, s_66_74, s_66_77, va_rf_s, pk_mul, nI_add, not_false_eq_true, and_self, true_and, Option.toList_some, Option.toList_none, List.append_nil, List.cons_append, List.nil_append, nI_01, nI_11, vh_K_wI, vh_R_wI, vh_Z_wI, vh_wI_sI, vh_K_sI, vh_R_sI, vh_Z_sI, vh_sI_sI, vh_I_sI]
      exact ih (i + 1) (by omega) i hlt (fun j z1 z2 => absurd z1 (by omega)) (Or.inl ⟨(hb i hlt).mp q, by omega⟩)
    · rw [if_pos q]
      have z : N i = 0 := Classical.byContradiction (fun y => q ((hb i hlt).mpr y))
      simp only [s_66_41, s_66_42, s_66_43, s_66_74, s_66_77, va_rf_s, pk_mul, nI_add, not_false_eq_true, and_self, true_and, Option.toList_some, Option.toList_none, List.append_nil, List.cons_append, List.nil_append, nI_01, nI_11, vh_K_wI, vh_R_wI, vh_Z_wI, vh_wI_sI, vh_K_sI, vh_R_sI, vh_Z_sI, vh_sI_sI, vh_I_sI]
      refine ih (i + 1) (by omega) s hs (fun j z1 z2 => ?_) ?_
      · by_cases e : j = i
        · rw [e]; exact z
        · exact h1 j z1 (by omega)
      · rcases h2 with h2 | h2
        · exact Or.inl ⟨h2.1, by omega⟩
        · refine Or.inr ⟨h2.1, fun j hj => ?_⟩
          by_cases e : j = i
          · rw [e]; exact z
          · exact h2.2 j (by omega)
theorem c_total {kd : Nat} {fd : Int32} {N : Nat → Nat} {h : vt_H} {Q : vt_Q} (hC : CL h) (hk0 : kd ≠ 0) (hk5 : kd < 5) (hb : ∀ b, b < 32 → (bt fd b = true ↔ N b ≠ 0)) (hn : ¬ fd = 0) (ht : kd = 1 ∨ kd = 2 → ∀ b, b < 32 → vh_I h 23 b = nI (N b)) (hQ : ∀ v, v < 32 → AG kd N v → Q (some (.int (nI v))) h) : Wp 66 0 [.ref 13, .int (kI kd), .int fd, vt_un, vt_un] [] h Q := by
  simp only [s_66_0, s_66_1, s_66_2]
  have : kd = 1 ∨ kd = 2 ∨ kd = 3 ∨ kd = 4 := by omega
  rcases this with e | e | e | e
  · subst e
    rw [if_pos (by decide)]
    simp only [s_66_10, s_66_11, s_66_12, s_66_13]
    exact l_total hC (Or.inl rfl) (ht (Or.inl rfl)) hQ 32 0 (by omega)
  · subst e
    rw [if_pos (by decide)]
    simp only [s_66_10, s_66_11, s_66_12, s_66_13]
    exact l_total hC (Or.inr rfl) (ht (Or.inr rfl)) hQ 32 0 (by omega)
  · subst e
    rw [if_neg (by decide)]
    obtain ⟨k, k1, k2, k3⟩ := bt_ex hn
    simp only [s_66_5, s_66_6, s_66_9, va_rf_s, pk_mul, nI_add, not_false_eq_true, and_self, true_and, Option.toList_some, Option.toList_none, List.append_nil, List.cons_append, List.nil_append, nI_01, nI_11, vh_K_wI, vh_R_wI, vh_Z_wI, vh_wI_sI, vh_K_sI, vh_R_sI, vh_Z_sI, vh_sI_sI, vh_I_sI, c_leastOf, jleast_eq k1 k2 k3]
    refine hQ k k1 (Or.inr (Or.inr (Or.inl ⟨rfl, k1, (hb k k1).mp k2, fun j hj => ?_⟩)))
    refine Classical.byContradiction (fun z => ?_)
    have := (hb j (by omega)).mpr z
    rw [k3 j hj] at this
    cases this
  · subst e
    rw [if_pos (by decide)]
    simp only [s_66_10, s_66_11, s_66_12, s_66_13]
    exact l_totalG hb hn hQ 32 0 (by omega) 0 (by omega) (fun j _ z => absurd z (by omega)) (Or.inr ⟨rfl, fun j z => absurd z (by omega)⟩)

-- ===== CASES of the class: a part is read =====
/-- forth and back hold the relation A -/
def PR (f : Nat → Nat → Int32) (A : Nat → Nat → Bool) : Prop := ∀ a b, a < 32 → b < 32 → bt (f 16 a) b = A a b ∧ bt (f 17 b) a = A a b
theorem l_readFacts {fa n : Nat} {h : vt_H} {Q : vt_Q} {A : Nat → Nat → Bool} {f1 : Nat → Nat → Int32} (hC : CL h) (hP : PR f1 A) (h1 : ∀ c, c ≠ 16 → c ≠ 17 → ∀ j, f1 c j = vh_I h c j)
    (hQ : ∀ f', PR f' (fun a b => !A a b) → (∀ c, c ≠ 16 → c ≠ 17 → ∀ j, f' c j = vh_I h c j) → Q none (vh_sI h f')) :
    ∀ (k i : Nat), i + k = 32 → ∀ f0, (∀ c, c ≠ 16 → c ≠ 17 → ∀ j, f0 c j = vh_I h c j) → (∀ j, j < 32 → f0 16 j = (if j < i then f1 16 j ^^^ -nI 1 else f1 16 j) ∧ f0 17 j = (if j < i then f1 17 j ^^^ -nI 1 else f1 17 j)) → Wp 46 39 [.ref 13, .ref fa, .int (nI n), .int (nI 1), .int (nI i)] [] (vh_sI h f0) Q := by
  obtain ⟨ck13, cr0, cr1, cr2, cr3, cr4, cr5, cr6, cr7, cr8, cr9, ck14, ck15, ck16, ck17, ck18, ck19, ck20, ck21, ck22, ck23, cz14, cz15, cz16, cz17, cz18, cz19, cz20, cz21, cz22, cz23⟩ := hC
  intro k
  induction k with
  | zero =>
    intro i hi f0 h2 h3
    have : i = 32 := by omega
    subst this
    simp only [s_46_39, s_46_40, if_neg nI_10]
    simp only [s_46_43, s_46_45, s_46_47, s_46_88, if_pos (nI_le (Nat.le_refl 32) (show 32 < 2 ^ 31 by omega))]
    refine hQ f0 (fun a b ha hb => ?_) h2
    rw [(h3 a ha).1, (h3 b hb).2, if_pos ha, if_pos hb, bt_not _ hb, bt_not _ ha, (hP a b ha hb).1, (hP a b ha hb).2]
    exact ⟨rfl, rfl⟩
  | succ k ih =>
    intro i hi f0 h2 h3
    have hlt : i < 32 := by omega
    simp only [s_46_39, s_46_40, if_neg nI_10]
    simp only [s_46_43, s_46_45, s_46_47, if_neg (nI_ge hlt (show 32 < 2 ^ 31 by omega))]
    simp only [s_46_50, s_46_51, s_46_54, s_46_56, s_46_57, s_46_60, s_46_62, s_46_63, s_46_64, s_46_65, s_46_66, s_46_67, s_46_70, s_46_72, s_46_73, s_46_76, s_46_78, s_46_79, s_46_80, s_46_81, s_46_82, s_46_85, ck13, cr0, cr1, cr2, cr3, cr4, cr5, cr6, cr7, cr8, cr9, ck14, ck15, ck16, ck17, ck18, ck19, ck20, ck21, ck22, ck23, cz14, cz15, cz16, cz17, cz18, cz19, cz20, cz21, cz22, cz23, va_rf_s, pk_mul, nI_add, not_false_eq_true, and_self, true_and, Option.toList_some, Option.toList_none, List.append_nil, List.cons_append, List.nil_append, nI_01, nI_11, vh_K_wI, vh_R_wI, vh_Z_wI, vh_wI_sI, vh_K_sI, vh_R_sI, vh_Z_sI, vh_sI_sI, vh_I_sI, cl (show i < 2 ^ 31 by omega), ib hlt (show 32 ≤ 2 ^ 31 by omega)]
    refine ih (i + 1) (by omega) _ (fun c q1 q2 j => ?_) (fun j hj => ⟨?_, ?_⟩)
    · rw [up2_a _ _ _ q2, up2_a _ _ _ q1]; exact h2 c q1 q2 j
    · rw [up2_a _ _ _ (by decide)]
      by_cases e : j = i
      · subst e
        rw [up2_s, (h3 j hj).1, if_neg (Nat.lt_irrefl j), if_pos (Nat.lt_succ_self j)]
      · rw [up2_i _ _ _ _ e, (h3 j hj).1]
        by_cases q : j < i
        · rw [if_pos q, if_pos (by omega)]
        · rw [if_neg q, if_neg (by omega)]
    · by_cases e : j = i
      · subst e
        rw [up2_s, up2_a _ _ _ (by decide), (h3 j hj).2, if_neg (Nat.lt_irrefl j), if_pos (Nat.lt_succ_self j)]
      · rw [up2_i _ _ _ _ e, up2_a _ _ _ (by decide), (h3 j hj).2]
        by_cases q : j < i
        · rw [if_pos q, if_pos (by omega)]
        · rw [if_neg q, if_neg (by omega)]
theorem c_readFacts {fa s g n t : Nat} {h : vt_H} {Q : vt_Q} {P : Nat → Nat → Nat → Bool} (hC : CL h) (hT : FT h fa s g) (hP : FR (vh_I h) s g P) (hn : n < 16) (hg : g ≠ 16) (ht : t = 0 ∨ t = 1)
    (hQ : ∀ f', PR f' (fun a b => P n a b != decide (t = 1)) → (∀ c, c ≠ 16 → c ≠ 17 → ∀ j, f' c j = vh_I h c j) → Q none (vh_sI h f')) : Wp 46 0 [.ref 13, .ref fa, .int (nI n), .int (nI t), vt_un] [] h Q := by
  have hC' := hC
  obtain ⟨ck13, cr0, cr1, cr2, cr3, cr4, cr5, cr6, cr7, cr8, cr9, ck14, ck15, ck16, ck17, ck18, ck19, ck20, ck21, ck22, ck23, cz14, cz15, cz16, cz17, cz18, cz19, cz20, cz21, cz22, cz23⟩ := hC
  obtain ⟨h1, h2, h3, h4, h5, h6, h7⟩ := hT
  simp only [s_46_0, s_46_1, s_46_4, s_46_6, s_46_7, s_46_8, s_46_9, s_46_12, s_46_13, s_46_15, s_46_18, s_46_19, s_46_22, s_46_24, s_46_25, s_46_26, s_46_27, s_46_30, s_46_31, s_46_33, s_46_36, s_46_37, ck13, cr0, cr1, cr2, cr3, cr4, cr5, cr6, cr7, cr8, cr9, ck14, ck15, ck16, ck17, ck18, ck19, ck20, ck21, ck22, ck23, cz14, cz15, cz16, cz17, cz18, cz19, cz20, cz21, cz22, cz23, va_rf_s, pk_mul, nI_add, not_false_eq_true, and_self, true_and, Option.toList_some, Option.toList_none, List.append_nil, List.cons_append, List.nil_append, nI_01, nI_11, vh_K_wI, vh_R_wI, vh_Z_wI, vh_wI_sI, vh_K_sI, vh_R_sI, vh_Z_sI, vh_sI_sI, vh_I_sI, h1, h2, h3, h4, h5, h6, h7, vh_cp5, cl (show 32 * n < 2 ^ 31 by omega), cl (show 0 < 2 ^ 31 by omega), cl (show 32 < 2 ^ 31 by omega), nI_pos (show 32 * n < 2 ^ 31 by omega), nI_pos (show 0 < 2 ^ 31 by omega), nI_pos (show 32 < 2 ^ 31 by omega), List.length_nil, Nat.zero_le, show 32 * n + 32 ≤ 512 by omega, show 0 + 32 ≤ 32 by omega]
  have hf : ∀ c, c ≠ 16 → c ≠ 17 → ∀ j, cp5 (cp5 (vh_I h) s (32 * n) 16 0 32) g (32 * n) 17 0 32 c j = vh_I h c j := fun c q1 q2 j => by rw [cp5_a _ q2, cp5_a _ q1]
  have hp : PR (cp5 (cp5 (vh_I h) s (32 * n) 16 0 32) g (32 * n) 17 0 32) (fun a b => P n a b) := by
    intro a b ha hb
    rw [cp5_a _ (by decide), cp5_s _ (by omega), cp5_s _ (by omega), cp5_a _ hg, Nat.sub_zero, Nat.sub_zero]
    exact hP n a b hn ha hb
  rcases ht with ht | ht
  · subst ht
    simp only [s_46_39, s_46_40, if_pos nI_00]
    simp only [s_46_88]
    refine hQ _ (fun a b ha hb => ?_) hf
    have := hp a b ha hb
    simpa using this
  · subst ht
    refine l_readFacts hC' hp hf (fun f' q1 q2 => hQ f' (fun a b ha hb => ?_) q2) 32 0 (by omega) _ hf (fun j _ => ⟨by rw [if_neg (by omega)], by rw [if_neg (by omega)]⟩)
    have := q1 a b ha hb
    simpa using this
/-- the three filters -/
def pF (d a b : Nat) : Bool := if d = 0 then decide (a < b) else if d = 1 then decide (a ≠ b) else decide (b = a + 1)
theorem fl_0a : ∀ n, n < 32 → ∀ b, b < 32 → bt ((-(j1 (nI n))) <<< (nI 1 &&& 31)) b = decide (n < b) := by decide +kernel
theorem fl_0b : ∀ n, n < 32 → ∀ a, a < 32 → bt (j1 (nI n) - nI 1) a = decide (a < n) := by decide +kernel
theorem fl_1 : ∀ n, n < 32 → ∀ b, b < 32 → bt (j1 (nI n) ^^^ -nI 1) b = decide (n ≠ b) := by decide +kernel
theorem fl_2a : ∀ n, n < 32 → ∀ b, b < 32 → bt (j1 (nI n) <<< (nI 1 &&& 31)) b = decide (b = n + 1) := by decide +kernel
theorem fl_2b : ∀ n, n < 32 → ∀ a, a < 32 → bt ((j1 (nI n)).toUInt32 >>> ((nI 1).toUInt32 &&& Int32.toUInt32 31)).toInt32 a = decide (n = a + 1) := by decide +kernel
theorem l_readFilter {d : Nat} {h : vt_H} {Q : vt_Q} (hC : CL h) (hd : d < 3) (hQ : ∀ f', PR f' (pF d) → (∀ c, c ≠ 16 → c ≠ 17 → ∀ j, f' c j = vh_I h c j) → Q none (vh_sI h f')) :
    ∀ (k i : Nat), i + k = 32 → ∀ f0 y, (∀ c, c ≠ 16 → c ≠ 17 → ∀ j, f0 c j = vh_I h c j) → (∀ j, j < i → ∀ b, b < 32 → bt (f0 16 j) b = pF d j b ∧ bt (f0 17 j) b = pF d b j) → Wp 47 2 [.ref 13, .int (nI d), .int (nI i), y] [] (vh_sI h f0) Q := by
  obtain ⟨ck13, cr0, cr1, cr2, cr3, cr4, cr5, cr6, cr7, cr8, cr9, ck14, ck15, ck16, ck17, ck18, ck19, ck20, ck21, ck22, ck23, cz14, cz15, cz16, cz17, cz18, cz19, cz20, cz21, cz22, cz23⟩ := hC
  intro k
  induction k with
  | zero =>
    intro i hi f0 y h2 h3
    have : i = 32 := by omega
    subst this
    simp only [s_47_2, s_47_3, s_47_5, s_47_88, if_pos (nI_le (Nat.le_refl 32) (show 32 < 2 ^ 31 by omega))]
    exact hQ f0 (fun a b ha hb => ⟨(h3 a ha b hb).1, (h3 b hb a ha).2⟩) h2
  | succ k ih =>
    intro i hi f0 y h2 h3
    have hlt : i < 32 := by omega
    have step : ∀ x z : Int32, (∀ b, b < 32 → bt x b = pF d i b) → (∀ b, b < 32 → bt z b = pF d b i) → ∀ y, Wp 47 82 [.ref 13, .int (nI d), .int (nI i), y] [] (vh_sI h (up2 (up2 f0 16 i x) 17 i z)) Q := by
      intro x z hx hz y
      simp only [s_47_82, s_47_85, va_rf_s, pk_mul, nI_add, not_false_eq_true, and_self, true_and, Option.toList_some, Option.toList_none, List.append_nil, List.cons_append, List.nil_append, nI_01, nI_11, vh_K_wI, vh_R_wI, vh_Z_wI, vh_wI_sI, vh_K_sI, vh_R_sI, vh_Z_sI, vh_sI_sI, vh_I_sI]
      refine ih (i + 1) (by omega) _ _ (fun c q1 q2 j => ?_) (fun j hj b hb => ⟨?_, ?_⟩)
      · rw [up2_a _ _ _ q2, up2_a _ _ _ q1]; exact h2 c q1 q2 j
      · rw [up2_a _ _ _ (by decide)]
        by_cases e : j = i
        · subst e; rw [up2_s]; exact hx b hb
        · rw [up2_i _ _ _ _ e]; exact (h3 j (by omega) b hb).1
      · by_cases e : j = i
        · subst e; rw [up2_s]; exact hz b hb
        · rw [up2_i _ _ _ _ e, up2_a _ _ _ (by decide)]; exact (h3 j (by omega) b hb).2
    simp only [s_47_2, s_47_3, s_47_5, if_neg (nI_ge hlt (show 32 < 2 ^ 31 by omega))]
    simp only [s_47_8, s_47_9, s_47_10, s_47_11, s_47_12, s_47_13]
    have : d = 0 ∨ d = 1 ∨ d = 2 := by omega
    rcases this with e | e | e
    · subst e
      rw [if_neg (fun z => z nI_00)]
      simp only [s_47_16, s_47_17, s_47_20, s_47_21, s_47_22, s_47_23, s_47_24, s_47_25, s_47_26, s_47_27, s_47_30, s_47_31, s_47_32, s_47_33, s_47_34, s_47_35, ck13, cr0, cr1, cr2, cr3, cr4, cr5, cr6, cr7, cr8, cr9, ck14, ck15, ck16, ck17, ck18, ck19, ck20, ck21, ck22, ck23, cz14, cz15, cz16, cz17, cz18, cz19, cz20, cz21, cz22, cz23, va_rf_s, pk_mul, nI_add, not_false_eq_true, and_self, true_and, Option.toList_some, Option.toList_none, List.append_nil, List.cons_append, List.nil_append, nI_01, nI_11, vh_K_wI, vh_R_wI, vh_Z_wI, vh_wI_sI, vh_K_sI, vh_R_sI, vh_Z_sI, vh_sI_sI, vh_I_sI, cl (show i < 2 ^ 31 by omega), ib hlt (show 32 ≤ 2 ^ 31 by omega)]
      exact step _ _ (fun b hb => fl_0a i hlt b hb) (fun b hb => fl_0b i hlt b hb) _
    · subst e
      rw [if_pos nI_10]
      simp only [s_47_38, s_47_39, s_47_40]
      rw [if_neg (by simp)]
      simp only [s_47_43, s_47_44, s_47_47, s_47_48, s_47_49, s_47_50, s_47_51, s_47_52, s_47_53, s_47_56, s_47_57, s_47_58, s_47_59, s_47_60, s_47_61, ck13, cr0, cr1, cr2, cr3, cr4, cr5, cr6, cr7, cr8, cr9, ck14, ck15, ck16, ck17, ck18, ck19, ck20, ck21, ck22, ck23, cz14, cz15, cz16, cz17, cz18, cz19, cz20, cz21, cz22, cz23, va_rf_s, pk_mul, nI_add, not_false_eq_true, and_self, true_and, Option.toList_some, Option.toList_none, List.append_nil, List.cons_append, List.nil_append, nI_01, nI_11, vh_K_wI, vh_R_wI, vh_Z_wI, vh_wI_sI, vh_K_sI, vh_R_sI, vh_Z_sI, vh_sI_sI, vh_I_sI, cl (show i < 2 ^ 31 by omega), ib hlt (show 32 ≤ 2 ^ 31 by omega)]
      refine step _ _ (fun b hb => fl_1 i hlt b hb) (fun b hb => (fl_1 i hlt b hb).trans ?_) _
      show decide (i ≠ b) = decide (b ≠ i)
      exact decide_eq_decide.mpr ne_comm
    · subst e
      rw [if_pos (by decide)]
      simp only [s_47_38, s_47_39, s_47_40]
      rw [if_pos (by decide)]
      simp only [s_47_64, s_47_65, s_47_68, s_47_69, s_47_70, s_47_71, s_47_72, s_47_73, s_47_74, s_47_77, s_47_78, s_47_79, s_47_80, s_47_81, ck13, cr0, cr1, cr2, cr3, cr4, cr5, cr6, cr7, cr8, cr9, ck14, ck15, ck16, ck17, ck18, ck19, ck20, ck21, ck22, ck23, cz14, cz15, cz16, cz17, cz18, cz19, cz20, cz21, cz22, cz23, va_rf_s, pk_mul, nI_add, not_false_eq_true, and_self, true_and, Option.toList_some, Option.toList_none, List.append_nil, List.cons_append, List.nil_append, nI_01, nI_11, vh_K_wI, vh_R_wI, vh_Z_wI, vh_wI_sI, vh_K_sI, vh_R_sI, vh_Z_sI, vh_sI_sI, vh_I_sI, cl (show i < 2 ^ 31 by omega), ib hlt (show 32 ≤ 2 ^ 31 by omega)]
      exact step _ _ (fun b hb => fl_2a i hlt b hb) (fun b hb => fl_2b i hlt b hb) _
theorem c_readFilter {d : Nat} {h : vt_H} {Q : vt_Q} (hC : CL h) (hd : d < 3) (hQ : ∀ f', PR f' (pF d) → (∀ c, c ≠ 16 → c ≠ 17 → ∀ j, f' c j = vh_I h c j) → Q none (vh_sI h f')) : Wp 47 0 [.ref 13, .int (nI d), vt_un, vt_un] [] h Q := by
  have l := l_readFilter hC hd hQ 32 0 (by omega) (vh_I h) vt_un (fun _ _ _ _ => rfl) (fun j hj => absurd hj (by omega))
  rw [vh_sI_id] at l
  simp only [s_47_0, s_47_1]
  exact l
theorem c_narrow {v : Nat} {s : Int32} {h : vt_H} {Q : vt_Q} (hC : CL h) (hv : v < 6) (hQ : ∀ z : Int32, (z = 0 ↔ vh_I h 13 11 = 0 ∧ ¬ vh_I h 20 v &&& s = 0) → Q none (vh_sI h (up2 (up2 (up2 (vh_I h) 18 0 (vh_I h 18 0 ||| j1 (nI v))) 20 v (vh_I h 20 v &&& s)) 13 11 z))) : Wp 49 0 [.ref 13, .int (nI v), .int s] [] h Q := by
  obtain ⟨ck13, cr0, cr1, cr2, cr3, cr4, cr5, cr6, cr7, cr8, cr9, ck14, ck15, ck16, ck17, ck18, ck19, ck20, ck21, ck22, ck23, cz14, cz15, cz16, cz17, cz18, cz19, cz20, cz21, cz22, cz23⟩ := hC
  have b1 : v < 18 := by omega
  have e20 : ∀ x : Int32, up2 (vh_I h) 18 0 x 20 v = vh_I h 20 v := fun x => up2_a _ _ _ (by decide) _
  have e13 : ∀ x y : Int32, up2 (up2 (vh_I h) 18 0 x) 20 v y 13 11 = vh_I h 13 11 := fun x y => by rw [up2_a _ _ _ (by decide), up2_a _ _ _ (by decide)]
  simp only [j1] at hQ
  simp only [s_49_0, s_49_1, s_49_4, s_49_5, s_49_6, s_49_7, s_49_8, s_49_9, s_49_10, s_49_11, s_49_12, s_49_13, s_49_16, s_49_17, s_49_18, s_49_19, s_49_20, s_49_21, s_49_22, s_49_23, s_49_24, ck13, cr0, cr1, cr2, cr3, cr4, cr5, cr6, cr7, cr8, cr9, ck14, ck15, ck16, ck17, ck18, ck19, ck20, ck21, ck22, ck23, cz14, cz15, cz16, cz17, cz18, cz19, cz20, cz21, cz22, cz23, va_rf_s, pk_mul, nI_add, not_false_eq_true, and_self, true_and, Option.toList_some, Option.toList_none, List.append_nil, List.cons_append, List.nil_append, nI_01, nI_11, vh_K_wI, vh_R_wI, vh_Z_wI, vh_wI_sI, vh_K_sI, vh_R_sI, vh_Z_sI, vh_sI_sI, vh_I_sI, cl (show 0 < 2 ^ 31 by omega), ib (show 0 < 3 by omega) (show 3 ≤ 2 ^ 31 by omega), cl (show v < 2 ^ 31 by omega), ib b1 (show 18 ≤ 2 ^ 31 by omega), e20, e13, s_49_27]
  by_cases q : vh_I h 13 11 = 0
  · rw [if_neg (fun z => z q)]
    simp only [s_49_30, s_49_31, s_49_34, s_49_35, ck13, cr0, cr1, cr2, cr3, cr4, cr5, cr6, cr7, cr8, cr9, ck14, ck15, ck16, ck17, ck18, ck19, ck20, ck21, ck22, ck23, cz14, cz15, cz16, cz17, cz18, cz19, cz20, cz21, cz22, cz23, va_rf_s, pk_mul, nI_add, not_false_eq_true, and_self, true_and, Option.toList_some, Option.toList_none, List.append_nil, List.cons_append, List.nil_append, nI_01, nI_11, vh_K_wI, vh_R_wI, vh_Z_wI, vh_wI_sI, vh_K_sI, vh_R_sI, vh_Z_sI, vh_sI_sI, vh_I_sI, cl (show v < 2 ^ 31 by omega), ib b1 (show 18 ≤ 2 ^ 31 by omega), up2_s, s_49_36]
    by_cases q2 : vh_I h 20 v &&& s = 0
    · rw [if_neg (fun z => z q2)]
      simp only [s_49_39, s_49_40, s_49_44, s_49_47, ck13, cr0, cr1, cr2, cr3, cr4, cr5, cr6, cr7, cr8, cr9, ck14, ck15, ck16, ck17, ck18, ck19, ck20, ck21, ck22, ck23, cz14, cz15, cz16, cz17, cz18, cz19, cz20, cz21, cz22, cz23, va_rf_s, pk_mul, nI_add, not_false_eq_true, and_self, true_and, Option.toList_some, Option.toList_none, List.append_nil, List.cons_append, List.nil_append, nI_01, nI_11, vh_K_wI, vh_R_wI, vh_Z_wI, vh_wI_sI, vh_K_sI, vh_R_sI, vh_Z_sI, vh_sI_sI, vh_I_sI]
      exact hQ _ ⟨fun z => absurd z nI_10, fun z => absurd q2 z.2⟩
    · rw [if_pos q2]
      simp only [s_49_43, s_49_44, s_49_47, ck13, cr0, cr1, cr2, cr3, cr4, cr5, cr6, cr7, cr8, cr9, ck14, ck15, ck16, ck17, ck18, ck19, ck20, ck21, ck22, ck23, cz14, cz15, cz16, cz17, cz18, cz19, cz20, cz21, cz22, cz23, va_rf_s, pk_mul, nI_add, not_false_eq_true, and_self, true_and, Option.toList_some, Option.toList_none, List.append_nil, List.cons_append, List.nil_append, nI_01, nI_11, vh_K_wI, vh_R_wI, vh_Z_wI, vh_wI_sI, vh_K_sI, vh_R_sI, vh_Z_sI, vh_sI_sI, vh_I_sI]
      exact hQ _ ⟨fun _ => ⟨q, q2⟩, fun _ => rfl⟩
  · rw [if_pos q]
    simp only [s_49_39, s_49_40, s_49_44, s_49_47, ck13, cr0, cr1, cr2, cr3, cr4, cr5, cr6, cr7, cr8, cr9, ck14, ck15, ck16, ck17, ck18, ck19, ck20, ck21, ck22, ck23, cz14, cz15, cz16, cz17, cz18, cz19, cz20, cz21, cz22, cz23, va_rf_s, pk_mul, nI_add, not_false_eq_true, and_self, true_and, Option.toList_some, Option.toList_none, List.append_nil, List.cons_append, List.nil_append, nI_01, nI_11, vh_K_wI, vh_R_wI, vh_Z_wI, vh_wI_sI, vh_K_sI, vh_R_sI, vh_Z_sI, vh_sI_sI, vh_I_sI]
    exact hQ _ ⟨fun z => absurd z nI_10, fun z => absurd z.1 q⟩
theorem l_self {h : vt_H} {Q : vt_Q} (hC : CL h) (hQ : ∀ s, (∀ n, n < 32 → (bt s n = true ↔ bt (vh_I h 16 n) n = true)) → Q (some (.int s)) h) : ∀ (k i : Nat), i + k = 32 → ∀ s, (∀ n, n < 32 → (bt s n = true ↔ n < i ∧ bt (vh_I h 16 n) n = true)) → Wp 50 4 [.ref 13, .int s, .int (nI i)] [] h Q := by
  obtain ⟨ck13, cr0, cr1, cr2, cr3, cr4, cr5, cr6, cr7, cr8, cr9, ck14, ck15, ck16, ck17, ck18, ck19, ck20, ck21, ck22, ck23, cz14, cz15, cz16, cz17, cz18, cz19, cz20, cz21, cz22, cz23⟩ := hC
  intro k
  induction k with
  | zero =>
    intro i hi s hs
    have : i = 32 := by omega
    subst this
    simp only [s_50_4, s_50_5, s_50_7, s_50_29, s_50_30, if_pos (nI_le (Nat.le_refl 32) (show 32 < 2 ^ 31 by omega))]
    exact hQ s (fun n hn => (hs n hn).trans ⟨fun z => z.2, fun z => ⟨hn, z⟩⟩)
  | succ k ih =>
    intro i hi s hs
    have hlt : i < 32 := by omega
    simp only [s_50_4, s_50_5, s_50_7, if_neg (nI_ge hlt (show 32 < 2 ^ 31 by omega))]
    simp only [s_50_10, s_50_11, s_50_12, s_50_15, s_50_16, s_50_17, s_50_18, s_50_19, s_50_20, s_50_21, s_50_22, s_50_23, s_50_26, ck13, cr0, cr1, cr2, cr3, cr4, cr5, cr6, cr7, cr8, cr9, ck14, ck15, ck16, ck17, ck18, ck19, ck20, ck21, ck22, ck23, cz14, cz15, cz16, cz17, cz18, cz19, cz20, cz21, cz22, cz23, va_rf_s, pk_mul, nI_add, not_false_eq_true, and_self, true_and, Option.toList_some, Option.toList_none, List.append_nil, List.cons_append, List.nil_append, nI_01, nI_11, vh_K_wI, vh_R_wI, vh_Z_wI, vh_wI_sI, vh_K_sI, vh_R_sI, vh_Z_sI, vh_sI_sI, vh_I_sI, cl (show i < 2 ^ 31 by omega), ib hlt (show 32 ≤ 2 ^ 31 by omega)]
    refine ih (i + 1) (by omega) _ (fun n hn => ?_)
    show bt (s ||| vh_I h 16 i &&& j1 (nI i)) n = true ↔ _
    rw [b_or, b_and, bt_j1 hlt hn, Bool.or_eq_true, Bool.and_eq_true, hs n hn]
    by_cases e : n = i
    · subst e
      constructor
      · rintro (z | z)
        · exact ⟨by omega, z.2⟩
        · exact ⟨by omega, z.1⟩
      · rintro ⟨_, z⟩; exact Or.inr ⟨z, by simp⟩
    · constructor
      · rintro (z | z)
        · exact ⟨by omega, z.2⟩
        · exact absurd (by simpa using z.2) e
      · rintro ⟨z1, z2⟩; exact Or.inl ⟨by omega, z2⟩
theorem c_self {h : vt_H} {Q : vt_Q} (hC : CL h) (hQ : ∀ s, (∀ n, n < 32 → (bt s n = true ↔ bt (vh_I h 16 n) n = true)) → Q (some (.int s)) h) : Wp 50 0 [.ref 13, vt_un, vt_un] [] h Q := by
  simp only [s_50_0, s_50_1, s_50_2, s_50_3]
  refine l_self hC hQ 32 0 (by omega) _ (fun n hn => ?_)
  have n0 : bt (nI 0) n = false := b_0 n
  rw [n0]
  exact ⟨fun z => (by cases z), fun z => absurd z.1 (by omega)⟩
/-- the new link at number n -/
def lN2 (f : Nat → Nat → Int32) (u v al n : Nat) : Int32 := if EE f u v = true then f 14 ((6 * u + v) * 32 + n) &&& f al n else f al n
theorem l_link {u v al : Nat} {h : vt_H} {Q : vt_Q} {li : Int32} (hC : CL h) (hu : u < 6) (hv : v < 6) (hal : al = 16 ∨ al = 17) (hli : li = 0 ↔ ¬ EE (vh_I h) u v = true)
    (hQ : ∀ f' s, (∀ c, c ≠ 14 → c ≠ 15 → ∀ j, f' c j = vh_I h c j) → (∀ n, n < 32 → f' 14 ((6 * u + v) * 32 + n) = lN2 (vh_I h) u v al n) → (∀ j, (j < (6 * u + v) * 32 ∨ (6 * u + v) * 32 + 32 ≤ j) → f' 14 j = vh_I h 14 j) → (∀ j, f' 15 j = if j = u then vh_I h 15 u ||| j1 (nI v) else vh_I h 15 j) → (∀ n, n < 32 → (bt s n = true ↔ ¬ lN2 (vh_I h) u v al n = 0)) → Q (some (.int s)) (vh_sI h f')) :
    ∀ (k i : Nat), i + k = 32 → ∀ f0 s, (∀ c, c ≠ 14 → ∀ j, f0 c j = vh_I h c j) → (∀ n, n < i → f0 14 ((6 * u + v) * 32 + n) = lN2 (vh_I h) u v al n) → (∀ j, (j < (6 * u + v) * 32 ∨ (6 * u + v) * 32 + i ≤ j) → f0 14 j = vh_I h 14 j) → (∀ n, n < 32 → (bt s n = true ↔ n < i ∧ ¬ lN2 (vh_I h) u v al n = 0)) → Wp 51 29 [.ref 13, .int (nI u), .int (nI v), .ref al, .int (nI ((6 * u + v) * 32)), .int li, .int s, .int (nI i)] [] (vh_sI h f0) Q := by
  obtain ⟨ck13, cr0, cr1, cr2, cr3, cr4, cr5, cr6, cr7, cr8, cr9, ck14, ck15, ck16, ck17, ck18, ck19, ck20, ck21, ck22, ck23, cz14, cz15, cz16, cz17, cz18, cz19, cz20, cz21, cz22, cz23⟩ := hC
  have ka : vh_K h al = 1 := by rcases hal with rfl | rfl <;> assumption
  have za : vh_Z h al = 32 := by rcases hal with rfl | rfl <;> assumption
  have al14 : al ≠ 14 := by omega
  intro k
  induction k with
  | zero =>
    intro i hi f0 s h1 h2 h3 h4
    have : i = 32 := by omega
    subst this
    simp only [s_51_29, s_51_31, s_51_33, if_pos (nI_le (Nat.le_refl 32) (show 32 < 2 ^ 31 by omega))]
    simp only [s_51_105, s_51_106, s_51_109, s_51_110, s_51_111, s_51_112, s_51_113, s_51_114, s_51_115, s_51_116, s_51_117, s_51_119, ck13, cr0, cr1, cr2, cr3, cr4, cr5, cr6, cr7, cr8, cr9, ck14, ck15, ck16, ck17, ck18, ck19, ck20, ck21, ck22, ck23, cz14, cz15, cz16, cz17, cz18, cz19, cz20, cz21, cz22, cz23, va_rf_s, pk_mul, nI_add, not_false_eq_true, and_self, true_and, Option.toList_some, Option.toList_none, List.append_nil, List.cons_append, List.nil_append, nI_01, nI_11, vh_K_wI, vh_R_wI, vh_Z_wI, vh_wI_sI, vh_K_sI, vh_R_sI, vh_Z_sI, vh_sI_sI, vh_I_sI, cl (show u < 2 ^ 31 by omega), ib hu (show 6 ≤ 2 ^ 31 by omega)]
    refine hQ _ s (fun c q1 q2 j => ?_) (fun n hn => ?_) (fun j hj => ?_) (fun j => ?_) (fun n hn => ?_)
    · rw [up2_a _ _ _ q2]; exact h1 c q1 j
    · rw [up2_a _ _ _ (by decide)]; exact h2 n hn
    · rw [up2_a _ _ _ (by decide)]; exact h3 j hj
    · by_cases e : j = u
      · subst e
        rw [up2_s, if_pos rfl, h1 15 (by decide)]
        rfl
      · rw [up2_i _ _ _ _ e, if_neg e]; exact h1 15 (by decide) j
    · exact (h4 n hn).trans ⟨fun z => z.2, fun z => ⟨hn, z⟩⟩
  | succ k ih =>
    intro i hi f0 s h1 h2 h3 h4
    have hlt : i < 32 := by omega
    have b1 : (6 * u + v) * 32 + i < 1152 := by omega
    simp only [s_51_29, s_51_31, s_51_33, if_neg (nI_ge hlt (show 32 < 2 ^ 31 by omega))]
    simp only [s_51_36, s_51_37, s_51_40, s_51_42, s_51_44, s_51_45, ck13, cr0, cr1, cr2, cr3, cr4, cr5, cr6, cr7, cr8, cr9, ck14, ck15, ck16, ck17, ck18, ck19, ck20, ck21, ck22, ck23, cz14, cz15, cz16, cz17, cz18, cz19, cz20, cz21, cz22, cz23, va_rf_s, pk_mul, nI_add, not_false_eq_true, and_self, true_and, Option.toList_some, Option.toList_none, List.append_nil, List.cons_append, List.nil_append, nI_01, nI_11, vh_K_wI, vh_R_wI, vh_Z_wI, vh_wI_sI, vh_K_sI, vh_R_sI, vh_Z_sI, vh_sI_sI, vh_I_sI, s_51_47]
    have step : ∀ x : Int32, x = lN2 (vh_I h) u v al i → Wp 51 72 [.ref 13, .int (nI u), .int (nI v), .ref al, .int (nI ((6 * u + v) * 32)), .int li, .int s, .int (nI i)] [.int x, .int (nI ((6 * u + v) * 32 + i)), .ref 14] (vh_sI h f0) Q := by
      intro x hx
      have cont : ∀ y : Int32, (y = if ¬ lN2 (vh_I h) u v al i = 0 then j1 (nI i) else nI 0) → Wp 51 96 [.ref 13, .int (nI u), .int (nI v), .ref al, .int (nI ((6 * u + v) * 32)), .int li, .int s, .int (nI i)] [.int y, .int s] (vh_sI h (up2 f0 14 ((6 * u + v) * 32 + i) x)) Q := by
        intro y hy
        simp only [s_51_96, s_51_97, s_51_99, s_51_102, va_rf_s, pk_mul, nI_add, not_false_eq_true, and_self, true_and, Option.toList_some, Option.toList_none, List.append_nil, List.cons_append, List.nil_append, nI_01, nI_11, vh_K_wI, vh_R_wI, vh_Z_wI, vh_wI_sI, vh_K_sI, vh_R_sI, vh_Z_sI, vh_sI_sI, vh_I_sI]
        refine ih (i + 1) (by omega) _ _ (fun c hc j => ?_) (fun n hn => ?_) (fun j hj => ?_) (fun n hn => ?_)
        · rw [up2_a _ _ _ hc]; exact h1 c hc j
        · by_cases e : n = i
          · subst e; rw [up2_s]; exact hx
          · rw [up2_i _ _ _ _ (by omega)]; exact h2 n (by omega)
        · rw [up2_i _ _ _ _ (by omega)]; exact h3 j (by omega)
        · rw [b_or, Bool.or_eq_true, h4 n hn, hy]
          by_cases q : ¬ lN2 (vh_I h) u v al i = 0
          · rw [if_pos q, bt_j1 hlt hn]
            by_cases e : n = i
            · subst e
              exact ⟨fun _ => ⟨by omega, q⟩, fun _ => Or.inr (by simp)⟩
            · constructor
              · rintro (z | z)
                · exact ⟨by omega, z.2⟩
                · exact absurd (by simpa using z) e
              · rintro ⟨z1, z2⟩; exact Or.inl ⟨by omega, z2⟩
          · rw [if_neg q]
            have n0 : bt (nI 0) n = false := b_0 n
            rw [n0]
            constructor
            · rintro (z | z)
              · exact ⟨by omega, z.2⟩
              · cases z
            · rintro ⟨z1, z2⟩
              refine Or.inl ⟨?_, z2⟩
              have : n ≠ i := fun e => q (e ▸ z2)
              omega
      simp only [s_51_72, s_51_73, s_51_75, s_51_76, s_51_79, s_51_81, s_51_83, s_51_84, ck13, cr0, cr1, cr2, cr3, cr4, cr5, cr6, cr7, cr8, cr9, ck14, ck15, ck16, ck17, ck18, ck19, ck20, ck21, ck22, ck23, cz14, cz15, cz16, cz17, cz18, cz19, cz20, cz21, cz22, cz23, va_rf_s, pk_mul, nI_add, not_false_eq_true, and_self, true_and, Option.toList_some, Option.toList_none, List.append_nil, List.cons_append, List.nil_append, nI_01, nI_11, vh_K_wI, vh_R_wI, vh_Z_wI, vh_wI_sI, vh_K_sI, vh_R_sI, vh_Z_sI, vh_sI_sI, vh_I_sI, cl (show (6 * u + v) * 32 + i < 2 ^ 31 by omega), ib b1 (show 1152 ≤ 2 ^ 31 by omega), up2_s, s_51_85]
      by_cases q : x = 0
      · rw [if_pos q]
        simp only [s_51_95]
        exact cont _ (by rw [if_neg (fun z => z (hx ▸ q))])
      · rw [if_neg q]
        simp only [s_51_88, s_51_89, s_51_91, s_51_92]
        exact cont _ (by rw [if_pos (fun z => q (hx.trans z))]; rfl)
    by_cases q : li = 0
    · rw [if_pos q]
      simp only [s_51_68, s_51_69, s_51_71, ck13, cr0, cr1, cr2, cr3, cr4, cr5, cr6, cr7, cr8, cr9, ck14, ck15, ck16, ck17, ck18, ck19, ck20, ck21, ck22, ck23, cz14, cz15, cz16, cz17, cz18, cz19, cz20, cz21, cz22, cz23, va_rf_s, pk_mul, nI_add, not_false_eq_true, and_self, true_and, Option.toList_some, Option.toList_none, List.append_nil, List.cons_append, List.nil_append, nI_01, nI_11, vh_K_wI, vh_R_wI, vh_Z_wI, vh_wI_sI, vh_K_sI, vh_R_sI, vh_Z_sI, vh_sI_sI, vh_I_sI, ka, za, cl (show i < 2 ^ 31 by omega), ib hlt (show 32 ≤ 2 ^ 31 by omega)]
      refine step _ ?_
      unfold lN2
      rw [if_neg (hli.mp q), h1 al al14]
    · rw [if_neg q]
      simp only [s_51_50, s_51_51, s_51_54, s_51_56, s_51_58, s_51_59, s_51_60, s_51_61, s_51_63, s_51_64, s_51_65, ck13, cr0, cr1, cr2, cr3, cr4, cr5, cr6, cr7, cr8, cr9, ck14, ck15, ck16, ck17, ck18, ck19, ck20, ck21, ck22, ck23, cz14, cz15, cz16, cz17, cz18, cz19, cz20, cz21, cz22, cz23, va_rf_s, pk_mul, nI_add, not_false_eq_true, and_self, true_and, Option.toList_some, Option.toList_none, List.append_nil, List.cons_append, List.nil_append, nI_01, nI_11, vh_K_wI, vh_R_wI, vh_Z_wI, vh_wI_sI, vh_K_sI, vh_R_sI, vh_Z_sI, vh_sI_sI, vh_I_sI, ka, za, cl (show i < 2 ^ 31 by omega), ib hlt (show 32 ≤ 2 ^ 31 by omega), cl (show (6 * u + v) * 32 + i < 2 ^ 31 by omega), ib b1 (show 1152 ≤ 2 ^ 31 by omega)]
      refine step _ ?_
      unfold lN2
      have : EE (vh_I h) u v = true := Classical.byContradiction (fun z => q (hli.mpr z))
      rw [if_pos this, h1 al al14, h3 _ (by omega)]
theorem c_link {u v al : Nat} {h : vt_H} {Q : vt_Q} (hC : CL h) (hu : u < 6) (hv : v < 6) (hal : al = 16 ∨ al = 17)
    (hQ : ∀ f' s, (∀ c, c ≠ 14 → c ≠ 15 → ∀ j, f' c j = vh_I h c j) → (∀ n, n < 32 → f' 14 ((6 * u + v) * 32 + n) = lN2 (vh_I h) u v al n) → (∀ j, (j < (6 * u + v) * 32 ∨ (6 * u + v) * 32 + 32 ≤ j) → f' 14 j = vh_I h 14 j) → (∀ j, f' 15 j = if j = u then vh_I h 15 u ||| j1 (nI v) else vh_I h 15 j) → (∀ n, n < 32 → (bt s n = true ↔ ¬ lN2 (vh_I h) u v al n = 0)) → Q (some (.int s)) (vh_sI h f')) : Wp 51 0 [.ref 13, .int (nI u), .int (nI v), .ref al, vt_un, vt_un, vt_un, vt_un] [] h Q := by
  have hC' := hC
  obtain ⟨ck13, cr0, cr1, cr2, cr3, cr4, cr5, cr6, cr7, cr8, cr9, ck14, ck15, ck16, ck17, ck18, ck19, ck20, ck21, ck22, ck23, cz14, cz15, cz16, cz17, cz18, cz19, cz20, cz21, cz22, cz23⟩ := hC
  have l := l_link (Q := Q) (li := jb (bt (vh_I h 15 u) v = true)) hC' hu hv hal (by rw [jb_0]; rfl) hQ 32 0 (by omega) (vh_I h) (nI 0) (fun _ _ _ => rfl) (fun n hn => absurd hn (by omega)) (fun _ _ => rfl) (fun n hn => by
    have n0 : bt (nI 0) n = false := b_0 n
    rw [n0]
    exact ⟨fun z => (by cases z), fun z => absurd z.1 (by omega)⟩)
  rw [vh_sI_id] at l
  simp only [s_51_0, s_51_2, s_51_3, s_51_4, s_51_5, s_51_6, s_51_8, s_51_9, s_51_11, s_51_12, s_51_15, s_51_16, s_51_17, s_51_18, s_51_21, s_51_23, s_51_24, s_51_26, s_51_27, ck13, cr0, cr1, cr2, cr3, cr4, cr5, cr6, cr7, cr8, cr9, ck14, ck15, ck16, ck17, ck18, ck19, ck20, ck21, ck22, ck23, cz14, cz15, cz16, cz17, cz18, cz19, cz20, cz21, cz22, cz23, va_rf_s, pk_mul, nI_add, not_false_eq_true, and_self, true_and, Option.toList_some, Option.toList_none, List.append_nil, List.cons_append, List.nil_append, nI_01, nI_11, vh_K_wI, vh_R_wI, vh_Z_wI, vh_wI_sI, vh_K_sI, vh_R_sI, vh_Z_sI, vh_sI_sI, vh_I_sI, cl (show u < 2 ^ 31 by omega), ib hu (show 6 ≤ 2 ^ 31 by omega), c_isIn, jbit_bt _ (show v < 32 by omega)]
  exact l

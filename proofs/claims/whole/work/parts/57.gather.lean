-- ===== CASES of the class: gather =====
/-- the wish: the asked variable has the number b, or, without one, b is the known number -/
def cB (kp kn b : Nat) (w : Nat → Nat) : Prop := (kp < 6 ∧ w kp = b) ∨ (¬ kp < 6 ∧ b = kn)
theorem cB_ik (kp kn b : Nat) : ik (cB kp kn b) kp := by
  intro v hv hne w n
  unfold cB
  rw [sv_set_ne _ _ (fun z => hne z.symm)]
/-- one variable is left, or none -/
theorem N6_end {F : Nat → Bool} {E : Nat → Nat → Bool} {A : Nat → Nat → Nat → Nat → Bool} {G : Nat → Nat → Nat} {kp kn b : Nat} (hs : sy E A) (hb : b < 32) (hF : ∀ v, v < 6 → F v = true → v = kp) (hk : kp < 6 → F kp = true) (hG : ∀ v n, v < 6 → F v = false → G v n = g0 n) : N6 (cB kp kn b) F E A G = if kp < 6 then G kp b else if b = kn then 1 else 0 := by
  by_cases q : kp < 6
  · rw [if_pos q]
    have e := N6_at (c := fun _ => True) (G := G) (k := b) hs q hb (hk q) (fun _ _ => Iff.rfl)
    have e2 : N6 (cB kp kn b) F E A G = N6 (fun w => True ∧ w kp = b) F E A G := N6_congr (fun w _ => ⟨fun z => z.elim (fun y => ⟨trivial, y.2⟩) (fun y => absurd q y.1), fun z => Or.inl ⟨q, z.2⟩⟩) (fun _ _ => rfl) (fun _ _ _ _ => rfl)
    rw [e2, e, N6_none, bi_t trivial, Nat.mul_one]
    · intro v hv
      cases hF' : fo F kp v with
      | false => rfl
      | true => exact absurd (hF v hv (fo_t.mp hF').1) (fo_t.mp hF').2
    · intro v n hv
      unfold gX
      by_cases e3 : v = kp
      · rw [if_pos e3]
      · have : F v = false := by
          cases hF' : F v with
          | false => rfl
          | true => exact absurd (hF v hv hF') e3
        rw [if_neg e3, if_neg (fun z => by rw [this] at z; cases z.1)]
        exact hG v n hv this
    · intro w w' _
      exact Iff.rfl
  · rw [if_neg q]
    have hF0 : ∀ v, v < 6 → F v = false := by
      intro v hv
      cases hF' : F v with
      | false => rfl
      | true => have := hF v hv hF'; omega
    rw [N6_none hF0 (fun v n hv => hG v n hv (hF0 v hv)) (fun w w' _ => by unfold cB; constructor <;> exact fun z => z.elim (fun y => absurd y.1 q) Or.inr)]
    by_cases e : b = kn
    · rw [if_pos e]
      exact bi_t (Or.inr ⟨q, e⟩)
    · rw [if_neg e]
      exact bi_f fun z => z.elim (fun y => q y.1) (fun y => e y.2)
theorem l_gather {l kp : Nat} {h : vt_H} {Q : vt_Q} {g : Nat → Nat} {T : Nat} (hC : CL h) (hl : l < 3) (hkp : kp < 6) (hc : ¬ vh_I h 13 10 = 0) (hT : vh_I h 19 l = nI T) (hr : ∀ n, n < 32 → (bt (vh_I h 20 (l * 6 + kp)) n = true ↔ g n ≠ 0)) (hw : ∀ n, n < 32 → g n ≠ 0 → vh_I h 21 ((l * 6 + kp) * 32 + n) = nI (g n))
    (hQ : ∀ f', (∀ c, c ≠ 23 → ∀ j, f' c j = vh_I h c j) → (∀ b, b < 32 → f' 23 b = vh_I h 23 b + nI (T * g b)) → Q (some (.int (vh_I h 20 (l * 6 + kp)))) (vh_sI h f')) :
    ∀ (k i : Nat), i + k = 32 → ∀ f0, (∀ c, c ≠ 23 → ∀ j, f0 c j = vh_I h c j) → (∀ b, b < 32 → f0 23 b = if b < i then vh_I h 23 b + nI (T * g b) else vh_I h 23 b) → Wp 65 44 [.ref 13, .int (nI l), .int (nI (l * 6 + kp)), .int (nI i)] [] (vh_sI h f0) Q := by
  obtain ⟨ck13, cr0, cr1, cr2, cr3, cr4, cr5, cr6, cr7, cr8, cr9, ck14, ck15, ck16, ck17, ck18, ck19, ck20, ck21, ck22, ck23, cz14, cz15, cz16, cz17, cz18, cz19, cz20, cz21, cz22, cz23⟩ := hC
  have b1 : l * 6 + kp < 18 := by omega
  intro k
  induction k with
  | zero =>
    intro i hi f0 h1 h2
    have : i = 32 := by omega
    subst this
    simp only [s_65_44, s_65_45, ck13, cr0, cr1, cr2, cr3, cr4, cr5, cr6, cr7, cr8, cr9, ck14, ck15, ck16, ck17, ck18, ck19, ck20, ck21, ck22, ck23, cz14, cz15, cz16, cz17, cz18, cz19, cz20, cz21, cz22, cz23, va_rf_s, pk_mul, nI_add, not_false_eq_true, and_self, true_and, Option.toList_some, Option.toList_none, List.append_nil, List.cons_append, List.nil_append, nI_01, nI_11, vh_K_wI, vh_R_wI, vh_Z_wI, vh_wI_sI, vh_K_sI, vh_R_sI, vh_Z_sI, vh_sI_sI, vh_I_sI, s_65_48]
    rw [h1 13 (by decide), if_neg hc]
    simp only [s_65_51, s_65_52, s_65_54, s_65_107, s_65_108, s_65_111, s_65_112, s_65_113, ck13, cr0, cr1, cr2, cr3, cr4, cr5, cr6, cr7, cr8, cr9, ck14, ck15, ck16, ck17, ck18, ck19, ck20, ck21, ck22, ck23, cz14, cz15, cz16, cz17, cz18, cz19, cz20, cz21, cz22, cz23, va_rf_s, pk_mul, nI_add, not_false_eq_true, and_self, true_and, Option.toList_some, Option.toList_none, List.append_nil, List.cons_append, List.nil_append, nI_01, nI_11, vh_K_wI, vh_R_wI, vh_Z_wI, vh_wI_sI, vh_K_sI, vh_R_sI, vh_Z_sI, vh_sI_sI, vh_I_sI, if_pos (nI_le (Nat.le_refl 32) (show 32 < 2 ^ 31 by omega)), cl (show l * 6 + kp < 2 ^ 31 by omega), ib b1 (show 18 ≤ 2 ^ 31 by omega)]
    rw [h1 20 (by decide)]
    exact hQ f0 h1 (fun b hb => by rw [h2 b hb, if_pos hb])
  | succ k ih =>
    intro i hi f0 h1 h2
    have hlt : i < 32 := by omega
    have b2 : (l * 6 + kp) * 32 + i < 576 := by omega
    simp only [s_65_44, s_65_45, ck13, cr0, cr1, cr2, cr3, cr4, cr5, cr6, cr7, cr8, cr9, ck14, ck15, ck16, ck17, ck18, ck19, ck20, ck21, ck22, ck23, cz14, cz15, cz16, cz17, cz18, cz19, cz20, cz21, cz22, cz23, va_rf_s, pk_mul, nI_add, not_false_eq_true, and_self, true_and, Option.toList_some, Option.toList_none, List.append_nil, List.cons_append, List.nil_append, nI_01, nI_11, vh_K_wI, vh_R_wI, vh_Z_wI, vh_wI_sI, vh_K_sI, vh_R_sI, vh_Z_sI, vh_sI_sI, vh_I_sI, s_65_48]
    rw [h1 13 (by decide), if_neg hc]
    simp only [s_65_51, s_65_52, s_65_54, if_neg (nI_ge hlt (show 32 < 2 ^ 31 by omega))]
    simp only [s_65_57, s_65_58, s_65_61, s_65_62, s_65_63, s_65_64, s_65_65, s_65_68, s_65_69, s_65_70, s_65_71, ck13, cr0, cr1, cr2, cr3, cr4, cr5, cr6, cr7, cr8, cr9, ck14, ck15, ck16, ck17, ck18, ck19, ck20, ck21, ck22, ck23, cz14, cz15, cz16, cz17, cz18, cz19, cz20, cz21, cz22, cz23, va_rf_s, pk_mul, nI_add, not_false_eq_true, and_self, true_and, Option.toList_some, Option.toList_none, List.append_nil, List.cons_append, List.nil_append, nI_01, nI_11, vh_K_wI, vh_R_wI, vh_Z_wI, vh_wI_sI, vh_K_sI, vh_R_sI, vh_Z_sI, vh_sI_sI, vh_I_sI, cl (show l * 6 + kp < 2 ^ 31 by omega), ib b1 (show 18 ≤ 2 ^ 31 by omega), cl (show i < 2 ^ 31 by omega), ib hlt (show 32 ≤ 2 ^ 31 by omega), c_isIn, jbit_bt _ hlt, jb_0, s_65_74]
    rw [h1 20 (by decide)]
    have fin : ∀ x : Int32, x = nI (T * g i) → Wp 65 44 [.ref 13, .int (nI l), .int (nI (l * 6 + kp)), .int (nI (i + 1))] [] (vh_sI h (up2 f0 23 i (f0 23 i + x))) Q := by
      intro x hx
      refine ih (i + 1) (by omega) _ (fun c hc j => ?_) (fun b hb => ?_)
      · rw [up2_a _ _ _ hc]; exact h1 c hc j
      · by_cases e : b = i
        · subst e
          rw [up2_s, h2 b hb, if_neg (Nat.lt_irrefl b), if_pos (Nat.lt_succ_self b), hx]
        · rw [up2_i _ _ _ _ e, h2 b hb]
          by_cases q : b < i
          · rw [if_pos q, if_pos (by omega)]
          · rw [if_neg q, if_neg (by omega)]
    by_cases q : bt (vh_I h 20 (l * 6 + kp)) i = true
    · rw [if_neg (fun z => z q)]
      have q0 := (hr i hlt).mp q
      simp only [s_65_77, s_65_78, s_65_81, s_65_82, s_65_83, s_65_84, s_65_87, s_65_88, s_65_90, s_65_91, s_65_92, s_65_93, s_65_94, s_65_95, s_65_98, s_65_99, s_65_100, s_65_101, s_65_104, ck13, cr0, cr1, cr2, cr3, cr4, cr5, cr6, cr7, cr8, cr9, ck14, ck15, ck16, ck17, ck18, ck19, ck20, ck21, ck22, ck23, cz14, cz15, cz16, cz17, cz18, cz19, cz20, cz21, cz22, cz23, va_rf_s, pk_mul, nI_add, not_false_eq_true, and_self, true_and, Option.toList_some, Option.toList_none, List.append_nil, List.cons_append, List.nil_append, nI_01, nI_11, vh_K_wI, vh_R_wI, vh_Z_wI, vh_wI_sI, vh_K_sI, vh_R_sI, vh_Z_sI, vh_sI_sI, vh_I_sI, cl (show l < 2 ^ 31 by omega), ib hl (show 3 ≤ 2 ^ 31 by omega), cl (show (l * 6 + kp) * 32 + i < 2 ^ 31 by omega), ib b2 (show 576 ≤ 2 ^ 31 by omega), cl (show i < 2 ^ 31 by omega), ib hlt (show 32 ≤ 2 ^ 31 by omega)]
      refine fin _ ?_
      rw [h1 19 (by decide), h1 21 (by decide), hT, hw i hlt q0, pk_mul]
    · rw [if_pos q]
      have q0 : g i = 0 := Classical.byContradiction (fun y => q ((hr i hlt).mpr y))
      simp only [s_65_98, s_65_99, s_65_100, s_65_101, s_65_104, ck13, cr0, cr1, cr2, cr3, cr4, cr5, cr6, cr7, cr8, cr9, ck14, ck15, ck16, ck17, ck18, ck19, ck20, ck21, ck22, ck23, cz14, cz15, cz16, cz17, cz18, cz19, cz20, cz21, cz22, cz23, va_rf_s, pk_mul, nI_add, not_false_eq_true, and_self, true_and, Option.toList_some, Option.toList_none, List.append_nil, List.cons_append, List.nil_append, nI_01, nI_11, vh_K_wI, vh_R_wI, vh_Z_wI, vh_wI_sI, vh_K_sI, vh_R_sI, vh_Z_sI, vh_sI_sI, vh_I_sI, cl (show i < 2 ^ 31 by omega), ib hlt (show 32 ≤ 2 ^ 31 by omega)]
      exact fin _ (by rw [q0, Nat.mul_zero])
theorem c_gather {l kp kn : Nat} {h : vt_H} {Q : vt_Q} {F : Nat → Bool} {T : Nat} {G : Nat → Nat → Nat} (hC : CL h) (hl : l < 3) (hs : sy (EE (vh_I h)) (AA (vh_I h))) (hk : KP (vh_I h) kp) (hkn : ¬ kp < 6 → kn < 32 ∧ vh_I h 13 15 = nI kn) (hL : LV (vh_I h) l F T G) (hF : ∀ v, v < 6 → F v = true → v = kp) (hFk : kp < 6 → F kp = true)
    (hQ : ∀ f' x, (∀ c, c ≠ 23 → ∀ j, f' c j = vh_I h c j) → (¬ vh_I h 13 10 = 0 → ∀ b, b < 32 → f' 23 b = vh_I h 23 b + nI (T * N6 (cB kp kn b) F (EE (vh_I h)) (AA (vh_I h)) G)) → (∀ b, b < 32 → (bt x b = true ↔ T * N6 (cB kp kn b) F (EE (vh_I h)) (AA (vh_I h)) G ≠ 0)) → Q (some (.int x)) (vh_sI h f')) : Wp 65 0 [.ref 13, .int (nI l), vt_un, vt_un] [] h Q := by
  have hC' := hC
  obtain ⟨ck13, cr0, cr1, cr2, cr3, cr4, cr5, cr6, cr7, cr8, cr9, ck14, ck15, ck16, ck17, ck18, ck19, ck20, ck21, ck22, ck23, cz14, cz15, cz16, cz17, cz18, cz19, cz20, cz21, cz22, cz23⟩ := hC
  have ee : ∀ b, b < 32 → T * N6 (cB kp kn b) F (EE (vh_I h)) (AA (vh_I h)) G = T * (if kp < 6 then G kp b else if b = kn then 1 else 0) := fun b hb => by rw [N6_end hs hb hF hFk hL.2.2.2.2.1]
  have hT0 := hL.2.2.2.2.2
  simp only [s_65_0, s_65_1, ck13, cr0, cr1, cr2, cr3, cr4, cr5, cr6, cr7, cr8, cr9, ck14, ck15, ck16, ck17, ck18, ck19, ck20, ck21, ck22, ck23, cz14, cz15, cz16, cz17, cz18, cz19, cz20, cz21, cz22, cz23, va_rf_s, pk_mul, nI_add, not_false_eq_true, and_self, true_and, Option.toList_some, Option.toList_none, List.append_nil, List.cons_append, List.nil_append, nI_01, nI_11, vh_K_wI, vh_R_wI, vh_Z_wI, vh_wI_sI, vh_K_sI, vh_R_sI, vh_Z_sI, vh_sI_sI, vh_I_sI, s_65_4]
  rcases hk with ⟨k1, k2⟩ | ⟨k1, k2⟩
  · rw [k2, if_pos (nI_pos' (by omega))]
    have b1 : l * 6 + kp < 18 := by omega
    have eg : ∀ b, b < 32 → T * N6 (cB kp kn b) F (EE (vh_I h)) (AA (vh_I h)) G = T * G kp b := fun b hb => by rw [ee b hb, if_pos k1]
    have hx : ∀ b, b < 32 → (bt (vh_I h 20 (l * 6 + kp)) b = true ↔ T * N6 (cB kp kn b) F (EE (vh_I h)) (AA (vh_I h)) G ≠ 0) := by
      intro b hb
      rw [eg b hb, hL.2.2.1 kp b k1 hb (hFk k1)]
      constructor
      · intro z; exact Nat.mul_ne_zero hT0 z
      · intro z y; rw [y, Nat.mul_zero] at z; exact z rfl
    simp only [s_65_32, s_65_33, s_65_35, s_65_36, s_65_37, s_65_40, s_65_41, s_65_42, s_65_43, ck13, cr0, cr1, cr2, cr3, cr4, cr5, cr6, cr7, cr8, cr9, ck14, ck15, ck16, ck17, ck18, ck19, ck20, ck21, ck22, ck23, cz14, cz15, cz16, cz17, cz18, cz19, cz20, cz21, cz22, cz23, va_rf_s, pk_mul, nI_add, not_false_eq_true, and_self, true_and, Option.toList_some, Option.toList_none, List.append_nil, List.cons_append, List.nil_append, nI_01, nI_11, vh_K_wI, vh_R_wI, vh_Z_wI, vh_wI_sI, vh_K_sI, vh_R_sI, vh_Z_sI, vh_sI_sI, vh_I_sI, k2]
    by_cases q : vh_I h 13 10 = 0
    · simp only [s_65_44, s_65_45, ck13, cr0, cr1, cr2, cr3, cr4, cr5, cr6, cr7, cr8, cr9, ck14, ck15, ck16, ck17, ck18, ck19, ck20, ck21, ck22, ck23, cz14, cz15, cz16, cz17, cz18, cz19, cz20, cz21, cz22, cz23, va_rf_s, pk_mul, nI_add, not_false_eq_true, and_self, true_and, Option.toList_some, Option.toList_none, List.append_nil, List.cons_append, List.nil_append, nI_01, nI_11, vh_K_wI, vh_R_wI, vh_Z_wI, vh_wI_sI, vh_K_sI, vh_R_sI, vh_Z_sI, vh_sI_sI, vh_I_sI, s_65_48]
      rw [if_pos q]
      simp only [s_65_107, s_65_108, s_65_111, s_65_112, s_65_113, ck13, cr0, cr1, cr2, cr3, cr4, cr5, cr6, cr7, cr8, cr9, ck14, ck15, ck16, ck17, ck18, ck19, ck20, ck21, ck22, ck23, cz14, cz15, cz16, cz17, cz18, cz19, cz20, cz21, cz22, cz23, va_rf_s, pk_mul, nI_add, not_false_eq_true, and_self, true_and, Option.toList_some, Option.toList_none, List.append_nil, List.cons_append, List.nil_append, nI_01, nI_11, vh_K_wI, vh_R_wI, vh_Z_wI, vh_wI_sI, vh_K_sI, vh_R_sI, vh_Z_sI, vh_sI_sI, vh_I_sI, cl (show l * 6 + kp < 2 ^ 31 by omega), ib b1 (show 18 ≤ 2 ^ 31 by omega)]
      have := hQ (vh_I h) (vh_I h 20 (l * 6 + kp)) (fun _ _ _ => rfl) (fun z => absurd q z) hx
      rw [vh_sI_id] at this
      exact this
    · have a := hL.2.2.2.1 q
      have l1 := l_gather (Q := Q) (g := fun n => G kp n) (T := T) hC' hl k1 q a.1 (fun n hn => hL.2.2.1 kp n k1 hn (hFk k1)) (fun n hn hg => a.2 kp n k1 hn (hFk k1) hg) (fun f' z1 z2 => hQ f' _ z1 (fun _ b hb => by rw [z2 b hb, eg b hb]) hx) 32 0 (by omega) (vh_I h) (fun _ _ _ => rfl) (fun b _ => by rw [if_neg (by omega)])
      rw [vh_sI_id] at l1
      exact l1
  · have k3 : ¬ kp < 6 := by omega
    obtain ⟨n1, n2⟩ := hkn k3
    rw [k2, if_neg (by decide)]
    simp only [s_65_7, s_65_8, s_65_11, s_65_12, s_65_15, s_65_16, s_65_17, s_65_18, s_65_21, s_65_22, s_65_23, s_65_24, s_65_25, s_65_26, s_65_27, s_65_30, s_65_31, ck13, cr0, cr1, cr2, cr3, cr4, cr5, cr6, cr7, cr8, cr9, ck14, ck15, ck16, ck17, ck18, ck19, ck20, ck21, ck22, ck23, cz14, cz15, cz16, cz17, cz18, cz19, cz20, cz21, cz22, cz23, va_rf_s, pk_mul, nI_add, not_false_eq_true, and_self, true_and, Option.toList_some, Option.toList_none, List.append_nil, List.cons_append, List.nil_append, nI_01, nI_11, vh_K_wI, vh_R_wI, vh_Z_wI, vh_wI_sI, vh_K_sI, vh_R_sI, vh_Z_sI, vh_sI_sI, vh_I_sI, n2, cl (show kn < 2 ^ 31 by omega), ib n1 (show 32 ≤ 2 ^ 31 by omega), cl (show l < 2 ^ 31 by omega), ib hl (show 3 ≤ 2 ^ 31 by omega)]
    have e13 : ∀ x : Int32, up2 (vh_I h) 23 kn x 13 15 = nI kn := fun x => by rw [up2_a _ _ _ (by decide), n2]
    simp only [e13]
    refine hQ _ (j1 (nI kn)) (fun c hc j => up2_a _ _ _ hc j) (fun hc b hb => ?_) (fun b hb => ?_)
    · rw [ee b hb, if_neg k3]
      by_cases e : b = kn
      · subst e
        rw [up2_s, if_pos rfl, Nat.mul_one, (hL.2.2.2.1 hc).1]
      · rw [up2_i _ _ _ _ e, if_neg e, Nat.mul_zero]
        exact (Int32.add_zero _).symm
    · rw [ee b hb, if_neg k3, bt_j1 n1 hb]
      by_cases e : b = kn
      · rw [if_pos e, Nat.mul_one]
        simp [e, hT0]
      · rw [if_neg e, Nat.mul_zero]
        simp [e]

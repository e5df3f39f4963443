-- ===== the reference: work, its beginning and end =====
theorem l_w0 {h : vt_H} {Q : vt_Q} {S : Nat → Bool} (hM : MZ h) (hS : ∀ x, x < 16384 → vh_I h 130 x = if S x = true then nI 1 else nI 0)
    (hQ : ∀ f', (∀ x, x ≠ 136 → x ≠ 137 → x ≠ 144 → ∀ j, f' x j = vh_I h x j) → (∀ x, x < 16384 → (f' 136 x = if S x = true then nI 0 else -nI 1) ∧ f' 137 x = nI 0 ∧ f' 144 x = nI 0) → ∀ y1 y2 y3, Wp 100 70 [.ref 129, y1, y2, y3] [] (vh_sI h f') Q) :
    ∀ (m k : Nat), k + m = 16384 → ∀ f y2 y3, (∀ x, x ≠ 136 → x ≠ 137 → x ≠ 144 → ∀ j, f x j = vh_I h x j) → (∀ x, x < k → (f 136 x = if S x = true then nI 0 else -nI 1) ∧ f 137 x = nI 0 ∧ f 144 x = nI 0) → Wp 100 23 [.ref 129, .int (nI k), y2, y3] [] (vh_sI h f) Q := by
  obtain ⟨mk, ⟨mr0, mk0, mz0⟩, ⟨mr1, mk1, mz1⟩, ⟨mr2, mk2, mz2⟩, ⟨mr3, mk3, mz3⟩, ⟨mr4, mk4, mz4⟩, ⟨mr5, mk5, mz5⟩, ⟨mr6, mk6, mz6⟩, ⟨mr7, mk7, mz7⟩, ⟨mr8, mk8, mz8⟩, ⟨mr9, mk9, mz9⟩, ⟨mr10, mk10, mz10⟩, ⟨mr11, mk11, mz11⟩, ⟨mr12, mk12, mz12⟩, ⟨mr13, mk13, mz13⟩, ⟨mr14, mk14, mz14⟩, ⟨mr15, mk15, mz15⟩, ⟨mr16, mk16, mz16⟩, ⟨mr17, mk17, mz17⟩, ⟨mr18, mk18, mz18⟩⟩ := hM
  intro m
  induction m with
  | zero =>
    intro k hk f y2 y3 h1 h2
    have : k = 16384 := by omega
    subst this
    simp only [s_100_23, s_100_24, s_100_27, if_pos (nI_le (Nat.le_refl 16384) (show 16384 < 2 ^ 31 by omega))]
    exact hQ f h1 h2 _ _ _
  | succ m ih =>
    intro k hk f y2 y3 h1 h2
    have hlt : k < 16384 := by omega
    have e130 : f 130 k = if S k = true then nI 1 else nI 0 := (h1 130 (by decide) (by decide) (by decide) k).trans (hS k hlt)
    simp only [s_100_23, s_100_24, s_100_27, if_neg (nI_ge hlt (show 16384 < 2 ^ 31 by omega))]
    simp only [s_100_30, s_100_31, s_100_34, s_100_35, s_100_36, s_100_39, s_100_40, s_100_41, mk, mr0, mk0, mz0, mr1, mk1, mz1, mr2, mk2, mz2, mr3, mk3, mz3, mr4, mk4, mz4, mr5, mk5, mz5, mr6, mk6, mz6, mr7, mk7, mz7, mr8, mk8, mz8, mr9, mk9, mz9, mr10, mk10, mz10, mr11, mk11, mz11, mr12, mk12, mz12, mr13, mk13, mz13, mr14, mk14, mz14, mr15, mk15, mz15, mr16, mk16, mz16, mr17, mk17, mz17, mr18, mk18, mz18, va_rf_s, pk_mul, nI_add, not_false_eq_true, and_self, true_and, Option.toList_some, Option.toList_none, List.append_nil, List.cons_append, List.nil_append, nI_01, nI_11, vh_K_wI, vh_R_wI, vh_Z_wI, vh_wI_sI, vh_K_sI, vh_R_sI, vh_Z_sI, vh_sI_sI, vh_I_sI, cl (show k < 2 ^ 31 by omega), ib hlt (show 16384 ≤ 2 ^ 31 by omega), e130]
    have go : ∀ v : Int32, (v = if S k = true then nI 0 else -nI 1) → Wp 100 49 [.ref 129, .int (nI k), y2, y3] [.int v, .int (nI k), .ref 136] (vh_sI h f) Q := by
      intro v hv
      simp only [s_100_49, s_100_50, s_100_51, s_100_54, s_100_55, s_100_56, s_100_57, s_100_58, s_100_61, s_100_62, s_100_63, s_100_64, s_100_67, mk, mr0, mk0, mz0, mr1, mk1, mz1, mr2, mk2, mz2, mr3, mk3, mz3, mr4, mk4, mz4, mr5, mk5, mz5, mr6, mk6, mz6, mr7, mk7, mz7, mr8, mk8, mz8, mr9, mk9, mz9, mr10, mk10, mz10, mr11, mk11, mz11, mr12, mk12, mz12, mr13, mk13, mz13, mr14, mk14, mz14, mr15, mk15, mz15, mr16, mk16, mz16, mr17, mk17, mz17, mr18, mk18, mz18, va_rf_s, pk_mul, nI_add, not_false_eq_true, and_self, true_and, Option.toList_some, Option.toList_none, List.append_nil, List.cons_append, List.nil_append, nI_01, nI_11, vh_K_wI, vh_R_wI, vh_Z_wI, vh_wI_sI, vh_K_sI, vh_R_sI, vh_Z_sI, vh_sI_sI, vh_I_sI, cl (show k < 2 ^ 31 by omega), ib hlt (show 16384 ≤ 2 ^ 31 by omega)]
      refine ih (k + 1) (by omega) _ _ _ (fun x x1 x2 x3 j => ?_) (fun x hx => ?_)
      · rw [up2_a _ _ _ x3, up2_a _ _ _ x2, up2_a _ _ _ x1]; exact h1 x x1 x2 x3 j
      · by_cases e : x = k
        · subst e
          rw [up2_a _ _ _ (by decide), up2_a _ _ _ (by decide), up2_s, up2_a _ _ _ (by decide), up2_s, up2_s]
          exact ⟨hv, rfl, rfl⟩
        · rw [up2_a _ _ _ (by decide), up2_a _ _ _ (by decide), up2_i _ _ _ _ e, up2_a _ _ _ (by decide), up2_i _ _ _ _ e, up2_a _ _ _ (by decide), up2_i _ _ _ _ e, up2_a _ _ _ (by decide), up2_a _ _ _ (by decide)]
          exact h2 x (by omega)
    by_cases q : S k = true
    · rw [if_pos q, if_neg (by decide)]
      simp only [s_100_44, s_100_45]
      exact go _ (by rw [if_pos q])
    · rw [if_neg q, if_pos (by decide)]
      simp only [s_100_48]
      exact go _ (by rw [if_neg q])
/-- how often each code is given -/
noncomputable def CN (ρs : Nat → Nat → Nat) (H : Nat → Nat → Nat → Bool) (i x : Nat) : Nat := sg_S (fun i => bi (sf (ρs i)) * cnT (hc H) (ρs i) x) i
theorem l_wcnt {c : Nat} {h : vt_H} {Q : vt_Q} {ρs : Nat → Nat → Nat} {H : Nat → Nat → Nat → Bool} {rc : Nat → Nat} (hM : MZ h) (hR : MRs (vh_I h) ρs c) (h11 : vh_I h 129 11 = cI 16) (hrc : ∀ c, rc c < 2 ^ 31) (h19 : vh_I h 129 19 = -nI 1) (h136 : ∀ x, x < 16384 → vh_I h 136 x = if hc H x = true then nI (rc x) else -nI 1)
    (hQ : ∀ f', SF (vh_I h) f' → (∀ j, f' 136 j = vh_I h 136 j) → (∀ x, x < 16384 → f' 137 x = nI (CN ρs H c x)) → ∀ y1 y2 y3, Wp 100 232 [.ref 129, y1, y2, y3] [] (vh_sI h f') Q) :
    ∀ (m i : Nat), i + m = c → ∀ f y2 y3, SF (vh_I h) f → (∀ j, f 136 j = vh_I h 136 j) → (∀ x, x < 16384 → f 137 x = nI (CN ρs H i x)) → Wp 100 197 [.ref 129, .int (nI i), y2, y3] [] (vh_sI h f) Q := by
  have hM' := hM
  obtain ⟨mk, ⟨mr0, mk0, mz0⟩, ⟨mr1, mk1, mz1⟩, ⟨mr2, mk2, mz2⟩, ⟨mr3, mk3, mz3⟩, ⟨mr4, mk4, mz4⟩, ⟨mr5, mk5, mz5⟩, ⟨mr6, mk6, mz6⟩, ⟨mr7, mk7, mz7⟩, ⟨mr8, mk8, mz8⟩, ⟨mr9, mk9, mz9⟩, ⟨mr10, mk10, mz10⟩, ⟨mr11, mk11, mz11⟩, ⟨mr12, mk12, mz12⟩, ⟨mr13, mk13, mz13⟩, ⟨mr14, mk14, mz14⟩, ⟨mr15, mk15, mz15⟩, ⟨mr16, mk16, mz16⟩, ⟨mr17, mk17, mz17⟩, ⟨mr18, mk18, mz18⟩⟩ := hM
  obtain ⟨c16, hcr, hV⟩ := hR
  intro m
  induction m with
  | zero =>
    intro i hi f y2 y3 a1 a2 a3
    have : i = c := by omega
    subst this
    have e6 : f 129 6 = nI i := (a1.2 6 (by decide) (by decide)).trans hcr
    simp only [s_100_197, s_100_198, s_100_199, s_100_202, mk, mr0, mk0, mz0, mr1, mk1, mz1, mr2, mk2, mz2, mr3, mk3, mz3, mr4, mk4, mz4, mr5, mk5, mz5, mr6, mk6, mz6, mr7, mk7, mz7, mr8, mk8, mz8, mr9, mk9, mz9, mr10, mk10, mz10, mr11, mk11, mz11, mr12, mk12, mz12, mr13, mk13, mz13, mr14, mk14, mz14, mr15, mk15, mz15, mr16, mk16, mz16, mr17, mk17, mz17, mr18, mk18, mz18, va_rf_s, pk_mul, nI_add, not_false_eq_true, and_self, true_and, Option.toList_some, Option.toList_none, List.append_nil, List.cons_append, List.nil_append, nI_01, nI_11, vh_K_wI, vh_R_wI, vh_Z_wI, vh_wI_sI, vh_K_sI, vh_R_sI, vh_Z_sI, vh_sI_sI, vh_I_sI, e6, if_pos (nI_le (Nat.le_refl i) (show i < 2 ^ 31 by omega))]
    exact hQ f a1 a2 a3 _ _ _
  | succ m ih =>
    intro i hi f y2 y3 a1 a2 a3
    have hlt : i < c := by omega
    have hi16 : i < 16 := by omega
    have e6 : f 129 6 = nI c := (a1.2 6 (by decide) (by decide)).trans hcr
    have e11 : f 129 11 = cI 16 := (a1.2 11 (by decide) (by decide)).trans h11
    have e19 : f 129 19 = -nI 1 := (a1.2 19 (by decide) (by decide)).trans h19
    have hM0 : MZ (vh_sI h f) := hM'
    have hR0 : MR (vh_I (vh_sI h f)) i (ρs i) := SF_MR a1 (hV i hlt)
    simp only [s_100_197, s_100_198, s_100_199, s_100_202, mk, mr0, mk0, mz0, mr1, mk1, mz1, mr2, mk2, mz2, mr3, mk3, mz3, mr4, mk4, mz4, mr5, mk5, mz5, mr6, mk6, mz6, mr7, mk7, mz7, mr8, mk8, mz8, mr9, mk9, mz9, mr10, mk10, mz10, mr11, mk11, mz11, mr12, mk12, mz12, mr13, mk13, mz13, mr14, mk14, mz14, mr15, mk15, mz15, mr16, mk16, mz16, mr17, mk17, mz17, mr18, mk18, mz18, va_rf_s, pk_mul, nI_add, not_false_eq_true, and_self, true_and, Option.toList_some, Option.toList_none, List.append_nil, List.cons_append, List.nil_append, nI_01, nI_11, vh_K_wI, vh_R_wI, vh_Z_wI, vh_wI_sI, vh_K_sI, vh_R_sI, vh_Z_sI, vh_sI_sI, vh_I_sI, e6, if_neg (nI_ge hlt (show c < 2 ^ 31 by omega))]
    simp only [s_100_205, s_100_206, s_100_209, mk, mr0, mk0, mz0, mr1, mk1, mz1, mr2, mk2, mz2, mr3, mk3, mz3, mr4, mk4, mz4, mr5, mk5, mz5, mr6, mk6, mz6, mr7, mk7, mz7, mr8, mk8, mz8, mr9, mk9, mz9, mr10, mk10, mz10, mr11, mk11, mz11, mr12, mk12, mz12, mr13, mk13, mz13, mr14, mk14, mz14, mr15, mk15, mz15, mr16, mk16, mz16, mr17, mk17, mz17, mr18, mk18, mz18, va_rf_s, pk_mul, nI_add, not_false_eq_true, and_self, true_and, Option.toList_some, Option.toList_none, List.append_nil, List.cons_append, List.nil_append, nI_01, nI_11, vh_K_wI, vh_R_wI, vh_Z_wI, vh_wI_sI, vh_K_sI, vh_R_sI, vh_Z_sI, vh_sI_sI, vh_I_sI, e11]
    rw [if_neg (by decide)]
    simp only [s_100_212, s_100_213, s_100_214, s_100_217, mk, mr0, mk0, mz0, mr1, mk1, mz1, mr2, mk2, mz2, mr3, mk3, mz3, mr4, mk4, mz4, mr5, mk5, mz5, mr6, mk6, mz6, mr7, mk7, mz7, mr8, mk8, mz8, mr9, mk9, mz9, mr10, mk10, mz10, mr11, mk11, mz11, mr12, mk12, mz12, mr13, mk13, mz13, mr14, mk14, mz14, mr15, mk15, mz15, mr16, mk16, mz16, mr17, mk17, mz17, mr18, mk18, mz18, va_rf_s, pk_mul, nI_add, not_false_eq_true, and_self, true_and, Option.toList_some, Option.toList_none, List.append_nil, List.cons_append, List.nil_append, nI_01, nI_11, vh_K_wI, vh_R_wI, vh_Z_wI, vh_wI_sI, vh_K_sI, vh_R_sI, vh_Z_sI, vh_sI_sI, vh_I_sI, m_safe _ hM0 hi16 hR0]
    by_cases w : sf (ρs i)
    · rw [if_neg (fun z => cb_0.mp z w)]
      have hOL : ∀ x, x < 16384 → (OL (vh_I (vh_sI h f)) x ↔ hc H x = true) := by
        intro x hx
        unfold OL
        rw [vh_I_sI, a2 x, h136 x hx, e19]
        by_cases q : hc H x = true
        · rw [if_pos q]
          exact ⟨fun _ => q, fun _ => ⟨nI_pos (hrc x), Or.inl (by decide)⟩⟩
        · rw [if_neg q]
          exact ⟨fun z => absurd (by decide) z.1, fun z => absurd z q⟩
      have ne : (-nI 1 : Int32) ≠ nI 0 := by decide
      simp only [s_100_220, s_100_221, s_100_222, s_100_223, mk, mr0, mk0, mz0, mr1, mk1, mz1, mr2, mk2, mz2, mr3, mk3, mz3, mr4, mk4, mz4, mr5, mk5, mz5, mr6, mk6, mz6, mr7, mk7, mz7, mr8, mk8, mz8, mr9, mk9, mz9, mr10, mk10, mz10, mr11, mk11, mz11, mr12, mk12, mz12, mr13, mk13, mz13, mr14, mk14, mz14, mr15, mk15, mz15, mr16, mk16, mz16, mr17, mk17, mz17, mr18, mk18, mz18, va_rf_s, pk_mul, nI_add, not_false_eq_true, and_self, true_and, Option.toList_some, Option.toList_none, List.append_nil, List.cons_append, List.nil_append, nI_01, nI_11, vh_K_wI, vh_R_wI, vh_Z_wI, vh_wI_sI, vh_K_sI, vh_R_sI, vh_Z_sI, vh_sI_sI, vh_I_sI]
      refine m_spread (h := vh_sI h f) (r := 0) (Hc := hc H) (Oc := hc H) (O := hc H) (rc := rc) hM0 hi16 hR0 w (by omega) (fun x _ => hrc x) (fun z => absurd z ne) hOL (Or.inl ⟨rfl, fun x _ => (Int32.add_zero _).symm, fun _ => rfl, fun _ => rfl, rfl⟩) (fun f1 z1 z2 => ?_)
      rw [vh_sI_sI]
      rcases z2 with ⟨_, y2, y3, y4, y5⟩ | ⟨y1, _⟩
      · rw [vh_I_sI] at y2 y3 z1
        simp only [va_rf_s, pk_mul, nI_add, not_false_eq_true, and_self, true_and, Option.toList_some, Option.toList_none, List.append_nil, List.cons_append, List.nil_append, nI_01, nI_11, vh_K_wI, vh_R_wI, vh_Z_wI, vh_wI_sI, vh_K_sI, vh_R_sI, vh_Z_sI, vh_sI_sI, vh_I_sI]
        simp only [s_100_226, s_100_229, va_rf_s, pk_mul, nI_add, not_false_eq_true, and_self, true_and, Option.toList_some, Option.toList_none, List.append_nil, List.cons_append, List.nil_append, nI_01, nI_11, vh_K_wI, vh_R_wI, vh_Z_wI, vh_wI_sI, vh_K_sI, vh_R_sI, vh_Z_sI, vh_sI_sI, vh_I_sI]
        refine ih (i + 1) (by omega) f1 _ _ ⟨fun x x1 x2 x3 x4 j => (z1.1 x x1 x2 x3 x4 j).trans (a1.1 x x1 x2 x3 x4 j), fun j j1 j2 => (z1.2 j j1 j2).trans (a1.2 j j1 j2)⟩ (fun j => (y3 j).trans (a2 j)) (fun x hx => ?_)
        rw [y2 x hx, a3 x hx, nI_add]
        unfold CN
        rw [sg_succ, bi_t w, Nat.one_mul]
      · exact absurd y1 ne
    · rw [if_pos (cb_0.mpr w)]
      simp only [s_100_226, s_100_229, va_rf_s, pk_mul, nI_add, not_false_eq_true, and_self, true_and, Option.toList_some, Option.toList_none, List.append_nil, List.cons_append, List.nil_append, nI_01, nI_11, vh_K_wI, vh_R_wI, vh_Z_wI, vh_wI_sI, vh_K_sI, vh_R_sI, vh_Z_sI, vh_sI_sI, vh_I_sI]
      refine ih (i + 1) (by omega) f _ _ a1 a2 (fun x hx => ?_)
      rw [a3 x hx]
      unfold CN
      rw [sg_succ, bi_f w, Nat.zero_mul, Nat.add_zero]
/-- the reference's model is known -/
def MST (f : Nat → Nat → Int32) (ρs : Nat → Nat → Nat) (c : Nat) (S : Nat → Nat → Nat → Bool) : Prop := ∃ ci lv H t rd, SX ρs c ci lv ∧ f 129 11 = cI ci ∧ (∀ n, n < 16 → f 138 n = nI (lv n)) ∧ (∀ x, x < 16384 → f 136 x = if hc H x = true then nI (hr rd x) else -nI 1) ∧ (∀ x, hr rd x < 2 ^ 31) ∧ f 129 12 = nI t ∧ (∀ x, x < 16384 → f 137 x = nI (if ci = 16 then CN ρs H c x else 0)) ∧ FIN ρs c ci lv S H t rd
/-- what holds of the reference between calls -/
def ME (f : Nat → Nat → Int32) (ρs : Nat → Nat → Nat) (c : Nat) (S : Nat → Nat → Nat → Bool) : Prop := MRs f ρs c ∧ (∀ x, x < 16384 → f 130 x = if hc S x = true then nI 1 else nI 0) ∧ (f 129 7 ≠ 0 → MST f ρs c S)
theorem m_work {c : Nat} {h : vt_H} {Q : vt_Q} {ρs : Nat → Nat → Nat} {S : Nat → Nat → Nat → Bool} (hM : MZ h) (hE : ME (vh_I h) ρs c S)
    (hQ : ∀ f', (∀ x, (x < 129 ∨ 148 < x) → ∀ j, f' x j = vh_I h x j) → ME f' ρs c S → MST f' ρs c S → Q none (vh_sI h f')) : Wp 100 0 [.ref 129, vt_un, vt_un, vt_un] [] h Q := by
  have hM' := hM
  obtain ⟨mk, ⟨mr0, mk0, mz0⟩, ⟨mr1, mk1, mz1⟩, ⟨mr2, mk2, mz2⟩, ⟨mr3, mk3, mz3⟩, ⟨mr4, mk4, mz4⟩, ⟨mr5, mk5, mz5⟩, ⟨mr6, mk6, mz6⟩, ⟨mr7, mk7, mz7⟩, ⟨mr8, mk8, mz8⟩, ⟨mr9, mk9, mz9⟩, ⟨mr10, mk10, mz10⟩, ⟨mr11, mk11, mz11⟩, ⟨mr12, mk12, mz12⟩, ⟨mr13, mk13, mz13⟩, ⟨mr14, mk14, mz14⟩, ⟨mr15, mk15, mz15⟩, ⟨mr16, mk16, mz16⟩, ⟨mr17, mk17, mz17⟩, ⟨mr18, mk18, mz18⟩⟩ := hM
  obtain ⟨hR, hS, hK⟩ := hE
  simp only [s_100_0, s_100_1, s_100_4, mk, mr0, mk0, mz0, mr1, mk1, mz1, mr2, mk2, mz2, mr3, mk3, mz3, mr4, mk4, mz4, mr5, mk5, mz5, mr6, mk6, mz6, mr7, mk7, mz7, mr8, mk8, mz8, mr9, mk9, mz9, mr10, mk10, mz10, mr11, mk11, mz11, mr12, mk12, mz12, mr13, mk13, mz13, mr14, mk14, mz14, mr15, mk15, mz15, mr16, mk16, mz16, mr17, mk17, mz17, mr18, mk18, mz18, va_rf_s, pk_mul, nI_add, not_false_eq_true, and_self, true_and, Option.toList_some, Option.toList_none, List.append_nil, List.cons_append, List.nil_append, nI_01, nI_11, vh_K_wI, vh_R_wI, vh_Z_wI, vh_wI_sI, vh_K_sI, vh_R_sI, vh_Z_sI, vh_sI_sI, vh_I_sI]
  by_cases k0 : vh_I h 129 7 = 0
  · rw [if_pos k0]
    simp only [s_100_8, s_100_9, mk, mr0, mk0, mz0, mr1, mk1, mz1, mr2, mk2, mz2, mr3, mk3, mz3, mr4, mk4, mz4, mr5, mk5, mz5, mr6, mk6, mz6, mr7, mk7, mz7, mr8, mk8, mz8, mr9, mk9, mz9, mr10, mk10, mz10, mr11, mk11, mz11, mr12, mk12, mz12, mr13, mk13, mz13, mr14, mk14, mz14, mr15, mk15, mz15, mr16, mk16, mz16, mr17, mk17, mz17, mr18, mk18, mz18, va_rf_s, pk_mul, nI_add, not_false_eq_true, and_self, true_and, Option.toList_some, Option.toList_none, List.append_nil, List.cons_append, List.nil_append, nI_01, nI_11, vh_K_wI, vh_R_wI, vh_Z_wI, vh_wI_sI, vh_K_sI, vh_R_sI, vh_Z_sI, vh_sI_sI, vh_I_sI]
    refine m_need hM' hR (fun f1 ci a1 a2 a3 a4 a5 => ?_)
    simp only [va_rf_s, pk_mul, nI_add, not_false_eq_true, and_self, true_and, Option.toList_some, Option.toList_none, List.append_nil, List.cons_append, List.nil_append, nI_01, nI_11, vh_K_wI, vh_R_wI, vh_Z_wI, vh_wI_sI, vh_K_sI, vh_R_sI, vh_Z_sI, vh_sI_sI, vh_I_sI]
    simp only [s_100_12, s_100_13, mk, mr0, mk0, mz0, mr1, mk1, mz1, mr2, mk2, mz2, mr3, mk3, mz3, mr4, mk4, mz4, mr5, mk5, mz5, mr6, mk6, mz6, mr7, mk7, mz7, mr8, mk8, mz8, mr9, mk9, mz9, mr10, mk10, mz10, mr11, mk11, mz11, mr12, mk12, mz12, mr13, mk13, mz13, mr14, mk14, mz14, mr15, mk15, mz15, mr16, mk16, mz16, mr17, mk17, mz17, mr18, mk18, mz18, va_rf_s, pk_mul, nI_add, not_false_eq_true, and_self, true_and, Option.toList_some, Option.toList_none, List.append_nil, List.cons_append, List.nil_append, nI_01, nI_11, vh_K_wI, vh_R_wI, vh_Z_wI, vh_wI_sI, vh_K_sI, vh_R_sI, vh_Z_sI, vh_sI_sI, vh_I_sI]
    have hM1 : MZ (vh_sI h f1) := hM'
    refine m_layer (h := vh_sI h f1) hM1 a1 a2 a3 (fun f2 lv b1 b2 b3 => ?_)
    rw [vh_I_sI] at b3
    simp only [va_rf_s, pk_mul, nI_add, not_false_eq_true, and_self, true_and, Option.toList_some, Option.toList_none, List.append_nil, List.cons_append, List.nil_append, nI_01, nI_11, vh_K_wI, vh_R_wI, vh_Z_wI, vh_wI_sI, vh_K_sI, vh_R_sI, vh_Z_sI, vh_sI_sI, vh_I_sI]
    simp only [s_100_16, s_100_17, s_100_18, s_100_21, s_100_22, mk, mr0, mk0, mz0, mr1, mk1, mz1, mr2, mk2, mz2, mr3, mk3, mz3, mr4, mk4, mz4, mr5, mk5, mz5, mr6, mk6, mz6, mr7, mk7, mz7, mr8, mk8, mz8, mr9, mk9, mz9, mr10, mk10, mz10, mr11, mk11, mz11, mr12, mk12, mz12, mr13, mk13, mz13, mr14, mk14, mz14, mr15, mk15, mz15, mr16, mk16, mz16, mr17, mk17, mz17, mr18, mk18, mz18, va_rf_s, pk_mul, nI_add, not_false_eq_true, and_self, true_and, Option.toList_some, Option.toList_none, List.append_nil, List.cons_append, List.nil_append, nI_01, nI_11, vh_K_wI, vh_R_wI, vh_Z_wI, vh_wI_sI, vh_K_sI, vh_R_sI, vh_Z_sI, vh_sI_sI, vh_I_sI]
    generalize hf3 : up2 f2 129 12 (nI 0) = f3
    have p1 : ∀ x, x ≠ 129 → ∀ j, f3 x j = f2 x j := fun x hx j => by rw [← hf3, up2_a _ _ _ hx]
    have p2 : ∀ j, j ≠ 12 → f3 129 j = f2 129 j := fun j hj => by rw [← hf3, up2_i _ _ _ _ hj]
    have p3 : f3 129 12 = nI 0 := by rw [← hf3, up2_s]
    have wf3 : WF (vh_I h) f3 := ⟨fun x x1 x2 j => by rw [p1 x x1, b3 x (by omega), a4 x x1 (by omega) (by omega)], fun j hj => by rw [p2 j (by omega), b3 129 (by decide), a5 j (by omega)]⟩
    have c11 : f3 129 11 = cI ci := by rw [p2 11 (by decide), b3 129 (by decide)]; exact a2
    have l38 : ∀ n, n < 16 → f3 138 n = nI (lv n) := fun n hn => by rw [p1 138 (by decide)]; exact b2 n hn
    have hM3 : MZ (vh_sI h f3) := hM'
    have fin : ∀ f' ci lv H t rd, WF (vh_I h) f' → SX ρs c ci lv → f' 129 11 = cI ci → (∀ n, n < 16 → f' 138 n = nI (lv n)) → (∀ x, x < 16384 → f' 136 x = if hc H x = true then nI (hr rd x) else -nI 1) → (∀ x, hr rd x < 2 ^ 31) → f' 129 12 = nI t → (∀ x, x < 16384 → f' 137 x = nI (if ci = 16 then CN ρs H c x else 0)) → FIN ρs c ci lv S H t rd → ∀ y1 y2 y3, Wp 100 232 [.ref 129, y1, y2, y3] [] (vh_sI h f') Q := by
      intro f' ci lv H t rd q1 q2 q3 q4 q5 q6 q7 q8 q9 y1 y2 y3
      simp only [s_100_232, s_100_233, s_100_234, s_100_237, mk, mr0, mk0, mz0, mr1, mk1, mz1, mr2, mk2, mz2, mr3, mk3, mz3, mr4, mk4, mz4, mr5, mk5, mz5, mr6, mk6, mz6, mr7, mk7, mz7, mr8, mk8, mz8, mr9, mk9, mz9, mr10, mk10, mz10, mr11, mk11, mz11, mr12, mk12, mz12, mr13, mk13, mz13, mr14, mk14, mz14, mr15, mk15, mz15, mr16, mk16, mz16, mr17, mk17, mz17, mr18, mk18, mz18, va_rf_s, pk_mul, nI_add, not_false_eq_true, and_self, true_and, Option.toList_some, Option.toList_none, List.append_nil, List.cons_append, List.nil_append, nI_01, nI_11, vh_K_wI, vh_R_wI, vh_Z_wI, vh_wI_sI, vh_K_sI, vh_R_sI, vh_Z_sI, vh_sI_sI, vh_I_sI, or_true]
      have st : MST (up2 f' 129 7 (nI 1)) ρs c S := ⟨ci, lv, H, t, rd, q2, by rw [up2_i _ _ _ _ (by decide)]; exact q3, fun n hn => by rw [up2_a _ _ _ (by decide)]; exact q4 n hn, fun x hx => by rw [up2_a _ _ _ (by decide)]; exact q5 x hx, q6, by rw [up2_i _ _ _ _ (by decide)]; exact q7, fun x hx => by rw [up2_a _ _ _ (by decide)]; exact q8 x hx, q9⟩
      have w : WF (vh_I h) (up2 f' 129 7 (nI 1)) := WF_trans q1 ⟨fun x x1 _ j => up2_a _ _ _ x1 j, fun j hj => up2_i _ _ _ _ (by omega)⟩
      exact hQ _ (fun x hx j => w.1 x (by omega) (by omega) j) ⟨WF_MRs w hR, fun x hx => by rw [w.1 130 (by decide) (by decide)]; exact hS x hx, fun _ => st⟩ st
    have l := l_w0 (h := vh_sI h f3) (Q := Q) (S := hc S) hM3 (fun x hx => (wf3.1 130 (by decide) (by decide) x).trans (hS x hx)) (fun f4 d1 d2 y1 y2 y3 => ?_) 16384 0 (by omega) f3 vt_un vt_un (fun _ _ _ _ _ => rfl) (fun x hx => absurd hx (by omega))
    · exact l
    · rw [vh_I_sI] at d1
      rw [vh_sI_sI]
      have wf4 : WF (vh_I h) f4 := WF_trans wf3 ⟨fun x x1 x2 j => d1 x (by omega) (by omega) (by omega) j, fun j hj => d1 129 (by decide) (by decide) (by decide) j⟩
      have c11' : f4 129 11 = cI ci := (d1 129 (by decide) (by decide) (by decide) 11).trans c11
      have l38' : ∀ n, n < 16 → f4 138 n = nI (lv n) := fun n hn => (d1 138 (by decide) (by decide) (by decide) n).trans (l38 n hn)
      have t12 : f4 129 12 = nI 0 := (d1 129 (by decide) (by decide) (by decide) 12).trans p3
      simp only [s_100_70, s_100_71, s_100_72, s_100_73, s_100_75]
      rw [if_neg (nI_ge (show 0 < 16 by omega) (show 16 < 2 ^ 31 by omega))]
      simp only [s_100_78, s_100_79, s_100_82, mk, mr0, mk0, mz0, mr1, mk1, mz1, mr2, mk2, mz2, mr3, mk3, mz3, mr4, mk4, mz4, mr5, mk5, mz5, mr6, mk6, mz6, mr7, mk7, mz7, mr8, mk8, mz8, mr9, mk9, mz9, mr10, mk10, mz10, mr11, mk11, mz11, mr12, mk12, mz12, mr13, mk13, mz13, mr14, mk14, mz14, mr15, mk15, mz15, mr16, mk16, mz16, mr17, mk17, mz17, mr18, mk18, mz18, va_rf_s, pk_mul, nI_add, not_false_eq_true, and_self, true_and, Option.toList_some, Option.toList_none, List.append_nil, List.cons_append, List.nil_append, nI_01, nI_11, vh_K_wI, vh_R_wI, vh_Z_wI, vh_wI_sI, vh_K_sI, vh_R_sI, vh_Z_sI, vh_sI_sI, vh_I_sI, c11']
      by_cases e : ci = 16
      · subst e
        obtain ⟨_, sx2, _⟩ := b1
        rw [if_neg (by decide)]
        simp only [s_100_85, s_100_86, s_100_87, s_100_88, s_100_89, s_100_92, s_100_93, mk, mr0, mk0, mz0, mr1, mk1, mz1, mr2, mk2, mz2, mr3, mk3, mz3, mr4, mk4, mz4, mr5, mk5, mz5, mr6, mk6, mz6, mr7, mk7, mz7, mr8, mk8, mz8, mr9, mk9, mz9, mr10, mk10, mz10, mr11, mk11, mz11, mr12, mk12, mz12, mr13, mk13, mz13, mr14, mk14, mz14, mr15, mk15, mz15, mr16, mk16, mz16, mr17, mk17, mz17, mr18, mk18, mz18, va_rf_s, pk_mul, nI_add, not_false_eq_true, and_self, true_and, Option.toList_some, Option.toList_none, List.append_nil, List.cons_append, List.nil_append, nI_01, nI_11, vh_K_wI, vh_R_wI, vh_Z_wI, vh_wI_sI, vh_K_sI, vh_R_sI, vh_Z_sI, vh_sI_sI, vh_I_sI, up2_s, s_100_96]
        rw [if_neg (by decide)]
        have go := l_rounds (ρs := ρs) (c := c) (lv := lv) (S := S) (Q := Q) hM' hR (sx2 rfl).2 (fun f5 j g0 g1 g2 y1 y2 y3 => ?_) 16400 0 (by omega) (by show 0 < 16; omega) (Nat.zero_le _) (up2 f4 129 25 (nI 1)) y3 ⟨WF_trans wf4 ⟨fun x x1 _ j => up2_a _ _ _ x1 j, fun j hj => up2_i _ _ _ _ (by omega)⟩, by rw [up2_i _ _ _ _ (by decide)]; exact c11', fun n hn => by rw [up2_a _ _ _ (by decide)]; exact l38' n hn, by rw [up2_i _ _ _ _ (by decide)]; exact t12, fun x hx => by rw [up2_a _ _ _ (by decide)]; exact (d2 x hx).1, fun x hx _ => ⟨0, by rw [up2_a _ _ _ (by decide)]; exact (d2 x hx).2.2, Nat.le_refl _⟩, fun x hx => by rw [up2_a _ _ _ (by decide)]; exact (d2 x hx).2.1⟩
        · exact go
        · obtain ⟨w1, w2, w3, w4, w5, w6, w7⟩ := g2
          have kb : ∀ x, hr (itr ρs c lv S j).2.2 x < 2 ^ 31 := fun x => by
            have := (itr_b (ρs := ρs) (c := c) (lv := lv) (S := S) j).2.2 (x / 1024) (x / 32 % 32) (x % 32)
            unfold hr; omega
          simp only [s_100_190, s_100_191, s_100_192, s_100_195, s_100_196, mk, mr0, mk0, mz0, mr1, mk1, mz1, mr2, mk2, mz2, mr3, mk3, mz3, mr4, mk4, mz4, mr5, mk5, mz5, mr6, mk6, mz6, mr7, mk7, mz7, mr8, mk8, mz8, mr9, mk9, mz9, mr10, mk10, mz10, mr11, mk11, mz11, mr12, mk12, mz12, mr13, mk13, mz13, mr14, mk14, mz14, mr15, mk15, mz15, mr16, mk16, mz16, mr17, mk17, mz17, mr18, mk18, mz18, va_rf_s, pk_mul, nI_add, not_false_eq_true, and_self, true_and, Option.toList_some, Option.toList_none, List.append_nil, List.cons_append, List.nil_append, nI_01, nI_11, vh_K_wI, vh_R_wI, vh_Z_wI, vh_wI_sI, vh_K_sI, vh_R_sI, vh_Z_sI, vh_sI_sI, vh_I_sI]
          generalize hf6 : up2 f5 129 19 (-nI 1) = f6
          have r1 : ∀ x, x ≠ 129 → ∀ j, f6 x j = f5 x j := fun x hx j => by rw [← hf6, up2_a _ _ _ hx]
          have r2 : ∀ j, j ≠ 19 → f6 129 j = f5 129 j := fun j hj => by rw [← hf6, up2_i _ _ _ _ hj]
          have r3 : f6 129 19 = -nI 1 := by rw [← hf6, up2_s]
          have wf6 : WF (vh_I h) f6 := WF_trans w1 ⟨fun x x1 _ j => r1 x x1 j, fun j hj => r2 j (by omega)⟩
          have hM6 : MZ (vh_sI h f6) := hM'
          have l2 := l_wcnt (h := vh_sI h f6) (Q := Q) (c := c) (ρs := ρs) (H := (itr ρs c lv S j).2.1) (rc := hr (itr ρs c lv S j).2.2) hM6 (WF_MRs wf6 hR) ((r2 11 (by decide)).trans w2) kb r3 (fun x hx => (r1 136 (by decide) x).trans (w5 x hx)) (fun f7 z1 z2 z3 y1 y2 y3 => ?_) c 0 (by omega) f6 y2 y3 ⟨fun _ _ _ _ _ _ => rfl, fun _ _ _ => rfl⟩ (fun _ => rfl) (fun x hx => by rw [r1 137 (by decide)]; exact w7 x hx)
          · exact l2
          · rw [vh_I_sI] at z1 z2
            rw [vh_sI_sI]
            refine fin f7 16 lv (itr ρs c lv S j).2.1 (itr ρs c lv S j).1.2.2 (itr ρs c lv S j).2.2 (WF_trans wf6 ⟨fun x x1 x2 jj => z1.1 x x1 (by omega) (by omega) (by omega) jj, fun jj hjj => z1.2 jj (by omega) (by omega)⟩) ⟨by assumption, sx2, fun z => absurd z (by omega)⟩ (by rw [z1.2 11 (by decide) (by decide), r2 11 (by decide)]; exact w2) (fun n hn => by rw [z1.1 138 (by decide) (by decide) (by decide) (by omega), r1 138 (by decide)]; exact w3 n hn) (fun x hx => by rw [z2, r1 136 (by decide)]; exact w5 x hx) kb (by rw [z1.2 12 (by decide) (by decide), r2 12 (by decide)]; exact w4) (fun x hx => by rw [if_pos rfl]; exact z3 x hx) (Or.inl ⟨rfl, j, g1, rfl, rfl, rfl⟩) _ _ _
      · have c16 : ci < 16 := b1.1.elim (fun z => z.1) (fun z => absurd z.1 e)
        have gt : 0 ≤ cI ci := by
          rw [show cI ci = nI ci from if_neg e]
          exact Int32.not_lt.mp (nI_pos (by omega))
        rw [if_pos gt]
        simp only [s_100_190, s_100_191, s_100_192, s_100_195, s_100_196, mk, mr0, mk0, mz0, mr1, mk1, mz1, mr2, mk2, mz2, mr3, mk3, mz3, mr4, mk4, mz4, mr5, mk5, mz5, mr6, mk6, mz6, mr7, mk7, mz7, mr8, mk8, mz8, mr9, mk9, mz9, mr10, mk10, mz10, mr11, mk11, mz11, mr12, mk12, mz12, mr13, mk13, mz13, mr14, mk14, mz14, mr15, mk15, mz15, mr16, mk16, mz16, mr17, mk17, mz17, mr18, mk18, mz18, va_rf_s, pk_mul, nI_add, not_false_eq_true, and_self, true_and, Option.toList_some, Option.toList_none, List.append_nil, List.cons_append, List.nil_append, nI_01, nI_11, vh_K_wI, vh_R_wI, vh_Z_wI, vh_wI_sI, vh_K_sI, vh_R_sI, vh_Z_sI, vh_sI_sI, vh_I_sI]
        simp only [s_100_197, s_100_198, s_100_199, s_100_202, mk, mr0, mk0, mz0, mr1, mk1, mz1, mr2, mk2, mz2, mr3, mk3, mz3, mr4, mk4, mz4, mr5, mk5, mz5, mr6, mk6, mz6, mr7, mk7, mz7, mr8, mk8, mz8, mr9, mk9, mz9, mr10, mk10, mz10, mr11, mk11, mz11, mr12, mk12, mz12, mr13, mk13, mz13, mr14, mk14, mz14, mr15, mk15, mz15, mr16, mk16, mz16, mr17, mk17, mz17, mr18, mk18, mz18, va_rf_s, pk_mul, nI_add, not_false_eq_true, and_self, true_and, Option.toList_some, Option.toList_none, List.append_nil, List.cons_append, List.nil_append, nI_01, nI_11, vh_K_wI, vh_R_wI, vh_Z_wI, vh_wI_sI, vh_K_sI, vh_R_sI, vh_Z_sI, vh_sI_sI, vh_I_sI]
        have cf : ∀ j, j ≠ 19 → up2 f4 129 19 (-nI 1) 129 j = f4 129 j := fun j hj => up2_i _ _ _ _ hj
        have ca : ∀ x, x ≠ 129 → ∀ j, up2 f4 129 19 (-nI 1) x j = f4 x j := fun x hx j => up2_a _ _ _ hx j
        have wf5 : WF (vh_I h) (up2 f4 129 19 (-nI 1)) := WF_trans wf4 ⟨fun x x1 _ j => ca x x1 j, fun j hj => cf j (by omega)⟩
        have e := fun y1 y2 y3 => fin (up2 f4 129 19 (-nI 1)) ci lv S 0 (fun _ _ _ => 0) wf5 b1 (by rw [cf 11 (by decide)]; exact c11') (fun n hn => by rw [ca 138 (by decide)]; exact l38' n hn) (fun x hx => by rw [ca 136 (by decide)]; exact (d2 x hx).1) (fun x => by show 0 < 2 ^ 31; omega) (by rw [cf 12 (by decide)]; exact t12) (fun x hx => by rw [ca 137 (by decide), if_neg e]; exact (d2 x hx).2.1) (Or.inr ⟨c16, rfl, rfl, rfl⟩) y1 y2 y3
        split
        · exact e _ _ _
        · simp only [s_100_205, s_100_206, s_100_209, mk, mr0, mk0, mz0, mr1, mk1, mz1, mr2, mk2, mz2, mr3, mk3, mz3, mr4, mk4, mz4, mr5, mk5, mz5, mr6, mk6, mz6, mr7, mk7, mz7, mr8, mk8, mz8, mr9, mk9, mz9, mr10, mk10, mz10, mr11, mk11, mz11, mr12, mk12, mz12, mr13, mk13, mz13, mr14, mk14, mz14, mr15, mk15, mz15, mr16, mk16, mz16, mr17, mk17, mz17, mr18, mk18, mz18, va_rf_s, pk_mul, nI_add, not_false_eq_true, and_self, true_and, Option.toList_some, Option.toList_none, List.append_nil, List.cons_append, List.nil_append, nI_01, nI_11, vh_K_wI, vh_R_wI, vh_Z_wI, vh_wI_sI, vh_K_sI, vh_R_sI, vh_Z_sI, vh_sI_sI, vh_I_sI, cf 11 (by decide), c11']
          rw [if_pos gt]
          exact e _ _ _
  · rw [if_neg k0]
    simp only [s_100_7]
    have := hQ (vh_I h) (fun _ _ _ => rfl) ⟨hR, hS, hK⟩ (hK k0)
    rw [vh_sI_id] at this
    exact this

-- ===== the reference: need (end), layer =====
theorem n16_0 : (nI 16 = 0) = False := by decide
/-- a relation as 0 and 1 in comes -/
def CM (f : Nat → Nat → Int32) (R : Nat → Nat → Bool) : Prop := ∀ n t, n < 16 → t < 16 → f 140 (16 * n + t) = if R n t = true then nI 1 else nI 0
theorem l_zero {h : vt_H} {Q : vt_Q} (hM : MZ h) (hQ : ∀ f', (∀ x, x ≠ 139 → ∀ j, f' x j = vh_I h x j) → (∀ j, j < 256 → f' 139 j = nI 0) → ∀ y1 y2 y3 y4 y5, Wp 101 22 [.ref 129, y1, y2, y3, y4, y5] [] (vh_sI h f') Q) :
    ∀ (m k : Nat), k + m = 256 → ∀ f0 y2 y3 y4 y5, (∀ x, x ≠ 139 → ∀ j, f0 x j = vh_I h x j) → (∀ j, j < k → f0 139 j = nI 0) → Wp 101 2 [.ref 129, .int (nI k), y2, y3, y4, y5] [] (vh_sI h f0) Q := by
  obtain ⟨mk, ⟨mr0, mk0, mz0⟩, ⟨mr1, mk1, mz1⟩, ⟨mr2, mk2, mz2⟩, ⟨mr3, mk3, mz3⟩, ⟨mr4, mk4, mz4⟩, ⟨mr5, mk5, mz5⟩, ⟨mr6, mk6, mz6⟩, ⟨mr7, mk7, mz7⟩, ⟨mr8, mk8, mz8⟩, ⟨mr9, mk9, mz9⟩, ⟨mr10, mk10, mz10⟩, ⟨mr11, mk11, mz11⟩, ⟨mr12, mk12, mz12⟩, ⟨mr13, mk13, mz13⟩, ⟨mr14, mk14, mz14⟩, ⟨mr15, mk15, mz15⟩, ⟨mr16, mk16, mz16⟩, ⟨mr17, mk17, mz17⟩, ⟨mr18, mk18, mz18⟩⟩ := hM
  intro m
  induction m with
  | zero =>
    intro k hk f0 y2 y3 y4 y5 h1 h2
    have : k = 256 := by omega
    subst this
    simp only [s_101_2, s_101_3, s_101_6, if_pos (nI_le (Nat.le_refl 256) (show 256 < 2 ^ 31 by omega))]
    exact hQ f0 h1 h2 _ _ _ _ _
  | succ m ih =>
    intro k hk f0 y2 y3 y4 y5 h1 h2
    have hlt : k < 256 := by omega
    simp only [s_101_2, s_101_3, s_101_6, if_neg (nI_ge hlt (show 256 < 2 ^ 31 by omega))]
    simp only [s_101_9, s_101_10, s_101_13, s_101_14, s_101_15, s_101_16, s_101_19, mk, mr0, mk0, mz0, mr1, mk1, mz1, mr2, mk2, mz2, mr3, mk3, mz3, mr4, mk4, mz4, mr5, mk5, mz5, mr6, mk6, mz6, mr7, mk7, mz7, mr8, mk8, mz8, mr9, mk9, mz9, mr10, mk10, mz10, mr11, mk11, mz11, mr12, mk12, mz12, mr13, mk13, mz13, mr14, mk14, mz14, mr15, mk15, mz15, mr16, mk16, mz16, mr17, mk17, mz17, mr18, mk18, mz18, va_rf_s, pk_mul, nI_add, not_false_eq_true, and_self, true_and, Option.toList_some, Option.toList_none, List.append_nil, List.cons_append, List.nil_append, nI_01, nI_11, vh_K_wI, vh_R_wI, vh_Z_wI, vh_wI_sI, vh_K_sI, vh_R_sI, vh_Z_sI, vh_sI_sI, vh_I_sI, cl (show k < 2 ^ 31 by omega), ib hlt (show 256 ≤ 2 ^ 31 by omega)]
    refine ih (k + 1) (by omega) _ _ _ _ _ (fun x hx j => ?_) (fun j hj => ?_)
    · rw [up2_a _ _ _ hx]; exact h1 x hx j
    · by_cases e : j = k
      · subst e; rw [up2_s]
      · rw [up2_i _ _ _ _ e]; exact h2 j (by omega)
theorem l_comes {h : vt_H} {Q : vt_Q} {R : Nat → Nat → Bool} (hM : MZ h) (hN : ∀ n m, n < 16 → m < 16 → (vh_I h 139 (16 * n + m) ≤ 0 ↔ ¬ R n m = true)) (hQ : ∀ f', (∀ x, x ≠ 140 → ∀ j, f' x j = vh_I h x j) → CM f' R → ∀ y1 y2 y3 y4 y5, Wp 101 193 [.ref 129, y1, y2, y3, y4, y5] [] (vh_sI h f') Q) :
    ∀ (m k : Nat), k + m = 256 → ∀ f0 y2 y3 y4 y5, (∀ x, x ≠ 140 → ∀ j, f0 x j = vh_I h x j) → (∀ j, j < k → f0 140 j = if R (j / 16) (j % 16) = true then nI 1 else nI 0) → Wp 101 160 [.ref 129, .int (nI k), y2, y3, y4, y5] [] (vh_sI h f0) Q := by
  obtain ⟨mk, ⟨mr0, mk0, mz0⟩, ⟨mr1, mk1, mz1⟩, ⟨mr2, mk2, mz2⟩, ⟨mr3, mk3, mz3⟩, ⟨mr4, mk4, mz4⟩, ⟨mr5, mk5, mz5⟩, ⟨mr6, mk6, mz6⟩, ⟨mr7, mk7, mz7⟩, ⟨mr8, mk8, mz8⟩, ⟨mr9, mk9, mz9⟩, ⟨mr10, mk10, mz10⟩, ⟨mr11, mk11, mz11⟩, ⟨mr12, mk12, mz12⟩, ⟨mr13, mk13, mz13⟩, ⟨mr14, mk14, mz14⟩, ⟨mr15, mk15, mz15⟩, ⟨mr16, mk16, mz16⟩, ⟨mr17, mk17, mz17⟩, ⟨mr18, mk18, mz18⟩⟩ := hM
  intro m
  induction m with
  | zero =>
    intro k hk f0 y2 y3 y4 y5 h1 h2
    have : k = 256 := by omega
    subst this
    simp only [s_101_160, s_101_161, s_101_164, if_pos (nI_le (Nat.le_refl 256) (show 256 < 2 ^ 31 by omega))]
    refine hQ f0 h1 (fun n t hn ht => ?_) _ _ _ _ _
    rw [h2 _ (by omega), show (16 * n + t) / 16 = n by omega, show (16 * n + t) % 16 = t by omega]
  | succ m ih =>
    intro k hk f0 y2 y3 y4 y5 h1 h2
    have hlt : k < 256 := by omega
    have e := hN (k / 16) (k % 16) (by omega) (by omega)
    rw [show 16 * (k / 16) + k % 16 = k by omega] at e
    simp only [s_101_160, s_101_161, s_101_164, if_neg (nI_ge hlt (show 256 < 2 ^ 31 by omega))]
    simp only [s_101_167, s_101_168, s_101_171, s_101_172, s_101_173, s_101_176, s_101_177, s_101_178, mk, mr0, mk0, mz0, mr1, mk1, mz1, mr2, mk2, mz2, mr3, mk3, mz3, mr4, mk4, mz4, mr5, mk5, mz5, mr6, mk6, mz6, mr7, mk7, mz7, mr8, mk8, mz8, mr9, mk9, mz9, mr10, mk10, mz10, mr11, mk11, mz11, mr12, mk12, mz12, mr13, mk13, mz13, mr14, mk14, mz14, mr15, mk15, mz15, mr16, mk16, mz16, mr17, mk17, mz17, mr18, mk18, mz18, va_rf_s, pk_mul, nI_add, not_false_eq_true, and_self, true_and, Option.toList_some, Option.toList_none, List.append_nil, List.cons_append, List.nil_append, nI_01, nI_11, vh_K_wI, vh_R_wI, vh_Z_wI, vh_wI_sI, vh_K_sI, vh_R_sI, vh_Z_sI, vh_sI_sI, vh_I_sI, cl (show k < 2 ^ 31 by omega), ib hlt (show 256 ≤ 2 ^ 31 by omega), h1 139 (by decide)]
    have fin : ∀ z : Int32, (z = nI 0 ∨ z = nI 1) → z = (if R (k / 16) (k % 16) = true then nI 1 else nI 0) → Wp 101 186 [.ref 129, .int (nI k), y2, y3, y4, y5] [.int z, .int (nI k), .ref 140] (vh_sI h f0) Q := by
      intro z hz01 hz
      have hz01' : (z = 0 ∨ z = 1) = True := eq_true hz01
      simp only [s_101_186, s_101_187, s_101_190, mk, mr0, mk0, mz0, mr1, mk1, mz1, mr2, mk2, mz2, mr3, mk3, mz3, mr4, mk4, mz4, mr5, mk5, mz5, mr6, mk6, mz6, mr7, mk7, mz7, mr8, mk8, mz8, mr9, mk9, mz9, mr10, mk10, mz10, mr11, mk11, mz11, mr12, mk12, mz12, mr13, mk13, mz13, mr14, mk14, mz14, mr15, mk15, mz15, mr16, mk16, mz16, mr17, mk17, mz17, mr18, mk18, mz18, va_rf_s, pk_mul, nI_add, not_false_eq_true, and_self, true_and, Option.toList_some, Option.toList_none, List.append_nil, List.cons_append, List.nil_append, nI_01, nI_11, vh_K_wI, vh_R_wI, vh_Z_wI, vh_wI_sI, vh_K_sI, vh_R_sI, vh_Z_sI, vh_sI_sI, vh_I_sI, cl (show k < 2 ^ 31 by omega), ib hlt (show 256 ≤ 2 ^ 31 by omega), hz01']
      refine ih (k + 1) (by omega) _ _ _ _ _ (fun x hx j => ?_) (fun j hj => ?_)
      · rw [up2_a _ _ _ hx]; exact h1 x hx j
      · by_cases e : j = k
        · subst e; rw [up2_s]; exact hz
        · rw [up2_i _ _ _ _ e]; exact h2 j (by omega)
    by_cases q : R (k / 16) (k % 16) = true
    · rw [if_neg (fun z => e.mp z q)]
      simp only [s_101_181, s_101_182]
      exact fin _ (Or.inr rfl) (by rw [if_pos q])
    · rw [if_pos (e.mpr q)]
      simp only [s_101_185]
      exact fin _ (Or.inl rfl) (by rw [if_neg q])
theorem l_warI {by' : Nat} {h : vt_H} {Q : vt_Q} {R : Nat → Nat → Bool} (hM : MZ h) (hb : by' < 16) (hQ : ∀ f', (∀ x, x ≠ 140 → ∀ j, f' x j = vh_I h x j) → CM f' (wst R by') → ∀ y2 y3 y4 y5, Wp 101 257 [.ref 129, .int (nI by'), y2, y3, y4, y5] [] (vh_sI h f') Q) :
    ∀ (m k : Nat), k + m = 256 → ∀ f0 y3 y4 y5, (∀ x, x ≠ 140 → ∀ j, f0 x j = vh_I h x j) → (∀ n t, n < 16 → t < 16 → f0 140 (16 * n + t) = if (if 16 * n + t < k then wst R by' n t else R n t) = true then nI 1 else nI 0) → Wp 101 203 [.ref 129, .int (nI by'), .int (nI k), y3, y4, y5] [] (vh_sI h f0) Q := by
  obtain ⟨mk, ⟨mr0, mk0, mz0⟩, ⟨mr1, mk1, mz1⟩, ⟨mr2, mk2, mz2⟩, ⟨mr3, mk3, mz3⟩, ⟨mr4, mk4, mz4⟩, ⟨mr5, mk5, mz5⟩, ⟨mr6, mk6, mz6⟩, ⟨mr7, mk7, mz7⟩, ⟨mr8, mk8, mz8⟩, ⟨mr9, mk9, mz9⟩, ⟨mr10, mk10, mz10⟩, ⟨mr11, mk11, mz11⟩, ⟨mr12, mk12, mz12⟩, ⟨mr13, mk13, mz13⟩, ⟨mr14, mk14, mz14⟩, ⟨mr15, mk15, mz15⟩, ⟨mr16, mk16, mz16⟩, ⟨mr17, mk17, mz17⟩, ⟨mr18, mk18, mz18⟩⟩ := hM
  intro m
  induction m with
  | zero =>
    intro k hk f0 y3 y4 y5 h1 h2
    have : k = 256 := by omega
    subst this
    simp only [s_101_203, s_101_204, s_101_207, if_pos (nI_le (Nat.le_refl 256) (show 256 < 2 ^ 31 by omega))]
    refine hQ f0 h1 (fun n t hn ht => ?_) _ _ _ _
    rw [h2 n t hn ht, if_pos (show 16 * n + t < 256 by omega)]
  | succ m ih =>
    intro k hk f0 y3 y4 y5 h1 h2
    have hlt : k < 256 := by omega
    have hn : k / 16 < 16 := by omega
    have ht : k % 16 < 16 := by omega
    have col : f0 140 (16 * (k / 16) + by') = if R (k / 16) by' = true then nI 1 else nI 0 := by
      rw [h2 _ _ hn hb, wst_col, ite_self]
    have row : f0 140 (16 * by' + k % 16) = if R by' (k % 16) = true then nI 1 else nI 0 := by
      rw [h2 _ _ hb ht, wst_by, ite_self]
    have kk : 16 * (k / 16) + k % 16 = k := by omega
    have keep : (wst R by' (k / 16) (k % 16) = R (k / 16) (k % 16)) → Wp 101 251 [.ref 129, .int (nI by'), .int (nI k), y3, y4, y5] [] (vh_sI h f0) Q := by
      intro same
      simp only [s_101_251, s_101_254, va_rf_s, pk_mul, nI_add, not_false_eq_true, and_self, true_and, Option.toList_some, Option.toList_none, List.append_nil, List.cons_append, List.nil_append, nI_01, nI_11, vh_K_wI, vh_R_wI, vh_Z_wI, vh_wI_sI, vh_K_sI, vh_R_sI, vh_Z_sI, vh_sI_sI, vh_I_sI]
      refine ih (k + 1) (by omega) f0 _ _ _ h1 (fun n t hn' ht' => ?_)
      rw [h2 n t hn' ht']
      by_cases e : 16 * n + t = k
      · have e1 : n = k / 16 := by omega
        have e2 : t = k % 16 := by omega
        rw [if_neg (show ¬ 16 * n + t < k by omega), if_pos (show 16 * n + t < k + 1 by omega), e1, e2, same]
      · by_cases w : 16 * n + t < k
        · rw [if_pos w, if_pos (show 16 * n + t < k + 1 by omega)]
        · rw [if_neg w, if_neg (show ¬ 16 * n + t < k + 1 by omega)]
    simp only [s_101_203, s_101_204, s_101_207, if_neg (nI_ge hlt (show 256 < 2 ^ 31 by omega))]
    simp only [s_101_210, s_101_211, s_101_214, s_101_216, s_101_217, s_101_219, s_101_220, s_101_221, s_101_222, s_101_223, s_101_224, mk, mr0, mk0, mz0, mr1, mk1, mz1, mr2, mk2, mz2, mr3, mk3, mz3, mr4, mk4, mz4, mr5, mk5, mz5, mr6, mk6, mz6, mr7, mk7, mz7, mr8, mk8, mz8, mr9, mk9, mz9, mr10, mk10, mz10, mr11, mk11, mz11, mr12, mk12, mz12, mr13, mk13, mz13, mr14, mk14, mz14, mr15, mk15, mz15, mr16, mk16, mz16, mr17, mk17, mz17, mr18, mk18, mz18, va_rf_s, pk_mul, nI_add, not_false_eq_true, and_self, true_and, Option.toList_some, Option.toList_none, List.append_nil, List.cons_append, List.nil_append, nI_01, nI_11, vh_K_wI, vh_R_wI, vh_Z_wI, vh_wI_sI, vh_K_sI, vh_R_sI, vh_Z_sI, vh_sI_sI, vh_I_sI, n16_0, pk_div (show k < 2 ^ 31 by omega) (show 0 < 16 by omega) (show 16 < 2 ^ 31 by omega), cl (show 16 * (k / 16) + by' < 2 ^ 31 by omega), ib (show 16 * (k / 16) + by' < 256 by omega) (show 256 ≤ 2 ^ 31 by omega), col]
    by_cases q1 : R (k / 16) by' = true
    · rw [if_pos q1, if_neg nI_10]
      have rem : nI k - nI (k / 16 * 16) = nI (k % 16) := by
        have := pk_rem (a := k) (d := 16) (by omega) (by omega) (by omega)
        rw [pk_div (show k < 2 ^ 31 by omega) (show 0 < 16 by omega) (show 16 < 2 ^ 31 by omega), pk_mul] at this
        exact this
      simp only [s_101_227, s_101_228, s_101_231, s_101_233, s_101_234, s_101_235, s_101_236, s_101_238, s_101_239, s_101_240, s_101_241, mk, mr0, mk0, mz0, mr1, mk1, mz1, mr2, mk2, mz2, mr3, mk3, mz3, mr4, mk4, mz4, mr5, mk5, mz5, mr6, mk6, mz6, mr7, mk7, mz7, mr8, mk8, mz8, mr9, mk9, mz9, mr10, mk10, mz10, mr11, mk11, mz11, mr12, mk12, mz12, mr13, mk13, mz13, mr14, mk14, mz14, mr15, mk15, mz15, mr16, mk16, mz16, mr17, mk17, mz17, mr18, mk18, mz18, va_rf_s, pk_mul, nI_add, not_false_eq_true, and_self, true_and, Option.toList_some, Option.toList_none, List.append_nil, List.cons_append, List.nil_append, nI_01, nI_11, vh_K_wI, vh_R_wI, vh_Z_wI, vh_wI_sI, vh_K_sI, vh_R_sI, vh_Z_sI, vh_sI_sI, vh_I_sI, n16_0, pk_div (show k < 2 ^ 31 by omega) (show 0 < 16 by omega) (show 16 < 2 ^ 31 by omega), rem, cl (show 16 * by' + k % 16 < 2 ^ 31 by omega), ib (show 16 * by' + k % 16 < 256 by omega) (show 256 ≤ 2 ^ 31 by omega), row]
      by_cases q2 : R by' (k % 16) = true
      · rw [if_pos q2, if_neg nI_10]
        simp only [s_101_244, s_101_245, s_101_248, s_101_249, s_101_250, s_101_251, s_101_254, mk, mr0, mk0, mz0, mr1, mk1, mz1, mr2, mk2, mz2, mr3, mk3, mz3, mr4, mk4, mz4, mr5, mk5, mz5, mr6, mk6, mz6, mr7, mk7, mz7, mr8, mk8, mz8, mr9, mk9, mz9, mr10, mk10, mz10, mr11, mk11, mz11, mr12, mk12, mz12, mr13, mk13, mz13, mr14, mk14, mz14, mr15, mk15, mz15, mr16, mk16, mz16, mr17, mk17, mz17, mr18, mk18, mz18, va_rf_s, pk_mul, nI_add, not_false_eq_true, and_self, true_and, Option.toList_some, Option.toList_none, List.append_nil, List.cons_append, List.nil_append, nI_01, nI_11, vh_K_wI, vh_R_wI, vh_Z_wI, vh_wI_sI, vh_K_sI, vh_R_sI, vh_Z_sI, vh_sI_sI, vh_I_sI, cl (show k < 2 ^ 31 by omega), ib hlt (show 256 ≤ 2 ^ 31 by omega)]
        refine ih (k + 1) (by omega) _ _ _ _ (fun x hx j => ?_) (fun n t hn' ht' => ?_)
        · rw [up2_a _ _ _ hx]; exact h1 x hx j
        · by_cases e : 16 * n + t = k
          · have e1 : n = k / 16 := by omega
            have e2 : t = k % 16 := by omega
            rw [e, up2_s, if_pos (show k < k + 1 by omega), e1, e2, if_pos (wst_t.mpr (Or.inr ⟨q1, q2⟩))]
          · rw [up2_i _ _ _ _ e, h2 n t hn' ht']
            by_cases w : 16 * n + t < k
            · rw [if_pos w, if_pos (show 16 * n + t < k + 1 by omega)]
            · rw [if_neg w, if_neg (show ¬ 16 * n + t < k + 1 by omega)]
      · rw [if_neg q2, if_pos nI_00]
        refine keep (beq2 ⟨fun z => ?_, fun z => wst_t.mpr (Or.inl z)⟩)
        rcases wst_t.mp z with z | z
        · exact z
        · exact absurd z.2 q2
    · rw [if_neg q1, if_pos nI_00]
      refine keep (beq2 ⟨fun z => ?_, fun z => wst_t.mpr (Or.inl z)⟩)
      rcases wst_t.mp z with z | z
      · exact z
      · exact absurd z.1 q1
theorem l_war {h : vt_H} {Q : vt_Q} {R : Nat → Nat → Bool} (hM : MZ h) (hQ : ∀ f', (∀ x, x ≠ 140 → ∀ j, f' x j = vh_I h x j) → CM f' (wsh R 16) → ∀ y1 y2 y3 y4 y5, Wp 101 263 [.ref 129, y1, y2, y3, y4, y5] [] (vh_sI h f') Q) :
    ∀ (m k : Nat), k + m = 16 → ∀ f0 y2 y3 y4 y5, (∀ x, x ≠ 140 → ∀ j, f0 x j = vh_I h x j) → CM f0 (wsh R k) → Wp 101 195 [.ref 129, .int (nI k), y2, y3, y4, y5] [] (vh_sI h f0) Q := by
  intro m
  induction m with
  | zero =>
    intro k hk f0 y2 y3 y4 y5 h1 h2
    have : k = 16 := by omega
    subst this
    simp only [s_101_195, s_101_196, s_101_198, if_pos (nI_le (Nat.le_refl 16) (show 16 < 2 ^ 31 by omega))]
    exact hQ f0 h1 h2 _ _ _ _ _
  | succ m ih =>
    intro k hk f0 y2 y3 y4 y5 h1 h2
    have hlt : k < 16 := by omega
    simp only [s_101_195, s_101_196, s_101_198, if_neg (nI_ge hlt (show 16 < 2 ^ 31 by omega))]
    simp only [s_101_201, s_101_202]
    refine l_warI (R := wsh R k) hM hlt (fun f1 z1 z2 y2 y3 y4 y5 => ?_) 256 0 (by omega) f0 _ _ _ h1 (fun n t hn ht => by rw [if_neg (show ¬ 16 * n + t < 0 by omega)]; exact h2 n t hn ht)
    simp only [s_101_257, s_101_260, va_rf_s, pk_mul, nI_add, not_false_eq_true, and_self, true_and, Option.toList_some, Option.toList_none, List.append_nil, List.cons_append, List.nil_append, nI_01, nI_11, vh_K_wI, vh_R_wI, vh_Z_wI, vh_wI_sI, vh_K_sI, vh_R_sI, vh_Z_sI, vh_sI_sI, vh_I_sI]
    exact ih (k + 1) (by omega) f1 _ _ _ _ z1 z2
/-- the pairs from k on that make a circle -/
def cq (nd st : Nat → Nat → Bool) (n m : Nat) : Prop := st n m = true ∧ (n = m ∨ wsh nd 16 m n = true)
def mI (j : Nat) : Int32 := if j = 0 then -nI 1 else nI (j - 1)
theorem l_mcirc {h : vt_H} {Q : vt_Q} {nd st : Nat → Nat → Bool} {f1 : Nat → Nat → Int32} (hM : MZ h) (hN : ∀ n m, n < 16 → m < 16 → (f1 139 (16 * n + m) = nI 2 ↔ st n m = true)) (hC : CM f1 (wsh nd 16)) (hQ : ∀ ci, CI nd st ci → Q none (vh_sI h (up2 f1 129 11 (cI ci)))) :
    ∀ j, j ≤ 256 → ∀ ci y2 y3 y4 y5, ((ci = 16 ∧ ∀ n m, n < 16 → m < 16 → j ≤ 16 * n + m → ¬ cq nd st n m) ∨ (ci < 16 ∧ (∃ m, m < 16 ∧ cq nd st ci m) ∧ ∀ n m, n < ci → m < 16 → j ≤ 16 * n + m → ¬ cq nd st n m)) → Wp 101 272 [.ref 129, .int (mI j), y2, y3, y4, y5] [] (vh_sI h (up2 f1 129 11 (cI ci))) Q := by
  obtain ⟨mk, ⟨mr0, mk0, mz0⟩, ⟨mr1, mk1, mz1⟩, ⟨mr2, mk2, mz2⟩, ⟨mr3, mk3, mz3⟩, ⟨mr4, mk4, mz4⟩, ⟨mr5, mk5, mz5⟩, ⟨mr6, mk6, mz6⟩, ⟨mr7, mk7, mz7⟩, ⟨mr8, mk8, mz8⟩, ⟨mr9, mk9, mz9⟩, ⟨mr10, mk10, mz10⟩, ⟨mr11, mk11, mz11⟩, ⟨mr12, mk12, mz12⟩, ⟨mr13, mk13, mz13⟩, ⟨mr14, mk14, mz14⟩, ⟨mr15, mk15, mz15⟩, ⟨mr16, mk16, mz16⟩, ⟨mr17, mk17, mz17⟩, ⟨mr18, mk18, mz18⟩⟩ := hM
  intro j
  induction j with
  | zero =>
    intro _ ci y2 y3 y4 y5 hI
    have e : mI 0 = -nI 1 := rfl
    simp only [s_101_272, s_101_273, e, s_101_326]
    rw [if_pos (by decide)]
    refine hQ ci ?_
    rcases hI with ⟨a, b⟩ | ⟨a, ⟨m, b1, b2⟩, c⟩
    · refine Or.inr ⟨a, fun n hn hc => ?_⟩
      obtain ⟨m, z1, z2, z3⟩ := hc
      exact b n m hn z1 (by omega) ⟨z2, z3.elim (fun w => Or.inl w.symm) Or.inr⟩
    · refine Or.inl ⟨a, ⟨m, b1, b2.1, b2.2.elim (fun w => Or.inl w.symm) Or.inr⟩, fun n hn hc => ?_⟩
      obtain ⟨m, z1, z2, z3⟩ := hc
      exact c n m hn z1 (by omega) ⟨z2, z3.elim (fun w => Or.inl w.symm) Or.inr⟩
  | succ j ih =>
    intro hj ci y2 y3 y4 y5 hI
    have hlt : j < 256 := by omega
    have h256 : j ≤ 256 := by omega
    have hn : j / 16 < 16 := by omega
    have hm : j % 16 < 16 := by omega
    have kk : 16 * (j / 16) + j % 16 = j := by omega
    have e : mI (j + 1) = nI j := by unfold mI; rw [if_neg (by omega), Nat.add_sub_cancel]
    have rem : nI j - nI (j / 16 * 16) = nI (j % 16) := by
      have := pk_rem (a := j) (d := 16) (by omega) (by omega) (by omega)
      rw [pk_div (show j < 2 ^ 31 by omega) (show 0 < 16 by omega) (show 16 < 2 ^ 31 by omega), pk_mul] at this
      exact this
    have dec : nI j + -nI 1 = mI j := by
      unfold mI
      by_cases z : j = 0
      · subst z; decide
      · rw [if_neg z]
        have : nI j = nI (j - 1) + nI 1 := by rw [nI_add, show j - 1 + 1 = j by omega]
        rw [this, Int32.add_assoc, show nI 1 + -nI 1 = 0 by decide, Int32.add_zero]
    have o139 : ∀ x, up2 f1 129 11 x 139 j = f1 139 j := fun x => up2_a _ _ _ (by decide) _
    have o140 : ∀ x t, up2 f1 129 11 x 140 t = f1 140 t := fun x t => up2_a _ _ _ (by decide) _
    have hNk := hN (j / 16) (j % 16) hn hm
    rw [kk] at hNk
    have hCk := hC (j % 16) (j / 16) hm hn
    have keep : ¬ cq nd st (j / 16) (j % 16) → ∀ y2 y3, Wp 101 320 [.ref 129, .int (nI j), y2, y3, y4, y5] [] (vh_sI h (up2 f1 129 11 (cI ci))) Q := by
      intro no y2 y3
      simp only [s_101_320, s_101_323]
      rw [show Int32.ofInt (-1) = -nI 1 by decide, dec]
      refine (ih h256 ci y2 y3 y4 y5 ?_)
      rcases hI with ⟨a, b⟩ | ⟨a, b, c⟩
      · refine Or.inl ⟨a, fun n m hn' hm' hk => ?_⟩
        by_cases z : 16 * n + m = j
        · have e1 : n = j / 16 := by omega
          have e2 : m = j % 16 := by omega
          rw [e1, e2]; exact no
        · exact b n m hn' hm' (by omega)
      · refine Or.inr ⟨a, b, fun n m hn' hm' hk => ?_⟩
        by_cases z : 16 * n + m = j
        · have e1 : n = j / 16 := by omega
          have e2 : m = j % 16 := by omega
          rw [e1, e2]; exact no
        · exact c n m hn' hm' (by omega)
    have set : cq nd st (j / 16) (j % 16) → Wp 101 315 [.ref 129, .int (nI j), .int (nI (j / 16)), .int (nI (j % 16)), y4, y5] [] (vh_sI h (up2 f1 129 11 (cI ci))) Q := by
      intro yes
      have eu : up2 (up2 f1 129 11 (cI ci)) 129 11 (nI (j / 16)) = up2 f1 129 11 (cI (j / 16)) := by
        funext b i
        unfold up2 cI
        rw [if_neg (show ¬ j / 16 = 16 by omega)]
        by_cases z : b = 129 ∧ i = 11
        · rw [if_pos z, if_pos z]
        · rw [if_neg z, if_neg z, if_neg z]
      simp only [s_101_315, s_101_316, s_101_317, s_101_320, s_101_323, mk, mr0, mk0, mz0, mr1, mk1, mz1, mr2, mk2, mz2, mr3, mk3, mz3, mr4, mk4, mz4, mr5, mk5, mz5, mr6, mk6, mz6, mr7, mk7, mz7, mr8, mk8, mz8, mr9, mk9, mz9, mr10, mk10, mz10, mr11, mk11, mz11, mr12, mk12, mz12, mr13, mk13, mz13, mr14, mk14, mz14, mr15, mk15, mz15, mr16, mk16, mz16, mr17, mk17, mz17, mr18, mk18, mz18, va_rf_s, pk_mul, nI_add, not_false_eq_true, and_self, true_and, Option.toList_some, Option.toList_none, List.append_nil, List.cons_append, List.nil_append, nI_01, nI_11, vh_K_wI, vh_R_wI, vh_Z_wI, vh_wI_sI, vh_K_sI, vh_R_sI, vh_Z_sI, vh_sI_sI, vh_I_sI, eu]
      rw [show Int32.ofInt (-1) = -nI 1 by decide, dec]
      refine ih h256 (j / 16) (.int (nI (j / 16))) (.int (nI (j % 16))) y4 y5 (Or.inr ⟨hn, ⟨j % 16, hm, yes⟩, fun n m hn' hm' hk => ?_⟩)
      omega
    simp only [s_101_272, s_101_273, e]
    rw [if_neg (nI_pos (by omega))]
    simp only [s_101_276, s_101_277, s_101_279, s_101_280, s_101_281, s_101_282, s_101_284, s_101_285, s_101_286, s_101_287, s_101_290, s_101_291, s_101_292, s_101_293, mk, mr0, mk0, mz0, mr1, mk1, mz1, mr2, mk2, mz2, mr3, mk3, mz3, mr4, mk4, mz4, mr5, mk5, mz5, mr6, mk6, mz6, mr7, mk7, mz7, mr8, mk8, mz8, mr9, mk9, mz9, mr10, mk10, mz10, mr11, mk11, mz11, mr12, mk12, mz12, mr13, mk13, mz13, mr14, mk14, mz14, mr15, mk15, mz15, mr16, mk16, mz16, mr17, mk17, mz17, mr18, mk18, mz18, va_rf_s, pk_mul, nI_add, not_false_eq_true, and_self, true_and, Option.toList_some, Option.toList_none, List.append_nil, List.cons_append, List.nil_append, nI_01, nI_11, vh_K_wI, vh_R_wI, vh_Z_wI, vh_wI_sI, vh_K_sI, vh_R_sI, vh_Z_sI, vh_sI_sI, vh_I_sI, n16_0, pk_div (show j < 2 ^ 31 by omega) (show 0 < 16 by omega) (show 16 < 2 ^ 31 by omega), rem, cl (show j < 2 ^ 31 by omega), ib hlt (show 256 ≤ 2 ^ 31 by omega), o139]
    by_cases q1 : st (j / 16) (j % 16) = true
    · rw [if_neg (fun z => z (hNk.mpr q1))]
      simp only [s_101_296, s_101_297, s_101_298]
      by_cases q2 : j / 16 = j % 16
      · rw [if_pos (by rw [q2])]
        exact set ⟨q1, Or.inl q2⟩
      · rw [if_neg (fun z => q2 ((nI_eq (by omega) (by omega)).mp z))]
        simp only [s_101_301, s_101_302, s_101_305, s_101_307, s_101_308, s_101_309, s_101_310, s_101_311, s_101_312, mk, mr0, mk0, mz0, mr1, mk1, mz1, mr2, mk2, mz2, mr3, mk3, mz3, mr4, mk4, mz4, mr5, mk5, mz5, mr6, mk6, mz6, mr7, mk7, mz7, mr8, mk8, mz8, mr9, mk9, mz9, mr10, mk10, mz10, mr11, mk11, mz11, mr12, mk12, mz12, mr13, mk13, mz13, mr14, mk14, mz14, mr15, mk15, mz15, mr16, mk16, mz16, mr17, mk17, mz17, mr18, mk18, mz18, va_rf_s, pk_mul, nI_add, not_false_eq_true, and_self, true_and, Option.toList_some, Option.toList_none, List.append_nil, List.cons_append, List.nil_append, nI_01, nI_11, vh_K_wI, vh_R_wI, vh_Z_wI, vh_wI_sI, vh_K_sI, vh_R_sI, vh_Z_sI, vh_sI_sI, vh_I_sI, cl (show 16 * (j % 16) + j / 16 < 2 ^ 31 by omega), ib (show 16 * (j % 16) + j / 16 < 256 by omega) (show 256 ≤ 2 ^ 31 by omega), o140, hCk]
        by_cases q3 : wsh nd 16 (j % 16) (j / 16) = true
        · rw [if_pos q3, if_neg nI_10]
          exact set ⟨q1, Or.inr q3⟩
        · rw [if_neg q3, if_pos nI_00]
          exact keep (fun z => z.2.elim q2 q3) _ _
    · rw [if_pos (fun z => q1 (hNk.mp z))]
      exact keep (fun z => q1 z.1) _ _
theorem m_need {c : Nat} {h : vt_H} {Q : vt_Q} {ρs : Nat → Nat → Nat} (hM : MZ h) (hR : MRs (vh_I h) ρs c)
    (hQ : ∀ f' ci, CI (bND ρs c) (bSD ρs c) ci → f' 129 11 = cI ci → NT f' (ND ρs c) (SD ρs c) → (∀ x, x ≠ 129 → x ≠ 139 → x ≠ 140 → ∀ j, f' x j = vh_I h x j) → (∀ j, j ≠ 11 → f' 129 j = vh_I h 129 j) → Q none (vh_sI h f')) : Wp 101 0 [.ref 129, vt_un, vt_un, vt_un, vt_un, vt_un] [] h Q := by
  have hM' := hM
  obtain ⟨mk, ⟨mr0, mk0, mz0⟩, ⟨mr1, mk1, mz1⟩, ⟨mr2, mk2, mz2⟩, ⟨mr3, mk3, mz3⟩, ⟨mr4, mk4, mz4⟩, ⟨mr5, mk5, mz5⟩, ⟨mr6, mk6, mz6⟩, ⟨mr7, mk7, mz7⟩, ⟨mr8, mk8, mz8⟩, ⟨mr9, mk9, mz9⟩, ⟨mr10, mk10, mz10⟩, ⟨mr11, mk11, mz11⟩, ⟨mr12, mk12, mz12⟩, ⟨mr13, mk13, mz13⟩, ⟨mr14, mk14, mz14⟩, ⟨mr15, mk15, mz15⟩, ⟨mr16, mk16, mz16⟩, ⟨mr17, mk17, mz17⟩, ⟨mr18, mk18, mz18⟩⟩ := hM
  have hBA : ∀ n m, SD ρs c n m → ND ρs c n m := fun n m z => by
    obtain ⟨i', z1, z2, z3, p, z4, z5, z6, _⟩ := z
    exact ⟨i', z1, z2, z3, p, z4, z5, z6⟩
  simp only [s_101_0, s_101_1]
  have l := l_zero (Q := Q) hM' (fun f1 a1 a2 y1 y2 y3 y4 y5 => ?_) 256 0 (by omega) (vh_I h) vt_un vt_un vt_un vt_un (fun _ _ _ => rfl) (fun j hj => absurd hj (by omega))
  · rw [vh_sI_id] at l
    exact l
  · simp only [s_101_22, s_101_23]
    have hM1 : MZ (vh_sI h f1) := hM'
    have hR1 : MRs (vh_I (vh_sI h f1)) ρs c := MRs_c hR (fun x x1 x2 j => a1 x (by omega) j) (a1 129 (by decide) 6)
    have l2 := l_needR (h := vh_sI h f1) (Q := Q) hM1 hR1 (fun f2 b1 b2 y1 y2 y3 y4 y5 => ?_) c 0 (by omega) f1 y2 y3 y4 y5 (fun n m hn hm => ?_) (fun _ _ _ => rfl)
    · exact l2
    · rw [vh_sI_sI]
      rw [vh_I_sI] at b2
      simp only [s_101_158, s_101_159]
      have hM2 : MZ (vh_sI h f2) := hM'
      have l3 := l_comes (h := vh_sI h f2) (Q := Q) (R := bND ρs c) hM2 (fun n m hn hm => ?_) (fun f3 d1 d2 y1 y2 y3 y4 y5 => ?_) 256 0 (by omega) f2 y2 y3 y4 y5 (fun _ _ _ => rfl) (fun j hj => absurd hj (by omega))
      · exact l3
      · rw [vh_I_sI, b1 n m hn hm]
        have nl := nv_le (ND ρs c) (SD ρs c) n m
        have : nI (nv (ND ρs c) (SD ρs c) n m) ≤ 0 ↔ nv (ND ρs c) (SD ρs c) n m ≤ 0 := nI_leI (a := nv (ND ρs c) (SD ρs c) n m) (b := 0) (by omega) (by decide)
        rw [this, bND_t, ← nv_0 (A := ND ρs c) (B := SD ρs c) (hBA n m)]
        omega
      · rw [vh_sI_sI]
        rw [vh_I_sI] at d1
        simp only [s_101_193, s_101_194]
        have hM3 : MZ (vh_sI h f3) := hM'
        have l4 := l_war (h := vh_sI h f3) (Q := Q) (R := bND ρs c) hM3 (fun f4 e1 e2 y1 y2 y3 y4 y5 => ?_) 16 0 (by omega) f3 y2 y3 y4 y5 (fun _ _ _ => rfl) d2
        · exact l4
        · rw [vh_sI_sI]
          rw [vh_I_sI] at e1
          simp only [s_101_263, s_101_264, s_101_265, s_101_268, s_101_271, mk, mr0, mk0, mz0, mr1, mk1, mz1, mr2, mk2, mz2, mr3, mk3, mz3, mr4, mk4, mz4, mr5, mk5, mz5, mr6, mk6, mz6, mr7, mk7, mz7, mr8, mk8, mz8, mr9, mk9, mz9, mr10, mk10, mz10, mr11, mk11, mz11, mr12, mk12, mz12, mr13, mk13, mz13, mr14, mk14, mz14, mr15, mk15, mz15, mr16, mk16, mz16, mr17, mk17, mz17, mr18, mk18, mz18, va_rf_s, pk_mul, nI_add, not_false_eq_true, and_self, true_and, Option.toList_some, Option.toList_none, List.append_nil, List.cons_append, List.nil_append, nI_01, nI_11, vh_K_wI, vh_R_wI, vh_Z_wI, vh_wI_sI, vh_K_sI, vh_R_sI, vh_Z_sI, vh_sI_sI, vh_I_sI]
          have hN4 : NT f4 (ND ρs c) (SD ρs c) := fun n m hn hm => by rw [e1 139 (by decide), d1 139 (by decide)]; exact b1 n m hn hm
          have l5 := l_mcirc (h := h) (Q := Q) (nd := bND ρs c) (st := bSD ρs c) (f1 := f4) hM' (fun n m hn hm => ?_) e2 (fun ci hci => ?_) 256 (Nat.le_refl _) 16 y2 y3 y4 y5 (Or.inl ⟨rfl, fun n m hn hm hk => by omega⟩)
          · have e255 : mI 256 = nI 255 := rfl
            have e16 : cI 16 = -nI 1 := rfl
            rw [e255, e16] at l5
            exact l5
          · rw [hN4 n m hn hm, bSD_t, ← nv_2 (A := ND ρs c) (B := SD ρs c)]
            have nl := nv_le (ND ρs c) (SD ρs c) n m
            exact nI_eq (by omega) (by omega)
          · refine hQ _ ci hci (up2_s _ _ _ _) (fun n m hn hm => ?_) (fun x x1 x2 x3 j => ?_) (fun j hj => ?_)
            · rw [up2_a _ _ _ (by decide)]; exact hN4 n m hn hm
            · rw [up2_a _ _ _ x1, e1 x x3, d1 x x3, b2 x x2]; exact a1 x x2 j
            · rw [up2_i _ _ _ _ hj, e1 129 (by decide), d1 129 (by decide), b2 129 (by decide)]; exact a1 129 (by decide) j
    · rw [a2 _ (by omega)]
      congr 1
      unfold nv
      rw [if_neg (fun ⟨i, z, _⟩ => absurd z (by omega)), if_neg (fun ⟨i, z, _⟩ => absurd z (by omega))]
theorem l_laySw {h : vt_H} {Q : vt_Q} {A B : Nat → Nat → Prop} {nd st : Nat → Nat → Bool} {f l : Nat → Nat} (hM : MZ h) (hBA : ∀ n m, B n m → A n m) (hnd : ∀ n m, nd n m = true ↔ A n m) (hst : ∀ n m, st n m = true ↔ B n m) (hN : NT (vh_I h) A B) (hp : pfx nd st f) (h15 : ∀ n, n < 16 → f n ≤ 15)
    (hQ : ∀ f' l' mo, (∀ x, x ≠ 138 → ∀ j, f' x j = vh_I h x j) → (∀ n, n < 16 → f' 138 n = nI (l' n)) → (∀ n, n < 16 → l n ≤ l' n ∧ l' n ≤ f n) → (mo = 0 ∧ pfx nd st l' ∨ mo = 1 ∧ sg_S l 16 < sg_S l' 16) → ∀ y2 y3, Wp 102 111 [.ref 129, .int (nI mo), y2, y3] [] (vh_sI h f') Q) :
    ∀ (m k : Nat), k + m = 256 → ∀ (f0 : Nat → Nat → Int32) (l0 : Nat → Nat) (mo : Nat) y3, (∀ x, x ≠ 138 → ∀ j, f0 x j = vh_I h x j) → (∀ n, n < 16 → f0 138 n = nI (l0 n)) → (∀ n, n < 16 → l n ≤ l0 n ∧ l0 n ≤ f n) → (mo = 0 ∧ (∀ n, n < 16 → l0 n = l n) ∧ (∀ n m, n < 16 → m < 16 → 16 * n + m < k → nd n m = true → l0 m + (if st n m = true then 1 else 0) ≤ l0 n) ∨ mo = 1 ∧ sg_S l 16 < sg_S l0 16) → Wp 102 42 [.ref 129, .int (nI mo), .int (nI k), y3] [] (vh_sI h f0) Q := by
  obtain ⟨mk, ⟨mr0, mk0, mz0⟩, ⟨mr1, mk1, mz1⟩, ⟨mr2, mk2, mz2⟩, ⟨mr3, mk3, mz3⟩, ⟨mr4, mk4, mz4⟩, ⟨mr5, mk5, mz5⟩, ⟨mr6, mk6, mz6⟩, ⟨mr7, mk7, mz7⟩, ⟨mr8, mk8, mz8⟩, ⟨mr9, mk9, mz9⟩, ⟨mr10, mk10, mz10⟩, ⟨mr11, mk11, mz11⟩, ⟨mr12, mk12, mz12⟩, ⟨mr13, mk13, mz13⟩, ⟨mr14, mk14, mz14⟩, ⟨mr15, mk15, mz15⟩, ⟨mr16, mk16, mz16⟩, ⟨mr17, mk17, mz17⟩, ⟨mr18, mk18, mz18⟩⟩ := hM
  intro m
  induction m with
  | zero =>
    intro k hk f0 l0 mo y3 a1 a2 a3 a4
    have : k = 256 := by omega
    subst this
    simp only [s_102_42, s_102_43, s_102_46, if_pos (nI_le (Nat.le_refl 256) (show 256 < 2 ^ 31 by omega))]
    refine hQ f0 l0 mo a1 a2 a3 ?_ _ _
    rcases a4 with ⟨z1, _, z3⟩ | z
    · exact Or.inl ⟨z1, fun n m hn hm hnm => z3 n m hn hm (by omega) hnm⟩
    · exact Or.inr z
  | succ m ih =>
    intro k hk f0 l0 mo y3 a1 a2 a3 a4
    have hlt : k < 256 := by omega
    have hn : k / 16 < 16 := by omega
    have hm : k % 16 < 16 := by omega
    have kk : 16 * (k / 16) + k % 16 = k := by omega
    have eN := hN (k / 16) (k % 16) hn hm
    rw [kk] at eN
    have eN0 : f0 139 k = nI (nv A B (k / 16) (k % 16)) := (a1 139 (by decide) k).trans eN
    have nl := nv_le A B (k / 16) (k % 16)
    have rem : nI k - nI (k / 16 * 16) = nI (k % 16) := by
      have := pk_rem (a := k) (d := 16) (by omega) (by omega) (by omega)
      rw [pk_div (show k < 2 ^ 31 by omega) (show 0 < 16 by omega) (show 16 < 2 ^ 31 by omega), pk_mul] at this
      exact this
    have hz : nI (nv A B (k / 16) (k % 16)) = 0 ↔ nv A B (k / 16) (k % 16) = 0 := nI_0i (by omega)
    simp only [s_102_42, s_102_43, s_102_46, if_neg (nI_ge hlt (show 256 < 2 ^ 31 by omega))]
    simp only [s_102_49, s_102_50, s_102_53, s_102_54, s_102_56, s_102_57, s_102_58, s_102_59, s_102_62, s_102_63, s_102_64, s_102_65, s_102_66, s_102_67, s_102_68, s_102_69, s_102_72, s_102_73, s_102_74, mk, mr0, mk0, mz0, mr1, mk1, mz1, mr2, mk2, mz2, mr3, mk3, mz3, mr4, mk4, mz4, mr5, mk5, mz5, mr6, mk6, mz6, mr7, mk7, mz7, mr8, mk8, mz8, mr9, mk9, mz9, mr10, mk10, mz10, mr11, mk11, mz11, mr12, mk12, mz12, mr13, mk13, mz13, mr14, mk14, mz14, mr15, mk15, mz15, mr16, mk16, mz16, mr17, mk17, mz17, mr18, mk18, mz18, va_rf_s, pk_mul, nI_add, not_false_eq_true, and_self, true_and, Option.toList_some, Option.toList_none, List.append_nil, List.cons_append, List.nil_append, nI_01, nI_11, vh_K_wI, vh_R_wI, vh_Z_wI, vh_wI_sI, vh_K_sI, vh_R_sI, vh_Z_sI, vh_sI_sI, vh_I_sI, n16_0, pk_div (show k < 2 ^ 31 by omega) (show 0 < 16 by omega) (show 16 < 2 ^ 31 by omega), rem, cl (show k % 16 < 2 ^ 31 by omega), ib hm (show 16 ≤ 2 ^ 31 by omega), cl (show k < 2 ^ 31 by omega), ib hlt (show 256 ≤ 2 ^ 31 by omega), a2 _ hm, eN0]
    have keep : (nd (k / 16) (k % 16) = true → l0 (k % 16) + (if st (k / 16) (k % 16) = true then 1 else 0) ≤ l0 (k / 16)) → ∀ y3, Wp 102 105 [.ref 129, .int (nI mo), .int (nI k), y3] [] (vh_sI h f0) Q := by
      intro ok y3
      simp only [s_102_105, s_102_108, va_rf_s, pk_mul, nI_add, not_false_eq_true, and_self, true_and, Option.toList_some, Option.toList_none, List.append_nil, List.cons_append, List.nil_append, nI_01, nI_11, vh_K_wI, vh_R_wI, vh_Z_wI, vh_wI_sI, vh_K_sI, vh_R_sI, vh_Z_sI, vh_sI_sI, vh_I_sI]
      refine ih (k + 1) (by omega) f0 l0 mo _ a1 a2 a3 ?_
      rcases a4 with ⟨z1, z2, z3⟩ | z
      · refine Or.inl ⟨z1, z2, fun n m hn' hm' hk' hnm => ?_⟩
        by_cases e : 16 * n + m = k
        · have e1 : n = k / 16 := by omega
          have e2 : m = k % 16 := by omega
          rw [e1, e2] at hnm ⊢
          exact ok hnm
        · exact z3 n m hn' hm' (by omega) hnm
      · exact Or.inr z
    by_cases q : nv A B (k / 16) (k % 16) = 0
    · rw [if_pos (hz.mpr q)]
      refine keep (fun z => ?_) _
      exact absurd q ((nv_0 (hBA _ _)).mpr ((hnd _ _).mp z))
    · rw [if_neg (fun z => q (hz.mp z))]
      have ndk : nd (k / 16) (k % 16) = true := (hnd _ _).mpr ((nv_0 (hBA _ _)).mp q)
      have ev : nv A B (k / 16) (k % 16) = 1 + (if st (k / 16) (k % 16) = true then 1 else 0) := by
        by_cases b : st (k / 16) (k % 16) = true
        · rw [if_pos b, nv_2.mpr ((hst _ _).mp b)]
        · rw [if_neg b]
          have : nv A B (k / 16) (k % 16) ≠ 2 := fun z => b ((hst _ _).mpr (nv_2.mp z))
          omega
      have el : nI (l0 (k % 16) + nv A B (k / 16) (k % 16)) - nI 1 = nI (l0 (k % 16) + (if st (k / 16) (k % 16) = true then 1 else 0)) := by
        rw [ev, show l0 (k % 16) + (1 + (if st (k / 16) (k % 16) = true then 1 else 0)) = (l0 (k % 16) + (if st (k / 16) (k % 16) = true then 1 else 0)) + 1 by omega]
        exact nI_pred _
      have pk := hp _ _ hn hm ndk
      have u1 := (a3 _ hm).2
      have u2 := h15 _ hn
      have u3 := (a3 _ hn).2
      simp only [s_102_77, s_102_78, s_102_81, s_102_82, s_102_84, s_102_85, s_102_86, s_102_87, mk, mr0, mk0, mz0, mr1, mk1, mz1, mr2, mk2, mz2, mr3, mk3, mz3, mr4, mk4, mz4, mr5, mk5, mz5, mr6, mk6, mz6, mr7, mk7, mz7, mr8, mk8, mz8, mr9, mk9, mz9, mr10, mk10, mz10, mr11, mk11, mz11, mr12, mk12, mz12, mr13, mk13, mz13, mr14, mk14, mz14, mr15, mk15, mz15, mr16, mk16, mz16, mr17, mk17, mz17, mr18, mk18, mz18, va_rf_s, pk_mul, nI_add, not_false_eq_true, and_self, true_and, Option.toList_some, Option.toList_none, List.append_nil, List.cons_append, List.nil_append, nI_01, nI_11, vh_K_wI, vh_R_wI, vh_Z_wI, vh_wI_sI, vh_K_sI, vh_R_sI, vh_Z_sI, vh_sI_sI, vh_I_sI, n16_0, pk_div (show k < 2 ^ 31 by omega) (show 0 < 16 by omega) (show 16 < 2 ^ 31 by omega), cl (show k / 16 < 2 ^ 31 by omega), ib hn (show 16 ≤ 2 ^ 31 by omega), a2 _ hn, el]
      by_cases q2 : l0 (k % 16) + (if st (k / 16) (k % 16) = true then 1 else 0) ≤ l0 (k / 16)
      · rw [if_neg (nI_nlt q2 (by omega))]
        simp only [s_102_90]
        exact keep (fun _ => q2) _
      · rw [if_pos (nI_lt (by omega) (by omega))]
        simp only [s_102_93, s_102_94, s_102_97, s_102_98, s_102_100, s_102_101, s_102_102, s_102_103, s_102_104, s_102_105, s_102_108, mk, mr0, mk0, mz0, mr1, mk1, mz1, mr2, mk2, mz2, mr3, mk3, mz3, mr4, mk4, mz4, mr5, mk5, mz5, mr6, mk6, mz6, mr7, mk7, mz7, mr8, mk8, mz8, mr9, mk9, mz9, mr10, mk10, mz10, mr11, mk11, mz11, mr12, mk12, mz12, mr13, mk13, mz13, mr14, mk14, mz14, mr15, mk15, mz15, mr16, mk16, mz16, mr17, mk17, mz17, mr18, mk18, mz18, va_rf_s, pk_mul, nI_add, not_false_eq_true, and_self, true_and, Option.toList_some, Option.toList_none, List.append_nil, List.cons_append, List.nil_append, nI_01, nI_11, vh_K_wI, vh_R_wI, vh_Z_wI, vh_wI_sI, vh_K_sI, vh_R_sI, vh_Z_sI, vh_sI_sI, vh_I_sI, n16_0, pk_div (show k < 2 ^ 31 by omega) (show 0 < 16 by omega) (show 16 < 2 ^ 31 by omega), cl (show k / 16 < 2 ^ 31 by omega), ib hn (show 16 ≤ 2 ^ 31 by omega)]
        refine ih (k + 1) (by omega) _ (fun n => if n = k / 16 then l0 (k % 16) + (if st (k / 16) (k % 16) = true then 1 else 0) else l0 n) 1 _ (fun x hx j => ?_) (fun n hn' => ?_) (fun n hn' => ?_) (Or.inr ⟨rfl, ?_⟩)
        · rw [up2_a _ _ _ hx]; exact a1 x hx j
        · by_cases e : n = k / 16
          · rw [e, up2_s, if_pos rfl]
          · rw [up2_i _ _ _ _ e, if_neg e]; exact a2 n hn'
        · by_cases e : n = k / 16
          · rw [e, if_pos rfl]
            have := (a3 _ hn).1
            omega
          · rw [if_neg e]; exact a3 n hn'
        · refine sg_lt (k := k / 16) (fun n hn' => ?_) hn ?_
          · have w := (a3 n hn').1
            by_cases e : n = k / 16
            · rw [if_pos e]
              subst e
              omega
            · rw [if_neg e]; exact w
          · rw [if_pos rfl]
            have := (a3 _ hn).1
            omega
theorem l_lay {h : vt_H} {Q : vt_Q} {A B : Nat → Nat → Prop} {nd st : Nat → Nat → Bool} {f : Nat → Nat} (hM : MZ h) (hBA : ∀ n m, B n m → A n m) (hnd : ∀ n m, nd n m = true ↔ A n m) (hst : ∀ n m, st n m = true ↔ B n m) (hN : NT (vh_I h) A B) (hp : lfp nd st f) (h15 : ∀ n, n < 16 → f n ≤ 15)
    (hQ : ∀ f', (∀ x, x ≠ 138 → ∀ j, f' x j = vh_I h x j) → (∀ n, n < 16 → f' 138 n = nI (f n)) → Q none (vh_sI h f')) :
    ∀ (d : Nat) (f0 : Nat → Nat → Int32) (l : Nat → Nat) (mo : Nat) y2 y3, sg_S f 16 ≤ sg_S l 16 + d → (∀ x, x ≠ 138 → ∀ j, f0 x j = vh_I h x j) → (∀ n, n < 16 → f0 138 n = nI (l n)) → (∀ n, n < 16 → l n ≤ f n) → (mo = 0 ∧ pfx nd st l ∨ mo = 1) → Wp 102 34 [.ref 129, .int (nI mo), y2, y3] [] (vh_sI h f0) Q := by
  intro d
  induction d with
  | zero =>
    intro f0 l mo y2 y3 hd a1 a2 a3 a4
    have eq : ∀ n, n < 16 → l n = f n := by
      intro n hn
      refine Classical.byContradiction (fun z => ?_)
      have := sg_lt (f := l) (g := f) (k := n) (n := 16) (fun i hi => a3 i hi) hn (by have := a3 n hn; omega)
      omega
    have done : Q none (vh_sI h f0) := hQ f0 a1 (fun n hn => by rw [a2 n hn, eq n hn])
    simp only [s_102_34, s_102_35]
    rcases a4 with ⟨z, _⟩ | z
    · subst z
      rw [if_pos nI_00]
      simp only [s_102_114]
      exact done
    · subst z
      rw [if_neg nI_10]
      simp only [s_102_38, s_102_39, s_102_40, s_102_41]
      have hM0 : MZ (vh_sI h f0) := hM
      have w := l_laySw (h := vh_sI h f0) (Q := Q) (A := A) (B := B) (nd := nd) (st := st) (f := f) (l := l) hM0 hBA hnd hst (fun n m hn hm => by rw [vh_I_sI, a1 139 (by decide)]; exact hN n m hn hm) hp.1 h15 (fun f1 l' mo z1 z2 z3 z4 y2 y3 => ?_) 256 0 (by omega) f0 l 0 y3 (fun _ _ _ => rfl) a2 (fun n hn => ⟨Nat.le_refl _, a3 n hn⟩) (Or.inl ⟨rfl, fun _ _ => rfl, fun n m _ _ z => absurd z (by omega)⟩)
      · exact w
      · rw [vh_sI_sI]
        rw [vh_I_sI] at z1
        simp only [s_102_111]
        rcases z4 with ⟨w1, w2⟩ | ⟨w1, w2⟩
        · subst w1
          simp only [s_102_34, s_102_35]
          rw [if_pos nI_00]
          simp only [s_102_114]
          refine hQ f1 (fun x hx j => (z1 x hx j).trans (a1 x hx j)) (fun n hn => ?_)
          rw [z2 n hn, Nat.le_antisymm (z3 n hn).2 (hp.2 l' w2 n hn)]
        · have : sg_S l' 16 ≤ sg_S f 16 := sg_le (fun n hn => (z3 n hn).2)
          omega
  | succ d ih =>
    intro f0 l mo y2 y3 hd a1 a2 a3 a4
    simp only [s_102_34, s_102_35]
    rcases a4 with ⟨z, zp⟩ | z
    · subst z
      rw [if_pos nI_00]
      simp only [s_102_114]
      exact hQ f0 a1 (fun n hn => by rw [a2 n hn, Nat.le_antisymm (a3 n hn) (hp.2 l zp n hn)])
    · subst z
      rw [if_neg nI_10]
      simp only [s_102_38, s_102_39, s_102_40, s_102_41]
      have hM0 : MZ (vh_sI h f0) := hM
      have w := l_laySw (h := vh_sI h f0) (Q := Q) (A := A) (B := B) (nd := nd) (st := st) (f := f) (l := l) hM0 hBA hnd hst (fun n m hn hm => by rw [vh_I_sI, a1 139 (by decide)]; exact hN n m hn hm) hp.1 h15 (fun f1 l' mo z1 z2 z3 z4 y2 y3 => ?_) 256 0 (by omega) f0 l 0 y3 (fun _ _ _ => rfl) a2 (fun n hn => ⟨Nat.le_refl _, a3 n hn⟩) (Or.inl ⟨rfl, fun _ _ => rfl, fun n m _ _ z => absurd z (by omega)⟩)
      · exact w
      · rw [vh_sI_sI]
        rw [vh_I_sI] at z1
        simp only [s_102_111]
        refine ih f1 l' mo _ _ ?_ (fun x hx j => (z1 x hx j).trans (a1 x hx j)) z2 (fun n hn => (z3 n hn).2) (z4.elim Or.inl (fun w => Or.inr w.1))
        rcases z4 with ⟨w1, w2⟩ | ⟨w1, w2⟩
        · have : ∀ n, n < 16 → l' n = f n := fun n hn => Nat.le_antisymm (z3 n hn).2 (hp.2 l' w2 n hn)
          rw [sg_congr this]; omega
        · omega
theorem l_lay0 {h : vt_H} {Q : vt_Q} (hM : MZ h) (hQ : ∀ f', (∀ x, x ≠ 138 → ∀ j, f' x j = vh_I h x j) → (∀ j, j < 16 → f' 138 j = nI 0) → ∀ y1 y2 y3, Wp 102 21 [.ref 129, y1, y2, y3] [] (vh_sI h f') Q) :
    ∀ (m k : Nat), k + m = 16 → ∀ f0 y2 y3, (∀ x, x ≠ 138 → ∀ j, f0 x j = vh_I h x j) → (∀ j, j < k → f0 138 j = nI 0) → Wp 102 2 [.ref 129, .int (nI k), y2, y3] [] (vh_sI h f0) Q := by
  obtain ⟨mk, ⟨mr0, mk0, mz0⟩, ⟨mr1, mk1, mz1⟩, ⟨mr2, mk2, mz2⟩, ⟨mr3, mk3, mz3⟩, ⟨mr4, mk4, mz4⟩, ⟨mr5, mk5, mz5⟩, ⟨mr6, mk6, mz6⟩, ⟨mr7, mk7, mz7⟩, ⟨mr8, mk8, mz8⟩, ⟨mr9, mk9, mz9⟩, ⟨mr10, mk10, mz10⟩, ⟨mr11, mk11, mz11⟩, ⟨mr12, mk12, mz12⟩, ⟨mr13, mk13, mz13⟩, ⟨mr14, mk14, mz14⟩, ⟨mr15, mk15, mz15⟩, ⟨mr16, mk16, mz16⟩, ⟨mr17, mk17, mz17⟩, ⟨mr18, mk18, mz18⟩⟩ := hM
  intro m
  induction m with
  | zero =>
    intro k hk f0 y2 y3 h1 h2
    have : k = 16 := by omega
    subst this
    simp only [s_102_2, s_102_3, s_102_5, if_pos (nI_le (Nat.le_refl 16) (show 16 < 2 ^ 31 by omega))]
    exact hQ f0 h1 h2 _ _ _
  | succ m ih =>
    intro k hk f0 y2 y3 h1 h2
    have hlt : k < 16 := by omega
    simp only [s_102_2, s_102_3, s_102_5, if_neg (nI_ge hlt (show 16 < 2 ^ 31 by omega))]
    simp only [s_102_8, s_102_9, s_102_12, s_102_13, s_102_14, s_102_15, s_102_18, mk, mr0, mk0, mz0, mr1, mk1, mz1, mr2, mk2, mz2, mr3, mk3, mz3, mr4, mk4, mz4, mr5, mk5, mz5, mr6, mk6, mz6, mr7, mk7, mz7, mr8, mk8, mz8, mr9, mk9, mz9, mr10, mk10, mz10, mr11, mk11, mz11, mr12, mk12, mz12, mr13, mk13, mz13, mr14, mk14, mz14, mr15, mk15, mz15, mr16, mk16, mz16, mr17, mk17, mz17, mr18, mk18, mz18, va_rf_s, pk_mul, nI_add, not_false_eq_true, and_self, true_and, Option.toList_some, Option.toList_none, List.append_nil, List.cons_append, List.nil_append, nI_01, nI_11, vh_K_wI, vh_R_wI, vh_Z_wI, vh_wI_sI, vh_K_sI, vh_R_sI, vh_Z_sI, vh_sI_sI, vh_I_sI, cl (show k < 2 ^ 31 by omega), ib hlt (show 16 ≤ 2 ^ 31 by omega)]
    refine ih (k + 1) (by omega) _ _ _ (fun x hx j => ?_) (fun j hj => ?_)
    · rw [up2_a _ _ _ hx]; exact h1 x hx j
    · by_cases e : j = k
      · subst e; rw [up2_s]
      · rw [up2_i _ _ _ _ e]; exact h2 j (by omega)
theorem m_layer {c ci : Nat} {h : vt_H} {Q : vt_Q} {ρs : Nat → Nat → Nat} (hM : MZ h) (hci : CI (bND ρs c) (bSD ρs c) ci) (h11 : vh_I h 129 11 = cI ci) (hN : NT (vh_I h) (ND ρs c) (SD ρs c))
    (hQ : ∀ f' lv, SX ρs c ci lv → (∀ n, n < 16 → f' 138 n = nI (lv n)) → (∀ x, x ≠ 138 → ∀ j, f' x j = vh_I h x j) → Q none (vh_sI h f')) : Wp 102 0 [.ref 129, vt_un, vt_un, vt_un] [] h Q := by
  have hM' := hM
  obtain ⟨mk, ⟨mr0, mk0, mz0⟩, ⟨mr1, mk1, mz1⟩, ⟨mr2, mk2, mz2⟩, ⟨mr3, mk3, mz3⟩, ⟨mr4, mk4, mz4⟩, ⟨mr5, mk5, mz5⟩, ⟨mr6, mk6, mz6⟩, ⟨mr7, mk7, mz7⟩, ⟨mr8, mk8, mz8⟩, ⟨mr9, mk9, mz9⟩, ⟨mr10, mk10, mz10⟩, ⟨mr11, mk11, mz11⟩, ⟨mr12, mk12, mz12⟩, ⟨mr13, mk13, mz13⟩, ⟨mr14, mk14, mz14⟩, ⟨mr15, mk15, mz15⟩, ⟨mr16, mk16, mz16⟩, ⟨mr17, mk17, mz17⟩, ⟨mr18, mk18, mz18⟩⟩ := hM
  simp only [s_102_0, s_102_1]
  have l := l_lay0 (Q := Q) hM' (fun f1 a1 a2 y1 y2 y3 => ?_) 16 0 (by omega) (vh_I h) vt_un vt_un (fun _ _ _ => rfl) (fun j hj => absurd hj (by omega))
  · rw [vh_sI_id] at l
    exact l
  · have e11 : f1 129 11 = cI ci := (a1 129 (by decide) 11).trans h11
    simp only [s_102_21, s_102_22, s_102_25, mk, mr0, mk0, mz0, mr1, mk1, mz1, mr2, mk2, mz2, mr3, mk3, mz3, mr4, mk4, mz4, mr5, mk5, mz5, mr6, mk6, mz6, mr7, mk7, mz7, mr8, mk8, mz8, mr9, mk9, mz9, mr10, mk10, mz10, mr11, mk11, mz11, mr12, mk12, mz12, mr13, mk13, mz13, mr14, mk14, mz14, mr15, mk15, mz15, mr16, mk16, mz16, mr17, mk17, mz17, mr18, mk18, mz18, va_rf_s, pk_mul, nI_add, not_false_eq_true, and_self, true_and, Option.toList_some, Option.toList_none, List.append_nil, List.cons_append, List.nil_append, nI_01, nI_11, vh_K_wI, vh_R_wI, vh_Z_wI, vh_wI_sI, vh_K_sI, vh_R_sI, vh_Z_sI, vh_sI_sI, vh_I_sI, e11]
    by_cases e : ci = 16
    · rw [show cI ci = -nI 1 from if_pos e, if_neg (by decide)]
      simp only [s_102_28, s_102_29, s_102_32, s_102_33]
      have noc : ∀ n, n < 16 → ¬ cyc (bND ρs c) (bSD ρs c) n := by
        rcases hci with w | w
        · omega
        · exact w.2
      obtain ⟨lv, hlv, h15⟩ := lfp_ex (fun n m => SD_ND) noc
      have hBA : ∀ n m, SD ρs c n m → ND ρs c n m := fun n m z => by
        obtain ⟨i', z1, z2, z3, p, z4, z5, z6, _⟩ := z
        exact ⟨i', z1, z2, z3, p, z4, z5, z6⟩
      refine l_lay (A := ND ρs c) (B := SD ρs c) (nd := bND ρs c) (st := bSD ρs c) (f := lv) hM' hBA (fun _ _ => bND_t) (fun _ _ => bSD_t) hN hlv h15 (fun f2 z1 z2 => hQ f2 lv ⟨hci, fun _ => ⟨hlv, h15⟩, fun z => by omega⟩ z2 z1) (sg_S lv 16) f1 (fun _ => 0) 1 _ _ (by omega) a1 a2 (fun _ _ => Nat.zero_le _) (Or.inr rfl)
    · have c16 : ci < 16 := by rcases hci with w | w <;> omega
      rw [show cI ci = nI ci from if_neg e, if_pos (nI_pos' (by omega))]
      simp only [s_102_32, s_102_33, s_102_34, s_102_35]
      rw [if_pos nI_00]
      simp only [s_102_114]
      exact hQ f1 (fun _ => 0) ⟨hci, fun z => absurd z e, fun _ _ _ => rfl⟩ a2 a1

-- ===== CASES of the class: fold, foldAll =====
theorem LV_fold {f f' : Nat → Nat → Int32} {l : Nat} {F : Nat → Bool} {T : Nat} {G : Nat → Nat → Nat} {A : Nat → Nat → Nat → Nat → Bool} {v u : Nat} {met : Int32} (h : LV f l F T G) (hv : v < 6) (hu : u < 6) (huv : u ≠ v) (hFu : F u = true)
    (h13 : f' 13 10 = f 13 10) (h18 : f' 18 l = f 18 l &&& (j1 (nI v) ^^^ -nI 1)) (h19 : f' 19 l = f 19 l) (h20 : ∀ t, t < 6 → t ≠ u → f' 20 (l * 6 + t) = f 20 (l * 6 + t)) (h20u : f' 20 (l * 6 + u) = f 20 (l * 6 + u) &&& met)
    (h21 : ¬ f 13 10 = 0 → ∀ t n, t < 6 → n < 32 → t ≠ u → f' 21 ((l * 6 + t) * 32 + n) = f 21 ((l * 6 + t) * 32 + n))
    (h21u : ¬ f 13 10 = 0 → ∀ n, n < 32 → G u n ≠ 0 → f' 21 ((l * 6 + u) * 32 + n) = nI (gF A G v u u n))
    (hm : ∀ m, m < 32 → (bt met m = true ↔ ∃ n, n < 32 ∧ G v n ≠ 0 ∧ A v u n m = true)) : LV f' l (fo F v) T (gF A G v u) := by
  obtain ⟨a1, a2, a3, a4, a5, a6⟩ := h
  have hb : ∀ x, x < 32 → bt (f 18 l &&& (j1 (nI v) ^^^ -nI 1)) x = (bt (f 18 l) x && !decide (x = v)) := by
    intro x hx
    rw [b_and, bt_not _ hx, bt_j1 (by omega) hx]
  have gu : ∀ m, gF A G v u u m = G u m * sg_S (fun n => G v n * (if A v u n m = true then 1 else 0)) 32 := by
    intro m
    unfold gF
    rw [if_neg huv, if_pos rfl]
  have go : ∀ t m, t ≠ v → t ≠ u → gF A G v u t m = G t m := by
    intro t m h1 h2
    unfold gF
    rw [if_neg h1, if_neg h2]
  refine ⟨fun x hx => ?_, fun x h1 h2 => ?_, fun x n hx hn hF => ?_, fun hc => ⟨?_, fun x n hx hn hF hG => ?_⟩, fun x n hx hF => ?_, a6⟩
  · rw [h18, hb x (by omega), a1 x hx]; rfl
  · rw [h18, hb x h2, a2 x h1 h2]; rfl
  · by_cases e : x = u
    · subst e
      rw [h20u, b_and, Bool.and_eq_true, a3 x n hu hn hFu, hm n hn, gu]
      constructor
      · rintro ⟨q1, k, hk, q2, q3⟩ z
        rcases Nat.mul_eq_zero.mp z with z | z
        · exact q1 z
        · have := sg_eq0.mp z k hk
          rw [if_pos q3, Nat.mul_one] at this
          exact q2 this
      · intro z
        refine ⟨fun q => z (by rw [q, Nat.zero_mul]), ?_⟩
        refine Classical.byContradiction (fun q => z ?_)
        rw [sg_eq0.mpr (fun k hk => ?_), Nat.mul_zero]
        by_cases q1 : G v k = 0
        · rw [q1, Nat.zero_mul]
        · rw [if_neg (fun q2 => q ⟨k, hk, q1, q2⟩), Nat.mul_zero]
    · rw [h20 x hx e, go x n (fo_t.mp hF).2 e]
      exact a3 x n hx hn (fo_t.mp hF).1
  · rw [h13] at hc
    rw [h19]
    exact (a4 hc).1
  · rw [h13] at hc
    by_cases e : x = u
    · subst e
      refine h21u hc n hn (fun q => hG ?_)
      rw [gu, q, Nat.zero_mul]
    · rw [h21 hc x n hx hn e]
      rw [go x n (fo_t.mp hF).2 e] at hG ⊢
      exact (a4 hc).2 x n hx hn (fo_t.mp hF).1 hG
  · by_cases e : x = v
    · subst e
      unfold gF
      rw [if_pos rfl]
    · have hx' : F x = false := by
        cases hF' : F x with
        | false => rfl
        | true => rw [fo_t.mpr ⟨hF', e⟩] at hF; cases hF
      have e2 : x ≠ u := fun z => by rw [z, hFu] at hx'; cases hx'
      rw [go x n e e2]
      exact a5 x n hx hx'
theorem l_met {l v z : Nat} {a b c d s : Int32} {h : vt_H} {Q : vt_Q} (hC : CL h) (hz : z + 32 ≤ 1152)
    (hQ : ∀ met y, (∀ m, m < 32 → (bt met m = true ↔ ∃ n, n < 32 ∧ bt s n = true ∧ bt (vh_I h 14 (z + n)) m = true)) → Wp 60 189 [.ref 13, .int (nI l), .int (nI v), .int a, .int b, .int c, .int d, .int (nI z), .int s, .int met, y] [] h Q) :
    ∀ (k i : Nat), i + k = 32 → ∀ met, (∀ m, m < 32 → (bt met m = true ↔ ∃ n, n < i ∧ bt s n = true ∧ bt (vh_I h 14 (z + n)) m = true)) → Wp 60 139 [.ref 13, .int (nI l), .int (nI v), .int a, .int b, .int c, .int d, .int (nI z), .int s, .int met, .int (nI i)] [] h Q := by
  obtain ⟨ck13, cr0, cr1, cr2, cr3, cr4, cr5, cr6, cr7, cr8, cr9, ck14, ck15, ck16, ck17, ck18, ck19, ck20, ck21, ck22, ck23, cz14, cz15, cz16, cz17, cz18, cz19, cz20, cz21, cz22, cz23⟩ := hC
  intro k
  induction k with
  | zero =>
    intro i hi met hm
    have : i = 32 := by omega
    subst this
    simp only [s_60_139, s_60_141, s_60_143, if_pos (nI_le (Nat.le_refl 32) (show 32 < 2 ^ 31 by omega))]
    exact hQ met _ hm
  | succ k ih =>
    intro i hi met hm
    have hlt : i < 32 := by omega
    have b1 : z + i < 1152 := by omega
    simp only [s_60_139, s_60_141, s_60_143, if_neg (nI_ge hlt (show 32 < 2 ^ 31 by omega))]
    simp only [s_60_146, s_60_148, s_60_150, s_60_151]
    by_cases hz' : ∀ j, i ≤ j → j < 32 → bt s j = false
    · rw [if_pos ((bt_ju0 s hlt).mpr hz')]
      refine hQ met _ (fun m hm' => (hm m hm').trans ⟨?_, ?_⟩)
      · rintro ⟨n, h1, h2⟩
        exact ⟨n, by omega, h2⟩
      · rintro ⟨n, h1, h2, h3⟩
        refine ⟨n, ?_, h2, h3⟩
        rcases Nat.lt_or_ge n i with q | q
        · exact q
        · rw [hz' n q h1] at h2; cases h2
    · rw [if_neg (fun q => hz' ((bt_ju0 s hlt).mp q))]
      simp only [s_60_154, s_60_156, s_60_158, s_60_160, va_rf_s, pk_mul, nI_add, not_false_eq_true, and_self, true_and, Option.toList_some, Option.toList_none, List.append_nil, List.cons_append, List.nil_append, nI_01, nI_11, vh_K_wI, vh_R_wI, vh_Z_wI, vh_wI_sI, vh_K_sI, vh_R_sI, vh_Z_sI, vh_sI_sI, vh_I_sI, c_isIn, jbit_bt _ hlt, jb_0, s_60_163]
      by_cases q : bt s i = true
      · rw [if_neg (fun y => y q)]
        simp only [s_60_166, s_60_167, s_60_170, s_60_172, s_60_174, s_60_175, s_60_176, s_60_179, s_60_180, s_60_181, s_60_183, s_60_186, ck13, cr0, cr1, cr2, cr3, cr4, cr5, cr6, cr7, cr8, cr9, ck14, ck15, ck16, ck17, ck18, ck19, ck20, ck21, ck22, ck23, cz14, cz15, cz16, cz17, cz18, cz19, cz20, cz21, cz22, cz23, va_rf_s, pk_mul, nI_add, not_false_eq_true, and_self, true_and, Option.toList_some, Option.toList_none, List.append_nil, List.cons_append, List.nil_append, nI_01, nI_11, vh_K_wI, vh_R_wI, vh_Z_wI, vh_wI_sI, vh_K_sI, vh_R_sI, vh_Z_sI, vh_sI_sI, vh_I_sI, cl (show z + i < 2 ^ 31 by omega), ib b1 (show 1152 ≤ 2 ^ 31 by omega)]
        refine ih (i + 1) (by omega) _ (fun m hm' => ?_)
        rw [b_or, Bool.or_eq_true, hm m hm']
        constructor
        · rintro (⟨n, h1, h2⟩ | h1)
          · exact ⟨n, by omega, h2⟩
          · exact ⟨i, by omega, q, h1⟩
        · rintro ⟨n, h1, h2, h3⟩
          by_cases e : n = i
          · subst e; exact Or.inr h3
          · exact Or.inl ⟨n, by omega, h2, h3⟩
      · rw [if_pos q]
        simp only [s_60_179, s_60_180, s_60_181, s_60_183, s_60_186, va_rf_s, pk_mul, nI_add, not_false_eq_true, and_self, true_and, Option.toList_some, Option.toList_none, List.append_nil, List.cons_append, List.nil_append, nI_01, nI_11, vh_K_wI, vh_R_wI, vh_Z_wI, vh_wI_sI, vh_K_sI, vh_R_sI, vh_Z_sI, vh_sI_sI, vh_I_sI]
        refine ih (i + 1) (by omega) _ (fun m hm' => ?_)
        have n0 : bt (nI 0) m = false := b_0 m
        rw [b_or, n0, Bool.or_false, hm m hm']
        constructor
        · rintro ⟨n, h1, h2⟩
          exact ⟨n, by omega, h2⟩
        · rintro ⟨n, h1, h2, h3⟩
          by_cases e : n = i
          · subst e; exact absurd h2 q
          · exact ⟨n, by omega, h2, h3⟩
theorem c_fold {l v : Nat} {h : vt_H} {Q : vt_Q} {F : Nat → Bool} {T : Nat} {G : Nat → Nat → Nat} (hC : CL h) (hl : l < 3) (hv : v < 6) (hF : F v = true) (hL : LV (vh_I h) l F T G) (hs : sy (EE (vh_I h)) (AA (vh_I h)))
    (hone : ∀ t t', t < 6 → t' < 6 → F t = true → F t' = true → EE (vh_I h) v t = true → EE (vh_I h) v t' = true → t = t')
    (hQ0 : ∀ f', LF (vh_I h) f' l → (∀ c, (∀ w n, c (sv_set w v n) ↔ c w) → N6 c F (EE (vh_I h)) (AA (vh_I h)) G = 0) → Q (some (.int (nI 0))) (vh_sI h f'))
    (hQ1 : ∀ f' T' G', LF (vh_I h) f' l → LV f' l (fo F v) T' G' → (∀ c, (∀ w n, c (sv_set w v n) ↔ c w) → T * N6 c F (EE (vh_I h)) (AA (vh_I h)) G = T' * N6 c (fo F v) (EE (vh_I h)) (AA (vh_I h)) G') → Q (some (.int (nI 1))) (vh_sI h f')) :
    Wp 60 0 [.ref 13, .int (nI l), .int (nI v), vt_un, vt_un, vt_un, vt_un, vt_un, vt_un, vt_un, vt_un] [] h Q := by
  have hC' := hC
  obtain ⟨ck13, cr0, cr1, cr2, cr3, cr4, cr5, cr6, cr7, cr8, cr9, ck14, ck15, ck16, ck17, ck18, ck19, ck20, ck21, ck22, ck23, cz14, cz15, cz16, cz17, cz18, cz19, cz20, cz21, cz22, cz23⟩ := hC
  have b1 : l * 6 + v < 18 := by omega
  have hr : ∀ n, n < 32 → (bt (vh_I h 20 (l * 6 + v)) n = true ↔ G v n ≠ 0) := fun n hn => hL.2.2.1 v n hv hn hF
  simp only [s_60_0, s_60_1, s_60_4, s_60_5, s_60_6, s_60_7, s_60_8, s_60_9, s_60_10, s_60_11, s_60_12, s_60_13, s_60_14, s_60_15, s_60_17, s_60_18, s_60_19, s_60_20, s_60_21, s_60_22, s_60_25, s_60_26, s_60_27, s_60_28, s_60_31, s_60_32, s_60_33, s_60_34, s_60_36, ck13, cr0, cr1, cr2, cr3, cr4, cr5, cr6, cr7, cr8, cr9, ck14, ck15, ck16, ck17, ck18, ck19, ck20, ck21, ck22, ck23, cz14, cz15, cz16, cz17, cz18, cz19, cz20, cz21, cz22, cz23, va_rf_s, pk_mul, nI_add, not_false_eq_true, and_self, true_and, Option.toList_some, Option.toList_none, List.append_nil, List.cons_append, List.nil_append, nI_01, nI_11, vh_K_wI, vh_R_wI, vh_Z_wI, vh_wI_sI, vh_K_sI, vh_R_sI, vh_Z_sI, vh_sI_sI, vh_I_sI, cl (show l < 2 ^ 31 by omega), ib hl (show 3 ≤ 2 ^ 31 by omega), cl (show v < 2 ^ 31 by omega), ib hv (show 6 ≤ 2 ^ 31 by omega), up2_s, s_60_38]
  have e15 : ∀ x : Int32, up2 (vh_I h) 18 l x 15 v = vh_I h 15 v := fun x => up2_a _ _ _ (by decide) _
  have hoth : ∀ t, t < 32 → (bt (vh_I h 15 v &&& (vh_I h 18 l &&& (nI 1 <<< (nI v &&& 31) ^^^ -nI 1))) t = true ↔ t < 6 ∧ EE (vh_I h) v t = true ∧ fo F v t = true) := by
    intro t ht
    show bt (vh_I h 15 v &&& (vh_I h 18 l &&& (j1 (nI v) ^^^ -nI 1))) t = true ↔ _
    rw [b_and, b_and, bt_not _ ht, bt_j1 (by omega) ht, Bool.and_eq_true, Bool.and_eq_true]
    rcases Nat.lt_or_ge t 6 with q | q
    · rw [hL.1 t q]
      constructor
      · rintro ⟨h1, h2, h3⟩
        exact ⟨q, h1, fo_t.mpr ⟨h2, by simpa using h3⟩⟩
      · rintro ⟨_, h1, h2⟩
        exact ⟨h1, (fo_t.mp h2).1, by simpa using (fo_t.mp h2).2⟩
    · rw [hL.2.1 t q ht]
      constructor
      · rintro ⟨_, h2, _⟩; cases h2
      · rintro ⟨h1, _⟩; omega
  simp only [e15]
  by_cases hz : vh_I h 15 v &&& (vh_I h 18 l &&& (nI 1 <<< (nI v &&& 31) ^^^ -nI 1)) = 0
  · rw [if_neg (fun z => z hz)]
    have no : ∀ t, t < 6 → fo F v t = true → ¬ EE (vh_I h) v t = true := by
      intro t ht h1 h2
      have := (hoth t (by omega)).mpr ⟨ht, h2, h1⟩
      rw [hz, b_0] at this
      cases this
    have fin : ∀ y : Int32, (¬ vh_I h 13 10 = 0 → y = nI (T * sg_S (fun n => G v n) 32)) → ∀ a b c d e g i j : Value, Wp 60 66 [.ref 13, .int (nI l), .int (nI v), .int (nI (l * 6 + v)), a, b, c, d, e, g, i] [] (vh_sI h (up2 (up2 (vh_I h) 18 l (vh_I h 18 l &&& (j1 (nI v) ^^^ -nI 1))) 19 l y)) Q := by
      intro y hy a b c d e g i j
      simp only [s_60_66, s_60_67, s_60_70, s_60_71, ck13, cr0, cr1, cr2, cr3, cr4, cr5, cr6, cr7, cr8, cr9, ck14, ck15, ck16, ck17, ck18, ck19, ck20, ck21, ck22, ck23, cz14, cz15, cz16, cz17, cz18, cz19, cz20, cz21, cz22, cz23, va_rf_s, pk_mul, nI_add, not_false_eq_true, and_self, true_and, Option.toList_some, Option.toList_none, List.append_nil, List.cons_append, List.nil_append, nI_01, nI_11, vh_K_wI, vh_R_wI, vh_Z_wI, vh_wI_sI, vh_K_sI, vh_R_sI, vh_Z_sI, vh_sI_sI, vh_I_sI, cl (show l * 6 + v < 2 ^ 31 by omega), ib b1 (show 18 ≤ 2 ^ 31 by omega), s_60_72]
      have e20 : up2 (up2 (vh_I h) 18 l (vh_I h 18 l &&& (j1 (nI v) ^^^ -nI 1))) 19 l y 20 (l * 6 + v) = vh_I h 20 (l * 6 + v) := by rw [up2_a _ _ _ (by decide), up2_a _ _ _ (by decide)]
      have lf : LF (vh_I h) (up2 (up2 (vh_I h) 18 l (vh_I h 18 l &&& (j1 (nI v) ^^^ -nI 1))) 19 l y) l := LF_up (LF_up (LF_refl _ _) (by omega)) (by omega)
      rw [e20]
      by_cases q : vh_I h 20 (l * 6 + v) = 0
      · rw [if_pos q]
        simp only [s_60_79, s_60_80, va_rf_s, pk_mul, nI_add, not_false_eq_true, and_self, true_and, Option.toList_some, Option.toList_none, List.append_nil, List.cons_append, List.nil_append, nI_01, nI_11, vh_K_wI, vh_R_wI, vh_Z_wI, vh_wI_sI, vh_K_sI, vh_R_sI, vh_Z_sI, vh_sI_sI, vh_I_sI]
        refine hQ0 _ lf (fun c hc => N6_0 hv (fun n hn => ?_))
        refine Classical.byContradiction (fun z => ?_)
        have := (hr n hn).mpr z
        rw [q, b_0] at this
        cases this
      · rw [if_neg q]
        simp only [s_60_75, s_60_76, s_60_80, va_rf_s, pk_mul, nI_add, not_false_eq_true, and_self, true_and, Option.toList_some, Option.toList_none, List.append_nil, List.cons_append, List.nil_append, nI_01, nI_11, vh_K_wI, vh_R_wI, vh_Z_wI, vh_wI_sI, vh_K_sI, vh_R_sI, vh_Z_sI, vh_sI_sI, vh_I_sI]
        have hS : sg_S (fun n => G v n) 32 ≠ 0 := by
          intro z
          obtain ⟨k, hk, hb, _⟩ := bt_ex q
          exact (hr k hk).mp hb (sg_eq0.mp z k hk)
        refine hQ1 _ (T * sg_S (fun n => G v n) 32) (gD G v) lf (LV_out hL hv (Nat.mul_ne_zero hL.2.2.2.2.2 hS) hy) (fun c hc => ?_)
        rw [N6_drop hs hv hF no hc, Nat.mul_assoc]
    simp only [j1] at fin
    simp only [s_60_41, s_60_42, s_60_45, s_60_46, s_60_47, s_60_48, s_60_49, ck13, cr0, cr1, cr2, cr3, cr4, cr5, cr6, cr7, cr8, cr9, ck14, ck15, ck16, ck17, ck18, ck19, ck20, ck21, ck22, ck23, cz14, cz15, cz16, cz17, cz18, cz19, cz20, cz21, cz22, cz23, va_rf_s, pk_mul, nI_add, not_false_eq_true, and_self, true_and, Option.toList_some, Option.toList_none, List.append_nil, List.cons_append, List.nil_append, nI_01, nI_11, vh_K_wI, vh_R_wI, vh_Z_wI, vh_wI_sI, vh_K_sI, vh_R_sI, vh_Z_sI, vh_sI_sI, vh_I_sI, cl (show l < 2 ^ 31 by omega), ib hl (show 3 ≤ 2 ^ 31 by omega), s_60_52]
    have e13 : ∀ x : Int32, up2 (vh_I h) 18 l x 13 10 = vh_I h 13 10 := fun x => up2_a _ _ _ (by decide) _
    have e19 : ∀ x : Int32, up2 (vh_I h) 18 l x 19 l = vh_I h 19 l := fun x => up2_a _ _ _ (by decide) _
    simp only [e13, e19]
    by_cases q : vh_I h 13 10 = 0
    · rw [if_pos q]
      simp only [s_60_63, s_60_64, s_60_65, ck13, cr0, cr1, cr2, cr3, cr4, cr5, cr6, cr7, cr8, cr9, ck14, ck15, ck16, ck17, ck18, ck19, ck20, ck21, ck22, ck23, cz14, cz15, cz16, cz17, cz18, cz19, cz20, cz21, cz22, cz23, va_rf_s, pk_mul, nI_add, not_false_eq_true, and_self, true_and, Option.toList_some, Option.toList_none, List.append_nil, List.cons_append, List.nil_append, nI_01, nI_11, vh_K_wI, vh_R_wI, vh_Z_wI, vh_wI_sI, vh_K_sI, vh_R_sI, vh_Z_sI, vh_sI_sI, vh_I_sI, cl (show l < 2 ^ 31 by omega), ib hl (show 3 ≤ 2 ^ 31 by omega)]
      exact fin _ (fun z => absurd q z) _ _ _ _ _ _ _ (.int 0)
    · rw [if_neg q]
      have a := hL.2.2.2.1 q
      have hC2 : CL (vh_sI h (up2 (vh_I h) 18 l (vh_I h 18 l &&& (nI 1 <<< (nI v &&& 31) ^^^ -nI 1)))) := hC'
      simp only [s_60_55, s_60_56, s_60_57, s_60_60, s_60_63, s_60_64, s_60_65, ck13, cr0, cr1, cr2, cr3, cr4, cr5, cr6, cr7, cr8, cr9, ck14, ck15, ck16, ck17, ck18, ck19, ck20, ck21, ck22, ck23, cz14, cz15, cz16, cz17, cz18, cz19, cz20, cz21, cz22, cz23, va_rf_s, pk_mul, nI_add, not_false_eq_true, and_self, true_and, Option.toList_some, Option.toList_none, List.append_nil, List.cons_append, List.nil_append, nI_01, nI_11, vh_K_wI, vh_R_wI, vh_Z_wI, vh_wI_sI, vh_K_sI, vh_R_sI, vh_Z_sI, vh_sI_sI, vh_I_sI, c_weightOf _ hC2 b1 (g := fun n => G v n) (fun n hn => by rw [vh_I_sI, up2_a _ _ _ (by decide)]; exact hr n hn) (fun n hn hg => by rw [vh_I_sI, up2_a _ _ _ (by decide)]; exact a.2 v n hv hn hF hg), cl (show l < 2 ^ 31 by omega), ib hl (show 3 ≤ 2 ^ 31 by omega)]
      exact fin _ (fun _ => by rw [a.1, pk_mul]) _ _ _ _ _ _ _ (.int 0)
  · rw [if_pos hz]
    obtain ⟨u, hu32, hub, hul⟩ := bt_ex hz
    obtain ⟨hu, hEu, hFu⟩ := (hoth u hu32).mp hub
    have huv := (fo_t.mp hFu).2
    have b2 : l * 6 + u < 18 := by omega
    have b3 : (6 * v + u) * 32 + 32 ≤ 1152 := by omega
    have sA : ∀ n m, bt (vh_I h 14 ((6 * v + u) * 32 + n)) m = AA (vh_I h) v u n m := fun _ _ => rfl
    simp only [s_60_81, s_60_83, s_60_86, s_60_88, s_60_89, s_60_91, s_60_92, s_60_94, s_60_95, s_60_97, s_60_99, s_60_100, s_60_101, s_60_103, s_60_104, s_60_106, s_60_107, s_60_109, s_60_110, ck13, cr0, cr1, cr2, cr3, cr4, cr5, cr6, cr7, cr8, cr9, ck14, ck15, ck16, ck17, ck18, ck19, ck20, ck21, ck22, ck23, cz14, cz15, cz16, cz17, cz18, cz19, cz20, cz21, cz22, cz23, va_rf_s, pk_mul, nI_add, not_false_eq_true, and_self, true_and, Option.toList_some, Option.toList_none, List.append_nil, List.cons_append, List.nil_append, nI_01, nI_11, vh_K_wI, vh_R_wI, vh_Z_wI, vh_wI_sI, vh_K_sI, vh_R_sI, vh_Z_sI, vh_sI_sI, vh_I_sI, c_leastOf, jleast_eq hu32 hub hul, s_60_113]
    have e13 : ∀ x : Int32, up2 (vh_I h) 18 l x 13 10 = vh_I h 13 10 := fun x => up2_a _ _ _ (by decide) _
    simp only [e13]
    have fin : ∀ f1 : Nat → Nat → Int32, (∀ c, c ≠ 18 → c ≠ 21 → c ≠ 22 → ∀ j, f1 c j = vh_I h c j) → (∀ j, f1 18 j = up2 (vh_I h) 18 l (vh_I h 18 l &&& (j1 (nI v) ^^^ -nI 1)) 18 j) → (∀ j, (j < (l * 6 + u) * 32 ∨ (l * 6 + u) * 32 + 32 ≤ j) → f1 21 j = vh_I h 21 j) → (¬ vh_I h 13 10 = 0 → ∀ m, m < 32 → G u m ≠ 0 → f1 21 ((l * 6 + u) * 32 + m) = nI (gF (AA (vh_I h)) G v u u m)) → ∀ (o : Int32) (d e g : Value), Wp 60 125 [.ref 13, .int (nI l), .int (nI v), .int (nI (l * 6 + v)), .int o, .int (nI u), .int (nI (l * 6 + u)), .int (nI ((6 * v + u) * 32)), d, e, g] [] (vh_sI h f1) Q := by
      intro f1 q1 q2 q3 q4 o d e g
      have hC3 : CL (vh_sI h f1) := hC'
      simp only [s_60_125, s_60_126, s_60_129, s_60_130, s_60_131, s_60_133, s_60_134, s_60_136, s_60_137, ck13, cr0, cr1, cr2, cr3, cr4, cr5, cr6, cr7, cr8, cr9, ck14, ck15, ck16, ck17, ck18, ck19, ck20, ck21, ck22, ck23, cz14, cz15, cz16, cz17, cz18, cz19, cz20, cz21, cz22, cz23, va_rf_s, pk_mul, nI_add, not_false_eq_true, and_self, true_and, Option.toList_some, Option.toList_none, List.append_nil, List.cons_append, List.nil_append, nI_01, nI_11, vh_K_wI, vh_R_wI, vh_Z_wI, vh_wI_sI, vh_K_sI, vh_R_sI, vh_Z_sI, vh_sI_sI, vh_I_sI, cl (show l * 6 + v < 2 ^ 31 by omega), ib b1 (show 18 ≤ 2 ^ 31 by omega)]
      refine l_met hC3 b3 (fun met y hm => ?_) 32 0 (by omega) (nI 0) (fun m _ => ?_)
      · have lf : LF (vh_I h) f1 l := by
          refine ⟨fun c hc j => q1 c (by omega) (by omega) (by omega) j, fun j hj => ⟨?_, q1 19 (by decide) (by decide) (by decide) j⟩, fun j _ => q1 20 (by decide) (by decide) (by decide) j, fun j hj => q3 j (by omega)⟩
          rw [q2 j, up2_i _ _ _ _ (by omega)]
        have hm2 : ∀ m, m < 32 → (bt met m = true ↔ ∃ n, n < 32 ∧ G v n ≠ 0 ∧ AA (vh_I h) v u n m = true) := by
          intro m hm'
          rw [hm m hm']
          constructor
          · rintro ⟨n, z1, z2, z3⟩
            rw [q1 20 (by decide) (by decide) (by decide)] at z2
            rw [vh_I_sI, q1 14 (by decide) (by decide) (by decide)] at z3
            exact ⟨n, z1, (hr n z1).mp z2, z3⟩
          · rintro ⟨n, z1, z2, z3⟩
            refine ⟨n, z1, ?_, ?_⟩
            · rw [q1 20 (by decide) (by decide) (by decide)]
              exact (hr n z1).mpr z2
            · rw [vh_I_sI, q1 14 (by decide) (by decide) (by decide)]
              exact z3
        simp only [s_60_189, s_60_190, s_60_193, s_60_195, s_60_196, s_60_197, s_60_199, s_60_200, s_60_201, s_60_202, s_60_205, s_60_207, ck13, cr0, cr1, cr2, cr3, cr4, cr5, cr6, cr7, cr8, cr9, ck14, ck15, ck16, ck17, ck18, ck19, ck20, ck21, ck22, ck23, cz14, cz15, cz16, cz17, cz18, cz19, cz20, cz21, cz22, cz23, va_rf_s, pk_mul, nI_add, not_false_eq_true, and_self, true_and, Option.toList_some, Option.toList_none, List.append_nil, List.cons_append, List.nil_append, nI_01, nI_11, vh_K_wI, vh_R_wI, vh_Z_wI, vh_wI_sI, vh_K_sI, vh_R_sI, vh_Z_sI, vh_sI_sI, vh_I_sI, cl (show l * 6 + u < 2 ^ 31 by omega), ib b2 (show 18 ≤ 2 ^ 31 by omega), up2_s, s_60_208]
        have lf2 : LF (vh_I h) (up2 f1 20 (l * 6 + u) (f1 20 (l * 6 + u) &&& met)) l := LF_up lf (by omega)
        have lv2 : LV (up2 f1 20 (l * 6 + u) (f1 20 (l * 6 + u) &&& met)) l (fo F v) T (gF (AA (vh_I h)) G v u) := by
          refine LV_fold hL hv hu huv (fo_t.mp hFu).1 ?_ ?_ ?_ (fun t ht hne => ?_) ?_ (fun _ t n ht hn hne => ?_) (fun hc n hn hg => ?_) hm2
          · rw [up2_a _ _ _ (by decide)]; exact q1 13 (by decide) (by decide) (by decide) _
          · rw [up2_a _ _ _ (by decide), q2, up2_s]
          · rw [up2_a _ _ _ (by decide)]; exact q1 19 (by decide) (by decide) (by decide) _
          · rw [up2_i _ _ _ _ (by omega)]; exact q1 20 (by decide) (by decide) (by decide) _
          · rw [up2_s, q1 20 (by decide) (by decide) (by decide)]
          · rw [up2_a _ _ _ (by decide)]; exact q3 _ (by omega)
          · rw [up2_a _ _ _ (by decide)]; exact q4 hc n hn hg
        have neq := fun c hc => N6_fold (c := c) (G := G) hs hv hu hF (fo_t.mp hFu).1 huv hEu (fun t ht h1 h2 => hone t u ht hu (fo_t.mp h1).1 (fo_t.mp hFu).1 h2 hEu) hc
        by_cases q : f1 20 (l * 6 + u) &&& met = 0
        · rw [if_pos q]
          simp only [s_60_215, s_60_216, va_rf_s, pk_mul, nI_add, not_false_eq_true, and_self, true_and, Option.toList_some, Option.toList_none, List.append_nil, List.cons_append, List.nil_append, nI_01, nI_11, vh_K_wI, vh_R_wI, vh_Z_wI, vh_wI_sI, vh_K_sI, vh_R_sI, vh_Z_sI, vh_sI_sI, vh_I_sI]
          refine hQ0 _ lf2 (fun c hc => ?_)
          rw [neq c hc]
          refine N6_0 hu (fun m hm' => ?_)
          refine Classical.byContradiction (fun z => ?_)
          have := (lv2.2.2.1 u m hu hm' hFu).mpr z
          rw [up2_s, q, b_0] at this
          cases this
        · rw [if_neg q]
          simp only [s_60_211, s_60_212, s_60_216, va_rf_s, pk_mul, nI_add, not_false_eq_true, and_self, true_and, Option.toList_some, Option.toList_none, List.append_nil, List.cons_append, List.nil_append, nI_01, nI_11, vh_K_wI, vh_R_wI, vh_Z_wI, vh_wI_sI, vh_K_sI, vh_R_sI, vh_Z_sI, vh_sI_sI, vh_I_sI]
          exact hQ1 _ T _ lf2 lv2 (fun c hc => by rw [neq c hc])
      · have n0 : bt (nI 0) m = false := b_0 m
        rw [n0]
        constructor
        · intro z; cases z
        · rintro ⟨n, z, _⟩; omega
    simp only [j1] at fin
    have gu : ∀ m, gF (AA (vh_I h)) G v u u m = G u m * sg_S (fun n => G v n * (if AA (vh_I h) v u n m = true then 1 else 0)) 32 := by
      intro m
      unfold gF
      rw [if_neg huv, if_pos rfl]
    by_cases q : vh_I h 13 10 = 0
    · rw [if_pos q]
      exact fin _ (fun c h1 _ _ j => up2_a _ _ _ h1 j) (fun _ => rfl) (fun j _ => up2_a _ _ _ (by decide) j) (fun z => absurd q z) _ _ _ _
    · rw [if_neg q]
      have a := hL.2.2.2.1 q
      simp only [s_60_116, s_60_117, s_60_118, s_60_120, s_60_122, ck13, cr0, cr1, cr2, cr3, cr4, cr5, cr6, cr7, cr8, cr9, ck14, ck15, ck16, ck17, ck18, ck19, ck20, ck21, ck22, ck23, cz14, cz15, cz16, cz17, cz18, cz19, cz20, cz21, cz22, cz23, va_rf_s, pk_mul, nI_add, not_false_eq_true, and_self, true_and, Option.toList_some, Option.toList_none, List.append_nil, List.cons_append, List.nil_append, nI_01, nI_11, vh_K_wI, vh_R_wI, vh_Z_wI, vh_wI_sI, vh_K_sI, vh_R_sI, vh_Z_sI, vh_sI_sI, vh_I_sI]
      refine c_weigh (g := fun n => G v n) (gu := fun m => G u m) (A := fun n m => AA (vh_I h) v u n m) hC' b1 b2 b3 (fun n hn => ?_) (fun n hn hg => ?_) (fun m hm => ?_) (fun m hm hg => ?_) (fun n m hn hm => ?_) (fun f' z1 z2 z3 => ?_)
      · rw [vh_I_sI, up2_a _ _ _ (by decide)]; exact hr n hn
      · rw [vh_I_sI, up2_a _ _ _ (by decide)]; exact a.2 v n hv hn hF hg
      · rw [vh_I_sI, up2_a _ _ _ (by decide)]; exact hL.2.2.1 u m hu hm (fo_t.mp hFu).1
      · rw [vh_I_sI, up2_a _ _ _ (by decide)]; exact a.2 u m hu hm (fo_t.mp hFu).1 hg
      · rw [vh_I_sI, up2_a _ _ _ (by decide)]; exact sA n m
      · simp only [va_rf_s, pk_mul, nI_add, not_false_eq_true, and_self, true_and, Option.toList_some, Option.toList_none, List.append_nil, List.cons_append, List.nil_append, nI_01, nI_11, vh_K_wI, vh_R_wI, vh_Z_wI, vh_wI_sI, vh_K_sI, vh_R_sI, vh_Z_sI, vh_sI_sI, vh_I_sI]
        refine fin f' (fun c h1 h2 h3 j => ?_) (fun j => ?_) (fun j hj => ?_) (fun _ m hm hg => ?_) _ _ _ _
        · rw [z1 c h2 h3 j, vh_I_sI, up2_a _ _ _ h1]
        · rw [z1 18 (by decide) (by decide) j, vh_I_sI]
        · rw [z2 j hj, vh_I_sI, up2_a _ _ _ (by decide)]
        · rw [z3 m hm hg, gu]

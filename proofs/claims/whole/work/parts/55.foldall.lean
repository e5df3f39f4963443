-- ===== CASES of the class: foldAll, mostLinked, gather =====
/-- how many variables are free -/
def cd (F : Nat → Bool) : Nat := sg_S (fun v => if F v = true then 1 else 0) 6
theorem cd_fo {F : Nat → Bool} {v : Nat} (hv : v < 6) (hF : F v = true) : cd F = cd (fo F v) + 1 := by
  unfold cd
  have e : ∀ u, u < 6 → (if F u = true then 1 else 0) = (if fo F v u = true then 1 else 0) + (if u = v then 1 else 0) := by
    intro u _
    by_cases q : u = v
    · subst q
      rw [if_pos hF, if_pos rfl, if_neg (fun z => (fo_t.mp z).2 rfl)]
    · rw [if_neg q, Nat.add_zero]
      by_cases q2 : F u = true
      · rw [if_pos q2, if_pos (fo_t.mpr ⟨q2, q⟩)]
      · rw [if_neg q2, if_neg (fun z => q2 (fo_t.mp z).1)]
  rw [sg_congr e, sg_add, sg_one (k := v) hv (fun i _ hi => if_neg hi), if_pos rfl]
theorem cd_le (F : Nat → Bool) : cd F ≤ 6 := by
  have : ∀ n, sg_S (fun v => if F v = true then 1 else 0) n ≤ n := by
    intro n
    induction n with
    | zero => exact Nat.le_refl _
    | succ n ih =>
      rw [sg_succ]
      by_cases q : F n = true
      · rw [if_pos q]; omega
      · rw [if_neg q]; omega
  exact this 6
theorem cd_0 {F : Nat → Bool} (h : cd F = 0) {v : Nat} (hv : v < 6) : F v = false := by
  have := sg_eq0.mp h v hv
  cases hF : F v with
  | false => rfl
  | true => rw [if_pos hF] at this; cases this
theorem dg_one {E : Nat → Nat → Bool} {F : Nat → Bool} {v : Nat} (h : dg E F v ≤ 1) {t t' : Nat} (ht : t < 6) (ht' : t' < 6) (h1 : F t = true) (h1' : F t' = true) (h2 : E v t = true) (h2' : E v t' = true) : t = t' := by
  unfold dg at h
  have m1 : t ∈ (List.range 6).filter (fun u => E v u && F u) := List.mem_filter.mpr ⟨List.mem_range.mpr ht, by simp [h1, h2]⟩
  have m2 : t' ∈ (List.range 6).filter (fun u => E v u && F u) := List.mem_filter.mpr ⟨List.mem_range.mpr ht', by simp [h1', h2']⟩
  revert h m1 m2
  generalize (List.range 6).filter (fun u => E v u && F u) = l
  intro h m1 m2
  match l, h, m1, m2 with
  | [a], _, m1, m2 => rw [List.mem_singleton.mp m1, List.mem_singleton.mp m2]
theorem dg_6 (E : Nat → Nat → Bool) (F : Nat → Bool) (v : Nat) : dg E F v ≤ 6 := by
  unfold dg
  have := List.length_filter_le (fun u => E v u && F u) (List.range 6)
  rw [List.length_range] at this
  exact this
/-- the variable that is asked for: 6 for none -/
def KP (f : Nat → Nat → Int32) (kp : Nat) : Prop := (kp < 6 ∧ f 13 14 = nI kp) ∨ (kp = 6 ∧ f 13 14 = -nI 1)
theorem KP_eq {f : Nat → Nat → Int32} {kp v : Nat} (h : KP f kp) (hv : v < 6) : nI v = f 13 14 ↔ v = kp := by
  rcases h with ⟨h1, h2⟩ | ⟨h1, h2⟩
  · rw [h2, nI_eq (by omega) (by omega)]
  · rw [h2, h1]
    constructor
    · intro z
      exact absurd z ((by decide +kernel : ∀ v, v < 6 → ¬ nI v = -nI 1) v hv)
    · intro z; omega
/-- a wish that speaks of the asked variable alone -/
def ik (c : (Nat → Nat) → Prop) (kp : Nat) : Prop := ∀ v, v < 6 → v ≠ kp → ∀ w n, c (sv_set w v n) ↔ c w
/-- level l, from F T G on: same sums -/
def FI (f f0 : Nat → Nat → Int32) (l kp : Nat) (F : Nat → Bool) (T : Nat) (G : Nat → Nat → Nat) (F0 : Nat → Bool) (T0 : Nat) (G0 : Nat → Nat → Nat) : Prop :=
  LF f f0 l ∧ LV f0 l F0 T0 G0 ∧ (∀ v, v < 6 → F0 v = true → F v = true) ∧ (∀ v, v < 6 → v = kp → F0 v = F v) ∧ ∀ c, ik c kp → T * N6 c F (EE f) (AA f) G = T0 * N6 c F0 (EE f) (AA f) G0
theorem jbc_LV {f : Nat → Nat → Int32} {l : Nat} {F : Nat → Bool} {T : Nat} {G : Nat → Nat → Nat} (h : LV f l F T G) (v : Nat) : jbc (f 15 v &&& f 18 l) = nI (dg (EE f) F v) := by
  refine jbc_dg (p := fun u => EE f v u && F u) (fun i hi => ?_) (fun i h1 h2 => ?_)
  · rw [b_and, h.1 i hi]; rfl
  · rw [b_and, h.2.1 i h1 h2, Bool.and_false]
theorem l_foldI {l kp : Nat} {h : vt_H} {Q : vt_Q} {F Fs : Nat → Bool} {T : Nat} {G : Nat → Nat → Nat} {tn : Value} (hC : CL h) (hl : l < 3) (hs : sy (EE (vh_I h)) (AA (vh_I h))) (hk : KP (vh_I h) kp)
    (hQ0 : ∀ f', LF (vh_I h) f' l → (∀ c, ik c kp → T * N6 c F (EE (vh_I h)) (AA (vh_I h)) G = 0) → Q (some (.int (nI 0))) (vh_sI h f'))
    (hQ : ∀ f0 F0 T0 G0 mo y, FI (vh_I h) f0 l kp F T G F0 T0 G0 → (mo = 1 ∧ cd F0 < cd Fs ∨ mo = 0 ∧ ∀ v, v < 6 → F0 v = true → v ≠ kp → 2 ≤ dg (EE (vh_I h)) F0 v) → Wp 57 80 [.ref 13, .int (nI l), .int (nI mo), tn, y] [] (vh_sI h f0) Q) :
    ∀ (k i : Nat), i + k = 6 → ∀ f0 F0 T0 G0 mo, FI (vh_I h) f0 l kp F T G F0 T0 G0 → (mo = 1 ∧ cd F0 < cd Fs ∨ mo = 0 ∧ cd F0 = cd Fs ∧ ∀ v, v < i → F0 v = true → v ≠ kp → 2 ≤ dg (EE (vh_I h)) F0 v) → Wp 57 19 [.ref 13, .int (nI l), .int (nI mo), tn, .int (nI i)] [] (vh_sI h f0) Q := by
  have hC' := hC
  obtain ⟨ck13, cr0, cr1, cr2, cr3, cr4, cr5, cr6, cr7, cr8, cr9, ck14, ck15, ck16, ck17, ck18, ck19, ck20, ck21, ck22, ck23, cz14, cz15, cz16, cz17, cz18, cz19, cz20, cz21, cz22, cz23⟩ := hC
  intro k
  induction k with
  | zero =>
    intro i hi f0 F0 T0 G0 mo hI hm
    have : i = 6 := by omega
    subst this
    simp only [s_57_19, s_57_21, s_57_23, if_pos (nI_le (Nat.le_refl 6) (show 6 < 2 ^ 31 by omega))]
    refine hQ f0 F0 T0 G0 mo _ hI ?_
    rcases hm with q | q
    · exact Or.inl q
    · exact Or.inr ⟨q.1, q.2.2⟩
  | succ k ih =>
    intro i hi f0 F0 T0 G0 mo hI hm
    have hlt : i < 6 := by omega
    obtain ⟨hf, hL, i1, i2, i3⟩ := hI
    simp only [s_57_19, s_57_21, s_57_23, if_neg (nI_ge hlt (show 6 < 2 ^ 31 by omega))]
    simp only [s_57_26, s_57_28, s_57_29, ck13, cr0, cr1, cr2, cr3, cr4, cr5, cr6, cr7, cr8, cr9, ck14, ck15, ck16, ck17, ck18, ck19, ck20, ck21, ck22, ck23, cz14, cz15, cz16, cz17, cz18, cz19, cz20, cz21, cz22, cz23, va_rf_s, pk_mul, nI_add, not_false_eq_true, and_self, true_and, Option.toList_some, Option.toList_none, List.append_nil, List.cons_append, List.nil_append, nI_01, nI_11, vh_K_wI, vh_R_wI, vh_Z_wI, vh_wI_sI, vh_K_sI, vh_R_sI, vh_Z_sI, vh_sI_sI, vh_I_sI, s_57_32]
    have ek : f0 13 14 = vh_I h 13 14 := hf.1 13 (by omega) 14
    rw [ek]
    by_cases q : i = kp
    · rw [if_pos ((KP_eq hk hlt).mpr q)]
      simp only [s_57_74, s_57_77, va_rf_s, pk_mul, nI_add, not_false_eq_true, and_self, true_and, Option.toList_some, Option.toList_none, List.append_nil, List.cons_append, List.nil_append, nI_01, nI_11, vh_K_wI, vh_R_wI, vh_Z_wI, vh_wI_sI, vh_K_sI, vh_R_sI, vh_Z_sI, vh_sI_sI, vh_I_sI]
      refine ih (i + 1) (by omega) f0 F0 T0 G0 mo ⟨hf, hL, i1, i2, i3⟩ ?_
      rcases hm with q2 | ⟨q2, q3, q4⟩
      · exact Or.inl q2
      · refine Or.inr ⟨q2, q3, fun v hv hF hne => q4 v ?_ hF hne⟩
        omega
    · rw [if_neg (fun z => q ((KP_eq hk hlt).mp z))]
      simp only [s_57_35, s_57_36, s_57_39, s_57_40, s_57_41, s_57_43, ck13, cr0, cr1, cr2, cr3, cr4, cr5, cr6, cr7, cr8, cr9, ck14, ck15, ck16, ck17, ck18, ck19, ck20, ck21, ck22, ck23, cz14, cz15, cz16, cz17, cz18, cz19, cz20, cz21, cz22, cz23, va_rf_s, pk_mul, nI_add, not_false_eq_true, and_self, true_and, Option.toList_some, Option.toList_none, List.append_nil, List.cons_append, List.nil_append, nI_01, nI_11, vh_K_wI, vh_R_wI, vh_Z_wI, vh_wI_sI, vh_K_sI, vh_R_sI, vh_Z_sI, vh_sI_sI, vh_I_sI, cl (show l < 2 ^ 31 by omega), ib hl (show 3 ≤ 2 ^ 31 by omega), c_isIn, jbit_bt _ (show i < 32 by omega), jb_0, s_57_46]
      rw [hL.1 i hlt]
      by_cases qF : F0 i = true
      · rw [if_neg (fun z => z qF)]
        have hC2 : CL (vh_sI h f0) := hC'
        simp only [s_57_49, s_57_50, s_57_51, s_57_53, s_57_56, ck13, cr0, cr1, cr2, cr3, cr4, cr5, cr6, cr7, cr8, cr9, ck14, ck15, ck16, ck17, ck18, ck19, ck20, ck21, ck22, ck23, cz14, cz15, cz16, cz17, cz18, cz19, cz20, cz21, cz22, cz23, va_rf_s, pk_mul, nI_add, not_false_eq_true, and_self, true_and, Option.toList_some, Option.toList_none, List.append_nil, List.cons_append, List.nil_append, nI_01, nI_11, vh_K_wI, vh_R_wI, vh_Z_wI, vh_wI_sI, vh_K_sI, vh_R_sI, vh_Z_sI, vh_sI_sI, vh_I_sI, c_linkCount _ hC2 hl hlt, jbc_LV hL, s_57_57]
        have eE : EE f0 = EE (vh_I h) := LF_EE hf
        have eA : AA f0 = AA (vh_I h) := LF_AA hf
        rw [eE]
        by_cases qd : dg (EE (vh_I h)) F0 i ≤ 1
        · rw [if_neg (nI_nlt qd (by omega))]
          simp only [s_57_60, s_57_61, s_57_62, s_57_63, s_57_64, s_57_66, ck13, cr0, cr1, cr2, cr3, cr4, cr5, cr6, cr7, cr8, cr9, ck14, ck15, ck16, ck17, ck18, ck19, ck20, ck21, ck22, ck23, cz14, cz15, cz16, cz17, cz18, cz19, cz20, cz21, cz22, cz23, va_rf_s, pk_mul, nI_add, not_false_eq_true, and_self, true_and, Option.toList_some, Option.toList_none, List.append_nil, List.cons_append, List.nil_append, nI_01, nI_11, vh_K_wI, vh_R_wI, vh_Z_wI, vh_wI_sI, vh_K_sI, vh_R_sI, vh_Z_sI, vh_sI_sI, vh_I_sI]
          refine c_fold hC2 hl hlt qF hL (by rw [vh_I_sI, eE, eA]; exact hs) (fun t t' h1 h2 h3 h4 h5 h6 => ?_) (fun f' h1 h2 => ?_) (fun f' T' G' h1 h2 h3 => ?_)
          · rw [vh_I_sI, eE] at h5 h6
            exact dg_one qd h1 h2 h3 h4 h5 h6
          · simp only [va_rf_s, pk_mul, nI_add, not_false_eq_true, and_self, true_and, Option.toList_some, Option.toList_none, List.append_nil, List.cons_append, List.nil_append, nI_01, nI_11, vh_K_wI, vh_R_wI, vh_Z_wI, vh_wI_sI, vh_K_sI, vh_R_sI, vh_Z_sI, vh_sI_sI, vh_I_sI, s_57_69]
            rw [if_neg (fun z => z nI_00)]
            simp only [s_57_72, s_57_73, va_rf_s, pk_mul, nI_add, not_false_eq_true, and_self, true_and, Option.toList_some, Option.toList_none, List.append_nil, List.cons_append, List.nil_append, nI_01, nI_11, vh_K_wI, vh_R_wI, vh_Z_wI, vh_wI_sI, vh_K_sI, vh_R_sI, vh_Z_sI, vh_sI_sI, vh_I_sI]
            refine hQ0 f' (LF_trans hf h1) (fun c hc => ?_)
            rw [i3 c hc]
            have := h2 c (hc i hlt q)
            rw [vh_I_sI, eE, eA] at this
            rw [this, Nat.mul_zero]
          · simp only [va_rf_s, pk_mul, nI_add, not_false_eq_true, and_self, true_and, Option.toList_some, Option.toList_none, List.append_nil, List.cons_append, List.nil_append, nI_01, nI_11, vh_K_wI, vh_R_wI, vh_Z_wI, vh_wI_sI, vh_K_sI, vh_R_sI, vh_Z_sI, vh_sI_sI, vh_I_sI, s_57_69]
            rw [if_pos nI_10]
            simp only [s_57_74, s_57_77, va_rf_s, pk_mul, nI_add, not_false_eq_true, and_self, true_and, Option.toList_some, Option.toList_none, List.append_nil, List.cons_append, List.nil_append, nI_01, nI_11, vh_K_wI, vh_R_wI, vh_Z_wI, vh_wI_sI, vh_K_sI, vh_R_sI, vh_Z_sI, vh_sI_sI, vh_I_sI]
            refine ih (i + 1) (by omega) f' (fo F0 i) T' G' 1 ⟨LF_trans hf h1, h2, fun v hv hF => i1 v hv (fo_t.mp hF).1, fun v hv hF => ?_, fun c hc => ?_⟩ ?_
            · have : v ≠ i := fun z => q (by omega)
              rw [← i2 v hv hF]
              unfold fo
              simp [this]
            · rw [i3 c hc]
              have := h3 c (hc i hlt q)
              rw [vh_I_sI, eE, eA] at this
              exact this
            · have := cd_fo hlt qF
              rcases hm with q2 | ⟨q2, q3, q4⟩
              · exact Or.inl ⟨rfl, by omega⟩
              · exact Or.inl ⟨rfl, by omega⟩
        · rw [if_pos (nI_lt (a := 1) (by omega) (by have := dg_6 (EE (vh_I h)) F0 i; omega))]
          simp only [s_57_74, s_57_77, va_rf_s, pk_mul, nI_add, not_false_eq_true, and_self, true_and, Option.toList_some, Option.toList_none, List.append_nil, List.cons_append, List.nil_append, nI_01, nI_11, vh_K_wI, vh_R_wI, vh_Z_wI, vh_wI_sI, vh_K_sI, vh_R_sI, vh_Z_sI, vh_sI_sI, vh_I_sI]
          refine ih (i + 1) (by omega) f0 F0 T0 G0 mo ⟨hf, hL, i1, i2, i3⟩ ?_
          rcases hm with q2 | ⟨q2, q3, q4⟩
          · exact Or.inl q2
          · refine Or.inr ⟨q2, q3, fun v hv hF hne => ?_⟩
            by_cases e : v = i
            · subst e; omega
            · exact q4 v (by omega) hF hne
      · rw [if_pos qF]
        simp only [s_57_74, s_57_77, va_rf_s, pk_mul, nI_add, not_false_eq_true, and_self, true_and, Option.toList_some, Option.toList_none, List.append_nil, List.cons_append, List.nil_append, nI_01, nI_11, vh_K_wI, vh_R_wI, vh_Z_wI, vh_wI_sI, vh_K_sI, vh_R_sI, vh_Z_sI, vh_sI_sI, vh_I_sI]
        refine ih (i + 1) (by omega) f0 F0 T0 G0 mo ⟨hf, hL, i1, i2, i3⟩ ?_
        rcases hm with q2 | ⟨q2, q3, q4⟩
        · exact Or.inl q2
        · refine Or.inr ⟨q2, q3, fun v hv hF hne => ?_⟩
          by_cases e : v = i
          · subst e; exact absurd hF qF
          · exact q4 v (by omega) hF hne
theorem l_foldO {l kp : Nat} {h : vt_H} {Q : vt_Q} {F : Nat → Bool} {T : Nat} {G : Nat → Nat → Nat} (hC : CL h) (hl : l < 3) (hs : sy (EE (vh_I h)) (AA (vh_I h))) (hk : KP (vh_I h) kp)
    (hQ0 : ∀ f', LF (vh_I h) f' l → (∀ c, ik c kp → T * N6 c F (EE (vh_I h)) (AA (vh_I h)) G = 0) → Q (some (.int (nI 0))) (vh_sI h f'))
    (hQ1 : ∀ f0 F0 T0 G0, FI (vh_I h) f0 l kp F T G F0 T0 G0 → (∀ v, v < 6 → F0 v = true → v ≠ kp → 2 ≤ dg (EE (vh_I h)) F0 v) → Q (some (.int (nI 1))) (vh_sI h f0)) :
    ∀ (k i : Nat), i + k = 6 → ∀ f0 F0 T0 G0 mo y, FI (vh_I h) f0 l kp F T G F0 T0 G0 → (mo = 1 ∧ cd F0 + i ≤ 6 ∨ mo = 0 ∧ ∀ v, v < 6 → F0 v = true → v ≠ kp → 2 ≤ dg (EE (vh_I h)) F0 v) → Wp 57 4 [.ref 13, .int (nI l), .int (nI mo), .int (nI i), y] [] (vh_sI h f0) Q := by
  have hC' := hC
  obtain ⟨ck13, cr0, cr1, cr2, cr3, cr4, cr5, cr6, cr7, cr8, cr9, ck14, ck15, ck16, ck17, ck18, ck19, ck20, ck21, ck22, ck23, cz14, cz15, cz16, cz17, cz18, cz19, cz20, cz21, cz22, cz23⟩ := hC
  intro k
  induction k with
  | zero =>
    intro i hi f0 F0 T0 G0 mo y hI hm
    have : i = 6 := by omega
    subst this
    simp only [s_57_4, s_57_5]
    rcases hm with ⟨q, q2⟩ | ⟨q, q2⟩
    · subst q
      rw [if_neg nI_10]
      simp only [s_57_8, s_57_9, s_57_11, s_57_86, s_57_87, va_rf_s, pk_mul, nI_add, not_false_eq_true, and_self, true_and, Option.toList_some, Option.toList_none, List.append_nil, List.cons_append, List.nil_append, nI_01, nI_11, vh_K_wI, vh_R_wI, vh_Z_wI, vh_wI_sI, vh_K_sI, vh_R_sI, vh_Z_sI, vh_sI_sI, vh_I_sI, if_pos (nI_le (Nat.le_refl 6) (show 6 < 2 ^ 31 by omega))]
      refine hQ1 f0 F0 T0 G0 hI (fun v hv hF => ?_)
      rw [cd_0 (F := F0) (by omega) hv] at hF
      cases hF
    · subst q
      rw [if_pos nI_00]
      simp only [s_57_86, s_57_87, va_rf_s, pk_mul, nI_add, not_false_eq_true, and_self, true_and, Option.toList_some, Option.toList_none, List.append_nil, List.cons_append, List.nil_append, nI_01, nI_11, vh_K_wI, vh_R_wI, vh_Z_wI, vh_wI_sI, vh_K_sI, vh_R_sI, vh_Z_sI, vh_sI_sI, vh_I_sI]
      exact hQ1 f0 F0 T0 G0 hI q2
  | succ k ih =>
    intro i hi f0 F0 T0 G0 mo y hI hm
    have hlt : i < 6 := by omega
    simp only [s_57_4, s_57_5]
    rcases hm with ⟨q, q2⟩ | ⟨q, q2⟩
    · subst q
      rw [if_neg nI_10]
      simp only [s_57_8, s_57_9, s_57_11, if_neg (nI_ge hlt (show 6 < 2 ^ 31 by omega))]
      simp only [s_57_14, s_57_15, s_57_16, s_57_17]
      refine l_foldI (Fs := F0) hC' hl hs hk hQ0 (fun f1 F1 T1 G1 mo y hI1 hm1 => ?_) 6 0 (by omega) f0 F0 T0 G0 0 hI (Or.inr ⟨rfl, rfl, fun v hv => absurd hv (by omega)⟩)
      simp only [s_57_80, s_57_83, va_rf_s, pk_mul, nI_add, not_false_eq_true, and_self, true_and, Option.toList_some, Option.toList_none, List.append_nil, List.cons_append, List.nil_append, nI_01, nI_11, vh_K_wI, vh_R_wI, vh_Z_wI, vh_wI_sI, vh_K_sI, vh_R_sI, vh_Z_sI, vh_sI_sI, vh_I_sI]
      refine ih (i + 1) (by omega) f1 F1 T1 G1 mo _ hI1 ?_
      rcases hm1 with ⟨z1, z2⟩ | z
      · exact Or.inl ⟨z1, by omega⟩
      · exact Or.inr z
    · subst q
      rw [if_pos nI_00]
      simp only [s_57_86, s_57_87, va_rf_s, pk_mul, nI_add, not_false_eq_true, and_self, true_and, Option.toList_some, Option.toList_none, List.append_nil, List.cons_append, List.nil_append, nI_01, nI_11, vh_K_wI, vh_R_wI, vh_Z_wI, vh_wI_sI, vh_K_sI, vh_R_sI, vh_Z_sI, vh_sI_sI, vh_I_sI]
      exact hQ1 f0 F0 T0 G0 hI q2
theorem c_foldAll {l kp : Nat} {h : vt_H} {Q : vt_Q} {F : Nat → Bool} {T : Nat} {G : Nat → Nat → Nat} (hC : CL h) (hl : l < 3) (hs : sy (EE (vh_I h)) (AA (vh_I h))) (hk : KP (vh_I h) kp) (hL : LV (vh_I h) l F T G)
    (hQ0 : ∀ f', LF (vh_I h) f' l → (∀ c, ik c kp → T * N6 c F (EE (vh_I h)) (AA (vh_I h)) G = 0) → Q (some (.int (nI 0))) (vh_sI h f'))
    (hQ1 : ∀ f0 F0 T0 G0, FI (vh_I h) f0 l kp F T G F0 T0 G0 → (∀ v, v < 6 → F0 v = true → v ≠ kp → 2 ≤ dg (EE (vh_I h)) F0 v) → Q (some (.int (nI 1))) (vh_sI h f0)) : Wp 57 0 [.ref 13, .int (nI l), vt_un, vt_un, vt_un] [] h Q := by
  simp only [s_57_0, s_57_1, s_57_2, s_57_3]
  exact l_foldO hC hl hs hk hQ0 hQ1 6 0 (by omega) (vh_I h) F T G 1 _ ⟨LF_refl _ _, hL, fun _ _ q => q, fun _ _ _ => rfl, fun _ _ => rfl⟩ (Or.inl ⟨rfl, cd_le F⟩)
/-- the free variable, not the asked one, with most links -/
theorem l_most {kp : Nat} {h : vt_H} {Q : vt_Q} {F : Nat → Bool} {T : Nat} {G : Nat → Nat → Nat} (hC : CL h) (hk : KP (vh_I h) kp) (hL : LV (vh_I h) 1 F T G)
    (hQ0 : (∀ v, v < 6 → F v = true → v = kp) → Q (some (.int (-nI 1))) h)
    (hQ1 : ∀ r, r < 6 → F r = true → r ≠ kp → (∀ v, v < 6 → F v = true → v ≠ kp → dg (EE (vh_I h)) F v ≤ dg (EE (vh_I h)) F r) → Q (some (.int (nI r))) h) :
    ∀ (k i : Nat), i + k = 6 → ∀ x : Int32, (x = -nI 1 ∧ (∀ v, v < i → F v = true → v = kp) ∨ ∃ r, x = nI r ∧ r < 6 ∧ F r = true ∧ r ≠ kp ∧ ∀ v, v < i → F v = true → v ≠ kp → dg (EE (vh_I h)) F v ≤ dg (EE (vh_I h)) F r) → Wp 64 4 [.ref 13, .int x, .int (nI i)] [] h Q := by
  have hC' := hC
  obtain ⟨ck13, cr0, cr1, cr2, cr3, cr4, cr5, cr6, cr7, cr8, cr9, ck14, ck15, ck16, ck17, ck18, ck19, ck20, ck21, ck22, ck23, cz14, cz15, cz16, cz17, cz18, cz19, cz20, cz21, cz22, cz23⟩ := hC
  intro k
  induction k with
  | zero =>
    intro i hi x hx
    have : i = 6 := by omega
    subst this
    simp only [s_64_4, s_64_5, s_64_7, s_64_58, s_64_59, if_pos (nI_le (Nat.le_refl 6) (show 6 < 2 ^ 31 by omega))]
    rcases hx with ⟨q1, q2⟩ | ⟨r, q1, q2, q3, q4, q5⟩
    · subst q1; exact hQ0 q2
    · subst q1; exact hQ1 r q2 q3 q4 q5
  | succ k ih =>
    intro i hi x hx
    have hlt : i < 6 := by omega
    have keep : ¬ (F i = true ∧ i ≠ kp) → Wp 64 52 [.ref 13, .int x, .int (nI i)] [] h Q := by
      intro no
      simp only [s_64_52, s_64_55, va_rf_s, pk_mul, nI_add, not_false_eq_true, and_self, true_and, Option.toList_some, Option.toList_none, List.append_nil, List.cons_append, List.nil_append, nI_01, nI_11, vh_K_wI, vh_R_wI, vh_Z_wI, vh_wI_sI, vh_K_sI, vh_R_sI, vh_Z_sI, vh_sI_sI, vh_I_sI]
      refine ih (i + 1) (by omega) x ?_
      rcases hx with ⟨q1, q2⟩ | ⟨r, q1, q2, q3, q4, q5⟩
      · refine Or.inl ⟨q1, fun v hv hF => ?_⟩
        by_cases e : v = i
        · subst e; exact Classical.byContradiction (fun z => no ⟨hF, z⟩)
        · exact q2 v (by omega) hF
      · refine Or.inr ⟨r, q1, q2, q3, q4, fun v hv hF hne => ?_⟩
        by_cases e : v = i
        · subst e; exact absurd ⟨hF, hne⟩ no
        · exact q5 v (by omega) hF hne
    simp only [s_64_4, s_64_5, s_64_7, if_neg (nI_ge hlt (show 6 < 2 ^ 31 by omega))]
    simp only [s_64_10, s_64_11, s_64_12, ck13, cr0, cr1, cr2, cr3, cr4, cr5, cr6, cr7, cr8, cr9, ck14, ck15, ck16, ck17, ck18, ck19, ck20, ck21, ck22, ck23, cz14, cz15, cz16, cz17, cz18, cz19, cz20, cz21, cz22, cz23, va_rf_s, pk_mul, nI_add, not_false_eq_true, and_self, true_and, Option.toList_some, Option.toList_none, List.append_nil, List.cons_append, List.nil_append, nI_01, nI_11, vh_K_wI, vh_R_wI, vh_Z_wI, vh_wI_sI, vh_K_sI, vh_R_sI, vh_Z_sI, vh_sI_sI, vh_I_sI, s_64_15]
    by_cases q : i = kp
    · rw [if_pos ((KP_eq hk hlt).mpr q)]
      exact keep (fun z => z.2 q)
    · rw [if_neg (fun z => q ((KP_eq hk hlt).mp z))]
      simp only [s_64_18, s_64_19, s_64_22, s_64_23, s_64_24, s_64_25, ck13, cr0, cr1, cr2, cr3, cr4, cr5, cr6, cr7, cr8, cr9, ck14, ck15, ck16, ck17, ck18, ck19, ck20, ck21, ck22, ck23, cz14, cz15, cz16, cz17, cz18, cz19, cz20, cz21, cz22, cz23, va_rf_s, pk_mul, nI_add, not_false_eq_true, and_self, true_and, Option.toList_some, Option.toList_none, List.append_nil, List.cons_append, List.nil_append, nI_01, nI_11, vh_K_wI, vh_R_wI, vh_Z_wI, vh_wI_sI, vh_K_sI, vh_R_sI, vh_Z_sI, vh_sI_sI, vh_I_sI, cl (show 1 < 2 ^ 31 by omega), ib (show 1 < 3 by omega) (show 3 ≤ 2 ^ 31 by omega), c_isIn, jbit_bt _ (show i < 32 by omega), jb_0, s_64_28]
      rw [hL.1 i hlt]
      by_cases qF : F i = true
      · rw [if_neg (fun z => z qF)]
        simp only [s_64_31, s_64_32]
        rcases hx with ⟨q1, q2⟩ | ⟨r, q1, q2, q3, q4, q5⟩
        · rw [if_pos (by rw [q1]; decide)]
          simp only [s_64_50, s_64_51, s_64_52, s_64_55, va_rf_s, pk_mul, nI_add, not_false_eq_true, and_self, true_and, Option.toList_some, Option.toList_none, List.append_nil, List.cons_append, List.nil_append, nI_01, nI_11, vh_K_wI, vh_R_wI, vh_Z_wI, vh_wI_sI, vh_K_sI, vh_R_sI, vh_Z_sI, vh_sI_sI, vh_I_sI]
          refine ih (i + 1) (by omega) _ (Or.inr ⟨i, rfl, hlt, qF, q, fun v hv hF hne => ?_⟩)
          by_cases e : v = i
          · subst e; exact Nat.le_refl _
          · exact absurd (q2 v (by omega) hF) hne
        · subst q1
          rw [if_neg (nI_pos (by omega))]
          simp only [s_64_35, s_64_36, s_64_37, s_64_38, s_64_41, s_64_42, s_64_43, s_64_44, ck13, cr0, cr1, cr2, cr3, cr4, cr5, cr6, cr7, cr8, cr9, ck14, ck15, ck16, ck17, ck18, ck19, ck20, ck21, ck22, ck23, cz14, cz15, cz16, cz17, cz18, cz19, cz20, cz21, cz22, cz23, va_rf_s, pk_mul, nI_add, not_false_eq_true, and_self, true_and, Option.toList_some, Option.toList_none, List.append_nil, List.cons_append, List.nil_append, nI_01, nI_11, vh_K_wI, vh_R_wI, vh_Z_wI, vh_wI_sI, vh_K_sI, vh_R_sI, vh_Z_sI, vh_sI_sI, vh_I_sI, c_linkCount _ hC' (show 1 < 3 by omega) hlt, c_linkCount _ hC' (show 1 < 3 by omega) q2, jbc_LV hL, s_64_47]
          have d1 := dg_6 (EE (vh_I h)) F i
          have d2 := dg_6 (EE (vh_I h)) F r
          by_cases qd : dg (EE (vh_I h)) F i ≤ dg (EE (vh_I h)) F r
          · rw [if_pos (nI_le qd (by omega))]
            simp only [s_64_52, s_64_55, va_rf_s, pk_mul, nI_add, not_false_eq_true, and_self, true_and, Option.toList_some, Option.toList_none, List.append_nil, List.cons_append, List.nil_append, nI_01, nI_11, vh_K_wI, vh_R_wI, vh_Z_wI, vh_wI_sI, vh_K_sI, vh_R_sI, vh_Z_sI, vh_sI_sI, vh_I_sI]
            refine ih (i + 1) (by omega) _ (Or.inr ⟨r, rfl, q2, q3, q4, fun v hv hF hne => ?_⟩)
            by_cases e : v = i
            · subst e; exact qd
            · exact q5 v (by omega) hF hne
          · rw [if_neg (nI_ge (by omega) (by omega))]
            simp only [s_64_50, s_64_51, s_64_52, s_64_55, va_rf_s, pk_mul, nI_add, not_false_eq_true, and_self, true_and, Option.toList_some, Option.toList_none, List.append_nil, List.cons_append, List.nil_append, nI_01, nI_11, vh_K_wI, vh_R_wI, vh_Z_wI, vh_wI_sI, vh_K_sI, vh_R_sI, vh_Z_sI, vh_sI_sI, vh_I_sI]
            refine ih (i + 1) (by omega) _ (Or.inr ⟨i, rfl, hlt, qF, q, fun v hv hF hne => ?_⟩)
            by_cases e : v = i
            · subst e; exact Nat.le_refl _
            · have := q5 v (by omega) hF hne
              omega
      · rw [if_pos qF]
        exact keep (fun z => qF z.1)
theorem c_most {kp : Nat} {h : vt_H} {Q : vt_Q} {F : Nat → Bool} {T : Nat} {G : Nat → Nat → Nat} (hC : CL h) (hk : KP (vh_I h) kp) (hL : LV (vh_I h) 1 F T G)
    (hQ0 : (∀ v, v < 6 → F v = true → v = kp) → Q (some (.int (-nI 1))) h)
    (hQ1 : ∀ r, r < 6 → F r = true → r ≠ kp → (∀ v, v < 6 → F v = true → v ≠ kp → dg (EE (vh_I h)) F v ≤ dg (EE (vh_I h)) F r) → Q (some (.int (nI r))) h) : Wp 64 0 [.ref 13, vt_un, vt_un] [] h Q := by
  simp only [s_64_0, s_64_1, s_64_2, s_64_3]
  exact l_most hC hk hL hQ0 hQ1 6 0 (by omega) _ (Or.inl ⟨rfl, fun v hv => absurd hv (by omega)⟩)

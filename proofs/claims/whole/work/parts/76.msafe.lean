-- ===== the reference: isBound, isSafe =====
/-- what the reference writes for a part: its sort, its name or its filter -/
def so (d : Nat) : Nat := if d = 3 then 0 else if d = 4 then 1 else 2
def wh (d n : Nat) : Nat := if d < 3 then d else n
/-- rule i of the reference is rho -/
def MR (f : Nat → Nat → Int32) (i : Nat) (ρ : Nat → Nat) : Prop := okR ρ ∧ f 131 (3 * i) = nI (ρ 0) ∧ f 131 (3 * i + 1) = jI (ρ 1) ∧ f 131 (3 * i + 2) = jI (ρ 2) ∧ f 132 i = kI (ρ 3) ∧ (ρ 3 ≠ 0 → f 133 i = jI (ρ 4) ∧ 32 ≤ ρ 4) ∧ f 134 i = nI (ρ 5) ∧ ∀ p, p < ρ 5 → f 135 (20 * i + 4 * p) = nI (so (ρ (10 + 4 * p))) ∧ f 135 (20 * i + 4 * p + 1) = nI (wh (ρ (10 + 4 * p)) (ρ (11 + 4 * p))) ∧ f 135 (20 * i + 4 * p + 2) = jI (ρ (12 + 4 * p)) ∧ f 135 (20 * i + 4 * p + 3) = jI (ρ (13 + 4 * p))
def bnd (ρ : Nat → Nat) (k t : Nat) : Prop := t < 32 ∨ ∃ p, p < k ∧ ρ (10 + 4 * p) = 3 ∧ (ρ (12 + 4 * p) = t ∨ ρ (13 + 4 * p) = t)
theorem so_0 {d : Nat} : so d = 0 ↔ d = 3 := by
  unfold so
  by_cases a : d = 3
  · simp [a]
  · by_cases b : d = 4 <;> simp [a, b]
theorem so_lt (d : Nat) : so d < 3 := by
  unfold so
  split
  · omega
  · split <;> omega
theorem nI_0i {n : Nat} (h : n < 2 ^ 31) : nI n = 0 ↔ n = 0 := nI_eq (a := n) (b := 0) h (by decide)
/-- Java's boolean of any property -/
noncomputable def cb (p : Prop) : Int32 := @jb p (Classical.propDecidable _)
theorem cb_t {p : Prop} (h : p) : cb p = nI 1 := @jb_t p (Classical.propDecidable _) h
theorem cb_f {p : Prop} (h : ¬ p) : cb p = nI 0 := @jb_f p (Classical.propDecidable _) h
theorem cb_0 {p : Prop} : cb p = 0 ↔ ¬ p := @jb_0 p (Classical.propDecidable _)
theorem cb_01 {p : Prop} : cb p = 0 ∨ cb p = 1 := @jb_01 p (Classical.propDecidable _)
theorem cb_c {p q : Prop} (h : p ↔ q) : cb p = cb q := by rw [propext h]
theorem l_bound {i t : Nat} {h : vt_H} {Q : vt_Q} {ρ : Nat → Nat} (hM : MZ h) (hi : i < 16) (ht : t < 38) (hR : MR (vh_I h) i ρ) (hQ : Q (some (.int (cb (bnd ρ (ρ 5) t)))) h) : ∀ (m k : Nat), k + m = ρ 5 → ∀ y, Wp 98 13 [.ref 129, .int (nI i), .int (jI t), .int (cb (bnd ρ k t)), .int (nI k), y] [] h Q := by
  obtain ⟨mk, ⟨mr0, mk0, mz0⟩, ⟨mr1, mk1, mz1⟩, ⟨mr2, mk2, mz2⟩, ⟨mr3, mk3, mz3⟩, ⟨mr4, mk4, mz4⟩, ⟨mr5, mk5, mz5⟩, ⟨mr6, mk6, mz6⟩, ⟨mr7, mk7, mz7⟩, ⟨mr8, mk8, mz8⟩, ⟨mr9, mk9, mz9⟩, ⟨mr10, mk10, mz10⟩, ⟨mr11, mk11, mz11⟩, ⟨mr12, mk12, mz12⟩, ⟨mr13, mk13, mz13⟩, ⟨mr14, mk14, mz14⟩, ⟨mr15, mk15, mz15⟩, ⟨mr16, mk16, mz16⟩, ⟨mr17, mk17, mz17⟩, ⟨mr18, mk18, mz18⟩⟩ := hM
  obtain ⟨hok, h0, h1, h2, h3, h4, h5, hp⟩ := hR
  have r5 := hok.1.2.2.2.1
  intro m
  induction m with
  | zero =>
    intro k hk y
    have : k = ρ 5 := by omega
    subst this
    simp only [s_98_13, s_98_15, s_98_16, s_98_19, s_98_20, s_98_21, s_98_87, s_98_88, mk, mr0, mk0, mz0, mr1, mk1, mz1, mr2, mk2, mz2, mr3, mk3, mz3, mr4, mk4, mz4, mr5, mk5, mz5, mr6, mk6, mz6, mr7, mk7, mz7, mr8, mk8, mz8, mr9, mk9, mz9, mr10, mk10, mz10, mr11, mk11, mz11, mr12, mk12, mz12, mr13, mk13, mz13, mr14, mk14, mz14, mr15, mk15, mz15, mr16, mk16, mz16, mr17, mk17, mz17, mr18, mk18, mz18, va_rf_s, pk_mul, nI_add, not_false_eq_true, and_self, true_and, Option.toList_some, Option.toList_none, List.append_nil, List.cons_append, List.nil_append, nI_01, nI_11, vh_K_wI, vh_R_wI, vh_Z_wI, vh_wI_sI, vh_K_sI, vh_R_sI, vh_Z_sI, vh_sI_sI, vh_I_sI, h5, cl (show i < 2 ^ 31 by omega), ib hi (show 16 ≤ 2 ^ 31 by omega), if_pos (nI_le (Nat.le_refl (ρ 5)) (show ρ 5 < 2 ^ 31 by omega)), cb_01]
    exact hQ
  | succ m ih =>
    intro k hk y
    have hlt : k < ρ 5 := by omega
    obtain ⟨p1, p2, p3, p4⟩ := hp k hlt
    obtain ⟨o1, o2, o3, o4⟩ := hok.2 k hlt
    have b0 : 20 * i + 4 * k < 320 := by omega
    have b2 : 20 * i + 4 * k + 2 < 320 := by omega
    have b3 : 20 * i + 4 * k + 3 < 320 := by omega
    simp only [s_98_13, s_98_15, s_98_16, s_98_19, s_98_20, s_98_21, mk, mr0, mk0, mz0, mr1, mk1, mz1, mr2, mk2, mz2, mr3, mk3, mz3, mr4, mk4, mz4, mr5, mk5, mz5, mr6, mk6, mz6, mr7, mk7, mz7, mr8, mk8, mz8, mr9, mk9, mz9, mr10, mk10, mz10, mr11, mk11, mz11, mr12, mk12, mz12, mr13, mk13, mz13, mr14, mk14, mz14, mr15, mk15, mz15, mr16, mk16, mz16, mr17, mk17, mz17, mr18, mk18, mz18, va_rf_s, pk_mul, nI_add, not_false_eq_true, and_self, true_and, Option.toList_some, Option.toList_none, List.append_nil, List.cons_append, List.nil_append, nI_01, nI_11, vh_K_wI, vh_R_wI, vh_Z_wI, vh_wI_sI, vh_K_sI, vh_R_sI, vh_Z_sI, vh_sI_sI, vh_I_sI, h5, cl (show i < 2 ^ 31 by omega), ib hi (show 16 ≤ 2 ^ 31 by omega), if_neg (nI_ge hlt (show ρ 5 < 2 ^ 31 by omega))]
    simp only [s_98_24, s_98_26, s_98_27, s_98_28, s_98_29, s_98_31, s_98_32, s_98_33, s_98_35, s_98_36, va_rf_s, pk_mul, nI_add, not_false_eq_true, and_self, true_and, Option.toList_some, Option.toList_none, List.append_nil, List.cons_append, List.nil_append, nI_01, nI_11, vh_K_wI, vh_R_wI, vh_Z_wI, vh_wI_sI, vh_K_sI, vh_R_sI, vh_Z_sI, vh_sI_sI, vh_I_sI]
    have fin : ∀ z : Int32, z = cb (bnd ρ (k + 1) t) → ∀ y, Wp 98 80 [.ref 129, .int (nI i), .int (jI t), .int (cb (bnd ρ k t)), .int (nI k), y] [.int z] h Q := by
      intro z hz y
      simp only [s_98_80, s_98_81, s_98_84, va_rf_s, pk_mul, nI_add, not_false_eq_true, and_self, true_and, Option.toList_some, Option.toList_none, List.append_nil, List.cons_append, List.nil_append, nI_01, nI_11, vh_K_wI, vh_R_wI, vh_Z_wI, vh_wI_sI, vh_K_sI, vh_R_sI, vh_Z_sI, vh_sI_sI, vh_I_sI, hz]
      exact ih (k + 1) (by omega) _
    have mono : bnd ρ k t → bnd ρ (k + 1) t := by
      rintro (z | ⟨p, z1, z2⟩)
      · exact Or.inl z
      · exact Or.inr ⟨p, by omega, z2⟩
    by_cases q : bnd ρ k t
    · rw [if_pos (fun z => cb_0.mp z q)]
      simp only [s_98_75, s_98_76]
      exact fin _ (cb_t (mono q)).symm _
    · rw [if_neg (fun z => z (cb_0.mpr q))]
      have back : bnd ρ (k + 1) t → ρ (10 + 4 * k) = 3 ∧ (ρ (12 + 4 * k) = t ∨ ρ (13 + 4 * k) = t) := by
        rintro (z | ⟨p, z1, z2⟩)
        · exact absurd (Or.inl z) q
        · by_cases e : p = k
          · subst e; exact z2
          · exact absurd (Or.inr ⟨p, by omega, z2⟩) q
      simp only [s_98_39, s_98_40, s_98_43, s_98_45, s_98_46, mk, mr0, mk0, mz0, mr1, mk1, mz1, mr2, mk2, mz2, mr3, mk3, mz3, mr4, mk4, mz4, mr5, mk5, mz5, mr6, mk6, mz6, mr7, mk7, mz7, mr8, mk8, mz8, mr9, mk9, mz9, mr10, mk10, mz10, mr11, mk11, mz11, mr12, mk12, mz12, mr13, mk13, mz13, mr14, mk14, mz14, mr15, mk15, mz15, mr16, mk16, mz16, mr17, mk17, mz17, mr18, mk18, mz18, va_rf_s, pk_mul, nI_add, not_false_eq_true, and_self, true_and, Option.toList_some, Option.toList_none, List.append_nil, List.cons_append, List.nil_append, nI_01, nI_11, vh_K_wI, vh_R_wI, vh_Z_wI, vh_wI_sI, vh_K_sI, vh_R_sI, vh_Z_sI, vh_sI_sI, vh_I_sI, cl (show 20 * i + 4 * k < 2 ^ 31 by omega), ib b0 (show 320 ≤ 2 ^ 31 by omega), p1]
      by_cases q1 : ρ (10 + 4 * k) = 3
      · rw [if_neg (fun z => z ((nI_0i (by have := so_lt (ρ (10 + 4 * k)); omega)).mpr (so_0.mpr q1)))]
        simp only [s_98_49, s_98_50, s_98_53, s_98_55, s_98_56, s_98_57, s_98_58, s_98_59, mk, mr0, mk0, mz0, mr1, mk1, mz1, mr2, mk2, mz2, mr3, mk3, mz3, mr4, mk4, mz4, mr5, mk5, mz5, mr6, mk6, mz6, mr7, mk7, mz7, mr8, mk8, mz8, mr9, mk9, mz9, mr10, mk10, mz10, mr11, mk11, mz11, mr12, mk12, mz12, mr13, mk13, mz13, mr14, mk14, mz14, mr15, mk15, mz15, mr16, mk16, mz16, mr17, mk17, mz17, mr18, mk18, mz18, va_rf_s, pk_mul, nI_add, not_false_eq_true, and_self, true_and, Option.toList_some, Option.toList_none, List.append_nil, List.cons_append, List.nil_append, nI_01, nI_11, vh_K_wI, vh_R_wI, vh_Z_wI, vh_wI_sI, vh_K_sI, vh_R_sI, vh_Z_sI, vh_sI_sI, vh_I_sI, cl (show 20 * i + 4 * k + 2 < 2 ^ 31 by omega), ib b2 (show 320 ≤ 2 ^ 31 by omega), p3]
        by_cases q2 : ρ (12 + 4 * k) = t
        · rw [if_pos (by rw [q2])]
          simp only [s_98_75, s_98_76]
          exact fin _ (cb_t (Or.inr ⟨k, by omega, q1, Or.inl q2⟩)).symm _
        · rw [if_neg (fun z => q2 ((jI_inj _ o2 _ ht).mp z))]
          simp only [s_98_62, s_98_63, s_98_66, s_98_68, s_98_69, s_98_70, s_98_71, s_98_72, mk, mr0, mk0, mz0, mr1, mk1, mz1, mr2, mk2, mz2, mr3, mk3, mz3, mr4, mk4, mz4, mr5, mk5, mz5, mr6, mk6, mz6, mr7, mk7, mz7, mr8, mk8, mz8, mr9, mk9, mz9, mr10, mk10, mz10, mr11, mk11, mz11, mr12, mk12, mz12, mr13, mk13, mz13, mr14, mk14, mz14, mr15, mk15, mz15, mr16, mk16, mz16, mr17, mk17, mz17, mr18, mk18, mz18, va_rf_s, pk_mul, nI_add, not_false_eq_true, and_self, true_and, Option.toList_some, Option.toList_none, List.append_nil, List.cons_append, List.nil_append, nI_01, nI_11, vh_K_wI, vh_R_wI, vh_Z_wI, vh_wI_sI, vh_K_sI, vh_R_sI, vh_Z_sI, vh_sI_sI, vh_I_sI, cl (show 20 * i + 4 * k + 3 < 2 ^ 31 by omega), ib b3 (show 320 ≤ 2 ^ 31 by omega), p4]
          by_cases q3 : ρ (13 + 4 * k) = t
          · rw [if_neg (fun z => z (by rw [q3]))]
            simp only [s_98_75, s_98_76]
            exact fin _ (cb_t (Or.inr ⟨k, by omega, q1, Or.inr q3⟩)).symm _
          · rw [if_pos (fun z => q3 ((jI_inj _ o3 _ ht).mp z))]
            simp only [s_98_79]
            exact fin _ (cb_f (fun z => (back z).2.elim q2 q3)).symm _
      · rw [if_pos (fun z => q1 (so_0.mp ((nI_0i (by have := so_lt (ρ (10 + 4 * k)); omega)).mp z)))]
        simp only [s_98_79]
        exact fin _ (cb_f (fun z => q1 (back z).1)).symm _
theorem m_bound {i t : Nat} {h : vt_H} {ρ : Nat → Nat} (Q : vt_Q) (hM : MZ h) (hi : i < 16) (ht : t < 38) (hR : MR (vh_I h) i ρ) : Wp 98 0 [.ref 129, .int (nI i), .int (jI t), vt_un, vt_un, vt_un] [] h Q ↔ Q (some (.int (cb (bnd ρ (ρ 5) t)))) h := by
  refine Wp_eq' (fun Q hQ => ?_) Q
  have l := l_bound hM hi ht hR hQ (ρ 5) 0 (by omega) vt_un
  have e : bnd ρ 0 t ↔ t < 32 := ⟨fun z => z.elim id (fun ⟨p, z, _⟩ => absurd z (by omega)), Or.inl⟩
  simp only [s_98_0, s_98_1]
  by_cases q : t < 32
  · rw [if_neg (fun z => by have := (jI_lt t ht).mp z; omega)]
    rw [cb_t (e.mpr q)] at l
    simp only [s_98_4, s_98_5, s_98_8, s_98_9, s_98_10, s_98_11]
    exact l
  · rw [if_pos ((jI_lt t ht).mpr (by omega))]
    rw [cb_f (fun z => q (e.mp z))] at l
    simp only [s_98_8, s_98_9, s_98_10, s_98_11]
    exact l
/-- as far as k parts say, rule rho is safe -/
def sfk (ρ : Nat → Nat) (k : Nat) : Prop := (bnd ρ (ρ 5) (ρ 1) ∧ bnd ρ (ρ 5) (sec ρ)) ∧ ∀ p, p < k → ρ (10 + 4 * p) = 3 ∨ (bnd ρ (ρ 5) (ρ (12 + 4 * p)) ∧ bnd ρ (ρ 5) (ρ (13 + 4 * p)))
theorem sfk_sf {ρ : Nat → Nat} (hok : okR ρ) : sfk ρ (ρ 5) ↔ sf ρ := by
  have one : ∀ t, t < 38 → (bnd ρ (ρ 5) t ↔ ∀ v, v < 6 → t = 32 + v → giv ρ v) := by
    intro t ht
    constructor
    · rintro (z | ⟨p, z1, z2, z3⟩) v hv e
      · omega
      · exact ⟨p, z1, z2, by rw [← e]; exact z3⟩
    · intro z
      rcases Nat.lt_or_ge t 32 with q | q
      · exact Or.inl q
      · obtain ⟨p, z1, z2, z3⟩ := z (t - 32) (by omega) (by omega)
        exact Or.inr ⟨p, z1, z2, by rw [show 32 + (t - 32) = t by omega] at z3; exact z3⟩
  constructor
  · rintro ⟨⟨h1, h2⟩, h3⟩ v hv hask
    rcases hask with (a | a) | ⟨p, a, b, d⟩
    · exact (one _ hok.1.2.1).mp h1 v hv a
    · exact (one _ hok.1.2.2.1).mp h2 v hv a
    · rcases h3 p a with z | z
      · exact absurd z b
      · rcases d with d | d
        · exact (one _ (hok.2 p a).2.1).mp z.1 v hv d
        · exact (one _ (hok.2 p a).2.2.1).mp z.2 v hv d
  · intro h
    refine ⟨⟨(one _ hok.1.2.1).mpr (fun v hv e => h v hv (Or.inl (Or.inl e))), (one _ hok.1.2.2.1).mpr (fun v hv e => h v hv (Or.inl (Or.inr e)))⟩, fun p hp => ?_⟩
    by_cases q : ρ (10 + 4 * p) = 3
    · exact Or.inl q
    · exact Or.inr ⟨(one _ (hok.2 p hp).2.1).mpr (fun v hv e => h v hv (Or.inr ⟨p, hp, q, Or.inl e⟩)), (one _ (hok.2 p hp).2.2.1).mpr (fun v hv e => h v hv (Or.inr ⟨p, hp, q, Or.inr e⟩))⟩
theorem l_msafe {i : Nat} {h : vt_H} {Q : vt_Q} {ρ : Nat → Nat} (hM : MZ h) (hi : i < 16) (hR : MR (vh_I h) i ρ) (hQ : Q (some (.int (cb (sfk ρ (ρ 5))))) h) : ∀ (m k : Nat), k + m = ρ 5 → ∀ y, Wp 97 70 [.ref 129, .int (nI i), .int (cb (sfk ρ k)), .int (nI k), y] [] h Q := by
  have hM' := hM
  have hR' := hR
  obtain ⟨mk, ⟨mr0, mk0, mz0⟩, ⟨mr1, mk1, mz1⟩, ⟨mr2, mk2, mz2⟩, ⟨mr3, mk3, mz3⟩, ⟨mr4, mk4, mz4⟩, ⟨mr5, mk5, mz5⟩, ⟨mr6, mk6, mz6⟩, ⟨mr7, mk7, mz7⟩, ⟨mr8, mk8, mz8⟩, ⟨mr9, mk9, mz9⟩, ⟨mr10, mk10, mz10⟩, ⟨mr11, mk11, mz11⟩, ⟨mr12, mk12, mz12⟩, ⟨mr13, mk13, mz13⟩, ⟨mr14, mk14, mz14⟩, ⟨mr15, mk15, mz15⟩, ⟨mr16, mk16, mz16⟩, ⟨mr17, mk17, mz17⟩, ⟨mr18, mk18, mz18⟩⟩ := hM
  obtain ⟨hok, h0, h1, h2, h3, h4, h5, hp⟩ := hR
  have r5 := hok.1.2.2.2.1
  intro m
  induction m with
  | zero =>
    intro k hk y
    have : k = ρ 5 := by omega
    subst this
    simp only [s_97_70, s_97_71, s_97_72, s_97_75, s_97_76, s_97_77, s_97_150, s_97_151, mk, mr0, mk0, mz0, mr1, mk1, mz1, mr2, mk2, mz2, mr3, mk3, mz3, mr4, mk4, mz4, mr5, mk5, mz5, mr6, mk6, mz6, mr7, mk7, mz7, mr8, mk8, mz8, mr9, mk9, mz9, mr10, mk10, mz10, mr11, mk11, mz11, mr12, mk12, mz12, mr13, mk13, mz13, mr14, mk14, mz14, mr15, mk15, mz15, mr16, mk16, mz16, mr17, mk17, mz17, mr18, mk18, mz18, va_rf_s, pk_mul, nI_add, not_false_eq_true, and_self, true_and, Option.toList_some, Option.toList_none, List.append_nil, List.cons_append, List.nil_append, nI_01, nI_11, vh_K_wI, vh_R_wI, vh_Z_wI, vh_wI_sI, vh_K_sI, vh_R_sI, vh_Z_sI, vh_sI_sI, vh_I_sI, h5, cl (show i < 2 ^ 31 by omega), ib hi (show 16 ≤ 2 ^ 31 by omega), if_pos (nI_le (Nat.le_refl (ρ 5)) (show ρ 5 < 2 ^ 31 by omega)), cb_01]
    exact hQ
  | succ m ih =>
    intro k hk y
    have hlt : k < ρ 5 := by omega
    obtain ⟨p1, p2, p3, p4⟩ := hp k hlt
    obtain ⟨o1, o2, o3, o4⟩ := hok.2 k hlt
    have b0 : 20 * i + 4 * k < 320 := by omega
    have b2 : 20 * i + 4 * k + 2 < 320 := by omega
    have b3 : 20 * i + 4 * k + 3 < 320 := by omega
    simp only [s_97_70, s_97_71, s_97_72, s_97_75, s_97_76, s_97_77, mk, mr0, mk0, mz0, mr1, mk1, mz1, mr2, mk2, mz2, mr3, mk3, mz3, mr4, mk4, mz4, mr5, mk5, mz5, mr6, mk6, mz6, mr7, mk7, mz7, mr8, mk8, mz8, mr9, mk9, mz9, mr10, mk10, mz10, mr11, mk11, mz11, mr12, mk12, mz12, mr13, mk13, mz13, mr14, mk14, mz14, mr15, mk15, mz15, mr16, mk16, mz16, mr17, mk17, mz17, mr18, mk18, mz18, va_rf_s, pk_mul, nI_add, not_false_eq_true, and_self, true_and, Option.toList_some, Option.toList_none, List.append_nil, List.cons_append, List.nil_append, nI_01, nI_11, vh_K_wI, vh_R_wI, vh_Z_wI, vh_wI_sI, vh_K_sI, vh_R_sI, vh_Z_sI, vh_sI_sI, vh_I_sI, h5, cl (show i < 2 ^ 31 by omega), ib hi (show 16 ≤ 2 ^ 31 by omega), if_neg (nI_ge hlt (show ρ 5 < 2 ^ 31 by omega))]
    simp only [s_97_80, s_97_81]
    by_cases q : sfk ρ k
    · rw [if_neg (fun z => cb_0.mp z q)]
      have fin : ∀ z : Int32, z = cb (sfk ρ (k + 1)) → ∀ y, Wp 97 143 [.ref 129, .int (nI i), .int (cb (sfk ρ k)), .int (nI k), y] [.int z] h Q := by
        intro z hz y
        simp only [s_97_143, s_97_144, s_97_147, va_rf_s, pk_mul, nI_add, not_false_eq_true, and_self, true_and, Option.toList_some, Option.toList_none, List.append_nil, List.cons_append, List.nil_append, nI_01, nI_11, vh_K_wI, vh_R_wI, vh_Z_wI, vh_wI_sI, vh_K_sI, vh_R_sI, vh_Z_sI, vh_sI_sI, vh_I_sI, hz]
        exact ih (k + 1) (by omega) _
      have step : sfk ρ (k + 1) ↔ ρ (10 + 4 * k) = 3 ∨ (bnd ρ (ρ 5) (ρ (12 + 4 * k)) ∧ bnd ρ (ρ 5) (ρ (13 + 4 * k))) := by
        constructor
        · intro z; exact z.2 k (by omega)
        · intro z
          refine ⟨q.1, fun p hp' => ?_⟩
          by_cases e : p = k
          · subst e; exact z
          · exact q.2 p (by omega)
      simp only [s_97_84, s_97_86, s_97_87, s_97_88, s_97_89, s_97_90, s_97_91, s_97_92, s_97_94, s_97_95, s_97_98, s_97_100, s_97_101, mk, mr0, mk0, mz0, mr1, mk1, mz1, mr2, mk2, mz2, mr3, mk3, mz3, mr4, mk4, mz4, mr5, mk5, mz5, mr6, mk6, mz6, mr7, mk7, mz7, mr8, mk8, mz8, mr9, mk9, mz9, mr10, mk10, mz10, mr11, mk11, mz11, mr12, mk12, mz12, mr13, mk13, mz13, mr14, mk14, mz14, mr15, mk15, mz15, mr16, mk16, mz16, mr17, mk17, mz17, mr18, mk18, mz18, va_rf_s, pk_mul, nI_add, not_false_eq_true, and_self, true_and, Option.toList_some, Option.toList_none, List.append_nil, List.cons_append, List.nil_append, nI_01, nI_11, vh_K_wI, vh_R_wI, vh_Z_wI, vh_wI_sI, vh_K_sI, vh_R_sI, vh_Z_sI, vh_sI_sI, vh_I_sI, cl (show 20 * i + 4 * k < 2 ^ 31 by omega), ib b0 (show 320 ≤ 2 ^ 31 by omega), p1]
      by_cases q1 : ρ (10 + 4 * k) = 3
      · rw [if_pos ((nI_0i (by have := so_lt (ρ (10 + 4 * k)); omega)).mpr (so_0.mpr q1))]
        simp only [s_97_138, s_97_139]
        exact fin _ (cb_t (step.mpr (Or.inl q1))).symm _
      · rw [if_neg (fun z => q1 (so_0.mp ((nI_0i (by have := so_lt (ρ (10 + 4 * k)); omega)).mp z)))]
        simp only [s_97_104, s_97_105, s_97_106, s_97_107, s_97_110, s_97_112, s_97_113, s_97_114, s_97_115, s_97_118, mk, mr0, mk0, mz0, mr1, mk1, mz1, mr2, mk2, mz2, mr3, mk3, mz3, mr4, mk4, mz4, mr5, mk5, mz5, mr6, mk6, mz6, mr7, mk7, mz7, mr8, mk8, mz8, mr9, mk9, mz9, mr10, mk10, mz10, mr11, mk11, mz11, mr12, mk12, mz12, mr13, mk13, mz13, mr14, mk14, mz14, mr15, mk15, mz15, mr16, mk16, mz16, mr17, mk17, mz17, mr18, mk18, mz18, va_rf_s, pk_mul, nI_add, not_false_eq_true, and_self, true_and, Option.toList_some, Option.toList_none, List.append_nil, List.cons_append, List.nil_append, nI_01, nI_11, vh_K_wI, vh_R_wI, vh_Z_wI, vh_wI_sI, vh_K_sI, vh_R_sI, vh_Z_sI, vh_sI_sI, vh_I_sI, cl (show 20 * i + 4 * k + 2 < 2 ^ 31 by omega), ib b2 (show 320 ≤ 2 ^ 31 by omega), p3, m_bound _ hM' hi o2 hR']
        by_cases q2 : bnd ρ (ρ 5) (ρ (12 + 4 * k))
        · rw [if_neg (fun z => cb_0.mp z q2)]
          simp only [s_97_121, s_97_122, s_97_123, s_97_124, s_97_127, s_97_129, s_97_130, s_97_131, s_97_132, s_97_135, mk, mr0, mk0, mz0, mr1, mk1, mz1, mr2, mk2, mz2, mr3, mk3, mz3, mr4, mk4, mz4, mr5, mk5, mz5, mr6, mk6, mz6, mr7, mk7, mz7, mr8, mk8, mz8, mr9, mk9, mz9, mr10, mk10, mz10, mr11, mk11, mz11, mr12, mk12, mz12, mr13, mk13, mz13, mr14, mk14, mz14, mr15, mk15, mz15, mr16, mk16, mz16, mr17, mk17, mz17, mr18, mk18, mz18, va_rf_s, pk_mul, nI_add, not_false_eq_true, and_self, true_and, Option.toList_some, Option.toList_none, List.append_nil, List.cons_append, List.nil_append, nI_01, nI_11, vh_K_wI, vh_R_wI, vh_Z_wI, vh_wI_sI, vh_K_sI, vh_R_sI, vh_Z_sI, vh_sI_sI, vh_I_sI, cl (show 20 * i + 4 * k + 3 < 2 ^ 31 by omega), ib b3 (show 320 ≤ 2 ^ 31 by omega), p4, m_bound _ hM' hi o3 hR']
          by_cases q3 : bnd ρ (ρ 5) (ρ (13 + 4 * k))
          · rw [if_neg (fun z => cb_0.mp z q3)]
            simp only [s_97_138, s_97_139]
            exact fin _ (cb_t (step.mpr (Or.inr ⟨q2, q3⟩))).symm _
          · rw [if_pos (cb_0.mpr q3)]
            simp only [s_97_142]
            exact fin _ (cb_f (fun z => (step.mp z).elim q1 (fun w => q3 w.2))).symm _
        · rw [if_pos (cb_0.mpr q2)]
          simp only [s_97_142]
          exact fin _ (cb_f (fun z => (step.mp z).elim q1 (fun w => q2 w.1))).symm _
    · rw [if_pos (cb_0.mpr q)]
      simp only [s_97_150, s_97_151, va_rf_s, pk_mul, nI_add, not_false_eq_true, and_self, true_and, Option.toList_some, Option.toList_none, List.append_nil, List.cons_append, List.nil_append, nI_01, nI_11, vh_K_wI, vh_R_wI, vh_Z_wI, vh_wI_sI, vh_K_sI, vh_R_sI, vh_Z_sI, vh_sI_sI, vh_I_sI, cb_01]
      have e : cb (sfk ρ k) = cb (sfk ρ (ρ 5)) := by
        rw [cb_f q, cb_f]
        exact fun z => q ⟨z.1, fun p hp' => z.2 p (by omega)⟩
      rw [e]
      exact hQ
theorem m_safe {i : Nat} {h : vt_H} {ρ : Nat → Nat} (Q : vt_Q) (hM : MZ h) (hi : i < 16) (hR : MR (vh_I h) i ρ) : Wp 97 0 [.ref 129, .int (nI i), vt_un, vt_un, vt_un] [] h Q ↔ Q (some (.int (cb (sf ρ)))) h := by
  refine Wp_eq' (fun Q hQ => ?_) Q
  have hM' := hM
  have hR' := hR
  obtain ⟨mk, ⟨mr0, mk0, mz0⟩, ⟨mr1, mk1, mz1⟩, ⟨mr2, mk2, mz2⟩, ⟨mr3, mk3, mz3⟩, ⟨mr4, mk4, mz4⟩, ⟨mr5, mk5, mz5⟩, ⟨mr6, mk6, mz6⟩, ⟨mr7, mk7, mz7⟩, ⟨mr8, mk8, mz8⟩, ⟨mr9, mk9, mz9⟩, ⟨mr10, mk10, mz10⟩, ⟨mr11, mk11, mz11⟩, ⟨mr12, mk12, mz12⟩, ⟨mr13, mk13, mz13⟩, ⟨mr14, mk14, mz14⟩, ⟨mr15, mk15, mz15⟩, ⟨mr16, mk16, mz16⟩, ⟨mr17, mk17, mz17⟩, ⟨mr18, mk18, mz18⟩⟩ := hM
  obtain ⟨hok, h0, h1, h2, h3, h4, h5, hp⟩ := hR
  have k5 := hok.1.2.2.2.2
  have e0 : sfk ρ 0 ↔ bnd ρ (ρ 5) (ρ 1) ∧ bnd ρ (ρ 5) (sec ρ) := ⟨fun z => z.1, fun z => ⟨z, fun p hp => absurd hp (by omega)⟩⟩
  have l : ∀ z : Int32, z = cb (sfk ρ 0) → Wp 97 67 [.ref 129, .int (nI i), vt_un, vt_un, vt_un] [.int z] h Q := by
    intro z hz
    simp only [s_97_67, s_97_68, s_97_69, hz]
    exact l_msafe hM' hi hR' (by rw [cb_c (sfk_sf hok)]; exact hQ) (ρ 5) 0 (by omega) _
  have b1 : 3 * i + 1 < 48 := by omega
  have b2 : 3 * i + 2 < 48 := by omega
  simp only [s_97_0, s_97_1, s_97_2, s_97_3, s_97_6, s_97_7, s_97_8, s_97_9, s_97_10, s_97_11, s_97_12, s_97_15, mk, mr0, mk0, mz0, mr1, mk1, mz1, mr2, mk2, mz2, mr3, mk3, mz3, mr4, mk4, mz4, mr5, mk5, mz5, mr6, mk6, mz6, mr7, mk7, mz7, mr8, mk8, mz8, mr9, mk9, mz9, mr10, mk10, mz10, mr11, mk11, mz11, mr12, mk12, mz12, mr13, mk13, mz13, mr14, mk14, mz14, mr15, mk15, mz15, mr16, mk16, mz16, mr17, mk17, mz17, mr18, mk18, mz18, va_rf_s, pk_mul, nI_add, not_false_eq_true, and_self, true_and, Option.toList_some, Option.toList_none, List.append_nil, List.cons_append, List.nil_append, nI_01, nI_11, vh_K_wI, vh_R_wI, vh_Z_wI, vh_wI_sI, vh_K_sI, vh_R_sI, vh_Z_sI, vh_sI_sI, vh_I_sI, cl (show 3 * i + 1 < 2 ^ 31 by omega), ib b1 (show 48 ≤ 2 ^ 31 by omega), h1, m_bound _ hM' hi hok.1.2.1 hR']
  by_cases q1 : bnd ρ (ρ 5) (ρ 1)
  · rw [if_neg (fun z => cb_0.mp z q1)]
    simp only [s_97_18, s_97_19, s_97_22, s_97_23, s_97_24, mk, mr0, mk0, mz0, mr1, mk1, mz1, mr2, mk2, mz2, mr3, mk3, mz3, mr4, mk4, mz4, mr5, mk5, mz5, mr6, mk6, mz6, mr7, mk7, mz7, mr8, mk8, mz8, mr9, mk9, mz9, mr10, mk10, mz10, mr11, mk11, mz11, mr12, mk12, mz12, mr13, mk13, mz13, mr14, mk14, mz14, mr15, mk15, mz15, mr16, mk16, mz16, mr17, mk17, mz17, mr18, mk18, mz18, va_rf_s, pk_mul, nI_add, not_false_eq_true, and_self, true_and, Option.toList_some, Option.toList_none, List.append_nil, List.cons_append, List.nil_append, nI_01, nI_11, vh_K_wI, vh_R_wI, vh_Z_wI, vh_wI_sI, vh_K_sI, vh_R_sI, vh_Z_sI, vh_sI_sI, vh_I_sI, cl (show i < 2 ^ 31 by omega), ib hi (show 16 ≤ 2 ^ 31 by omega), h3]
    by_cases q3 : ρ 3 = 0
    · have es : sec ρ = ρ 2 := if_pos q3
      have o2 : ρ 2 < 38 := by rw [← es]; exact hok.1.2.2.1
      rw [if_pos (by rw [q3]; decide)]
      simp only [s_97_44, s_97_45, s_97_46, s_97_47, s_97_50, s_97_51, s_97_52, s_97_53, s_97_54, s_97_55, s_97_56, s_97_59, mk, mr0, mk0, mz0, mr1, mk1, mz1, mr2, mk2, mz2, mr3, mk3, mz3, mr4, mk4, mz4, mr5, mk5, mz5, mr6, mk6, mz6, mr7, mk7, mz7, mr8, mk8, mz8, mr9, mk9, mz9, mr10, mk10, mz10, mr11, mk11, mz11, mr12, mk12, mz12, mr13, mk13, mz13, mr14, mk14, mz14, mr15, mk15, mz15, mr16, mk16, mz16, mr17, mk17, mz17, mr18, mk18, mz18, va_rf_s, pk_mul, nI_add, not_false_eq_true, and_self, true_and, Option.toList_some, Option.toList_none, List.append_nil, List.cons_append, List.nil_append, nI_01, nI_11, vh_K_wI, vh_R_wI, vh_Z_wI, vh_wI_sI, vh_K_sI, vh_R_sI, vh_Z_sI, vh_sI_sI, vh_I_sI, cl (show 3 * i + 2 < 2 ^ 31 by omega), ib b2 (show 48 ≤ 2 ^ 31 by omega), h2, m_bound _ hM' hi o2 hR']
      by_cases q2 : bnd ρ (ρ 5) (ρ 2)
      · rw [if_neg (fun z => cb_0.mp z q2)]
        simp only [s_97_62, s_97_63]
        exact l _ (cb_t (e0.mpr ⟨q1, by rw [es]; exact q2⟩)).symm
      · rw [if_pos (cb_0.mpr q2)]
        simp only [s_97_66]
        exact l _ (cb_f (fun z => q2 (by rw [← es]; exact (e0.mp z).2))).symm
    · have es : sec ρ = ρ 4 := if_neg q3
      have o4 : ρ 4 < 38 := by rw [← es]; exact hok.1.2.2.1
      have kp : ¬ kI (ρ 3) < 0 := (by decide +kernel : ∀ k, k < 5 → k ≠ 0 → ¬ kI k < 0) (ρ 3) k5 q3
      rw [if_neg kp]
      simp only [s_97_27, s_97_28, s_97_29, s_97_30, s_97_33, s_97_34, s_97_35, s_97_38, mk, mr0, mk0, mz0, mr1, mk1, mz1, mr2, mk2, mz2, mr3, mk3, mz3, mr4, mk4, mz4, mr5, mk5, mz5, mr6, mk6, mz6, mr7, mk7, mz7, mr8, mk8, mz8, mr9, mk9, mz9, mr10, mk10, mz10, mr11, mk11, mz11, mr12, mk12, mz12, mr13, mk13, mz13, mr14, mk14, mz14, mr15, mk15, mz15, mr16, mk16, mz16, mr17, mk17, mz17, mr18, mk18, mz18, va_rf_s, pk_mul, nI_add, not_false_eq_true, and_self, true_and, Option.toList_some, Option.toList_none, List.append_nil, List.cons_append, List.nil_append, nI_01, nI_11, vh_K_wI, vh_R_wI, vh_Z_wI, vh_wI_sI, vh_K_sI, vh_R_sI, vh_Z_sI, vh_sI_sI, vh_I_sI, cl (show i < 2 ^ 31 by omega), ib hi (show 16 ≤ 2 ^ 31 by omega), (h4 q3).1, m_bound _ hM' hi o4 hR']
      by_cases q2 : bnd ρ (ρ 5) (ρ 4)
      · rw [if_neg (fun z => cb_0.mp z q2)]
        simp only [s_97_41, s_97_62, s_97_63]
        exact l _ (cb_t (e0.mpr ⟨q1, by rw [es]; exact q2⟩)).symm
      · rw [if_pos (cb_0.mpr q2)]
        simp only [s_97_66]
        exact l _ (cb_f (fun z => q2 (by rw [← es]; exact (e0.mp z).2))).symm
  · rw [if_pos (cb_0.mpr q1)]
    simp only [s_97_66]
    exact l _ (cb_f (fun z => q1 (e0.mp z).1)).symm

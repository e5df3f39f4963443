-- ===== the reference: next =====
theorem asg_keep {u u' : Nat → Nat} {t a v : Nat} (ha : a < 32) (h : asg u t a = some u') : (u v < 32 → u' v < 32) ∧ (t = 32 + v → u' v < 32) := by
  unfold asg at h
  by_cases q : t < 32
  · rw [if_pos q] at h
    by_cases q2 : t = a
    · rw [if_pos q2] at h; cases h
      exact ⟨id, fun z => by omega⟩
    · rw [if_neg q2] at h; cases h
  · rw [if_neg q] at h
    by_cases q2 : u (t - 32) = 32 ∨ u (t - 32) = a
    · rw [if_pos q2] at h; cases h
      constructor
      · intro z
        unfold sv_set
        split
        · exact ha
        · exact z
      · intro z
        rw [show t - 32 = v by omega, sv_set_same]; exact ha
    · rw [if_neg q2] at h; cases h
theorem TL_tot {ρ pl cd : Nat → Nat} {v : Nat} : ∀ {n : Nat} {u : Nat → Nat}, TL ρ pl cd n = some u → (∃ d, d < n ∧ (ρ (12 + 4 * pl d) = 32 + v ∨ ρ (13 + 4 * pl d) = 32 + v)) → u v < 32
  | 0, _, _, ⟨d, hd, _⟩ => absurd hd (by omega)
  | n + 1, u, h, ⟨d, hd, hv⟩ => by
    have h : (TL ρ pl cd n).bind _ = some u := h
    obtain ⟨u1, h1, h2⟩ := Option.bind_eq_some_iff.mp h
    obtain ⟨u2, h3, h4⟩ := Option.bind_eq_some_iff.mp h2
    have k3 := asg_keep (v := v) (Nat.mod_lt _ (by omega)) h3
    have k4 := asg_keep (v := v) (Nat.mod_lt _ (by omega)) h4
    by_cases e : d = n
    · subst e
      rcases hv with hv | hv
      · exact k4.1 (k3.2 hv)
      · exact k4.2 hv
    · exact k4.1 (k3.1 (TL_tot h1 ⟨d, by omega, hv⟩))
/-- a safe rule: tell gives all its variables a number -/
theorem TL_safe {ρ cd u : Nat → Nat} (hsf : sf ρ) (hok : okR ρ) (h : TL ρ (plx ρ) cd (npc ρ) = some u) : ∀ p, p < ρ 5 → (32 ≤ ρ (12 + 4 * p) → u (ρ (12 + 4 * p) - 32) < 32) ∧ (32 ≤ ρ (13 + 4 * p) → u (ρ (13 + 4 * p) - 32) < 32) := by
  have g : ∀ v, giv ρ v → u v < 32 := by
    rintro v ⟨p, a, b, c⟩
    obtain ⟨d, hd, e⟩ := plx_all a b
    exact TL_tot h ⟨d, hd, by rw [e]; exact c⟩
  have one : ∀ p t, p < ρ 5 → t < 38 → (t = ρ (12 + 4 * p) ∨ t = ρ (13 + 4 * p)) → 32 ≤ t → u (t - 32) < 32 := by
    intro p t hp ht he h32
    refine g (t - 32) ?_
    by_cases q : ρ (10 + 4 * p) = 3
    · refine ⟨p, hp, q, ?_⟩
      rw [show 32 + (t - 32) = t by omega]
      exact he.elim (fun z => Or.inl z.symm) (fun z => Or.inr z.symm)
    · refine hsf (t - 32) (by omega) (Or.inr ⟨p, hp, q, ?_⟩)
      rw [show 32 + (t - 32) = t by omega]
      exact he.elim (fun z => Or.inl z.symm) (fun z => Or.inr z.symm)
  intro p hp
  have o := hok.2 p hp
  exact ⟨one p _ hp o.2.1 (Or.inl rfl), one p _ hp o.2.2.1 (Or.inr rfl)⟩
/-- a filled tuple -/
def VP (ρ P : Nat → Nat) (d : Nat) : Prop := ∀ k, k < d → ba ρ k < P k ∧ P k ≤ ba ρ k + 1024
theorem ba_b {ρ : Nat → Nat} {d : Nat} (hok : okR ρ) (hd : d < npc ρ) : ba ρ d + 1024 ≤ 16384 := by
  have := (hok.2 _ (plx_ok hd).1).1
  unfold ba
  omega
theorem mI_s (p : Nat) : mI (p + 1) = nI p := by
  unfold mI
  rw [if_neg (by omega), Nat.add_sub_cancel]
theorem mI_p {p : Nat} (h : 0 < p) : mI p = nI (p - 1) := by
  have := mI_s (p - 1)
  rw [show p - 1 + 1 = p by omega] at this
  exact this
theorem mI_1 (p : Nat) : mI p + nI 1 = nI p := by
  unfold mI
  by_cases q : p = 0
  · rw [if_pos q, q]; decide
  · rw [if_neg q, nI_add, show p - 1 + 1 = p by omega]
theorem dec_mI (d : Nat) : nI d + Int32.ofInt (-1) = mI d := by
  rw [show Int32.ofInt (-1) = -nI 1 by decide]
  unfold mI
  by_cases z : d = 0
  · subst z; decide
  · rw [if_neg z]
    have : nI d = nI (d - 1) + nI 1 := by rw [nI_add, show d - 1 + 1 = d by omega]
    rw [this, Int32.add_assoc, show nI 1 + -nI 1 = 0 by decide, Int32.add_zero]
/-- the head of next's loop at depth d -/
theorem l_head {i d p : Nat} {ρ : Nat → Nat} {fs y4 y5 : Value} {h : vt_H} {Q : vt_Q} (hM : MZ h) (hi : i < 16) (hR : MR (vh_I h) i ρ) (hB : PB (vh_I h) ρ) (hd : d < npc ρ) (hp : vh_I h 143 d = mI p)
    (hQ : Wp 105 93 [.ref 129, .int (nI i), fs, .int (nI d), .int (nI (ρ (11 + 4 * plx ρ d))), .int (nI p)] [] (vh_sI h (up2 (vh_I h) 143 d (nI p))) Q) : Wp 105 49 [.ref 129, .int (nI i), fs, .int (nI d), y4, y5] [] h Q := by
  obtain ⟨mk, ⟨mr0, mk0, mz0⟩, ⟨mr1, mk1, mz1⟩, ⟨mr2, mk2, mz2⟩, ⟨mr3, mk3, mz3⟩, ⟨mr4, mk4, mz4⟩, ⟨mr5, mk5, mz5⟩, ⟨mr6, mk6, mz6⟩, ⟨mr7, mk7, mz7⟩, ⟨mr8, mk8, mz8⟩, ⟨mr9, mk9, mz9⟩, ⟨mr10, mk10, mz10⟩, ⟨mr11, mk11, mz11⟩, ⟨mr12, mk12, mz12⟩, ⟨mr13, mk13, mz13⟩, ⟨mr14, mk14, mz14⟩, ⟨mr15, mk15, mz15⟩, ⟨mr16, mk16, mz16⟩, ⟨mr17, mk17, mz17⟩, ⟨mr18, mk18, mz18⟩⟩ := hM
  obtain ⟨hok, h0, h1, h2, h3, h4, h5, hpp⟩ := hR
  have r5 := hok.1.2.2.2.1
  have n5 : npc ρ ≤ 5 := Nat.le_trans (pls_len (ρ 5)) r5
  obtain ⟨o1, o2⟩ := plx_ok hd
  obtain ⟨-, p2, -⟩ := hpp (plx ρ d) o1
  have ew : wh (ρ (10 + 4 * plx ρ d)) (ρ (11 + 4 * plx ρ d)) = ρ (11 + 4 * plx ρ d) := by unfold wh; rw [if_neg (by omega)]
  rw [ew] at p2
  have b1 : 20 * i + 4 * plx ρ d + 1 < 320 := by omega
  simp only [s_105_49, s_105_50]
  rw [if_neg (nI_pos (by omega))]
  simp only [s_105_53, s_105_54, s_105_57, s_105_59, s_105_60, s_105_61, s_105_62, s_105_63, s_105_66, s_105_67, s_105_68, s_105_69, s_105_70, s_105_71, s_105_72, s_105_73, s_105_75, s_105_76, s_105_79, s_105_80, mk, mr0, mk0, mz0, mr1, mk1, mz1, mr2, mk2, mz2, mr3, mk3, mz3, mr4, mk4, mz4, mr5, mk5, mz5, mr6, mk6, mz6, mr7, mk7, mz7, mr8, mk8, mz8, mr9, mk9, mz9, mr10, mk10, mz10, mr11, mk11, mz11, mr12, mk12, mz12, mr13, mk13, mz13, mr14, mk14, mz14, mr15, mk15, mz15, mr16, mk16, mz16, mr17, mk17, mz17, mr18, mk18, mz18, va_rf_s, pk_mul, nI_add, not_false_eq_true, and_self, true_and, Option.toList_some, Option.toList_none, List.append_nil, List.cons_append, List.nil_append, nI_01, nI_11, vh_K_wI, vh_R_wI, vh_Z_wI, vh_wI_sI, vh_K_sI, vh_R_sI, vh_Z_sI, vh_sI_sI, vh_I_sI, cl (show d < 2 ^ 31 by omega), ib (show d < 5 by omega) (show 5 ≤ 2 ^ 31 by omega), hB.2 d hd, cl (show 20 * i + 4 * plx ρ d + 1 < 2 ^ 31 by omega), ib b1 (show 320 ≤ 2 ^ 31 by omega), p2, hp]
  simp only [s_105_81, s_105_82, s_105_83, s_105_85, s_105_86, s_105_89, s_105_90, s_105_92, mk, mr0, mk0, mz0, mr1, mk1, mz1, mr2, mk2, mz2, mr3, mk3, mz3, mr4, mk4, mz4, mr5, mk5, mz5, mr6, mk6, mz6, mr7, mk7, mz7, mr8, mk8, mz8, mr9, mk9, mz9, mr10, mk10, mz10, mr11, mk11, mz11, mr12, mk12, mz12, mr13, mk13, mz13, mr14, mk14, mz14, mr15, mk15, mz15, mr16, mk16, mz16, mr17, mk17, mz17, mr18, mk18, mz18, va_rf_s, pk_mul, nI_add, not_false_eq_true, and_self, true_and, Option.toList_some, Option.toList_none, List.append_nil, List.cons_append, List.nil_append, nI_01, nI_11, vh_K_wI, vh_R_wI, vh_Z_wI, vh_wI_sI, vh_K_sI, vh_R_sI, vh_Z_sI, vh_sI_sI, vh_I_sI, mI_1, cl (show d < 2 ^ 31 by omega), ib (show d < 5 by omega) (show 5 ≤ 2 ^ 31 by omega)]
  exact hQ
/-- one code tried at depth d -/
theorem l_scan {i d k : Nat} {ρ : Nat → Nat} {O : Nat → Bool} {fs : Value} {h : vt_H} {Q : vt_Q} {P : Nat → Nat} {f0 : Nat → Nat → Int32} (hM : MZ h) (hi : i < 16) (hR : MR (vh_I h) i ρ) (hB : PB (vh_I h) ρ) (hO : ∀ c, c < 16384 → (OL (vh_I h) c ↔ O c = true)) (hd : d < npc ρ) (hk : k < 1024) (vp : VP ρ P d) (a1 : ∀ x, x ≠ 141 → x ≠ 143 → ∀ j, f0 x j = vh_I h x j) (a2 : ∀ j, j < d → f0 143 j = mI (P j)) (a3 : f0 143 d = nI (ba ρ d + 1024 - (k + 1)))
    (HN : ¬ okP ρ O d (sv_set P d (ba ρ d + 1024 - k)) → ∀ f', (∀ x, x ≠ 141 → x ≠ 143 → ∀ j, f' x j = vh_I h x j) → (∀ j, j < d → f' 143 j = mI (P j)) → f' 143 d = nI (ba ρ d + 1024 - k) → Wp 105 93 [.ref 129, .int (nI i), fs, .int (nI d), .int (nI (ρ (11 + 4 * plx ρ d))), .int (nI (ba ρ d + 1024 - k))] [] (vh_sI h f') Q)
    (HY : okP ρ O d (sv_set P d (ba ρ d + 1024 - k)) → ∀ u f', (∀ x, x ≠ 141 → x ≠ 143 → ∀ j, f' x j = vh_I h x j) → (∀ j, j < d + 1 → f' 143 j = mI (sv_set P d (ba ρ d + 1024 - k) j)) → TL ρ (plx ρ) (fun j => sv_set P d (ba ρ d + 1024 - k) j - 1) (d + 1) = some u → (∀ v, v < 6 → f' 141 v = vI (u v)) → Wp 105 163 [.ref 129, .int (nI i), fs, .int (nI d), .int (nI (ρ (11 + 4 * plx ρ d))), .int (nI (ba ρ d + 1024 - (k + 1)))] [] (vh_sI h f') Q) :
    Wp 105 93 [.ref 129, .int (nI i), fs, .int (nI d), .int (nI (ρ (11 + 4 * plx ρ d))), .int (nI (ba ρ d + 1024 - (k + 1)))] [] (vh_sI h f0) Q := by
  have hM' := hM
  have hR' := hR
  obtain ⟨mk, ⟨mr0, mk0, mz0⟩, ⟨mr1, mk1, mz1⟩, ⟨mr2, mk2, mz2⟩, ⟨mr3, mk3, mz3⟩, ⟨mr4, mk4, mz4⟩, ⟨mr5, mk5, mz5⟩, ⟨mr6, mk6, mz6⟩, ⟨mr7, mk7, mz7⟩, ⟨mr8, mk8, mz8⟩, ⟨mr9, mk9, mz9⟩, ⟨mr10, mk10, mz10⟩, ⟨mr11, mk11, mz11⟩, ⟨mr12, mk12, mz12⟩, ⟨mr13, mk13, mz13⟩, ⟨mr14, mk14, mz14⟩, ⟨mr15, mk15, mz15⟩, ⟨mr16, mk16, mz16⟩, ⟨mr17, mk17, mz17⟩, ⟨mr18, mk18, mz18⟩⟩ := hM
  obtain ⟨hok, h0, h1, h2, h3, h4, h5, hpp⟩ := hR
  have r5 := hok.1.2.2.2.1
  have n5 : npc ρ ≤ 5 := Nat.le_trans (pls_len (ρ 5)) r5
  have bb := ba_b hok hd
  have el : 1024 * ρ (11 + 4 * plx ρ d) + 1024 = ba ρ d + 1024 := rfl
  have hc : ba ρ d + 1024 - (k + 1) < 16384 := by omega
  have hM0 : MZ (vh_sI h f0) := hM'
  have hR0 : MR (vh_I (vh_sI h f0)) i ρ := MR_c hR' (fun x x1 x2 j => a1 x (by omega) (by omega) j)
  have pc1 : sv_set P d (ba ρ d + 1024 - k) d - 1 = ba ρ d + 1024 - (k + 1) := by rw [sv_set_same]; omega
  have eOL : ∀ g : Nat → Nat → Int32, (∀ x, x ≠ 141 → x ≠ 143 → ∀ j, g x j = vh_I h x j) → (OL g (ba ρ d + 1024 - (k + 1)) ↔ O (ba ρ d + 1024 - (k + 1)) = true) := fun g hg => by
    rw [← hO _ hc]
    unfold OL
    rw [hg 136 (by decide) (by decide), hg 129 (by decide) (by decide), hg 144 (by decide) (by decide)]
  have miss : ¬ okP ρ O d (sv_set P d (ba ρ d + 1024 - k)) → ∀ f1 : Nat → Nat → Int32, (∀ x, x ≠ 141 → x ≠ 143 → ∀ j, f1 x j = vh_I h x j) → (∀ j, j < d → f1 143 j = mI (P j)) → Wp 105 128 [.ref 129, .int (nI i), fs, .int (nI d), .int (nI (ρ (11 + 4 * plx ρ d))), .int (nI (ba ρ d + 1024 - (k + 1)))] [] (vh_sI h f1) Q := by
    intro no f1 b1 b2
    simp only [s_105_128, s_105_131, s_105_132, s_105_135, s_105_136, s_105_138, s_105_139, mk, mr0, mk0, mz0, mr1, mk1, mz1, mr2, mk2, mz2, mr3, mk3, mz3, mr4, mk4, mz4, mr5, mk5, mz5, mr6, mk6, mz6, mr7, mk7, mz7, mr8, mk8, mz8, mr9, mk9, mz9, mr10, mk10, mz10, mr11, mk11, mz11, mr12, mk12, mz12, mr13, mk13, mz13, mr14, mk14, mz14, mr15, mk15, mz15, mr16, mk16, mz16, mr17, mk17, mz17, mr18, mk18, mz18, va_rf_s, pk_mul, nI_add, not_false_eq_true, and_self, true_and, Option.toList_some, Option.toList_none, List.append_nil, List.cons_append, List.nil_append, nI_01, nI_11, vh_K_wI, vh_R_wI, vh_Z_wI, vh_wI_sI, vh_K_sI, vh_R_sI, vh_Z_sI, vh_sI_sI, vh_I_sI, cl (show d < 2 ^ 31 by omega), ib (show d < 5 by omega) (show 5 ≤ 2 ^ 31 by omega)]
    rw [show ba ρ d + 1024 - (k + 1) + 1 = ba ρ d + 1024 - k by omega]
    refine HN no _ (fun x x1 x2 j => ?_) (fun j hj => ?_) (up2_s _ _ _ _)
    · rw [up2_a _ _ _ x2]; exact b1 x x1 x2 j
    · rw [up2_i _ _ _ _ (by omega)]; exact b2 j hj
  simp only [s_105_93, s_105_95, s_105_98, s_105_100, s_105_101, s_105_104, va_rf_s, pk_mul, nI_add, not_false_eq_true, and_self, true_and, Option.toList_some, Option.toList_none, List.append_nil, List.cons_append, List.nil_append, nI_01, nI_11, vh_K_wI, vh_R_wI, vh_Z_wI, vh_wI_sI, vh_K_sI, vh_R_sI, vh_Z_sI, vh_sI_sI, vh_I_sI, el, s_105_105]
  rw [if_neg (nI_ge (by omega) (by omega))]
  simp only [s_105_108, s_105_109, s_105_111, s_105_114, mk, mr0, mk0, mz0, mr1, mk1, mz1, mr2, mk2, mz2, mr3, mk3, mz3, mr4, mk4, mz4, mr5, mk5, mz5, mr6, mk6, mz6, mr7, mk7, mz7, mr8, mk8, mz8, mr9, mk9, mz9, mr10, mk10, mz10, mr11, mk11, mz11, mr12, mk12, mz12, mr13, mk13, mz13, mr14, mk14, mz14, mr15, mk15, mz15, mr16, mk16, mz16, mr17, mk17, mz17, mr18, mk18, mz18, va_rf_s, pk_mul, nI_add, not_false_eq_true, and_self, true_and, Option.toList_some, Option.toList_none, List.append_nil, List.cons_append, List.nil_append, nI_01, nI_11, vh_K_wI, vh_R_wI, vh_Z_wI, vh_wI_sI, vh_K_sI, vh_R_sI, vh_Z_sI, vh_sI_sI, vh_I_sI, m_isOld _ hM0 hc]
  by_cases q : OL f0 (ba ρ d + 1024 - (k + 1))
  · rw [if_neg (fun z => cb_0.mp z q)]
    have qO := (eOL f0 a1).mp q
    simp only [s_105_117, s_105_118, s_105_119, s_105_120, s_105_121, s_105_122, mk, mr0, mk0, mz0, mr1, mk1, mz1, mr2, mk2, mz2, mr3, mk3, mz3, mr4, mk4, mz4, mr5, mk5, mz5, mr6, mk6, mz6, mr7, mk7, mz7, mr8, mk8, mz8, mr9, mk9, mz9, mr10, mk10, mz10, mr11, mk11, mz11, mr12, mk12, mz12, mr13, mk13, mz13, mr14, mk14, mz14, mr15, mk15, mz15, mr16, mk16, mz16, mr17, mk17, mz17, mr18, mk18, mz18, va_rf_s, pk_mul, nI_add, not_false_eq_true, and_self, true_and, Option.toList_some, Option.toList_none, List.append_nil, List.cons_append, List.nil_append, nI_01, nI_11, vh_K_wI, vh_R_wI, vh_Z_wI, vh_wI_sI, vh_K_sI, vh_R_sI, vh_Z_sI, vh_sI_sI, vh_I_sI]
    refine m_tell (n := d + 1) (pl := plx ρ) (cd := fun j => sv_set P d (ba ρ d + 1024 - k) j - 1) hM0 hi hR0 (by omega) (fun j hj => ?_) (fun j hj => ?_) (fun f1 z1 z2 => ?_) (fun f1 u z1 z2 z3 => ?_)
    · rw [vh_I_sI, a1 142 (by decide) (by decide)]
      exact ⟨hB.2 j (by omega), (plx_ok (by omega)).1⟩
    · rw [vh_I_sI]
      by_cases e : j = d
      · subst e
        rw [pc1]
        exact ⟨a3, hc⟩
      · rw [sv_set_ne _ _ e]
        have v := vp j (by omega)
        have bj := ba_b hok (show j < npc ρ by omega)
        exact ⟨by rw [a2 j (by omega)]; exact mI_p (by omega), by omega⟩
    · rw [vh_sI_sI]
      rw [vh_I_sI] at z1
      simp only [va_rf_s, pk_mul, nI_add, not_false_eq_true, and_self, true_and, Option.toList_some, Option.toList_none, List.append_nil, List.cons_append, List.nil_append, nI_01, nI_11, vh_K_wI, vh_R_wI, vh_Z_wI, vh_wI_sI, vh_K_sI, vh_R_sI, vh_Z_sI, vh_sI_sI, vh_I_sI]
      simp only [s_105_125]
      rw [if_neg (fun z => z nI_00)]
      refine miss (fun z => z.2 z2) f1 (fun x x1 x2 j => (z1 x x1 j).trans (a1 x x1 x2 j)) (fun j hj => (z1 143 (by decide) j).trans (a2 j hj))
    · rw [vh_sI_sI]
      rw [vh_I_sI] at z1
      simp only [va_rf_s, pk_mul, nI_add, not_false_eq_true, and_self, true_and, Option.toList_some, Option.toList_none, List.append_nil, List.cons_append, List.nil_append, nI_01, nI_11, vh_K_wI, vh_R_wI, vh_Z_wI, vh_wI_sI, vh_K_sI, vh_R_sI, vh_Z_sI, vh_sI_sI, vh_I_sI]
      simp only [s_105_125]
      rw [if_pos nI_10]
      simp only [s_105_142, s_105_144, s_105_147, s_105_149, s_105_150, s_105_153, va_rf_s, pk_mul, nI_add, not_false_eq_true, and_self, true_and, Option.toList_some, Option.toList_none, List.append_nil, List.cons_append, List.nil_append, nI_01, nI_11, vh_K_wI, vh_R_wI, vh_Z_wI, vh_wI_sI, vh_K_sI, vh_R_sI, vh_Z_sI, vh_sI_sI, vh_I_sI, el, s_105_154]
      rw [if_pos (fun z => by have := (nI_eq (by omega) (by omega)).mp z; omega)]
      refine HY ⟨by rw [pc1]; exact qO, by rw [z2]; simp⟩ u f1 (fun x x1 x2 j => (z1 x x1 j).trans (a1 x x1 x2 j)) (fun j hj => ?_) z2 z3
      rw [z1 143 (by decide)]
      by_cases e : j = d
      · subst e
        rw [sv_set_same, mI_p (by omega), a3]
        congr 1
      · rw [sv_set_ne _ _ e]; exact a2 j (by omega)
  · rw [if_pos (cb_0.mpr q)]
    refine miss (fun z => q ((eOL f0 a1).mpr ?_)) f0 a1 a2
    have := z.1
    rw [pc1] at this
    exact this
theorem l_next {i : Nat} {ρ : Nat → Nat} {O : Nat → Bool} {fs : Value} {h : vt_H} {Q : vt_Q} (hM : MZ h) (hi : i < 16) (hR : MR (vh_I h) i ρ) (hsf : sf ρ) (hB : PB (vh_I h) ρ) (hO : ∀ c, c < 16384 → (OL (vh_I h) c ↔ O c = true)) :
    ∀ (e d : Nat), d + e + 1 = npc ρ → ∀ (k : Nat), k ≤ 1024 → ∀ (P : Nat → Nat) (f0 : Nat → Nat → Int32), VP ρ P d → (∀ x, x ≠ 141 → x ≠ 143 → ∀ j, f0 x j = vh_I h x j) → (∀ j, j < d → f0 143 j = mI (P j)) → f0 143 d = nI (ba ρ d + 1024 - k) →
      (LC (LSn ρ O e (d + 1)) (okP ρ O d) d (ba ρ d) P k = [] → ∀ f' y4 y5, (∀ x, x ≠ 141 → x ≠ 143 → ∀ j, f' x j = vh_I h x j) → (∀ j, j < d → f' 143 j = mI (P j)) → Wp 105 49 [.ref 129, .int (nI i), fs, .int (mI d), y4, y5] [] (vh_sI h f') Q) →
      (∀ t l' , LC (LSn ρ O e (d + 1)) (okP ρ O d) d (ba ρ d) P k = t :: l' → ∀ f' u, (∀ x, x ≠ 141 → x ≠ 143 → ∀ j, f' x j = vh_I h x j) → (∀ j, j < npc ρ → f' 143 j = mI (t j)) → VP ρ t (npc ρ) → TL ρ (plx ρ) (fun k => t k - 1) (npc ρ) = some u → (∀ v, v < 6 → f' 141 v = vI (u v)) → RMn ρ O t (npc ρ) = l' ++ RMn ρ O P d → Q (some (.int (nI 1))) (vh_sI h f')) →
      Wp 105 93 [.ref 129, .int (nI i), fs, .int (nI d), .int (nI (ρ (11 + 4 * plx ρ d))), .int (nI (ba ρ d + 1024 - k))] [] (vh_sI h f0) Q := by
  have hM' := hM
  have hR' := hR
  obtain ⟨mk, ⟨mr0, mk0, mz0⟩, ⟨mr1, mk1, mz1⟩, ⟨mr2, mk2, mz2⟩, ⟨mr3, mk3, mz3⟩, ⟨mr4, mk4, mz4⟩, ⟨mr5, mk5, mz5⟩, ⟨mr6, mk6, mz6⟩, ⟨mr7, mk7, mz7⟩, ⟨mr8, mk8, mz8⟩, ⟨mr9, mk9, mz9⟩, ⟨mr10, mk10, mz10⟩, ⟨mr11, mk11, mz11⟩, ⟨mr12, mk12, mz12⟩, ⟨mr13, mk13, mz13⟩, ⟨mr14, mk14, mz14⟩, ⟨mr15, mk15, mz15⟩, ⟨mr16, mk16, mz16⟩, ⟨mr17, mk17, mz17⟩, ⟨mr18, mk18, mz18⟩⟩ := hM
  obtain ⟨hok, h0, h1, h2, h3, h4, h5, hpp⟩ := hR
  have r5 := hok.1.2.2.2.1
  have n5 : npc ρ ≤ 5 := Nat.le_trans (pls_len (ρ 5)) r5
  have e17 : vh_I h 129 17 = nI (npc ρ) := hB.1
  intro e
  induction e with
  | zero =>
    intro d hde k
    have hd : d < npc ρ := by omega
    have bb := ba_b hok hd
    have el : 1024 * ρ (11 + 4 * plx ρ d) + 1024 = ba ρ d + 1024 := rfl
    induction k with
    | zero =>
      intro _ P f0 vp a1 a2 a3 H0 H1
      simp only [s_105_93, s_105_95, s_105_98, s_105_100, s_105_101, s_105_104, va_rf_s, pk_mul, nI_add, not_false_eq_true, and_self, true_and, Option.toList_some, Option.toList_none, List.append_nil, List.cons_append, List.nil_append, nI_01, nI_11, vh_K_wI, vh_R_wI, vh_Z_wI, vh_wI_sI, vh_K_sI, vh_R_sI, vh_Z_sI, vh_sI_sI, vh_I_sI, el, s_105_105]
      rw [if_pos (nI_le (by omega) (by omega))]
      simp only [s_105_142, s_105_144, s_105_147, s_105_149, s_105_150, s_105_153, va_rf_s, pk_mul, nI_add, not_false_eq_true, and_self, true_and, Option.toList_some, Option.toList_none, List.append_nil, List.cons_append, List.nil_append, nI_01, nI_11, vh_K_wI, vh_R_wI, vh_Z_wI, vh_wI_sI, vh_K_sI, vh_R_sI, vh_Z_sI, vh_sI_sI, vh_I_sI, el, s_105_154]
      rw [if_neg (fun z => z (by rw [Nat.sub_zero]))]
      simp only [s_105_157, s_105_160, s_105_218, dec_mI]
      exact H0 rfl f0 _ _ a1 a2
    | succ k ih =>
      intro hk P f0 vp a1 a2 a3 H0 H1
      have eLC : LC (LSn ρ O 0 (d + 1)) (okP ρ O d) d (ba ρ d) P (k + 1) = (@ite (List (Nat → Nat)) (okP ρ O d (sv_set P d (ba ρ d + 1024 - k))) (Classical.propDecidable _) (LSn ρ O 0 (d + 1) (sv_set P d (ba ρ d + 1024 - k))) []) ++ LC (LSn ρ O 0 (d + 1)) (okP ρ O d) d (ba ρ d) P k := rfl
      refine l_scan hM' hi hR' hB hO hd (by omega) vp a1 a2 a3 (fun no f1 b1 b2 b3 => ?_) (fun yes u f1 b1 b2 b3 b4 => ?_)
      · rw [if_neg no, List.nil_append] at eLC
        rw [eLC] at H0 H1
        exact ih (by omega) P f1 vp b1 b2 b3 H0 H1
      · rw [if_pos yes] at eLC
        have dn : d + 1 = npc ρ := by omega
        have e17' : f1 129 17 = nI (npc ρ) := (b1 129 (by decide) (by decide) 17).trans e17
        have hM1 : MZ (vh_sI h f1) := hM'
        have hR1 : MR (vh_I (vh_sI h f1)) i ρ := MR_c hR' (fun x x1 x2 j => b1 x (by omega) (by omega) j)
        have hO1 : ∀ c, c < 16384 → (OL (vh_I (vh_sI h f1)) c ↔ O c = true) := fun c hc => by
          rw [← hO c hc]
          unfold OL
          rw [vh_I_sI, b1 136 (by decide) (by decide), b1 129 (by decide) (by decide), b1 144 (by decide) (by decide)]
        have b3' : TL ρ (plx ρ) (fun j => sv_set P d (ba ρ d + 1024 - k) j - 1) (npc ρ) = some u := by rw [← dn]; exact b3
        have sub1 : nI (npc ρ) - nI 1 = nI d := by rw [← dn]; exact nI_pred d
        simp only [s_105_163, s_105_164, s_105_165, s_105_168, s_105_169, mk, mr0, mk0, mz0, mr1, mk1, mz1, mr2, mk2, mz2, mr3, mk3, mz3, mr4, mk4, mz4, mr5, mk5, mz5, mr6, mk6, mz6, mr7, mk7, mz7, mr8, mk8, mz8, mr9, mk9, mz9, mr10, mk10, mz10, mr11, mk11, mz11, mr12, mk12, mz12, mr13, mk13, mz13, mr14, mk14, mz14, mr15, mk15, mz15, mr16, mk16, mz16, mr17, mk17, mz17, mr18, mk18, mz18, va_rf_s, pk_mul, nI_add, not_false_eq_true, and_self, true_and, Option.toList_some, Option.toList_none, List.append_nil, List.cons_append, List.nil_append, nI_01, nI_11, vh_K_wI, vh_R_wI, vh_Z_wI, vh_wI_sI, vh_K_sI, vh_R_sI, vh_Z_sI, vh_sI_sI, vh_I_sI, e17', sub1, s_105_170, not_true, if_false]
        simp only [s_105_173, s_105_174, s_105_175, mk, mr0, mk0, mz0, mr1, mk1, mz1, mr2, mk2, mz2, mr3, mk3, mz3, mr4, mk4, mz4, mr5, mk5, mz5, mr6, mk6, mz6, mr7, mk7, mz7, mr8, mk8, mz8, mr9, mk9, mz9, mr10, mk10, mz10, mr11, mk11, mz11, mr12, mk12, mz12, mr13, mk13, mz13, mr14, mk14, mz14, mr15, mk15, mz15, mr16, mk16, mz16, mr17, mk17, mz17, mr18, mk18, mz18, va_rf_s, pk_mul, nI_add, not_false_eq_true, and_self, true_and, Option.toList_some, Option.toList_none, List.append_nil, List.cons_append, List.nil_append, nI_01, nI_11, vh_K_wI, vh_R_wI, vh_Z_wI, vh_wI_sI, vh_K_sI, vh_R_sI, vh_Z_sI, vh_sI_sI, vh_I_sI, m_pass (h := vh_sI h f1) (ρ := ρ) (u := u) (O := O) _ hM1 hi hR1 b4 (TL_safe hsf hok b3') hO1]
        simp only [s_105_178]
        by_cases qp : npl (fun n a b => O (1024 * n + 32 * a + b)) ρ (ρ 5) u
        · rw [if_neg (fun z => cb_0.mp z qp)]
          simp only [s_105_181, s_105_182, va_rf_s, pk_mul, nI_add, not_false_eq_true, and_self, true_and, Option.toList_some, Option.toList_none, List.append_nil, List.cons_append, List.nil_append, nI_01, nI_11, vh_K_wI, vh_R_wI, vh_Z_wI, vh_wI_sI, vh_K_sI, vh_R_sI, vh_Z_sI, vh_sI_sI, vh_I_sI]
          have lf : leafP ρ O (sv_set P d (ba ρ d + 1024 - k)) := ⟨u, b3', qp⟩
          have eLS : LSn ρ O 0 (d + 1) (sv_set P d (ba ρ d + 1024 - k)) = [sv_set P d (ba ρ d + 1024 - k)] := if_pos lf
          rw [eLS] at eLC
          refine H1 (sv_set P d (ba ρ d + 1024 - k)) (LC (LSn ρ O 0 (d + 1)) (okP ρ O d) d (ba ρ d) P k) eLC f1 u b1 (fun j hj => b2 j (by omega)) (fun j hj => ?_) b3' b4 ?_
          · by_cases e : j = d
            · rw [e, sv_set_same]; omega
            · rw [sv_set_ne _ _ e]; exact vp j (by omega)
          · rw [← dn]
            show LC (LSn ρ O (npc ρ - 1 - d) (d + 1)) (okP ρ O d) d (ba ρ d) (sv_set P d (ba ρ d + 1024 - k)) (ba ρ d + 1024 - sv_set P d (ba ρ d + 1024 - k) d) ++ RMn ρ O (sv_set P d (ba ρ d + 1024 - k)) d = _
            rw [sv_set_same, show ba ρ d + 1024 - (ba ρ d + 1024 - k) = k by omega, show npc ρ - 1 - d = 0 by omega]
            rw [RMn_c (P' := P) (j := d) (by omega) (fun j hj => sv_set_ne _ _ (by omega))]
            rw [LC_c (F' := LSn ρ O 0 (d + 1)) (P' := P) (fun x => by rw [sv_set_set]) (fun x => by rw [sv_set_set])]
        · rw [if_pos (cb_0.mpr qp)]
          have nlf : ¬ leafP ρ O (sv_set P d (ba ρ d + 1024 - k)) := by
            rintro ⟨u', z1, z2⟩
            rw [b3'] at z1
            cases z1
            exact qp z2
          have eLS : LSn ρ O 0 (d + 1) (sv_set P d (ba ρ d + 1024 - k)) = [] := if_neg nlf
          rw [eLS, List.nil_append] at eLC
          rw [eLC] at H0 H1
          simp only [s_105_218]
          have hB1 : PB (vh_I (vh_sI h f1)) ρ := ⟨e17', fun j hj => (b1 142 (by decide) (by decide) j).trans (hB.2 j hj)⟩
          refine l_head (ρ := ρ) (p := ba ρ d + 1024 - k) hM1 hi hR1 hB1 hd (by rw [vh_I_sI, b2 d (by omega), sv_set_same]) ?_
          rw [vh_sI_sI, vh_I_sI]
          refine ih (by omega) P _ vp (fun x x1 x2 j => ?_) (fun j hj => ?_) (up2_s _ _ _ _) H0 H1
          · rw [up2_a _ _ _ x2]; exact b1 x x1 x2 j
          · rw [up2_i _ _ _ _ (by omega), b2 j (by omega), sv_set_ne _ _ (by omega)]
  | succ e ihe =>
    intro d hde k
    have hd : d < npc ρ := by omega
    have hd1 : d + 1 < npc ρ := by omega
    have bb := ba_b hok hd
    have el : 1024 * ρ (11 + 4 * plx ρ d) + 1024 = ba ρ d + 1024 := rfl
    induction k with
    | zero =>
      intro _ P f0 vp a1 a2 a3 H0 H1
      simp only [s_105_93, s_105_95, s_105_98, s_105_100, s_105_101, s_105_104, va_rf_s, pk_mul, nI_add, not_false_eq_true, and_self, true_and, Option.toList_some, Option.toList_none, List.append_nil, List.cons_append, List.nil_append, nI_01, nI_11, vh_K_wI, vh_R_wI, vh_Z_wI, vh_wI_sI, vh_K_sI, vh_R_sI, vh_Z_sI, vh_sI_sI, vh_I_sI, el, s_105_105]
      rw [if_pos (nI_le (by omega) (by omega))]
      simp only [s_105_142, s_105_144, s_105_147, s_105_149, s_105_150, s_105_153, va_rf_s, pk_mul, nI_add, not_false_eq_true, and_self, true_and, Option.toList_some, Option.toList_none, List.append_nil, List.cons_append, List.nil_append, nI_01, nI_11, vh_K_wI, vh_R_wI, vh_Z_wI, vh_wI_sI, vh_K_sI, vh_R_sI, vh_Z_sI, vh_sI_sI, vh_I_sI, el, s_105_154]
      rw [if_neg (fun z => z (by rw [Nat.sub_zero]))]
      simp only [s_105_157, s_105_160, s_105_218, dec_mI]
      exact H0 rfl f0 _ _ a1 a2
    | succ k ih =>
      intro hk P f0 vp a1 a2 a3 H0 H1
      have eLC : LC (LSn ρ O (e + 1) (d + 1)) (okP ρ O d) d (ba ρ d) P (k + 1) = (@ite (List (Nat → Nat)) (okP ρ O d (sv_set P d (ba ρ d + 1024 - k))) (Classical.propDecidable _) (LSn ρ O (e + 1) (d + 1) (sv_set P d (ba ρ d + 1024 - k))) []) ++ LC (LSn ρ O (e + 1) (d + 1)) (okP ρ O d) d (ba ρ d) P k := rfl
      refine l_scan hM' hi hR' hB hO hd (by omega) vp a1 a2 a3 (fun no f1 b1 b2 b3 => ?_) (fun yes u f1 b1 b2 b3 b4 => ?_)
      · rw [if_neg no, List.nil_append] at eLC
        rw [eLC] at H0 H1
        exact ih (by omega) P f1 vp b1 b2 b3 H0 H1
      · rw [if_pos yes] at eLC
        have e17' : f1 129 17 = nI (npc ρ) := (b1 129 (by decide) (by decide) 17).trans e17
        have hM1 : MZ (vh_sI h f1) := hM'
        have hR1 : MR (vh_I (vh_sI h f1)) i ρ := MR_c hR' (fun x x1 x2 j => b1 x (by omega) (by omega) j)
        have hB1 : PB (vh_I (vh_sI h f1)) ρ := ⟨e17', fun j hj => (b1 142 (by decide) (by decide) j).trans (hB.2 j hj)⟩
        have sub1 : nI (npc ρ) - nI 1 = nI (npc ρ - 1) := by
          have := nI_pred (npc ρ - 1)
          rw [show npc ρ - 1 + 1 = npc ρ by omega] at this
          exact this
        have eLS : LSn ρ O (e + 1) (d + 1) (sv_set P d (ba ρ d + 1024 - k)) = LC (LSn ρ O e (d + 2)) (okP ρ O (d + 1)) (d + 1) (ba ρ (d + 1)) (sv_set P d (ba ρ d + 1024 - k)) 1024 := rfl
        obtain ⟨o1, o2⟩ := plx_ok hd1
        obtain ⟨-, p2, -⟩ := hpp (plx ρ (d + 1)) o1
        have ew : wh (ρ (10 + 4 * plx ρ (d + 1))) (ρ (11 + 4 * plx ρ (d + 1))) = ρ (11 + 4 * plx ρ (d + 1)) := by unfold wh; rw [if_neg (by omega)]
        rw [ew] at p2
        have ep : f1 135 (20 * i + 4 * plx ρ (d + 1) + 1) = nI (ρ (11 + 4 * plx ρ (d + 1))) := (b1 135 (by decide) (by decide) _).trans p2
        have b1' : 20 * i + 4 * plx ρ (d + 1) + 1 < 320 := by omega
        have em : nI (1024 * ρ (11 + 4 * plx ρ (d + 1))) - nI 1 = mI (ba ρ (d + 1)) := by
          unfold mI ba
          by_cases z : 1024 * ρ (11 + 4 * plx ρ (d + 1)) = 0
          · rw [if_pos z, z]; decide
          · rw [if_neg z]
            have := nI_pred (1024 * ρ (11 + 4 * plx ρ (d + 1)) - 1)
            rw [show 1024 * ρ (11 + 4 * plx ρ (d + 1)) - 1 + 1 = 1024 * ρ (11 + 4 * plx ρ (d + 1)) by omega] at this
            exact this
        have e142 : f1 142 (d + 1) = nI (plx ρ (d + 1)) := (b1 142 (by decide) (by decide) _).trans (hB.2 _ hd1)
        have vp1 : VP ρ (sv_set P d (ba ρ d + 1024 - k)) (d + 1) := by
          intro j hj
          by_cases e : j = d
          · rw [e, sv_set_same]; omega
          · rw [sv_set_ne _ _ e]; exact vp j (by omega)
        simp only [s_105_163, s_105_164, s_105_165, s_105_168, s_105_169, mk, mr0, mk0, mz0, mr1, mk1, mz1, mr2, mk2, mz2, mr3, mk3, mz3, mr4, mk4, mz4, mr5, mk5, mz5, mr6, mk6, mz6, mr7, mk7, mz7, mr8, mk8, mz8, mr9, mk9, mz9, mr10, mk10, mz10, mr11, mk11, mz11, mr12, mk12, mz12, mr13, mk13, mz13, mr14, mk14, mz14, mr15, mk15, mz15, mr16, mk16, mz16, mr17, mk17, mz17, mr18, mk18, mz18, va_rf_s, pk_mul, nI_add, not_false_eq_true, and_self, true_and, Option.toList_some, Option.toList_none, List.append_nil, List.cons_append, List.nil_append, nI_01, nI_11, vh_K_wI, vh_R_wI, vh_Z_wI, vh_wI_sI, vh_K_sI, vh_R_sI, vh_Z_sI, vh_sI_sI, vh_I_sI, e17', sub1, s_105_170]
        rw [if_pos (fun z => by have := (nI_eq (by omega) (by omega)).mp z; omega)]
        simp only [s_105_183, s_105_186, s_105_187, s_105_190, s_105_191, s_105_194, s_105_195, s_105_198, s_105_200, s_105_201, s_105_202, s_105_203, s_105_204, s_105_207, s_105_208, s_105_209, s_105_210, s_105_211, s_105_212, s_105_213, s_105_214, s_105_215, s_105_216, s_105_217, mk, mr0, mk0, mz0, mr1, mk1, mz1, mr2, mk2, mz2, mr3, mk3, mz3, mr4, mk4, mz4, mr5, mk5, mz5, mr6, mk6, mz6, mr7, mk7, mz7, mr8, mk8, mz8, mr9, mk9, mz9, mr10, mk10, mz10, mr11, mk11, mz11, mr12, mk12, mz12, mr13, mk13, mz13, mr14, mk14, mz14, mr15, mk15, mz15, mr16, mk16, mz16, mr17, mk17, mz17, mr18, mk18, mz18, va_rf_s, pk_mul, nI_add, not_false_eq_true, and_self, true_and, Option.toList_some, Option.toList_none, List.append_nil, List.cons_append, List.nil_append, nI_01, nI_11, vh_K_wI, vh_R_wI, vh_Z_wI, vh_wI_sI, vh_K_sI, vh_R_sI, vh_Z_sI, vh_sI_sI, vh_I_sI, cl (show d + 1 < 2 ^ 31 by omega), ib (show d + 1 < 5 by omega) (show 5 ≤ 2 ^ 31 by omega), e142, cl (show 20 * i + 4 * plx ρ (d + 1) + 1 < 2 ^ 31 by omega), ib b1' (show 320 ≤ 2 ^ 31 by omega), ep, em]
        simp only [s_105_218]
        generalize hf2 : up2 f1 143 (d + 1) (mI (ba ρ (d + 1))) = f2
        have c1 : ∀ x, x ≠ 141 → x ≠ 143 → ∀ j, f2 x j = vh_I h x j := fun x x1 x2 j => by rw [← hf2, up2_a _ _ _ x2]; exact b1 x x1 x2 j
        have c2 : ∀ j, j < d + 1 → f2 143 j = mI (sv_set P d (ba ρ d + 1024 - k) j) := fun j hj => by rw [← hf2, up2_i _ _ _ _ (by omega)]; exact b2 j hj
        have c3 : f2 143 (d + 1) = mI (ba ρ (d + 1)) := by rw [← hf2, up2_s]
        have hM2 : MZ (vh_sI h f2) := hM'
        have hR2 : MR (vh_I (vh_sI h f2)) i ρ := MR_c hR' (fun x x1 x2 j => c1 x (by omega) (by omega) j)
        have hB2 : PB (vh_I (vh_sI h f2)) ρ := ⟨(c1 129 (by decide) (by decide) 17).trans e17, fun j hj => (c1 142 (by decide) (by decide) j).trans (hB.2 j hj)⟩
        refine l_head (ρ := ρ) (d := d + 1) (p := ba ρ (d + 1)) hM2 hi hR2 hB2 hd1 c3 ?_
        rw [vh_sI_sI, vh_I_sI]
        have go := ihe (d + 1) (by omega) 1024 (Nat.le_refl _) (sv_set P d (ba ρ d + 1024 - k)) (up2 f2 143 (d + 1) (nI (ba ρ (d + 1)))) vp1 (fun x x1 x2 j => by rw [up2_a _ _ _ x2]; exact c1 x x1 x2 j) (fun j hj => by rw [up2_i _ _ _ _ (by omega)]; exact c2 j hj) (by rw [up2_s, Nat.add_sub_cancel])
          (fun hz f3 y4 y5 g1 g2 => ?_) (fun t l' hz f3 u' g1 g2 g3 g4 g5 g6 => ?_)
        · rw [Nat.add_sub_cancel] at go
          exact go
        · rw [eLS, hz, List.nil_append] at eLC
          rw [eLC] at H0 H1
          have hM3 : MZ (vh_sI h f3) := hM'
          have hR3 : MR (vh_I (vh_sI h f3)) i ρ := MR_c hR' (fun x x1 x2 j => g1 x (by omega) (by omega) j)
          have hB3 : PB (vh_I (vh_sI h f3)) ρ := ⟨(g1 129 (by decide) (by decide) 17).trans e17, fun j hj => (g1 142 (by decide) (by decide) j).trans (hB.2 j hj)⟩
          rw [mI_s]
          refine l_head (ρ := ρ) (p := ba ρ d + 1024 - k) hM3 hi hR3 hB3 hd (by rw [vh_I_sI, g2 d (by omega), sv_set_same]) ?_
          rw [vh_sI_sI, vh_I_sI]
          refine ih (by omega) P _ vp (fun x x1 x2 j => ?_) (fun j hj => ?_) (up2_s _ _ _ _) H0 H1
          · rw [up2_a _ _ _ x2]; exact g1 x x1 x2 j
          · rw [up2_i _ _ _ _ (by omega), g2 j (by omega), sv_set_ne _ _ (by omega)]
        · rw [eLS, hz] at eLC
          refine H1 t (l' ++ LC (LSn ρ O (e + 1) (d + 1)) (okP ρ O d) d (ba ρ d) P k) eLC f3 u' g1 g2 g3 g4 g5 ?_
          rw [g6, List.append_assoc]
          congr 1
          show LC (LSn ρ O (npc ρ - 1 - d) (d + 1)) (okP ρ O d) d (ba ρ d) (sv_set P d (ba ρ d + 1024 - k)) (ba ρ d + 1024 - sv_set P d (ba ρ d + 1024 - k) d) ++ RMn ρ O (sv_set P d (ba ρ d + 1024 - k)) d = _
          rw [sv_set_same, show ba ρ d + 1024 - (ba ρ d + 1024 - k) = k by omega, show npc ρ - 1 - d = e + 1 by omega]
          rw [RMn_c (P' := P) (j := d) (by omega) (fun j hj => sv_set_ne _ _ (by omega))]
          rw [LC_c (F' := LSn ρ O (e + 1) (d + 1)) (P' := P) (fun x => by rw [sv_set_set]) (fun x => by rw [sv_set_set])]
theorem l_back {i : Nat} {ρ : Nat → Nat} {O : Nat → Bool} {fs : Value} {h : vt_H} {Q : vt_Q} (hM : MZ h) (hi : i < 16) (hR : MR (vh_I h) i ρ) (hsf : sf ρ) (hB : PB (vh_I h) ρ) (hO : ∀ c, c < 16384 → (OL (vh_I h) c ↔ O c = true)) :
    ∀ (j : Nat), j ≤ npc ρ → ∀ (P : Nat → Nat) (f0 : Nat → Nat → Int32) y4 y5, (∀ k, k < j → ba ρ k ≤ P k ∧ P k ≤ ba ρ k + 1024 ∧ (k + 1 < j → ba ρ k < P k)) → (∀ x, x ≠ 141 → x ≠ 143 → ∀ j, f0 x j = vh_I h x j) → (∀ k, k < j → f0 143 k = mI (P k)) →
      (RMn ρ O P j = [] → ∀ f', (∀ x, x ≠ 141 → x ≠ 143 → ∀ j, f' x j = vh_I h x j) → Q (some (.int (nI 0))) (vh_sI h f')) →
      (∀ t l', RMn ρ O P j = t :: l' → ∀ f' u, (∀ x, x ≠ 141 → x ≠ 143 → ∀ j, f' x j = vh_I h x j) → (∀ k, k < npc ρ → f' 143 k = mI (t k)) → VP ρ t (npc ρ) → TL ρ (plx ρ) (fun k => t k - 1) (npc ρ) = some u → (∀ v, v < 6 → f' 141 v = vI (u v)) → RMn ρ O t (npc ρ) = l' → Q (some (.int (nI 1))) (vh_sI h f')) →
      Wp 105 49 [.ref 129, .int (nI i), fs, .int (mI j), y4, y5] [] (vh_sI h f0) Q := by
  intro j
  induction j with
  | zero =>
    intro _ P f0 y4 y5 a1 a2 a3 H0 H1
    simp only [s_105_49, s_105_50]
    rw [if_pos (by decide)]
    simp only [s_105_221, s_105_222, va_rf_s, pk_mul, nI_add, not_false_eq_true, and_self, true_and, Option.toList_some, Option.toList_none, List.append_nil, List.cons_append, List.nil_append, nI_01, nI_11, vh_K_wI, vh_R_wI, vh_Z_wI, vh_wI_sI, vh_K_sI, vh_R_sI, vh_Z_sI, vh_sI_sI, vh_I_sI]
    exact H0 rfl f0 a2
  | succ j ih =>
    intro hj P f0 y4 y5 a1 a2 a3 H0 H1
    have hd : j < npc ρ := by omega
    have hM0 : MZ (vh_sI h f0) := hM
    have hR0 : MR (vh_I (vh_sI h f0)) i ρ := MR_c hR (fun x x1 x2 j => a2 x (by omega) (by omega) j)
    have hB0 : PB (vh_I (vh_sI h f0)) ρ := ⟨(a2 129 (by decide) (by decide) 17).trans hB.1, fun d hd => (a2 142 (by decide) (by decide) d).trans (hB.2 d hd)⟩
    have pj := a1 j (by omega)
    have eR : RMn ρ O P (j + 1) = LC (LSn ρ O (npc ρ - 1 - j) (j + 1)) (okP ρ O j) j (ba ρ j) P (ba ρ j + 1024 - P j) ++ RMn ρ O P j := rfl
    rw [mI_s]
    refine l_head (ρ := ρ) (p := P j) hM0 hi hR0 hB0 hd (a3 j (by omega)) ?_
    rw [vh_sI_sI, vh_I_sI]
    have go := l_next (fs := fs) (Q := Q) (O := O) hM hi hR hsf hB hO (npc ρ - 1 - j) j (by omega) (ba ρ j + 1024 - P j) (by omega) P (up2 f0 143 j (nI (P j))) (fun k hk => ⟨(a1 k (by omega)).2.2 (by omega), (a1 k (by omega)).2.1⟩) (fun x x1 x2 jj => by rw [up2_a _ _ _ x2]; exact a2 x x1 x2 jj) (fun k hk => by rw [up2_i _ _ _ _ (by omega)]; exact a3 k (by omega)) (by rw [up2_s]; congr 1; omega) (fun hz f1 y4 y5 g1 g2 => ?_) (fun t l' hz f1 u g1 g2 g3 g4 g5 g6 => ?_)
    · rw [show ba ρ j + 1024 - (ba ρ j + 1024 - P j) = P j by omega] at go
      exact go
    · rw [hz, List.nil_append] at eR
      rw [eR] at H0 H1
      exact ih (by omega) P f1 _ _ (fun k hk => ⟨(a1 k (by omega)).1, (a1 k (by omega)).2.1, fun _ => (a1 k (by omega)).2.2 (by omega)⟩) g1 g2 H0 H1
    · rw [hz] at eR
      exact H1 t (l' ++ RMn ρ O P j) eR f1 u g1 g2 g3 g4 g5 g6
/-- the next tuple -/
theorem m_nextF {i : Nat} {ρ : Nat → Nat} {O : Nat → Bool} {P : Nat → Nat} {h : vt_H} {Q : vt_Q} (hM : MZ h) (hi : i < 16) (hR : MR (vh_I h) i ρ) (hsf : sf ρ) (hB : PB (vh_I h) ρ) (hO : ∀ c, c < 16384 → (OL (vh_I h) c ↔ O c = true)) (h0 : 0 < npc ρ) (hV : VP ρ P (npc ρ)) (hP : ∀ k, k < npc ρ → vh_I h 143 k = mI (P k))
    (H0 : RMn ρ O P (npc ρ) = [] → ∀ f', (∀ x, x ≠ 141 → x ≠ 143 → ∀ j, f' x j = vh_I h x j) → Q (some (.int (nI 0))) (vh_sI h f'))
    (H1 : ∀ t l', RMn ρ O P (npc ρ) = t :: l' → ∀ f' u, (∀ x, x ≠ 141 → x ≠ 143 → ∀ j, f' x j = vh_I h x j) → (∀ k, k < npc ρ → f' 143 k = mI (t k)) → VP ρ t (npc ρ) → TL ρ (plx ρ) (fun k => t k - 1) (npc ρ) = some u → (∀ v, v < 6 → f' 141 v = vI (u v)) → RMn ρ O t (npc ρ) = l' → Q (some (.int (nI 1))) (vh_sI h f')) :
    Wp 105 0 [.ref 129, .int (nI i), .int (nI 0), vt_un, vt_un, vt_un] [] h Q := by
  have hM' := hM
  obtain ⟨mk, ⟨mr0, mk0, mz0⟩, ⟨mr1, mk1, mz1⟩, ⟨mr2, mk2, mz2⟩, ⟨mr3, mk3, mz3⟩, ⟨mr4, mk4, mz4⟩, ⟨mr5, mk5, mz5⟩, ⟨mr6, mk6, mz6⟩, ⟨mr7, mk7, mz7⟩, ⟨mr8, mk8, mz8⟩, ⟨mr9, mk9, mz9⟩, ⟨mr10, mk10, mz10⟩, ⟨mr11, mk11, mz11⟩, ⟨mr12, mk12, mz12⟩, ⟨mr13, mk13, mz13⟩, ⟨mr14, mk14, mz14⟩, ⟨mr15, mk15, mz15⟩, ⟨mr16, mk16, mz16⟩, ⟨mr17, mk17, mz17⟩, ⟨mr18, mk18, mz18⟩⟩ := hM
  have e17 := hB.1
  have n5 : npc ρ ≤ 5 := Nat.le_trans (pls_len (ρ 5)) hR.1.1.2.2.2.1
  have sub1 : nI (npc ρ) - nI 1 = mI (npc ρ) := by
    rw [mI_p h0]
    have := nI_pred (npc ρ - 1)
    rw [show npc ρ - 1 + 1 = npc ρ by omega] at this
    exact this
  simp only [s_105_0, s_105_1, s_105_4, mk, mr0, mk0, mz0, mr1, mk1, mz1, mr2, mk2, mz2, mr3, mk3, mz3, mr4, mk4, mz4, mr5, mk5, mz5, mr6, mk6, mz6, mr7, mk7, mz7, mr8, mk8, mz8, mr9, mk9, mz9, mr10, mk10, mz10, mr11, mk11, mz11, mr12, mk12, mz12, mr13, mk13, mz13, mr14, mk14, mz14, mr15, mk15, mz15, mr16, mk16, mz16, mr17, mk17, mz17, mr18, mk18, mz18, va_rf_s, pk_mul, nI_add, not_false_eq_true, and_self, true_and, Option.toList_some, Option.toList_none, List.append_nil, List.cons_append, List.nil_append, nI_01, nI_11, vh_K_wI, vh_R_wI, vh_Z_wI, vh_wI_sI, vh_K_sI, vh_R_sI, vh_Z_sI, vh_sI_sI, vh_I_sI, e17]
  rw [if_pos (fun z => by have := (nI_0i (by omega)).mp z; omega)]
  simp only [s_105_34, s_105_35]
  rw [if_pos nI_00]
  simp only [s_105_42, s_105_43, s_105_46, s_105_47, s_105_48, mk, mr0, mk0, mz0, mr1, mk1, mz1, mr2, mk2, mz2, mr3, mk3, mz3, mr4, mk4, mz4, mr5, mk5, mz5, mr6, mk6, mz6, mr7, mk7, mz7, mr8, mk8, mz8, mr9, mk9, mz9, mr10, mk10, mz10, mr11, mk11, mz11, mr12, mk12, mz12, mr13, mk13, mz13, mr14, mk14, mz14, mr15, mk15, mz15, mr16, mk16, mz16, mr17, mk17, mz17, mr18, mk18, mz18, va_rf_s, pk_mul, nI_add, not_false_eq_true, and_self, true_and, Option.toList_some, Option.toList_none, List.append_nil, List.cons_append, List.nil_append, nI_01, nI_11, vh_K_wI, vh_R_wI, vh_Z_wI, vh_wI_sI, vh_K_sI, vh_R_sI, vh_Z_sI, vh_sI_sI, vh_I_sI, e17, sub1]
  have l := l_back (fs := .int (nI 0)) (Q := Q) (O := O) hM' hi hR hsf hB hO (npc ρ) (Nat.le_refl _) P (vh_I h) vt_un vt_un (fun k hk => ⟨by have := (hV k hk).1; omega, (hV k hk).2, fun _ => (hV k hk).1⟩) (fun _ _ _ _ => rfl) hP H0 H1
  rw [vh_sI_id] at l
  exact l
/-- the first tuple -/
theorem m_nextT {i : Nat} {ρ : Nat → Nat} {O : Nat → Bool} {P : Nat → Nat} {h : vt_H} {Q : vt_Q} (hM : MZ h) (hi : i < 16) (hR : MR (vh_I h) i ρ) (hsf : sf ρ) (hB : PB (vh_I h) ρ) (hO : ∀ c, c < 16384 → (OL (vh_I h) c ↔ O c = true)) (hP : 0 < npc ρ → vh_I h 143 0 = mI (ba ρ 0))
    (H0 : LSn ρ O (npc ρ) 0 P = [] → ∀ f', (∀ x, x ≠ 141 → x ≠ 143 → ∀ j, f' x j = vh_I h x j) → Q (some (.int (nI 0))) (vh_sI h f'))
    (H1 : ∀ t l', LSn ρ O (npc ρ) 0 P = t :: l' → ∀ f' u, (∀ x, x ≠ 141 → x ≠ 143 → ∀ j, f' x j = vh_I h x j) → (∀ k, k < npc ρ → f' 143 k = mI (t k)) → VP ρ t (npc ρ) → TL ρ (plx ρ) (fun k => t k - 1) (npc ρ) = some u → (∀ v, v < 6 → f' 141 v = vI (u v)) → RMn ρ O t (npc ρ) = l' → Q (some (.int (nI 1))) (vh_sI h f')) :
    Wp 105 0 [.ref 129, .int (nI i), .int (nI 1), vt_un, vt_un, vt_un] [] h Q := by
  have hM' := hM
  obtain ⟨mk, ⟨mr0, mk0, mz0⟩, ⟨mr1, mk1, mz1⟩, ⟨mr2, mk2, mz2⟩, ⟨mr3, mk3, mz3⟩, ⟨mr4, mk4, mz4⟩, ⟨mr5, mk5, mz5⟩, ⟨mr6, mk6, mz6⟩, ⟨mr7, mk7, mz7⟩, ⟨mr8, mk8, mz8⟩, ⟨mr9, mk9, mz9⟩, ⟨mr10, mk10, mz10⟩, ⟨mr11, mk11, mz11⟩, ⟨mr12, mk12, mz12⟩, ⟨mr13, mk13, mz13⟩, ⟨mr14, mk14, mz14⟩, ⟨mr15, mk15, mz15⟩, ⟨mr16, mk16, mz16⟩, ⟨mr17, mk17, mz17⟩, ⟨mr18, mk18, mz18⟩⟩ := hM
  have e17 := hB.1
  have n5 : npc ρ ≤ 5 := Nat.le_trans (pls_len (ρ 5)) hR.1.1.2.2.2.1
  simp only [s_105_0, s_105_1, s_105_4, mk, mr0, mk0, mz0, mr1, mk1, mz1, mr2, mk2, mz2, mr3, mk3, mz3, mr4, mk4, mz4, mr5, mk5, mz5, mr6, mk6, mz6, mr7, mk7, mz7, mr8, mk8, mz8, mr9, mk9, mz9, mr10, mk10, mz10, mr11, mk11, mz11, mr12, mk12, mz12, mr13, mk13, mz13, mr14, mk14, mz14, mr15, mk15, mz15, mr16, mk16, mz16, mr17, mk17, mz17, mr18, mk18, mz18, va_rf_s, pk_mul, nI_add, not_false_eq_true, and_self, true_and, Option.toList_some, Option.toList_none, List.append_nil, List.cons_append, List.nil_append, nI_01, nI_11, vh_K_wI, vh_R_wI, vh_Z_wI, vh_wI_sI, vh_K_sI, vh_R_sI, vh_Z_sI, vh_sI_sI, vh_I_sI, e17]
  by_cases q : npc ρ = 0
  · rw [if_neg (fun z => z (by rw [q]; rfl))]
    simp only [s_105_7, s_105_8]
    rw [if_neg nI_10]
    simp only [s_105_11, s_105_12, s_105_13, s_105_14, mk, mr0, mk0, mz0, mr1, mk1, mz1, mr2, mk2, mz2, mr3, mk3, mz3, mr4, mk4, mz4, mr5, mk5, mz5, mr6, mk6, mz6, mr7, mk7, mz7, mr8, mk8, mz8, mr9, mk9, mz9, mr10, mk10, mz10, mr11, mk11, mz11, mr12, mk12, mz12, mr13, mk13, mz13, mr14, mk14, mz14, mr15, mk15, mz15, mr16, mk16, mz16, mr17, mk17, mz17, mr18, mk18, mz18, va_rf_s, pk_mul, nI_add, not_false_eq_true, and_self, true_and, Option.toList_some, Option.toList_none, List.append_nil, List.cons_append, List.nil_append, nI_01, nI_11, vh_K_wI, vh_R_wI, vh_Z_wI, vh_wI_sI, vh_K_sI, vh_R_sI, vh_Z_sI, vh_sI_sI, vh_I_sI]
    rw [q] at H0 H1
    refine m_tell (n := 0) (pl := plx ρ) (cd := fun k => P k - 1) hM' hi hR (by omega) (fun k hk => absurd hk (by omega)) (fun k hk => absurd hk (by omega)) (fun f1 _ z => by cases z) (fun f1 u z1 z2 z3 => ?_)
    have z2' : TL ρ (plx ρ) (fun k => P k - 1) (npc ρ) = some u := by rw [q]; exact z2
    have hM1 : MZ (vh_sI h f1) := hM'
    have hR1 : MR (vh_I (vh_sI h f1)) i ρ := MR_c hR (fun x x1 x2 j => z1 x (by omega) j)
    have hO1 : ∀ c, c < 16384 → (OL (vh_I (vh_sI h f1)) c ↔ O c = true) := fun c hc => by
      rw [← hO c hc]
      unfold OL
      rw [vh_I_sI, z1 136 (by decide), z1 129 (by decide), z1 144 (by decide)]
    simp only [va_rf_s, pk_mul, nI_add, not_false_eq_true, and_self, true_and, Option.toList_some, Option.toList_none, List.append_nil, List.cons_append, List.nil_append, nI_01, nI_11, vh_K_wI, vh_R_wI, vh_Z_wI, vh_wI_sI, vh_K_sI, vh_R_sI, vh_Z_sI, vh_sI_sI, vh_I_sI]
    simp only [s_105_17]
    rw [if_neg nI_10]
    simp only [s_105_20, s_105_21, s_105_22, mk, mr0, mk0, mz0, mr1, mk1, mz1, mr2, mk2, mz2, mr3, mk3, mz3, mr4, mk4, mz4, mr5, mk5, mz5, mr6, mk6, mz6, mr7, mk7, mz7, mr8, mk8, mz8, mr9, mk9, mz9, mr10, mk10, mz10, mr11, mk11, mz11, mr12, mk12, mz12, mr13, mk13, mz13, mr14, mk14, mz14, mr15, mk15, mz15, mr16, mk16, mz16, mr17, mk17, mz17, mr18, mk18, mz18, va_rf_s, pk_mul, nI_add, not_false_eq_true, and_self, true_and, Option.toList_some, Option.toList_none, List.append_nil, List.cons_append, List.nil_append, nI_01, nI_11, vh_K_wI, vh_R_wI, vh_Z_wI, vh_wI_sI, vh_K_sI, vh_R_sI, vh_Z_sI, vh_sI_sI, vh_I_sI, m_pass (h := vh_sI h f1) (ρ := ρ) (u := u) (O := O) _ hM1 hi hR1 z3 (TL_safe hsf hR.1 z2') hO1]
    simp only [s_105_25]
    by_cases qp : npl (fun n a b => O (1024 * n + 32 * a + b)) ρ (ρ 5) u
    · rw [if_neg (fun z => cb_0.mp z qp)]
      simp only [s_105_28, s_105_29, s_105_33, va_rf_s, pk_mul, nI_add, not_false_eq_true, and_self, true_and, Option.toList_some, Option.toList_none, List.append_nil, List.cons_append, List.nil_append, nI_01, nI_11, vh_K_wI, vh_R_wI, vh_Z_wI, vh_wI_sI, vh_K_sI, vh_R_sI, vh_Z_sI, vh_sI_sI, vh_I_sI]
      have eL : LSn ρ O 0 0 P = [P] := if_pos ⟨u, z2', qp⟩
      exact H1 P [] eL f1 u (fun x x1 _ j => z1 x x1 j) (fun k hk => absurd hk (by omega)) (fun k hk => absurd hk (by omega)) z2 z3 rfl
    · rw [if_pos (cb_0.mpr qp)]
      simp only [s_105_32, s_105_33, va_rf_s, pk_mul, nI_add, not_false_eq_true, and_self, true_and, Option.toList_some, Option.toList_none, List.append_nil, List.cons_append, List.nil_append, nI_01, nI_11, vh_K_wI, vh_R_wI, vh_Z_wI, vh_wI_sI, vh_K_sI, vh_R_sI, vh_Z_sI, vh_sI_sI, vh_I_sI]
      refine H0 (if_neg ?_) f1 (fun x x1 _ j => z1 x x1 j)
      rintro ⟨u', w1, w2⟩
      rw [z2'] at w1
      cases w1
      exact qp w2
  · rw [if_pos (fun z => by have := (nI_0i (by omega)).mp z; omega)]
    simp only [s_105_34, s_105_35]
    rw [if_neg nI_10]
    simp only [s_105_38, s_105_39, s_105_48]
    have eR : RMn ρ O (sv_set P 0 (ba ρ 0)) 1 = LSn ρ O (npc ρ) 0 P := by
      show LC (LSn ρ O (npc ρ - 1 - 0) 1) (okP ρ O 0) 0 (ba ρ 0) (sv_set P 0 (ba ρ 0)) (ba ρ 0 + 1024 - sv_set P 0 (ba ρ 0) 0) ++ [] = _
      rw [List.append_nil, sv_set_same, show ba ρ 0 + 1024 - ba ρ 0 = 1024 by omega]
      have en : npc ρ = (npc ρ - 1) + 1 := by omega
      rw [en]
      show _ = LC (LSn ρ O (npc ρ - 1) 1) (okP ρ O 0) 0 (ba ρ 0) P 1024
      rw [show npc ρ - 1 + 1 - 1 - 0 = npc ρ - 1 by omega]
      exact LC_c (fun x => by rw [sv_set_set]) (fun x => by rw [sv_set_set]) 1024
    have l := l_back (fs := .int (nI 1)) (Q := Q) (O := O) hM' hi hR hsf hB hO 1 (by omega) (sv_set P 0 (ba ρ 0)) (vh_I h) vt_un vt_un (fun k hk => by rw [show k = 0 by omega, sv_set_same]; exact ⟨Nat.le_refl _, by omega, fun z => by omega⟩) (fun _ _ _ _ => rfl) (fun k hk => by rw [show k = 0 by omega, sv_set_same]; exact hP (by omega)) (by rw [eR]; exact H0) (by rw [eR]; exact H1)
    rw [vh_sI_id, show mI 1 = nI 0 from rfl] at l
    exact l

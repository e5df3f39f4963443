-- ===== drop and safe of the reference =====
theorem l_mheads {k : Nat} {h : vt_H} {Q : vt_Q} {f : Nat → Nat → Int32} {y1 : Value} (hM : MZ h) (hk : k < 15)
    (hQ : ∀ f', (∀ x, x ≠ 131 → ∀ p, f' x p = f x p) → (∀ p, f' 131 p = if 3 * k ≤ p ∧ p < 3 * k + 3 then f 131 (p + 3) else f 131 p) → ∀ y3, Wp 95 65 [.ref 129, y1, .int (nI k), y3] [] (vh_sI h f') Q) :
    ∀ (m j : Nat), j + m = 3 → ∀ g, (∀ x, x ≠ 131 → ∀ p, g x p = f x p) → (∀ p, g 131 p = if 3 * k ≤ p ∧ p < 3 * k + j then f 131 (p + 3) else f 131 p) → Wp 95 32 [.ref 129, y1, .int (nI k), .int (nI j)] [] (vh_sI h g) Q := by
  obtain ⟨mk, ⟨mr0, mk0, mz0⟩, ⟨mr1, mk1, mz1⟩, ⟨mr2, mk2, mz2⟩, ⟨mr3, mk3, mz3⟩, ⟨mr4, mk4, mz4⟩, ⟨mr5, mk5, mz5⟩, ⟨mr6, mk6, mz6⟩, ⟨mr7, mk7, mz7⟩, ⟨mr8, mk8, mz8⟩, ⟨mr9, mk9, mz9⟩, ⟨mr10, mk10, mz10⟩, ⟨mr11, mk11, mz11⟩, ⟨mr12, mk12, mz12⟩, ⟨mr13, mk13, mz13⟩, ⟨mr14, mk14, mz14⟩, ⟨mr15, mk15, mz15⟩, ⟨mr16, mk16, mz16⟩, ⟨mr17, mk17, mz17⟩, ⟨mr18, mk18, mz18⟩⟩ := hM
  intro m
  induction m with
  | zero =>
    intro j hj g a1 a2
    have : j = 3 := by omega
    subst this
    simp only [s_95_32, s_95_33, s_95_34, if_pos (nI_le (Nat.le_refl 3) (show 3 < 2 ^ 31 by omega))]
    exact hQ g a1 a2 _
  | succ m ih =>
    intro j hj g a1 a2
    have hlt : j < 3 := by omega
    have er : g 131 (3 * k + 3 + j) = f 131 (3 * k + 3 + j) := by rw [a2, if_neg (by omega)]
    simp only [s_95_32, s_95_33, s_95_34, if_neg (nI_ge hlt (show 3 < 2 ^ 31 by omega))]
    simp only [s_95_37, s_95_38, s_95_41, s_95_42, s_95_43, s_95_44, s_95_45, s_95_46, s_95_47, s_95_50, s_95_51, s_95_52, s_95_53, s_95_54, s_95_55, s_95_56, s_95_57, s_95_58, s_95_59, s_95_62, mk, mr0, mk0, mz0, mr1, mk1, mz1, mr2, mk2, mz2, mr3, mk3, mz3, mr4, mk4, mz4, mr5, mk5, mz5, mr6, mk6, mz6, mr7, mk7, mz7, mr8, mk8, mz8, mr9, mk9, mz9, mr10, mk10, mz10, mr11, mk11, mz11, mr12, mk12, mz12, mr13, mk13, mz13, mr14, mk14, mz14, mr15, mk15, mz15, mr16, mk16, mz16, mr17, mk17, mz17, mr18, mk18, mz18, va_rf_s, pk_mul, nI_add, not_false_eq_true, and_self, true_and, Option.toList_some, Option.toList_none, List.append_nil, List.cons_append, List.nil_append, nI_01, nI_11, vh_K_wI, vh_R_wI, vh_Z_wI, vh_wI_sI, vh_K_sI, vh_R_sI, vh_Z_sI, vh_sI_sI, vh_I_sI, cl (show 3 * k + j < 2 ^ 31 by omega), ib (show 3 * k + j < 48 by omega) (show 48 ≤ 2 ^ 31 by omega), cl (show 3 * k + 3 + j < 2 ^ 31 by omega), ib (show 3 * k + 3 + j < 48 by omega) (show 48 ≤ 2 ^ 31 by omega), er]
    refine ih (j + 1) (by omega) _ (fun x hx p => ?_) (fun p => ?_)
    · rw [up2_a _ _ _ hx]; exact a1 x hx p
    · by_cases w : p = 3 * k + j
      · rw [w, up2_s, if_pos (by omega), show 3 * k + j + 3 = 3 * k + 3 + j by omega]
      · rw [up2_i _ _ _ _ w, a2]
        by_cases w2 : 3 * k ≤ p ∧ p < 3 * k + j
        · rw [if_pos w2, if_pos (by omega)]
        · rw [if_neg w2, if_neg (by omega)]
theorem l_mparts {k : Nat} {h : vt_H} {Q : vt_Q} {f : Nat → Nat → Int32} {y1 : Value} (hM : MZ h) (hk : k < 15)
    (hQ : ∀ f', (∀ x, x ≠ 135 → ∀ p, f' x p = f x p) → (∀ p, f' 135 p = if 20 * k ≤ p ∧ p < 20 * k + 20 then f 135 (p + 20) else f 135 p) → ∀ y3, Wp 95 104 [.ref 129, y1, .int (nI k), y3] [] (vh_sI h f') Q) :
    ∀ (m j : Nat), j + m = 20 → ∀ g, (∀ x, x ≠ 135 → ∀ p, g x p = f x p) → (∀ p, g 135 p = if 20 * k ≤ p ∧ p < 20 * k + j then f 135 (p + 20) else f 135 p) → Wp 95 67 [.ref 129, y1, .int (nI k), .int (nI j)] [] (vh_sI h g) Q := by
  obtain ⟨mk, ⟨mr0, mk0, mz0⟩, ⟨mr1, mk1, mz1⟩, ⟨mr2, mk2, mz2⟩, ⟨mr3, mk3, mz3⟩, ⟨mr4, mk4, mz4⟩, ⟨mr5, mk5, mz5⟩, ⟨mr6, mk6, mz6⟩, ⟨mr7, mk7, mz7⟩, ⟨mr8, mk8, mz8⟩, ⟨mr9, mk9, mz9⟩, ⟨mr10, mk10, mz10⟩, ⟨mr11, mk11, mz11⟩, ⟨mr12, mk12, mz12⟩, ⟨mr13, mk13, mz13⟩, ⟨mr14, mk14, mz14⟩, ⟨mr15, mk15, mz15⟩, ⟨mr16, mk16, mz16⟩, ⟨mr17, mk17, mz17⟩, ⟨mr18, mk18, mz18⟩⟩ := hM
  intro m
  induction m with
  | zero =>
    intro j hj g a1 a2
    have : j = 20 := by omega
    subst this
    simp only [s_95_67, s_95_68, s_95_70, if_pos (nI_le (Nat.le_refl 20) (show 20 < 2 ^ 31 by omega))]
    exact hQ g a1 a2 _
  | succ m ih =>
    intro j hj g a1 a2
    have hlt : j < 20 := by omega
    have er : g 135 (20 * k + 20 + j) = f 135 (20 * k + 20 + j) := by rw [a2, if_neg (by omega)]
    simp only [s_95_67, s_95_68, s_95_70, if_neg (nI_ge hlt (show 20 < 2 ^ 31 by omega))]
    simp only [s_95_73, s_95_74, s_95_77, s_95_79, s_95_80, s_95_81, s_95_82, s_95_83, s_95_84, s_95_87, s_95_89, s_95_90, s_95_91, s_95_93, s_95_94, s_95_95, s_95_96, s_95_97, s_95_98, s_95_101, mk, mr0, mk0, mz0, mr1, mk1, mz1, mr2, mk2, mz2, mr3, mk3, mz3, mr4, mk4, mz4, mr5, mk5, mz5, mr6, mk6, mz6, mr7, mk7, mz7, mr8, mk8, mz8, mr9, mk9, mz9, mr10, mk10, mz10, mr11, mk11, mz11, mr12, mk12, mz12, mr13, mk13, mz13, mr14, mk14, mz14, mr15, mk15, mz15, mr16, mk16, mz16, mr17, mk17, mz17, mr18, mk18, mz18, va_rf_s, pk_mul, nI_add, not_false_eq_true, and_self, true_and, Option.toList_some, Option.toList_none, List.append_nil, List.cons_append, List.nil_append, nI_01, nI_11, vh_K_wI, vh_R_wI, vh_Z_wI, vh_wI_sI, vh_K_sI, vh_R_sI, vh_Z_sI, vh_sI_sI, vh_I_sI, cl (show 20 * k + j < 2 ^ 31 by omega), ib (show 20 * k + j < 320 by omega) (show 320 ≤ 2 ^ 31 by omega), cl (show 20 * k + 20 + j < 2 ^ 31 by omega), ib (show 20 * k + 20 + j < 320 by omega) (show 320 ≤ 2 ^ 31 by omega), er]
    refine ih (j + 1) (by omega) _ (fun x hx p => ?_) (fun p => ?_)
    · rw [up2_a _ _ _ hx]; exact a1 x hx p
    · by_cases w : p = 20 * k + j
      · rw [w, up2_s, if_pos (by omega), show 20 * k + j + 20 = 20 * k + 20 + j by omega]
      · rw [up2_i _ _ _ _ w, a2]
        by_cases w2 : 20 * k ≤ p ∧ p < 20 * k + j
        · rw [if_pos w2, if_pos (by omega)]
        · rw [if_neg w2, if_neg (by omega)]
/-- f is f0 with the rules from r to i moved down by one -/
def SHF (f0 f : Nat → Nat → Int32) (r i : Nat) : Prop := (∀ p, f 131 p = if 3 * r ≤ p ∧ p < 3 * i then f0 131 (p + 3) else f0 131 p) ∧ (∀ p, f 132 p = if r ≤ p ∧ p < i then f0 132 (p + 1) else f0 132 p) ∧ (∀ p, f 133 p = if r ≤ p ∧ p < i then f0 133 (p + 1) else f0 133 p) ∧ (∀ p, f 134 p = if r ≤ p ∧ p < i then f0 134 (p + 1) else f0 134 p) ∧ (∀ p, f 135 p = if 20 * r ≤ p ∧ p < 20 * i then f0 135 (p + 20) else f0 135 p) ∧ ∀ x, (x < 131 ∨ 135 < x) → ∀ p, f x p = f0 x p
theorem l_mdrop {r c : Nat} {h : vt_H} {Q : vt_Q} {f0 : Nat → Nat → Int32} (hM : MZ h) (hr : r < c) (hc : c ≤ 16) (h6 : f0 129 6 = nI (c - 1))
    (hQ : ∀ f', SHF f0 f' r (c - 1) → ∀ y2 y3, Wp 95 152 [.ref 129, .int (nI r), y2, y3] [] (vh_sI h f') Q) :
    ∀ (m i : Nat), i + m = c - 1 → r ≤ i → ∀ f y3, SHF f0 f r i → Wp 95 22 [.ref 129, .int (nI r), .int (nI i), y3] [] (vh_sI h f) Q := by
  have hM' := hM
  obtain ⟨mk, ⟨mr0, mk0, mz0⟩, ⟨mr1, mk1, mz1⟩, ⟨mr2, mk2, mz2⟩, ⟨mr3, mk3, mz3⟩, ⟨mr4, mk4, mz4⟩, ⟨mr5, mk5, mz5⟩, ⟨mr6, mk6, mz6⟩, ⟨mr7, mk7, mz7⟩, ⟨mr8, mk8, mz8⟩, ⟨mr9, mk9, mz9⟩, ⟨mr10, mk10, mz10⟩, ⟨mr11, mk11, mz11⟩, ⟨mr12, mk12, mz12⟩, ⟨mr13, mk13, mz13⟩, ⟨mr14, mk14, mz14⟩, ⟨mr15, mk15, mz15⟩, ⟨mr16, mk16, mz16⟩, ⟨mr17, mk17, mz17⟩, ⟨mr18, mk18, mz18⟩⟩ := hM
  intro m
  induction m with
  | zero =>
    intro i hi hri f y3 a
    have : i = c - 1 := by omega
    have e6 : f 129 6 = nI (c - 1) := (a.2.2.2.2.2 129 (by omega) 6).trans h6
    simp only [s_95_22, s_95_23, s_95_24, s_95_27, mk, mr0, mk0, mz0, mr1, mk1, mz1, mr2, mk2, mz2, mr3, mk3, mz3, mr4, mk4, mz4, mr5, mk5, mz5, mr6, mk6, mz6, mr7, mk7, mz7, mr8, mk8, mz8, mr9, mk9, mz9, mr10, mk10, mz10, mr11, mk11, mz11, mr12, mk12, mz12, mr13, mk13, mz13, mr14, mk14, mz14, mr15, mk15, mz15, mr16, mk16, mz16, mr17, mk17, mz17, mr18, mk18, mz18, va_rf_s, pk_mul, nI_add, not_false_eq_true, and_self, true_and, Option.toList_some, Option.toList_none, List.append_nil, List.cons_append, List.nil_append, nI_01, nI_11, vh_K_wI, vh_R_wI, vh_Z_wI, vh_wI_sI, vh_K_sI, vh_R_sI, vh_Z_sI, vh_sI_sI, vh_I_sI, e6, if_pos (nI_le (show c - 1 ≤ i by omega) (show i < 2 ^ 31 by omega))]
    exact hQ f (by rw [← this]; exact a) _ _
  | succ m ih =>
    intro i hi hri f y3 a
    obtain ⟨a1, a2, a3, a4, a5, a6⟩ := a
    have e6 : f 129 6 = nI (c - 1) := (a6 129 (by omega) 6).trans h6
    simp only [s_95_22, s_95_23, s_95_24, s_95_27, mk, mr0, mk0, mz0, mr1, mk1, mz1, mr2, mk2, mz2, mr3, mk3, mz3, mr4, mk4, mz4, mr5, mk5, mz5, mr6, mk6, mz6, mr7, mk7, mz7, mr8, mk8, mz8, mr9, mk9, mz9, mr10, mk10, mz10, mr11, mk11, mz11, mr12, mk12, mz12, mr13, mk13, mz13, mr14, mk14, mz14, mr15, mk15, mz15, mr16, mk16, mz16, mr17, mk17, mz17, mr18, mk18, mz18, va_rf_s, pk_mul, nI_add, not_false_eq_true, and_self, true_and, Option.toList_some, Option.toList_none, List.append_nil, List.cons_append, List.nil_append, nI_01, nI_11, vh_K_wI, vh_R_wI, vh_Z_wI, vh_wI_sI, vh_K_sI, vh_R_sI, vh_Z_sI, vh_sI_sI, vh_I_sI, e6, if_neg (nI_ge (show i < c - 1 by omega) (show c - 1 < 2 ^ 31 by omega))]
    simp only [s_95_30, s_95_31]
    refine l_mheads (Q := Q) (f := f) hM' (show i < 15 by omega) (fun f1 b1 b2 y3 => ?_) 3 0 (by omega) f (fun _ _ _ => rfl) (fun p => by rw [if_neg (by omega)])
    simp only [s_95_65, s_95_66]
    refine l_mparts (Q := Q) (f := f1) hM' (show i < 15 by omega) (fun f2 d1 d2 y3 => ?_) 20 0 (by omega) f1 (fun _ _ _ => rfl) (fun p => by rw [if_neg (by omega)])
    have g2 : ∀ p, f2 132 p = f 132 p := fun p => by rw [d1 132 (by decide), b1 132 (by decide)]
    have g3 : ∀ p, f2 133 p = f 133 p := fun p => by rw [d1 133 (by decide), b1 133 (by decide)]
    have g4 : ∀ p, f2 134 p = f 134 p := fun p => by rw [d1 134 (by decide), b1 134 (by decide)]
    have c31 : up2 f2 132 i (f2 132 (i + 1)) 133 (i + 1) = f2 133 (i + 1) := up2_a _ _ _ (by decide) _
    have c41 : ∀ v, up2 (up2 f2 132 i (f2 132 (i + 1))) 133 i v 134 (i + 1) = f2 134 (i + 1) := fun v => by rw [up2_a _ _ _ (by decide), up2_a _ _ _ (by decide)]
    simp only [s_95_104, s_95_105, s_95_108, s_95_109, s_95_110, s_95_113, s_95_114, s_95_115, s_95_116, s_95_117, s_95_118, s_95_119, s_95_122, s_95_123, s_95_124, s_95_127, s_95_128, s_95_129, s_95_130, s_95_131, s_95_132, s_95_133, s_95_136, s_95_137, s_95_138, s_95_141, s_95_142, s_95_143, s_95_144, s_95_145, s_95_146, s_95_149, mk, mr0, mk0, mz0, mr1, mk1, mz1, mr2, mk2, mz2, mr3, mk3, mz3, mr4, mk4, mz4, mr5, mk5, mz5, mr6, mk6, mz6, mr7, mk7, mz7, mr8, mk8, mz8, mr9, mk9, mz9, mr10, mk10, mz10, mr11, mk11, mz11, mr12, mk12, mz12, mr13, mk13, mz13, mr14, mk14, mz14, mr15, mk15, mz15, mr16, mk16, mz16, mr17, mk17, mz17, mr18, mk18, mz18, va_rf_s, pk_mul, nI_add, not_false_eq_true, and_self, true_and, Option.toList_some, Option.toList_none, List.append_nil, List.cons_append, List.nil_append, nI_01, nI_11, vh_K_wI, vh_R_wI, vh_Z_wI, vh_wI_sI, vh_K_sI, vh_R_sI, vh_Z_sI, vh_sI_sI, vh_I_sI, cl (show i < 2 ^ 31 by omega), ib (show i < 16 by omega) (show 16 ≤ 2 ^ 31 by omega), cl (show i + 1 < 2 ^ 31 by omega), ib (show i + 1 < 16 by omega) (show 16 ≤ 2 ^ 31 by omega), c31, c41]
    refine ih (i + 1) (by omega) (by omega) _ _ ⟨fun p => ?_, fun p => ?_, fun p => ?_, fun p => ?_, fun p => ?_, fun x hx p => ?_⟩
    · rw [up2_a _ _ _ (by decide), up2_a _ _ _ (by decide), up2_a _ _ _ (by decide), d1 131 (by decide), b2]
      by_cases w : 3 * i ≤ p ∧ p < 3 * i + 3
      · rw [if_pos w, if_pos (by omega), a1, if_neg (by omega)]
      · rw [if_neg w, a1]
        by_cases w2 : 3 * r ≤ p ∧ p < 3 * i
        · rw [if_pos w2, if_pos (by omega)]
        · rw [if_neg w2, if_neg (by omega)]
    · rw [up2_a _ _ _ (by decide), up2_a _ _ _ (by decide)]
      by_cases w : p = i
      · rw [w, up2_s, if_pos (by omega), g2, a2, if_neg (by omega)]
      · rw [up2_i _ _ _ _ w, g2, a2]
        by_cases w2 : r ≤ p ∧ p < i
        · rw [if_pos w2, if_pos (by omega)]
        · rw [if_neg w2, if_neg (by omega)]
    · rw [up2_a _ _ _ (by decide)]
      by_cases w : p = i
      · rw [w, up2_s, if_pos (by omega), g3, a3, if_neg (by omega)]
      · rw [up2_i _ _ _ _ w, up2_a _ _ _ (by decide), g3, a3]
        by_cases w2 : r ≤ p ∧ p < i
        · rw [if_pos w2, if_pos (by omega)]
        · rw [if_neg w2, if_neg (by omega)]
    · by_cases w : p = i
      · rw [w, up2_s, if_pos (by omega), g4, a4, if_neg (by omega)]
      · rw [up2_i _ _ _ _ w, up2_a _ _ _ (by decide), up2_a _ _ _ (by decide), g4, a4]
        by_cases w2 : r ≤ p ∧ p < i
        · rw [if_pos w2, if_pos (by omega)]
        · rw [if_neg w2, if_neg (by omega)]
    · rw [up2_a _ _ _ (by decide), up2_a _ _ _ (by decide), up2_a _ _ _ (by decide), d2, b1 135 (by decide), b1 135 (by decide)]
      by_cases w : 20 * i ≤ p ∧ p < 20 * i + 20
      · rw [if_pos w, if_pos (by omega), a5, if_neg (by omega)]
      · rw [if_neg w, a5]
        by_cases w2 : 20 * r ≤ p ∧ p < 20 * i
        · rw [if_pos w2, if_pos (by omega)]
        · rw [if_neg w2, if_neg (by omega)]
    · rw [up2_a _ _ _ (by omega), up2_a _ _ _ (by omega), up2_a _ _ _ (by omega), d1 x (by omega), b1 x (by omega)]
      exact a6 x hx p
theorem r_drop_bad {r : Int32} {c : Nat} {S : Nat → Nat → Nat → Bool} {h : vt_H} {Q : vt_Q} {ρs : Nat → Nat → Nat} (hM : MM h ρs c S) (hb : r < 0 ∨ nI c ≤ r) (hQ : Q (some (.int (-nI 1))) h) : Wp 95 0 [.ref 129, .int r, vt_un, vt_un] [] h Q := by
  have hE := hM.1.1
  have hcr := hM.2.1.2.1
  simp only [s_95_0, s_95_1, s_95_2, s_95_5, s_95_8, s_95_9, hE, true_and, m_isRule _ hE, va_rf_s, pk_mul, nI_add, not_false_eq_true, and_self, true_and, Option.toList_some, Option.toList_none, List.append_nil, List.cons_append, List.nil_append, nI_01, nI_11, vh_K_wI, vh_R_wI, vh_Z_wI, vh_wI_sI, vh_K_sI, vh_R_sI, vh_Z_sI, vh_sI_sI, vh_I_sI, jb_0, hcr]
  rw [if_neg (fun z => z (fun y => y hb))]
  exact hQ
theorem r_drop {r c : Nat} {S : Nat → Nat → Nat → Bool} {h : vt_H} {Q : vt_Q} {ρs : Nat → Nat → Nat} (hr : r < c) (hM : MM h ρs c S)
    (hQ : ∀ f', FO h f' → MM (vh_sI h f') (drop_r ρs r) (c - 1) S → Q (some (.int (nI (c - 1)))) (vh_sI h f')) : Wp 95 0 [.ref 129, .int (nI r), vt_un, vt_un] [] h Q := by
  obtain ⟨hZ, ⟨c16, hcr, hV⟩, hS, -⟩ := hM
  have hZ' := hZ
  obtain ⟨mk, ⟨mr0, mk0, mz0⟩, ⟨mr1, mk1, mz1⟩, ⟨mr2, mk2, mz2⟩, ⟨mr3, mk3, mz3⟩, ⟨mr4, mk4, mz4⟩, ⟨mr5, mk5, mz5⟩, ⟨mr6, mk6, mz6⟩, ⟨mr7, mk7, mz7⟩, ⟨mr8, mk8, mz8⟩, ⟨mr9, mk9, mz9⟩, ⟨mr10, mk10, mz10⟩, ⟨mr11, mk11, mz11⟩, ⟨mr12, mk12, mz12⟩, ⟨mr13, mk13, mz13⟩, ⟨mr14, mk14, mz14⟩, ⟨mr15, mk15, mz15⟩, ⟨mr16, mk16, mz16⟩, ⟨mr17, mk17, mz17⟩, ⟨mr18, mk18, mz18⟩⟩ := hZ
  have sub : nI c - nI 1 = nI (c - 1) := (by decide +kernel : ∀ c, c ≤ 16 → 1 ≤ c → nI c - nI 1 = nI (c - 1)) c c16 (by omega)
  simp only [s_95_0, s_95_1, s_95_2, s_95_5, mk, mr0, mk0, mz0, mr1, mk1, mz1, mr2, mk2, mz2, mr3, mk3, mz3, mr4, mk4, mz4, mr5, mk5, mz5, mr6, mk6, mz6, mr7, mk7, mz7, mr8, mk8, mz8, mr9, mk9, mz9, mr10, mk10, mz10, mr11, mk11, mz11, mr12, mk12, mz12, mr13, mk13, mz13, mr14, mk14, mz14, mr15, mk15, mz15, mr16, mk16, mz16, mr17, mk17, mz17, mr18, mk18, mz18, m_isRule _ mk, va_rf_s, pk_mul, nI_add, not_false_eq_true, and_self, true_and, Option.toList_some, Option.toList_none, List.append_nil, List.cons_append, List.nil_append, nI_01, nI_11, vh_K_wI, vh_R_wI, vh_Z_wI, vh_wI_sI, vh_K_sI, vh_R_sI, vh_Z_sI, vh_sI_sI, vh_I_sI, jb_0, hcr]
  rw [if_pos (fun z => z (fun y => y.elim (nI_pos (by omega)) (nI_ge hr (by omega))))]
  simp only [s_95_10, s_95_11, s_95_12, s_95_15, s_95_16, s_95_17, s_95_20, s_95_21, mk, mr0, mk0, mz0, mr1, mk1, mz1, mr2, mk2, mz2, mr3, mk3, mz3, mr4, mk4, mz4, mr5, mk5, mz5, mr6, mk6, mz6, mr7, mk7, mz7, mr8, mk8, mz8, mr9, mk9, mz9, mr10, mk10, mz10, mr11, mk11, mz11, mr12, mk12, mz12, mr13, mk13, mz13, mr14, mk14, mz14, mr15, mk15, mz15, mr16, mk16, mz16, mr17, mk17, mz17, mr18, mk18, mz18, va_rf_s, pk_mul, nI_add, not_false_eq_true, and_self, true_and, Option.toList_some, Option.toList_none, List.append_nil, List.cons_append, List.nil_append, nI_01, nI_11, vh_K_wI, vh_R_wI, vh_Z_wI, vh_wI_sI, vh_K_sI, vh_R_sI, vh_Z_sI, vh_sI_sI, vh_I_sI, hcr, sub]
  refine l_mdrop (Q := Q) (f0 := up2 (vh_I h) 129 6 (nI (c - 1))) hZ' hr c16 (up2_s _ _ _ _) (fun f1 a y2 y3 => ?_) (c - 1 - r) r (by omega) (Nat.le_refl _) _ _ ⟨fun p => by rw [if_neg (by omega)], fun p => by rw [if_neg (by omega)], fun p => by rw [if_neg (by omega)], fun p => by rw [if_neg (by omega)], fun p => by rw [if_neg (by omega)], fun _ _ _ => rfl⟩
  obtain ⟨a1, a2, a3, a4, a5, a6⟩ := a
  have e6 : ∀ v, up2 f1 129 7 v 129 6 = nI (c - 1) := fun v => by rw [up2_i _ _ _ _ (by decide), a6 129 (by omega), up2_s]
  simp only [s_95_152, s_95_153, s_95_154, s_95_157, s_95_158, s_95_161, mk, mr0, mk0, mz0, mr1, mk1, mz1, mr2, mk2, mz2, mr3, mk3, mz3, mr4, mk4, mz4, mr5, mk5, mz5, mr6, mk6, mz6, mr7, mk7, mz7, mr8, mk8, mz8, mr9, mk9, mz9, mr10, mk10, mz10, mr11, mk11, mz11, mr12, mk12, mz12, mr13, mk13, mz13, mr14, mk14, mz14, mr15, mk15, mz15, mr16, mk16, mz16, mr17, mk17, mz17, mr18, mk18, mz18, va_rf_s, pk_mul, nI_add, not_false_eq_true, and_self, true_and, Option.toList_some, Option.toList_none, List.append_nil, List.cons_append, List.nil_append, nI_01, nI_11, vh_K_wI, vh_R_wI, vh_Z_wI, vh_wI_sI, vh_K_sI, vh_R_sI, vh_Z_sI, vh_sI_sI, vh_I_sI, e6]
  refine hQ _ (fun x hx j => ?_) ⟨hZ', ⟨by omega, e6 (nI 0), fun i hi => ?_⟩, fun x hx => ?_, fun z => ?_⟩
  · rw [up2_a _ _ _ (by omega), a6 x (by omega), up2_a _ _ _ (by omega)]
  · rw [vh_I_sI]
    unfold drop_r
    by_cases w : i < r
    · rw [if_pos w]
      refine MR_mv (hV i (by omega)) (fun j hj => ?_) ?_ ?_ ?_ (fun j hj => ?_)
      · rw [up2_a _ _ _ (by decide), a1, if_neg (by omega), up2_a _ _ _ (by decide)]
      · rw [up2_a _ _ _ (by decide), a2, if_neg (by omega), up2_a _ _ _ (by decide)]
      · rw [up2_a _ _ _ (by decide), a3, if_neg (by omega), up2_a _ _ _ (by decide)]
      · rw [up2_a _ _ _ (by decide), a4, if_neg (by omega), up2_a _ _ _ (by decide)]
      · rw [up2_a _ _ _ (by decide), a5, if_neg (by omega), up2_a _ _ _ (by decide)]
    · rw [if_neg w]
      refine MR_mv (hV (i + 1) (by omega)) (fun j hj => ?_) ?_ ?_ ?_ (fun j hj => ?_)
      · rw [up2_a _ _ _ (by decide), a1, if_pos (by omega), up2_a _ _ _ (by decide), show 3 * i + j + 3 = 3 * (i + 1) + j by omega]
      · rw [up2_a _ _ _ (by decide), a2, if_pos (by omega), up2_a _ _ _ (by decide)]
      · rw [up2_a _ _ _ (by decide), a3, if_pos (by omega), up2_a _ _ _ (by decide)]
      · rw [up2_a _ _ _ (by decide), a4, if_pos (by omega), up2_a _ _ _ (by decide)]
      · rw [up2_a _ _ _ (by decide), a5, if_pos (by omega), up2_a _ _ _ (by decide), show 20 * i + j + 20 = 20 * (i + 1) + j by omega]
  · rw [vh_I_sI, up2_a _ _ _ (by decide), a6 130 (by omega), up2_a _ _ _ (by decide)]; exact hS x hx
  · rw [vh_I_sI, up2_s] at z
    exact absurd rfl z
theorem r_safe_bad {r : Int32} {c : Nat} {S : Nat → Nat → Nat → Bool} {h : vt_H} {Q : vt_Q} {ρs : Nat → Nat → Nat} (hM : MM h ρs c S) (hb : r < 0 ∨ nI c ≤ r) (hQ : Q (some (.int (-nI 1))) h) : Wp 96 0 [.ref 129, .int r] [] h Q := by
  have hE := hM.1.1
  have hcr := hM.2.1.2.1
  simp only [s_96_0, s_96_1, s_96_2, s_96_5, hE, true_and, m_isRule _ hE, va_rf_s, pk_mul, nI_add, not_false_eq_true, and_self, true_and, Option.toList_some, Option.toList_none, List.append_nil, List.cons_append, List.nil_append, nI_01, nI_11, vh_K_wI, vh_R_wI, vh_Z_wI, vh_wI_sI, vh_K_sI, vh_R_sI, vh_Z_sI, vh_sI_sI, vh_I_sI, jb_0, hcr]
  rw [if_pos (fun y => y hb)]
  simp only [s_96_24, s_96_25]
  exact hQ
theorem r_safe {r c : Nat} {S : Nat → Nat → Nat → Bool} {h : vt_H} {Q : vt_Q} {ρs : Nat → Nat → Nat} (hr : r < c) (hM : MM h ρs c S) (hQ : Q (some (.int (cb (sf (ρs r))))) h) : Wp 96 0 [.ref 129, .int (nI r)] [] h Q := by
  obtain ⟨hZ, ⟨c16, hcr, hV⟩, hS, -⟩ := hM
  have hE := hZ.1
  simp only [s_96_0, s_96_1, s_96_2, s_96_5, hE, true_and, m_isRule _ hE, va_rf_s, pk_mul, nI_add, not_false_eq_true, and_self, true_and, Option.toList_some, Option.toList_none, List.append_nil, List.cons_append, List.nil_append, nI_01, nI_11, vh_K_wI, vh_R_wI, vh_Z_wI, vh_wI_sI, vh_K_sI, vh_R_sI, vh_Z_sI, vh_sI_sI, vh_I_sI, jb_0, hcr]
  rw [if_neg (fun z => z (fun y => y.elim (nI_pos (by omega)) (nI_ge hr (by omega))))]
  simp only [s_96_8, s_96_9, s_96_10, s_96_13, hE, va_rf_s, pk_mul, nI_add, not_false_eq_true, and_self, true_and, Option.toList_some, Option.toList_none, List.append_nil, List.cons_append, List.nil_append, nI_01, nI_11, vh_K_wI, vh_R_wI, vh_Z_wI, vh_wI_sI, vh_K_sI, vh_R_sI, vh_Z_sI, vh_sI_sI, vh_I_sI, m_safe _ hZ (show r < 16 by omega) (hV r hr)]
  by_cases w : sf (ρs r)
  · rw [cb_t w] at hQ ⊢
    rw [if_neg (by decide)]
    simp only [s_96_16, s_96_17, s_96_25]
    exact hQ
  · rw [cb_f w] at hQ ⊢
    rw [if_pos (by decide)]
    simp only [s_96_20, s_96_21, s_96_25]
    exact hQ

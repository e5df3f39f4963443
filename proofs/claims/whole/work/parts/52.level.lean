-- ===== CASES of the class: a level, a variable fixed =====
/-- the object Cases 13 and its arrays 14 .. 23 -/
def CL (h : vt_H) : Prop := vh_K h 13 = 100 ∧ vh_R h 13 0 = some 14 ∧ vh_R h 13 1 = some 15 ∧ vh_R h 13 2 = some 16 ∧ vh_R h 13 3 = some 17 ∧ vh_R h 13 4 = some 18 ∧ vh_R h 13 5 = some 19 ∧ vh_R h 13 6 = some 20 ∧ vh_R h 13 7 = some 21 ∧ vh_R h 13 8 = some 22 ∧ vh_R h 13 9 = some 23 ∧ vh_K h 14 = 1 ∧ vh_K h 15 = 1 ∧ vh_K h 16 = 1 ∧ vh_K h 17 = 1 ∧ vh_K h 18 = 1 ∧ vh_K h 19 = 1 ∧ vh_K h 20 = 1 ∧ vh_K h 21 = 1 ∧ vh_K h 22 = 1 ∧ vh_K h 23 = 1 ∧ vh_Z h 14 = 1152 ∧ vh_Z h 15 = 6 ∧ vh_Z h 16 = 32 ∧ vh_Z h 17 = 32 ∧ vh_Z h 18 = 3 ∧ vh_Z h 19 = 3 ∧ vh_Z h 20 = 18 ∧ vh_Z h 21 = 576 ∧ vh_Z h 22 = 32 ∧ vh_Z h 23 = 32
/-- linked variables, and with which numbers -/
def EE (f : Nat → Nat → Int32) (u v : Nat) : Bool := bt (f 15 u) v
def AA (f : Nat → Nat → Int32) (u v n m : Nat) : Bool := bt (f 14 ((6 * u + v) * 32 + n)) m
/-- what level l says: the free variables, the factor of all, the weights -/
def LV (f : Nat → Nat → Int32) (l : Nat) (F : Nat → Bool) (T : Nat) (G : Nat → Nat → Nat) : Prop :=
  (∀ v, v < 6 → bt (f 18 l) v = F v) ∧ (∀ v, 6 ≤ v → v < 32 → bt (f 18 l) v = false) ∧
  (∀ v n, v < 6 → n < 32 → F v = true → (bt (f 20 (l * 6 + v)) n = true ↔ G v n ≠ 0)) ∧
  (¬ f 13 10 = 0 → f 19 l = nI T ∧ ∀ v n, v < 6 → n < 32 → F v = true → G v n ≠ 0 → f 21 ((l * 6 + v) * 32 + n) = nI (G v n)) ∧
  (∀ v n, v < 6 → F v = false → G v n = g0 n) ∧ T ≠ 0
/-- what work at level l leaves as it is -/
def LF (f f' : Nat → Nat → Int32) (l : Nat) : Prop := (∀ c, c < 18 ∨ 22 < c → ∀ j, f' c j = f c j) ∧ (∀ j, j < l → f' 18 j = f 18 j ∧ f' 19 j = f 19 j) ∧ (∀ j, j < l * 6 → f' 20 j = f 20 j) ∧ (∀ j, j < l * 192 → f' 21 j = f 21 j)
theorem LF_refl (f : Nat → Nat → Int32) (l : Nat) : LF f f l := ⟨fun _ _ _ => rfl, fun _ _ => ⟨rfl, rfl⟩, fun _ _ => rfl, fun _ _ => rfl⟩
theorem LF_trans {f g k : Nat → Nat → Int32} {l : Nat} (h1 : LF f g l) (h2 : LF g k l) : LF f k l := ⟨fun c hc j => (h2.1 c hc j).trans (h1.1 c hc j), fun j hj => ⟨((h2.2.1 j hj).1).trans (h1.2.1 j hj).1, ((h2.2.1 j hj).2).trans (h1.2.1 j hj).2⟩, fun j hj => (h2.2.2.1 j hj).trans (h1.2.2.1 j hj), fun j hj => (h2.2.2.2 j hj).trans (h1.2.2.2 j hj)⟩
theorem LF_EE {f g : Nat → Nat → Int32} {l : Nat} (h : LF f g l) : EE g = EE f := by
  funext u v
  unfold EE
  rw [h.1 15 (by omega)]
theorem LF_AA {f g : Nat → Nat → Int32} {l : Nat} (h : LF f g l) : AA g = AA f := by
  funext u v n m
  unfold AA
  rw [h.1 14 (by omega)]
theorem LF_up {f g : Nat → Nat → Int32} {l : Nat} (h : LF f g l) {a i : Nat} {x : Int32} (ha : (a = 18 ∧ l ≤ i) ∨ (a = 19 ∧ l ≤ i) ∨ (a = 20 ∧ l * 6 ≤ i) ∨ (a = 21 ∧ l * 192 ≤ i) ∨ a = 22) : LF f (up2 g a i x) l := by
  refine ⟨fun c hc j => ?_, fun j hj => ⟨?_, ?_⟩, fun j hj => ?_, fun j hj => ?_⟩
  · rw [up2_a _ _ _ (by omega)]; exact h.1 c hc j
  · unfold up2; rw [if_neg (by omega)]; exact (h.2.1 j hj).1
  · unfold up2; rw [if_neg (by omega)]; exact (h.2.1 j hj).2
  · unfold up2; rw [if_neg (by omega)]; exact h.2.2.1 j hj
  · unfold up2; rw [if_neg (by omega)]; exact h.2.2.2 j hj
/-- LV with one range narrowed -/
theorem LV_range {f : Nat → Nat → Int32} {l : Nat} {F : Nat → Bool} {T : Nat} {G G' : Nat → Nat → Nat} {u : Nat} {x : Int32} (h : LV f l F T G) (hu : u < 6) (hx : F u = true → ∀ m, m < 32 → (bt x m = true ↔ G' u m ≠ 0)) (he : ∀ m, m < 32 → G' u m ≠ 0 → G' u m = G u m) (ho : ∀ v n, v < 6 → v ≠ u → G' v n = G v n) (hz : F u = false → ∀ n, G' u n = g0 n) : LV (up2 f 20 (l * 6 + u) x) l F T G' := by
  obtain ⟨a1, a2, a3, a4, a5, a6⟩ := h
  refine ⟨fun v hv => ?_, fun v h1 h2 => ?_, fun v n hv hn hF => ?_, fun hc => ⟨?_, fun v n hv hn hF hG => ?_⟩, fun v n hv hF => ?_, a6⟩
  · rw [up2_a _ _ _ (by decide)]; exact a1 v hv
  · rw [up2_a _ _ _ (by decide)]; exact a2 v h1 h2
  · by_cases e : v = u
    · subst e
      rw [up2_s]
      exact hx hF n hn
    · rw [up2_i _ _ _ _ (by omega), ho v n hv e]
      exact a3 v n hv hn hF
  · rw [up2_a _ _ _ (by decide)] at hc ⊢
    exact (a4 hc).1
  · rw [up2_a _ _ _ (by decide)] at hc ⊢
    by_cases e : v = u
    · subst e
      have := he n hn hG
      rw [this] at hG ⊢
      exact (a4 hc).2 v n hv hn hF hG
    · rw [ho v n hv e] at hG ⊢
      exact (a4 hc).2 v n hv hn hF hG
  · by_cases e : v = u
    · subst e
      exact hz hF n
    · rw [ho v n hv e]
      exact a5 v n hv hF
/-- v has the number n, and the variables before i know it -/
def gI (F : Nat → Bool) (E : Nat → Nat → Bool) (A : Nat → Nat → Nat → Nat → Bool) (G : Nat → Nat → Nat) (v n i : Nat) : Nat → Nat → Nat := fun t m => if t < i then gX F E A G v n t m else gD G v t m
theorem gI_6 (F : Nat → Bool) (E : Nat → Nat → Bool) (A : Nat → Nat → Nat → Nat → Bool) (G : Nat → Nat → Nat) (v n : Nat) {t : Nat} (m : Nat) (ht : t < 6) : gI F E A G v n 6 t m = gX F E A G v n t m := by unfold gI; rw [if_pos ht]
theorem LV_congr {f : Nat → Nat → Int32} {l : Nat} {F F' : Nat → Bool} {T : Nat} {G G' : Nat → Nat → Nat} (h : LV f l F T G) (h1 : ∀ v, v < 6 → F v = F' v) (h2 : ∀ v n, v < 6 → G v n = G' v n) : LV f l F' T G' := by
  obtain ⟨a1, a2, a3, a4, a5, a6⟩ := h
  refine ⟨fun v hv => ?_, a2, fun v n hv hn hF => ?_, fun hc => ⟨(a4 hc).1, fun v n hv hn hF hG => ?_⟩, fun v n hv hF => ?_, a6⟩
  · rw [← h1 v hv]; exact a1 v hv
  · rw [← h2 v n hv]; exact a3 v n hv hn (by rw [h1 v hv]; exact hF)
  · rw [← h2 v n hv] at hG ⊢; exact (a4 hc).2 v n hv hn (by rw [h1 v hv]; exact hF) hG
  · rw [← h2 v n hv]; exact a5 v n hv (by rw [h1 v hv]; exact hF)
theorem l_fix {l v n : Nat} {h : vt_H} {Q : vt_Q} {F : Nat → Bool} {T : Nat} {G : Nat → Nat → Nat} (hC : CL h) (hl : l < 3) (hv : v < 6) (hn : n < 32) (hF : F v = true)
    (hQ0 : ∀ f', LF (vh_I h) f' l → (∃ u, u < 6 ∧ ∀ m, m < 32 → gX F (EE (vh_I h)) (AA (vh_I h)) G v n u m = 0) → Q (some (.int (nI 0))) (vh_sI h f'))
    (hQ1 : ∀ f', LF (vh_I h) f' l → LV f' l (fo F v) T (gX F (EE (vh_I h)) (AA (vh_I h)) G v n) → Q (some (.int (nI 1))) (vh_sI h f')) :
    ∀ (k i : Nat), i + k = 6 → ∀ f0 x5, LF (vh_I h) f0 l → LV f0 l (fo F v) T (gI F (EE (vh_I h)) (AA (vh_I h)) G v n i) → Wp 56 53 [.ref 13, .int (nI l), .int (nI v), .int (nI n), .int (nI i), x5] [] (vh_sI h f0) Q := by
  obtain ⟨ck13, cr0, cr1, cr2, cr3, cr4, cr5, cr6, cr7, cr8, cr9, ck14, ck15, ck16, ck17, ck18, ck19, ck20, ck21, ck22, ck23, cz14, cz15, cz16, cz17, cz18, cz19, cz20, cz21, cz22, cz23⟩ := hC
  intro k
  induction k with
  | zero =>
    intro i hi f0 x5 hf hL
    have : i = 6 := by omega
    subst this
    simp only [s_56_53, s_56_55, s_56_57, s_56_135, s_56_136, va_rf_s, pk_mul, nI_add, not_false_eq_true, and_self, true_and, Option.toList_some, Option.toList_none, List.append_nil, List.cons_append, List.nil_append, nI_01, nI_11, vh_K_wI, vh_R_wI, vh_Z_wI, vh_wI_sI, vh_K_sI, vh_R_sI, vh_Z_sI, vh_sI_sI, vh_I_sI, if_pos (nI_le (Nat.le_refl 6) (show 6 < 2 ^ 31 by omega))]
    exact hQ1 f0 hf (LV_congr hL (fun _ _ => rfl) (fun v n hv => gI_6 _ _ _ _ _ _ _ hv))
  | succ k ih =>
    intro i hi f0 x5 hf hL
    have hlt : i < 6 := by omega
    have b1 : l * 6 + i < 18 := by omega
    have b2 : (6 * v + i) * 32 + n < 1152 := by omega
    simp only [s_56_53, s_56_55, s_56_57, if_neg (nI_ge hlt (show 6 < 2 ^ 31 by omega))]
    simp only [s_56_60, s_56_61, s_56_64, s_56_65, s_56_66, s_56_67, s_56_70, s_56_71, s_56_72, s_56_73, s_56_75, s_56_78, ck13, cr0, cr1, cr2, cr3, cr4, cr5, cr6, cr7, cr8, cr9, ck14, ck15, ck16, ck17, ck18, ck19, ck20, ck21, ck22, ck23, cz14, cz15, cz16, cz17, cz18, cz19, cz20, cz21, cz22, cz23, va_rf_s, pk_mul, nI_add, not_false_eq_true, and_self, true_and, Option.toList_some, Option.toList_none, List.append_nil, List.cons_append, List.nil_append, nI_01, nI_11, vh_K_wI, vh_R_wI, vh_Z_wI, vh_wI_sI, vh_K_sI, vh_R_sI, vh_Z_sI, vh_sI_sI, vh_I_sI, cl (show v < 2 ^ 31 by omega), cl (show l < 2 ^ 31 by omega), ib hv (show 6 ≤ 2 ^ 31 by omega), ib hl (show 3 ≤ 2 ^ 31 by omega), c_isIn, jbit_bt _ (show i < 32 by omega), jb_0]
    have eb : bt (f0 15 v &&& f0 18 l) i = true ↔ EE (vh_I h) v i = true ∧ fo F v i = true := by
      rw [b_and, hL.1 i hlt, hf.1 15 (by omega), Bool.and_eq_true]
      exact Iff.rfl
    by_cases q : EE (vh_I h) v i = true ∧ fo F v i = true
    · rw [if_neg (fun z => z (eb.mpr q))]
      have hiv := (fo_t.mp q.2).2
      simp only [s_56_81, s_56_82, s_56_84, s_56_85, s_56_87, s_56_88, s_56_90, s_56_91, s_56_94, s_56_96, s_56_97, s_56_98, s_56_99, s_56_102, s_56_104, s_56_105, s_56_106, s_56_108, s_56_109, s_56_111, s_56_112, s_56_113, s_56_114, s_56_115, s_56_116, s_56_117, s_56_118, s_56_121, s_56_123, ck13, cr0, cr1, cr2, cr3, cr4, cr5, cr6, cr7, cr8, cr9, ck14, ck15, ck16, ck17, ck18, ck19, ck20, ck21, ck22, ck23, cz14, cz15, cz16, cz17, cz18, cz19, cz20, cz21, cz22, cz23, va_rf_s, pk_mul, nI_add, not_false_eq_true, and_self, true_and, Option.toList_some, Option.toList_none, List.append_nil, List.cons_append, List.nil_append, nI_01, nI_11, vh_K_wI, vh_R_wI, vh_Z_wI, vh_wI_sI, vh_K_sI, vh_R_sI, vh_Z_sI, vh_sI_sI, vh_I_sI, cl (show l * 6 + i < 2 ^ 31 by omega), cl (show (6 * v + i) * 32 + n < 2 ^ 31 by omega), ib b1 (show 18 ≤ 2 ^ 31 by omega), ib b2 (show 1152 ≤ 2 ^ 31 by omega), up2_s]
      have hx : ∀ m, m < 32 → (bt (f0 20 (l * 6 + i) &&& f0 14 ((6 * v + i) * 32 + n)) m = true ↔ gX F (EE (vh_I h)) (AA (vh_I h)) G v n i m ≠ 0) := by
        intro m hm
        have a := hL.2.2.1 i m hlt hm q.2
        unfold gI gD at a
        rw [if_neg (Nat.lt_irrefl i), if_neg hiv] at a
        rw [b_and, Bool.and_eq_true, a, hf.1 14 (by omega)]
        unfold gX
        rw [if_neg hiv, if_pos ⟨(fo_t.mp q.2).1, q.1⟩]
        show _ ∧ AA (vh_I h) v i n m = true ↔ _
        by_cases q3 : AA (vh_I h) v i n m = true
        · rw [if_pos q3, Nat.mul_one]
          exact ⟨fun z => z.1, fun z => ⟨z, q3⟩⟩
        · rw [if_neg q3, Nat.mul_zero]
          exact ⟨fun z => absurd z.2 q3, fun z => absurd rfl z⟩
      by_cases q2 : f0 20 (l * 6 + i) &&& f0 14 ((6 * v + i) * 32 + n) = 0
      · simp only [s_56_124]
        rw [if_neg (fun z => z q2)]
        simp only [s_56_127, s_56_128, va_rf_s, pk_mul, nI_add, not_false_eq_true, and_self, true_and, Option.toList_some, Option.toList_none, List.append_nil, List.cons_append, List.nil_append, nI_01, nI_11, vh_K_wI, vh_R_wI, vh_Z_wI, vh_wI_sI, vh_K_sI, vh_R_sI, vh_Z_sI, vh_sI_sI, vh_I_sI]
        refine hQ0 _ (LF_up hf (by omega)) ⟨i, hlt, fun m hm => ?_⟩
        refine Classical.byContradiction (fun z => ?_)
        have := (hx m hm).mpr z
        rw [q2, b_0] at this
        cases this
      · simp only [s_56_124]
        rw [if_pos q2]
        simp only [s_56_129, s_56_132, va_rf_s, pk_mul, nI_add, not_false_eq_true, and_self, true_and, Option.toList_some, Option.toList_none, List.append_nil, List.cons_append, List.nil_append, nI_01, nI_11, vh_K_wI, vh_R_wI, vh_Z_wI, vh_wI_sI, vh_K_sI, vh_R_sI, vh_Z_sI, vh_sI_sI, vh_I_sI]
        refine ih (i + 1) (by omega) _ _ (LF_up hf (by omega)) (LV_range hL hlt (fun _ m hm => ?_) (fun m hm hne => ?_) (fun t m ht hne => ?_) (fun hz m => ?_))
        · rw [hx m hm]
          unfold gI
          rw [if_pos (Nat.lt_succ_self i)]
        · unfold gI at hne ⊢
          rw [if_pos (Nat.lt_succ_self i)] at hne ⊢
          rw [if_neg (Nat.lt_irrefl i)]
          unfold gX gD at *
          rw [if_neg hiv, if_pos ⟨(fo_t.mp q.2).1, q.1⟩] at hne ⊢
          rw [if_neg hiv]
          by_cases q3 : AA (vh_I h) v i n m = true
          · rw [if_pos q3, Nat.mul_one]
          · rw [if_neg q3, Nat.mul_zero] at hne
            exact absurd rfl hne
        · unfold gI
          by_cases q4 : t < i
          · rw [if_pos q4, if_pos (by omega)]
          · rw [if_neg q4, if_neg (by omega)]
        · rw [q.2] at hz; cases hz
    · rw [if_pos (fun z => q (eb.mp z))]
      simp only [s_56_129, s_56_132, va_rf_s, pk_mul, nI_add, not_false_eq_true, and_self, true_and, Option.toList_some, Option.toList_none, List.append_nil, List.cons_append, List.nil_append, nI_01, nI_11, vh_K_wI, vh_R_wI, vh_Z_wI, vh_wI_sI, vh_K_sI, vh_R_sI, vh_Z_sI, vh_sI_sI, vh_I_sI]
      refine ih (i + 1) (by omega) _ _ hf (LV_congr hL (fun _ _ => rfl) (fun t m ht => ?_))
      unfold gI
      by_cases q4 : t < i
      · rw [if_pos q4, if_pos (by omega)]
      · rw [if_neg q4]
        by_cases q5 : t = i
        · subst q5
          rw [if_pos (Nat.lt_succ_self t)]
          unfold gD gX
          by_cases q6 : t = v
          · rw [if_pos q6, if_pos q6]
          · rw [if_neg q6, if_neg q6, if_neg]
            exact fun z => q ⟨z.2, fo_t.mpr ⟨z.1, q6⟩⟩
        · rw [if_neg (by omega)]
theorem LV_out {f : Nat → Nat → Int32} {l : Nat} {F : Nat → Bool} {T T' : Nat} {G : Nat → Nat → Nat} {v : Nat} {y : Int32} (h : LV f l F T G) (hv : v < 6) (hT : T' ≠ 0) (hy : ¬ f 13 10 = 0 → y = nI T') : LV (up2 (up2 f 18 l (f 18 l &&& (j1 (nI v) ^^^ -nI 1))) 19 l y) l (fo F v) T' (gD G v) := by
  obtain ⟨a1, a2, a3, a4, a5, a6⟩ := h
  have hb : ∀ u, u < 32 → bt (f 18 l &&& (j1 (nI v) ^^^ -nI 1)) u = (bt (f 18 l) u && !decide (u = v)) := by
    intro u hu
    rw [b_and, bt_not _ hu, bt_j1 (by omega) hu]
  refine ⟨fun u hu => ?_, fun u h1 h2 => ?_, fun u n hu hn hF => ?_, fun hc => ⟨?_, fun u n hu hn hF hG => ?_⟩, fun u n hu hF => ?_, hT⟩
  · rw [up2_a _ _ _ (by decide), up2_s, hb u (by omega), a1 u hu]
    rfl
  · rw [up2_a _ _ _ (by decide), up2_s, hb u h2, a2 u h1 h2]
    rfl
  · rw [up2_a _ _ _ (by decide), up2_a _ _ _ (by decide)]
    unfold gD
    rw [if_neg (fo_t.mp hF).2]
    exact a3 u n hu hn (fo_t.mp hF).1
  · rw [up2_a _ _ _ (by decide), up2_a _ _ _ (by decide)] at hc
    rw [up2_s]
    exact hy hc
  · rw [up2_a _ _ _ (by decide), up2_a _ _ _ (by decide)] at hc ⊢
    unfold gD at hG ⊢
    rw [if_neg (fo_t.mp hF).2] at hG ⊢
    exact (a4 hc).2 u n hu hn (fo_t.mp hF).1 hG
  · unfold gD
    by_cases e : u = v
    · rw [if_pos e]
    · rw [if_neg e]
      refine a5 u n hu ?_
      cases hF' : F u with
      | false => rfl
      | true => rw [fo_t.mpr ⟨hF', e⟩] at hF; cases hF
theorem c_fix {l v n : Nat} {h : vt_H} {Q : vt_Q} {F : Nat → Bool} {T : Nat} {G : Nat → Nat → Nat} (hC : CL h) (hl : l < 3) (hv : v < 6) (hn : n < 32) (hF : F v = true) (hG : G v n ≠ 0) (hL : LV (vh_I h) l F T G)
    (hQ0 : ∀ f', LF (vh_I h) f' l → (∃ u, u < 6 ∧ ∀ m, m < 32 → gX F (EE (vh_I h)) (AA (vh_I h)) G v n u m = 0) → Q (some (.int (nI 0))) (vh_sI h f'))
    (hQ1 : ∀ f', LF (vh_I h) f' l → LV f' l (fo F v) (T * G v n) (gX F (EE (vh_I h)) (AA (vh_I h)) G v n) → Q (some (.int (nI 1))) (vh_sI h f')) :
    Wp 56 0 [.ref 13, .int (nI l), .int (nI v), .int (nI n), vt_un, vt_un] [] h Q := by
  have hC' := hC
  obtain ⟨ck13, cr0, cr1, cr2, cr3, cr4, cr5, cr6, cr7, cr8, cr9, ck14, ck15, ck16, ck17, ck18, ck19, ck20, ck21, ck22, ck23, cz14, cz15, cz16, cz17, cz18, cz19, cz20, cz21, cz22, cz23⟩ := hC
  have b1 : (l * 6 + v) * 32 + n < 576 := by omega
  have base : ∀ y, (¬ vh_I h 13 10 = 0 → y = nI (T * G v n)) → Wp 56 53 [.ref 13, .int (nI l), .int (nI v), .int (nI n), .int (nI 0), vt_un] [] (vh_sI h (up2 (up2 (vh_I h) 18 l (vh_I h 18 l &&& (j1 (nI v) ^^^ -nI 1))) 19 l y)) Q := by
    intro y hy
    refine l_fix hC' hl hv hn hF hQ0 hQ1 6 0 (by omega) _ _ (LF_up (LF_up (LF_refl _ _) (by omega)) (by omega)) (LV_congr (LV_out hL hv (Nat.mul_ne_zero hL.2.2.2.2.2 hG) hy) (fun _ _ => rfl) (fun t m _ => ?_))
    unfold gI
    rw [if_neg (by omega)]
  simp only [s_56_0, s_56_1, s_56_4, s_56_5, s_56_6, s_56_7, s_56_8, s_56_9, s_56_10, s_56_11, s_56_12, s_56_13, s_56_14, s_56_15, s_56_18, s_56_19, s_56_20, s_56_21, s_56_22, ck13, cr0, cr1, cr2, cr3, cr4, cr5, cr6, cr7, cr8, cr9, ck14, ck15, ck16, ck17, ck18, ck19, ck20, ck21, ck22, ck23, cz14, cz15, cz16, cz17, cz18, cz19, cz20, cz21, cz22, cz23, va_rf_s, pk_mul, nI_add, not_false_eq_true, and_self, true_and, Option.toList_some, Option.toList_none, List.append_nil, List.cons_append, List.nil_append, nI_01, nI_11, vh_K_wI, vh_R_wI, vh_Z_wI, vh_wI_sI, vh_K_sI, vh_R_sI, vh_Z_sI, vh_sI_sI, vh_I_sI, cl (show l < 2 ^ 31 by omega), ib hl (show 3 ≤ 2 ^ 31 by omega), s_56_25]
  simp only [j1] at base
  by_cases q : vh_I h 13 10 = 0
  · rw [if_pos (by rw [up2_a _ _ _ (by decide)]; exact q)]
    simp only [s_56_47, s_56_48, s_56_49, s_56_50, s_56_51, ck13, cr0, cr1, cr2, cr3, cr4, cr5, cr6, cr7, cr8, cr9, ck14, ck15, ck16, ck17, ck18, ck19, ck20, ck21, ck22, ck23, cz14, cz15, cz16, cz17, cz18, cz19, cz20, cz21, cz22, cz23, va_rf_s, pk_mul, nI_add, not_false_eq_true, and_self, true_and, Option.toList_some, Option.toList_none, List.append_nil, List.cons_append, List.nil_append, nI_01, nI_11, vh_K_wI, vh_R_wI, vh_Z_wI, vh_wI_sI, vh_K_sI, vh_R_sI, vh_Z_sI, vh_sI_sI, vh_I_sI, cl (show l < 2 ^ 31 by omega), ib hl (show 3 ≤ 2 ^ 31 by omega)]
    exact base _ (fun z => absurd q z)
  · rw [if_neg (by rw [up2_a _ _ _ (by decide)]; exact q)]
    simp only [s_56_28, s_56_29, s_56_32, s_56_33, s_56_35, s_56_36, s_56_37, s_56_38, s_56_40, s_56_41, s_56_42, s_56_43, s_56_44, s_56_48, s_56_49, s_56_50, s_56_51, ck13, cr0, cr1, cr2, cr3, cr4, cr5, cr6, cr7, cr8, cr9, ck14, ck15, ck16, ck17, ck18, ck19, ck20, ck21, ck22, ck23, cz14, cz15, cz16, cz17, cz18, cz19, cz20, cz21, cz22, cz23, va_rf_s, pk_mul, nI_add, not_false_eq_true, and_self, true_and, Option.toList_some, Option.toList_none, List.append_nil, List.cons_append, List.nil_append, nI_01, nI_11, vh_K_wI, vh_R_wI, vh_Z_wI, vh_wI_sI, vh_K_sI, vh_R_sI, vh_Z_sI, vh_sI_sI, vh_I_sI, cl (show l < 2 ^ 31 by omega), ib hl (show 3 ≤ 2 ^ 31 by omega), cl (show (l * 6 + v) * 32 + n < 2 ^ 31 by omega), ib b1 (show 576 ≤ 2 ^ 31 by omega)]
    refine base _ (fun _ => ?_)
    have a := hL.2.2.2.1 q
    rw [up2_a _ _ _ (by decide), up2_a _ _ _ (by decide), a.1, a.2 v n hv hn hF hG, pk_mul]

-- ===== CASES of the class: find =====
/-- what work at level 2 leaves as it is -/
def LH (f f' : Nat → Nat → Int32) : Prop := (∀ c, c < 18 ∨ 23 < c → ∀ j, f' c j = f c j) ∧ (∀ j, j < 2 → f' 18 j = f 18 j ∧ f' 19 j = f 19 j) ∧ (∀ j, j < 12 → f' 20 j = f 20 j) ∧ (∀ j, j < 384 → f' 21 j = f 21 j)
theorem LH_refl (f : Nat → Nat → Int32) : LH f f := ⟨fun _ _ _ => rfl, fun _ _ => ⟨rfl, rfl⟩, fun _ _ => rfl, fun _ _ => rfl⟩
theorem LH_LF {f g k : Nat → Nat → Int32} (h : LH f g) (h2 : LF g k 2) : LH f k := ⟨fun c hc j => (h2.1 c (by omega) j).trans (h.1 c hc j), fun j hj => ⟨((h2.2.1 j hj).1).trans (h.2.1 j hj).1, ((h2.2.1 j hj).2).trans (h.2.1 j hj).2⟩, fun j hj => (h2.2.2.1 j (by omega)).trans (h.2.2.1 j hj), fun j hj => (h2.2.2.2 j (by omega)).trans (h.2.2.2 j hj)⟩
theorem LH_23 {f g k : Nat → Nat → Int32} (h : LH f g) (h2 : ∀ c, c ≠ 23 → ∀ j, k c j = g c j) : LH f k := ⟨fun c hc j => (h2 c (by omega) j).trans (h.1 c hc j), fun j hj => ⟨(h2 18 (by decide) j).trans (h.2.1 j hj).1, (h2 19 (by decide) j).trans (h.2.1 j hj).2⟩, fun j hj => (h2 20 (by decide) j).trans (h.2.2.1 j hj), fun j hj => (h2 21 (by decide) j).trans (h.2.2.2 j hj)⟩
theorem LH_LV {f g : Nat → Nat → Int32} (h : LH f g) {F : Nat → Bool} {T : Nat} {G : Nat → Nat → Nat} (hL : LV f 1 F T G) : LV g 1 F T G := LV_copy hL (h.1 13 (by omega) _) (h.2.1 1 (by omega)).1 (h.2.1 1 (by omega)).2 (fun v hv => h.2.2.1 _ (by omega)) (fun _ v n hv hn => h.2.2.2 _ (by omega))
theorem LH_EE {f g : Nat → Nat → Int32} (h : LH f g) : EE g = EE f := by
  funext u v
  unfold EE
  rw [h.1 15 (by omega) u]
theorem LH_AA {f g : Nat → Nat → Int32} (h : LH f g) : AA g = AA f := by
  funext u v n m
  unfold AA
  rw [h.1 14 (by omega) _]
theorem FF_LH {f g k : Nat → Nat → Int32} (h : FF f g) (h2 : LH g k) : FF f k := ⟨fun c hc j hj => (h2.1 c hc j).trans (h.1 c hc j hj), ⟨((h2.2.1 0 (by omega)).1).trans h.2.1.1, ((h2.2.1 0 (by omega)).2).trans h.2.1.2⟩, fun j hj => (h2.2.2.1 j (by omega)).trans (h.2.2.1 j hj), fun j hj => (h2.2.2.2 j (by omega)).trans (h.2.2.2 j hj)⟩
theorem sg_ne0 {f : Nat → Nat} {i n : Nat} (h : i ≤ n) (h0 : sg_S f i ≠ 0) : sg_S f n ≠ 0 := fun z => h0 (sg_eq0.mpr (fun k hk => sg_eq0.mp z k (by omega)))
/-- the cases with number n at the ring's variable -/
noncomputable def Vr (E : Nat → Nat → Bool) (A : Nat → Nat → Nat → Nat → Bool) (F : Nat → Bool) (T : Nat) (G : Nat → Nat → Nat) (r kp kn : Nat) (n b : Nat) : Nat := T * (G r n * N6 (cB kp kn b) (fo F r) E A (gX F E A G r n))
theorem Vr_sum {E : Nat → Nat → Bool} {A : Nat → Nat → Nat → Nat → Bool} {F : Nat → Bool} {T : Nat} {G : Nat → Nat → Nat} {r kp kn b : Nat} (hs : sy E A) (hr : r < 6) (hF : F r = true) (hrk : r ≠ kp) : T * N6 (cB kp kn b) F E A G = sg_S (fun n => Vr E A F T G r kp kn n b) 32 := by
  rw [N6_all (v := r) hr, ← sg_mulL]
  refine sg_congr (fun n hn => ?_)
  rw [N6_at hs hr hn hF (cB_ik kp kn b r hr hrk)]
  rfl
theorem l_find {r kp kn : Nat} {x wt gl : Int32} {h : vt_H} {Q : vt_Q} {F : Nat → Bool} {T : Nat} {G : Nat → Nat → Nat} {es : List Nat} (hC : CL h) (hs : sy (EE (vh_I h)) (AA (vh_I h))) (hk : KP (vh_I h) kp) (hkn : ¬ kp < 6 → kn < 32 ∧ vh_I h 13 15 = nI kn) (hL : LV (vh_I h) 1 F T G) (hFk : kp < 6 → F kp = true)
    (hes : es.length ≤ 5) (hcov : ∀ u v, u < 6 → v < 6 → EE (vh_I h) u v = true → pc2 u v ∈ es)
    (h2 : ∀ v, v < 6 → F v = true → v ≠ kp → 2 ≤ dg (EE (vh_I h)) F v) (hr : r < 6) (hFr : F r = true) (hrk : r ≠ kp) (hmax : ∀ v, v < 6 → F v = true → v ≠ kp → dg (EE (vh_I h)) F v ≤ dg (EE (vh_I h)) F r)
    (hgl : ∀ b, b < 32 → T * N6 (cB kp kn b) F (EE (vh_I h)) (AA (vh_I h)) G ≠ 0 → bt gl b = true)
    (hQ : ∀ f' fd, LH (vh_I h) f' → (¬ vh_I h 13 10 = 0 → ∀ b, b < 32 → f' 23 b = nI (T * N6 (cB kp kn b) F (EE (vh_I h)) (AA (vh_I h)) G)) → (∀ b, b < 32 → (bt fd b = true ↔ T * N6 (cB kp kn b) F (EE (vh_I h)) (AA (vh_I h)) G ≠ 0)) → Q (some (.int fd)) (vh_sI h f')) :
    ∀ (k i : Nat), i + k = 32 → ∀ f0 fd, LH (vh_I h) f0 → (¬ vh_I h 13 10 = 0 → ∀ b, b < 32 → f0 23 b = nI (sg_S (fun n => Vr (EE (vh_I h)) (AA (vh_I h)) F T G r kp kn n b) i)) → (∀ b, b < 32 → (bt fd b = true ↔ sg_S (fun n => Vr (EE (vh_I h)) (AA (vh_I h)) F T G r kp kn n b) i ≠ 0)) → Wp 53 81 [.ref 13, .int x, .int wt, .int (nI r), .int gl, .int (vh_I h 20 (6 + r)), .int fd, .int (nI i)] [] (vh_sI h f0) Q := by
  have hC' := hC
  obtain ⟨ck13, cr0, cr1, cr2, cr3, cr4, cr5, cr6, cr7, cr8, cr9, ck14, ck15, ck16, ck17, ck18, ck19, ck20, ck21, ck22, ck23, cz14, cz15, cz16, cz17, cz18, cz19, cz20, cz21, cz22, cz23⟩ := hC
  have hsum : ∀ b, T * N6 (cB kp kn b) F (EE (vh_I h)) (AA (vh_I h)) G = sg_S (fun n => Vr (EE (vh_I h)) (AA (vh_I h)) F T G r kp kn n b) 32 := fun b => Vr_sum hs hr hFr hrk
  intro k
  induction k with
  | zero =>
    intro i hi f0 fd hf ht hb
    have : i = 32 := by omega
    subst this
    simp only [s_53_81, s_53_83, s_53_85, s_53_152, s_53_154, va_rf_s, pk_mul, nI_add, not_false_eq_true, and_self, true_and, Option.toList_some, Option.toList_none, List.append_nil, List.cons_append, List.nil_append, nI_01, nI_11, vh_K_wI, vh_R_wI, vh_Z_wI, vh_wI_sI, vh_K_sI, vh_R_sI, vh_Z_sI, vh_sI_sI, vh_I_sI, if_pos (nI_le (Nat.le_refl 32) (show 32 < 2 ^ 31 by omega))]
    refine hQ f0 fd hf (fun hc b hb' => ?_) (fun b hb' => ?_)
    · rw [hsum]; exact ht hc b hb'
    · rw [hsum]; exact hb b hb'
  | succ k ih =>
    intro i hi f0 fd hf ht hb
    have hlt : i < 32 := by omega
    simp only [s_53_81, s_53_83, s_53_85, if_neg (nI_ge hlt (show 32 < 2 ^ 31 by omega))]
    simp only [s_53_88, s_53_89, ck13, cr0, cr1, cr2, cr3, cr4, cr5, cr6, cr7, cr8, cr9, ck14, ck15, ck16, ck17, ck18, ck19, ck20, ck21, ck22, ck23, cz14, cz15, cz16, cz17, cz18, cz19, cz20, cz21, cz22, cz23, va_rf_s, pk_mul, nI_add, not_false_eq_true, and_self, true_and, Option.toList_some, Option.toList_none, List.append_nil, List.cons_append, List.nil_append, nI_01, nI_11, vh_K_wI, vh_R_wI, vh_Z_wI, vh_wI_sI, vh_K_sI, vh_R_sI, vh_Z_sI, vh_sI_sI, vh_I_sI, s_53_92]
    rw [hf.1 13 (by omega)]
    have next : ∀ f1 fd1, LH (vh_I h) f1 → (¬ vh_I h 13 10 = 0 → ∀ b, b < 32 → f1 23 b = nI (sg_S (fun n => Vr (EE (vh_I h)) (AA (vh_I h)) F T G r kp kn n b) (i + 1))) → (∀ b, b < 32 → (bt fd1 b = true ↔ sg_S (fun n => Vr (EE (vh_I h)) (AA (vh_I h)) F T G r kp kn n b) (i + 1) ≠ 0)) → Wp 53 146 [.ref 13, .int x, .int wt, .int (nI r), .int gl, .int (vh_I h 20 (6 + r)), .int fd1, .int (nI i)] [] (vh_sI h f1) Q := by
      intro f1 fd1 q1 q2 q3
      simp only [s_53_146, s_53_149, va_rf_s, pk_mul, nI_add, not_false_eq_true, and_self, true_and, Option.toList_some, Option.toList_none, List.append_nil, List.cons_append, List.nil_append, nI_01, nI_11, vh_K_wI, vh_R_wI, vh_Z_wI, vh_wI_sI, vh_K_sI, vh_R_sI, vh_Z_sI, vh_sI_sI, vh_I_sI]
      exact ih (i + 1) (by omega) f1 fd1 q1 q2 q3
    have same : (∀ b, b < 32 → Vr (EE (vh_I h)) (AA (vh_I h)) F T G r kp kn i b = 0) → ∀ f1, LH (vh_I h) f1 → (∀ b, f1 23 b = f0 23 b) → Wp 53 146 [.ref 13, .int x, .int wt, .int (nI r), .int gl, .int (vh_I h 20 (6 + r)), .int fd, .int (nI i)] [] (vh_sI h f1) Q := by
      intro hz f1 q1 q2
      refine next f1 fd q1 (fun hc b hb' => ?_) (fun b hb' => ?_)
      · rw [q2 b, ht hc b hb', sg_succ, hz b hb', Nat.add_zero]
      · rw [hb b hb', sg_succ, hz b hb', Nat.add_zero]
    have body : Wp 53 102 [.ref 13, .int x, .int wt, .int (nI r), .int gl, .int (vh_I h 20 (6 + r)), .int fd, .int (nI i)] [] (vh_sI h f0) Q := by
      simp only [s_53_102, s_53_104, s_53_106, va_rf_s, pk_mul, nI_add, not_false_eq_true, and_self, true_and, Option.toList_some, Option.toList_none, List.append_nil, List.cons_append, List.nil_append, nI_01, nI_11, vh_K_wI, vh_R_wI, vh_Z_wI, vh_wI_sI, vh_K_sI, vh_R_sI, vh_Z_sI, vh_sI_sI, vh_I_sI, c_isIn, jbit_bt _ hlt, jb_0, s_53_109]
      have hri : bt (vh_I h 20 (6 + r)) i = true ↔ G r i ≠ 0 := by
        have := hL.2.2.1 r i hr hlt hFr
        rw [show 1 * 6 + r = 6 + r by omega] at this
        exact this
      by_cases q : bt (vh_I h 20 (6 + r)) i = true
      · rw [if_neg (fun z => z q)]
        have hG := hri.mp q
        have hC0 : CL (vh_sI h f0) := hC'
        simp only [s_53_112, s_53_113, s_53_114, ck13, cr0, cr1, cr2, cr3, cr4, cr5, cr6, cr7, cr8, cr9, ck14, ck15, ck16, ck17, ck18, ck19, ck20, ck21, ck22, ck23, cz14, cz15, cz16, cz17, cz18, cz19, cz20, cz21, cz22, cz23, va_rf_s, pk_mul, nI_add, not_false_eq_true, and_self, true_and, Option.toList_some, Option.toList_none, List.append_nil, List.cons_append, List.nil_append, nI_01, nI_11, vh_K_wI, vh_R_wI, vh_Z_wI, vh_wI_sI, vh_K_sI, vh_R_sI, vh_Z_sI, vh_sI_sI, vh_I_sI]
        refine c_copyLevel (l := 1) hC0 (by omega) (LH_LV hf hL) (fun f1 hf1 hL1 => ?_)
        have hf1 : LF f0 f1 2 := hf1
        have hL1 : LV f1 2 F T G := hL1
        have hh1 := LH_LF hf hf1
        have hC1 : CL (vh_sI h f1) := hC'
        simp only [s_53_117, s_53_118, s_53_119, s_53_120, s_53_122, ck13, cr0, cr1, cr2, cr3, cr4, cr5, cr6, cr7, cr8, cr9, ck14, ck15, ck16, ck17, ck18, ck19, ck20, ck21, ck22, ck23, cz14, cz15, cz16, cz17, cz18, cz19, cz20, cz21, cz22, cz23, va_rf_s, pk_mul, nI_add, not_false_eq_true, and_self, true_and, Option.toList_some, Option.toList_none, List.append_nil, List.cons_append, List.nil_append, nI_01, nI_11, vh_K_wI, vh_R_wI, vh_Z_wI, vh_wI_sI, vh_K_sI, vh_R_sI, vh_Z_sI, vh_sI_sI, vh_I_sI]
        refine c_fix hC1 (by omega) hr hlt hFr hG hL1 (fun f2 hf2 hz => ?_) (fun f2 hf2 hL2 => ?_)
        · simp only [va_rf_s, pk_mul, nI_add, not_false_eq_true, and_self, true_and, Option.toList_some, Option.toList_none, List.append_nil, List.cons_append, List.nil_append, nI_01, nI_11, vh_K_wI, vh_R_wI, vh_Z_wI, vh_wI_sI, vh_K_sI, vh_R_sI, vh_Z_sI, vh_sI_sI, vh_I_sI, s_53_125]
          rw [if_pos nI_00]
          rw [vh_I_sI, LH_EE hh1, LH_AA hh1] at hz
          obtain ⟨u, hu, hz⟩ := hz
          refine same (fun b _ => ?_) f2 (LH_LF hh1 hf2) (fun b => ?_)
          · unfold Vr
            rw [N6_0 hu hz, Nat.mul_zero, Nat.mul_zero]
          · rw [hf2.1 23 (by omega), vh_I_sI, hf1.1 23 (by omega)]
        · simp only [va_rf_s, pk_mul, nI_add, not_false_eq_true, and_self, true_and, Option.toList_some, Option.toList_none, List.append_nil, List.cons_append, List.nil_append, nI_01, nI_11, vh_K_wI, vh_R_wI, vh_Z_wI, vh_wI_sI, vh_K_sI, vh_R_sI, vh_Z_sI, vh_sI_sI, vh_I_sI, s_53_125]
          rw [if_neg nI_10]
          rw [vh_I_sI, LH_EE hh1, LH_AA hh1] at hL2
          have hf2 : LF f1 f2 2 := hf2
          have hh2 := LH_LF hh1 hf2
          have hC2 : CL (vh_sI h f2) := hC'
          have eE := LH_EE hh2
          have eA := LH_AA hh2
          have e23 : ∀ b, f2 23 b = f0 23 b := fun b => by rw [hf2.1 23 (by omega), hf1.1 23 (by omega)]
          simp only [s_53_128, s_53_129, s_53_130, ck13, cr0, cr1, cr2, cr3, cr4, cr5, cr6, cr7, cr8, cr9, ck14, ck15, ck16, ck17, ck18, ck19, ck20, ck21, ck22, ck23, cz14, cz15, cz16, cz17, cz18, cz19, cz20, cz21, cz22, cz23, va_rf_s, pk_mul, nI_add, not_false_eq_true, and_self, true_and, Option.toList_some, Option.toList_none, List.append_nil, List.cons_append, List.nil_append, nI_01, nI_11, vh_K_wI, vh_R_wI, vh_Z_wI, vh_wI_sI, vh_K_sI, vh_R_sI, vh_Z_sI, vh_sI_sI, vh_I_sI]
          refine c_foldAll (kp := kp) hC2 (by omega) (by rw [vh_I_sI, eE, eA]; exact hs) (KP_c hk (hh2.1 13 (by omega) _)) hL2 (fun f3 hf3 hz => ?_) (fun f3 F3 T3 G3 hI hd => ?_)
          · simp only [va_rf_s, pk_mul, nI_add, not_false_eq_true, and_self, true_and, Option.toList_some, Option.toList_none, List.append_nil, List.cons_append, List.nil_append, nI_01, nI_11, vh_K_wI, vh_R_wI, vh_Z_wI, vh_wI_sI, vh_K_sI, vh_R_sI, vh_Z_sI, vh_sI_sI, vh_I_sI, s_53_133]
            rw [if_pos nI_00]
            have hf3 : LF f2 f3 2 := hf3
            refine same (fun b _ => ?_) f3 (LH_LF hh2 hf3) (fun b => by rw [hf3.1 23 (by omega), e23])
            have := hz (cB kp kn b) (cB_ik kp kn b)
            rw [vh_I_sI, eE, eA] at this
            unfold Vr
            rw [← Nat.mul_assoc]
            exact this
          · simp only [va_rf_s, pk_mul, nI_add, not_false_eq_true, and_self, true_and, Option.toList_some, Option.toList_none, List.append_nil, List.cons_append, List.nil_append, nI_01, nI_11, vh_K_wI, vh_R_wI, vh_Z_wI, vh_wI_sI, vh_K_sI, vh_R_sI, vh_Z_sI, vh_sI_sI, vh_I_sI, s_53_133]
            rw [if_neg nI_10]
            rw [vh_I_sI] at hI
            obtain ⟨hf3, hL3, i1, i2, i3⟩ := hI
            rw [eE, eA] at i3
            rw [vh_I_sI, eE] at hd
            have hh3 := LH_LF hh2 hf3
            have hC3 : CL (vh_sI h f3) := hC'
            have only : ∀ v, v < 6 → F3 v = true → v = kp := gr (fun u v hu hv hE => ⟨(hs u v hu hv hE).1, (hs u v hu hv hE).2.1⟩) hes hcov h2 hr hFr hrk hmax (fun v hv hF => fo_t.mp (i1 v hv hF)) hd
            simp only [s_53_136, s_53_138, s_53_139, s_53_140, ck13, cr0, cr1, cr2, cr3, cr4, cr5, cr6, cr7, cr8, cr9, ck14, ck15, ck16, ck17, ck18, ck19, ck20, ck21, ck22, ck23, cz14, cz15, cz16, cz17, cz18, cz19, cz20, cz21, cz22, cz23, va_rf_s, pk_mul, nI_add, not_false_eq_true, and_self, true_and, Option.toList_some, Option.toList_none, List.append_nil, List.cons_append, List.nil_append, nI_01, nI_11, vh_K_wI, vh_R_wI, vh_Z_wI, vh_wI_sI, vh_K_sI, vh_R_sI, vh_Z_sI, vh_sI_sI, vh_I_sI]
            refine c_gather (kp := kp) (kn := kn) hC3 (by omega) (by rw [vh_I_sI, LH_EE hh3, LH_AA hh3]; exact hs) (KP_c hk (hh3.1 13 (by omega) _)) (fun z => ⟨(hkn z).1, by rw [vh_I_sI, hh3.1 13 (by omega)]; exact (hkn z).2⟩) hL3 only (fun z => by rw [i2 kp z rfl]; exact fo_t.mpr ⟨hFk z, fun y => hrk y.symm⟩) (fun f4 x4 g1 g2 g3 => ?_)
            rw [vh_I_sI, LH_EE hh3, LH_AA hh3] at g2 g3
            have eV : ∀ b, T3 * N6 (cB kp kn b) F3 (EE (vh_I h)) (AA (vh_I h)) G3 = Vr (EE (vh_I h)) (AA (vh_I h)) F T G r kp kn i b := fun b => by
              rw [← i3 _ (cB_ik kp kn b)]
              unfold Vr
              rw [Nat.mul_assoc]
            simp only [va_rf_s, pk_mul, nI_add, not_false_eq_true, and_self, true_and, Option.toList_some, Option.toList_none, List.append_nil, List.cons_append, List.nil_append, nI_01, nI_11, vh_K_wI, vh_R_wI, vh_Z_wI, vh_wI_sI, vh_K_sI, vh_R_sI, vh_Z_sI, vh_sI_sI, vh_I_sI]
            simp only [s_53_143, s_53_144, va_rf_s, pk_mul, nI_add, not_false_eq_true, and_self, true_and, Option.toList_some, Option.toList_none, List.append_nil, List.cons_append, List.nil_append, nI_01, nI_11, vh_K_wI, vh_R_wI, vh_Z_wI, vh_wI_sI, vh_K_sI, vh_R_sI, vh_Z_sI, vh_sI_sI, vh_I_sI]
            refine next f4 _ (LH_23 hh3 g1) (fun hc b hb' => ?_) (fun b hb' => ?_)
            · rw [g2 (by rw [hh3.1 13 (by omega)]; exact hc) b hb', eV b, hf3.1 23 (by omega), e23, ht hc b hb', nI_add, sg_succ]
            · rw [b_or, Bool.or_eq_true, g3 b hb', eV b, hb b hb', sg_succ]
              omega
      · rw [if_pos q]
        have hG : G r i = 0 := Classical.byContradiction (fun z => q (hri.mpr z))
        exact same (fun b _ => by unfold Vr; rw [hG, Nat.zero_mul, Nat.mul_zero]) f0 hf (fun _ => rfl)
    by_cases qc : vh_I h 13 10 = 0
    · rw [if_neg (fun z => z qc)]
      simp only [s_53_95, s_53_97, s_53_99]
      by_cases qg : fd = gl
      · rw [if_pos qg]
        simp only [s_53_152, s_53_154, va_rf_s, pk_mul, nI_add, not_false_eq_true, and_self, true_and, Option.toList_some, Option.toList_none, List.append_nil, List.cons_append, List.nil_append, nI_01, nI_11, vh_K_wI, vh_R_wI, vh_Z_wI, vh_wI_sI, vh_K_sI, vh_R_sI, vh_Z_sI, vh_sI_sI, vh_I_sI]
        refine hQ f0 fd hf (fun z => absurd qc z) (fun b hb' => ⟨fun z => ?_, fun z => ?_⟩)
        · rw [hsum]
          exact sg_ne0 (by omega) ((hb b hb').mp z)
        · rw [qg]
          exact hgl b hb' z
      · rw [if_neg qg]
        exact body
    · rw [if_pos qc]
      exact body
theorem c_find {x kp xi si : Nat} {wt : Int32} {h : vt_H} {Q : vt_Q} {F : Nat → Bool} {G : Nat → Nat → Nat} (hC : CL h) (hx : x < 32) (hS : SB (vh_I h) F G kp xi si)
    (hQ : ∀ f' fd, FF (vh_I h) f' → (∀ b, b < 32 → (bt fd b = true ↔ bt wt b = true ∧ NX (vh_I h) F G xi si x b ≠ 0)) → (¬ vh_I h 13 10 = 0 → ¬ fd = 0 → ∀ b, b < 32 → bt wt b = true → f' 23 b = nI (NX (vh_I h) F G xi si x b)) → Q (some (.int fd)) (vh_sI h f')) :
    Wp 53 0 [.ref 13, .int (nI x), .int wt, vt_un, vt_un, vt_un, vt_un, vt_un] [] h Q := by
  have hC' := hC
  have hS' := hS
  obtain ⟨ck13, cr0, cr1, cr2, cr3, cr4, cr5, cr6, cr7, cr8, cr9, ck14, ck15, ck16, ck17, ck18, ck19, ck20, ck21, ck22, ck23, cz14, cz15, cz16, cz17, cz18, cz19, cz20, cz21, cz22, cz23⟩ := hC
  obtain ⟨⟨hs, hL, hk, es, hes, hcov⟩, ⟨h11, h12, h13⟩, ⟨hxi, hsi⟩, ⟨hfx, hfs⟩, hkp1, hkp2⟩ := hS
  have zero : ∀ f', FF (vh_I h) f' → (∀ b, b < 32 → bt wt b = true → NX (vh_I h) F G xi si x b = 0) → Q (some (.int (nI 0))) (vh_sI h f') := by
    intro f' q1 q2
    refine hQ f' (nI 0) q1 (fun b hb => ?_) (fun _ z => absurd rfl z)
    have n0 : bt (nI 0) b = false := b_0 b
    rw [n0]
    exact ⟨fun z => (by cases z), fun z => absurd (q2 b hb z.1) z.2⟩
  simp only [s_53_0, s_53_1, s_53_2, s_53_3, ck13, cr0, cr1, cr2, cr3, cr4, cr5, cr6, cr7, cr8, cr9, ck14, ck15, ck16, ck17, ck18, ck19, ck20, ck21, ck22, ck23, cz14, cz15, cz16, cz17, cz18, cz19, cz20, cz21, cz22, cz23, va_rf_s, pk_mul, nI_add, not_false_eq_true, and_self, true_and, Option.toList_some, Option.toList_none, List.append_nil, List.cons_append, List.nil_append, nI_01, nI_11, vh_K_wI, vh_R_wI, vh_Z_wI, vh_wI_sI, vh_K_sI, vh_R_sI, vh_Z_sI, vh_sI_sI, vh_I_sI]
  refine c_begin hC' hx hS' (fun f1 q1 q2 => ?_) (fun f1 F1 T1 G1 kn ff1 hL1 hFk1 hkn1 ht1 hN1 hN0 => ?_)
  · simp only [va_rf_s, pk_mul, nI_add, not_false_eq_true, and_self, true_and, Option.toList_some, Option.toList_none, List.append_nil, List.cons_append, List.nil_append, nI_01, nI_11, vh_K_wI, vh_R_wI, vh_Z_wI, vh_wI_sI, vh_K_sI, vh_R_sI, vh_Z_sI, vh_sI_sI, vh_I_sI, s_53_6]
    rw [if_pos nI_00]
    simp only [s_53_17, s_53_18]
    exact zero f1 q1 q2
  · simp only [va_rf_s, pk_mul, nI_add, not_false_eq_true, and_self, true_and, Option.toList_some, Option.toList_none, List.append_nil, List.cons_append, List.nil_append, nI_01, nI_11, vh_K_wI, vh_R_wI, vh_Z_wI, vh_wI_sI, vh_K_sI, vh_R_sI, vh_Z_sI, vh_sI_sI, vh_I_sI, s_53_6]
    rw [if_neg nI_10]
    have eE := FF_EE ff1
    have eA := FF_AA ff1
    have hC1 : CL (vh_sI h f1) := hC'
    simp only [s_53_9, s_53_10, s_53_11, ck13, cr0, cr1, cr2, cr3, cr4, cr5, cr6, cr7, cr8, cr9, ck14, ck15, ck16, ck17, ck18, ck19, ck20, ck21, ck22, ck23, cz14, cz15, cz16, cz17, cz18, cz19, cz20, cz21, cz22, cz23, va_rf_s, pk_mul, nI_add, not_false_eq_true, and_self, true_and, Option.toList_some, Option.toList_none, List.append_nil, List.cons_append, List.nil_append, nI_01, nI_11, vh_K_wI, vh_R_wI, vh_Z_wI, vh_wI_sI, vh_K_sI, vh_R_sI, vh_Z_sI, vh_sI_sI, vh_I_sI]
    refine c_foldAll (kp := kp) hC1 (by omega) (by rw [vh_I_sI, eE, eA]; exact hs) (KP_c hk (FF_13 ff1 (by decide))) hL1 (fun f2 hf2 hz => ?_) (fun f2 F2 T2 G2 hI hd => ?_)
    · simp only [va_rf_s, pk_mul, nI_add, not_false_eq_true, and_self, true_and, Option.toList_some, Option.toList_none, List.append_nil, List.cons_append, List.nil_append, nI_01, nI_11, vh_K_wI, vh_R_wI, vh_Z_wI, vh_wI_sI, vh_K_sI, vh_R_sI, vh_Z_sI, vh_sI_sI, vh_I_sI, s_53_14]
      rw [if_neg (fun z => z nI_00)]
      simp only [s_53_17, s_53_18]
      refine zero f2 (FF_LF ff1 (Nat.le_refl 1) hf2) (fun b hb hw => ?_)
      have := hz (cB kp kn b) (cB_ik kp kn b)
      rw [vh_I_sI, eE, eA] at this
      rw [hN1 b hb hw, this]
    · simp only [va_rf_s, pk_mul, nI_add, not_false_eq_true, and_self, true_and, Option.toList_some, Option.toList_none, List.append_nil, List.cons_append, List.nil_append, nI_01, nI_11, vh_K_wI, vh_R_wI, vh_Z_wI, vh_wI_sI, vh_K_sI, vh_R_sI, vh_Z_sI, vh_sI_sI, vh_I_sI, s_53_14]
      rw [if_pos nI_10]
      rw [vh_I_sI] at hI
      obtain ⟨hf2, hL2, i1, i2, i3⟩ := hI
      rw [eE, eA] at i3
      rw [vh_I_sI, eE] at hd
      have ff2 : FF (vh_I h) f2 := FF_LF ff1 (Nat.le_refl 1) hf2
      have eE2 := FF_EE ff2
      have eA2 := FF_AA ff2
      have hC2 : CL (vh_sI h f2) := hC'
      have hk2 : KP f2 kp := KP_c hk (FF_13 ff2 (by decide))
      have hFk2 : kp < 6 → F2 kp = true := fun z => by rw [i2 kp z rfl]; exact hFk1 z
      have hkn2 : ¬ kp < 6 → kn < 32 ∧ f2 13 15 = nI kn := fun z => ⟨(hkn1 z).1, by rw [hf2.1 13 (by omega)]; exact (hkn1 z).2⟩
      have eV : ∀ b, b < 32 → bt wt b = true → NX (vh_I h) F G xi si x b = T2 * N6 (cB kp kn b) F2 (EE (vh_I h)) (AA (vh_I h)) G2 := fun b hb hw => by rw [hN1 b hb hw, i3 _ (cB_ik kp kn b)]
      have eZ : ∀ b, b < 32 → ¬ bt wt b = true → T2 * N6 (cB kp kn b) F2 (EE (vh_I h)) (AA (vh_I h)) G2 = 0 := fun b hb hw => by rw [← i3 _ (cB_ik kp kn b), hN0 b hb hw, Nat.mul_zero]
      have h10 : f2 13 10 = vh_I h 13 10 := FF_13 ff2 (by decide)
      have t2 : ∀ b, b < 32 → f2 23 b = nI 0 := fun b hb => by rw [hf2.1 23 (by omega)]; exact ht1 b hb
      have fin : ∀ f' fd, FF (vh_I h) f' → (¬ vh_I h 13 10 = 0 → ∀ b, b < 32 → f' 23 b = nI (T2 * N6 (cB kp kn b) F2 (EE (vh_I h)) (AA (vh_I h)) G2)) → (∀ b, b < 32 → (bt fd b = true ↔ T2 * N6 (cB kp kn b) F2 (EE (vh_I h)) (AA (vh_I h)) G2 ≠ 0)) → Q (some (.int fd)) (vh_sI h f') := by
        intro f' fd q1 q2 q3
        refine hQ f' fd q1 (fun b hb => ?_) (fun hc _ b hb hw => ?_)
        · rw [q3 b hb]
          by_cases hw : bt wt b = true
          · rw [eV b hb hw]; exact ⟨fun z => ⟨hw, z⟩, fun z => z.2⟩
          · exact ⟨fun z => absurd (eZ b hb hw) z, fun z => absurd z.1 hw⟩
        · rw [q2 hc b hb, eV b hb hw]
      simp only [s_53_19, s_53_20, ck13, cr0, cr1, cr2, cr3, cr4, cr5, cr6, cr7, cr8, cr9, ck14, ck15, ck16, ck17, ck18, ck19, ck20, ck21, ck22, ck23, cz14, cz15, cz16, cz17, cz18, cz19, cz20, cz21, cz22, cz23, va_rf_s, pk_mul, nI_add, not_false_eq_true, and_self, true_and, Option.toList_some, Option.toList_none, List.append_nil, List.cons_append, List.nil_append, nI_01, nI_11, vh_K_wI, vh_R_wI, vh_Z_wI, vh_wI_sI, vh_K_sI, vh_R_sI, vh_Z_sI, vh_sI_sI, vh_I_sI]
      refine c_most hC2 hk2 hL2 (fun h1 => ?_) (fun r hr hFr hrk hmax => ?_)
      · simp only [s_53_23, s_53_24, s_53_25, va_rf_s, pk_mul, nI_add, not_false_eq_true, and_self, true_and, Option.toList_some, Option.toList_none, List.append_nil, List.cons_append, List.nil_append, nI_01, nI_11, vh_K_wI, vh_R_wI, vh_Z_wI, vh_wI_sI, vh_K_sI, vh_R_sI, vh_Z_sI, vh_sI_sI, vh_I_sI]
        rw [if_neg (by decide)]
        simp only [s_53_28, s_53_29, s_53_30, ck13, cr0, cr1, cr2, cr3, cr4, cr5, cr6, cr7, cr8, cr9, ck14, ck15, ck16, ck17, ck18, ck19, ck20, ck21, ck22, ck23, cz14, cz15, cz16, cz17, cz18, cz19, cz20, cz21, cz22, cz23, va_rf_s, pk_mul, nI_add, not_false_eq_true, and_self, true_and, Option.toList_some, Option.toList_none, List.append_nil, List.cons_append, List.nil_append, nI_01, nI_11, vh_K_wI, vh_R_wI, vh_Z_wI, vh_wI_sI, vh_K_sI, vh_R_sI, vh_Z_sI, vh_sI_sI, vh_I_sI]
        refine c_gather (kp := kp) (kn := kn) hC2 (by omega) (by rw [vh_I_sI, eE2, eA2]; exact hs) hk2 hkn2 hL2 h1 hFk2 (fun f3 x3 g1 g2 g3 => ?_)
        rw [vh_I_sI, eE2, eA2] at g2 g3
        simp only [va_rf_s, pk_mul, nI_add, not_false_eq_true, and_self, true_and, Option.toList_some, Option.toList_none, List.append_nil, List.cons_append, List.nil_append, nI_01, nI_11, vh_K_wI, vh_R_wI, vh_Z_wI, vh_wI_sI, vh_K_sI, vh_R_sI, vh_Z_sI, vh_sI_sI, vh_I_sI, s_53_33]
        refine fin f3 x3 (FF_LH ff2 (LH_23 (LH_refl _) g1)) (fun hc b hb => ?_) g3
        rw [g2 (by rw [h10]; exact hc) b hb, t2 b hb, nI_add, Nat.zero_add]
      · simp only [s_53_23, s_53_24, s_53_25, va_rf_s, pk_mul, nI_add, not_false_eq_true, and_self, true_and, Option.toList_some, Option.toList_none, List.append_nil, List.cons_append, List.nil_append, nI_01, nI_11, vh_K_wI, vh_R_wI, vh_Z_wI, vh_wI_sI, vh_K_sI, vh_R_sI, vh_Z_sI, vh_sI_sI, vh_I_sI]
        rw [if_pos (nI_pos' (by omega))]
        rw [vh_I_sI, eE2] at hmax
        have goal : ∀ gl : Int32, (∀ b, b < 32 → T2 * N6 (cB kp kn b) F2 (EE (vh_I h)) (AA (vh_I h)) G2 ≠ 0 → bt gl b = true) → Wp 53 64 [.ref 13, .int (nI x), .int wt, .int (nI r), .int gl, vt_un, vt_un, vt_un] [] (vh_sI h f2) Q := by
          intro gl hgl
          have b1 : 6 + r < 18 := by omega
          simp only [s_53_64, s_53_65, s_53_68, s_53_70, s_53_71, s_53_72, s_53_73, s_53_75, s_53_76, s_53_78, s_53_79, ck13, cr0, cr1, cr2, cr3, cr4, cr5, cr6, cr7, cr8, cr9, ck14, ck15, ck16, ck17, ck18, ck19, ck20, ck21, ck22, ck23, cz14, cz15, cz16, cz17, cz18, cz19, cz20, cz21, cz22, cz23, va_rf_s, pk_mul, nI_add, not_false_eq_true, and_self, true_and, Option.toList_some, Option.toList_none, List.append_nil, List.cons_append, List.nil_append, nI_01, nI_11, vh_K_wI, vh_R_wI, vh_Z_wI, vh_wI_sI, vh_K_sI, vh_R_sI, vh_Z_sI, vh_sI_sI, vh_I_sI, cl (show 6 + r < 2 ^ 31 by omega), ib b1 (show 18 ≤ 2 ^ 31 by omega)]
          have := l_find (h := vh_sI h f2) (Q := Q) (x := nI x) (wt := wt) (gl := gl) (r := r) (kp := kp) (kn := kn) hC2 (by rw [vh_I_sI, eE2, eA2]; exact hs) hk2 hkn2 hL2 hFk2 hes (by rw [vh_I_sI, eE2]; exact hcov) (by rw [vh_I_sI, eE2]; exact hd) hr hFr hrk (by rw [vh_I_sI, eE2]; exact hmax) (by rw [vh_I_sI, eE2, eA2]; exact hgl) (fun f' fd q1 q2 q3 => ?_) 32 0 (by omega) f2 (nI 0) (LH_refl _) (fun _ b hb => t2 b hb) (fun b hb => ?_)
          · exact this
          · rw [vh_I_sI, eE2, eA2] at q2 q3
            rw [vh_sI_sI]
            exact fin f' fd (FF_LH ff2 q1) (fun hc => q2 (by rw [h10]; exact hc)) q3
          · have n0 : bt (nI 0) b = false := b_0 b
            rw [n0]
            exact ⟨fun z => (by cases z), fun z => absurd rfl z⟩
        simp only [s_53_34, s_53_35, ck13, cr0, cr1, cr2, cr3, cr4, cr5, cr6, cr7, cr8, cr9, ck14, ck15, ck16, ck17, ck18, ck19, ck20, ck21, ck22, ck23, cz14, cz15, cz16, cz17, cz18, cz19, cz20, cz21, cz22, cz23, va_rf_s, pk_mul, nI_add, not_false_eq_true, and_self, true_and, Option.toList_some, Option.toList_none, List.append_nil, List.cons_append, List.nil_append, nI_01, nI_11, vh_K_wI, vh_R_wI, vh_Z_wI, vh_wI_sI, vh_K_sI, vh_R_sI, vh_Z_sI, vh_sI_sI, vh_I_sI, s_53_38]
        rcases hk2 with ⟨k1, k2⟩ | ⟨k1, k2⟩
        · rw [k2, if_neg (nI_pos (by omega))]
          have b1 : 6 + kp < 18 := by omega
          simp only [s_53_41, s_53_42, s_53_45, s_53_47, s_53_48, s_53_51, s_53_52, s_53_53, s_53_62, ck13, cr0, cr1, cr2, cr3, cr4, cr5, cr6, cr7, cr8, cr9, ck14, ck15, ck16, ck17, ck18, ck19, ck20, ck21, ck22, ck23, cz14, cz15, cz16, cz17, cz18, cz19, cz20, cz21, cz22, cz23, va_rf_s, pk_mul, nI_add, not_false_eq_true, and_self, true_and, Option.toList_some, Option.toList_none, List.append_nil, List.cons_append, List.nil_append, nI_01, nI_11, vh_K_wI, vh_R_wI, vh_Z_wI, vh_wI_sI, vh_K_sI, vh_R_sI, vh_Z_sI, vh_sI_sI, vh_I_sI, k2, cl (show 6 + kp < 2 ^ 31 by omega), ib b1 (show 18 ≤ 2 ^ 31 by omega)]
          refine goal _ (fun b hb hne => ?_)
          have := hL2.2.2.1 kp b k1 hb (hFk2 k1)
          rw [show 1 * 6 + kp = 6 + kp by omega] at this
          rw [this]
          intro hz
          refine hne ?_
          rw [N6_nul, Nat.mul_zero]
          intro w _ hc
          rcases hc with hc | hc
          · exact ⟨kp, k1, by rw [hc.2]; exact hz⟩
          · exact absurd k1 hc.1
        · have k3 : ¬ kp < 6 := by omega
          obtain ⟨n1, n2⟩ := hkn2 k3
          rw [k2, if_pos (by decide)]
          simp only [s_53_56, s_53_57, s_53_58, s_53_61, s_53_62, ck13, cr0, cr1, cr2, cr3, cr4, cr5, cr6, cr7, cr8, cr9, ck14, ck15, ck16, ck17, ck18, ck19, ck20, ck21, ck22, ck23, cz14, cz15, cz16, cz17, cz18, cz19, cz20, cz21, cz22, cz23, va_rf_s, pk_mul, nI_add, not_false_eq_true, and_self, true_and, Option.toList_some, Option.toList_none, List.append_nil, List.cons_append, List.nil_append, nI_01, nI_11, vh_K_wI, vh_R_wI, vh_Z_wI, vh_wI_sI, vh_K_sI, vh_R_sI, vh_Z_sI, vh_sI_sI, vh_I_sI, n2]
          refine goal _ (fun b hb hne => ?_)
          show bt (j1 (nI kn)) b = true
          rw [bt_j1 n1 hb]
          refine Classical.byContradiction (fun hz => hne ?_)
          rw [N6_nul, Nat.mul_zero]
          intro w _ hc
          rcases hc with hc | hc
          · exact absurd hc.1 k3
          · exact absurd (by simp [hc.2]) hz

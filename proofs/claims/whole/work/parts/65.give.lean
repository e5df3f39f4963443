-- ===== MODEL of the class: give =====
/-- the model 4, what holds 10, the cases 13, what the last round gave la, what this one gives fr -/
def MO (h : vt_H) (la fr : Nat) : Prop := vh_K h 4 = 102 ∧ vh_R h 4 3 = some 10 ∧ vh_R h 4 4 = some 13 ∧ vh_R h 4 7 = some la ∧ vh_R h 4 8 = some fr ∧ FT h 10 11 12 ∧ FT h la (la + 1) (la + 2) ∧ FT h fr (fr + 1) (fr + 2) ∧ CL h ∧ ((la = 42 ∧ fr = 45) ∨ (la = 45 ∧ fr = 42))
/-- what a rule gives -/
def HD (Hs : Nat → Nat → Nat → Nat → Bool) (ρ : Nat → Nat) (a b : Nat) : Prop := (ρ 3 = 0 ∧ CT Hs ρ a b ≠ 0) ∨ (ρ 3 ≠ 0 ∧ (∃ b', b' < 32 ∧ CT Hs ρ a b' ≠ 0) ∧ AG (ρ 3) (CT Hs ρ a) b)
noncomputable def hd (Hs : Nat → Nat → Nat → Nat → Bool) (ρ : Nat → Nat) (a b : Nat) : Bool := @decide (HD Hs ρ a b) (Classical.propDecidable _)
theorem hd_t {Hs : Nat → Nat → Nat → Nat → Bool} {ρ : Nat → Nat} {a b : Nat} : hd Hs ρ a b = true ↔ HD Hs ρ a b := @decide_eq_true_iff _ (Classical.propDecidable _)
/-- the names of a set of facts, as bits -/
def FN (x : Int32) (W : Nat → Nat → Nat → Bool) : Prop := (∀ n, n < 16 → (bt x n = true ↔ ∃ a b, a < 32 ∧ b < 32 ∧ W n a b = true)) ∧ ∀ n, 16 ≤ n → n < 32 → bt x n = false
theorem LD_self {f f1 : Nat → Nat → Int32} {ρ : Nat → Nat} {Hs : Nat → Nat → Nat → Nat → Bool} {t : Int32} (h : LD f f1 ρ Hs t) : LD f1 f1 ρ Hs t := ⟨fun _ _ _ => rfl, h.2⟩
theorem LD_out {f f' : Nat → Nat → Int32} {ρ : Nat → Nat} {Hs : Nat → Nat → Nat → Nat → Bool} {t : Int32} (h : LD f f ρ Hs t) (e : ∀ c, ¬ aw c → ∀ j, f' c j = f c j) : LD f' f' ρ Hs t := by
  obtain ⟨_, ⟨⟨a1, a2⟩, ⟨a3, a4⟩, a5, a6, a7, a8⟩, ⟨c1, c2, c3, c4⟩, h5, h6⟩ := h
  have e' : ∀ c, (13 ≤ c ∧ c ≤ 23) → ∀ j, f' c j = f c j := fun c hc j => e c (by unfold aw; omega) j
  have eE : EE f' = EE f := by funext u v; unfold EE; rw [e' 15 (by omega)]
  have eA : AA f' = AA f := by funext u v a b; unfold AA; rw [e' 14 (by omega)]
  have e18 : f' 18 0 = f 18 0 := e' 18 (by omega) 0
  have e20 : ∀ v, f' 20 v = f 20 v := fun v => e' 20 (by omega) v
  have e13 : ∀ j, f' 13 j = f 13 j := fun j => e' 13 (by omega) j
  refine ⟨fun _ _ _ => rfl, ⟨⟨by rw [eE, eA]; exact a1, by rw [eE]; exact a2⟩, ⟨by rw [e18]; exact a3, by rw [e18]; exact a4⟩, fun v n hv => by rw [e20]; exact a5 v n hv, by rw [eE]; exact a6, fun z w hw => ?_, fun z w hw => a8 (by rw [← e13]; exact z) w hw⟩, ⟨by rw [e13]; exact c1, by rw [e13]; exact c2, by rw [e13]; exact c3, by rw [e13]; exact c4⟩, by rw [e' 19 (by omega)]; exact h5, fun z j hj => by rw [e' 21 (by omega)]; exact h6 z j hj⟩
  rw [a7 (by rw [← e13]; exact z) w hw]
  have r1 : RG f' w ↔ RG f w := by unfold RG; exact ⟨fun q v hv => by rw [← e20]; exact q v hv, fun q v hv => by rw [e20]; exact q v hv⟩
  have r2 : LK f' w ↔ LK f w := by unfold LK; rw [eE, eA]
  rw [r1, r2]
/-- the facts of this round with a rule's heads for first numbers below i -/
noncomputable def wg (W P : Nat → Nat → Nat → Bool) (Hs : Nat → Nat → Nat → Nat → Bool) (ρ : Nat → Nat) (i : Nat) : Nat → Nat → Nat → Bool := fun n a b => W n a b || (decide (n = ρ 0 ∧ a < i) && (!P n a b && hd Hs ρ a b))
theorem wg_t {W P : Nat → Nat → Nat → Bool} {Hs : Nat → Nat → Nat → Nat → Bool} {ρ : Nat → Nat} {i n a b : Nat} : wg W P Hs ρ i n a b = true ↔ W n a b = true ∨ ((n = ρ 0 ∧ a < i) ∧ (¬ P n a b = true ∧ HD Hs ρ a b)) := by
  unfold wg
  rw [Bool.or_eq_true, Bool.and_eq_true, Bool.and_eq_true, decide_eq_true_eq, hd_t]
  simp
theorem beq2 {p q : Bool} (z : p = true ↔ q = true) : p = q := by
  cases p <;> cases q
  · rfl
  · exact absurd (z.mpr rfl) (by decide)
  · exact absurd (z.mp rfl) (by decide)
  · rfl
/-- what give leaves as it is -/
def GF (f f' : Nat → Nat → Int32) (fr : Nat) : Prop := (∀ c, aw c → c ≠ 4 → c ≠ fr + 1 → c ≠ fr + 2 → ∀ j, f' c j = f c j) ∧ ∀ j, j ≠ 10 → f' 4 j = f 4 j
theorem GF_trans {f g k : Nat → Nat → Int32} {fr : Nat} (h : GF f g fr) (h2 : GF g k fr) : GF f k fr := ⟨fun c h1 h3 h4 h5 j => (h2.1 c h1 h3 h4 h5 j).trans (h.1 c h1 h3 h4 h5 j), fun j hj => (h2.2 j hj).trans (h.2 j hj)⟩
theorem l_give {r d n x y la fr : Nat} {lp t fn : Int32} {h : vt_H} {Q : vt_Q} {ρ : Nat → Nat} {P L W : Nat → Nat → Nat → Bool} {Hs : Nat → Nat → Nat → Nat → Bool} (hM : MO h la fr) (hR : RL h r d n x y) (hV : RV (vh_I h) r d n x y ρ) (ha : (48 < r ∧ 48 < d) ∧ 48 < n ∧ 48 < x ∧ 48 < y) (h2 : hs2 ρ) (hP : FR (vh_I h) 11 12 P) (ht : ρ 3 = 1 ∨ ρ 3 = 2 → ¬ t = 0) (hfn : ∀ a b, a < 32 → b < 32 → CT Hs ρ a b ≠ 0 → bt fn a = true)
    (hQ : ∀ f', GF (vh_I h) f' fr → FR f' (fr + 1) (fr + 2) (wg W P Hs ρ 32) → FN (f' 4 10) (wg W P Hs ρ 32) → Q none (vh_sI h f')) :
    ∀ (k i : Nat), i + k = 32 → ∀ f0 y5 y6 y7, GF (vh_I h) f0 fr → LD f0 f0 ρ Hs t → FR f0 (fr + 1) (fr + 2) (wg W P Hs ρ i) → FN (f0 4 10) (wg W P Hs ρ i) → Wp 43 32 [.ref 4, .ref r, .int lp, .int fn, .int (nI i), y5, y6, y7] [] (vh_sI h f0) Q := by
  obtain ⟨m1, m2, m3, m4, m5, hT, hTl, hTf, hC, hlf⟩ := hM
  obtain ⟨t1, t2, t3, t4, t5, t6, t7⟩ := hT
  obtain ⟨u1, u2, u3, u4, u5, u6, u7⟩ := hTf
  have hTf' : FT h fr (fr + 1) (fr + 2) := ⟨u1, u2, u3, u4, u5, u6, u7⟩
  have hC' := hC
  obtain ⟨ck13, cr0, cr1, cr2, cr3, cr4, cr5, cr6, cr7, cr8, cr9, ck14, ck15, ck16, ck17, ck18, ck19, ck20, ck21, ck22, ck23, cz14, cz15, cz16, cz17, cz18, cz19, cz20, cz21, cz22, cz23⟩ := hC
  have hR' := hR
  obtain ⟨h1, -⟩ := hR
  obtain ⟨⟨v0, v0'⟩, ⟨v1, v1'⟩, ⟨v2, v2'⟩, ⟨v3, v3'⟩, v4, ⟨v5, v5'⟩, vp⟩ := hV
  have hV' : RV (vh_I h) r d n x y ρ := ⟨⟨v0, v0'⟩, ⟨v1, v1'⟩, ⟨v2, v2'⟩, ⟨v3, v3'⟩, v4, ⟨v5, v5'⟩, vp⟩
  have s38 := sec_38 hV'
  have awr : aw r := by unfold aw; omega
  have kr : ∀ f0 : Nat → Nat → Int32, GF (vh_I h) f0 fr → ∀ j, f0 r j = vh_I h r j := fun f0 g j => g.1 r awr (by omega) (by omega) (by omega) j
  have kn : ∀ f0 : Nat → Nat → Int32, GF (vh_I h) f0 fr → (f0 r 3 = -nI 1 ↔ ρ 3 = 0) := fun f0 g => by
    rw [kr f0 g, v3]
    exact kI_eq (ρ 3) v3' 0 (by omega)
  intro k
  induction k with
  | zero =>
    intro i hi f0 y5 y6 y7 hg hD hW hN
    have : i = 32 := by omega
    subst this
    simp only [s_43_32, s_43_34, s_43_36, s_43_195, if_pos (nI_le (Nat.le_refl 32) (show 32 < 2 ^ 31 by omega))]
    exact hQ f0 hg hW hN
  | succ k ih =>
    intro i hi f0 y5 y6 y7 hg hD hW hN
    have hlt : i < 32 := by omega
    have b1 : 32 * ρ 0 + i < 512 := by omega
    have same : (∀ b, b < 32 → ¬ HD Hs ρ i b) → ∀ n' a' b', n' < 16 → a' < 32 → b' < 32 → wg W P Hs ρ i n' a' b' = wg W P Hs ρ (i + 1) n' a' b' := by
      intro no n' a' b' _ _ hb'
      refine beq2 (wg_t.trans (Iff.trans ?_ wg_t.symm))
      constructor
      · rintro (z | ⟨⟨z1, z2⟩, z3⟩)
        · exact Or.inl z
        · exact Or.inr ⟨⟨z1, by omega⟩, z3⟩
      · rintro (z | ⟨⟨z1, z2⟩, z3⟩)
        · exact Or.inl z
        · refine Or.inr ⟨⟨z1, ?_⟩, z3⟩
          have : a' ≠ i := fun e => no b' hb' (e ▸ z3.2)
          omega
    have FNc : ∀ {z : Int32} {A B : Nat → Nat → Nat → Bool}, FN z A → (∀ n' a' b', n' < 16 → a' < 32 → b' < 32 → A n' a' b' = B n' a' b') → FN z B := by
      intro z A B q e
      refine ⟨fun n' hn' => (q.1 n' hn').trans ⟨?_, ?_⟩, q.2⟩
      · rintro ⟨a', b', h1, h2, h3⟩; exact ⟨a', b', h1, h2, by rw [← e n' a' b' hn' h1 h2]; exact h3⟩
      · rintro ⟨a', b', h1, h2, h3⟩; exact ⟨a', b', h1, h2, by rw [e n' a' b' hn' h1 h2]; exact h3⟩
    simp only [s_43_32, s_43_34, s_43_36, if_neg (nI_ge hlt (show 32 < 2 ^ 31 by omega))]
    simp only [s_43_39, s_43_40, s_43_42, s_43_43]
    by_cases hz : ∀ j, i ≤ j → j < 32 → bt fn j = false
    · rw [if_pos ((bt_ju0 fn hlt).mpr hz)]
      simp only [s_43_195]
      have e : ∀ n' a' b', n' < 16 → a' < 32 → b' < 32 → wg W P Hs ρ i n' a' b' = wg W P Hs ρ 32 n' a' b' := by
        intro n' a' b' _ ha' hb'
        refine beq2 (wg_t.trans (Iff.trans ?_ wg_t.symm))
        constructor
        · rintro (z | ⟨⟨z1, z2⟩, z3⟩)
          · exact Or.inl z
          · exact Or.inr ⟨⟨z1, by omega⟩, z3⟩
        · rintro (z | ⟨⟨z1, z2⟩, z3⟩)
          · exact Or.inl z
          · refine Or.inr ⟨⟨z1, ?_⟩, z3⟩
            refine Classical.byContradiction (fun q => ?_)
            have zz := hz a' (by omega) ha'
            have : ∃ b'', b'' < 32 ∧ CT Hs ρ a' b'' ≠ 0 := by
              rcases z3.2 with w | w
              · exact ⟨b', hb', w.2⟩
              · exact w.2.1
            obtain ⟨b'', hb'', hne⟩ := this
            rw [hfn a' b'' ha' hb'' hne] at zz
            cases zz
      exact hQ f0 hg (FR_congr hW e) (FNc hN e)
    · rw [if_neg (fun q => hz ((bt_ju0 fn hlt).mp q))]
      have e0 : f0 r 0 = nI (ρ 0) := (kr f0 hg 0).trans v0
      have e11 : f0 11 (32 * ρ 0 + i) = vh_I h 11 (32 * ρ 0 + i) := hg.1 11 (by unfold aw; omega) (by omega) (by omega) (by omega) _
      simp only [s_43_46, s_43_48, s_43_49, s_43_52, s_43_53, s_43_55, s_43_56, s_43_58, s_43_59, s_43_62, s_43_65, s_43_67, s_43_68, s_43_69, s_43_72, s_43_75, s_43_77, s_43_78, s_43_79, s_43_80, s_43_81, va_rf_s, pk_mul, nI_add, not_false_eq_true, and_self, true_and, Option.toList_some, Option.toList_none, List.append_nil, List.cons_append, List.nil_append, nI_01, nI_11, vh_K_wI, vh_R_wI, vh_Z_wI, vh_wI_sI, vh_K_sI, vh_R_sI, vh_Z_sI, vh_sI_sI, vh_I_sI, h1, m1, m2, m5, t1, t2, t4, t5, u1, u2, u4, u5, e0, cl (show 32 * ρ 0 + i < 2 ^ 31 by omega), ib b1 (show 512 ≤ 2 ^ 31 by omega)]
      generalize hop : (f0 11 (32 * ρ 0 + i) ||| f0 (fr + 1) (32 * ρ 0 + i)) ^^^ -nI 1 = op
      have hob : ∀ b, b < 32 → (bt op b = true ↔ ¬ P (ρ 0) i b = true ∧ ¬ wg W P Hs ρ i (ρ 0) i b = true) := by
        intro b hb
        rw [← hop, bt_not _ hb, b_or, e11, (hP (ρ 0) i b v0' hlt hb).1, (hW (ρ 0) i b v0' hlt hb).1]
        cases P (ρ 0) i b <;> cases wg W P Hs ρ i (ρ 0) i b <;> simp
      have tail : ∀ (f1 : Nat → Nat → Int32) (fd : Int32), GF (vh_I h) f1 fr → LD f1 f1 ρ Hs t → (∀ c, aw c → ∀ j, f1 c j = f0 c j) → (∀ b, b < 32 → (bt fd b = true ↔ (¬ P (ρ 0) i b = true ∧ ¬ wg W P Hs ρ i (ρ 0) i b = true) ∧ HD Hs ρ i b)) → ∀ y5 y6, Wp 43 154 [.ref 4, .ref r, .int lp, .int fn, .int (nI i), y5, y6, .int fd] [] (vh_sI h f1) Q := by
        intro f1 fd g1 d1 s1 hb1 y5 y6
        have awf1 : aw (fr + 1) := by unfold aw; omega
        have awf2 : aw (fr + 2) := by unfold aw; omega
        have aw4 : aw 4 := by unfold aw; omega
        have hW1 : FR f1 (fr + 1) (fr + 2) (wg W P Hs ρ i) := fun a b c q1 q2 q3 => by rw [s1 _ awf1, s1 _ awf2]; exact hW a b c q1 q2 q3
        have hN1 : FN (f1 4 10) (wg W P Hs ρ i) := by rw [s1 4 aw4]; exact hN
        simp only [s_43_154, s_43_156]
        by_cases q : fd = 0
        · rw [if_pos q]
          simp only [s_43_189, s_43_192, va_rf_s, pk_mul, nI_add, not_false_eq_true, and_self, true_and, Option.toList_some, Option.toList_none, List.append_nil, List.cons_append, List.nil_append, nI_01, nI_11, vh_K_wI, vh_R_wI, vh_Z_wI, vh_wI_sI, vh_K_sI, vh_R_sI, vh_Z_sI, vh_sI_sI, vh_I_sI]
          have e : ∀ n' a' b', n' < 16 → a' < 32 → b' < 32 → wg W P Hs ρ i n' a' b' = wg W P Hs ρ (i + 1) n' a' b' := by
            intro n' a' b' _ _ hb'
            refine beq2 (wg_t.trans (Iff.trans ?_ wg_t.symm))
            constructor
            · rintro (z | ⟨⟨z1, z2⟩, z3⟩)
              · exact Or.inl z
              · exact Or.inr ⟨⟨z1, by omega⟩, z3⟩
            · rintro (z | ⟨⟨z1, z2⟩, z3⟩)
              · exact Or.inl z
              · by_cases ea : a' = i
                · subst ea
                  subst z1
                  refine Classical.byContradiction (fun w => ?_)
                  have := (hb1 b' hb').mpr ⟨⟨z3.1, fun y => w (wg_t.mp y)⟩, z3.2⟩
                  rw [q, b_0] at this
                  cases this
                · exact Or.inr ⟨⟨z1, by omega⟩, z3⟩
          exact ih (i + 1) (by omega) f1 _ _ _ g1 d1 (FR_congr hW1 e) (FNc hN1 e)
        · rw [if_neg q]
          have e01 : f1 r 0 = nI (ρ 0) := (kr f1 g1 0).trans v0
          have hTf1 : FT (vh_sI h f1) fr (fr + 1) (fr + 2) := hTf'
          simp only [s_43_159, s_43_160, s_43_163, s_43_164, s_43_167, s_43_169, s_43_171, va_rf_s, pk_mul, nI_add, not_false_eq_true, and_self, true_and, Option.toList_some, Option.toList_none, List.append_nil, List.cons_append, List.nil_append, nI_01, nI_11, vh_K_wI, vh_R_wI, vh_Z_wI, vh_wI_sI, vh_K_sI, vh_R_sI, vh_Z_sI, vh_sI_sI, vh_I_sI, h1, m1, m5, u1, e01]
          refine c_addAll hTf1 (by omega) v0' hlt hW1 (fun f2 p1 p2 => ?_)
          have er2 : f2 r 0 = nI (ρ 0) := by rw [p2 r (by omega) (by omega), vh_I_sI]; exact e01
          have e410 : f2 4 10 = f1 4 10 := by rw [p2 4 (by omega) (by omega)]; rfl
          simp only [va_rf_s, pk_mul, nI_add, not_false_eq_true, and_self, true_and, Option.toList_some, Option.toList_none, List.append_nil, List.cons_append, List.nil_append, nI_01, nI_11, vh_K_wI, vh_R_wI, vh_Z_wI, vh_wI_sI, vh_K_sI, vh_R_sI, vh_Z_sI, vh_sI_sI, vh_I_sI]
          simp only [s_43_174, s_43_175, s_43_176, s_43_179, s_43_180, s_43_181, s_43_184, s_43_185, s_43_186, va_rf_s, pk_mul, nI_add, not_false_eq_true, and_self, true_and, Option.toList_some, Option.toList_none, List.append_nil, List.cons_append, List.nil_append, nI_01, nI_11, vh_K_wI, vh_R_wI, vh_Z_wI, vh_wI_sI, vh_K_sI, vh_R_sI, vh_Z_sI, vh_sI_sI, vh_I_sI, h1, m1, er2]
          simp only [s_43_189, s_43_192, va_rf_s, pk_mul, nI_add, not_false_eq_true, and_self, true_and, Option.toList_some, Option.toList_none, List.append_nil, List.cons_append, List.nil_append, nI_01, nI_11, vh_K_wI, vh_R_wI, vh_Z_wI, vh_wI_sI, vh_K_sI, vh_R_sI, vh_Z_sI, vh_sI_sI, vh_I_sI]
          have e : ∀ n' a' b', n' < 16 → a' < 32 → b' < 32 → (wg W P Hs ρ i n' a' b' || (decide (n' = ρ 0 ∧ a' = i) && bt fd b')) = wg W P Hs ρ (i + 1) n' a' b' := by
            intro n' a' b' _ _ hb'
            refine beq2 ?_
            rw [Bool.or_eq_true, Bool.and_eq_true, decide_eq_true_eq, hb1 b' hb', wg_t]
            constructor
            · rintro (z | ⟨⟨z1, z2⟩, z3⟩)
              · rcases wg_t.mp (wg_t.mpr z) with z | ⟨⟨z1, z2⟩, z3⟩
                · exact wg_t.mpr (Or.inl z)
                · exact wg_t.mpr (Or.inr ⟨⟨z1, by omega⟩, z3⟩)
              · subst z1; subst z2
                exact wg_t.mpr (Or.inr ⟨⟨rfl, by omega⟩, z3.1.1, z3.2⟩)
            · intro z
              rcases wg_t.mp z with z | ⟨⟨z1, z2⟩, z3⟩
              · exact Or.inl (Or.inl z)
              · by_cases ea : a' = i
                · subst ea; subst z1
                  by_cases w : wg W P Hs ρ a' (ρ 0) a' b' = true
                  · exact Or.inl (wg_t.mp w)
                  · exact Or.inr ⟨⟨rfl, rfl⟩, ⟨z3.1, w⟩, z3.2⟩
                · exact Or.inl (Or.inr ⟨⟨z1, by omega⟩, z3⟩)
          have frc : FR (up2 f2 4 10 (f2 4 10 ||| nI 1 <<< (nI (ρ 0) &&& 31))) (fr + 1) (fr + 2) (wg W P Hs ρ (i + 1)) := by
            refine FR_congr (P := fun n' a' b' => wg W P Hs ρ i n' a' b' || (decide (n' = ρ 0 ∧ a' = i) && bt fd b')) (fun a b c q1 q2 q3 => ?_) e
            rw [up2_a _ _ _ (by omega), up2_a _ _ _ (by omega)]
            exact p1 a b c q1 q2 q3
          refine ih (i + 1) (by omega) _ _ _ _ ⟨fun c q1 q2 q3 q4 j => ?_, fun j hj => ?_⟩ (LD_out d1 (fun c hc j => ?_)) frc ?_
          · rw [up2_a _ _ _ q2, p2 c q3 q4, vh_I_sI]; exact g1.1 c q1 q2 q3 q4 j
          · rw [up2_i _ _ _ _ hj, p2 4 (by omega) (by omega), vh_I_sI]; exact g1.2 j hj
          · have hc' : ¬ (c < 13 ∨ 23 < c) := hc
            rw [up2_a _ _ _ (by omega), p2 c (by omega) (by omega), vh_I_sI]
          · rw [up2_s, e410]
            obtain ⟨b0, hb0, hbt, _⟩ := bt_ex q
            refine ⟨fun n' hn' => ?_, fun n' z1 z2 => ?_⟩
            · show bt (f1 4 10 ||| j1 (nI (ρ 0))) n' = true ↔ _
              rw [b_or, Bool.or_eq_true, bt_j1 (by omega) (by omega), hN1.1 n' hn', decide_eq_true_eq]
              constructor
              · rintro (⟨a', b', z1, z2, z3⟩ | z)
                · refine ⟨a', b', z1, z2, ?_⟩
                  rw [← e n' a' b' hn' z1 z2, z3]; rfl
                · refine ⟨i, b0, hlt, hb0, ?_⟩
                  rw [← e n' i b0 hn' hlt hb0, hbt, z]; simp
              · rintro ⟨a', b', z1, z2, z3⟩
                rw [← e n' a' b' hn' z1 z2, Bool.or_eq_true, Bool.and_eq_true, decide_eq_true_eq] at z3
                rcases z3 with z3 | z3
                · exact Or.inl ⟨a', b', z1, z2, z3⟩
                · exact Or.inr z3.1.1
            · show bt (f1 4 10 ||| j1 (nI (ρ 0))) n' = false
              rw [b_or, bt_j1 (by omega) z2, hN1.2 n' z1 z2, decide_eq_false (by omega)]
              rfl
      simp only [s_43_83, s_43_84, s_43_86, va_rf_s, pk_mul, nI_add, not_false_eq_true, and_self, true_and, Option.toList_some, Option.toList_none, List.append_nil, List.cons_append, List.nil_append, nI_01, nI_11, vh_K_wI, vh_R_wI, vh_Z_wI, vh_wI_sI, vh_K_sI, vh_R_sI, vh_Z_sI, vh_sI_sI, vh_I_sI, c_isIn, jbit_bt _ hlt, jb_0, s_43_89]
      -- what find says, then what is made of it
      have mid : ∀ (f1 : Nat → Nat → Int32) (fd : Int32), GF (vh_I h) f1 fr → LD f1 f1 ρ Hs t → (∀ c, aw c → ∀ j, f1 c j = f0 c j) → (ρ 3 = 0 → ∀ b, b < 32 → (bt fd b = true ↔ bt op b = true ∧ CT Hs ρ i b ≠ 0)) → (ρ 3 ≠ 0 → ∀ b, b < 32 → (bt fd b = true ↔ CT Hs ρ i b ≠ 0)) → (ρ 3 = 1 ∨ ρ 3 = 2 → ¬ fd = 0 → ∀ b, b < 32 → f1 23 b = nI (CT Hs ρ i b)) → ∀ y5 y7, Wp 43 119 [.ref 4, .ref r, .int lp, .int fn, .int (nI i), y5, .int op, y7] [.int fd] (vh_sI h f1) Q := by
        intro f1 fd g1 d1 s1 q1 q2 q3 y5 y7
        have e3 := kn f1 g1
        simp only [s_43_119, s_43_121, s_43_122, s_43_125, va_rf_s, pk_mul, nI_add, not_false_eq_true, and_self, true_and, Option.toList_some, Option.toList_none, List.append_nil, List.cons_append, List.nil_append, nI_01, nI_11, vh_K_wI, vh_R_wI, vh_Z_wI, vh_wI_sI, vh_K_sI, vh_R_sI, vh_Z_sI, vh_sI_sI, vh_I_sI, h1, s_43_126]
        by_cases z : ρ 3 = 0
        · rw [if_pos (e3.mpr z)]
          refine tail f1 fd g1 d1 s1 (fun b hb => ?_) _ _
          rw [q1 z b hb, hob b hb]
          constructor
          · rintro ⟨w1, w2⟩; exact ⟨w1, Or.inl ⟨z, w2⟩⟩
          · rintro ⟨w1, w2⟩
            rcases w2 with w2 | w2
            · exact ⟨w1, w2.2⟩
            · exact absurd z w2.1
        · rw [if_neg (fun w => z (e3.mp w))]
          simp only [s_43_129, s_43_131]
          by_cases q : fd = 0
          · rw [if_pos q]
            refine tail f1 fd g1 d1 s1 (fun b hb => ?_) _ _
            rw [q, b_0]
            constructor
            · intro w; cases w
            · rintro ⟨_, w⟩
              rcases w with w | w
              · exact absurd w.1 z
              · obtain ⟨b', hb', hne⟩ := w.2.1
                have := (q2 z b' hb').mpr hne
                rw [q, b_0] at this
                cases this
          · rw [if_neg q]
            have e33 : f1 r 3 = kI (ρ 3) := (kr f1 g1 3).trans v3
            have hC1 : CL (vh_sI h f1) := hC'
            simp only [s_43_134, s_43_136, s_43_137, s_43_138, s_43_141, s_43_142, s_43_145, s_43_147, va_rf_s, pk_mul, nI_add, not_false_eq_true, and_self, true_and, Option.toList_some, Option.toList_none, List.append_nil, List.cons_append, List.nil_append, nI_01, nI_11, vh_K_wI, vh_R_wI, vh_Z_wI, vh_wI_sI, vh_K_sI, vh_R_sI, vh_Z_sI, vh_sI_sI, vh_I_sI, h1, m1, m3, ck13, e33]
            refine c_total (N := fun b => CT Hs ρ i b) hC1 z v3' (q2 z) q (fun w => q3 w q) (fun v hv hag => ?_)
            simp only [va_rf_s, pk_mul, nI_add, not_false_eq_true, and_self, true_and, Option.toList_some, Option.toList_none, List.append_nil, List.cons_append, List.nil_append, nI_01, nI_11, vh_K_wI, vh_R_wI, vh_Z_wI, vh_wI_sI, vh_K_sI, vh_R_sI, vh_Z_sI, vh_sI_sI, vh_I_sI]
            simp only [s_43_150, s_43_151, s_43_152, va_rf_s, pk_mul, nI_add, not_false_eq_true, and_self, true_and, Option.toList_some, Option.toList_none, List.append_nil, List.cons_append, List.nil_append, nI_01, nI_11, vh_K_wI, vh_R_wI, vh_Z_wI, vh_wI_sI, vh_K_sI, vh_R_sI, vh_Z_sI, vh_sI_sI, vh_I_sI]
            refine tail f1 _ g1 d1 s1 (fun b hb => ?_) _ _
            show bt (op &&& j1 (nI v)) b = true ↔ _
            rw [b_and, Bool.and_eq_true, bt_j1 hv hb, decide_eq_true_eq, hob b hb]
            constructor
            · rintro ⟨w1, w2⟩
              obtain ⟨b', hb', hbb, _⟩ := bt_ex q
              exact ⟨w1, Or.inr ⟨z, ⟨b', hb', (q2 z b' hb').mp hbb⟩, by rw [w2]; exact hag⟩⟩
            · rintro ⟨w1, w2⟩
              rcases w2 with w2 | w2
              · exact absurd w2.1 z
              · exact ⟨w1, AG_uniq w2.2.2 hag⟩
      by_cases qx : bt fn i = true
      · rw [if_neg (fun z => z qx)]
        have hC0 : CL (vh_sI h f0) := hC'
        have go : ∀ wt : Int32, (ρ 3 = 0 → wt = op) → (ρ 3 ≠ 0 → wt = -nI 1) → ∀ y5 y7, Wp 43 112 [.ref 4, .ref r, .int lp, .int fn, .int (nI i), y5, .int op, y7] [.int wt, .int (nI i), .ref 13] (vh_sI h f0) Q := by
          intro wt w0 w1 y5 y7
          simp only [s_43_112, va_rf_s, pk_mul, nI_add, not_false_eq_true, and_self, true_and, Option.toList_some, Option.toList_none, List.append_nil, List.cons_append, List.nil_append, nI_01, nI_11, vh_K_wI, vh_R_wI, vh_Z_wI, vh_wI_sI, vh_K_sI, vh_R_sI, vh_Z_sI, vh_sI_sI, vh_I_sI, ck13]
          refine c_findL (f := f0) hC0 hlt hD v1' s38 v5' h2 (fun f1 fd z1 z2 z3 => ?_)
          simp only [va_rf_s, pk_mul, nI_add, not_false_eq_true, and_self, true_and, Option.toList_some, Option.toList_none, List.append_nil, List.cons_append, List.nil_append, nI_01, nI_11, vh_K_wI, vh_R_wI, vh_Z_wI, vh_wI_sI, vh_K_sI, vh_R_sI, vh_Z_sI, vh_sI_sI, vh_I_sI]
          simp only [s_43_115]
          refine mid f1 fd ⟨fun c q1 q2 q3 q4 j => by rw [z1.1 c q1]; exact hg.1 c q1 q2 q3 q4 j, fun j hj => by rw [z1.1 4 (by unfold aw; omega)]; exact hg.2 j hj⟩ (LD_self z1) (fun c hc j => z1.1 c hc j) (fun q b hb => ?_) (fun q b hb => ?_) (fun q hne b hb => ?_) _ _
          · rw [z2 b hb, w0 q]
          · rw [z2 b hb, w1 q, bt_neg1 b hb]; simp
          · exact z3 (ht q) hne b hb (by rw [w1 (by omega)]; exact bt_neg1 b hb)
        have e3 := kn f0 hg
        simp only [s_43_92, s_43_93, s_43_96, s_43_98, s_43_99, s_43_102, va_rf_s, pk_mul, nI_add, not_false_eq_true, and_self, true_and, Option.toList_some, Option.toList_none, List.append_nil, List.cons_append, List.nil_append, nI_01, nI_11, vh_K_wI, vh_R_wI, vh_Z_wI, vh_wI_sI, vh_K_sI, vh_R_sI, vh_Z_sI, vh_sI_sI, vh_I_sI, h1, m1, m3, s_43_103]
        by_cases z : ρ 3 = 0
        · rw [if_neg (fun w => w (e3.mpr z))]
          simp only [s_43_106, s_43_108]
          exact go _ (fun _ => rfl) (fun w => absurd z w) _ _
        · rw [if_pos (fun w => z (e3.mp w))]
          simp only [s_43_111]
          exact go _ (fun w => absurd w z) (fun _ => rfl) _ _
      · rw [if_pos qx]
        simp only [s_43_118]
        have c0 : ∀ b, b < 32 → CT Hs ρ i b = 0 := fun b hb => Classical.byContradiction (fun z => qx (hfn i b hlt hb z))
        have n0 : ∀ b, bt (nI 0) b = false := b_0
        refine mid f0 (nI 0) hg hD (fun _ _ _ => rfl) (fun _ b hb => ?_) (fun _ b hb => ?_) (fun _ z => absurd rfl z) _ _
        · rw [n0, c0 b hb]; exact ⟨fun z => (by cases z), fun z => absurd rfl z.2⟩
        · rw [n0, c0 b hb]; exact ⟨fun z => (by cases z), fun z => absurd rfl z⟩
theorem c_give {r d n x y la fr : Nat} {lp : Int32} {h : vt_H} {Q : vt_Q} {ρ : Nat → Nat} {P L W : Nat → Nat → Nat → Bool} (hM : MO h la fr) (hR : RL h r d n x y) (hV : RV (vh_I h) r d n x y ρ) (ha : (48 < r ∧ 48 < d) ∧ 48 < n ∧ 48 < x ∧ 48 < y) (h2 : hs2 ρ) (hP : FR (vh_I h) 11 12 P) (hL : FR (vh_I h) (la + 1) (la + 2) L) (hW : FR (vh_I h) (fr + 1) (fr + 2) W) (hN : FN (vh_I h 4 10) W)
    (hQ : ∀ f', GF (vh_I h) f' fr → FR f' (fr + 1) (fr + 2) (wg W P (fun i => if nI i = lp then L else P) ρ 32) → FN (f' 4 10) (wg W P (fun i => if nI i = lp then L else P) ρ 32) → Q none (vh_sI h f')) : Wp 43 0 [.ref 4, .ref r, .int lp, vt_un, vt_un, vt_un, vt_un, vt_un] [] h Q := by
  have hM' := hM
  obtain ⟨m1, m2, m3, m4, m5, hT, hTl, hTf, hC, hlf⟩ := hM
  have hC' := hC
  obtain ⟨ck13, cr0, cr1, cr2, cr3, cr4, cr5, cr6, cr7, cr8, cr9, ck14, ck15, ck16, ck17, ck18, ck19, ck20, ck21, ck22, ck23, cz14, cz15, cz16, cz17, cz18, cz19, cz20, cz21, cz22, cz23⟩ := hC
  have k103 := hR.1
  have l101 := hTl.1
  have t101 := hT.1
  have j01 : ∀ p : Prop, ∀ _ : Decidable p, (jb p = 0 ∨ jb p = 1) = True := fun p _ => eq_true jb_01
  have aw1 : ∀ c, 48 < c → aw c := fun c hc => by unfold aw; omega
  have awl : aw (la + 1) ∧ aw (la + 2) ∧ aw (fr + 1) ∧ aw (fr + 2) := by unfold aw; omega
  simp only [s_43_0, s_43_1, s_43_4, s_43_5, s_43_6, s_43_9, s_43_10, s_43_13, s_43_14, s_43_15, s_43_18, va_rf_s, pk_mul, nI_add, not_false_eq_true, and_self, true_and, Option.toList_some, Option.toList_none, List.append_nil, List.cons_append, List.nil_append, nI_01, nI_11, vh_K_wI, vh_R_wI, vh_Z_wI, vh_wI_sI, vh_K_sI, vh_R_sI, vh_Z_sI, vh_sI_sI, vh_I_sI, m1, m2, m3, m4, ck13, k103, c_isTallied _ hR, j01]
  refine c_load hC' hR hV ⟨aw1 r ha.1.1, aw1 d ha.1.2, aw1 n ha.2.1, aw1 x ha.2.2.1, aw1 y ha.2.2.2⟩ hT hP hTl hL ⟨by unfold aw; omega, by unfold aw; omega, awl.1, awl.2.1⟩ jb_01 (fun f1 hD => ?_)
  have hC1 : CL (vh_sI h f1) := hC'
  simp only [va_rf_s, pk_mul, nI_add, not_false_eq_true, and_self, true_and, Option.toList_some, Option.toList_none, List.append_nil, List.cons_append, List.nil_append, nI_01, nI_11, vh_K_wI, vh_R_wI, vh_Z_wI, vh_wI_sI, vh_K_sI, vh_R_sI, vh_Z_sI, vh_sI_sI, vh_I_sI]
  simp only [s_43_21, s_43_22, s_43_25, va_rf_s, pk_mul, nI_add, not_false_eq_true, and_self, true_and, Option.toList_some, Option.toList_none, List.append_nil, List.cons_append, List.nil_append, nI_01, nI_11, vh_K_wI, vh_R_wI, vh_Z_wI, vh_wI_sI, vh_K_sI, vh_R_sI, vh_Z_sI, vh_sI_sI, vh_I_sI, m1, m3, ck13]
  refine c_firstL (h := vh_sI h f1) (f := vh_I h) hC1 hD hV.2.1.2 h2 (fun fn hfn => ?_)
  simp only [s_43_28, s_43_29, s_43_30, va_rf_s, pk_mul, nI_add, not_false_eq_true, and_self, true_and, Option.toList_some, Option.toList_none, List.append_nil, List.cons_append, List.nil_append, nI_01, nI_11, vh_K_wI, vh_R_wI, vh_Z_wI, vh_wI_sI, vh_K_sI, vh_R_sI, vh_Z_sI, vh_sI_sI, vh_I_sI]
  have g1 : GF (vh_I h) f1 fr := ⟨fun c q1 _ _ _ j => hD.1 c q1 j, fun j _ => hD.1 4 (by unfold aw; omega) j⟩
  have hw0 : ∀ n' a' b', n' < 16 → a' < 32 → b' < 32 → W n' a' b' = wg W P (fun i => if nI i = lp then L else P) ρ 0 n' a' b' := by
    intro n' a' b' _ _ _
    refine beq2 (Iff.trans ?_ wg_t.symm)
    constructor
    · exact Or.inl
    · rintro (z | ⟨⟨_, z⟩, _⟩)
      · exact z
      · omega
  refine l_give (L := L) (W := W) (P := P) hM' hR hV ha h2 hP ?_ hfn hQ 32 0 (by omega) f1 _ _ _ g1 (LD_self hD) (FR_congr (fun a b c q1 q2 q3 => ?_) hw0) ?_
  · intro z
    rw [jb_0]
    intro w
    apply w
    rw [hV.2.2.2.1.1]
    rcases z with z | z
    · rw [z]; exact Or.inl (by decide)
    · rw [z]; exact Or.inr (by decide)
  · rw [hD.1 _ awl.2.2.1, hD.1 _ awl.2.2.2]; exact hW a b c q1 q2 q3
  · rw [hD.1 4 (by unfold aw; omega)]
    refine ⟨fun n' hn' => (hN.1 n' hn').trans ⟨?_, ?_⟩, hN.2⟩
    · rintro ⟨a', b', z1, z2, z3⟩; exact ⟨a', b', z1, z2, by rw [← hw0 n' a' b' hn' z1 z2]; exact z3⟩
    · rintro ⟨a', b', z1, z2, z3⟩; exact ⟨a', b', z1, z2, by rw [hw0 n' a' b' hn' z1 z2]; exact z3⟩

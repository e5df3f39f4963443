-- ===== MODEL of the class: settle =====
/-- a set out of a property -/
noncomputable def bP (A : Nat → Nat → Nat → Prop) : Nat → Nat → Nat → Bool := fun n a b => @decide (A n a b) (Classical.propDecidable _)
theorem bP_t {A : Nat → Nat → Nat → Prop} {n a b : Nat} : bP A n a b = true ↔ A n a b := @decide_eq_true_iff _ (Classical.propDecidable _)
theorem FN_congr {z : Int32} {A B : Nat → Nat → Nat → Bool} (q : FN z A) (e : ∀ n' a' b', n' < 16 → a' < 32 → b' < 32 → A n' a' b' = B n' a' b') : FN z B := by
  refine ⟨fun n' hn' => (q.1 n' hn').trans ⟨?_, ?_⟩, q.2⟩
  · rintro ⟨a', b', h1, h2, h3⟩; exact ⟨a', b', h1, h2, by rw [← e n' a' b' hn' h1 h2]; exact h3⟩
  · rintro ⟨a', b', h1, h2, h3⟩; exact ⟨a', b', h1, h2, by rw [e n' a' b' hn' h1 h2]; exact h3⟩
/-- the engine's objects -/
def EG (h : vt_H) (la fr : Nat) (g : Nat → Nat) (U : Nat) (q : Nat → Nat) : Prop := EN h ∧ (vh_R h 4 2 = some 5 ∧ vh_R h 4 6 = some 41 ∧ vh_K h 41 = 1 ∧ vh_Z h 41 = 16) ∧ SO h ∧ MO h la fr ∧ RW h g U ∧ RS h q
theorem EG_HS {h h' : vt_H} {la fr la' fr' U : Nat} {g g' q : Nat → Nat} (hE : EG h la fr g U q) (a : HS h h') (hM : MO h' la' fr') (hW : RW h' g' U) : EG h' la' fr' g' U q := by
  obtain ⟨⟨e1, e2, e3, e4, e5, e6⟩, ⟨d1, d2, d3, d4⟩, ⟨s1, s2, s3, s4, s5, ⟨s6, s7⟩, ⟨s8, s9⟩, ⟨s10, s11⟩, ⟨s12, s13⟩⟩, _, w, r⟩ := hE
  have n149 := w.2.2.2.1
  have k : ∀ c, c < 149 → vh_K h' c = vh_K h c := fun c hc => (a.2.1 c (by omega)).1
  have z : ∀ c, c < 149 → vh_Z h' c = vh_Z h c := fun c hc => (a.2.1 c (by omega)).2
  have rr : ∀ c j, c < 149 → c ≠ 24 → ¬ (c = 4 ∧ (j = 7 ∨ j = 8)) → vh_R h' c j = vh_R h c j := fun c j hc h1 h2 => a.2.2.1 c j (by omega) h1 h2
  refine ⟨⟨(k 0 (by omega)).trans e1, (rr 0 0 (by omega) (by omega) (by omega)).trans e2, (rr 0 1 (by omega) (by omega) (by omega)).trans e3, (rr 0 2 (by omega) (by omega) (by omega)).trans e4, (k 4 (by omega)).trans e5, FT_HS e6 a ⟨by omega, by omega, by omega⟩ ⟨by omega, by omega⟩⟩, ⟨(rr 4 2 (by omega) (by omega) (by omega)).trans d1, (rr 4 6 (by omega) (by omega) (by omega)).trans d2, (k 41 (by omega)).trans d3, (z 41 (by omega)).trans d4⟩, ⟨(k 5 (by omega)).trans s1, (rr 5 0 (by omega) (by omega) (by omega)).trans s2, (rr 5 1 (by omega) (by omega) (by omega)).trans s3, (rr 5 2 (by omega) (by omega) (by omega)).trans s4, (rr 5 3 (by omega) (by omega) (by omega)).trans s5, ⟨(k 6 (by omega)).trans s6, (z 6 (by omega)).trans s7⟩, ⟨(k 7 (by omega)).trans s8, (z 7 (by omega)).trans s9⟩, ⟨(k 8 (by omega)).trans s10, (z 8 (by omega)).trans s11⟩, ⟨(k 9 (by omega)).trans s12, (z 9 (by omega)).trans s13⟩⟩, hM, hW, ⟨⟨(k 48 (by omega)).trans r.1.1, (z 48 (by omega)).trans r.1.2⟩, fun i hi => ?_⟩⟩
  obtain ⟨r1, ⟨l1, l2, l3, l4, l5, ⟨l6, l7⟩, ⟨l8, l9⟩, ⟨l10, l11⟩, ⟨l12, l13⟩⟩, r3, r4⟩ := r.2 i hi
  refine ⟨(rr 48 i (by omega) (by omega) (by omega)).trans r1, ⟨(k _ (by omega)).trans l1, (rr _ 6 (by omega) (by omega) (by omega)).trans l2, (rr _ 7 (by omega) (by omega) (by omega)).trans l3, (rr _ 8 (by omega) (by omega) (by omega)).trans l4, (rr _ 9 (by omega) (by omega) (by omega)).trans l5, ⟨(k _ (by omega)).trans l6, (z _ (by omega)).trans l7⟩, ⟨(k _ (by omega)).trans l8, (z _ (by omega)).trans l9⟩, ⟨(k _ (by omega)).trans l10, (z _ (by omega)).trans l11⟩, ⟨(k _ (by omega)).trans l12, (z _ (by omega)).trans l13⟩⟩, r3, r4⟩
/-- which part is taken from the last round: the heads that come out -/
def due (ρ : Nat → Nat) (k : Nat) (L H : Nat → Nat → Nat → Bool) (ln : Int32) (p a b : Nat) : Prop := (k = 1 ∧ HD (fun _ => H) ρ a b) ∨ (k ≠ 1 ∧ ρ 3 = 0 ∧ ∃ p', p' < p ∧ ρ (10 + 4 * p') = 3 ∧ bt ln (ρ (11 + 4 * p')) = true ∧ HD (fun q => if nI q = nI p' then L else H) ρ a b)
theorem l_parts {la fr s k c i r : Nat} {L H W : Nat → Nat → Nat → Bool} {sd y4 y7 : Value} {h : vt_H} {Q : vt_Q} {ρ : Nat → Nat} (hM : MO h la fr) (h41 : vh_R h 4 6 = some 41 ∧ vh_K h 41 = 1 ∧ vh_Z h 41 = 16) (h48 : vh_K h 48 = 2 ∧ vh_Z h 48 = 16) (hr : vh_R h 48 i = some r) (hR : RL h r (r + 1) (r + 2) (r + 3) (r + 4)) (hrb : 49 ≤ r ∧ r + 4 < 129) (hV : RV (vh_I h) r (r + 1) (r + 2) (r + 3) (r + 4) ρ) (hi : i < 16) (hl : vh_I h 41 i = nI s) (hs : s < 2 ^ 31) (hk : k < 2 ^ 31) (h2 : hs2 ρ) (hH : FR (vh_I h) 11 12 H) (hL : FR (vh_I h) (la + 1) (la + 2) L)
    (hQ : ∀ f', GF (vh_I h) f' fr → FR f' (fr + 1) (fr + 2) (bP (fun n a b => W n a b = true ∨ (n = ρ 0 ∧ ¬ H n a b = true ∧ due ρ k L H (vh_I h 4 9) (ρ 5) a b))) → FN (f' 4 10) (bP (fun n a b => W n a b = true ∨ (n = ρ 0 ∧ ¬ H n a b = true ∧ due ρ k L H (vh_I h 4 9) (ρ 5) a b))) → ∀ y, Wp 31 113 [.ref 4, sd, .ref 48, .int (nI c), y4, .int (nI s), .int (nI k), y7, .int (nI i), y] [] (vh_sI h f') Q) :
    ∀ (m p : Nat), p + m = ρ 5 → ∀ f0, GF (vh_I h) f0 fr → FR f0 (fr + 1) (fr + 2) (bP (fun n a b => W n a b = true ∨ (n = ρ 0 ∧ ¬ H n a b = true ∧ due ρ k L H (vh_I h 4 9) p a b))) → FN (f0 4 10) (bP (fun n a b => W n a b = true ∨ (n = ρ 0 ∧ ¬ H n a b = true ∧ due ρ k L H (vh_I h 4 9) p a b))) → Wp 31 58 [.ref 4, sd, .ref 48, .int (nI c), y4, .int (nI s), .int (nI k), y7, .int (nI i), .int (nI p)] [] (vh_sI h f0) Q := by
  have m1 := hM.1
  have hlf := hM.2.2.2.2.2.2.2.2.2
  have k103 := hR.1
  have v5 := hV.2.2.2.2.2.1.1
  have v5' := hV.2.2.2.2.2.1.2
  intro m
  induction m with
  | zero =>
    intro p hp f0 g1 g2 g3
    have : p = ρ 5 := by omega
    subst this
    have e41 : f0 41 i = nI s := (g1.1 41 (by unfold aw; omega) (by omega) (by omega) (by omega) i).trans hl
    have e5 : f0 r 5 = nI (ρ 5) := (g1.1 r (by unfold aw; omega) (by omega) (by omega) (by omega) 5).trans v5
    simp only [s_31_58, s_31_59, s_31_62, s_31_64, s_31_65, s_31_67, va_rf_s, pk_mul, nI_add, not_false_eq_true, and_self, true_and, Option.toList_some, Option.toList_none, List.append_nil, List.cons_append, List.nil_append, nI_01, nI_11, vh_K_wI, vh_R_wI, vh_Z_wI, vh_wI_sI, vh_K_sI, vh_R_sI, vh_Z_sI, vh_sI_sI, vh_I_sI, m1, h41.1, h41.2.1, h41.2.2, e41, cl (show i < 2 ^ 31 by omega), ib hi (show 16 ≤ 2 ^ 31 by omega), not_true, if_false]
    simp only [s_31_70, s_31_72, s_31_73, s_31_75, s_31_76, s_31_79, va_rf_s, pk_mul, nI_add, not_false_eq_true, and_self, true_and, Option.toList_some, Option.toList_none, List.append_nil, List.cons_append, List.nil_append, nI_01, nI_11, vh_K_wI, vh_R_wI, vh_Z_wI, vh_wI_sI, vh_K_sI, vh_R_sI, vh_Z_sI, vh_sI_sI, vh_I_sI, h48.1, h48.2, hr, k103, e5, cl (show i < 2 ^ 31 by omega), ib hi (show 16 ≤ 2 ^ 31 by omega), if_pos (nI_le (Nat.le_refl (ρ 5)) (show ρ 5 < 2 ^ 31 by omega))]
    exact hQ f0 g1 g2 g3 _
  | succ m ih =>
    intro p hp f0 g1 g2 g3
    have hlt : p < ρ 5 := by omega
    have e41 : f0 41 i = nI s := (g1.1 41 (by unfold aw; omega) (by omega) (by omega) (by omega) i).trans hl
    have e5 : f0 r 5 = nI (ρ 5) := (g1.1 r (by unfold aw; omega) (by omega) (by omega) (by omega) 5).trans v5
    have e9 : f0 4 9 = vh_I h 4 9 := g1.2 9 (by decide)
    have hV0 : RV (vh_I (vh_sI h f0)) r (r + 1) (r + 2) (r + 3) (r + 4) ρ := RV_c hV (fun j => g1.1 _ (by unfold aw; omega) (by omega) (by omega) (by omega) j) (fun j => g1.1 _ (by unfold aw; omega) (by omega) (by omega) (by omega) j) (fun j => g1.1 _ (by unfold aw; omega) (by omega) (by omega) (by omega) j) (fun j => g1.1 _ (by unfold aw; omega) (by omega) (by omega) (by omega) j) (fun j => g1.1 _ (by unfold aw; omega) (by omega) (by omega) (by omega) j)
    have hR0 : RL (vh_sI h f0) r (r + 1) (r + 2) (r + 3) (r + 4) := hR
    have hM0 : MO (vh_sI h f0) la fr := hM
    have k1 : nI k = nI 1 ↔ k = 1 := nI_eq hk (by omega)
    have cdue : ∀ Q : vt_Q, Wp 42 0 [.ref 4, .ref r, .int (nI p), .int (nI k)] [] (vh_sI h f0) Q ↔ Q (some (.int (jb (¬ nI k = nI 1 ∧ ρ 3 = 0 ∧ ρ (10 + 4 * p) = 3 ∧ bt (vh_I h 4 9) (ρ (11 + 4 * p)) = true)))) (vh_sI h f0) := fun Q => by
      rw [c_due (h := vh_sI h f0) Q m1 hR0 hV0 hlt, show vh_I (vh_sI h f0) 4 9 = vh_I h 4 9 from e9]
    simp only [s_31_58, s_31_59, s_31_62, s_31_64, s_31_65, s_31_67, va_rf_s, pk_mul, nI_add, not_false_eq_true, and_self, true_and, Option.toList_some, Option.toList_none, List.append_nil, List.cons_append, List.nil_append, nI_01, nI_11, vh_K_wI, vh_R_wI, vh_Z_wI, vh_wI_sI, vh_K_sI, vh_R_sI, vh_Z_sI, vh_sI_sI, vh_I_sI, m1, h41.1, h41.2.1, h41.2.2, e41, cl (show i < 2 ^ 31 by omega), ib hi (show 16 ≤ 2 ^ 31 by omega), not_true, if_false]
    simp only [s_31_70, s_31_72, s_31_73, s_31_75, s_31_76, s_31_79, va_rf_s, pk_mul, nI_add, not_false_eq_true, and_self, true_and, Option.toList_some, Option.toList_none, List.append_nil, List.cons_append, List.nil_append, nI_01, nI_11, vh_K_wI, vh_R_wI, vh_Z_wI, vh_wI_sI, vh_K_sI, vh_R_sI, vh_Z_sI, vh_sI_sI, vh_I_sI, h48.1, h48.2, hr, k103, e5, cl (show i < 2 ^ 31 by omega), ib hi (show 16 ≤ 2 ^ 31 by omega), if_neg (nI_ge hlt (show ρ 5 < 2 ^ 31 by omega))]
    simp only [s_31_82, s_31_83, s_31_84, s_31_86, s_31_87, s_31_89, s_31_91, va_rf_s, pk_mul, nI_add, not_false_eq_true, and_self, true_and, Option.toList_some, Option.toList_none, List.append_nil, List.cons_append, List.nil_append, nI_01, nI_11, vh_K_wI, vh_R_wI, vh_Z_wI, vh_wI_sI, vh_K_sI, vh_R_sI, vh_Z_sI, vh_sI_sI, vh_I_sI, m1, h48.1, h48.2, hr, k103, cl (show i < 2 ^ 31 by omega), ib hi (show 16 ≤ 2 ^ 31 by omega), cdue, jb_0, s_31_94]
    by_cases q : ¬ nI k = nI 1 ∧ ρ 3 = 0 ∧ ρ (10 + 4 * p) = 3 ∧ bt (vh_I h 4 9) (ρ (11 + 4 * p)) = true
    · rw [if_neg (fun z => z q)]
      simp only [s_31_97, s_31_98, s_31_99, s_31_101, s_31_102, s_31_104, va_rf_s, pk_mul, nI_add, not_false_eq_true, and_self, true_and, Option.toList_some, Option.toList_none, List.append_nil, List.cons_append, List.nil_append, nI_01, nI_11, vh_K_wI, vh_R_wI, vh_Z_wI, vh_wI_sI, vh_K_sI, vh_R_sI, vh_Z_sI, vh_sI_sI, vh_I_sI, m1, h48.1, h48.2, hr, k103, cl (show i < 2 ^ 31 by omega), ib hi (show 16 ≤ 2 ^ 31 by omega)]
      refine c_give (L := L) (P := H) hM0 hR0 hV0 ⟨⟨by omega, by omega⟩, by omega, by omega, by omega⟩ h2 (fun x y z z1 z2 z3 => ?_) (fun x y z z1 z2 z3 => ?_) g2 g3 (fun f1 w1 w2 w3 => ?_)
      · rw [vh_I_sI, g1.1 11 (by unfold aw; omega) (by omega) (by omega) (by omega), g1.1 12 (by unfold aw; omega) (by omega) (by omega) (by omega)]; exact hH x y z z1 z2 z3
      · rw [vh_I_sI, g1.1 (la + 1) (by unfold aw; omega) (by omega) (by omega) (by omega), g1.1 (la + 2) (by unfold aw; omega) (by omega) (by omega) (by omega)]; exact hL x y z z1 z2 z3
      · simp only [va_rf_s, pk_mul, nI_add, not_false_eq_true, and_self, true_and, Option.toList_some, Option.toList_none, List.append_nil, List.cons_append, List.nil_append, nI_01, nI_11, vh_K_wI, vh_R_wI, vh_Z_wI, vh_wI_sI, vh_K_sI, vh_R_sI, vh_Z_sI, vh_sI_sI, vh_I_sI]
        simp only [s_31_107, s_31_110, va_rf_s, pk_mul, nI_add, not_false_eq_true, and_self, true_and, Option.toList_some, Option.toList_none, List.append_nil, List.cons_append, List.nil_append, nI_01, nI_11, vh_K_wI, vh_R_wI, vh_Z_wI, vh_wI_sI, vh_K_sI, vh_R_sI, vh_Z_sI, vh_sI_sI, vh_I_sI]
        have e : ∀ n' a' b', n' < 16 → a' < 32 → b' < 32 → wg (bP (fun n a b => W n a b = true ∨ (n = ρ 0 ∧ ¬ H n a b = true ∧ due ρ k L H (vh_I h 4 9) p a b))) H (fun i => if nI i = nI p then L else H) ρ 32 n' a' b' = bP (fun n a b => W n a b = true ∨ (n = ρ 0 ∧ ¬ H n a b = true ∧ due ρ k L H (vh_I h 4 9) (p + 1) a b)) n' a' b' := by
          intro n' a' b' _ ha' _
          refine beq2 (wg_t.trans (Iff.trans ?_ bP_t.symm))
          rw [bP_t]
          constructor
          · rintro ((z | ⟨z1, z2, z3⟩) | ⟨⟨z1, _⟩, z2, z3⟩)
            · exact Or.inl z
            · refine Or.inr ⟨z1, z2, ?_⟩
              rcases z3 with z3 | ⟨z3, z4, p', z5, z6⟩
              · exact Or.inl z3
              · exact Or.inr ⟨z3, z4, p', by omega, z6⟩
            · exact Or.inr ⟨z1, z2, Or.inr ⟨fun y => q.1 (k1.mpr y), q.2.1, p, by omega, q.2.2.1, q.2.2.2, z3⟩⟩
          · rintro (z | ⟨z1, z2, z3⟩)
            · exact Or.inl (Or.inl z)
            · rcases z3 with z3 | ⟨z3, z4, p', z5, z6, z7, z8⟩
              · exact Or.inl (Or.inr ⟨z1, z2, Or.inl z3⟩)
              · by_cases e : p' = p
                · subst e; exact Or.inr ⟨⟨z1, ha'⟩, z2, z8⟩
                · exact Or.inl (Or.inr ⟨z1, z2, Or.inr ⟨z3, z4, p', by omega, z6, z7, z8⟩⟩)
        exact ih (p + 1) (by omega) f1 (GF_trans g1 w1) (FR_congr w2 e) (FN_congr w3 e)
    · rw [if_pos q]
      simp only [s_31_107, s_31_110, va_rf_s, pk_mul, nI_add, not_false_eq_true, and_self, true_and, Option.toList_some, Option.toList_none, List.append_nil, List.cons_append, List.nil_append, nI_01, nI_11, vh_K_wI, vh_R_wI, vh_Z_wI, vh_wI_sI, vh_K_sI, vh_R_sI, vh_Z_sI, vh_sI_sI, vh_I_sI]
      have e : ∀ n' a' b', n' < 16 → a' < 32 → b' < 32 → bP (fun n a b => W n a b = true ∨ (n = ρ 0 ∧ ¬ H n a b = true ∧ due ρ k L H (vh_I h 4 9) p a b)) n' a' b' = bP (fun n a b => W n a b = true ∨ (n = ρ 0 ∧ ¬ H n a b = true ∧ due ρ k L H (vh_I h 4 9) (p + 1) a b)) n' a' b' := by
        intro n' a' b' _ _ _
        refine beq2 (bP_t.trans (Iff.trans ?_ bP_t.symm))
        constructor
        · rintro (z | ⟨z1, z2, z3⟩)
          · exact Or.inl z
          · refine Or.inr ⟨z1, z2, ?_⟩
            rcases z3 with z3 | ⟨z3, z4, p', z5, z6⟩
            · exact Or.inl z3
            · exact Or.inr ⟨z3, z4, p', by omega, z6⟩
        · rintro (z | ⟨z1, z2, z3⟩)
          · exact Or.inl z
          · refine Or.inr ⟨z1, z2, ?_⟩
            rcases z3 with z3 | ⟨z3, z4, p', z5, z6, z7, z8⟩
            · exact Or.inl z3
            · refine Or.inr ⟨z3, z4, p', ?_, z6, z7, z8⟩
              have : p' ≠ p := fun e => q ⟨fun y => z3 (k1.mp y), z4, e ▸ z6, e ▸ z7⟩
              omega
      exact ih (p + 1) (by omega) f0 g1 (FR_congr g2 e) (FN_congr g3 e)
theorem l_rule {la fr s k c i r : Nat} {L H W : Nat → Nat → Nat → Bool} {sd y4 y7 y9 : Value} {h : vt_H} {Q : vt_Q} {ρ : Nat → Nat} (hM : MO h la fr) (h41 : vh_R h 4 6 = some 41 ∧ vh_K h 41 = 1 ∧ vh_Z h 41 = 16) (h48 : vh_K h 48 = 2 ∧ vh_Z h 48 = 16) (hr : vh_R h 48 i = some r) (hR : RL h r (r + 1) (r + 2) (r + 3) (r + 4)) (hrb : 49 ≤ r ∧ r + 4 < 129) (hV : RV (vh_I h) r (r + 1) (r + 2) (r + 3) (r + 4) ρ) (hi : i < 16) (hl : vh_I h 41 i = nI s) (hs : s < 2 ^ 31) (hk : k < 2 ^ 31) (h2 : hs2 ρ) (hH : FR (vh_I h) 11 12 H) (hL : FR (vh_I h) (la + 1) (la + 2) L) (hW : FR (vh_I h) (fr + 1) (fr + 2) W) (hN : FN (vh_I h 4 10) W)
    (hQ : ∀ f', GF (vh_I h) f' fr → FR f' (fr + 1) (fr + 2) (bP (fun n a b => W n a b = true ∨ (n = ρ 0 ∧ ¬ H n a b = true ∧ due ρ k L H (vh_I h 4 9) (ρ 5) a b))) → FN (f' 4 10) (bP (fun n a b => W n a b = true ∨ (n = ρ 0 ∧ ¬ H n a b = true ∧ due ρ k L H (vh_I h 4 9) (ρ 5) a b))) → ∀ y, Wp 31 113 [.ref 4, sd, .ref 48, .int (nI c), y4, .int (nI s), .int (nI k), y7, .int (nI i), y] [] (vh_sI h f') Q) :
    Wp 31 55 [.ref 4, sd, .ref 48, .int (nI c), y4, .int (nI s), .int (nI k), y7, .int (nI i), y9] [] h Q := by
  have m1 := hM.1
  have hlf := hM.2.2.2.2.2.2.2.2.2
  have k103 := hR.1
  have v5 := hV.2.2.2.2.2.1.1
  have v5' := hV.2.2.2.2.2.1.2
  have k1 : nI k = nI 1 ↔ k = 1 := nI_eq hk (by omega)
  have hne : ∀ i, i < 5 → ¬ nI i = -nI 1 := by decide +kernel
  have hHD : ∀ a b, HD (fun i => if nI i = -nI 1 then L else H) ρ a b ↔ HD (fun _ => H) ρ a b := fun a b => HD_c (fun j w hj _ => by
    rw [if_neg (hne j (by omega))]) a b
  have sm : ∀ n, n ≤ 5 → ¬ nI n ≤ -nI 1 := by decide +kernel
  simp only [s_31_55, s_31_56]
  simp only [s_31_58, s_31_59, s_31_62, s_31_64, s_31_65, s_31_67, va_rf_s, pk_mul, nI_add, not_false_eq_true, and_self, true_and, Option.toList_some, Option.toList_none, List.append_nil, List.cons_append, List.nil_append, nI_01, nI_11, vh_K_wI, vh_R_wI, vh_Z_wI, vh_wI_sI, vh_K_sI, vh_R_sI, vh_Z_sI, vh_sI_sI, vh_I_sI, m1, h41.1, h41.2.1, h41.2.2, hl, cl (show i < 2 ^ 31 by omega), ib hi (show 16 ≤ 2 ^ 31 by omega), not_true, if_false]
  simp only [s_31_70, s_31_72, s_31_73, s_31_75, s_31_76, s_31_79, va_rf_s, pk_mul, nI_add, not_false_eq_true, and_self, true_and, Option.toList_some, Option.toList_none, List.append_nil, List.cons_append, List.nil_append, nI_01, nI_11, vh_K_wI, vh_R_wI, vh_Z_wI, vh_wI_sI, vh_K_sI, vh_R_sI, vh_Z_sI, vh_sI_sI, vh_I_sI, h48.1, h48.2, hr, k103, v5, cl (show i < 2 ^ 31 by omega), ib hi (show 16 ≤ 2 ^ 31 by omega), if_neg (sm (ρ 5) v5')]
  simp only [s_31_82, s_31_83, s_31_84, s_31_86, s_31_87, s_31_89, s_31_91, va_rf_s, pk_mul, nI_add, not_false_eq_true, and_self, true_and, Option.toList_some, Option.toList_none, List.append_nil, List.cons_append, List.nil_append, nI_01, nI_11, vh_K_wI, vh_R_wI, vh_Z_wI, vh_wI_sI, vh_K_sI, vh_R_sI, vh_Z_sI, vh_sI_sI, vh_I_sI, m1, h48.1, h48.2, hr, k103, cl (show i < 2 ^ 31 by omega), ib hi (show 16 ≤ 2 ^ 31 by omega), c_dueN (r := r) (d := 0) (n := 0) (x := 0) (y := 0), jb_0, s_31_94]
  by_cases q : nI k = nI 1
  · rw [if_neg (fun z => z q)]
    simp only [s_31_97, s_31_98, s_31_99, s_31_101, s_31_102, s_31_104, va_rf_s, pk_mul, nI_add, not_false_eq_true, and_self, true_and, Option.toList_some, Option.toList_none, List.append_nil, List.cons_append, List.nil_append, nI_01, nI_11, vh_K_wI, vh_R_wI, vh_Z_wI, vh_wI_sI, vh_K_sI, vh_R_sI, vh_Z_sI, vh_sI_sI, vh_I_sI, m1, h48.1, h48.2, hr, k103, cl (show i < 2 ^ 31 by omega), ib hi (show 16 ≤ 2 ^ 31 by omega)]
    refine c_give (L := L) (P := H) (W := W) hM hR hV ⟨⟨by omega, by omega⟩, by omega, by omega, by omega⟩ h2 hH hL hW hN (fun f1 w1 w2 w3 => ?_)
    simp only [va_rf_s, pk_mul, nI_add, not_false_eq_true, and_self, true_and, Option.toList_some, Option.toList_none, List.append_nil, List.cons_append, List.nil_append, nI_01, nI_11, vh_K_wI, vh_R_wI, vh_Z_wI, vh_wI_sI, vh_K_sI, vh_R_sI, vh_Z_sI, vh_sI_sI, vh_I_sI]
    simp only [s_31_107, s_31_110, show -nI 1 + nI 1 = nI 0 by decide]
    have e : ∀ n' a' b', n' < 16 → a' < 32 → b' < 32 → wg W H (fun i => if nI i = -nI 1 then L else H) ρ 32 n' a' b' = bP (fun n a b => W n a b = true ∨ (n = ρ 0 ∧ ¬ H n a b = true ∧ due ρ k L H (vh_I h 4 9) 0 a b)) n' a' b' := by
      intro n' a' b' _ ha' _
      refine beq2 (wg_t.trans (Iff.trans ?_ bP_t.symm))
      constructor
      · rintro (z | ⟨⟨z1, _⟩, z2, z3⟩)
        · exact Or.inl z
        · exact Or.inr ⟨z1, z2, Or.inl ⟨k1.mp q, (hHD a' b').mp z3⟩⟩
      · rintro (z | ⟨z1, z2, z3⟩)
        · exact Or.inl z
        · rcases z3 with z3 | ⟨_, _, p', z5, _⟩
          · exact Or.inr ⟨⟨z1, ha'⟩, z2, (hHD a' b').mpr z3.2⟩
          · omega
    exact l_parts (W := W) hM h41 h48 hr hR hrb hV hi hl hs hk h2 hH hL hQ (ρ 5) 0 (by omega) f1 w1 (FR_congr w2 e) (FN_congr w3 e)
  · rw [if_pos q]
    simp only [s_31_107, s_31_110, show -nI 1 + nI 1 = nI 0 by decide]
    have e : ∀ n' a' b', n' < 16 → a' < 32 → b' < 32 → W n' a' b' = bP (fun n a b => W n a b = true ∨ (n = ρ 0 ∧ ¬ H n a b = true ∧ due ρ k L H (vh_I h 4 9) 0 a b)) n' a' b' := by
      intro n' a' b' _ _ _
      refine beq2 (Iff.trans ?_ bP_t.symm)
      constructor
      · exact Or.inl
      · rintro (z | ⟨z1, z2, z3⟩)
        · exact z
        · rcases z3 with z3 | ⟨_, _, p', z5, _⟩
          · exact absurd (k1.mpr z3.1) q
          · omega
    have l := l_parts (W := W) (L := L) (sd := sd) (y4 := y4) (y7 := y7) (c := c) (Q := Q) hM h41 h48 hr hR hrb hV hi hl hs hk h2 hH hL hQ (ρ 5) 0 (by omega) (vh_I h) ⟨fun _ _ _ _ _ _ => rfl, fun _ _ => rfl⟩ (FR_congr hW e) (FN_congr hN e)
    rw [vh_sI_id] at l
    exact l

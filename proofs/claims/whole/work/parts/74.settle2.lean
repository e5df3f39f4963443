-- ===== MODEL of the class: settle, the loops =====
theorem itr_k {ρs : Nat → Nat → Nat} {c : Nat} {lv : Nat → Nat} {S : Nat → Nat → Nat → Bool} : ∀ j, 1 ≤ (itr ρs c lv S j).1.2.1
  | 0 => Nat.le_refl _
  | j + 1 => by
    have ih := itr_k (ρs := ρs) (c := c) (lv := lv) (S := S) j
    show 1 ≤ (nxt ρs c lv (itr ρs c lv S j)).1.2.1
    by_cases q : 16 ≤ (itr ρs c lv S j).1.1
    · rw [nxt_16 q]; exact ih
    · by_cases hy : anyN (bNEW ρs c lv (itr ρs c lv S j).2.1 (itr ρs c lv S j).1.1)
      · rw [nxt_y (by omega) hy]; show 1 ≤ _ + 1; omega
      · rw [nxt_n (by omega) hy]; exact Nat.le_refl _
theorem l_rules {la fr s k c U : Nat} {g q : Nat → Nat} {L H : Nat → Nat → Nat → Bool} {sd y4 y7 : Value} {h : vt_H} {Q : vt_Q} {ρs : Nat → Nat → Nat} {lv : Nat → Nat} (hE : EG h la fr g U q) (hV : RVs (vh_I h) q ρs c) (h41 : ∀ i, i < c → vh_I h 41 i = rL ρs lv i) (hs : s < 16) (hk : k < 2 ^ 31) (h15 : ∀ n, n < 16 → lv n ≤ 15) (hlv : pfx (bND ρs c) (bSD ρs c) lv) (hH : FR (vh_I h) 11 12 H) (hL : FR (vh_I h) (la + 1) (la + 2) L) (hNl : FN (vh_I h 4 9) L)
    (hround : k = 1 ∨ (k ≠ 1 ∧ ∃ H0, (∀ n a b, n < 16 → a < 32 → b < 32 → (H n a b = true ↔ H0 n a b = true ∨ L n a b = true)) ∧ ∀ n a b, n < 16 → a < 32 → b < 32 → (L n a b = true ↔ NEW ρs c lv H0 s n a b)))
    (hQ : ∀ f', GF (vh_I h) f' fr → FR f' (fr + 1) (fr + 2) (bNEW ρs c lv H s) → FN (f' 4 10) (bNEW ρs c lv H s) → ∀ y8 y9, Wp 31 119 [.ref 4, sd, .ref 48, .int (nI c), y4, .int (nI s), .int (nI k), y7, y8, y9] [] (vh_sI h f') Q) :
    ∀ (m i : Nat), i + m = c → ∀ f0 y9, GF (vh_I h) f0 fr → FR f0 (fr + 1) (fr + 2) (bNEW ρs i lv H s) → FN (f0 4 10) (bNEW ρs i lv H s) → Wp 31 49 [.ref 4, sd, .ref 48, .int (nI c), y4, .int (nI s), .int (nI k), y7, .int (nI i), y9] [] (vh_sI h f0) Q := by
  obtain ⟨e1, ⟨d1, d2, d3, d4⟩, hS, hM, hW, hR⟩ := hE
  have m1 := hM.1
  have hlf := hM.2.2.2.2.2.2.2.2.2
  have c16 := hV.1
  intro m
  induction m with
  | zero =>
    intro i hi f0 y9 g1 g2 g3
    have : i = c := by omega
    subst this
    simp only [s_31_49, s_31_51, s_31_52, if_pos (nI_le (Nat.le_refl i) (show i < 2 ^ 31 by omega))]
    exact hQ f0 g1 g2 g3 _ _
  | succ m ih =>
    intro i hi f0 y9 g1 g2 g3
    have hlt : i < c := by omega
    have hi16 : i < 16 := by omega
    obtain ⟨r1, r2, r3, r4⟩ := hR.2 i hi16
    have hV0 : RV (vh_I (vh_sI h f0)) (q i) (q i + 1) (q i + 2) (q i + 3) (q i + 4) (ρs i) := RV_c (hV.2 i hlt) (fun j => g1.1 _ (by unfold aw; omega) (by omega) (by omega) (by omega) j) (fun j => g1.1 _ (by unfold aw; omega) (by omega) (by omega) (by omega) j) (fun j => g1.1 _ (by unfold aw; omega) (by omega) (by omega) (by omega) j) (fun j => g1.1 _ (by unfold aw; omega) (by omega) (by omega) (by omega) j) (fun j => g1.1 _ (by unfold aw; omega) (by omega) (by omega) (by omega) j)
    have hok := RV_ok hV0
    have e41 : f0 41 i = rL ρs lv i := (g1.1 41 (by unfold aw; omega) (by omega) (by omega) (by omega) i).trans (h41 i hlt)
    have lb := h15 (ρs i 0) hok.1.1
    simp only [s_31_49, s_31_51, s_31_52, if_neg (nI_ge hlt (show c < 2 ^ 31 by omega))]
    have next : ∀ f1 y, GF (vh_I h) f1 fr → FR f1 (fr + 1) (fr + 2) (bNEW ρs (i + 1) lv H s) → FN (f1 4 10) (bNEW ρs (i + 1) lv H s) → Wp 31 113 [.ref 4, sd, .ref 48, .int (nI c), y4, .int (nI s), .int (nI k), y7, .int (nI i), y] [] (vh_sI h f1) Q := by
      intro f1 y z1 z2 z3
      simp only [s_31_113, s_31_116, va_rf_s, pk_mul, nI_add, not_false_eq_true, and_self, true_and, Option.toList_some, Option.toList_none, List.append_nil, List.cons_append, List.nil_append, nI_01, nI_11, vh_K_wI, vh_R_wI, vh_Z_wI, vh_wI_sI, vh_K_sI, vh_R_sI, vh_Z_sI, vh_sI_sI, vh_I_sI]
      exact ih (i + 1) (by omega) f1 _ z1 z2 z3
    by_cases w : sf (ρs i) ∧ lv (ρs i 0) = s
    · have el : f0 41 i = nI s := by rw [e41]; unfold rL; rw [if_pos w.1, w.2]
      have h2 := sf_hs2 w.1 hok.1.2.1 hok.1.2.2.1
      have hM0 : MO (vh_sI h f0) la fr := hM
      have hR0 : RL (vh_sI h f0) (q i) (q i + 1) (q i + 2) (q i + 3) (q i + 4) := r2
      have hH0 : FR (vh_I (vh_sI h f0)) 11 12 H := fun x y z z1 z2 z3 => by rw [vh_I_sI, g1.1 11 (by unfold aw; omega) (by omega) (by omega) (by omega), g1.1 12 (by unfold aw; omega) (by omega) (by omega) (by omega)]; exact hH x y z z1 z2 z3
      have hL0 : FR (vh_I (vh_sI h f0)) (la + 1) (la + 2) L := fun x y z z1 z2 z3 => by rw [vh_I_sI, g1.1 (la + 1) (by unfold aw; omega) (by omega) (by omega) (by omega), g1.1 (la + 2) (by unfold aw; omega) (by omega) (by omega) (by omega)]; exact hL x y z z1 z2 z3
      have e9 : vh_I (vh_sI h f0) 4 9 = vh_I h 4 9 := g1.2 9 (by decide)
      refine l_rule (c := c) (W := bNEW ρs i lv H s) (L := L) (H := H) hM0 ⟨d2, d3, d4⟩ hR.1 r1 hR0 ⟨r3, r4⟩ hV0 hi16 el (by omega) hk h2 hH0 hL0 g2 g3 (fun f1 z1 z2 z3 y => ?_)
      rw [vh_sI_sI]
      rw [e9] at z2 z3
      have hdue : ∀ a b, a < 32 → b < 32 → ((¬ H (ρs i 0) a b = true ∧ due (ρs i) k L H (vh_I h 4 9) (ρs i 5) a b) ↔ (¬ H (ρs i 0) a b = true ∧ HD (fun _ => H) (ρs i) a b)) := by
        intro a b ha hb
        rcases hround with k1 | ⟨k1, H0, hh, hl⟩
        · refine and_congr_right (fun _ => ⟨fun z => ?_, fun z => Or.inl ⟨k1, z⟩⟩)
          rcases z with z | z
          · exact z.2
          · exact absurd k1 z.1
        · rw [semi hlv hok hlt w.1 w.2 ha hb hh hl]
          refine and_congr_right (fun _ => ⟨fun z => ?_, fun ⟨z1, p, z2, z3, z4, z5⟩ => Or.inr ⟨k1, z1, p, z2, z3, ?_, z5⟩⟩)
          · rcases z with z | ⟨_, z2, p, z3, z4, z5, z6⟩
            · exact absurd z.1 k1
            · exact ⟨z2, p, z3, z4, (hNl.1 _ (hok.2 p z3).1).mp z5, z6⟩
          · exact (hNl.1 _ (hok.2 p z2).1).mpr z4
      have e : ∀ n' a' b', n' < 16 → a' < 32 → b' < 32 → bP (fun n a b => bNEW ρs i lv H s n a b = true ∨ (n = ρs i 0 ∧ ¬ H n a b = true ∧ due (ρs i) k L H (vh_I h 4 9) (ρs i 5) a b)) n' a' b' = bNEW ρs (i + 1) lv H s n' a' b' := by
        intro n' a' b' _ ha' hb'
        refine beq2 (bP_t.trans (Iff.trans ?_ bNEW_t.symm))
        rw [bNEW_t]
        constructor
        · rintro (⟨i', z1, z2⟩ | ⟨z1, z2⟩)
          · exact ⟨i', by omega, z2⟩
          · subst z1
            have := (hdue a' b' ha' hb').mp z2
            exact ⟨i, by omega, w.1, rfl, w.2, this.2, this.1⟩
        · rintro ⟨i', x1, x2, x3, x4, x5, x6⟩
          by_cases e : i' = i
          · rw [e] at x3 x5
            subst x3
            exact Or.inr ⟨rfl, (hdue a' b' ha' hb').mpr ⟨x6, x5⟩⟩
          · exact Or.inl ⟨i', by omega, x2, x3, x4, x5, x6⟩
      exact next f1 _ (GF_trans g1 z1) (FR_congr z2 e) (FN_congr z3 e)
    · have el : ¬ f0 41 i = nI s := by
        rw [e41]
        unfold rL
        by_cases z : sf (ρs i)
        · rw [if_pos z]
          exact fun y => w ⟨z, (nI_eq (by omega) (by omega)).mp y⟩
        · rw [if_neg z]
          exact fun y => absurd y.symm ((by decide +kernel : ∀ s, s < 16 → ¬ nI s = -nI 1) s hs)
      simp only [s_31_55, s_31_56, s_31_58, s_31_59, s_31_62, s_31_64, s_31_65, va_rf_s, pk_mul, nI_add, not_false_eq_true, and_self, true_and, Option.toList_some, Option.toList_none, List.append_nil, List.cons_append, List.nil_append, nI_01, nI_11, vh_K_wI, vh_R_wI, vh_Z_wI, vh_wI_sI, vh_K_sI, vh_R_sI, vh_Z_sI, vh_sI_sI, vh_I_sI, m1, d2, d3, d4, cl (show i < 2 ^ 31 by omega), ib hi16 (show 16 ≤ 2 ^ 31 by omega), s_31_67]
      rw [if_pos el]
      have e : ∀ n' a' b', n' < 16 → a' < 32 → b' < 32 → bNEW ρs i lv H s n' a' b' = bNEW ρs (i + 1) lv H s n' a' b' := by
        intro n' a' b' _ _ _
        refine beq2 (bNEW_t.trans (Iff.trans ?_ bNEW_t.symm))
        constructor
        · rintro ⟨i', z1, z2⟩; exact ⟨i', by omega, z2⟩
        · rintro ⟨i', z1, z2, z3, z4, z5⟩
          have : i' ≠ i := fun e => w ⟨e ▸ z2, by rw [← e, z3]; exact z4⟩
          exact ⟨i', by omega, z2, z3, z4, z5⟩
      exact next f0 _ g1 (FR_congr g2 e) (FN_congr g3 e)
/-- ints that settle's rounds leave as they are -/
def KF (f f' : Nat → Nat → Int32) : Prop := (∀ x, x < 149 → (x < 4 ∨ (4 < x ∧ x < 11) ∨ (23 < x ∧ x < 42) ∨ 47 < x) → ∀ j, f' x j = f x j) ∧ f' 4 0 = f 4 0
theorem l_settle {c L U : Nat} {q : Nat → Nat} {S : Nat → Nat → Nat → Bool} {h : vt_H} {Q : vt_Q} {ρs : Nat → Nat → Nat} {lv : Nat → Nat} (hR : RS h q) (hV : RVs (vh_I h) q ρs c) (h41 : ∀ i, i < c → vh_I h 41 i = rL ρs lv i) (h149 : 149 ≤ vh_n h) (hL16 : L ≤ 16) (h15 : ∀ n, n < 16 → lv n ≤ 15) (hlv : pfx (bND ρs c) (bSD ρs c) lv)
    (hQ : ∀ h' la fr g j, HS h h' → EG h' la fr g U q → KF (vh_I h) (vh_I h') → (itr ρs c lv S j).1.1 = L → FR (vh_I h') 11 12 (itr ρs c lv S j).2.1 → vh_I h' 4 1 = nI (itr ρs c lv S j).1.2.2 → RR h' g (fun n a b => (itr ρs c lv S j).2.1 n a b && !S n a b) (fun n a b => nI ((itr ρs c lv S j).2.2 n a b)) → FR (vh_I h') (la + 1) (la + 2) (fun _ _ _ => false) → FR (vh_I h') (fr + 1) (fr + 2) (fun _ _ _ => false) → FN (vh_I h' 4 9) (fun _ _ _ => false) → FN (vh_I h' 4 10) (fun _ _ _ => false) → Q none h') :
    ∀ (m j : Nat), j + m = 16400 → ∀ h0 la fr g Lf y8 y9, HS h h0 → EG h0 la fr g U q → KF (vh_I h) (vh_I h0) → (itr ρs c lv S j).1.1 ≤ L → FR (vh_I h0) 11 12 (itr ρs c lv S j).2.1 → vh_I h0 4 1 = nI (itr ρs c lv S j).1.2.2 → RR h0 g (fun n a b => (itr ρs c lv S j).2.1 n a b && !S n a b) (fun n a b => nI ((itr ρs c lv S j).2.2 n a b)) → FR (vh_I h0) (la + 1) (la + 2) Lf → FN (vh_I h0 4 9) Lf → FR (vh_I h0) (fr + 1) (fr + 2) (fun _ _ _ => false) → FN (vh_I h0 4 10) (fun _ _ _ => false) →
      (((itr ρs c lv S j).1.2.1 = 1 ∧ ∀ n a b, n < 16 → a < 32 → b < 32 → Lf n a b = false) ∨ ((itr ρs c lv S j).1.2.1 ≠ 1 ∧ (itr ρs c lv S j).1.1 < L ∧ ∃ H0, (∀ n a b, n < 16 → a < 32 → b < 32 → ((itr ρs c lv S j).2.1 n a b = true ↔ H0 n a b = true ∨ Lf n a b = true)) ∧ ∀ n a b, n < 16 → a < 32 → b < 32 → (Lf n a b = true ↔ NEW ρs c lv H0 (itr ρs c lv S j).1.1 n a b))) →
      j ≤ cF (itr ρs c lv S j).2.1 + (itr ρs c lv S j).1.1 → (itr ρs c lv S j).1.2.1 ≤ j + 1 → (∀ n a b, n < 16 → a < 32 → b < 32 → S n a b = true → (itr ρs c lv S j).2.1 n a b = true) →
      Wp 31 31 [.ref 4, .ref 1, .ref 48, .int (nI c), .int (nI L), .int (nI (itr ρs c lv S j).1.1), .int (nI (itr ρs c lv S j).1.2.1), .int (nI j), y8, y9] [] h0 Q := by
  intro m
  induction m with
  | zero =>
    intro j hj h0 la fr g Lf y8 y9 a1 a2 a3 a4 a5 a6 a7 a8 a9 a10 a11 a12 a13 a14 a15
    have cl1 := cF_le (itr ρs c lv S j).2.1
    have e : (itr ρs c lv S j).1.1 = L := by omega
    have last : ∀ n a b, n < 16 → a < 32 → b < 32 → Lf n a b = false := by
      rcases a12 with z | z
      · exact z.2
      · omega
    simp only [s_31_31, s_31_33, s_31_35, s_31_156]
    rw [if_pos (nI_le (by omega) (by omega))]
    exact hQ h0 la fr g j a1 a2 a3 e a5 a6 a7 (FR_congr a8 last) a10 (FN_congr a9 last) a11
  | succ m ih =>
    intro j hj h0 la fr g Lf y8 y9 a1 a2 a3 a4 a5 a6 a7 a8 a9 a10 a11 a12 a13 a14 a15
    simp only [s_31_31, s_31_33, s_31_35]
    by_cases e : (itr ρs c lv S j).1.1 = L
    · have last : ∀ n a b, n < 16 → a < 32 → b < 32 → Lf n a b = false := by
        rcases a12 with z | z
        · exact z.2
        · omega
      rw [if_pos (nI_le (by omega) (by omega))]
      simp only [s_31_156]
      exact hQ h0 la fr g j a1 a2 a3 e a5 a6 a7 (FR_congr a8 last) a10 (FN_congr a9 last) a11
    · have sL : (itr ρs c lv S j).1.1 < L := by omega
      rw [if_neg (nI_ge sL (by omega))]
      simp only [s_31_38, s_31_40, s_31_43]
      rw [if_neg (nI_ge (show j < 16400 by omega) (by omega))]
      simp only [s_31_46, s_31_47]
      have a2' := a2
      obtain ⟨e1, ⟨d1, d2, d3, d4⟩, hS, hM, hW, hR0⟩ := a2
      have m1 := hM.1
      have hlf := hM.2.2.2.2.2.2.2.2.2
      have hV0 : RVs (vh_I h0) q ρs c := RVs_c hR hV (fun x x1 x2 jj => a3.1 x (by omega) (by omega) jj)
      have h410 : ∀ i, i < c → vh_I h0 41 i = rL ρs lv i := fun i hi => (a3.1 41 (by omega) (by omega) i).trans (h41 i hi)
      have nf0 : ∀ n' a' b', n' < 16 → a' < 32 → b' < 32 → (fun _ _ _ => false : Nat → Nat → Nat → Bool) n' a' b' = bNEW ρs 0 lv (itr ρs c lv S j).2.1 (itr ρs c lv S j).1.1 n' a' b' := by
        intro n' a' b' _ _ _
        refine beq2 (Iff.trans ?_ bNEW_t.symm)
        exact ⟨fun z => (by cases z), fun ⟨i, z, _⟩ => absurd z (by omega)⟩
      have l := l_rules (h := h0) (Q := Q) (sd := .ref 1) (y4 := .int (nI L)) (y7 := .int (nI j)) (s := (itr ρs c lv S j).1.1) (k := (itr ρs c lv S j).1.2.1) (H := (itr ρs c lv S j).2.1) (L := Lf) (lv := lv) a2' hV0 h410 (by omega) (by omega) h15 hlv a5 a8 a9 (by
        rcases a12 with z | z
        · exact Or.inl z.1
        · exact Or.inr ⟨z.1, z.2.2⟩) (fun f1 z1 z2 z3 y8 y9 => ?_) c 0 (by omega) (vh_I h0) y9 ⟨fun _ _ _ _ _ _ => rfl, fun _ _ => rfl⟩ (FR_congr a10 nf0) (FN_congr a11 nf0)
      · rw [vh_sI_id] at l
        exact l
      · have hM1 : MO (vh_sI h0 f1) la fr := hM
        have hW1 : RW (vh_sI h0 f1) g U := hW
        have fP : FR (vh_I (vh_sI h0 f1)) 11 12 (itr ρs c lv S j).2.1 := fun x y z w1 w2 w3 => by rw [vh_I_sI, z1.1 11 (by unfold aw; omega) (by omega) (by omega) (by omega), z1.1 12 (by unfold aw; omega) (by omega) (by omega) (by omega)]; exact a5 x y z w1 w2 w3
        have fL : FR (vh_I (vh_sI h0 f1)) (la + 1) (la + 2) Lf := fun x y z w1 w2 w3 => by rw [vh_I_sI, z1.1 (la + 1) (by unfold aw; omega) (by omega) (by omega) (by omega), z1.1 (la + 2) (by unfold aw; omega) (by omega) (by omega) (by omega)]; exact a8 x y z w1 w2 w3
        have fRR : RR (vh_sI h0 f1) g (fun n a b => (itr ρs c lv S j).2.1 n a b && !S n a b) (fun n a b => nI ((itr ρs c lv S j).2.2 n a b)) := by
          intro n a b hn ha hb hd
          have y := a7 n a b hn ha hb hd
          have big : 149 ≤ g n := by
            rcases (hW.2.1 n hn).2.2 with w | w
            · rw [w.1] at y; exact absurd y.1 (by decide)
            · exact w.2.1
          rw [vh_I_sI, z1.1 (g n) (by unfold aw; omega) (by omega) (by omega) (by omega)]
          exact y
        have n9 : FN (vh_I (vh_sI h0 f1) 4 9) Lf := by rw [vh_I_sI, z1.2 9 (by decide)]; exact a9
        simp only [s_31_119, s_31_120, s_31_122, va_rf_s, pk_mul, nI_add, not_false_eq_true, and_self, true_and, Option.toList_some, Option.toList_none, List.append_nil, List.cons_append, List.nil_append, nI_01, nI_11, vh_K_wI, vh_R_wI, vh_Z_wI, vh_wI_sI, vh_K_sI, vh_R_sI, vh_Z_sI, vh_sI_sI, vh_I_sI, m1]
        refine c_keepFresh hM1 hW1 fP z2 fL fRR n9 z3 (fun h2 g2 x b1 b2 b3 b4 b5 b6 b7 b8 b9 b10 b11 b12 b13 => ?_)
        rw [vh_I_sI] at b4 b5
        have hs2 : HS h h2 := HS_trans a1 b1
        have eg2 : EG h2 fr la g2 U q := EG_HS a2' b1 b2 b3
        have kf2 : KF (vh_I h) (vh_I h2) := by
          refine ⟨fun xx x1 x2 jj => ?_, ?_⟩
          · rw [b4 xx x1 (by omega) (by omega) (by omega) (by omega) (by omega), z1.1 xx (by unfold aw; omega) (by omega) (by omega) (by omega)]
            exact a3.1 xx x1 x2 jj
          · rw [b5 0 (by decide) (by decide), z1.2 0 (by decide)]; exact a3.2
        have e1' : vh_I h2 4 1 = nI (itr ρs c lv S j).1.2.2 := by rw [b5 1 (by decide) (by decide), z1.2 1 (by decide)]; exact a6
        have m2 := b2.1
        have hstep : itr ρs c lv S (j + 1) = nxt ρs c lv (itr ρs c lv S j) := rfl
        simp only [va_rf_s, pk_mul, nI_add, not_false_eq_true, and_self, true_and, Option.toList_some, Option.toList_none, List.append_nil, List.cons_append, List.nil_append, nI_01, nI_11, vh_K_wI, vh_R_wI, vh_Z_wI, vh_wI_sI, vh_K_sI, vh_R_sI, vh_Z_sI, vh_sI_sI, vh_I_sI]
        simp only [s_31_125]
        by_cases hx : x = 0
        · rw [if_pos hx]
          have none := b12.mp hx
          have nAny : ¬ anyN (bNEW ρs c lv (itr ρs c lv S j).2.1 (itr ρs c lv S j).1.1) := fun ⟨n, a, b, q1, q2, q3, q4⟩ => none n a b q1 q2 q3 q4
          rw [nxt_n (by omega) nAny] at hstep
          have i11 : (itr ρs c lv S (j + 1)).1.1 = (itr ρs c lv S j).1.1 + 1 := by rw [hstep]
          have i12 : (itr ρs c lv S (j + 1)).1.2.1 = 1 := by rw [hstep]
          have i13 : (itr ρs c lv S (j + 1)).1.2.2 = (itr ρs c lv S j).1.2.2 := by rw [hstep]
          have i2 : (itr ρs c lv S (j + 1)).2 = (itr ρs c lv S j).2 := by rw [hstep]
          simp only [s_31_144, s_31_147, s_31_148, s_31_150, s_31_153, va_rf_s, pk_mul, nI_add, not_false_eq_true, and_self, true_and, Option.toList_some, Option.toList_none, List.append_nil, List.cons_append, List.nil_append, nI_01, nI_11, vh_K_wI, vh_R_wI, vh_Z_wI, vh_wI_sI, vh_K_sI, vh_R_sI, vh_Z_sI, vh_sI_sI, vh_I_sI]
          have cN : ∀ n a b, n < 16 → a < 32 → b < 32 → bNEW ρs c lv (itr ρs c lv S j).2.1 (itr ρs c lv S j).1.1 n a b = false := fun n a b q1 q2 q3 => by
            cases hc : bNEW ρs c lv (itr ρs c lv S j).2.1 (itr ρs c lv S j).1.1 n a b with
            | false => rfl
            | true => exact absurd hc (none n a b q1 q2 q3)
          have go := ih (j + 1) (by omega) h2 fr la g2 (bNEW ρs c lv (itr ρs c lv S j).2.1 (itr ρs c lv S j).1.1) y8 y9 hs2 eg2 kf2 (by omega) (by
            rw [i2]
            exact FR_congr b8 (fun n a b q1 q2 q3 => by rw [cN n a b q1 q2 q3, Bool.or_false])) (by rw [i13]; exact e1') (by
            rw [i2]
            intro n a b q1 q2 q3 q4
            have := b11 n a b q1 q2 q3 (by dsimp only at q4 ⊢; rw [q4]; rfl)
            dsimp only at this
            rw [cN n a b q1 q2 q3] at this
            exact this) b9 b6 b10 b7 (Or.inl ⟨i12, cN⟩) (by rw [i2, i11]; omega) (by rw [i12]; omega) (by rw [i2]; exact a15)
          rw [i11, i12] at go
          exact go
        · rw [if_neg hx]
          have yAny : anyN (bNEW ρs c lv (itr ρs c lv S j).2.1 (itr ρs c lv S j).1.1) := Classical.byContradiction (fun z => hx (b12.mpr (fun n a b q1 q2 q3 q4 => z ⟨n, a, b, q1, q2, q3, q4⟩)))
          rw [nxt_y (by omega) yAny] at hstep
          have i11 : (itr ρs c lv S (j + 1)).1.1 = (itr ρs c lv S j).1.1 := by rw [hstep]
          have i12 : (itr ρs c lv S (j + 1)).1.2.1 = (itr ρs c lv S j).1.2.1 + 1 := by rw [hstep]
          have i13 : (itr ρs c lv S (j + 1)).1.2.2 = (itr ρs c lv S j).1.2.2 + 1 := by rw [hstep]
          have i2 : (itr ρs c lv S (j + 1)).2.1 = fun n a b => (itr ρs c lv S j).2.1 n a b || bNEW ρs c lv (itr ρs c lv S j).2.1 (itr ρs c lv S j).1.1 n a b := by rw [hstep]
          have i22 : (itr ρs c lv S (j + 1)).2.2 = fun n a b => if bNEW ρs c lv (itr ρs c lv S j).2.1 (itr ρs c lv S j).1.1 n a b = true then (itr ρs c lv S j).1.2.1 else (itr ρs c lv S j).2.2 n a b := by rw [hstep]
          have clt := cF_lt (H := (itr ρs c lv S j).2.1) yAny (fun n a b w => by obtain ⟨_, _, _, _, _, _, w6⟩ := bNEW_t.mp w; exact w6)
          have k1 : 1 ≤ (itr ρs c lv S j).1.2.1 := itr_k j
          simp only [s_31_128, s_31_129, s_31_130, s_31_133, s_31_134, s_31_135, s_31_138, s_31_141, s_31_150, s_31_153, va_rf_s, pk_mul, nI_add, not_false_eq_true, and_self, true_and, Option.toList_some, Option.toList_none, List.append_nil, List.cons_append, List.nil_append, nI_01, nI_11, vh_K_wI, vh_R_wI, vh_Z_wI, vh_wI_sI, vh_K_sI, vh_R_sI, vh_Z_sI, vh_sI_sI, vh_I_sI, m2, e1']
          have hE3 : EG (vh_sI h2 (up2 (vh_I h2) 4 1 (nI ((itr ρs c lv S j).1.2.2 + 1)))) fr la g2 U q := eg2
          have ou : ∀ x, x ≠ 4 → ∀ jj, up2 (vh_I h2) 4 1 (nI ((itr ρs c lv S j).1.2.2 + 1)) x jj = vh_I h2 x jj := fun x hx jj => up2_a _ _ _ hx jj
          have oj : ∀ jj, jj ≠ 1 → up2 (vh_I h2) 4 1 (nI ((itr ρs c lv S j).1.2.2 + 1)) 4 jj = vh_I h2 4 jj := fun jj hj => up2_i _ _ _ _ hj
          have go := ih (j + 1) (by omega) (vh_sI h2 (up2 (vh_I h2) 4 1 (nI ((itr ρs c lv S j).1.2.2 + 1)))) fr la g2 (bNEW ρs c lv (itr ρs c lv S j).2.1 (itr ρs c lv S j).1.1) y8 y9 (HS_sI hs2 _) hE3 ⟨fun xx x1 x2 jj => by rw [vh_I_sI, ou xx (by omega)]; exact kf2.1 xx x1 x2 jj, by rw [vh_I_sI, oj 0 (by decide)]; exact kf2.2⟩ (by omega) (by
            rw [i2]
            intro n a b q1 q2 q3
            rw [vh_I_sI, ou 11 (by decide), ou 12 (by decide)]
            exact b8 n a b q1 q2 q3) (by rw [i13, vh_I_sI, up2_s]) (by
            rw [i2, i22]
            intro n a b q1 q2 q3 q4
            have w := b11 n a b q1 q2 q3 (by
              dsimp only at q4 ⊢
              cases hS' : S n a b with
              | true => rw [hS', Bool.not_true, Bool.and_false] at q4; cases q4
              | false => rw [hS', Bool.not_false, Bool.and_true] at q4; rw [Bool.not_false, Bool.and_true]; exact q4)
            dsimp only at w ⊢
            have ne : g2 n ≠ 4 := by rcases (b3.2.1 n q1).2.2 with w | w <;> omega
            refine ⟨w.1, ?_⟩
            rw [vh_I_sI, ou _ ne, w.2]
            split <;> rfl) (fun n a b q1 q2 q3 => by rw [vh_I_sI, ou _ (by omega), ou _ (by omega)]; exact b9 n a b q1 q2 q3) (by rw [vh_I_sI, oj 9 (by decide)]; exact b6) (fun n a b q1 q2 q3 => by rw [vh_I_sI, ou _ (by omega), ou _ (by omega)]; exact b10 n a b q1 q2 q3) (by rw [vh_I_sI, oj 10 (by decide)]; exact b7) (Or.inr ⟨by rw [i12]; omega, by omega, (itr ρs c lv S j).2.1, (fun n a b _ _ _ => by rw [i2]; exact Bool.or_eq_true _ _ ▸ Iff.rfl), (fun n a b _ _ _ => by rw [i11]; exact bNEW_t)⟩) (by rw [i2, i11]; omega) (by rw [i12]; omega) (by
            rw [i2]
            intro n a b q1 q2 q3 q4
            dsimp only
            rw [a15 n a b q1 q2 q3 q4]; rfl)
          rw [i11, i12] at go
          exact go

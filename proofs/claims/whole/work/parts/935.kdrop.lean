-- ===== drop and safe of the class =====
/-- heaps alike but for the rules' order -/
def DR (h g : vt_H) : Prop := (vh_n g = vh_n h ∧ vh_u g = vh_u h) ∧ (vh_K g = vh_K h ∧ vh_Z g = vh_Z h) ∧ (vh_X g = vh_X h ∧ vh_L g = vh_L h) ∧ ∀ c j, c ≠ 48 → vh_R g c j = vh_R h c j
theorem FT_DR {h h' : vt_H} (d : DR h h') {f s g : Nat} (hf : f ≠ 48) (hT : FT h f s g) : FT h' f s g := by
  obtain ⟨-, ⟨k, z⟩, -, r⟩ := d
  unfold FT at hT ⊢
  rw [k, z, r f 0 hf, r f 1 hf]
  exact hT
theorem RL_DR {h h' : vt_H} (d : DR h h') {r a b x y : Nat} (hf : r ≠ 48) (hT : RL h r a b x y) : RL h' r a b x y := by
  obtain ⟨-, ⟨k, z⟩, -, e⟩ := d
  unfold RL at hT ⊢
  rw [k, z, e r 6 hf, e r 7 hf, e r 8 hf, e r 9 hf]
  exact hT
theorem EG_DR {h h' : vt_H} {la fr U : Nat} {g q q' : Nat → Nat} (d : DR h h') (hE : EG h la fr g U q) (hq : ∀ i, i < 16 → vh_R h' 48 i = some (q' i)) (hq' : ∀ i, i < 16 → ∃ i', i' < 16 ∧ q' i = q i') : EG h' la fr g U q' := by
  have d' := d
  obtain ⟨⟨en, eu⟩, ⟨k, z⟩, -, r⟩ := d
  obtain ⟨⟨e1, e2, e3, e4, e5, e6⟩, ⟨d1, d2, d3, d4⟩, hSO, ⟨m1, m2, m3, m4, m5, hT, hTl, hTf, hC, hlf⟩, ⟨⟨g1, g2, g3⟩, g4, g5, g6, g7⟩, ⟨hR1, hR2⟩⟩ := hE
  refine ⟨⟨by rw [k]; exact e1, by rw [r 0 0 (by decide)]; exact e2, by rw [r 0 1 (by decide)]; exact e3, by rw [r 0 2 (by decide)]; exact e4, by rw [k]; exact e5, FT_DR d' (by decide) e6⟩, ⟨by rw [r 4 2 (by decide)]; exact d1, by rw [r 4 6 (by decide)]; exact d2, by rw [k]; exact d3, by rw [z]; exact d4⟩, ?_, ⟨by rw [k]; exact m1, by rw [r 4 3 (by decide)]; exact m2, by rw [r 4 4 (by decide)]; exact m3, by rw [r 4 7 (by decide)]; exact m4, by rw [r 4 8 (by decide)]; exact m5, FT_DR d' (by decide) hT, FT_DR d' (by omega) hTl, FT_DR d' (by omega) hTf, ?_, hlf⟩, ⟨⟨by rw [k]; exact g1, by rw [z]; exact g2, by rw [r 4 5 (by decide)]; exact g3⟩, fun n hn => ?_, g5, by rw [en]; exact g6, ?_⟩, ⟨by rw [k, z]; exact hR1, fun i hi => ?_⟩⟩
  · unfold SO at hSO ⊢
    rw [k, z, r 5 0 (by decide), r 5 1 (by decide), r 5 2 (by decide), r 5 3 (by decide)]
    exact hSO
  · unfold CL at hC ⊢
    rw [k, z]
    simp only [r 13 _ (show 13 ≠ 48 by decide)]
    exact hC
  · rw [r 24 n (by decide), k, z, en]
    exact g4 n hn
  · rw [en, eu]; exact g7
  · obtain ⟨i', i1, i2⟩ := hq' i hi
    obtain ⟨R1, R2, R3, R4⟩ := hR2 i' i1
    rw [hq i hi, i2]
    exact ⟨rfl, RL_DR d' (by omega) R2, R3, R4⟩
def qsh (q : Nat → Nat) (r i : Nat) : Nat → Nat := fun j => if r ≤ j ∧ j < i then q (j + 1) else q j
def qdr (q : Nat → Nat) (r c : Nat) : Nat → Nat := fun j => if r ≤ j ∧ j + 1 < c then q (j + 1) else if j + 1 = c then q r else q j
/-- rules without the one at r -/
def drop_r (ρs : Nat → Nat → Nat) (r : Nat) : Nat → Nat → Nat := fun i => if i < r then ρs i else ρs (i + 1)
theorem QD_dr {q : Nat → Nat} {r c : Nat} (hD : QD q) (hr : r < c) (hc : c ≤ 16) : QD (qdr q r c) ∧ ∀ i, i < 16 → ∃ i', i' < 16 ∧ qdr q r c i = q i' := by
  have w : ∀ i, i < 16 → ∃ i', i' < 16 ∧ qdr q r c i = q i' ∧ ((r ≤ i ∧ i + 1 < c ∧ i' = i + 1) ∨ (¬ (r ≤ i ∧ i + 1 < c) ∧ i + 1 = c ∧ i' = r) ∨ (¬ (r ≤ i ∧ i + 1 < c) ∧ ¬ i + 1 = c ∧ i' = i)) := by
    intro i hi
    unfold qdr
    by_cases w1 : r ≤ i ∧ i + 1 < c
    · rw [if_pos w1]
      exact ⟨i + 1, by omega, rfl, Or.inl ⟨w1.1, w1.2, rfl⟩⟩
    · rw [if_neg w1]
      by_cases w2 : i + 1 = c
      · rw [if_pos w2]
        exact ⟨r, by omega, rfl, Or.inr (Or.inl ⟨w1, w2, rfl⟩)⟩
      · rw [if_neg w2]
        exact ⟨i, hi, rfl, Or.inr (Or.inr ⟨w1, w2, rfl⟩)⟩
  refine ⟨⟨fun i hi => ?_, fun i j hi hj e => ?_⟩, fun i hi => ?_⟩
  · obtain ⟨i', i1, i2, -⟩ := w i hi
    rw [i2]; exact hD.1 i' i1
  · obtain ⟨i', i1, i2, i3⟩ := w i hi
    obtain ⟨j', j1, j2, j3⟩ := w j hj
    have := hD.2 i' j' i1 j1 (by rw [← i2, ← j2]; exact e)
    omega
  · obtain ⟨i', i1, i2, -⟩ := w i hi
    exact ⟨i', i1, i2⟩
theorem k_drop_bad {r : Int32} {U c : Nat} {S : Nat → Nat → Nat → Bool} {h : vt_H} {Q : vt_Q} {ρs : Nat → Nat → Nat} (hC : CC h U ρs c S) (hb : r < 0 ∨ nI c ≤ r) (hQ : Q (some (.int (-nI 1))) h) : Wp 24 0 [.ref 0, .int r, vt_un, vt_un] [] h Q := by
  obtain ⟨e1, -, hc, -⟩ := CC_EN hC
  have k0 := e1.1
  simp only [s_24_0, s_24_1, s_24_2, s_24_5, s_24_8, s_24_9, va_rf_s, pk_mul, nI_add, not_false_eq_true, and_self, true_and, Option.toList_some, Option.toList_none, List.append_nil, List.cons_append, List.nil_append, nI_01, nI_11, vh_K_wI, vh_R_wI, vh_Z_wI, vh_wI_sI, vh_K_sI, vh_R_sI, vh_Z_sI, vh_sI_sI, vh_I_sI, k0, c_isBadRule _ k0, jb_0, hc]
  rw [if_neg (fun z => z hb)]
  exact hQ
theorem l_drop {r c : Nat} {h : vt_H} {Q : vt_Q} {q : Nat → Nat} (hr : r < c) (hc : c ≤ 16) (k0 : vh_K h 0 = 105) (r01 : vh_R h 0 1 = some 48) (k48 : vh_K h 48 = 2 ∧ vh_Z h 48 = 16) (h03 : vh_I h 0 3 = nI c) (hq : ∀ i, i < 16 → vh_K h (q i) = 103)
    (hQ : ∀ h', DR h h' → vh_I h' = vh_I h → (∀ j, j < 16 → vh_R h' 48 j = some (qsh q r (c - 1) j)) → ∀ y3, Wp 24 49 [.ref 0, .int (nI r), .ref (q r), y3] [] h' Q) :
    ∀ (m i : Nat), i + m = c - 1 → r ≤ i → ∀ h', DR h h' → vh_I h' = vh_I h → (∀ j, j < 16 → vh_R h' 48 j = some (qsh q r i j)) → Wp 24 19 [.ref 0, .int (nI r), .ref (q r), .int (nI i)] [] h' Q := by
  intro m
  induction m with
  | zero =>
    intro i hi hri h' d hI hR
    have : i = c - 1 := by omega
    have kk : vh_K h' 0 = 105 := by rw [d.2.1.1]; exact k0
    have h3 : vh_I h' 0 3 = nI c := by rw [hI]; exact h03
    simp only [s_24_19, s_24_20, s_24_21, s_24_22, s_24_23, s_24_26, va_rf_s, pk_mul, nI_add, not_false_eq_true, and_self, true_and, Option.toList_some, Option.toList_none, List.append_nil, List.cons_append, List.nil_append, nI_01, nI_11, vh_K_wI, vh_R_wI, vh_Z_wI, vh_wI_sI, vh_K_sI, vh_R_sI, vh_Z_sI, vh_sI_sI, vh_I_sI, kk, h3, if_pos (nI_le (show c ≤ i + 1 by omega) (show i + 1 < 2 ^ 31 by omega))]
    exact hQ h' d hI (by rw [← this]; exact hR) _
  | succ m ih =>
    intro i hi hri h' d hI hR
    have kk : vh_K h' 0 = 105 := by rw [d.2.1.1]; exact k0
    have h3 : vh_I h' 0 3 = nI c := by rw [hI]; exact h03
    have rr : vh_R h' 0 1 = some 48 := by rw [d.2.2.2 0 1 (by decide)]; exact r01
    have k8 : vh_K h' 48 = 2 := by rw [d.2.1.1]; exact k48.1
    have z8 : vh_Z h' 48 = 16 := by rw [d.2.1.2]; exact k48.2
    have ri := hR (i + 1) (by omega)
    have eq1 : qsh q r i (i + 1) = q (i + 1) := if_neg (by omega)
    rw [eq1] at ri
    have kq : vh_K h' (q (i + 1)) = 103 := by rw [d.2.1.1]; exact hq _ (by omega)
    simp only [s_24_19, s_24_20, s_24_21, s_24_22, s_24_23, s_24_26, va_rf_s, pk_mul, nI_add, not_false_eq_true, and_self, true_and, Option.toList_some, Option.toList_none, List.append_nil, List.cons_append, List.nil_append, nI_01, nI_11, vh_K_wI, vh_R_wI, vh_Z_wI, vh_wI_sI, vh_K_sI, vh_R_sI, vh_Z_sI, vh_sI_sI, vh_I_sI, kk, h3, if_neg (nI_ge (show i + 1 < c by omega) (show c < 2 ^ 31 by omega))]
    simp only [s_24_29, s_24_30, s_24_33, s_24_34, s_24_35, s_24_38, s_24_39, s_24_40, s_24_41, s_24_42, va_rf_s, pk_mul, nI_add, not_false_eq_true, and_self, true_and, Option.toList_some, Option.toList_none, List.append_nil, List.cons_append, List.nil_append, nI_01, nI_11, vh_K_wI, vh_R_wI, vh_Z_wI, vh_wI_sI, vh_K_sI, vh_R_sI, vh_Z_sI, vh_sI_sI, vh_I_sI, kk, rr, k8, z8, cl (show i < 2 ^ 31 by omega), cl (show i + 1 < 2 ^ 31 by omega), ib (show i < 16 by omega) (show 16 ≤ 2 ^ 31 by omega), ib (show i + 1 < 16 by omega) (show 16 ≤ 2 ^ 31 by omega), ri, kq]
    simp only [s_24_43, s_24_46, va_rf_s, pk_mul, nI_add, not_false_eq_true, and_self, true_and, Option.toList_some, Option.toList_none, List.append_nil, List.cons_append, List.nil_append, nI_01, nI_11, vh_K_wI, vh_R_wI, vh_Z_wI, vh_wI_sI, vh_K_sI, vh_R_sI, vh_Z_sI, vh_sI_sI, vh_I_sI]
    refine ih (i + 1) (by omega) (by omega) _ ⟨d.1, d.2.1, d.2.2.1, fun c' j hc' => ?_⟩ hI (fun j hj => ?_)
    · rw [vh_R_wR, if_neg (fun z => hc' z.1)]; exact d.2.2.2 c' j hc'
    · rw [vh_R_wR]
      by_cases w : j = i
      · rw [if_pos ⟨rfl, w⟩, w]
        exact congrArg some (if_pos ⟨hri, by omega⟩ : qsh q r (i + 1) i = q (i + 1)).symm
      · rw [if_neg (fun z => w z.2), hR j hj]
        refine congrArg some ?_
        unfold qsh
        by_cases w2 : r ≤ j ∧ j < i
        · rw [if_pos w2, if_pos ⟨w2.1, by omega⟩]
        · rw [if_neg w2, if_neg (by omega)]
theorem k_drop {r U c : Nat} {S : Nat → Nat → Nat → Bool} {h : vt_H} {Q : vt_Q} {ρs : Nat → Nat → Nat} (hr : r < c) (hC : CC h U ρs c S)
    (hQ : ∀ h', CC h' U (drop_r ρs r) (c - 1) S → FX h h' → Q (some (.int (nI (c - 1)))) h') : Wp 24 0 [.ref 0, .int (nI r), vt_un, vt_un] [] h Q := by
  obtain ⟨la, fr, g, q, hE, hD⟩ := hC
  have hE' := hE
  obtain ⟨hG, hV, hc, hS, ⟨r1, r2, r3, r4⟩, -⟩ := hE'
  have hG' := hG
  obtain ⟨⟨e1, e2, e3, e4, e5, e6⟩, -, -, hMO, -, hRS⟩ := hG'
  have hlf := hMO.2.2.2.2.2.2.2.2.2
  have c16 := hV.1
  have r16 : r < 16 := by omega
  have kq : ∀ i, i < 16 → vh_K h (q i) = 103 := fun i hi => (hRS.2 i hi).2.1.1
  have k48 := hRS.1.1
  have z48 := hRS.1.2
  have qr := (hRS.2 r r16).1
  simp only [s_24_0, s_24_1, s_24_2, s_24_5, va_rf_s, pk_mul, nI_add, not_false_eq_true, and_self, true_and, Option.toList_some, Option.toList_none, List.append_nil, List.cons_append, List.nil_append, nI_01, nI_11, vh_K_wI, vh_R_wI, vh_Z_wI, vh_wI_sI, vh_K_sI, vh_R_sI, vh_Z_sI, vh_sI_sI, vh_I_sI, e1, c_isBadRule _ e1, jb_0, hc]
  rw [if_pos (fun z => z.elim (nI_pos (by omega)) (nI_ge hr (by omega)))]
  simp only [s_24_10, s_24_11, s_24_14, s_24_15, s_24_16, s_24_17, s_24_18, va_rf_s, pk_mul, nI_add, not_false_eq_true, and_self, true_and, Option.toList_some, Option.toList_none, List.append_nil, List.cons_append, List.nil_append, nI_01, nI_11, vh_K_wI, vh_R_wI, vh_Z_wI, vh_wI_sI, vh_K_sI, vh_R_sI, vh_Z_sI, vh_sI_sI, vh_I_sI, e1, e3, k48, z48, cl (show r < 2 ^ 31 by omega), ib r16 (show 16 ≤ 2 ^ 31 by omega), qr]
  refine l_drop (Q := Q) (q := q) hr c16 e1 e3 hRS.1 hc kq (fun h1 d hI hR y3 => ?_) (c - 1 - r) r (by omega) (Nat.le_refl _) h ⟨⟨rfl, rfl⟩, ⟨rfl, rfl⟩, ⟨rfl, rfl⟩, fun _ _ _ => rfl⟩ rfl (fun j hj => ?_)
  · have a1 : vh_K h1 0 = 105 := by rw [d.2.1.1]; exact e1
    have a2 : vh_I h1 0 3 = nI c := by rw [hI]; exact hc
    have sub : nI c - nI 1 = nI (c - 1) := (by decide +kernel : ∀ c, c ≤ 16 → 1 ≤ c → nI c - nI 1 = nI (c - 1)) c c16 (by omega)
    simp only [s_24_49, s_24_50, s_24_51, s_24_54, s_24_55, s_24_56, va_rf_s, pk_mul, nI_add, not_false_eq_true, and_self, true_and, Option.toList_some, Option.toList_none, List.append_nil, List.cons_append, List.nil_append, nI_01, nI_11, vh_K_wI, vh_R_wI, vh_Z_wI, vh_wI_sI, vh_K_sI, vh_R_sI, vh_Z_sI, vh_sI_sI, vh_I_sI, a1, a2, sub]
    generalize hg2 : vh_sI h1 (up2 (vh_I h1) 0 3 (nI (c - 1))) = h2
    have d2 : DR h h2 := by rw [← hg2]; exact d
    have R2 : ∀ j, j < 16 → vh_R h2 48 j = some (qsh q r (c - 1) j) := by rw [← hg2]; exact hR
    have I2 : vh_I h2 = up2 (vh_I h) 0 3 (nI (c - 1)) := by
      rw [← hg2, ← hI]; rfl
    have b1 : vh_K h2 0 = 105 := by rw [d2.2.1.1]; exact e1
    have b2 : vh_R h2 0 1 = some 48 := by rw [d2.2.2.2 0 1 (by decide)]; exact e3
    have b3 : vh_K h2 48 = 2 := by rw [d2.2.1.1]; exact k48
    have b4 : vh_Z h2 48 = 16 := by rw [d2.2.1.2]; exact z48
    have b5 : vh_I h2 0 3 = nI (c - 1) := by rw [I2, up2_s]
    have b6 : vh_K h2 (q r) = 103 := by rw [d2.2.1.1]; exact kq r r16
    simp only [s_24_59, s_24_60, s_24_63, s_24_64, s_24_67, s_24_68, va_rf_s, pk_mul, nI_add, not_false_eq_true, and_self, true_and, Option.toList_some, Option.toList_none, List.append_nil, List.cons_append, List.nil_append, nI_01, nI_11, vh_K_wI, vh_R_wI, vh_Z_wI, vh_wI_sI, vh_K_sI, vh_R_sI, vh_Z_sI, vh_sI_sI, vh_I_sI, b1, b2, b3, b4, b5, b6, cl (show c - 1 < 2 ^ 31 by omega), ib (show c - 1 < 16 by omega) (show 16 ≤ 2 ^ 31 by omega)]
    generalize hg3 : vh_wR h2 48 (c - 1) (some (q r)) = h3
    have R3 : ∀ c' j, vh_R h3 c' j = if c' = 48 ∧ j = c - 1 then some (q r) else vh_R h2 c' j := by rw [← hg3]; exact fun c' j => rfl
    have d3 : DR h h3 := by
      refine ⟨by rw [← hg3]; exact d2.1, by rw [← hg3]; exact d2.2.1, by rw [← hg3]; exact d2.2.2.1, fun c' j hc' => ?_⟩
      rw [R3, if_neg (fun z => hc' z.1)]; exact d2.2.2.2 c' j hc'
    have I3 : vh_I h3 = up2 (vh_I h) 0 3 (nI (c - 1)) := by rw [← hg3]; exact I2
    have f1 : vh_K h3 0 = 105 := by rw [d3.2.1.1]; exact e1
    have f2 : vh_R h3 0 2 = some 4 := by rw [d3.2.2.2 0 2 (by decide)]; exact e4
    have f3 : vh_K h3 4 = 102 := by rw [d3.2.1.1]; exact e5
    simp only [s_24_69, s_24_70, s_24_73, s_24_74, s_24_77, s_24_78, s_24_81, va_rf_s, pk_mul, nI_add, not_false_eq_true, and_self, true_and, Option.toList_some, Option.toList_none, List.append_nil, List.cons_append, List.nil_append, nI_01, nI_11, vh_K_wI, vh_R_wI, vh_Z_wI, vh_wI_sI, vh_K_sI, vh_R_sI, vh_Z_sI, vh_sI_sI, vh_I_sI, f1, f2, f3]
    rw [show up2 (vh_I h3) 4 0 (nI 1) 0 3 = nI (c - 1) by rw [up2_a _ _ _ (by decide), I3, up2_s]]
    generalize hg4 : vh_sI h3 (up2 (vh_I h3) 4 0 (nI 1)) = h4
    have d4 : DR h h4 := by rw [← hg4]; exact d3
    have I4 : vh_I h4 = up2 (up2 (vh_I h) 0 3 (nI (c - 1))) 4 0 (nI 1) := by
      rw [← hg4, ← I3]; rfl
    have R4 : ∀ c' j, vh_R h4 c' j = if c' = 48 ∧ j = c - 1 then some (q r) else vh_R h2 c' j := by rw [← hg4]; exact R3
    have v : vh_I h4 0 3 = nI (c - 1) := by rw [I4, up2_a _ _ _ (by decide), up2_s]
    have K0 : vh_K h4 0 = 105 := by rw [d4.2.1.1]; exact e1
    obtain ⟨D1, D2⟩ := QD_dr hD hr c16
    have ea : ∀ x, x ≠ 0 → x ≠ 4 → ∀ j, vh_I h4 x j = vh_I h x j := fun x x1 x2 j => by rw [I4, up2_a _ _ _ x2, up2_a _ _ _ x1]
    have e44 : ∀ j, j ≠ 0 → vh_I h4 4 j = vh_I h 4 j := fun j hj => by rw [I4, up2_i _ _ _ _ hj, up2_a _ _ _ (by decide)]
    refine hQ h4 ⟨la, fr, g, qdr q r c, ⟨EG_DR d4 hG (fun i hi => ?_) D2, ⟨by omega, fun i hi => ?_⟩, v, fun n a b z1 z2 z3 => ?_, ⟨fun n a b z1 z2 z3 => ?_, fun n a b z1 z2 z3 => ?_, ?_, ?_⟩, fun z => ?_⟩, D1⟩ ⟨fun x x1 x2 => ⟨by rw [d4.2.1.1], by rw [d4.2.1.2], fun j => d4.2.2.2 x j (by omega), fun j => ea x (by omega) (by omega) j⟩, d4.2.2.1.1, d4.2.2.1.2⟩
    · rw [R4]
      unfold qdr
      by_cases w : i + 1 = c
      · rw [if_pos ⟨rfl, by omega⟩, if_neg (by omega), if_pos w]
      · rw [if_neg (fun z => by omega), R2 i hi]
        unfold qsh
        by_cases w2 : r ≤ i ∧ i + 1 < c
        · rw [if_pos w2, if_pos ⟨w2.1, by omega⟩]
        · rw [if_neg w2, if_neg w, if_neg (by omega)]
    · have b := QD_b hD (show i + 1 < 16 by omega)
      have b' := QD_b hD (show i < 16 by omega)
      unfold qdr drop_r
      by_cases w : i < r
      · rw [if_neg (show ¬ (r ≤ i ∧ i + 1 < c) by omega), if_neg (show ¬ i + 1 = c by omega), if_pos w]
        exact RV_c (hV.2 i (by omega)) (fun j => ea _ (by omega) (by omega) j) (fun j => ea _ (by omega) (by omega) j) (fun j => ea _ (by omega) (by omega) j) (fun j => ea _ (by omega) (by omega) j) (fun j => ea _ (by omega) (by omega) j)
      · rw [if_pos (show r ≤ i ∧ i + 1 < c by omega), if_neg w]
        exact RV_c (hV.2 (i + 1) (by omega)) (fun j => ea _ (by omega) (by omega) j) (fun j => ea _ (by omega) (by omega) j) (fun j => ea _ (by omega) (by omega) j) (fun j => ea _ (by omega) (by omega) j) (fun j => ea _ (by omega) (by omega) j)
    · rw [ea 2 (by decide) (by decide), ea 3 (by decide) (by decide)]; exact hS n a b z1 z2 z3
    · rw [ea _ (by omega) (by omega), ea _ (by omega) (by omega)]; exact r1 n a b z1 z2 z3
    · rw [ea _ (by omega) (by omega), ea _ (by omega) (by omega)]; exact r2 n a b z1 z2 z3
    · rw [e44 9 (by decide)]; exact r3
    · rw [e44 10 (by decide)]; exact r4
    · rw [I4, up2_s] at z
      exact absurd z nI_10
  · have : qsh q r r j = q j := if_neg (by omega)
    rw [this]
    exact (hRS.2 j hj).1
theorem k_safe_bad {r : Int32} {U c : Nat} {S : Nat → Nat → Nat → Bool} {h : vt_H} {Q : vt_Q} {ρs : Nat → Nat → Nat} (hC : CC h U ρs c S) (hb : r < 0 ∨ nI c ≤ r) (hQ : Q (some (.int (-nI 1))) h) : Wp 25 0 [.ref 0, .int r] [] h Q := by
  obtain ⟨e1, -, hc, -⟩ := CC_EN hC
  rw [c_safe_bad Q e1.1 (by rw [hc]; exact hb)]
  exact hQ
theorem k_safe {r U c : Nat} {S : Nat → Nat → Nat → Bool} {h : vt_H} {Q : vt_Q} {ρs : Nat → Nat → Nat} (hr : r < c) (hC : CC h U ρs c S) (hQ : Q (some (.int (cb (sf (ρs r))))) h) : Wp 25 0 [.ref 0, .int (nI r)] [] h Q := by
  obtain ⟨la, fr, g, q, ⟨⟨⟨e1, e2, e3, e4, e5, e6⟩, -, -, -, -, hRS⟩, hV, hc, -⟩, hD⟩ := hC
  have c16 := hV.1
  have r16 : r < 16 := by omega
  obtain ⟨R1, R2, -, -⟩ := hRS.2 r r16
  have k48 := hRS.1.1
  have z48 := hRS.1.2
  have kq := R2.1
  simp only [s_25_0, s_25_1, s_25_2, s_25_5, va_rf_s, pk_mul, nI_add, not_false_eq_true, and_self, true_and, Option.toList_some, Option.toList_none, List.append_nil, List.cons_append, List.nil_append, nI_01, nI_11, vh_K_wI, vh_R_wI, vh_Z_wI, vh_wI_sI, vh_K_sI, vh_R_sI, vh_Z_sI, vh_sI_sI, vh_I_sI, e1, c_isBadRule _ e1, jb_0, hc]
  rw [if_pos (fun z => z.elim (nI_pos (by omega)) (nI_ge hr (by omega)))]
  simp only [s_25_10, s_25_11, s_25_14, s_25_15, s_25_16, s_25_19, va_rf_s, pk_mul, nI_add, not_false_eq_true, and_self, true_and, Option.toList_some, Option.toList_none, List.append_nil, List.cons_append, List.nil_append, nI_01, nI_11, vh_K_wI, vh_R_wI, vh_Z_wI, vh_wI_sI, vh_K_sI, vh_R_sI, vh_Z_sI, vh_sI_sI, vh_I_sI, e1, e3, k48, z48, cl (show r < 2 ^ 31 by omega), ib r16 (show 16 ≤ 2 ^ 31 by omega), R1, kq, c_safeR _ R2 (hV.2 r hr)]
  by_cases w : sf (ρs r)
  · rw [cb_t w] at hQ
    rw [if_neg (fun z => jb_0c.mp z w)]
    simp only [s_25_22, s_25_23, s_25_27]
    exact hQ
  · rw [cb_f w] at hQ
    rw [if_pos (jb_0c.mpr w)]
    simp only [s_25_26, s_25_27]
    exact hQ

-- ===== STRATA of the class: read; MODEL: startLevels =====
/-- the rules' array 48, and the rules in it -/
def RS (h : vt_H) (q : Nat → Nat) : Prop := (vh_K h 48 = 2 ∧ vh_Z h 48 = 16) ∧ ∀ i, i < 16 → vh_R h 48 i = some (q i) ∧ RL h (q i) (q i + 1) (q i + 2) (q i + 3) (q i + 4) ∧ 49 ≤ q i ∧ q i + 4 < 129
def RVs (f : Nat → Nat → Int32) (q : Nat → Nat) (ρs : Nat → Nat → Nat) (c : Nat) : Prop := c ≤ 16 ∧ ∀ i, i < c → RV f (q i) (q i + 1) (q i + 2) (q i + 3) (q i + 4) (ρs i)
theorem RVs_c {f f' : Nat → Nat → Int32} {q : Nat → Nat} {ρs : Nat → Nat → Nat} {c : Nat} {h : vt_H} (hS : RS h q) (hV : RVs f q ρs c) (e : ∀ x, 48 < x → x < 129 → ∀ j, f' x j = f x j) : RVs f' q ρs c := by
  refine ⟨hV.1, fun i hi => ?_⟩
  have b := (hS.2 i (by have := hV.1; omega)).2.2
  exact RV_c (hV.2 i hi) (fun j => e _ (by omega) (by omega) j) (fun j => e _ (by omega) (by omega) j) (fun j => e _ (by omega) (by omega) j) (fun j => e _ (by omega) (by omega) j) (fun j => e _ (by omega) (by omega) j)
noncomputable def bND (ρs : Nat → Nat → Nat) (c : Nat) : Nat → Nat → Bool := fun n m => @decide (ND ρs c n m) (Classical.propDecidable _)
noncomputable def bSD (ρs : Nat → Nat → Nat) (c : Nat) : Nat → Nat → Bool := fun n m => @decide (SD ρs c n m) (Classical.propDecidable _)
theorem bND_t {ρs : Nat → Nat → Nat} {c n m : Nat} : bND ρs c n m = true ↔ ND ρs c n m := @decide_eq_true_iff _ (Classical.propDecidable _)
theorem bSD_t {ρs : Nat → Nat → Nat} {c n m : Nat} : bSD ρs c n m = true ↔ SD ρs c n m := @decide_eq_true_iff _ (Classical.propDecidable _)
theorem SD_ND {ρs : Nat → Nat → Nat} {c n m : Nat} (h : bSD ρs c n m = true) : bND ρs c n m = true := by
  obtain ⟨i, h1, h2, h3, p, h4, h5, h6, _⟩ := bSD_t.mp h
  exact bND_t.mpr ⟨i, h1, h2, h3, p, h4, h5, h6⟩
theorem l_read {c : Nat} {h : vt_H} {Q : vt_Q} {q : Nat → Nat} {ρs : Nat → Nat → Nat} (hS : SO h) (hR : RS h q) (hV : RVs (vh_I h) q ρs c)
    (hQ : ∀ f', NB f' (ND ρs c) (SD ρs c) → (∀ x, x ≠ 6 → x ≠ 7 → ∀ j, f' x j = vh_I h x j) → ∀ y, Wp 34 53 [.ref 5, .ref 48, .int (nI c), y] [] (vh_sI h f') Q) :
    ∀ (k i : Nat), i + k = c → ∀ f0, NB f0 (ND ρs i) (SD ρs i) → (∀ x, x ≠ 6 → x ≠ 7 → ∀ j, f0 x j = vh_I h x j) → Wp 34 26 [.ref 5, .ref 48, .int (nI c), .int (nI i)] [] (vh_sI h f0) Q := by
  have c16 := hV.1
  intro k
  induction k with
  | zero =>
    intro i hi f0 hN hf
    have : i = c := by omega
    subst this
    simp only [s_34_26, s_34_27, s_34_28, if_pos (nI_le (Nat.le_refl i) (show i < 2 ^ 31 by omega))]
    exact hQ f0 hN hf _
  | succ k ih =>
    intro i hi f0 hN hf
    have hlt : i < c := by omega
    have hi16 : i < 16 := by omega
    obtain ⟨r1, r2, r3, r4⟩ := hR.2 i hi16
    have k103 := r2.1
    have s1 := hS.1
    have hR0 : RL (vh_sI h f0) (q i) (q i + 1) (q i + 2) (q i + 3) (q i + 4) := r2
    have hV0 : RV (vh_I (vh_sI h f0)) (q i) (q i + 1) (q i + 2) (q i + 3) (q i + 4) (ρs i) := RV_c (hV.2 i hlt) (fun j => hf _ (by omega) (by omega) j) (fun j => hf _ (by omega) (by omega) j) (fun j => hf _ (by omega) (by omega) j) (fun j => hf _ (by omega) (by omega) j) (fun j => hf _ (by omega) (by omega) j)
    simp only [s_34_26, s_34_27, s_34_28, if_neg (nI_ge hlt (show c < 2 ^ 31 by omega))]
    simp only [s_34_31, s_34_32, s_34_33, s_34_34, va_rf_s, pk_mul, nI_add, not_false_eq_true, and_self, true_and, Option.toList_some, Option.toList_none, List.append_nil, List.cons_append, List.nil_append, nI_01, nI_11, vh_K_wI, vh_R_wI, vh_Z_wI, vh_wI_sI, vh_K_sI, vh_R_sI, vh_Z_sI, vh_sI_sI, vh_I_sI, hR.1.1, hR.1.2, r1, k103, cl (show i < 2 ^ 31 by omega), ib hi16 (show 16 ≤ 2 ^ 31 by omega), c_safeR _ hR0 hV0, jb_0c, s_34_37]
    by_cases w : sf (ρs i)
    · rw [if_neg (fun z => jb_0c.mp z w)]
      have hS0 : SO (vh_sI h f0) := hS
      simp only [s_34_40, s_34_41, s_34_42, s_34_43, s_34_44, va_rf_s, pk_mul, nI_add, not_false_eq_true, and_self, true_and, Option.toList_some, Option.toList_none, List.append_nil, List.cons_append, List.nil_append, nI_01, nI_11, vh_K_wI, vh_R_wI, vh_Z_wI, vh_wI_sI, vh_K_sI, vh_R_sI, vh_Z_sI, vh_sI_sI, vh_I_sI, hR.1.1, hR.1.2, r1, s1, k103, cl (show i < 2 ^ 31 by omega), ib hi16 (show 16 ≤ 2 ^ 31 by omega)]
      refine c_readRule (A := ND ρs i) (B := SD ρs i) hS0 hR0 hV0 ⟨⟨by omega, by omega⟩, by omega⟩ hN (fun f1 z1 z2 => ?_)
      rw [vh_I_sI] at z2
      simp only [va_rf_s, pk_mul, nI_add, not_false_eq_true, and_self, true_and, Option.toList_some, Option.toList_none, List.append_nil, List.cons_append, List.nil_append, nI_01, nI_11, vh_K_wI, vh_R_wI, vh_Z_wI, vh_wI_sI, vh_K_sI, vh_R_sI, vh_Z_sI, vh_sI_sI, vh_I_sI]
      simp only [s_34_47, s_34_50, va_rf_s, pk_mul, nI_add, not_false_eq_true, and_self, true_and, Option.toList_some, Option.toList_none, List.append_nil, List.cons_append, List.nil_append, nI_01, nI_11, vh_K_wI, vh_R_wI, vh_Z_wI, vh_wI_sI, vh_K_sI, vh_R_sI, vh_Z_sI, vh_sI_sI, vh_I_sI]
      refine ih (i + 1) (by omega) f1 ⟨fun n m hn hm => (z1.1 n m hn hm).trans ⟨?_, ?_⟩, fun n m hn hm => (z1.2 n m hn hm).trans ⟨?_, ?_⟩⟩ (fun x x1 x2 j => (z2 x x1 x2 j).trans (hf x x1 x2 j))
      · rintro (⟨i', a, b⟩ | z)
        · exact ⟨i', by omega, b⟩
        · exact ⟨i, by omega, w, z⟩
      · rintro ⟨i', a, b, d⟩
        by_cases e : i' = i
        · subst e; exact Or.inr d
        · exact Or.inl ⟨i', by omega, b, d⟩
      · rintro (⟨i', a, b⟩ | z)
        · exact ⟨i', by omega, b⟩
        · exact ⟨i, by omega, w, z⟩
      · rintro ⟨i', a, b, d⟩
        by_cases e : i' = i
        · subst e; exact Or.inr d
        · exact Or.inl ⟨i', by omega, b, d⟩
    · rw [if_pos (jb_0c.mpr w)]
      simp only [s_34_47, s_34_50, va_rf_s, pk_mul, nI_add, not_false_eq_true, and_self, true_and, Option.toList_some, Option.toList_none, List.append_nil, List.cons_append, List.nil_append, nI_01, nI_11, vh_K_wI, vh_R_wI, vh_Z_wI, vh_wI_sI, vh_K_sI, vh_R_sI, vh_Z_sI, vh_sI_sI, vh_I_sI]
      refine ih (i + 1) (by omega) f0 ⟨fun n m hn hm => (hN.1 n m hn hm).trans ⟨?_, ?_⟩, fun n m hn hm => (hN.2 n m hn hm).trans ⟨?_, ?_⟩⟩ hf
      · rintro ⟨i', a, b⟩; exact ⟨i', by omega, b⟩
      · rintro ⟨i', a, b, d⟩
        have : i' ≠ i := fun e => w (e ▸ b)
        exact ⟨i', by omega, b, d⟩
      · rintro ⟨i', a, b⟩; exact ⟨i', by omega, b⟩
      · rintro ⟨i', a, b, d⟩
        have : i' ≠ i := fun e => w (e ▸ b)
        exact ⟨i', by omega, b, d⟩
/-- what the strata of the rules are: the circle, the numbers -/
def SX (ρs : Nat → Nat → Nat) (c ci : Nat) (lv : Nat → Nat) : Prop := CI (bND ρs c) (bSD ρs c) ci ∧ (ci = 16 → lfp (bND ρs c) (bSD ρs c) lv ∧ ∀ n, n < 16 → lv n ≤ 15) ∧ (ci < 16 → ∀ n, n < 16 → lv n = 0)
theorem c_read {c : Nat} {h : vt_H} {Q : vt_Q} {q : Nat → Nat} {ρs : Nat → Nat → Nat} (hS : SO h) (hR : RS h q) (hV : RVs (vh_I h) q ρs c)
    (hQ : ∀ f' ci lv, SX ρs c ci lv → f' 5 4 = cI ci → (∀ n, n < 16 → f' 9 n = nI (lv n)) → (∀ x, (x < 5 ∨ 9 < x) → ∀ j, f' x j = vh_I h x j) → Q none (vh_sI h f')) : Wp 34 0 [.ref 5, .ref 48, .int (nI c), vt_un] [] h Q := by
  have hS' := hS
  obtain ⟨s1, s2, s3, s4, s5, ⟨s6, s7⟩, ⟨s8, s9⟩, ⟨s10, s11⟩, ⟨s12, s13⟩⟩ := hS
  simp only [s_34_0, s_34_1, s_34_4, s_34_5, s_34_8, s_34_9, s_34_12, s_34_13, s_34_16, s_34_17, s_34_20, s_34_21, s_34_24, s_34_25, va_rf_s, pk_mul, nI_add, not_false_eq_true, and_self, true_and, Option.toList_some, Option.toList_none, List.append_nil, List.cons_append, List.nil_append, nI_01, nI_11, vh_K_wI, vh_R_wI, vh_Z_wI, vh_wI_sI, vh_K_sI, vh_R_sI, vh_Z_sI, vh_sI_sI, vh_I_sI, s1, s2, s3, s5, c_fill _ s6 s7 (show 16 < 2 ^ 31 by omega), c_fillS _ s8 s9 (show 16 < 2 ^ 31 by omega), c_fillS _ s12 s13 (show 16 < 2 ^ 31 by omega)]
  generalize hf1 : fl2 (fl2 (fl2 (vh_I h) 6 16 (nI 0)) 7 16 (nI 0)) 9 16 (nI 0) = f1
  have fo1 : ∀ x, x ≠ 6 → x ≠ 7 → x ≠ 9 → ∀ j, f1 x j = vh_I h x j := fun x x1 x2 x3 j => by
    rw [← hf1]
    unfold fl2
    rw [if_neg (fun z => x3 z.1), if_neg (fun z => x2 z.1), if_neg (fun z => x1 z.1)]
  have f6 : ∀ n, n < 16 → f1 6 n = nI 0 := fun n hn => by
    rw [← hf1]
    unfold fl2
    rw [if_neg (by omega), if_neg (by omega), if_pos ⟨rfl, hn⟩]
  have f7 : ∀ n, n < 16 → f1 7 n = nI 0 := fun n hn => by
    rw [← hf1]
    unfold fl2
    rw [if_neg (by omega), if_pos ⟨rfl, hn⟩]
  have f9 : ∀ n, n < 16 → f1 9 n = nI 0 := fun n hn => by
    rw [← hf1]
    unfold fl2
    rw [if_pos ⟨rfl, hn⟩]
  have hS1 : SO (vh_sI h f1) := hS'
  have hR1 : RS (vh_sI h f1) q := hR
  have hV1 : RVs (vh_I (vh_sI h f1)) q ρs c := RVs_c hR hV (fun x x1 x2 j => fo1 x (by omega) (by omega) (by omega) j)
  have n0 : ∀ m, bt (nI 0) m = false := b_0
  have l := l_read (h := vh_sI h f1) (Q := Q) hS1 hR1 hV1 (fun f2 z1 z2 y => ?_) c 0 (by omega) f1 ⟨fun n m hn hm => ?_, fun n m hn hm => ?_⟩ (fun _ _ _ _ => rfl)
  · exact l
  · rw [vh_sI_sI]
    rw [vh_I_sI] at z2
    have hS2 : SO (vh_sI h f2) := hS'
    have g9 : ∀ n, n < 16 → f2 9 n = nI 0 := fun n hn => (z2 9 (by decide) (by decide) n).trans (f9 n hn)
    simp only [s_34_53, s_34_54, va_rf_s, pk_mul, nI_add, not_false_eq_true, and_self, true_and, Option.toList_some, Option.toList_none, List.append_nil, List.cons_append, List.nil_append, nI_01, nI_11, vh_K_wI, vh_R_wI, vh_Z_wI, vh_wI_sI, vh_K_sI, vh_R_sI, vh_Z_sI, vh_sI_sI, vh_I_sI, s1]
    refine c_reachAll hS2 (fun f3 y1 y2 => ?_)
    rw [vh_I_sI] at y1 y2
    have hS3 : SO (vh_sI h f3) := hS'
    have b6 : ∀ n m, n < 16 → m < 32 → bt (f2 6 n) m = bND ρs c n m := fun n m hn hm => beq2 ((z1.1 n m hn hm).trans bND_t.symm)
    have b7 : ∀ n m, n < 16 → m < 32 → bt (f2 7 n) m = bSD ρs c n m := fun n m hn hm => beq2 ((z1.2 n m hn hm).trans bSD_t.symm)
    have wsc : ∀ k, k ≤ 16 → ∀ n t, n < 16 → t < 16 → wsh (bR f2 6) k n t = wsh (bND ρs c) k n t := by
      intro k
      induction k with
      | zero => intro _ n t hn ht; exact b6 n t hn (by omega)
      | succ k ih =>
        intro hk n t hn ht
        show wst _ k n t = wst _ k n t
        unfold wst
        rw [ih (by omega) n t hn ht, ih (by omega) n k hn (by omega), ih (by omega) k t (by omega) ht]
    simp only [va_rf_s, pk_mul, nI_add, not_false_eq_true, and_self, true_and, Option.toList_some, Option.toList_none, List.append_nil, List.cons_append, List.nil_append, nI_01, nI_11, vh_K_wI, vh_R_wI, vh_Z_wI, vh_wI_sI, vh_K_sI, vh_R_sI, vh_Z_sI, vh_sI_sI, vh_I_sI]
    simp only [s_34_57, s_34_58, s_34_59, va_rf_s, pk_mul, nI_add, not_false_eq_true, and_self, true_and, Option.toList_some, Option.toList_none, List.append_nil, List.cons_append, List.nil_append, nI_01, nI_11, vh_K_wI, vh_R_wI, vh_Z_wI, vh_wI_sI, vh_K_sI, vh_R_sI, vh_Z_sI, vh_sI_sI, vh_I_sI, s1]
    refine c_circ (nd := bND ρs c) (st := bSD ρs c) hS3 (fun n m hn hm => ?_) (fun n t hn ht => ?_) (fun ci hci => ?_)
    · rw [vh_I_sI, y1 7 (by decide)]; exact b7 n m hn (by omega)
    · rw [vh_I_sI, y2 n t hn (by omega)]; exact wsc 16 (Nat.le_refl _) n t hn ht
    · simp only [va_rf_s, pk_mul, nI_add, not_false_eq_true, and_self, true_and, Option.toList_some, Option.toList_none, List.append_nil, List.cons_append, List.nil_append, nI_01, nI_11, vh_K_wI, vh_R_wI, vh_Z_wI, vh_wI_sI, vh_K_sI, vh_R_sI, vh_Z_sI, vh_sI_sI, vh_I_sI]
      simp only [s_34_62, s_34_65, s_34_66, va_rf_s, pk_mul, nI_add, not_false_eq_true, and_self, true_and, Option.toList_some, Option.toList_none, List.append_nil, List.cons_append, List.nil_append, nI_01, nI_11, vh_K_wI, vh_R_wI, vh_Z_wI, vh_wI_sI, vh_K_sI, vh_R_sI, vh_Z_sI, vh_sI_sI, vh_I_sI, s1, up2_s, s_34_69]
      generalize hf4 : up2 f3 5 4 (cI ci) = f4
      have g5 : f4 5 4 = cI ci := by rw [← hf4, up2_s]
      have go : ∀ x, x ≠ 5 → ∀ j, f4 x j = f3 x j := fun x hx j => by rw [← hf4, up2_a _ _ _ hx]
      have fr4 : ∀ x, (x < 5 ∨ 9 < x) → ∀ j, f4 x j = vh_I h x j := fun x hx j => by
        rw [go x (by omega), y1 x (by omega), z2 x (by omega) (by omega)]; exact fo1 x (by omega) (by omega) (by omega) j
      have q9 : ∀ n, n < 16 → f4 9 n = nI 0 := fun n hn => by rw [go 9 (by decide), y1 9 (by decide)]; exact g9 n hn
      have hS4 : SO (vh_sI h f4) := hS'
      by_cases e : ci = 16
      · have ec : cI ci = -nI 1 := if_pos e
        rw [ec, if_neg (by decide)]
        have noc : ∀ n, n < 16 → ¬ cyc (bND ρs c) (bSD ρs c) n := by
          rcases hci with w | w
          · omega
          · exact w.2
        obtain ⟨lv, hlv, h15⟩ := lfp_ex (fun n m => SD_ND) noc
        simp only [s_34_72, s_34_73, va_rf_s, pk_mul, nI_add, not_false_eq_true, and_self, true_and, Option.toList_some, Option.toList_none, List.append_nil, List.cons_append, List.nil_append, nI_01, nI_11, vh_K_wI, vh_R_wI, vh_Z_wI, vh_wI_sI, vh_K_sI, vh_R_sI, vh_Z_sI, vh_sI_sI, vh_I_sI, s1]
        refine c_number (f := lv) hS4 (fun n m hn hm => ?_) (fun n m hn hm => ?_) q9 hlv h15 (fun f5 x1 x2 => ?_)
        · rw [vh_I_sI, go 6 (by decide), y1 6 (by decide)]; exact b6 n m hn (by omega)
        · rw [vh_I_sI, go 7 (by decide), y1 7 (by decide)]; exact b7 n m hn (by omega)
        · rw [vh_I_sI] at x1
          simp only [va_rf_s, pk_mul, nI_add, not_false_eq_true, and_self, true_and, Option.toList_some, Option.toList_none, List.append_nil, List.cons_append, List.nil_append, nI_01, nI_11, vh_K_wI, vh_R_wI, vh_Z_wI, vh_wI_sI, vh_K_sI, vh_R_sI, vh_Z_sI, vh_sI_sI, vh_I_sI]
          simp only [s_34_76]
          refine hQ f5 ci lv ⟨hci, fun _ => ⟨hlv, h15⟩, fun z => by omega⟩ ?_ x2 (fun x hx j => ?_)
          · rw [x1 5 (by decide)]; exact g5
          · rw [x1 x (by omega)]; exact fr4 x hx j
      · have c16 : ci < 16 := by
          rcases hci with w | w
          · exact w.1
          · omega
        have ec : cI ci = nI ci := if_neg e
        rw [ec, if_pos (nI_pos' (by omega))]
        simp only [s_34_76]
        exact hQ f4 ci (fun _ => 0) ⟨hci, fun z => absurd z e, fun _ _ _ => rfl⟩ g5 q9 fr4
  · rw [f6 n hn, n0]
    exact ⟨fun z => (by cases z), fun ⟨i, z, _⟩ => absurd z (by omega)⟩
  · rw [f7 n hn, n0]
    exact ⟨fun z => (by cases z), fun ⟨i, z, _⟩ => absurd z (by omega)⟩
/-- the level of each rule -/
noncomputable def rL (ρs : Nat → Nat → Nat) (lv : Nat → Nat) (i : Nat) : Int32 := @ite Int32 (sf (ρs i)) (Classical.propDecidable _) (nI (lv (ρs i 0))) (-nI 1)
theorem l_startL {c ci : Nat} {sd : Value} {h : vt_H} {Q : vt_Q} {q : Nat → Nat} {ρs : Nat → Nat → Nat} {lv : Nat → Nat} (hK : vh_K h 4 = 102 ∧ vh_R h 4 2 = some 5 ∧ vh_R h 4 6 = some 41 ∧ vh_K h 41 = 1 ∧ vh_Z h 41 = 16) (hS : SO h) (hR : RS h q) (hV : RVs (vh_I h) q ρs c) (h15 : ∀ n, n < 16 → lv n ≤ 15) (h5 : vh_I h 5 4 = cI ci) (hci : ci ≤ 16) (h9 : ∀ n, n < 16 → vh_I h 9 n = nI (lv n))
    (hQ : ∀ f' L, L ≤ 16 → (∀ i, i < c → sf (ρs i) → lv (ρs i 0) < L) → (∀ x, x ≠ 41 → ∀ j, f' x j = vh_I h x j) → (∀ i, i < c → f' 41 i = rL ρs lv i) → Q (some (.int (nI (if ci = 16 then L else 0)))) (vh_sI h f')) :
    ∀ (k i : Nat), i + k = c → ∀ f0 L, L ≤ 16 → (∀ j, j < i → sf (ρs j) → lv (ρs j 0) < L) → (∀ x, x ≠ 41 → ∀ j, f0 x j = vh_I h x j) → (∀ j, j < i → f0 41 j = rL ρs lv j) → Wp 32 28 [.ref 4, sd, .ref 48, .int (nI c), .int (nI L), .int (nI i)] [] (vh_sI h f0) Q := by
  have c16 := hV.1
  obtain ⟨k1, k2, k3, k4, k5⟩ := hK
  obtain ⟨s1, s2, s3, s4, s5, -, -, -, ⟨s12, s13⟩⟩ := hS
  intro k
  induction k with
  | zero =>
    intro i hi f0 L a1 a2 a3 a4
    have : i = c := by omega
    subst this
    have e5 : f0 5 4 = cI ci := (a3 5 (by decide) 4).trans h5
    simp only [s_32_28, s_32_30, s_32_31, if_pos (nI_le (Nat.le_refl i) (show i < 2 ^ 31 by omega))]
    simp only [s_32_92, s_32_93, s_32_96, va_rf_s, pk_mul, nI_add, not_false_eq_true, and_self, true_and, Option.toList_some, Option.toList_none, List.append_nil, List.cons_append, List.nil_append, nI_01, nI_11, vh_K_wI, vh_R_wI, vh_Z_wI, vh_wI_sI, vh_K_sI, vh_R_sI, vh_Z_sI, vh_sI_sI, vh_I_sI, k1, k2, s1, e5, s_32_99]
    have q0 := hQ f0 L a1 a2 a3 a4
    by_cases e : ci = 16
    · rw [show cI ci = -nI 1 from if_pos e, if_pos (by decide)]
      rw [if_pos e] at q0
      simp only [s_32_106, s_32_108]
      exact q0
    · rw [show cI ci = nI ci from if_neg e, if_neg (nI_pos (by omega))]
      rw [if_neg e] at q0
      simp only [s_32_102, s_32_103, s_32_108]
      exact q0
  | succ k ih =>
    intro i hi f0 L a1 a2 a3 a4
    have hlt : i < c := by omega
    have hi16 : i < 16 := by omega
    obtain ⟨r1, r2, r3, r4⟩ := hR.2 i hi16
    have k103 := r2.1
    have hR0 : RL (vh_sI h f0) (q i) (q i + 1) (q i + 2) (q i + 3) (q i + 4) := r2
    have hV0 : RV (vh_I (vh_sI h f0)) (q i) (q i + 1) (q i + 2) (q i + 3) (q i + 4) (ρs i) := RV_c (hV.2 i hlt) (fun j => a3 _ (by omega) j) (fun j => a3 _ (by omega) j) (fun j => a3 _ (by omega) j) (fun j => a3 _ (by omega) j) (fun j => a3 _ (by omega) j)
    have e0 : f0 (q i) 0 = nI (ρs i 0) := hV0.1.1
    have n16 : ρs i 0 < 16 := hV0.1.2
    have lb := h15 (ρs i 0) n16
    simp only [s_32_28, s_32_30, s_32_31, if_neg (nI_ge hlt (show c < 2 ^ 31 by omega))]
    have tail : ∀ (v : Int32) (L' : Nat), v = rL ρs lv i → L' ≤ 16 → L ≤ L' → (sf (ρs i) → lv (ρs i 0) < L') → (if nI L < v + nI 1 then v + nI 1 else nI L) = nI L' → Wp 32 69 [.ref 4, sd, .ref 48, .int (nI c), .int (nI L), .int (nI i)] [.int v, .int (nI i), .ref 41] (vh_sI h f0) Q := by
      intro v L' hv b1 b2 b3 b4
      simp only [s_32_69, s_32_70, s_32_72, s_32_73, s_32_76, s_32_78, s_32_79, s_32_80, s_32_81, s_32_84, s_32_86, s_32_89, va_rf_s, pk_mul, nI_add, not_false_eq_true, and_self, true_and, Option.toList_some, Option.toList_none, List.append_nil, List.cons_append, List.nil_append, nI_01, nI_11, vh_K_wI, vh_R_wI, vh_Z_wI, vh_wI_sI, vh_K_sI, vh_R_sI, vh_Z_sI, vh_sI_sI, vh_I_sI, k1, k3, k4, k5, cl (show i < 2 ^ 31 by omega), ib hi16 (show 16 ≤ 2 ^ 31 by omega), up2_s, b4]
      refine ih (i + 1) (by omega) _ L' b1 (fun j hj hs => ?_) (fun x hx j => ?_) (fun j hj => ?_)
      · by_cases e : j = i
        · subst e; exact b3 hs
        · have := a2 j (by omega) hs; omega
      · rw [up2_a _ _ _ hx]; exact a3 x hx j
      · by_cases e : j = i
        · subst e; rw [up2_s]; exact hv
        · rw [up2_i _ _ _ _ e]; exact a4 j (by omega)
    simp only [s_32_34, s_32_35, s_32_38, s_32_40, s_32_41, s_32_43, s_32_44, va_rf_s, pk_mul, nI_add, not_false_eq_true, and_self, true_and, Option.toList_some, Option.toList_none, List.append_nil, List.cons_append, List.nil_append, nI_01, nI_11, vh_K_wI, vh_R_wI, vh_Z_wI, vh_wI_sI, vh_K_sI, vh_R_sI, vh_Z_sI, vh_sI_sI, vh_I_sI, k1, k3, hR.1.1, hR.1.2, r1, k103, cl (show i < 2 ^ 31 by omega), ib hi16 (show 16 ≤ 2 ^ 31 by omega), c_safeR _ hR0 hV0, jb_0c, s_32_47]
    by_cases w : sf (ρs i)
    · rw [if_neg (fun z => jb_0c.mp z w)]
      have e9 : f0 9 (ρs i 0) = nI (lv (ρs i 0)) := (a3 9 (by decide) _).trans (h9 _ n16)
      simp only [s_32_50, s_32_51, s_32_54, s_32_57, s_32_58, s_32_60, s_32_61, s_32_64, s_32_65, va_rf_s, pk_mul, nI_add, not_false_eq_true, and_self, true_and, Option.toList_some, Option.toList_none, List.append_nil, List.cons_append, List.nil_append, nI_01, nI_11, vh_K_wI, vh_R_wI, vh_Z_wI, vh_wI_sI, vh_K_sI, vh_R_sI, vh_Z_sI, vh_sI_sI, vh_I_sI, k1, k2, s1, s5, s12, s13, hR.1.1, hR.1.2, r1, k103, e0, e9, cl (show i < 2 ^ 31 by omega), ib hi16 (show 16 ≤ 2 ^ 31 by omega), cl (show ρs i 0 < 2 ^ 31 by omega), ib n16 (show 16 ≤ 2 ^ 31 by omega)]
      refine tail _ (max L (lv (ρs i 0) + 1)) ?_ (Nat.max_le.mpr ⟨a1, by omega⟩) (Nat.le_max_left _ _) (fun _ => by have := Nat.le_max_right L (lv (ρs i 0) + 1); omega) ?_
      · unfold rL; rw [if_pos w]
      · rw [nI_add, jmax (by omega) (by omega)]
    · rw [if_pos (jb_0c.mpr w)]
      simp only [s_32_68]
      refine tail _ L ?_ a1 (Nat.le_refl _) (fun z => absurd z w) ?_
      · unfold rL; rw [if_neg w]
      · rw [show -nI 1 + nI 1 = nI 0 by decide, jmax (by omega) (by omega), Nat.max_eq_left (by omega)]
theorem c_startL {c : Nat} {h : vt_H} {Q : vt_Q} {q : Nat → Nat} {ρs : Nat → Nat → Nat} {P : Nat → Nat → Nat → Bool} (hK : vh_K h 4 = 102 ∧ vh_R h 4 2 = some 5 ∧ vh_R h 4 6 = some 41 ∧ vh_K h 41 = 1 ∧ vh_Z h 41 = 16) (h3 : vh_R h 4 3 = some 10) (hT : FT h 10 11 12) (hTs : FT h 1 2 3) (hP : FR (vh_I h) 2 3 P) (hS : SO h) (hR : RS h q) (hV : RVs (vh_I h) q ρs c)
    (hQ : ∀ f' ci lv L, SX ρs c ci lv → f' 5 4 = cI ci → (∀ n, n < 16 → f' 9 n = nI (lv n)) → L ≤ 16 → (∀ i, i < c → sf (ρs i) → lv (ρs i 0) < L) → (∀ i, i < c → f' 41 i = rL ρs lv i) → FR f' 11 12 P → f' 4 1 = nI 0 → (∀ j, j ≠ 1 → f' 4 j = vh_I h 4 j) → (∀ x, (x < 4 ∨ x = 10 ∨ (12 < x ∧ x ≠ 41)) → ∀ j, f' x j = vh_I h x j) → Q (some (.int (nI (if ci = 16 then L else 0)))) (vh_sI h f')) : Wp 32 0 [.ref 4, .ref 1, .ref 48, .int (nI c), vt_un, vt_un] [] h Q := by
  have hT' := hT
  have t1 := hT.1
  have ts1 := hTs.1
  obtain ⟨k1, k2, k3, k4, k5⟩ := hK
  have s1 := hS.1
  simp only [s_32_0, s_32_1, s_32_2, s_32_5, s_32_6, s_32_9, s_32_10, va_rf_s, pk_mul, nI_add, not_false_eq_true, and_self, true_and, Option.toList_some, Option.toList_none, List.append_nil, List.cons_append, List.nil_append, nI_01, nI_11, vh_K_wI, vh_R_wI, vh_Z_wI, vh_wI_sI, vh_K_sI, vh_R_sI, vh_Z_sI, vh_sI_sI, vh_I_sI, k1, h3, t1, ts1]
  have hTa : FT (vh_sI h (up2 (vh_I h) 4 1 (nI 0))) 10 11 12 := hT'
  have hTb : FT (vh_sI h (up2 (vh_I h) 4 1 (nI 0))) 1 2 3 := hTs
  simp only [c_takeAll _ hTa hTb, va_rf_s, pk_mul, nI_add, not_false_eq_true, and_self, true_and, Option.toList_some, Option.toList_none, List.append_nil, List.cons_append, List.nil_append, nI_01, nI_11, vh_K_wI, vh_R_wI, vh_Z_wI, vh_wI_sI, vh_K_sI, vh_R_sI, vh_Z_sI, vh_sI_sI, vh_I_sI]
  generalize hf1 : cp2 (cp2 (up2 (vh_I h) 4 1 (nI 0)) 2 11 512) 3 12 512 = f1
  have f41 : f1 4 1 = nI 0 := by rw [← hf1]; unfold cp2; rw [if_neg (by omega), if_neg (by omega), up2_s]
  have f4j : ∀ j, j ≠ 1 → f1 4 j = vh_I h 4 j := fun j hj => by rw [← hf1]; unfold cp2; rw [if_neg (by omega), if_neg (by omega), up2_i _ _ _ _ hj]
  have fo1 : ∀ x, x ≠ 4 → x ≠ 11 → x ≠ 12 → ∀ j, f1 x j = vh_I h x j := fun x x1 x2 x3 j => by rw [← hf1]; unfold cp2; rw [if_neg (fun z => x3 z.1), if_neg (fun z => x2 z.1), up2_a _ _ _ x1]
  have fP : FR f1 11 12 P := by
    intro n a b hn ha hb
    have := hP n a b hn ha hb
    rw [← hf1]
    unfold cp2
    rw [if_neg (by omega), if_pos ⟨rfl, by omega⟩, if_pos ⟨rfl, by omega⟩, if_neg (by omega), up2_a _ _ _ (by decide), up2_a _ _ _ (by decide)]
    exact this
  have hS1 : SO (vh_sI h f1) := hS
  have hR1 : RS (vh_sI h f1) q := hR
  have hV1 : RVs (vh_I (vh_sI h f1)) q ρs c := RVs_c hR hV (fun x x1 x2 j => fo1 x (by omega) (by omega) (by omega) j)
  simp only [s_32_13, s_32_14, s_32_17, s_32_18, s_32_19, va_rf_s, pk_mul, nI_add, not_false_eq_true, and_self, true_and, Option.toList_some, Option.toList_none, List.append_nil, List.cons_append, List.nil_append, nI_01, nI_11, vh_K_wI, vh_R_wI, vh_Z_wI, vh_wI_sI, vh_K_sI, vh_R_sI, vh_Z_sI, vh_sI_sI, vh_I_sI, k1, k2, s1, hR.1.1]
  refine c_read hS1 hR1 hV1 (fun f2 ci lv hX z1 z2 z3 => ?_)
  rw [vh_I_sI] at z3
  simp only [va_rf_s, pk_mul, nI_add, not_false_eq_true, and_self, true_and, Option.toList_some, Option.toList_none, List.append_nil, List.cons_append, List.nil_append, nI_01, nI_11, vh_K_wI, vh_R_wI, vh_Z_wI, vh_wI_sI, vh_K_sI, vh_R_sI, vh_Z_sI, vh_sI_sI, vh_I_sI]
  simp only [s_32_22, s_32_23, s_32_25, s_32_26]
  have h15 : ∀ n, n < 16 → lv n ≤ 15 := by
    intro n hn
    by_cases e : ci = 16
    · exact (hX.2.1 e).2 n hn
    · have : ci < 16 := by rcases hX.1 with w | w <;> omega
      rw [hX.2.2 this n hn]; omega
  have ci16 : ci ≤ 16 := by rcases hX.1 with w | w <;> omega
  have hS2 : SO (vh_sI h f2) := hS
  have hR2 : RS (vh_sI h f2) q := hR
  have hV2 : RVs (vh_I (vh_sI h f2)) q ρs c := RVs_c hR1 hV1 (fun x x1 x2 j => z3 x (by omega) j)
  have l := l_startL (h := vh_sI h f2) (Q := Q) (sd := .ref 1) (ci := ci) (lv := lv) ⟨k1, k2, k3, k4, k5⟩ hS2 hR2 hV2 h15 z1 ci16 z2 (fun f3 L y1 y2 y3 y4 => ?_) c 0 (by omega) f2 0 (by omega) (fun j hj => absurd hj (by omega)) (fun _ _ _ => rfl) (fun j hj => absurd hj (by omega))
  · exact l
  · rw [vh_sI_sI]
    rw [vh_I_sI] at y3
    refine hQ f3 ci lv L hX ?_ (fun n hn => ?_) y1 y2 y4 (fun n a b hn ha hb => ?_) ?_ (fun j hj => ?_) (fun x hx j => ?_)
    · rw [y3 5 (by decide)]; exact z1
    · rw [y3 9 (by decide)]; exact z2 n hn
    · rw [y3 11 (by decide), y3 12 (by decide), z3 11 (by omega), z3 12 (by omega)]; exact fP n a b hn ha hb
    · rw [y3 4 (by decide), z3 4 (by omega)]; exact f41
    · rw [y3 4 (by decide), z3 4 (by omega)]; exact f4j j hj
    · rw [y3 x (by omega), z3 x (by omega)]; exact fo1 x (by omega) (by omega) (by omega) j

-- ===== FACTS: the loops =====
theorem FR_congr {f : Nat → Nat → Int32} {s g : Nat} {P P' : Nat → Nat → Nat → Bool} (h : FR f s g P) (e : ∀ n a b, n < 16 → a < 32 → b < 32 → P n a b = P' n a b) : FR f s g P' := fun n a b hn ha hb => by
  rw [← e n a b hn ha hb]
  exact h n a b hn ha hb
/-- P with the bits of x below i at (n, a) -/
def fa (P : Nat → Nat → Nat → Bool) (n a : Nat) (x : Int32) (i : Nat) : Nat → Nat → Nat → Bool := fun n' a' b' => P n' a' b' || (decide (n' = n ∧ a' = a ∧ b' < i) && bt x b')
theorem l_addAll {f s g n a : Nat} {x : Int32} {h : vt_H} {Q : vt_Q} {P : Nat → Nat → Nat → Bool} (hF : FT h f s g) (hsg : g ≠ s) (hn : n < 16) (ha : a < 32) (hQ : ∀ f', FR f' s g (fa P n a x 32) → (∀ c, c ≠ s → c ≠ g → ∀ j, f' c j = vh_I h c j) → Q none (vh_sI h f')) : ∀ (k i : Nat), i + k = 32 → ∀ f0, FR f0 s g (fa P n a x i) → (∀ c, c ≠ s → c ≠ g → ∀ j, f0 c j = vh_I h c j) → Wp 67 3 [.ref f, .int (nI n), .int (nI a), .int x, .int (nI i)] [] (vh_sI h f0) Q := by
  intro k
  induction k with
  | zero =>
    intro i hi f0 h0 hr
    have : i = 32 := by omega
    subst this
    simp only [s_67_3, s_67_5, s_67_7, s_67_40, if_pos (nI_le (Nat.le_refl 32) (show 32 < 2 ^ 31 by omega))]
    exact hQ f0 h0 hr
  | succ k ih =>
    intro i hi f0 h0 hr
    have hlt : i < 32 := by omega
    simp only [s_67_3, s_67_5, s_67_7, if_neg (nI_ge hlt (show 32 < 2 ^ 31 by omega))]
    simp only [s_67_10, s_67_11, s_67_13, s_67_14]
    by_cases hz : ∀ j, i ≤ j → j < 32 → bt x j = false
    · rw [if_pos ((bt_ju0 x hlt).mpr hz)]
      simp only [s_67_40]
      refine hQ f0 (FR_congr h0 (fun n' a' b' _ _ hb' => ?_)) hr
      unfold fa
      congr 1
      by_cases q : b' < i
      · have q2 : b' < 32 := by omega
        simp [q, q2]
      · rw [hz b' (by omega) hb']
        simp
    · rw [if_neg (fun q => hz ((bt_ju0 x hlt).mp q))]
      simp only [s_67_17, s_67_18, s_67_20, s_67_23, c_isIn, Option.toList_some, List.append_nil, List.cons_append, List.nil_append, jbit_bt x hlt, jb_0]
      by_cases hb : bt x i = true
      · rw [if_neg (by simp [hb])]
        have hF' : FT (vh_sI h f0) f s g := hF
        simp only [s_67_26, s_67_27, s_67_28, s_67_29, s_67_31, vh_K_sI, hF.1, true_and, c_add _ hF' hsg hn ha hlt, Option.toList_none, List.nil_append, vh_sI_sI, vh_I_sI]
        simp only [s_67_34, s_67_37, nI_add]
        refine ih (i + 1) (by omega) _ (FR_congr (FR_add h0 hsg hn ha hlt) (fun n' a' b' _ _ _ => ?_)) (fun c h1 h2 j => ?_)
        · unfold fp_set fa
          by_cases e : n' = n ∧ a' = a ∧ b' = i
          · obtain ⟨rfl, rfl, rfl⟩ := e
            simp [hb]
          · rw [if_neg e]
            congr 2
            refine decide_eq_decide.mpr ⟨fun q => ⟨q.1, q.2.1, by omega⟩, fun q => ⟨q.1, q.2.1, ?_⟩⟩
            have : b' ≠ i := fun z => e ⟨q.1, q.2.1, z⟩
            omega
        · rw [up2_a _ _ _ h2, up2_a _ _ _ h1]
          exact hr c h1 h2 j
      · rw [if_pos hb]
        simp only [s_67_34, s_67_37, nI_add]
        refine ih (i + 1) (by omega) _ (FR_congr h0 (fun n' a' b' _ _ _ => ?_)) hr
        unfold fa
        by_cases e : b' = i
        · subst e
          simp [hb]
        · congr 2
          refine decide_eq_decide.mpr ⟨fun q => ⟨q.1, q.2.1, by omega⟩, fun q => ⟨q.1, q.2.1, by omega⟩⟩
theorem c_addAll {f s g n a : Nat} {x : Int32} {h : vt_H} {Q : vt_Q} {P : Nat → Nat → Nat → Bool} (hF : FT h f s g) (hsg : g ≠ s) (hn : n < 16) (ha : a < 32) (hP : FR (vh_I h) s g P) (hQ : ∀ f', FR f' s g (fun n' a' b' => P n' a' b' || (decide (n' = n ∧ a' = a) && bt x b')) → (∀ c, c ≠ s → c ≠ g → ∀ j, f' c j = vh_I h c j) → Q none (vh_sI h f')) : Wp 67 0 [.ref f, .int (nI n), .int (nI a), .int x, vt_un] [] h Q := by
  have l := l_addAll (x := x) (P := P) (Q := Q) hF hsg hn ha (fun f' h1 h2 => hQ f' (FR_congr h1 (fun n' a' b' _ _ hb' => by
    unfold fa
    congr 2
    exact decide_eq_decide.mpr ⟨fun q => ⟨q.1, q.2.1⟩, fun q => ⟨q.1, q.2, hb'⟩⟩)) h2) 32 0 (by omega) (vh_I h) (FR_congr hP (fun n' a' b' _ _ _ => by unfold fa; simp)) (fun _ _ _ _ => rfl)
  rw [vh_sI_id] at l
  simp only [s_67_0, s_67_1]
  exact l
/-- i places from lo on of two arrays are 0 -/
def cl2 (f : Nat → Nat → Int32) (s g lo i : Nat) : Nat → Nat → Int32 := fun b j => if (b = s ∨ b = g) ∧ lo ≤ j ∧ j < lo + i then 0 else f b j
theorem cl2_0 (f : Nat → Nat → Int32) (s g lo : Nat) : cl2 f s g lo 0 = f := by
  funext b j
  unfold cl2
  rw [if_neg (by omega)]
theorem cl2_s (f : Nat → Nat → Int32) (s g lo i : Nat) : up2 (up2 (cl2 f s g lo i) s (lo + i) (nI 0)) g (lo + i) (nI 0) = cl2 f s g lo (i + 1) := by
  funext b j
  unfold up2 cl2
  by_cases h1 : b = g ∧ j = lo + i
  · rw [if_pos h1, if_pos ⟨Or.inr h1.1, by omega, by omega⟩]; rfl
  · rw [if_neg h1]
    by_cases h2 : b = s ∧ j = lo + i
    · rw [if_pos h2, if_pos ⟨Or.inl h2.1, by omega, by omega⟩]; rfl
    · rw [if_neg h2]
      by_cases h3 : (b = s ∨ b = g) ∧ lo ≤ j ∧ j < lo + i
      · rw [if_pos h3, if_pos ⟨h3.1, h3.2.1, by omega⟩]
      · rw [if_neg h3, if_neg]
        rintro ⟨q1, q2, q3⟩
        by_cases e : j = lo + i
        · rcases q1 with q1 | q1
          · exact h2 ⟨q1, e⟩
          · exact h1 ⟨q1, e⟩
        · exact h3 ⟨q1, q2, by omega⟩
theorem l_clear {f s g n : Nat} {h : vt_H} {Q : vt_Q} (hF : FT h f s g) (hn : n < 16) (hQ : Q none (vh_sI h (cl2 (vh_I h) s g (32 * n) 32))) : ∀ (k i : Nat), i + k = 32 → Wp 69 5 [.ref f, .int (nI n), .int (nI (32 * n + i))] [] (vh_sI h (cl2 (vh_I h) s g (32 * n) i)) Q := by
  obtain ⟨h1, h2, h3, h4, h5, h6, h7⟩ := hF
  intro k
  induction k with
  | zero =>
    intro i hi
    have : i = 32 := by omega
    subst this
    simp only [s_69_5, s_69_6, s_69_8, s_69_9, s_69_10, s_69_12, s_69_13, s_69_36, pk_mul, nI_add, if_pos (nI_le (Nat.le_refl (32 * n + 32)) (show 32 * n + 32 < 2 ^ 31 by omega))]
    exact hQ
  | succ k ih =>
    intro i hi
    have hlt : 32 * n + i < 32 * n + 32 := by omega
    have hk : 32 * n + i < 512 := by omega
    simp only [s_69_5, s_69_6, s_69_8, s_69_9, s_69_10, s_69_12, s_69_13, pk_mul, nI_add, if_neg (nI_ge hlt (show 32 * n + 32 < 2 ^ 31 by omega))]
    simp only [s_69_16, s_69_17, s_69_20, s_69_21, s_69_22, s_69_23, s_69_24, s_69_27, s_69_28, s_69_29, s_69_30, s_69_33, vh_K_wI, vh_Z_wI, vh_R_wI, vh_K_sI, vh_Z_sI, vh_R_sI, h1, h2, h3, h4, h5, h6, h7, va_rf_s, cl (show 32 * n + i < 2 ^ 31 by omega), ib hk (show 512 ≤ 2 ^ 31 by omega), not_false_eq_true, and_self, true_and, vh_wI_sI, vh_sI_sI, vh_I_sI, cl2_s, nI_add, Nat.add_assoc]
    exact ih (i + 1) (by omega)
theorem c_clear {f s g n : Nat} {h : vt_H} (Q : vt_Q) (hF : FT h f s g) (hn : n < 16) : Wp 69 0 [.ref f, .int (nI n), vt_un] [] h Q ↔ Q none (vh_sI h (cl2 (vh_I h) s g (32 * n) 32)) := by
  refine Wp_eq' (fun Q hQ => ?_) Q
  have l := l_clear hF hn hQ 32 0 (by omega)
  rw [cl2_0, vh_sI_id, Nat.add_zero] at l
  simp only [s_69_0, s_69_2, s_69_3, s_69_4, pk_mul]
  exact l

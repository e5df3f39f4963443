-- ===== ARRAYS AND FACTS =====
/-- an index in its bounds, as the rows ask for it once it is clamped -/
theorem ib {k N : Nat} (hk : k < N) (hN : N ≤ 2 ^ 31) : (nI k < 0 ∨ N ≤ k) = False := by
  refine eq_false ?_
  rintro (q | q)
  · exact nI_pos (by omega) q
  · omega
theorem cl {k : Nat} (h : k < 2 ^ 31) : (nI k).toNatClampNeg = k := nI_clamp h
/-- a heap with other ints -/
def vh_sI (h : vt_H) (f : Nat → Nat → Int32) : vt_H := (h.1, h.2.1, (f, h.2.2.1.2), h.2.2.2)
theorem vh_n_sI (h : vt_H) (f : Nat → Nat → Int32) : vh_n (vh_sI h f) = vh_n h := rfl
theorem vh_u_sI (h : vt_H) (f : Nat → Nat → Int32) : vh_u (vh_sI h f) = vh_u h := rfl
theorem vh_K_sI (h : vt_H) (f : Nat → Nat → Int32) : vh_K (vh_sI h f) = vh_K h := rfl
theorem vh_Z_sI (h : vt_H) (f : Nat → Nat → Int32) : vh_Z (vh_sI h f) = vh_Z h := rfl
theorem vh_R_sI (h : vt_H) (f : Nat → Nat → Int32) : vh_R (vh_sI h f) = vh_R h := rfl
theorem vh_X_sI (h : vt_H) (f : Nat → Nat → Int32) : vh_X (vh_sI h f) = vh_X h := rfl
theorem vh_L_sI (h : vt_H) (f : Nat → Nat → Int32) : vh_L (vh_sI h f) = vh_L h := rfl
theorem vh_I_sI (h : vt_H) (f : Nat → Nat → Int32) : vh_I (vh_sI h f) = f := rfl
theorem vh_sI_sI (h : vt_H) (f g : Nat → Nat → Int32) : vh_sI (vh_sI h f) g = vh_sI h g := rfl
theorem vh_sI_id (h : vt_H) : vh_sI h (vh_I h) = h := rfl
/-- one place of the ints -/
def up2 (f : Nat → Nat → Int32) (a i : Nat) (x : Int32) : Nat → Nat → Int32 := fun b j => if b = a ∧ j = i then x else f b j
theorem vh_wI_sI (h : vt_H) (a i : Nat) (x : Int32) : vh_wI h a i x = vh_sI h (up2 (vh_I h) a i x) := rfl
theorem up2_s (f : Nat → Nat → Int32) (a i : Nat) (x : Int32) : up2 f a i x a i = x := by simp [up2]
theorem up2_a (f : Nat → Nat → Int32) {a b : Nat} (i : Nat) (x : Int32) (h : b ≠ a) (j : Nat) : up2 f a i x b j = f b j := by simp [up2, h]
theorem up2_i (f : Nat → Nat → Int32) (a b : Nat) {i j : Nat} (x : Int32) (h : j ≠ i) : up2 f a i x b j = f b j := by simp [up2, h]
/-- the first k places of an array -/
def fl2 (f : Nat → Nat → Int32) (a k : Nat) (x : Int32) : Nat → Nat → Int32 := fun b j => if b = a ∧ j < k then x else f b j
theorem fl2_0 (f : Nat → Nat → Int32) (a : Nat) (x : Int32) : fl2 f a 0 x = f := by
  funext b j
  simp [fl2]
theorem fl2_s (f : Nat → Nat → Int32) (a k : Nat) (x : Int32) : up2 (fl2 f a k x) a k x = fl2 f a (k + 1) x := by
  funext b j
  unfold up2 fl2
  by_cases h1 : b = a
  · by_cases h2 : j = k
    · rw [if_pos ⟨h1, h2⟩, if_pos ⟨h1, by omega⟩]
    · rw [if_neg (fun q => h2 q.2)]
      by_cases h3 : j < k
      · rw [if_pos ⟨h1, h3⟩, if_pos ⟨h1, by omega⟩]
      · rw [if_neg (fun q => h3 q.2), if_neg (fun q => by omega)]
  · rw [if_neg (fun q => h1 q.1), if_neg (fun q => h1 q.1), if_neg (fun q => h1 q.1)]
/-- Arrays.fill -/
theorem l_fill {a Z : Nat} {x : Int32} {h : vt_H} {Q : vt_Q} (hK : vh_K h a = 1) (hZ : vh_Z h a = Z) (hz : Z < 2 ^ 31) (hQ : Q none (vh_sI h (fl2 (vh_I h) a Z x))) : ∀ (k i : Nat), i + k = Z → Wp 35 5 [.ref a, .int x, .int (nI i), .int (nI Z)] [] (vh_sI h (fl2 (vh_I h) a i x)) Q := by
  intro k
  induction k with
  | zero =>
    intro i hi
    have : i = Z := by omega
    subst this
    simp only [s_35_5, s_35_6, s_35_7, s_35_20, if_pos (nI_le (Nat.le_refl i) hz)]
    exact hQ
  | succ k ih =>
    intro i hi
    have hlt : i < Z := by omega
    simp only [s_35_5, s_35_6, s_35_7, if_neg (nI_ge hlt hz)]
    simp only [s_35_10, s_35_11, s_35_12, s_35_13, s_35_14, s_35_17, vh_K_sI, vh_Z_sI, hK, hZ, cl (show i < 2 ^ 31 by omega), ib hlt (show Z ≤ 2 ^ 31 by omega), not_false_eq_true, and_self, true_and, vh_wI_sI, vh_sI_sI, vh_I_sI, fl2_s, nI_add]
    exact ih (i + 1) (by omega)
theorem c_fill {a Z : Nat} {x : Int32} {h : vt_H} (Q : vt_Q) (hK : vh_K h a = 1) (hZ : vh_Z h a = Z) (hz : Z < 2 ^ 31) : Wp 35 0 [.ref a, .int x, vt_un, vt_un] [] h Q ↔ Q none (vh_sI h (fl2 (vh_I h) a Z x)) := by
  refine Wp_eq' (fun Q hQ => ?_) Q
  have l := l_fill hK hZ hz hQ Z 0 (by omega)
  rw [fl2_0, vh_sI_id] at l
  simp only [s_35_0, s_35_1, s_35_2, s_35_3, s_35_4, hK, hZ]
  exact ⟨by omega, l⟩
/-- a set of facts: its object, by first numbers, by second numbers -/
def FT (h : vt_H) (f s g : Nat) : Prop := vh_K h f = 101 ∧ vh_R h f 0 = some s ∧ vh_R h f 1 = some g ∧ vh_K h s = 1 ∧ vh_Z h s = 512 ∧ vh_K h g = 1 ∧ vh_Z h g = 512
theorem c_has {f s g n a : Nat} {y : Int32} {h : vt_H} (Q : vt_Q) (hF : FT h f s g) (hn : n < 16) (ha : a < 32) : Wp 10 0 [.ref f, .int (nI n), .int (nI a), .int y] [] h Q ↔ Q (some (.int (jbit (vh_I h s (32 * n + a)) y))) h := by
  obtain ⟨h1, h2, h3, h4, h5, h6, h7⟩ := hF
  have hk : 32 * n + a < 512 := by omega
  simp only [s_10_0, s_10_1, s_10_4, s_10_6, s_10_7, s_10_8, s_10_9, s_10_10, s_10_11, s_10_12, s_10_15, h1, h2, h4, h5, va_rf_s, pk_mul, nI_add, ib hk (show 512 ≤ 2 ^ 31 by omega), cl (show 32 * n + a < 2 ^ 31 by omega), not_false_eq_true, and_self, true_and, c_isIn, Option.toList_some, List.append_nil, List.cons_append, List.nil_append]
  exact ⟨fun q => q.2, fun q => ⟨jb_01, q⟩⟩
theorem c_add {f s g n a b : Nat} {h : vt_H} (Q : vt_Q) (hF : FT h f s g) (hsg : g ≠ s) (hn : n < 16) (ha : a < 32) (hb : b < 32) : Wp 12 0 [.ref f, .int (nI n), .int (nI a), .int (nI b)] [] h Q ↔ Q none (vh_sI h (up2 (up2 (vh_I h) s (32 * n + a) (vh_I h s (32 * n + a) ||| j1 (nI b))) g (32 * n + b) (vh_I h g (32 * n + b) ||| j1 (nI a)))) := by
  obtain ⟨h1, h2, h3, h4, h5, h6, h7⟩ := hF
  have hk : 32 * n + a < 512 := by omega
  have hj : 32 * n + b < 512 := by omega
  simp only [s_12_0, s_12_1, s_12_4, s_12_6, s_12_7, s_12_8, s_12_9, s_12_10, s_12_11, s_12_12, s_12_13, s_12_14, s_12_15, s_12_16, s_12_17, s_12_18, s_12_21, s_12_23, s_12_24, s_12_25, s_12_26, s_12_27, s_12_28, s_12_29, s_12_30, s_12_31, s_12_32, s_12_33, s_12_34, h1, h2, h3, h4, h5, h6, h7, va_rf_s, pk_mul, nI_add, ib hk (show 512 ≤ 2 ^ 31 by omega), ib hj (show 512 ≤ 2 ^ 31 by omega), cl (show 32 * n + a < 2 ^ 31 by omega), cl (show 32 * n + b < 2 ^ 31 by omega), not_false_eq_true, and_self, true_and, vh_K_wI, vh_R_wI, vh_Z_wI, vh_wI_sI, vh_K_sI, vh_R_sI, vh_Z_sI, vh_sI_sI, vh_I_sI, up2_a _ _ _ hsg, j1]
theorem c_cut {f s g n a b : Nat} {h : vt_H} (Q : vt_Q) (hF : FT h f s g) (hsg : g ≠ s) (hn : n < 16) (ha : a < 32) (hb : b < 32) : Wp 14 0 [.ref f, .int (nI n), .int (nI a), .int (nI b)] [] h Q ↔ Q none (vh_sI h (up2 (up2 (vh_I h) s (32 * n + a) (vh_I h s (32 * n + a) &&& (j1 (nI b) ^^^ -nI 1))) g (32 * n + b) (vh_I h g (32 * n + b) &&& (j1 (nI a) ^^^ -nI 1)))) := by
  obtain ⟨h1, h2, h3, h4, h5, h6, h7⟩ := hF
  have hk : 32 * n + a < 512 := by omega
  have hj : 32 * n + b < 512 := by omega
  simp only [s_14_0, s_14_1, s_14_4, s_14_6, s_14_7, s_14_8, s_14_9, s_14_10, s_14_11, s_14_12, s_14_13, s_14_14, s_14_15, s_14_16, s_14_17, s_14_18, s_14_19, s_14_20, s_14_23, s_14_25, s_14_26, s_14_27, s_14_28, s_14_29, s_14_30, s_14_31, s_14_32, s_14_33, s_14_34, s_14_35, s_14_36, s_14_37, s_14_38, h1, h2, h3, h4, h5, h6, h7, va_rf_s, pk_mul, nI_add, ib hk (show 512 ≤ 2 ^ 31 by omega), ib hj (show 512 ≤ 2 ^ 31 by omega), cl (show 32 * n + a < 2 ^ 31 by omega), cl (show 32 * n + b < 2 ^ 31 by omega), not_false_eq_true, and_self, true_and, vh_K_wI, vh_R_wI, vh_Z_wI, vh_wI_sI, vh_K_sI, vh_R_sI, vh_Z_sI, vh_sI_sI, vh_I_sI, up2_a _ _ _ hsg, j1]
/-- an array's ints copied into another from their starts -/
def cp2 (f : Nat → Nat → Int32) (a0 a n : Nat) : Nat → Nat → Int32 := fun b j => if b = a ∧ j < n then f a0 j else f b j
theorem vh_cp_sI (h : vt_H) (a0 a n : Nat) : vh_cp h a0 0 a 0 n = vh_sI h (cp2 (vh_I h) a0 a n) := by
  unfold vh_cp vh_sI
  congr 4
  funext b j
  unfold cp2 va_cpy
  by_cases e : b = a
  · subst e
    by_cases q : j < n
    · simp [q]
    · simp [q]
  · simp [e]
theorem c_takeAll {f s g f' s' g' : Nat} {h : vt_H} (Q : vt_Q) (hF : FT h f s g) (hF' : FT h f' s' g') : Wp 33 0 [.ref f, .ref f'] [] h Q ↔ Q none (vh_sI h (cp2 (cp2 (vh_I h) s' s 512) g' g 512)) := by
  obtain ⟨h1, h2, h3, h4, h5, h6, h7⟩ := hF
  obtain ⟨k1, k2, k3, k4, k5, k6, k7⟩ := hF'
  simp only [s_33_0, s_33_1, s_33_4, s_33_5, s_33_6, s_33_9, s_33_10, s_33_13, s_33_16, s_33_17, s_33_20, s_33_21, s_33_22, s_33_25, s_33_26, s_33_29, s_33_32, h1, h2, h3, h4, h5, h6, h7, k1, k2, k3, k4, k5, k6, k7, va_rf_s, cl (show 0 < 2 ^ 31 by omega), cl (show 512 < 2 ^ 31 by omega), nI_pos (show 0 < 2 ^ 31 by omega), nI_pos (show 512 < 2 ^ 31 by omega), List.length_nil, Nat.zero_le, Nat.zero_add, Nat.le_refl, not_false_eq_true, and_self, true_and, vh_K_cp, vh_R_cp, vh_Z_cp, vh_cp_sI, vh_K_sI, vh_R_sI, vh_Z_sI, vh_sI_sI, vh_I_sI]
/-- what a set of facts holds -/
def FR (f : Nat → Nat → Int32) (s g : Nat) (P : Nat → Nat → Nat → Bool) : Prop := ∀ n a b, n < 16 → a < 32 → b < 32 → bt (f s (32 * n + a)) b = P n a b ∧ bt (f g (32 * n + b)) a = P n a b
def fp_set (P : Nat → Nat → Nat → Bool) (n a b : Nat) (x : Bool) : Nat → Nat → Nat → Bool := fun n' a' b' => if n' = n ∧ a' = a ∧ b' = b then x else P n' a' b'
theorem FR_put {f : Nat → Nat → Int32} {s g n a b : Nat} {P : Nat → Nat → Nat → Bool} {x y : Int32} {v : Bool} (hF : FR f s g P) (hsg : g ≠ s) (hn : n < 16) (ha : a < 32) (hb : b < 32) (hx : ∀ i, i < 32 → bt x i = if i = b then v else bt (f s (32 * n + a)) i) (hy : ∀ i, i < 32 → bt y i = if i = a then v else bt (f g (32 * n + b)) i) : FR (up2 (up2 f s (32 * n + a) x) g (32 * n + b) y) s g (fp_set P n a b v) := by
  intro n' a' b' hn' ha' hb'
  obtain ⟨q1, q2⟩ := hF n' a' b' hn' ha' hb'
  unfold fp_set
  constructor
  · rw [up2_a _ _ _ hsg.symm]
    by_cases e : 32 * n' + a' = 32 * n + a
    · have e1 : n' = n := by omega
      have e2 : a' = a := by omega
      subst e1; subst e2
      rw [up2_s, hx b' hb']
      by_cases e3 : b' = b
      · rw [if_pos e3, if_pos ⟨rfl, rfl, e3⟩]
      · rw [if_neg e3, if_neg (fun q => e3 q.2.2)]
        exact q1
    · rw [up2_i _ _ _ _ e, if_neg (fun q => e (by rw [q.1, q.2.1]))]
      exact q1
  · by_cases e : 32 * n' + b' = 32 * n + b
    · have e1 : n' = n := by omega
      have e2 : b' = b := by omega
      subst e1; subst e2
      rw [up2_s, hy a' ha']
      by_cases e3 : a' = a
      · rw [if_pos e3, if_pos ⟨rfl, e3, rfl⟩]
      · rw [if_neg e3, if_neg (fun q => e3 q.2.1)]
        exact q2
    · rw [up2_i _ _ _ _ e, up2_a _ _ _ hsg, if_neg (fun q => e (by rw [q.1, q.2.2]))]
      exact q2
theorem FR_add {f : Nat → Nat → Int32} {s g n a b : Nat} {P : Nat → Nat → Nat → Bool} (hF : FR f s g P) (hsg : g ≠ s) (hn : n < 16) (ha : a < 32) (hb : b < 32) : FR (up2 (up2 f s (32 * n + a) (f s (32 * n + a) ||| j1 (nI b))) g (32 * n + b) (f g (32 * n + b) ||| j1 (nI a))) s g (fp_set P n a b true) := by
  refine FR_put hF hsg hn ha hb (fun i hi => ?_) (fun i hi => ?_)
  · rw [b_or, bt_j1 hb hi]
    by_cases e : i = b <;> simp [e]
  · rw [b_or, bt_j1 ha hi]
    by_cases e : i = a <;> simp [e]
theorem FR_cut {f : Nat → Nat → Int32} {s g n a b : Nat} {P : Nat → Nat → Nat → Bool} (hF : FR f s g P) (hsg : g ≠ s) (hn : n < 16) (ha : a < 32) (hb : b < 32) : FR (up2 (up2 f s (32 * n + a) (f s (32 * n + a) &&& (j1 (nI b) ^^^ -nI 1))) g (32 * n + b) (f g (32 * n + b) &&& (j1 (nI a) ^^^ -nI 1))) s g (fp_set P n a b false) := by
  refine FR_put hF hsg hn ha hb (fun i hi => ?_) (fun i hi => ?_)
  · rw [b_and, bt_not _ hi, bt_j1 hb hi]
    by_cases e : i = b <;> simp [e]
  · rw [b_and, bt_not _ hi, bt_j1 ha hi]
    by_cases e : i = a <;> simp [e]

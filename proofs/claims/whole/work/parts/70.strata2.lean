-- ===== STRATA of the class: reachAll, leastCircle, leastLevel, number, read =====
def bR (f : Nat → Nat → Int32) (c : Nat) : Nat → Nat → Bool := fun n m => bt (f c n) m
theorem wst_by {R : Nat → Nat → Bool} {k t : Nat} : wst R k k t = R k t := by
  unfold wst
  cases R k k <;> cases R k t <;> rfl
theorem wst_col {R : Nat → Nat → Bool} {k n : Nat} : wst R k n k = R n k := by
  unfold wst
  cases R n k <;> cases R k k <;> rfl
/-- reach holds a step's result for the rows below i -/
def rI (f : Nat → Nat → Int32) (R : Nat → Nat → Bool) (k i : Nat) : Prop := ∀ n t, n < 16 → t < 32 → bt (f 8 n) t = if n < i then wst R k n t else R n t
theorem l_reachI {k : Nat} {h : vt_H} {Q : vt_Q} {R : Nat → Nat → Bool} (hS : SO h) (hk : k < 16)
    (hQ : ∀ f', (∀ c, c ≠ 8 → ∀ j, f' c j = vh_I h c j) → (∀ n t, n < 16 → t < 32 → bt (f' 8 n) t = wst R k n t) → ∀ y, Wp 37 65 [.ref 5, .int (nI k), y] [] (vh_sI h f') Q) :
    ∀ (j i : Nat), i + j = 16 → ∀ f0, (∀ c, c ≠ 8 → ∀ j, f0 c j = vh_I h c j) → rI f0 R k i → Wp 37 25 [.ref 5, .int (nI k), .int (nI i)] [] (vh_sI h f0) Q := by
  obtain ⟨s1, s2, s3, s4, s5, ⟨s6, s7⟩, ⟨s8, s9⟩, ⟨s10, s11⟩, -⟩ := hS
  intro j
  induction j with
  | zero =>
    intro i hi f0 hf hr
    have : i = 16 := by omega
    subst this
    simp only [s_37_25, s_37_26, s_37_28, if_pos (nI_le (Nat.le_refl 16) (show 16 < 2 ^ 31 by omega))]
    exact hQ f0 hf (fun n t hn ht => by rw [hr n t hn ht, if_pos hn]) _
  | succ j ih =>
    intro i hi f0 hf hr
    have hlt : i < 16 := by omega
    have row : ∀ t, t < 32 → bt (f0 8 k) t = R k t := fun t ht => by
      rw [hr k t hk ht]
      split
      · exact wst_by
      · rfl
    simp only [s_37_25, s_37_26, s_37_28, if_neg (nI_ge hlt (show 16 < 2 ^ 31 by omega))]
    simp only [s_37_31, s_37_32, s_37_35, s_37_36, s_37_37, s_37_38, va_rf_s, pk_mul, nI_add, not_false_eq_true, and_self, true_and, Option.toList_some, Option.toList_none, List.append_nil, List.cons_append, List.nil_append, nI_01, nI_11, vh_K_wI, vh_R_wI, vh_Z_wI, vh_wI_sI, vh_K_sI, vh_R_sI, vh_Z_sI, vh_sI_sI, vh_I_sI, s1, s4, s10, s11, cl (show i < 2 ^ 31 by omega), ib hlt (show 16 ≤ 2 ^ 31 by omega), c_isIn, jbit_bt _ (show k < 32 by omega), jb_0, s_37_41]
    have ei : ∀ t, t < 32 → bt (f0 8 i) t = R i t := fun t ht => by rw [hr i t hlt ht, if_neg (Nat.lt_irrefl i)]
    rw [ei k (by omega)]
    by_cases q : R i k = true
    · rw [if_neg (fun z => z q)]
      simp only [s_37_44, s_37_45, s_37_48, s_37_49, s_37_50, s_37_51, s_37_52, s_37_55, s_37_56, s_37_57, s_37_58, s_37_59, s_37_62, va_rf_s, pk_mul, nI_add, not_false_eq_true, and_self, true_and, Option.toList_some, Option.toList_none, List.append_nil, List.cons_append, List.nil_append, nI_01, nI_11, vh_K_wI, vh_R_wI, vh_Z_wI, vh_wI_sI, vh_K_sI, vh_R_sI, vh_Z_sI, vh_sI_sI, vh_I_sI, s1, s4, s10, s11, cl (show i < 2 ^ 31 by omega), ib hlt (show 16 ≤ 2 ^ 31 by omega), cl (show k < 2 ^ 31 by omega), ib hk (show 16 ≤ 2 ^ 31 by omega)]
      refine ih (i + 1) (by omega) _ (fun c hc x => ?_) (fun n t hn ht => ?_)
      · rw [up2_a _ _ _ hc]; exact hf c hc x
      · by_cases e : n = i
        · subst e
          rw [up2_s, if_pos (by omega), b_or, ei t ht, row t ht]
          unfold wst
          rw [q, Bool.true_and]
        · rw [up2_i _ _ _ _ e, hr n t hn ht]
          by_cases w : n < i
          · rw [if_pos w, if_pos (by omega)]
          · rw [if_neg w, if_neg (by omega)]
    · rw [if_pos q]
      simp only [s_37_59, s_37_62, va_rf_s, pk_mul, nI_add, not_false_eq_true, and_self, true_and, Option.toList_some, Option.toList_none, List.append_nil, List.cons_append, List.nil_append, nI_01, nI_11, vh_K_wI, vh_R_wI, vh_Z_wI, vh_wI_sI, vh_K_sI, vh_R_sI, vh_Z_sI, vh_sI_sI, vh_I_sI]
      refine ih (i + 1) (by omega) _ hf (fun n t hn ht => ?_)
      rw [hr n t hn ht]
      by_cases e : n = i
      · subst e
        rw [if_neg (Nat.lt_irrefl n), if_pos (by omega)]
        unfold wst
        have : R n k = false := by cases h : R n k with | false => rfl | true => exact absurd h q
        rw [this, Bool.false_and, Bool.or_false]
      · by_cases w : n < i
        · rw [if_pos w, if_pos (by omega)]
        · rw [if_neg w, if_neg (by omega)]
theorem l_reachO {h : vt_H} {Q : vt_Q} {R : Nat → Nat → Bool} (hS : SO h)
    (hQ : ∀ f', (∀ c, c ≠ 8 → ∀ j, f' c j = vh_I h c j) → (∀ n t, n < 16 → t < 32 → bt (f' 8 n) t = wsh R 16 n t) → Q none (vh_sI h f')) :
    ∀ (j i : Nat), i + j = 16 → ∀ f0 y, (∀ c, c ≠ 8 → ∀ j, f0 c j = vh_I h c j) → (∀ n t, n < 16 → t < 32 → bt (f0 8 n) t = wsh R i n t) → Wp 37 17 [.ref 5, .int (nI i), y] [] (vh_sI h f0) Q := by
  intro j
  induction j with
  | zero =>
    intro i hi f0 y hf hr
    have : i = 16 := by omega
    subst this
    simp only [s_37_17, s_37_18, s_37_20, s_37_71, if_pos (nI_le (Nat.le_refl 16) (show 16 < 2 ^ 31 by omega))]
    exact hQ f0 hf hr
  | succ j ih =>
    intro i hi f0 y hf hr
    have hlt : i < 16 := by omega
    simp only [s_37_17, s_37_18, s_37_20, if_neg (nI_ge hlt (show 16 < 2 ^ 31 by omega))]
    simp only [s_37_23, s_37_24]
    refine l_reachI (R := wsh R i) hS hlt (fun f' z1 z2 y => ?_) 16 0 (by omega) f0 hf (fun n t hn ht => by rw [if_neg (by omega)]; exact hr n t hn ht)
    simp only [s_37_65, s_37_68, va_rf_s, pk_mul, nI_add, not_false_eq_true, and_self, true_and, Option.toList_some, Option.toList_none, List.append_nil, List.cons_append, List.nil_append, nI_01, nI_11, vh_K_wI, vh_R_wI, vh_Z_wI, vh_wI_sI, vh_K_sI, vh_R_sI, vh_Z_sI, vh_sI_sI, vh_I_sI]
    exact ih (i + 1) (by omega) f' _ z1 z2
theorem c_reachAll {h : vt_H} {Q : vt_Q} (hS : SO h) (hQ : ∀ f', (∀ c, c ≠ 8 → ∀ j, f' c j = vh_I h c j) → (∀ n t, n < 16 → t < 32 → bt (f' 8 n) t = wsh (bR (vh_I h) 6) 16 n t) → Q none (vh_sI h f')) : Wp 37 0 [.ref 5, vt_un, vt_un] [] h Q := by
  have hS' := hS
  obtain ⟨s1, s2, s3, s4, s5, ⟨s6, s7⟩, ⟨s8, s9⟩, ⟨s10, s11⟩, -⟩ := hS
  simp only [s_37_0, s_37_1, s_37_4, s_37_5, s_37_6, s_37_9, s_37_10, s_37_12, s_37_15, s_37_16, va_rf_s, pk_mul, nI_add, not_false_eq_true, and_self, true_and, Option.toList_some, Option.toList_none, List.append_nil, List.cons_append, List.nil_append, nI_01, nI_11, vh_K_wI, vh_R_wI, vh_Z_wI, vh_wI_sI, vh_K_sI, vh_R_sI, vh_Z_sI, vh_sI_sI, vh_I_sI, s1, s2, s4, s6, s7, s10, s11, vh_cp5, cl (show 0 < 2 ^ 31 by omega), cl (show 16 < 2 ^ 31 by omega), nI_pos (show 0 < 2 ^ 31 by omega), nI_pos (show 16 < 2 ^ 31 by omega), List.length_nil, Nat.zero_le, show 0 + 16 ≤ 16 by omega]
  refine l_reachO (R := bR (vh_I h) 6) hS' hQ 16 0 (by omega) _ _ (fun c hc j => cp5_a _ hc j) (fun n t hn ht => ?_)
  rw [cp5_s _ (by omega)]
  show bt (vh_I h 6 (0 + (n - 0))) t = bt (vh_I h 6 n) t
  rw [Nat.zero_add, Nat.sub_zero]
theorem l_circI {n : Nat} {h : vt_H} {Q : vt_Q} {nd st : Nat → Nat → Bool} (hS : SO h) (hn : n < 16) (h7 : ∀ n m, n < 16 → m < 16 → bt (vh_I h 7 n) m = st n m) (h8 : ∀ n t, n < 16 → t < 16 → bt (vh_I h 8 n) t = wsh nd 16 n t)
    (hQ1 : cyc nd st n → Q (some (.int (nI n))) h) (hQ0 : ¬ cyc nd st n → ∀ y, Wp 38 55 [.ref 5, .int (nI n), y] [] h Q) :
    ∀ (k i : Nat), i + k = 16 → (∀ m, m < i → ¬ (st n m = true ∧ (m = n ∨ wsh nd 16 m n = true))) → Wp 38 10 [.ref 5, .int (nI n), .int (nI i)] [] h Q := by
  obtain ⟨s1, s2, s3, s4, s5, ⟨s6, s7⟩, ⟨s8, s9⟩, ⟨s10, s11⟩, -⟩ := hS
  intro k
  induction k with
  | zero =>
    intro i hi no
    have : i = 16 := by omega
    subst this
    simp only [s_38_10, s_38_11, s_38_13, if_pos (nI_le (Nat.le_refl 16) (show 16 < 2 ^ 31 by omega))]
    exact hQ0 (fun ⟨m, z1, z2⟩ => no m z1 z2) _
  | succ k ih =>
    intro i hi no
    have hlt : i < 16 := by omega
    have next : ¬ (st n i = true ∧ (i = n ∨ wsh nd 16 i n = true)) → Wp 38 49 [.ref 5, .int (nI n), .int (nI i)] [] h Q := by
      intro no'
      simp only [s_38_49, s_38_52, va_rf_s, pk_mul, nI_add, not_false_eq_true, and_self, true_and, Option.toList_some, Option.toList_none, List.append_nil, List.cons_append, List.nil_append, nI_01, nI_11, vh_K_wI, vh_R_wI, vh_Z_wI, vh_wI_sI, vh_K_sI, vh_R_sI, vh_Z_sI, vh_sI_sI, vh_I_sI]
      refine ih (i + 1) (by omega) (fun m hm => ?_)
      by_cases e : m = i
      · subst e; exact no'
      · exact no m (by omega)
    simp only [s_38_10, s_38_11, s_38_13, if_neg (nI_ge hlt (show 16 < 2 ^ 31 by omega))]
    simp only [s_38_16, s_38_17, s_38_20, s_38_21, s_38_22, s_38_23, va_rf_s, pk_mul, nI_add, not_false_eq_true, and_self, true_and, Option.toList_some, Option.toList_none, List.append_nil, List.cons_append, List.nil_append, nI_01, nI_11, vh_K_wI, vh_R_wI, vh_Z_wI, vh_wI_sI, vh_K_sI, vh_R_sI, vh_Z_sI, vh_sI_sI, vh_I_sI, s1, s3, s8, s9, cl (show n < 2 ^ 31 by omega), ib hn (show 16 ≤ 2 ^ 31 by omega), c_isIn, jbit_bt _ (show i < 32 by omega), jb_0, h7 n i hn hlt, s_38_26]
    by_cases q : st n i = true
    · rw [if_neg (fun z => z q)]
      simp only [s_38_29, s_38_30, s_38_31]
      by_cases e : i = n
      · rw [if_pos (by rw [e])]
        simp only [s_38_47, s_38_48]
        exact hQ1 ⟨i, hlt, q, Or.inl e⟩
      · rw [if_neg (fun z => e ((nI_eq (by omega) (by omega)).mp z))]
        simp only [s_38_34, s_38_35, s_38_38, s_38_39, s_38_40, s_38_41, va_rf_s, pk_mul, nI_add, not_false_eq_true, and_self, true_and, Option.toList_some, Option.toList_none, List.append_nil, List.cons_append, List.nil_append, nI_01, nI_11, vh_K_wI, vh_R_wI, vh_Z_wI, vh_wI_sI, vh_K_sI, vh_R_sI, vh_Z_sI, vh_sI_sI, vh_I_sI, s1, s4, s10, s11, cl (show i < 2 ^ 31 by omega), ib hlt (show 16 ≤ 2 ^ 31 by omega), c_isIn, jbit_bt _ (show n < 32 by omega), jb_0, h8 i n hlt hn, s_38_44]
        by_cases q2 : wsh nd 16 i n = true
        · rw [if_neg (fun z => z q2)]
          simp only [s_38_47, s_38_48]
          exact hQ1 ⟨i, hlt, q, Or.inr q2⟩
        · rw [if_pos q2]
          exact next (fun z => z.2.elim e q2)
    · rw [if_pos q]
      exact next (fun z => q z.1)
/-- the least circle: 16 for none -/
def CI (nd st : Nat → Nat → Bool) (c : Nat) : Prop := (c < 16 ∧ cyc nd st c ∧ ∀ n, n < c → ¬ cyc nd st n) ∨ (c = 16 ∧ ∀ n, n < 16 → ¬ cyc nd st n)
theorem CI_uniq {nd st : Nat → Nat → Bool} {c c' : Nat} (h : CI nd st c) (h' : CI nd st c') : c = c' := by
  rcases h with h | h <;> rcases h' with h' | h'
  · rcases Nat.lt_trichotomy c c' with q | q | q
    · exact absurd h.2.1 (h'.2.2 c q)
    · exact q
    · exact absurd h'.2.1 (h.2.2 c' q)
  · exact absurd h.2.1 (h'.2 c h.1)
  · exact absurd h'.2.1 (h.2 c' h'.1)
  · omega
def cI (c : Nat) : Int32 := if c = 16 then -nI 1 else nI c
theorem l_circ {h : vt_H} {Q : vt_Q} {nd st : Nat → Nat → Bool} (hS : SO h) (h7 : ∀ n m, n < 16 → m < 16 → bt (vh_I h 7 n) m = st n m) (h8 : ∀ n t, n < 16 → t < 16 → bt (vh_I h 8 n) t = wsh nd 16 n t)
    (hQ : ∀ c, CI nd st c → Q (some (.int (cI c))) h) :
    ∀ (k i : Nat), i + k = 16 → ∀ y, (∀ m, m < i → ¬ cyc nd st m) → Wp 38 2 [.ref 5, .int (nI i), y] [] h Q := by
  intro k
  induction k with
  | zero =>
    intro i hi y no
    have : i = 16 := by omega
    subst this
    simp only [s_38_2, s_38_3, s_38_5, s_38_61, s_38_62, if_pos (nI_le (Nat.le_refl 16) (show 16 < 2 ^ 31 by omega))]
    exact hQ 16 (Or.inr ⟨rfl, no⟩)
  | succ k ih =>
    intro i hi y no
    have hlt : i < 16 := by omega
    simp only [s_38_2, s_38_3, s_38_5, if_neg (nI_ge hlt (show 16 < 2 ^ 31 by omega))]
    simp only [s_38_8, s_38_9]
    refine l_circI hS hlt h7 h8 (fun hc => ?_) (fun hc y => ?_) 16 0 (by omega) (fun m hm => absurd hm (by omega))
    · have := hQ i (Or.inl ⟨hlt, hc, no⟩)
      unfold cI at this
      rw [if_neg (by omega)] at this
      exact this
    · simp only [s_38_55, s_38_58, va_rf_s, pk_mul, nI_add, not_false_eq_true, and_self, true_and, Option.toList_some, Option.toList_none, List.append_nil, List.cons_append, List.nil_append, nI_01, nI_11, vh_K_wI, vh_R_wI, vh_Z_wI, vh_wI_sI, vh_K_sI, vh_R_sI, vh_Z_sI, vh_sI_sI, vh_I_sI]
      refine ih (i + 1) (by omega) _ (fun m hm => ?_)
      by_cases e : m = i
      · subst e; exact hc
      · exact no m (by omega)
theorem c_circ {h : vt_H} {Q : vt_Q} {nd st : Nat → Nat → Bool} (hS : SO h) (h7 : ∀ n m, n < 16 → m < 16 → bt (vh_I h 7 n) m = st n m) (h8 : ∀ n t, n < 16 → t < 16 → bt (vh_I h 8 n) t = wsh nd 16 n t)
    (hQ : ∀ c, CI nd st c → Q (some (.int (cI c))) h) : Wp 38 0 [.ref 5, vt_un, vt_un] [] h Q := by
  simp only [s_38_0, s_38_1]
  exact l_circ hS h7 h8 hQ 16 0 (by omega) _ (fun m hm => absurd hm (by omega))
/-- the least number that n's needs below k allow -/
def ll (nd st : Nat → Nat → Bool) (l : Nat → Nat) (n : Nat) : Nat → Nat
  | 0 => 0
  | k + 1 => if nd n k = true then max (ll nd st l n k) (l k + (if st n k = true then 1 else 0)) else ll nd st l n k
theorem ll_ge {nd st : Nat → Nat → Bool} {l : Nat → Nat} {n : Nat} : ∀ {k m : Nat}, m < k → nd n m = true → l m + (if st n m = true then 1 else 0) ≤ ll nd st l n k
  | 0, _, h, _ => absurd h (by omega)
  | k + 1, m, h, hn => by
    show _ ≤ (if nd n k = true then max (ll nd st l n k) (l k + (if st n k = true then 1 else 0)) else ll nd st l n k)
    by_cases e : m = k
    · subst e
      rw [if_pos hn]
      exact Nat.le_max_right _ _
    · have := ll_ge (nd := nd) (st := st) (l := l) (k := k) (m := m) (by omega) hn
      by_cases q : nd n k = true
      · rw [if_pos q]; exact Nat.le_trans this (Nat.le_max_left _ _)
      · rw [if_neg q]; exact this
theorem ll_le {nd st : Nat → Nat → Bool} {l f : Nat → Nat} {n : Nat} (hp : pfx nd st f) (hn : n < 16) (hl : ∀ m, m < 16 → l m ≤ f m) : ∀ {k : Nat}, k ≤ 16 → ll nd st l n k ≤ f n
  | 0, _ => Nat.zero_le _
  | k + 1, h => by
    show (if nd n k = true then max (ll nd st l n k) (l k + (if st n k = true then 1 else 0)) else ll nd st l n k) ≤ f n
    have ih := ll_le hp hn hl (k := k) (by omega)
    by_cases q : nd n k = true
    · rw [if_pos q]
      have h1 := hp n k hn (by omega) q
      have h2 := hl k (by omega)
      exact Nat.max_le.mpr ⟨ih, by omega⟩
    · rw [if_neg q]; exact ih
theorem jmax {a b : Nat} (ha : a < 2 ^ 31) (hb : b < 2 ^ 31) : (if nI a < nI b then nI b else nI a) = nI (max a b) := by
  by_cases q : a < b
  · rw [if_pos (nI_lt q hb), Nat.max_eq_right (by omega)]
  · rw [if_neg (nI_nlt (by omega) ha), Nat.max_eq_left (by omega)]
theorem l_leastL {n : Nat} {h : vt_H} {Q : vt_Q} {nd st : Nat → Nat → Bool} {l f : Nat → Nat} (hS : SO h) (hn : n < 16) (h6 : ∀ n m, n < 16 → m < 16 → bt (vh_I h 6 n) m = nd n m) (h7 : ∀ n m, n < 16 → m < 16 → bt (vh_I h 7 n) m = st n m) (h9 : ∀ n, n < 16 → vh_I h 9 n = nI (l n)) (hp : pfx nd st f) (hl : ∀ m, m < 16 → l m ≤ f m) (hf : ∀ m, m < 16 → f m ≤ 15)
    (hQ : Q (some (.int (nI (ll nd st l n 16)))) h) : ∀ (k i : Nat), i + k = 16 → Wp 40 4 [.ref 5, .int (nI n), .int (nI (ll nd st l n i)), .int (nI i)] [] h Q := by
  obtain ⟨s1, s2, s3, s4, s5, ⟨s6, s7⟩, ⟨s8, s9⟩, ⟨s10, s11⟩, ⟨s12, s13⟩⟩ := hS
  intro k
  induction k with
  | zero =>
    intro i hi
    have : i = 16 := by omega
    subst this
    simp only [s_40_4, s_40_5, s_40_7, s_40_59, s_40_60, if_pos (nI_le (Nat.le_refl 16) (show 16 < 2 ^ 31 by omega))]
    exact hQ
  | succ k ih =>
    intro i hi
    have hlt : i < 16 := by omega
    have g := ih (i + 1) (by omega)
    have b1 := ll_le hp hn hl (k := i) (by omega)
    have b2 := hf n hn
    have b3 := hl i hlt
    have b4 := hf i hlt
    have e : ll nd st l n (i + 1) = if nd n i = true then max (ll nd st l n i) (l i + (if st n i = true then 1 else 0)) else ll nd st l n i := rfl
    rw [e] at g
    simp only [s_40_4, s_40_5, s_40_7, if_neg (nI_ge hlt (show 16 < 2 ^ 31 by omega))]
    simp only [s_40_10, s_40_11, s_40_14, s_40_15, s_40_16, s_40_17, va_rf_s, pk_mul, nI_add, not_false_eq_true, and_self, true_and, Option.toList_some, Option.toList_none, List.append_nil, List.cons_append, List.nil_append, nI_01, nI_11, vh_K_wI, vh_R_wI, vh_Z_wI, vh_wI_sI, vh_K_sI, vh_R_sI, vh_Z_sI, vh_sI_sI, vh_I_sI, s1, s2, s6, s7, cl (show n < 2 ^ 31 by omega), ib hn (show 16 ≤ 2 ^ 31 by omega), c_isIn, jbit_bt _ (show i < 32 by omega), jb_0, h6 n i hn hlt, s_40_20]
    by_cases q : nd n i = true
    · rw [if_neg (fun z => z q)]
      rw [if_pos q] at g
      simp only [s_40_23, s_40_24, s_40_25, s_40_28, s_40_29, s_40_30, s_40_31, s_40_34, s_40_35, s_40_36, s_40_37, va_rf_s, pk_mul, nI_add, not_false_eq_true, and_self, true_and, Option.toList_some, Option.toList_none, List.append_nil, List.cons_append, List.nil_append, nI_01, nI_11, vh_K_wI, vh_R_wI, vh_Z_wI, vh_wI_sI, vh_K_sI, vh_R_sI, vh_Z_sI, vh_sI_sI, vh_I_sI, s1, s3, s5, s8, s9, s12, s13, cl (show n < 2 ^ 31 by omega), ib hn (show 16 ≤ 2 ^ 31 by omega), cl (show i < 2 ^ 31 by omega), ib hlt (show 16 ≤ 2 ^ 31 by omega), c_isIn, jbit_bt _ (show i < 32 by omega), jb_0, h7 n i hn hlt, h9 i hlt, s_40_40]
      by_cases q2 : st n i = true
      · rw [if_neg (fun z => z q2)]
        rw [if_pos q2] at g
        simp only [s_40_43, s_40_44, s_40_48, s_40_49, s_40_52, s_40_53, s_40_56, va_rf_s, pk_mul, nI_add, not_false_eq_true, and_self, true_and, Option.toList_some, Option.toList_none, List.append_nil, List.cons_append, List.nil_append, nI_01, nI_11, vh_K_wI, vh_R_wI, vh_Z_wI, vh_wI_sI, vh_K_sI, vh_R_sI, vh_Z_sI, vh_sI_sI, vh_I_sI, jmax (show ll nd st l n i < 2 ^ 31 by omega) (show l i + 1 < 2 ^ 31 by omega)]
        exact g
      · rw [if_pos q2]
        rw [if_neg q2] at g
        simp only [s_40_47, s_40_48, s_40_49, s_40_52, s_40_53, s_40_56, va_rf_s, pk_mul, nI_add, not_false_eq_true, and_self, true_and, Option.toList_some, Option.toList_none, List.append_nil, List.cons_append, List.nil_append, nI_01, nI_11, vh_K_wI, vh_R_wI, vh_Z_wI, vh_wI_sI, vh_K_sI, vh_R_sI, vh_Z_sI, vh_sI_sI, vh_I_sI, jmax (show ll nd st l n i < 2 ^ 31 by omega) (show l i + 0 < 2 ^ 31 by omega)]
        exact g
    · rw [if_pos q]
      rw [if_neg q] at g
      simp only [s_40_53, s_40_56, va_rf_s, pk_mul, nI_add, not_false_eq_true, and_self, true_and, Option.toList_some, Option.toList_none, List.append_nil, List.cons_append, List.nil_append, nI_01, nI_11, vh_K_wI, vh_R_wI, vh_Z_wI, vh_wI_sI, vh_K_sI, vh_R_sI, vh_Z_sI, vh_sI_sI, vh_I_sI]
      exact g
theorem l_sweep {h : vt_H} {Q : vt_Q} {nd st : Nat → Nat → Bool} {f l : Nat → Nat} {tn : Value} (hS : SO h) (h6 : ∀ n m, n < 16 → m < 16 → bt (vh_I h 6 n) m = nd n m) (h7 : ∀ n m, n < 16 → m < 16 → bt (vh_I h 7 n) m = st n m) (hp : pfx nd st f) (hf : ∀ m, m < 16 → f m ≤ 15)
    (hQ : ∀ (f' : Nat → Nat → Int32) (l' : Nat → Nat) (mo : Nat), (∀ c, c ≠ 9 → ∀ j, f' c j = vh_I h c j) → (∀ n, n < 16 → f' 9 n = nI (l' n)) → swp nd st f l l' → (mo = 0 ∧ (∀ n, n < 16 → l' n = l n) ∨ mo = 1) → ∀ y, Wp 39 58 [.ref 5, .int (nI mo), tn, .int (nI 16), y] [] (vh_sI h f') Q) :
    ∀ (k i : Nat), i + k = 16 → ∀ (f0 : Nat → Nat → Int32) (l0 : Nat → Nat) (mo : Nat) y, (∀ c, c ≠ 9 → ∀ j, f0 c j = vh_I h c j) → (∀ n, n < 16 → f0 9 n = nI (l0 n)) → (∀ n, n < 16 → l n ≤ l0 n ∧ l0 n ≤ f n) → (∀ n m, n < i → m < 16 → nd n m = true → l m + (if st n m = true then 1 else 0) ≤ l0 n) → (mo = 0 ∧ (∀ n, n < 16 → l0 n = l n) ∨ mo = 1) → Wp 39 18 [.ref 5, .int (nI mo), tn, .int (nI i), y] [] (vh_sI h f0) Q := by
  have hS' := hS
  obtain ⟨s1, s2, s3, s4, s5, ⟨s6, s7⟩, ⟨s8, s9⟩, ⟨s10, s11⟩, ⟨s12, s13⟩⟩ := hS
  intro k
  induction k with
  | zero =>
    intro i hi f0 l0 mo y a1 a2 a3 a4 a5
    have : i = 16 := by omega
    subst this
    simp only [s_39_18, s_39_19, s_39_21, if_pos (nI_le (Nat.le_refl 16) (show 16 < 2 ^ 31 by omega))]
    exact hQ f0 l0 mo a1 a2 ⟨a3, a4⟩ a5 _
  | succ k ih =>
    intro i hi f0 l0 mo y a1 a2 a3 a4 a5
    have hlt : i < 16 := by omega
    have hS0 : SO (vh_sI h f0) := hS'
    simp only [s_39_18, s_39_19, s_39_21, if_neg (nI_ge hlt (show 16 < 2 ^ 31 by omega))]
    simp only [s_39_24, s_39_25, s_39_26, va_rf_s, pk_mul, nI_add, not_false_eq_true, and_self, true_and, Option.toList_some, Option.toList_none, List.append_nil, List.cons_append, List.nil_append, nI_01, nI_11, vh_K_wI, vh_R_wI, vh_Z_wI, vh_wI_sI, vh_K_sI, vh_R_sI, vh_Z_sI, vh_sI_sI, vh_I_sI, s1, s_40_0, s_40_1, s_40_2, s_40_3]
    have ub := ll_le hp hlt (fun m hm => (a3 m hm).2) (k := 16) (Nat.le_refl _)
    have ub2 := hf i hlt
    have ub3 := (a3 i hlt).2
    refine l_leastL (h := vh_sI h f0) (nd := nd) (st := st) (l := l0) (f := f) hS0 hlt (fun n m hn hm => by rw [vh_I_sI, a1 6 (by decide)]; exact h6 n m hn hm) (fun n m hn hm => by rw [vh_I_sI, a1 7 (by decide)]; exact h7 n m hn hm) a2 hp (fun m hm => (a3 m hm).2) hf ?_ 16 0 (by omega)
    simp only [s_39_29, s_39_31, s_39_33, s_39_34, s_39_37, s_39_38, va_rf_s, pk_mul, nI_add, not_false_eq_true, and_self, true_and, Option.toList_some, Option.toList_none, List.append_nil, List.cons_append, List.nil_append, nI_01, nI_11, vh_K_wI, vh_R_wI, vh_Z_wI, vh_wI_sI, vh_K_sI, vh_R_sI, vh_Z_sI, vh_sI_sI, vh_I_sI, s1, s5, s12, s13, cl (show i < 2 ^ 31 by omega), ib hlt (show 16 ≤ 2 ^ 31 by omega), a2 i hlt, s_39_39]
    have geN : ∀ m, m < 16 → nd i m = true → l m + (if st i m = true then 1 else 0) ≤ ll nd st l0 i 16 := by
      intro m hm hnd
      have := ll_ge (nd := nd) (st := st) (l := l0) (n := i) hm hnd
      have := (a3 m hm).1
      omega
    by_cases q : ll nd st l0 i 16 ≤ l0 i
    · rw [if_pos (nI_le q (by omega))]
      simp only [s_39_52, s_39_55, va_rf_s, pk_mul, nI_add, not_false_eq_true, and_self, true_and, Option.toList_some, Option.toList_none, List.append_nil, List.cons_append, List.nil_append, nI_01, nI_11, vh_K_wI, vh_R_wI, vh_Z_wI, vh_wI_sI, vh_K_sI, vh_R_sI, vh_Z_sI, vh_sI_sI, vh_I_sI]
      refine ih (i + 1) (by omega) f0 l0 mo _ a1 a2 a3 (fun n m hn hm hnd => ?_) a5
      by_cases e : n = i
      · subst e
        exact Nat.le_trans (geN m hm hnd) q
      · exact a4 n m (by omega) hm hnd
    · rw [if_neg (nI_ge (by omega) (by omega))]
      simp only [s_39_42, s_39_43, s_39_46, s_39_47, s_39_49, s_39_50, s_39_51, s_39_52, s_39_55, va_rf_s, pk_mul, nI_add, not_false_eq_true, and_self, true_and, Option.toList_some, Option.toList_none, List.append_nil, List.cons_append, List.nil_append, nI_01, nI_11, vh_K_wI, vh_R_wI, vh_Z_wI, vh_wI_sI, vh_K_sI, vh_R_sI, vh_Z_sI, vh_sI_sI, vh_I_sI, s1, s5, s12, s13, cl (show i < 2 ^ 31 by omega), ib hlt (show 16 ≤ 2 ^ 31 by omega)]
      refine ih (i + 1) (by omega) _ (fun n => if n = i then ll nd st l0 i 16 else l0 n) 1 _ (fun c hc j => ?_) (fun n hn => ?_) (fun n hn => ?_) (fun n m hn hm hnd => ?_) (Or.inr rfl)
      · rw [up2_a _ _ _ hc]; exact a1 c hc j
      · by_cases e : n = i
        · subst e; rw [up2_s, if_pos rfl]
        · rw [up2_i _ _ _ _ e, if_neg e]; exact a2 n hn
      · by_cases e : n = i
        · subst e
          rw [if_pos rfl]
          have := (a3 n hn).1
          omega
        · rw [if_neg e]; exact a3 n hn
      · by_cases e : n = i
        · subst e
          rw [if_pos rfl]
          exact geN m hm hnd
        · rw [if_neg e]; exact a4 n m (by omega) hm hnd
theorem l_number {h : vt_H} {Q : vt_Q} {nd st : Nat → Nat → Bool} {f : Nat → Nat} (hS : SO h) (h6 : ∀ n m, n < 16 → m < 16 → bt (vh_I h 6 n) m = nd n m) (h7 : ∀ n m, n < 16 → m < 16 → bt (vh_I h 7 n) m = st n m) (hp : lfp nd st f) (hf : ∀ m, m < 16 → f m ≤ 15)
    (hQ : ∀ f', (∀ c, c ≠ 9 → ∀ j, f' c j = vh_I h c j) → (∀ n, n < 16 → f' 9 n = nI (f n)) → Q none (vh_sI h f')) :
    ∀ (k i : Nat), i + k = 17 → ∀ (f0 : Nat → Nat → Int32) (l0 : Nat → Nat) (mo : Nat) y3 y4, (∀ c, c ≠ 9 → ∀ j, f0 c j = vh_I h c j) → (∀ n, n < 16 → f0 9 n = nI (l0 n)) → (∀ n, n < 16 → l0 n ≤ f n) → (nf f l0 + i ≤ 16 ∨ nf f l0 = 0) → (mo = 0 ∧ (∀ n, n < 16 → l0 n = f n) ∨ mo = 1) → Wp 39 4 [.ref 5, .int (nI mo), .int (nI i), y3, y4] [] (vh_sI h f0) Q := by
  intro k
  have stop : ∀ (f0 : Nat → Nat → Int32) (l0 : Nat → Nat), (∀ c, c ≠ 9 → ∀ j, f0 c j = vh_I h c j) → (∀ n, n < 16 → f0 9 n = nI (l0 n)) → (∀ n, n < 16 → l0 n = f n) → Q none (vh_sI h f0) := fun f0 l0 a1 a2 a3 => hQ f0 a1 (fun n hn => by rw [a2 n hn, a3 n hn])
  induction k with
  | zero =>
    intro i hi f0 l0 mo y3 y4 a1 a2 a3 a4 a5
    have : i = 17 := by omega
    subst this
    have all : ∀ n, n < 16 → l0 n = f n := fun n hn => nf_0 (by omega) a3 hn
    simp only [s_39_4, s_39_5]
    rcases a5 with ⟨q, _⟩ | q
    · subst q
      rw [if_pos nI_00]
      simp only [s_39_64]
      exact stop f0 l0 a1 a2 all
    · subst q
      rw [if_neg nI_10]
      simp only [s_39_8, s_39_9, s_39_11, s_39_64]
      rw [if_pos (nI_lt (by omega) (by omega))]
      exact stop f0 l0 a1 a2 all
  | succ k ih =>
    intro i hi f0 l0 mo y3 y4 a1 a2 a3 a4 a5
    simp only [s_39_4, s_39_5]
    rcases a5 with ⟨q, a5⟩ | q
    · subst q
      rw [if_pos nI_00]
      simp only [s_39_64]
      exact stop f0 l0 a1 a2 a5
    · subst q
      rw [if_neg nI_10]
      simp only [s_39_8, s_39_9, s_39_11]
      rw [if_neg (nI_nlt (by omega) (by omega))]
      simp only [s_39_14, s_39_15, s_39_16, s_39_17]
      have hS0 : SO (vh_sI h f0) := hS
      have l := l_sweep (h := vh_sI h f0) (Q := Q) (nd := nd) (st := st) (f := f) (l := l0) (tn := .int (nI i)) hS0 (fun n m hn hm => by rw [vh_I_sI, a1 6 (by decide)]; exact h6 n m hn hm) (fun n m hn hm => by rw [vh_I_sI, a1 7 (by decide)]; exact h7 n m hn hm) hp.1 hf (fun f' l' mo z1 z2 z3 z4 y => ?_) 16 0 (by omega) f0 l0 0 y4 (fun _ _ _ => rfl) a2 (fun n hn => ⟨Nat.le_refl _, a3 n hn⟩) (fun n m hn => absurd hn (by omega)) (Or.inl ⟨rfl, fun _ _ => rfl⟩)
      · exact l
      · rw [vh_sI_sI]
        simp only [s_39_58, s_39_61, va_rf_s, pk_mul, nI_add, not_false_eq_true, and_self, true_and, Option.toList_some, Option.toList_none, List.append_nil, List.cons_append, List.nil_append, nI_01, nI_11, vh_K_wI, vh_R_wI, vh_Z_wI, vh_wI_sI, vh_K_sI, vh_R_sI, vh_Z_sI, vh_sI_sI, vh_I_sI]
        rw [vh_I_sI] at z1
        refine ih (i + 1) (by omega) f' l' mo _ _ (fun c hc j => (z1 c hc j).trans (a1 c hc j)) z2 (fun n hn => (z3.1 n hn).2) ?_ ?_
        · by_cases q : nf f l0 = 0
          · right
            have e : ∀ n, n < 16 → l0 n = f n := fun n hn => nf_0 q a3 hn
            refine sg_eq0.mpr (fun n hn => ?_)
            have h1 := z3.1 n hn
            have h2 := e n hn
            rw [if_neg (by omega)]
          · have := swp_less hp a3 z3 q
            left; omega
        · rcases z4 with ⟨w1, w2⟩ | w
          · refine Or.inl ⟨w1, fun n hn => ?_⟩
            refine Nat.le_antisymm (z3.1 n hn).2 (hp.2 l' (fun a b ha hb hnd => ?_) n hn)
            have := z3.2 a b ha hb hnd
            rw [← w2 b hb] at this
            exact this
          · exact Or.inr w
theorem c_number {h : vt_H} {Q : vt_Q} {nd st : Nat → Nat → Bool} {f : Nat → Nat} (hS : SO h) (h6 : ∀ n m, n < 16 → m < 16 → bt (vh_I h 6 n) m = nd n m) (h7 : ∀ n m, n < 16 → m < 16 → bt (vh_I h 7 n) m = st n m) (h9 : ∀ n, n < 16 → vh_I h 9 n = nI 0) (hp : lfp nd st f) (hf : ∀ m, m < 16 → f m ≤ 15)
    (hQ : ∀ f', (∀ c, c ≠ 9 → ∀ j, f' c j = vh_I h c j) → (∀ n, n < 16 → f' 9 n = nI (f n)) → Q none (vh_sI h f')) : Wp 39 0 [.ref 5, vt_un, vt_un, vt_un, vt_un] [] h Q := by
  simp only [s_39_0, s_39_1, s_39_2, s_39_3]
  have l := l_number hS h6 h7 hp hf hQ 17 0 (by omega) (vh_I h) (fun _ => 0) 1 vt_un vt_un (fun _ _ _ => rfl) h9 (fun _ _ => Nat.zero_le _) (Or.inl (by have := nf_le f (fun _ => 0); omega)) (Or.inr rfl)
  rw [vh_sI_id] at l
  exact l

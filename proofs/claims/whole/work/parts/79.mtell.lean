-- ===== the reference: isOld, valueOf, tell, passes =====
/-- a number, or 32 for none -/
def vI (n : Nat) : Int32 := if n = 32 then -nI 1 else nI n
theorem vI_n {n : Nat} (h : n < 32) : vI n = nI n := if_neg (by omega)
theorem vI_32 : ∀ n, n < 33 → (vI n = -nI 1 ↔ n = 32) := by decide +kernel
theorem vI_eq : ∀ n, n < 33 → ∀ a, a < 32 → (vI n = nI a ↔ n = a) := by decide +kernel
/-- item t gets the number a -/
def asg (u : Nat → Nat) (t a : Nat) : Option (Nat → Nat) := if t < 32 then (if t = a then some u else none) else if u (t - 32) = 32 ∨ u (t - 32) = a then some (sv_set u (t - 32) a) else none
/-- the numbers that the facts cd of the first n plain parts pl give -/
def TL (ρ pl cd : Nat → Nat) : Nat → Option (Nat → Nat)
  | 0 => some (fun _ => 32)
  | n + 1 => (TL ρ pl cd n).bind (fun u => (asg u (ρ (12 + 4 * pl n)) (cd n / 32 % 32)).bind (fun u' => asg u' (ρ (13 + 4 * pl n)) (cd n % 32)))
theorem asg_b {u u' : Nat → Nat} {t a : Nat} (ha : a < 32) (h : asg u t a = some u') (hu : ∀ v, u v ≤ 32) : ∀ v, u' v ≤ 32 := by
  unfold asg at h
  by_cases q : t < 32
  · rw [if_pos q] at h
    by_cases q2 : t = a
    · rw [if_pos q2] at h
      cases h; exact hu
    · rw [if_neg q2] at h; cases h
  · rw [if_neg q] at h
    by_cases q2 : u (t - 32) = 32 ∨ u (t - 32) = a
    · rw [if_pos q2] at h
      cases h
      intro v
      unfold sv_set
      split
      · omega
      · exact hu v
    · rw [if_neg q2] at h; cases h
theorem TL_b {ρ pl cd : Nat → Nat} : ∀ {n : Nat} {u : Nat → Nat}, TL ρ pl cd n = some u → ∀ v, u v ≤ 32
  | 0, u, h => by
    cases h
    intro v; exact Nat.le_refl _
  | n + 1, u, h => by
    have h : (TL ρ pl cd n).bind _ = some u := h
    obtain ⟨u1, h1, h2⟩ := Option.bind_eq_some_iff.mp h
    obtain ⟨u2, h3, h4⟩ := Option.bind_eq_some_iff.mp h2
    exact asg_b (Nat.mod_lt _ (by omega)) h4 (asg_b (Nat.mod_lt _ (by omega)) h3 (TL_b h1))
def OL (f : Nat → Nat → Int32) (c : Nat) : Prop := ¬ f 136 c < 0 ∧ (f 129 19 < 0 ∨ ¬ f 144 c = f 129 19)
theorem m_isOld {c : Nat} {h : vt_H} (Q : vt_Q) (hM : MZ h) (hc : c < 16384) : Wp 109 0 [.ref 129, .int (nI c)] [] h Q ↔ Q (some (.int (cb (OL (vh_I h) c)))) h := by
  obtain ⟨mk, ⟨mr0, mk0, mz0⟩, ⟨mr1, mk1, mz1⟩, ⟨mr2, mk2, mz2⟩, ⟨mr3, mk3, mz3⟩, ⟨mr4, mk4, mz4⟩, ⟨mr5, mk5, mz5⟩, ⟨mr6, mk6, mz6⟩, ⟨mr7, mk7, mz7⟩, ⟨mr8, mk8, mz8⟩, ⟨mr9, mk9, mz9⟩, ⟨mr10, mk10, mz10⟩, ⟨mr11, mk11, mz11⟩, ⟨mr12, mk12, mz12⟩, ⟨mr13, mk13, mz13⟩, ⟨mr14, mk14, mz14⟩, ⟨mr15, mk15, mz15⟩, ⟨mr16, mk16, mz16⟩, ⟨mr17, mk17, mz17⟩, ⟨mr18, mk18, mz18⟩⟩ := hM
  simp only [s_109_0, s_109_1, s_109_4, s_109_5, s_109_6, mk, mr0, mk0, mz0, mr1, mk1, mz1, mr2, mk2, mz2, mr3, mk3, mz3, mr4, mk4, mz4, mr5, mk5, mz5, mr6, mk6, mz6, mr7, mk7, mz7, mr8, mk8, mz8, mr9, mk9, mz9, mr10, mk10, mz10, mr11, mk11, mz11, mr12, mk12, mz12, mr13, mk13, mz13, mr14, mk14, mz14, mr15, mk15, mz15, mr16, mk16, mz16, mr17, mk17, mz17, mr18, mk18, mz18, va_rf_s, pk_mul, nI_add, not_false_eq_true, and_self, true_and, Option.toList_some, Option.toList_none, List.append_nil, List.cons_append, List.nil_append, nI_01, nI_11, vh_K_wI, vh_R_wI, vh_Z_wI, vh_wI_sI, vh_K_sI, vh_R_sI, vh_Z_sI, vh_sI_sI, vh_I_sI, cl (show c < 2 ^ 31 by omega), ib hc (show 16384 ≤ 2 ^ 31 by omega)]
  by_cases q1 : vh_I h 136 c < 0
  · rw [if_pos q1, cb_f (fun z => z.1 q1)]
    simp only [s_109_33, s_109_34, va_rf_s, pk_mul, nI_add, not_false_eq_true, and_self, true_and, Option.toList_some, Option.toList_none, List.append_nil, List.cons_append, List.nil_append, nI_01, nI_11, vh_K_wI, vh_R_wI, vh_Z_wI, vh_wI_sI, vh_K_sI, vh_R_sI, vh_Z_sI, vh_sI_sI, vh_I_sI]
  · rw [if_neg q1]
    simp only [s_109_9, s_109_10, s_109_13, mk, mr0, mk0, mz0, mr1, mk1, mz1, mr2, mk2, mz2, mr3, mk3, mz3, mr4, mk4, mz4, mr5, mk5, mz5, mr6, mk6, mz6, mr7, mk7, mz7, mr8, mk8, mz8, mr9, mk9, mz9, mr10, mk10, mz10, mr11, mk11, mz11, mr12, mk12, mz12, mr13, mk13, mz13, mr14, mk14, mz14, mr15, mk15, mz15, mr16, mk16, mz16, mr17, mk17, mz17, mr18, mk18, mz18, va_rf_s, pk_mul, nI_add, not_false_eq_true, and_self, true_and, Option.toList_some, Option.toList_none, List.append_nil, List.cons_append, List.nil_append, nI_01, nI_11, vh_K_wI, vh_R_wI, vh_Z_wI, vh_wI_sI, vh_K_sI, vh_R_sI, vh_Z_sI, vh_sI_sI, vh_I_sI]
    by_cases q2 : vh_I h 129 19 < 0
    · rw [if_pos q2, cb_t ⟨q1, Or.inl q2⟩]
      simp only [s_109_29, s_109_30, s_109_33, s_109_34, va_rf_s, pk_mul, nI_add, not_false_eq_true, and_self, true_and, Option.toList_some, Option.toList_none, List.append_nil, List.cons_append, List.nil_append, nI_01, nI_11, vh_K_wI, vh_R_wI, vh_Z_wI, vh_wI_sI, vh_K_sI, vh_R_sI, vh_Z_sI, vh_sI_sI, vh_I_sI]
    · rw [if_neg q2]
      simp only [s_109_16, s_109_17, s_109_20, s_109_21, s_109_22, s_109_23, s_109_26, mk, mr0, mk0, mz0, mr1, mk1, mz1, mr2, mk2, mz2, mr3, mk3, mz3, mr4, mk4, mz4, mr5, mk5, mz5, mr6, mk6, mz6, mr7, mk7, mz7, mr8, mk8, mz8, mr9, mk9, mz9, mr10, mk10, mz10, mr11, mk11, mz11, mr12, mk12, mz12, mr13, mk13, mz13, mr14, mk14, mz14, mr15, mk15, mz15, mr16, mk16, mz16, mr17, mk17, mz17, mr18, mk18, mz18, va_rf_s, pk_mul, nI_add, not_false_eq_true, and_self, true_and, Option.toList_some, Option.toList_none, List.append_nil, List.cons_append, List.nil_append, nI_01, nI_11, vh_K_wI, vh_R_wI, vh_Z_wI, vh_wI_sI, vh_K_sI, vh_R_sI, vh_Z_sI, vh_sI_sI, vh_I_sI, cl (show c < 2 ^ 31 by omega), ib hc (show 16384 ≤ 2 ^ 31 by omega)]
      by_cases q3 : vh_I h 144 c = vh_I h 129 19
      · rw [if_pos q3, cb_f (fun z => z.2.elim q2 (fun y => y q3))]
        simp only [s_109_33, s_109_34, va_rf_s, pk_mul, nI_add, not_false_eq_true, and_self, true_and, Option.toList_some, Option.toList_none, List.append_nil, List.cons_append, List.nil_append, nI_01, nI_11, vh_K_wI, vh_R_wI, vh_Z_wI, vh_wI_sI, vh_K_sI, vh_R_sI, vh_Z_sI, vh_sI_sI, vh_I_sI]
      · rw [if_neg q3, cb_t ⟨q1, Or.inr q3⟩]
        simp only [s_109_29, s_109_30, s_109_33, s_109_34, va_rf_s, pk_mul, nI_add, not_false_eq_true, and_self, true_and, Option.toList_some, Option.toList_none, List.append_nil, List.cons_append, List.nil_append, nI_01, nI_11, vh_K_wI, vh_R_wI, vh_Z_wI, vh_wI_sI, vh_K_sI, vh_R_sI, vh_Z_sI, vh_sI_sI, vh_I_sI]
theorem m_val {t : Nat} {h : vt_H} {u : Nat → Nat} (Q : vt_Q) (hM : MZ h) (ht : t < 38) (hu : ∀ v, v < 6 → vh_I h 141 v = vI (u v)) (hb : 32 ≤ t → u (t - 32) < 32) : Wp 108 0 [.ref 129, .int (jI t)] [] h Q ↔ Q (some (.int (nI (iv u t)))) h := by
  obtain ⟨mk, ⟨mr0, mk0, mz0⟩, ⟨mr1, mk1, mz1⟩, ⟨mr2, mk2, mz2⟩, ⟨mr3, mk3, mz3⟩, ⟨mr4, mk4, mz4⟩, ⟨mr5, mk5, mz5⟩, ⟨mr6, mk6, mz6⟩, ⟨mr7, mk7, mz7⟩, ⟨mr8, mk8, mz8⟩, ⟨mr9, mk9, mz9⟩, ⟨mr10, mk10, mz10⟩, ⟨mr11, mk11, mz11⟩, ⟨mr12, mk12, mz12⟩, ⟨mr13, mk13, mz13⟩, ⟨mr14, mk14, mz14⟩, ⟨mr15, mk15, mz15⟩, ⟨mr16, mk16, mz16⟩, ⟨mr17, mk17, mz17⟩, ⟨mr18, mk18, mz18⟩⟩ := hM
  simp only [s_108_0, s_108_1]
  unfold iv
  by_cases q : t < 32
  · rw [if_neg (fun z => by have := (jI_lt t ht).mp z; omega), if_pos q]
    simp only [s_108_4, s_108_5, s_108_16, jI_n q]
  · rw [if_pos ((jI_lt t ht).mpr (by omega)), if_neg q]
    simp only [s_108_8, s_108_9, s_108_12, s_108_13, s_108_14, s_108_15, s_108_16, mk, mr0, mk0, mz0, mr1, mk1, mz1, mr2, mk2, mz2, mr3, mk3, mz3, mr4, mk4, mz4, mr5, mk5, mz5, mr6, mk6, mz6, mr7, mk7, mz7, mr8, mk8, mz8, mr9, mk9, mz9, mr10, mk10, mz10, mr11, mk11, mz11, mr12, mk12, mz12, mr13, mk13, mz13, mr14, mk14, mz14, mr15, mk15, mz15, mr16, mk16, mz16, mr17, mk17, mz17, mr18, mk18, mz18, va_rf_s, pk_mul, nI_add, not_false_eq_true, and_self, true_and, Option.toList_some, Option.toList_none, List.append_nil, List.cons_append, List.nil_append, nI_01, nI_11, vh_K_wI, vh_R_wI, vh_Z_wI, vh_wI_sI, vh_K_sI, vh_R_sI, vh_Z_sI, vh_sI_sI, vh_I_sI, jI_var t ht (by omega), cl (show t - 32 < 2 ^ 31 by omega), ib (show t - 32 < 6 by omega) (show 6 ≤ 2 ^ 31 by omega), hu (t - 32) (by omega), vI_n (hb (by omega))]
/-- one item told -/
theorem l_asg {i n t a : Nat} {u : Nat → Nat} {k j y4 y5 : Value} {h : vt_H} {Q : vt_Q} (hM : MZ h) (ht : t < 38) (ha : a < 32) (hu : ∀ v, v < 6 → vh_I h 141 v = vI (u v)) (hub : ∀ v, u v ≤ 32)
    (hQ0 : asg u t a = none → Q (some (.int (nI 0))) h)
    (hQ1 : ∀ u', asg u t a = some u' → ∀ f', (∀ x, x ≠ 141 → ∀ j, f' x j = vh_I h x j) → (∀ v, v < 6 → f' 141 v = vI (u' v)) → Wp 106 157 [.ref 129, .int (nI i), .int (nI n), k, y4, y5, j, .int (jI t), .int (nI a)] [] (vh_sI h f') Q) :
    Wp 106 97 [.ref 129, .int (nI i), .int (nI n), k, y4, y5, j, .int (jI t), .int (nI a)] [] h Q := by
  obtain ⟨mk, ⟨mr0, mk0, mz0⟩, ⟨mr1, mk1, mz1⟩, ⟨mr2, mk2, mz2⟩, ⟨mr3, mk3, mz3⟩, ⟨mr4, mk4, mz4⟩, ⟨mr5, mk5, mz5⟩, ⟨mr6, mk6, mz6⟩, ⟨mr7, mk7, mz7⟩, ⟨mr8, mk8, mz8⟩, ⟨mr9, mk9, mz9⟩, ⟨mr10, mk10, mz10⟩, ⟨mr11, mk11, mz11⟩, ⟨mr12, mk12, mz12⟩, ⟨mr13, mk13, mz13⟩, ⟨mr14, mk14, mz14⟩, ⟨mr15, mk15, mz15⟩, ⟨mr16, mk16, mz16⟩, ⟨mr17, mk17, mz17⟩, ⟨mr18, mk18, mz18⟩⟩ := hM
  simp only [s_106_97, s_106_99]
  by_cases q : t < 32
  · rw [if_neg (fun z => by have := (jI_lt t ht).mp z; omega)]
    simp only [s_106_102, s_106_104, s_106_106]
    have e : asg u t a = if t = a then some u else none := if_pos q
    by_cases q2 : t = a
    · rw [if_pos (by rw [jI_n q, q2])]
      simp only [s_106_141, s_106_143]
      rw [if_pos ((jI_le t ht).mpr q)]
      have := hQ1 u (by rw [e, if_pos q2]) (vh_I h) (fun _ _ _ => rfl) hu
      rw [vh_sI_id] at this
      exact this
    · rw [if_neg (fun z => q2 (by rw [jI_n q] at z; exact (nI_eq (by omega) (by omega)).mp z))]
      simp only [s_106_109, s_106_139, s_106_140, va_rf_s, pk_mul, nI_add, not_false_eq_true, and_self, true_and, Option.toList_some, Option.toList_none, List.append_nil, List.cons_append, List.nil_append, nI_01, nI_11, vh_K_wI, vh_R_wI, vh_Z_wI, vh_wI_sI, vh_K_sI, vh_R_sI, vh_Z_sI, vh_sI_sI, vh_I_sI]
      exact hQ0 (by rw [e, if_neg q2])
  · rw [if_pos ((jI_lt t ht).mpr (by omega))]
    have hv : t - 32 < 6 := by omega
    have e : asg u t a = if u (t - 32) = 32 ∨ u (t - 32) = a then some (sv_set u (t - 32) a) else none := if_neg q
    have good : (u (t - 32) = 32 ∨ u (t - 32) = a) → Wp 106 141 [.ref 129, .int (nI i), .int (nI n), k, y4, y5, j, .int (jI t), .int (nI a)] [] h Q := by
      intro w
      simp only [s_106_141, s_106_143]
      rw [if_neg (fun z => q ((jI_le t ht).mp z))]
      simp only [s_106_146, s_106_147, s_106_150, s_106_151, s_106_153, s_106_154, s_106_156, mk, mr0, mk0, mz0, mr1, mk1, mz1, mr2, mk2, mz2, mr3, mk3, mz3, mr4, mk4, mz4, mr5, mk5, mz5, mr6, mk6, mz6, mr7, mk7, mz7, mr8, mk8, mz8, mr9, mk9, mz9, mr10, mk10, mz10, mr11, mk11, mz11, mr12, mk12, mz12, mr13, mk13, mz13, mr14, mk14, mz14, mr15, mk15, mz15, mr16, mk16, mz16, mr17, mk17, mz17, mr18, mk18, mz18, va_rf_s, pk_mul, nI_add, not_false_eq_true, and_self, true_and, Option.toList_some, Option.toList_none, List.append_nil, List.cons_append, List.nil_append, nI_01, nI_11, vh_K_wI, vh_R_wI, vh_Z_wI, vh_wI_sI, vh_K_sI, vh_R_sI, vh_Z_sI, vh_sI_sI, vh_I_sI, jI_var t ht (by omega), cl (show t - 32 < 2 ^ 31 by omega), ib hv (show 6 ≤ 2 ^ 31 by omega)]
      refine hQ1 _ (by rw [e, if_pos w]) _ (fun x hx jj => up2_a _ _ _ hx jj) (fun v hv' => ?_)
      by_cases e2 : v = t - 32
      · rw [e2, up2_s, sv_set_same, vI_n ha]
      · rw [up2_i _ _ _ _ e2, sv_set_ne _ _ e2]; exact hu v hv'
    simp only [s_106_112, s_106_113, s_106_116, s_106_117, s_106_119, s_106_120, s_106_121, s_106_122, mk, mr0, mk0, mz0, mr1, mk1, mz1, mr2, mk2, mz2, mr3, mk3, mz3, mr4, mk4, mz4, mr5, mk5, mz5, mr6, mk6, mz6, mr7, mk7, mz7, mr8, mk8, mz8, mr9, mk9, mz9, mr10, mk10, mz10, mr11, mk11, mz11, mr12, mk12, mz12, mr13, mk13, mz13, mr14, mk14, mz14, mr15, mk15, mz15, mr16, mk16, mz16, mr17, mk17, mz17, mr18, mk18, mz18, va_rf_s, pk_mul, nI_add, not_false_eq_true, and_self, true_and, Option.toList_some, Option.toList_none, List.append_nil, List.cons_append, List.nil_append, nI_01, nI_11, vh_K_wI, vh_R_wI, vh_Z_wI, vh_wI_sI, vh_K_sI, vh_R_sI, vh_Z_sI, vh_sI_sI, vh_I_sI, jI_var t ht (by omega), cl (show t - 32 < 2 ^ 31 by omega), ib hv (show 6 ≤ 2 ^ 31 by omega), hu _ hv]
    by_cases q2 : u (t - 32) = 32
    · rw [if_pos ((vI_32 _ (by have := hub (t - 32); omega)).mpr q2)]
      exact good (Or.inl q2)
    · rw [if_neg (fun z => q2 ((vI_32 _ (by have := hub (t - 32); omega)).mp z))]
      simp only [s_106_125, s_106_126, s_106_129, s_106_130, s_106_132, s_106_133, s_106_134, s_106_136, mk, mr0, mk0, mz0, mr1, mk1, mz1, mr2, mk2, mz2, mr3, mk3, mz3, mr4, mk4, mz4, mr5, mk5, mz5, mr6, mk6, mz6, mr7, mk7, mz7, mr8, mk8, mz8, mr9, mk9, mz9, mr10, mk10, mz10, mr11, mk11, mz11, mr12, mk12, mz12, mr13, mk13, mz13, mr14, mk14, mz14, mr15, mk15, mz15, mr16, mk16, mz16, mr17, mk17, mz17, mr18, mk18, mz18, va_rf_s, pk_mul, nI_add, not_false_eq_true, and_self, true_and, Option.toList_some, Option.toList_none, List.append_nil, List.cons_append, List.nil_append, nI_01, nI_11, vh_K_wI, vh_R_wI, vh_Z_wI, vh_wI_sI, vh_K_sI, vh_R_sI, vh_Z_sI, vh_sI_sI, vh_I_sI, jI_var t ht (by omega), cl (show t - 32 < 2 ^ 31 by omega), ib hv (show 6 ≤ 2 ^ 31 by omega), hu _ hv]
      by_cases q3 : u (t - 32) = a
      · rw [if_pos ((vI_eq _ (by have := hub (t - 32); omega) a ha).mpr q3)]
        exact good (Or.inr q3)
      · rw [if_neg (fun z => q3 ((vI_eq _ (by have := hub (t - 32); omega) a ha).mp z))]
        simp only [s_106_139, s_106_140, va_rf_s, pk_mul, nI_add, not_false_eq_true, and_self, true_and, Option.toList_some, Option.toList_none, List.append_nil, List.cons_append, List.nil_append, nI_01, nI_11, vh_K_wI, vh_R_wI, vh_Z_wI, vh_wI_sI, vh_K_sI, vh_R_sI, vh_Z_sI, vh_sI_sI, vh_I_sI]
        exact hQ0 (by rw [e, if_neg (fun z => z.elim q2 q3)])
theorem n32_0 : (nI 32 = 0) = False := by decide
theorem rem32 {c : Nat} (hc : c < 2 ^ 31) : nI c - nI (c / 32 * 32) = nI (c % 32) := by
  have := pk_rem (a := c) (d := 32) hc (by omega) (by omega)
  rw [pk_div hc (show 0 < 32 by omega) (show 32 < 2 ^ 31 by omega), pk_mul] at this
  exact this
theorem l_tell {i n : Nat} {ρ pl cd : Nat → Nat} {h : vt_H} {Q : vt_Q} (hM : MZ h) (hi : i < 16) (hR : MR (vh_I h) i ρ) (hn : n ≤ 5) (hpl : ∀ k, k < n → vh_I h 142 k = nI (pl k) ∧ pl k < ρ 5) (hcd : ∀ k, k < n → vh_I h 143 k = nI (cd k) ∧ cd k < 16384)
    (hQ0 : ∀ f', (∀ x, x ≠ 141 → ∀ j, f' x j = vh_I h x j) → TL ρ pl cd n = none → Q (some (.int (nI 0))) (vh_sI h f'))
    (hQ1 : ∀ f' u, (∀ x, x ≠ 141 → ∀ j, f' x j = vh_I h x j) → TL ρ pl cd n = some u → (∀ v, v < 6 → f' 141 v = vI (u v)) → Q (some (.int (nI 1))) (vh_sI h f')) :
    ∀ (m k : Nat), k + m = n → ∀ f0 u y4 y5 y6 y7 y8, (∀ x, x ≠ 141 → ∀ j, f0 x j = vh_I h x j) → TL ρ pl cd k = some u → (∀ v, v < 6 → f0 141 v = vI (u v)) → Wp 106 23 [.ref 129, .int (nI i), .int (nI n), .int (nI k), y4, y5, y6, y7, y8] [] (vh_sI h f0) Q := by
  have hM' := hM
  obtain ⟨mk, ⟨mr0, mk0, mz0⟩, ⟨mr1, mk1, mz1⟩, ⟨mr2, mk2, mz2⟩, ⟨mr3, mk3, mz3⟩, ⟨mr4, mk4, mz4⟩, ⟨mr5, mk5, mz5⟩, ⟨mr6, mk6, mz6⟩, ⟨mr7, mk7, mz7⟩, ⟨mr8, mk8, mz8⟩, ⟨mr9, mk9, mz9⟩, ⟨mr10, mk10, mz10⟩, ⟨mr11, mk11, mz11⟩, ⟨mr12, mk12, mz12⟩, ⟨mr13, mk13, mz13⟩, ⟨mr14, mk14, mz14⟩, ⟨mr15, mk15, mz15⟩, ⟨mr16, mk16, mz16⟩, ⟨mr17, mk17, mz17⟩, ⟨mr18, mk18, mz18⟩⟩ := hM
  obtain ⟨hok, h0, h1, h2, h3, h4, h5, hp⟩ := hR
  have r5 := hok.1.2.2.2.1
  have none_up : ∀ k, k ≤ n → TL ρ pl cd k = none → TL ρ pl cd n = none := by
    intro k hk hz
    have : ∀ m, TL ρ pl cd (k + m) = none := by
      intro m
      induction m with
      | zero => exact hz
      | succ m ih =>
        show (TL ρ pl cd (k + m)).bind _ = none
        rw [ih]; rfl
    have := this (n - k)
    rw [show k + (n - k) = n by omega] at this
    exact this
  intro m
  induction m with
  | zero =>
    intro k hk f0 u y4 y5 y6 y7 y8 a1 a2 a3
    have : k = n := by omega
    subst this
    simp only [s_106_23, s_106_24, s_106_25, s_106_169, s_106_170, va_rf_s, pk_mul, nI_add, not_false_eq_true, and_self, true_and, Option.toList_some, Option.toList_none, List.append_nil, List.cons_append, List.nil_append, nI_01, nI_11, vh_K_wI, vh_R_wI, vh_Z_wI, vh_wI_sI, vh_K_sI, vh_R_sI, vh_Z_sI, vh_sI_sI, vh_I_sI, if_pos (nI_le (Nat.le_refl k) (show k < 2 ^ 31 by omega))]
    exact hQ1 f0 u a1 a2 a3
  | succ m ih =>
    intro k hk f0 u y4 y5 y6 y7 y8 a1 a2 a3
    have hlt : k < n := by omega
    have k5 : k < 5 := by omega
    obtain ⟨pl1, pl2⟩ := hpl k hlt
    obtain ⟨cd1, cd2⟩ := hcd k hlt
    obtain ⟨-, -, p3, p4⟩ := hp (pl k) pl2
    obtain ⟨-, o2, o3, -⟩ := hok.2 (pl k) pl2
    have e142 : f0 142 k = nI (pl k) := (a1 142 (by decide) k).trans pl1
    have e143 : f0 143 k = nI (cd k) := (a1 143 (by decide) k).trans cd1
    have b2 : 20 * i + 4 * pl k + 2 + 0 < 320 := by omega
    have b3 : 20 * i + 4 * pl k + 2 + 1 < 320 := by omega
    have stepN : TL ρ pl cd (k + 1) = (asg u (ρ (12 + 4 * pl k)) (cd k / 32 % 32)).bind (fun u' => asg u' (ρ (13 + 4 * pl k)) (cd k % 32)) := by
      show (TL ρ pl cd k).bind _ = _
      rw [a2]; rfl
    have ub := TL_b a2
    have hM0 : MZ (vh_sI h f0) := hM'
    simp only [s_106_23, s_106_24, s_106_25, if_neg (nI_ge hlt (show n < 2 ^ 31 by omega))]
    simp only [s_106_28, s_106_30, s_106_31, s_106_32, s_106_33, s_106_34, s_106_37, s_106_38, s_106_39, s_106_40, s_106_41, s_106_43, s_106_44, s_106_47, s_106_48, s_106_49, s_106_51, s_106_52, mk, mr0, mk0, mz0, mr1, mk1, mz1, mr2, mk2, mz2, mr3, mk3, mz3, mr4, mk4, mz4, mr5, mk5, mz5, mr6, mk6, mz6, mr7, mk7, mz7, mr8, mk8, mz8, mr9, mk9, mz9, mr10, mk10, mz10, mr11, mk11, mz11, mr12, mk12, mz12, mr13, mk13, mz13, mr14, mk14, mz14, mr15, mk15, mz15, mr16, mk16, mz16, mr17, mk17, mz17, mr18, mk18, mz18, va_rf_s, pk_mul, nI_add, not_false_eq_true, and_self, true_and, Option.toList_some, Option.toList_none, List.append_nil, List.cons_append, List.nil_append, nI_01, nI_11, vh_K_wI, vh_R_wI, vh_Z_wI, vh_wI_sI, vh_K_sI, vh_R_sI, vh_Z_sI, vh_sI_sI, vh_I_sI, cl (show k < 2 ^ 31 by omega), ib k5 (show 5 ≤ 2 ^ 31 by omega), e142, e143]
    have ex : ∀ g : Nat → Nat → Int32, (∀ x, x ≠ 141 → ∀ j, g x j = vh_I h x j) → g 135 (20 * i + 4 * pl k + 2 + 0) = jI (ρ (12 + 4 * pl k)) ∧ g 135 (20 * i + 4 * pl k + 2 + 1) = jI (ρ (13 + 4 * pl k)) := fun g hg => ⟨(hg 135 (by decide) _).trans p3, (hg 135 (by decide) _).trans p4⟩
    -- the first item
    simp only [s_106_54, s_106_56, s_106_57]
    rw [if_neg (by decide)]
    simp only [s_106_60, s_106_61, s_106_64, s_106_66, s_106_67, s_106_68, s_106_70, s_106_71, s_106_72, s_106_74, mk, mr0, mk0, mz0, mr1, mk1, mz1, mr2, mk2, mz2, mr3, mk3, mz3, mr4, mk4, mz4, mr5, mk5, mz5, mr6, mk6, mz6, mr7, mk7, mz7, mr8, mk8, mz8, mr9, mk9, mz9, mr10, mk10, mz10, mr11, mk11, mz11, mr12, mk12, mz12, mr13, mk13, mz13, mr14, mk14, mz14, mr15, mk15, mz15, mr16, mk16, mz16, mr17, mk17, mz17, mr18, mk18, mz18, va_rf_s, pk_mul, nI_add, not_false_eq_true, and_self, true_and, Option.toList_some, Option.toList_none, List.append_nil, List.cons_append, List.nil_append, nI_01, nI_11, vh_K_wI, vh_R_wI, vh_Z_wI, vh_wI_sI, vh_K_sI, vh_R_sI, vh_Z_sI, vh_sI_sI, vh_I_sI, cl (show 20 * i + 4 * pl k + 2 + 0 < 2 ^ 31 by omega), ib b2 (show 320 ≤ 2 ^ 31 by omega), (ex f0 a1).1]
    simp only [s_106_76]
    rw [if_neg (fun z => z nI_00)]
    have d1 : cd k / 32 < 2 ^ 31 := by omega
    simp only [s_106_79, s_106_81, s_106_83, s_106_84, s_106_86, s_106_87, s_106_90, s_106_92, s_106_94, s_106_95, va_rf_s, pk_mul, nI_add, not_false_eq_true, and_self, true_and, Option.toList_some, Option.toList_none, List.append_nil, List.cons_append, List.nil_append, nI_01, nI_11, vh_K_wI, vh_R_wI, vh_Z_wI, vh_wI_sI, vh_K_sI, vh_R_sI, vh_Z_sI, vh_sI_sI, vh_I_sI, n32_0, pk_div (show cd k < 2 ^ 31 by omega) (show 0 < 32 by omega) (show 32 < 2 ^ 31 by omega), pk_div d1 (show 0 < 32 by omega) (show 32 < 2 ^ 31 by omega), rem32 d1]
    refine l_asg hM0 o2 (Nat.mod_lt _ (by omega)) a3 ub (fun z => ?_) (fun u1 z1 f1 z2 z3 => ?_)
    · exact hQ0 f0 a1 (none_up (k + 1) (by omega) (by rw [stepN, z]; rfl))
    · rw [vh_sI_sI]
      rw [vh_I_sI] at z2
      have hM1 : MZ (vh_sI h f1) := hM'
      have a1' : ∀ x, x ≠ 141 → ∀ j, f1 x j = vh_I h x j := fun x hx j => (z2 x hx j).trans (a1 x hx j)
      have ub1 := asg_b (Nat.mod_lt _ (by omega)) z1 ub
      simp only [s_106_157, s_106_160, va_rf_s, pk_mul, nI_add, not_false_eq_true, and_self, true_and, Option.toList_some, Option.toList_none, List.append_nil, List.cons_append, List.nil_append, nI_01, nI_11, vh_K_wI, vh_R_wI, vh_Z_wI, vh_wI_sI, vh_K_sI, vh_R_sI, vh_Z_sI, vh_sI_sI, vh_I_sI]
      simp only [s_106_54, s_106_56, s_106_57]
      rw [if_neg (by decide)]
      simp only [s_106_60, s_106_61, s_106_64, s_106_66, s_106_67, s_106_68, s_106_70, s_106_71, s_106_72, s_106_74, mk, mr0, mk0, mz0, mr1, mk1, mz1, mr2, mk2, mz2, mr3, mk3, mz3, mr4, mk4, mz4, mr5, mk5, mz5, mr6, mk6, mz6, mr7, mk7, mz7, mr8, mk8, mz8, mr9, mk9, mz9, mr10, mk10, mz10, mr11, mk11, mz11, mr12, mk12, mz12, mr13, mk13, mz13, mr14, mk14, mz14, mr15, mk15, mz15, mr16, mk16, mz16, mr17, mk17, mz17, mr18, mk18, mz18, va_rf_s, pk_mul, nI_add, not_false_eq_true, and_self, true_and, Option.toList_some, Option.toList_none, List.append_nil, List.cons_append, List.nil_append, nI_01, nI_11, vh_K_wI, vh_R_wI, vh_Z_wI, vh_wI_sI, vh_K_sI, vh_R_sI, vh_Z_sI, vh_sI_sI, vh_I_sI, cl (show 20 * i + 4 * pl k + 2 + 1 < 2 ^ 31 by omega), ib b3 (show 320 ≤ 2 ^ 31 by omega), (ex f1 a1').2]
      simp only [s_106_76]
      rw [if_pos (by decide)]
      simp only [s_106_90, s_106_92, s_106_94, s_106_95, va_rf_s, pk_mul, nI_add, not_false_eq_true, and_self, true_and, Option.toList_some, Option.toList_none, List.append_nil, List.cons_append, List.nil_append, nI_01, nI_11, vh_K_wI, vh_R_wI, vh_Z_wI, vh_wI_sI, vh_K_sI, vh_R_sI, vh_Z_sI, vh_sI_sI, vh_I_sI, n32_0, pk_div (show cd k < 2 ^ 31 by omega) (show 0 < 32 by omega) (show 32 < 2 ^ 31 by omega), rem32 (show cd k < 2 ^ 31 by omega)]
      refine l_asg hM1 o3 (Nat.mod_lt _ (by omega)) z3 ub1 (fun z => ?_) (fun u2 w1 f2 w2 w3 => ?_)
      · exact hQ0 f1 a1' (none_up (k + 1) (by omega) (by rw [stepN, z1]; exact z))
      · rw [vh_sI_sI]
        rw [vh_I_sI] at w2
        simp only [s_106_157, s_106_160, va_rf_s, pk_mul, nI_add, not_false_eq_true, and_self, true_and, Option.toList_some, Option.toList_none, List.append_nil, List.cons_append, List.nil_append, nI_01, nI_11, vh_K_wI, vh_R_wI, vh_Z_wI, vh_wI_sI, vh_K_sI, vh_R_sI, vh_Z_sI, vh_sI_sI, vh_I_sI]
        simp only [s_106_54, s_106_56, s_106_57]
        rw [if_pos (by decide)]
        simp only [s_106_163, s_106_166, va_rf_s, pk_mul, nI_add, not_false_eq_true, and_self, true_and, Option.toList_some, Option.toList_none, List.append_nil, List.cons_append, List.nil_append, nI_01, nI_11, vh_K_wI, vh_R_wI, vh_Z_wI, vh_wI_sI, vh_K_sI, vh_R_sI, vh_Z_sI, vh_sI_sI, vh_I_sI]
        exact ih (k + 1) (by omega) f2 u2 _ _ _ _ _ (fun x hx j => (w2 x hx j).trans (a1' x hx j)) (by rw [stepN, z1]; exact w1) w3
theorem l_tell0 {i n : Nat} {h : vt_H} {Q : vt_Q} {y4 y5 y6 y7 y8 : Value} (hM : MZ h) (hQ : ∀ f', (∀ x, x ≠ 141 → ∀ j, f' x j = vh_I h x j) → (∀ v, v < 6 → f' 141 v = -nI 1) → ∀ y, Wp 106 21 [.ref 129, .int (nI i), .int (nI n), y, y4, y5, y6, y7, y8] [] (vh_sI h f') Q) :
    ∀ (m k : Nat), k + m = 6 → ∀ f0, (∀ x, x ≠ 141 → ∀ j, f0 x j = vh_I h x j) → (∀ v, v < k → f0 141 v = -nI 1) → Wp 106 2 [.ref 129, .int (nI i), .int (nI n), .int (nI k), y4, y5, y6, y7, y8] [] (vh_sI h f0) Q := by
  obtain ⟨mk, ⟨mr0, mk0, mz0⟩, ⟨mr1, mk1, mz1⟩, ⟨mr2, mk2, mz2⟩, ⟨mr3, mk3, mz3⟩, ⟨mr4, mk4, mz4⟩, ⟨mr5, mk5, mz5⟩, ⟨mr6, mk6, mz6⟩, ⟨mr7, mk7, mz7⟩, ⟨mr8, mk8, mz8⟩, ⟨mr9, mk9, mz9⟩, ⟨mr10, mk10, mz10⟩, ⟨mr11, mk11, mz11⟩, ⟨mr12, mk12, mz12⟩, ⟨mr13, mk13, mz13⟩, ⟨mr14, mk14, mz14⟩, ⟨mr15, mk15, mz15⟩, ⟨mr16, mk16, mz16⟩, ⟨mr17, mk17, mz17⟩, ⟨mr18, mk18, mz18⟩⟩ := hM
  intro m
  induction m with
  | zero =>
    intro k hk f0 h1 h2
    have : k = 6 := by omega
    subst this
    simp only [s_106_2, s_106_3, s_106_5, if_pos (nI_le (Nat.le_refl 6) (show 6 < 2 ^ 31 by omega))]
    exact hQ f0 h1 h2 _
  | succ m ih =>
    intro k hk f0 h1 h2
    have hlt : k < 6 := by omega
    simp only [s_106_2, s_106_3, s_106_5, if_neg (nI_ge hlt (show 6 < 2 ^ 31 by omega))]
    simp only [s_106_8, s_106_9, s_106_12, s_106_13, s_106_14, s_106_15, s_106_18, mk, mr0, mk0, mz0, mr1, mk1, mz1, mr2, mk2, mz2, mr3, mk3, mz3, mr4, mk4, mz4, mr5, mk5, mz5, mr6, mk6, mz6, mr7, mk7, mz7, mr8, mk8, mz8, mr9, mk9, mz9, mr10, mk10, mz10, mr11, mk11, mz11, mr12, mk12, mz12, mr13, mk13, mz13, mr14, mk14, mz14, mr15, mk15, mz15, mr16, mk16, mz16, mr17, mk17, mz17, mr18, mk18, mz18, va_rf_s, pk_mul, nI_add, not_false_eq_true, and_self, true_and, Option.toList_some, Option.toList_none, List.append_nil, List.cons_append, List.nil_append, nI_01, nI_11, vh_K_wI, vh_R_wI, vh_Z_wI, vh_wI_sI, vh_K_sI, vh_R_sI, vh_Z_sI, vh_sI_sI, vh_I_sI, cl (show k < 2 ^ 31 by omega), ib hlt (show 6 ≤ 2 ^ 31 by omega)]
    refine ih (k + 1) (by omega) _ (fun x hx j => ?_) (fun v hv => ?_)
    · rw [up2_a _ _ _ hx]; exact h1 x hx j
    · by_cases e : v = k
      · subst e; rw [up2_s]
      · rw [up2_i _ _ _ _ e]; exact h2 v (by omega)
theorem m_tell {i n : Nat} {ρ pl cd : Nat → Nat} {h : vt_H} {Q : vt_Q} (hM : MZ h) (hi : i < 16) (hR : MR (vh_I h) i ρ) (hn : n ≤ 5) (hpl : ∀ k, k < n → vh_I h 142 k = nI (pl k) ∧ pl k < ρ 5) (hcd : ∀ k, k < n → vh_I h 143 k = nI (cd k) ∧ cd k < 16384)
    (hQ0 : ∀ f', (∀ x, x ≠ 141 → ∀ j, f' x j = vh_I h x j) → TL ρ pl cd n = none → Q (some (.int (nI 0))) (vh_sI h f'))
    (hQ1 : ∀ f' u, (∀ x, x ≠ 141 → ∀ j, f' x j = vh_I h x j) → TL ρ pl cd n = some u → (∀ v, v < 6 → f' 141 v = vI (u v)) → Q (some (.int (nI 1))) (vh_sI h f')) :
    Wp 106 0 [.ref 129, .int (nI i), .int (nI n), vt_un, vt_un, vt_un, vt_un, vt_un, vt_un] [] h Q := by
  simp only [s_106_0, s_106_1]
  have l := l_tell0 (h := h) (Q := Q) (i := i) (n := n) (y4 := vt_un) (y5 := vt_un) (y6 := vt_un) (y7 := vt_un) (y8 := vt_un) hM (fun f1 a1 a2 y => ?_) 6 0 (by omega) (vh_I h) (fun _ _ _ => rfl) (fun v hv => absurd hv (by omega))
  · rw [vh_sI_id] at l
    exact l
  · simp only [s_106_21, s_106_22]
    exact l_tell hM hi hR hn hpl hcd hQ0 hQ1 n 0 (by omega) f1 (fun _ => 32) _ _ _ _ _ a1 rfl a2
/-- the parts that are not plain hold: the first k -/
def npl (H : Nat → Nat → Nat → Bool) (ρ : Nat → Nat) (k : Nat) (w : Nat → Nat) : Prop := ∀ p, p < k → ¬ ρ (10 + 4 * p) = 3 → pA H (ρ (10 + 4 * p)) (ρ (11 + 4 * p)) (iv w (ρ (12 + 4 * p))) (iv w (ρ (13 + 4 * p))) = true
theorem l_pass {i : Nat} {ρ u : Nat → Nat} {O : Nat → Bool} {h : vt_H} {Q : vt_Q} (hM : MZ h) (hi : i < 16) (hR : MR (vh_I h) i ρ) (hu : ∀ v, v < 6 → vh_I h 141 v = vI (u v)) (hb : ∀ p, p < ρ 5 → (32 ≤ ρ (12 + 4 * p) → u (ρ (12 + 4 * p) - 32) < 32) ∧ (32 ≤ ρ (13 + 4 * p) → u (ρ (13 + 4 * p) - 32) < 32)) (hO : ∀ c, c < 16384 → (OL (vh_I h) c ↔ O c = true))
    (hQ : Q (some (.int (cb (npl (fun n a b => O (1024 * n + 32 * a + b)) ρ (ρ 5) u)))) h) :
    ∀ (m k : Nat), k + m = ρ 5 → ∀ y4 y5 y6, Wp 107 4 [.ref 129, .int (nI i), .int (cb (npl (fun n a b => O (1024 * n + 32 * a + b)) ρ k u)), .int (nI k), y4, y5, y6] [] h Q := by
  have hM' := hM
  obtain ⟨mk, ⟨mr0, mk0, mz0⟩, ⟨mr1, mk1, mz1⟩, ⟨mr2, mk2, mz2⟩, ⟨mr3, mk3, mz3⟩, ⟨mr4, mk4, mz4⟩, ⟨mr5, mk5, mz5⟩, ⟨mr6, mk6, mz6⟩, ⟨mr7, mk7, mz7⟩, ⟨mr8, mk8, mz8⟩, ⟨mr9, mk9, mz9⟩, ⟨mr10, mk10, mz10⟩, ⟨mr11, mk11, mz11⟩, ⟨mr12, mk12, mz12⟩, ⟨mr13, mk13, mz13⟩, ⟨mr14, mk14, mz14⟩, ⟨mr15, mk15, mz15⟩, ⟨mr16, mk16, mz16⟩, ⟨mr17, mk17, mz17⟩, ⟨mr18, mk18, mz18⟩⟩ := hM
  obtain ⟨hok, h0, h1, h2, h3, h4, h5, hp⟩ := hR
  have r5 := hok.1.2.2.2.1
  intro m
  induction m with
  | zero =>
    intro k hk y4 y5 y6
    have : k = ρ 5 := by omega
    subst this
    simp only [s_107_4, s_107_5, s_107_6, s_107_9, s_107_10, s_107_11, s_107_185, s_107_186, mk, mr0, mk0, mz0, mr1, mk1, mz1, mr2, mk2, mz2, mr3, mk3, mz3, mr4, mk4, mz4, mr5, mk5, mz5, mr6, mk6, mz6, mr7, mk7, mz7, mr8, mk8, mz8, mr9, mk9, mz9, mr10, mk10, mz10, mr11, mk11, mz11, mr12, mk12, mz12, mr13, mk13, mz13, mr14, mk14, mz14, mr15, mk15, mz15, mr16, mk16, mz16, mr17, mk17, mz17, mr18, mk18, mz18, va_rf_s, pk_mul, nI_add, not_false_eq_true, and_self, true_and, Option.toList_some, Option.toList_none, List.append_nil, List.cons_append, List.nil_append, nI_01, nI_11, vh_K_wI, vh_R_wI, vh_Z_wI, vh_wI_sI, vh_K_sI, vh_R_sI, vh_Z_sI, vh_sI_sI, vh_I_sI, h5, cl (show i < 2 ^ 31 by omega), ib hi (show 16 ≤ 2 ^ 31 by omega), if_pos (nI_le (Nat.le_refl (ρ 5)) (show ρ 5 < 2 ^ 31 by omega)), cb_01]
    exact hQ
  | succ m ih =>
    intro k hk y4 y5 y6
    have hlt : k < ρ 5 := by omega
    obtain ⟨p1, p2, p3, p4⟩ := hp k hlt
    obtain ⟨o1, o2, o3, o4⟩ := hok.2 k hlt
    obtain ⟨ux, uy⟩ := hb k hlt
    have b0 : 20 * i + 4 * k < 320 := by omega
    have b1 : 20 * i + 4 * k + 1 < 320 := by omega
    have b2 : 20 * i + 4 * k + 2 < 320 := by omega
    have b3 : 20 * i + 4 * k + 3 < 320 := by omega
    have vx : iv u (ρ (12 + 4 * k)) < 32 := by
      unfold iv
      split
      · assumption
      · exact ux (by omega)
    have vy : iv u (ρ (13 + 4 * k)) < 32 := by
      unfold iv
      split
      · assumption
      · exact uy (by omega)
    simp only [s_107_4, s_107_5, s_107_6, s_107_9, s_107_10, s_107_11, mk, mr0, mk0, mz0, mr1, mk1, mz1, mr2, mk2, mz2, mr3, mk3, mz3, mr4, mk4, mz4, mr5, mk5, mz5, mr6, mk6, mz6, mr7, mk7, mz7, mr8, mk8, mz8, mr9, mk9, mz9, mr10, mk10, mz10, mr11, mk11, mz11, mr12, mk12, mz12, mr13, mk13, mz13, mr14, mk14, mz14, mr15, mk15, mz15, mr16, mk16, mz16, mr17, mk17, mz17, mr18, mk18, mz18, va_rf_s, pk_mul, nI_add, not_false_eq_true, and_self, true_and, Option.toList_some, Option.toList_none, List.append_nil, List.cons_append, List.nil_append, nI_01, nI_11, vh_K_wI, vh_R_wI, vh_Z_wI, vh_wI_sI, vh_K_sI, vh_R_sI, vh_Z_sI, vh_sI_sI, vh_I_sI, h5, cl (show i < 2 ^ 31 by omega), ib hi (show 16 ≤ 2 ^ 31 by omega), if_neg (nI_ge hlt (show ρ 5 < 2 ^ 31 by omega))]
    simp only [s_107_14, s_107_15]
    by_cases q : npl (fun n a b => O (1024 * n + 32 * a + b)) ρ k u
    · rw [if_neg (fun z => cb_0.mp z q)]
      have step : npl (fun n a b => O (1024 * n + 32 * a + b)) ρ (k + 1) u ↔ (¬ ρ (10 + 4 * k) = 3 → pA (fun n a b => O (1024 * n + 32 * a + b)) (ρ (10 + 4 * k)) (ρ (11 + 4 * k)) (iv u (ρ (12 + 4 * k))) (iv u (ρ (13 + 4 * k))) = true) := by
        constructor
        · intro z; exact z k (by omega)
        · intro z p hp'
          by_cases e : p = k
          · subst e; exact z
          · exact q p (by omega)
      have fin : ∀ z : Int32, z = cb (npl (fun n a b => O (1024 * n + 32 * a + b)) ρ (k + 1) u) → ∀ y4 y5 y6, Wp 107 179 [.ref 129, .int (nI i), .int z, .int (nI k), y4, y5, y6] [] h Q := by
        intro z hz y4 y5 y6
        simp only [s_107_179, s_107_182, va_rf_s, pk_mul, nI_add, not_false_eq_true, and_self, true_and, Option.toList_some, Option.toList_none, List.append_nil, List.cons_append, List.nil_append, nI_01, nI_11, vh_K_wI, vh_R_wI, vh_Z_wI, vh_wI_sI, vh_K_sI, vh_R_sI, vh_Z_sI, vh_sI_sI, vh_I_sI, hz]
        exact ih (k + 1) (by omega) _ _ _
      have fin2 : ∀ z : Int32, z = cb (npl (fun n a b => O (1024 * n + 32 * a + b)) ρ (k + 1) u) → ∀ y2 y4 y5 y6, Wp 107 178 [.ref 129, .int (nI i), y2, .int (nI k), y4, y5, y6] [.int z] h Q := by
        intro z hz y2 y4 y5 y6
        simp only [s_107_178]
        exact fin z hz _ _ _
      simp only [s_107_18, s_107_20, s_107_21, s_107_22, s_107_23, s_107_24, s_107_25, s_107_26, s_107_28, s_107_29, s_107_30, s_107_33, s_107_35, s_107_36, s_107_37, s_107_38, s_107_41, s_107_43, s_107_44, s_107_45, s_107_48, s_107_50, s_107_51, s_107_52, s_107_53, s_107_56, s_107_58, s_107_59, s_107_62, s_107_64, s_107_65, s_107_66, mk, mr0, mk0, mz0, mr1, mk1, mz1, mr2, mk2, mz2, mr3, mk3, mz3, mr4, mk4, mz4, mr5, mk5, mz5, mr6, mk6, mz6, mr7, mk7, mz7, mr8, mk8, mz8, mr9, mk9, mz9, mr10, mk10, mz10, mr11, mk11, mz11, mr12, mk12, mz12, mr13, mk13, mz13, mr14, mk14, mz14, mr15, mk15, mz15, mr16, mk16, mz16, mr17, mk17, mz17, mr18, mk18, mz18, va_rf_s, pk_mul, nI_add, not_false_eq_true, and_self, true_and, Option.toList_some, Option.toList_none, List.append_nil, List.cons_append, List.nil_append, nI_01, nI_11, vh_K_wI, vh_R_wI, vh_Z_wI, vh_wI_sI, vh_K_sI, vh_R_sI, vh_Z_sI, vh_sI_sI, vh_I_sI, cl (show 20 * i + 4 * k + 2 < 2 ^ 31 by omega), ib b2 (show 320 ≤ 2 ^ 31 by omega), cl (show 20 * i + 4 * k + 3 < 2 ^ 31 by omega), ib b3 (show 320 ≤ 2 ^ 31 by omega), cl (show 20 * i + 4 * k < 2 ^ 31 by omega), ib b0 (show 320 ≤ 2 ^ 31 by omega), p1, p3, p4, m_val _ hM' o2 hu ux, m_val _ hM' o3 hu uy]
      have ne1 : nI (so (ρ (10 + 4 * k))) = nI 1 ↔ so (ρ (10 + 4 * k)) = 1 := nI_eq (by have := so_lt (ρ (10 + 4 * k)); omega) (by omega)
      have ne2 : nI (so (ρ (10 + 4 * k))) = nI 2 ↔ so (ρ (10 + 4 * k)) = 2 := nI_eq (by have := so_lt (ρ (10 + 4 * k)); omega) (by omega)
      by_cases q4 : ρ (10 + 4 * k) = 4
      · have s1 : so (ρ (10 + 4 * k)) = 1 := by rw [q4]; rfl
        have ew : wh (ρ (10 + 4 * k)) (ρ (11 + 4 * k)) = ρ (11 + 4 * k) := by unfold wh; rw [if_neg (by omega)]
        have bc : 1024 * ρ (11 + 4 * k) + 32 * iv u (ρ (12 + 4 * k)) + iv u (ρ (13 + 4 * k)) < 16384 := by omega
        rw [if_neg (fun z => z (ne1.mpr s1))]
        simp only [s_107_69, s_107_70, s_107_71, s_107_74, s_107_76, s_107_77, s_107_78, s_107_79, s_107_81, s_107_83, s_107_86, s_107_89, mk, mr0, mk0, mz0, mr1, mk1, mz1, mr2, mk2, mz2, mr3, mk3, mz3, mr4, mk4, mz4, mr5, mk5, mz5, mr6, mk6, mz6, mr7, mk7, mz7, mr8, mk8, mz8, mr9, mk9, mz9, mr10, mk10, mz10, mr11, mk11, mz11, mr12, mk12, mz12, mr13, mk13, mz13, mr14, mk14, mz14, mr15, mk15, mz15, mr16, mk16, mz16, mr17, mk17, mz17, mr18, mk18, mz18, va_rf_s, pk_mul, nI_add, not_false_eq_true, and_self, true_and, Option.toList_some, Option.toList_none, List.append_nil, List.cons_append, List.nil_append, nI_01, nI_11, vh_K_wI, vh_R_wI, vh_Z_wI, vh_wI_sI, vh_K_sI, vh_R_sI, vh_Z_sI, vh_sI_sI, vh_I_sI, cl (show 20 * i + 4 * k + 1 < 2 ^ 31 by omega), ib b1 (show 320 ≤ 2 ^ 31 by omega), p2, ew, c_code, m_isOld _ hM' bc]
        have tail : ∀ z : Int32, z = cb (npl (fun n a b => O (1024 * n + 32 * a + b)) ρ (k + 1) u) → Wp 107 97 [.ref 129, .int (nI i), .int (cb (npl (fun n a b => O (1024 * n + 32 * a + b)) ρ k u)), .int (nI k), .int (nI (20 * i + 4 * k)), .int (nI (iv u (ρ (12 + 4 * k)))), .int (nI (iv u (ρ (13 + 4 * k))))] [.int z] h Q := by
          intro z hz
          simp only [s_107_97, s_107_98, s_107_99, s_107_102, s_107_104, s_107_105, s_107_106, mk, mr0, mk0, mz0, mr1, mk1, mz1, mr2, mk2, mz2, mr3, mk3, mz3, mr4, mk4, mz4, mr5, mk5, mz5, mr6, mk6, mz6, mr7, mk7, mz7, mr8, mk8, mz8, mr9, mk9, mz9, mr10, mk10, mz10, mr11, mk11, mz11, mr12, mk12, mz12, mr13, mk13, mz13, mr14, mk14, mz14, mr15, mk15, mz15, mr16, mk16, mz16, mr17, mk17, mz17, mr18, mk18, mz18, va_rf_s, pk_mul, nI_add, not_false_eq_true, and_self, true_and, Option.toList_some, Option.toList_none, List.append_nil, List.cons_append, List.nil_append, nI_01, nI_11, vh_K_wI, vh_R_wI, vh_Z_wI, vh_wI_sI, vh_K_sI, vh_R_sI, vh_Z_sI, vh_sI_sI, vh_I_sI, cl (show 20 * i + 4 * k < 2 ^ 31 by omega), ib b0 (show 320 ≤ 2 ^ 31 by omega), p1]
          rw [if_pos (fun w => by have := ne2.mp w; omega)]
          exact fin z hz _ _ _
        have ep : pA (fun n a b => O (1024 * n + 32 * a + b)) (ρ (10 + 4 * k)) (ρ (11 + 4 * k)) (iv u (ρ (12 + 4 * k))) (iv u (ρ (13 + 4 * k))) = !O (1024 * ρ (11 + 4 * k) + 32 * iv u (ρ (12 + 4 * k)) + iv u (ρ (13 + 4 * k))) := by
          unfold pA
          rw [if_neg (by omega), if_pos q4]
        by_cases qo : OL (vh_I h) (1024 * ρ (11 + 4 * k) + 32 * iv u (ρ (12 + 4 * k)) + iv u (ρ (13 + 4 * k)))
        · rw [if_pos (fun z => cb_0.mp z qo)]
          simp only [s_107_96]
          refine tail _ (cb_f (fun z => ?_)).symm
          have := step.mp z (by omega)
          rw [ep, (hO _ bc).mp qo] at this
          cases this
        · rw [if_neg (fun z => z (cb_0.mpr qo))]
          simp only [s_107_92, s_107_93]
          refine tail _ (cb_t (step.mpr (fun _ => ?_))).symm
          rw [ep]
          cases ho : O (1024 * ρ (11 + 4 * k) + 32 * iv u (ρ (12 + 4 * k)) + iv u (ρ (13 + 4 * k))) with
          | false => rfl
          | true => exact absurd ((hO _ bc).mpr ho) qo
      · by_cases q3 : ρ (10 + 4 * k) = 3
        · have s0 : so (ρ (10 + 4 * k)) = 0 := so_0.mpr q3
          rw [if_pos (fun z => by have := ne1.mp z; omega)]
          simp only [s_107_98, s_107_99, s_107_102, s_107_104, s_107_105, s_107_106, mk, mr0, mk0, mz0, mr1, mk1, mz1, mr2, mk2, mz2, mr3, mk3, mz3, mr4, mk4, mz4, mr5, mk5, mz5, mr6, mk6, mz6, mr7, mk7, mz7, mr8, mk8, mz8, mr9, mk9, mz9, mr10, mk10, mz10, mr11, mk11, mz11, mr12, mk12, mz12, mr13, mk13, mz13, mr14, mk14, mz14, mr15, mk15, mz15, mr16, mk16, mz16, mr17, mk17, mz17, mr18, mk18, mz18, va_rf_s, pk_mul, nI_add, not_false_eq_true, and_self, true_and, Option.toList_some, Option.toList_none, List.append_nil, List.cons_append, List.nil_append, nI_01, nI_11, vh_K_wI, vh_R_wI, vh_Z_wI, vh_wI_sI, vh_K_sI, vh_R_sI, vh_Z_sI, vh_sI_sI, vh_I_sI, cl (show 20 * i + 4 * k < 2 ^ 31 by omega), ib b0 (show 320 ≤ 2 ^ 31 by omega), p1]
          rw [if_pos (fun z => by have := ne2.mp z; omega)]
          exact fin _ (cb_c ⟨fun _ => step.mpr (fun z => absurd q3 z), fun _ => q⟩) _ _ _
        · have s2 : so (ρ (10 + 4 * k)) = 2 := by unfold so; rw [if_neg q3, if_neg q4]
          have d3 : ρ (10 + 4 * k) < 3 := by omega
          have ew : wh (ρ (10 + 4 * k)) (ρ (11 + 4 * k)) = ρ (10 + 4 * k) := by unfold wh; rw [if_pos d3]
          have ep : pA (fun n a b => O (1024 * n + 32 * a + b)) (ρ (10 + 4 * k)) (ρ (11 + 4 * k)) (iv u (ρ (12 + 4 * k))) (iv u (ρ (13 + 4 * k))) = pF (ρ (10 + 4 * k)) (iv u (ρ (12 + 4 * k))) (iv u (ρ (13 + 4 * k))) := by
            unfold pA
            rw [if_neg q3, if_neg q4]
          have st2 : npl (fun n a b => O (1024 * n + 32 * a + b)) ρ (k + 1) u ↔ pF (ρ (10 + 4 * k)) (iv u (ρ (12 + 4 * k))) (iv u (ρ (13 + 4 * k))) = true := by
            rw [step, ep]
            exact ⟨fun z => z q3, fun z _ => z⟩
          rw [if_pos (fun z => by have := ne1.mp z; omega)]
          simp only [s_107_98, s_107_99, s_107_102, s_107_104, s_107_105, s_107_106, mk, mr0, mk0, mz0, mr1, mk1, mz1, mr2, mk2, mz2, mr3, mk3, mz3, mr4, mk4, mz4, mr5, mk5, mz5, mr6, mk6, mz6, mr7, mk7, mz7, mr8, mk8, mz8, mr9, mk9, mz9, mr10, mk10, mz10, mr11, mk11, mz11, mr12, mk12, mz12, mr13, mk13, mz13, mr14, mk14, mz14, mr15, mk15, mz15, mr16, mk16, mz16, mr17, mk17, mz17, mr18, mk18, mz18, va_rf_s, pk_mul, nI_add, not_false_eq_true, and_self, true_and, Option.toList_some, Option.toList_none, List.append_nil, List.cons_append, List.nil_append, nI_01, nI_11, vh_K_wI, vh_R_wI, vh_Z_wI, vh_wI_sI, vh_K_sI, vh_R_sI, vh_Z_sI, vh_sI_sI, vh_I_sI, cl (show 20 * i + 4 * k < 2 ^ 31 by omega), ib b0 (show 320 ≤ 2 ^ 31 by omega), p1]
          rw [if_neg (fun z => z (ne2.mpr s2))]
          simp only [s_107_109, s_107_110, s_107_113, s_107_115, s_107_116, s_107_117, s_107_118, mk, mr0, mk0, mz0, mr1, mk1, mz1, mr2, mk2, mz2, mr3, mk3, mz3, mr4, mk4, mz4, mr5, mk5, mz5, mr6, mk6, mz6, mr7, mk7, mz7, mr8, mk8, mz8, mr9, mk9, mz9, mr10, mk10, mz10, mr11, mk11, mz11, mr12, mk12, mz12, mr13, mk13, mz13, mr14, mk14, mz14, mr15, mk15, mz15, mr16, mk16, mz16, mr17, mk17, mz17, mr18, mk18, mz18, va_rf_s, pk_mul, nI_add, not_false_eq_true, and_self, true_and, Option.toList_some, Option.toList_none, List.append_nil, List.cons_append, List.nil_append, nI_01, nI_11, vh_K_wI, vh_R_wI, vh_Z_wI, vh_wI_sI, vh_K_sI, vh_R_sI, vh_Z_sI, vh_sI_sI, vh_I_sI, cl (show 20 * i + 4 * k + 1 < 2 ^ 31 by omega), ib b1 (show 320 ≤ 2 ^ 31 by omega), p2, ew]
          by_cases f0 : ρ (10 + 4 * k) = 0
          · rw [if_neg (fun z => z (by rw [f0]; rfl))]
            have e : pF (ρ (10 + 4 * k)) (iv u (ρ (12 + 4 * k))) (iv u (ρ (13 + 4 * k))) = true ↔ iv u (ρ (12 + 4 * k)) < iv u (ρ (13 + 4 * k)) := by unfold pF; rw [if_pos f0, decide_eq_true_eq]
            simp only [s_107_121, s_107_123, s_107_125]
            by_cases w : iv u (ρ (12 + 4 * k)) < iv u (ρ (13 + 4 * k))
            · rw [if_neg (nI_ge w (by omega))]
              simp only [s_107_128, s_107_129]
              exact fin2 _ (cb_t (st2.mpr (e.mpr w))).symm _ _ _ _
            · rw [if_pos (nI_le (by omega) (by omega))]
              simp only [s_107_132, s_107_133]
              exact fin2 _ (cb_f (fun z => w (e.mp (st2.mp z)))).symm _ _ _ _
          · rw [if_pos (fun z => f0 ((nI_0i (by omega)).mp z))]
            simp only [s_107_136, s_107_137, s_107_140, s_107_142, s_107_143, s_107_144, s_107_145, s_107_146, mk, mr0, mk0, mz0, mr1, mk1, mz1, mr2, mk2, mz2, mr3, mk3, mz3, mr4, mk4, mz4, mr5, mk5, mz5, mr6, mk6, mz6, mr7, mk7, mz7, mr8, mk8, mz8, mr9, mk9, mz9, mr10, mk10, mz10, mr11, mk11, mz11, mr12, mk12, mz12, mr13, mk13, mz13, mr14, mk14, mz14, mr15, mk15, mz15, mr16, mk16, mz16, mr17, mk17, mz17, mr18, mk18, mz18, va_rf_s, pk_mul, nI_add, not_false_eq_true, and_self, true_and, Option.toList_some, Option.toList_none, List.append_nil, List.cons_append, List.nil_append, nI_01, nI_11, vh_K_wI, vh_R_wI, vh_Z_wI, vh_wI_sI, vh_K_sI, vh_R_sI, vh_Z_sI, vh_sI_sI, vh_I_sI, cl (show 20 * i + 4 * k + 1 < 2 ^ 31 by omega), ib b1 (show 320 ≤ 2 ^ 31 by omega), p2, ew]
            by_cases f1 : ρ (10 + 4 * k) = 1
            · rw [if_neg (fun z => z (by rw [f1]))]
              have e : pF (ρ (10 + 4 * k)) (iv u (ρ (12 + 4 * k))) (iv u (ρ (13 + 4 * k))) = true ↔ iv u (ρ (12 + 4 * k)) ≠ iv u (ρ (13 + 4 * k)) := by unfold pF; rw [if_neg f0, if_pos f1, decide_eq_true_eq]
              simp only [s_107_149, s_107_151, s_107_153]
              by_cases w : iv u (ρ (12 + 4 * k)) = iv u (ρ (13 + 4 * k))
              · rw [if_pos (by rw [w])]
                simp only [s_107_160, s_107_161]
                exact fin2 _ (cb_f (fun z => e.mp (st2.mp z) w)).symm _ _ _ _
              · rw [if_neg (fun z => w ((nI_eq (by omega) (by omega)).mp z))]
                simp only [s_107_156, s_107_157]
                exact fin2 _ (cb_t (st2.mpr (e.mpr w))).symm _ _ _ _
            · rw [if_pos (fun z => f1 ((nI_eq (by omega) (by omega)).mp z))]
              have e : pF (ρ (10 + 4 * k)) (iv u (ρ (12 + 4 * k))) (iv u (ρ (13 + 4 * k))) = true ↔ iv u (ρ (13 + 4 * k)) = iv u (ρ (12 + 4 * k)) + 1 := by unfold pF; rw [if_neg f0, if_neg f1, decide_eq_true_eq]
              simp only [s_107_164, s_107_166, s_107_168, s_107_169, s_107_170, va_rf_s, pk_mul, nI_add, not_false_eq_true, and_self, true_and, Option.toList_some, Option.toList_none, List.append_nil, List.cons_append, List.nil_append, nI_01, nI_11, vh_K_wI, vh_R_wI, vh_Z_wI, vh_wI_sI, vh_K_sI, vh_R_sI, vh_Z_sI, vh_sI_sI, vh_I_sI]
              by_cases w : iv u (ρ (13 + 4 * k)) = iv u (ρ (12 + 4 * k)) + 1
              · rw [if_neg (fun z => z (by rw [w]))]
                simp only [s_107_173, s_107_174]
                exact fin2 _ (cb_t (st2.mpr (e.mpr w))).symm _ _ _ _
              · rw [if_pos (fun z => w ((nI_eq (by omega) (by omega)).mp z))]
                simp only [s_107_177]
                exact fin2 _ (cb_f (fun z => w (e.mp (st2.mp z)))).symm _ _ _ _
    · rw [if_pos (cb_0.mpr q)]
      simp only [s_107_185, s_107_186, va_rf_s, pk_mul, nI_add, not_false_eq_true, and_self, true_and, Option.toList_some, Option.toList_none, List.append_nil, List.cons_append, List.nil_append, nI_01, nI_11, vh_K_wI, vh_R_wI, vh_Z_wI, vh_wI_sI, vh_K_sI, vh_R_sI, vh_Z_sI, vh_sI_sI, vh_I_sI, cb_01]
      have e : cb (npl (fun n a b => O (1024 * n + 32 * a + b)) ρ k u) = cb (npl (fun n a b => O (1024 * n + 32 * a + b)) ρ (ρ 5) u) := by
        rw [cb_f q, cb_f]
        exact fun z => q (fun p hp' => z p (by omega))
      rw [e]
      exact hQ
theorem m_pass {i : Nat} {ρ u : Nat → Nat} {O : Nat → Bool} {h : vt_H} (Q : vt_Q) (hM : MZ h) (hi : i < 16) (hR : MR (vh_I h) i ρ) (hu : ∀ v, v < 6 → vh_I h 141 v = vI (u v)) (hb : ∀ p, p < ρ 5 → (32 ≤ ρ (12 + 4 * p) → u (ρ (12 + 4 * p) - 32) < 32) ∧ (32 ≤ ρ (13 + 4 * p) → u (ρ (13 + 4 * p) - 32) < 32)) (hO : ∀ c, c < 16384 → (OL (vh_I h) c ↔ O c = true)) : Wp 107 0 [.ref 129, .int (nI i), vt_un, vt_un, vt_un, vt_un, vt_un] [] h Q ↔ Q (some (.int (cb (npl (fun n a b => O (1024 * n + 32 * a + b)) ρ (ρ 5) u)))) h := by
  refine Wp_eq' (fun Q hQ => ?_) Q
  have l := l_pass hM hi hR hu hb hO hQ (ρ 5) 0 (by omega) vt_un vt_un vt_un
  have e0 : npl (fun n a b => O (1024 * n + 32 * a + b)) ρ 0 u := fun p hp => absurd hp (by omega)
  rw [cb_t e0] at l
  simp only [s_107_0, s_107_1, s_107_2, s_107_3]
  exact l

-- ===== the class: body, filter, safe, rule =====
theorem c_body {r n x y t : Int32} {h : vt_H} (Q : vt_Q) (hE : vh_K h 0 = 105) : Wp 18 0 [.ref 0, .int r, .int n, .int x, .int y, .int t] [] h Q ↔ if n < 0 ∨ nI 16 ≤ n then Q (some (.int (-nI 1))) h else Wp 19 0 [.ref 0, .int r, .int (if t = 0 then nI 3 else nI 4), .int n, .int x, .int y] [] h (fun v h' => Wp 18 28 [.ref 0, .int r, .int n, .int x, .int y, .int t] v.toList h' Q) := by
  simp only [s_18_0, s_18_1, s_18_4, c_isBadName, Option.toList_some, List.append_nil, List.cons_append, List.nil_append, jb_0]
  by_cases q : n < 0 ∨ nI 16 ≤ n
  · rw [if_neg (fun z => z q), if_pos q]
    simp only [s_18_7, s_18_8]
  · rw [if_pos q, if_neg q]
    simp only [s_18_9, s_18_10, s_18_11, s_18_13]
    by_cases e : t = 0
    · rw [if_pos e]
      simp only [s_18_20, s_18_21, s_18_22, s_18_23, s_18_25, hE, true_and, if_pos e, List.append_nil]
    · rw [if_neg e]
      simp only [s_18_16, s_18_17]
      simp only [s_18_21, s_18_22, s_18_23, s_18_25, hE, true_and, if_neg e, List.append_nil]
theorem c_filter {r d x y : Int32} {h : vt_H} (Q : vt_Q) (hE : vh_K h 0 = 105) : Wp 22 0 [.ref 0, .int r, .int d, .int x, .int y] [] h Q ↔ if d < 0 ∨ nI 3 ≤ d then Q (some (.int (-nI 1))) h else Wp 19 0 [.ref 0, .int r, .int d, .int (nI 0), .int x, .int y] [] h (fun v h' => Wp 22 21 [.ref 0, .int r, .int d, .int x, .int y] v.toList h' Q) := by
  have e32 : d ≤ nI 2 ↔ ¬ nI 3 ≤ d := by
    rw [i32_nle, Int32.le_iff_toInt_le, Int32.lt_iff_toInt_lt, nI_toInt (by omega), nI_toInt (by omega)]
    omega
  simp only [s_22_0, s_22_1]
  by_cases q : d < 0
  · rw [if_pos q, if_pos (Or.inl q)]
    simp only [s_22_9, s_22_10]
  · rw [if_neg q]
    simp only [s_22_4, s_22_5, s_22_6]
    by_cases q2 : nI 3 ≤ d
    · rw [if_neg (fun z => (e32.mp z) q2), if_pos (Or.inr q2)]
      simp only [s_22_9, s_22_10]
    · rw [if_pos (e32.mpr q2), if_neg (fun z => z.elim q q2)]
      simp only [s_22_11, s_22_12, s_22_13, s_22_14, s_22_15, s_22_16, s_22_18, hE, true_and, List.append_nil]
theorem c_safe_bad {r : Int32} {h : vt_H} (Q : vt_Q) (hE : vh_K h 0 = 105) (hb : r < 0 ∨ vh_I h 0 3 ≤ r) : Wp 25 0 [.ref 0, .int r] [] h Q ↔ Q (some (.int (-nI 1))) h := by
  simp only [s_25_0, s_25_1, s_25_2, s_25_5, hE, true_and, c_isBadRule _ hE, Option.toList_some, List.append_nil, List.cons_append, List.nil_append, jb_0]
  rw [if_neg (fun z => z hb)]
  simp only [s_25_8, s_25_9]
theorem c_safe {i r d n x y k : Nat} {h : vt_H} (Q : vt_Q) (hE : EN h) (hb : ¬ (nI i < 0 ∨ vh_I h 0 3 ≤ nI i)) (hi : i < 16) (hA : vh_K h 48 = 2 ∧ vh_Z h 48 = 16) (hr : vh_R h 48 i = some r) (hR : RL h r d n x y) (hs : vh_I h r 5 = nI k) (hk : k ≤ 5) : Wp 25 0 [.ref 0, .int (nI i)] [] h Q ↔ Q (some (.int (jb (jasked (vh_I h) d x y (jvar (vh_I h r 1) (jsecond (vh_I h) r)) k &&& (jgiven (vh_I h) d x y k ^^^ -nI 1) = 0)))) h := by
  obtain ⟨h1, h2, h3, h4, h5, h6⟩ := hE
  simp only [s_25_0, s_25_1, s_25_2, s_25_5, h1, true_and, c_isBadRule _ h1, Option.toList_some, List.append_nil, List.cons_append, List.nil_append, jb_0]
  rw [if_pos hb]
  simp only [s_25_10, s_25_11, s_25_14, s_25_15, s_25_16, s_25_19, h1, h3, hA.1, hA.2, hr, hR.1, va_rf_s, cl (show i < 2 ^ 31 by omega), ib hi (show 16 ≤ 2 ^ 31 by omega), not_false_eq_true, and_self, true_and, c_isSafe _ hR hs hk, Option.toList_some, List.append_nil, List.cons_append, List.nil_append, jb_0]
  by_cases q : jasked (vh_I h) d x y (jvar (vh_I h r 1) (jsecond (vh_I h) r)) k &&& (jgiven (vh_I h) d x y k ^^^ -nI 1) = 0
  · rw [if_neg (fun z => z q), jb_t q]
    simp only [s_25_22, s_25_23, s_25_26, s_25_27]
  · rw [if_pos q, jb_f q]
    simp only [s_25_26, s_25_27]

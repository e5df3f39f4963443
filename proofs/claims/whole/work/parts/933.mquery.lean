-- ===== the questions of the reference =====
def FO (h : vt_H) (f' : Nat → Nat → Int32) : Prop := ∀ x, (x < 129 ∨ 148 < x) → ∀ j, f' x j = vh_I h x j
theorem m_workM {c : Nat} {h : vt_H} {Q : vt_Q} {ρs : Nat → Nat → Nat} {S : Nat → Nat → Nat → Bool} (hM : MM h ρs c S)
    (hQ : ∀ f', FO h f' → MM (vh_sI h f') ρs c S → MST f' ρs c S → Q none (vh_sI h f')) : Wp 100 0 [.ref 129, vt_un, vt_un, vt_un] [] h Q :=
  m_work hM.1 hM.2 (fun f' a1 a2 a3 => hQ f' a1 ⟨hM.1, a2⟩ a3)
theorem m_run {c : Nat} {h : vt_H} {Q : vt_Q} {ρs : Nat → Nat → Nat} {S : Nat → Nat → Nat → Bool} (hM : MM h ρs c S)
    (hQ : ∀ f' ci lv H t rd, FO h f' → MM (vh_sI h f') ρs c S → MDL ρs c S ci lv H t rd → Q (some (.int (if cI ci < 0 then nI t else -nI 10 - cI ci))) (vh_sI h f')) : Wp 99 0 [.ref 129] [] h Q := by
  have hZ := hM.1
  obtain ⟨mk, ⟨mr0, mk0, mz0⟩, ⟨mr1, mk1, mz1⟩, ⟨mr2, mk2, mz2⟩, ⟨mr3, mk3, mz3⟩, ⟨mr4, mk4, mz4⟩, ⟨mr5, mk5, mz5⟩, ⟨mr6, mk6, mz6⟩, ⟨mr7, mk7, mz7⟩, ⟨mr8, mk8, mz8⟩, ⟨mr9, mk9, mz9⟩, ⟨mr10, mk10, mz10⟩, ⟨mr11, mk11, mz11⟩, ⟨mr12, mk12, mz12⟩, ⟨mr13, mk13, mz13⟩, ⟨mr14, mk14, mz14⟩, ⟨mr15, mk15, mz15⟩, ⟨mr16, mk16, mz16⟩, ⟨mr17, mk17, mz17⟩, ⟨mr18, mk18, mz18⟩⟩ := hZ
  simp only [s_99_0, s_99_1, mk, mr0, mk0, mz0, mr1, mk1, mz1, mr2, mk2, mz2, mr3, mk3, mz3, mr4, mk4, mz4, mr5, mk5, mz5, mr6, mk6, mz6, mr7, mk7, mz7, mr8, mk8, mz8, mr9, mk9, mz9, mr10, mk10, mz10, mr11, mk11, mz11, mr12, mk12, mz12, mr13, mk13, mz13, mr14, mk14, mz14, mr15, mk15, mz15, mr16, mk16, mz16, mr17, mk17, mz17, mr18, mk18, mz18, va_rf_s, pk_mul, nI_add, not_false_eq_true, and_self, true_and, Option.toList_some, Option.toList_none, List.append_nil, List.cons_append, List.nil_append, nI_01, nI_11, vh_K_wI, vh_R_wI, vh_Z_wI, vh_wI_sI, vh_K_sI, vh_R_sI, vh_Z_sI, vh_sI_sI, vh_I_sI]
  refine m_workM hM (fun f' a1 a2 a3 => ?_)
  simp only [va_rf_s, pk_mul, nI_add, not_false_eq_true, and_self, true_and, Option.toList_some, Option.toList_none, List.append_nil, List.cons_append, List.nil_append, nI_01, nI_11, vh_K_wI, vh_R_wI, vh_Z_wI, vh_wI_sI, vh_K_sI, vh_R_sI, vh_Z_sI, vh_sI_sI, vh_I_sI]
  obtain ⟨ci, lv, H, t, rd, h1, h2, h3, h4, h5, h6, h7, h8⟩ := a3
  have fin := hQ f' ci lv H t rd a1 a2 ⟨h1, h8⟩
  simp only [s_99_4, s_99_5, s_99_8, mk, mr0, mk0, mz0, mr1, mk1, mz1, mr2, mk2, mz2, mr3, mk3, mz3, mr4, mk4, mz4, mr5, mk5, mz5, mr6, mk6, mz6, mr7, mk7, mz7, mr8, mk8, mz8, mr9, mk9, mz9, mr10, mk10, mz10, mr11, mk11, mz11, mr12, mk12, mz12, mr13, mk13, mz13, mr14, mk14, mz14, mr15, mk15, mz15, mr16, mk16, mz16, mr17, mk17, mz17, mr18, mk18, mz18, va_rf_s, pk_mul, nI_add, not_false_eq_true, and_self, true_and, Option.toList_some, Option.toList_none, List.append_nil, List.cons_append, List.nil_append, nI_01, nI_11, vh_K_wI, vh_R_wI, vh_Z_wI, vh_wI_sI, vh_K_sI, vh_R_sI, vh_Z_sI, vh_sI_sI, vh_I_sI, h2]
  by_cases w : cI ci < 0
  · rw [if_pos w] at fin ⊢
    simp only [s_99_21, s_99_22, s_99_25, mk, mr0, mk0, mz0, mr1, mk1, mz1, mr2, mk2, mz2, mr3, mk3, mz3, mr4, mk4, mz4, mr5, mk5, mz5, mr6, mk6, mz6, mr7, mk7, mz7, mr8, mk8, mz8, mr9, mk9, mz9, mr10, mk10, mz10, mr11, mk11, mz11, mr12, mk12, mz12, mr13, mk13, mz13, mr14, mk14, mz14, mr15, mk15, mz15, mr16, mk16, mz16, mr17, mk17, mz17, mr18, mk18, mz18, va_rf_s, pk_mul, nI_add, not_false_eq_true, and_self, true_and, Option.toList_some, Option.toList_none, List.append_nil, List.cons_append, List.nil_append, nI_01, nI_11, vh_K_wI, vh_R_wI, vh_Z_wI, vh_wI_sI, vh_K_sI, vh_R_sI, vh_Z_sI, vh_sI_sI, vh_I_sI, h6]
    exact fin
  · rw [if_neg w] at fin ⊢
    simp only [s_99_11, s_99_13, s_99_14, s_99_17, s_99_18, s_99_25, mk, mr0, mk0, mz0, mr1, mk1, mz1, mr2, mk2, mz2, mr3, mk3, mz3, mr4, mk4, mz4, mr5, mk5, mz5, mr6, mk6, mz6, mr7, mk7, mz7, mr8, mk8, mz8, mr9, mk9, mz9, mr10, mk10, mz10, mr11, mk11, mz11, mr12, mk12, mz12, mr13, mk13, mz13, mr14, mk14, mz14, mr15, mk15, mz15, mr16, mk16, mz16, mr17, mk17, mz17, mr18, mk18, mz18, va_rf_s, pk_mul, nI_add, not_false_eq_true, and_self, true_and, Option.toList_some, Option.toList_none, List.append_nil, List.cons_append, List.nil_append, nI_01, nI_11, vh_K_wI, vh_R_wI, vh_Z_wI, vh_wI_sI, vh_K_sI, vh_R_sI, vh_Z_sI, vh_sI_sI, vh_I_sI, h2]
    exact fin
theorem m_stratum_bad {n : Int32} {h : vt_H} {Q : vt_Q} (hb : n < 0 ∨ nI 16 ≤ n) (hQ : Q (some (.int (-nI 1))) h) : Wp 111 0 [.ref 129, .int n] [] h Q := by
  simp only [s_111_0, s_111_1, s_111_4, s_111_7, s_111_8, va_rf_s, pk_mul, nI_add, not_false_eq_true, and_self, true_and, Option.toList_some, Option.toList_none, List.append_nil, List.cons_append, List.nil_append, nI_01, nI_11, vh_K_wI, vh_R_wI, vh_Z_wI, vh_wI_sI, vh_K_sI, vh_R_sI, vh_Z_sI, vh_sI_sI, vh_I_sI, c_isName, jb_0]
  rw [if_neg (fun z => z (fun y => y hb))]
  exact hQ
theorem m_stratum {n c : Nat} {h : vt_H} {Q : vt_Q} {ρs : Nat → Nat → Nat} {S : Nat → Nat → Nat → Bool} (hn : n < 16) (hM : MM h ρs c S)
    (hQ : ∀ f' ci lv H t rd, FO h f' → MM (vh_sI h f') ρs c S → MDL ρs c S ci lv H t rd → Q (some (.int (if cI ci < 0 then nI (lv n) else -nI 2))) (vh_sI h f')) : Wp 111 0 [.ref 129, .int (nI n)] [] h Q := by
  have hZ := hM.1
  obtain ⟨mk, ⟨mr0, mk0, mz0⟩, ⟨mr1, mk1, mz1⟩, ⟨mr2, mk2, mz2⟩, ⟨mr3, mk3, mz3⟩, ⟨mr4, mk4, mz4⟩, ⟨mr5, mk5, mz5⟩, ⟨mr6, mk6, mz6⟩, ⟨mr7, mk7, mz7⟩, ⟨mr8, mk8, mz8⟩, ⟨mr9, mk9, mz9⟩, ⟨mr10, mk10, mz10⟩, ⟨mr11, mk11, mz11⟩, ⟨mr12, mk12, mz12⟩, ⟨mr13, mk13, mz13⟩, ⟨mr14, mk14, mz14⟩, ⟨mr15, mk15, mz15⟩, ⟨mr16, mk16, mz16⟩, ⟨mr17, mk17, mz17⟩, ⟨mr18, mk18, mz18⟩⟩ := hZ
  simp only [s_111_0, s_111_1, s_111_4, va_rf_s, pk_mul, nI_add, not_false_eq_true, and_self, true_and, Option.toList_some, Option.toList_none, List.append_nil, List.cons_append, List.nil_append, nI_01, nI_11, vh_K_wI, vh_R_wI, vh_Z_wI, vh_wI_sI, vh_K_sI, vh_R_sI, vh_Z_sI, vh_sI_sI, vh_I_sI, c_isName, jb_0]
  rw [if_pos (fun z => z (fun y => y.elim (nI_pos (by omega)) (nI_ge hn (by omega))))]
  simp only [s_111_9, s_111_10, mk, mr0, mk0, mz0, mr1, mk1, mz1, mr2, mk2, mz2, mr3, mk3, mz3, mr4, mk4, mz4, mr5, mk5, mz5, mr6, mk6, mz6, mr7, mk7, mz7, mr8, mk8, mz8, mr9, mk9, mz9, mr10, mk10, mz10, mr11, mk11, mz11, mr12, mk12, mz12, mr13, mk13, mz13, mr14, mk14, mz14, mr15, mk15, mz15, mr16, mk16, mz16, mr17, mk17, mz17, mr18, mk18, mz18, va_rf_s, pk_mul, nI_add, not_false_eq_true, and_self, true_and, Option.toList_some, Option.toList_none, List.append_nil, List.cons_append, List.nil_append, nI_01, nI_11, vh_K_wI, vh_R_wI, vh_Z_wI, vh_wI_sI, vh_K_sI, vh_R_sI, vh_Z_sI, vh_sI_sI, vh_I_sI]
  refine m_workM hM (fun f' a1 a2 a3 => ?_)
  simp only [va_rf_s, pk_mul, nI_add, not_false_eq_true, and_self, true_and, Option.toList_some, Option.toList_none, List.append_nil, List.cons_append, List.nil_append, nI_01, nI_11, vh_K_wI, vh_R_wI, vh_Z_wI, vh_wI_sI, vh_K_sI, vh_R_sI, vh_Z_sI, vh_sI_sI, vh_I_sI]
  obtain ⟨ci, lv, H, t, rd, h1, h2, h3, h4, h5, h6, h7, h8⟩ := a3
  have fin := hQ f' ci lv H t rd a1 a2 ⟨h1, h8⟩
  simp only [s_111_13, s_111_14, s_111_17, mk, mr0, mk0, mz0, mr1, mk1, mz1, mr2, mk2, mz2, mr3, mk3, mz3, mr4, mk4, mz4, mr5, mk5, mz5, mr6, mk6, mz6, mr7, mk7, mz7, mr8, mk8, mz8, mr9, mk9, mz9, mr10, mk10, mz10, mr11, mk11, mz11, mr12, mk12, mz12, mr13, mk13, mz13, mr14, mk14, mz14, mr15, mk15, mz15, mr16, mk16, mz16, mr17, mk17, mz17, mr18, mk18, mz18, va_rf_s, pk_mul, nI_add, not_false_eq_true, and_self, true_and, Option.toList_some, Option.toList_none, List.append_nil, List.cons_append, List.nil_append, nI_01, nI_11, vh_K_wI, vh_R_wI, vh_Z_wI, vh_wI_sI, vh_K_sI, vh_R_sI, vh_Z_sI, vh_sI_sI, vh_I_sI, h2]
  by_cases w : cI ci < 0
  · rw [if_pos w] at fin ⊢
    simp only [s_111_25, s_111_26, s_111_29, s_111_30, s_111_31, mk, mr0, mk0, mz0, mr1, mk1, mz1, mr2, mk2, mz2, mr3, mk3, mz3, mr4, mk4, mz4, mr5, mk5, mz5, mr6, mk6, mz6, mr7, mk7, mz7, mr8, mk8, mz8, mr9, mk9, mz9, mr10, mk10, mz10, mr11, mk11, mz11, mr12, mk12, mz12, mr13, mk13, mz13, mr14, mk14, mz14, mr15, mk15, mz15, mr16, mk16, mz16, mr17, mk17, mz17, mr18, mk18, mz18, va_rf_s, pk_mul, nI_add, not_false_eq_true, and_self, true_and, Option.toList_some, Option.toList_none, List.append_nil, List.cons_append, List.nil_append, nI_01, nI_11, vh_K_wI, vh_R_wI, vh_Z_wI, vh_wI_sI, vh_K_sI, vh_R_sI, vh_Z_sI, vh_sI_sI, vh_I_sI, cl (show n < 2 ^ 31 by omega), ib hn (show 16 ≤ 2 ^ 31 by omega), h3 n hn]
    exact fin
  · rw [if_neg w] at fin ⊢
    simp only [s_111_20, s_111_22, s_111_31]
    exact fin
theorem m_holds_bad {n a b : Int32} {h : vt_H} {Q : vt_Q} (hb : jbad n a b) (hQ : Q (some (.int (-nI 1))) h) : Wp 112 0 [.ref 129, .int n, .int a, .int b, vt_un] [] h Q := by
  unfold jbad at hb
  simp only [s_112_0, s_112_1, s_112_2, s_112_3, s_112_6, s_112_9, s_112_10, va_rf_s, pk_mul, nI_add, not_false_eq_true, and_self, true_and, Option.toList_some, Option.toList_none, List.append_nil, List.cons_append, List.nil_append, nI_01, nI_11, vh_K_wI, vh_R_wI, vh_Z_wI, vh_wI_sI, vh_K_sI, vh_R_sI, vh_Z_sI, vh_sI_sI, vh_I_sI, c_isFact, jb_0]
  rw [if_neg (fun z => z (fun y => y hb))]
  exact hQ
theorem m_holds {n a b c : Nat} {h : vt_H} {Q : vt_Q} {ρs : Nat → Nat → Nat} {S : Nat → Nat → Nat → Bool} (hn : n < 16) (ha : a < 32) (hb : b < 32) (hM : MM h ρs c S)
    (hQ : ∀ f' ci lv H t rd, FO h f' → MM (vh_sI h f') ρs c S → MDL ρs c S ci lv H t rd → Q (some (.int (if S n a b = true then nI 1 else if H n a b = true then nI 2 else nI 0))) (vh_sI h f')) : Wp 112 0 [.ref 129, .int (nI n), .int (nI a), .int (nI b), vt_un] [] h Q := by
  have hZ := hM.1
  obtain ⟨mk, ⟨mr0, mk0, mz0⟩, ⟨mr1, mk1, mz1⟩, ⟨mr2, mk2, mz2⟩, ⟨mr3, mk3, mz3⟩, ⟨mr4, mk4, mz4⟩, ⟨mr5, mk5, mz5⟩, ⟨mr6, mk6, mz6⟩, ⟨mr7, mk7, mz7⟩, ⟨mr8, mk8, mz8⟩, ⟨mr9, mk9, mz9⟩, ⟨mr10, mk10, mz10⟩, ⟨mr11, mk11, mz11⟩, ⟨mr12, mk12, mz12⟩, ⟨mr13, mk13, mz13⟩, ⟨mr14, mk14, mz14⟩, ⟨mr15, mk15, mz15⟩, ⟨mr16, mk16, mz16⟩, ⟨mr17, mk17, mz17⟩, ⟨mr18, mk18, mz18⟩⟩ := hZ
  simp only [s_112_0, s_112_1, s_112_2, s_112_3, s_112_6, va_rf_s, pk_mul, nI_add, not_false_eq_true, and_self, true_and, Option.toList_some, Option.toList_none, List.append_nil, List.cons_append, List.nil_append, nI_01, nI_11, vh_K_wI, vh_R_wI, vh_Z_wI, vh_wI_sI, vh_K_sI, vh_R_sI, vh_Z_sI, vh_sI_sI, vh_I_sI, c_isFact, jb_0]
  rw [if_pos (fun z => z (jnbad hn ha hb))]
  simp only [s_112_11, s_112_12, mk, mr0, mk0, mz0, mr1, mk1, mz1, mr2, mk2, mz2, mr3, mk3, mz3, mr4, mk4, mz4, mr5, mk5, mz5, mr6, mk6, mz6, mr7, mk7, mz7, mr8, mk8, mz8, mr9, mk9, mz9, mr10, mk10, mz10, mr11, mk11, mz11, mr12, mk12, mz12, mr13, mk13, mz13, mr14, mk14, mz14, mr15, mk15, mz15, mr16, mk16, mz16, mr17, mk17, mz17, mr18, mk18, mz18, va_rf_s, pk_mul, nI_add, not_false_eq_true, and_self, true_and, Option.toList_some, Option.toList_none, List.append_nil, List.cons_append, List.nil_append, nI_01, nI_11, vh_K_wI, vh_R_wI, vh_Z_wI, vh_wI_sI, vh_K_sI, vh_R_sI, vh_Z_sI, vh_sI_sI, vh_I_sI]
  refine m_workM hM (fun f' a1 a2 a3 => ?_)
  simp only [va_rf_s, pk_mul, nI_add, not_false_eq_true, and_self, true_and, Option.toList_some, Option.toList_none, List.append_nil, List.cons_append, List.nil_append, nI_01, nI_11, vh_K_wI, vh_R_wI, vh_Z_wI, vh_wI_sI, vh_K_sI, vh_R_sI, vh_Z_sI, vh_sI_sI, vh_I_sI]
  obtain ⟨ci, lv, H, t, rd, h1, h2, h3, h4, h5, h6, h7, h8⟩ := a3
  have fin := hQ f' ci lv H t rd a1 a2 ⟨h1, h8⟩
  have hcd : 1024 * n + 32 * a + b < 16384 := by omega
  have e0 : f' 130 (1024 * n + 32 * a + b) = if S n a b = true then nI 1 else nI 0 := by
    rw [← hc_code (H := S) (n := n) ha hb]; exact a2.2.2.1 _ hcd
  have e1 : f' 136 (1024 * n + 32 * a + b) = if H n a b = true then nI (hr rd (1024 * n + 32 * a + b)) else -nI 1 := by
    rw [← hc_code (H := H) (n := n) ha hb]; exact h4 _ hcd
  simp only [s_112_15, s_112_16, s_112_17, s_112_18, s_112_21, s_112_23, s_112_24, s_112_27, s_112_29, s_112_30, mk, mr0, mk0, mz0, mr1, mk1, mz1, mr2, mk2, mz2, mr3, mk3, mz3, mr4, mk4, mz4, mr5, mk5, mz5, mr6, mk6, mz6, mr7, mk7, mz7, mr8, mk8, mz8, mr9, mk9, mz9, mr10, mk10, mz10, mr11, mk11, mz11, mr12, mk12, mz12, mr13, mk13, mz13, mr14, mk14, mz14, mr15, mk15, mz15, mr16, mk16, mz16, mr17, mk17, mz17, mr18, mk18, mz18, va_rf_s, pk_mul, nI_add, not_false_eq_true, and_self, true_and, Option.toList_some, Option.toList_none, List.append_nil, List.cons_append, List.nil_append, nI_01, nI_11, vh_K_wI, vh_R_wI, vh_Z_wI, vh_wI_sI, vh_K_sI, vh_R_sI, vh_Z_sI, vh_sI_sI, vh_I_sI, c_code, cl (show 1024 * n + 32 * a + b < 2 ^ 31 by omega), ib hcd (show 16384 ≤ 2 ^ 31 by omega), e0]
  by_cases w : S n a b = true
  · rw [if_pos w] at fin ⊢
    rw [if_neg (by decide)]
    simp only [s_112_33, s_112_34, s_112_52]
    exact fin
  · rw [if_neg w] at fin ⊢
    rw [if_pos (by decide)]
    simp only [s_112_37, s_112_38, s_112_41, s_112_43, s_112_44, mk, mr0, mk0, mz0, mr1, mk1, mz1, mr2, mk2, mz2, mr3, mk3, mz3, mr4, mk4, mz4, mr5, mk5, mz5, mr6, mk6, mz6, mr7, mk7, mz7, mr8, mk8, mz8, mr9, mk9, mz9, mr10, mk10, mz10, mr11, mk11, mz11, mr12, mk12, mz12, mr13, mk13, mz13, mr14, mk14, mz14, mr15, mk15, mz15, mr16, mk16, mz16, mr17, mk17, mz17, mr18, mk18, mz18, va_rf_s, pk_mul, nI_add, not_false_eq_true, and_self, true_and, Option.toList_some, Option.toList_none, List.append_nil, List.cons_append, List.nil_append, nI_01, nI_11, vh_K_wI, vh_R_wI, vh_Z_wI, vh_wI_sI, vh_K_sI, vh_R_sI, vh_Z_sI, vh_sI_sI, vh_I_sI, cl (show 1024 * n + 32 * a + b < 2 ^ 31 by omega), ib hcd (show 16384 ≤ 2 ^ 31 by omega), e1]
    by_cases w2 : H n a b = true
    · rw [if_pos w2] at fin ⊢
      rw [if_neg (nI_pos (h5 _))]
      simp only [s_112_47, s_112_48, s_112_52]
      exact fin
    · rw [if_neg w2] at fin ⊢
      rw [if_pos (by decide)]
      simp only [s_112_51, s_112_52]
      exact fin
theorem m_round_bad {n a b : Int32} {h : vt_H} {Q : vt_Q} (hb : jbad n a b) (hQ : Q (some (.int (-nI 1))) h) : Wp 113 0 [.ref 129, .int n, .int a, .int b, vt_un] [] h Q := by
  unfold jbad at hb
  simp only [s_113_0, s_113_1, s_113_2, s_113_3, s_113_6, s_113_9, s_113_10, va_rf_s, pk_mul, nI_add, not_false_eq_true, and_self, true_and, Option.toList_some, Option.toList_none, List.append_nil, List.cons_append, List.nil_append, nI_01, nI_11, vh_K_wI, vh_R_wI, vh_Z_wI, vh_wI_sI, vh_K_sI, vh_R_sI, vh_Z_sI, vh_sI_sI, vh_I_sI, c_isFact, jb_0]
  rw [if_neg (fun z => z (fun y => y hb))]
  exact hQ
theorem m_round {n a b c : Nat} {h : vt_H} {Q : vt_Q} {ρs : Nat → Nat → Nat} {S : Nat → Nat → Nat → Bool} (hn : n < 16) (ha : a < 32) (hb : b < 32) (hM : MM h ρs c S)
    (hQ : ∀ f' ci lv H t rd, FO h f' → MM (vh_sI h f') ρs c S → MDL ρs c S ci lv H t rd → Q (some (.int (if H n a b = true then nI (rd n a b) else -nI 2))) (vh_sI h f')) : Wp 113 0 [.ref 129, .int (nI n), .int (nI a), .int (nI b), vt_un] [] h Q := by
  have hZ := hM.1
  obtain ⟨mk, ⟨mr0, mk0, mz0⟩, ⟨mr1, mk1, mz1⟩, ⟨mr2, mk2, mz2⟩, ⟨mr3, mk3, mz3⟩, ⟨mr4, mk4, mz4⟩, ⟨mr5, mk5, mz5⟩, ⟨mr6, mk6, mz6⟩, ⟨mr7, mk7, mz7⟩, ⟨mr8, mk8, mz8⟩, ⟨mr9, mk9, mz9⟩, ⟨mr10, mk10, mz10⟩, ⟨mr11, mk11, mz11⟩, ⟨mr12, mk12, mz12⟩, ⟨mr13, mk13, mz13⟩, ⟨mr14, mk14, mz14⟩, ⟨mr15, mk15, mz15⟩, ⟨mr16, mk16, mz16⟩, ⟨mr17, mk17, mz17⟩, ⟨mr18, mk18, mz18⟩⟩ := hZ
  simp only [s_113_0, s_113_1, s_113_2, s_113_3, s_113_6, va_rf_s, pk_mul, nI_add, not_false_eq_true, and_self, true_and, Option.toList_some, Option.toList_none, List.append_nil, List.cons_append, List.nil_append, nI_01, nI_11, vh_K_wI, vh_R_wI, vh_Z_wI, vh_wI_sI, vh_K_sI, vh_R_sI, vh_Z_sI, vh_sI_sI, vh_I_sI, c_isFact, jb_0]
  rw [if_pos (fun z => z (jnbad hn ha hb))]
  simp only [s_113_11, s_113_12, mk, mr0, mk0, mz0, mr1, mk1, mz1, mr2, mk2, mz2, mr3, mk3, mz3, mr4, mk4, mz4, mr5, mk5, mz5, mr6, mk6, mz6, mr7, mk7, mz7, mr8, mk8, mz8, mr9, mk9, mz9, mr10, mk10, mz10, mr11, mk11, mz11, mr12, mk12, mz12, mr13, mk13, mz13, mr14, mk14, mz14, mr15, mk15, mz15, mr16, mk16, mz16, mr17, mk17, mz17, mr18, mk18, mz18, va_rf_s, pk_mul, nI_add, not_false_eq_true, and_self, true_and, Option.toList_some, Option.toList_none, List.append_nil, List.cons_append, List.nil_append, nI_01, nI_11, vh_K_wI, vh_R_wI, vh_Z_wI, vh_wI_sI, vh_K_sI, vh_R_sI, vh_Z_sI, vh_sI_sI, vh_I_sI]
  refine m_workM hM (fun f' a1 a2 a3 => ?_)
  simp only [va_rf_s, pk_mul, nI_add, not_false_eq_true, and_self, true_and, Option.toList_some, Option.toList_none, List.append_nil, List.cons_append, List.nil_append, nI_01, nI_11, vh_K_wI, vh_R_wI, vh_Z_wI, vh_wI_sI, vh_K_sI, vh_R_sI, vh_Z_sI, vh_sI_sI, vh_I_sI]
  obtain ⟨ci, lv, H, t, rd, h1, h2, h3, h4, h5, h6, h7, h8⟩ := a3
  have fin := hQ f' ci lv H t rd a1 a2 ⟨h1, h8⟩
  have hcd : 1024 * n + 32 * a + b < 16384 := by omega
  have er : hr rd (1024 * n + 32 * a + b) = rd n a b := by
    unfold hr
    rw [cd_1 ha hb, cd_2 ha hb, cd_3 ha hb]
  have e1 : f' 136 (1024 * n + 32 * a + b) = if H n a b = true then nI (rd n a b) else -nI 1 := by
    rw [← hc_code (H := H) (n := n) ha hb, ← er]; exact h4 _ hcd
  simp only [s_113_15, s_113_16, s_113_17, s_113_18, s_113_21, s_113_23, s_113_24, s_113_27, s_113_29, s_113_30, mk, mr0, mk0, mz0, mr1, mk1, mz1, mr2, mk2, mz2, mr3, mk3, mz3, mr4, mk4, mz4, mr5, mk5, mz5, mr6, mk6, mz6, mr7, mk7, mz7, mr8, mk8, mz8, mr9, mk9, mz9, mr10, mk10, mz10, mr11, mk11, mz11, mr12, mk12, mz12, mr13, mk13, mz13, mr14, mk14, mz14, mr15, mk15, mz15, mr16, mk16, mz16, mr17, mk17, mz17, mr18, mk18, mz18, va_rf_s, pk_mul, nI_add, not_false_eq_true, and_self, true_and, Option.toList_some, Option.toList_none, List.append_nil, List.cons_append, List.nil_append, nI_01, nI_11, vh_K_wI, vh_R_wI, vh_Z_wI, vh_wI_sI, vh_K_sI, vh_R_sI, vh_Z_sI, vh_sI_sI, vh_I_sI, c_code, cl (show 1024 * n + 32 * a + b < 2 ^ 31 by omega), ib hcd (show 16384 ≤ 2 ^ 31 by omega), e1]
  by_cases w2 : H n a b = true
  · rw [if_pos w2] at fin e1 ⊢
    have := h5 (1024 * n + 32 * a + b)
    rw [er] at this
    rw [if_neg (nI_pos this)]
    simp only [s_113_33, s_113_34, s_113_37, s_113_39, s_113_40, s_113_45, mk, mr0, mk0, mz0, mr1, mk1, mz1, mr2, mk2, mz2, mr3, mk3, mz3, mr4, mk4, mz4, mr5, mk5, mz5, mr6, mk6, mz6, mr7, mk7, mz7, mr8, mk8, mz8, mr9, mk9, mz9, mr10, mk10, mz10, mr11, mk11, mz11, mr12, mk12, mz12, mr13, mk13, mz13, mr14, mk14, mz14, mr15, mk15, mz15, mr16, mk16, mz16, mr17, mk17, mz17, mr18, mk18, mz18, va_rf_s, pk_mul, nI_add, not_false_eq_true, and_self, true_and, Option.toList_some, Option.toList_none, List.append_nil, List.cons_append, List.nil_append, nI_01, nI_11, vh_K_wI, vh_R_wI, vh_Z_wI, vh_wI_sI, vh_K_sI, vh_R_sI, vh_Z_sI, vh_sI_sI, vh_I_sI, cl (show 1024 * n + 32 * a + b < 2 ^ 31 by omega), ib hcd (show 16384 ≤ 2 ^ 31 by omega), e1]
    exact fin
  · rw [if_neg w2] at fin ⊢
    rw [if_pos (by decide)]
    simp only [s_113_43, s_113_45]
    exact fin
theorem m_counts_bad {n a b : Int32} {h : vt_H} {Q : vt_Q} (hb : jbad n a b) (hQ : Q (some (.int (-nI 1))) h) : Wp 114 0 [.ref 129, .int n, .int a, .int b] [] h Q := by
  unfold jbad at hb
  simp only [s_114_0, s_114_1, s_114_2, s_114_3, s_114_6, s_114_9, s_114_10, va_rf_s, pk_mul, nI_add, not_false_eq_true, and_self, true_and, Option.toList_some, Option.toList_none, List.append_nil, List.cons_append, List.nil_append, nI_01, nI_11, vh_K_wI, vh_R_wI, vh_Z_wI, vh_wI_sI, vh_K_sI, vh_R_sI, vh_Z_sI, vh_sI_sI, vh_I_sI, c_isFact, jb_0]
  rw [if_neg (fun z => z (fun y => y hb))]
  exact hQ
theorem CN_CK {ρs : Nat → Nat → Nat} {H : Nat → Nat → Nat → Bool} {n a b c : Nat} (ha : a < 32) (hb : b < 32) (hok : ∀ i, i < c → okR (ρs i)) : CN ρs H c (1024 * n + 32 * a + b) = CK ρs H n a b c := by
  unfold CN CK
  refine sg_congr (fun i hi => ?_)
  show bi (sf (ρs i)) * cnT (hc H) (ρs i) (1024 * n + 32 * a + b) = bi (ρs i 0 = n ∧ sf (ρs i)) * TG H (ρs i) a b
  unfold cnT
  rw [cd_1 ha hb, cd_2 ha hb, cd_3 ha hb]
  by_cases w : n = ρs i 0
  · rw [if_pos w, TG_c (P' := H) (hok i hi) (fun n a b _ ha hb => hc_code ha hb)]
    by_cases w2 : sf (ρs i)
    · rw [bi_t w2, bi_t ⟨w.symm, w2⟩]
    · rw [bi_f w2, bi_f (fun z => w2 z.2)]
  · rw [if_neg w, bi_f (p := ρs i 0 = n ∧ sf (ρs i)) (fun z => w z.1.symm), Nat.mul_zero, Nat.zero_mul]
theorem cI_16 {ci : Nat} (h : ci ≤ 16) : cI ci < 0 ↔ ci = 16 := by
  constructor
  · intro z
    refine Classical.byContradiction (fun y => ?_)
    rw [show cI ci = nI ci from if_neg y] at z
    exact nI_pos (by omega) z
  · intro z
    rw [z]; decide
theorem SX_16 {ρs : Nat → Nat → Nat} {c ci : Nat} {lv : Nat → Nat} (h : SX ρs c ci lv) : ci ≤ 16 := by rcases h.1 with w | w <;> omega
theorem m_counts {n a b c : Nat} {h : vt_H} {Q : vt_Q} {ρs : Nat → Nat → Nat} {S : Nat → Nat → Nat → Bool} (hn : n < 16) (ha : a < 32) (hb : b < 32) (hM : MM h ρs c S)
    (hQ : ∀ f' ci lv H t rd, FO h f' → MM (vh_sI h f') ρs c S → MDL ρs c S ci lv H t rd → Q (some (.int (if cI ci < 0 then nI (CK ρs H n a b c) else nI 0))) (vh_sI h f')) : Wp 114 0 [.ref 129, .int (nI n), .int (nI a), .int (nI b)] [] h Q := by
  have hZ := hM.1
  obtain ⟨mk, ⟨mr0, mk0, mz0⟩, ⟨mr1, mk1, mz1⟩, ⟨mr2, mk2, mz2⟩, ⟨mr3, mk3, mz3⟩, ⟨mr4, mk4, mz4⟩, ⟨mr5, mk5, mz5⟩, ⟨mr6, mk6, mz6⟩, ⟨mr7, mk7, mz7⟩, ⟨mr8, mk8, mz8⟩, ⟨mr9, mk9, mz9⟩, ⟨mr10, mk10, mz10⟩, ⟨mr11, mk11, mz11⟩, ⟨mr12, mk12, mz12⟩, ⟨mr13, mk13, mz13⟩, ⟨mr14, mk14, mz14⟩, ⟨mr15, mk15, mz15⟩, ⟨mr16, mk16, mz16⟩, ⟨mr17, mk17, mz17⟩, ⟨mr18, mk18, mz18⟩⟩ := hZ
  simp only [s_114_0, s_114_1, s_114_2, s_114_3, s_114_6, va_rf_s, pk_mul, nI_add, not_false_eq_true, and_self, true_and, Option.toList_some, Option.toList_none, List.append_nil, List.cons_append, List.nil_append, nI_01, nI_11, vh_K_wI, vh_R_wI, vh_Z_wI, vh_wI_sI, vh_K_sI, vh_R_sI, vh_Z_sI, vh_sI_sI, vh_I_sI, c_isFact, jb_0]
  rw [if_pos (fun z => z (jnbad hn ha hb))]
  simp only [s_114_11, s_114_12, mk, mr0, mk0, mz0, mr1, mk1, mz1, mr2, mk2, mz2, mr3, mk3, mz3, mr4, mk4, mz4, mr5, mk5, mz5, mr6, mk6, mz6, mr7, mk7, mz7, mr8, mk8, mz8, mr9, mk9, mz9, mr10, mk10, mz10, mr11, mk11, mz11, mr12, mk12, mz12, mr13, mk13, mz13, mr14, mk14, mz14, mr15, mk15, mz15, mr16, mk16, mz16, mr17, mk17, mz17, mr18, mk18, mz18, va_rf_s, pk_mul, nI_add, not_false_eq_true, and_self, true_and, Option.toList_some, Option.toList_none, List.append_nil, List.cons_append, List.nil_append, nI_01, nI_11, vh_K_wI, vh_R_wI, vh_Z_wI, vh_wI_sI, vh_K_sI, vh_R_sI, vh_Z_sI, vh_sI_sI, vh_I_sI]
  refine m_workM hM (fun f' a1 a2 a3 => ?_)
  simp only [va_rf_s, pk_mul, nI_add, not_false_eq_true, and_self, true_and, Option.toList_some, Option.toList_none, List.append_nil, List.cons_append, List.nil_append, nI_01, nI_11, vh_K_wI, vh_R_wI, vh_Z_wI, vh_wI_sI, vh_K_sI, vh_R_sI, vh_Z_sI, vh_sI_sI, vh_I_sI]
  obtain ⟨ci, lv, H, t, rd, h1, h2, h3, h4, h5, h6, h7, h8⟩ := a3
  have fin := hQ f' ci lv H t rd a1 a2 ⟨h1, h8⟩
  have hcd : 1024 * n + 32 * a + b < 16384 := by omega
  have e1 : f' 137 (1024 * n + 32 * a + b) = if cI ci < 0 then nI (CK ρs H n a b c) else nI 0 := by
    rw [h7 _ hcd, CN_CK ha hb (fun i hi => (a2.2.1.2.2 i hi).1)]
    by_cases w : ci = 16
    · rw [if_pos w, if_pos ((cI_16 (SX_16 h1)).mpr w)]
    · rw [if_neg w, if_neg (fun z => w ((cI_16 (SX_16 h1)).mp z))]
  simp only [s_114_15, s_114_16, s_114_19, s_114_20, s_114_21, s_114_22, s_114_25, s_114_26, mk, mr0, mk0, mz0, mr1, mk1, mz1, mr2, mk2, mz2, mr3, mk3, mz3, mr4, mk4, mz4, mr5, mk5, mz5, mr6, mk6, mz6, mr7, mk7, mz7, mr8, mk8, mz8, mr9, mk9, mz9, mr10, mk10, mz10, mr11, mk11, mz11, mr12, mk12, mz12, mr13, mk13, mz13, mr14, mk14, mz14, mr15, mk15, mz15, mr16, mk16, mz16, mr17, mk17, mz17, mr18, mk18, mz18, va_rf_s, pk_mul, nI_add, not_false_eq_true, and_self, true_and, Option.toList_some, Option.toList_none, List.append_nil, List.cons_append, List.nil_append, nI_01, nI_11, vh_K_wI, vh_R_wI, vh_Z_wI, vh_wI_sI, vh_K_sI, vh_R_sI, vh_Z_sI, vh_sI_sI, vh_I_sI, c_code, cl (show 1024 * n + 32 * a + b < 2 ^ 31 by omega), ib hcd (show 16384 ≤ 2 ^ 31 by omega), e1]
  exact fin
theorem l_mrow {k : Nat} {n : Int32} {f : Nat → Nat → Int32} {h : vt_H} {Q : vt_Q} {H : Nat → Nat → Nat → Bool} {rc : Nat → Nat} (hM : MZ h) (h4 : ∀ x, x < 16384 → f 136 x = if hc H x = true then nI (rc x) else -nI 1) (h5 : ∀ x, rc x < 2 ^ 31) (hQ : ∀ v, RWV H k v → Q (some (.int v)) (vh_sI h f)) :
    ∀ (m i : Nat), i + m = 16384 → k ≤ i → (∀ y, k ≤ y → y < i → ¬ hc H y = true) → Wp 115 26 [.ref 129, .int n, .int (nI i)] [] (vh_sI h f) Q := by
  obtain ⟨mk, ⟨mr0, mk0, mz0⟩, ⟨mr1, mk1, mz1⟩, ⟨mr2, mk2, mz2⟩, ⟨mr3, mk3, mz3⟩, ⟨mr4, mk4, mz4⟩, ⟨mr5, mk5, mz5⟩, ⟨mr6, mk6, mz6⟩, ⟨mr7, mk7, mz7⟩, ⟨mr8, mk8, mz8⟩, ⟨mr9, mk9, mz9⟩, ⟨mr10, mk10, mz10⟩, ⟨mr11, mk11, mz11⟩, ⟨mr12, mk12, mz12⟩, ⟨mr13, mk13, mz13⟩, ⟨mr14, mk14, mz14⟩, ⟨mr15, mk15, mz15⟩, ⟨mr16, mk16, mz16⟩, ⟨mr17, mk17, mz17⟩, ⟨mr18, mk18, mz18⟩⟩ := hM
  intro m
  induction m with
  | zero =>
    intro i hi h1 h2
    have : i = 16384 := by omega
    subst this
    simp only [s_115_26, s_115_27, s_115_30, if_pos (nI_le (Nat.le_refl 16384) (show 16384 < 2 ^ 31 by omega))]
    simp only [s_115_48, s_115_49, s_115_52, if_pos (nI_le (Nat.le_refl 16384) (show 16384 < 2 ^ 31 by omega))]
    simp only [s_115_59, s_115_61]
    exact hQ _ (Or.inr ⟨h2, rfl⟩)
  | succ m ih =>
    intro i hi h1 h2
    have hlt : i < 16384 := by omega
    simp only [s_115_26, s_115_27, s_115_30, if_neg (nI_ge hlt (show 16384 < 2 ^ 31 by omega))]
    simp only [s_115_33, s_115_34, s_115_37, s_115_38, s_115_39, mk, mr0, mk0, mz0, mr1, mk1, mz1, mr2, mk2, mz2, mr3, mk3, mz3, mr4, mk4, mz4, mr5, mk5, mz5, mr6, mk6, mz6, mr7, mk7, mz7, mr8, mk8, mz8, mr9, mk9, mz9, mr10, mk10, mz10, mr11, mk11, mz11, mr12, mk12, mz12, mr13, mk13, mz13, mr14, mk14, mz14, mr15, mk15, mz15, mr16, mk16, mz16, mr17, mk17, mz17, mr18, mk18, mz18, va_rf_s, pk_mul, nI_add, not_false_eq_true, and_self, true_and, Option.toList_some, Option.toList_none, List.append_nil, List.cons_append, List.nil_append, nI_01, nI_11, vh_K_wI, vh_R_wI, vh_Z_wI, vh_wI_sI, vh_K_sI, vh_R_sI, vh_Z_sI, vh_sI_sI, vh_I_sI, cl (show i < 2 ^ 31 by omega), ib hlt (show 16384 ≤ 2 ^ 31 by omega), h4 i hlt]
    by_cases w : hc H i = true
    · rw [if_pos w, if_pos (Int32.not_lt.mp (nI_pos (h5 i)))]
      simp only [s_115_48, s_115_49, s_115_52, if_neg (nI_ge hlt (show 16384 < 2 ^ 31 by omega))]
      simp only [s_115_55, s_115_56, s_115_61]
      exact hQ _ (Or.inl ⟨i, h1, hlt, w, h2, rfl⟩)
    · rw [if_neg w, if_neg (by decide)]
      simp only [s_115_42, s_115_45, va_rf_s, pk_mul, nI_add, not_false_eq_true, and_self, true_and, Option.toList_some, Option.toList_none, List.append_nil, List.cons_append, List.nil_append, nI_01, nI_11, vh_K_wI, vh_R_wI, vh_Z_wI, vh_wI_sI, vh_K_sI, vh_R_sI, vh_Z_sI, vh_sI_sI, vh_I_sI]
      refine ih (i + 1) (by omega) (by omega) (fun y y1 y2 => ?_)
      by_cases e : y = i
      · rw [e]; exact w
      · exact h2 y y1 (by omega)
theorem m_row {c : Nat} {n : Int32} {h : vt_H} {Q : vt_Q} {ρs : Nat → Nat → Nat} {S : Nat → Nat → Nat → Bool} (hM : MM h ρs c S)
    (hQ : ∀ f' ci lv H t rd v, FO h f' → MM (vh_sI h f') ρs c S → MDL ρs c S ci lv H t rd → (∀ k, n < nI 16383 → k < 16384 → rwk n = nI k → RWV H k v) → (¬ n < nI 16383 → v = -nI 2) → Q (some (.int v)) (vh_sI h f')) : Wp 115 0 [.ref 129, .int n, vt_un] [] h Q := by
  have hM' := hM
  have hZ := hM.1
  obtain ⟨mk, ⟨mr0, mk0, mz0⟩, ⟨mr1, mk1, mz1⟩, ⟨mr2, mk2, mz2⟩, ⟨mr3, mk3, mz3⟩, ⟨mr4, mk4, mz4⟩, ⟨mr5, mk5, mz5⟩, ⟨mr6, mk6, mz6⟩, ⟨mr7, mk7, mz7⟩, ⟨mr8, mk8, mz8⟩, ⟨mr9, mk9, mz9⟩, ⟨mr10, mk10, mz10⟩, ⟨mr11, mk11, mz11⟩, ⟨mr12, mk12, mz12⟩, ⟨mr13, mk13, mz13⟩, ⟨mr14, mk14, mz14⟩, ⟨mr15, mk15, mz15⟩, ⟨mr16, mk16, mz16⟩, ⟨mr17, mk17, mz17⟩, ⟨mr18, mk18, mz18⟩⟩ := hZ
  simp only [s_115_0, s_115_1, mk, mr0, mk0, mz0, mr1, mk1, mz1, mr2, mk2, mz2, mr3, mk3, mz3, mr4, mk4, mz4, mr5, mk5, mz5, mr6, mk6, mz6, mr7, mk7, mz7, mr8, mk8, mz8, mr9, mk9, mz9, mr10, mk10, mz10, mr11, mk11, mz11, mr12, mk12, mz12, mr13, mk13, mz13, mr14, mk14, mz14, mr15, mk15, mz15, mr16, mk16, mz16, mr17, mk17, mz17, mr18, mk18, mz18, va_rf_s, pk_mul, nI_add, not_false_eq_true, and_self, true_and, Option.toList_some, Option.toList_none, List.append_nil, List.cons_append, List.nil_append, nI_01, nI_11, vh_K_wI, vh_R_wI, vh_Z_wI, vh_wI_sI, vh_K_sI, vh_R_sI, vh_Z_sI, vh_sI_sI, vh_I_sI]
  refine m_workM hM (fun f' a1 a2 a3 => ?_)
  simp only [va_rf_s, pk_mul, nI_add, not_false_eq_true, and_self, true_and, Option.toList_some, Option.toList_none, List.append_nil, List.cons_append, List.nil_append, nI_01, nI_11, vh_K_wI, vh_R_wI, vh_Z_wI, vh_wI_sI, vh_K_sI, vh_R_sI, vh_Z_sI, vh_sI_sI, vh_I_sI]
  obtain ⟨ci, lv, H, t, rd, h1, h2, h3, h4, h5, h6, h7, h8⟩ := a3
  simp only [s_115_4, s_115_5, s_115_8]
  by_cases w : n < nI 16384
  · rw [if_pos w]
    have w3 : n < nI 16383 ∨ n = nI 16383 := by
      by_cases z : n < 0
      · exact Or.inl (Int32.lt_trans z (by decide))
      · obtain ⟨k, k1, k2⟩ := jrng (x := n) (N := 16384) (by omega) (fun y => y.elim z (fun y => absurd w (Int32.not_lt.mpr y)))
        by_cases e : k = 16383
        · exact Or.inr (by rw [k2, e])
        · refine Or.inl (Int32.not_le.mp (fun y => nI_ge (show k < 16383 by omega) (by omega) ?_))
          rw [← k2]; exact y
    have hk : ∃ k, k ≤ 16384 ∧ rwk n = nI k := by
      rcases w3 with z | z
      · obtain ⟨k, k1, k2⟩ := rwk_n z
        exact ⟨k, by omega, k2⟩
      · exact ⟨16384, by omega, by rw [z]; decide⟩
    obtain ⟨k, k1, k2⟩ := hk
    have fin : Wp 115 25 [.ref 129, .int n, vt_un] [.int (rwk n)] (vh_sI h f') Q := by
      rw [k2]
      simp only [s_115_25]
      refine l_mrow (k := k) (H := H) (rc := hr rd) hM'.1 h4 h5 (fun v hv => hQ f' ci lv H t rd v a1 a2 ⟨h1, h8⟩ (fun k' _ z2 z3 => ?_) (fun z => ?_)) (16384 - k) k (by omega) (Nat.le_refl _) (fun y y1 y2 => absurd y2 (by omega))
      · have : k' = k := (nI_eq (by omega) (by omega)).mp (z3.symm.trans k2)
        rw [this]; exact hv
      · have e := w3.resolve_left z
        have : k = 16384 := by
          rw [e] at k2
          exact (nI_eq (by omega) (by omega)).mp (k2.symm.trans (by decide))
        rw [this] at hv
        rcases hv with ⟨x, x1, x2, _⟩ | ⟨_, x2⟩
        · omega
        · exact x2
    simp only [s_115_14, s_115_15]
    by_cases w2 : 0 ≤ n
    · rw [if_pos w2]
      rw [show rwk n = n + nI 1 from if_pos w2] at fin
      simp only [s_115_22, s_115_23, s_115_24]
      exact fin
    · rw [if_neg w2]
      rw [show rwk n = nI 0 from if_neg w2] at fin
      simp only [s_115_18, s_115_19]
      exact fin
  · rw [if_neg w]
    simp only [s_115_11, s_115_13]
    exact hQ f' ci lv H t rd _ a1 a2 ⟨h1, h8⟩ (fun k z => absurd (Int32.lt_trans z (by decide)) w) (fun _ => rfl)
theorem l_msize {f : Nat → Nat → Int32} {h : vt_H} {Q : vt_Q} {H : Nat → Nat → Nat → Bool} {rc : Nat → Nat} (hM : MZ h) (h4 : ∀ x, x < 16384 → f 136 x = if hc H x = true then nI (rc x) else -nI 1) (h5 : ∀ x, rc x < 2 ^ 31) (hQ : Q (some (.int (nI (cF H)))) (vh_sI h f)) :
    ∀ (m i : Nat), i + m = 16384 → Wp 116 8 [.ref 129, .int (nI (sg_S (fun x => if hc H x = true then 1 else 0) i)), .int (nI i)] [] (vh_sI h f) Q := by
  obtain ⟨mk, ⟨mr0, mk0, mz0⟩, ⟨mr1, mk1, mz1⟩, ⟨mr2, mk2, mz2⟩, ⟨mr3, mk3, mz3⟩, ⟨mr4, mk4, mz4⟩, ⟨mr5, mk5, mz5⟩, ⟨mr6, mk6, mz6⟩, ⟨mr7, mk7, mz7⟩, ⟨mr8, mk8, mz8⟩, ⟨mr9, mk9, mz9⟩, ⟨mr10, mk10, mz10⟩, ⟨mr11, mk11, mz11⟩, ⟨mr12, mk12, mz12⟩, ⟨mr13, mk13, mz13⟩, ⟨mr14, mk14, mz14⟩, ⟨mr15, mk15, mz15⟩, ⟨mr16, mk16, mz16⟩, ⟨mr17, mk17, mz17⟩, ⟨mr18, mk18, mz18⟩⟩ := hM
  intro m
  induction m with
  | zero =>
    intro i hi
    have : i = 16384 := by omega
    subst this
    simp only [s_116_8, s_116_9, s_116_12, if_pos (nI_le (Nat.le_refl 16384) (show 16384 < 2 ^ 31 by omega))]
    simp only [s_116_38, s_116_39]
    exact hQ
  | succ m ih =>
    intro i hi
    have hlt : i < 16384 := by omega
    have := ih (i + 1) (by omega)
    rw [sg_succ (fun x => if hc H x = true then 1 else 0) i] at this
    simp only [s_116_8, s_116_9, s_116_12, if_neg (nI_ge hlt (show 16384 < 2 ^ 31 by omega))]
    simp only [s_116_15, s_116_16, s_116_17, s_116_20, s_116_21, s_116_22, mk, mr0, mk0, mz0, mr1, mk1, mz1, mr2, mk2, mz2, mr3, mk3, mz3, mr4, mk4, mz4, mr5, mk5, mz5, mr6, mk6, mz6, mr7, mk7, mz7, mr8, mk8, mz8, mr9, mk9, mz9, mr10, mk10, mz10, mr11, mk11, mz11, mr12, mk12, mz12, mr13, mk13, mz13, mr14, mk14, mz14, mr15, mk15, mz15, mr16, mk16, mz16, mr17, mk17, mz17, mr18, mk18, mz18, va_rf_s, pk_mul, nI_add, not_false_eq_true, and_self, true_and, Option.toList_some, Option.toList_none, List.append_nil, List.cons_append, List.nil_append, nI_01, nI_11, vh_K_wI, vh_R_wI, vh_Z_wI, vh_wI_sI, vh_K_sI, vh_R_sI, vh_Z_sI, vh_sI_sI, vh_I_sI, cl (show i < 2 ^ 31 by omega), ib hlt (show 16384 ≤ 2 ^ 31 by omega), h4 i hlt]
    by_cases w : hc H i = true
    · rw [if_pos w] at this
      rw [if_pos w, if_neg (nI_pos (h5 i))]
      simp only [s_116_25, s_116_26, s_116_30, s_116_31, s_116_32, s_116_35, va_rf_s, pk_mul, nI_add, not_false_eq_true, and_self, true_and, Option.toList_some, Option.toList_none, List.append_nil, List.cons_append, List.nil_append, nI_01, nI_11, vh_K_wI, vh_R_wI, vh_Z_wI, vh_wI_sI, vh_K_sI, vh_R_sI, vh_Z_sI, vh_sI_sI, vh_I_sI]
      exact this
    · rw [if_neg w] at this
      rw [if_neg w, if_pos (by decide)]
      simp only [s_116_29, s_116_30, s_116_31, s_116_32, s_116_35, va_rf_s, pk_mul, nI_add, not_false_eq_true, and_self, true_and, Option.toList_some, Option.toList_none, List.append_nil, List.cons_append, List.nil_append, nI_01, nI_11, vh_K_wI, vh_R_wI, vh_Z_wI, vh_wI_sI, vh_K_sI, vh_R_sI, vh_Z_sI, vh_sI_sI, vh_I_sI]
      exact this
theorem m_size {c : Nat} {h : vt_H} {Q : vt_Q} {ρs : Nat → Nat → Nat} {S : Nat → Nat → Nat → Bool} (hM : MM h ρs c S)
    (hQ : ∀ f' ci lv H t rd, FO h f' → MM (vh_sI h f') ρs c S → MDL ρs c S ci lv H t rd → Q (some (.int (nI (cF H)))) (vh_sI h f')) : Wp 116 0 [.ref 129, vt_un, vt_un] [] h Q := by
  have hM' := hM
  have hZ := hM.1
  obtain ⟨mk, ⟨mr0, mk0, mz0⟩, ⟨mr1, mk1, mz1⟩, ⟨mr2, mk2, mz2⟩, ⟨mr3, mk3, mz3⟩, ⟨mr4, mk4, mz4⟩, ⟨mr5, mk5, mz5⟩, ⟨mr6, mk6, mz6⟩, ⟨mr7, mk7, mz7⟩, ⟨mr8, mk8, mz8⟩, ⟨mr9, mk9, mz9⟩, ⟨mr10, mk10, mz10⟩, ⟨mr11, mk11, mz11⟩, ⟨mr12, mk12, mz12⟩, ⟨mr13, mk13, mz13⟩, ⟨mr14, mk14, mz14⟩, ⟨mr15, mk15, mz15⟩, ⟨mr16, mk16, mz16⟩, ⟨mr17, mk17, mz17⟩, ⟨mr18, mk18, mz18⟩⟩ := hZ
  simp only [s_116_0, s_116_1, mk, mr0, mk0, mz0, mr1, mk1, mz1, mr2, mk2, mz2, mr3, mk3, mz3, mr4, mk4, mz4, mr5, mk5, mz5, mr6, mk6, mz6, mr7, mk7, mz7, mr8, mk8, mz8, mr9, mk9, mz9, mr10, mk10, mz10, mr11, mk11, mz11, mr12, mk12, mz12, mr13, mk13, mz13, mr14, mk14, mz14, mr15, mk15, mz15, mr16, mk16, mz16, mr17, mk17, mz17, mr18, mk18, mz18, va_rf_s, pk_mul, nI_add, not_false_eq_true, and_self, true_and, Option.toList_some, Option.toList_none, List.append_nil, List.cons_append, List.nil_append, nI_01, nI_11, vh_K_wI, vh_R_wI, vh_Z_wI, vh_wI_sI, vh_K_sI, vh_R_sI, vh_Z_sI, vh_sI_sI, vh_I_sI]
  refine m_workM hM (fun f' a1 a2 a3 => ?_)
  simp only [va_rf_s, pk_mul, nI_add, not_false_eq_true, and_self, true_and, Option.toList_some, Option.toList_none, List.append_nil, List.cons_append, List.nil_append, nI_01, nI_11, vh_K_wI, vh_R_wI, vh_Z_wI, vh_wI_sI, vh_K_sI, vh_R_sI, vh_Z_sI, vh_sI_sI, vh_I_sI]
  obtain ⟨ci, lv, H, t, rd, h1, h2, h3, h4, h5, h6, h7, h8⟩ := a3
  simp only [s_116_4, s_116_5, s_116_6, s_116_7]
  exact l_msize hM'.1 h4 h5 (hQ f' ci lv H t rd a1 a2 ⟨h1, h8⟩) 16384 0 (by omega)

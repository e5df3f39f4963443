-- ===== the law: body, the loop, the whole =====
theorem law_body {i L U c : Nat} {xs : Nat → Int32} {h : vt_H} {Q : vt_Q} {ρs : Nat → Nat → Nat} {S : Nat → Nat → Nat → Bool} (hI : INV h U ρs c S xs L) (hi : i + 6 ≤ L) (hL : L ≤ 3072) (go : ∀ h' ρs' c' S', INV h' U ρs' c' S' xs L → Wp 0 659 [vt_sc, .ref 0, .ref 129, .int (nI i)] [] h' Q) : Wp 0 237 [vt_sc, .ref 0, .ref 129, .int (nI i)] [] h Q := by
  have hI' := hI
  obtain ⟨hC, hM, hX, hLn⟩ := hI
  have k0 := (CC_EN hC).1.1
  have hc := (CC_EN hC).2.2.1
  have c16 := (CC_EN hC).2.2.2
  have k9 := hM.1.1
  obtain ⟨t, ht⟩ : ∃ t, t = if xs (i + 5) = 0 then nI 0 else nI 1 := ⟨_, rfl⟩
  have ref : ∀ (v : Int32) (h1 : vt_H), vh_X h1 = xs → vh_L h1 = L → vh_K h1 129 = 106 → Wp 90 0 [.ref 129, .int (xs (i + 1)), .int (xs (i + 2)), .int (xs (i + 3)), .int (xs (i + 4)), .int t] [] h1 (fun v' h' => Wp 0 311 [vt_sc, .ref 0, .ref 129, .int (nI i)] (v'.toList ++ [.int v]) h' Q) → Wp 0 274 [vt_sc, .ref 0, .ref 129, .int (nI i)] [.int v] h1 Q := by
    intro v h1 e1 e2 e3 z
    simp only [s_0_274, s_0_275, s_0_276, s_0_277, s_0_278, s_0_279, s_0_280, s_0_281, s_0_282, s_0_283, s_0_284, s_0_285, s_0_286, s_0_287, s_0_288, s_0_289, s_0_290, s_0_291, s_0_292, s_0_293, s_0_294, s_0_295, s_0_296, s_0_297, s_0_298, s_0_299, s_0_300, nI_add, e1, e2, e3, cl (show i + 1 < 2 ^ 31 by omega), ib (show i + 1 < L by omega) (show L ≤ 2 ^ 31 by omega), cl (show i + 2 < 2 ^ 31 by omega), ib (show i + 2 < L by omega) (show L ≤ 2 ^ 31 by omega), cl (show i + 3 < 2 ^ 31 by omega), ib (show i + 3 < L by omega) (show L ≤ 2 ^ 31 by omega), cl (show i + 4 < 2 ^ 31 by omega), ib (show i + 4 < L by omega) (show L ≤ 2 ^ 31 by omega), cl (show i + 5 < 2 ^ 31 by omega), ib (show i + 5 < L by omega) (show L ≤ 2 ^ 31 by omega), not_false_eq_true, true_and]
    by_cases e : xs (i + 5) = 0
    · rw [if_pos e] at ht ⊢
      rw [ht] at z
      simp only [s_0_307, s_0_308, e3, nI_01, true_and, and_self]
      exact z
    · rw [if_neg e] at ht ⊢
      rw [ht] at z
      simp only [s_0_303, s_0_304, s_0_308, e3, nI_11, true_and, and_self]
      exact z
  have fin : ∀ (v : Int32) h' ρs' c' S', INV h' U ρs' c' S' xs L → Wp 0 311 [vt_sc, .ref 0, .ref 129, .int (nI i)] [.int v, .int v] h' Q := by
    intro v h' ρs' c' S' z
    simp only [s_0_311, if_true]
    exact go h' ρs' c' S' z
  have main : Wp 18 0 [.ref 0, .int (xs (i + 1)), .int (xs (i + 2)), .int (xs (i + 3)), .int (xs (i + 4)), .int t] [] h (fun v h' => Wp 0 274 [vt_sc, .ref 0, .ref 129, .int (nI i)] (v.toList ++ []) h' Q) := by
    by_cases hb : (xs (i + 2) < 0 ∨ nI 16 ≤ xs (i + 2)) ∨ jbadP (nI c) (xs (i + 1)) (xs (i + 3)) (xs (i + 4))
    · refine k_body_bad hC hb ?_
      simp only [Option.toList_some, List.append_nil, List.cons_append, List.nil_append]
      refine ref _ _ hX hLn k9 ?_
      refine r_body_bad hM hb ?_
      simp only [Option.toList_some, List.append_nil, List.cons_append, List.nil_append]
      exact fin _ _ _ _ _ hI'
    · obtain ⟨n, hn, e2⟩ := jrng (x := xs (i + 2)) (N := 16) (by omega) (fun z => hb (Or.inl z))
      obtain ⟨r, hr, e1⟩ := jrng (x := xs (i + 1)) (N := c) (by omega) (fun z => hb (Or.inr (Or.inl z)))
      obtain ⟨x, hx, e3⟩ := jI_of (x := xs (i + 3)) (fun z => hb (Or.inr (Or.inr (Or.inl z))))
      obtain ⟨y, hy, e4⟩ := jI_of (x := xs (i + 4)) (fun z => hb (Or.inr (Or.inr (Or.inr z))))
      rw [e1, e2, e3, e4] at ref ⊢
      refine k_body hr hn hx hy hC (fun w => ?_) (fun w h1 C1 F1 => ?_)
      · simp only [Option.toList_some, List.append_nil, List.cons_append, List.nil_append]
        refine ref _ _ hX hLn k9 ?_
        refine r_body hr hn hx hy hM (fun _ => ?_) (fun w' => absurd w' (by omega))
        simp only [Option.toList_some, List.append_nil, List.cons_append, List.nil_append]
        exact fin _ _ _ _ _ hI'
      · simp only [Option.toList_some, List.append_nil, List.cons_append, List.nil_append]
        refine ref _ h1 (F1.2.1.trans hX) (F1.2.2.trans hLn) (MM_FX hM F1).1.1 ?_
        refine r_body hr hn hx hy (MM_FX hM F1) (fun w' => absurd w' (by omega)) (fun _ f' fo m2 => ?_)
        simp only [Option.toList_some, List.append_nil, List.cons_append, List.nil_append]
        exact fin _ _ _ _ _ ⟨CC_out C1 fo, m2, F1.2.1.trans hX, F1.2.2.trans hLn⟩
  simp only [s_0_237, s_0_238, s_0_239, s_0_240, s_0_241, s_0_242, s_0_243, s_0_244, s_0_245, s_0_246, s_0_247, s_0_248, s_0_249, s_0_250, s_0_251, s_0_252, s_0_253, s_0_254, s_0_255, s_0_256, s_0_257, s_0_258, s_0_259, s_0_260, s_0_261, s_0_262, s_0_263, nI_add, hX, hLn, cl (show i + 1 < 2 ^ 31 by omega), ib (show i + 1 < L by omega) (show L ≤ 2 ^ 31 by omega), cl (show i + 2 < 2 ^ 31 by omega), ib (show i + 2 < L by omega) (show L ≤ 2 ^ 31 by omega), cl (show i + 3 < 2 ^ 31 by omega), ib (show i + 3 < L by omega) (show L ≤ 2 ^ 31 by omega), cl (show i + 4 < 2 ^ 31 by omega), ib (show i + 4 < L by omega) (show L ≤ 2 ^ 31 by omega), cl (show i + 5 < 2 ^ 31 by omega), ib (show i + 5 < L by omega) (show L ≤ 2 ^ 31 by omega), not_false_eq_true, true_and]
  by_cases e : xs (i + 5) = 0
  · rw [if_pos e] at ht ⊢
    rw [ht] at main
    simp only [s_0_270, s_0_271, k0, nI_01, true_and, and_self]
    exact main
  · rw [if_neg e] at ht ⊢
    rw [ht] at main
    simp only [s_0_266, s_0_267, s_0_271, k0, nI_11, true_and, and_self]
    exact main
theorem and_15 (z : Int32) : ∃ k, k < 16 ∧ z &&& nI 15 = nI k := by
  refine ⟨jT z % 16, Nat.mod_lt _ (by omega), jT_inj ?_⟩
  rw [jT_and, jT_n (by omega), jT_n (by have := Nat.mod_lt (jT z) (show 0 < 16 by omega); omega), show (15 : Nat) = 2 ^ 4 - 1 by decide, Nat.and_two_pow_sub_one_eq_mod]
theorem sub_6 {L i : Nat} (hL : L ≤ 3072) (hi : i ≤ 3078) : nI L - nI 6 < nI i ↔ L < i + 6 := by
  by_cases w : L < 6
  · have h0 : nI L - nI 6 < 0 := (by decide : ∀ L, L < 6 → nI L - nI 6 < 0) L w
    exact ⟨fun _ => by omega, fun _ => Int32.lt_of_lt_of_le h0 (Int32.not_lt.mp (nI_pos (by omega)))⟩
  · obtain ⟨k, hk⟩ : ∃ k, L = k + 6 := ⟨L - 6, by omega⟩
    rw [hk, ← nI_add, Int32.add_sub_cancel]
    constructor
    · intro z
      refine Classical.byContradiction (fun y => ?_)
      exact absurd z (Int32.not_lt.mpr (nI_le (show i ≤ k by omega) (by omega)))
    · intro z
      exact Int32.not_le.mp (nI_ge (show k < i by omega) (by omega))
theorem l_law {L U : Nat} {xs : Nat → Int32} {Q : vt_Q} (hL : L ≤ 3072) (hQ : ∀ h ρs c S, INV h U ρs c S xs L → Q (some (.int 1)) h) :
    ∀ (m i : Nat), L ≤ i + m → i ≤ L + 6 → ∀ h ρs c S, INV h U ρs c S xs L → Wp 0 18 [vt_sc, .ref 0, .ref 129, .int (nI i)] [] h Q := by
  have out : ∀ i, ¬ i + 6 ≤ L → i ≤ L + 6 → ∀ h ρs c S, INV h U ρs c S xs L → Wp 0 18 [vt_sc, .ref 0, .ref 129, .int (nI i)] [] h Q := by
    intro i w hb h ρs c S hI
    have hLn := hI.2.2.2
    simp only [s_0_18, s_0_19, s_0_20, s_0_21, s_0_23, s_0_24, hLn, if_pos ((sub_6 hL (show i ≤ 3078 by omega)).mpr (show L < i + 6 by omega))]
    simp only [s_0_665, s_0_666, nI_11, true_and]
    exact hQ h ρs c S hI
  intro m
  induction m with
  | zero =>
    intro i h1 h2 h ρs c S hI
    exact out i (by omega) h2 h ρs c S hI
  | succ m ih =>
    intro i h1 h2 h ρs c S hI
    by_cases w : i + 6 ≤ L
    · have hLn := hI.2.2.2
      have hX := hI.2.2.1
      have go : ∀ h' ρs' c' S', INV h' U ρs' c' S' xs L → Wp 0 659 [vt_sc, .ref 0, .ref 129, .int (nI i)] [] h' Q := by
        intro h' ρs' c' S' z
        simp only [s_0_659, s_0_662, nI_add]
        exact ih (i + 6) (by omega) (by omega) h' ρs' c' S' z
      simp only [s_0_18, s_0_19, s_0_20, s_0_21, s_0_23, s_0_24, hLn, if_neg (fun z => absurd ((sub_6 hL (show i ≤ 3078 by omega)).mp z) (show ¬ L < i + 6 by omega))]
      obtain ⟨k, hk, ek⟩ := and_15 (xs i)
      simp only [s_0_27, s_0_28, s_0_29, s_0_30, s_0_32, s_0_33, hX, hLn, cl (show i < 2 ^ 31 by omega), ib (show i < L by omega) (show L ≤ 2 ^ 31 by omega), not_false_eq_true, true_and, ek]
      rcases (show k = 0 ∨ k = 1 ∨ k = 2 ∨ k = 3 ∨ k = 4 ∨ k = 5 ∨ k = 6 ∨ k = 7 ∨ k = 8 ∨ k = 9 ∨ k = 10 ∨ k = 11 ∨ k = 12 ∨ k = 13 ∨ k = 14 ∨ k = 15 by omega) with e | e | e | e | e | e | e | e | e | e | e | e | e | e | e | e
      · rw [e, if_neg (by decide), cl (by omega)]
        show Wp 0 108 _ _ _ _
        exact law_fact hI w hL go
      · rw [e, if_neg (by decide), cl (by omega)]
        show Wp 0 151 _ _ _ _
        exact law_remove hI w hL go
      · rw [e, if_neg (by decide), cl (by omega)]
        show Wp 0 194 _ _ _ _
        exact law_rule hI w hL go
      · rw [e, if_neg (by decide), cl (by omega)]
        show Wp 0 237 _ _ _ _
        exact law_body hI w hL go
      · rw [e, if_neg (by decide), cl (by omega)]
        show Wp 0 316 _ _ _ _
        exact law_filter hI w hL go
      · rw [e, if_neg (by decide), cl (by omega)]
        show Wp 0 369 _ _ _ _
        exact law_aggregate hI w hL go
      · rw [e, if_neg (by decide), cl (by omega)]
        show Wp 0 412 _ _ _ _
        exact law_drop hI w hL go
      · rw [e, if_neg (by decide), cl (by omega)]
        show Wp 0 435 _ _ _ _
        exact law_safe hI w hL go
      · rw [e, if_neg (by decide), cl (by omega)]
        show Wp 0 458 _ _ _ _
        exact law_run hI w hL go
      · rw [e, if_neg (by decide), cl (by omega)]
        show Wp 0 471 _ _ _ _
        exact law_stratum hI w hL go
      · rw [e, if_neg (by decide), cl (by omega)]
        show Wp 0 494 _ _ _ _
        exact law_holds hI w hL go
      · rw [e, if_neg (by decide), cl (by omega)]
        show Wp 0 537 _ _ _ _
        exact law_round hI w hL go
      · rw [e, if_neg (by decide), cl (by omega)]
        show Wp 0 580 _ _ _ _
        exact law_counts hI w hL go
      · rw [e, if_neg (by decide), cl (by omega)]
        show Wp 0 623 _ _ _ _
        exact law_row hI w hL go
      · rw [e, if_neg (by decide), cl (by omega)]
        show Wp 0 646 _ _ _ _
        exact law_size hI w hL go
      · rw [e, if_pos (by decide)]
        exact go h ρs c S hI
    · exact out i w h2 h ρs c S hI
theorem law_all {h0 : vt_H} (n0 : vh_n h0 = 0) (u0 : vh_u h0 = 0) (hL : vh_L h0 ≤ 3072) : Wp 0 0 [vt_sc, vt_un, vt_un, vt_un] [] h0 (fun v h => v = some (.int 1) ∧ vh_n h ≤ 500000 ∧ vh_u h ≤ 7000000) := by
  simp only [s_0_0, s_0_3, s_0_4, vh_K_new, if_true, true_and, n0]
  generalize eA : vh_new h0 105 0 4 = hA
  have gA : GW h0 hA 0 1 4 := by rw [← eA]; exact GW_new
  have nA : vh_n hA = 1 := by rw [gA.1.1, n0]
  refine k_init (h := hA) (by rw [← eA, vh_K_new, if_pos n0.symm]) nA (fun h1 g1 ie => ?_)
  have n1 : vh_n h1 = 129 := by rw [g1.1.1, nA]
  have u1 : vh_u h1 = 6618 := by have := g1.1.2; have := gA.1.2; omega
  have x1 : vh_X h1 = vh_X h0 := by rw [g1.2.2.2.1, gA.2.2.2.1]
  have l1 : vh_L h1 = vh_L h0 := by rw [g1.2.2.2.2, gA.2.2.2.2]
  simp only [Option.toList_none, List.nil_append, s_0_7, s_0_8, s_0_11, s_0_12, vh_K_new, if_true, true_and, n1]
  generalize eB : vh_new h1 106 0 26 = hB
  have gB : GW h1 hB 129 1 26 := by rw [← eB]; exact GW_new
  have nB : vh_n hB = 130 := by rw [gB.1.1, n1]
  refine m_init (h0 := hB) (by rw [← eB, vh_K_new, if_pos n1.symm]) nB (fun h2 mz ⟨n2, u2⟩ o1 o2 z1 _ ⟨x2, l2⟩ => ?_)
  have g2 : GW h1 h2 129 20 66650 := by
    refine ⟨⟨by omega, by have := gB.1.2; omega⟩, fun b hb => ⟨(o1 b (by omega)).1.trans (gB.2.1 b hb).1, (o1 b (by omega)).2.1.trans (gB.2.1 b hb).2⟩, fun b j hb hb' => ⟨((o1 b (by omega)).2.2 j).trans (gB.2.2.1 b j hb hb').1, (o2 b (by omega) j).trans (gB.2.2.1 b j hb hb').2⟩, x2.trans gB.2.2.2.1, l2.trans gB.2.2.2.2⟩
  have cc := start_CC ie n1 g2
  have mm : MM h2 (fun _ _ => 0) 0 (fun _ _ _ => false) := by
    refine start_MM mz (fun a a1 a2 j => ?_)
    by_cases w : a = 129
    · rw [w, (o1 129 (by omega)).2.2, ← eB, vh_I_new, if_pos n1.symm]
    · exact z1 a (by omega) a2 j
  have uu : vh_u h2 = 73268 := by have := g2.1.2; omega
  simp only [Option.toList_none, List.nil_append, s_0_15, s_0_16, s_0_17]
  refine l_law (L := vh_L h0) (U := vh_u h2 + 16384) (xs := vh_X h0) hL (fun h ρs c S hI => ?_) (vh_L h0) 0 (by omega) (by omega) h2 _ _ _ ⟨cc, mm, ?_, ?_⟩
  · obtain ⟨⟨la, fr, g, q, hE, -⟩, -⟩ := hI
    obtain ⟨-, -, -, -, w1, w2⟩ := hE.1.2.2.2.2.1
    exact ⟨rfl, by omega, by omega⟩
  · rw [g2.2.2.2.1, x1]
  · rw [g2.2.2.2.2, l1]

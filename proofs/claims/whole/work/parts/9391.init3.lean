-- ===== the class's constructor =====
theorem RL_GW {h h' : vt_H} {r' m w r d n x y : Nat} (a : GW h h' r' m w) (hR : RL h r d n x y) (h1 : r < vh_n h ∧ d < vh_n h ∧ n < vh_n h ∧ x < vh_n h ∧ y < vh_n h) (hr : r ≠ r') : RL h' r d n x y := by
  obtain ⟨t1, t2, t3, t4, t5, ⟨t6, t7⟩, ⟨t8, t9⟩, ⟨t10, t11⟩, ⟨t12, t13⟩⟩ := hR
  obtain ⟨b1, b2, b3, b4, b5⟩ := h1
  exact ⟨(a.2.1 r b1).1.trans t1, ((a.2.2.1 r 6 b1 hr).2).trans t2, ((a.2.2.1 r 7 b1 hr).2).trans t3, ((a.2.2.1 r 8 b1 hr).2).trans t4, ((a.2.2.1 r 9 b1 hr).2).trans t5, ⟨(a.2.1 d b2).1.trans t6, (a.2.1 d b2).2.trans t7⟩, ⟨(a.2.1 n b3).1.trans t8, (a.2.1 n b3).2.trans t9⟩, ⟨(a.2.1 x b4).1.trans t10, (a.2.1 x b4).2.trans t11⟩, ⟨(a.2.1 y b5).1.trans t12, (a.2.1 y b5).2.trans t13⟩⟩
theorem IM_GW {h h' : vt_H} {r m w : Nat} (a : GW h h' r m w) (hr : r = 0 ∨ r = 48) (hn : 48 ≤ vh_n h) (hI : IM h) : IM h' := by
  obtain ⟨⟨q1, q2, q3, q4, q5, q6, q7⟩, hS, f1, hC, ⟨⟨w1, w2⟩, w3⟩, ⟨a1, a2⟩, f2, f3, ⟨i1, i2, i3, i4⟩, i5, i6⟩ := hI
  have rr : ∀ b j, b < 48 → b ≠ 0 → vh_R h' b j = vh_R h b j := fun b j hb h0 => (a.2.2.1 b j (by omega) (by omega)).2
  have ii : ∀ b j, b < 48 → b ≠ 0 → vh_I h' b j = vh_I h b j := fun b j hb h0 => (a.2.2.1 b j (by omega) (by omega)).1
  have k : ∀ b, b < 48 → vh_K h' b = vh_K h b := fun b hb => (a.2.1 b (by omega)).1
  have z : ∀ b, b < 48 → vh_Z h' b = vh_Z h b := fun b hb => (a.2.1 b (by omega)).2
  refine ⟨⟨by rw [rr 4 2 (by omega) (by omega)]; exact q1, by rw [rr 4 3 (by omega) (by omega)]; exact q2, by rw [rr 4 4 (by omega) (by omega)]; exact q3, by rw [rr 4 5 (by omega) (by omega)]; exact q4, by rw [rr 4 6 (by omega) (by omega)]; exact q5, by rw [rr 4 7 (by omega) (by omega)]; exact q6, by rw [rr 4 8 (by omega) (by omega)]; exact q7⟩, ?_, FT_GW a f1 (by omega) (by omega) (by omega) (by omega), CL_GW (by omega) a (by omega) hC, ⟨⟨by rw [k 24 (by omega)]; exact w1, by rw [z 24 (by omega)]; exact w2⟩, fun n hn' => by rw [rr 24 n (by omega) (by omega), k (25 + n) (by omega), z (25 + n) (by omega)]; exact w3 n hn'⟩, ⟨by rw [k 41 (by omega)]; exact a1, by rw [z 41 (by omega)]; exact a2⟩, FT_GW a f2 (by omega) (by omega) (by omega) (by omega), FT_GW a f3 (by omega) (by omega) (by omega) (by omega), ⟨by rw [ii 4 0 (by omega) (by omega)]; exact i1, by rw [ii 4 1 (by omega) (by omega)]; exact i2, by rw [ii 4 9 (by omega) (by omega)]; exact i3, by rw [ii 4 10 (by omega) (by omega)]; exact i4⟩, by rw [ii 5 4 (by omega) (by omega)]; exact i5, fun b j hb => by rw [ii b j (by omega) (by omega)]; exact i6 b j hb⟩
  obtain ⟨s1, s2, s3, s4, s5, ⟨s6, s7⟩, ⟨s8, s9⟩, ⟨s10, s11⟩, ⟨s12, s13⟩⟩ := hS
  exact ⟨(k 5 (by omega)).trans s1, (rr 5 0 (by omega) (by omega)).trans s2, (rr 5 1 (by omega) (by omega)).trans s3, (rr 5 2 (by omega) (by omega)).trans s4, (rr 5 3 (by omega) (by omega)).trans s5, ⟨(k 6 (by omega)).trans s6, (z 6 (by omega)).trans s7⟩, ⟨(k 7 (by omega)).trans s8, (z 7 (by omega)).trans s9⟩, ⟨(k 8 (by omega)).trans s10, (z 8 (by omega)).trans s11⟩, ⟨(k 9 (by omega)).trans s12, (z 9 (by omega)).trans s13⟩⟩
theorem l_iRules {hb : vt_H} {Q : vt_Q} (nb : vh_n hb = 49) (k0 : vh_K hb 0 = 105) (r01 : vh_R hb 0 1 = some 48) (k48 : vh_K hb 48 = 2 ∧ vh_Z hb 48 = 16)
    (hQ : ∀ h', GW hb h' 48 80 480 → (∀ j, j < 16 → vh_R h' 48 j = some (49 + 5 * j) ∧ RL h' (49 + 5 * j) (49 + 5 * j + 1) (49 + 5 * j + 2) (49 + 5 * j + 3) (49 + 5 * j + 4)) → ∀ y1, Wp 1 62 [.ref 0, y1] [] h' Q) :
    ∀ (m i : Nat), i + m = 16 → ∀ h, GW hb h 48 (5 * i) (30 * i) → (∀ j, j < i → vh_R h 48 j = some (49 + 5 * j) ∧ RL h (49 + 5 * j) (49 + 5 * j + 1) (49 + 5 * j + 2) (49 + 5 * j + 3) (49 + 5 * j + 4)) → Wp 1 37 [.ref 0, .int (nI i)] [] h Q := by
  intro m
  induction m with
  | zero =>
    intro i hi h g a1
    have : i = 16 := by omega
    subst this
    simp only [s_1_37, s_1_38, s_1_40, if_pos (nI_le (Nat.le_refl 16) (show 16 < 2 ^ 31 by omega))]
    exact hQ h g a1 _
  | succ m ih =>
    intro i hi h g a1
    have hlt : i < 16 := by omega
    have nh : vh_n h = 49 + 5 * i := by rw [g.1.1, nb]
    have k0' : vh_K h 0 = 105 := by rw [(g.2.1 0 (by omega)).1]; exact k0
    have r01' : vh_R h 0 1 = some 48 := by rw [(g.2.2.1 0 1 (by omega) (by decide)).2]; exact r01
    have k8 : vh_K h 48 = 2 := by rw [(g.2.1 48 (by omega)).1]; exact k48.1
    have z8 : vh_Z h 48 = 16 := by rw [(g.2.1 48 (by omega)).2]; exact k48.2
    simp only [s_1_37, s_1_38, s_1_40, if_neg (nI_ge hlt (show 16 < 2 ^ 31 by omega))]
    simp only [s_1_43, s_1_44, s_1_47, s_1_48, s_1_51, s_1_52, k0', r01', va_rf_s, vh_K_new, if_true, true_and]
    generalize e1 : vh_new h 103 0 10 = h1
    have n1 : vh_n h1 = 49 + 5 * i + 1 := by rw [← e1, vh_n_new, nh]
    refine k_initR (h := h1) (by rw [← e1, vh_K_new, if_pos rfl]) (by omega) (fun h2 g2 R2 => ?_)
    have k82 : vh_K h2 48 = 2 := by rw [(g2.2.1 48 (by omega)).1, ← e1, vh_K_new, if_neg (by omega)]; exact k8
    have z82 : vh_Z h2 48 = 16 := by rw [(g2.2.1 48 (by omega)).2, ← e1, vh_Z_new, if_neg (by omega)]; exact z8
    have kn2 : vh_K h2 (vh_n h) = 103 := R2.1
    simp only [Option.toList_none, List.nil_append, s_1_55, k82, z82, kn2, cl (show i < 2 ^ 31 by omega), ib hlt (show 16 ≤ 2 ^ 31 by omega), not_false_eq_true, and_self, true_and]
    generalize e3 : vh_wR h2 48 i (some (vh_n h)) = h3
    obtain ⟨gD, rD, rD', iD, oD, qD, kD5⟩ := put_new (by omega) e1 g2 e3
    have g23 : GW h2 h3 48 0 0 := by rw [← e3]; exact GW_wR
    have n2 : vh_n h2 = 49 + 5 * i + 5 := by rw [g2.1.1, n1]
    simp only [s_1_56, s_1_59, nI_add]
    have gg := GW_trans g gD
    rw [show 5 * i + (1 + 4) = 5 * (i + 1) by omega, show 30 * i + (10 + 20) = 30 * (i + 1) by omega] at gg
    refine ih (i + 1) (by omega) h3 gg (fun j hj => ?_)
    by_cases w : j = i
    · rw [w]
      rw [nh] at rD R2
      rw [n1] at R2
      refine ⟨rD, RL_GW g23 R2 (by omega) (by omega)⟩
    · obtain ⟨b1, b2⟩ := a1 j (by omega)
      rw [rD' j w]
      exact ⟨b1, RL_GW gD b2 (by omega) (by omega)⟩
/-- the engine as it is made -/
def IE (h : vt_H) : Prop := (vh_K h 0 = 105 ∧ vh_R h 0 0 = some 1 ∧ vh_R h 0 1 = some 48 ∧ vh_R h 0 2 = some 4 ∧ vh_K h 4 = 102 ∧ FT h 1 2 3) ∧ (∀ b j, b = 2 ∨ b = 3 → vh_I h b j = 0) ∧ IM h ∧ ((vh_K h 48 = 2 ∧ vh_Z h 48 = 16) ∧ ∀ j, j < 16 → vh_R h 48 j = some (49 + 5 * j) ∧ RL h (49 + 5 * j) (49 + 5 * j + 1) (49 + 5 * j + 2) (49 + 5 * j + 3) (49 + 5 * j + 4)) ∧ vh_I h 0 3 = 0
theorem k_init {h : vt_H} {Q : vt_Q} (hK : vh_K h 0 = 105) (n1 : vh_n h = 1) (hQ : ∀ h', GW h h' 0 128 6614 → IE h' → Q none h') : Wp 1 0 [.ref 0, vt_un] [] h Q := by
  simp only [s_1_0, s_1_1]
  -- said
  simp only [s_1_4, s_1_5, s_1_8, s_1_9, vh_K_new, if_true, true_and]
  generalize eB : vh_new h 101 0 2 = hB
  have nB : vh_n hB = 2 := by rw [← eB, vh_n_new, n1]
  refine k_initF (h := hB) (by rw [← eB, vh_K_new, if_pos rfl]) (by omega) (fun hC g1 f1 f2 => ?_)
  have kC : vh_K hC 0 = 105 := by rw [(g1.2.1 0 (by omega)).1, ← eB, vh_K_new, if_neg (by omega)]; exact hK
  simp only [Option.toList_none, List.nil_append, s_1_12, kC, true_and]
  generalize eD : vh_wR hC 0 0 (some (vh_n h)) = hD
  obtain ⟨gD, rD, rD', iD, oD, qD, kD⟩ := put_new (by omega) eB g1 eD
  have gCD : GW hC hD 0 0 0 := by rw [← eD]; exact GW_wR
  have nC : vh_n hC = 4 := by rw [g1.1.1, nB]
  have nD : vh_n hD = 4 := by rw [gCD.1.1, nC]
  have kD0 : vh_K hD 0 = 105 := by rw [(oD 0).1]; exact kC
  rw [n1, nB] at f1
  rw [nB] at f2
  rw [n1] at rD
  have ftD : FT hD 1 2 3 := FT_GW gCD f1 (by omega) (by omega) (by omega) (by decide)
  have zD : ∀ b j, b = 2 ∨ b = 3 → vh_I hD b j = 0 := fun b j hb => by rw [(oD b).2.2]; exact f2 b j (by omega) (by omega)
  -- model
  simp only [s_1_15, s_1_16, s_1_19, s_1_20, vh_K_new, if_true, true_and]
  generalize eE : vh_new hD 102 0 11 = hE
  have nE : vh_n hE = 5 := by rw [← eE, vh_n_new, nD]
  have kE4 : vh_K hE 4 = 102 := by rw [← eE, vh_K_new, if_pos nD.symm]
  have go : Wp 3 0 [.ref (vh_n hD)] [] hE (fun v h' => Wp 1 23 [.ref 0, vt_un] (v.toList ++ [.ref (vh_n hD), .ref 0]) h' Q) := by
    rw [nD]
    refine k_initM (h := hE) kE4 nE (fun hF g2 im => ?_)
    have g2' : GW hE hF (vh_n hD) 43 5081 := by rw [nD]; exact g2
    have kF : vh_K hF 0 = 105 := by rw [(g2.2.1 0 (by omega)).1, ← eE, vh_K_new, if_neg (by omega)]; exact kD0
    have kF4 : vh_K hF 4 = 102 := by rw [(g2.2.1 4 (by omega)).1]; exact kE4
    simp only [Option.toList_none, List.nil_append, s_1_23, kF, true_and]
    generalize eG' : vh_wR hF 0 2 (some 4) = hG
    have eG : vh_wR hF 0 2 (some (vh_n hD)) = hG := by rw [nD]; exact eG'
    obtain ⟨gG, rG, rG', iG, oG, qG, kG⟩ := put_new (by omega) eE g2' eG
    have gFG : GW hF hG 0 0 0 := by rw [← eG]; exact GW_wR
    have nF : vh_n hF = 48 := by rw [g2.1.1, nE]
    have nG : vh_n hG = 48 := by rw [gFG.1.1, nF]
    have kG0 : vh_K hG 0 = 105 := by rw [(oG 0).1]; exact kF
    have kG4 : vh_K hG 4 = 102 := by rw [(oG 4).1]; exact kF4
    rw [nD] at rG
    have imG := IM_GW gFG (Or.inl rfl) (by omega) im
    -- rules
    simp only [s_1_26, s_1_27, s_1_29, cl (show 16 < 2 ^ 31 by omega), nI_pos (show 16 < 2 ^ 31 by omega), (show 16 ≤ 100000000 by omega), not_false_eq_true, and_self, true_and]
    generalize eM : vh_new hG 2 16 16 = hM
    have gM : GW hG hM 0 1 16 := by rw [← eM]; exact GW_new
    have nM : vh_n hM = 49 := by rw [gM.1.1, nG]
    have kM0 : vh_K hM 0 = 105 := by rw [(gM.2.1 0 (by omega)).1]; exact kG0
    simp only [s_1_32, kM0, true_and]
    generalize eN : vh_wR hM 0 1 (some (vh_n hG)) = hN
    have gN0 : GW hM hN 0 0 0 := by rw [← eN]; exact GW_wR
    have gN : GW hG hN 0 1 16 := GW_trans gM gN0
    have nN : vh_n hN = 49 := by rw [gN.1.1, nG]
    have kN0 : vh_K hN 0 = 105 := by rw [(gN.2.1 0 (by omega)).1]; exact kG0
    have rN : ∀ j, vh_R hN 0 j = if j = 1 then some 48 else vh_R hG 0 j := fun j => by
      rw [← eN, vh_R_wR]
      by_cases w : j = 1
      · rw [if_pos ⟨rfl, w⟩, if_pos w, nG]
      · rw [if_neg (fun z => w z.2), if_neg w, ← eM, vh_R_new, if_neg (by omega)]
    have a48 : vh_K hN 48 = 2 ∧ vh_Z hN 48 = 16 := by
      rw [← eN, vh_K_wR, vh_Z_wR, ← eM, vh_K_new, vh_Z_new, if_pos nG.symm, if_pos nG.symm]
      exact ⟨rfl, rfl⟩
    have imN := IM_GW gN (Or.inl rfl) (by omega) imG
    simp only [s_1_35, s_1_36]
    refine l_iRules nN kN0 (by rw [rN, if_pos rfl]) a48 (fun hO gO hR y1 => ?_) 16 0 (by omega) hN (GW_refl _ _) (fun j hj => absurd hj (Nat.not_lt_zero j))
    have kO : vh_K hO 0 = 105 := by rw [(gO.2.1 0 (by omega)).1]; exact kN0
    have nO : vh_n hO = 129 := by rw [gO.1.1, nN]
    simp only [s_1_62, s_1_63, s_1_64, s_1_67, kO, true_and]
    generalize eP : vh_wI hO 0 3 (nI 0) = hP
    have gP : GW hO hP 0 0 0 := by rw [← eP]; exact GW_wI
    have rP : ∀ b j, vh_R hP b j = vh_R hO b j := fun b j => by rw [← eP]; rfl
    -- growth with respect to cell 0 as a whole
    have gND : GW hD hN 0 (1 + 43 + 1) (11 + 5081 + 16) := GW_trans gG gN
    have gNO : ∀ b j, b < 48 → vh_I hO b j = vh_I hN b j ∧ vh_R hO b j = vh_R hN b j := fun b j hb => gO.2.2.1 b j (by omega) (by omega)
    have all : GW h hP 0 128 6614 := by
      refine ⟨⟨by have := gP.1.1; omega, by have := gP.1.2; have := gO.1.2; have := gND.1.2; have := gD.1.2; omega⟩, fun b hb => ?_, fun b j hb h0 => absurd h0 (by omega), ?_, ?_⟩
      · exact ⟨((gP.2.1 b (by omega)).1).trans (((gO.2.1 b (by omega)).1).trans (((gND.2.1 b (by omega)).1).trans (gD.2.1 b hb).1)), ((gP.2.1 b (by omega)).2).trans (((gO.2.1 b (by omega)).2).trans (((gND.2.1 b (by omega)).2).trans (gD.2.1 b hb).2))⟩
      · rw [gP.2.2.2.1, gO.2.2.2.1, gND.2.2.2.1, gD.2.2.2.1]
      · rw [gP.2.2.2.2, gO.2.2.2.2, gND.2.2.2.2, gD.2.2.2.2]
    have ftN : FT hN 1 2 3 := FT_GW gND ftD (by omega) (by omega) (by omega) (by decide)
    have ftO : FT hO 1 2 3 := FT_GW gO ftN (by omega) (by omega) (by omega) (by decide)
    refine hQ hP all ⟨⟨?_, ?_, ?_, ?_, ?_, FT_GW gP ftO (by omega) (by omega) (by omega) (by decide)⟩, fun b j hb => ?_, IM_GW gP (Or.inl rfl) (by omega) (IM_GW gO (Or.inr rfl) (by omega) imN), ⟨⟨?_, ?_⟩, fun j hj => ?_⟩, ?_⟩
    · rw [(gP.2.1 0 (by omega)).1]; exact kO
    · rw [rP, (gNO 0 0 (by omega)).2, rN, if_neg (by decide), rG' 0 (by decide)]; exact rD
    · rw [rP, (gNO 0 1 (by omega)).2, rN, if_pos rfl]
    · rw [rP, (gNO 0 2 (by omega)).2, rN, if_neg (by decide)]; exact rG
    · rw [(gP.2.1 4 (by omega)).1, (gO.2.1 4 (by omega)).1, (gN.2.1 4 (by omega)).1]; exact kG4
    · rw [(gP.2.2.1 b j (by omega) (by omega)).1, (gNO b j (by omega)).1, (gND.2.2.1 b j (by omega) (by omega)).1]; exact zD b j hb
    · rw [(gP.2.1 48 (by omega)).1, (gO.2.1 48 (by omega)).1]; exact a48.1
    · rw [(gP.2.1 48 (by omega)).2, (gO.2.1 48 (by omega)).2]; exact a48.2
    · rw [rP]
      exact ⟨(hR j hj).1, RL_GW gP (hR j hj).2 (by omega) (by omega)⟩
    · rw [← eP, vh_I_wI, if_pos ⟨rfl, rfl⟩]; rfl
  exact go

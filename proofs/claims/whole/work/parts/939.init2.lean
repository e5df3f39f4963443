-- ===== the class's constructors: the objects =====
theorem k_initF {r : Nat} {h : vt_H} {Q : vt_Q} (hK : vh_K h r = 101) (hr : r < vh_n h) (hQ : ∀ h', GW h h' r 2 1024 → FT h' r (vh_n h) (vh_n h + 1) → (∀ b j, vh_n h ≤ b → b < vh_n h + 2 → vh_I h' b j = 0) → Q none h') : Wp 2 0 [.ref r] [] h Q := by
  simp only [s_2_0, s_2_1]
  refine c_initF hK hr (fun h' L => ?_)
  simp only [s_2_22]
  have g := NwL_GW L
  obtain ⟨-, b1, b2, -⟩ := L
  obtain ⟨q1, q2, q3, q4⟩ := b2 0 (by decide)
  obtain ⟨p1, p2, p3, p4⟩ := b2 1 (by decide)
  refine hQ h' g ⟨(b1 r hr).1.trans hK, q4, p4, q1, q2, p1, p2⟩ (fun b j h1 h2 => ?_)
  by_cases w : b = vh_n h
  · rw [w]; exact q3 j
  · rw [show b = vh_n h + 1 by omega]; exact p3 j
theorem k_initS {r : Nat} {h : vt_H} {Q : vt_Q} (hK : vh_K h r = 104) (hr : r < vh_n h) (hQ : ∀ h', GW h h' r 4 64 → (∀ i, i < 4 → vh_K h' (vh_n h + i) = 1 ∧ vh_Z h' (vh_n h + i) = 16 ∧ (∀ j, vh_I h' (vh_n h + i) j = 0) ∧ vh_R h' r i = some (vh_n h + i)) → vh_I h' r 4 = -nI 1 → Q none h') : Wp 4 0 [.ref r] [] h Q := by
  simp only [s_4_0, s_4_1]
  refine c_initS hK hr (fun h1 L => ?_)
  have g := NwL_GW L
  obtain ⟨⟨n1, -⟩, b1, b2, -⟩ := L
  have k1 : vh_K h1 r = 104 := (b1 r hr).1.trans hK
  simp only [s_4_36, s_4_37, s_4_38, s_4_41, k1, true_and]
  refine hQ _ (GW_trans g GW_wI) (fun i hi => ?_) (by rw [vh_I_wI, if_pos ⟨rfl, rfl⟩])
  obtain ⟨q1, q2, q3, q4⟩ := b2 i hi
  rw [Nat.zero_add] at q4
  refine ⟨q1, ?_, fun j => ?_, q4⟩
  · have : vh_Z h1 (vh_n h + i) = 16 := by
      rw [q2]
      exact (by decide : ∀ i, i < 4 → [16, 16, 16, 16].getD i 0 = 16) i hi
    exact this
  · rw [vh_I_wI, if_neg (by omega)]; exact q3 j
theorem k_initC {r : Nat} {h : vt_H} {Q : vt_Q} (hK : vh_K h r = 100) (hr : r < vh_n h) (hQ : ∀ h', GW h h' r 10 1886 → (∀ i, i < 10 → vh_K h' (vh_n h + i) = 1 ∧ vh_Z h' (vh_n h + i) = [1152, 6, 32, 32, 3, 3, 18, 576, 32, 32].getD i 0 ∧ vh_R h' r i = some (vh_n h + i)) → Q none h') : Wp 5 0 [.ref r] [] h Q := by
  simp only [s_5_0, s_5_1]
  refine c_initC hK hr (fun h1 L => ?_)
  have g := NwL_GW L
  obtain ⟨-, b1, b2, -⟩ := L
  simp only [s_5_84]
  refine hQ _ g (fun i hi => ?_)
  obtain ⟨q1, q2, q3, q4⟩ := b2 i hi
  rw [Nat.zero_add] at q4
  exact ⟨q1, q2, q4⟩
theorem k_initR {r : Nat} {h : vt_H} {Q : vt_Q} (hK : vh_K h r = 103) (hr : r < vh_n h) (hQ : ∀ h', GW h h' r 4 20 → RL h' r (vh_n h) (vh_n h + 1) (vh_n h + 2) (vh_n h + 3) → Q none h') : Wp 6 0 [.ref r] [] h Q := by
  simp only [s_6_0, s_6_1, s_6_4, s_6_5, s_6_6, hK, true_and]
  refine c_initR (h := vh_wI h r 3 (-nI 1)) hK hr (fun h1 L => ?_)
  have g := NwL_GW L
  obtain ⟨-, b1, b2, -⟩ := L
  simp only [s_6_37]
  obtain ⟨q1, q2, q3, q4⟩ := b2 0 (by decide)
  obtain ⟨r1, r2, r3, r4⟩ := b2 1 (by decide)
  obtain ⟨s1, s2, s3, s4⟩ := b2 2 (by decide)
  obtain ⟨t1, t2, t3, t4⟩ := b2 3 (by decide)
  exact hQ _ (by have := GW_trans (h := h) GW_wI g; exact this) ⟨(b1 r hr).1.trans hK, q4, r4, s4, t4, ⟨q1, q2⟩, ⟨r1, r2⟩, ⟨s1, s2⟩, ⟨t1, t2⟩⟩
theorem put_new {h h1 h2 h3 : vt_H} {r s k w m' w' : Nat} (hr : r < vh_n h) (e1 : vh_new h k 0 w = h1) (g : GW h1 h2 (vh_n h) m' w') (e3 : vh_wR h2 r s (some (vh_n h)) = h3) : GW h h3 r (1 + m') (w + w') ∧ vh_R h3 r s = some (vh_n h) ∧ (∀ j, j ≠ s → vh_R h3 r j = vh_R h r j) ∧ (∀ j, vh_I h3 r j = vh_I h r j) ∧ (∀ b, vh_K h3 b = vh_K h2 b ∧ vh_Z h3 b = vh_Z h2 b ∧ ∀ j, vh_I h3 b j = vh_I h2 b j) ∧ (∀ b j, b ≠ r → vh_R h3 b j = vh_R h2 b j) ∧ vh_K h3 (vh_n h) = k := by
  have g1 : GW h h1 r 1 w := by rw [← e1]; exact GW_new
  have g2 : GW h h2 r (1 + m') (w + w') := GW_sub g1 g
  have g3 : GW h2 h3 r 0 0 := by rw [← e3]; exact GW_wR
  have n1 : vh_n h1 = vh_n h + 1 := g1.1.1
  have hrr : ∀ j, vh_R h2 r j = vh_R h r j := fun j => by
    rw [(g.2.2.1 r j (by omega) (by omega)).2, ← e1, vh_R_new, if_neg (by omega)]
  refine ⟨by have := GW_trans g2 g3; exact this, ?_, fun j hj => ?_, fun j => ?_, fun b => ?_, fun b j hb => ?_, ?_⟩
  · rw [← e3, vh_R_wR, if_pos ⟨rfl, rfl⟩]
  · rw [← e3, vh_R_wR, if_neg (fun z => hj z.2)]; exact hrr j
  · rw [← e3, vh_I_wR, (g.2.2.1 r j (by omega) (by omega)).1, ← e1, vh_I_new, if_neg (by omega)]
  · rw [← e3]; exact ⟨rfl, rfl, fun _ => rfl⟩
  · rw [← e3, vh_R_wR, if_neg (fun z => hb z.1)]
  · rw [← e3, vh_K_wR, (g.2.1 (vh_n h) (by omega)).1, ← e1, vh_K_new, if_pos rfl]
theorem SO_GW {h h' : vt_H} {m w : Nat} (a : GW h h' 4 m w) (hn : 10 ≤ vh_n h) (hS : SO h) : SO h' := by
  obtain ⟨s1, s2, s3, s4, s5, ⟨s6, s7⟩, ⟨s8, s9⟩, ⟨s10, s11⟩, ⟨s12, s13⟩⟩ := hS
  exact ⟨(a.2.1 5 (by omega)).1.trans s1, ((a.2.2.1 5 0 (by omega) (by decide)).2).trans s2, ((a.2.2.1 5 1 (by omega) (by decide)).2).trans s3, ((a.2.2.1 5 2 (by omega) (by decide)).2).trans s4, ((a.2.2.1 5 3 (by omega) (by decide)).2).trans s5, ⟨(a.2.1 6 (by omega)).1.trans s6, (a.2.1 6 (by omega)).2.trans s7⟩, ⟨(a.2.1 7 (by omega)).1.trans s8, (a.2.1 7 (by omega)).2.trans s9⟩, ⟨(a.2.1 8 (by omega)).1.trans s10, (a.2.1 8 (by omega)).2.trans s11⟩, ⟨(a.2.1 9 (by omega)).1.trans s12, (a.2.1 9 (by omega)).2.trans s13⟩⟩
theorem CL_GW {h h' : vt_H} {r m w : Nat} (hr : r ≠ 13) (a : GW h h' r m w) (hn : 24 ≤ vh_n h) (hC : CL h) : CL h' := by
  obtain ⟨ck13, cr0, cr1, cr2, cr3, cr4, cr5, cr6, cr7, cr8, cr9, ck14, ck15, ck16, ck17, ck18, ck19, ck20, ck21, ck22, ck23, cz14, cz15, cz16, cz17, cz18, cz19, cz20, cz21, cz22, cz23⟩ := hC
  have k : ∀ c, c < 24 → vh_K h' c = vh_K h c := fun c hc => (a.2.1 c (by omega)).1
  have z : ∀ c, c < 24 → vh_Z h' c = vh_Z h c := fun c hc => (a.2.1 c (by omega)).2
  have q : ∀ j, vh_R h' 13 j = vh_R h 13 j := fun j => (a.2.2.1 13 j (by omega) (fun e => hr e.symm)).2
  unfold CL
  simp only [k 13 (by omega), k 14 (by omega), k 15 (by omega), k 16 (by omega), k 17 (by omega), k 18 (by omega), k 19 (by omega), k 20 (by omega), k 21 (by omega), k 22 (by omega), k 23 (by omega), z 14 (by omega), z 15 (by omega), z 16 (by omega), z 17 (by omega), z 18 (by omega), z 19 (by omega), z 20 (by omega), z 21 (by omega), z 22 (by omega), z 23 (by omega), q]
  exact ⟨ck13, cr0, cr1, cr2, cr3, cr4, cr5, cr6, cr7, cr8, cr9, ck14, ck15, ck16, ck17, ck18, ck19, ck20, ck21, ck22, ck23, cz14, cz15, cz16, cz17, cz18, cz19, cz20, cz21, cz22, cz23⟩
/-- the model's object, made at cell 4 -/
def IM (h : vt_H) : Prop := (vh_R h 4 2 = some 5 ∧ vh_R h 4 3 = some 10 ∧ vh_R h 4 4 = some 13 ∧ vh_R h 4 5 = some 24 ∧ vh_R h 4 6 = some 41 ∧ vh_R h 4 7 = some 42 ∧ vh_R h 4 8 = some 45) ∧ SO h ∧ FT h 10 11 12 ∧ CL h ∧ ((vh_K h 24 = 3 ∧ vh_Z h 24 = 16) ∧ ∀ n, n < 16 → vh_R h 24 n = some (25 + n) ∧ vh_K h (25 + n) = 1 ∧ vh_Z h (25 + n) = 0) ∧ (vh_K h 41 = 1 ∧ vh_Z h 41 = 16) ∧ FT h 42 43 44 ∧ FT h 45 46 47 ∧ (vh_I h 4 0 = 0 ∧ vh_I h 4 1 = 0 ∧ vh_I h 4 9 = 0 ∧ vh_I h 4 10 = 0) ∧ vh_I h 5 4 = -nI 1 ∧ ∀ b j, (b = 9 ∨ b = 11 ∨ b = 12 ∨ b = 43 ∨ b = 44 ∨ b = 46 ∨ b = 47) → vh_I h b j = 0
theorem k_initM {h : vt_H} {Q : vt_Q} (hK : vh_K h 4 = 102) (n5 : vh_n h = 5) (hQ : ∀ h', GW h h' 4 43 5081 → IM h' → Q none h') : Wp 3 0 [.ref 4] [] h Q := by
  simp only [s_3_0, s_3_1, s_3_4, s_3_5, s_3_6, s_3_9, s_3_10, s_3_11, s_3_14, vh_K_wI, hK, nI_01, and_self, true_and]
  generalize eA : vh_wI (vh_wI h 4 0 (nI 0)) 4 1 (nI 0) = hA
  have gA : GW h hA 4 0 0 := by rw [← eA]; exact GW_trans GW_wI GW_wI
  have nA : vh_n hA = 5 := by rw [gA.1.1, n5]
  have kA : vh_K hA 4 = 102 := by rw [(gA.2.1 4 (by omega)).1, hK]
  have iA0 : vh_I hA 4 0 = 0 := by rw [← eA, vh_I_wI, if_neg (by decide), vh_I_wI, if_pos ⟨rfl, rfl⟩]; rfl
  have iA1 : vh_I hA 4 1 = 0 := by rw [← eA, vh_I_wI, if_pos ⟨rfl, rfl⟩]; rfl
  -- strata
  simp only [s_3_15, s_3_18, s_3_19, vh_K_new, if_true, true_and]
  generalize eB : vh_new hA 104 0 5 = hB
  have nB : vh_n hB = 6 := by rw [← eB, vh_n_new, nA]
  refine k_initS (h := hB) (by rw [← eB, vh_K_new, if_pos rfl]) (by omega) (fun hC g c1 c2 => ?_)
  have g0 : GW hB hC (vh_n hA) 4 64 := g
  have kC : vh_K hC 4 = 102 := by rw [(g.2.1 4 (by omega)).1, ← eB, vh_K_new, if_neg (by omega)]; exact kA
  simp only [Option.toList_none, List.nil_append, s_3_22, kC, true_and]
  generalize eD : vh_wR hC 4 2 (some (vh_n hA)) = hD
  obtain ⟨gD, rD, rD', iD, oD, qD, kD5⟩ := put_new (by omega) eB g0 eD
  have nD : vh_n hD = 10 := by rw [gD.1.1, nA]
  have kD : vh_K hD 4 = 102 := by rw [(gD.2.1 4 (by omega)).1]; exact kA
  rw [nA] at rD kD5 c1
  rw [nB] at c1
  have soD : SO hD := by
    refine ⟨kD5, ?_, ?_, ?_, ?_, ?_, ?_, ?_, ?_⟩
    · rw [qD 5 0 (by decide)]; exact (c1 0 (by decide)).2.2.2
    · rw [qD 5 1 (by decide)]; exact (c1 1 (by decide)).2.2.2
    · rw [qD 5 2 (by decide)]; exact (c1 2 (by decide)).2.2.2
    · rw [qD 5 3 (by decide)]; exact (c1 3 (by decide)).2.2.2
    · exact ⟨(oD 6).1.trans (c1 0 (by decide)).1, (oD 6).2.1.trans (c1 0 (by decide)).2.1⟩
    · exact ⟨(oD 7).1.trans (c1 1 (by decide)).1, (oD 7).2.1.trans (c1 1 (by decide)).2.1⟩
    · exact ⟨(oD 8).1.trans (c1 2 (by decide)).1, (oD 8).2.1.trans (c1 2 (by decide)).2.1⟩
    · exact ⟨(oD 9).1.trans (c1 3 (by decide)).1, (oD 9).2.1.trans (c1 3 (by decide)).2.1⟩
  have i54 : vh_I hD 5 4 = -nI 1 := by
    rw [(oD 5).2.2, ← nA]; exact c2
  have i9 : ∀ j, vh_I hD 9 j = 0 := fun j => by rw [(oD 9).2.2]; exact (c1 3 (by decide)).2.2.1 j
  -- held
  simp only [s_3_25, s_3_26, s_3_29, s_3_30, vh_K_new, if_true, true_and]
  generalize eE : vh_new hD 101 0 2 = hE
  have nE : vh_n hE = 11 := by rw [← eE, vh_n_new, nD]
  refine k_initF (h := hE) (by rw [← eE, vh_K_new, if_pos rfl]) (by omega) (fun hF g1 f1 f2 => ?_)
  have kF : vh_K hF 4 = 102 := by rw [(g1.2.1 4 (by omega)).1, ← eE, vh_K_new, if_neg (by omega)]; exact kD
  simp only [Option.toList_none, List.nil_append, s_3_33, kF, true_and]
  generalize eG : vh_wR hF 4 3 (some (vh_n hD)) = hG
  obtain ⟨gG, rG, rG', iG, oG, qG, kG⟩ := put_new (by omega) eE g1 eG
  have gFG : GW hF hG 4 0 0 := by rw [← eG]; exact GW_wR
  have nF : vh_n hF = 13 := by rw [g1.1.1, nE]
  have nG : vh_n hG = 13 := by rw [gFG.1.1, nF]
  have kG4 : vh_K hG 4 = 102 := by rw [(oG 4).1]; exact kF
  rw [nD, nE] at f1
  rw [nE] at f2
  rw [nD] at rG
  have ftG : FT hG 10 11 12 := FT_GW gFG f1 (by omega) (by omega) (by omega) (by decide)
  have zG : ∀ b j, b = 11 ∨ b = 12 → vh_I hG b j = 0 := fun b j hb => by rw [(oG b).2.2]; exact f2 b j (by omega) (by omega)
  -- cases
  simp only [s_3_36, s_3_37, s_3_40, s_3_41, vh_K_new, if_true, true_and]
  generalize eH : vh_new hG 100 0 16 = hH
  have nH : vh_n hH = 14 := by rw [← eH, vh_n_new, nG]
  refine k_initC (h := hH) (by rw [← eH, vh_K_new, if_pos rfl]) (by omega) (fun hI g2 d1 => ?_)
  have kI4 : vh_K hI 4 = 102 := by rw [(g2.2.1 4 (by omega)).1, ← eH, vh_K_new, if_neg (by omega)]; exact kG4
  simp only [Option.toList_none, List.nil_append, s_3_44, kI4, true_and]
  generalize eJ : vh_wR hI 4 4 (some (vh_n hG)) = hJ
  obtain ⟨gJ, rJ, rJ', iJ, oJ, qJ, kJ⟩ := put_new (by omega) eH g2 eJ
  have nJ : vh_n hJ = 24 := by rw [gJ.1.1, nG]
  have kJ4 : vh_K hJ 4 = 102 := by rw [(oJ 4).1]; exact kI4
  rw [nG, nH] at d1
  rw [nG] at rJ kJ
  have clJ : CL hJ := by
    have rr : ∀ i, i < 10 → vh_R hJ 13 i = some (14 + i) := fun i hi => by rw [qJ 13 i (by decide)]; exact (d1 i hi).2.2
    have kk : ∀ i, i < 10 → vh_K hJ (14 + i) = 1 := fun i hi => (oJ _).1.trans (d1 i hi).1
    have zz : ∀ i, i < 10 → vh_Z hJ (14 + i) = [1152, 6, 32, 32, 3, 3, 18, 576, 32, 32].getD i 0 := fun i hi => (oJ _).2.1.trans (d1 i hi).2.1
    exact ⟨kJ, rr 0 (by decide), rr 1 (by decide), rr 2 (by decide), rr 3 (by decide), rr 4 (by decide), rr 5 (by decide), rr 6 (by decide), rr 7 (by decide), rr 8 (by decide), rr 9 (by decide), kk 0 (by decide), kk 1 (by decide), kk 2 (by decide), kk 3 (by decide), kk 4 (by decide), kk 5 (by decide), kk 6 (by decide), kk 7 (by decide), kk 8 (by decide), kk 9 (by decide), zz 0 (by decide), zz 1 (by decide), zz 2 (by decide), zz 3 (by decide), zz 4 (by decide), zz 5 (by decide), zz 6 (by decide), zz 7 (by decide), zz 8 (by decide), zz 9 (by decide)⟩
  -- rounds
  simp only [s_3_47, s_3_48, s_3_50, s_3_51, cl (show 16 < 2 ^ 31 by omega), cl (show 0 < 2 ^ 31 by omega), nI_pos (show 16 < 2 ^ 31 by omega), nI_pos (show 0 < 2 ^ 31 by omega), (show 16 ≤ 1000000 by omega), (show 0 ≤ 1000000 by omega), not_false_eq_true, and_self, true_and]
  generalize eK : vh_mul hJ 16 0 = hK1
  have mK : ∀ b, vh_K hK1 b = if b < vh_n hJ then vh_K hJ b else if b = vh_n hJ then 3 else if b ≤ vh_n hJ + 16 then 1 else vh_K hJ b := by rw [← eK]; exact fun _ => rfl
  have mZ : ∀ b, vh_Z hK1 b = if b < vh_n hJ then vh_Z hJ b else if b = vh_n hJ then 16 else if b ≤ vh_n hJ + 16 then 0 else vh_Z hJ b := by rw [← eK]; exact fun _ => rfl
  have mI : ∀ b j, vh_I hK1 b j = if b < vh_n hJ ∨ vh_n hJ + 16 < b then vh_I hJ b j else 0 := by rw [← eK]; exact fun _ _ => rfl
  have mR : ∀ b j, vh_R hK1 b j = if b < vh_n hJ ∨ vh_n hJ < b then vh_R hJ b j else if j < 16 then some (vh_n hJ + 1 + j) else none := by rw [← eK]; exact fun _ _ => rfl
  have gK : GW hJ hK1 4 17 16 := by
    refine ⟨by rw [← eK]; exact ⟨rfl, rfl⟩, fun b hb => ⟨by rw [mK, if_pos hb], by rw [mZ, if_pos hb]⟩, fun b j hb _ => ⟨by rw [mI, if_pos (Or.inl hb)], by rw [mR, if_pos (Or.inl hb)]⟩, by rw [← eK]; rfl, by rw [← eK]; rfl⟩
  have kK4 : vh_K hK1 4 = 102 := by rw [(gK.2.1 4 (by omega)).1]; exact kJ4
  simp only [s_3_55, kK4, true_and]
  generalize eL : vh_wR hK1 4 5 (some (vh_n hJ)) = hL
  have gL0 : GW hK1 hL 4 0 0 := by rw [← eL]; exact GW_wR
  have gL : GW hJ hL 4 17 16 := GW_trans gK gL0
  have nL : vh_n hL = 41 := by rw [gL.1.1, nJ]
  have kL4 : vh_K hL 4 = 102 := by rw [(gL0.2.1 4 (by rw [gK.1.1]; omega)).1]; exact kK4
  have rL : ∀ j, vh_R hL 4 j = if j = 5 then some 24 else vh_R hJ 4 j := fun j => by
    rw [← eL, vh_R_wR]
    by_cases w : j = 5
    · rw [if_pos ⟨rfl, w⟩, if_pos w, nJ]
    · rw [if_neg (fun z => w z.2), if_neg w, mR, if_pos (by omega)]
  have iL : ∀ j, vh_I hL 4 j = vh_I hJ 4 j := fun j => by rw [← eL, vh_I_wR, mI, if_pos (by omega)]
  have rowL : (vh_K hL 24 = 3 ∧ vh_Z hL 24 = 16) ∧ ∀ n, n < 16 → vh_R hL 24 n = some (25 + n) ∧ vh_K hL (25 + n) = 1 ∧ vh_Z hL (25 + n) = 0 := by
    have kk : ∀ b, vh_K hL b = vh_K hK1 b := fun b => by rw [← eL, vh_K_wR]
    have zz : ∀ b, vh_Z hL b = vh_Z hK1 b := fun b => by rw [← eL, vh_Z_wR]
    refine ⟨⟨by rw [kk, mK, if_neg (by omega), if_pos nJ.symm], by rw [zz, mZ, if_neg (by omega), if_pos nJ.symm]⟩, fun n hn => ⟨?_, ?_, ?_⟩⟩
    · rw [← eL, vh_R_wR, if_neg (by omega), mR, if_neg (by omega), if_pos hn, nJ]
    · rw [kk, mK, if_neg (by omega), if_neg (by omega), if_pos (by omega)]
    · rw [zz, mZ, if_neg (by omega), if_neg (by omega), if_pos (by omega)]
  -- the levels' names
  simp only [s_3_58, s_3_59, s_3_61, cl (show 16 < 2 ^ 31 by omega), nI_pos (show 16 < 2 ^ 31 by omega), (show 16 ≤ 100000000 by omega), not_false_eq_true, and_self, true_and]
  generalize eM : vh_new hL 1 16 16 = hM
  have gM : GW hL hM 4 1 16 := by rw [← eM]; exact GW_new
  have nM : vh_n hM = 42 := by rw [gM.1.1, nL]
  have kM4 : vh_K hM 4 = 102 := by rw [(gM.2.1 4 (by omega)).1]; exact kL4
  simp only [s_3_63, kM4, true_and]
  generalize eN : vh_wR hM 4 6 (some (vh_n hL)) = hN
  have gN0 : GW hM hN 4 0 0 := by rw [← eN]; exact GW_wR
  have gN : GW hL hN 4 1 16 := GW_trans gM gN0
  have nN : vh_n hN = 42 := by rw [gN.1.1, nL]
  have kN4 : vh_K hN 4 = 102 := by rw [(gN.2.1 4 (by omega)).1]; exact kL4
  have rN : ∀ j, vh_R hN 4 j = if j = 6 then some 41 else vh_R hL 4 j := fun j => by
    rw [← eN, vh_R_wR]
    by_cases w : j = 6
    · rw [if_pos ⟨rfl, w⟩, if_pos w, nL]
    · rw [if_neg (fun z => w z.2), if_neg w, ← eM, vh_R_new, if_neg (by omega)]
  have iN : ∀ j, vh_I hN 4 j = vh_I hL 4 j := fun j => by rw [← eN, vh_I_wR, ← eM, vh_I_new, if_neg (by omega)]
  have a41 : vh_K hN 41 = 1 ∧ vh_Z hN 41 = 16 := by
    rw [← eN, vh_K_wR, vh_Z_wR, ← eM, vh_K_new, vh_Z_new, if_pos nL.symm, if_pos nL.symm]
    exact ⟨rfl, rfl⟩
  -- last
  simp only [s_3_66, s_3_67, s_3_70, s_3_71, vh_K_new, if_true, true_and]
  generalize eO : vh_new hN 101 0 2 = hO
  have nO : vh_n hO = 43 := by rw [← eO, vh_n_new, nN]
  refine k_initF (h := hO) (by rw [← eO, vh_K_new, if_pos rfl]) (by omega) (fun hP g3 p1 p2 => ?_)
  have kP : vh_K hP 4 = 102 := by rw [(g3.2.1 4 (by omega)).1, ← eO, vh_K_new, if_neg (by omega)]; exact kN4
  simp only [Option.toList_none, List.nil_append, s_3_74, kP, true_and]
  generalize eQ : vh_wR hP 4 7 (some (vh_n hN)) = hQ1
  obtain ⟨gQ, rQ, rQ', iQ, oQ, qQ, kQ⟩ := put_new (by omega) eO g3 eQ
  have gPQ : GW hP hQ1 4 0 0 := by rw [← eQ]; exact GW_wR
  have nP : vh_n hP = 45 := by rw [g3.1.1, nO]
  have nQ : vh_n hQ1 = 45 := by rw [gPQ.1.1, nP]
  have kQ4 : vh_K hQ1 4 = 102 := by rw [(oQ 4).1]; exact kP
  rw [nN, nO] at p1
  rw [nO] at p2
  rw [nN] at rQ
  have ftQ : FT hQ1 42 43 44 := FT_GW gPQ p1 (by omega) (by omega) (by omega) (by decide)
  have zQ : ∀ b j, b = 43 ∨ b = 44 → vh_I hQ1 b j = 0 := fun b j hb => by rw [(oQ b).2.2]; exact p2 b j (by omega) (by omega)
  -- fresh
  simp only [s_3_77, s_3_78, s_3_81, s_3_82, vh_K_new, if_true, true_and]
  generalize eR : vh_new hQ1 101 0 2 = hR
  have nR : vh_n hR = 46 := by rw [← eR, vh_n_new, nQ]
  refine k_initF (h := hR) (by rw [← eR, vh_K_new, if_pos rfl]) (by omega) (fun hS g4 s1 s2 => ?_)
  have kS : vh_K hS 4 = 102 := by rw [(g4.2.1 4 (by omega)).1, ← eR, vh_K_new, if_neg (by omega)]; exact kQ4
  simp only [Option.toList_none, List.nil_append, s_3_85, kS, true_and]
  generalize eT : vh_wR hS 4 8 (some (vh_n hQ1)) = hT
  obtain ⟨gT, rT, rT', iT, oT, qT, kT⟩ := put_new (by omega) eR g4 eT
  have gST : GW hS hT 4 0 0 := by rw [← eT]; exact GW_wR
  have nS : vh_n hS = 48 := by rw [g4.1.1, nR]
  have nT : vh_n hT = 48 := by rw [gST.1.1, nS]
  have kT4 : vh_K hT 4 = 102 := by rw [(oT 4).1]; exact kS
  rw [nQ, nR] at s1
  rw [nR] at s2
  rw [nQ] at rT
  have ftT : FT hT 45 46 47 := FT_GW gST s1 (by omega) (by omega) (by omega) (by decide)
  have zT : ∀ b j, b = 46 ∨ b = 47 → vh_I hT b j = 0 := fun b j hb => by rw [(oT b).2.2]; exact s2 b j (by omega) (by omega)
  -- the end
  simp only [s_3_88, s_3_89, s_3_90, s_3_93, s_3_94, s_3_95, s_3_98, vh_K_wI, kT4, true_and]
  generalize eU : vh_wI (vh_wI hT 4 9 (nI 0)) 4 10 (nI 0) = hU
  have gU : GW hT hU 4 0 0 := by rw [← eU]; exact GW_trans GW_wI GW_wI
  have rU : ∀ b j, vh_R hU b j = vh_R hT b j := fun b j => by rw [← eU]; rfl
  have iU : ∀ j, j ≠ 9 → j ≠ 10 → vh_I hU 4 j = vh_I hT 4 j := fun j j1 j2 => by rw [← eU, vh_I_wI, if_neg (fun z => j2 z.2), vh_I_wI, if_neg (fun z => j1 z.2)]
  have iU9 : vh_I hU 4 9 = 0 := by rw [← eU, vh_I_wI, if_neg (by decide), vh_I_wI, if_pos ⟨rfl, rfl⟩]; rfl
  have iU10 : vh_I hU 4 10 = 0 := by rw [← eU, vh_I_wI, if_pos ⟨rfl, rfl⟩]; rfl
  have tQ := GW_trans gT gU
  have tN := GW_trans gQ tQ
  have tL := GW_trans gN tN
  have tJ := GW_trans gL tL
  have tG := GW_trans gJ tJ
  have tD := GW_trans gG tG
  have tA := GW_trans gD tD
  have t0 := GW_trans gA tA
  refine hQ hU t0 ⟨⟨?_, ?_, ?_, ?_, ?_, ?_, ?_⟩, SO_GW tD (by omega) soD, FT_GW tG ftG (by omega) (by omega) (by omega) (by decide), CL_GW (by decide) tJ (by omega) clJ, ?_, ?_, FT_GW tQ ftQ (by omega) (by omega) (by omega) (by decide), FT_GW gU ftT (by omega) (by omega) (by omega) (by decide), ⟨?_, ?_, iU9, iU10⟩, ?_, fun b j hb => ?_⟩
  · rw [rU, rT' _ (by decide), rQ' _ (by decide), rN, if_neg (by decide), rL, if_neg (by decide), rJ' _ (by decide), rG' _ (by decide)]; exact rD
  · rw [rU, rT' _ (by decide), rQ' _ (by decide), rN, if_neg (by decide), rL, if_neg (by decide), rJ' _ (by decide)]; exact rG
  · rw [rU, rT' _ (by decide), rQ' _ (by decide), rN, if_neg (by decide), rL, if_neg (by decide)]; exact rJ
  · rw [rU, rT' _ (by decide), rQ' _ (by decide), rN, if_neg (by decide), rL, if_pos rfl]
  · rw [rU, rT' _ (by decide), rQ' _ (by decide), rN, if_pos rfl]
  · rw [rU, rT' _ (by decide)]; exact rQ
  · rw [rU]; exact rT
  · obtain ⟨⟨w1, w2⟩, w3⟩ := rowL
    refine ⟨⟨(tL.2.1 24 (by omega)).1.trans w1, (tL.2.1 24 (by omega)).2.trans w2⟩, fun n hn => ⟨((tL.2.2.1 24 n (by omega) (by decide)).2).trans (w3 n hn).1, (tL.2.1 _ (by omega)).1.trans (w3 n hn).2.1, (tL.2.1 _ (by omega)).2.trans (w3 n hn).2.2⟩⟩
  · exact ⟨(tN.2.1 41 (by omega)).1.trans a41.1, (tN.2.1 41 (by omega)).2.trans a41.2⟩
  · rw [iU 0 (by decide) (by decide), iT, iQ, iN, iL, iJ, iG, iD]; exact iA0
  · rw [iU 1 (by decide) (by decide), iT, iQ, iN, iL, iJ, iG, iD]; exact iA1
  · rw [(tD.2.2.1 5 4 (by omega) (by decide)).1]; exact i54
  · rcases hb with w | w | w | w | w | w | w
    · rw [w, (tD.2.2.1 9 j (by omega) (by decide)).1]; exact i9 j
    · rw [w, (tG.2.2.1 11 j (by omega) (by decide)).1]; exact zG 11 j (Or.inl rfl)
    · rw [w, (tG.2.2.1 12 j (by omega) (by decide)).1]; exact zG 12 j (Or.inr rfl)
    · rw [w, (tQ.2.2.1 43 j (by omega) (by decide)).1]; exact zQ 43 j (Or.inl rfl)
    · rw [w, (tQ.2.2.1 44 j (by omega) (by decide)).1]; exact zQ 44 j (Or.inr rfl)
    · rw [w, (gU.2.2.1 46 j (by omega) (by decide)).1]; exact zT 46 j (Or.inl rfl)
    · rw [w, (gU.2.2.1 47 j (by omega) (by decide)).1]; exact zT 47 j (Or.inr rfl)

-- ===== the reference's calls that change something =====
theorem hc_set {S : Nat → Nat → Nat → Bool} {n a b x : Nat} {v : Bool} (ha : a < 32) (hb : b < 32) : hc (fp_set S n a b v) x = if x = 1024 * n + 32 * a + b then v else hc S x := by
  unfold hc fp_set
  by_cases w : x = 1024 * n + 32 * a + b
  · rw [if_pos w, if_pos (by rw [w, cd_1 ha hb, cd_2 ha hb, cd_3 ha hb]; exact ⟨rfl, rfl, rfl⟩)]
  · rw [if_neg w, if_neg (by omega)]
theorem r_fact {n a b c : Nat} {S : Nat → Nat → Nat → Bool} {h : vt_H} {Q : vt_Q} {ρs : Nat → Nat → Nat} (hn : n < 16) (ha : a < 32) (hb : b < 32) (hM : MM h ρs c S) (hQ0 : S n a b = true → Q (some (.int (nI 0))) h)
    (hQ : ¬ S n a b = true → ∀ f', FO h f' → MM (vh_sI h f') ρs c (fp_set S n a b true) → Q (some (.int (nI 1))) (vh_sI h f')) : Wp 82 0 [.ref 129, .int (nI n), .int (nI a), .int (nI b)] [] h Q := by
  obtain ⟨hZ, hR, hS, -⟩ := hM
  have hZ' := hZ
  obtain ⟨mk, ⟨mr0, mk0, mz0⟩, ⟨mr1, mk1, mz1⟩, ⟨mr2, mk2, mz2⟩, ⟨mr3, mk3, mz3⟩, ⟨mr4, mk4, mz4⟩, ⟨mr5, mk5, mz5⟩, ⟨mr6, mk6, mz6⟩, ⟨mr7, mk7, mz7⟩, ⟨mr8, mk8, mz8⟩, ⟨mr9, mk9, mz9⟩, ⟨mr10, mk10, mz10⟩, ⟨mr11, mk11, mz11⟩, ⟨mr12, mk12, mz12⟩, ⟨mr13, mk13, mz13⟩, ⟨mr14, mk14, mz14⟩, ⟨mr15, mk15, mz15⟩, ⟨mr16, mk16, mz16⟩, ⟨mr17, mk17, mz17⟩, ⟨mr18, mk18, mz18⟩⟩ := hZ
  have e := hS (1024 * n + 32 * a + b) (by omega)
  rw [hc_code ha hb] at e
  rw [m_fact Q ⟨mk, mr0, mk0, mz0⟩ hn ha hb, e]
  by_cases w : S n a b = true
  · rw [if_pos w, if_neg (by decide)]; exact hQ0 w
  · rw [if_neg w, if_pos (by decide)]
    refine hQ w _ (fun x hx j => ?_) ⟨hZ', MRs_c hR (fun x x1 x2 j => ?_) ?_, fun x hx => ?_, fun z => ?_⟩
    · rw [up2_a _ _ _ (by omega), up2_a _ _ _ (by omega)]
    · rw [vh_I_sI, up2_a _ _ _ (by omega), up2_a _ _ _ (by omega)]
    · rw [vh_I_sI, up2_i _ _ _ _ (by decide), up2_a _ _ _ (by decide)]
    · rw [vh_I_sI, up2_a _ _ _ (by decide), hc_set ha hb]
      by_cases q : x = 1024 * n + 32 * a + b
      · rw [if_pos q, q, up2_s]; rfl
      · rw [if_neg q, up2_i _ _ _ _ q]; exact hS x hx
    · rw [vh_I_sI, up2_s] at z
      exact absurd rfl z
theorem r_remove {n a b c : Nat} {S : Nat → Nat → Nat → Bool} {h : vt_H} {Q : vt_Q} {ρs : Nat → Nat → Nat} (hn : n < 16) (ha : a < 32) (hb : b < 32) (hM : MM h ρs c S) (hQ0 : ¬ S n a b = true → Q (some (.int (nI 0))) h)
    (hQ : S n a b = true → ∀ f', FO h f' → MM (vh_sI h f') ρs c (fp_set S n a b false) → Q (some (.int (nI 1))) (vh_sI h f')) : Wp 87 0 [.ref 129, .int (nI n), .int (nI a), .int (nI b)] [] h Q := by
  obtain ⟨hZ, hR, hS, -⟩ := hM
  have hZ' := hZ
  obtain ⟨mk, ⟨mr0, mk0, mz0⟩, ⟨mr1, mk1, mz1⟩, ⟨mr2, mk2, mz2⟩, ⟨mr3, mk3, mz3⟩, ⟨mr4, mk4, mz4⟩, ⟨mr5, mk5, mz5⟩, ⟨mr6, mk6, mz6⟩, ⟨mr7, mk7, mz7⟩, ⟨mr8, mk8, mz8⟩, ⟨mr9, mk9, mz9⟩, ⟨mr10, mk10, mz10⟩, ⟨mr11, mk11, mz11⟩, ⟨mr12, mk12, mz12⟩, ⟨mr13, mk13, mz13⟩, ⟨mr14, mk14, mz14⟩, ⟨mr15, mk15, mz15⟩, ⟨mr16, mk16, mz16⟩, ⟨mr17, mk17, mz17⟩, ⟨mr18, mk18, mz18⟩⟩ := hZ
  have e := hS (1024 * n + 32 * a + b) (by omega)
  rw [hc_code ha hb] at e
  rw [m_remove Q ⟨mk, mr0, mk0, mz0⟩ hn ha hb, e]
  by_cases w : S n a b = true
  · rw [if_pos w, if_neg (by decide)]
    refine hQ w _ (fun x hx j => ?_) ⟨hZ', MRs_c hR (fun x x1 x2 j => ?_) ?_, fun x hx => ?_, fun z => ?_⟩
    · rw [up2_a _ _ _ (by omega), up2_a _ _ _ (by omega)]
    · rw [vh_I_sI, up2_a _ _ _ (by omega), up2_a _ _ _ (by omega)]
    · rw [vh_I_sI, up2_i _ _ _ _ (by decide), up2_a _ _ _ (by decide)]
    · rw [vh_I_sI, up2_a _ _ _ (by decide), hc_set ha hb]
      by_cases q : x = 1024 * n + 32 * a + b
      · rw [if_pos q, q, up2_s]; rfl
      · rw [if_neg q, up2_i _ _ _ _ q]; exact hS x hx
    · rw [vh_I_sI, up2_s] at z
      exact absurd rfl z
  · rw [if_neg w, if_pos (by decide)]; exact hQ0 w
theorem MR_mv {f f' : Nat → Nat → Int32} {i i' : Nat} {ρ : Nat → Nat} (h : MR f i ρ) (e1 : ∀ j, j < 3 → f' 131 (3 * i' + j) = f 131 (3 * i + j)) (e2 : f' 132 i' = f 132 i) (e3 : f' 133 i' = f 133 i) (e4 : f' 134 i' = f 134 i) (e5 : ∀ j, j < 20 → f' 135 (20 * i' + j) = f 135 (20 * i + j)) : MR f' i' ρ := by
  obtain ⟨hok, h0, h1, h2, h3, h4, h5, hp⟩ := h
  refine ⟨hok, (e1 0 (by decide)).trans h0, (e1 1 (by decide)).trans h1, (e1 2 (by decide)).trans h2, e2.trans h3, fun z => ⟨e3.trans (h4 z).1, (h4 z).2⟩, e4.trans h5, fun p hp' => ?_⟩
  have p5 : p < 5 := by have := hok.1.2.2.2.1; omega
  obtain ⟨q0, q1, q2, q3⟩ := hp p hp'
  refine ⟨(e5 (4 * p) (by omega)).trans q0, ?_, ?_, ?_⟩
  · exact (e5 (4 * p + 1) (by omega)).trans q1
  · exact (e5 (4 * p + 2) (by omega)).trans q2
  · exact (e5 (4 * p + 3) (by omega)).trans q3
theorem r_rule {n x y c : Nat} {S : Nat → Nat → Nat → Bool} {h : vt_H} {Q : vt_Q} {ρs : Nat → Nat → Nat} (hn : n < 16) (hx : x < 38) (hy : y < 38) (hM : MM h ρs c S) (hQ0 : c = 16 → Q (some (.int (-nI 3))) h)
    (hQ : c < 16 → ∀ f', FO h f' → MM (vh_sI h f') (set_r ρs c (ruleN n x y)) (c + 1) S → Q (some (.int (nI c))) (vh_sI h f')) : Wp 88 0 [.ref 129, .int (nI n), .int (jI x), .int (jI y)] [] h Q := by
  obtain ⟨hZ, ⟨c16, hcr, hV⟩, hS, -⟩ := hM
  have hZ' := hZ
  obtain ⟨mk, ⟨mr0, mk0, mz0⟩, ⟨mr1, mk1, mz1⟩, ⟨mr2, mk2, mz2⟩, ⟨mr3, mk3, mz3⟩, ⟨mr4, mk4, mz4⟩, ⟨mr5, mk5, mz5⟩, ⟨mr6, mk6, mz6⟩, ⟨mr7, mk7, mz7⟩, ⟨mr8, mk8, mz8⟩, ⟨mr9, mk9, mz9⟩, ⟨mr10, mk10, mz10⟩, ⟨mr11, mk11, mz11⟩, ⟨mr12, mk12, mz12⟩, ⟨mr13, mk13, mz13⟩, ⟨mr14, mk14, mz14⟩, ⟨mr15, mk15, mz15⟩, ⟨mr16, mk16, mz16⟩, ⟨mr17, mk17, mz17⟩, ⟨mr18, mk18, mz18⟩⟩ := hZ
  rw [m_rule Q ⟨mk, ⟨mr1, mk1, mz1⟩, ⟨mr2, mk2, mz2⟩, ⟨mr3, mk3, mz3⟩, ⟨mr4, mk4, mz4⟩⟩ (nbadH hn hx hy) hcr c16]
  by_cases w : c = 16
  · rw [if_pos w]; exact hQ0 w
  · rw [if_neg w]
    generalize hf : (up2 (up2 (up2 (up2 (up2 (up2 (up2 (up2 (vh_I h) 131 (3 * c) (nI n)) 131 (3 * c + 1) (jI x)) 131 (3 * c + 2) (jI y)) 132 c (-nI 1)) 133 c (nI 0)) 134 c (nI 0)) 129 6 (nI (c + 1))) 129 7 (nI 0)) = f'
    have e1 : ∀ p, (p < 3 * c ∨ 3 * c + 2 < p) → f' 131 p = vh_I h 131 p := fun p hp => by
      rw [← hf, up2_a _ _ _ (by decide), up2_a _ _ _ (by decide), up2_a _ _ _ (by decide), up2_a _ _ _ (by decide), up2_a _ _ _ (by decide), up2_i _ _ _ _ (by omega), up2_i _ _ _ _ (by omega), up2_i _ _ _ _ (by omega)]
    have e10 : f' 131 (3 * c) = nI n := by
      rw [← hf, up2_a _ _ _ (by decide), up2_a _ _ _ (by decide), up2_a _ _ _ (by decide), up2_a _ _ _ (by decide), up2_a _ _ _ (by decide), up2_i _ _ _ _ (by omega), up2_i _ _ _ _ (by omega), up2_s]
    have e11 : f' 131 (3 * c + 1) = jI x := by
      rw [← hf, up2_a _ _ _ (by decide), up2_a _ _ _ (by decide), up2_a _ _ _ (by decide), up2_a _ _ _ (by decide), up2_a _ _ _ (by decide), up2_i _ _ _ _ (by omega), up2_s]
    have e12 : f' 131 (3 * c + 2) = jI y := by
      rw [← hf, up2_a _ _ _ (by decide), up2_a _ _ _ (by decide), up2_a _ _ _ (by decide), up2_a _ _ _ (by decide), up2_a _ _ _ (by decide), up2_s]
    have e2 : ∀ p, p ≠ c → f' 132 p = vh_I h 132 p := fun p hp => by
      rw [← hf, up2_a _ _ _ (by decide), up2_a _ _ _ (by decide), up2_a _ _ _ (by decide), up2_a _ _ _ (by decide), up2_i _ _ _ _ hp, up2_a _ _ _ (by decide), up2_a _ _ _ (by decide), up2_a _ _ _ (by decide)]
    have e20 : f' 132 c = -nI 1 := by rw [← hf, up2_a _ _ _ (by decide), up2_a _ _ _ (by decide), up2_a _ _ _ (by decide), up2_a _ _ _ (by decide), up2_s]
    have e3 : ∀ p, p ≠ c → f' 133 p = vh_I h 133 p := fun p hp => by
      rw [← hf, up2_a _ _ _ (by decide), up2_a _ _ _ (by decide), up2_a _ _ _ (by decide), up2_i _ _ _ _ hp, up2_a _ _ _ (by decide), up2_a _ _ _ (by decide), up2_a _ _ _ (by decide), up2_a _ _ _ (by decide)]
    have e4 : ∀ p, p ≠ c → f' 134 p = vh_I h 134 p := fun p hp => by
      rw [← hf, up2_a _ _ _ (by decide), up2_a _ _ _ (by decide), up2_i _ _ _ _ hp, up2_a _ _ _ (by decide), up2_a _ _ _ (by decide), up2_a _ _ _ (by decide), up2_a _ _ _ (by decide), up2_a _ _ _ (by decide)]
    have e40 : f' 134 c = nI 0 := by rw [← hf, up2_a _ _ _ (by decide), up2_a _ _ _ (by decide), up2_s]
    have eo : ∀ z, (z < 129 ∨ 134 < z ∨ z = 130) → ∀ j, f' z j = vh_I h z j := fun z hz j => by
      rw [← hf, up2_a _ _ _ (by omega), up2_a _ _ _ (by omega), up2_a _ _ _ (by omega), up2_a _ _ _ (by omega), up2_a _ _ _ (by omega), up2_a _ _ _ (by omega), up2_a _ _ _ (by omega), up2_a _ _ _ (by omega)]
    refine hQ (by omega) f' (fun z hz j => eo z (by omega) j) ⟨hZ', ⟨by omega, ?_, fun i hi => ?_⟩, fun z hz => ?_, fun z => ?_⟩
    · rw [vh_I_sI, ← hf, up2_i _ _ _ _ (by decide), up2_s]
    · rw [vh_I_sI]
      unfold set_r
      by_cases q : i = c
      · rw [if_pos q, q]
        unfold MR okR sec
        rw [ruleN_0, ruleN_1, ruleN_2, ruleN_3 (j := 3) (by omega), ruleN_3 (j := 5) (by omega), if_pos rfl, e10, e11, e12, e20, e40, kI_0]
        exact ⟨⟨⟨hn, hx, hy, by omega, by omega⟩, fun p hp => absurd hp (Nat.not_lt_zero p)⟩, rfl, rfl, rfl, rfl, fun z => absurd rfl z, rfl, fun p hp => absurd hp (Nat.not_lt_zero p)⟩
      · rw [if_neg q]
        exact MR_mv (hV i (by omega)) (fun j hj => e1 _ (by omega)) (e2 _ q) (e3 _ q) (e4 _ q) (fun j hj => eo 135 (by omega) _)
    · rw [vh_I_sI, eo 130 (by omega)]; exact hS z hz
    · rw [vh_I_sI, ← hf, up2_s] at z
      exact absurd rfl z
theorem r_part {i d n x y c : Nat} {s w : Int32} {S : Nat → Nat → Nat → Bool} {h : vt_H} {Q : vt_Q} {ρs : Nat → Nat → Nat} (hi : i < c) (hd : d < 5) (hn : n < 16) (hx : x < 38) (hy : y < 38) (es : s = nI (so d)) (ew : w = nI (wh d n)) (hM : MM h ρs c S) (hQ0 : ρs i 5 = 5 → Q (some (.int (-nI 3))) h)
    (hQ : ρs i 5 < 5 → ∀ f', FO h f' → MM (vh_sI h f') (set_r ρs i (addP (ρs i) d n x y)) c S → Q (some (.int (nI (ρs i 5 + 1)))) (vh_sI h f')) : Wp 92 0 [.ref 129, .int (nI i), .int s, .int w, .int (jI x), .int (jI y), vt_un] [] h Q := by
  obtain ⟨hZ, ⟨c16, hcr, hV⟩, hS, -⟩ := hM
  have hZ' := hZ
  obtain ⟨mk, ⟨mr0, mk0, mz0⟩, ⟨mr1, mk1, mz1⟩, ⟨mr2, mk2, mz2⟩, ⟨mr3, mk3, mz3⟩, ⟨mr4, mk4, mz4⟩, ⟨mr5, mk5, mz5⟩, ⟨mr6, mk6, mz6⟩, ⟨mr7, mk7, mz7⟩, ⟨mr8, mk8, mz8⟩, ⟨mr9, mk9, mz9⟩, ⟨mr10, mk10, mz10⟩, ⟨mr11, mk11, mz11⟩, ⟨mr12, mk12, mz12⟩, ⟨mr13, mk13, mz13⟩, ⟨mr14, mk14, mz14⟩, ⟨mr15, mk15, mz15⟩, ⟨mr16, mk16, mz16⟩, ⟨mr17, mk17, mz17⟩, ⟨mr18, mk18, mz18⟩⟩ := hZ
  have V := hV i hi
  obtain ⟨hok, v0, v1, v2, v3, v4, v5, vp⟩ := V
  have k5' : ρs i 5 ≤ 5 := hok.1.2.2.2.1
  rw [m_part Q ⟨mk, mr4, mk4, mz4, mr5, mk5, mz5⟩ (by omega) v5 k5', es, ew]
  by_cases q : ρs i 5 = 5
  · rw [if_pos q]; exact hQ0 q
  · rw [if_neg q]
    have k5 : ρs i 5 < 5 := by omega
    generalize hf : (up2 (up2 (up2 (up2 (up2 (up2 (vh_I h) 135 (20 * i + 4 * ρs i 5) (nI (so d))) 135 (20 * i + 4 * ρs i 5 + 1) (nI (wh d n))) 135 (20 * i + 4 * ρs i 5 + 2) (jI x)) 135 (20 * i + 4 * ρs i 5 + 3) (jI y)) 134 i (nI (ρs i 5 + 1))) 129 7 (nI 0)) = f'
    have e5 : ∀ p, (p < 20 * i + 4 * ρs i 5 ∨ 20 * i + 4 * ρs i 5 + 3 < p) → f' 135 p = vh_I h 135 p := fun p hp => by
      rw [← hf, up2_a _ _ _ (by decide), up2_a _ _ _ (by decide), up2_i _ _ _ _ (by omega), up2_i _ _ _ _ (by omega), up2_i _ _ _ _ (by omega), up2_i _ _ _ _ (by omega)]
    have s0 : f' 135 (20 * i + 4 * ρs i 5) = nI (so d) := by
      rw [← hf, up2_a _ _ _ (by decide), up2_a _ _ _ (by decide), up2_i _ _ _ _ (by omega), up2_i _ _ _ _ (by omega), up2_i _ _ _ _ (by omega), up2_s]
    have s1 : f' 135 (20 * i + 4 * ρs i 5 + 1) = nI (wh d n) := by
      rw [← hf, up2_a _ _ _ (by decide), up2_a _ _ _ (by decide), up2_i _ _ _ _ (by omega), up2_i _ _ _ _ (by omega), up2_s]
    have s2 : f' 135 (20 * i + 4 * ρs i 5 + 2) = jI x := by
      rw [← hf, up2_a _ _ _ (by decide), up2_a _ _ _ (by decide), up2_i _ _ _ _ (by omega), up2_s]
    have s3 : f' 135 (20 * i + 4 * ρs i 5 + 3) = jI y := by
      rw [← hf, up2_a _ _ _ (by decide), up2_a _ _ _ (by decide), up2_s]
    have e4 : ∀ p, p ≠ i → f' 134 p = vh_I h 134 p := fun p hp => by
      rw [← hf, up2_a _ _ _ (by decide), up2_i _ _ _ _ hp, up2_a _ _ _ (by decide), up2_a _ _ _ (by decide), up2_a _ _ _ (by decide), up2_a _ _ _ (by decide)]
    have e40 : f' 134 i = nI (ρs i 5 + 1) := by rw [← hf, up2_a _ _ _ (by decide), up2_s]
    have eo : ∀ z, (z < 129 ∨ 135 < z ∨ (129 < z ∧ z < 134)) → ∀ j, f' z j = vh_I h z j := fun z hz j => by
      rw [← hf, up2_a _ _ _ (by omega), up2_a _ _ _ (by omega), up2_a _ _ _ (by omega), up2_a _ _ _ (by omega), up2_a _ _ _ (by omega), up2_a _ _ _ (by omega)]
    have e9 : f' 129 6 = vh_I h 129 6 := by rw [← hf, up2_i _ _ _ _ (by decide), up2_a _ _ _ (by decide), up2_a _ _ _ (by decide), up2_a _ _ _ (by decide), up2_a _ _ _ (by decide), up2_a _ _ _ (by decide)]
    refine hQ k5 f' (fun z hz j => eo z (by omega) j) ⟨hZ', ⟨c16, ?_, fun i' hi' => ?_⟩, fun z hz => ?_, fun z => ?_⟩
    · rw [vh_I_sI, e9]; exact hcr
    · rw [vh_I_sI]
      unfold set_r
      by_cases w2 : i' = i
      · rw [if_pos w2, w2]
        have sec' : sec (addP (ρs i) d n x y) = sec (ρs i) := by
          unfold sec
          rw [addP_o (by decide) (by omega), addP_o (by decide) (by omega), addP_o (by decide) (by omega)]
        refine ⟨⟨?_, fun p hp => ?_⟩, ?_, ?_, ?_, ?_, ?_, ?_, fun p hp => ?_⟩
        · rw [addP_o (by decide) (by omega), addP_o (by decide) (by omega), sec', addP_5, addP_o (by decide) (by omega)]
          exact ⟨hok.1.1, hok.1.2.1, hok.1.2.2.1, by omega, hok.1.2.2.2.2⟩
        · rw [addP_5] at hp
          by_cases w3 : p = ρs i 5
          · rw [w3, addP_d, addP_n, addP_x, addP_y]
            exact ⟨hn, hx, hy, hd⟩
          · rw [addP_o (by omega) (by omega), addP_o (by omega) (by omega), addP_o (by omega) (by omega), addP_o (by omega) (by omega)]
            exact hok.2 p (by omega)
        · rw [eo 131 (by omega), addP_o (by decide) (by omega)]; exact v0
        · rw [eo 131 (by omega), addP_o (by decide) (by omega)]; exact v1
        · rw [eo 131 (by omega), addP_o (by decide) (by omega)]; exact v2
        · rw [eo 132 (by omega), addP_o (by decide) (by omega)]; exact v3
        · rw [eo 133 (by omega), addP_o (by decide) (by omega), addP_o (by decide) (by omega)]; exact v4
        · rw [e40, addP_5]
        · rw [addP_5] at hp
          by_cases w3 : p = ρs i 5
          · rw [w3, addP_d, addP_n, addP_x, addP_y]
            exact ⟨s0, s1, s2, s3⟩
          · rw [addP_o (by omega) (by omega), addP_o (by omega) (by omega), addP_o (by omega) (by omega), addP_o (by omega) (by omega), e5 _ (by omega), e5 _ (by omega), e5 _ (by omega), e5 _ (by omega)]
            exact vp p (by omega)
      · rw [if_neg w2]
        exact MR_mv (hV i' hi') (fun j hj => eo 131 (by omega) _) (eo 132 (by omega) _) (eo 133 (by omega) _) (e4 _ w2) (fun j hj => e5 _ (by omega))
    · rw [vh_I_sI, eo 130 (by omega)]; exact hS z hz
    · rw [vh_I_sI, ← hf, up2_s] at z
      exact absurd rfl z
theorem r_body_bad {r n x y t : Int32} {c : Nat} {S : Nat → Nat → Nat → Bool} {h : vt_H} {Q : vt_Q} {ρs : Nat → Nat → Nat} (hM : MM h ρs c S) (hb : (n < 0 ∨ nI 16 ≤ n) ∨ jbadP (nI c) r x y) (hQ : Q (some (.int (-nI 1))) h) : Wp 90 0 [.ref 129, .int r, .int n, .int x, .int y, .int t] [] h Q := by
  have hE := hM.1.1
  have hcr := hM.2.1.2.1
  have bad : Wp 90 52 [.ref 129, .int r, .int n, .int x, .int y, .int t] [] h Q := by
    simp only [s_90_52, s_90_53]
    exact hQ
  simp only [s_90_0, s_90_1, s_90_2, s_90_5, hE, true_and, m_isRule _ hE, va_rf_s, pk_mul, nI_add, not_false_eq_true, and_self, true_and, Option.toList_some, Option.toList_none, List.append_nil, List.cons_append, List.nil_append, nI_01, nI_11, vh_K_wI, vh_R_wI, vh_Z_wI, vh_wI_sI, vh_K_sI, vh_R_sI, vh_Z_sI, vh_sI_sI, vh_I_sI, jb_0, hcr]
  by_cases w1 : r < 0 ∨ nI c ≤ r
  · rw [if_pos (fun z => z w1)]; exact bad
  · rw [if_neg (fun z => z w1)]
    simp only [s_90_8, s_90_9, s_90_12, c_isName, va_rf_s, pk_mul, nI_add, not_false_eq_true, and_self, true_and, Option.toList_some, Option.toList_none, List.append_nil, List.cons_append, List.nil_append, nI_01, nI_11, vh_K_wI, vh_R_wI, vh_Z_wI, vh_wI_sI, vh_K_sI, vh_R_sI, vh_Z_sI, vh_sI_sI, vh_I_sI, jb_0]
    by_cases w2 : n < 0 ∨ nI 16 ≤ n
    · rw [if_pos (fun z => z w2)]; exact bad
    · rw [if_neg (fun z => z w2)]
      simp only [s_90_15, s_90_16, s_90_19, c_isItem, va_rf_s, pk_mul, nI_add, not_false_eq_true, and_self, true_and, Option.toList_some, Option.toList_none, List.append_nil, List.cons_append, List.nil_append, nI_01, nI_11, vh_K_wI, vh_R_wI, vh_Z_wI, vh_wI_sI, vh_K_sI, vh_R_sI, vh_Z_sI, vh_sI_sI, vh_I_sI, jb_0]
      by_cases w3 : x < -nI 6 ∨ nI 32 ≤ x
      · rw [if_pos (fun z => z w3)]; exact bad
      · rw [if_neg (fun z => z w3)]
        simp only [s_90_22, s_90_24, s_90_27, c_isItem, va_rf_s, pk_mul, nI_add, not_false_eq_true, and_self, true_and, Option.toList_some, Option.toList_none, List.append_nil, List.cons_append, List.nil_append, nI_01, nI_11, vh_K_wI, vh_R_wI, vh_Z_wI, vh_wI_sI, vh_K_sI, vh_R_sI, vh_Z_sI, vh_sI_sI, vh_I_sI, jb_0]
        by_cases w4 : y < -nI 6 ∨ nI 32 ≤ y
        · rw [if_pos (fun z => z w4)]; exact bad
        · exfalso
          rcases hb with z | z | z | z
          · exact w2 z
          · exact w1 z
          · exact w3 z
          · exact w4 z
theorem r_body {i n x y c : Nat} {t : Int32} {S : Nat → Nat → Nat → Bool} {h : vt_H} {Q : vt_Q} {ρs : Nat → Nat → Nat} (hi : i < c) (hn : n < 16) (hx : x < 38) (hy : y < 38) (hM : MM h ρs c S) (hQ0 : ρs i 5 = 5 → Q (some (.int (-nI 3))) h)
    (hQ : ρs i 5 < 5 → ∀ f', FO h f' → MM (vh_sI h f') (set_r ρs i (addP (ρs i) (if t = 0 then 3 else 4) n x y)) c S → Q (some (.int (nI (ρs i 5 + 1)))) (vh_sI h f')) : Wp 90 0 [.ref 129, .int (nI i), .int (nI n), .int (jI x), .int (jI y), .int t] [] h Q := by
  have c16 := hM.2.1.1
  rw [m_body Q hM.1.1 (by rw [hM.2.1.2.1]; exact fun z => z.elim (nI_pos (by omega)) (nI_ge hi (by omega))) (fun z => z.elim (nI_pos (by omega)) (nI_ge hn (by omega))) (jI_ok x hx) (jI_ok y hy)]
  refine r_part (d := if t = 0 then 3 else 4) (n := n) hi (by split <;> omega) hn hx hy (by split <;> rfl) (by split <;> rfl) hM (fun z => ?_) (fun z f' a1 a2 => ?_)
  · simp only [va_rf_s, pk_mul, nI_add, not_false_eq_true, and_self, true_and, Option.toList_some, Option.toList_none, List.append_nil, List.cons_append, List.nil_append, nI_01, nI_11, vh_K_wI, vh_R_wI, vh_Z_wI, vh_wI_sI, vh_K_sI, vh_R_sI, vh_Z_sI, vh_sI_sI, vh_I_sI, s_90_49, s_90_53]
    exact hQ0 z
  · simp only [va_rf_s, pk_mul, nI_add, not_false_eq_true, and_self, true_and, Option.toList_some, Option.toList_none, List.append_nil, List.cons_append, List.nil_append, nI_01, nI_11, vh_K_wI, vh_R_wI, vh_Z_wI, vh_wI_sI, vh_K_sI, vh_R_sI, vh_Z_sI, vh_sI_sI, vh_I_sI, s_90_49, s_90_53]
    exact hQ z f' a1 a2
theorem r_filter_bad {r d x y : Int32} {c : Nat} {S : Nat → Nat → Nat → Bool} {h : vt_H} {Q : vt_Q} {ρs : Nat → Nat → Nat} (hM : MM h ρs c S) (hb : (d < 0 ∨ nI 3 ≤ d) ∨ jbadP (nI c) r x y) (hQ : Q (some (.int (-nI 1))) h) : Wp 93 0 [.ref 129, .int r, .int d, .int x, .int y] [] h Q := by
  have hE := hM.1.1
  have hcr := hM.2.1.2.1
  have bad : Wp 93 45 [.ref 129, .int r, .int d, .int x, .int y] [] h Q := by
    simp only [s_93_45, s_93_46]
    exact hQ
  simp only [s_93_0, s_93_1, s_93_2, s_93_5, hE, true_and, m_isRule _ hE, va_rf_s, pk_mul, nI_add, not_false_eq_true, and_self, true_and, Option.toList_some, Option.toList_none, List.append_nil, List.cons_append, List.nil_append, nI_01, nI_11, vh_K_wI, vh_R_wI, vh_Z_wI, vh_wI_sI, vh_K_sI, vh_R_sI, vh_Z_sI, vh_sI_sI, vh_I_sI, jb_0, hcr]
  by_cases w1 : r < 0 ∨ nI c ≤ r
  · rw [if_pos (fun z => z w1)]; exact bad
  · rw [if_neg (fun z => z w1)]
    simp only [s_93_8, s_93_9]
    by_cases w2 : d < 0
    · rw [if_pos w2]; exact bad
    · rw [if_neg w2]
      simp only [s_93_12, s_93_13, s_93_14]
      by_cases w2' : nI 3 ≤ d
      · rw [if_pos w2']; exact bad
      · rw [if_neg w2']
        simp only [s_93_17, s_93_18, s_93_21, c_isItem, va_rf_s, pk_mul, nI_add, not_false_eq_true, and_self, true_and, Option.toList_some, Option.toList_none, List.append_nil, List.cons_append, List.nil_append, nI_01, nI_11, vh_K_wI, vh_R_wI, vh_Z_wI, vh_wI_sI, vh_K_sI, vh_R_sI, vh_Z_sI, vh_sI_sI, vh_I_sI, jb_0]
        by_cases w3 : x < -nI 6 ∨ nI 32 ≤ x
        · rw [if_pos (fun z => z w3)]; exact bad
        · rw [if_neg (fun z => z w3)]
          simp only [s_93_24, s_93_26, s_93_29, c_isItem, va_rf_s, pk_mul, nI_add, not_false_eq_true, and_self, true_and, Option.toList_some, Option.toList_none, List.append_nil, List.cons_append, List.nil_append, nI_01, nI_11, vh_K_wI, vh_R_wI, vh_Z_wI, vh_wI_sI, vh_K_sI, vh_R_sI, vh_Z_sI, vh_sI_sI, vh_I_sI, jb_0]
          by_cases w4 : y < -nI 6 ∨ nI 32 ≤ y
          · rw [if_pos (fun z => z w4)]; exact bad
          · exfalso
            rcases hb with (z | z) | z | z | z
            · exact w2 z
            · exact w2' z
            · exact w1 z
            · exact w3 z
            · exact w4 z
theorem so_wh : ∀ d, d < 3 → so d = 2 ∧ ∀ n, wh d n = d := by
  intro d hd
  unfold so wh
  rw [if_neg (by omega), if_neg (by omega)]
  exact ⟨rfl, fun n => if_pos hd⟩
theorem r_filter {i d x y c : Nat} {S : Nat → Nat → Nat → Bool} {h : vt_H} {Q : vt_Q} {ρs : Nat → Nat → Nat} (hi : i < c) (hd : d < 3) (hx : x < 38) (hy : y < 38) (hM : MM h ρs c S) (hQ0 : ρs i 5 = 5 → Q (some (.int (-nI 3))) h)
    (hQ : ρs i 5 < 5 → ∀ f', FO h f' → MM (vh_sI h f') (set_r ρs i (addP (ρs i) d 0 x y)) c S → Q (some (.int (nI (ρs i 5 + 1)))) (vh_sI h f')) : Wp 93 0 [.ref 129, .int (nI i), .int (nI d), .int (jI x), .int (jI y)] [] h Q := by
  have c16 := hM.2.1.1
  rw [m_filter Q hM.1.1 (by rw [hM.2.1.2.1]; exact fun z => z.elim (nI_pos (by omega)) (nI_ge hi (by omega))) (fun z => z.elim (nI_pos (by omega)) (nI_ge hd (by omega))) (jI_ok x hx) (jI_ok y hy)]
  refine r_part (d := d) (n := 0) hi (by omega) (by omega) hx hy (by rw [(so_wh d hd).1]) (by rw [(so_wh d hd).2]) hM (fun z => ?_) (fun z f' a1 a2 => ?_)
  · simp only [va_rf_s, pk_mul, nI_add, not_false_eq_true, and_self, true_and, Option.toList_some, Option.toList_none, List.append_nil, List.cons_append, List.nil_append, nI_01, nI_11, vh_K_wI, vh_R_wI, vh_Z_wI, vh_wI_sI, vh_K_sI, vh_R_sI, vh_Z_sI, vh_sI_sI, vh_I_sI, s_93_42, s_93_46]
    exact hQ0 z
  · simp only [va_rf_s, pk_mul, nI_add, not_false_eq_true, and_self, true_and, Option.toList_some, Option.toList_none, List.append_nil, List.cons_append, List.nil_append, nI_01, nI_11, vh_K_wI, vh_R_wI, vh_Z_wI, vh_wI_sI, vh_K_sI, vh_R_sI, vh_Z_sI, vh_sI_sI, vh_I_sI, s_93_42, s_93_46]
    exact hQ z f' a1 a2
theorem i32_m1 {kd : Int32} (h1 : kd < 0) (h2 : ¬ kd < -nI 1) : kd = -nI 1 := by
  have a := Int32.lt_iff_toInt_lt.mp h1
  have b : ¬ kd.toInt < (-nI 1).toInt := fun z => h2 (Int32.lt_iff_toInt_lt.mpr z)
  have c : (-nI 1 : Int32).toInt = -1 := by decide
  have d : (0 : Int32).toInt = 0 := by decide
  rw [c] at b
  rw [d] at a
  exact Int32.toInt_inj.mp (by rw [c]; omega)
theorem kv_of {c : Nat} {r kd vr : Int32} (h : ¬ jbadA (nI c) r kd vr) : ∃ k v, kv k v kd vr := by
  have h2 : ¬ (kd < -nI 1 ∨ nI 3 < kd) := fun z => h (Or.inr (Or.inl z))
  have h3 : ¬ (¬ kd = -nI 1 ∧ (vr < -nI 6 ∨ -nI 1 < vr)) := fun z => h (Or.inr (Or.inr z))
  by_cases w : kd < 0
  · exact ⟨0, 0, by omega, (i32_m1 w (fun z => h2 (Or.inl z))).trans kI_0.symm, fun z => absurd rfl z⟩
  · obtain ⟨k, k1, k2⟩ := jrng (x := kd) (N := 4) (by omega) (fun z => z.elim w (fun y => h2 (Or.inr (Int32.lt_of_lt_of_le (show nI 3 < nI 4 by decide) y))))
    have ne : ¬ kd = -nI 1 := fun z => w (by rw [z]; decide)
    have hv : ¬ (vr < -nI 6 ∨ -nI 1 < vr) := fun z => h3 ⟨ne, z⟩
    obtain ⟨v, v1, v2⟩ := jI_of (x := vr) (fun z => z.elim (fun y => hv (Or.inl y)) (fun y => hv (Or.inr (Int32.lt_of_lt_of_le (show -nI 1 < nI 32 by decide) y))))
    refine ⟨k + 1, v, by omega, by rw [k2]; exact (if_neg (by omega) : kI (k + 1) = nI (k + 1 - 1)).symm, fun _ => ⟨v2, ?_, v1⟩⟩
    refine Classical.byContradiction (fun y => hv (Or.inr ?_))
    rw [v2]
    exact (by decide +kernel : ∀ v, v < 32 → -nI 1 < jI v) v (by omega)
theorem r_aggregate_bad {r kd vr : Int32} {c : Nat} {S : Nat → Nat → Nat → Bool} {h : vt_H} {Q : vt_Q} {ρs : Nat → Nat → Nat} (hM : MM h ρs c S) (hb : jbadA (nI c) r kd vr) (hQ : Q (some (.int (-nI 1))) h) : Wp 94 0 [.ref 129, .int r, .int kd, .int vr] [] h Q := by
  have hE := hM.1.1
  have hcr := hM.2.1.2.1
  have bad : Wp 94 33 [.ref 129, .int r, .int kd, .int vr] [] h Q := by
    simp only [s_94_33, s_94_34]
    exact hQ
  simp only [s_94_0, s_94_1, s_94_2, s_94_5, hE, true_and, m_isRule _ hE, va_rf_s, pk_mul, nI_add, not_false_eq_true, and_self, true_and, Option.toList_some, Option.toList_none, List.append_nil, List.cons_append, List.nil_append, nI_01, nI_11, vh_K_wI, vh_R_wI, vh_Z_wI, vh_wI_sI, vh_K_sI, vh_R_sI, vh_Z_sI, vh_sI_sI, vh_I_sI, jb_0, hcr]
  by_cases w1 : r < 0 ∨ nI c ≤ r
  · rw [if_pos (fun z => z w1)]; exact bad
  · rw [if_neg (fun z => z w1)]
    simp only [s_94_8, s_94_9, s_94_10]
    by_cases w2 : kd < -nI 1
    · rw [if_pos w2]; exact bad
    · rw [if_neg w2]
      simp only [s_94_13, s_94_14, s_94_15]
      by_cases w3 : nI 3 < kd
      · rw [if_pos w3]; exact bad
      · rw [if_neg w3]
        simp only [s_94_18, s_94_19]
        have hb3 : ¬ kd = -nI 1 ∧ (vr < -nI 6 ∨ -nI 1 < vr) := by
          rcases hb with z | (z | z) | z
          · exact absurd z w1
          · exact absurd z w2
          · exact absurd z w3
          · exact z
        rw [if_neg (fun z => hb3.1 (i32_m1 z w2))]
        simp only [s_94_22, s_94_23, s_94_24]
        by_cases w5 : -nI 1 < vr
        · rw [if_pos w5]; exact bad
        · rw [if_neg w5]
          simp only [s_94_27, s_94_28, s_94_30]
          rw [if_neg (fun z => absurd (hb3.2.resolve_right w5) (Int32.not_lt.mpr z))]
          exact bad
theorem r_aggregate {i k v c : Nat} {kd vr : Int32} {S : Nat → Nat → Nat → Bool} {h : vt_H} {Q : vt_Q} {ρs : Nat → Nat → Nat} (hi : i < c) (h38 : ρs i 2 < 38) (hk : kv k v kd vr) (hM : MM h ρs c S)
    (hQ : ∀ f', FO h f' → MM (vh_sI h f') (set_r ρs i (setK (ρs i) k v)) c S → Q (some (.int (nI 1))) (vh_sI h f')) : Wp 94 0 [.ref 129, .int (nI i), .int kd, .int vr] [] h Q := by
  obtain ⟨hZ, ⟨c16, hcr, hV⟩, hS, -⟩ := hM
  have hZ' := hZ
  obtain ⟨mk, ⟨mr0, mk0, mz0⟩, ⟨mr1, mk1, mz1⟩, ⟨mr2, mk2, mz2⟩, ⟨mr3, mk3, mz3⟩, ⟨mr4, mk4, mz4⟩, ⟨mr5, mk5, mz5⟩, ⟨mr6, mk6, mz6⟩, ⟨mr7, mk7, mz7⟩, ⟨mr8, mk8, mz8⟩, ⟨mr9, mk9, mz9⟩, ⟨mr10, mk10, mz10⟩, ⟨mr11, mk11, mz11⟩, ⟨mr12, mk12, mz12⟩, ⟨mr13, mk13, mz13⟩, ⟨mr14, mk14, mz14⟩, ⟨mr15, mk15, mz15⟩, ⟨mr16, mk16, mz16⟩, ⟨mr17, mk17, mz17⟩, ⟨mr18, mk18, mz18⟩⟩ := hZ
  obtain ⟨hok, v0, v1, v2, v3, v4, v5, vp⟩ := hV i hi
  have nb := nbadA hi c16 hk
  rw [m_aggregate Q ⟨mk, ⟨mr1, mk1, mz1⟩, ⟨mr2, mk2, mz2⟩, ⟨mr3, mk3, mz3⟩, ⟨mr4, mk4, mz4⟩⟩ (fun z => nb (by
    rw [hcr] at z
    rcases z with z | z | ⟨z1, z2⟩
    · exact Or.inl z
    · exact Or.inr (Or.inl z)
    · exact Or.inr (Or.inr ⟨fun y => z1 (by rw [y]; decide), z2.symm⟩))) (by omega)]
  generalize hf : (up2 (up2 (up2 (vh_I h) 132 i kd) 133 i vr) 129 7 (nI 0)) = f'
  have e2 : ∀ p, p ≠ i → f' 132 p = vh_I h 132 p := fun p hp => by rw [← hf, up2_a _ _ _ (by decide), up2_a _ _ _ (by decide), up2_i _ _ _ _ hp]
  have e20 : f' 132 i = kd := by rw [← hf, up2_a _ _ _ (by decide), up2_a _ _ _ (by decide), up2_s]
  have e3 : ∀ p, p ≠ i → f' 133 p = vh_I h 133 p := fun p hp => by rw [← hf, up2_a _ _ _ (by decide), up2_i _ _ _ _ hp, up2_a _ _ _ (by decide)]
  have e30 : f' 133 i = vr := by rw [← hf, up2_a _ _ _ (by decide), up2_s]
  have eo : ∀ z, z ≠ 129 → z ≠ 132 → z ≠ 133 → ∀ j, f' z j = vh_I h z j := fun z z1 z2 z3 j => by rw [← hf, up2_a _ _ _ z1, up2_a _ _ _ z3, up2_a _ _ _ z2]
  have e9 : f' 129 6 = vh_I h 129 6 := by rw [← hf, up2_i _ _ _ _ (by decide), up2_a _ _ _ (by decide), up2_a _ _ _ (by decide)]
  have s3 : setK (ρs i) k v 3 = k := if_pos rfl
  have s4 : setK (ρs i) k v 4 = v := by unfold setK; rw [if_neg (by decide), if_pos rfl]
  refine hQ f' (fun z hz j => eo z (by omega) (by omega) (by omega) j) ⟨hZ', ⟨c16, ?_, fun i' hi' => ?_⟩, fun z hz => ?_, fun z => ?_⟩
  · rw [vh_I_sI, e9]; exact hcr
  · rw [vh_I_sI]
    unfold set_r
    by_cases w2 : i' = i
    · rw [if_pos w2, w2]
      refine ⟨⟨?_, fun p hp => ?_⟩, ?_, ?_, ?_, ?_, ?_, ?_, fun p hp => ?_⟩
      · rw [setK_o (by decide) (by decide), setK_o (by decide) (by decide), setK_o (j := 5) (by decide) (by decide), s3]
        refine ⟨hok.1.1, hok.1.2.1, ?_, hok.1.2.2.2.1, hk.1⟩
        unfold sec
        rw [s3, s4]
        by_cases w3 : k = 0
        · rw [if_pos w3, setK_o (by decide) (by decide)]; exact h38
        · rw [if_neg w3]; exact (hk.2.2 w3).2.2
      · rw [setK_o (by omega) (by omega), setK_o (by omega) (by omega), setK_o (by omega) (by omega), setK_o (by omega) (by omega)]
        rw [setK_o (by decide) (by decide)] at hp
        exact hok.2 p hp
      · rw [eo 131 (by decide) (by decide) (by decide), setK_o (by decide) (by decide)]; exact v0
      · rw [eo 131 (by decide) (by decide) (by decide), setK_o (by decide) (by decide)]; exact v1
      · rw [eo 131 (by decide) (by decide) (by decide), setK_o (by decide) (by decide)]; exact v2
      · rw [e20, s3]; exact hk.2.1
      · rw [e30, s3, s4]; exact fun z => ⟨(hk.2.2 z).1, (hk.2.2 z).2.1⟩
      · rw [eo 134 (by decide) (by decide) (by decide), setK_o (by decide) (by decide)]; exact v5
      · rw [setK_o (by omega) (by omega), setK_o (by omega) (by omega), setK_o (by omega) (by omega), setK_o (by omega) (by omega), eo 135 (by decide) (by decide) (by decide), eo 135 (by decide) (by decide) (by decide), eo 135 (by decide) (by decide) (by decide), eo 135 (by decide) (by decide) (by decide)]
        rw [setK_o (by decide) (by decide)] at hp
        exact vp p hp
    · rw [if_neg w2]
      exact MR_mv (hV i' hi') (fun j hj => eo 131 (by decide) (by decide) (by decide) _) (e2 _ w2) (e3 _ w2) (eo 134 (by decide) (by decide) (by decide) _) (fun j hj => eo 135 (by decide) (by decide) (by decide) _)
  · rw [vh_I_sI, eo 130 (by decide) (by decide) (by decide)]; exact hS z hz
  · rw [vh_I_sI, ← hf, up2_s] at z
    exact absurd rfl z

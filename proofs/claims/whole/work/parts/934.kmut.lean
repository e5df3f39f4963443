-- ===== the class's calls that change something =====
theorem CE_stale {h : vt_H} {f' : Nat → Nat → Int32} {la fr U c c' : Nat} {g q : Nat → Nat} {ρs ρs' : Nat → Nat → Nat} {S S' : Nat → Nat → Nat → Bool} (hE : CE h la fr g U q ρs c S) (hV : RVs f' q ρs' c') (h03 : f' 0 3 = nI c') (hS : FR f' 2 3 S') (e : ∀ x, 41 < x → x < 48 → ∀ j, f' x j = vh_I h x j) (e4 : ∀ j, j ≠ 0 → f' 4 j = vh_I h 4 j) (s : f' 4 0 = nI 1) : CE (vh_sI h f') la fr g U q ρs' c' S' := by
  obtain ⟨hG, -, -, -, ⟨r1, r2, r3, r4⟩, -⟩ := hE
  have hlf := hG.2.2.2.1.2.2.2.2.2.2.2.2.2
  refine ⟨hG, hV, h03, hS, ⟨fun n a b z1 z2 z3 => ?_, fun n a b z1 z2 z3 => ?_, ?_, ?_⟩, fun z => ?_⟩
  · rw [vh_I_sI, e (la + 1) (by omega) (by omega), e (la + 2) (by omega) (by omega)]; exact r1 n a b z1 z2 z3
  · rw [vh_I_sI, e (fr + 1) (by omega) (by omega), e (fr + 2) (by omega) (by omega)]; exact r2 n a b z1 z2 z3
  · rw [vh_I_sI, e4 9 (by decide)]; exact r3
  · rw [vh_I_sI, e4 10 (by decide)]; exact r4
  · rw [vh_I_sI, s] at z
    exact absurd z nI_10
theorem k_fact {n a b U c : Nat} {S : Nat → Nat → Nat → Bool} {h : vt_H} {Q : vt_Q} {ρs : Nat → Nat → Nat} (hn : n < 16) (ha : a < 32) (hb : b < 32) (hC : CC h U ρs c S) (hQ0 : S n a b = true → Q (some (.int (nI 0))) h)
    (hQ : ¬ S n a b = true → ∀ h', CC h' U ρs c (fp_set S n a b true) → FX h h' → Q (some (.int (nI 1))) h') : Wp 7 0 [.ref 0, .int (nI n), .int (nI a), .int (nI b)] [] h Q := by
  obtain ⟨la, fr, g, q, hE, hD⟩ := hC
  have hE' := hE
  obtain ⟨hG, hV, hc, hS, -, -⟩ := hE'
  rw [c_fact Q hG.1 hn ha hb, (hS n a b hn ha hb).1]
  by_cases w : S n a b = true
  · rw [if_pos w]; exact hQ0 w
  · rw [if_neg w]
    refine hQ w _ ⟨la, fr, g, q, CE_stale hE (RVs_c hG.2.2.2.2.2 hV (fun x x1 x2 j => ?_)) ?_ (fun n' a' b' z1 z2 z3 => ?_) (fun x x1 x2 j => ?_) (fun j hj => ?_) (up2_s _ _ _ _), hD⟩ (FX_sI (fun x x1 x2 j => ?_))
    · rw [up2_a _ _ _ (by omega), up2_a _ _ _ (by omega), up2_a _ _ _ (by omega)]
    · rw [up2_a _ _ _ (by omega), up2_a _ _ _ (by omega), up2_a _ _ _ (by omega)]; exact hc
    · rw [up2_a _ _ _ (show 2 ≠ 4 by decide), up2_a _ _ _ (show 3 ≠ 4 by decide)]
      exact FR_add hS (by decide) hn ha hb n' a' b' z1 z2 z3
    · rw [up2_a _ _ _ (by omega), up2_a _ _ _ (by omega), up2_a _ _ _ (by omega)]
    · rw [up2_i _ _ _ _ hj, up2_a _ _ _ (by omega), up2_a _ _ _ (by omega)]
    · rw [up2_a _ _ _ (by omega), up2_a _ _ _ (by omega), up2_a _ _ _ (by omega)]
theorem k_remove {n a b U c : Nat} {S : Nat → Nat → Nat → Bool} {h : vt_H} {Q : vt_Q} {ρs : Nat → Nat → Nat} (hn : n < 16) (ha : a < 32) (hb : b < 32) (hC : CC h U ρs c S) (hQ0 : ¬ S n a b = true → Q (some (.int (nI 0))) h)
    (hQ : S n a b = true → ∀ h', CC h' U ρs c (fp_set S n a b false) → FX h h' → Q (some (.int (nI 1))) h') : Wp 13 0 [.ref 0, .int (nI n), .int (nI a), .int (nI b)] [] h Q := by
  obtain ⟨la, fr, g, q, hE, hD⟩ := hC
  have hE' := hE
  obtain ⟨hG, hV, hc, hS, -, -⟩ := hE'
  rw [c_remove Q hG.1 hn ha hb, (hS n a b hn ha hb).1]
  by_cases w : S n a b = true
  · rw [if_pos w]
    refine hQ w _ ⟨la, fr, g, q, CE_stale hE (RVs_c hG.2.2.2.2.2 hV (fun x x1 x2 j => ?_)) ?_ (fun n' a' b' z1 z2 z3 => ?_) (fun x x1 x2 j => ?_) (fun j hj => ?_) (up2_s _ _ _ _), hD⟩ (FX_sI (fun x x1 x2 j => ?_))
    · rw [up2_a _ _ _ (by omega), up2_a _ _ _ (by omega), up2_a _ _ _ (by omega)]
    · rw [up2_a _ _ _ (by omega), up2_a _ _ _ (by omega), up2_a _ _ _ (by omega)]; exact hc
    · rw [up2_a _ _ _ (show 2 ≠ 4 by decide), up2_a _ _ _ (show 3 ≠ 4 by decide)]
      exact FR_cut hS (by decide) hn ha hb n' a' b' z1 z2 z3
    · rw [up2_a _ _ _ (by omega), up2_a _ _ _ (by omega), up2_a _ _ _ (by omega)]
    · rw [up2_i _ _ _ _ hj, up2_a _ _ _ (by omega), up2_a _ _ _ (by omega)]
    · rw [up2_a _ _ _ (by omega), up2_a _ _ _ (by omega), up2_a _ _ _ (by omega)]
  · rw [if_neg w]; exact hQ0 w
/-- another rule at one place -/
def set_r (ρs : Nat → Nat → Nat) (i0 : Nat) (ρ : Nat → Nat) : Nat → Nat → Nat := fun i => if i = i0 then ρ else ρs i
theorem QD_ne {q : Nat → Nat} (hD : QD q) {i j : Nat} (hi : i < 16) (hj : j < 16) (h : i ≠ j) : q i + 4 < q j ∨ q j + 4 < q i := by
  obtain ⟨k, k1, k2⟩ := hD.1 i hi
  obtain ⟨l, l1, l2⟩ := hD.1 j hj
  have : q i ≠ q j := fun z => h (hD.2 i j hi hj z)
  omega
theorem QD_b {q : Nat → Nat} (hD : QD q) {i : Nat} (hi : i < 16) : 49 ≤ q i ∧ q i + 4 < 129 := by
  obtain ⟨k, k1, k2⟩ := hD.1 i hi
  omega
theorem RVs_upd {f f' : Nat → Nat → Int32} {q : Nat → Nat} {ρs : Nat → Nat → Nat} {ρ : Nat → Nat} {c c' i0 : Nat} (hD : QD q) (hV : RVs f q ρs c) (hi : i0 < 16) (h16 : c' ≤ 16) (hc : ∀ i, i < c' → i = i0 ∨ i < c) (e : ∀ x, 48 < x → x < 129 → (x < q i0 ∨ q i0 + 4 < x) → ∀ j, f' x j = f x j) (hn : RV f' (q i0) (q i0 + 1) (q i0 + 2) (q i0 + 3) (q i0 + 4) ρ) : RVs f' q (set_r ρs i0 ρ) c' := by
  refine ⟨h16, fun i hi' => ?_⟩
  unfold set_r
  by_cases w : i = i0
  · rw [if_pos w, w]; exact hn
  · rw [if_neg w]
    have hic := (hc i hi').resolve_left w
    have d := QD_ne hD (show i < 16 by omega) hi w
    have b := QD_b hD (show i < 16 by omega)
    exact RV_c (hV.2 i hic) (fun j => e _ (by omega) (by omega) (by omega) j) (fun j => e _ (by omega) (by omega) (by omega) j) (fun j => e _ (by omega) (by omega) (by omega) j) (fun j => e _ (by omega) (by omega) (by omega) j) (fun j => e _ (by omega) (by omega) (by omega) j)
def ruleN (n x y : Nat) : Nat → Nat := fun j => if j = 0 then n else if j = 1 then x else if j = 2 then y else 0
theorem ruleN_0 {n x y : Nat} : ruleN n x y 0 = n := if_pos rfl
theorem ruleN_1 {n x y : Nat} : ruleN n x y 1 = x := by unfold ruleN; rw [if_neg (by decide), if_pos rfl]
theorem ruleN_2 {n x y : Nat} : ruleN n x y 2 = y := by unfold ruleN; rw [if_neg (by decide), if_neg (by decide), if_pos rfl]
theorem ruleN_3 {n x y j : Nat} (h : 2 < j) : ruleN n x y j = 0 := by unfold ruleN; rw [if_neg (by omega), if_neg (by omega), if_neg (by omega)]
theorem kI_0 : kI 0 = -nI 1 := if_pos rfl
theorem nbadH {n x y : Nat} (hn : n < 16) (hx : x < 38) (hy : y < 38) : ¬ jbadH (nI n) (jI x) (jI y) := by
  rintro (z | z | z)
  · exact z.elim (nI_pos (by omega)) (nI_ge hn (by omega))
  · exact jI_ok x hx z
  · exact jI_ok y hy z
theorem k_rule {n x y U c : Nat} {S : Nat → Nat → Nat → Bool} {h : vt_H} {Q : vt_Q} {ρs : Nat → Nat → Nat} (hn : n < 16) (hx : x < 38) (hy : y < 38) (hC : CC h U ρs c S) (hQ0 : c = 16 → Q (some (.int (-nI 3))) h)
    (hQ : c < 16 → ∀ h', CC h' U (set_r ρs c (ruleN n x y)) (c + 1) S → FX h h' → Q (some (.int (nI c))) h') : Wp 15 0 [.ref 0, .int (nI n), .int (jI x), .int (jI y)] [] h Q := by
  obtain ⟨la, fr, g, q, hE, hD⟩ := hC
  have hE' := hE
  obtain ⟨hG, hV, hc, hS, -, -⟩ := hE'
  have hRS := hG.2.2.2.2.2
  have c16 := hV.1
  by_cases w : c = 16
  · rw [c_rule (r := 1) (d := 0) (na := 0) (xs := 0) (ys := 0) Q hG.1 (nbadH hn hx hy) hc c16 hRS.1 (fun z => absurd z (by omega)) (fun z => absurd z (by omega)) (by decide), if_pos w]
    exact hQ0 w
  · have hlt : c < 16 := by omega
    have b := QD_b hD hlt
    rw [c_rule (r := q c) (d := q c + 1) (na := q c + 2) (xs := q c + 3) (ys := q c + 4) Q hG.1 (nbadH hn hx hy) hc c16 hRS.1 (fun z => (hRS.2 c z).1) (fun z => (hRS.2 c z).2.1) (by omega), if_neg w]
    generalize hr : q c = r at b
    generalize hf : (up2 (up2 (up2 (up2 (up2 (up2 (up2 (up2 (vh_I h) r 0 (nI n)) r 1 (jI x)) r 2 (jI y)) r 3 (-nI 1)) r 4 (nI 0)) r 5 (nI 0)) 4 0 (nI 1)) 0 3 (nI (c + 1))) = f'
    have e : ∀ z, z ≠ r → z ≠ 4 → z ≠ 0 → ∀ j, f' z j = vh_I h z j := by
      intro z z1 z2 z3 j
      rw [← hf]
      simp only [up2_a _ _ _ z1, up2_a _ _ _ z2, up2_a _ _ _ z3]
    have r5 : f' r 5 = nI 0 := by rw [← hf, up2_a _ _ _ (by omega), up2_a _ _ _ (by omega), up2_s]
    have r4 : f' r 4 = nI 0 := by rw [← hf, up2_a _ _ _ (by omega), up2_a _ _ _ (by omega), up2_i _ _ _ _ (by decide), up2_s]
    have r3 : f' r 3 = -nI 1 := by rw [← hf, up2_a _ _ _ (by omega), up2_a _ _ _ (by omega), up2_i _ _ _ _ (by decide), up2_i _ _ _ _ (by decide), up2_s]
    have r2 : f' r 2 = jI y := by rw [← hf, up2_a _ _ _ (by omega), up2_a _ _ _ (by omega), up2_i _ _ _ _ (by decide), up2_i _ _ _ _ (by decide), up2_i _ _ _ _ (by decide), up2_s]
    have r1 : f' r 1 = jI x := by rw [← hf, up2_a _ _ _ (by omega), up2_a _ _ _ (by omega), up2_i _ _ _ _ (by decide), up2_i _ _ _ _ (by decide), up2_i _ _ _ _ (by decide), up2_i _ _ _ _ (by decide), up2_s]
    have r0 : f' r 0 = nI n := by rw [← hf, up2_a _ _ _ (by omega), up2_a _ _ _ (by omega), up2_i _ _ _ _ (by decide), up2_i _ _ _ _ (by decide), up2_i _ _ _ _ (by decide), up2_i _ _ _ _ (by decide), up2_i _ _ _ _ (by decide), up2_s]
    refine hQ hlt _ ⟨la, fr, g, q, CE_stale hE (RVs_upd hD hV hlt (by omega) (fun i hi => by omega) (fun z z1 z2 z3 j => e z (by omega) (by omega) (by omega) j) ?_) ?_ (fun n' a' b' z1 z2 z3 => ?_) (fun z z1 z2 j => e z (by omega) (by omega) (by omega) j) (fun j hj => ?_) ?_, hD⟩ (FX_sI (fun z z1 z2 j => e z (by omega) (by omega) (by omega) j))
    · rw [hr]
      unfold RV
      rw [ruleN_0, ruleN_1, ruleN_2, ruleN_3 (j := 3) (by omega), ruleN_3 (j := 5) (by omega), r0, r1, r2, r3, r5, kI_0]
      exact ⟨⟨rfl, hn⟩, ⟨rfl, hx⟩, ⟨rfl, hy⟩, ⟨rfl, by omega⟩, fun z => absurd rfl z, ⟨rfl, by omega⟩, fun i hi => absurd hi (Nat.not_lt_zero i)⟩
    · rw [← hf, up2_s]
    · rw [e 2 (by omega) (by omega) (by omega), e 3 (by omega) (by omega) (by omega)]
      exact hS n' a' b' z1 z2 z3
    · rw [← hf, up2_a _ _ _ (by omega), up2_i _ _ _ _ hj]
      simp only [up2_a _ _ _ (show 4 ≠ r by omega)]
    · rw [← hf, up2_a _ _ _ (by omega), up2_s]
/-- a rule with one part more -/
def addP (ρ : Nat → Nat) (d n x y : Nat) : Nat → Nat := fun j => if j = 5 then ρ 5 + 1 else if j = 10 + 4 * ρ 5 then d else if j = 11 + 4 * ρ 5 then n else if j = 12 + 4 * ρ 5 then x else if j = 13 + 4 * ρ 5 then y else ρ j
theorem addP_o {ρ : Nat → Nat} {d n x y j : Nat} (h1 : j ≠ 5) (h2 : j < 10 + 4 * ρ 5) : addP ρ d n x y j = ρ j := by
  unfold addP
  rw [if_neg h1, if_neg (by omega), if_neg (by omega), if_neg (by omega), if_neg (by omega)]
theorem addP_5 {ρ : Nat → Nat} {d n x y : Nat} : addP ρ d n x y 5 = ρ 5 + 1 := if_pos rfl
theorem addP_d {ρ : Nat → Nat} {d n x y : Nat} : addP ρ d n x y (10 + 4 * ρ 5) = d := by
  unfold addP
  rw [if_neg (by omega), if_pos rfl]
theorem addP_n {ρ : Nat → Nat} {d n x y : Nat} : addP ρ d n x y (11 + 4 * ρ 5) = n := by
  unfold addP
  rw [if_neg (by omega), if_neg (by omega), if_pos rfl]
theorem addP_x {ρ : Nat → Nat} {d n x y : Nat} : addP ρ d n x y (12 + 4 * ρ 5) = x := by
  unfold addP
  rw [if_neg (by omega), if_neg (by omega), if_neg (by omega), if_pos rfl]
theorem addP_y {ρ : Nat → Nat} {d n x y : Nat} : addP ρ d n x y (13 + 4 * ρ 5) = y := by
  unfold addP
  rw [if_neg (by omega), if_neg (by omega), if_neg (by omega), if_neg (by omega), if_pos rfl]
theorem nbadP {i c x y : Nat} (hi : i < c) (hc : c ≤ 16) (hx : x < 38) (hy : y < 38) : ¬ jbadP (nI c) (nI i) (jI x) (jI y) := by
  rintro (z | z | z)
  · exact z.elim (nI_pos (by omega)) (nI_ge hi (by omega))
  · exact jI_ok x hx z
  · exact jI_ok y hy z
theorem k_addPart {i d n x y U c : Nat} {S : Nat → Nat → Nat → Bool} {h : vt_H} {Q : vt_Q} {ρs : Nat → Nat → Nat} (hi : i < c) (hd : d < 5) (hn : n < 16) (hx : x < 38) (hy : y < 38) (hC : CC h U ρs c S) (hQ0 : ρs i 5 = 5 → Q (some (.int (-nI 3))) h)
    (hQ : ρs i 5 < 5 → ∀ h', CC h' U (set_r ρs i (addP (ρs i) d n x y)) c S → FX h h' → Q (some (.int (nI (ρs i 5 + 1)))) h') : Wp 19 0 [.ref 0, .int (nI i), .int (nI d), .int (nI n), .int (jI x), .int (jI y)] [] h Q := by
  obtain ⟨la, fr, g, q, hE, hD⟩ := hC
  have hE' := hE
  obtain ⟨hG, hV, hc, hS, -, -⟩ := hE'
  have hRS := hG.2.2.2.2.2
  have c16 := hV.1
  have i16 : i < 16 := by omega
  have b := QD_b hD i16
  have V := hV.2 i hi
  have hR := (hRS.2 i i16).2.1
  rw [c_addPartE Q hG.1 (by rw [hc]; exact nbadP hi c16 hx hy) i16 hRS.1 (hRS.2 i i16).1 hR V.2.2.2.2.2.1.1 V.2.2.2.2.2.1.2 ⟨⟨by omega, by omega, by omega, by omega⟩, by omega⟩]
  by_cases w : ρs i 5 = 5
  · rw [if_pos w]; exact hQ0 w
  · rw [if_neg w]
    have k5 : ρs i 5 < 5 := by have := V.2.2.2.2.2.1.2; omega
    generalize hr : q i = r at b V
    generalize hf : (up2 (up2 (up2 (up2 (up2 (up2 (vh_I h) (r + 1) (ρs i 5) (nI d)) (r + 2) (ρs i 5) (nI n)) (r + 3) (ρs i 5) (jI x)) (r + 4) (ρs i 5) (jI y)) r 5 (nI (ρs i 5 + 1))) 4 0 (nI 1)) = f'
    have e : ∀ z, z < r ∨ r + 4 < z → z ≠ 4 → ∀ j, f' z j = vh_I h z j := by
      intro z z1 z2 j
      rw [← hf, up2_a _ _ _ z2, up2_a _ _ _ (by omega), up2_a _ _ _ (by omega), up2_a _ _ _ (by omega), up2_a _ _ _ (by omega), up2_a _ _ _ (by omega)]
    have e0 : ∀ j, j ≠ 5 → f' r j = vh_I h r j := by
      intro j hj
      rw [← hf, up2_a _ _ _ (by omega), up2_i _ _ _ _ hj, up2_a _ _ _ (by omega), up2_a _ _ _ (by omega), up2_a _ _ _ (by omega), up2_a _ _ _ (by omega)]
    have e5 : f' r 5 = nI (ρs i 5 + 1) := by rw [← hf, up2_a _ _ _ (by omega), up2_s]
    have p1 : ∀ j, j ≠ ρs i 5 → f' (r + 1) j = vh_I h (r + 1) j := by
      intro j hj
      rw [← hf, up2_a _ _ _ (by omega), up2_a _ _ _ (by omega), up2_a _ _ _ (by omega), up2_a _ _ _ (by omega), up2_a _ _ _ (by omega), up2_i _ _ _ _ hj]
    have p2 : ∀ j, j ≠ ρs i 5 → f' (r + 2) j = vh_I h (r + 2) j := by
      intro j hj
      rw [← hf, up2_a _ _ _ (by omega), up2_a _ _ _ (by omega), up2_a _ _ _ (by omega), up2_a _ _ _ (by omega), up2_i _ _ _ _ hj, up2_a _ _ _ (by omega)]
    have p3 : ∀ j, j ≠ ρs i 5 → f' (r + 3) j = vh_I h (r + 3) j := by
      intro j hj
      rw [← hf, up2_a _ _ _ (by omega), up2_a _ _ _ (by omega), up2_a _ _ _ (by omega), up2_i _ _ _ _ hj, up2_a _ _ _ (by omega), up2_a _ _ _ (by omega)]
    have p4 : ∀ j, j ≠ ρs i 5 → f' (r + 4) j = vh_I h (r + 4) j := by
      intro j hj
      rw [← hf, up2_a _ _ _ (by omega), up2_a _ _ _ (by omega), up2_i _ _ _ _ hj, up2_a _ _ _ (by omega), up2_a _ _ _ (by omega), up2_a _ _ _ (by omega)]
    have s1 : f' (r + 1) (ρs i 5) = nI d := by rw [← hf, up2_a _ _ _ (by omega), up2_a _ _ _ (by omega), up2_a _ _ _ (by omega), up2_a _ _ _ (by omega), up2_a _ _ _ (by omega), up2_s]
    have s2 : f' (r + 2) (ρs i 5) = nI n := by rw [← hf, up2_a _ _ _ (by omega), up2_a _ _ _ (by omega), up2_a _ _ _ (by omega), up2_a _ _ _ (by omega), up2_s]
    have s3 : f' (r + 3) (ρs i 5) = jI x := by rw [← hf, up2_a _ _ _ (by omega), up2_a _ _ _ (by omega), up2_a _ _ _ (by omega), up2_s]
    have s4 : f' (r + 4) (ρs i 5) = jI y := by rw [← hf, up2_a _ _ _ (by omega), up2_a _ _ _ (by omega), up2_s]
    refine hQ k5 _ ⟨la, fr, g, q, CE_stale hE (RVs_upd hD hV i16 c16 (fun i hi => Or.inr hi) (fun z z1 z2 z3 j => e z (by omega) (by omega) j) ?_) ?_ (fun n' a' b' z1 z2 z3 => ?_) (fun z z1 z2 j => e z (by omega) (by omega) j) (fun j hj => ?_) ?_, hD⟩ (FX_sI (fun z z1 z2 j => e z (by omega) (by omega) j))
    · rw [hr]
      obtain ⟨v0, v1, v2, v3, v4, v5, vp⟩ := V
      unfold RV
      rw [addP_o (by decide) (by omega), addP_o (by decide) (by omega), addP_o (by decide) (by omega), addP_o (by decide) (by omega), addP_o (by decide) (by omega), addP_5, e0 0 (by decide), e0 1 (by decide), e0 2 (by decide), e0 3 (by decide), e0 4 (by decide), e5]
      refine ⟨v0, v1, v2, v3, v4, ⟨rfl, by omega⟩, fun p hp => ?_⟩
      by_cases w2 : p = ρs i 5
      · rw [w2, addP_d, addP_n, addP_x, addP_y, s1, s2, s3, s4]
        exact ⟨⟨rfl, hd⟩, ⟨rfl, hn⟩, ⟨rfl, hx⟩, ⟨rfl, hy⟩⟩
      · rw [addP_o (by omega) (by omega), addP_o (by omega) (by omega), addP_o (by omega) (by omega), addP_o (by omega) (by omega), p1 p w2, p2 p w2, p3 p w2, p4 p w2]
        exact vp p (by omega)
    · rw [e 0 (by omega) (by omega)]; exact hc
    · rw [e 2 (by omega) (by omega), e 3 (by omega) (by omega)]
      exact hS n' a' b' z1 z2 z3
    · rw [← hf, up2_i _ _ _ _ hj, up2_a _ _ _ (by omega), up2_a _ _ _ (by omega), up2_a _ _ _ (by omega), up2_a _ _ _ (by omega), up2_a _ _ _ (by omega)]
    · rw [← hf, up2_s]
theorem k_body_bad {r n x y t : Int32} {U c : Nat} {S : Nat → Nat → Nat → Bool} {h : vt_H} {Q : vt_Q} {ρs : Nat → Nat → Nat} (hC : CC h U ρs c S) (hb : (n < 0 ∨ nI 16 ≤ n) ∨ jbadP (nI c) r x y) (hQ : Q (some (.int (-nI 1))) h) : Wp 18 0 [.ref 0, .int r, .int n, .int x, .int y, .int t] [] h Q := by
  obtain ⟨e1, -, hc, -⟩ := CC_EN hC
  rw [c_body Q e1.1]
  by_cases w : n < 0 ∨ nI 16 ≤ n
  · rw [if_pos w]; exact hQ
  · rw [if_neg w, c_addPartE_bad _ e1.1 (by rw [hc]; exact hb.resolve_left w)]
    simp only [va_rf_s, pk_mul, nI_add, not_false_eq_true, and_self, true_and, Option.toList_some, Option.toList_none, List.append_nil, List.cons_append, List.nil_append, nI_01, nI_11, vh_K_wI, vh_R_wI, vh_Z_wI, vh_wI_sI, vh_K_sI, vh_R_sI, vh_Z_sI, vh_sI_sI, vh_I_sI, s_18_28]
    exact hQ
theorem k_body {i n x y U c : Nat} {t : Int32} {S : Nat → Nat → Nat → Bool} {h : vt_H} {Q : vt_Q} {ρs : Nat → Nat → Nat} (hi : i < c) (hn : n < 16) (hx : x < 38) (hy : y < 38) (hC : CC h U ρs c S) (hQ0 : ρs i 5 = 5 → Q (some (.int (-nI 3))) h)
    (hQ : ρs i 5 < 5 → ∀ h', CC h' U (set_r ρs i (addP (ρs i) (if t = 0 then 3 else 4) n x y)) c S → FX h h' → Q (some (.int (nI (ρs i 5 + 1)))) h') : Wp 18 0 [.ref 0, .int (nI i), .int (nI n), .int (jI x), .int (jI y), .int t] [] h Q := by
  obtain ⟨e1, -, hc, -⟩ := CC_EN hC
  rw [c_body Q e1.1, if_neg (fun z => z.elim (nI_pos (by omega)) (nI_ge hn (by omega)))]
  have e : (if t = 0 then nI 3 else nI 4) = nI (if t = 0 then 3 else 4) := by split <;> rfl
  rw [e]
  refine k_addPart hi (by split <;> omega) hn hx hy hC (fun z => ?_) (fun z h' a1 a2 => ?_)
  · simp only [va_rf_s, pk_mul, nI_add, not_false_eq_true, and_self, true_and, Option.toList_some, Option.toList_none, List.append_nil, List.cons_append, List.nil_append, nI_01, nI_11, vh_K_wI, vh_R_wI, vh_Z_wI, vh_wI_sI, vh_K_sI, vh_R_sI, vh_Z_sI, vh_sI_sI, vh_I_sI, s_18_28]
    exact hQ0 z
  · simp only [va_rf_s, pk_mul, nI_add, not_false_eq_true, and_self, true_and, Option.toList_some, Option.toList_none, List.append_nil, List.cons_append, List.nil_append, nI_01, nI_11, vh_K_wI, vh_R_wI, vh_Z_wI, vh_wI_sI, vh_K_sI, vh_R_sI, vh_Z_sI, vh_sI_sI, vh_I_sI, s_18_28]
    exact hQ z h' a1 a2
theorem k_filter_bad {r d x y : Int32} {U c : Nat} {S : Nat → Nat → Nat → Bool} {h : vt_H} {Q : vt_Q} {ρs : Nat → Nat → Nat} (hC : CC h U ρs c S) (hb : (d < 0 ∨ nI 3 ≤ d) ∨ jbadP (nI c) r x y) (hQ : Q (some (.int (-nI 1))) h) : Wp 22 0 [.ref 0, .int r, .int d, .int x, .int y] [] h Q := by
  obtain ⟨e1, -, hc, -⟩ := CC_EN hC
  rw [c_filter Q e1.1]
  by_cases w : d < 0 ∨ nI 3 ≤ d
  · rw [if_pos w]; exact hQ
  · rw [if_neg w, c_addPartE_bad _ e1.1 (by rw [hc]; exact hb.resolve_left w)]
    simp only [va_rf_s, pk_mul, nI_add, not_false_eq_true, and_self, true_and, Option.toList_some, Option.toList_none, List.append_nil, List.cons_append, List.nil_append, nI_01, nI_11, vh_K_wI, vh_R_wI, vh_Z_wI, vh_wI_sI, vh_K_sI, vh_R_sI, vh_Z_sI, vh_sI_sI, vh_I_sI, s_22_21]
    exact hQ
theorem k_filter {i d x y U c : Nat} {S : Nat → Nat → Nat → Bool} {h : vt_H} {Q : vt_Q} {ρs : Nat → Nat → Nat} (hi : i < c) (hd : d < 3) (hx : x < 38) (hy : y < 38) (hC : CC h U ρs c S) (hQ0 : ρs i 5 = 5 → Q (some (.int (-nI 3))) h)
    (hQ : ρs i 5 < 5 → ∀ h', CC h' U (set_r ρs i (addP (ρs i) d 0 x y)) c S → FX h h' → Q (some (.int (nI (ρs i 5 + 1)))) h') : Wp 22 0 [.ref 0, .int (nI i), .int (nI d), .int (jI x), .int (jI y)] [] h Q := by
  obtain ⟨e1, -, hc, -⟩ := CC_EN hC
  rw [c_filter Q e1.1, if_neg (fun z => z.elim (nI_pos (by omega)) (nI_ge hd (by omega)))]
  refine k_addPart hi (by omega) (by omega) hx hy hC (fun z => ?_) (fun z h' a1 a2 => ?_)
  · simp only [va_rf_s, pk_mul, nI_add, not_false_eq_true, and_self, true_and, Option.toList_some, Option.toList_none, List.append_nil, List.cons_append, List.nil_append, nI_01, nI_11, vh_K_wI, vh_R_wI, vh_Z_wI, vh_wI_sI, vh_K_sI, vh_R_sI, vh_Z_sI, vh_sI_sI, vh_I_sI, s_22_21]
    exact hQ0 z
  · simp only [va_rf_s, pk_mul, nI_add, not_false_eq_true, and_self, true_and, Option.toList_some, Option.toList_none, List.append_nil, List.cons_append, List.nil_append, nI_01, nI_11, vh_K_wI, vh_R_wI, vh_Z_wI, vh_wI_sI, vh_K_sI, vh_R_sI, vh_Z_sI, vh_sI_sI, vh_I_sI, s_22_21]
    exact hQ z h' a1 a2
/-- a rule with another kind -/
def setK (ρ : Nat → Nat) (k v : Nat) : Nat → Nat := fun j => if j = 3 then k else if j = 4 then v else ρ j
theorem setK_o {ρ : Nat → Nat} {k v j : Nat} (h : j ≠ 3) (h2 : j ≠ 4) : setK ρ k v j = ρ j := by unfold setK; rw [if_neg h, if_neg h2]
/-- a kind and its variable, as given -/
def kv (k v : Nat) (kd vr : Int32) : Prop := k < 5 ∧ kd = kI k ∧ (k ≠ 0 → vr = jI v ∧ 32 ≤ v ∧ v < 38)
theorem nbadA {i c k v : Nat} {kd vr : Int32} (hi : i < c) (hc : c ≤ 16) (h : kv k v kd vr) : ¬ jbadA (nI c) (nI i) kd vr := by
  obtain ⟨h1, h2, h3⟩ := h
  rintro (z | z | ⟨z1, z2⟩)
  · exact z.elim (nI_pos (by omega)) (nI_ge hi (by omega))
  · rw [h2] at z
    exact (by decide +kernel : ∀ k, k < 5 → ¬ (kI k < -nI 1 ∨ nI 3 < kI k)) k h1 z
  · have k0 : k ≠ 0 := fun e => z1 (by rw [h2, e]; rfl)
    obtain ⟨h4, h5, h6⟩ := h3 k0
    rw [h4] at z2
    exact (by decide +kernel : ∀ v, v < 38 → 32 ≤ v → ¬ (jI v < -nI 6 ∨ -nI 1 < jI v)) v h6 h5 z2
theorem k_aggregate {i k v U c : Nat} {kd vr : Int32} {S : Nat → Nat → Nat → Bool} {h : vt_H} {Q : vt_Q} {ρs : Nat → Nat → Nat} (hi : i < c) (hk : kv k v kd vr) (hC : CC h U ρs c S)
    (hQ : ∀ h', CC h' U (set_r ρs i (setK (ρs i) k v)) c S → FX h h' → Q (some (.int (nI 1))) h') : Wp 23 0 [.ref 0, .int (nI i), .int kd, .int vr] [] h Q := by
  obtain ⟨la, fr, g, q, hE, hD⟩ := hC
  have hE' := hE
  obtain ⟨hG, hV, hc, hS, -, -⟩ := hE'
  have hRS := hG.2.2.2.2.2
  have c16 := hV.1
  have i16 : i < 16 := by omega
  have b := QD_b hD i16
  have V := hV.2 i hi
  have hR := (hRS.2 i i16).2.1
  rw [c_aggregate Q hG.1 (by rw [hc]; exact nbadA hi c16 hk) i16 hRS.1 (hRS.2 i i16).1 hR]
  generalize hr : q i = r at b V
  generalize hf : (up2 (up2 (up2 (vh_I h) r 3 kd) r 4 vr) 4 0 (nI 1)) = f'
  have e : ∀ z, z ≠ r → z ≠ 4 → ∀ j, f' z j = vh_I h z j := by
    intro z z1 z2 j
    rw [← hf, up2_a _ _ _ z2, up2_a _ _ _ z1, up2_a _ _ _ z1]
  have e0 : ∀ j, j ≠ 3 → j ≠ 4 → f' r j = vh_I h r j := by
    intro j j1 j2
    rw [← hf, up2_a _ _ _ (by omega), up2_i _ _ _ _ j2, up2_i _ _ _ _ j1]
  have e3 : f' r 3 = kd := by rw [← hf, up2_a _ _ _ (by omega), up2_i _ _ _ _ (by decide), up2_s]
  have e4 : f' r 4 = vr := by rw [← hf, up2_a _ _ _ (by omega), up2_s]
  refine hQ _ ⟨la, fr, g, q, CE_stale hE (RVs_upd hD hV i16 c16 (fun i hi => Or.inr hi) (fun z z1 z2 z3 j => e z (by omega) (by omega) j) ?_) ?_ (fun n' a' b' z1 z2 z3 => ?_) (fun z z1 z2 j => e z (by omega) (by omega) j) (fun j hj => ?_) ?_, hD⟩ (FX_sI (fun z z1 z2 j => e z (by omega) (by omega) j))
  · rw [hr]
    obtain ⟨v0, v1, v2, v3, v4, v5, vp⟩ := V
    unfold RV
    rw [setK_o (by decide) (by decide), setK_o (by decide) (by decide), setK_o (by decide) (by decide), setK_o (j := 5) (by decide) (by decide), e0 0 (by decide) (by decide), e0 1 (by decide) (by decide), e0 2 (by decide) (by decide), e0 5 (by decide) (by decide), e3, e4]
    refine ⟨v0, v1, v2, ⟨hk.2.1, hk.1⟩, fun z => hk.2.2 z, v5, fun p hp => ?_⟩
    rw [setK_o (by omega) (by omega), setK_o (by omega) (by omega), setK_o (by omega) (by omega), setK_o (by omega) (by omega), e _ (by omega) (by omega), e _ (by omega) (by omega), e _ (by omega) (by omega), e _ (by omega) (by omega)]
    exact vp p hp
  · rw [e 0 (by omega) (by omega)]; exact hc
  · rw [e 2 (by omega) (by omega), e 3 (by omega) (by omega)]
    exact hS n' a' b' z1 z2 z3
  · rw [← hf, up2_i _ _ _ _ hj, up2_a _ _ _ (by omega), up2_a _ _ _ (by omega)]
  · rw [← hf, up2_s]

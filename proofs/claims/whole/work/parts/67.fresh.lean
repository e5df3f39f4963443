-- ===== MODEL of the class: keepFresh, timesGiven, isDue, roundOf =====
def pw (P W : Nat → Nat → Nat → Bool) (i : Nat) : Nat → Nat → Nat → Bool := fun n a b => P n a b || (decide (n < i) && W n a b)
def lw (L : Nat → Nat → Nat → Bool) (i : Nat) : Nat → Nat → Nat → Bool := fun n a b => decide (i ≤ n) && L n a b
theorem FR_clear {f : Nat → Nat → Int32} {s g i : Nat} {L : Nat → Nat → Nat → Bool} (hi : i < 16) (h : FR f s g (lw L i)) : FR (cl2 f s g (32 * i) 32) s g (lw L (i + 1)) := by
  intro n a b hn ha hb
  have e := h n a b hn ha hb
  unfold cl2
  by_cases q : n = i
  · subst q
    rw [if_pos ⟨Or.inl rfl, by omega, by omega⟩, if_pos ⟨Or.inr rfl, by omega, by omega⟩]
    have : lw L (n + 1) n a b = false := by unfold lw; rw [decide_eq_false (by omega)]; rfl
    rw [this]
    exact ⟨b_0 b, b_0 a⟩
  · rw [if_neg (by omega), if_neg (by omega)]
    have : lw L (i + 1) n a b = lw L i n a b := by
      unfold lw
      rw [decide_eq_decide.mpr (show i + 1 ≤ n ↔ i ≤ n by omega)]
    rw [this]
    exact e
theorem lw_skip {L : Nat → Nat → Nat → Bool} {i : Nat} (h : ∀ a b, a < 32 → b < 32 → ¬ L i a b = true) {n a b : Nat} (hn : n < 16) (ha : a < 32) (hb : b < 32) : lw L i n a b = lw L (i + 1) n a b := by
  unfold lw
  by_cases q : n = i
  · subst q
    have : L n a b = false := by
      cases e : L n a b with
      | false => rfl
      | true => exact absurd e (h a b ha hb)
    rw [this, Bool.and_false, Bool.and_false]
  · rw [decide_eq_decide.mpr (show i ≤ n ↔ i + 1 ≤ n by omega)]
theorem pw_skip {P W : Nat → Nat → Nat → Bool} {i : Nat} (h : ∀ a b, a < 32 → b < 32 → ¬ W i a b = true) {n a b : Nat} (hn : n < 16) (ha : a < 32) (hb : b < 32) : pw P W i n a b = pw P W (i + 1) n a b := by
  unfold pw
  congr 1
  by_cases q : n = i
  · subst q
    have : W n a b = false := by
      cases e : W n a b with
      | false => rfl
      | true => exact absurd e (h a b ha hb)
    rw [this, Bool.and_false, Bool.and_false]
  · rw [decide_eq_decide.mpr (show n < i ↔ n < i + 1 by omega)]
theorem pw_pn {P W : Nat → Nat → Nat → Bool} {i n a b : Nat} : pn (pw P W i) W i n a b = pw P W (i + 1) n a b := by
  unfold pn pw
  rw [Bool.or_assoc]
  congr 1
  by_cases q : n = i
  · subst q; simp
  · have : n < i ↔ n < i + 1 := by omega
    simp [q, this]
theorem l_keepF {la fr U : Nat} {rd : Int32} {h : vt_H} {Q : vt_Q} {P W D L : Nat → Nat → Nat → Bool} {rr : Nat → Nat → Nat → Int32} (hM : MO h la fr) (h149 : 149 ≤ vh_n h) (hW : FR (vh_I h) (fr + 1) (fr + 2) W) (hNl : FN (vh_I h 4 9) L) (hNf : FN (vh_I h 4 10) W)
    (hQ : ∀ h' g', HS h h' → MO h' la fr → RW h' g' U → (∀ c, c < 149 → c ≠ 11 → c ≠ 12 → c ≠ la + 1 → c ≠ la + 2 → ∀ j, vh_I h' c j = vh_I h c j) → FR (vh_I h') 11 12 (pw P W 16) → FR (vh_I h') (la + 1) (la + 2) (lw L 16) → RR h' g' (pw D W 16) (fun n a b => if n < 16 ∧ W n a b = true then rd else rr n a b) → ∀ y, Wp 68 50 [.ref 4, .int rd, y] [] h' Q) :
    ∀ (k i : Nat), i + k = 16 → ∀ h0 g0, HS h h0 → MO h0 la fr → RW h0 g0 U → (∀ c, c < 149 → c ≠ 11 → c ≠ 12 → c ≠ la + 1 → c ≠ la + 2 → ∀ j, vh_I h0 c j = vh_I h c j) → FR (vh_I h0) 11 12 (pw P W i) → FR (vh_I h0) (la + 1) (la + 2) (lw L i) → RR h0 g0 (pw D W i) (fun n a b => if n < i ∧ W n a b = true then rd else rr n a b) → Wp 68 2 [.ref 4, .int rd, .int (nI i)] [] h0 Q := by
  have hlf := hM.2.2.2.2.2.2.2.2.2
  intro k
  induction k with
  | zero =>
    intro i hi h0 g0 a1 a2 a3 a4 a5 a6 a7
    have : i = 16 := by omega
    subst this
    simp only [s_68_2, s_68_3, s_68_5, if_pos (nI_le (Nat.le_refl 16) (show 16 < 2 ^ 31 by omega))]
    exact hQ h0 g0 a1 a2 a3 a4 a5 a6 a7 _
  | succ k ih =>
    intro i hi h0 g0 a1 a2 a3 a4 a5 a6 a7
    have hlt : i < 16 := by omega
    have e9 : vh_I h0 4 9 = vh_I h 4 9 := a4 4 (by omega) (by omega) (by omega) (by omega) (by omega) 9
    have e10 : vh_I h0 4 10 = vh_I h 4 10 := a4 4 (by omega) (by omega) (by omega) (by omega) (by omega) 10
    simp only [s_68_2, s_68_3, s_68_5, if_neg (nI_ge hlt (show 16 < 2 ^ 31 by omega))]
    have second : ∀ h1, HS h h1 → MO h1 la fr → RW h1 g0 U → (∀ c, c < 149 → c ≠ 11 → c ≠ 12 → c ≠ la + 1 → c ≠ la + 2 → ∀ j, vh_I h1 c j = vh_I h c j) → FR (vh_I h1) 11 12 (pw P W i) → FR (vh_I h1) (la + 1) (la + 2) (lw L (i + 1)) → RR h1 g0 (pw D W i) (fun n a b => if n < i ∧ W n a b = true then rd else rr n a b) → Wp 68 27 [.ref 4, .int rd, .int (nI i)] [] h1 Q := by
      intro h1 b1 b2 b3 b4 b5 b6 b7
      have f10 : vh_I h1 4 10 = vh_I h 4 10 := b4 4 (by omega) (by omega) (by omega) (by omega) (by omega) 10
      have m1 := b2.1
      simp only [s_68_27, s_68_28, s_68_31, s_68_32, va_rf_s, pk_mul, nI_add, not_false_eq_true, and_self, true_and, Option.toList_some, Option.toList_none, List.append_nil, List.cons_append, List.nil_append, nI_01, nI_11, vh_K_wI, vh_R_wI, vh_Z_wI, vh_wI_sI, vh_K_sI, vh_R_sI, vh_Z_sI, vh_sI_sI, vh_I_sI, m1, f10, c_isIn, jbit_bt _ (show i < 32 by omega), jb_0, s_68_35]
      by_cases q : bt (vh_I h 4 10) i = true
      · rw [if_neg (fun z => z q)]
        simp only [s_68_38, s_68_39, s_68_40, s_68_41, va_rf_s, pk_mul, nI_add, not_false_eq_true, and_self, true_and, Option.toList_some, Option.toList_none, List.append_nil, List.cons_append, List.nil_append, nI_01, nI_11, vh_K_wI, vh_R_wI, vh_Z_wI, vh_wI_sI, vh_K_sI, vh_R_sI, vh_Z_sI, vh_sI_sI, vh_I_sI, m1]
        have hW1 : FR (vh_I h1) (fr + 1) (fr + 2) W := fun x y z z1 z2 z3 => by rw [b4 _ (by omega) (by omega) (by omega) (by omega) (by omega), b4 _ (by omega) (by omega) (by omega) (by omega) (by omega)]; exact hW x y z z1 z2 z3
        refine c_keepName b2 b3 hlt b5 hW1 b7 (fun h2 g2 c1 c2 c3 c4 c5 c6 => ?_)
        simp only [va_rf_s, pk_mul, nI_add, not_false_eq_true, and_self, true_and, Option.toList_some, Option.toList_none, List.append_nil, List.cons_append, List.nil_append, nI_01, nI_11, vh_K_wI, vh_R_wI, vh_Z_wI, vh_wI_sI, vh_K_sI, vh_R_sI, vh_Z_sI, vh_sI_sI, vh_I_sI]
        simp only [s_68_44, s_68_47, va_rf_s, pk_mul, nI_add, not_false_eq_true, and_self, true_and, Option.toList_some, Option.toList_none, List.append_nil, List.cons_append, List.nil_append, nI_01, nI_11, vh_K_wI, vh_R_wI, vh_Z_wI, vh_wI_sI, vh_K_sI, vh_R_sI, vh_Z_sI, vh_sI_sI, vh_I_sI]
        refine ih (i + 1) (by omega) h2 g2 (HS_trans b1 c1) c2 c3 (fun c d1 d2 d3 d4 d5 j => ?_) (FR_congr c5 (fun _ _ _ _ _ _ => pw_pn)) (fun x y z z1 z2 z3 => ?_) (fun n a b z1 z2 z3 z4 => ?_)
        · rw [c4 c d1 d2 d3]; exact b4 c d1 d2 d3 d4 d5 j
        · rw [c4 _ (by omega) (by omega) (by omega), c4 _ (by omega) (by omega) (by omega)]
          exact b6 x y z z1 z2 z3
        · have := c6 n a b z1 z2 z3 (by rw [pw_pn]; exact z4)
          refine ⟨this.1, this.2.trans ?_⟩
          by_cases w : W n a b = true
          · by_cases e : n = i
            · simp [w, e]
            · have : n < i ↔ n < i + 1 := by omega
              simp [w, e, this]
          · simp [w]
      · rw [if_pos q]
        simp only [s_68_44, s_68_47, va_rf_s, pk_mul, nI_add, not_false_eq_true, and_self, true_and, Option.toList_some, Option.toList_none, List.append_nil, List.cons_append, List.nil_append, nI_01, nI_11, vh_K_wI, vh_R_wI, vh_Z_wI, vh_wI_sI, vh_K_sI, vh_R_sI, vh_Z_sI, vh_sI_sI, vh_I_sI]
        have no : ∀ a b, a < 32 → b < 32 → ¬ W i a b = true := fun a b ha hb w => q ((hNf.1 i hlt).mpr ⟨a, b, ha, hb, w⟩)
        refine ih (i + 1) (by omega) h1 g0 b1 b2 b3 b4 (FR_congr b5 (fun n a b z1 z2 z3 => pw_skip no z1 z2 z3)) b6 (fun n a b z1 z2 z3 z4 => ?_)
        have := b7 n a b z1 z2 z3 (by rw [pw_skip no z1 z2 z3]; exact z4)
        refine ⟨this.1, this.2.trans ?_⟩
        by_cases w : W n a b = true
        · have ne : n ≠ i := fun e => no a b z2 z3 (e ▸ w)
          have : n < i ↔ n < i + 1 := by omega
          simp [w, this]
        · simp [w]
    have m1 := a2.1
    have m4 := a2.2.2.2.1
    have tl := a2.2.2.2.2.2.2.1
    have tl1 := tl.1
    simp only [s_68_8, s_68_9, s_68_12, s_68_13, va_rf_s, pk_mul, nI_add, not_false_eq_true, and_self, true_and, Option.toList_some, Option.toList_none, List.append_nil, List.cons_append, List.nil_append, nI_01, nI_11, vh_K_wI, vh_R_wI, vh_Z_wI, vh_wI_sI, vh_K_sI, vh_R_sI, vh_Z_sI, vh_sI_sI, vh_I_sI, m1, e9, c_isIn, jbit_bt _ (show i < 32 by omega), jb_0, s_68_16]
    by_cases q : bt (vh_I h 4 9) i = true
    · rw [if_neg (fun z => z q)]
      simp only [s_68_19, s_68_20, s_68_23, s_68_24, va_rf_s, pk_mul, nI_add, not_false_eq_true, and_self, true_and, Option.toList_some, Option.toList_none, List.append_nil, List.cons_append, List.nil_append, nI_01, nI_11, vh_K_wI, vh_R_wI, vh_Z_wI, vh_wI_sI, vh_K_sI, vh_R_sI, vh_Z_sI, vh_sI_sI, vh_I_sI, m1, m4, tl1, c_clear _ tl hlt]
      have same : ∀ c, c ≠ la + 1 → c ≠ la + 2 → ∀ j, cl2 (vh_I h0) (la + 1) (la + 2) (32 * i) 32 c j = vh_I h0 c j := fun c z1 z2 j => by
        unfold cl2
        rw [if_neg (fun w => w.1.elim z1 z2)]
      refine second (vh_sI h0 _) (HS_sI a1 _) a2 a3 (fun c d1 d2 d3 d4 d5 j => ?_) (fun x y z z1 z2 z3 => ?_) (FR_clear hlt a6) (fun n a b z1 z2 z3 z4 => ?_)
      · rw [vh_I_sI, same c d4 d5]; exact a4 c d1 d2 d3 d4 d5 j
      · rw [vh_I_sI, same 11 (by omega) (by omega), same 12 (by omega) (by omega)]; exact a5 x y z z1 z2 z3
      · have y := a7 n a b z1 z2 z3 z4
        have big : 149 ≤ g0 n := by
          rcases (a3.2.1 n z1).2.2 with w | w
          · rw [w.1] at y; exact absurd y.1 (by decide)
          · exact w.2.1
        rw [vh_I_sI, same _ (by omega) (by omega)]
        exact y
    · rw [if_pos q]
      have no : ∀ a b, a < 32 → b < 32 → ¬ L i a b = true := fun a b ha hb w => q ((hNl.1 i hlt).mpr ⟨a, b, ha, hb, w⟩)
      exact second h0 a1 a2 a3 a4 a5 (FR_congr a6 (fun n a b z1 z2 z3 => lw_skip no z1 z2 z3)) a7
theorem c_keepFresh {la fr U : Nat} {rd : Int32} {h : vt_H} {Q : vt_Q} {P W D L : Nat → Nat → Nat → Bool} {g : Nat → Nat} {rr : Nat → Nat → Nat → Int32} (hM : MO h la fr) (hG : RW h g U) (hP : FR (vh_I h) 11 12 P) (hW : FR (vh_I h) (fr + 1) (fr + 2) W) (hL : FR (vh_I h) (la + 1) (la + 2) L) (hD : RR h g D rr) (hNl : FN (vh_I h 4 9) L) (hNf : FN (vh_I h 4 10) W)
    (hQ : ∀ h' g' (x : Int32), HS h h' → MO h' fr la → RW h' g' U → (∀ c, c < 149 → c ≠ 4 → c ≠ 11 → c ≠ 12 → c ≠ la + 1 → c ≠ la + 2 → ∀ j, vh_I h' c j = vh_I h c j) → (∀ j, j ≠ 9 → j ≠ 10 → vh_I h' 4 j = vh_I h 4 j) → FN (vh_I h' 4 9) W → FN (vh_I h' 4 10) (fun _ _ _ => false) → FR (vh_I h') 11 12 (fun n a b => P n a b || W n a b) → FR (vh_I h') (fr + 1) (fr + 2) W → FR (vh_I h') (la + 1) (la + 2) (fun _ _ _ => false) → RR h' g' (fun n a b => D n a b || W n a b) (fun n a b => if W n a b = true then rd else rr n a b) → (x = 0 ↔ ∀ n a b, n < 16 → a < 32 → b < 32 → ¬ W n a b = true) → (x = 0 ∨ x = 1) → Q (some (.int x)) h') :
    Wp 68 0 [.ref 4, .int rd, vt_un] [] h Q := by
  have h149 := hG.2.2.2.1
  have hlf := hM.2.2.2.2.2.2.2.2.2
  simp only [s_68_0, s_68_1]
  refine l_keepF (P := P) (W := W) (D := D) (rr := rr) (U := U) (L := L) hM h149 hW hNl hNf (fun h1 g1 a1 a2 a3 a4 a5 a6 a7 y => ?_) 16 0 (by omega) h g (HS_refl h) hM hG (fun _ _ _ _ _ _ _ => rfl) (FR_congr hP (fun n a b _ _ _ => by unfold pw; simp)) (FR_congr hL (fun n a b _ _ _ => by unfold lw; simp)) (fun n a b z1 z2 z3 z4 => ?_)
  · obtain ⟨m1, m2, m3, m4, m5, hT, hTl, hTf, hC, _⟩ := a2
    have n149 := a3.2.2.2.1
    have kfr := hTf.1
    have kla := hTl.1
    simp only [s_68_50, s_68_51, s_68_54, s_68_55, s_68_56, s_68_57, s_68_60, s_68_63, s_68_64, s_68_65, s_68_68, s_68_69, s_68_70, s_68_73, va_rf_s, pk_mul, nI_add, not_false_eq_true, and_self, true_and, Option.toList_some, Option.toList_none, List.append_nil, List.cons_append, List.nil_append, nI_01, nI_11, vh_K_wI, vh_R_wI, vh_Z_wI, vh_wI_sI, vh_K_sI, vh_R_sI, vh_Z_sI, vh_sI_sI, vh_I_sI, m1, m4, m5, kfr, kla, vh_K_wR, vh_R_wR, vh_I_wR, show ¬ ((8 : Nat) = 7) by omega, and_false, if_false, if_true, and_self]
    simp only [s_68_76, s_68_77, s_68_78, s_68_81, s_68_82, va_rf_s, pk_mul, nI_add, not_false_eq_true, and_self, true_and, Option.toList_some, Option.toList_none, List.append_nil, List.cons_append, List.nil_append, nI_01, nI_11, vh_K_wI, vh_R_wI, vh_Z_wI, vh_wI_sI, vh_K_sI, vh_R_sI, vh_Z_sI, vh_sI_sI, vh_I_sI, m1, vh_K_wR, vh_I_wI, vh_I_wR]
    have e9 : up2 (up2 (vh_I h1) 4 9 (vh_I h1 4 10)) 4 10 (nI 0) 4 9 = vh_I h1 4 10 := by rw [up2_i _ _ _ _ (by decide), up2_s]
    have e10 : up2 (up2 (vh_I h1) 4 9 (vh_I h1 4 10)) 4 10 (nI 0) 4 10 = nI 0 := up2_s _ _ _ _
    have eo : ∀ c, c ≠ 4 → ∀ j, up2 (up2 (vh_I h1) 4 9 (vh_I h1 4 10)) 4 10 (nI 0) c j = vh_I h1 c j := fun c hc j => by rw [up2_a _ _ _ hc, up2_a _ _ _ hc]
    have ej : ∀ j, j ≠ 9 → j ≠ 10 → up2 (up2 (vh_I h1) 4 9 (vh_I h1 4 10)) 4 10 (nI 0) 4 j = vh_I h1 4 j := fun j h9 h10 => by rw [up2_i _ _ _ _ h10, up2_i _ _ _ _ h9]
    have f10 : vh_I h1 4 10 = vh_I h 4 10 := a4 4 (by omega) (by omega) (by omega) (by omega) (by omega) 10
    rw [e9]
    generalize up2 (up2 (vh_I h1) 4 9 (vh_I h1 4 10)) 4 10 (nI 0) = f2 at e9 e10 eo ej ⊢
    have hR : ∀ c j, vh_R (vh_wR (vh_wR h1 4 7 (some fr)) 4 8 (some la)) c j = if c = 4 ∧ j = 8 then some la else if c = 4 ∧ j = 7 then some fr else vh_R h1 c j := fun c j => by rw [vh_R_wR, vh_R_wR]
    have fin : ∀ x : Int32, (x = 0 ↔ vh_I h 4 10 = 0) → (x = 0 ∨ x = 1) → Q (some (.int x)) (vh_sI (vh_wR (vh_wR h1 4 7 (some fr)) 4 8 (some la)) f2) := by
      intro x hx hx01
      have hs2 : HS h1 (vh_wR (vh_wR h1 4 7 (some fr)) 4 8 (some la)) := ⟨Nat.le_refl _, fun _ _ => ⟨rfl, rfl⟩, fun c j _ _ h78 => by rw [hR, if_neg (fun z => h78 ⟨z.1, Or.inr z.2⟩), if_neg (fun z => h78 ⟨z.1, Or.inl z.2⟩)], rfl, rfl⟩
      refine hQ _ g1 x (HS_sI (HS_trans a1 hs2) f2) ⟨m1, ?_, ?_, ?_, ?_, ?_, ?_, ?_, ?_, by omega⟩ ⟨⟨a3.1.1, a3.1.2.1, ?_⟩, fun n hn => ?_, a3.2.2⟩ (fun c c1 c2 c3 c4 c5 c6 j => ?_) (fun j j1 j2 => ?_) ?_ ?_ (fun n a b z1 z2 z3 => ?_) (fun n a b z1 z2 z3 => ?_) (fun n a b z1 z2 z3 => ?_) (fun n a b z1 z2 z3 z4 => ?_) ?_ hx01
      · rw [vh_R_sI, hR, if_neg (by omega), if_neg (by omega)]; exact m2
      · rw [vh_R_sI, hR, if_neg (by omega), if_neg (by omega)]; exact m3
      · rw [vh_R_sI, hR, if_neg (by omega), if_pos ⟨rfl, rfl⟩]
      · rw [vh_R_sI, hR, if_pos ⟨rfl, rfl⟩]
      · exact FT_HS hT hs2 ⟨by omega, by omega, by omega⟩ ⟨by decide, by decide⟩
      · exact FT_HS hTf hs2 ⟨by omega, by omega, by omega⟩ ⟨by omega, by omega⟩
      · exact FT_HS hTl hs2 ⟨by omega, by omega, by omega⟩ ⟨by omega, by omega⟩
      · exact CL_HS hC hs2 (by omega)
      · rw [vh_R_sI, hR, if_neg (by omega), if_neg (by omega)]; exact a3.1.2.2
      · rw [vh_R_sI, hR, if_neg (by omega), if_neg (by omega)]; exact a3.2.1 n hn
      · rw [vh_I_sI, eo c c2]; exact a4 c c1 c3 c4 c5 c6 j
      · rw [vh_I_sI, ej j j1 j2]; exact a4 4 (by omega) (by omega) (by omega) (by omega) (by omega) j
      · rw [vh_I_sI, e9, f10]; exact hNf
      · rw [vh_I_sI, e10]
        refine ⟨fun n hn => ⟨fun z => ?_, fun z => ?_⟩, fun n _ _ => b_0 n⟩
        · have n0 : bt (nI 0) n = false := b_0 n
          rw [n0] at z; cases z
        · obtain ⟨_, _, _, _, z⟩ := z; cases z
      · rw [vh_I_sI, eo 11 (by decide), eo 12 (by decide)]
        have := a5 n a b z1 z2 z3
        unfold pw at this
        rw [decide_eq_true z1, Bool.true_and] at this
        exact this
      · rw [vh_I_sI, eo _ (by omega), eo _ (by omega), a4 _ (by omega) (by omega) (by omega) (by omega) (by omega), a4 _ (by omega) (by omega) (by omega) (by omega) (by omega)]
        exact hW n a b z1 z2 z3
      · rw [vh_I_sI, eo _ (by omega), eo _ (by omega)]
        have := a6 n a b z1 z2 z3
        unfold lw at this
        rw [decide_eq_false (by omega), Bool.false_and] at this
        exact this
      · have := a7 n a b z1 z2 z3 (by unfold pw; rw [decide_eq_true z1, Bool.true_and]; exact z4)
        have ne : g1 n ≠ 4 := by
          rcases (a3.2.1 n z1).2.2 with w | w <;> omega
        refine ⟨this.1, ?_⟩
        rw [vh_I_sI, eo _ ne]
        refine this.2.trans ?_
        dsimp only
        by_cases w : W n a b = true
        · rw [if_pos ⟨z1, w⟩, if_pos w]
        · rw [if_neg (fun z => w z.2), if_neg w]
      · rw [hx]
        constructor
        · intro z n a b z1 z2 z3 w
          have := (hNf.1 n z1).mpr ⟨a, b, z2, z3, w⟩
          rw [z, b_0] at this
          cases this
        · intro z
          refine bt_zero.mpr (fun n hn => ?_)
          rcases Nat.lt_or_ge n 16 with w | w
          · cases e : bt (vh_I h 4 10) n with
            | false => rfl
            | true =>
              obtain ⟨a, b, q1, q2, q3⟩ := (hNf.1 n w).mp e
              exact absurd q3 (z n a b w q1 q2)
          · exact hNf.2 n w hn
    rw [f10]
    simp only [s_68_85]
    by_cases q : vh_I h 4 10 = 0
    · rw [if_pos q]
      simp only [s_68_92, s_68_93, va_rf_s, pk_mul, nI_add, not_false_eq_true, and_self, true_and, Option.toList_some, Option.toList_none, List.append_nil, List.cons_append, List.nil_append, nI_01, nI_11, vh_K_wI, vh_R_wI, vh_Z_wI, vh_wI_sI, vh_K_sI, vh_R_sI, vh_Z_sI, vh_sI_sI, vh_I_sI]
      exact fin _ ⟨fun _ => q, fun _ => rfl⟩ (Or.inl rfl)
    · rw [if_neg q]
      simp only [s_68_88, s_68_89, s_68_93, va_rf_s, pk_mul, nI_add, not_false_eq_true, and_self, true_and, Option.toList_some, Option.toList_none, List.append_nil, List.cons_append, List.nil_append, nI_01, nI_11, vh_K_wI, vh_R_wI, vh_Z_wI, vh_wI_sI, vh_K_sI, vh_R_sI, vh_Z_sI, vh_sI_sI, vh_I_sI]
      exact fin _ ⟨fun z => absurd z nI_10, fun z => absurd z q⟩ (Or.inr rfl)
  · have := hD n a b z1 z2 z3 (by unfold pw at z4; simpa using z4)
    refine ⟨this.1, this.2.trans ?_⟩
    dsimp only
    rw [if_neg (fun w => absurd w.1 (by omega))]

theorem ph_c {Hs Hs' : Nat → Nat → Nat → Nat → Bool} {ρ : Nat → Nat} {w : Nat → Nat} : ∀ {k : Nat}, (∀ i, i < k → pA (Hs i) (ρ (10 + 4 * i)) (ρ (11 + 4 * i)) (iv w (ρ (12 + 4 * i))) (iv w (ρ (13 + 4 * i))) = pA (Hs' i) (ρ (10 + 4 * i)) (ρ (11 + 4 * i)) (iv w (ρ (12 + 4 * i))) (iv w (ρ (13 + 4 * i)))) → (ph Hs ρ k w ↔ ph Hs' ρ k w)
  | 0, _ => Iff.rfl
  | k + 1, h => by
    show (ph Hs ρ k w ∧ _ = true) ↔ (ph Hs' ρ k w ∧ _ = true)
    rw [ph_c (k := k) (fun i hi => h i (by omega)), h k (by omega)]
theorem CT_c {Hs Hs' : Nat → Nat → Nat → Nat → Bool} {ρ : Nat → Nat} {x b : Nat} (h : ∀ i w, i < ρ 5 → bd w → pA (Hs i) (ρ (10 + 4 * i)) (ρ (11 + 4 * i)) (iv w (ρ (12 + 4 * i))) (iv w (ρ (13 + 4 * i))) = pA (Hs' i) (ρ (10 + 4 * i)) (ρ (11 + 4 * i)) (iv w (ρ (12 + 4 * i))) (iv w (ρ (13 + 4 * i)))) : CT Hs ρ x b = CT Hs' ρ x b :=
  S6_congr (fun w hw => bi_c (by rw [ph_c (fun i hi => h i w hi hw)]))
theorem HD_c {Hs Hs' : Nat → Nat → Nat → Nat → Bool} {ρ : Nat → Nat} (h : ∀ i w, i < ρ 5 → bd w → pA (Hs i) (ρ (10 + 4 * i)) (ρ (11 + 4 * i)) (iv w (ρ (12 + 4 * i))) (iv w (ρ (13 + 4 * i))) = pA (Hs' i) (ρ (10 + 4 * i)) (ρ (11 + 4 * i)) (iv w (ρ (12 + 4 * i))) (iv w (ρ (13 + 4 * i)))) (a b : Nat) : HD Hs ρ a b ↔ HD Hs' ρ a b := by
  have e : CT Hs ρ = CT Hs' ρ := by funext x y; exact CT_c h
  unfold HD
  rw [e]
/-- how often a rule gives a fact -/
noncomputable def TG (P : Nat → Nat → Nat → Bool) (ρ : Nat → Nat) (a b : Nat) : Nat := if ρ 3 = 0 then CT (fun _ => P) ρ a b else bi (HD (fun _ => P) ρ a b)
theorem c_times {r d n x y la fr a b : Nat} {h : vt_H} {Q : vt_Q} {ρ : Nat → Nat} {P L : Nat → Nat → Nat → Bool} (hM : MO h la fr) (hR : RL h r d n x y) (hV : RV (vh_I h) r d n x y ρ) (ha : (48 < r ∧ 48 < d) ∧ 48 < n ∧ 48 < x ∧ 48 < y) (h2 : hs2 ρ) (hP : FR (vh_I h) 11 12 P) (hL : FR (vh_I h) (la + 1) (la + 2) L) (ha32 : a < 32) (hb32 : b < 32)
    (hQ : ∀ f', (∀ c, aw c → ∀ j, f' c j = vh_I h c j) → Q (some (.int (nI (TG P ρ a b)))) (vh_sI h f')) : Wp 76 0 [.ref 4, .ref r, .int (nI a), .int (nI b), vt_un] [] h Q := by
  obtain ⟨m1, m2, m3, m4, m5, hT, hTl, hTf, hC, hlf⟩ := hM
  have hC' := hC
  obtain ⟨ck13, cr0, cr1, cr2, cr3, cr4, cr5, cr6, cr7, cr8, cr9, ck14, ck15, ck16, ck17, ck18, ck19, ck20, ck21, ck22, ck23, cz14, cz15, cz16, cz17, cz18, cz19, cz20, cz21, cz22, cz23⟩ := hC
  have k103 := hR.1
  have t101 := hT.1
  have l101 := hTl.1
  have aw1 : ∀ c, 48 < c → aw c := fun c hc => by unfold aw; omega
  have awl : aw (la + 1) ∧ aw (la + 2) := by unfold aw; omega
  have v3 := hV.2.2.2.1.1
  have v3' := hV.2.2.2.1.2
  have kn : vh_I h r 3 = -nI 1 ↔ ρ 3 = 0 := by
    rw [v3]
    exact kI_eq (ρ 3) v3' 0 (by omega)
  have hne : ∀ i, i < 5 → ¬ nI i = -nI 1 := by decide +kernel
  have eC : ∀ u v, CT (fun i => if nI i = -nI 1 then L else P) ρ u v = CT (fun _ => P) ρ u v := fun u v => CT_c (fun i w hi _ => by
    rw [if_neg (hne i (by have := hV.2.2.2.2.2.1.2; omega))])
  have main : ∀ t : Int32, (t = 0 ∨ t = 1) → (ρ 3 = 0 ∨ ρ 3 = 1 ∨ ρ 3 = 2 → ¬ t = 0) → Wp 76 34 [.ref 4, .ref r, .int (nI a), .int (nI b), vt_un] [.int t, .int (-nI 1), .ref la, .ref 10, .ref r, .ref 13] h Q := by
    intro t ht htn
    have ht' : (t = 0 ∨ t = 1) = True := eq_true ht
    simp only [s_76_34, va_rf_s, pk_mul, nI_add, not_false_eq_true, and_self, true_and, Option.toList_some, Option.toList_none, List.append_nil, List.cons_append, List.nil_append, nI_01, nI_11, vh_K_wI, vh_R_wI, vh_Z_wI, vh_wI_sI, vh_K_sI, vh_R_sI, vh_Z_sI, vh_sI_sI, vh_I_sI, ck13, k103, t101, l101, ht']
    refine c_load hC' hR hV ⟨aw1 r ha.1.1, aw1 d ha.1.2, aw1 n ha.2.1, aw1 x ha.2.2.1, aw1 y ha.2.2.2⟩ hT hP hTl hL ⟨by unfold aw; omega, by unfold aw; omega, awl.1, awl.2⟩ ht (fun f1 hD => ?_)
    have hC1 : CL (vh_sI h f1) := hC'
    have er : ∀ j, f1 r j = vh_I h r j := fun j => hD.1 r (aw1 r ha.1.1) j
    simp only [va_rf_s, pk_mul, nI_add, not_false_eq_true, and_self, true_and, Option.toList_some, Option.toList_none, List.append_nil, List.cons_append, List.nil_append, nI_01, nI_11, vh_K_wI, vh_R_wI, vh_Z_wI, vh_wI_sI, vh_K_sI, vh_R_sI, vh_Z_sI, vh_sI_sI, vh_I_sI]
    have fnd : ∀ wt : Int32, (ρ 3 = 0 → wt = j1 (nI b)) → (ρ 3 ≠ 0 → wt = -nI 1) → Wp 76 57 [.ref 4, .ref r, .int (nI a), .int (nI b), vt_un] [.int wt, .int (nI a), .ref 13] (vh_sI h f1) Q := by
      intro wt w0 w1
      simp only [s_76_57, va_rf_s, pk_mul, nI_add, not_false_eq_true, and_self, true_and, Option.toList_some, Option.toList_none, List.append_nil, List.cons_append, List.nil_append, nI_01, nI_11, vh_K_wI, vh_R_wI, vh_Z_wI, vh_wI_sI, vh_K_sI, vh_R_sI, vh_Z_sI, vh_sI_sI, vh_I_sI, ck13]
      refine c_findL (f := f1) hC1 ha32 (LD_self hD) hV.2.1.2 (sec_38 hV) hV.2.2.2.2.2.1.2 h2 (fun f2 fd z1 z2 z3 => ?_)
      have hC2 : CL (vh_sI h f2) := hC'
      have er2 : ∀ j, f2 r j = vh_I h r j := fun j => (z1.1 r (aw1 r ha.1.1) j).trans (er j)
      have fr2 : ∀ c, aw c → ∀ j, f2 c j = vh_I h c j := fun c hc j => (z1.1 c hc j).trans (hD.1 c hc j)
      have q := hQ f2 fr2
      unfold TG at q
      simp only [va_rf_s, pk_mul, nI_add, not_false_eq_true, and_self, true_and, Option.toList_some, Option.toList_none, List.append_nil, List.cons_append, List.nil_append, nI_01, nI_11, vh_K_wI, vh_R_wI, vh_Z_wI, vh_wI_sI, vh_K_sI, vh_R_sI, vh_Z_sI, vh_sI_sI, vh_I_sI]
      simp only [s_76_60, s_76_62, s_76_64, va_rf_s, pk_mul, nI_add, not_false_eq_true, and_self, true_and, Option.toList_some, Option.toList_none, List.append_nil, List.cons_append, List.nil_append, nI_01, nI_11, vh_K_wI, vh_R_wI, vh_Z_wI, vh_wI_sI, vh_K_sI, vh_R_sI, vh_Z_sI, vh_sI_sI, vh_I_sI]
      simp only [eC] at z2 z3
      by_cases hz : fd = 0
      · rw [if_neg (fun z => z hz)]
        simp only [s_76_67, s_76_68]
        have : (if ρ 3 = 0 then CT (fun _ => P) ρ a b else bi (HD (fun _ => P) ρ a b)) = 0 := by
          by_cases k : ρ 3 = 0
          · rw [if_pos k]
            refine Classical.byContradiction (fun w => ?_)
            have := (z2 b hb32).mpr ⟨by rw [w0 k, bt_j1 hb32 hb32]; simp, w⟩
            rw [hz, b_0] at this
            cases this
          · rw [if_neg k, bi_f]
            rintro (w | w)
            · exact k w.1
            · obtain ⟨b', hb', hne'⟩ := w.2.1
              have := (z2 b' hb').mpr ⟨by rw [w1 k]; exact bt_neg1 b' hb', hne'⟩
              rw [hz, b_0] at this
              cases this
        rw [this] at q
        exact q
      · rw [if_pos hz]
        simp only [s_76_69, s_76_70, s_76_73, va_rf_s, pk_mul, nI_add, not_false_eq_true, and_self, true_and, Option.toList_some, Option.toList_none, List.append_nil, List.cons_append, List.nil_append, nI_01, nI_11, vh_K_wI, vh_R_wI, vh_Z_wI, vh_wI_sI, vh_K_sI, vh_R_sI, vh_Z_sI, vh_sI_sI, vh_I_sI, k103, er2, s_76_74]
        by_cases k : ρ 3 = 0
        · rw [if_neg (fun z => z (kn.mpr k))]
          rw [if_pos k] at q
          have tb := z3 (htn (Or.inl k)) hz b hb32 (by rw [w0 k, bt_j1 hb32 hb32]; simp)
          simp only [s_76_77, s_76_78, s_76_81, s_76_84, s_76_85, s_76_86, ck13, cr0, cr1, cr2, cr3, cr4, cr5, cr6, cr7, cr8, cr9, ck14, ck15, ck16, ck17, ck18, ck19, ck20, ck21, ck22, ck23, cz14, cz15, cz16, cz17, cz18, cz19, cz20, cz21, cz22, cz23, va_rf_s, pk_mul, nI_add, not_false_eq_true, and_self, true_and, Option.toList_some, Option.toList_none, List.append_nil, List.cons_append, List.nil_append, nI_01, nI_11, vh_K_wI, vh_R_wI, vh_Z_wI, vh_wI_sI, vh_K_sI, vh_R_sI, vh_Z_sI, vh_sI_sI, vh_I_sI, m1, m3, cl (show b < 2 ^ 31 by omega), ib hb32 (show 32 ≤ 2 ^ 31 by omega), tb]
          exact q
        · rw [if_pos (fun z => k (kn.mp z))]
          rw [if_neg k] at q
          simp only [s_76_87, s_76_88, s_76_91, s_76_92, s_76_95, s_76_97, va_rf_s, pk_mul, nI_add, not_false_eq_true, and_self, true_and, Option.toList_some, Option.toList_none, List.append_nil, List.cons_append, List.nil_append, nI_01, nI_11, vh_K_wI, vh_R_wI, vh_Z_wI, vh_wI_sI, vh_K_sI, vh_R_sI, vh_Z_sI, vh_sI_sI, vh_I_sI, m1, m3, ck13, k103, er2, v3]
          have zb : ∀ b', b' < 32 → (bt fd b' = true ↔ CT (fun _ => P) ρ a b' ≠ 0) := fun b' hb' => by rw [z2 b' hb', w1 k, bt_neg1 b' hb']; simp
          refine c_total (N := fun b' => CT (fun _ => P) ρ a b') hC2 k v3' zb hz (fun w b' hb' => z3 (htn (Or.inr w)) hz b' hb' (by rw [w1 k]; exact bt_neg1 b' hb')) (fun v hv hag => ?_)
          simp only [va_rf_s, pk_mul, nI_add, not_false_eq_true, and_self, true_and, Option.toList_some, Option.toList_none, List.append_nil, List.cons_append, List.nil_append, nI_01, nI_11, vh_K_wI, vh_R_wI, vh_Z_wI, vh_wI_sI, vh_K_sI, vh_R_sI, vh_Z_sI, vh_sI_sI, vh_I_sI]
          simp only [s_76_100, s_76_101, va_rf_s, pk_mul, nI_add, not_false_eq_true, and_self, true_and, Option.toList_some, Option.toList_none, List.append_nil, List.cons_append, List.nil_append, nI_01, nI_11, vh_K_wI, vh_R_wI, vh_Z_wI, vh_wI_sI, vh_K_sI, vh_R_sI, vh_Z_sI, vh_sI_sI, vh_I_sI]
          obtain ⟨b0, hb0, hbt, _⟩ := bt_ex hz
          by_cases e : v = b
          · rw [if_neg (fun z => z (by rw [e]))]
            simp only [s_76_104, s_76_105, s_76_109, va_rf_s, pk_mul, nI_add, not_false_eq_true, and_self, true_and, Option.toList_some, Option.toList_none, List.append_nil, List.cons_append, List.nil_append, nI_01, nI_11, vh_K_wI, vh_R_wI, vh_Z_wI, vh_wI_sI, vh_K_sI, vh_R_sI, vh_Z_sI, vh_sI_sI, vh_I_sI]
            have yes : HD (fun _ => P) ρ a b := Or.inr ⟨k, ⟨b0, hb0, (zb b0 hb0).mp hbt⟩, by rw [← e]; exact hag⟩
            rw [bi_t yes] at q
            exact q
          · rw [if_pos (fun z => e ((nI_eq (by omega) (by omega)).mp z))]
            simp only [s_76_108, s_76_109, va_rf_s, pk_mul, nI_add, not_false_eq_true, and_self, true_and, Option.toList_some, Option.toList_none, List.append_nil, List.cons_append, List.nil_append, nI_01, nI_11, vh_K_wI, vh_R_wI, vh_Z_wI, vh_wI_sI, vh_K_sI, vh_R_sI, vh_Z_sI, vh_sI_sI, vh_I_sI]
            rw [bi_f] at q
            · exact q
            · rintro (w | w)
              · exact k w.1
              · exact e (AG_uniq hag w.2.2)
    simp only [s_76_37, s_76_38, s_76_41, s_76_42, s_76_43, s_76_46, va_rf_s, pk_mul, nI_add, not_false_eq_true, and_self, true_and, Option.toList_some, Option.toList_none, List.append_nil, List.cons_append, List.nil_append, nI_01, nI_11, vh_K_wI, vh_R_wI, vh_Z_wI, vh_wI_sI, vh_K_sI, vh_R_sI, vh_Z_sI, vh_sI_sI, vh_I_sI, m1, m3, k103, er, s_76_47]
    by_cases k : ρ 3 = 0
    · rw [if_neg (fun z => z (kn.mpr k))]
      simp only [s_76_50, s_76_51, s_76_52, s_76_53]
      exact fnd _ (fun _ => rfl) (fun z => absurd k z)
    · rw [if_pos (fun z => k (kn.mp z))]
      simp only [s_76_56]
      exact fnd _ (fun z => absurd z k) (fun _ => rfl)
  simp only [s_76_0, s_76_1, s_76_4, s_76_5, s_76_6, s_76_9, s_76_10, s_76_13, s_76_14, s_76_15, s_76_18, va_rf_s, pk_mul, nI_add, not_false_eq_true, and_self, true_and, Option.toList_some, Option.toList_none, List.append_nil, List.cons_append, List.nil_append, nI_01, nI_11, vh_K_wI, vh_R_wI, vh_Z_wI, vh_wI_sI, vh_K_sI, vh_R_sI, vh_Z_sI, vh_sI_sI, vh_I_sI, m1, m2, m3, m4, k103, s_76_19]
  by_cases k : ρ 3 = 0
  · rw [if_pos (kn.mpr k)]
    simp only [s_76_29, s_76_30]
    exact main _ (Or.inr rfl) (fun _ => nI_10)
  · rw [if_neg (fun z => k (kn.mp z))]
    simp only [s_76_22, s_76_23, va_rf_s, pk_mul, nI_add, not_false_eq_true, and_self, true_and, Option.toList_some, Option.toList_none, List.append_nil, List.cons_append, List.nil_append, nI_01, nI_11, vh_K_wI, vh_R_wI, vh_Z_wI, vh_wI_sI, vh_K_sI, vh_R_sI, vh_Z_sI, vh_sI_sI, vh_I_sI, k103, c_isTallied _ hR, jb_0, s_76_26]
    by_cases q : vh_I h r 3 = 0 ∨ vh_I h r 3 = nI 1
    · rw [if_neg (fun z => z q)]
      simp only [s_76_29, s_76_30]
      exact main _ (Or.inr rfl) (fun _ => nI_10)
    · rw [if_pos q]
      simp only [s_76_33]
      refine main _ (Or.inl rfl) (fun z => ?_)
      exfalso
      apply q
      rw [v3]
      rcases z with z | z | z
      · exact absurd z k
      · rw [z]; exact Or.inl (by decide)
      · rw [z]; exact Or.inr (by decide)
/-- is a rule looked at with no part of the last round -/
theorem c_dueN {r d n x y : Nat} {rd : Int32} {h : vt_H} (Q : vt_Q) : Wp 42 0 [.ref 4, .ref r, .int (-nI 1), .int rd] [] h Q ↔ Q (some (.int (jb (rd = nI 1)))) h := by
  simp only [s_42_0, s_42_1]
  rw [if_pos (by decide)]
  simp only [s_42_9, s_42_10]
  rw [if_neg (by decide)]
  simp only [s_42_13, s_42_14, s_42_15]
  by_cases q : rd = nI 1
  · rw [if_neg (fun z => z q), jb_t q]
    simp only [s_42_18, s_42_19, s_42_23, va_rf_s, pk_mul, nI_add, not_false_eq_true, and_self, true_and, Option.toList_some, Option.toList_none, List.append_nil, List.cons_append, List.nil_append, nI_01, nI_11, vh_K_wI, vh_R_wI, vh_Z_wI, vh_wI_sI, vh_K_sI, vh_R_sI, vh_Z_sI, vh_sI_sI, vh_I_sI]
  · rw [if_pos q, jb_f q]
    simp only [s_42_22, s_42_23, va_rf_s, pk_mul, nI_add, not_false_eq_true, and_self, true_and, Option.toList_some, Option.toList_none, List.append_nil, List.cons_append, List.nil_append, nI_01, nI_11, vh_K_wI, vh_R_wI, vh_Z_wI, vh_wI_sI, vh_K_sI, vh_R_sI, vh_Z_sI, vh_sI_sI, vh_I_sI]
/-- is a rule looked at with part p of the last round -/
theorem c_due {r d n x y p : Nat} {rd : Int32} {h : vt_H} {ρ : Nat → Nat} (Q : vt_Q) (hM : vh_K h 4 = 102) (hR : RL h r d n x y) (hV : RV (vh_I h) r d n x y ρ) (hp : p < ρ 5) : Wp 42 0 [.ref 4, .ref r, .int (nI p), .int rd] [] h Q ↔ Q (some (.int (jb (¬ rd = nI 1 ∧ ρ 3 = 0 ∧ ρ (10 + 4 * p) = 3 ∧ bt (vh_I h 4 9) (ρ (11 + 4 * p)) = true)))) h := by
  obtain ⟨h1, h2, h3, h4, h5, ⟨h6, h7⟩, ⟨h8, h9⟩, ⟨h10, h11⟩, ⟨h12, h13⟩⟩ := hR
  obtain ⟨-, -, -, ⟨v3, v3'⟩, -, ⟨v5, v5'⟩, vp⟩ := hV
  obtain ⟨⟨d1, d2⟩, ⟨n1, n2⟩, -⟩ := vp p hp
  have hp5 : p < 5 := by omega
  have ke : kI (ρ 3) = -nI 1 ↔ ρ 3 = 0 := kI_eq (ρ 3) v3' 0 (by omega)
  simp only [s_42_0, s_42_1]
  rw [if_neg (nI_pos (by omega))]
  simp only [s_42_4, s_42_5, s_42_6]
  by_cases q1 : rd = nI 1
  · rw [if_neg (fun z => z q1), jb_f (fun z => z.1 q1)]
    simp only [s_42_9, s_42_10]
    rw [if_pos (nI_pos' (by omega))]
    simp only [s_42_22, s_42_23, va_rf_s, pk_mul, nI_add, not_false_eq_true, and_self, true_and, Option.toList_some, Option.toList_none, List.append_nil, List.cons_append, List.nil_append, nI_01, nI_11, vh_K_wI, vh_R_wI, vh_Z_wI, vh_wI_sI, vh_K_sI, vh_R_sI, vh_Z_sI, vh_sI_sI, vh_I_sI]
  · rw [if_pos q1]
    simp only [s_42_24, s_42_25, s_42_28, va_rf_s, pk_mul, nI_add, not_false_eq_true, and_self, true_and, Option.toList_some, Option.toList_none, List.append_nil, List.cons_append, List.nil_append, nI_01, nI_11, vh_K_wI, vh_R_wI, vh_Z_wI, vh_wI_sI, vh_K_sI, vh_R_sI, vh_Z_sI, vh_sI_sI, vh_I_sI, h1, v3, s_42_29]
    by_cases q2 : ρ 3 = 0
    · rw [if_neg (fun z => z (ke.mpr q2))]
      simp only [s_42_32, s_42_33, s_42_36, s_42_37, s_42_38, va_rf_s, pk_mul, nI_add, not_false_eq_true, and_self, true_and, Option.toList_some, Option.toList_none, List.append_nil, List.cons_append, List.nil_append, nI_01, nI_11, vh_K_wI, vh_R_wI, vh_Z_wI, vh_wI_sI, vh_K_sI, vh_R_sI, vh_Z_sI, vh_sI_sI, vh_I_sI, h1, h2, h6, h7, cl (show p < 2 ^ 31 by omega), ib hp5 (show 5 ≤ 2 ^ 31 by omega), d1, s_42_39]
      by_cases q3 : ρ (10 + 4 * p) = 3
      · rw [if_neg (fun z => z (by rw [q3]))]
        simp only [s_42_42, s_42_43, s_42_46, s_42_47, s_42_50, s_42_51, s_42_52, va_rf_s, pk_mul, nI_add, not_false_eq_true, and_self, true_and, Option.toList_some, Option.toList_none, List.append_nil, List.cons_append, List.nil_append, nI_01, nI_11, vh_K_wI, vh_R_wI, vh_Z_wI, vh_wI_sI, vh_K_sI, vh_R_sI, vh_Z_sI, vh_sI_sI, vh_I_sI, hM, h1, h3, h8, h9, cl (show p < 2 ^ 31 by omega), ib hp5 (show 5 ≤ 2 ^ 31 by omega), n1, c_isIn, jbit_bt _ (show ρ (11 + 4 * p) < 32 by omega), jb_0, s_42_55]
        by_cases q4 : bt (vh_I h 4 9) (ρ (11 + 4 * p)) = true
        · rw [if_neg (fun z => z q4), jb_t ⟨q1, q2, q3, q4⟩]
          simp only [s_42_58, s_42_59, s_42_63, va_rf_s, pk_mul, nI_add, not_false_eq_true, and_self, true_and, Option.toList_some, Option.toList_none, List.append_nil, List.cons_append, List.nil_append, nI_01, nI_11, vh_K_wI, vh_R_wI, vh_Z_wI, vh_wI_sI, vh_K_sI, vh_R_sI, vh_Z_sI, vh_sI_sI, vh_I_sI]
        · rw [if_pos q4, jb_f (fun z => q4 z.2.2.2)]
          simp only [s_42_62, s_42_63, va_rf_s, pk_mul, nI_add, not_false_eq_true, and_self, true_and, Option.toList_some, Option.toList_none, List.append_nil, List.cons_append, List.nil_append, nI_01, nI_11, vh_K_wI, vh_R_wI, vh_Z_wI, vh_wI_sI, vh_K_sI, vh_R_sI, vh_Z_sI, vh_sI_sI, vh_I_sI]
      · rw [if_pos (fun z => q3 ((nI_eq (by omega) (by omega)).mp z)), jb_f (fun z => q3 z.2.2.1)]
        simp only [s_42_62, s_42_63, va_rf_s, pk_mul, nI_add, not_false_eq_true, and_self, true_and, Option.toList_some, Option.toList_none, List.append_nil, List.cons_append, List.nil_append, nI_01, nI_11, vh_K_wI, vh_R_wI, vh_Z_wI, vh_wI_sI, vh_K_sI, vh_R_sI, vh_Z_sI, vh_sI_sI, vh_I_sI]
    · rw [if_pos (fun z => q2 (ke.mp z)), jb_f (fun z => q2 z.2.1)]
      simp only [s_42_62, s_42_63, va_rf_s, pk_mul, nI_add, not_false_eq_true, and_self, true_and, Option.toList_some, Option.toList_none, List.append_nil, List.cons_append, List.nil_append, nI_01, nI_11, vh_K_wI, vh_R_wI, vh_Z_wI, vh_wI_sI, vh_K_sI, vh_R_sI, vh_Z_sI, vh_sI_sI, vh_I_sI]
theorem c_roundOf {g : Nat → Nat} {U n a b : Nat} {h : vt_H} {D : Nat → Nat → Nat → Bool} {rr : Nat → Nat → Nat → Int32} (Q : vt_Q) (hM : vh_K h 4 = 102) (hG : RW h g U) (hD : RR h g D rr) (hn : n < 16) (ha : a < 32) (hb : b < 32) (hd : D n a b = true) : Wp 74 0 [.ref 4, .int (nI n), .int (nI a), .int (nI b), vt_un] [] h Q ↔ Q (some (.int (rr n a b))) h := by
  obtain ⟨⟨g1, g2, g3⟩, g4, -⟩ := hG
  obtain ⟨r1, r2, -⟩ := g4 n hn
  obtain ⟨d1, d2⟩ := hD n a b hn ha hb hd
  have b1 : 32 * a + b < 1024 := by omega
  simp only [s_74_0, s_74_2, s_74_3, s_74_4, s_74_5, s_74_6, s_74_8, s_74_10, s_74_11, s_74_14, s_74_15, s_74_16, va_rf_s, pk_mul, nI_add, not_false_eq_true, and_self, true_and, Option.toList_some, Option.toList_none, List.append_nil, List.cons_append, List.nil_append, nI_01, nI_11, vh_K_wI, vh_R_wI, vh_Z_wI, vh_wI_sI, vh_K_sI, vh_R_sI, vh_Z_sI, vh_sI_sI, vh_I_sI, hM, g1, g2, g3, r1, r2, d1, cl (show n < 2 ^ 31 by omega), ib hn (show 16 ≤ 2 ^ 31 by omega), show 0 < 1 by omega, show 1 < 100 by omega, s_74_17]
  rw [if_neg (nI_ge b1 (by omega))]
  simp only [s_74_20, s_74_21, s_74_24, s_74_25, s_74_26, s_74_28, s_74_29, s_74_33, va_rf_s, pk_mul, nI_add, not_false_eq_true, and_self, true_and, Option.toList_some, Option.toList_none, List.append_nil, List.cons_append, List.nil_append, nI_01, nI_11, vh_K_wI, vh_R_wI, vh_Z_wI, vh_wI_sI, vh_K_sI, vh_R_sI, vh_Z_sI, vh_sI_sI, vh_I_sI, hM, g1, g2, g3, r1, r2, d1, cl (show n < 2 ^ 31 by omega), ib hn (show 16 ≤ 2 ^ 31 by omega), cl (show 32 * a + b < 2 ^ 31 by omega), ib b1 (show 1024 ≤ 2 ^ 31 by omega), d2]

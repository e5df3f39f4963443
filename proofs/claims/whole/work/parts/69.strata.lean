-- ===== STRATA of the class =====
/-- the variable v stands in a part that gives it; is asked for -/
def giv (ρ : Nat → Nat) (v : Nat) : Prop := ∃ i, i < ρ 5 ∧ ρ (10 + 4 * i) = 3 ∧ (ρ (12 + 4 * i) = 32 + v ∨ ρ (13 + 4 * i) = 32 + v)
def ask (ρ : Nat → Nat) (v : Nat) : Prop := (ρ 1 = 32 + v ∨ sec ρ = 32 + v) ∨ ∃ i, i < ρ 5 ∧ ¬ ρ (10 + 4 * i) = 3 ∧ (ρ (12 + 4 * i) = 32 + v ∨ ρ (13 + 4 * i) = 32 + v)
/-- the rule is safe -/
def sf (ρ : Nat → Nat) : Prop := ∀ v, v < 6 → ask ρ v → giv ρ v
theorem bt_jvar {x y v : Nat} (hx : x < 38) (hy : y < 38) (hv : v < 32) : bt (jvar (jI x) (jI y)) v = true ↔ x = 32 + v ∨ y = 32 + v := by
  have one : ∀ t, t < 38 → 32 ≤ t → (bt (j1 (-nI 1 - jI t)) v = true ↔ t = 32 + v) := by
    intro t ht h32
    rw [jI_var t ht h32, bt_j1 (by omega) hv, decide_eq_true_eq]
    omega
  have n0 : bt (nI 0) v = false := b_0 v
  unfold jvar
  by_cases q2 : 32 ≤ y
  · rw [if_pos ((jI_lt y hy).mpr q2), b_or, Bool.or_eq_true, one y hy q2]
    by_cases q1 : 32 ≤ x
    · rw [if_pos ((jI_lt x hx).mpr q1), one x hx q1]
    · rw [if_neg (fun z => q1 ((jI_lt x hx).mp z)), n0]
      constructor
      · rintro (z | z)
        · cases z
        · exact Or.inr z
      · rintro (z | z)
        · omega
        · exact Or.inr z
  · rw [if_neg (fun z => q2 ((jI_lt y hy).mp z))]
    by_cases q1 : 32 ≤ x
    · rw [if_pos ((jI_lt x hx).mpr q1), one x hx q1]
      exact ⟨Or.inl, fun z => z.elim id (fun z => by omega)⟩
    · rw [if_neg (fun z => q1 ((jI_lt x hx).mp z)), n0]
      constructor
      · intro z; cases z
      · rintro (z | z) <;> omega
theorem c_safeR {r d n x y : Nat} {h : vt_H} {ρ : Nat → Nat} (Q : vt_Q) (hR : RL h r d n x y) (hV : RV (vh_I h) r d n x y ρ) : Wp 26 0 [.ref r, vt_un, vt_un, vt_un] [] h Q ↔ Q (some (.int (@jb (sf ρ) (Classical.propDecidable _)))) h := by
  rw [c_isSafe Q hR hV.2.2.2.2.2.1.1 hV.2.2.2.2.2.1.2]
  have s38 := sec_38 hV
  have seq := sec_eq hV
  obtain ⟨-, ⟨v1, v1'⟩, -, -, -, ⟨v5, v5'⟩, vp⟩ := hV
  have g : ∀ k, k ≤ ρ 5 → ∀ v, v < 32 → (bt (jgiven (vh_I h) d x y k) v = true ↔ ∃ i, i < k ∧ ρ (10 + 4 * i) = 3 ∧ (ρ (12 + 4 * i) = 32 + v ∨ ρ (13 + 4 * i) = 32 + v)) := by
    intro k
    induction k with
    | zero =>
      intro _ v hv
      have n0 : bt (nI 0) v = false := b_0 v
      show bt (nI 0) v = true ↔ _
      rw [n0]
      exact ⟨fun z => (by cases z), fun ⟨i, z, _⟩ => absurd z (by omega)⟩
    | succ k ih =>
      intro hk v hv
      obtain ⟨⟨d1, d2⟩, -, ⟨x1, x2⟩, ⟨y1, y2⟩⟩ := vp k (by omega)
      have ih' := ih (by omega) v hv
      show bt (if vh_I h d k = nI 3 then _ else _) v = true ↔ _
      rw [d1, x1, y1]
      have e3 : nI (ρ (10 + 4 * k)) = nI 3 ↔ ρ (10 + 4 * k) = 3 := nI_eq (by omega) (by omega)
      by_cases q : ρ (10 + 4 * k) = 3
      · rw [if_pos (e3.mpr q), b_or, Bool.or_eq_true, ih', bt_jvar x2 y2 hv]
        constructor
        · rintro (⟨i, z1, z2⟩ | z)
          · exact ⟨i, by omega, z2⟩
          · exact ⟨k, by omega, q, z⟩
        · rintro ⟨i, z1, z2, z3⟩
          by_cases e : i = k
          · subst e; exact Or.inr z3
          · exact Or.inl ⟨i, by omega, z2, z3⟩
      · rw [if_neg (fun z => q (e3.mp z)), ih']
        constructor
        · rintro ⟨i, z1, z2⟩; exact ⟨i, by omega, z2⟩
        · rintro ⟨i, z1, z2, z3⟩
          by_cases e : i = k
          · subst e; exact absurd z2 q
          · exact ⟨i, by omega, z2, z3⟩
  have a : ∀ k, k ≤ ρ 5 → ∀ v, v < 32 → (bt (jasked (vh_I h) d x y (jvar (vh_I h r 1) (jsecond (vh_I h) r)) k) v = true ↔ (ρ 1 = 32 + v ∨ sec ρ = 32 + v) ∨ ∃ i, i < k ∧ ¬ ρ (10 + 4 * i) = 3 ∧ (ρ (12 + 4 * i) = 32 + v ∨ ρ (13 + 4 * i) = 32 + v)) := by
    intro k
    induction k with
    | zero =>
      intro _ v hv
      show bt (jvar (vh_I h r 1) (jsecond (vh_I h) r)) v = true ↔ _
      have : jsecond (vh_I h) r = jI (sec ρ) := seq
      rw [this, v1, bt_jvar v1' s38 hv]
      exact ⟨Or.inl, fun z => z.elim id (fun ⟨i, z, _⟩ => absurd z (by omega))⟩
    | succ k ih =>
      intro hk v hv
      obtain ⟨⟨d1, d2⟩, -, ⟨x1, x2⟩, ⟨y1, y2⟩⟩ := vp k (by omega)
      have ih' := ih (by omega) v hv
      show bt (if vh_I h d k = nI 3 then _ else _) v = true ↔ _
      rw [d1, x1, y1]
      have e3 : nI (ρ (10 + 4 * k)) = nI 3 ↔ ρ (10 + 4 * k) = 3 := nI_eq (by omega) (by omega)
      by_cases q : ρ (10 + 4 * k) = 3
      · rw [if_pos (e3.mpr q), ih']
        constructor
        · rintro (z | ⟨i, z1, z2⟩)
          · exact Or.inl z
          · exact Or.inr ⟨i, by omega, z2⟩
        · rintro (z | ⟨i, z1, z2, z3⟩)
          · exact Or.inl z
          · by_cases e : i = k
            · subst e; exact absurd q z2
            · exact Or.inr ⟨i, by omega, z2, z3⟩
      · rw [if_neg (fun z => q (e3.mp z)), b_or, Bool.or_eq_true, ih', bt_jvar x2 y2 hv]
        constructor
        · rintro ((z | ⟨i, z1, z2⟩) | z)
          · exact Or.inl z
          · exact Or.inr ⟨i, by omega, z2⟩
          · exact Or.inr ⟨k, by omega, q, z⟩
        · rintro (z | ⟨i, z1, z2, z3⟩)
          · exact Or.inl (Or.inl z)
          · by_cases e : i = k
            · subst e; exact Or.inr z3
            · exact Or.inl (Or.inr ⟨i, by omega, z2, z3⟩)
  have e : jasked (vh_I h) d x y (jvar (vh_I h r 1) (jsecond (vh_I h) r)) (ρ 5) &&& (jgiven (vh_I h) d x y (ρ 5) ^^^ -nI 1) = 0 ↔ sf ρ := by
    rw [bt_zero]
    constructor
    · intro z v hv hask
      refine Classical.byContradiction (fun w => ?_)
      have := z v (by omega)
      rw [b_and, bt_not _ (by omega), (a (ρ 5) (Nat.le_refl _) v (by omega)).mpr hask, Bool.true_and] at this
      have g' : ¬ bt (jgiven (vh_I h) d x y (ρ 5)) v = true := fun y' => w ((g (ρ 5) (Nat.le_refl _) v (by omega)).mp y')
      cases hb : bt (jgiven (vh_I h) d x y (ρ 5)) v with
      | true => exact g' hb
      | false => rw [hb] at this; cases this
    · intro z v hv
      rw [b_and, bt_not _ hv]
      cases hb : bt (jasked (vh_I h) d x y (jvar (vh_I h r 1) (jsecond (vh_I h) r)) (ρ 5)) v with
      | false => rfl
      | true =>
        have ha := (a (ρ 5) (Nat.le_refl _) v hv).mp hb
        have v6 : v < 6 := by
          rcases ha with (w | w) | ⟨i, w1, w2, w3⟩
          · omega
          · omega
          · obtain ⟨-, -, ⟨x1, x2⟩, ⟨y1, y2⟩⟩ := vp i w1
            omega
        rw [(g (ρ 5) (Nat.le_refl _) v hv).mpr (z v v6 ha)]
        rfl
  rw [@jb_c _ _ _ (Classical.propDecidable _) e]
theorem jb_0c {p : Prop} : @jb p (Classical.propDecidable _) = 0 ↔ ¬ p := @jb_0 p (Classical.propDecidable _)
theorem oc_t {ρ : Nat → Nat} {v : Nat} : ∀ {k : Nat}, oc ρ k v = true ↔ ∃ i, i < k ∧ (ρ (12 + 4 * i) = 32 + v ∨ ρ (13 + 4 * i) = 32 + v)
  | 0 => ⟨fun z => (by cases z), fun ⟨i, z, _⟩ => absurd z (by omega)⟩
  | k + 1 => by
    show (oc ρ k v || decide (ρ (12 + 4 * k) = 32 + v) || decide (ρ (13 + 4 * k) = 32 + v)) = true ↔ _
    rw [Bool.or_eq_true, Bool.or_eq_true, oc_t (k := k), decide_eq_true_eq, decide_eq_true_eq]
    constructor
    · rintro ((⟨i, z1, z2⟩ | z) | z)
      · exact ⟨i, by omega, z2⟩
      · exact ⟨k, by omega, Or.inl z⟩
      · exact ⟨k, by omega, Or.inr z⟩
    · rintro ⟨i, z1, z2⟩
      by_cases e : i = k
      · subst e
        rcases z2 with z2 | z2
        · exact Or.inl (Or.inr z2)
        · exact Or.inr z2
      · exact Or.inl (Or.inl ⟨i, by omega, z2⟩)
theorem sf_hs2 {ρ : Nat → Nat} (h : sf ρ) (h1 : ρ 1 < 38) (h2 : sec ρ < 38) : hs2 ρ := by
  refine ⟨fun z => ?_, fun z => ?_⟩
  · obtain ⟨i, a, _, b⟩ := h (ρ 1 - 32) (by omega) (Or.inl (Or.inl (by omega)))
    exact oc_t.mpr ⟨i, a, b⟩
  · obtain ⟨i, a, _, b⟩ := h (sec ρ - 32) (by omega) (Or.inl (Or.inr (by omega)))
    exact oc_t.mpr ⟨i, a, b⟩
/-- what rule rho makes its name need, strictly need; only its first k parts -/
def nR (ρ : Nat → Nat) (k n m : Nat) : Prop := ρ 0 = n ∧ ∃ p, p < k ∧ (ρ (10 + 4 * p) = 3 ∨ ρ (10 + 4 * p) = 4) ∧ ρ (11 + 4 * p) = m
def sR (ρ : Nat → Nat) (k n m : Nat) : Prop := ρ 0 = n ∧ ∃ p, p < k ∧ (ρ (10 + 4 * p) = 3 ∨ ρ (10 + 4 * p) = 4) ∧ ρ (11 + 4 * p) = m ∧ (ρ (10 + 4 * p) = 4 ∨ ¬ ρ 3 = 0)
/-- of the first c rules -/
def ND (ρs : Nat → Nat → Nat) (c n m : Nat) : Prop := ∃ i, i < c ∧ sf (ρs i) ∧ nR (ρs i) (ρs i 5) n m
def SD (ρs : Nat → Nat → Nat) (c n m : Nat) : Prop := ∃ i, i < c ∧ sf (ρs i) ∧ sR (ρs i) (ρs i 5) n m
/-- the object Strata 5 and its arrays 6 .. 9 -/
def SO (h : vt_H) : Prop := vh_K h 5 = 104 ∧ vh_R h 5 0 = some 6 ∧ vh_R h 5 1 = some 7 ∧ vh_R h 5 2 = some 8 ∧ vh_R h 5 3 = some 9 ∧ (vh_K h 6 = 1 ∧ vh_Z h 6 = 16) ∧ (vh_K h 7 = 1 ∧ vh_Z h 7 = 16) ∧ (vh_K h 8 = 1 ∧ vh_Z h 8 = 16) ∧ (vh_K h 9 = 1 ∧ vh_Z h 9 = 16)
/-- needs and strict needs as bits -/
def NB (f : Nat → Nat → Int32) (A B : Nat → Nat → Prop) : Prop := (∀ n m, n < 16 → m < 32 → (bt (f 6 n) m = true ↔ A n m)) ∧ ∀ n m, n < 16 → m < 32 → (bt (f 7 n) m = true ↔ B n m)
theorem l_readRule {r d n x y : Nat} {h : vt_H} {Q : vt_Q} {ρ : Nat → Nat} {A B : Nat → Nat → Prop} (hS : SO h) (hR : RL h r d n x y) (hV : RV (vh_I h) r d n x y ρ) (ha : (48 < r ∧ 48 < d) ∧ 48 < n)
    (hQ : ∀ f', NB f' (fun n m => A n m ∨ nR ρ (ρ 5) n m) (fun n m => B n m ∨ sR ρ (ρ 5) n m) → (∀ c, c ≠ 6 → c ≠ 7 → ∀ j, f' c j = vh_I h c j) → Q none (vh_sI h f')) :
    ∀ (k i : Nat), i + k = ρ 5 → ∀ f0 y3, NB f0 (fun n m => A n m ∨ nR ρ i n m) (fun n m => B n m ∨ sR ρ i n m) → (∀ c, c ≠ 6 → c ≠ 7 → ∀ j, f0 c j = vh_I h c j) → Wp 36 2 [.ref 5, .ref r, .int (nI i), y3] [] (vh_sI h f0) Q := by
  obtain ⟨s1, s2, s3, s4, s5, ⟨s6, s7⟩, ⟨s8, s9⟩, -, -⟩ := hS
  obtain ⟨h1, h2, h3, -, -, ⟨h6, h7⟩, ⟨h8, h9⟩, -, -⟩ := hR
  obtain ⟨⟨v0, v0'⟩, -, -, ⟨v3, v3'⟩, -, ⟨v5, v5'⟩, vp⟩ := hV
  have kn : kI (ρ 3) = -nI 1 ↔ ρ 3 = 0 := kI_eq (ρ 3) v3' 0 (by omega)
  intro k
  induction k with
  | zero =>
    intro i hi f0 y3 hN hf
    have : i = ρ 5 := by omega
    subst this
    simp only [s_36_2, s_36_3, s_36_4, va_rf_s, pk_mul, nI_add, not_false_eq_true, and_self, true_and, Option.toList_some, Option.toList_none, List.append_nil, List.cons_append, List.nil_append, nI_01, nI_11, vh_K_wI, vh_R_wI, vh_Z_wI, vh_wI_sI, vh_K_sI, vh_R_sI, vh_Z_sI, vh_sI_sI, vh_I_sI, h1, hf r (by omega) (by omega), v5, s_36_7, if_pos (nI_le (Nat.le_refl (ρ 5)) (show ρ 5 < 2 ^ 31 by omega))]
    simp only [s_36_108]
    exact hQ f0 hN hf
  | succ k ih =>
    intro i hi f0 y3 hN hf
    have hlt : i < ρ 5 := by omega
    have hi5 : i < 5 := by omega
    obtain ⟨⟨d1, d2⟩, ⟨n1, n2⟩, -⟩ := vp i hlt
    have er : ∀ g : Nat → Nat → Int32, (∀ c, c ≠ 6 → c ≠ 7 → ∀ j, g c j = vh_I h c j) → g r 0 = nI (ρ 0) ∧ g r 3 = kI (ρ 3) ∧ g d i = nI (ρ (10 + 4 * i)) ∧ g n i = nI (ρ (11 + 4 * i)) := fun g hg => ⟨(hg r (by omega) (by omega) 0).trans v0, (hg r (by omega) (by omega) 3).trans v3, (hg d (by omega) (by omega) i).trans d1, (hg n (by omega) (by omega) i).trans n1⟩
    obtain ⟨e0, e3, ed, en⟩ := er f0 hf
    have e34 : ∀ a, a < 5 → ∀ b, b < 5 → (nI a = nI b ↔ a = b) := fun a ha b hb => nI_eq (by omega) (by omega)
    simp only [s_36_2, s_36_3, s_36_4, va_rf_s, pk_mul, nI_add, not_false_eq_true, and_self, true_and, Option.toList_some, Option.toList_none, List.append_nil, List.cons_append, List.nil_append, nI_01, nI_11, vh_K_wI, vh_R_wI, vh_Z_wI, vh_wI_sI, vh_K_sI, vh_R_sI, vh_Z_sI, vh_sI_sI, vh_I_sI, h1, hf r (by omega) (by omega), v5, s_36_7, if_neg (nI_ge hlt (show ρ 5 < 2 ^ 31 by omega))]
    have next : ∀ f1 y3, NB f1 (fun n m => A n m ∨ nR ρ (i + 1) n m) (fun n m => B n m ∨ sR ρ (i + 1) n m) → (∀ c, c ≠ 6 → c ≠ 7 → ∀ j, f1 c j = vh_I h c j) → Wp 36 102 [.ref 5, .ref r, .int (nI i), y3] [] (vh_sI h f1) Q := by
      intro f1 y3 q1 q2
      simp only [s_36_102, s_36_105, va_rf_s, pk_mul, nI_add, not_false_eq_true, and_self, true_and, Option.toList_some, Option.toList_none, List.append_nil, List.cons_append, List.nil_append, nI_01, nI_11, vh_K_wI, vh_R_wI, vh_Z_wI, vh_wI_sI, vh_K_sI, vh_R_sI, vh_Z_sI, vh_sI_sI, vh_I_sI]
      exact ih (i + 1) (by omega) f1 y3 q1 q2
    have skip : ¬ (ρ (10 + 4 * i) = 3 ∨ ρ (10 + 4 * i) = 4) → NB f0 (fun n m => A n m ∨ nR ρ (i + 1) n m) (fun n m => B n m ∨ sR ρ (i + 1) n m) := by
      intro no
      refine ⟨fun n m hn hm => (hN.1 n m hn hm).trans ⟨?_, ?_⟩, fun n m hn hm => (hN.2 n m hn hm).trans ⟨?_, ?_⟩⟩
      · rintro (z | ⟨z1, p, z2, z3⟩)
        · exact Or.inl z
        · exact Or.inr ⟨z1, p, by omega, z3⟩
      · rintro (z | ⟨z1, p, z2, z3⟩)
        · exact Or.inl z
        · refine Or.inr ⟨z1, p, ?_, z3⟩
          have : p ≠ i := fun e => no (e ▸ z3.1)
          omega
      · rintro (z | ⟨z1, p, z2, z3⟩)
        · exact Or.inl z
        · exact Or.inr ⟨z1, p, by omega, z3⟩
      · rintro (z | ⟨z1, p, z2, z3⟩)
        · exact Or.inl z
        · refine Or.inr ⟨z1, p, ?_, z3⟩
          have : p ≠ i := fun e => no (e ▸ z3.1)
          omega
    have yes : (ρ (10 + 4 * i) = 3 ∨ ρ (10 + 4 * i) = 4) → Wp 36 35 [.ref 5, .ref r, .int (nI i), y3] [.int (nI 1)] (vh_sI h f0) Q := by
      intro hyes
      simp only [s_36_35, s_36_36, s_36_37]
      rw [if_neg nI_10]
      have b0 : ρ 0 < 16 := v0'
      simp only [s_36_40, s_36_41, s_36_44, s_36_45, s_36_48, s_36_49, s_36_50, s_36_51, s_36_52, s_36_55, s_36_56, s_36_57, s_36_58, s_36_59, s_36_60, va_rf_s, pk_mul, nI_add, not_false_eq_true, and_self, true_and, Option.toList_some, Option.toList_none, List.append_nil, List.cons_append, List.nil_append, nI_01, nI_11, vh_K_wI, vh_R_wI, vh_Z_wI, vh_wI_sI, vh_K_sI, vh_R_sI, vh_Z_sI, vh_sI_sI, vh_I_sI, s1, s2, s6, s7, h1, h3, h8, h9, e0, en, cl (show ρ 0 < 2 ^ 31 by omega), ib b0 (show 16 ≤ 2 ^ 31 by omega), cl (show i < 2 ^ 31 by omega), ib hi5 (show 5 ≤ 2 ^ 31 by omega), s_36_61]
      rw [if_neg nI_10]
      generalize hf1 : up2 f0 6 (ρ 0) (f0 6 (ρ 0) ||| nI 1 <<< (nI (ρ (11 + 4 * i)) &&& 31)) = f1
      have f1o : ∀ c, c ≠ 6 → ∀ j, f1 c j = f0 c j := fun c hc j => by rw [← hf1, up2_a _ _ _ hc]
      have f1f : ∀ c, c ≠ 6 → c ≠ 7 → ∀ j, f1 c j = vh_I h c j := fun c c1 c2 j => (f1o c c1 j).trans (hf c c1 c2 j)
      have N1 : ∀ n' m, n' < 16 → m < 32 → (bt (f1 6 n') m = true ↔ A n' m ∨ nR ρ (i + 1) n' m) := by
        intro n' m hn' hm
        by_cases e : n' = ρ 0
        · subst e
          rw [← hf1, up2_s]
          show bt (f0 6 (ρ 0) ||| j1 (nI (ρ (11 + 4 * i)))) m = true ↔ _
          rw [b_or, Bool.or_eq_true, hN.1 _ m hn' hm, bt_j1 (by omega) hm, decide_eq_true_eq]
          constructor
          · rintro ((z | ⟨z1, p, z2, z3⟩) | z)
            · exact Or.inl z
            · exact Or.inr ⟨z1, p, by omega, z3⟩
            · exact Or.inr ⟨rfl, i, by omega, hyes, z.symm⟩
          · rintro (z | ⟨z1, p, z2, z3, z4⟩)
            · exact Or.inl (Or.inl z)
            · by_cases e : p = i
              · subst e; exact Or.inr z4.symm
              · exact Or.inl (Or.inr ⟨z1, p, by omega, z3, z4⟩)
        · rw [← hf1, up2_i _ _ _ _ e, hN.1 n' m hn' hm]
          constructor
          · rintro (z | z)
            · exact Or.inl z
            · exact absurd z.1.symm e
          · rintro (z | z)
            · exact Or.inl z
            · exact absurd z.1.symm e
      obtain ⟨e0', e3', ed', en'⟩ := er f1 f1f
      have strict : (ρ (10 + 4 * i) = 4 ∨ ¬ ρ 3 = 0) → Wp 36 82 [.ref 5, .ref r, .int (nI i), .int (nI 1)] [] (vh_sI h f1) Q := by
        intro hst
        simp only [s_36_82, s_36_83, s_36_86, s_36_87, s_36_90, s_36_91, s_36_92, s_36_93, s_36_94, s_36_97, s_36_98, s_36_99, s_36_100, s_36_101, va_rf_s, pk_mul, nI_add, not_false_eq_true, and_self, true_and, Option.toList_some, Option.toList_none, List.append_nil, List.cons_append, List.nil_append, nI_01, nI_11, vh_K_wI, vh_R_wI, vh_Z_wI, vh_wI_sI, vh_K_sI, vh_R_sI, vh_Z_sI, vh_sI_sI, vh_I_sI, s1, s3, s8, s9, h1, h3, h8, h9, e0', en', cl (show ρ 0 < 2 ^ 31 by omega), ib b0 (show 16 ≤ 2 ^ 31 by omega), cl (show i < 2 ^ 31 by omega), ib hi5 (show 5 ≤ 2 ^ 31 by omega)]
        refine next _ _ ⟨fun n' m hn' hm => ?_, fun n' m hn' hm => ?_⟩ (fun c c1 c2 j => ?_)
        · rw [up2_a _ _ _ (by decide)]; exact N1 n' m hn' hm
        · by_cases e : n' = ρ 0
          · subst e
            rw [up2_s]
            show bt (f1 7 (ρ 0) ||| j1 (nI (ρ (11 + 4 * i)))) m = true ↔ _
            rw [b_or, Bool.or_eq_true, f1o 7 (by decide), hN.2 _ m hn' hm, bt_j1 (by omega) hm, decide_eq_true_eq]
            constructor
            · rintro ((z | ⟨z1, p, z2, z3⟩) | z)
              · exact Or.inl z
              · exact Or.inr ⟨z1, p, by omega, z3⟩
              · exact Or.inr ⟨rfl, i, by omega, hyes, z.symm, hst⟩
            · rintro (z | ⟨z1, p, z2, z3, z4, z5⟩)
              · exact Or.inl (Or.inl z)
              · by_cases e : p = i
                · subst e; exact Or.inr z4.symm
                · exact Or.inl (Or.inr ⟨z1, p, by omega, z3, z4, z5⟩)
          · rw [up2_i _ _ _ _ e, f1o 7 (by decide), hN.2 n' m hn' hm]
            constructor
            · rintro (z | z)
              · exact Or.inl z
              · exact absurd z.1.symm e
            · rintro (z | z)
              · exact Or.inl z
              · exact absurd z.1.symm e
        · rw [up2_a _ _ _ c2]; exact f1f c c1 c2 j
      simp only [s_36_64, s_36_65, s_36_68, s_36_69, s_36_70, va_rf_s, pk_mul, nI_add, not_false_eq_true, and_self, true_and, Option.toList_some, Option.toList_none, List.append_nil, List.cons_append, List.nil_append, nI_01, nI_11, vh_K_wI, vh_R_wI, vh_Z_wI, vh_wI_sI, vh_K_sI, vh_R_sI, vh_Z_sI, vh_sI_sI, vh_I_sI, h1, h2, h6, h7, ed', cl (show i < 2 ^ 31 by omega), ib hi5 (show 5 ≤ 2 ^ 31 by omega), s_36_71]
      by_cases q4 : ρ (10 + 4 * i) = 4
      · rw [if_pos (by rw [q4])]
        exact strict (Or.inl q4)
      · rw [if_neg (fun z => q4 ((e34 _ d2 4 (by omega)).mp z))]
        simp only [s_36_74, s_36_75, s_36_78, va_rf_s, pk_mul, nI_add, not_false_eq_true, and_self, true_and, Option.toList_some, Option.toList_none, List.append_nil, List.cons_append, List.nil_append, nI_01, nI_11, vh_K_wI, vh_R_wI, vh_Z_wI, vh_wI_sI, vh_K_sI, vh_R_sI, vh_Z_sI, vh_sI_sI, vh_I_sI, h1, e3', s_36_79]
        by_cases q5 : ρ 3 = 0
        · rw [if_pos (kn.mpr q5)]
          refine next f1 _ ⟨N1, fun n' m hn' hm => ?_⟩ f1f
          rw [f1o 7 (by decide), hN.2 n' m hn' hm]
          constructor
          · rintro (z | ⟨z1, p, z2, z3⟩)
            · exact Or.inl z
            · exact Or.inr ⟨z1, p, by omega, z3⟩
          · rintro (z | ⟨z1, p, z2, z3, z4, z5⟩)
            · exact Or.inl z
            · refine Or.inr ⟨z1, p, ?_, z3, z4, z5⟩
              have : p ≠ i := by
                intro e
                subst e
                rcases z5 with z5 | z5
                · exact q4 z5
                · exact z5 q5
              omega
        · rw [if_neg (fun z => q5 (kn.mp z))]
          exact strict (Or.inr q5)
    simp only [s_36_10, s_36_11, s_36_14, s_36_15, s_36_16, va_rf_s, pk_mul, nI_add, not_false_eq_true, and_self, true_and, Option.toList_some, Option.toList_none, List.append_nil, List.cons_append, List.nil_append, nI_01, nI_11, vh_K_wI, vh_R_wI, vh_Z_wI, vh_wI_sI, vh_K_sI, vh_R_sI, vh_Z_sI, vh_sI_sI, vh_I_sI, h1, h2, h6, h7, ed, cl (show i < 2 ^ 31 by omega), ib hi5 (show 5 ≤ 2 ^ 31 by omega), s_36_17]
    by_cases q3 : ρ (10 + 4 * i) = 3
    · rw [if_pos (by rw [q3])]
      simp only [s_36_30, s_36_31]
      exact yes (Or.inl q3)
    · rw [if_neg (fun z => q3 ((e34 _ d2 3 (by omega)).mp z))]
      simp only [s_36_20, s_36_21, s_36_24, s_36_25, s_36_26, va_rf_s, pk_mul, nI_add, not_false_eq_true, and_self, true_and, Option.toList_some, Option.toList_none, List.append_nil, List.cons_append, List.nil_append, nI_01, nI_11, vh_K_wI, vh_R_wI, vh_Z_wI, vh_wI_sI, vh_K_sI, vh_R_sI, vh_Z_sI, vh_sI_sI, vh_I_sI, h1, h2, h6, h7, ed, cl (show i < 2 ^ 31 by omega), ib hi5 (show 5 ≤ 2 ^ 31 by omega), s_36_27]
      by_cases q4 : ρ (10 + 4 * i) = 4
      · rw [if_neg (fun z => z (by rw [q4]))]
        simp only [s_36_30, s_36_31]
        exact yes (Or.inr q4)
      · rw [if_pos (fun z => q4 ((e34 _ d2 4 (by omega)).mp z))]
        simp only [s_36_34, s_36_35, s_36_36, s_36_37]
        rw [if_pos nI_00]
        simp only [s_36_60, s_36_61]
        rw [if_pos nI_00]
        exact next f0 _ (skip (fun z => z.elim q3 q4)) hf
theorem c_readRule {r d n x y : Nat} {h : vt_H} {Q : vt_Q} {ρ : Nat → Nat} {A B : Nat → Nat → Prop} (hS : SO h) (hR : RL h r d n x y) (hV : RV (vh_I h) r d n x y ρ) (ha : (48 < r ∧ 48 < d) ∧ 48 < n) (hN : NB (vh_I h) A B)
    (hQ : ∀ f', NB f' (fun n m => A n m ∨ nR ρ (ρ 5) n m) (fun n m => B n m ∨ sR ρ (ρ 5) n m) → (∀ c, c ≠ 6 → c ≠ 7 → ∀ j, f' c j = vh_I h c j) → Q none (vh_sI h f')) : Wp 36 0 [.ref 5, .ref r, vt_un, vt_un] [] h Q := by
  simp only [s_36_0, s_36_1]
  have l := l_readRule hS hR hV ha hQ (ρ 5) 0 (by omega) (vh_I h) vt_un ⟨fun n m hn hm => (hN.1 n m hn hm).trans ⟨Or.inl, fun z => z.elim id (fun ⟨_, p, z, _⟩ => absurd z (by omega))⟩, fun n m hn hm => (hN.2 n m hn hm).trans ⟨Or.inl, fun z => z.elim id (fun ⟨_, p, z, _⟩ => absurd z (by omega))⟩⟩ (fun _ _ _ _ => rfl)
  rw [vh_sI_id] at l
  exact l

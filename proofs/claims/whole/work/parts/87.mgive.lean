-- ===== the reference: give, and what giving many times leaves =====
def cC (H : Nat → Bool) : Nat := sg_S (fun c => if H c = true then 1 else 0) 16384
theorem cC_add {H : Nat → Bool} {c : Nat} (hc : c < 16384) (h : ¬ H c = true) : cC (fun x => H x || decide (x = c)) = cC H + 1 := by
  unfold cC
  have e : ∀ x, x < 16384 → (if (H x || decide (x = c)) = true then 1 else 0) = (if H x = true then 1 else 0) + (if x = c then 1 else 0) := by
    intro x _
    by_cases q : x = c
    · subst q; simp [h]
    · simp [q]
  rw [sg_congr e, sg_add, sg_one (k := c) hc (fun i _ hi => if_neg hi), if_pos rfl]
theorem cC_le (H : Nat → Bool) : cC H ≤ 16384 := by
  have : cC H ≤ sg_S (fun _ => 1) 16384 := sg_le (fun k _ => by split <;> omega)
  rw [sg_const] at this
  omega
theorem cC_c {H H' : Nat → Bool} (e : ∀ c, c < 16384 → H c = H' c) : cC H = cC H' := sg_congr (fun c hc => by rw [e c hc])
/-- how giving codes cn c times each changes f0 into f -/
def GV (f0 f : Nat → Nat → Int32) (rd : Int32) (r : Nat) (Hc Oc : Nat → Bool) (rc cn : Nat → Nat) : Prop :=
  (rd = -nI 1 ∧ (∀ c, c < 16384 → f 137 c = f0 137 c + nI (cn c)) ∧ (∀ j, f 136 j = f0 136 j) ∧ (∀ j, f 144 j = f0 144 j) ∧ f 129 25 = f0 129 25) ∨
  (rd = nI r ∧ (∀ j, f 137 j = f0 137 j) ∧ (∀ c, c < 16384 → f 136 c = if Hc c = true then nI (rc c) else if cn c ≠ 0 then nI r else -nI 1) ∧ (∀ c, c < 16384 → ¬ Hc c = true → cn c ≠ 0 → f 144 c = f0 129 19) ∧ (∀ c, c < 16384 → (Hc c = true ∨ cn c = 0) → f 144 c = f0 144 c) ∧ ∃ m, f 129 25 = nI m ∧ m + cC Oc = cC (fun c => Hc c || decide (cn c ≠ 0)))
theorem GV_c {f0 f : Nat → Nat → Int32} {rd : Int32} {r : Nat} {Hc Oc : Nat → Bool} {rc cn cn' : Nat → Nat} (h : GV f0 f rd r Hc Oc rc cn) (e : ∀ c, c < 16384 → cn c = cn' c) : GV f0 f rd r Hc Oc rc cn' := by
  rcases h with ⟨h1, h2, h3⟩ | ⟨h1, h2, h3, h4, h5, m, h6, h7⟩
  · exact Or.inl ⟨h1, fun c hc => by rw [← e c hc]; exact h2 c hc, h3⟩
  · refine Or.inr ⟨h1, h2, fun c hc => by rw [← e c hc]; exact h3 c hc, fun c hc => by rw [← e c hc]; exact h4 c hc, fun c hc => by rw [← e c hc]; exact h5 c hc, m, h6, ?_⟩
    rw [h7]
    exact cC_c (fun c hc => by rw [e c hc])
theorem GV_f {f0 f f' : Nat → Nat → Int32} {rd : Int32} {r : Nat} {Hc Oc : Nat → Bool} {rc cn : Nat → Nat} (h : GV f0 f rd r Hc Oc rc cn) (e6 : ∀ j, f' 136 j = f 136 j) (e7 : ∀ j, f' 137 j = f 137 j) (e4 : ∀ j, f' 144 j = f 144 j) (e25 : f' 129 25 = f 129 25) : GV f0 f' rd r Hc Oc rc cn := by
  rcases h with ⟨h1, h2, h3, h4, h5⟩ | ⟨h1, h2, h3, h4, h5, m, h6, h7⟩
  · exact Or.inl ⟨h1, fun c hc => by rw [e7]; exact h2 c hc, fun j => by rw [e6]; exact h3 j, fun j => by rw [e4]; exact h4 j, by rw [e25]; exact h5⟩
  · exact Or.inr ⟨h1, fun j => by rw [e7]; exact h2 j, fun c hc => by rw [e6]; exact h3 c hc, fun c hc w1 w2 => by rw [e4]; exact h4 c hc w1 w2, fun c hc w => by rw [e4]; exact h5 c hc w, m, by rw [e25]; exact h6, h7⟩
/-- what is old stays old while facts are given -/
theorem GV_OL {f0 f : Nat → Nat → Int32} {rd : Int32} {r : Nat} {Hc Oc : Nat → Bool} {rc cn : Nat → Nat} (h : GV f0 f rd r Hc Oc rc cn) (h19 : f 129 19 = f0 129 19) (hr : r < 2 ^ 31) (h0 : rd = nI r → (∀ c, c < 16384 → f0 136 c = if Hc c = true then nI (rc c) else -nI 1) ∧ ¬ f0 129 19 < 0) {c : Nat} (hc : c < 16384) : OL f c ↔ OL f0 c := by
  unfold OL
  rcases h with ⟨h1, h2, h3, h4, h5⟩ | ⟨h1, h2, h3, h4, h5, _⟩
  · rw [h3, h4, h19]
  · obtain ⟨g1, g2⟩ := h0 h1
    rw [h3 c hc, g1 c hc, h19]
    by_cases q : Hc c = true
    · rw [if_pos q, if_pos q, h5 c hc (Or.inl q)]
    · rw [if_neg q, if_neg q]
      by_cases w : cn c ≠ 0
      · rw [if_pos w, h4 c hc q w]
        constructor
        · rintro ⟨_, z | z⟩
          · exact absurd z g2
          · exact absurd rfl z
        · rintro ⟨z, _⟩
          exact absurd (by decide) z
      · rw [if_neg w, h5 c hc (Or.inr (by omega))]
noncomputable def cadd (cn : Nat → Nat) (c : Nat) : Nat → Nat := fun x => cn x + bi (x = c)
theorem cadd_s (cn : Nat → Nat) (c : Nat) : cadd cn c c = cn c + 1 := by unfold cadd; rw [bi_t rfl]
theorem cadd_o (cn : Nat → Nat) {c x : Nat} (h : x ≠ c) : cadd cn c x = cn x := by unfold cadd; rw [bi_f h, Nat.add_zero]
theorem m_give {c r : Nat} {rd : Int32} {h : vt_H} {Q : vt_Q} {f0 : Nat → Nat → Int32} {Hc Oc : Nat → Bool} {rc cn : Nat → Nat} (hM : MZ h) (hc : c < 16384) (hr : r < 2 ^ 31) (hrc : ∀ c, c < 16384 → rc c < 2 ^ 31) (h19 : vh_I h 129 19 = f0 129 19) (hG : GV f0 (vh_I h) rd r Hc Oc rc cn)
    (hQ : ∀ f', GV f0 f' rd r Hc Oc rc (cadd cn c) → (∀ x, x ≠ 129 → x ≠ 136 → x ≠ 137 → x ≠ 144 → ∀ j, f' x j = vh_I h x j) → (∀ j, j ≠ 25 → f' 129 j = vh_I h 129 j) → Q none (vh_sI h f')) : Wp 110 0 [.ref 129, .int (nI c), .int rd] [] h Q := by
  obtain ⟨mk, ⟨mr0, mk0, mz0⟩, ⟨mr1, mk1, mz1⟩, ⟨mr2, mk2, mz2⟩, ⟨mr3, mk3, mz3⟩, ⟨mr4, mk4, mz4⟩, ⟨mr5, mk5, mz5⟩, ⟨mr6, mk6, mz6⟩, ⟨mr7, mk7, mz7⟩, ⟨mr8, mk8, mz8⟩, ⟨mr9, mk9, mz9⟩, ⟨mr10, mk10, mz10⟩, ⟨mr11, mk11, mz11⟩, ⟨mr12, mk12, mz12⟩, ⟨mr13, mk13, mz13⟩, ⟨mr14, mk14, mz14⟩, ⟨mr15, mk15, mz15⟩, ⟨mr16, mk16, mz16⟩, ⟨mr17, mk17, mz17⟩, ⟨mr18, mk18, mz18⟩⟩ := hM
  have bs := cadd_s cn c
  have bo : ∀ x, x ≠ c → cadd cn c x = cn x := fun x hx => cadd_o cn hx
  simp only [s_110_0, s_110_1]
  rcases hG with ⟨h1, h2, h3, h4, h5⟩ | ⟨h1, h2, h3, h4, h5, m, h6, h7⟩
  · rw [h1, if_neg (by decide)]
    simp only [s_110_4, s_110_5, s_110_8, s_110_9, s_110_10, s_110_11, s_110_12, s_110_13, s_110_14, s_110_53, mk, mr0, mk0, mz0, mr1, mk1, mz1, mr2, mk2, mz2, mr3, mk3, mz3, mr4, mk4, mz4, mr5, mk5, mz5, mr6, mk6, mz6, mr7, mk7, mz7, mr8, mk8, mz8, mr9, mk9, mz9, mr10, mk10, mz10, mr11, mk11, mz11, mr12, mk12, mz12, mr13, mk13, mz13, mr14, mk14, mz14, mr15, mk15, mz15, mr16, mk16, mz16, mr17, mk17, mz17, mr18, mk18, mz18, va_rf_s, pk_mul, nI_add, not_false_eq_true, and_self, true_and, Option.toList_some, Option.toList_none, List.append_nil, List.cons_append, List.nil_append, nI_01, nI_11, vh_K_wI, vh_R_wI, vh_Z_wI, vh_wI_sI, vh_K_sI, vh_R_sI, vh_Z_sI, vh_sI_sI, vh_I_sI, cl (show c < 2 ^ 31 by omega), ib hc (show 16384 ≤ 2 ^ 31 by omega)]
    refine hQ _ (Or.inl ⟨h1, fun x hx => ?_, fun j => ?_, fun j => ?_, ?_⟩) (fun x x1 x2 x3 x4 j => up2_a _ _ _ x3 j) (fun j hj => up2_a _ _ _ (by decide) j)
    · by_cases e : x = c
      · subst e
        rw [up2_s, h2 x hx, bs, Int32.add_assoc, nI_add]
      · rw [up2_i _ _ _ _ e, h2 x hx, bo x e]
    · rw [up2_a _ _ _ (by decide)]; exact h3 j
    · rw [up2_a _ _ _ (by decide)]; exact h4 j
    · rw [up2_a _ _ _ (by decide)]; exact h5
  · rw [h1, if_pos (nI_pos' hr)]
    have e136 := h3 c hc
    simp only [s_110_17, s_110_18, s_110_21, s_110_22, s_110_23, mk, mr0, mk0, mz0, mr1, mk1, mz1, mr2, mk2, mz2, mr3, mk3, mz3, mr4, mk4, mz4, mr5, mk5, mz5, mr6, mk6, mz6, mr7, mk7, mz7, mr8, mk8, mz8, mr9, mk9, mz9, mr10, mk10, mz10, mr11, mk11, mz11, mr12, mk12, mz12, mr13, mk13, mz13, mr14, mk14, mz14, mr15, mk15, mz15, mr16, mk16, mz16, mr17, mk17, mz17, mr18, mk18, mz18, va_rf_s, pk_mul, nI_add, not_false_eq_true, and_self, true_and, Option.toList_some, Option.toList_none, List.append_nil, List.cons_append, List.nil_append, nI_01, nI_11, vh_K_wI, vh_R_wI, vh_Z_wI, vh_wI_sI, vh_K_sI, vh_R_sI, vh_Z_sI, vh_sI_sI, vh_I_sI, cl (show c < 2 ^ 31 by omega), ib hc (show 16384 ≤ 2 ^ 31 by omega)]
    by_cases q : Hc c = true ∨ cn c ≠ 0
    · have nn : ¬ vh_I h 136 c < 0 := by
        rw [e136]
        rcases q with q | q
        · rw [if_pos q]; exact nI_pos (hrc c hc)
        · by_cases w : Hc c = true
          · rw [if_pos w]; exact nI_pos (hrc c hc)
          · rw [if_neg w, if_pos q]; exact nI_pos hr
      have sem : ∀ x, x < 16384 → ((Hc x = true ∨ cn x ≠ 0) ↔ (Hc x = true ∨ cadd cn c x ≠ 0)) := by
        intro x _
        by_cases e : x = c
        · subst e
          exact ⟨fun z => z.elim Or.inl (fun y => Or.inr (by omega)), fun _ => q⟩
        · rw [bo x e]
      have e23 : 0 ≤ vh_I h 136 c := i32_nlt.mp nn
      rw [if_pos e23]
      simp only [s_110_53]
      have g := hQ (vh_I h) (Or.inr ⟨h1, h2, fun x hx => ?_, fun x hx w1 w2 => ?_, fun x hx w => ?_, m, h6, ?_⟩) (fun _ _ _ _ _ _ => rfl) (fun _ _ => rfl)
      · rw [vh_sI_id] at g
        rw [h1] at *
        exact g
      · rw [h3 x hx]
        by_cases e : x = c
        · subst e
          by_cases w : Hc x = true
          · rw [if_pos w, if_pos w]
          · rw [if_neg w, if_neg w, if_pos (q.resolve_left w), if_pos (by have := q.resolve_left w; omega)]
        · rw [bo x e]
      · by_cases e : x = c
        · subst e; exact h4 x hx w1 (q.resolve_left w1)
        · rw [bo x e] at w2; exact h4 x hx w1 w2
      · refine h5 x hx ?_
        rcases w with w | w
        · exact Or.inl w
        · by_cases e : x = c
          · subst e; omega
          · rw [bo x e] at w; exact Or.inr w
      · rw [h7]
        refine cC_c (fun x hx => beq2 ?_)
        rw [Bool.or_eq_true, Bool.or_eq_true, decide_eq_true_eq, decide_eq_true_eq]
        exact sem x hx
    · have q1 : ¬ Hc c = true := fun z => q (Or.inl z)
      have q2 : cn c = 0 := by
        refine Classical.byContradiction (fun z => q (Or.inr z))
      rw [if_neg q1, if_neg (fun z => z q2)] at e136
      rw [e136, if_neg (by decide)]
      have o25 : ∀ x : Int32, up2 (vh_I h) 136 c x 129 19 = vh_I h 129 19 := fun x => up2_a _ _ _ (by decide) _
      simp only [s_110_26, s_110_27, s_110_30, s_110_31, s_110_32, s_110_33, s_110_34, s_110_37, s_110_38, s_110_39, s_110_42, s_110_43, s_110_44, s_110_45, s_110_48, s_110_49, s_110_50, mk, mr0, mk0, mz0, mr1, mk1, mz1, mr2, mk2, mz2, mr3, mk3, mz3, mr4, mk4, mz4, mr5, mk5, mz5, mr6, mk6, mz6, mr7, mk7, mz7, mr8, mk8, mz8, mr9, mk9, mz9, mr10, mk10, mz10, mr11, mk11, mz11, mr12, mk12, mz12, mr13, mk13, mz13, mr14, mk14, mz14, mr15, mk15, mz15, mr16, mk16, mz16, mr17, mk17, mz17, mr18, mk18, mz18, va_rf_s, pk_mul, nI_add, not_false_eq_true, and_self, true_and, Option.toList_some, Option.toList_none, List.append_nil, List.cons_append, List.nil_append, nI_01, nI_11, vh_K_wI, vh_R_wI, vh_Z_wI, vh_wI_sI, vh_K_sI, vh_R_sI, vh_Z_sI, vh_sI_sI, vh_I_sI, cl (show c < 2 ^ 31 by omega), ib hc (show 16384 ≤ 2 ^ 31 by omega), o25]
      have o129 : ∀ x y : Int32, up2 (up2 (vh_I h) 136 c x) 144 c y 129 25 = nI m := fun x y => by rw [up2_a _ _ _ (by decide), up2_a _ _ _ (by decide)]; exact h6
      simp only [o129, nI_add, s_110_53]
      have noH : ¬ (fun x => Hc x || decide (cn x ≠ 0)) c = true := by
        show ¬ (Hc c || decide (cn c ≠ 0)) = true
        rw [Bool.or_eq_true, decide_eq_true_eq]
        exact q
      have g := hQ (up2 (up2 (up2 (vh_I h) 136 c (nI r)) 144 c (vh_I h 129 19)) 129 25 (nI (m + 1))) (Or.inr ⟨h1, fun j => ?_, fun x hx => ?_, fun x hx w1 w2 => ?_, fun x hx w => ?_, m + 1, up2_s _ _ _ _, ?_⟩) (fun x x1 x2 x3 x4 j => by rw [up2_a _ _ _ x1, up2_a _ _ _ x4, up2_a _ _ _ x2]) (fun j hj => by rw [up2_i _ _ _ _ hj, up2_a _ _ _ (by decide), up2_a _ _ _ (by decide)])
      · exact g
      · rw [up2_a _ _ _ (by decide), up2_a _ _ _ (by decide), up2_a _ _ _ (by decide)]; exact h2 j
      · rw [up2_a _ _ _ (by decide), up2_a _ _ _ (by decide)]
        by_cases e : x = c
        · subst e
          rw [up2_s, if_neg q1, if_pos (by omega)]
        · rw [up2_i _ _ _ _ e, bo x e]; exact h3 x hx
      · rw [up2_a _ _ _ (by decide)]
        by_cases e : x = c
        · subst e; rw [up2_s]; exact h19
        · rw [up2_i _ _ _ _ e, up2_a _ _ _ (by decide)]
          rw [bo x e] at w2
          exact h4 x hx w1 w2
      · rw [up2_a _ _ _ (by decide)]
        by_cases e : x = c
        · subst e
          rcases w with w | w
          · exact absurd w q1
          · omega
        · rw [up2_i _ _ _ _ e, up2_a _ _ _ (by decide)]
          rw [bo x e] at w
          exact h5 x hx w
      · have := cC_add (H := fun x => Hc x || decide (cn x ≠ 0)) hc noH
        rw [show m + 1 + cC Oc = (m + cC Oc) + 1 by omega, h7, ← this]
        refine cC_c (fun x hx => beq2 ?_)
        rw [Bool.or_eq_true, Bool.or_eq_true, Bool.or_eq_true, decide_eq_true_eq, decide_eq_true_eq, decide_eq_true_eq]
        by_cases e : x = c
        · subst e
          exact ⟨fun _ => Or.inr (by omega), fun _ => Or.inr rfl⟩
        · rw [bo x e]
          exact ⟨fun z => z.elim id (fun y => absurd y e), Or.inl⟩

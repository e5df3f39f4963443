-- ===== the reference: work =====
/-- facts by their codes -/
def hc (H : Nat → Nat → Nat → Bool) : Nat → Bool := fun c => H (c / 1024) (c / 32 % 32) (c % 32)
def hr (rd : Nat → Nat → Nat → Nat) : Nat → Nat := fun c => rd (c / 1024) (c / 32 % 32) (c % 32)
theorem cd_1 {n a b : Nat} (ha : a < 32) (hb : b < 32) : (1024 * n + 32 * a + b) / 1024 = n := by omega
theorem cd_2 {n a b : Nat} (ha : a < 32) (hb : b < 32) : (1024 * n + 32 * a + b) / 32 % 32 = a := by omega
theorem cd_3 {n a b : Nat} (ha : a < 32) (hb : b < 32) : (1024 * n + 32 * a + b) % 32 = b := by omega
theorem hc_code {H : Nat → Nat → Nat → Bool} {n a b : Nat} (ha : a < 32) (hb : b < 32) : hc H (1024 * n + 32 * a + b) = H n a b := by
  unfold hc
  rw [cd_1 ha hb, cd_2 ha hb, cd_3 ha hb]
theorem cC_hc (H : Nat → Nat → Nat → Bool) : cC (hc H) = cF H := rfl
/-- TG and HD see facts only in bounds -/
theorem TG_c {P P' : Nat → Nat → Nat → Bool} {ρ : Nat → Nat} (hok : okR ρ) (e : ∀ n a b, n < 16 → a < 32 → b < 32 → P n a b = P' n a b) (a b : Nat) : TG P ρ a b = TG P' ρ a b := by
  have k : ∀ i w, i < ρ 5 → bd w → pA P (ρ (10 + 4 * i)) (ρ (11 + 4 * i)) (iv w (ρ (12 + 4 * i))) (iv w (ρ (13 + 4 * i))) = pA P' (ρ (10 + 4 * i)) (ρ (11 + 4 * i)) (iv w (ρ (12 + 4 * i))) (iv w (ρ (13 + 4 * i))) := by
    intro i w hi hw
    have o := hok.2 i hi
    unfold pA
    rw [e _ _ _ o.1 (iv_lt o.2.1 hw) (iv_lt o.2.2.1 hw)]
  unfold TG
  rw [CT_c (Hs := fun _ => P) (Hs' := fun _ => P') k, propext (HD_c (Hs := fun _ => P) (Hs' := fun _ => P') k a b)]
theorem TG_ne0 {P : Nat → Nat → Nat → Bool} {ρ : Nat → Nat} {a b : Nat} : TG P ρ a b ≠ 0 ↔ HD (fun _ => P) ρ a b := by
  unfold TG
  by_cases q : ρ 3 = 0
  · rw [if_pos q]
    exact ⟨fun z => Or.inl ⟨q, z⟩, fun z => z.elim (fun y => y.2) (fun y => absurd q y.1)⟩
  · rw [if_neg q, bi_0]
/-- the rules' loop in a round -/
theorem l_wrules {s r c : Nat} {y2 : Value} {h : vt_H} {Q : vt_Q} {ρs : Nat → Nat → Nat} {lv : Nat → Nat} {H : Nat → Nat → Nat → Bool} {rc : Nat → Nat} {nw : Nat} (hM : MZ h) (hR : MRs (vh_I h) ρs c) (hs : s < 16) (h15 : ∀ n, n < 16 → lv n ≤ 15) (h138 : ∀ n, n < 16 → vh_I h 138 n = nI (lv n)) (hr' : r < 2 ^ 31) (hrc : ∀ c, c < 16384 → rc c < 2 ^ 31) (hnw : nw < 2 ^ 31) (h19 : vh_I h 129 19 = nI nw) (h136 : ∀ x, x < 16384 → vh_I h 136 x = if hc H x = true then nI (rc x) else -nI 1) (h144 : ∀ x, x < 16384 → hc H x = true → ∃ q, vh_I h 144 x = nI q ∧ q < nw) (h25 : vh_I h 129 25 = nI 0)
    (hQ : ∀ f', SF (vh_I h) f' → (∀ j, f' 137 j = vh_I h 137 j) → (∀ x, x < 16384 → f' 136 x = if hc H x = true then nI (rc x) else if hc (bNEW ρs c lv H s) x = true then nI r else -nI 1) → (∀ x, x < 16384 → hc H x = true ∨ hc (bNEW ρs c lv H s) x = true → ∃ q, f' 144 x = nI q ∧ q ≤ nw) → (∀ x, x < 16384 → hc H x = true → f' 144 x = vh_I h 144 x) → (∃ m, f' 129 25 = nI m ∧ m + cC (hc H) = cC (fun x => hc H x || hc (bNEW ρs c lv H s) x)) → ∀ y3, Wp 100 161 [.ref 129, .int (nI s), .int (nI r), y3] [] (vh_sI h f') Q) :
    ∀ (m i : Nat), i + m = c → ∀ f, SF (vh_I h) f → (∀ j, f 137 j = vh_I h 137 j) → (∀ x, x < 16384 → f 136 x = if hc H x = true then nI (rc x) else if hc (bNEW ρs i lv H s) x = true then nI r else -nI 1) → (∀ x, x < 16384 → hc H x = true → f 144 x = vh_I h 144 x) → (∀ x, x < 16384 → ¬ hc H x = true → hc (bNEW ρs i lv H s) x = true → f 144 x = nI nw) → (∃ m, f 129 25 = nI m ∧ m + cC (hc H) = cC (fun x => hc H x || hc (bNEW ρs i lv H s) x)) → Wp 100 116 [.ref 129, .int (nI s), .int (nI r), .int (nI i)] [] (vh_sI h f) Q := by
  have hM' := hM
  obtain ⟨mk, ⟨mr0, mk0, mz0⟩, ⟨mr1, mk1, mz1⟩, ⟨mr2, mk2, mz2⟩, ⟨mr3, mk3, mz3⟩, ⟨mr4, mk4, mz4⟩, ⟨mr5, mk5, mz5⟩, ⟨mr6, mk6, mz6⟩, ⟨mr7, mk7, mz7⟩, ⟨mr8, mk8, mz8⟩, ⟨mr9, mk9, mz9⟩, ⟨mr10, mk10, mz10⟩, ⟨mr11, mk11, mz11⟩, ⟨mr12, mk12, mz12⟩, ⟨mr13, mk13, mz13⟩, ⟨mr14, mk14, mz14⟩, ⟨mr15, mk15, mz15⟩, ⟨mr16, mk16, mz16⟩, ⟨mr17, mk17, mz17⟩, ⟨mr18, mk18, mz18⟩⟩ := hM
  obtain ⟨c16, hcr, hV⟩ := hR
  intro m
  induction m with
  | zero =>
    intro i hi f a1 a2 a3 a4 a5 a6
    have : i = c := by omega
    subst this
    have e6 : f 129 6 = nI i := (a1.2 6 (by decide) (by decide)).trans hcr
    simp only [s_100_116, s_100_117, s_100_118, s_100_121, mk, mr0, mk0, mz0, mr1, mk1, mz1, mr2, mk2, mz2, mr3, mk3, mz3, mr4, mk4, mz4, mr5, mk5, mz5, mr6, mk6, mz6, mr7, mk7, mz7, mr8, mk8, mz8, mr9, mk9, mz9, mr10, mk10, mz10, mr11, mk11, mz11, mr12, mk12, mz12, mr13, mk13, mz13, mr14, mk14, mz14, mr15, mk15, mz15, mr16, mk16, mz16, mr17, mk17, mz17, mr18, mk18, mz18, va_rf_s, pk_mul, nI_add, not_false_eq_true, and_self, true_and, Option.toList_some, Option.toList_none, List.append_nil, List.cons_append, List.nil_append, nI_01, nI_11, vh_K_wI, vh_R_wI, vh_Z_wI, vh_wI_sI, vh_K_sI, vh_R_sI, vh_Z_sI, vh_sI_sI, vh_I_sI, e6, if_pos (nI_le (Nat.le_refl i) (show i < 2 ^ 31 by omega))]
    refine hQ f a1 a2 a3 (fun x hx hw => ?_) a4 a6 _
    by_cases q : hc H x = true
    · obtain ⟨q', z1, z2⟩ := h144 x hx q
      exact ⟨q', (a4 x hx q).trans z1, by omega⟩
    · exact ⟨nw, a5 x hx q (hw.resolve_left q), Nat.le_refl _⟩
  | succ m ih =>
    intro i hi f a1 a2 a3 a4 a5 a6
    have hlt : i < c := by omega
    have hi16 : i < 16 := by omega
    have e6 : f 129 6 = nI c := (a1.2 6 (by decide) (by decide)).trans hcr
    have hM0 : MZ (vh_sI h f) := hM'
    have hR0 : MR (vh_I (vh_sI h f)) i (ρs i) := SF_MR a1 (hV i hlt)
    have hok := hR0.1
    have n16 := hok.1.1
    have lb := h15 _ n16
    simp only [s_100_116, s_100_117, s_100_118, s_100_121, mk, mr0, mk0, mz0, mr1, mk1, mz1, mr2, mk2, mz2, mr3, mk3, mz3, mr4, mk4, mz4, mr5, mk5, mz5, mr6, mk6, mz6, mr7, mk7, mz7, mr8, mk8, mz8, mr9, mk9, mz9, mr10, mk10, mz10, mr11, mk11, mz11, mr12, mk12, mz12, mr13, mk13, mz13, mr14, mk14, mz14, mr15, mk15, mz15, mr16, mk16, mz16, mr17, mk17, mz17, mr18, mk18, mz18, va_rf_s, pk_mul, nI_add, not_false_eq_true, and_self, true_and, Option.toList_some, Option.toList_none, List.append_nil, List.cons_append, List.nil_append, nI_01, nI_11, vh_K_wI, vh_R_wI, vh_Z_wI, vh_wI_sI, vh_K_sI, vh_R_sI, vh_Z_sI, vh_sI_sI, vh_I_sI, e6, if_neg (nI_ge hlt (show c < 2 ^ 31 by omega))]
    simp only [s_100_124, s_100_125, s_100_126, s_100_129, mk, mr0, mk0, mz0, mr1, mk1, mz1, mr2, mk2, mz2, mr3, mk3, mz3, mr4, mk4, mz4, mr5, mk5, mz5, mr6, mk6, mz6, mr7, mk7, mz7, mr8, mk8, mz8, mr9, mk9, mz9, mr10, mk10, mz10, mr11, mk11, mz11, mr12, mk12, mz12, mr13, mk13, mz13, mr14, mk14, mz14, mr15, mk15, mz15, mr16, mk16, mz16, mr17, mk17, mz17, mr18, mk18, mz18, va_rf_s, pk_mul, nI_add, not_false_eq_true, and_self, true_and, Option.toList_some, Option.toList_none, List.append_nil, List.cons_append, List.nil_append, nI_01, nI_11, vh_K_wI, vh_R_wI, vh_Z_wI, vh_wI_sI, vh_K_sI, vh_R_sI, vh_Z_sI, vh_sI_sI, vh_I_sI, m_safe _ hM0 hi16 hR0]
    have skip : ¬ (sf (ρs i) ∧ lv (ρs i 0) = s) → Wp 100 155 [.ref 129, .int (nI s), .int (nI r), .int (nI i)] [] (vh_sI h f) Q := by
      intro no
      have e : ∀ x, x < 16384 → hc (bNEW ρs i lv H s) x = hc (bNEW ρs (i + 1) lv H s) x := by
        intro x _
        refine beq2 (bNEW_t.trans (Iff.trans ?_ bNEW_t.symm))
        constructor
        · rintro ⟨i', z1, z2⟩; exact ⟨i', by omega, z2⟩
        · rintro ⟨i', z1, z2, z3, z4, z5⟩
          have : i' ≠ i := fun e => no ⟨e ▸ z2, by rw [← e, z3]; exact z4⟩
          exact ⟨i', by omega, z2, z3, z4, z5⟩
      simp only [s_100_155, s_100_158, va_rf_s, pk_mul, nI_add, not_false_eq_true, and_self, true_and, Option.toList_some, Option.toList_none, List.append_nil, List.cons_append, List.nil_append, nI_01, nI_11, vh_K_wI, vh_R_wI, vh_Z_wI, vh_wI_sI, vh_K_sI, vh_R_sI, vh_Z_sI, vh_sI_sI, vh_I_sI]
      refine ih (i + 1) (by omega) f a1 a2 (fun x hx => by rw [← e x hx]; exact a3 x hx) a4 (fun x hx => by rw [← e x hx]; exact a5 x hx) ?_
      obtain ⟨mm, z1, z2⟩ := a6
      exact ⟨mm, z1, by rw [z2]; exact cC_c (fun x hx => by rw [e x hx])⟩
    by_cases w : sf (ρs i)
    · rw [if_neg (fun z => cb_0.mp z w)]
      have eh : f 131 (3 * i) = nI (ρs i 0) := hR0.2.1
      have el : f 138 (ρs i 0) = nI (lv (ρs i 0)) := (a1.1 138 (by decide) (by decide) (by decide) (by omega) _).trans (h138 _ n16)
      simp only [s_100_132, s_100_133, s_100_136, s_100_137, s_100_140, s_100_141, s_100_142, s_100_143, s_100_144, s_100_145, s_100_146, mk, mr0, mk0, mz0, mr1, mk1, mz1, mr2, mk2, mz2, mr3, mk3, mz3, mr4, mk4, mz4, mr5, mk5, mz5, mr6, mk6, mz6, mr7, mk7, mz7, mr8, mk8, mz8, mr9, mk9, mz9, mr10, mk10, mz10, mr11, mk11, mz11, mr12, mk12, mz12, mr13, mk13, mz13, mr14, mk14, mz14, mr15, mk15, mz15, mr16, mk16, mz16, mr17, mk17, mz17, mr18, mk18, mz18, va_rf_s, pk_mul, nI_add, not_false_eq_true, and_self, true_and, Option.toList_some, Option.toList_none, List.append_nil, List.cons_append, List.nil_append, nI_01, nI_11, vh_K_wI, vh_R_wI, vh_Z_wI, vh_wI_sI, vh_K_sI, vh_R_sI, vh_Z_sI, vh_sI_sI, vh_I_sI, cl (show 3 * i < 2 ^ 31 by omega), ib (show 3 * i < 48 by omega) (show 48 ≤ 2 ^ 31 by omega), eh, cl (show ρs i 0 < 2 ^ 31 by omega), ib n16 (show 16 ≤ 2 ^ 31 by omega), el]
      by_cases w2 : lv (ρs i 0) = s
      · rw [if_neg (fun z => z (by rw [w2]))]
        have e19 : f 129 19 = nI nw := (a1.2 19 (by decide) (by decide)).trans h19
        have Hb : ∀ x, x < 16384 → f 136 x = if (hc H x || hc (bNEW ρs i lv H s) x) = true then nI (if hc H x = true then rc x else r) else -nI 1 := by
          intro x hx
          rw [a3 x hx]
          by_cases q : hc H x = true
          · rw [if_pos q, if_pos (by rw [q]; rfl), if_pos q]
          · by_cases q2 : hc (bNEW ρs i lv H s) x = true
            · rw [if_neg q, if_pos q2, if_pos (by rw [q2, Bool.or_true]), if_neg q]
            · rw [if_neg q, if_neg q2, if_neg (by rw [Bool.or_eq_true]; exact fun z => z.elim q q2)]
        have hOL : ∀ x, x < 16384 → (OL (vh_I (vh_sI h f)) x ↔ hc H x = true) := by
          intro x hx
          unfold OL
          rw [vh_I_sI, a3 x hx, e19]
          by_cases q : hc H x = true
          · obtain ⟨q', z1, z2⟩ := h144 x hx q
            rw [if_pos q, a4 x hx q, z1]
            exact ⟨fun _ => q, fun _ => ⟨nI_pos (hrc x hx), Or.inr (fun z => by have := (nI_eq (by omega) (by omega)).mp z; omega)⟩⟩
          · rw [if_neg q]
            constructor
            · rintro ⟨z1, z2⟩
              by_cases q2 : hc (bNEW ρs i lv H s) x = true
              · rcases z2 with z2 | z2
                · exact absurd z2 (nI_pos hnw)
                · exact absurd (a5 x hx q q2) z2
              · rw [if_neg q2] at z1
                exact absurd (by decide) z1
            · intro z; exact absurd z q
        simp only [s_100_149, s_100_150, s_100_151, s_100_152, mk, mr0, mk0, mz0, mr1, mk1, mz1, mr2, mk2, mz2, mr3, mk3, mz3, mr4, mk4, mz4, mr5, mk5, mz5, mr6, mk6, mz6, mr7, mk7, mz7, mr8, mk8, mz8, mr9, mk9, mz9, mr10, mk10, mz10, mr11, mk11, mz11, mr12, mk12, mz12, mr13, mk13, mz13, mr14, mk14, mz14, mr15, mk15, mz15, mr16, mk16, mz16, mr17, mk17, mz17, mr18, mk18, mz18, va_rf_s, pk_mul, nI_add, not_false_eq_true, and_self, true_and, Option.toList_some, Option.toList_none, List.append_nil, List.cons_append, List.nil_append, nI_01, nI_11, vh_K_wI, vh_R_wI, vh_Z_wI, vh_wI_sI, vh_K_sI, vh_R_sI, vh_Z_sI, vh_sI_sI, vh_I_sI]
        refine m_spread (h := vh_sI h f) (r := r) (Hc := fun x => hc H x || hc (bNEW ρs i lv H s) x) (Oc := hc H) (O := hc H) (rc := fun x => if hc H x = true then rc x else r) hM0 hi16 hR0 w hr' (fun x hx => by
          show (if hc H x = true then rc x else r) < 2 ^ 31
          split
          · exact hrc x hx
          · exact hr') (fun _ => ⟨Hb, by rw [vh_I_sI, e19]; exact nI_pos hnw⟩) hOL (Or.inr ⟨rfl, fun _ => rfl, fun x hx => ?_, fun _ _ _ z => absurd rfl z, fun _ _ _ => rfl, ?_⟩) (fun f1 z1 z2 => ?_)
        · rw [vh_I_sI, Hb x hx]
          by_cases q : (hc H x || hc (bNEW ρs i lv H s) x) = true
          · rw [if_pos q, if_pos q]
          · rw [if_neg q, if_neg q, if_neg (fun z => z rfl)]
        · obtain ⟨mm, y1, y2⟩ := a6
          refine ⟨mm, y1, ?_⟩
          rw [y2]
          exact cC_c (fun x _ => by simp)
        · rw [vh_sI_sI]
          rcases z2 with ⟨y1, _⟩ | ⟨_, y2, y3, y4, y5, mm, y6, y7⟩
          · exact absurd y1 (by
              intro z
              have := nI_pos hr'
              rw [z] at this
              exact this (by decide))
          · rw [vh_I_sI] at y2 y4 y5 z1
            dsimp only at y3 y4 y5 y7
            have key : ∀ x, x < 16384 → ((hc H x || hc (bNEW ρs i lv H s) x) = true ∨ cnT (hc H) (ρs i) x ≠ 0 ↔ hc H x = true ∨ hc (bNEW ρs (i + 1) lv H s) x = true) := by
              intro x hx
              have hb1 : x / 32 % 32 < 32 := Nat.mod_lt _ (by omega)
              have hb2 : x % 32 < 32 := Nat.mod_lt _ (by omega)
              have tg : cnT (hc H) (ρs i) x ≠ 0 ↔ x / 1024 = ρs i 0 ∧ HD (fun _ => H) (ρs i) (x / 32 % 32) (x % 32) := by
                unfold cnT
                by_cases q : x / 1024 = ρs i 0
                · rw [if_pos q, TG_c (P' := H) hok (fun n a b _ ha hb => hc_code ha hb), TG_ne0]
                  exact ⟨fun z => ⟨q, z⟩, fun z => z.2⟩
                · rw [if_neg q]; exact ⟨fun z => absurd rfl z, fun z => absurd z.1 q⟩
              rw [Bool.or_eq_true, tg]
              have bt1 : hc (bNEW ρs i lv H s) x = true ↔ NEW ρs i lv H s (x / 1024) (x / 32 % 32) (x % 32) := bNEW_t
              have bt2 : hc (bNEW ρs (i + 1) lv H s) x = true ↔ NEW ρs (i + 1) lv H s (x / 1024) (x / 32 % 32) (x % 32) := bNEW_t
              rw [bt1, bt2]
              constructor
              · rintro ((z | ⟨i', x1, x2⟩) | ⟨x1, x2⟩)
                · exact Or.inl z
                · exact Or.inr ⟨i', by omega, x2⟩
                · by_cases q : hc H x = true
                  · exact Or.inl q
                  · exact Or.inr ⟨i, by omega, w, x1.symm, by rw [x1]; exact w2, x2, q⟩
              · rintro (z | ⟨i', x1, x2, x3, x4, x5, x6⟩)
                · exact Or.inl (Or.inl z)
                · by_cases e : i' = i
                  · rw [e] at x3 x5
                    exact Or.inr ⟨x3.symm, x5⟩
                  · exact Or.inl (Or.inr ⟨i', by omega, x2, x3, x4, x5, x6⟩)
            have sf1 : SF (vh_I h) f1 := ⟨fun x x1 x2 x3 x4 j => (z1.1 x x1 x2 x3 x4 j).trans (a1.1 x x1 x2 x3 x4 j), fun j j1 j2 => (z1.2 j j1 j2).trans (a1.2 j j1 j2)⟩
            simp only [va_rf_s, pk_mul, nI_add, not_false_eq_true, and_self, true_and, Option.toList_some, Option.toList_none, List.append_nil, List.cons_append, List.nil_append, nI_01, nI_11, vh_K_wI, vh_R_wI, vh_Z_wI, vh_wI_sI, vh_K_sI, vh_R_sI, vh_Z_sI, vh_sI_sI, vh_I_sI]
            simp only [s_100_155, s_100_158, va_rf_s, pk_mul, nI_add, not_false_eq_true, and_self, true_and, Option.toList_some, Option.toList_none, List.append_nil, List.cons_append, List.nil_append, nI_01, nI_11, vh_K_wI, vh_R_wI, vh_Z_wI, vh_wI_sI, vh_K_sI, vh_R_sI, vh_Z_sI, vh_sI_sI, vh_I_sI]
            refine ih (i + 1) (by omega) f1 sf1 (fun j => (y2 j).trans (a2 j)) (fun x hx => ?_) (fun x hx q => ?_) (fun x hx q q2 => ?_) ⟨mm, y6, ?_⟩
            · rw [y3 x hx]
              have k := key x hx
              by_cases q : hc H x = true
              · rw [if_pos (by rw [q]; rfl), if_pos q, if_pos q]
              · rw [if_neg q]
                by_cases q2 : hc (bNEW ρs (i + 1) lv H s) x = true
                · rw [if_pos q2]
                  rcases k.mpr (Or.inr q2) with z | z
                  · rw [if_pos z, if_neg q]
                  · by_cases q3 : (hc H x || hc (bNEW ρs i lv H s) x) = true
                    · rw [if_pos q3, if_neg q]
                    · rw [if_neg q3, if_pos z, if_neg q]
                · rw [if_neg q2, if_neg (fun z => (k.mp (Or.inl z)).elim q q2), if_neg (fun z => (k.mp (Or.inr z)).elim q q2), if_neg q]
            · rw [y5 x hx (Or.inl (by rw [q]; rfl))]; exact a4 x hx q
            · by_cases q3 : hc (bNEW ρs i lv H s) x = true
              · rw [y5 x hx (Or.inl (by rw [q3, Bool.or_true]))]; exact a5 x hx q q3
              · have q4 : ¬ (hc H x || hc (bNEW ρs i lv H s) x) = true := by rw [Bool.or_eq_true]; exact fun z => z.elim q q3
                have := ((key x hx).mpr (Or.inr q2)).resolve_left q4
                rw [y4 x hx q4 this]; exact e19
            · rw [y7]
              refine cC_c (fun x hx => beq2 ?_)
              rw [Bool.or_eq_true (hc H x) (hc (bNEW ρs (i + 1) lv H s) x), ← key x hx, Bool.or_eq_true (hc H x || hc (bNEW ρs i lv H s) x), decide_eq_true_eq]
      · rw [if_pos (fun z => w2 ((nI_eq (by omega) (by omega)).mp z))]
        exact skip (fun z => w2 z.2)
    · rw [if_pos (cb_0.mpr w)]
      exact skip (fun z => w z.1)

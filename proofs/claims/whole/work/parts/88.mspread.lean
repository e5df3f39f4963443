-- ===== the reference: spread =====
theorem sv_le {f : (Nat → Nat) → Nat} (h : ∀ w, f w ≤ 1) : ∀ (t : List Nat) (e : Nat → Nat), sv_S f t e ≤ 32 ^ t.length
  | [], e => h e
  | v :: t, e => by
    show sg_S (fun n => sv_S f t (sv_set e v n)) 32 ≤ 32 ^ (t.length + 1)
    have := sg_le (f := fun n => sv_S f t (sv_set e v n)) (g := fun _ => 32 ^ t.length) (n := 32) (fun n _ => sv_le h t _)
    rw [sg_const] at this
    rw [Nat.pow_succ]
    exact this
theorem bi_le1 (p : Prop) : bi p ≤ 1 := by
  by_cases h : p
  · rw [bi_t h]; exact Nat.le_refl _
  · rw [bi_f h]; omega
/-- a rule has at most 2 ^ 30 tuples -/
theorem tuples_len {O : Nat → Bool} {ρ P : Nat → Nat} (hok : okR ρ) (hsf : sf ρ) : sl (fun _ => 1) (LSn ρ O (npc ρ) 0 P) ≤ 2 ^ 30 := by
  have e := tuples (O := O) (G := fun _ => 1) hok hsf (fun _ _ _ => rfl) (npc ρ) 0 (by omega) P (fun _ => 32) rfl
  have e' : sl (fun _ => 1) (LSn ρ O (npc ρ) 0 P) = S6 (fun w => bi (Fq O ρ 0 (fun _ => 32) w) * 1) := e
  rw [e']
  exact sv_le (fun w => by rw [Nat.mul_one]; exact bi_le1 _) _ _
/-- how many of the tuples give x and b -/
noncomputable def NNt (ρ : Nat → Nat) (l : List (Nat → Nat)) (x b : Nat) : Nat := sl (fun t => bi (iv (vtp ρ t) (ρ 1) = x ∧ iv (vtp ρ t) (sec ρ) = b)) l
theorem NNt_add {ρ t : Nat → Nat} {l : List (Nat → Nat)} {x b : Nat} : NNt ρ (l ++ [t]) x b = NNt ρ l x b + bi (iv (vtp ρ t) (ρ 1) = x ∧ iv (vtp ρ t) (sec ρ) = b) := by
  unfold NNt
  rw [sl_app]
  rfl
theorem NNt_sum {ρ : Nat → Nat} {x : Nat} : ∀ {l : List (Nat → Nat)}, sg_S (NNt ρ l x) 32 ≤ sl (fun _ => 1) l
  | [] => by
    have : sg_S (NNt ρ [] x) 32 = 0 := sg_eq0.mpr (fun _ _ => rfl)
    rw [this]; exact Nat.zero_le _
  | t :: l => by
    have e : sg_S (NNt ρ (t :: l) x) 32 = sg_S (fun b => bi (iv (vtp ρ t) (ρ 1) = x ∧ iv (vtp ρ t) (sec ρ) = b) + NNt ρ l x b) 32 := rfl
    rw [e, sg_add]
    have ih := NNt_sum (ρ := ρ) (x := x) (l := l)
    have one : sg_S (fun b => bi (iv (vtp ρ t) (ρ 1) = x ∧ iv (vtp ρ t) (sec ρ) = b)) 32 ≤ 1 := by
      by_cases q : iv (vtp ρ t) (sec ρ) < 32
      · rw [sg_one (k := iv (vtp ρ t) (sec ρ)) q (fun b _ hb => bi_f (fun z => hb z.2.symm))]
        exact bi_le1 _
      · rw [sg_eq0.mpr (fun b hb => bi_f (fun z => by omega))]
        omega
    show _ ≤ 1 + sl (fun _ => 1) l
    omega
theorem sl_le {g : (Nat → Nat) → Nat} {l l' : List (Nat → Nat)} : sl g l ≤ sl g (l ++ l') := by rw [sl_app]; omega
/-- what the four rows say after the tuples l -/
def AGs (f : Nat → Nat → Int32) (ρ : Nat → Nat) (l : List (Nat → Nat)) : Prop := ∀ x, x < 32 → f 145 x = nI (sg_S (NNt ρ l x) 32) ∧ f 146 x = nI (sg_S (fun b => b * NNt ρ l x b) 32 % 32) ∧ (sg_S (NNt ρ l x) 32 ≠ 0 → (∃ lo, lo < 32 ∧ f 147 x = nI lo ∧ NNt ρ l x lo ≠ 0 ∧ ∀ j, j < lo → NNt ρ l x j = 0) ∧ ∃ hi, hi < 32 ∧ f 148 x = nI hi ∧ NNt ρ l x hi ≠ 0 ∧ ∀ j, hi < j → j < 32 → NNt ρ l x j = 0)
/-- cells that spread works on -/
def SF (f0 f : Nat → Nat → Int32) : Prop := (∀ x, x ≠ 129 → x ≠ 136 → x ≠ 137 → (x < 141 ∨ 148 < x) → ∀ j, f x j = f0 x j) ∧ (∀ j, j ≠ 17 → j ≠ 25 → f 129 j = f0 129 j)
theorem SF_MR {f0 f : Nat → Nat → Int32} (h : SF f0 f) {i : Nat} {ρ : Nat → Nat} (hR : MR f0 i ρ) : MR f i ρ := MR_c hR (fun x x1 x2 j => h.1 x (by omega) (by omega) (by omega) (by omega) j)
theorem TL_head {ρ t u : Nat → Nat} (hsf : sf ρ) (hok : okR ρ) (h : TL ρ (plx ρ) (fun k => t k - 1) (npc ρ) = some u) : ((32 ≤ ρ 1 → u (ρ 1 - 32) < 32) ∧ (32 ≤ sec ρ → u (sec ρ - 32) < 32)) ∧ iv (vtp ρ t) (ρ 1) = iv u (ρ 1) ∧ iv (vtp ρ t) (sec ρ) = iv u (sec ρ) := by
  have g : ∀ v, giv ρ v → u v < 32 := by
    rintro v ⟨p, a, b, c⟩
    obtain ⟨d, hd, e⟩ := plx_all a b
    exact TL_tot h ⟨d, hd, by rw [e]; exact c⟩
  have h1 : 32 ≤ ρ 1 → u (ρ 1 - 32) < 32 := fun z => g _ (hsf _ (by have := hok.1.2.1; omega) (Or.inl (Or.inl (by omega))))
  have h2 : 32 ≤ sec ρ → u (sec ρ - 32) < 32 := fun z => g _ (hsf _ (by have := hok.1.2.2.1; omega) (Or.inl (Or.inr (by omega))))
  have one : ∀ x, (32 ≤ x → u (x - 32) < 32) → iv (vtp ρ t) x = iv u x := by
    intro x hx
    unfold iv
    by_cases q : x < 32
    · rw [if_pos q, if_pos q]
    · rw [if_neg q, if_neg q, vtp_s h, if_neg (by have := hx (by omega); omega)]
  exact ⟨⟨h1, h2⟩, one _ h1, one _ h2⟩
/-- the tuple t has been told: the machine stands at it -/
def AT (f : Nat → Nat → Int32) (ρ t u : Nat → Nat) : Prop := (∀ k, k < npc ρ → f 143 k = mI (t k)) ∧ VP ρ t (npc ρ) ∧ TL ρ (plx ρ) (fun k => t k - 1) (npc ρ) = some u ∧ ∀ v, v < 6 → f 141 v = vI (u v)
/-- codes given by tuples, for a rule without an aggregate -/
noncomputable def cnp (ρ : Nat → Nat) (l : List (Nat → Nat)) : Nat → Nat := fun c => sl (fun t => bi (c = 1024 * ρ 0 + 32 * iv (vtp ρ t) (ρ 1) + iv (vtp ρ t) (sec ρ))) l
theorem cnp_add {ρ t : Nat → Nat} {l : List (Nat → Nat)} {c : Nat} : cnp ρ (l ++ [t]) c = cadd (cnp ρ l) (1024 * ρ 0 + 32 * iv (vtp ρ t) (ρ 1) + iv (vtp ρ t) (sec ρ)) c := by
  unfold cnp cadd
  rw [sl_app]
  rfl
theorem l_body {i r : Nat} {rd fo' : Int32} {ρ t u : Nat → Nat} {pre : List (Nat → Nat)} {y5 y6 y7 : Value} {f0 : Nat → Nat → Int32} {h : vt_H} {Q : vt_Q} {Hc Oc : Nat → Bool} {rc : Nat → Nat} (hM : MZ h) (hi : i < 16) (hR : MR (vh_I h) i ρ) (hsf : sf ρ) (hr : r < 2 ^ 31) (hrc : ∀ c, c < 16384 → rc c < 2 ^ 31) (hfo : fo' = 0 ↔ ρ 3 = 0) (hb30 : sl (fun _ => 1) pre ≤ 2 ^ 30) (hF : SF f0 (vh_I h)) (hB : PB (vh_I h) ρ) (hA : AT (vh_I h) ρ t u) (hG : GV f0 (vh_I h) rd r Hc Oc rc (if ρ 3 = 0 then cnp ρ pre else fun _ => 0)) (hAg : ρ 3 ≠ 0 → AGs (vh_I h) ρ pre)
    (hQ : ∀ f', SF f0 f' → PB f' ρ → AT f' ρ t u → GV f0 f' rd r Hc Oc rc (if ρ 3 = 0 then cnp ρ (pre ++ [t]) else fun _ => 0) → (ρ 3 ≠ 0 → AGs f' ρ (pre ++ [t])) → ∀ y6 y7, Wp 103 257 [.ref 129, .int (nI i), .int rd, .int (nI (ρ 0)), .int fo', y5, y6, y7] [] (vh_sI h f') Q) :
    Wp 103 80 [.ref 129, .int (nI i), .int rd, .int (nI (ρ 0)), .int fo', y5, y6, y7] [] h Q := by
  have hM' := hM
  obtain ⟨mk, ⟨mr0, mk0, mz0⟩, ⟨mr1, mk1, mz1⟩, ⟨mr2, mk2, mz2⟩, ⟨mr3, mk3, mz3⟩, ⟨mr4, mk4, mz4⟩, ⟨mr5, mk5, mz5⟩, ⟨mr6, mk6, mz6⟩, ⟨mr7, mk7, mz7⟩, ⟨mr8, mk8, mz8⟩, ⟨mr9, mk9, mz9⟩, ⟨mr10, mk10, mz10⟩, ⟨mr11, mk11, mz11⟩, ⟨mr12, mk12, mz12⟩, ⟨mr13, mk13, mz13⟩, ⟨mr14, mk14, mz14⟩, ⟨mr15, mk15, mz15⟩, ⟨mr16, mk16, mz16⟩, ⟨mr17, mk17, mz17⟩, ⟨mr18, mk18, mz18⟩⟩ := hM
  obtain ⟨hok, hh0, hh1, hh2, hh3, hh4, hh5, hp⟩ := hR
  have n16 := hok.1.1
  obtain ⟨⟨b1, b2⟩, v1, v2⟩ := TL_head hsf hok hA.2.2.1
  have tb := TL_b hA.2.2.1
  have x32 : iv u (ρ 1) < 32 := by
    unfold iv
    split
    · assumption
    · exact b1 (by omega)
  have s32 : iv u (sec ρ) < 32 := by
    unfold iv
    split
    · assumption
    · exact b2 (by omega)
  have e19 : vh_I h 129 19 = f0 129 19 := hF.2 19 (by decide) (by decide)
  simp only [s_103_80, s_103_81, s_103_82, s_103_85, s_103_86, s_103_87, s_103_88, s_103_89, s_103_90, s_103_91, s_103_94, s_103_96, mk, mr0, mk0, mz0, mr1, mk1, mz1, mr2, mk2, mz2, mr3, mk3, mz3, mr4, mk4, mz4, mr5, mk5, mz5, mr6, mk6, mz6, mr7, mk7, mz7, mr8, mk8, mz8, mr9, mk9, mz9, mr10, mk10, mz10, mr11, mk11, mz11, mr12, mk12, mz12, mr13, mk13, mz13, mr14, mk14, mz14, mr15, mk15, mz15, mr16, mk16, mz16, mr17, mk17, mz17, mr18, mk18, mz18, va_rf_s, pk_mul, nI_add, not_false_eq_true, and_self, true_and, Option.toList_some, Option.toList_none, List.append_nil, List.cons_append, List.nil_append, nI_01, nI_11, vh_K_wI, vh_R_wI, vh_Z_wI, vh_wI_sI, vh_K_sI, vh_R_sI, vh_Z_sI, vh_sI_sI, vh_I_sI, cl (show 3 * i + 1 < 2 ^ 31 by omega), ib (show 3 * i + 1 < 48 by omega) (show 48 ≤ 2 ^ 31 by omega), hh1, m_val _ hM' hok.1.2.1 hA.2.2.2 b1, s_103_98]
  by_cases k0 : ρ 3 = 0
  · rw [if_neg (fun z => z (hfo.mpr k0))]
    have es : sec ρ = ρ 2 := if_pos k0
    rw [if_pos k0] at hG
    have o2 : ρ 2 < 38 := by rw [← es]; exact hok.1.2.2.1
    have bc : 1024 * ρ 0 + 32 * iv u (ρ 1) + iv u (ρ 2) < 16384 := by rw [← es]; omega
    simp only [s_103_101, s_103_102, s_103_103, s_103_105, s_103_106, s_103_107, s_103_110, s_103_111, s_103_112, s_103_113, s_103_114, s_103_115, s_103_116, s_103_119, s_103_122, s_103_123, mk, mr0, mk0, mz0, mr1, mk1, mz1, mr2, mk2, mz2, mr3, mk3, mz3, mr4, mk4, mz4, mr5, mk5, mz5, mr6, mk6, mz6, mr7, mk7, mz7, mr8, mk8, mz8, mr9, mk9, mz9, mr10, mk10, mz10, mr11, mk11, mz11, mr12, mk12, mz12, mr13, mk13, mz13, mr14, mk14, mz14, mr15, mk15, mz15, mr16, mk16, mz16, mr17, mk17, mz17, mr18, mk18, mz18, va_rf_s, pk_mul, nI_add, not_false_eq_true, and_self, true_and, Option.toList_some, Option.toList_none, List.append_nil, List.cons_append, List.nil_append, nI_01, nI_11, vh_K_wI, vh_R_wI, vh_Z_wI, vh_wI_sI, vh_K_sI, vh_R_sI, vh_Z_sI, vh_sI_sI, vh_I_sI, cl (show 3 * i + 2 < 2 ^ 31 by omega), ib (show 3 * i + 2 < 48 by omega) (show 48 ≤ 2 ^ 31 by omega), hh2, m_val _ hM' o2 hA.2.2.2 (by rw [← es]; exact b2), c_code]
    refine m_give (f0 := f0) (cn := cnp ρ pre) hM' bc hr hrc e19 hG (fun f1 z1 z2 z3 => ?_)
    simp only [va_rf_s, pk_mul, nI_add, not_false_eq_true, and_self, true_and, Option.toList_some, Option.toList_none, List.append_nil, List.cons_append, List.nil_append, nI_01, nI_11, vh_K_wI, vh_R_wI, vh_Z_wI, vh_wI_sI, vh_K_sI, vh_R_sI, vh_Z_sI, vh_sI_sI, vh_I_sI]
    simp only [s_103_126]
    refine hQ f1 ⟨fun x x1 x2 x3 x4 j => (z2 x x1 x2 x3 (by omega) j).trans (hF.1 x x1 x2 x3 x4 j), fun j j1 j2 => (z3 j j2).trans (hF.2 j j1 j2)⟩ ⟨(z3 17 (by decide)).trans hB.1, fun d hd => (z2 142 (by decide) (by decide) (by decide) (by decide) d).trans (hB.2 d hd)⟩ ⟨fun k hk => (z2 143 (by decide) (by decide) (by decide) (by decide) k).trans (hA.1 k hk), hA.2.1, hA.2.2.1, fun v hv => (z2 141 (by decide) (by decide) (by decide) (by decide) v).trans (hA.2.2.2 v hv)⟩ ?_ (fun z => absurd k0 z) _ _
    rw [if_pos k0]
    refine GV_c z1 (fun c _ => ?_)
    rw [cnp_add, v1, v2, es]
  · rw [if_pos (fun z => k0 (hfo.mp z))]
    have es : sec ρ = ρ 4 := if_neg k0
    have o4 : ρ 4 < 38 := by rw [← es]; exact hok.1.2.2.1
    obtain ⟨h4, h432⟩ := hh4 k0
    have hv6 : ρ 4 - 32 < 6 := by omega
    have vlt : u (ρ 4 - 32) < 32 := by
      have := b2 (by omega)
      rw [es] at this
      exact this
    have ivs : iv u (sec ρ) = u (ρ 4 - 32) := by rw [es]; unfold iv; rw [if_neg (by omega)]
    obtain ⟨g1, g2, g3⟩ := hAg k0 (iv u (ρ 1)) x32
    have S30 : sg_S (NNt ρ pre (iv u (ρ 1))) 32 ≤ 2 ^ 30 := Nat.le_trans NNt_sum hb30
    have nadd : ∀ x b, NNt ρ (pre ++ [t]) x b = NNt ρ pre x b + (if iv u (ρ 1) = x ∧ u (ρ 4 - 32) = b then 1 else 0) := by
      intro x b
      rw [NNt_add, v1, v2, ivs]
      congr 1
      by_cases q : iv u (ρ 1) = x ∧ u (ρ 4 - 32) = b
      · rw [if_pos q, bi_t q]
      · rw [if_neg q, bi_f q]
    have sum1 : sg_S (NNt ρ (pre ++ [t]) (iv u (ρ 1))) 32 = sg_S (NNt ρ pre (iv u (ρ 1))) 32 + 1 := by
      have e : sg_S (NNt ρ (pre ++ [t]) (iv u (ρ 1))) 32 = sg_S (fun b => NNt ρ pre (iv u (ρ 1)) b + (if u (ρ 4 - 32) = b then 1 else 0)) 32 := sg_congr (fun b _ => by rw [nadd]; simp)
      rw [e, sg_add, sg_one (f := fun b => if u (ρ 4 - 32) = b then 1 else 0) (k := u (ρ 4 - 32)) vlt (fun b _ hb => if_neg (fun z => hb z.symm)), if_pos rfl]
    have sum2 : sg_S (fun b => b * NNt ρ (pre ++ [t]) (iv u (ρ 1)) b) 32 = sg_S (fun b => b * NNt ρ pre (iv u (ρ 1)) b) 32 + u (ρ 4 - 32) := by
      have e : sg_S (fun b => b * NNt ρ (pre ++ [t]) (iv u (ρ 1)) b) 32 = sg_S (fun b => b * NNt ρ pre (iv u (ρ 1)) b + (if u (ρ 4 - 32) = b then b else 0)) 32 := sg_congr (fun b _ => by
        rw [nadd, Nat.mul_add]
        congr 1
        by_cases q : u (ρ 4 - 32) = b <;> simp [q])
      rw [e, sg_add, sg_one (f := fun b => if u (ρ 4 - 32) = b then b else 0) (k := u (ρ 4 - 32)) vlt (fun b _ hb => if_neg (fun z => hb z.symm)), if_pos rfl]
    have other : ∀ x, x ≠ iv u (ρ 1) → ∀ b, NNt ρ (pre ++ [t]) x b = NNt ρ pre x b := fun x hx b => by rw [nadd, if_neg (fun z => hx z.1.symm), Nat.add_zero]
    have here : ∀ b, NNt ρ (pre ++ [t]) (iv u (ρ 1)) b ≠ 0 ↔ NNt ρ pre (iv u (ρ 1)) b ≠ 0 ∨ u (ρ 4 - 32) = b := fun b => by
      rw [nadd]
      by_cases q : u (ρ 4 - 32) = b
      · rw [if_pos ⟨rfl, q⟩]; exact ⟨fun _ => Or.inr q, fun _ => by omega⟩
      · rw [if_neg (fun z => q z.2), Nat.add_zero]; exact ⟨Or.inl, fun z => z.elim id (fun y => absurd y q)⟩
    have z0 : sg_S (NNt ρ pre (iv u (ρ 1))) 32 = 0 → ∀ b, b < 32 → NNt ρ pre (iv u (ρ 1)) b = 0 := fun z b hb => sg_eq0.mp z b hb
    have md := Nat.mod_lt (sg_S (fun b => b * NNt ρ pre (iv u (ρ 1)) b) 32) (show 32 > 0 by omega)
    have fin : ∀ lo hi : Nat, lo < 32 → hi < 32 → (NNt ρ (pre ++ [t]) (iv u (ρ 1)) lo ≠ 0 ∧ ∀ j, j < lo → NNt ρ (pre ++ [t]) (iv u (ρ 1)) j = 0) → (NNt ρ (pre ++ [t]) (iv u (ρ 1)) hi ≠ 0 ∧ ∀ j, hi < j → j < 32 → NNt ρ (pre ++ [t]) (iv u (ρ 1)) j = 0) → Wp 103 226 [.ref 129, .int (nI i), .int rd, .int (nI (ρ 0)), .int fo', y5, .int (nI (iv u (ρ 1))), .int (nI (u (ρ 4 - 32)))] [] (vh_sI h (up2 (up2 (vh_I h) 147 (iv u (ρ 1)) (nI lo)) 148 (iv u (ρ 1)) (nI hi))) Q := by
      intro lo hi hlo hhi hl hh
      have o145 : ∀ a b : Int32, up2 (up2 (vh_I h) 147 (iv u (ρ 1)) a) 148 (iv u (ρ 1)) b 145 (iv u (ρ 1)) = nI (sg_S (NNt ρ pre (iv u (ρ 1))) 32) := fun a b => by rw [up2_a _ _ _ (by decide), up2_a _ _ _ (by decide)]; exact g1
      have o146 : ∀ a b c : Int32, up2 (up2 (up2 (vh_I h) 147 (iv u (ρ 1)) a) 148 (iv u (ρ 1)) b) 145 (iv u (ρ 1)) c 146 (iv u (ρ 1)) = nI (sg_S (fun b => b * NNt ρ pre (iv u (ρ 1)) b) 32 % 32) := fun a b c => by rw [up2_a _ _ _ (by decide), up2_a _ _ _ (by decide), up2_a _ _ _ (by decide)]; exact g2
      simp only [s_103_226, s_103_227, s_103_230, s_103_232, s_103_233, s_103_234, s_103_235, s_103_236, s_103_237, s_103_238, s_103_241, s_103_243, s_103_244, s_103_247, s_103_249, s_103_250, s_103_252, mk, mr0, mk0, mz0, mr1, mk1, mz1, mr2, mk2, mz2, mr3, mk3, mz3, mr4, mk4, mz4, mr5, mk5, mz5, mr6, mk6, mz6, mr7, mk7, mz7, mr8, mk8, mz8, mr9, mk9, mz9, mr10, mk10, mz10, mr11, mk11, mz11, mr12, mk12, mz12, mr13, mk13, mz13, mr14, mk14, mz14, mr15, mk15, mz15, mr16, mk16, mz16, mr17, mk17, mz17, mr18, mk18, mz18, va_rf_s, pk_mul, nI_add, not_false_eq_true, and_self, true_and, Option.toList_some, Option.toList_none, List.append_nil, List.cons_append, List.nil_append, nI_01, nI_11, vh_K_wI, vh_R_wI, vh_Z_wI, vh_wI_sI, vh_K_sI, vh_R_sI, vh_Z_sI, vh_sI_sI, vh_I_sI, cl (show iv u (ρ 1) < 2 ^ 31 by omega), ib x32 (show 32 ≤ 2 ^ 31 by omega), o145, o146]
      simp only [s_103_253, s_103_255, s_103_256, mk, mr0, mk0, mz0, mr1, mk1, mz1, mr2, mk2, mz2, mr3, mk3, mz3, mr4, mk4, mz4, mr5, mk5, mz5, mr6, mk6, mz6, mr7, mk7, mz7, mr8, mk8, mz8, mr9, mk9, mz9, mr10, mk10, mz10, mr11, mk11, mz11, mr12, mk12, mz12, mr13, mk13, mz13, mr14, mk14, mz14, mr15, mk15, mz15, mr16, mk16, mz16, mr17, mk17, mz17, mr18, mk18, mz18, va_rf_s, pk_mul, nI_add, not_false_eq_true, and_self, true_and, Option.toList_some, Option.toList_none, List.append_nil, List.cons_append, List.nil_append, nI_01, nI_11, vh_K_wI, vh_R_wI, vh_Z_wI, vh_wI_sI, vh_K_sI, vh_R_sI, vh_Z_sI, vh_sI_sI, vh_I_sI, n32_0, pk_div (show sg_S (fun b => b * NNt ρ pre (iv u (ρ 1)) b) 32 % 32 + u (ρ 4 - 32) < 2 ^ 31 by omega) (show 0 < 32 by omega) (show 32 < 2 ^ 31 by omega), rem32 (show sg_S (fun b => b * NNt ρ pre (iv u (ρ 1)) b) 32 % 32 + u (ρ 4 - 32) < 2 ^ 31 by omega), cl (show iv u (ρ 1) < 2 ^ 31 by omega), ib x32 (show 32 ≤ 2 ^ 31 by omega)]
      generalize hf' : up2 (up2 (up2 (up2 (vh_I h) 147 (iv u (ρ 1)) (nI lo)) 148 (iv u (ρ 1)) (nI hi)) 145 (iv u (ρ 1)) (nI (sg_S (NNt ρ pre (iv u (ρ 1))) 32 + 1))) 146 (iv u (ρ 1)) (nI ((sg_S (fun b => b * NNt ρ pre (iv u (ρ 1)) b) 32 % 32 + u (ρ 4 - 32)) % 32)) = f'
      have w : ∀ x, x ≠ 145 → x ≠ 146 → x ≠ 147 → x ≠ 148 → ∀ j, f' x j = vh_I h x j := fun x x1 x2 x3 x4 j => by rw [← hf', up2_a _ _ _ x2, up2_a _ _ _ x1, up2_a _ _ _ x4, up2_a _ _ _ x3]
      have wi : ∀ x j, j ≠ iv u (ρ 1) → f' x j = vh_I h x j := fun x j hj => by rw [← hf', up2_i _ _ _ _ hj, up2_i _ _ _ _ hj, up2_i _ _ _ _ hj, up2_i _ _ _ _ hj]
      have w145 : f' 145 (iv u (ρ 1)) = nI (sg_S (NNt ρ pre (iv u (ρ 1))) 32 + 1) := by rw [← hf', up2_a _ _ _ (by decide), up2_s]
      have w146 : f' 146 (iv u (ρ 1)) = nI ((sg_S (fun b => b * NNt ρ pre (iv u (ρ 1)) b) 32 % 32 + u (ρ 4 - 32)) % 32) := by rw [← hf', up2_s]
      have w147 : f' 147 (iv u (ρ 1)) = nI lo := by rw [← hf', up2_a _ _ _ (by decide), up2_a _ _ _ (by decide), up2_a _ _ _ (by decide), up2_s]
      have w148 : f' 148 (iv u (ρ 1)) = nI hi := by rw [← hf', up2_a _ _ _ (by decide), up2_a _ _ _ (by decide), up2_s]
      refine hQ f' ⟨fun x x1 x2 x3 x4 j => (w x (by omega) (by omega) (by omega) (by omega) j).trans (hF.1 x x1 x2 x3 x4 j), fun j j1 j2 => (w 129 (by decide) (by decide) (by decide) (by decide) j).trans (hF.2 j j1 j2)⟩ ⟨(w 129 (by decide) (by decide) (by decide) (by decide) 17).trans hB.1, fun d hd => (w 142 (by decide) (by decide) (by decide) (by decide) d).trans (hB.2 d hd)⟩ ⟨fun k hk => (w 143 (by decide) (by decide) (by decide) (by decide) k).trans (hA.1 k hk), hA.2.1, hA.2.2.1, fun v hv => (w 141 (by decide) (by decide) (by decide) (by decide) v).trans (hA.2.2.2 v hv)⟩ ?_ (fun _ x hx => ?_) _ _
      · rw [if_neg k0] at hG ⊢
        exact GV_f hG (fun j => w 136 (by decide) (by decide) (by decide) (by decide) j) (fun j => w 137 (by decide) (by decide) (by decide) (by decide) j) (fun j => w 144 (by decide) (by decide) (by decide) (by decide) j) (w 129 (by decide) (by decide) (by decide) (by decide) 25)
      · by_cases e : x = iv u (ρ 1)
        · subst e
          rw [w145, w146, sum1, sum2]
          refine ⟨rfl, ?_, fun _ => ⟨⟨lo, hlo, w147, hl⟩, ⟨hi, hhi, w148, hh⟩⟩⟩
          congr 1
          omega
        · have eq : NNt ρ (pre ++ [t]) x = NNt ρ pre x := funext (other x e)
          rw [eq, wi 145 x e, wi 146 x e, wi 147 x e, wi 148 x e]
          exact hAg k0 x hx
    have hiStep : ∀ lo : Nat, lo < 32 → (NNt ρ (pre ++ [t]) (iv u (ρ 1)) lo ≠ 0 ∧ ∀ j, j < lo → NNt ρ (pre ++ [t]) (iv u (ρ 1)) j = 0) → Wp 103 185 [.ref 129, .int (nI i), .int rd, .int (nI (ρ 0)), .int fo', y5, .int (nI (iv u (ρ 1))), .int (nI (u (ρ 4 - 32)))] [] (vh_sI h (up2 (vh_I h) 147 (iv u (ρ 1)) (nI lo))) Q := by
      intro lo hlo hl
      have o145 : ∀ a : Int32, up2 (vh_I h) 147 (iv u (ρ 1)) a 145 (iv u (ρ 1)) = nI (sg_S (NNt ρ pre (iv u (ρ 1))) 32) := fun a => by rw [up2_a _ _ _ (by decide)]; exact g1
      have o148 : ∀ a : Int32, up2 (vh_I h) 147 (iv u (ρ 1)) a 148 (iv u (ρ 1)) = vh_I h 148 (iv u (ρ 1)) := fun a => up2_a _ _ _ (by decide) _
      simp only [s_103_185, s_103_186, s_103_189, s_103_191, s_103_192, s_103_195, s_103_197, mk, mr0, mk0, mz0, mr1, mk1, mz1, mr2, mk2, mz2, mr3, mk3, mz3, mr4, mk4, mz4, mr5, mk5, mz5, mr6, mk6, mz6, mr7, mk7, mz7, mr8, mk8, mz8, mr9, mk9, mz9, mr10, mk10, mz10, mr11, mk11, mz11, mr12, mk12, mz12, mr13, mk13, mz13, mr14, mk14, mz14, mr15, mk15, mz15, mr16, mk16, mz16, mr17, mk17, mz17, mr18, mk18, mz18, va_rf_s, pk_mul, nI_add, not_false_eq_true, and_self, true_and, Option.toList_some, Option.toList_none, List.append_nil, List.cons_append, List.nil_append, nI_01, nI_11, vh_K_wI, vh_R_wI, vh_Z_wI, vh_wI_sI, vh_K_sI, vh_R_sI, vh_Z_sI, vh_sI_sI, vh_I_sI, cl (show iv u (ρ 1) < 2 ^ 31 by omega), ib x32 (show 32 ≤ 2 ^ 31 by omega), o145, s_103_198]
      have put : ∀ hi : Nat, hi < 32 → (NNt ρ (pre ++ [t]) (iv u (ρ 1)) hi ≠ 0 ∧ ∀ j, hi < j → j < 32 → NNt ρ (pre ++ [t]) (iv u (ρ 1)) j = 0) → Wp 103 225 [.ref 129, .int (nI i), .int rd, .int (nI (ρ 0)), .int fo', y5, .int (nI (iv u (ρ 1))), .int (nI (u (ρ 4 - 32)))] [.int (nI hi), .int (nI (iv u (ρ 1))), .ref 148] (vh_sI h (up2 (vh_I h) 147 (iv u (ρ 1)) (nI lo))) Q := by
        intro hi hhi hh
        simp only [s_103_225, mk, mr0, mk0, mz0, mr1, mk1, mz1, mr2, mk2, mz2, mr3, mk3, mz3, mr4, mk4, mz4, mr5, mk5, mz5, mr6, mk6, mz6, mr7, mk7, mz7, mr8, mk8, mz8, mr9, mk9, mz9, mr10, mk10, mz10, mr11, mk11, mz11, mr12, mk12, mz12, mr13, mk13, mz13, mr14, mk14, mz14, mr15, mk15, mz15, mr16, mk16, mz16, mr17, mk17, mz17, mr18, mk18, mz18, va_rf_s, pk_mul, nI_add, not_false_eq_true, and_self, true_and, Option.toList_some, Option.toList_none, List.append_nil, List.cons_append, List.nil_append, nI_01, nI_11, vh_K_wI, vh_R_wI, vh_Z_wI, vh_wI_sI, vh_K_sI, vh_R_sI, vh_Z_sI, vh_sI_sI, vh_I_sI, cl (show iv u (ρ 1) < 2 ^ 31 by omega), ib x32 (show 32 ≤ 2 ^ 31 by omega)]
        exact fin lo hi hlo hhi hl hh
      have zS : nI (sg_S (NNt ρ pre (iv u (ρ 1))) 32) = 0 ↔ sg_S (NNt ρ pre (iv u (ρ 1))) 32 = 0 := nI_0i (by omega)
      by_cases q : sg_S (NNt ρ pre (iv u (ρ 1))) 32 = 0
      · rw [if_pos (zS.mpr q)]
        simp only [s_103_213, s_103_215]
        refine put _ vlt ⟨(here _).mpr (Or.inr rfl), fun j hj hj32 => ?_⟩
        refine Classical.byContradiction (fun z => ?_)
        rcases (here j).mp z with y | y
        · exact y (z0 q j hj32)
        · omega
      · rw [if_neg (fun z => q (zS.mp z))]
        obtain ⟨hi, p1, p2, p3, p4⟩ := (g3 q).2
        simp only [s_103_201, s_103_203, s_103_204, s_103_207, s_103_209, mk, mr0, mk0, mz0, mr1, mk1, mz1, mr2, mk2, mz2, mr3, mk3, mz3, mr4, mk4, mz4, mr5, mk5, mz5, mr6, mk6, mz6, mr7, mk7, mz7, mr8, mk8, mz8, mr9, mk9, mz9, mr10, mk10, mz10, mr11, mk11, mz11, mr12, mk12, mz12, mr13, mk13, mz13, mr14, mk14, mz14, mr15, mk15, mz15, mr16, mk16, mz16, mr17, mk17, mz17, mr18, mk18, mz18, va_rf_s, pk_mul, nI_add, not_false_eq_true, and_self, true_and, Option.toList_some, Option.toList_none, List.append_nil, List.cons_append, List.nil_append, nI_01, nI_11, vh_K_wI, vh_R_wI, vh_Z_wI, vh_wI_sI, vh_K_sI, vh_R_sI, vh_Z_sI, vh_sI_sI, vh_I_sI, cl (show iv u (ρ 1) < 2 ^ 31 by omega), ib x32 (show 32 ≤ 2 ^ 31 by omega), o148, p2, s_103_210]
        by_cases q2 : u (ρ 4 - 32) ≤ hi
        · rw [if_pos (nI_le q2 (by omega))]
          simp only [s_103_218, s_103_219, s_103_222, s_103_224, mk, mr0, mk0, mz0, mr1, mk1, mz1, mr2, mk2, mz2, mr3, mk3, mz3, mr4, mk4, mz4, mr5, mk5, mz5, mr6, mk6, mz6, mr7, mk7, mz7, mr8, mk8, mz8, mr9, mk9, mz9, mr10, mk10, mz10, mr11, mk11, mz11, mr12, mk12, mz12, mr13, mk13, mz13, mr14, mk14, mz14, mr15, mk15, mz15, mr16, mk16, mz16, mr17, mk17, mz17, mr18, mk18, mz18, va_rf_s, pk_mul, nI_add, not_false_eq_true, and_self, true_and, Option.toList_some, Option.toList_none, List.append_nil, List.cons_append, List.nil_append, nI_01, nI_11, vh_K_wI, vh_R_wI, vh_Z_wI, vh_wI_sI, vh_K_sI, vh_R_sI, vh_Z_sI, vh_sI_sI, vh_I_sI, cl (show iv u (ρ 1) < 2 ^ 31 by omega), ib x32 (show 32 ≤ 2 ^ 31 by omega), o148, p2]
          refine put hi p1 ⟨(here _).mpr (Or.inl p3), fun j hj hj32 => ?_⟩
          refine Classical.byContradiction (fun z => ?_)
          rcases (here j).mp z with y | y
          · exact y (p4 j hj hj32)
          · omega
        · rw [if_neg (nI_ge (by omega) (by omega))]
          simp only [s_103_213, s_103_215]
          refine put _ vlt ⟨(here _).mpr (Or.inr rfl), fun j hj hj32 => ?_⟩
          refine Classical.byContradiction (fun z => ?_)
          rcases (here j).mp z with y | y
          · exact y (p4 j (by omega) hj32)
          · omega
    have putL : ∀ lo : Nat, lo < 32 → (NNt ρ (pre ++ [t]) (iv u (ρ 1)) lo ≠ 0 ∧ ∀ j, j < lo → NNt ρ (pre ++ [t]) (iv u (ρ 1)) j = 0) → Wp 103 184 [.ref 129, .int (nI i), .int rd, .int (nI (ρ 0)), .int fo', y5, .int (nI (iv u (ρ 1))), .int (nI (u (ρ 4 - 32)))] [.int (nI lo), .int (nI (iv u (ρ 1))), .ref 147] h Q := by
      intro lo hlo hl
      simp only [s_103_184, mk, mr0, mk0, mz0, mr1, mk1, mz1, mr2, mk2, mz2, mr3, mk3, mz3, mr4, mk4, mz4, mr5, mk5, mz5, mr6, mk6, mz6, mr7, mk7, mz7, mr8, mk8, mz8, mr9, mk9, mz9, mr10, mk10, mz10, mr11, mk11, mz11, mr12, mk12, mz12, mr13, mk13, mz13, mr14, mk14, mz14, mr15, mk15, mz15, mr16, mk16, mz16, mr17, mk17, mz17, mr18, mk18, mz18, va_rf_s, pk_mul, nI_add, not_false_eq_true, and_self, true_and, Option.toList_some, Option.toList_none, List.append_nil, List.cons_append, List.nil_append, nI_01, nI_11, vh_K_wI, vh_R_wI, vh_Z_wI, vh_wI_sI, vh_K_sI, vh_R_sI, vh_Z_sI, vh_sI_sI, vh_I_sI, cl (show iv u (ρ 1) < 2 ^ 31 by omega), ib x32 (show 32 ≤ 2 ^ 31 by omega)]
      exact hiStep lo hlo hl
    have zS : nI (sg_S (NNt ρ pre (iv u (ρ 1))) 32) = 0 ↔ sg_S (NNt ρ pre (iv u (ρ 1))) 32 = 0 := nI_0i (by omega)
    simp only [s_103_129, s_103_130, s_103_133, s_103_134, s_103_135, s_103_138, s_103_139, s_103_140, s_103_141, s_103_142, s_103_144, s_103_145, s_103_148, s_103_150, s_103_151, s_103_154, s_103_156, mk, mr0, mk0, mz0, mr1, mk1, mz1, mr2, mk2, mz2, mr3, mk3, mz3, mr4, mk4, mz4, mr5, mk5, mz5, mr6, mk6, mz6, mr7, mk7, mz7, mr8, mk8, mz8, mr9, mk9, mz9, mr10, mk10, mz10, mr11, mk11, mz11, mr12, mk12, mz12, mr13, mk13, mz13, mr14, mk14, mz14, mr15, mk15, mz15, mr16, mk16, mz16, mr17, mk17, mz17, mr18, mk18, mz18, va_rf_s, pk_mul, nI_add, not_false_eq_true, and_self, true_and, Option.toList_some, Option.toList_none, List.append_nil, List.cons_append, List.nil_append, nI_01, nI_11, vh_K_wI, vh_R_wI, vh_Z_wI, vh_wI_sI, vh_K_sI, vh_R_sI, vh_Z_sI, vh_sI_sI, vh_I_sI, cl (show i < 2 ^ 31 by omega), ib hi (show 16 ≤ 2 ^ 31 by omega), h4, jI_var (ρ 4) o4 h432, cl (show ρ 4 - 32 < 2 ^ 31 by omega), ib hv6 (show 6 ≤ 2 ^ 31 by omega), hA.2.2.2 _ hv6, vI_n vlt, cl (show iv u (ρ 1) < 2 ^ 31 by omega), ib x32 (show 32 ≤ 2 ^ 31 by omega), g1, s_103_157]
    by_cases q : sg_S (NNt ρ pre (iv u (ρ 1))) 32 = 0
    · rw [if_pos (zS.mpr q)]
      simp only [s_103_172, s_103_174]
      refine putL _ vlt ⟨(here _).mpr (Or.inr rfl), fun j hj => ?_⟩
      refine Classical.byContradiction (fun z => ?_)
      rcases (here j).mp z with y | y
      · exact y (z0 q j (by omega))
      · omega
    · rw [if_neg (fun z => q (zS.mp z))]
      obtain ⟨lo, p1, p2, p3, p4⟩ := (g3 q).1
      simp only [s_103_160, s_103_162, s_103_163, s_103_166, s_103_168, mk, mr0, mk0, mz0, mr1, mk1, mz1, mr2, mk2, mz2, mr3, mk3, mz3, mr4, mk4, mz4, mr5, mk5, mz5, mr6, mk6, mz6, mr7, mk7, mz7, mr8, mk8, mz8, mr9, mk9, mz9, mr10, mk10, mz10, mr11, mk11, mz11, mr12, mk12, mz12, mr13, mk13, mz13, mr14, mk14, mz14, mr15, mk15, mz15, mr16, mk16, mz16, mr17, mk17, mz17, mr18, mk18, mz18, va_rf_s, pk_mul, nI_add, not_false_eq_true, and_self, true_and, Option.toList_some, Option.toList_none, List.append_nil, List.cons_append, List.nil_append, nI_01, nI_11, vh_K_wI, vh_R_wI, vh_Z_wI, vh_wI_sI, vh_K_sI, vh_R_sI, vh_Z_sI, vh_sI_sI, vh_I_sI, cl (show iv u (ρ 1) < 2 ^ 31 by omega), ib x32 (show 32 ≤ 2 ^ 31 by omega), p2, s_103_169]
      by_cases q2 : lo ≤ u (ρ 4 - 32)
      · rw [if_pos (nI_le q2 (by omega))]
        simp only [s_103_177, s_103_178, s_103_181, s_103_183, mk, mr0, mk0, mz0, mr1, mk1, mz1, mr2, mk2, mz2, mr3, mk3, mz3, mr4, mk4, mz4, mr5, mk5, mz5, mr6, mk6, mz6, mr7, mk7, mz7, mr8, mk8, mz8, mr9, mk9, mz9, mr10, mk10, mz10, mr11, mk11, mz11, mr12, mk12, mz12, mr13, mk13, mz13, mr14, mk14, mz14, mr15, mk15, mz15, mr16, mk16, mz16, mr17, mk17, mz17, mr18, mk18, mz18, va_rf_s, pk_mul, nI_add, not_false_eq_true, and_self, true_and, Option.toList_some, Option.toList_none, List.append_nil, List.cons_append, List.nil_append, nI_01, nI_11, vh_K_wI, vh_R_wI, vh_Z_wI, vh_wI_sI, vh_K_sI, vh_R_sI, vh_Z_sI, vh_sI_sI, vh_I_sI, cl (show iv u (ρ 1) < 2 ^ 31 by omega), ib x32 (show 32 ≤ 2 ^ 31 by omega), p2]
        refine putL lo p1 ⟨(here _).mpr (Or.inl p3), fun j hj => ?_⟩
        refine Classical.byContradiction (fun z => ?_)
        rcases (here j).mp z with y | y
        · exact y (p4 j hj)
        · omega
      · rw [if_neg (nI_ge (by omega) (by omega))]
        simp only [s_103_172, s_103_174]
        refine putL _ vlt ⟨(here _).mpr (Or.inr rfl), fun j hj => ?_⟩
        refine Classical.byContradiction (fun z => ?_)
        rcases (here j).mp z with y | y
        · exact y (p4 j (by omega))
        · omega
theorem l_tup {i r : Nat} {rd fo' : Int32} {ρ P0 : Nat → Nat} {h : vt_H} {Q : vt_Q} {Hc Oc O : Nat → Bool} {rc : Nat → Nat} (hM : MZ h) (hi : i < 16) (hR : MR (vh_I h) i ρ) (hsf : sf ρ) (hr : r < 2 ^ 31) (hrc : ∀ c, c < 16384 → rc c < 2 ^ 31) (hfo : fo' = 0 ↔ ρ 3 = 0) (h0 : rd = nI r → (∀ c, c < 16384 → vh_I h 136 c = if Hc c = true then nI (rc c) else -nI 1) ∧ ¬ vh_I h 129 19 < 0) (hO : ∀ c, c < 16384 → (OL (vh_I h) c ↔ O c = true))
    (hQ : ∀ f', SF (vh_I h) f' → GV (vh_I h) f' rd r Hc Oc rc (if ρ 3 = 0 then cnp ρ (LSn ρ O (npc ρ) 0 P0) else fun _ => 0) → (ρ 3 ≠ 0 → AGs f' ρ (LSn ρ O (npc ρ) 0 P0)) → ∀ y6 y7, Wp 103 283 [.ref 129, .int (nI i), .int rd, .int (nI (ρ 0)), .int fo', .int (nI 0), y6, y7] [] (vh_sI h f') Q) :
    ∀ (l pre : List (Nat → Nat)) (t u : Nat → Nat), LSn ρ O (npc ρ) 0 P0 = pre ++ t :: l → RMn ρ O t (npc ρ) = l → ∀ (f : Nat → Nat → Int32) y6 y7, SF (vh_I h) f → PB f ρ → AT f ρ t u → GV (vh_I h) f rd r Hc Oc rc (if ρ 3 = 0 then cnp ρ pre else fun _ => 0) → (ρ 3 ≠ 0 → AGs f ρ pre) → Wp 103 75 [.ref 129, .int (nI i), .int rd, .int (nI (ρ 0)), .int fo', .int (nI 1), y6, y7] [] (vh_sI h f) Q := by
  have hM' := hM
  have hR' := hR
  obtain ⟨mk, ⟨mr0, mk0, mz0⟩, ⟨mr1, mk1, mz1⟩, ⟨mr2, mk2, mz2⟩, ⟨mr3, mk3, mz3⟩, ⟨mr4, mk4, mz4⟩, ⟨mr5, mk5, mz5⟩, ⟨mr6, mk6, mz6⟩, ⟨mr7, mk7, mz7⟩, ⟨mr8, mk8, mz8⟩, ⟨mr9, mk9, mz9⟩, ⟨mr10, mk10, mz10⟩, ⟨mr11, mk11, mz11⟩, ⟨mr12, mk12, mz12⟩, ⟨mr13, mk13, mz13⟩, ⟨mr14, mk14, mz14⟩, ⟨mr15, mk15, mz15⟩, ⟨mr16, mk16, mz16⟩, ⟨mr17, mk17, mz17⟩, ⟨mr18, mk18, mz18⟩⟩ := hM
  obtain ⟨hok, hh0, hh1, hh2, hh3, hh4, hh5, hp⟩ := hR
  have n16 := hok.1.1
  have n5 : npc ρ ≤ 5 := Nat.le_trans (pls_len (ρ 5)) hok.1.2.2.2.1
  intro l
  have len := tuples_len (O := O) (P := P0) hok hsf
  have stop : ∀ f y6 y7, SF (vh_I h) f → GV (vh_I h) f rd r Hc Oc rc (if ρ 3 = 0 then cnp ρ (LSn ρ O (npc ρ) 0 P0) else fun _ => 0) → (ρ 3 ≠ 0 → AGs f ρ (LSn ρ O (npc ρ) 0 P0)) → Wp 103 277 [.ref 129, .int (nI i), .int rd, .int (nI (ρ 0)), .int fo', .int (nI 1), y6, y7] [] (vh_sI h f) Q := by
    intro f y6 y7 a1 a2 a3
    simp only [s_103_277, s_103_278, s_103_280]
    simp only [s_103_75, s_103_77]
    rw [if_pos nI_00]
    exact hQ f a1 a2 a3 _ _
  induction l with
  | nil =>
    intro pre t u eL eR f y6 y7 hF hB hA hG hAg
    have hM0 : MZ (vh_sI h f) := hM'
    have hR0 : MR (vh_I (vh_sI h f)) i ρ := SF_MR hF hR'
    simp only [s_103_75, s_103_77]
    rw [if_neg nI_10]
    refine l_body (h := vh_sI h f) (f0 := vh_I h) (pre := pre) (t := t) (u := u) hM0 hi hR0 hsf hr hrc hfo (Nat.le_trans (by rw [eL]; exact sl_le) len) hF hB hA hG hAg (fun f1 b1 b2 b3 b4 b5 y6 y7 => ?_)
    rw [vh_sI_sI]
    rw [← eL] at b4 b5
    have hM1 : MZ (vh_sI h f1) := hM'
    have hR1 : MR (vh_I (vh_sI h f1)) i ρ := SF_MR b1 hR'
    have hO1 : ∀ c, c < 16384 → (OL (vh_I (vh_sI h f1)) c ↔ O c = true) := fun c hc => by
      rw [← hO c hc]
      exact GV_OL b4 (b1.2 19 (by decide) (by decide)) hr h0 hc
    simp only [s_103_257, s_103_258, s_103_261, mk, mr0, mk0, mz0, mr1, mk1, mz1, mr2, mk2, mz2, mr3, mk3, mz3, mr4, mk4, mz4, mr5, mk5, mz5, mr6, mk6, mz6, mr7, mk7, mz7, mr8, mk8, mz8, mr9, mk9, mz9, mr10, mk10, mz10, mr11, mk11, mz11, mr12, mk12, mz12, mr13, mk13, mz13, mr14, mk14, mz14, mr15, mk15, mz15, mr16, mk16, mz16, mr17, mk17, mz17, mr18, mk18, mz18, va_rf_s, pk_mul, nI_add, not_false_eq_true, and_self, true_and, Option.toList_some, Option.toList_none, List.append_nil, List.cons_append, List.nil_append, nI_01, nI_11, vh_K_wI, vh_R_wI, vh_Z_wI, vh_wI_sI, vh_K_sI, vh_R_sI, vh_Z_sI, vh_sI_sI, vh_I_sI, b2.1]
    by_cases q : npc ρ = 0
    · rw [if_pos (by rw [q]; decide)]
      exact stop f1 _ _ b1 b4 b5
    · rw [if_neg (nI_nle (by omega) (by omega))]
      simp only [s_103_264, s_103_265, s_103_266, s_103_267, mk, mr0, mk0, mz0, mr1, mk1, mz1, mr2, mk2, mz2, mr3, mk3, mz3, mr4, mk4, mz4, mr5, mk5, mz5, mr6, mk6, mz6, mr7, mk7, mz7, mr8, mk8, mz8, mr9, mk9, mz9, mr10, mk10, mz10, mr11, mk11, mz11, mr12, mk12, mz12, mr13, mk13, mz13, mr14, mk14, mz14, mr15, mk15, mz15, mr16, mk16, mz16, mr17, mk17, mz17, mr18, mk18, mz18, va_rf_s, pk_mul, nI_add, not_false_eq_true, and_self, true_and, Option.toList_some, Option.toList_none, List.append_nil, List.cons_append, List.nil_append, nI_01, nI_11, vh_K_wI, vh_R_wI, vh_Z_wI, vh_wI_sI, vh_K_sI, vh_R_sI, vh_Z_sI, vh_sI_sI, vh_I_sI]
      refine m_nextF (h := vh_sI h f1) (O := O) (P := t) hM1 hi hR1 hsf b2 hO1 (by omega) b3.2.1 b3.1 (fun hz f2 z1 => ?_) (fun t' l' hz => ?_)
      · rw [vh_sI_sI]
        rw [vh_I_sI] at z1
        simp only [va_rf_s, pk_mul, nI_add, not_false_eq_true, and_self, true_and, Option.toList_some, Option.toList_none, List.append_nil, List.cons_append, List.nil_append, nI_01, nI_11, vh_K_wI, vh_R_wI, vh_Z_wI, vh_wI_sI, vh_K_sI, vh_R_sI, vh_Z_sI, vh_sI_sI, vh_I_sI]
        simp only [s_103_270]
        rw [if_pos nI_00]
        refine stop f2 _ _ ⟨fun x x1 x2 x3 x4 j => (z1 x (by omega) (by omega) j).trans (b1.1 x x1 x2 x3 x4 j), fun j j1 j2 => (z1 129 (by decide) (by decide) j).trans (b1.2 j j1 j2)⟩ (GV_f b4 (fun j => z1 136 (by decide) (by decide) j) (fun j => z1 137 (by decide) (by decide) j) (fun j => z1 144 (by decide) (by decide) j) (z1 129 (by decide) (by decide) 25)) (fun k x hx => ?_)
        have := b5 k x hx
        rw [z1 145 (by decide) (by decide), z1 146 (by decide) (by decide), z1 147 (by decide) (by decide), z1 148 (by decide) (by decide)]
        exact this
      · rw [eR] at hz; cases hz
  | cons t' l ih =>
    intro pre t u eL eR f y6 y7 hF hB hA hG hAg
    have hM0 : MZ (vh_sI h f) := hM'
    have hR0 : MR (vh_I (vh_sI h f)) i ρ := SF_MR hF hR'
    simp only [s_103_75, s_103_77]
    rw [if_neg nI_10]
    refine l_body (h := vh_sI h f) (f0 := vh_I h) (pre := pre) (t := t) (u := u) hM0 hi hR0 hsf hr hrc hfo (Nat.le_trans (by rw [eL]; exact sl_le) len) hF hB hA hG hAg (fun f1 b1 b2 b3 b4 b5 y6 y7 => ?_)
    rw [vh_sI_sI]
    have hM1 : MZ (vh_sI h f1) := hM'
    have hR1 : MR (vh_I (vh_sI h f1)) i ρ := SF_MR b1 hR'
    have hO1 : ∀ c, c < 16384 → (OL (vh_I (vh_sI h f1)) c ↔ O c = true) := fun c hc => by
      rw [← hO c hc]
      exact GV_OL b4 (b1.2 19 (by decide) (by decide)) hr h0 hc
    have q : ¬ npc ρ = 0 := by
      intro z
      rw [z] at eR
      cases eR
    simp only [s_103_257, s_103_258, s_103_261, mk, mr0, mk0, mz0, mr1, mk1, mz1, mr2, mk2, mz2, mr3, mk3, mz3, mr4, mk4, mz4, mr5, mk5, mz5, mr6, mk6, mz6, mr7, mk7, mz7, mr8, mk8, mz8, mr9, mk9, mz9, mr10, mk10, mz10, mr11, mk11, mz11, mr12, mk12, mz12, mr13, mk13, mz13, mr14, mk14, mz14, mr15, mk15, mz15, mr16, mk16, mz16, mr17, mk17, mz17, mr18, mk18, mz18, va_rf_s, pk_mul, nI_add, not_false_eq_true, and_self, true_and, Option.toList_some, Option.toList_none, List.append_nil, List.cons_append, List.nil_append, nI_01, nI_11, vh_K_wI, vh_R_wI, vh_Z_wI, vh_wI_sI, vh_K_sI, vh_R_sI, vh_Z_sI, vh_sI_sI, vh_I_sI, b2.1]
    rw [if_neg (nI_nle (by omega) (by omega))]
    simp only [s_103_264, s_103_265, s_103_266, s_103_267, mk, mr0, mk0, mz0, mr1, mk1, mz1, mr2, mk2, mz2, mr3, mk3, mz3, mr4, mk4, mz4, mr5, mk5, mz5, mr6, mk6, mz6, mr7, mk7, mz7, mr8, mk8, mz8, mr9, mk9, mz9, mr10, mk10, mz10, mr11, mk11, mz11, mr12, mk12, mz12, mr13, mk13, mz13, mr14, mk14, mz14, mr15, mk15, mz15, mr16, mk16, mz16, mr17, mk17, mz17, mr18, mk18, mz18, va_rf_s, pk_mul, nI_add, not_false_eq_true, and_self, true_and, Option.toList_some, Option.toList_none, List.append_nil, List.cons_append, List.nil_append, nI_01, nI_11, vh_K_wI, vh_R_wI, vh_Z_wI, vh_wI_sI, vh_K_sI, vh_R_sI, vh_Z_sI, vh_sI_sI, vh_I_sI]
    refine m_nextF (h := vh_sI h f1) (O := O) (P := t) hM1 hi hR1 hsf b2 hO1 (by omega) b3.2.1 b3.1 (fun hz => ?_) (fun t2 l2 hz f2 u2 z1 z2 z3 z4 z5 z6 => ?_)
    · rw [eR] at hz; cases hz
    · rw [eR] at hz
      cases hz
      rw [vh_sI_sI]
      rw [vh_I_sI] at z1
      simp only [va_rf_s, pk_mul, nI_add, not_false_eq_true, and_self, true_and, Option.toList_some, Option.toList_none, List.append_nil, List.cons_append, List.nil_append, nI_01, nI_11, vh_K_wI, vh_R_wI, vh_Z_wI, vh_wI_sI, vh_K_sI, vh_R_sI, vh_Z_sI, vh_sI_sI, vh_I_sI]
      simp only [s_103_270]
      rw [if_neg nI_10]
      simp only [s_103_273, s_103_274, s_103_277, s_103_278, s_103_280]
      refine ih (pre ++ [t]) t' u2 (by rw [eL, List.append_assoc]; rfl) z6 f2 _ _ ⟨fun x x1 x2 x3 x4 j => (z1 x (by omega) (by omega) j).trans (b1.1 x x1 x2 x3 x4 j), fun j j1 j2 => (z1 129 (by decide) (by decide) j).trans (b1.2 j j1 j2)⟩ ⟨(z1 129 (by decide) (by decide) 17).trans b2.1, fun d hd => (z1 142 (by decide) (by decide) d).trans (b2.2 d hd)⟩ ⟨z2, z3, z4, z5⟩ (GV_f b4 (fun j => z1 136 (by decide) (by decide) j) (fun j => z1 137 (by decide) (by decide) j) (fun j => z1 144 (by decide) (by decide) j) (z1 129 (by decide) (by decide) 25)) (fun k x hx => ?_)
      have := b5 k x hx
      rw [z1 145 (by decide) (by decide), z1 146 (by decide) (by decide), z1 147 (by decide) (by decide), z1 148 (by decide) (by decide)]
      exact this

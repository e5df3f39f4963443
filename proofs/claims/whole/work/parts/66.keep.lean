-- ===== MODEL of the class: keepName =====
/-- what stays of a heap when rounds are made and last and fresh change places -/
def HS (h h' : vt_H) : Prop := vh_n h ≤ vh_n h' ∧ (∀ c, c < vh_n h → vh_K h' c = vh_K h c ∧ vh_Z h' c = vh_Z h c) ∧ (∀ c j, c < vh_n h → c ≠ 24 → ¬ (c = 4 ∧ (j = 7 ∨ j = 8)) → vh_R h' c j = vh_R h c j) ∧ vh_X h' = vh_X h ∧ vh_L h' = vh_L h
theorem HS_refl (h : vt_H) : HS h h := ⟨Nat.le_refl _, fun _ _ => ⟨rfl, rfl⟩, fun _ _ _ _ _ => rfl, rfl, rfl⟩
theorem HS_trans {h h' h'' : vt_H} (a : HS h h') (b : HS h' h'') : HS h h'' := ⟨Nat.le_trans a.1 b.1, fun c hc => ⟨((b.2.1 c (by have := a.1; omega)).1).trans (a.2.1 c hc).1, ((b.2.1 c (by have := a.1; omega)).2).trans (a.2.1 c hc).2⟩, fun c j hc h1 h2 => (b.2.2.1 c j (by have := a.1; omega) h1 h2).trans (a.2.2.1 c j hc h1 h2), b.2.2.2.1.trans a.2.2.2.1, b.2.2.2.2.trans a.2.2.2.2⟩
theorem HS_sI {h h' : vt_H} (a : HS h h') (f : Nat → Nat → Int32) : HS h (vh_sI h' f) := a
/-- the rows of rounds: none yet (25 .. 40) or made later (from 149 on); the room that is left -/
def RW (h : vt_H) (g : Nat → Nat) (U : Nat) : Prop := (vh_K h 24 = 3 ∧ vh_Z h 24 = 16 ∧ vh_R h 4 5 = some 24) ∧ (∀ n, n < 16 → vh_R h 24 n = some (g n) ∧ vh_K h (g n) = 1 ∧ ((vh_Z h (g n) = 0 ∧ 24 < g n ∧ g n < 41) ∨ (vh_Z h (g n) = 1024 ∧ 149 ≤ g n ∧ g n < vh_n h))) ∧ (∀ n m, n < 16 → m < 16 → g n = g m → n = m) ∧ 149 ≤ vh_n h ∧ (vh_n h + sg_S (fun n => if g n < 41 then 1 else 0) 16 = 165 ∧ vh_u h + 1024 * sg_S (fun n => if g n < 41 then 1 else 0) 16 = U)
/-- the rounds of the facts D -/
def RR (h : vt_H) (g : Nat → Nat) (D : Nat → Nat → Nat → Bool) (rd : Nat → Nat → Nat → Int32) : Prop := ∀ n a b, n < 16 → a < 32 → b < 32 → D n a b = true → vh_Z h (g n) = 1024 ∧ vh_I h (g n) (32 * a + b) = rd n a b
theorem sg_upd {f f' : Nat → Nat} {k N : Nat} (hk : k < N) (h : ∀ i, i < N → i ≠ k → f' i = f i) : sg_S f N + f' k = sg_S f' N + f k := by
  have e1 : sg_S f N = sg_S (fun i => if i = k then 0 else f i) N + f k := by
    have : sg_S f N = sg_S (fun i => (if i = k then 0 else f i) + (if i = k then f k else 0)) N := sg_congr (fun i _ => by by_cases q : i = k <;> simp [q])
    rw [this, sg_add, sg_one (f := fun i => if i = k then f k else 0) (k := k) hk (fun i _ hi => if_neg hi), if_pos rfl]
  have e2 : sg_S f' N = sg_S (fun i => if i = k then 0 else f i) N + f' k := by
    have : sg_S f' N = sg_S (fun i => (if i = k then 0 else f i) + (if i = k then f' k else 0)) N := sg_congr (fun i hi => by
      by_cases q : i = k
      · simp [q]
      · simp [q, h i hi q])
    rw [this, sg_add, sg_one (f := fun i => if i = k then f' k else 0) (k := k) hk (fun i _ hi => if_neg hi), if_pos rfl]
  omega
theorem FT_HS {h h' : vt_H} {f s g : Nat} (hT : FT h f s g) (a : HS h h') (h1 : f < vh_n h ∧ s < vh_n h ∧ g < vh_n h) (h2 : f ≠ 24 ∧ f ≠ 4) : FT h' f s g := by
  obtain ⟨t1, t2, t3, t4, t5, t6, t7⟩ := hT
  exact ⟨((a.2.1 f h1.1).1).trans t1, (a.2.2.1 f 0 h1.1 h2.1 (fun z => h2.2 z.1)).trans t2, (a.2.2.1 f 1 h1.1 h2.1 (fun z => h2.2 z.1)).trans t3, ((a.2.1 s h1.2.1).1).trans t4, ((a.2.1 s h1.2.1).2).trans t5, ((a.2.1 g h1.2.2).1).trans t6, ((a.2.1 g h1.2.2).2).trans t7⟩
theorem CL_HS {h h' : vt_H} (hC : CL h) (a : HS h h') (h1 : 24 ≤ vh_n h) : CL h' := by
  obtain ⟨ck13, cr0, cr1, cr2, cr3, cr4, cr5, cr6, cr7, cr8, cr9, ck14, ck15, ck16, ck17, ck18, ck19, ck20, ck21, ck22, ck23, cz14, cz15, cz16, cz17, cz18, cz19, cz20, cz21, cz22, cz23⟩ := hC
  have k : ∀ c, c < 24 → vh_K h' c = vh_K h c := fun c hc => (a.2.1 c (by omega)).1
  have z : ∀ c, c < 24 → vh_Z h' c = vh_Z h c := fun c hc => (a.2.1 c (by omega)).2
  have r : ∀ j, vh_R h' 13 j = vh_R h 13 j := fun j => a.2.2.1 13 j (by omega) (by decide) (fun q => absurd q.1 (by decide))
  unfold CL
  simp only [k 13 (by omega), k 14 (by omega), k 15 (by omega), k 16 (by omega), k 17 (by omega), k 18 (by omega), k 19 (by omega), k 20 (by omega), k 21 (by omega), k 22 (by omega), k 23 (by omega), z 14 (by omega), z 15 (by omega), z 16 (by omega), z 17 (by omega), z 18 (by omega), z 19 (by omega), z 20 (by omega), z 21 (by omega), z 22 (by omega), z 23 (by omega), r]
  exact ⟨ck13, cr0, cr1, cr2, cr3, cr4, cr5, cr6, cr7, cr8, cr9, ck14, ck15, ck16, ck17, ck18, ck19, ck20, ck21, ck22, ck23, cz14, cz15, cz16, cz17, cz18, cz19, cz20, cz21, cz22, cz23⟩
/-- MO stays, but for the places of last and fresh -/
theorem MO_HS {h h' : vt_H} {la fr : Nat} (hM : MO h la fr) (a : HS h h') (h1 : 149 ≤ vh_n h) (h7 : vh_R h' 4 7 = vh_R h 4 7) (h8 : vh_R h' 4 8 = vh_R h 4 8) : MO h' la fr := by
  obtain ⟨m1, m2, m3, m4, m5, hT, hTl, hTf, hC, hlf⟩ := hM
  refine ⟨((a.2.1 4 (by omega)).1).trans m1, (a.2.2.1 4 3 (by omega) (by decide) (by omega)).trans m2, (a.2.2.1 4 4 (by omega) (by decide) (by omega)).trans m3, h7.trans m4, h8.trans m5, FT_HS hT a ⟨by omega, by omega, by omega⟩ ⟨by decide, by decide⟩, FT_HS hTl a ⟨by omega, by omega, by omega⟩ ⟨by omega, by omega⟩, FT_HS hTf a ⟨by omega, by omega, by omega⟩ ⟨by omega, by omega⟩, CL_HS hC a (by omega), hlf⟩
/-- what held and the row of n are when the first i first numbers are kept -/
def kp1 (f0 f1 : Nat → Nat → Int32) (q n i : Nat) (rd : Int32) (P W : Nat → Nat → Nat → Bool) : Prop := FR f0 11 12 (fun n' a b => P n' a b || (decide (n' = n ∧ a < i) && W n a b)) ∧ (∀ c, c ≠ 11 → c ≠ 12 → c ≠ q → ∀ j, f0 c j = f1 c j) ∧ (∀ a b, a < 32 → b < 32 → f0 q (32 * a + b) = if a < i ∧ W n a b = true then rd else f1 q (32 * a + b))
theorem l_keepB {la fr n q i : Nat} {rd set : Int32} {h : vt_H} {Q : vt_Q} {W : Nat → Nat → Nat → Bool} {f1 : Nat → Nat → Int32} (hM : MO h la fr) (h24 : vh_K h 24 = 3 ∧ vh_Z h 24 = 16 ∧ vh_R h 4 5 = some 24) (hn : n < 16) (hq : vh_R h 24 n = some q) (hqk : vh_K h q = 1 ∧ vh_Z h q = 1024) (hi : i < 32) (hset : ∀ b, b < 32 → bt set b = W n i b)
    (hQ : ∀ f', (∀ c, c ≠ q → ∀ j, f' c j = f1 c j) → (∀ a b, a < 32 → b < 32 → f' q (32 * a + b) = if a = i ∧ W n a b = true then rd else f1 q (32 * a + b)) → ∀ y, Wp 70 108 [.ref 4, .int (nI n), .int rd, .int (nI i), .int set, y] [] (vh_sI h f') Q) :
    ∀ (k j : Nat), j + k = 32 → ∀ f0, (∀ c, c ≠ q → ∀ j, f0 c j = f1 c j) → (∀ a b, a < 32 → b < 32 → f0 q (32 * a + b) = if a = i ∧ b < j ∧ W n a b = true then rd else f1 q (32 * a + b)) → Wp 70 62 [.ref 4, .int (nI n), .int rd, .int (nI i), .int set, .int (nI j)] [] (vh_sI h f0) Q := by
  obtain ⟨m1, m2, m3, m4, m5, hT, hTl, hTf, hC, hlf⟩ := hM
  intro k
  induction k with
  | zero =>
    intro j hj f0 h1 h2
    have : j = 32 := by omega
    subst this
    simp only [s_70_62, s_70_64, s_70_66, if_pos (nI_le (Nat.le_refl 32) (show 32 < 2 ^ 31 by omega))]
    refine hQ f0 h1 (fun a b ha hb => ?_) _
    rw [h2 a b ha hb]
    by_cases z : a = i ∧ W n a b = true
    · rw [if_pos z, if_pos ⟨z.1, hb, z.2⟩]
    · rw [if_neg z, if_neg (fun w => z ⟨w.1, w.2.2⟩)]
  | succ k ih =>
    intro j hj f0 h1 h2
    have hlt : j < 32 := by omega
    have b1 : 32 * i + j < 1024 := by omega
    simp only [s_70_62, s_70_64, s_70_66, if_neg (nI_ge hlt (show 32 < 2 ^ 31 by omega))]
    simp only [s_70_69, s_70_71, s_70_73, s_70_74]
    by_cases hz : ∀ b, j ≤ b → b < 32 → bt set b = false
    · rw [if_pos ((bt_ju0 set hlt).mpr hz)]
      refine hQ f0 h1 (fun a b ha hb => ?_) _
      rw [h2 a b ha hb]
      by_cases z : a = i ∧ W n a b = true
      · rw [if_pos z]
        rcases Nat.lt_or_ge b j with w | w
        · rw [if_pos ⟨z.1, w, z.2⟩]
        · have := hz b w hb
          rw [hset b hb, ← z.1, z.2] at this
          cases this
      · rw [if_neg z, if_neg (fun w => z ⟨w.1, w.2.2⟩)]
    · rw [if_neg (fun w => hz ((bt_ju0 set hlt).mp w))]
      simp only [s_70_77, s_70_79, s_70_81, va_rf_s, pk_mul, nI_add, not_false_eq_true, and_self, true_and, Option.toList_some, Option.toList_none, List.append_nil, List.cons_append, List.nil_append, nI_01, nI_11, vh_K_wI, vh_R_wI, vh_Z_wI, vh_wI_sI, vh_K_sI, vh_R_sI, vh_Z_sI, vh_sI_sI, vh_I_sI, c_isIn, jbit_bt _ hlt, jb_0, s_70_84]
      rw [hset j hlt]
      by_cases w : W n i j = true
      · rw [if_neg (fun z => z w)]
        simp only [s_70_87, s_70_88, s_70_91, s_70_92, s_70_93, s_70_95, s_70_96, s_70_97, s_70_99, s_70_100, s_70_101, s_70_102, s_70_105, va_rf_s, pk_mul, nI_add, not_false_eq_true, and_self, true_and, Option.toList_some, Option.toList_none, List.append_nil, List.cons_append, List.nil_append, nI_01, nI_11, vh_K_wI, vh_R_wI, vh_Z_wI, vh_wI_sI, vh_K_sI, vh_R_sI, vh_Z_sI, vh_sI_sI, vh_I_sI, m1, h24.1, h24.2.1, h24.2.2, hq, hqk.1, hqk.2, cl (show n < 2 ^ 31 by omega), ib hn (show 16 ≤ 2 ^ 31 by omega), cl (show 32 * i + j < 2 ^ 31 by omega), ib b1 (show 1024 ≤ 2 ^ 31 by omega)]
        refine ih (j + 1) (by omega) _ (fun c hc x => ?_) (fun a b ha hb => ?_)
        · rw [up2_a _ _ _ hc]; exact h1 c hc x
        · by_cases e : a = i ∧ b = j
          · obtain ⟨rfl, rfl⟩ := e
            rw [up2_s, if_pos ⟨rfl, by omega, w⟩]
          · rw [up2_i _ _ _ _ (by omega), h2 a b ha hb]
            by_cases z : a = i ∧ b < j ∧ W n a b = true
            · rw [if_pos z, if_pos ⟨z.1, by omega, z.2.2⟩]
            · rw [if_neg z, if_neg]
              rintro ⟨z1, z2, z3⟩
              exact z ⟨z1, by omega, z3⟩
      · rw [if_pos w]
        simp only [s_70_102, s_70_105, va_rf_s, pk_mul, nI_add, not_false_eq_true, and_self, true_and, Option.toList_some, Option.toList_none, List.append_nil, List.cons_append, List.nil_append, nI_01, nI_11, vh_K_wI, vh_R_wI, vh_Z_wI, vh_wI_sI, vh_K_sI, vh_R_sI, vh_Z_sI, vh_sI_sI, vh_I_sI]
        refine ih (j + 1) (by omega) _ h1 (fun a b ha hb => ?_)
        rw [h2 a b ha hb]
        by_cases z : a = i ∧ b < j ∧ W n a b = true
        · rw [if_pos z, if_pos ⟨z.1, by omega, z.2.2⟩]
        · rw [if_neg z, if_neg]
          rintro ⟨z1, z2, z3⟩
          refine z ⟨z1, ?_, z3⟩
          have : b ≠ j := fun e => w (by rw [← e, ← z1]; exact z3)
          omega
theorem l_keepA {la fr n q : Nat} {rd : Int32} {h : vt_H} {Q : vt_Q} {P W : Nat → Nat → Nat → Bool} (hM : MO h la fr) (h24 : vh_K h 24 = 3 ∧ vh_Z h 24 = 16 ∧ vh_R h 4 5 = some 24) (hn : n < 16) (hq : vh_R h 24 n = some q) (hqk : vh_K h q = 1 ∧ vh_Z h q = 1024) (hqb : 149 ≤ q) (hW : FR (vh_I h) (fr + 1) (fr + 2) W)
    (hQ : ∀ f', kp1 f' (vh_I h) q n 32 rd P W → Q none (vh_sI h f')) :
    ∀ (k i : Nat), i + k = 32 → ∀ f0 y4 y5, kp1 f0 (vh_I h) q n i rd P W → Wp 70 26 [.ref 4, .int (nI n), .int rd, .int (nI i), y4, y5] [] (vh_sI h f0) Q := by
  have hM' := hM
  obtain ⟨m1, m2, m3, m4, m5, hT, hTl, hTf, hC, hlf⟩ := hM
  have hT' := hT
  obtain ⟨t1, -⟩ := hT
  obtain ⟨u1, u2, u3, u4, u5, u6, u7⟩ := hTf
  intro k
  induction k with
  | zero =>
    intro i hi f0 y4 y5 h1
    have : i = 32 := by omega
    subst this
    simp only [s_70_26, s_70_27, s_70_29, s_70_114, if_pos (nI_le (Nat.le_refl 32) (show 32 < 2 ^ 31 by omega))]
    exact hQ f0 h1
  | succ k ih =>
    intro i hi f0 y4 y5 h1
    have hlt : i < 32 := by omega
    have b1 : 32 * n + i < 512 := by omega
    obtain ⟨k1, k2, k3⟩ := h1
    simp only [s_70_26, s_70_27, s_70_29, if_neg (nI_ge hlt (show 32 < 2 ^ 31 by omega))]
    have hT0 : FT (vh_sI h f0) 10 11 12 := hT'
    have ef : f0 (fr + 1) (32 * n + i) = vh_I h (fr + 1) (32 * n + i) := k2 _ (by omega) (by omega) (by omega) _
    simp only [s_70_32, s_70_33, s_70_36, s_70_39, s_70_41, s_70_42, s_70_43, s_70_44, s_70_45, s_70_46, s_70_48, s_70_49, s_70_52, s_70_53, s_70_54, s_70_56, va_rf_s, pk_mul, nI_add, not_false_eq_true, and_self, true_and, Option.toList_some, Option.toList_none, List.append_nil, List.cons_append, List.nil_append, nI_01, nI_11, vh_K_wI, vh_R_wI, vh_Z_wI, vh_wI_sI, vh_K_sI, vh_R_sI, vh_Z_sI, vh_sI_sI, vh_I_sI, m1, m2, m5, t1, u1, u2, u4, u5, cl (show 32 * n + i < 2 ^ 31 by omega), ib b1 (show 512 ≤ 2 ^ 31 by omega), ef]
    refine c_addAll hT0 (by decide) hn hlt k1 (fun f2 p1 p2 => ?_)
    simp only [va_rf_s, pk_mul, nI_add, not_false_eq_true, and_self, true_and, Option.toList_some, Option.toList_none, List.append_nil, List.cons_append, List.nil_append, nI_01, nI_11, vh_K_wI, vh_R_wI, vh_Z_wI, vh_wI_sI, vh_K_sI, vh_R_sI, vh_Z_sI, vh_sI_sI, vh_I_sI]
    simp only [s_70_59, s_70_60]
    rw [vh_I_sI] at p2
    have hbt : ∀ b, b < 32 → bt (vh_I h (fr + 1) (32 * n + i)) b = W n i b := fun b hb => (hW n i b hn hlt hb).1
    refine l_keepB (f1 := f2) (q := q) (W := W) hM' h24 hn hq hqk hlt hbt (fun f3 z1 z2 y => ?_) 32 0 (by omega) f2 (fun _ _ _ => rfl) (fun a b _ _ => by rw [if_neg (fun w => absurd w.2.1 (by omega))])
    simp only [s_70_108, s_70_111, va_rf_s, pk_mul, nI_add, not_false_eq_true, and_self, true_and, Option.toList_some, Option.toList_none, List.append_nil, List.cons_append, List.nil_append, nI_01, nI_11, vh_K_wI, vh_R_wI, vh_Z_wI, vh_wI_sI, vh_K_sI, vh_R_sI, vh_Z_sI, vh_sI_sI, vh_I_sI]
    refine ih (i + 1) (by omega) f3 _ _ ⟨fun n' a b h1 h2 h3 => ?_, fun c c1 c2 c3 j => ?_, fun a b ha hb => ?_⟩
    · rw [z1 11 (by omega), z1 12 (by omega)]
      have := p1 n' a b h1 h2 h3
      have e : ((P n' a b || (decide (n' = n ∧ a < i) && W n a b)) || (decide (n' = n ∧ a = i) && bt (vh_I h (fr + 1) (32 * n + i)) b)) = (P n' a b || (decide (n' = n ∧ a < i + 1) && W n a b)) := by
        rw [hbt b h3, Bool.or_assoc]
        congr 1
        by_cases e1 : n' = n
        · by_cases e2 : a = i
          · subst e2; simp [e1]
          · have : a < i ↔ a < i + 1 := by omega
            simp [e1, e2, this]
        · simp [e1]
      dsimp only at this ⊢
      rw [← e]
      exact this
    · rw [z1 c c3, p2 c c1 c2]; exact k2 c c1 c2 c3 j
    · rw [z2 a b ha hb, p2 q (by omega) (by omega), k3 a b ha hb]
      by_cases e : a = i
      · subst e
        by_cases w : W n a b = true
        · rw [if_pos ⟨rfl, w⟩, if_pos ⟨by omega, w⟩]
        · rw [if_neg (fun z => w z.2), if_neg (fun z => w z.2), if_neg (fun z => w z.2)]
      · rw [if_neg (fun z => e z.1)]
        by_cases w : a < i ∧ W n a b = true
        · rw [if_pos w, if_pos ⟨by omega, w.2⟩]
        · rw [if_neg w, if_neg (fun z => w ⟨by omega, z.2⟩)]
/-- a set of facts with those of name n of another -/
def pn (P W : Nat → Nat → Nat → Bool) (n : Nat) : Nat → Nat → Nat → Bool := fun n' a b => P n' a b || (decide (n' = n) && W n' a b)
theorem c_keepName {la fr n U : Nat} {rd : Int32} {h : vt_H} {Q : vt_Q} {P W D : Nat → Nat → Nat → Bool} {g : Nat → Nat} {rr : Nat → Nat → Nat → Int32} (hM : MO h la fr) (hG : RW h g U) (hn : n < 16) (hP : FR (vh_I h) 11 12 P) (hW : FR (vh_I h) (fr + 1) (fr + 2) W) (hD : RR h g D rr)
    (hQ : ∀ h' g', HS h h' → MO h' la fr → RW h' g' U → (∀ c, c < 149 → c ≠ 11 → c ≠ 12 → ∀ j, vh_I h' c j = vh_I h c j) → FR (vh_I h') 11 12 (pn P W n) → RR h' g' (pn D W n) (fun n' a b => if n' = n ∧ W n' a b = true then rd else rr n' a b) → Q none h') :
    Wp 70 0 [.ref 4, .int (nI n), .int rd, vt_un, vt_un, vt_un] [] h Q := by
  have hM' := hM
  obtain ⟨m1, m2, m3, m4, m5, hT, hTl, hTf, hC, hlf⟩ := hM
  have hG' := hG
  obtain ⟨⟨g1, g2, g3⟩, g4, g5, g6, g7, g8⟩ := hG
  obtain ⟨r1, r2, r3⟩ := g4 n hn
  -- the row is there
  have main : ∀ h1 g1', HS h h1 → MO h1 la fr → RW h1 g1' U → vh_Z h1 (g1' n) = 1024 → 149 ≤ g1' n → (∀ c, c < 149 → ∀ j, vh_I h1 c j = vh_I h c j) → RR h1 g1' D rr → Wp 70 24 [.ref 4, .int (nI n), .int rd, vt_un, vt_un, vt_un] [] h1 Q := by
    intro h1 g1' q1 q2 q3 q4 q5 q6 q7
    obtain ⟨a1, a2, a3, a4, a5⟩ := q3
    obtain ⟨b1, b2, b3⟩ := a2 n hn
    have hW1 : FR (vh_I h1) (fr + 1) (fr + 2) W := fun x y z z1 z2 z3 => by rw [q6 _ (by omega), q6 _ (by omega)]; exact hW x y z z1 z2 z3
    simp only [s_70_24, s_70_25]
    have l := l_keepA (Q := Q) (rd := rd) (P := P) (W := W) q2 a1 hn b1 ⟨b2, q4⟩ q5 hW1 (fun f' z => ?_) 32 0 (by omega) (vh_I h1) vt_un vt_un ⟨fun x y z z1 z2 z3 => ?_, fun _ _ _ _ _ => rfl, fun a b _ _ => by rw [if_neg (fun w => absurd w.1 (by omega))]⟩
    · rw [vh_sI_id] at l
      exact l
    · obtain ⟨k1, k2, k3⟩ := z
      refine hQ (vh_sI h1 f') g1' (HS_sI q1 f') q2 ⟨a1, a2, a3, a4, a5⟩ (fun c c1 c2 c3 j => ?_) ?_ (fun n' a b h1' h2' h3' hd => ?_)
      · rw [vh_I_sI, k2 c c2 c3 (by omega)]; exact q6 c c1 j
      · refine FR_congr k1 (fun n' a b _ ha _ => ?_)
        unfold pn
        congr 1
        by_cases e : n' = n
        · simp [e, ha]
        · simp [e]
      · rw [vh_I_sI]
        dsimp only
        unfold pn at hd
        by_cases e : n' = n
        · subst e
          refine ⟨q4, ?_⟩
          rw [k3 a b h2' h3']
          by_cases w : W n' a b = true
          · rw [if_pos ⟨h2', w⟩, if_pos ⟨rfl, w⟩]
          · rw [if_neg (fun z => w z.2), if_neg (fun z => w z.2)]
            have : D n' a b = true := by
              rw [Bool.or_eq_true, Bool.and_eq_true] at hd
              rcases hd with hd | hd
              · exact hd
              · exact absurd hd.2 w
            exact (q7 n' a b h1' h2' h3' this).2
        · have : D n' a b = true := by
            rw [Bool.or_eq_true, Bool.and_eq_true, decide_eq_true_eq] at hd
            rcases hd with hd | hd
            · exact hd
            · exact absurd hd.1 e
          have y := q7 n' a b h1' h2' h3' this
          have ne : g1' n' ≠ g1' n := fun z => e (a3 n' n h1' hn z)
          have big : 149 ≤ g1' n' := by
            rcases (a2 n' h1').2.2 with w | w
            · rw [w.1] at y; exact absurd y.1 (by decide)
            · exact w.2.1
          rw [if_neg (fun z => e z.1), k2 _ (by omega) (by omega) ne]
          exact y
    · have := hP x y z z1 z2 z3
      rw [q6 11 (by omega), q6 12 (by omega)]
      simpa using this
  have k0 : 0 < vh_K h (g n) ∧ vh_K h (g n) < 100 := by rw [r2]; omega
  simp only [s_70_0, s_70_1, s_70_4, s_70_5, s_70_6, s_70_7, va_rf_s, pk_mul, nI_add, not_false_eq_true, and_self, true_and, Option.toList_some, Option.toList_none, List.append_nil, List.cons_append, List.nil_append, nI_01, nI_11, vh_K_wI, vh_R_wI, vh_Z_wI, vh_wI_sI, vh_K_sI, vh_R_sI, vh_Z_sI, vh_sI_sI, vh_I_sI, m1, g1, g2, g3, r1, r2, cl (show n < 2 ^ 31 by omega), ib hn (show 16 ≤ 2 ^ 31 by omega), show 0 < 1 by omega, show 1 < 100 by omega, s_70_10]
  rcases r3 with ⟨z0, z1, z2⟩ | ⟨z0, z1, z2⟩
  · rw [z0, if_neg (nI_ge (by omega) (by omega))]
    have k24 : vh_K (vh_new h 1 1024 1024) 24 = 3 := by rw [vh_K_new, if_neg (by omega)]; exact g1
    have z24 : vh_Z (vh_new h 1 1024 1024) 24 = 16 := by rw [vh_Z_new, if_neg (by omega)]; exact g2
    have kn : vh_K (vh_new h 1 1024 1024) (vh_n h) = 1 := by rw [vh_K_new, if_pos rfl]
    simp only [s_70_13, s_70_14, s_70_17, s_70_18, s_70_21, s_70_23, va_rf_s, pk_mul, nI_add, not_false_eq_true, and_self, true_and, Option.toList_some, Option.toList_none, List.append_nil, List.cons_append, List.nil_append, nI_01, nI_11, vh_K_wI, vh_R_wI, vh_Z_wI, vh_wI_sI, vh_K_sI, vh_R_sI, vh_Z_sI, vh_sI_sI, vh_I_sI, m1, g3, cl (show 1024 < 2 ^ 31 by omega), nI_pos (show 1024 < 2 ^ 31 by omega), show 1024 ≤ 100000000 by omega, k24, z24, kn, cl (show n < 2 ^ 31 by omega), ib hn (show 16 ≤ 2 ^ 31 by omega)]
    refine Nw_go (P := fun g => Wp 70 24 [.ref 4, .int (nI n), .int rd, vt_un, vt_un, vt_un] [] g Q) (fun h1 w => ?_)
    obtain ⟨⟨w1, w2⟩, w3, ⟨w4, w5, w6⟩, ⟨w7, w8⟩, w9, w10⟩ := w
    have hs1 : HS h h1 := ⟨by omega, fun c hc => ⟨(w3 c (by omega)).1, (w3 c (by omega)).2.1⟩, fun c j hc h24 _ => w8 c j (by omega) (fun z => h24 z.1), w9, w10⟩
    have cnt : sg_S (fun m => if (if m = n then vh_n h else g m) < 41 then 1 else 0) 16 + 1 = sg_S (fun m => if g m < 41 then 1 else 0) 16 := by
      have := sg_upd (f := fun m => if g m < 41 then 1 else 0) (f' := fun m => if (if m = n then vh_n h else g m) < 41 then 1 else 0) hn (fun i _ hi => by simp [hi])
      simp only [if_true, if_pos z2, if_neg (show ¬ vh_n h < 41 by omega)] at this
      omega
    refine main h1 (fun m => if m = n then vh_n h else g m) hs1 (MO_HS hM' hs1 g6 (w8 4 7 (by omega) (by omega)) (w8 4 8 (by omega) (by omega))) ⟨⟨?_, ?_, ?_⟩, fun m hm => ?_, fun a b ha hb hab => ?_, by omega, ?_, ?_⟩ ?_ ?_ (fun c hc j => (w3 c (by omega)).2.2 j) (fun n' a b h1' h2' h3' hd => ?_)
    · exact ((w3 24 (by omega)).1).trans g1
    · exact ((w3 24 (by omega)).2.1).trans g2
    · exact (w8 4 5 (by omega) (by omega)).trans g3
    · by_cases e : m = n
      · subst e
        simp only [if_true]
        exact ⟨w7, w4, Or.inr ⟨w5, by omega, by omega⟩⟩
      · simp only [if_neg e]
        obtain ⟨y1, y2, y3⟩ := g4 m hm
        have ne : g m ≠ vh_n h := by rcases y3 with y | y <;> omega
        refine ⟨(w8 24 m (by omega) (fun z => e z.2)).trans y1, ((w3 _ ne).1).trans y2, ?_⟩
        rw [(w3 _ ne).2.1]
        rcases y3 with y | y
        · exact Or.inl y
        · exact Or.inr ⟨y.1, y.2.1, by omega⟩
    · have small : ∀ m, m < 16 → g m ≠ vh_n h := fun m hm => by rcases (g4 m hm).2.2 with y | y <;> omega
      by_cases e1 : a = n
      · by_cases e2 : b = n
        · omega
        · simp only [if_pos e1, if_neg e2] at hab
          exact absurd hab.symm (small b hb)
      · by_cases e2 : b = n
        · simp only [if_neg e1, if_pos e2] at hab
          exact absurd hab (small a ha)
        · simp only [if_neg e1, if_neg e2] at hab
          exact g5 a b ha hb hab
    · show vh_n h1 + sg_S (fun m => if (if m = n then vh_n h else g m) < 41 then 1 else 0) 16 = 165
      omega
    · show vh_u h1 + 1024 * sg_S (fun m => if (if m = n then vh_n h else g m) < 41 then 1 else 0) 16 = U
      omega
    · simp only [if_true]; exact w5
    · simp only [if_true]; omega
    · have y := hD n' a b h1' h2' h3' hd
      by_cases e : n' = n
      · subst e
        rw [z0] at y
        exact absurd y.1 (by decide)
      · have ne : g n' ≠ vh_n h := by rcases (g4 n' h1').2.2 with z | z <;> omega
        simp only [if_neg e]
        rw [(w3 _ ne).2.1, (w3 _ ne).2.2]
        exact y
  · rw [z0, if_pos (nI_le (Nat.le_refl 1024) (by omega))]
    exact main h g (HS_refl h) hM' hG' z0 z1 (fun _ _ _ => rfl) hD

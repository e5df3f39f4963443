-- ===== the reference: begin, next: all tuples of facts, one after the other =====
/-- the numbers of the plain parts among the first k, and how many -/
def pls (ρ : Nat → Nat) : Nat → List Nat
  | 0 => []
  | k + 1 => if ρ (10 + 4 * k) = 3 then pls ρ k ++ [k] else pls ρ k
def plx (ρ : Nat → Nat) (d : Nat) : Nat := (pls ρ (ρ 5)).getD d 0
def npc (ρ : Nat → Nat) : Nat := (pls ρ (ρ 5)).length
theorem pls_mem {ρ : Nat → Nat} : ∀ {k p : Nat}, p ∈ pls ρ k ↔ p < k ∧ ρ (10 + 4 * p) = 3
  | 0, p => ⟨fun z => absurd z (by simp [pls]), fun z => absurd z.1 (by omega)⟩
  | k + 1, p => by
    show p ∈ (if ρ (10 + 4 * k) = 3 then pls ρ k ++ [k] else pls ρ k) ↔ _
    by_cases q : ρ (10 + 4 * k) = 3
    · rw [if_pos q, List.mem_append, pls_mem (k := k), List.mem_singleton]
      constructor
      · rintro (z | z)
        · exact ⟨by omega, z.2⟩
        · subst z; exact ⟨by omega, q⟩
      · rintro ⟨z1, z2⟩
        by_cases e : p = k
        · exact Or.inr e
        · exact Or.inl ⟨by omega, z2⟩
    · rw [if_neg q, pls_mem (k := k)]
      constructor
      · rintro ⟨z1, z2⟩; exact ⟨by omega, z2⟩
      · rintro ⟨z1, z2⟩
        refine ⟨?_, z2⟩
        have : p ≠ k := fun e => q (e ▸ z2)
        omega
theorem pls_len {ρ : Nat → Nat} : ∀ k, (pls ρ k).length ≤ k
  | 0 => Nat.le_refl _
  | k + 1 => by
    show (if ρ (10 + 4 * k) = 3 then pls ρ k ++ [k] else pls ρ k).length ≤ k + 1
    have ih := pls_len (ρ := ρ) k
    by_cases q : ρ (10 + 4 * k) = 3
    · rw [if_pos q, List.length_append]; simp only [List.length_cons, List.length_nil]; omega
    · rw [if_neg q]; omega
theorem plx_ok {ρ : Nat → Nat} {d : Nat} (h : d < npc ρ) : plx ρ d < ρ 5 ∧ ρ (10 + 4 * plx ρ d) = 3 := by
  unfold plx npc at *
  have : (pls ρ (ρ 5)).getD d 0 ∈ pls ρ (ρ 5) := by
    rw [List.getD_eq_getElem?_getD, List.getElem?_eq_getElem h]
    exact List.getElem_mem h
  exact pls_mem.mp this
theorem plx_all {ρ : Nat → Nat} {p : Nat} (hp : p < ρ 5) (h3 : ρ (10 + 4 * p) = 3) : ∃ d, d < npc ρ ∧ plx ρ d = p := by
  obtain ⟨d, hd, e⟩ := List.mem_iff_getElem.mp (pls_mem.mpr ⟨hp, h3⟩ : p ∈ pls ρ (ρ 5))
  refine ⟨d, hd, ?_⟩
  unfold plx
  rw [List.getD_eq_getElem?_getD, List.getElem?_eq_getElem hd]
  exact e
/-- a depth's facts begin at -/
def ba (ρ : Nat → Nat) (d : Nat) : Nat := 1024 * ρ (11 + 4 * plx ρ d)
/-- all tuples below: codes are told one more than they are -/
noncomputable def LC (F : (Nat → Nat) → List (Nat → Nat)) (ok : (Nat → Nat) → Prop) (d b : Nat) (P : Nat → Nat) : Nat → List (Nat → Nat)
  | 0 => []
  | k + 1 => (@ite (List (Nat → Nat)) (ok (sv_set P d (b + 1024 - k))) (Classical.propDecidable _) (F (sv_set P d (b + 1024 - k))) []) ++ LC F ok d b P k
/-- depth d is filled, and fits -/
def okP (ρ : Nat → Nat) (O : Nat → Bool) (d : Nat) (P : Nat → Nat) : Prop := O (P d - 1) = true ∧ ¬ TL ρ (plx ρ) (fun k => P k - 1) (d + 1) = none
def leafP (ρ : Nat → Nat) (O : Nat → Bool) (P : Nat → Nat) : Prop := ∃ u, TL ρ (plx ρ) (fun k => P k - 1) (npc ρ) = some u ∧ npl (fun n a b => O (1024 * n + 32 * a + b)) ρ (ρ 5) u
noncomputable def LSn (ρ : Nat → Nat) (O : Nat → Bool) : Nat → Nat → (Nat → Nat) → List (Nat → Nat)
  | 0, _, P => @ite (List (Nat → Nat)) (leafP ρ O P) (Classical.propDecidable _) [P] []
  | e + 1, d, P => LC (LSn ρ O e (d + 1)) (okP ρ O d) d (ba ρ d) P 1024
/-- what is left when depths below j stand at P -/
noncomputable def RMn (ρ : Nat → Nat) (O : Nat → Bool) (P : Nat → Nat) : Nat → List (Nat → Nat)
  | 0 => []
  | j + 1 => LC (LSn ρ O (npc ρ - 1 - j) (j + 1)) (okP ρ O j) j (ba ρ j) P (ba ρ j + 1024 - P j) ++ RMn ρ O P j
theorem TL_c {ρ pl cd cd' : Nat → Nat} : ∀ {n : Nat}, (∀ k, k < n → cd k = cd' k) → TL ρ pl cd n = TL ρ pl cd' n
  | 0, _ => rfl
  | n + 1, h => by
    show (TL ρ pl cd n).bind _ = (TL ρ pl cd' n).bind _
    rw [TL_c (n := n) (fun k hk => h k (by omega)), h n (by omega)]
theorem LC_c {F F' : (Nat → Nat) → List (Nat → Nat)} {ok : (Nat → Nat) → Prop} {d b : Nat} {P P' : Nat → Nat} (hF : ∀ x, F (sv_set P d x) = F' (sv_set P' d x)) (hk : ∀ x, ok (sv_set P d x) ↔ ok (sv_set P' d x)) : ∀ k, LC F ok d b P k = LC F' ok d b P' k
  | 0 => rfl
  | k + 1 => by
    show (@ite (List (Nat → Nat)) (ok (sv_set P d (b + 1024 - k))) (Classical.propDecidable _) (F (sv_set P d (b + 1024 - k))) []) ++ LC F ok d b P k = (@ite (List (Nat → Nat)) (ok (sv_set P' d (b + 1024 - k))) (Classical.propDecidable _) (F' (sv_set P' d (b + 1024 - k))) []) ++ LC F' ok d b P' k
    rw [LC_c hF hk k, hF]
    by_cases q : ok (sv_set P d (b + 1024 - k))
    · rw [if_pos q, if_pos ((hk _).mp q)]
    · rw [if_neg q, if_neg (fun z => q ((hk _).mpr z))]
theorem okP_c {ρ : Nat → Nat} {O : Nat → Bool} {d : Nat} {P P' : Nat → Nat} (h : ∀ k, k < d + 1 → P k = P' k) : okP ρ O d P ↔ okP ρ O d P' := by
  unfold okP
  rw [h d (by omega), TL_c (cd := fun k => P k - 1) (cd' := fun k => P' k - 1) (n := d + 1) (fun k hk => by rw [h k hk])]
theorem LSn_c {ρ : Nat → Nat} {O : Nat → Bool} : ∀ {e d : Nat} {P P' : Nat → Nat}, (∀ k, (k < d ∨ d + e ≤ k) → P k = P' k) → LSn ρ O e d P = LSn ρ O e d P'
  | 0, d, P, P', h => by
    have : P = P' := funext (fun k => h k (by omega))
    rw [this]
  | e + 1, d, P, P', h => by
    refine LC_c (fun x => LSn_c (fun k hk => ?_)) (fun x => okP_c (fun k hk => ?_)) 1024
    · by_cases q : k = d
      · rw [q, sv_set_same, sv_set_same]
      · rw [sv_set_ne _ _ q, sv_set_ne _ _ q]; exact h k (by omega)
    · by_cases q : k = d
      · rw [q, sv_set_same, sv_set_same]
      · rw [sv_set_ne _ _ q, sv_set_ne _ _ q]; exact h k (by omega)
theorem RMn_c {ρ : Nat → Nat} {O : Nat → Bool} {P P' : Nat → Nat} : ∀ {j : Nat}, j ≤ npc ρ → (∀ k, (k < j ∨ npc ρ ≤ k) → P k = P' k) → RMn ρ O P j = RMn ρ O P' j
  | 0, _, _ => rfl
  | j + 1, hj, h => by
    show LC _ _ _ _ P (ba ρ j + 1024 - P j) ++ RMn ρ O P j = LC _ _ _ _ P' (ba ρ j + 1024 - P' j) ++ RMn ρ O P' j
    rw [RMn_c (j := j) (by omega) (fun k hk => h k (by omega)), h j (by omega)]
    congr 1
    refine LC_c (fun x => LSn_c (fun k hk => ?_)) (fun x => okP_c (fun k hk => ?_)) _
    · by_cases q : k = j
      · rw [q, sv_set_same, sv_set_same]
      · rw [sv_set_ne _ _ q, sv_set_ne _ _ q]; exact h k (by omega)
    · by_cases q : k = j
      · rw [q, sv_set_same, sv_set_same]
      · rw [sv_set_ne _ _ q, sv_set_ne _ _ q]; exact h k (by omega)
/-- begin has been: the plain parts stand in plain -/
def PB (f : Nat → Nat → Int32) (ρ : Nat → Nat) : Prop := f 129 17 = nI (npc ρ) ∧ ∀ d, d < npc ρ → f 142 d = nI (plx ρ d)
theorem l_begin1 {i : Nat} {ρ : Nat → Nat} {h : vt_H} {Q : vt_Q} (hM : MZ h) (hi : i < 16) (hR : MR (vh_I h) i ρ)
    (hQ : ∀ f', (∀ x, x ≠ 129 → x ≠ 142 → ∀ j, f' x j = vh_I h x j) → (∀ j, j ≠ 17 → f' 129 j = vh_I h 129 j) → f' 129 17 = nI (npc ρ) → (∀ d, d < npc ρ → f' 142 d = nI (plx ρ d)) → ∀ y, Wp 104 62 [.ref 129, .int (nI i), y] [] (vh_sI h f') Q) :
    ∀ (m k : Nat), k + m = ρ 5 → ∀ f0, (∀ x, x ≠ 129 → x ≠ 142 → ∀ j, f0 x j = vh_I h x j) → (∀ j, j ≠ 17 → f0 129 j = vh_I h 129 j) → f0 129 17 = nI (pls ρ k).length → (∀ d, d < (pls ρ k).length → f0 142 d = nI ((pls ρ k).getD d 0)) → Wp 104 7 [.ref 129, .int (nI i), .int (nI k)] [] (vh_sI h f0) Q := by
  obtain ⟨mk, ⟨mr0, mk0, mz0⟩, ⟨mr1, mk1, mz1⟩, ⟨mr2, mk2, mz2⟩, ⟨mr3, mk3, mz3⟩, ⟨mr4, mk4, mz4⟩, ⟨mr5, mk5, mz5⟩, ⟨mr6, mk6, mz6⟩, ⟨mr7, mk7, mz7⟩, ⟨mr8, mk8, mz8⟩, ⟨mr9, mk9, mz9⟩, ⟨mr10, mk10, mz10⟩, ⟨mr11, mk11, mz11⟩, ⟨mr12, mk12, mz12⟩, ⟨mr13, mk13, mz13⟩, ⟨mr14, mk14, mz14⟩, ⟨mr15, mk15, mz15⟩, ⟨mr16, mk16, mz16⟩, ⟨mr17, mk17, mz17⟩, ⟨mr18, mk18, mz18⟩⟩ := hM
  obtain ⟨hok, h0, h1, h2, h3, h4, h5, hp⟩ := hR
  have r5 := hok.1.2.2.2.1
  intro m
  induction m with
  | zero =>
    intro k hk f0 a1 a2 a3 a4
    have : k = ρ 5 := by omega
    subst this
    have e5 : f0 134 i = nI (ρ 5) := (a1 134 (by decide) (by decide) i).trans h5
    simp only [s_104_7, s_104_8, s_104_9, s_104_12, s_104_13, s_104_14, mk, mr0, mk0, mz0, mr1, mk1, mz1, mr2, mk2, mz2, mr3, mk3, mz3, mr4, mk4, mz4, mr5, mk5, mz5, mr6, mk6, mz6, mr7, mk7, mz7, mr8, mk8, mz8, mr9, mk9, mz9, mr10, mk10, mz10, mr11, mk11, mz11, mr12, mk12, mz12, mr13, mk13, mz13, mr14, mk14, mz14, mr15, mk15, mz15, mr16, mk16, mz16, mr17, mk17, mz17, mr18, mk18, mz18, va_rf_s, pk_mul, nI_add, not_false_eq_true, and_self, true_and, Option.toList_some, Option.toList_none, List.append_nil, List.cons_append, List.nil_append, nI_01, nI_11, vh_K_wI, vh_R_wI, vh_Z_wI, vh_wI_sI, vh_K_sI, vh_R_sI, vh_Z_sI, vh_sI_sI, vh_I_sI, e5, cl (show i < 2 ^ 31 by omega), ib hi (show 16 ≤ 2 ^ 31 by omega), if_pos (nI_le (Nat.le_refl (ρ 5)) (show ρ 5 < 2 ^ 31 by omega))]
    exact hQ f0 a1 a2 a3 a4 _
  | succ m ih =>
    intro k hk f0 a1 a2 a3 a4
    have hlt : k < ρ 5 := by omega
    have b0 : 20 * i + 4 * k < 320 := by omega
    obtain ⟨p1, -⟩ := hp k hlt
    have e5 : f0 134 i = nI (ρ 5) := (a1 134 (by decide) (by decide) i).trans h5
    have ep : f0 135 (20 * i + 4 * k) = nI (so (ρ (10 + 4 * k))) := (a1 135 (by decide) (by decide) _).trans p1
    have pl := pls_len (ρ := ρ) k
    simp only [s_104_7, s_104_8, s_104_9, s_104_12, s_104_13, s_104_14, mk, mr0, mk0, mz0, mr1, mk1, mz1, mr2, mk2, mz2, mr3, mk3, mz3, mr4, mk4, mz4, mr5, mk5, mz5, mr6, mk6, mz6, mr7, mk7, mz7, mr8, mk8, mz8, mr9, mk9, mz9, mr10, mk10, mz10, mr11, mk11, mz11, mr12, mk12, mz12, mr13, mk13, mz13, mr14, mk14, mz14, mr15, mk15, mz15, mr16, mk16, mz16, mr17, mk17, mz17, mr18, mk18, mz18, va_rf_s, pk_mul, nI_add, not_false_eq_true, and_self, true_and, Option.toList_some, Option.toList_none, List.append_nil, List.cons_append, List.nil_append, nI_01, nI_11, vh_K_wI, vh_R_wI, vh_Z_wI, vh_wI_sI, vh_K_sI, vh_R_sI, vh_Z_sI, vh_sI_sI, vh_I_sI, e5, cl (show i < 2 ^ 31 by omega), ib hi (show 16 ≤ 2 ^ 31 by omega), if_neg (nI_ge hlt (show ρ 5 < 2 ^ 31 by omega))]
    simp only [s_104_17, s_104_18, s_104_21, s_104_23, s_104_24, s_104_25, s_104_26, s_104_27, s_104_28, s_104_29, s_104_30, mk, mr0, mk0, mz0, mr1, mk1, mz1, mr2, mk2, mz2, mr3, mk3, mz3, mr4, mk4, mz4, mr5, mk5, mz5, mr6, mk6, mz6, mr7, mk7, mz7, mr8, mk8, mz8, mr9, mk9, mz9, mr10, mk10, mz10, mr11, mk11, mz11, mr12, mk12, mz12, mr13, mk13, mz13, mr14, mk14, mz14, mr15, mk15, mz15, mr16, mk16, mz16, mr17, mk17, mz17, mr18, mk18, mz18, va_rf_s, pk_mul, nI_add, not_false_eq_true, and_self, true_and, Option.toList_some, Option.toList_none, List.append_nil, List.cons_append, List.nil_append, nI_01, nI_11, vh_K_wI, vh_R_wI, vh_Z_wI, vh_wI_sI, vh_K_sI, vh_R_sI, vh_Z_sI, vh_sI_sI, vh_I_sI, cl (show 20 * i + 4 * k < 2 ^ 31 by omega), ib b0 (show 320 ≤ 2 ^ 31 by omega), ep]
    by_cases q : ρ (10 + 4 * k) = 3
    · have eP : pls ρ (k + 1) = pls ρ k ++ [k] := if_pos q
      rw [if_pos ((nI_0i (by have := so_lt (ρ (10 + 4 * k)); omega)).mpr (so_0.mpr q))]
      simp only [s_104_36, s_104_37, s_104_40, s_104_41, s_104_44, s_104_45, s_104_46, s_104_47, s_104_48, s_104_51, s_104_52, s_104_53, s_104_56, s_104_59, mk, mr0, mk0, mz0, mr1, mk1, mz1, mr2, mk2, mz2, mr3, mk3, mz3, mr4, mk4, mz4, mr5, mk5, mz5, mr6, mk6, mz6, mr7, mk7, mz7, mr8, mk8, mz8, mr9, mk9, mz9, mr10, mk10, mz10, mr11, mk11, mz11, mr12, mk12, mz12, mr13, mk13, mz13, mr14, mk14, mz14, mr15, mk15, mz15, mr16, mk16, mz16, mr17, mk17, mz17, mr18, mk18, mz18, va_rf_s, pk_mul, nI_add, not_false_eq_true, and_self, true_and, Option.toList_some, Option.toList_none, List.append_nil, List.cons_append, List.nil_append, nI_01, nI_11, vh_K_wI, vh_R_wI, vh_Z_wI, vh_wI_sI, vh_K_sI, vh_R_sI, vh_Z_sI, vh_sI_sI, vh_I_sI, a3, cl (show (pls ρ k).length < 2 ^ 31 by omega), ib (show (pls ρ k).length < 5 by omega) (show 5 ≤ 2 ^ 31 by omega), up2_a _ _ _ (show (129 : Nat) ≠ 142 by decide)]
      refine ih (k + 1) (by omega) _ (fun x x1 x2 j => ?_) (fun j hj => ?_) ?_ (fun d hd => ?_)
      · rw [up2_a _ _ _ x1, up2_a _ _ _ x2]; exact a1 x x1 x2 j
      · rw [up2_i _ _ _ _ hj, up2_a _ _ _ (by decide)]; exact a2 j hj
      · rw [up2_s, eP, List.length_append]; rfl
      · rw [up2_a _ _ _ (by decide), eP]
        rw [eP, List.length_append] at hd
        simp only [List.length_cons, List.length_nil] at hd
        by_cases e : d = (pls ρ k).length
        · rw [e, up2_s, List.getD_eq_getElem?_getD, List.getElem?_append_right (Nat.le_refl _), Nat.sub_self]
          rfl
        · rw [up2_i _ _ _ _ e, a4 d (by omega), List.getD_eq_getElem?_getD, List.getD_eq_getElem?_getD, List.getElem?_append_left (by omega)]
    · have eP : pls ρ (k + 1) = pls ρ k := if_neg q
      rw [if_neg (fun z => q (so_0.mp ((nI_0i (by have := so_lt (ρ (10 + 4 * k)); omega)).mp z)))]
      simp only [s_104_33, s_104_56, s_104_59, va_rf_s, pk_mul, nI_add, not_false_eq_true, and_self, true_and, Option.toList_some, Option.toList_none, List.append_nil, List.cons_append, List.nil_append, nI_01, nI_11, vh_K_wI, vh_R_wI, vh_Z_wI, vh_wI_sI, vh_K_sI, vh_R_sI, vh_Z_sI, vh_sI_sI, vh_I_sI]
      exact ih (k + 1) (by omega) f0 a1 a2 (by rw [eP]; exact a3) (by rw [eP]; exact a4)
theorem m_begin {i : Nat} {ρ : Nat → Nat} {h : vt_H} {Q : vt_Q} (hM : MZ h) (hi : i < 16) (hR : MR (vh_I h) i ρ)
    (hQ : ∀ f', (∀ x, x ≠ 129 → x ≠ 142 → x ≠ 143 → ∀ j, f' x j = vh_I h x j) → (∀ j, j ≠ 17 → f' 129 j = vh_I h 129 j) → PB f' ρ → (0 < npc ρ → f' 143 0 = mI (ba ρ 0)) → Q none (vh_sI h f')) : Wp 104 0 [.ref 129, .int (nI i), vt_un] [] h Q := by
  have hM' := hM
  have hR' := hR
  obtain ⟨mk, ⟨mr0, mk0, mz0⟩, ⟨mr1, mk1, mz1⟩, ⟨mr2, mk2, mz2⟩, ⟨mr3, mk3, mz3⟩, ⟨mr4, mk4, mz4⟩, ⟨mr5, mk5, mz5⟩, ⟨mr6, mk6, mz6⟩, ⟨mr7, mk7, mz7⟩, ⟨mr8, mk8, mz8⟩, ⟨mr9, mk9, mz9⟩, ⟨mr10, mk10, mz10⟩, ⟨mr11, mk11, mz11⟩, ⟨mr12, mk12, mz12⟩, ⟨mr13, mk13, mz13⟩, ⟨mr14, mk14, mz14⟩, ⟨mr15, mk15, mz15⟩, ⟨mr16, mk16, mz16⟩, ⟨mr17, mk17, mz17⟩, ⟨mr18, mk18, mz18⟩⟩ := hM
  obtain ⟨hok, h0, h1, h2, h3, h4, h5, hp⟩ := hR
  have r5 := hok.1.2.2.2.1
  have n5 : npc ρ ≤ 5 := Nat.le_trans (pls_len (ρ 5)) r5
  have fin : ∀ f1 : Nat → Nat → Int32, (∀ x, x ≠ 129 → x ≠ 142 → ∀ j, f1 x j = vh_I h x j) → (∀ j, j ≠ 17 → f1 129 j = vh_I h 129 j) → f1 129 17 = nI (npc ρ) → (∀ d, d < npc ρ → f1 142 d = nI (plx ρ d)) → ∀ y, Wp 104 62 [.ref 129, .int (nI i), y] [] (vh_sI h f1) Q := by
    intro f1 a1 a2 a3 a4 y
    simp only [s_104_62, s_104_63, s_104_66, mk, mr0, mk0, mz0, mr1, mk1, mz1, mr2, mk2, mz2, mr3, mk3, mz3, mr4, mk4, mz4, mr5, mk5, mz5, mr6, mk6, mz6, mr7, mk7, mz7, mr8, mk8, mz8, mr9, mk9, mz9, mr10, mk10, mz10, mr11, mk11, mz11, mr12, mk12, mz12, mr13, mk13, mz13, mr14, mk14, mz14, mr15, mk15, mz15, mr16, mk16, mz16, mr17, mk17, mz17, mr18, mk18, mz18, va_rf_s, pk_mul, nI_add, not_false_eq_true, and_self, true_and, Option.toList_some, Option.toList_none, List.append_nil, List.cons_append, List.nil_append, nI_01, nI_11, vh_K_wI, vh_R_wI, vh_Z_wI, vh_wI_sI, vh_K_sI, vh_R_sI, vh_Z_sI, vh_sI_sI, vh_I_sI, a3]
    by_cases q : npc ρ = 0
    · rw [if_pos (by rw [q]; decide)]
      simp only [s_104_101]
      exact hQ f1 (fun x x1 x2 _ j => a1 x x1 x2 j) a2 ⟨a3, a4⟩ (fun z => by omega)
    · rw [if_neg (nI_nle (by omega) (by omega))]
      obtain ⟨o1, o2⟩ := plx_ok (ρ := ρ) (d := 0) (by omega)
      obtain ⟨-, p2, -⟩ := hp (plx ρ 0) o1
      have nm := (hok.2 _ o1).1
      have ew : wh (ρ (10 + 4 * plx ρ 0)) (ρ (11 + 4 * plx ρ 0)) = ρ (11 + 4 * plx ρ 0) := by unfold wh; rw [if_neg (by omega)]
      have b1 : 20 * i + 4 * plx ρ 0 + 1 < 320 := by omega
      have ep : f1 135 (20 * i + 4 * plx ρ 0 + 1) = nI (ρ (11 + 4 * plx ρ 0)) := by rw [a1 135 (by decide) (by decide), p2, ew]
      have em : nI (1024 * ρ (11 + 4 * plx ρ 0)) - nI 1 = mI (ba ρ 0) := by
        unfold mI ba
        by_cases z : 1024 * ρ (11 + 4 * plx ρ 0) = 0
        · rw [if_pos z, z]; decide
        · rw [if_neg z]
          have := nI_pred (1024 * ρ (11 + 4 * plx ρ 0) - 1)
          rw [show 1024 * ρ (11 + 4 * plx ρ 0) - 1 + 1 = 1024 * ρ (11 + 4 * plx ρ 0) by omega] at this
          exact this
      simp only [s_104_69, s_104_70, s_104_73, s_104_74, s_104_77, s_104_78, s_104_81, s_104_83, s_104_84, s_104_85, s_104_86, s_104_87, s_104_90, s_104_91, s_104_92, s_104_93, s_104_94, s_104_95, s_104_96, s_104_97, s_104_98, s_104_99, s_104_100, s_104_101, mk, mr0, mk0, mz0, mr1, mk1, mz1, mr2, mk2, mz2, mr3, mk3, mz3, mr4, mk4, mz4, mr5, mk5, mz5, mr6, mk6, mz6, mr7, mk7, mz7, mr8, mk8, mz8, mr9, mk9, mz9, mr10, mk10, mz10, mr11, mk11, mz11, mr12, mk12, mz12, mr13, mk13, mz13, mr14, mk14, mz14, mr15, mk15, mz15, mr16, mk16, mz16, mr17, mk17, mz17, mr18, mk18, mz18, va_rf_s, pk_mul, nI_add, not_false_eq_true, and_self, true_and, Option.toList_some, Option.toList_none, List.append_nil, List.cons_append, List.nil_append, nI_01, nI_11, vh_K_wI, vh_R_wI, vh_Z_wI, vh_wI_sI, vh_K_sI, vh_R_sI, vh_Z_sI, vh_sI_sI, vh_I_sI, cl (show 0 < 2 ^ 31 by omega), ib (show 0 < 5 by omega) (show 5 ≤ 2 ^ 31 by omega), a4 0 (by omega), cl (show 20 * i + 4 * plx ρ 0 + 1 < 2 ^ 31 by omega), ib b1 (show 320 ≤ 2 ^ 31 by omega), ep, em]
      refine hQ _ (fun x x1 x2 x3 j => ?_) (fun j hj => ?_) ⟨?_, fun d hd => ?_⟩ (fun _ => up2_s _ _ _ _)
      · rw [up2_a _ _ _ x3]; exact a1 x x1 x2 j
      · rw [up2_a _ _ _ (by decide)]; exact a2 j hj
      · rw [up2_a _ _ _ (by decide)]; exact a3
      · rw [up2_a _ _ _ (by decide)]; exact a4 d hd
  simp only [s_104_0, s_104_1, s_104_2, s_104_5, s_104_6, mk, mr0, mk0, mz0, mr1, mk1, mz1, mr2, mk2, mz2, mr3, mk3, mz3, mr4, mk4, mz4, mr5, mk5, mz5, mr6, mk6, mz6, mr7, mk7, mz7, mr8, mk8, mz8, mr9, mk9, mz9, mr10, mk10, mz10, mr11, mk11, mz11, mr12, mk12, mz12, mr13, mk13, mz13, mr14, mk14, mz14, mr15, mk15, mz15, mr16, mk16, mz16, mr17, mk17, mz17, mr18, mk18, mz18, va_rf_s, pk_mul, nI_add, not_false_eq_true, and_self, true_and, Option.toList_some, Option.toList_none, List.append_nil, List.cons_append, List.nil_append, nI_01, nI_11, vh_K_wI, vh_R_wI, vh_Z_wI, vh_wI_sI, vh_K_sI, vh_R_sI, vh_Z_sI, vh_sI_sI, vh_I_sI]
  exact l_begin1 hM' hi hR' fin (ρ 5) 0 (by omega) _ (fun x x1 _ j => up2_a _ _ _ x1 j) (fun j hj => up2_i _ _ _ _ hj) (up2_s _ _ _ _) (fun d hd => absurd hd (by simp [pls]))

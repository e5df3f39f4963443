-- ===== CASES of the class: join, load =====
def RG (f : Nat → Nat → Int32) (w : Nat → Nat) : Prop := ∀ v, v < 6 → bt (f 20 v) (w v) = true
def LK (f : Nat → Nat → Int32) (w : Nat → Nat) : Prop := ∀ u v, u < 6 → v < 6 → EE f u v = true → AA f u v (w u) (w v) = true
def bd (w : Nat → Nat) : Prop := ∀ u, u < 6 → w u < 32
/-- the parts so far say phi, with the variables F in them -/
def LI (f : Nat → Nat → Int32) (F : Nat → Bool) (φ : (Nat → Nat) → Prop) (i : Nat) : Prop :=
  (sy (EE f) (AA f) ∧ (∀ u v, u < 6 → v < 6 → EE f u v = true → F u = true ∧ F v = true)) ∧ ((∀ v, v < 6 → bt (f 18 0) v = F v) ∧ (∀ v, 6 ≤ v → v < 32 → bt (f 18 0) v = false)) ∧ (∀ v n, v < 6 → n < 32 → F v = false → bt (f 20 v) n = true) ∧ (∃ es : List Nat, es.length ≤ i ∧ ∀ u v, u < 6 → v < 6 → EE f u v = true → pc2 u v ∈ es) ∧ (f 13 11 = 0 → ∀ w, bd w → (φ w ↔ RG f w ∧ LK f w)) ∧ (¬ f 13 11 = 0 → ∀ w, bd w → ¬ φ w)
/-- F with v -/
def fi (F : Nat → Bool) (v : Nat) : Nat → Bool := fun u => F u || decide (u = v)
theorem fi_t {F : Nat → Bool} {v u : Nat} : fi F v u = true ↔ F u = true ∨ u = v := by simp [fi]
theorem fi_f {F : Nat → Bool} {v u : Nat} : fi F v u = false ↔ F u = false ∧ u ≠ v := by simp [fi]
theorem LI_narrow {f f' : Nat → Nat → Int32} {F : Nat → Bool} {φ φ' : (Nat → Nat) → Prop} {i v : Nat} {s : Int32} (h : LI f F φ i) (hv : v < 6) (h14 : ∀ j, f' 14 j = f 14 j) (h15 : ∀ j, f' 15 j = f 15 j) (h18 : f' 18 0 = f 18 0 ||| j1 (nI v)) (h20 : ∀ j, f' 20 j = if j = v then f 20 v &&& s else f 20 j) (h13 : f' 13 11 = 0 ↔ f 13 11 = 0 ∧ ¬ f 20 v &&& s = 0) (hφ : ∀ w, bd w → (φ' w ↔ φ w ∧ bt s (w v) = true)) : LI f' (fi F v) φ' i := by
  obtain ⟨⟨a1, a2⟩, ⟨a3, a4⟩, a5, a6, a7, a8⟩ := h
  have eE : EE f' = EE f := by funext x y; unfold EE; rw [h15]
  have eA : AA f' = AA f := by funext x y z t; unfold AA; rw [h14]
  have hb : ∀ u, u < 32 → bt (f' 18 0) u = (bt (f 18 0) u || decide (u = v)) := fun u hu => by rw [h18, b_or, bt_j1 (by omega) hu]
  have rg : ∀ w, RG f' w ↔ RG f w ∧ bt s (w v) = true := by
    intro w
    constructor
    · intro z
      have zv := z v hv
      rw [h20, if_pos rfl, b_and, Bool.and_eq_true] at zv
      refine ⟨fun u hu => ?_, zv.2⟩
      by_cases e : u = v
      · subst e; exact zv.1
      · have := z u hu
        rw [h20, if_neg e] at this
        exact this
    · rintro ⟨z1, z2⟩ u hu
      rw [h20]
      by_cases e : u = v
      · subst e
        rw [if_pos rfl, b_and, z1 u hu, z2]; rfl
      · rw [if_neg e]; exact z1 u hu
  have lk' : ∀ w, LK f' w ↔ LK f w := fun w => by unfold LK; rw [eE, eA]
  refine ⟨⟨by rw [eE, eA]; exact a1, fun x y hx hy hE => ?_⟩, ⟨fun u hu => ?_, fun u h1 h2 => ?_⟩, fun u n hu hn hF => ?_, by rw [eE]; exact a6, fun z w hw => ?_, fun z w hw => ?_⟩
  · rw [eE] at hE
    have := a2 x y hx hy hE
    exact ⟨fi_t.mpr (Or.inl this.1), fi_t.mpr (Or.inl this.2)⟩
  · rw [hb u (by omega), a3 u hu]; rfl
  · rw [hb u h2, a4 u h1 h2, decide_eq_false (by omega)]; rfl
  · have := fi_f.mp hF
    rw [h20, if_neg this.2]
    exact a5 u n hu hn this.1
  · have z' := h13.mp z
    rw [hφ w hw, a7 z'.1 w hw, rg, lk']
    constructor
    · rintro ⟨⟨q1, q2⟩, q3⟩; exact ⟨⟨q1, q3⟩, q2⟩
    · rintro ⟨⟨q1, q3⟩, q2⟩; exact ⟨⟨q1, q2⟩, q3⟩
  · rw [hφ w hw]
    rintro ⟨q1, q2⟩
    by_cases z1 : f 13 11 = 0
    · have z2 : f 20 v &&& s = 0 := Classical.byContradiction (fun y => z (h13.mpr ⟨z1, y⟩))
      have q3 := ((a7 z1 w hw).mp q1).1 v hv
      have : bt (f 20 v &&& s) (w v) = true := by rw [b_and, q3, q2]; rfl
      rw [z2, b_0] at this
      cases this
    · exact a8 z1 w hw q1
theorem LI_weak {f : Nat → Nat → Int32} {F : Nat → Bool} {φ : (Nat → Nat) → Prop} {i : Nat} (h : LI f F φ i) : LI f F φ (i + 1) := by
  obtain ⟨a1, a3, a5, ⟨es, e1, e2⟩, a7⟩ := h
  exact ⟨a1, a3, a5, ⟨es, by omega, e2⟩, a7⟩
/-- a constant part -/
theorem LI_const {f f' : Nat → Nat → Int32} {F : Nat → Bool} {φ φ' : (Nat → Nat) → Prop} {i : Nat} {p : Prop} (h : LI f F φ i) (hf : ∀ c j, (c ≠ 13 ∨ j ≠ 11) → f' c j = f c j) (h13 : f' 13 11 = 0 ↔ f 13 11 = 0 ∧ p) (hφ : ∀ w, bd w → (φ' w ↔ φ w ∧ p)) : LI f' F φ' i := by
  obtain ⟨⟨a1, a2⟩, ⟨a3, a4⟩, a5, a6, a7, a8⟩ := h
  have eE : EE f' = EE f := by funext x y; unfold EE; rw [hf _ _ (by omega)]
  have eA : AA f' = AA f := by funext x y z t; unfold AA; rw [hf _ _ (by omega)]
  have e18 : f' 18 0 = f 18 0 := hf _ _ (by omega)
  have e20 : ∀ v, f' 20 v = f 20 v := fun v => hf _ _ (by omega)
  refine ⟨⟨by rw [eE, eA]; exact a1, by rw [eE]; exact a2⟩, ⟨by rw [e18]; exact a3, by rw [e18]; exact a4⟩, fun v n => by rw [e20]; exact a5 v n, by rw [eE]; exact a6, fun z w hw => ?_, fun z w hw => ?_⟩
  · have z' := h13.mp z
    rw [hφ w hw, a7 z'.1 w hw]
    have r1 : RG f' w ↔ RG f w := by unfold RG; exact ⟨fun q v hv => by rw [← e20]; exact q v hv, fun q v hv => by rw [e20]; exact q v hv⟩
    have r2 : LK f' w ↔ LK f w := by unfold LK; rw [eE, eA]
    rw [r1, r2]
    exact ⟨fun q => q.1, fun q => ⟨q, z'.2⟩⟩
  · rw [hφ w hw]
    rintro ⟨q1, q2⟩
    by_cases z1 : f 13 11 = 0
    · exact z (h13.mpr ⟨z1, q2⟩)
    · exact a8 z1 w hw q1
theorem bx (u v n : Nat) (hu : u < 6) (hv : v < 6) (hn : n < 32) (u' v' n' : Nat) (hu' : u' < 6) (hv' : v' < 6) (hn' : n' < 32) (h : (6 * u + v) * 32 + n = (6 * u' + v') * 32 + n') : u = u' ∧ v = v' ∧ n = n' := by omega
/-- a part with two variables -/
theorem LI_link {f f' : Nat → Nat → Int32} {F : Nat → Bool} {φ φ' : (Nat → Nat) → Prop} {i u v : Nat} {s1 s2 : Int32} {A : Nat → Nat → Bool} (h : LI f F φ i) (hP : PR f A) (hu : u < 6) (hv : v < 6) (huv : u ≠ v)
    (h14 : ∀ n, n < 32 → f' 14 ((6 * u + v) * 32 + n) = lN2 f u v 16 n ∧ f' 14 ((6 * v + u) * 32 + n) = lN2 f v u 17 n) (h14o : ∀ j, (j < (6 * u + v) * 32 ∨ (6 * u + v) * 32 + 32 ≤ j) → (j < (6 * v + u) * 32 ∨ (6 * v + u) * 32 + 32 ≤ j) → f' 14 j = f 14 j)
    (h15 : f' 15 u = f 15 u ||| j1 (nI v) ∧ f' 15 v = f 15 v ||| j1 (nI u) ∧ ∀ j, j ≠ u → j ≠ v → f' 15 j = f 15 j) (h18 : f' 18 0 = f 18 0 ||| j1 (nI u) ||| j1 (nI v)) (h20 : f' 20 u = f 20 u &&& s1 ∧ f' 20 v = f 20 v &&& s2 ∧ ∀ j, j ≠ u → j ≠ v → f' 20 j = f 20 j)
    (hs1 : ∀ n, n < 32 → (bt s1 n = true ↔ ¬ lN2 f u v 16 n = 0)) (hs2 : ∀ n, n < 32 → (bt s2 n = true ↔ ¬ lN2 f v u 17 n = 0)) (h13 : f' 13 11 = 0 ↔ (f 13 11 = 0 ∧ ¬ f 20 u &&& s1 = 0) ∧ ¬ f 20 v &&& s2 = 0) (hφ : ∀ w, bd w → (φ' w ↔ φ w ∧ A (w u) (w v) = true)) : LI f' (fi (fi F u) v) φ' (i + 1) := by
  obtain ⟨⟨a1, a2⟩, ⟨a3, a4⟩, a5, ⟨es, e1, e2⟩, a7, a8⟩ := h
  have hb : ∀ t, t < 32 → bt (f' 18 0) t = ((bt (f 18 0) t || decide (t = u)) || decide (t = v)) := fun t ht => by rw [h18, b_or, b_or, bt_j1 (by omega) ht, bt_j1 (by omega) ht]
  have hE : ∀ x y, x < 6 → y < 6 → (EE f' x y = true ↔ EE f x y = true ∨ (x = u ∧ y = v) ∨ (x = v ∧ y = u)) := by
    intro x y hx hy
    unfold EE
    by_cases q1 : x = u
    · subst q1
      rw [h15.1, b_or, Bool.or_eq_true, bt_j1 (by omega) (by omega), decide_eq_true_eq]
      constructor
      · rintro (z | z)
        · exact Or.inl z
        · exact Or.inr (Or.inl ⟨rfl, z⟩)
      · rintro (z | z | z)
        · exact Or.inl z
        · exact Or.inr z.2
        · exact absurd z.1 huv
    · by_cases q2 : x = v
      · subst q2
        rw [h15.2.1, b_or, Bool.or_eq_true, bt_j1 (by omega) (by omega), decide_eq_true_eq]
        constructor
        · rintro (z | z)
          · exact Or.inl z
          · exact Or.inr (Or.inr ⟨rfl, z⟩)
        · rintro (z | z | z)
          · exact Or.inl z
          · exact absurd z.1 q1
          · exact Or.inr z.2
      · rw [h15.2.2 x q1 q2]
        exact ⟨Or.inl, fun z => z.elim id (fun z => z.elim (fun z => absurd z.1 q1) (fun z => absurd z.1 q2))⟩
  have ln1 : ∀ n m, n < 32 → m < 32 → (bt (lN2 f u v 16 n) m = true ↔ (EE f u v = true → AA f u v n m = true) ∧ A n m = true) := by
    intro n m hn hm
    unfold lN2
    by_cases q : EE f u v = true
    · rw [if_pos q, b_and, Bool.and_eq_true, (hP n m hn hm).1]
      exact ⟨fun z => ⟨fun _ => z.1, z.2⟩, fun z => ⟨z.1 q, z.2⟩⟩
    · rw [if_neg q, (hP n m hn hm).1]
      exact ⟨fun z => ⟨fun y => absurd y q, z⟩, fun z => z.2⟩
  have ln2 : ∀ n m, n < 32 → m < 32 → (bt (lN2 f v u 17 m) n = true ↔ (EE f u v = true → AA f u v n m = true) ∧ A n m = true) := by
    intro n m hn hm
    unfold lN2
    by_cases q : EE f u v = true
    · have s := a1 u v hu hv q
      rw [if_pos s.2.1, b_and, Bool.and_eq_true, (hP n m hn hm).2]
      have : bt (f 14 ((6 * v + u) * 32 + m)) n = AA f u v n m := (s.2.2 n m hn hm).symm
      rw [this]
      exact ⟨fun z => ⟨fun _ => z.1, z.2⟩, fun z => ⟨z.1 q, z.2⟩⟩
    · have : ¬ EE f v u = true := fun z => q (a1 v u hv hu z).2.1
      rw [if_neg this, (hP n m hn hm).2]
      exact ⟨fun z => ⟨fun y => absurd y q, z⟩, fun z => z.2⟩
  have hA1 : ∀ n m, n < 32 → m < 32 → (AA f' u v n m = true ↔ (EE f u v = true → AA f u v n m = true) ∧ A n m = true) := by
    intro n m hn hm
    show bt (f' 14 ((6 * u + v) * 32 + n)) m = true ↔ _
    rw [(h14 n hn).1]
    exact ln1 n m hn hm
  have hA2 : ∀ n m, n < 32 → m < 32 → (AA f' v u m n = true ↔ (EE f u v = true → AA f u v n m = true) ∧ A n m = true) := by
    intro n m hn hm
    show bt (f' 14 ((6 * v + u) * 32 + m)) n = true ↔ _
    rw [(h14 m hm).2]
    exact ln2 n m hn hm
  have hAo : ∀ x y n m, x < 6 → y < 6 → n < 32 → ¬ (x = u ∧ y = v) → ¬ (x = v ∧ y = u) → AA f' x y n m = AA f x y n m := by
    intro x y n m hx hy hn q1 q2
    show bt (f' 14 ((6 * x + y) * 32 + n)) m = bt (f 14 ((6 * x + y) * 32 + n)) m
    rw [h14o _ (by omega) (by omega)]
  have beq : ∀ p q : Bool, (p = true ↔ q = true) → p = q := by
    intro p q z
    cases p <;> cases q
    · rfl
    · exact absurd (z.mpr rfl) (by decide)
    · exact absurd (z.mp rfl) (by decide)
    · rfl
  have sy' : sy (EE f') (AA f') := by
    intro x y hx hy hxy
    rcases (hE x y hx hy).mp hxy with z | z | z
    · have s := a1 x y hx hy z
      refine ⟨s.1, (hE y x hy hx).mpr (Or.inl s.2.1), fun n m hn hm => ?_⟩
      by_cases q1 : x = u ∧ y = v
      · rw [q1.1, q1.2]; exact beq _ _ ((hA1 n m hn hm).trans (hA2 n m hn hm).symm)
      · by_cases q2 : x = v ∧ y = u
        · rw [q2.1, q2.2]; exact beq _ _ ((hA2 m n hm hn).trans (hA1 m n hm hn).symm)
        · rw [hAo x y n m hx hy hn q1 q2, hAo y x m n hy hx hm (fun z => q2 ⟨z.2, z.1⟩) (fun z => q1 ⟨z.2, z.1⟩)]
          exact s.2.2 n m hn hm
    · rw [z.1, z.2]
      exact ⟨huv, (hE v u hv hu).mpr (Or.inr (Or.inr ⟨rfl, rfl⟩)), fun n m hn hm => beq _ _ ((hA1 n m hn hm).trans (hA2 n m hn hm).symm)⟩
    · rw [z.1, z.2]
      exact ⟨fun y => huv y.symm, (hE u v hu hv).mpr (Or.inr (Or.inl ⟨rfl, rfl⟩)), fun n m hn hm => beq _ _ ((hA2 m n hm hn).trans (hA1 m n hm hn).symm)⟩
  have sem : ∀ w, bd w → (RG f' w ∧ LK f' w ↔ (RG f w ∧ LK f w) ∧ A (w u) (w v) = true) := by
    intro w hw
    constructor
    · rintro ⟨z1, z2⟩
      have l := (hA1 (w u) (w v) (hw u hu) (hw v hv)).mp (z2 u v hu hv ((hE u v hu hv).mpr (Or.inr (Or.inl ⟨rfl, rfl⟩))))
      refine ⟨⟨fun t ht => ?_, fun x y hx hy hxy => ?_⟩, l.2⟩
      · have zt := z1 t ht
        by_cases q1 : t = u
        · subst q1
          rw [h20.1, b_and, Bool.and_eq_true] at zt
          exact zt.1
        · by_cases q2 : t = v
          · subst q2
            rw [h20.2.1, b_and, Bool.and_eq_true] at zt
            exact zt.1
          · rw [h20.2.2 t q1 q2] at zt
            exact zt
      · have zz := z2 x y hx hy ((hE x y hx hy).mpr (Or.inl hxy))
        by_cases q1 : x = u ∧ y = v
        · rw [q1.1, q1.2] at hxy ⊢
          exact l.1 hxy
        · by_cases q2 : x = v ∧ y = u
          · rw [q2.1, q2.2] at hxy ⊢
            rw [(a1 v u hv hu hxy).2.2 _ _ (hw v hv) (hw u hu)]
            exact l.1 (a1 v u hv hu hxy).2.1
          · rw [hAo x y _ _ hx hy (hw x hx) q1 q2] at zz
            exact zz
    · rintro ⟨⟨z1, z2⟩, z3⟩
      have p1 : (EE f u v = true → AA f u v (w u) (w v) = true) ∧ A (w u) (w v) = true := ⟨fun y => z2 u v hu hv y, z3⟩
      refine ⟨fun t ht => ?_, fun x y hx hy hxy => ?_⟩
      · by_cases q1 : t = u
        · subst q1
          rw [h20.1, b_and, z1 t ht, (hs1 _ (hw t ht)).mpr]
          · rfl
          · intro y
            have := (ln1 (w t) (w v) (hw t ht) (hw v hv)).mpr p1
            rw [y, b_0] at this
            cases this
        · by_cases q2 : t = v
          · subst q2
            rw [h20.2.1, b_and, z1 t ht, (hs2 _ (hw t ht)).mpr]
            · rfl
            · intro y
              have := (ln2 (w u) (w t) (hw u hu) (hw t ht)).mpr p1
              rw [y, b_0] at this
              cases this
          · rw [h20.2.2 t q1 q2]
            exact z1 t ht
      · by_cases q1 : x = u ∧ y = v
        · rw [q1.1, q1.2]; exact (hA1 _ _ (hw u hu) (hw v hv)).mpr p1
        · by_cases q2 : x = v ∧ y = u
          · rw [q2.1, q2.2]; exact (hA2 _ _ (hw u hu) (hw v hv)).mpr p1
          · rw [hAo x y _ _ hx hy (hw x hx) q1 q2]
            rcases (hE x y hx hy).mp hxy with z | z | z
            · exact z2 x y hx hy z
            · exact absurd z q1
            · exact absurd z q2
  refine ⟨⟨sy', fun x y hx hy hxy => ?_⟩, ⟨fun t ht => ?_, fun t h1 h2 => ?_⟩, fun t n ht hn hF => ?_, ⟨pc2 u v :: es, ?_, fun x y hx hy hxy => ?_⟩, fun z w hw => ?_, fun z w hw => ?_⟩
  · rcases (hE x y hx hy).mp hxy with z | z | z
    · have := a2 x y hx hy z
      exact ⟨fi_t.mpr (Or.inl (fi_t.mpr (Or.inl this.1))), fi_t.mpr (Or.inl (fi_t.mpr (Or.inl this.2)))⟩
    · exact ⟨fi_t.mpr (Or.inl (fi_t.mpr (Or.inr z.1))), fi_t.mpr (Or.inr z.2)⟩
    · exact ⟨fi_t.mpr (Or.inr z.1), fi_t.mpr (Or.inl (fi_t.mpr (Or.inr z.2)))⟩
  · rw [hb t (by omega), a3 t ht]; rfl
  · rw [hb t h2, a4 t h1 h2, decide_eq_false (by omega), decide_eq_false (by omega)]; rfl
  · have z1 := fi_f.mp hF
    have z2 := fi_f.mp z1.1
    rw [h20.2.2 t z2.2 z1.2]
    exact a5 t n ht hn z2.1
  · simp only [List.length_cons]; omega
  · rcases (hE x y hx hy).mp hxy with z | z | z
    · exact List.mem_cons_of_mem _ (e2 x y hx hy z)
    · rw [z.1, z.2]; exact List.mem_cons_self
    · rw [z.1, z.2, show pc2 v u = pc2 u v by unfold pc2; rw [Nat.min_comm, Nat.max_comm]]; exact List.mem_cons_self
  · have z' := h13.mp z
    rw [hφ w hw, a7 z'.1.1 w hw, sem w hw]
  · intro q
    have q' := (hφ w hw).mp q
    by_cases z1 : f 13 11 = 0
    · have r := ((sem w hw).mpr ⟨(a7 z1 w hw).mp q'.1, q'.2⟩).1
      refine z (h13.mpr ⟨⟨z1, fun y => ?_⟩, fun y => ?_⟩)
      · have := r u hu
        rw [h20.1, y, b_0] at this
        cases this
      · have := r v hv
        rw [h20.2.1, y, b_0] at this
        cases this
    · exact a8 z1 w hw q'.1
/-- the variables of two items more -/
def f2i (F : Nat → Bool) (x y : Nat) : Nat → Bool := fun u => F u || decide (x = 32 + u) || decide (y = 32 + u)
/-- what load's parts leave as it is -/
def LO (f f' : Nat → Nat → Int32) : Prop := (∀ c, c < 13 ∨ 21 < c → ∀ j, f' c j = f c j) ∧ (∀ j, j ≠ 11 → f' 13 j = f 13 j) ∧ (∀ j, f' 19 j = f 19 j) ∧ (∀ j, f' 21 j = f 21 j)
theorem LO_refl (f : Nat → Nat → Int32) : LO f f := ⟨fun _ _ _ => rfl, fun _ _ => rfl, fun _ => rfl, fun _ => rfl⟩
theorem LO_trans {f g k : Nat → Nat → Int32} (h : LO f g) (h2 : LO g k) : LO f k := ⟨fun c hc j => (h2.1 c hc j).trans (h.1 c hc j), fun j hj => (h2.2.1 j hj).trans (h.2.1 j hj), fun j => (h2.2.2.1 j).trans (h.2.2.1 j), fun j => (h2.2.2.2 j).trans (h.2.2.2 j)⟩
theorem LI_F {f : Nat → Nat → Int32} {F F' : Nat → Bool} {φ : (Nat → Nat) → Prop} {i : Nat} (h : LI f F φ i) (e : ∀ v, v < 6 → F v = F' v) : LI f F' φ i := by
  obtain ⟨⟨a1, a2⟩, ⟨a3, a4⟩, a5, a6⟩ := h
  exact ⟨⟨a1, fun u v hu hv hE => by rw [← e u hu, ← e v hv]; exact a2 u v hu hv hE⟩, ⟨fun v hv => by rw [← e v hv]; exact a3 v hv, a4⟩, fun v n hv hn hF => a5 v n hv hn (by rw [e v hv]; exact hF), a6⟩
theorem c_join {x y i : Nat} {h : vt_H} {Q : vt_Q} {A : Nat → Nat → Bool} {F : Nat → Bool} {φ : (Nat → Nat) → Prop} (hC : CL h) (hP : PR (vh_I h) A) (hx : x < 38) (hy : y < 38) (hI : LI (vh_I h) F φ i)
    (hQ : ∀ f', LO (vh_I h) f' → LI f' (f2i F x y) (fun w => φ w ∧ A (iv w x) (iv w y) = true) (i + 1) → Q none (vh_sI h f')) : Wp 48 0 [.ref 13, .int (jI x), .int (jI y)] [] h Q := by
  have hC' := hC
  obtain ⟨ck13, cr0, cr1, cr2, cr3, cr4, cr5, cr6, cr7, cr8, cr9, ck14, ck15, ck16, ck17, ck18, ck19, ck20, ck21, ck22, ck23, cz14, cz15, cz16, cz17, cz18, cz19, cz20, cz21, cz22, cz23⟩ := hC
  have nar : ∀ (v : Nat) (s : Int32), v < 6 → (∀ w, bd w → (A (iv w x) (iv w y) = true ↔ bt s (w v) = true)) → (∀ u, u < 6 → fi F v u = f2i F x y u) → ∀ R : vt_Q, (∀ h', Q none h' → R none h') → Wp 49 0 [.ref 13, .int (nI v), .int s] [] h R := by
    intro v s hv hs hF R hR
    refine c_narrow hC' hv (fun z hz => hR _ ?_)
    refine hQ _ ⟨fun c hc j => ?_, fun j hj => ?_, fun j => ?_, fun j => ?_⟩ (LI_weak (LI_F (LI_narrow (s := s) hI hv (fun j => ?_) (fun j => ?_) ?_ (fun j => ?_) ?_ (fun w hw => ?_)) hF))
    · rw [up2_a _ _ _ (by omega), up2_a _ _ _ (by omega), up2_a _ _ _ (by omega)]
    · rw [up2_i _ _ _ _ hj, up2_a _ _ _ (by decide), up2_a _ _ _ (by decide)]
    · rw [up2_a _ _ _ (by decide), up2_a _ _ _ (by decide), up2_a _ _ _ (by decide)]
    · rw [up2_a _ _ _ (by decide), up2_a _ _ _ (by decide), up2_a _ _ _ (by decide)]
    · rw [up2_a _ _ _ (by decide), up2_a _ _ _ (by decide), up2_a _ _ _ (by decide)]
    · rw [up2_a _ _ _ (by decide), up2_a _ _ _ (by decide), up2_a _ _ _ (by decide)]
    · rw [up2_a _ _ _ (by decide), up2_a _ _ _ (by decide), up2_s]
    · rw [up2_a _ _ _ (by decide)]
      by_cases e : j = v
      · subst e; rw [up2_s, if_pos rfl]
      · rw [up2_i _ _ _ _ e, if_neg e, up2_a _ _ _ (by decide)]
    · rw [up2_s]; exact hz
    · rw [hs w hw]
  have iN : ∀ w, ∀ t, t < 32 → iv w t = t := fun w t ht => if_pos ht
  have iV : ∀ w, ∀ t, 32 ≤ t → iv w t = w (t - 32) := fun w t ht => if_neg (by omega)
  simp only [s_48_0, s_48_1]
  by_cases q1 : x < 32
  · rw [if_neg (fun z => by have := (jI_lt x hx).mp z; omega)]
    simp only [s_48_4, s_48_5]
    by_cases q2 : y < 32
    · rw [if_neg (fun z => by have := (jI_lt y hy).mp z; omega)]
      have fin : ∀ z : Int32, (z = 0 ↔ vh_I h 13 11 = 0 ∧ A x y = true) → Q none (vh_sI h (up2 (vh_I h) 13 11 z)) := by
        intro z hz
        refine hQ _ ⟨fun c hc j => up2_a _ _ _ (by omega) j, fun j hj => up2_i _ _ _ _ hj, fun j => up2_a _ _ _ (by decide) j, fun j => up2_a _ _ _ (by decide) j⟩ (LI_weak (LI_F (LI_const (p := A x y = true) hI (fun c j hcj => ?_) ?_ (fun w hw => ?_)) (fun v hv => ?_)))
        · unfold up2; rw [if_neg (by omega)]
        · rw [up2_s]; exact hz
        · rw [iN w x q1, iN w y q2]
        · unfold f2i
          rw [decide_eq_false (by omega), decide_eq_false (by omega), Bool.or_false, Bool.or_false]
      simp only [s_48_8, s_48_9, s_48_10, ck13, cr0, cr1, cr2, cr3, cr4, cr5, cr6, cr7, cr8, cr9, ck14, ck15, ck16, ck17, ck18, ck19, ck20, ck21, ck22, ck23, cz14, cz15, cz16, cz17, cz18, cz19, cz20, cz21, cz22, cz23, va_rf_s, pk_mul, nI_add, not_false_eq_true, and_self, true_and, Option.toList_some, Option.toList_none, List.append_nil, List.cons_append, List.nil_append, nI_01, nI_11, vh_K_wI, vh_R_wI, vh_Z_wI, vh_wI_sI, vh_K_sI, vh_R_sI, vh_Z_sI, vh_sI_sI, vh_I_sI, s_48_13]
      by_cases q3 : vh_I h 13 11 = 0
      · rw [if_neg (fun z => z q3)]
        simp only [s_48_16, s_48_17, s_48_20, s_48_21, s_48_22, s_48_23, ck13, cr0, cr1, cr2, cr3, cr4, cr5, cr6, cr7, cr8, cr9, ck14, ck15, ck16, ck17, ck18, ck19, ck20, ck21, ck22, ck23, cz14, cz15, cz16, cz17, cz18, cz19, cz20, cz21, cz22, cz23, va_rf_s, pk_mul, nI_add, not_false_eq_true, and_self, true_and, Option.toList_some, Option.toList_none, List.append_nil, List.cons_append, List.nil_append, nI_01, nI_11, vh_K_wI, vh_R_wI, vh_Z_wI, vh_wI_sI, vh_K_sI, vh_R_sI, vh_Z_sI, vh_sI_sI, vh_I_sI, jI_n q1, jI_n q2, cl (show x < 2 ^ 31 by omega), ib q1 (show 32 ≤ 2 ^ 31 by omega), c_isIn, jbit_bt _ q2, jb_0, s_48_26]
        by_cases q4 : A x y = true
        · rw [if_pos (fun z => z (by rw [(hP x y q1 q2).1]; exact q4))]
          simp only [s_48_33, s_48_34, s_48_37, s_48_150, ck13, cr0, cr1, cr2, cr3, cr4, cr5, cr6, cr7, cr8, cr9, ck14, ck15, ck16, ck17, ck18, ck19, ck20, ck21, ck22, ck23, cz14, cz15, cz16, cz17, cz18, cz19, cz20, cz21, cz22, cz23, va_rf_s, pk_mul, nI_add, not_false_eq_true, and_self, true_and, Option.toList_some, Option.toList_none, List.append_nil, List.cons_append, List.nil_append, nI_01, nI_11, vh_K_wI, vh_R_wI, vh_Z_wI, vh_wI_sI, vh_K_sI, vh_R_sI, vh_Z_sI, vh_sI_sI, vh_I_sI]
          exact fin _ ⟨fun _ => ⟨q3, q4⟩, fun _ => rfl⟩
        · rw [if_neg (fun z => z (by rw [(hP x y q1 q2).1]; exact q4))]
          simp only [s_48_29, s_48_30, s_48_34, s_48_37, s_48_150, ck13, cr0, cr1, cr2, cr3, cr4, cr5, cr6, cr7, cr8, cr9, ck14, ck15, ck16, ck17, ck18, ck19, ck20, ck21, ck22, ck23, cz14, cz15, cz16, cz17, cz18, cz19, cz20, cz21, cz22, cz23, va_rf_s, pk_mul, nI_add, not_false_eq_true, and_self, true_and, Option.toList_some, Option.toList_none, List.append_nil, List.cons_append, List.nil_append, nI_01, nI_11, vh_K_wI, vh_R_wI, vh_Z_wI, vh_wI_sI, vh_K_sI, vh_R_sI, vh_Z_sI, vh_sI_sI, vh_I_sI]
          exact fin _ ⟨fun z => absurd z nI_10, fun z => absurd z.2 q4⟩
      · rw [if_pos q3]
        simp only [s_48_29, s_48_30, s_48_34, s_48_37, s_48_150, ck13, cr0, cr1, cr2, cr3, cr4, cr5, cr6, cr7, cr8, cr9, ck14, ck15, ck16, ck17, ck18, ck19, ck20, ck21, ck22, ck23, cz14, cz15, cz16, cz17, cz18, cz19, cz20, cz21, cz22, cz23, va_rf_s, pk_mul, nI_add, not_false_eq_true, and_self, true_and, Option.toList_some, Option.toList_none, List.append_nil, List.cons_append, List.nil_append, nI_01, nI_11, vh_K_wI, vh_R_wI, vh_Z_wI, vh_wI_sI, vh_K_sI, vh_R_sI, vh_Z_sI, vh_sI_sI, vh_I_sI]
        exact fin _ ⟨fun z => absurd z nI_10, fun z => absurd z.1 q3⟩
    · rw [if_pos ((jI_lt y hy).mpr (by omega))]
      simp only [s_48_40, s_48_41]
      rw [if_neg (fun z => by have := (jI_lt x hx).mp z; omega)]
      simp only [s_48_44, s_48_45, s_48_46, s_48_49, s_48_50, s_48_53, s_48_54, s_48_55, s_48_58, s_48_150, ck13, cr0, cr1, cr2, cr3, cr4, cr5, cr6, cr7, cr8, cr9, ck14, ck15, ck16, ck17, ck18, ck19, ck20, ck21, ck22, ck23, cz14, cz15, cz16, cz17, cz18, cz19, cz20, cz21, cz22, cz23, va_rf_s, pk_mul, nI_add, not_false_eq_true, and_self, true_and, Option.toList_some, Option.toList_none, List.append_nil, List.cons_append, List.nil_append, nI_01, nI_11, vh_K_wI, vh_R_wI, vh_Z_wI, vh_wI_sI, vh_K_sI, vh_R_sI, vh_Z_sI, vh_sI_sI, vh_I_sI, c_variableOf, jI_var y hy (by omega), jI_n q1, cl (show x < 2 ^ 31 by omega), ib q1 (show 32 ≤ 2 ^ 31 by omega)]
      refine nar (y - 32) (vh_I h 16 x) (by omega) (fun w hw => ?_) (fun u hu => ?_) _ (fun h' z => by simp only [Option.toList_none, s_48_150]; exact z)
      · rw [iN w x q1, iV w y (by omega), (hP x _ q1 (hw _ (by omega))).1]
      · unfold fi f2i
        rw [decide_eq_false (show ¬ x = 32 + u by omega), Bool.or_false]
        congr 1
        exact decide_eq_decide.mpr (by omega)
  · rw [if_pos ((jI_lt x hx).mpr (by omega))]
    simp only [s_48_40, s_48_41]
    rw [if_pos ((jI_lt x hx).mpr (by omega))]
    simp only [s_48_61, s_48_62]
    by_cases q2 : y < 32
    · rw [if_neg (fun z => by have := (jI_lt y hy).mp z; omega)]
      simp only [s_48_65, s_48_66, s_48_67, s_48_70, s_48_71, s_48_74, s_48_75, s_48_76, s_48_79, s_48_150, ck13, cr0, cr1, cr2, cr3, cr4, cr5, cr6, cr7, cr8, cr9, ck14, ck15, ck16, ck17, ck18, ck19, ck20, ck21, ck22, ck23, cz14, cz15, cz16, cz17, cz18, cz19, cz20, cz21, cz22, cz23, va_rf_s, pk_mul, nI_add, not_false_eq_true, and_self, true_and, Option.toList_some, Option.toList_none, List.append_nil, List.cons_append, List.nil_append, nI_01, nI_11, vh_K_wI, vh_R_wI, vh_Z_wI, vh_wI_sI, vh_K_sI, vh_R_sI, vh_Z_sI, vh_sI_sI, vh_I_sI, c_variableOf, jI_var x hx (by omega), jI_n q2, cl (show y < 2 ^ 31 by omega), ib q2 (show 32 ≤ 2 ^ 31 by omega)]
      refine nar (x - 32) (vh_I h 17 y) (by omega) (fun w hw => ?_) (fun u hu => ?_) _ (fun h' z => by simp only [Option.toList_none, s_48_150]; exact z)
      · rw [iN w y q2, iV w x (by omega), (hP _ y (hw _ (by omega)) q2).2]
      · unfold fi f2i
        rw [decide_eq_false (show ¬ y = 32 + u by omega), Bool.or_false]
        congr 1
        exact decide_eq_decide.mpr (by omega)
    · rw [if_pos ((jI_lt y hy).mpr (by omega))]
      simp only [s_48_82, s_48_83, s_48_84]
      by_cases q3 : x = y
      · rw [if_neg (fun z => z ((jI_inj x hx y hy).mpr q3))]
        simp only [s_48_87, s_48_88, s_48_89, s_48_92, s_48_93, ck13, cr0, cr1, cr2, cr3, cr4, cr5, cr6, cr7, cr8, cr9, ck14, ck15, ck16, ck17, ck18, ck19, ck20, ck21, ck22, ck23, cz14, cz15, cz16, cz17, cz18, cz19, cz20, cz21, cz22, cz23, va_rf_s, pk_mul, nI_add, not_false_eq_true, and_self, true_and, Option.toList_some, Option.toList_none, List.append_nil, List.cons_append, List.nil_append, nI_01, nI_11, vh_K_wI, vh_R_wI, vh_Z_wI, vh_wI_sI, vh_K_sI, vh_R_sI, vh_Z_sI, vh_sI_sI, vh_I_sI, c_variableOf, jI_var x hx (by omega)]
        refine c_self hC' (fun s hs => ?_)
        simp only [s_48_96, s_48_99, s_48_150, ck13, cr0, cr1, cr2, cr3, cr4, cr5, cr6, cr7, cr8, cr9, ck14, ck15, ck16, ck17, ck18, ck19, ck20, ck21, ck22, ck23, cz14, cz15, cz16, cz17, cz18, cz19, cz20, cz21, cz22, cz23, va_rf_s, pk_mul, nI_add, not_false_eq_true, and_self, true_and, Option.toList_some, Option.toList_none, List.append_nil, List.cons_append, List.nil_append, nI_01, nI_11, vh_K_wI, vh_R_wI, vh_Z_wI, vh_wI_sI, vh_K_sI, vh_R_sI, vh_Z_sI, vh_sI_sI, vh_I_sI]
        refine nar (x - 32) s (by omega) (fun w hw => ?_) (fun u hu => ?_) _ (fun h' z => by simp only [Option.toList_none, s_48_150]; exact z)
        · rw [← q3, iV w x (by omega), hs _ (hw _ (by omega)), (hP _ _ (hw _ (by omega)) (hw _ (by omega))).1]
        · unfold fi f2i
          rw [← q3, Bool.or_assoc, Bool.or_self]
          congr 1
          exact decide_eq_decide.mpr (by omega)
      · rw [if_pos (fun z => q3 ((jI_inj x hx y hy).mp z))]
        have hu : x - 32 < 6 := by omega
        have hv : y - 32 < 6 := by omega
        have huv : x - 32 ≠ y - 32 := by omega
        simp only [s_48_102, s_48_103, s_48_104, s_48_107, s_48_108, s_48_109, s_48_112, s_48_113, s_48_116, s_48_117, s_48_120, ck13, cr0, cr1, cr2, cr3, cr4, cr5, cr6, cr7, cr8, cr9, ck14, ck15, ck16, ck17, ck18, ck19, ck20, ck21, ck22, ck23, cz14, cz15, cz16, cz17, cz18, cz19, cz20, cz21, cz22, cz23, va_rf_s, pk_mul, nI_add, not_false_eq_true, and_self, true_and, Option.toList_some, Option.toList_none, List.append_nil, List.cons_append, List.nil_append, nI_01, nI_11, vh_K_wI, vh_R_wI, vh_Z_wI, vh_wI_sI, vh_K_sI, vh_R_sI, vh_Z_sI, vh_sI_sI, vh_I_sI, c_variableOf, jI_var x hx (by omega), jI_var y hy (by omega)]
        refine c_link hC' hu hv (Or.inl rfl) (fun f1 s1 a1 a2 a3 a4 a5 => ?_)
        have hC1 : CL (vh_sI h f1) := hC'
        simp only [va_rf_s, pk_mul, nI_add, not_false_eq_true, and_self, true_and, Option.toList_some, Option.toList_none, List.append_nil, List.cons_append, List.nil_append, nI_01, nI_11, vh_K_wI, vh_R_wI, vh_Z_wI, vh_wI_sI, vh_K_sI, vh_R_sI, vh_Z_sI, vh_sI_sI, vh_I_sI]
        simp only [s_48_123, ck13, cr0, cr1, cr2, cr3, cr4, cr5, cr6, cr7, cr8, cr9, ck14, ck15, ck16, ck17, ck18, ck19, ck20, ck21, ck22, ck23, cz14, cz15, cz16, cz17, cz18, cz19, cz20, cz21, cz22, cz23, va_rf_s, pk_mul, nI_add, not_false_eq_true, and_self, true_and, Option.toList_some, Option.toList_none, List.append_nil, List.cons_append, List.nil_append, nI_01, nI_11, vh_K_wI, vh_R_wI, vh_Z_wI, vh_wI_sI, vh_K_sI, vh_R_sI, vh_Z_sI, vh_sI_sI, vh_I_sI]
        refine c_narrow hC1 hu (fun z1 hz1 => ?_)
        rw [vh_sI_sI]
        simp only [vh_I_sI] at hz1 ⊢
        generalize hf2 : up2 (up2 (up2 f1 18 0 (f1 18 0 ||| j1 (nI (x - 32)))) 20 (x - 32) (f1 20 (x - 32) &&& s1)) 13 11 z1 = f2
        have b1 : ∀ c, c ≠ 13 → c ≠ 18 → c ≠ 20 → ∀ j, f2 c j = f1 c j := fun c h1 h2 h3 j => by rw [← hf2, up2_a _ _ _ h1, up2_a _ _ _ h3, up2_a _ _ _ h2]
        have b2 : f2 18 0 = f1 18 0 ||| j1 (nI (x - 32)) := by rw [← hf2, up2_a _ _ _ (by decide), up2_a _ _ _ (by decide), up2_s]
        have b3 : ∀ j, f2 20 j = if j = x - 32 then f1 20 (x - 32) &&& s1 else f1 20 j := fun j => by
          rw [← hf2, up2_a _ _ _ (by decide)]
          by_cases e : j = x - 32
          · rw [e, up2_s, if_pos rfl]
          · rw [up2_i _ _ _ _ e, if_neg e, up2_a _ _ _ (by decide)]
        have b4 : f2 13 11 = z1 := by rw [← hf2, up2_s]
        have b5 : ∀ j, j ≠ 11 → f2 13 j = f1 13 j := fun j hj => by rw [← hf2, up2_i _ _ _ _ hj, up2_a _ _ _ (by decide), up2_a _ _ _ (by decide)]
        have hC2 : CL (vh_sI h f2) := hC'
        simp only [s_48_126, s_48_127, s_48_128, s_48_131, s_48_132, s_48_133, s_48_136, s_48_137, s_48_140, s_48_141, s_48_144, ck13, cr0, cr1, cr2, cr3, cr4, cr5, cr6, cr7, cr8, cr9, ck14, ck15, ck16, ck17, ck18, ck19, ck20, ck21, ck22, ck23, cz14, cz15, cz16, cz17, cz18, cz19, cz20, cz21, cz22, cz23, va_rf_s, pk_mul, nI_add, not_false_eq_true, and_self, true_and, Option.toList_some, Option.toList_none, List.append_nil, List.cons_append, List.nil_append, nI_01, nI_11, vh_K_wI, vh_R_wI, vh_Z_wI, vh_wI_sI, vh_K_sI, vh_R_sI, vh_Z_sI, vh_sI_sI, vh_I_sI, c_variableOf, jI_var x hx (by omega), jI_var y hy (by omega)]
        refine c_link hC2 hv hu (Or.inr rfl) (fun f3 s2 d1 d2 d3 d4 d5 => ?_)
        rw [vh_I_sI] at d1 d2 d3 d4 d5
        have hC3 : CL (vh_sI h f3) := hC'
        simp only [va_rf_s, pk_mul, nI_add, not_false_eq_true, and_self, true_and, Option.toList_some, Option.toList_none, List.append_nil, List.cons_append, List.nil_append, nI_01, nI_11, vh_K_wI, vh_R_wI, vh_Z_wI, vh_wI_sI, vh_K_sI, vh_R_sI, vh_Z_sI, vh_sI_sI, vh_I_sI]
        simp only [s_48_147, ck13, cr0, cr1, cr2, cr3, cr4, cr5, cr6, cr7, cr8, cr9, ck14, ck15, ck16, ck17, ck18, ck19, ck20, ck21, ck22, ck23, cz14, cz15, cz16, cz17, cz18, cz19, cz20, cz21, cz22, cz23, va_rf_s, pk_mul, nI_add, not_false_eq_true, and_self, true_and, Option.toList_some, Option.toList_none, List.append_nil, List.cons_append, List.nil_append, nI_01, nI_11, vh_K_wI, vh_R_wI, vh_Z_wI, vh_wI_sI, vh_K_sI, vh_R_sI, vh_Z_sI, vh_sI_sI, vh_I_sI]
        refine c_narrow hC3 hv (fun z3 hz3 => ?_)
        simp only [vh_I_sI, vh_sI_sI] at hz3 ⊢
        simp only [va_rf_s, pk_mul, nI_add, not_false_eq_true, and_self, true_and, Option.toList_some, Option.toList_none, List.append_nil, List.cons_append, List.nil_append, nI_01, nI_11, vh_K_wI, vh_R_wI, vh_Z_wI, vh_wI_sI, vh_K_sI, vh_R_sI, vh_Z_sI, vh_sI_sI, vh_I_sI]
        simp only [s_48_150]
        generalize hf4 : up2 (up2 (up2 f3 18 0 (f3 18 0 ||| j1 (nI (y - 32)))) 20 (y - 32) (f3 20 (y - 32) &&& s2)) 13 11 z3 = f4
        have e1 : ∀ c, c ≠ 13 → c ≠ 18 → c ≠ 20 → ∀ j, f4 c j = f3 c j := fun c h1 h2 h3 j => by rw [← hf4, up2_a _ _ _ h1, up2_a _ _ _ h3, up2_a _ _ _ h2]
        have e2 : f4 18 0 = f3 18 0 ||| j1 (nI (y - 32)) := by rw [← hf4, up2_a _ _ _ (by decide), up2_a _ _ _ (by decide), up2_s]
        have e3 : ∀ j, f4 20 j = if j = y - 32 then f3 20 (y - 32) &&& s2 else f3 20 j := fun j => by
          rw [← hf4, up2_a _ _ _ (by decide)]
          by_cases e : j = y - 32
          · rw [e, up2_s, if_pos rfl]
          · rw [up2_i _ _ _ _ e, if_neg e, up2_a _ _ _ (by decide)]
        have e4 : f4 13 11 = z3 := by rw [← hf4, up2_s]
        have e5 : ∀ j, j ≠ 11 → f4 13 j = f3 13 j := fun j hj => by rw [← hf4, up2_i _ _ _ _ hj, up2_a _ _ _ (by decide), up2_a _ _ _ (by decide)]
        have ln : ∀ n, n < 32 → lN2 f2 (y - 32) (x - 32) 17 n = lN2 (vh_I h) (y - 32) (x - 32) 17 n := by
          intro n hn
          have g1 : EE f2 (y - 32) (x - 32) = EE (vh_I h) (y - 32) (x - 32) := by
            unfold EE
            rw [b1 15 (by decide) (by decide) (by decide), a4, if_neg (fun z => huv z.symm)]
          have g2 : f2 17 n = vh_I h 17 n := by rw [b1 17 (by decide) (by decide) (by decide), a1 17 (by decide) (by decide)]
          have g3 : f2 14 ((6 * (y - 32) + (x - 32)) * 32 + n) = vh_I h 14 ((6 * (y - 32) + (x - 32)) * 32 + n) := by rw [b1 14 (by decide) (by decide) (by decide), a3 _ (by omega)]
          unfold lN2
          rw [g1, g2, g3]
        refine hQ f4 ⟨fun c hc j => ?_, fun j hj => ?_, fun j => ?_, fun j => ?_⟩ (LI_F (LI_link (u := x - 32) (v := y - 32) (s1 := s1) (s2 := s2) hI hP hu hv huv (fun n hn => ⟨?_, ?_⟩) (fun j h1 h2 => ?_) ⟨?_, ?_, fun j h1 h2 => ?_⟩ ?_ ⟨?_, ?_, fun j h1 h2 => ?_⟩ a5 (fun n hn => ?_) ?_ (fun w hw => ?_)) (fun u hu' => ?_))
        · rw [e1 c (by omega) (by omega) (by omega), d1 c (by omega) (by omega), b1 c (by omega) (by omega) (by omega), a1 c (by omega) (by omega)]
        · rw [e5 j hj, d1 13 (by decide) (by decide), b5 j hj, a1 13 (by decide) (by decide)]
        · rw [e1 19 (by decide) (by decide) (by decide), d1 19 (by decide) (by decide), b1 19 (by decide) (by decide) (by decide), a1 19 (by decide) (by decide)]
        · rw [e1 21 (by decide) (by decide) (by decide), d1 21 (by decide) (by decide), b1 21 (by decide) (by decide) (by decide), a1 21 (by decide) (by decide)]
        · rw [e1 14 (by decide) (by decide) (by decide), d3 _ (by omega), b1 14 (by decide) (by decide) (by decide), a2 n hn]
        · rw [e1 14 (by decide) (by decide) (by decide), d2 n hn, ln n hn]
        · rw [e1 14 (by decide) (by decide) (by decide), d3 _ h2, b1 14 (by decide) (by decide) (by decide), a3 _ h1]
        · rw [e1 15 (by decide) (by decide) (by decide), d4, if_neg huv, b1 15 (by decide) (by decide) (by decide), a4, if_pos rfl]
        · rw [e1 15 (by decide) (by decide) (by decide), d4, if_pos rfl, b1 15 (by decide) (by decide) (by decide), a4, if_neg (fun z => huv z.symm)]
        · rw [e1 15 (by decide) (by decide) (by decide), d4, if_neg h2, b1 15 (by decide) (by decide) (by decide), a4, if_neg h1]
        · rw [e2, d1 18 (by decide) (by decide), b2, a1 18 (by decide) (by decide)]
        · rw [e3, if_neg huv, d1 20 (by decide) (by decide), b3, if_pos rfl, a1 20 (by decide) (by decide)]
        · rw [e3, if_pos rfl, d1 20 (by decide) (by decide), b3, if_neg (fun z => huv z.symm), a1 20 (by decide) (by decide)]
        · rw [e3, if_neg h2, d1 20 (by decide) (by decide), b3, if_neg h1, a1 20 (by decide) (by decide)]
        · rw [d5 n hn, ln n hn]
        · rw [e4, hz3, d1 13 (by decide) (by decide), b4, hz1, a1 13 (by decide) (by decide), a1 20 (by decide) (by decide), d1 20 (by decide) (by decide), b3, if_neg (fun z => huv z.symm), a1 20 (by decide) (by decide)]
        · rw [iV w x (by omega), iV w y (by omega)]
        · unfold fi f2i
          congr 1
          · congr 1
            exact decide_eq_decide.mpr (by omega)
          · exact decide_eq_decide.mpr (by omega)

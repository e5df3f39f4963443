-- ===== at most five links: one variable fixed is enough =====
theorem nd_len : ∀ {l m : List Nat}, l.Nodup → (∀ a, a ∈ l → a ∈ m) → l.length ≤ m.length
  | [], _, _, _ => Nat.zero_le _
  | a :: l, m, hn, hs => by
    have ha := hs a List.mem_cons_self
    have hn' := List.nodup_cons.mp hn
    have : l.length ≤ (m.erase a).length := nd_len hn'.2 (fun b hb => by
      have hne : b ≠ a := fun z => hn'.1 (z ▸ hb)
      exact (List.mem_erase_of_ne hne).mpr (hs b (List.mem_cons_of_mem _ hb)))
    rw [List.length_erase_of_mem ha] at this
    have : 0 < m.length := List.length_pos_of_mem ha
    simp only [List.length_cons]
    omega
theorem dg_mem {E : Nat → Nat → Bool} {F : Nat → Bool} {v u : Nat} : u ∈ (List.range 6).filter (fun u => E v u && F u) ↔ u < 6 ∧ E v u = true ∧ F u = true := by
  rw [List.mem_filter, List.mem_range, Bool.and_eq_true]
theorem dg_nd (E : Nat → Nat → Bool) (F : Nat → Bool) (v : Nat) : ((List.range 6).filter (fun u => E v u && F u)).Nodup := List.Pairwise.filter _ List.nodup_range
theorem dg_more {E : Nat → Nat → Bool} {F : Nat → Bool} {v : Nat} {l : List Nat} (h : l.length < dg E F v) : ∃ u, u < 6 ∧ E v u = true ∧ F u = true ∧ u ∉ l := by
  refine Classical.byContradiction (fun z => ?_)
  have := nd_len (dg_nd E F v) (m := l) (fun a ha => Classical.byContradiction (fun q => z ⟨a, (dg_mem.mp ha).1, (dg_mem.mp ha).2.1, (dg_mem.mp ha).2.2, q⟩))
  unfold dg at h
  omega
theorem dg_has {E : Nat → Nat → Bool} {F : Nat → Bool} {v : Nat} {l : List Nat} (hn : l.Nodup) (h : ∀ u, u ∈ l → u < 6 ∧ E v u = true ∧ F u = true) : l.length ≤ dg E F v := nd_len hn (fun a ha => dg_mem.mpr (h a ha))
def pc2 (u v : Nat) : Nat := 6 * min u v + max u v
theorem pc2_ne {x y x' y' : Nat} (h1 : x < 6) (h2 : y < 6) (h3 : x' < 6) (h4 : y' < 6) (h : ¬ ((x = x' ∧ y = y') ∨ (x = y' ∧ y = x'))) : pc2 x y ≠ pc2 x' y' := by
  unfold pc2
  omega
theorem pc2_eq {x y x' y' : Nat} (h1 : x < 6) (h2 : y < 6) (h3 : x' < 6) (h4 : y' < 6) (h : pc2 x y = pc2 x' y') : (x = x' ∧ y = y') ∨ (x = y' ∧ y = x') := Classical.byContradiction (fun z => pc2_ne h1 h2 h3 h4 z h)
theorem gr {E : Nat → Nat → Bool} {F2 F3 : Nat → Bool} {r kp : Nat} {es : List Nat} (hsym : ∀ u v, u < 6 → v < 6 → E u v = true → u ≠ v ∧ E v u = true) (hes : es.length ≤ 5) (hcov : ∀ u v, u < 6 → v < 6 → E u v = true → pc2 u v ∈ es)
    (h2 : ∀ v, v < 6 → F2 v = true → v ≠ kp → 2 ≤ dg E F2 v) (hr : r < 6) (hFr : F2 r = true) (hrk : r ≠ kp) (hmax : ∀ v, v < 6 → F2 v = true → v ≠ kp → dg E F2 v ≤ dg E F2 r)
    (h3 : ∀ v, v < 6 → F3 v = true → F2 v = true ∧ v ≠ r) (h4 : ∀ v, v < 6 → F3 v = true → v ≠ kp → 2 ≤ dg E F3 v) : ∀ v, v < 6 → F3 v = true → v = kp := by
  intro v0 hv0 hF0
  refine Classical.byContradiction (fun hk0 => ?_)
  have two : ∀ (F : Nat → Bool) v, 2 ≤ dg E F v → ∃ a b, (a < 6 ∧ b < 6) ∧ (E v a = true ∧ E v b = true) ∧ (F a = true ∧ F b = true) ∧ a ≠ b ∧ a ≠ kp := by
    intro F v h
    obtain ⟨a, a1, a2, a3, a4⟩ := dg_more (l := []) (show ([] : List Nat).length < dg E F v by simp; omega)
    obtain ⟨b, b1, b2, b3, b4⟩ := dg_more (l := [a]) (show [a].length < dg E F v by simp; omega)
    have hab : b ≠ a := by simpa using b4
    by_cases q : a = kp
    · exact ⟨b, a, ⟨b1, a1⟩, ⟨b2, a2⟩, ⟨b3, a3⟩, hab, fun z => hab (by omega)⟩
    · exact ⟨a, b, ⟨a1, b1⟩, ⟨a2, b2⟩, ⟨a3, b3⟩, fun z => hab z.symm, q⟩
  obtain ⟨a, b, ⟨a1, b1⟩, ⟨a2, b2⟩, ⟨a3, b3⟩, hab, hak⟩ := two F3 v0 (h4 v0 hv0 hF0 hk0)
  obtain ⟨c, c1, c2, c3, c4⟩ := dg_more (l := [v0]) (show [v0].length < dg E F3 a by have := h4 a a1 a3 hak; simp; omega)
  have hcv : c ≠ v0 := by simpa using c4
  obtain ⟨p, q, ⟨p1, q1⟩, ⟨p2, q2⟩, ⟨p3, q3⟩, hpq, hpk⟩ := two F2 r (h2 r hr hFr hrk)
  have r0 := (h3 v0 hv0 hF0).2
  have ra := (h3 a a1 a3).2
  have rb := (h3 b b1 b3).2
  have rc := (h3 c c1 c3).2
  have s1 := (hsym v0 a hv0 a1 a2).1
  have s2 := (hsym v0 b hv0 b1 b2).1
  have s3 := (hsym a c a1 c1 c2).1
  have s4 := (hsym r p hr p1 p2).1
  have s5 := (hsym r q hr q1 q2).1
  have e1 := hcov v0 a hv0 a1 a2
  have e2 := hcov v0 b hv0 b1 b2
  have e3 := hcov a c a1 c1 c2
  have e4 := hcov r p hr p1 p2
  have e5 := hcov r q hr q1 q2
  have six : ∀ x y, x < 6 → y < 6 → E x y = true → ¬ ([pc2 x y, pc2 v0 a, pc2 v0 b, pc2 a c, pc2 r p, pc2 r q].Nodup) := by
    intro x y hx hy hE hn
    have := nd_len hn (m := es) (fun t ht => by
      simp only [List.mem_cons, List.not_mem_nil, or_false] at ht
      rcases ht with h | h | h | h | h | h
      · rw [h]; exact hcov x y hx hy hE
      · rw [h]; exact e1
      · rw [h]; exact e2
      · rw [h]; exact e3
      · rw [h]; exact e4
      · rw [h]; exact e5)
    simp only [List.length_cons, List.length_nil] at this
    omega
  have nd5 : ∀ k, k ≠ pc2 v0 a → k ≠ pc2 v0 b → k ≠ pc2 a c → k ≠ pc2 r p → k ≠ pc2 r q → [k, pc2 v0 a, pc2 v0 b, pc2 a c, pc2 r p, pc2 r q].Nodup := by
    intro k k1 k2 k3 k4 k5
    have n12 : pc2 v0 a ≠ pc2 v0 b := pc2_ne hv0 a1 hv0 b1 (fun z => z.elim (fun ⟨_, h⟩ => hab h) (fun ⟨h, _⟩ => s2 h))
    have n13 : pc2 v0 a ≠ pc2 a c := pc2_ne hv0 a1 a1 c1 (fun z => z.elim (fun ⟨h, _⟩ => s1 h) (fun ⟨h, _⟩ => (Ne.symm hcv) h))
    have n14 : pc2 v0 a ≠ pc2 r p := pc2_ne hv0 a1 hr p1 (fun z => z.elim (fun ⟨h, _⟩ => r0 h) (fun ⟨_, h⟩ => ra h))
    have n15 : pc2 v0 a ≠ pc2 r q := pc2_ne hv0 a1 hr q1 (fun z => z.elim (fun ⟨h, _⟩ => r0 h) (fun ⟨_, h⟩ => ra h))
    have n23 : pc2 v0 b ≠ pc2 a c := pc2_ne hv0 b1 a1 c1 (fun z => z.elim (fun ⟨h, _⟩ => s1 h) (fun ⟨h, _⟩ => (Ne.symm hcv) h))
    have n24 : pc2 v0 b ≠ pc2 r p := pc2_ne hv0 b1 hr p1 (fun z => z.elim (fun ⟨h, _⟩ => r0 h) (fun ⟨_, h⟩ => rb h))
    have n25 : pc2 v0 b ≠ pc2 r q := pc2_ne hv0 b1 hr q1 (fun z => z.elim (fun ⟨h, _⟩ => r0 h) (fun ⟨_, h⟩ => rb h))
    have n34 : pc2 a c ≠ pc2 r p := pc2_ne a1 c1 hr p1 (fun z => z.elim (fun ⟨h, _⟩ => ra h) (fun ⟨_, h⟩ => rc h))
    have n35 : pc2 a c ≠ pc2 r q := pc2_ne a1 c1 hr q1 (fun z => z.elim (fun ⟨h, _⟩ => ra h) (fun ⟨_, h⟩ => rc h))
    have n45 : pc2 r p ≠ pc2 r q := pc2_ne hr p1 hr q1 (fun z => z.elim (fun ⟨_, h⟩ => hpq h) (fun ⟨h, _⟩ => s5 h))
    simp [k1, k2, k3, k4, k5, n12, n13, n14, n15, n23, n24, n25, n34, n35, n45]
  have d2 : dg E F2 r ≤ 2 := by
    refine Classical.byContradiction (fun z => ?_)
    obtain ⟨s, t1, t2, t3, t4⟩ := dg_more (l := [p, q]) (show [p, q].length < dg E F2 r by simp; omega)
    have hsp : s ≠ p ∧ s ≠ q := by simpa using t4
    exact six r s hr t1 t2 (nd5 _ (pc2_ne hr t1 hv0 a1 (fun z => z.elim (fun ⟨h, _⟩ => (Ne.symm r0) h) (fun ⟨h, _⟩ => (Ne.symm ra) h))) (pc2_ne hr t1 hv0 b1 (fun z => z.elim (fun ⟨h, _⟩ => (Ne.symm r0) h) (fun ⟨h, _⟩ => (Ne.symm rb) h))) (pc2_ne hr t1 a1 c1 (fun z => z.elim (fun ⟨h, _⟩ => (Ne.symm ra) h) (fun ⟨h, _⟩ => (Ne.symm rc) h))) (pc2_ne hr t1 hr p1 (fun z => z.elim (fun ⟨_, h⟩ => hsp.1 h) (fun ⟨h, _⟩ => s4 h))) (pc2_ne hr t1 hr q1 (fun z => z.elim (fun ⟨_, h⟩ => hsp.2 h) (fun ⟨h, _⟩ => s5 h))))
  obtain ⟨z, z1, z2, z3, z4⟩ := dg_more (l := [r]) (show [r].length < dg E F2 p by have := h2 p p1 p3 hpk; simp; omega)
  have hzr : z ≠ r := by simpa using z4
  have hp3 : F3 p = true := by
    by_cases k1 : pc2 p z = pc2 v0 a
    · rcases pc2_eq p1 z1 hv0 a1 k1 with h | h
      · rw [h.1]; exact hF0
      · rw [h.1]; exact a3
    · by_cases k2 : pc2 p z = pc2 v0 b
      · rcases pc2_eq p1 z1 hv0 b1 k2 with h | h
        · rw [h.1]; exact hF0
        · rw [h.1]; exact b3
      · by_cases k3 : pc2 p z = pc2 a c
        · rcases pc2_eq p1 z1 a1 c1 k3 with h | h
          · rw [h.1]; exact a3
          · rw [h.1]; exact c3
        · exact absurd (nd5 _ k1 k2 k3 (pc2_ne p1 z1 hr p1 (fun z => z.elim (fun ⟨h, _⟩ => (Ne.symm s4) h) (fun ⟨_, h⟩ => hzr h))) (pc2_ne p1 z1 hr q1 (fun z => z.elim (fun ⟨h, _⟩ => (Ne.symm s4) h) (fun ⟨h, _⟩ => hpq h)))) (six p z p1 z1 z2)
  obtain ⟨g, i, ⟨g1, i1⟩, ⟨g2, i2⟩, ⟨g3, i3⟩, hgi, _⟩ := two F3 p (h4 p p1 hp3 hpk)
  have := dg_has (E := E) (F := F2) (v := p) (l := [r, g, i]) (by
    have w1 := (h3 g g1 g3).2
    have w2 := (h3 i i1 i3).2
    simp [hgi, Ne.symm w1, Ne.symm w2]) (fun u hu => by
    simp only [List.mem_cons, List.not_mem_nil, or_false] at hu
    rcases hu with h | h | h
    · rw [h]; exact ⟨hr, (hsym r p hr p1 p2).2, hFr⟩
    · rw [h]; exact ⟨g1, g2, (h3 g g1 g3).1⟩
    · rw [h]; exact ⟨i1, i2, (h3 i i1 i3).1⟩)
  simp only [List.length_cons, List.length_nil] at this
  have := hmax p p1 p3 hpk
  omega

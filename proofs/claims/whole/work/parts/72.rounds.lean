-- ===== ROUNDS: what both sides do, one round after the other =====
theorem sv_ge {f : (Nat → Nat) → Nat} {w : Nat → Nat} : ∀ {t : List Nat} {e : Nat → Nat}, (∀ u, u ∉ t → w u = e u) → (∀ u, u ∈ t → w u < 32) → f w ≤ sv_S f t e
  | [], e, h, _ => by
    have : w = e := funext (fun u => h u (by simp))
    rw [this]
    exact Nat.le_refl _
  | v :: t, e, h1, h2 => by
    have ih := sv_ge (f := f) (w := w) (t := t) (e := sv_set e v (w v)) (fun u hu => by
      by_cases q : u = v
      · rw [q, sv_set_same]
      · rw [sv_set_ne _ _ q]
        exact h1 u (by simp [q, hu])) (fun u hu => h2 u (List.mem_cons_of_mem _ hu))
    refine Nat.le_trans ih ?_
    have hv := h2 v List.mem_cons_self
    have : ∀ (g : Nat → Nat) (n k : Nat), k < n → g k ≤ sg_S g n := by
      intro g n
      induction n with
      | zero => intro k hk; omega
      | succ n ih =>
        intro k hk
        rw [sg_succ]
        by_cases e : k = n
        · subst e; omega
        · have := ih k (by omega); omega
    exact this (fun n => sv_S f t (sv_set e v n)) 32 (w v) hv
theorem S6_ne0 {f : (Nat → Nat) → Nat} (hf : ∀ w w', (∀ u, u < 6 → w u = w' u) → f w = f w') : S6 f ≠ 0 ↔ ∃ w, bd w ∧ f w ≠ 0 := by
  constructor
  · intro h
    refine Classical.byContradiction (fun z => h ?_)
    have : S6 f = S6 (fun _ => 0) := S6_congr (fun w hw => Classical.byContradiction (fun y => z ⟨w, hw, y⟩))
    rw [this]
    exact sv_zero _ _
  · rintro ⟨w, hw, hne⟩ z
    have m : ∀ u, u ∈ [0, 1, 2, 3, 4, 5] ↔ u < 6 := by
      intro u
      constructor
      · intro h
        have : u = 0 ∨ u = 1 ∨ u = 2 ∨ u = 3 ∨ u = 4 ∨ u = 5 := by simpa using h
        omega
      · intro h
        have : u = 0 ∨ u = 1 ∨ u = 2 ∨ u = 3 ∨ u = 4 ∨ u = 5 := by omega
        simpa using this
    have := sv_ge (f := f) (w := fun u => if u < 6 then w u else 0) (t := [0, 1, 2, 3, 4, 5]) (e := fun _ => 0) (fun u hu => if_neg (fun y => hu ((m u).mpr y))) (fun u hu => by rw [if_pos ((m u).mp hu)]; exact hw u ((m u).mp hu))
    have e : f (fun u => if u < 6 then w u else 0) = f w := hf _ _ (fun u hu => if_pos hu)
    rw [e] at this
    unfold S6 at z
    omega
/-- the items of a rule are items -/
def okR (ρ : Nat → Nat) : Prop := (ρ 0 < 16 ∧ ρ 1 < 38 ∧ sec ρ < 38 ∧ ρ 5 ≤ 5 ∧ ρ 3 < 5) ∧ ∀ i, i < ρ 5 → ρ (11 + 4 * i) < 16 ∧ ρ (12 + 4 * i) < 38 ∧ ρ (13 + 4 * i) < 38 ∧ ρ (10 + 4 * i) < 5
theorem RV_ok {f : Nat → Nat → Int32} {r d n x y : Nat} {ρ : Nat → Nat} (h : RV f r d n x y ρ) : okR ρ := by
  have s := sec_38 h
  obtain ⟨h0, h1, h2, h3, h4, h5, h6⟩ := h
  exact ⟨⟨h0.2, h1.2, s, h5.2, h3.2⟩, fun i hi => ⟨(h6 i hi).2.1.2, (h6 i hi).2.2.1.2, (h6 i hi).2.2.2.2, (h6 i hi).1.2⟩⟩
theorem iv_c {w w' : Nat → Nat} {t : Nat} (ht : t < 38) (h : ∀ u, u < 6 → w u = w' u) : iv w t = iv w' t := by
  unfold iv
  by_cases q : t < 32
  · rw [if_pos q, if_pos q]
  · rw [if_neg q, if_neg q]; exact h _ (by omega)
theorem iv_lt {w : Nat → Nat} {t : Nat} (ht : t < 38) (h : bd w) : iv w t < 32 := by
  unfold iv
  by_cases q : t < 32
  · rw [if_pos q]; exact q
  · rw [if_neg q]; exact h _ (by omega)
theorem ph_w {Hs : Nat → Nat → Nat → Nat → Bool} {ρ : Nat → Nat} {w w' : Nat → Nat} (hok : okR ρ) (h : ∀ u, u < 6 → w u = w' u) : ∀ {k : Nat}, k ≤ ρ 5 → (ph Hs ρ k w ↔ ph Hs ρ k w')
  | 0, _ => Iff.rfl
  | k + 1, hk => by
    show (ph Hs ρ k w ∧ _ = true) ↔ (ph Hs ρ k w' ∧ _ = true)
    rw [ph_w hok h (k := k) (by omega), iv_c (hok.2 k (by omega)).2.1 h, iv_c (hok.2 k (by omega)).2.2.1 h]
theorem ph_all {Hs : Nat → Nat → Nat → Nat → Bool} {ρ : Nat → Nat} {w : Nat → Nat} : ∀ {k : Nat}, ph Hs ρ k w ↔ ∀ i, i < k → pA (Hs i) (ρ (10 + 4 * i)) (ρ (11 + 4 * i)) (iv w (ρ (12 + 4 * i))) (iv w (ρ (13 + 4 * i))) = true
  | 0 => ⟨fun _ i hi => absurd hi (by omega), fun _ => trivial⟩
  | k + 1 => by
    show (ph Hs ρ k w ∧ _ = true) ↔ _
    rw [ph_all (k := k)]
    constructor
    · rintro ⟨h1, h2⟩ i hi
      by_cases e : i = k
      · subst e; exact h2
      · exact h1 i (by omega)
    · intro h
      exact ⟨fun i hi => h i (by omega), h k (by omega)⟩
/-- a case -/
def cse (Hs : Nat → Nat → Nat → Nat → Bool) (ρ : Nat → Nat) (a b : Nat) (w : Nat → Nat) : Prop := (ph Hs ρ (ρ 5) w ∧ ∀ v, v < 6 → oc ρ (ρ 5) v = false → w v = 0) ∧ (iv w (ρ 1) = a ∧ iv w (sec ρ) = b)
theorem CT_ne0 {Hs : Nat → Nat → Nat → Nat → Bool} {ρ : Nat → Nat} {a b : Nat} (hok : okR ρ) : CT Hs ρ a b ≠ 0 ↔ ∃ w, bd w ∧ cse Hs ρ a b w := by
  unfold CT
  rw [S6_ne0 (fun w w' h => bi_c (by
    rw [ph_w hok h (Nat.le_refl _), iv_c hok.1.2.1 h, iv_c hok.1.2.2.1 h]
    have : (∀ v, v < 6 → oc ρ (ρ 5) v = false → w v = 0) ↔ (∀ v, v < 6 → oc ρ (ρ 5) v = false → w' v = 0) := ⟨fun z v hv ho => by rw [← h v hv]; exact z v hv ho, fun z v hv ho => by rw [h v hv]; exact z v hv ho⟩
    rw [this]))]
  exact ⟨fun ⟨w, h1, h2⟩ => ⟨w, h1, bi_0.mp h2⟩, fun ⟨w, h1, h2⟩ => ⟨w, h1, bi_0.mpr h2⟩⟩
/-- what the rules of stratum s give that does not hold yet -/
def NEW (ρs : Nat → Nat → Nat) (c : Nat) (lv : Nat → Nat) (H : Nat → Nat → Nat → Bool) (s n a b : Nat) : Prop := ∃ i, i < c ∧ sf (ρs i) ∧ ρs i 0 = n ∧ lv n = s ∧ HD (fun _ => H) (ρs i) a b ∧ ¬ H n a b = true
noncomputable def bNEW (ρs : Nat → Nat → Nat) (c : Nat) (lv : Nat → Nat) (H : Nat → Nat → Nat → Bool) (s : Nat) : Nat → Nat → Nat → Bool := fun n a b => @decide (NEW ρs c lv H s n a b) (Classical.propDecidable _)
theorem bNEW_t {ρs : Nat → Nat → Nat} {c : Nat} {lv : Nat → Nat} {H : Nat → Nat → Nat → Bool} {s n a b : Nat} : bNEW ρs c lv H s n a b = true ↔ NEW ρs c lv H s n a b := @decide_eq_true_iff _ (Classical.propDecidable _)
def anyN (W : Nat → Nat → Nat → Bool) : Prop := ∃ n a b, n < 16 ∧ a < 32 ∧ b < 32 ∧ W n a b = true
/-- stratum, round, turns; what holds; in which round it came -/
abbrev RT : Type := (Nat × Nat × Nat) × (Nat → Nat → Nat → Bool) × (Nat → Nat → Nat → Nat)
noncomputable def nxt (ρs : Nat → Nat → Nat) (c : Nat) (lv : Nat → Nat) (x : RT) : RT := @ite RT (16 ≤ x.1.1) _ x (@ite RT (anyN (bNEW ρs c lv x.2.1 x.1.1)) (Classical.propDecidable _) ((x.1.1, x.1.2.1 + 1, x.1.2.2 + 1), (fun n a b => x.2.1 n a b || bNEW ρs c lv x.2.1 x.1.1 n a b), (fun n a b => if bNEW ρs c lv x.2.1 x.1.1 n a b = true then x.1.2.1 else x.2.2 n a b)) ((x.1.1 + 1, 1, x.1.2.2), x.2.1, x.2.2))
noncomputable def itr (ρs : Nat → Nat → Nat) (c : Nat) (lv : Nat → Nat) (S : Nat → Nat → Nat → Bool) : Nat → RT
  | 0 => ((0, 1, 0), S, fun _ _ _ => 0)
  | j + 1 => nxt ρs c lv (itr ρs c lv S j)
theorem nxt_16 {ρs : Nat → Nat → Nat} {c : Nat} {lv : Nat → Nat} {x : RT} (h : 16 ≤ x.1.1) : nxt ρs c lv x = x := if_pos h
theorem nxt_y {ρs : Nat → Nat → Nat} {c : Nat} {lv : Nat → Nat} {x : RT} (h : x.1.1 < 16) (hy : anyN (bNEW ρs c lv x.2.1 x.1.1)) : nxt ρs c lv x = ((x.1.1, x.1.2.1 + 1, x.1.2.2 + 1), (fun n a b => x.2.1 n a b || bNEW ρs c lv x.2.1 x.1.1 n a b), (fun n a b => if bNEW ρs c lv x.2.1 x.1.1 n a b = true then x.1.2.1 else x.2.2 n a b)) := by
  unfold nxt
  rw [if_neg (by omega), if_pos hy]
theorem nxt_n {ρs : Nat → Nat → Nat} {c : Nat} {lv : Nat → Nat} {x : RT} (h : x.1.1 < 16) (hn : ¬ anyN (bNEW ρs c lv x.2.1 x.1.1)) : nxt ρs c lv x = ((x.1.1 + 1, 1, x.1.2.2), x.2.1, x.2.2) := by
  unfold nxt
  rw [if_neg (by omega), if_neg hn]
theorem itr_fix {ρs : Nat → Nat → Nat} {c : Nat} {lv : Nat → Nat} {S : Nat → Nat → Nat → Bool} {j : Nat} (h : 16 ≤ (itr ρs c lv S j).1.1) : ∀ k, itr ρs c lv S (j + k) = itr ρs c lv S j
  | 0 => rfl
  | k + 1 => by
    show nxt ρs c lv (itr ρs c lv S (j + k)) = _
    rw [itr_fix h k, nxt_16 h]
theorem itr_same {ρs : Nat → Nat → Nat} {c : Nat} {lv : Nat → Nat} {S : Nat → Nat → Nat → Bool} {j j' : Nat} (h : 16 ≤ (itr ρs c lv S j).1.1) (h' : 16 ≤ (itr ρs c lv S j').1.1) : itr ρs c lv S j = itr ρs c lv S j' := by
  rcases Nat.le_total j j' with q | q
  · have := itr_fix h (j' - j)
    rw [show j + (j' - j) = j' by omega] at this
    exact this.symm
  · have := itr_fix h' (j - j')
    rw [show j' + (j - j') = j by omega] at this
    exact this
/-- from a stratum above all rules on nothing changes -/
theorem itr_up {ρs : Nat → Nat → Nat} {c : Nat} {lv : Nat → Nat} {S : Nat → Nat → Nat → Bool} {j L : Nat} (hL : ∀ i, i < c → sf (ρs i) → lv (ρs i 0) < L) (h : L ≤ (itr ρs c lv S j).1.1) (h16 : (itr ρs c lv S j).1.1 ≤ 16) : ∀ k, (itr ρs c lv S j).1.1 + k ≤ 16 → (itr ρs c lv S (j + k)).1.1 = (itr ρs c lv S j).1.1 + k ∧ (itr ρs c lv S (j + k)).1.2.2 = (itr ρs c lv S j).1.2.2 ∧ (itr ρs c lv S (j + k)).2 = (itr ρs c lv S j).2
  | 0, _ => ⟨rfl, rfl, rfl⟩
  | k + 1, hk => by
    obtain ⟨i1, i2, i3⟩ := itr_up hL h h16 k (by omega)
    have no : ¬ anyN (bNEW ρs c lv (itr ρs c lv S (j + k)).2.1 (itr ρs c lv S (j + k)).1.1) := by
      rintro ⟨n, a, b, _, _, _, z⟩
      obtain ⟨i, z1, z2, z3, z4, _⟩ := bNEW_t.mp z
      have := hL i z1 z2
      rw [z3] at this
      omega
    have e : itr ρs c lv S (j + (k + 1)) = nxt ρs c lv (itr ρs c lv S (j + k)) := rfl
    rw [e, nxt_n (by omega) no]
    exact ⟨by show _ + 1 = _; omega, i2, i3⟩
theorem itr_s {ρs : Nat → Nat → Nat} {c : Nat} {lv : Nat → Nat} {S : Nat → Nat → Nat → Bool} : ∀ j, (itr ρs c lv S j).1.1 ≤ 16
  | 0 => by show 0 ≤ 16; omega
  | j + 1 => by
    have ih := itr_s (ρs := ρs) (c := c) (lv := lv) (S := S) j
    show (nxt ρs c lv (itr ρs c lv S j)).1.1 ≤ 16
    by_cases q : 16 ≤ (itr ρs c lv S j).1.1
    · rw [nxt_16 q]; exact ih
    · by_cases hy : anyN (bNEW ρs c lv (itr ρs c lv S j).2.1 (itr ρs c lv S j).1.1)
      · rw [nxt_y (by omega) hy]; exact ih
      · rw [nxt_n (by omega) hy]; show _ + 1 ≤ 16; omega
/-- how many facts -/
def cF (H : Nat → Nat → Nat → Bool) : Nat := sg_S (fun k => if H (k / 1024) (k / 32 % 32) (k % 32) = true then 1 else 0) 16384
theorem cF_le (H : Nat → Nat → Nat → Bool) : cF H ≤ 16384 := by
  have : cF H ≤ sg_S (fun _ => 1) 16384 := sg_le (fun k _ => by split <;> omega)
  rw [sg_const] at this
  omega
theorem cF_lt {H W : Nat → Nat → Nat → Bool} (hW : anyN W) (hd : ∀ n a b, W n a b = true → ¬ H n a b = true) : cF H < cF (fun n a b => H n a b || W n a b) := by
  obtain ⟨n, a, b, hn, ha, hb, hw⟩ := hW
  have e1 : (1024 * n + 32 * a + b) / 1024 = n := by omega
  have e2 : (1024 * n + 32 * a + b) / 32 % 32 = a := by omega
  have e3 : (1024 * n + 32 * a + b) % 32 = b := by omega
  refine sg_lt (k := 1024 * n + 32 * a + b) (fun k _ => ?_) (by omega) ?_
  · by_cases q : H (k / 1024) (k / 32 % 32) (k % 32) = true
    · rw [if_pos q, if_pos (by simp [q])]; exact Nat.le_refl _
    · rw [if_neg q]; exact Nat.zero_le _
  · rw [e1, e2, e3, if_neg (hd n a b hw), if_pos (by simp [hw])]
    omega
/-- a part looks at a lower stratum, or at none, or is plain -/
theorem semi {ρs : Nat → Nat → Nat} {c s i a b : Nat} {lv : Nat → Nat} {H0 L H : Nat → Nat → Nat → Bool} (hlv : pfx (bND ρs c) (bSD ρs c) lv) (hok : okR (ρs i)) (hi : i < c) (hsf : sf (ρs i)) (hs : lv (ρs i 0) = s) (ha : a < 32) (hb : b < 32)
    (hH : ∀ n a b, n < 16 → a < 32 → b < 32 → (H n a b = true ↔ H0 n a b = true ∨ L n a b = true)) (hL : ∀ n a b, n < 16 → a < 32 → b < 32 → (L n a b = true ↔ NEW ρs c lv H0 s n a b)) :
    (¬ H (ρs i 0) a b = true ∧ HD (fun _ => H) (ρs i) a b) ↔ (¬ H (ρs i 0) a b = true ∧ ρs i 3 = 0 ∧ ∃ p, p < ρs i 5 ∧ ρs i (10 + 4 * p) = 3 ∧ (∃ a' b', a' < 32 ∧ b' < 32 ∧ L (ρs i (11 + 4 * p)) a' b' = true) ∧ HD (fun q => if nI q = nI p then L else H) (ρs i) a b) := by
  have h0 := hok.1.1
  -- facts of lower strata are the same
  have low : ∀ p, p < ρs i 5 → (ρs i (10 + 4 * p) = 4 ∨ (ρs i (10 + 4 * p) = 3 ∧ ¬ ρs i 3 = 0)) → ∀ x y, x < 32 → y < 32 → H (ρs i (11 + 4 * p)) x y = H0 (ρs i (11 + 4 * p)) x y := by
    intro p hp hk x y hx hy
    have hm := (hok.2 p hp).1
    have nd : bND ρs c (ρs i 0) (ρs i (11 + 4 * p)) = true := bND_t.mpr ⟨i, hi, hsf, rfl, p, hp, by omega, rfl⟩
    have sd : bSD ρs c (ρs i 0) (ρs i (11 + 4 * p)) = true := bSD_t.mpr ⟨i, hi, hsf, rfl, p, hp, by omega, rfl, by omega⟩
    have := hlv _ _ h0 hm nd
    rw [if_pos sd] at this
    refine beq2 ((hH _ x y hm hx hy).trans ⟨fun z => ?_, Or.inl⟩)
    rcases z with z | z
    · exact z
    · obtain ⟨i', z1, z2, z3, z4, _⟩ := (hL _ x y hm hx hy).mp z
      omega
  refine and_congr_right (fun hno => ?_)
  have hno0 : ¬ H0 (ρs i 0) a b = true := fun z => hno ((hH _ a b h0 ha hb).mpr (Or.inl z))
  have noN : ¬ HD (fun _ => H0) (ρs i) a b := fun z => hno ((hH _ a b h0 ha hb).mpr (Or.inr ((hL _ a b h0 ha hb).mpr ⟨i, hi, hsf, rfl, hs, z, hno0⟩)))
  constructor
  · intro hd
    have k0 : ρs i 3 = 0 := by
      refine Classical.byContradiction (fun k => noN ?_)
      refine (HD_c (fun p w hp hw => ?_) a b).mp hd
      unfold pA
      by_cases q3 : ρs i (10 + 4 * p) = 3
      · rw [if_pos q3, if_pos q3]
        exact low p hp (Or.inr ⟨q3, k⟩) _ _ (iv_lt (hok.2 p hp).2.1 hw) (iv_lt (hok.2 p hp).2.2.1 hw)
      · rw [if_neg q3, if_neg q3]
        by_cases q4 : ρs i (10 + 4 * p) = 4
        · rw [if_pos q4, if_pos q4, low p hp (Or.inl q4) _ _ (iv_lt (hok.2 p hp).2.1 hw) (iv_lt (hok.2 p hp).2.2.1 hw)]
        · rw [if_neg q4, if_neg q4]
    refine ⟨k0, ?_⟩
    have hct : CT (fun _ => H) (ρs i) a b ≠ 0 := by
      rcases hd with z | z
      · exact z.2
      · exact absurd k0 z.1
    obtain ⟨w, hw, ⟨hp, hz⟩, he⟩ := (CT_ne0 hok).mp hct
    have hpa := ph_all.mp hp
    refine Classical.byContradiction (fun no => noN (Or.inl ⟨k0, (CT_ne0 hok).mpr ⟨w, hw, ⟨ph_all.mpr (fun p hp' => ?_), hz⟩, he⟩⟩))
    have hx := iv_lt (hok.2 p hp').2.1 hw
    have hy := iv_lt (hok.2 p hp').2.2.1 hw
    have hm := (hok.2 p hp').1
    have := hpa p hp'
    unfold pA at this ⊢
    by_cases q3 : ρs i (10 + 4 * p) = 3
    · rw [if_pos q3] at this ⊢
      rcases (hH _ _ _ hm hx hy).mp this with z | z
      · exact z
      · refine absurd ⟨p, hp', q3, ⟨_, _, hx, hy, z⟩, Or.inl ⟨k0, (CT_ne0 hok).mpr ⟨w, hw, ⟨ph_all.mpr (fun p2 hp2 => ?_), hz⟩, he⟩⟩⟩ no
        have old := hpa p2 hp2
        by_cases e : nI p2 = nI p
        · have e' : p2 = p := (nI_eq (by have := hok.1.2.2.2.1; omega) (by have := hok.1.2.2.2.1; omega)).mp e
          subst e'
          rw [if_pos rfl]
          unfold pA
          rw [if_pos q3]
          exact z
        · rw [if_neg e]; exact old
    · rw [if_neg q3] at this ⊢
      by_cases q4 : ρs i (10 + 4 * p) = 4
      · rw [if_pos q4] at this ⊢
        rw [← low p hp' (Or.inl q4) _ _ hx hy]; exact this
      · rw [if_neg q4] at this ⊢
        exact this
  · rintro ⟨k0, p, hp, q3, _, hd⟩
    have hct : CT (fun q => if nI q = nI p then L else H) (ρs i) a b ≠ 0 := by
      rcases hd with z | z
      · exact z.2
      · exact absurd k0 z.1
    obtain ⟨w, hw, ⟨hp', hz⟩, he⟩ := (CT_ne0 hok).mp hct
    have hpa := ph_all.mp hp'
    refine Or.inl ⟨k0, (CT_ne0 hok).mpr ⟨w, hw, ⟨ph_all.mpr (fun p2 hp2 => ?_), hz⟩, he⟩⟩
    have old := hpa p2 hp2
    by_cases e : nI p2 = nI p
    · have e' : p2 = p := (nI_eq (by have := hok.1.2.2.2.1; omega) (by have := hok.1.2.2.2.1; omega)).mp e
      subst e'
      rw [if_pos rfl] at old
      unfold pA at old ⊢
      rw [if_pos q3] at old ⊢
      exact (hH _ _ _ (hok.2 p2 hp2).1 (iv_lt (hok.2 p2 hp2).2.1 hw) (iv_lt (hok.2 p2 hp2).2.2.1 hw)).mpr (Or.inr old)
    · rw [if_neg e] at old; exact old

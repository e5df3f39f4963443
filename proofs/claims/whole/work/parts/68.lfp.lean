-- ===== STRATA: which name needs which; the least numbers =====
/-- Warshall's steps -/
def wst (R : Nat → Nat → Bool) (k : Nat) : Nat → Nat → Bool := fun n t => R n t || (R n k && R k t)
def wsh (R : Nat → Nat → Bool) : Nat → Nat → Nat → Bool
  | 0 => R
  | k + 1 => wst (wsh R k) k
theorem wst_t {R : Nat → Nat → Bool} {k n t : Nat} : wst R k n t = true ↔ R n t = true ∨ (R n k = true ∧ R k t = true) := by unfold wst; rw [Bool.or_eq_true, Bool.and_eq_true]
theorem wsh_mono {R : Nat → Nat → Bool} {n t : Nat} (h : R n t = true) : ∀ k, wsh R k n t = true
  | 0 => h
  | k + 1 => wst_t.mpr (Or.inl (wsh_mono h k))
theorem wsh_tr {R : Nat → Nat → Bool} : ∀ (k : Nat) {a b c : Nat}, b < k → wsh R k a b = true → wsh R k b c = true → wsh R k a c = true
  | 0, _, _, _, h, _, _ => absurd h (by omega)
  | k + 1, a, b, c, hb, h1, h2 => by
    have h1 := wst_t.mp h1
    have h2 := wst_t.mp h2
    refine wst_t.mpr ?_
    by_cases e : b = k
    · subst e
      have q1 : wsh R b a b = true := h1.elim id (fun z => z.1)
      have q2 : wsh R b b c = true := h2.elim id (fun z => z.2)
      exact Or.inr ⟨q1, q2⟩
    · have hb' : b < k := by omega
      rcases h1 with h1 | h1
      · rcases h2 with h2 | h2
        · exact Or.inl (wsh_tr k hb' h1 h2)
        · exact Or.inr ⟨wsh_tr k hb' h1 h2.1, h2.2⟩
      · rcases h2 with h2 | h2
        · exact Or.inr ⟨h1.1, wsh_tr k hb' h1.2 h2⟩
        · exact Or.inr ⟨h1.1, h2.2⟩
/-- a name that needs strictly something that needs it -/
def cyc (nd st : Nat → Nat → Bool) (n : Nat) : Prop := ∃ m, m < 16 ∧ st n m = true ∧ (m = n ∨ wsh nd 16 m n = true)
/-- numbers that obey all needs -/
def pfx (nd st : Nat → Nat → Bool) (f : Nat → Nat) : Prop := ∀ n m, n < 16 → m < 16 → nd n m = true → f m + (if st n m = true then 1 else 0) ≤ f n
/-- the least such numbers -/
def lfp (nd st : Nat → Nat → Bool) (f : Nat → Nat) : Prop := pfx nd st f ∧ ∀ g, pfx nd st g → ∀ n, n < 16 → f n ≤ g n
theorem lfp_uniq {nd st : Nat → Nat → Bool} {f g : Nat → Nat} (hf : lfp nd st f) (hg : lfp nd st g) {n : Nat} (hn : n < 16) : f n = g n := Nat.le_antisymm (hf.2 g hg.1 n hn) (hg.2 f hf.1 n hn)
theorem sg_le {f g : Nat → Nat} : ∀ {n : Nat}, (∀ i, i < n → f i ≤ g i) → sg_S f n ≤ sg_S g n
  | 0, _ => Nat.le_refl _
  | n + 1, h => Nat.add_le_add (sg_le (n := n) (fun i hi => h i (by omega))) (h n (by omega))
theorem sg_lt {f g : Nat → Nat} {k : Nat} : ∀ {n : Nat}, (∀ i, i < n → f i ≤ g i) → k < n → f k < g k → sg_S f n < sg_S g n
  | 0, _, hk, _ => absurd hk (by omega)
  | n + 1, h, hk, hl => by
    show sg_S f n + f n < sg_S g n + g n
    by_cases e : k = n
    · subst e
      have := sg_le (n := k) (fun i hi => h i (by omega))
      omega
    · have := sg_lt (n := n) (k := k) (fun i hi => h i (by omega)) (by omega) hl
      have := h n (by omega)
      omega
theorem sg_const (c : Nat) : ∀ n : Nat, sg_S (fun _ => c) n = c * n
  | 0 => rfl
  | n + 1 => by rw [sg_succ, sg_const c n, Nat.mul_succ]
/-- what n needs with a strict need on the way -/
def dw (nd st : Nat → Nat → Bool) (n t : Nat) : Prop := ∃ m m', (m < 16 ∧ m' < 16) ∧ (m = n ∨ wsh nd 16 n m = true) ∧ st m m' = true ∧ (t = m' ∨ wsh nd 16 m' t = true)
noncomputable def dn (nd st : Nat → Nat → Bool) (n : Nat) : Nat := sg_S (fun t => bi (dw nd st n t)) 16
theorem bi_le {p q : Prop} (h : p → q) : bi p ≤ bi q := by
  by_cases hp : p
  · rw [bi_t hp, bi_t (h hp)]; exact Nat.le_refl _
  · rw [bi_f hp]; exact Nat.zero_le _
theorem dw_self {nd st : Nat → Nat → Bool} {n : Nat} (hn : n < 16) (hc : ∀ m, m < 16 → ¬ cyc nd st m) : ¬ dw nd st n n := by
  rintro ⟨m, m', ⟨h1, h2⟩, h3, h4, h5⟩
  refine hc m h1 ⟨m', h2, h4, ?_⟩
  rcases h3 with h3 | h3
  · rcases h5 with h5 | h5
    · exact Or.inl (by omega)
    · rw [h3]; exact Or.inr h5
  · rcases h5 with h5 | h5
    · rw [← h5]; exact Or.inr h3
    · exact Or.inr (wsh_tr 16 hn h5 h3)
theorem dn_pfx {nd st : Nat → Nat → Bool} (hs : ∀ n m, st n m = true → nd n m = true) (hc : ∀ m, m < 16 → ¬ cyc nd st m) : pfx nd st (dn nd st) := by
  intro n m hn hm hnd
  have hR : wsh nd 16 n m = true := wsh_mono hnd 16
  have sub : ∀ t, dw nd st m t → dw nd st n t := by
    rintro t ⟨a, b, h1, h2, h3⟩
    refine ⟨a, b, h1, ?_, h3⟩
    rcases h2 with h2 | h2
    · rw [h2]; exact Or.inr hR
    · exact Or.inr (wsh_tr 16 hm hR h2)
  unfold dn
  by_cases q : st n m = true
  · rw [if_pos q]
    refine sg_lt (k := m) (fun t _ => bi_le (sub t)) hm ?_
    rw [bi_f (dw_self hm hc), bi_t]
    · omega
    · exact ⟨n, m, ⟨hn, hm⟩, Or.inl rfl, q, Or.inl rfl⟩
  · rw [if_neg q]
    exact sg_le (fun t _ => bi_le (sub t))
theorem dn_15 {nd st : Nat → Nat → Bool} (hc : ∀ m, m < 16 → ¬ cyc nd st m) {n : Nat} (hn : n < 16) : dn nd st n ≤ 15 := by
  have : dn nd st n < sg_S (fun _ => 1) 16 := by
    refine sg_lt (k := n) (fun t _ => ?_) hn ?_
    · by_cases q : dw nd st n t
      · rw [bi_t q]; exact Nat.le_refl _
      · rw [bi_f q]; exact Nat.zero_le _
    · rw [bi_f (dw_self hn hc)]; omega
  rw [sg_const] at this
  omega
/-- without a circle there are least numbers, all below 16 -/
theorem lfp_ex {nd st : Nat → Nat → Bool} (hs : ∀ n m, st n m = true → nd n m = true) (hc : ∀ m, m < 16 → ¬ cyc nd st m) : ∃ f, lfp nd st f ∧ ∀ n, n < 16 → f n ≤ 15 := by
  have ex : ∀ n, ∃ v, (∃ g, pfx nd st g ∧ g n = v) ∧ ∀ j, j < v → ¬ ∃ g, pfx nd st g ∧ g n = j := fun n => pk_least (fun v => ∃ g, pfx nd st g ∧ g n = v) ⟨_, dn nd st, dn_pfx hs hc, rfl⟩
  have le : ∀ g, pfx nd st g → ∀ n, Classical.choose (ex n) ≤ g n := by
    intro g hg n
    refine Nat.le_of_not_lt (fun z => ?_)
    exact (Classical.choose_spec (ex n)).2 _ z ⟨g, hg, rfl⟩
  refine ⟨fun n => Classical.choose (ex n), ⟨fun n m hn hm hnd => ?_, fun g hg n _ => le g hg n⟩, fun n hn => ?_⟩
  · obtain ⟨g, hg, e⟩ := (Classical.choose_spec (ex n)).1
    have h1 := hg n m hn hm hnd
    have h2 := le g hg m
    rw [e] at h1
    show Classical.choose (ex m) + _ ≤ Classical.choose (ex n)
    omega
  · exact Nat.le_trans (le _ (dn_pfx hs hc) n) (dn_15 hc hn)
/-- a sweep: numbers grow, and what is needed of the old ones is obeyed -/
def swp (nd st : Nat → Nat → Bool) (f l l' : Nat → Nat) : Prop := (∀ n, n < 16 → l n ≤ l' n ∧ l' n ≤ f n) ∧ ∀ n m, n < 16 → m < 16 → nd n m = true → l m + (if st n m = true then 1 else 0) ≤ l' n
/-- how many numbers are not there yet -/
def nf (f l : Nat → Nat) : Nat := sg_S (fun n => if l n < f n then 1 else 0) 16
theorem nf_0 {f l : Nat → Nat} (h : nf f l = 0) (hl : ∀ n, n < 16 → l n ≤ f n) {n : Nat} (hn : n < 16) : l n = f n := by
  have := sg_eq0.mp h n hn
  by_cases q : l n < f n
  · rw [if_pos q] at this; cases this
  · have := hl n hn; omega
theorem swp_less {nd st : Nat → Nat → Bool} {f l l' : Nat → Nat} (hf : lfp nd st f) (hl : ∀ n, n < 16 → l n ≤ f n) (h : swp nd st f l l') (h0 : nf f l ≠ 0) : nf f l' < nf f l := by
  have sub : ∀ n, n < 16 → (if l' n < f n then 1 else 0) ≤ (if l n < f n then 1 else 0) := by
    intro n hn
    have := (h.1 n hn).1
    by_cases q : l' n < f n
    · rw [if_pos q, if_pos (by omega)]; exact Nat.le_refl _
    · rw [if_neg q]; exact Nat.zero_le _
  refine Classical.byContradiction (fun z => ?_)
  have all : ∀ n, n < 16 → l n < f n → l' n < f n := by
    intro n hn hlt
    refine Classical.byContradiction (fun q => z ?_)
    refine sg_lt (k := n) sub hn ?_
    rw [if_neg q, if_pos hlt]; omega
  have g : pfx nd st (fun n => if l n < f n then f n - 1 else f n) := by
    intro n m hn hm hnd
    have hp := hf.1 n m hn hm hnd
    show (if l m < f m then f m - 1 else f m) + _ ≤ (if l n < f n then f n - 1 else f n)
    by_cases qn : l n < f n
    · rw [if_pos qn]
      by_cases qm : l m < f m
      · rw [if_pos qm]; omega
      · rw [if_neg qm]
        have e : l m = f m := by have := hl m hm; omega
        have h2 := h.2 n m hn hm hnd
        have h3 := all n hn qn
        rw [e] at h2
        omega
    · rw [if_neg qn]
      by_cases qm : l m < f m
      · rw [if_pos qm]; omega
      · rw [if_neg qm]; exact hp
  have : nf f l = 0 := sg_eq0.mpr (fun n hn => by
    by_cases q : l n < f n
    · have := hf.2 _ g n hn
      rw [if_pos q] at this
      omega
    · rw [if_neg q])
  exact h0 this
theorem nf_le (f l : Nat → Nat) : nf f l ≤ 16 := by
  have : nf f l ≤ sg_S (fun _ => 1) 16 := sg_le (fun n _ => by by_cases q : l n < f n <;> simp [q])
  rw [sg_const] at this
  omega

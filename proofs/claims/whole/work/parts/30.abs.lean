-- ===== ITEMS as numbers: 0 .. 31 the numbers, 32 .. 37 the variables =====
def jI (k : Nat) : Int32 := if k < 32 then nI k else -nI 1 - nI (k - 32)
theorem jI_n {k : Nat} (h : k < 32) : jI k = nI k := if_pos h
theorem jI_lt : ∀ k, k < 38 → (jI k < 0 ↔ 32 ≤ k) := by decide +kernel
theorem jI_le : ∀ k, k < 38 → (0 ≤ jI k ↔ k < 32) := by decide +kernel
theorem jI_var : ∀ k, k < 38 → 32 ≤ k → -nI 1 - jI k = nI (k - 32) := by decide +kernel
theorem jI_inj : ∀ a, a < 38 → ∀ b, b < 38 → (jI a = jI b ↔ a = b) := by decide +kernel
theorem jI_of {x : Int32} (h : ¬ (x < -nI 6 ∨ nI 32 ≤ x)) : ∃ k, k < 38 ∧ x = jI k := by
  by_cases q : x < 0
  · have h1 : -6 ≤ x.toInt := by
      have : ¬ x < -nI 6 := fun z => h (Or.inl z)
      rw [Int32.lt_iff_toInt_lt] at this
      have e : (-nI 6).toInt = -6 := by decide +kernel
      omega
    have h2 : x.toInt < 0 := by
      rw [Int32.lt_iff_toInt_lt] at q
      have e : (0 : Int32).toInt = 0 := by decide +kernel
      omega
    have : x.toInt = -1 ∨ x.toInt = -2 ∨ x.toInt = -3 ∨ x.toInt = -4 ∨ x.toInt = -5 ∨ x.toInt = -6 := by omega
    rcases this with e | e | e | e | e | e
    · exact ⟨32, by omega, Int32.toInt_inj.mp (e.trans (by decide +kernel))⟩
    · exact ⟨33, by omega, Int32.toInt_inj.mp (e.trans (by decide +kernel))⟩
    · exact ⟨34, by omega, Int32.toInt_inj.mp (e.trans (by decide +kernel))⟩
    · exact ⟨35, by omega, Int32.toInt_inj.mp (e.trans (by decide +kernel))⟩
    · exact ⟨36, by omega, Int32.toInt_inj.mp (e.trans (by decide +kernel))⟩
    · exact ⟨37, by omega, Int32.toInt_inj.mp (e.trans (by decide +kernel))⟩
  · obtain ⟨k, hk, e⟩ := jrng (x := x) (N := 32) (by omega) (fun z => z.elim q (fun y => h (Or.inr y)))
    exact ⟨k, by omega, by rw [jI_n hk]; exact e⟩
theorem jI_ok : ∀ k, k < 38 → ¬ (jI k < -nI 6 ∨ nI 32 ≤ jI k) := by decide +kernel
/-- what an item is when the variables have these numbers -/
def iv (w : Nat → Nat) (t : Nat) : Nat := if t < 32 then t else w (t - 32)

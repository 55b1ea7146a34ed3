/-! what an item says -/
theorem in_bd {v a b : Nat} (hv : v < 2147483648) (hb : b < 2147483648) (ha : a < 2147483648) : fX5_in (nI v) (nI a) (nI b) = some (1 : Int32) ↔ a ≤ v ∧ v ≤ b := by
  constructor
  · intro h
    by_cases c : nI v < nI a ∨ nI b < nI v
    · rw [e_in_bad c] at h
      exact absurd h (by decide)
    · rw [px_lt hv ha, px_lt hb hv] at c
      omega
  · rintro ⟨h1, h2⟩
    exact e_in hv hb h1 h2

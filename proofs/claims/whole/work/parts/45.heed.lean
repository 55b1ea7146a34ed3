/-! what an item says -/
theorem in_bd {v a b : Nat} (hv : v < 2147483648) (hb : b < 2147483648) (ha : a < 2147483648) : fX5_in (nI v) (nI a) (nI b) = some (1 : Int32) ↔ a ≤ v ∧ v ≤ b := by
  constructor
  · intro h
    by_cases c : nI v < nI a ∨ nI b < nI v
    · rw [e_in_bad c] at h
      exact absurd h (by decide)
    · rw [px_lt hv ha, px_lt hb hv] at c
      omega
  · rintro ⟨h1, h2⟩
    exact e_in hv hb h1 h2
theorem e_numC {L a mk : Nat} {rn : Int32} {tx : Nat → Nat} {f : Nat → Int32} (lo_ hi_ : Int32) (hL : L ≤ 200) (ha : a ≤ 900) (hmk : mk ≤ 126) (hT : TX L tx f) : (∃ v e, nmN L tx a mk = some (v, e) ∧ fX5_in (nI v) lo_ hi_ = some (1 : Int32) ∧ fX5_number (nI L) (nI a) rn f lo_ hi_ (nI mk) = some ((1 : Int32), nI e, nI v)) ∨ ((∀ v e, nmN L tx a mk = some (v, e) → ¬ fX5_in (nI v) lo_ hi_ = some (1 : Int32)) ∧ ∃ at' num', fX5_number (nI L) (nI a) rn f lo_ hi_ (nI mk) = some ((0 : Int32), at', num')) := by
  obtain ⟨at', num', h1, h2⟩ := e_number (rn := rn) lo_ hi_ hL ha hmk hT
  have hq := numOk_nm (L := L) (a := a) (mk := mk) (tx := tx) lo_ hi_
  match hn : nmN L tx a mk with
  | none =>
    rw [hn] at hq
    dsimp only at hq
    rw [hq] at h1
    exact Or.inr ⟨fun v e z => absurd z (by simp), at', num', h1⟩
  | some (v, e) =>
    rw [hn] at hq
    dsimp only at hq
    by_cases hi : fX5_in (nI v) lo_ hi_ = some (1 : Int32)
    · rw [if_pos hi] at hq
      have h3 := h2 v e hq
      rw [hq, h3.1, h3.2] at h1
      exact Or.inl ⟨v, e, rfl, hi, h1⟩
    · rw [if_neg hi] at hq
      rw [hq] at h1
      refine Or.inr ⟨fun v' e' z => ?_, at', num', h1⟩
      simp only [Option.some.injEq, Prod.mk.injEq] at z
      rw [← z.1]
      exact hi

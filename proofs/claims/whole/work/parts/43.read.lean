/-! reading the text -/
theorem ch_ok : ∀ c, c < 127 → vp_nar .char (nI c) = nI c := by decide +kernel
def TX (L : Nat) (tx : Nat → Nat) (f : Nat → Int32) : Prop := ∀ k, k < L → f k = nI (tx k) ∧ 32 ≤ tx k ∧ tx k ≤ 126
def ltC (L : Nat) (tx : Nat → Nat) (a : Nat) : Nat := if a < L then tx a else 32
def ltM (L : Nat) (tx : Nat → Nat) (a : Nat) : Nat := if a < L then tx a else 0
theorem e_letterAt {L a : Nat} {tx : Nat → Nat} {f : Nat → Int32} (hL : L ≤ 200) (ha : a ≤ 1000) (hT : TX L tx f) : fX2_letterAt (nI L) f (nI a) = some (nI (ltC L tx a)) := by
  unfold fX2_letterAt ltC
  rw [if_neg (by rw [px_lt0 (by omega)]; exact id)]
  by_cases h : a < L
  · have hx := hT a h
    rw [if_neg (by rw [px_le (by omega) (by omega)]; omega), n_200, if_neg (by rw [px_le (by omega) (by omega)]; omega), px_rd (by omega) (by omega), hx.1, if_pos h]
    unfold sx_ok8
    rw [if_pos (ch_ok _ (by omega))]
  · rw [if_pos (by rw [px_le (by omega) (by omega)]; omega), if_neg h, n_32]
theorem e_here {L a : Nat} {tx : Nat → Nat} {f : Nat → Int32} (hL : L ≤ 200) (ha : a ≤ 1000) (hT : TX L tx f) : fX5_here (nI L) (nI a) f = some (nI (ltM L tx a)) := by
  unfold fX5_here ltM
  by_cases h : a < L
  · rw [if_neg (by rw [px_le (by omega) (by omega)]; omega), px_rd (by omega) (by omega), (hT a h).1, if_pos h]
  · rw [if_pos (by rw [px_le (by omega) (by omega)]; omega), if_neg h, n_0]
def figB (L : Nat) (tx : Nat → Nat) (a : Nat) : Bool := decide (a < L ∧ 48 ≤ tx a ∧ tx a ≤ 57)
theorem fig_y {L a : Nat} {tx : Nat → Nat} (h : figB L tx a = true) : a < L ∧ 48 ≤ tx a ∧ tx a ≤ 57 := of_decide_eq_true h
theorem fig_n {L a : Nat} {tx : Nat → Nat} (h : ¬ figB L tx a = true) : ¬ (a < L ∧ 48 ≤ tx a ∧ tx a ≤ 57) := fun z => h (decide_eq_true z)
theorem e_isFigure {L a : Nat} {tx : Nat → Nat} {f : Nat → Int32} (hL : L ≤ 200) (ha : a ≤ 1000) (hT : TX L tx f) : fX5_isFigure (nI L) (nI a) f = some (if figB L tx a = true then (1 : Int32) else 0) := by
  unfold fX5_isFigure
  rw [e_here hL ha hT, px_bd, n_48, n_57]
  unfold ltM
  by_cases h : figB L tx a = true
  · have hy := fig_y h
    rw [if_pos hy.1, if_pos h, e_in (by omega) (by omega) hy.2.1 hy.2.2, px_bd]
  · have hn := fig_n h
    rw [if_neg h]
    by_cases hl : a < L
    · have hx := hT a hl
      rw [if_pos hl, e_in_bad (by rw [px_lt (by omega) (by omega), px_lt (by omega) (by omega)]; omega), px_bd]
    · rw [if_neg hl, e_in_bad (by rw [px_lt (by omega) (by omega), px_lt (by omega) (by omega)]; omega), px_bd]
/-- a number of one figure or two, and where it ends -/
def numN (L : Nat) (tx : Nat → Nat) (a : Nat) : Option (Nat × Nat) :=
  if figB L tx a = true then (if figB L tx (a + 1) = true then some (10 * (tx a - 48) + (tx (a + 1) - 48), a + 2) else some (tx a - 48, a + 1)) else none
theorem numN_b {L a v b : Nat} {tx : Nat → Nat} (h : numN L tx a = some (v, b)) : v ≤ 99 ∧ a < b ∧ b ≤ a + 2 ∧ b ≤ L := by
  unfold numN at h
  by_cases h1 : figB L tx a = true
  · have y1 := fig_y h1
    rw [if_pos h1] at h
    by_cases h2 : figB L tx (a + 1) = true
    · have y2 := fig_y h2
      rw [if_pos h2] at h
      simp only [Option.some.injEq, Prod.mk.injEq] at h
      omega
    · rw [if_neg h2] at h
      simp only [Option.some.injEq, Prod.mk.injEq] at h
      omega
  · rw [if_neg h1] at h
    exact absurd h (by simp)
theorem e_readNumber {L a : Nat} {tx : Nat → Nat} {f : Nat → Int32} (hL : L ≤ 200) (ha : a ≤ 900) (hT : TX L tx f) : fX2_readNumber (nI L) (nI a) f = some (match numN L tx a with | none => ((-1 : Int32), nI a) | some (v, b) => (nI v, nI b)) := by
  have key : ∀ c, c ≤ 1000 → (figB L tx c = true → nI (ltC L tx c) - (48 : Int32) = nI (tx c - 48) ∧ tx c - 48 ≤ 9) ∧ (¬ figB L tx c = true → (nI (ltC L tx c) - (48 : Int32) < 0 ∨ (¬ nI (ltC L tx c) - (48 : Int32) < 0 ∧ ¬ nI (ltC L tx c) - (48 : Int32) ≤ (9 : Int32)))) := by
    intro c hc
    constructor
    · intro h
      have hy := fig_y h
      unfold ltC
      rw [if_pos hy.1, n_48, px_sub hy.2.1]
      exact ⟨rfl, by omega⟩
    · intro h
      have hn := fig_n h
      have hb : ltC L tx c ≤ 126 ∧ ¬ (48 ≤ ltC L tx c ∧ ltC L tx c ≤ 57) := by
        unfold ltC
        by_cases hl : c < L
        · have := hT c hl
          rw [if_pos hl]; omega
        · rw [if_neg hl]; omega
      rcases Nat.lt_or_ge (ltC L tx c) 48 with h1 | h1
      · exact Or.inl (by rw [n_48]; exact px_neg_lt h1 (by omega))
      · refine Or.inr ?_
        rw [n_48, px_sub h1, n_9]
        exact ⟨by rw [px_lt0 (by omega)]; exact id, by rw [px_le (by omega) (by omega)]; omega⟩
  unfold fX2_readNumber numN
  rw [e_letterAt hL (by omega) hT, px_bd, px_slt]
  by_cases h1 : figB L tx a = true
  · obtain ⟨k1, k2⟩ := (key a (by omega)).1 h1
    rw [k1, if_neg (by rw [px_lt0 (by omega)]; exact id), n_9, if_pos (by rw [px_le (by omega) (by omega)]; omega), n_1, nI_add, px_slt, e_letterAt hL (by omega) hT, px_bd, px_slt, if_pos h1]
    by_cases h2 : figB L tx (a + 1) = true
    · obtain ⟨m1, m2⟩ := (key (a + 1) (by omega)).1 h2
      rw [m1, if_neg (by rw [px_lt0 (by omega)]; exact id), if_pos (by rw [px_le (by omega) (by omega)]; omega), nI_add, px_slt, n_10, pk_mul, nI_add, if_pos h2]
    · rw [if_neg h2]
      rcases (key (a + 1) (by omega)).2 h2 with m | ⟨m, m2⟩
      · rw [if_pos m]
      · rw [n_9] at m2
        rw [if_neg m, if_neg m2]
  · rw [if_neg h1]
    rcases (key a (by omega)).2 h1 with m | ⟨m, m2⟩
    · rw [if_pos m]
    · rw [if_neg m, if_neg m2]
theorem in_01 (v a b : Int32) : fX5_in v a b = some (0 : Int32) ∨ fX5_in v a b = some (1 : Int32) := by
  by_cases h : v < a ∨ b < v
  · exact Or.inl (e_in_bad h)
  · refine Or.inr ?_
    unfold fX5_in
    rw [if_neg (fun z => h (Or.inl z)), if_neg (fun z => h (Or.inr z))]
/-- a number with its mark behind it, in its bounds -/
def numOk (L : Nat) (tx : Nat → Nat) (a : Nat) (lo_ hi_ : Int32) (mk : Nat) : Option (Nat × Nat) :=
  match numN L tx a with
  | none => none
  | some (v, b) => if ltM L tx b = mk ∧ fX5_in (nI v) lo_ hi_ = some (1 : Int32) then some (v, b + 1) else none
theorem e_number {L a mk : Nat} {rn : Int32} {tx : Nat → Nat} {f : Nat → Int32} (lo_ hi_ : Int32) (hL : L ≤ 200) (ha : a ≤ 900) (hmk : mk ≤ 126) (hT : TX L tx f) : ∃ at' num', fX5_number (nI L) (nI a) rn f lo_ hi_ (nI mk) = some ((if (numOk L tx a lo_ hi_ mk).isSome = true then (1 : Int32) else 0), at', num') ∧ ∀ v b, numOk L tx a lo_ hi_ mk = some (v, b) → at' = nI b ∧ num' = nI v := by
  have hlm : ∀ c, ltM L tx c ≤ 126 := by
    intro c
    unfold ltM
    by_cases hl : c < L
    · rw [if_pos hl]; exact (hT c hl).2.2
    · rw [if_neg hl]; omega
  have j60 : ∀ v b, b ≤ 950 → ∃ at' num', jX5_number_60 (nI L) (nI b) f lo_ hi_ (nI mk) (nI v) = some ((if (if ltM L tx b = mk ∧ fX5_in (nI v) lo_ hi_ = some (1 : Int32) then some (v, b + 1) else none : Option (Nat × Nat)).isSome = true then (1 : Int32) else 0), at', num') ∧ ∀ v' b', (if ltM L tx b = mk ∧ fX5_in (nI v) lo_ hi_ = some (1 : Int32) then some (v, b + 1) else none : Option (Nat × Nat)) = some (v', b') → at' = nI b' ∧ num' = nI v' := by
    intro v b hb
    have hm := hlm b
    unfold jX5_number_60
    rw [e_here hL (by omega) hT, px_bd, show nI b + (1 : Int32) = nI (b + 1) from nI_1 b, px_slt]
    by_cases h1 : ltM L tx b = mk
    · rw [if_pos ((px_eq (by omega) (by omega)).mpr h1)]
      rcases in_01 (nI v) lo_ hi_ with h2 | h2
      · rw [h2, px_bd, if_pos rfl, if_neg (show ¬ (ltM L tx b = mk ∧ some (0 : Int32) = some (1 : Int32)) from fun z => absurd z.2 (by decide))]
        exact ⟨_, _, rfl, fun v' b' z => absurd z (by simp)⟩
      · rw [h2, px_bd, if_neg (show ¬ (1 : Int32) = 0 from i01), if_pos (show ltM L tx b = mk ∧ some (1 : Int32) = some (1 : Int32) from ⟨h1, rfl⟩)]
        refine ⟨_, _, rfl, fun v' b' z => ?_⟩
        simp only [Option.some.injEq, Prod.mk.injEq] at z
        rw [z.1, z.2]
        exact ⟨rfl, rfl⟩
    · rw [if_neg (fun z => h1 ((px_eq (by omega) (by omega)).mp z)), if_neg (show ¬ (ltM L tx b = mk ∧ fX5_in (nI v) lo_ hi_ = some (1 : Int32)) from fun z => h1 z.1)]
      exact ⟨_, _, rfl, fun v' b' z => absurd z (by simp)⟩
  unfold fX5_number numOk numN
  rw [e_isFigure hL (by omega) hT, px_bd]
  by_cases h1 : figB L tx a = true
  · have y1 := fig_y h1
    rw [if_pos h1, if_pos h1, if_neg i01, e_here hL (by omega) hT, px_bd, show ltM L tx a = tx a from if_pos y1.1, n_48, px_sub y1.2.1, px_slt, show nI a + (1 : Int32) = nI (a + 1) from nI_1 a, px_slt, e_isFigure hL (by omega) hT, px_bd]
    by_cases h2 : figB L tx (a + 1) = true
    · have y2 := fig_y h2
      rw [if_pos h2, if_pos h2, if_neg i01, e_here hL (by omega) hT, px_bd, show ltM L tx (a + 1) = tx (a + 1) from if_pos y2.1, n_10, pk_mul, nI_add, px_sub (by omega), px_slt, show nI (a + 1) + (1 : Int32) = nI (a + 2) from nI_1 (a + 1), px_slt, show 10 * (tx a - 48) + tx (a + 1) - 48 = 10 * (tx a - 48) + (tx (a + 1) - 48) by omega]
      exact j60 _ (a + 2) (by omega)
    · rw [if_neg h2, if_neg h2, if_pos rfl]
      exact j60 _ (a + 1) (by omega)
  · rw [if_neg h1, if_neg h1, if_pos rfl]
    exact ⟨_, _, rfl, fun v b z => absurd z (by simp)⟩

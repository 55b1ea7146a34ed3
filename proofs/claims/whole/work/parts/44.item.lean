/-! an item of the text -/
def nmN (L : Nat) (tx : Nat → Nat) (a mk : Nat) : Option (Nat × Nat) :=
  match numN L tx a with
  | none => none
  | some (v, b) => if ltM L tx b = mk then some (v, b + 1) else none
theorem lt_CM {L b mk : Nat} {tx : Nat → Nat} (h : mk = 44 ∨ mk = 59) : ltC L tx b = mk ↔ ltM L tx b = mk := by
  unfold ltC ltM
  by_cases hl : b < L
  · rw [if_pos hl, if_pos hl]
  · rw [if_neg hl, if_neg hl]; omega
theorem ltC_le {L : Nat} {tx : Nat → Nat} {f : Nat → Int32} (hT : TX L tx f) (c : Nat) : ltC L tx c ≤ 126 := by
  unfold ltC
  by_cases hl : c < L
  · rw [if_pos hl]; exact (hT c hl).2.2
  · rw [if_neg hl]; omega
theorem nmN_b {L a mk v b : Nat} {tx : Nat → Nat} (hmk : mk = 44 ∨ mk = 59) (h : nmN L tx a mk = some (v, b)) : v ≤ 99 ∧ a < b ∧ b ≤ a + 3 ∧ b ≤ L := by
  unfold nmN at h
  match hn : numN L tx a with
  | none => rw [hn] at h; exact absurd h (by simp)
  | some (v', b') =>
    rw [hn] at h
    have hb := numN_b hn
    dsimp only at h
    by_cases hm : ltM L tx b' = mk
    · rw [if_pos hm] at h
      simp only [Option.some.injEq, Prod.mk.injEq] at h
      have hl : b' < L := by
        rcases Nat.lt_or_ge b' L with h1 | h1
        · exact h1
        · unfold ltM at hm
          rw [if_neg (by omega)] at hm
          omega
      omega
    · rw [if_neg hm] at h
      exact absurd h (by simp)
theorem numOk_nm {L a mk : Nat} {tx : Nat → Nat} (lo_ hi_ : Int32) : numOk L tx a lo_ hi_ mk = match nmN L tx a mk with | none => none | some (v, b) => if fX5_in (nI v) lo_ hi_ = some (1 : Int32) then some (v, b) else none := by
  unfold numOk nmN
  match numN L tx a with
  | none => rfl
  | some (v, b) =>
    dsimp only
    by_cases h1 : ltM L tx b = mk
    · rw [if_pos h1]
      dsimp only
      by_cases h2 : fX5_in (nI v) lo_ hi_ = some (1 : Int32)
      · rw [if_pos h2, if_pos ⟨h1, h2⟩]
      · rw [if_neg h2, if_neg (fun z => h2 z.2)]
    · rw [if_neg h1, if_neg (fun z => h1 z.1)]
theorem e_item1 {L a n i : Nat} {tx : Nat → Nat} {f g : Nat → Int32} (hL : L ≤ 200) (ha : a ≤ 900) (hT : TX L tx f) (hi : i < n) (hn : n ≤ 3) : ∃ at' g', bX2_readItem_24 (nI L) f (nI n) (nI i, nI a, g) = match nmN L tx a (if n ≤ i + 1 then 59 else 44) with | none => some (.inr (.inl (at', g'))) | some (v, b) => some (.inl (nI (i + 1), nI b, upd g i (nI v))) := by
  have hmk : (if n ≤ i + 1 then 59 else 44) = 44 ∨ (if n ≤ i + 1 then 59 else 44) = 59 := by split <;> omega
  have j58 : ∀ mk, mk = 44 ∨ mk = 59 → ∃ at' g', ((fX2_readNumber (nI L) (nI a) f).bind fun (x4, o5) => sx_wr g 3 (nI i) x4 fun g6 => jX2_readItem_58 (nI L) o5 f g6 (nI i) (nI mk)) = match nmN L tx a mk with | none => some (.inr (.inl (at', g'))) | some (v, b) => some (.inl (nI (i + 1), nI b, upd g i (nI v))) := by
    intro mk hm
    rw [e_readNumber hL ha hT, px_bd]
    unfold nmN
    match hn2 : numN L tx a with
    | none =>
      dsimp only
      unfold jX2_readItem_58
      rw [px_wr (by omega) (by omega), px_rd (by omega) (by omega), px_upd_s, if_pos (by decide)]
      exact ⟨_, _, rfl⟩
    | some (v, b) =>
      have hb := numN_b hn2
      have hc := ltC_le hT b
      dsimp only
      unfold jX2_readItem_58
      rw [px_wr (by omega) (by omega), px_rd (by omega) (by omega), px_upd_s, if_neg (by rw [px_lt0 (by omega)]; exact id), e_letterAt hL (by omega) hT, px_bd, n_1, nI_add, nI_add, px_slt]
      by_cases h : ltM L tx b = mk
      · rw [if_pos ((px_eq (by omega) (by omega)).mpr ((lt_CM hm).mpr h)), if_pos h]
        exact ⟨nI 0, g, rfl⟩
      · rw [if_neg (fun z => h ((lt_CM hm).mp ((px_eq (by omega) (by omega)).mp z))), if_neg h]
        exact ⟨_, _, rfl⟩
  obtain ⟨at', g', h⟩ := j58 _ hmk
  refine ⟨at', g', ?_⟩
  rw [← h]
  unfold bX2_readItem_24
  dsimp only
  rw [if_neg (by rw [px_le (by omega) (by omega)]; omega), n_3, if_neg (by rw [px_le (by omega) (by omega)]; omega), n_59, n_44, show nI i + (1 : Int32) = nI (i + 1) from nI_1 i]
  by_cases hl : n ≤ i + 1
  · simp only [if_pos ((px_le (show n < 2147483648 by omega) (show i + 1 < 2147483648 by omega)).mpr hl), if_pos hl]
  · simp only [if_neg (fun z => hl ((px_le (show n < 2147483648 by omega) (show i + 1 < 2147483648 by omega)).mp z)), if_neg hl]

/-! an item of the text -/
def nmN (L : Nat) (tx : Nat → Nat) (a mk : Nat) : Option (Nat × Nat) :=
  match numN L tx a with
  | none => none
  | some (v, b) => if ltM L tx b = mk then some (v, b + 1) else none
theorem lt_CM {L b mk : Nat} {tx : Nat → Nat} (h : mk = 44 ∨ mk = 59) : ltC L tx b = mk ↔ ltM L tx b = mk := by
  unfold ltC ltM
  by_cases hl : b < L
  · rw [if_pos hl, if_pos hl]
  · rw [if_neg hl, if_neg hl]; omega
theorem ltC_le {L : Nat} {tx : Nat → Nat} {f : Nat → Int32} (hT : TX L tx f) (c : Nat) : ltC L tx c ≤ 126 := by
  unfold ltC
  by_cases hl : c < L
  · rw [if_pos hl]; exact (hT c hl).2.2
  · rw [if_neg hl]; omega
theorem nmN_b {L a mk v b : Nat} {tx : Nat → Nat} (hmk : mk = 44 ∨ mk = 59) (h : nmN L tx a mk = some (v, b)) : v ≤ 99 ∧ a < b ∧ b ≤ a + 3 ∧ b ≤ L := by
  unfold nmN at h
  match hn : numN L tx a with
  | none => rw [hn] at h; exact absurd h (by simp)
  | some (v', b') =>
    rw [hn] at h
    have hb := numN_b hn
    dsimp only at h
    by_cases hm : ltM L tx b' = mk
    · rw [if_pos hm] at h
      simp only [Option.some.injEq, Prod.mk.injEq] at h
      have hl : b' < L := by
        rcases Nat.lt_or_ge b' L with h1 | h1
        · exact h1
        · unfold ltM at hm
          rw [if_neg (by omega)] at hm
          omega
      omega
    · rw [if_neg hm] at h
      exact absurd h (by simp)
theorem numOk_nm {L a mk : Nat} {tx : Nat → Nat} (lo_ hi_ : Int32) : numOk L tx a lo_ hi_ mk = match nmN L tx a mk with | none => none | some (v, b) => if fX5_in (nI v) lo_ hi_ = some (1 : Int32) then some (v, b) else none := by
  unfold numOk nmN
  match numN L tx a with
  | none => rfl
  | some (v, b) =>
    dsimp only
    by_cases h1 : ltM L tx b = mk
    · rw [if_pos h1]
      dsimp only
      by_cases h2 : fX5_in (nI v) lo_ hi_ = some (1 : Int32)
      · rw [if_pos h2, if_pos ⟨h1, h2⟩]
      · rw [if_neg h2, if_neg (fun z => h2 z.2)]
    · rw [if_neg h1, if_neg (fun z => h1 z.1)]
theorem e_item1 {L a n i : Nat} {tx : Nat → Nat} {f g : Nat → Int32} (hL : L ≤ 200) (ha : a ≤ 900) (hT : TX L tx f) (hi : i < n) (hn : n ≤ 3) : ∃ at' g', bX2_readItem_24 (nI L) f (nI n) (nI i, nI a, g) = match nmN L tx a (if n ≤ i + 1 then 59 else 44) with | none => some (.inr (.inl (at', g'))) | some (v, b) => some (.inl (nI (i + 1), nI b, upd g i (nI v))) := by
  have hmk : (if n ≤ i + 1 then 59 else 44) = 44 ∨ (if n ≤ i + 1 then 59 else 44) = 59 := by split <;> omega
  have j58 : ∀ mk, mk = 44 ∨ mk = 59 → ∃ at' g', ((fX2_readNumber (nI L) (nI a) f).bind fun (x4, o5) => sx_wr g 3 (nI i) x4 fun g6 => jX2_readItem_58 (nI L) o5 f g6 (nI i) (nI mk)) = match nmN L tx a mk with | none => some (.inr (.inl (at', g'))) | some (v, b) => some (.inl (nI (i + 1), nI b, upd g i (nI v))) := by
    intro mk hm
    rw [e_readNumber hL ha hT, px_bd]
    unfold nmN
    match hn2 : numN L tx a with
    | none =>
      dsimp only
      unfold jX2_readItem_58
      rw [px_wr (by omega) (by omega), px_rd (by omega) (by omega), px_upd_s, if_pos (by decide)]
      exact ⟨_, _, rfl⟩
    | some (v, b) =>
      have hb := numN_b hn2
      have hc := ltC_le hT b
      dsimp only
      unfold jX2_readItem_58
      rw [px_wr (by omega) (by omega), px_rd (by omega) (by omega), px_upd_s, if_neg (by rw [px_lt0 (by omega)]; exact id), e_letterAt hL (by omega) hT, px_bd, n_1, nI_add, nI_add, px_slt]
      by_cases h : ltM L tx b = mk
      · rw [if_pos ((px_eq (by omega) (by omega)).mpr ((lt_CM hm).mpr h)), if_pos h]
        exact ⟨nI 0, g, rfl⟩
      · rw [if_neg (fun z => h ((lt_CM hm).mp ((px_eq (by omega) (by omega)).mp z))), if_neg h]
        exact ⟨_, _, rfl⟩
  obtain ⟨at', g', h⟩ := j58 _ hmk
  refine ⟨at', g', ?_⟩
  rw [← h]
  unfold bX2_readItem_24
  dsimp only
  rw [if_neg (by rw [px_le (by omega) (by omega)]; omega), n_3, if_neg (by rw [px_le (by omega) (by omega)]; omega), n_59, n_44, show nI i + (1 : Int32) = nI (i + 1) from nI_1 i]
  by_cases hl : n ≤ i + 1
  · simp only [if_pos ((px_le (show n < 2147483648 by omega) (show i + 1 < 2147483648 by omega)).mpr hl), if_pos hl]
  · simp only [if_neg (fun z => hl ((px_le (show n < 2147483648 by omega) (show i + 1 < 2147483648 by omega)).mp z)), if_neg hl]
/-- k numbers behind an item's letter: commas between, a semicolon last -/
def sqN (L : Nat) (tx : Nat → Nat) : Nat → Nat → Option (List Nat × Nat)
  | 0, a => some ([], a)
  | k + 1, a => match nmN L tx a (if k = 0 then 59 else 44) with
    | none => none
    | some (v, b) => match sqN L tx k b with
      | none => none
      | some (vs, e) => some (v :: vs, e)
theorem e_seq {L n : Nat} {tx : Nat → Nat} {f : Nat → Int32} (hL : L ≤ 200) (hT : TX L tx f) (hn : n ≤ 3) : ∀ (k i a m : Nat) (g : Nat → Int32), i + k = n → a ≤ 900 → k < m → (sqN L tx k a = none → ∃ at' g', sx_it m (bX2_readItem_24 (nI L) f (nI n)) (nI i, nI a, g) = some (.inl (at', g'))) ∧ (∀ vs e, sqN L tx k a = some (vs, e) → ∃ g', sx_it m (bX2_readItem_24 (nI L) f (nI n)) (nI i, nI a, g) = some (.inr (nI e, g')) ∧ (∀ j, j < i → g' j = g j) ∧ (∀ j, j < k → g' (i + j) = nI (vs.getD j 0)))
  | 0, i, a, 0, g, _, _, hm => absurd hm (Nat.lt_irrefl _)
  | k + 1, i, a, 0, g, _, _, hm => absurd hm (Nat.not_lt_zero _)
  | 0, i, a, m + 1, g, hik, ha, hm => by
    refine ⟨fun z => absurd z (by simp [sqN]), fun vs e z => ?_⟩
    simp only [sqN, Option.some.injEq, Prod.mk.injEq] at z
    refine ⟨g, ?_, fun j _ => rfl, fun j hj => by omega⟩
    unfold sx_it bX2_readItem_24
    dsimp only
    rw [if_pos (by rw [px_le (by omega) (by omega)]; omega), z.2]
  | k + 1, i, a, m + 1, g, hik, ha, hm => by
    obtain ⟨at', g', h⟩ := e_item1 (g := g) hL ha hT (show i < n by omega) hn
    have hmk : (if n ≤ i + 1 then 59 else 44) = (if k = 0 then 59 else 44) := by
      by_cases h0 : k = 0
      · rw [if_pos h0, if_pos (by omega)]
      · rw [if_neg h0, if_neg (by omega)]
    rw [hmk] at h
    unfold sqN
    match hq : nmN L tx a (if k = 0 then 59 else 44) with
    | none =>
      rw [hq] at h
      dsimp only at h ⊢
      refine ⟨fun _ => ⟨at', g', ?_⟩, fun vs e z => absurd z (by simp)⟩
      unfold sx_it
      rw [h]
    | some (v, b) =>
      rw [hq] at h
      dsimp only at h ⊢
      have hb := nmN_b (by split <;> omega) hq
      obtain ⟨i1, i2⟩ := e_seq hL hT hn k (i + 1) b m (upd g i (nI v)) (by omega) (by omega) (by omega)
      match hs : sqN L tx k b with
      | none =>
        dsimp only
        obtain ⟨a2, g2, e2⟩ := i1 hs
        refine ⟨fun _ => ⟨a2, g2, ?_⟩, fun vs e z => absurd z (by simp)⟩
        unfold sx_it
        rw [h]
        exact e2
      | some (vs, e) =>
        dsimp only
        obtain ⟨g2, e2, e3, e4⟩ := i2 vs e hs
        refine ⟨fun z => absurd z (by simp), fun vs' e' z => ?_⟩
        simp only [Option.some.injEq, Prod.mk.injEq] at z
        refine ⟨g2, ?_, fun j hj => ?_, fun j hj => ?_⟩
        · unfold sx_it
          rw [h, ← z.2]
          exact e2
        · rw [e3 j (by omega), px_upd_n (by omega)]
        · rw [← z.1]
          cases j with
          | zero => rw [Nat.add_zero, e3 i (by omega), px_upd_s]; rfl
          | succ j =>
            have := e4 j (by omega)
            rw [show i + (j + 1) = i + 1 + j by omega, this]
            rfl
def nbN (c : Nat) : Nat := if c = 111 then 3 else if c = 119 then 1 else if c = 112 then 2 else if c = 115 then 2 else 0
theorem e_nb : ∀ c, c < 127 → fX2_numbersBehind (nI c) = some (nI (nbN c)) := by decide +kernel
theorem nbN_le (c : Nat) : nbN c ≤ 3 := by unfold nbN; split <;> (try split) <;> (try split) <;> (try split) <;> omega
/-- an item: how many numbers, which, and where it ends -/
def itN (L : Nat) (tx : Nat → Nat) (a : Nat) : Option (List Nat × Nat) := if nbN (ltC L tx a) = 0 then none else sqN L tx (nbN (ltC L tx a)) (a + 1)
theorem e_readItem {L a : Nat} {tx : Nat → Nat} {f g : Nat → Int32} (hL : L ≤ 200) (ha : a ≤ 800) (hT : TX L tx f) : (itN L tx a = none → ∃ at' g', fX2_readItem (nI L) (nI a) f g = some ((0 : Int32), at', g')) ∧ (∀ vs e, itN L tx a = some (vs, e) → ∃ g', fX2_readItem (nI L) (nI a) f g = some ((1 : Int32), nI e, g') ∧ ∀ j, j < nbN (ltC L tx a) → g' j = nI (vs.getD j 0)) := by
  have hc := ltC_le hT a
  have hn := nbN_le (ltC L tx a)
  obtain ⟨s1, s2⟩ := e_seq hL hT hn (nbN (ltC L tx a)) 0 (a + 1) 1000 g (by omega) (by omega) (by omega)
  have hr : fX2_readItem (nI L) (nI a) f g = (sx_it 1000 (bX2_readItem_24 (nI L) f (nI (nbN (ltC L tx a)))) (nI 0, nI (a + 1), g)).bind fun y10 => match y10 with
    | .inl (w11, w12) => some ((0 : Int32), w11, w12)
    | .inr ((w13, w14)) => if nI (nbN (ltC L tx a)) ≤ 0 then some ((0 : Int32), w13, w14) else some ((1 : Int32), w13, w14) := by
    unfold fX2_readItem
    rw [e_letterAt hL (by omega) hT, px_bd, e_nb _ (by omega), px_bd, show nI a + (1 : Int32) = nI (a + 1) from nI_1 a, px_slt]
    rfl
  unfold itN
  by_cases h0 : nbN (ltC L tx a) = 0
  · rw [if_pos h0]
    refine ⟨fun _ => ?_, fun vs e z => absurd z (by simp)⟩
    obtain ⟨g', e1, _⟩ := s2 [] (a + 1) (by rw [h0]; rfl)
    rw [hr, e1, px_bd]
    dsimp only
    rw [h0, if_pos (by decide)]
    exact ⟨_, _, rfl⟩
  · rw [if_neg h0]
    refine ⟨fun z => ?_, fun vs e z => ?_⟩
    · obtain ⟨at', g', e1⟩ := s1 z
      rw [hr, e1, px_bd]
      exact ⟨_, _, rfl⟩
    · obtain ⟨g', e1, _, e3⟩ := s2 vs e z
      rw [hr, e1, px_bd]
      dsimp only
      rw [if_neg (by rw [n_0, px_le (by omega) (by omega)]; omega)]
      refine ⟨_, rfl, fun j hj => ?_⟩
      have := e3 j hj
      rwa [Nat.zero_add] at this

/-! alike: the first pair -/
/-- the reference's inner loop: b from N - 1 down, j of them done -/
def fIv (F : Nat → Nat) (N a : Nat) (z : Int32) : Nat → Int32
  | 0 => z
  | j + 1 => if F a = F (N - 1 - j) then nI (10 * a + (N - 1 - j)) else fIv F N a z j
def fOv (F : Nat → Nat) (N : Nat) : Nat → Int32
  | 0 => -4
  | i + 1 => fIv F N (N - 1 - i) (fOv F N i) i
theorem fIv_none {F : Nat → Nat} {N a : Nat} {z : Int32} : ∀ j, j ≤ N → (∀ b, N - j ≤ b → b < N → F a ≠ F b) → fIv F N a z j = z
  | 0, _, _ => rfl
  | j + 1, hj, h => by
    unfold fIv
    rw [if_neg (h (N - 1 - j) (by omega) (by omega))]
    exact fIv_none j (by omega) (fun b h1 h2 => h b (by omega) h2)
theorem fIv_some {F : Nat → Nat} {N a b0 : Nat} {z : Int32} (hb : b0 < N) (he : F a = F b0) : ∀ j, j ≤ N → N - j ≤ b0 → (∀ b, N - j ≤ b → b < b0 → F a ≠ F b) → fIv F N a z j = nI (10 * a + b0)
  | 0, _, h0, _ => by omega
  | j + 1, hj, h0, h => by
    unfold fIv
    by_cases e : N - 1 - j = b0
    · rw [e, if_pos he]
    · rw [if_neg (h (N - 1 - j) (by omega) (by omega))]
      exact fIv_some hb he j (by omega) (by omega) (fun b h1 h2 => h b (by omega) h2)
theorem fOv_none {F : Nat → Nat} {N : Nat} : ∀ i, i ≤ N → (∀ a b, N - i ≤ a → a < b → b < N → F a ≠ F b) → fOv F N i = -4
  | 0, _, _ => rfl
  | i + 1, hi, h => by
    unfold fOv
    rw [fOv_none i (by omega) (fun a b h1 h2 h3 => h a b (by omega) h2 h3)]
    exact fIv_none i (by omega) (fun b h1 h2 => h _ b (by omega) (by omega) h2)
theorem fOv_some {F : Nat → Nat} {N a0 b0 : Nat} (hab : a0 < b0) (hb : b0 < N) (he : F a0 = F b0) (hmin : ∀ b, a0 < b → b < b0 → F a0 ≠ F b) : ∀ i, i ≤ N → N - i ≤ a0 → (∀ a b, N - i ≤ a → a < a0 → a < b → b < N → F a ≠ F b) → fOv F N i = nI (10 * a0 + b0)
  | 0, _, h0, _ => by omega
  | i + 1, hi, h0, h => by
    unfold fOv
    by_cases e : N - 1 - i = a0
    · rw [e]
      exact fIv_some hb he i (by omega) (by omega) (fun b h1 h2 => hmin b (by omega) h2)
    · rw [fIv_none i (by omega) (fun b h1 h2 => h _ b (by omega) (by omega) (by omega) h2)]
      exact fOv_some hab hb he hmin i (by omega) (by omega) (fun a b h1 h2 h3 h4 => h a b (by omega) h2 h3 h4)
theorem e_mFirst {N : Nat} {pinned : Nat → Int32} {P : Nat → Nat} (h1 : 1 ≤ N) (hN : N ≤ 6) (hP : PI pinned P) (hB : PB P) {τ : Type} (Fn : Int32 → Option τ) : (sx_it 1000 (bX5_alike_21 (nI N) pinned) ((-4 : Int32), nI N - 1)).bind Fn = Fn (fOv (lk P) N N) := by
  have hm : ∀ k, nI k + (-1 : Int32) = nI k - 1 := fun k => by
    rw [Int32.sub_eq_add_neg]
  refine px_lp (fun i => (fOv (lk P) N i, nI N - nI (i + 1))) N _ rfl (by omega) ?_ ?_ rfl
  · intro i hi
    unfold bX5_alike_21
    dsimp only
    rw [px_sub (by omega), if_neg (px_lt0 (by omega)).mp, px_slt, n_1, px_sub (by omega)]
    refine px_lp (fun j => (fIv (lk P) N (N - 1 - i) (fOv (lk P) N i) j, nI (N - 1 - j))) i (fOv (lk P) N (i + 1)) rfl (by omega) ?_ ?_ ?_
    · intro j hj
      have f1 := lk_lt P (N - 1 - i)
      have f2 := lk_lt P (N - 1 - j)
      unfold bX5_alike_33
      dsimp only
      rw [show N - (i + 1) = N - 1 - i by omega, e_looks hP hB (by omega), px_bd, e_looks hP hB (by omega), px_bd, if_neg (by rw [px_le (by omega) (by omega)]; omega), px_slt, hm, n_1, px_sub (by omega), n_10, pk_mul, nI_add]
      rw [show fIv (lk P) N (N - 1 - i) (fOv (lk P) N i) (j + 1) = if lk P (N - 1 - i) = lk P (N - 1 - j) then nI (10 * (N - 1 - i) + (N - 1 - j)) else fIv (lk P) N (N - 1 - i) (fOv (lk P) N i) j from rfl]
      rw [show N - 1 - j - 1 = N - 1 - (j + 1) by omega]
      by_cases h : lk P (N - 1 - i) = lk P (N - 1 - j)
      · rw [if_pos (by rw [h]), if_pos h]
      · rw [if_neg (by rw [px_eq (by omega) (by omega)]; exact h), if_neg h]
    · unfold bX5_alike_33
      dsimp only
      rw [if_pos (by rw [px_le (by omega) (by omega)]; omega)]
      rfl
    · rw [← n_1, hm, n_1]
      congr 3
      by_cases e : i + 1 = N
      · subst e
        rw [Nat.sub_self]
        have key : ∀ i, i < 6 → nI 0 - nI 1 = nI (i + 1) - nI (i + 1 + 1) := by decide +kernel
        exact key i (by omega)
      · rw [px_sub (by omega), px_sub (by omega)]
        rfl
  · unfold bX5_alike_21
    dsimp only
    rw [if_pos (px_neg_lt (by omega) (by omega))]
theorem e_firstPair {N : Nat} {faces : Nat → Int32} {F : Nat → Nat} (hN : N ≤ 6) (hF : FI faces F) : fX4_firstPairAlike (nI N) faces = some (fOv F N N) := by
  have inner : ∀ a, a < N → (∀ {τ : Type} (Fn : Int32 ⊕ Unit → Option τ), (∀ b, a < b → b < N → F a ≠ F b) → (sx_it 1000 (bX4_firstPairAlike_17 (nI N) faces (nI a)) (nI (a + 1))).bind Fn = Fn (.inr ())) ∧ (∀ {τ : Type} (Fn : Int32 ⊕ Unit → Option τ) (b0 : Nat), a < b0 → b0 < N → F a = F b0 → (∀ b, a < b → b < b0 → F a ≠ F b) → (sx_it 1000 (bX4_firstPairAlike_17 (nI N) faces (nI a)) (nI (a + 1))).bind Fn = Fn (.inl (nI b0))) := by
    intro a ha
    have f1 := hF a (by omega)
    have stp : ∀ j, a + 1 + j < N → F a ≠ F (a + 1 + j) → bX4_firstPairAlike_17 (nI N) faces (nI a) (nI (a + 1 + j)) = some (.inl (nI (a + 1 + (j + 1)))) := by
      intro j hj hne
      have f2 := hF (a + 1 + j) (by omega)
      unfold bX4_firstPairAlike_17
      simp (disch := omega) only [n_0, n_1, n_2, n_3, n_4, n_5, n_6, n_7, n_8, n_9, n_10, n_12, n_16, n_20, n_30, n_31, n_32, n_35, n_36, n_41, n_42, n_44, n_48, n_57, n_59, n_60, n_63, n_64, n_99, n_111, n_112, n_115, n_119, n_126, n_200, n_294, n_512, n_999, n_9999, n_1048576, px_bd, px_slt, px_rd, px_wr, px_cp, px_nz, px_lt, px_le, px_eq, nI_add, pk_mul, px_sub, px_or, px_and, px_xor, px_shl1, px_shr, f1.1, f2.1]
      rw [if_neg (by omega), if_neg hne]
      rfl
    refine ⟨?_, ?_⟩
    · intro τ Fn h
      refine px_lp (fun j => nI (a + 1 + j)) (N - 1 - a) _ rfl (by omega) (fun j hj => stp j (by omega) (h _ (by omega) (by omega))) ?_ rfl
      unfold bX4_firstPairAlike_17
      rw [if_pos (by rw [px_le (by omega) (by omega)]; omega)]
    · intro τ Fn b0 h1 h2 h3 h4
      refine px_lp (fun j => nI (a + 1 + j)) (b0 - 1 - a) _ rfl (by omega) (fun j hj => stp j (by omega) (h4 _ (by omega) (by omega))) ?_ rfl
      have f2 := hF b0 (by omega)
      rw [show a + 1 + (b0 - 1 - a) = b0 by omega]
      unfold bX4_firstPairAlike_17
      simp (disch := omega) only [n_0, n_1, n_2, n_3, n_4, n_5, n_6, n_7, n_8, n_9, n_10, n_12, n_16, n_20, n_30, n_31, n_32, n_35, n_36, n_41, n_42, n_44, n_48, n_57, n_59, n_60, n_63, n_64, n_99, n_111, n_112, n_115, n_119, n_126, n_200, n_294, n_512, n_999, n_9999, n_1048576, px_bd, px_slt, px_rd, px_wr, px_cp, px_nz, px_lt, px_le, px_eq, nI_add, pk_mul, px_sub, px_or, px_and, px_xor, px_shl1, px_shr, f1.1, f2.1]
      rw [if_neg (by omega), if_pos h3]
  unfold fX4_firstPairAlike
  by_cases hex : ∃ a, ∃ b, a < b ∧ b < N ∧ F a = F b
  · obtain ⟨a0, ⟨b1, hb1⟩, hmin⟩ := pk_least _ hex
    obtain ⟨b0, ⟨q1, q2, q3⟩, hminb⟩ := pk_least _ (⟨b1, hb1⟩ : ∃ b, a0 < b ∧ b < N ∧ F a0 = F b)
    rw [fOv_some q1 q2 q3 (fun b h1 h2 z => hminb b h2 ⟨h1, by omega, z⟩) N (Nat.le_refl N) (by omega) (fun a b h1 h2 h3 h4 z => hmin a h2 ⟨b, h3, h4, z⟩)]
    refine px_lp (fun a => nI a) a0 (.inl (nI a0, nI b0)) rfl (by omega) ?_ ?_ ?_
    · intro a ha
      unfold bX4_firstPairAlike_2
      rw [if_neg (by rw [px_le (by omega) (by omega)]; omega), n_1, nI_add, px_slt]
      exact (inner a (by omega)).1 _ (fun b h1 h2 z => hmin a ha ⟨b, h1, h2, z⟩)
    · unfold bX4_firstPairAlike_2
      rw [if_neg (by rw [px_le (by omega) (by omega)]; omega), n_1, nI_add, px_slt]
      exact (inner a0 (by omega)).2 _ b0 q1 q2 q3 (fun b h1 h2 z => hminb b h2 ⟨h1, by omega, z⟩)
    · dsimp only
      rw [n_10, pk_mul, nI_add]
  · rw [fOv_none N (Nat.le_refl N) (fun a b h1 h2 h3 z => hex ⟨a, b, h2, h3, z⟩)]
    refine px_lp (fun a => nI a) N (.inr ()) rfl (by omega) ?_ ?_ rfl
    · intro a ha
      unfold bX4_firstPairAlike_2
      rw [if_neg (by rw [px_le (by omega) (by omega)]; omega), n_1, nI_add, px_slt]
      exact (inner a (by omega)).1 _ (fun b h1 h2 z => hex ⟨a, b, h1, h2, z⟩)
    · unfold bX4_firstPairAlike_2
      rw [if_pos (by rw [px_le (by omega) (by omega)]; omega)]
theorem op_alike {N : Nat} {now faces pinned stored guides : Nat → Int32} {year : Int32} {A : AS} (h1 : 1 ≤ N) (hN : N ≤ 6) (hD : RDs N now pinned stored guides year A) (v : Int32) : ∃ r f, fX4_alike (nI N) now faces v = some (r, f) ∧ fX5_alike (nI N) pinned v = some r := by
  have hB := hD.2.2.1.1
  obtain ⟨f, f1, f2⟩ := e_lookAt (faces := faces) hD.1.1 hB
  unfold fX4_alike fX5_alike
  rw [f1, px_bd, px_slt, e_mFirst h1 hN hD.2.1.1 hB, e_mPairs hN hD.2.1.1 hB, px_bd, n_31, e_pairsAlike hN f2 (by omega), px_bd, e_firstPair hN f2, px_bd]
  rcases e_01Q v with rfl | rfl | ⟨q1, q2⟩
  · rw [e_zo0, e_in01_0, px_bd, px_bd, if_neg i01, if_neg i01, if_pos n_0.symm, if_pos n_0.symm]
    exact ⟨_, _, rfl, rfl⟩
  · rw [e_zo1, e_in01_1, px_bd, px_bd, if_neg i01, if_neg i01, if_neg (by decide), if_neg (by decide)]
    exact ⟨_, _, rfl, rfl⟩
  · rw [q1, q2, px_bd, px_bd, if_pos rfl, if_pos rfl]
    exact ⟨_, _, rfl, rfl⟩
/-! known -/
/-- the lowest peak that looks so, N: none -/
def kn (N : Nat) (P : Nat → Nat) (g : Int32) : Nat := lo (fun q => if nI (lk P q) = g then 1 else 0) 0 N
def knv (N : Nat) (P : Nat → Nat) (g : Int32) : Int32 := if kn N P g < N then nI (kn N P g) else -4
theorem kn_no {N : Nat} {P : Nat → Nat} {g : Int32} {q : Nat} (h : q < kn N P g) : ¬ nI (lk P q) = g := by
  intro z
  have := lo_z _ N 0 q h
  rw [Nat.zero_add, if_pos z] at this
  omega
theorem kn_yes {N : Nat} {P : Nat → Nat} {g : Int32} (h : kn N P g < N) : nI (lk P (kn N P g)) = g := by
  have := lo_nz _ N 0 h
  rw [Nat.zero_add] at this
  by_cases e : nI (lk P (kn N P g)) = g
  · exact e
  · exact absurd (by show (if nI (lk P (kn N P g)) = g then 1 else 0) = 0; rw [if_neg e]) this
theorem kn_le (N : Nat) (P : Nat → Nat) (g : Int32) : kn N P g ≤ N := lo_le _ N 0
theorem e_knownBy {N : Nat} {c : Nat → Int32} {P : Nat → Nat} (hN : N ≤ 6) (hP : PI c P) (hB : PB P) (g : Int32) : fX4_knownBy (nI N) c g = some (knv N P g) := by
  have hl := kn_le N P g
  unfold fX4_knownBy
  refine px_lp (fun q => nI q) (kn N P g) (if kn N P g < N then .inl (nI (kn N P g)) else .inr ()) rfl (by omega) ?_ ?_ ?_
  · intro q hq
    unfold bX4_knownBy_2
    rw [if_neg (by rw [px_le (by omega) (by omega)]; omega), e_looksOf hP hB (by omega), px_bd, if_neg (kn_no hq), n_1, nI_add]
  · unfold bX4_knownBy_2
    by_cases h : kn N P g < N
    · rw [if_pos h, if_neg (by rw [px_le (by omega) (by omega)]; omega), e_looksOf hP hB (by omega), px_bd, if_pos (kn_yes h)]
    · rw [if_neg h, if_pos (by rw [px_le (by omega) (by omega)]; omega)]
  · unfold knv
    by_cases h : kn N P g < N
    · rw [if_pos h, if_pos h]
    · rw [if_neg h, if_neg h]
theorem e_mKnownBy {N p : Nat} {c guides : Nat → Int32} {P : Nat → Nat} (hN : N ≤ 6) (hP : PI c P) (hB : PB P) (hp : p < 6) : fX5_knownBy (nI N) c guides (nI p) = some (knv N P (guides p)) := by
  have hl := kn_le N P (guides p)
  unfold fX5_knownBy
  refine px_lp (fun q => nI q) (kn N P (guides p)) (nI (kn N P (guides p))) rfl (by omega) ?_ ?_ ?_
  · intro q hq
    unfold bX5_knownBy_2
    rw [if_neg (by rw [px_le (by omega) (by omega)]; omega), e_looks hP hB (by omega), px_bd, px_rd (by omega) (by omega), if_neg (kn_no hq), n_1, nI_add]
  · unfold bX5_knownBy_2
    by_cases h : kn N P (guides p) < N
    · rw [if_neg (by rw [px_le (by omega) (by omega)]; omega), e_looks hP hB (by omega), px_bd, px_rd (by omega) (by omega), if_pos (kn_yes h)]
    · rw [if_pos (by rw [px_le (by omega) (by omega)]; omega)]
  · unfold knv
    by_cases h : kn N P (guides p) < N
    · rw [if_pos h, if_neg (by rw [px_le (by omega) (by omega)]; omega)]
    · rw [if_neg h, if_pos (by rw [px_le (by omega) (by omega)]; omega)]
theorem op_known {N : Nat} {now pinned stored guides : Nat → Int32} {year : Int32} {A : AS} (h1 : 1 ≤ N) (hN : N ≤ 6) (hD : RDs N now pinned stored guides year A) (v : Int32) : ∃ r, fX4_known (nI N) now v = some r ∧ fX5_known (nI N) pinned guides v = some r := by
  unfold fX4_known fX5_known
  rcases e_peakQ h1 hN v with ⟨p, hp, rfl⟩ | ⟨q1, q2⟩
  · rw [e_isPeak hN hp, e_mPeak hN hp, px_bd, px_bd, if_neg (by decide), if_neg i01, e_guideOf _ (by omega), px_bd, e_knownBy hN hD.1.1 hD.2.2.1.1, px_bd, e_mKnownBy hN hD.2.1.1 hD.2.2.1.1 (by omega), px_bd, hD.1.2.2.1 p (by omega), hD.2.1.2.2.1 p hp]
    exact ⟨_, rfl, rfl⟩
  · rw [q1, q2, px_bd, px_bd, if_pos rfl, if_pos rfl]
    exact ⟨_, rfl, rfl⟩

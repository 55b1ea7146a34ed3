/-! light -/
/-- what a peak beside takes of the light -/
def shN (N : Nat) (ht : Nat → Int32) (P : Nat → Nat) (p k : Nat) : Nat := if k < N ∧ ¬ ht k ≤ ht p ∧ P (5 * k + 3) ≠ 0 then 3 else 0
theorem shN_le (N : Nat) (ht : Nat → Int32) (P : Nat → Nat) (p k : Nat) : shN N ht P p k ≤ 3 := by unfold shN; split <;> omega
theorem e_heightOf {N p : Nat} {heights : Nat → Int32} (hN : N ≤ 6) (hp : p < N) : fX1_heightOf (nI N) heights (nI p) = some (heights p) := by
  unfold fX1_heightOf
  rw [e_isPeak hN hp, px_bd, if_neg (by decide), px_rd (by omega) (by omega)]
theorem e_shade {N p k : Nat} {heights now : Nat → Int32} {P : Nat → Nat} (hN : N ≤ 6) (hP : PI now P) (hB : PB P) (hp : p < N) (hk : k ≤ 6) : fX4_shadeBy (nI N) heights now (nI k) (nI p) = some (nI (shN N heights P p k)) := by
  unfold fX4_shadeBy jX4_shadeBy_46 jX4_shadeBy_47
  rw [if_pos rfl, if_neg i01]
  by_cases h : k < N
  · rw [e_isPeak hN h, px_bd, if_neg (by decide), e_heightOf hN h, px_bd, e_heightOf hN hp, px_bd, n_3, e_isOn hP hB (by omega) (by omega), px_bd]
    unfold shN
    by_cases h2 : heights k ≤ heights p
    · rw [if_pos h2, if_neg (fun z => z.2.1 h2)]
      rfl
    · rw [if_neg h2]
      by_cases h3 : P (5 * k + 3) = 0
      · rw [if_pos h3, if_pos (by decide), if_neg (fun z => z.2.2 h3)]
        rfl
      · rw [if_neg h3, if_neg (by decide), if_pos ⟨h, h2, h3⟩]
  · have : fX1_isPeak (nI N) (nI k) = some (0 : Int32) := by
      unfold fX1_isPeak
      rw [if_neg (nI_pos (by omega)), if_pos (by rw [px_le (by omega) (by omega)]; omega)]
    rw [this, px_bd, if_pos rfl]
    unfold shN
    rw [if_neg (fun z => h z.1)]
    rfl
theorem e_shadeM {N p : Nat} {heights now : Nat → Int32} : fX4_shadeBy (nI N) heights now (-1 : Int32) (nI p) = some (nI 0) := by
  unfold fX4_shadeBy jX4_shadeBy_46 jX4_shadeBy_47
  have : fX1_isPeak (nI N) (-1 : Int32) = some (0 : Int32) := by
    unfold fX1_isPeak
    rw [if_pos (by decide)]
  rw [this, px_bd, if_pos rfl, if_pos rfl]
  rfl
def lgU (N : Nat) (ht : Nat → Int32) (P : Nat → Nat) (p j : Nat) : Nat := 12 - (if 1 ≤ p ∧ p - 1 < j then shN N ht P p (p - 1) else 0) - (if p + 1 < j then shN N ht P p (p + 1) else 0)
theorem e_lightC {N p : Nat} {heights now : Nat → Int32} {P : Nat → Nat} (hN : N ≤ 6) (hP : PI now P) (hB : PB P) (hp : p < N) : fX4_lightOf (nI N) heights now (nI p) = some (nI (lgU N heights P p N)) := by
  have s1 := shN_le N heights P p (p - 1)
  have s2 := shN_le N heights P p (p + 1)
  have hlast : (if p + 1 < N then shN N heights P p (p + 1) else 0) = shN N heights P p (p + 1) := by
    by_cases h : p + 1 < N
    · rw [if_pos h]
    · rw [if_neg h]
      unfold shN
      rw [if_neg (fun z => h z.1)]
  unfold fX4_lightOf lgU
  rw [hlast, show nI p + 1 = nI (p + 1) from nI_1 p, e_shade (k := p + 1) hN hP hB hp (by omega)]
  by_cases h0 : p = 0
  · subst h0
    rw [show nI 0 - 1 = (-1 : Int32) from by decide, e_shadeM, px_bd, px_bd, if_neg (by omega), n_12, px_sub (by omega), px_sub (by omega)]
  · rw [n_1, px_sub (by omega), e_shade (k := p - 1) hN hP hB hp (by omega), px_bd, px_bd, if_pos (by omega), n_12, px_sub (by omega), px_sub (by omega)]
theorem e_lightM {N p : Nat} {highs pinned : Nat → Int32} {P : Nat → Nat} (hN : N ≤ 6) (hP : PI pinned P) (hB : PB P) (hp : p < N) : fX5_light (nI N) highs pinned (nI p) = some (nI (lgU N highs P p N)) := by
  have s1 := shN_le N highs P p (p - 1)
  have s2 := shN_le N highs P p (p + 1)
  unfold fX5_light
  refine px_lp (fun j => (nI (lgU N highs P p j), nI j)) N _ ?_ (by omega) ?_ ?_ rfl
  · unfold lgU
    rw [if_neg (by omega), if_neg (by omega)]
    rfl
  · intro j hj
    have hl := lk_lt P j
    have hk := lk_bit P j (t := 3) (by omega)
    have hlg : ∀ i, 6 ≤ lgU N highs P p i := fun i => by
      unfold lgU
      split <;> split <;> omega
    have hg := hlg j
    have J1 : jX5_light_27 highs pinned (nI p) (nI (lgU N highs P p j)) (nI j) = some (Sum.inl (nI (lgU N highs P p j - shN N highs P p j), nI (j + 1))) := by
      unfold jX5_light_27 jX5_light_32
      rw [if_neg i01, px_rd (by omega) (by omega), px_rd (by omega) (by omega), e_looks hP hB (by omega), px_bd, n_3, e_has (by omega) (by omega), px_bd, hk, px_slt, px_slt, show nI j + 1 = nI (j + 1) from nI_1 j, n_0, px_sub (by omega), px_sub (by omega)]
      unfold shN
      by_cases h2 : highs j ≤ highs p
      · rw [if_pos h2, if_neg (fun z => z.2.1 h2)]
      · rw [if_neg h2]
        by_cases h3 : P (5 * j + 3) = 0
        · rw [if_pos h3, if_pos (show (if (0 : Nat) = 1 then (1 : Int32) else nI 0) = nI 0 by decide), if_neg (fun z => z.2.2 h3)]
        · rw [if_neg h3, if_neg (show ¬ (if (1 : Nat) = 1 then (1 : Int32) else nI 0) = nI 0 by decide), if_pos ⟨hj, h2, h3⟩]
    have J2 : jX5_light_32 highs pinned (nI p) (nI (lgU N highs P p j)) (nI j) (0 : Int32) = some (Sum.inl (nI (lgU N highs P p j), nI (j + 1))) := by
      unfold jX5_light_32
      rw [if_pos rfl, px_slt, n_0, px_sub (by omega), show nI j + 1 = nI (j + 1) from nI_1 j]
      rfl
    unfold bX5_light_5
    dsimp only
    rw [if_neg (by rw [px_le (by omega) (by omega)]; omega), J1, J2, show nI p + 1 = nI (p + 1) from nI_1 p]
    have c2 : nI j = nI (p + 1) ↔ j = p + 1 := px_eq (by omega) (by omega)
    have c1 : nI j = nI p - 1 ↔ (1 ≤ p ∧ j = p - 1) := by
      by_cases h0 : p = 0
      · subst h0
        rw [show nI 0 - 1 = -nI 1 from by decide]
        exact ⟨fun z => ((px_neg 1 (by omega) (by omega) (by omega)).mp z).elim, fun z => by omega⟩
      · rw [n_1, px_sub (by omega), px_eq (by omega) (by omega)]
        exact ⟨fun z => ⟨by omega, z⟩, fun z => z.2⟩
    by_cases h1 : 1 ≤ p ∧ j = p - 1
    · rw [if_pos (c1.mpr h1)]
      congr 4
      unfold lgU
      rw [if_neg (by omega), if_neg (by omega), if_pos (by omega), if_neg (by omega), h1.2]
      omega
    · rw [if_neg (fun z => h1 (c1.mp z))]
      by_cases h2 : j = p + 1
      · rw [if_pos (c2.mpr h2)]
        congr 4
        unfold lgU
        have e1 : (1 ≤ p ∧ p - 1 < j) ↔ (1 ≤ p ∧ p - 1 < j + 1) := by omega
        rw [if_neg (show ¬ p + 1 < j by omega), if_pos (show p + 1 < j + 1 by omega)]
        by_cases h3 : 1 ≤ p
        · rw [if_pos (by omega), if_pos (by omega), h2]; omega
        · rw [if_neg (by omega), if_neg (by omega), h2]
      · rw [if_neg (fun z => h2 (c2.mp z))]
        congr 4
        unfold lgU
        have e1 : (if 1 ≤ p ∧ p - 1 < j then shN N highs P p (p - 1) else 0) = (if 1 ≤ p ∧ p - 1 < j + 1 then shN N highs P p (p - 1) else 0) := by
          by_cases h3 : 1 ≤ p ∧ p - 1 < j
          · rw [if_pos h3, if_pos (by omega)]
          · rw [if_neg h3, if_neg (by omega)]
        have e2 : (if p + 1 < j then shN N highs P p (p + 1) else 0) = (if p + 1 < j + 1 then shN N highs P p (p + 1) else 0) := by
          by_cases h3 : p + 1 < j
          · rw [if_pos h3, if_pos (by omega)]
          · rw [if_neg h3, if_neg (by omega)]
        rw [e1, e2]
  · unfold bX5_light_5
    dsimp only
    rw [if_pos (by rw [px_le (by omega) (by omega)]; omega)]
theorem lgU_cong {N p j : Nat} {h g : Nat → Int32} {P : Nat → Nat} (hp : p < N) (e : ∀ k, k < N → h k = g k) : lgU N h P p j = lgU N g P p j := by
  have hs : ∀ k, shN N h P p k = shN N g P p k := by
    intro k
    unfold shN
    by_cases hk : k < N
    · rw [e k hk, e p hp]
    · rw [if_neg (fun z => hk z.1), if_neg (fun z => hk z.1)]
  unfold lgU
  rw [hs, hs]
theorem op_peak {N Wn : Nat} {kd wv : Nat → Nat} {kinds winds kindOf mwinds heights highs now pinned stored guides : Nat → Int32} {year : Int32} {A : AS} (hR : RR2 N kd Wn wv kinds winds kindOf mwinds) (hH : ∀ p, p < N → heights p = highs p) (hD : RDs N now pinned stored guides year A) (v w : Int32) : ∃ r, fX4_peak (nI N) (nI Wn) kinds heights winds now v w = some r ∧ fX5_peak (nI N) (nI Wn) year kindOf highs mwinds pinned guides v w = some r := by
  obtain ⟨h1, hN, hWn, hK, hK2, hW, hW2⟩ := hR
  have hB := hD.2.2.1.1
  have hy := hD.2.2.2
  unfold fX4_peak fX5_peak
  rcases e_peakQ h1 hN v with ⟨p, hp, rfl⟩ | ⟨q1, q2⟩
  · rw [e_isPeak hN hp, e_mPeak hN hp, px_bd, px_bd, if_neg (by decide), if_neg i01, e_kindOf hN hK hp, px_bd, e_heightOf hN hp, px_bd, e_looksOf hD.1.1 hB (by omega), px_bd, e_guideOf _ (by omega), px_bd, e_yearNow, px_bd, hD.1.2.2.2, hD.2.1.2.2.2, e_windIn hWn hW (by omega), px_bd, e_forceAt hN hK hp (wnd_le hW), px_bd, e_lightC hN hD.1.1 hB hp, px_bd, px_rd (by omega) (by omega), px_rd (by omega) (by omega), px_rd (by omega) (by omega), e_looks hD.2.1.1 hB (by omega), px_bd, e_windOf hWn hW2 (by omega), px_bd, e_forceBy hN hK2 hp (wnd_le hW2), px_bd, e_lightM hN hD.2.1.1 hB hp, px_bd, (hK2 p hp).1, hH p hp, hD.1.2.2.1 p (by omega), hD.2.1.2.2.1 p hp, lgU_cong hp hH]
    rcases px_rng w 0 5 (by omega) (by omega) with h | h | ⟨j, j1, j2, rfl⟩
    · have h : w < (0 : Int32) := h
      rw [e_in_bad (Or.inl h), px_bd, if_pos rfl]
      refine ⟨-1, ?_, rfl⟩
      have hne : ∀ k : Nat, k < 10 → ¬ w = nI k := fun k hk z => by
        subst z
        exact nI_pos (by omega) h
      rw [if_neg (show ¬ w = (0 : Int32) from hne 0 (by omega)), if_neg (show ¬ w = (1 : Int32) from hne 1 (by omega)), if_neg (show ¬ w = (2 : Int32) from hne 2 (by omega)), if_neg (show ¬ w = (3 : Int32) from hne 3 (by omega)), if_neg (show ¬ w = (4 : Int32) from hne 4 (by omega)), if_neg (show ¬ w = (5 : Int32) from hne 5 (by omega))]
    · have h : (5 : Int32) < w := h
      rw [e_in_bad (Or.inr h), px_bd, if_pos rfl]
      refine ⟨-1, ?_, rfl⟩
      have hne : ∀ k : Nat, k < 6 → ¬ w = nI k := fun k hk z => by
        subst z
        rw [n_5, px_lt (by omega) (by omega)] at h
        omega
      rw [if_neg (show ¬ w = (0 : Int32) from hne 0 (by omega)), if_neg (show ¬ w = (1 : Int32) from hne 1 (by omega)), if_neg (show ¬ w = (2 : Int32) from hne 2 (by omega)), if_neg (show ¬ w = (3 : Int32) from hne 3 (by omega)), if_neg (show ¬ w = (4 : Int32) from hne 4 (by omega)), if_neg (show ¬ w = (5 : Int32) from hne 5 (by omega))]
    · have e5 : fX5_in (nI j) (0 : Int32) (5 : Int32) = some (1 : Int32) := e_in (j := j) (a := 0) (b := 5) (by omega) (by omega) j1 j2
      rw [e5, px_bd, if_neg i01]
      have : j = 0 ∨ j = 1 ∨ j = 2 ∨ j = 3 ∨ j = 4 ∨ j = 5 := by omega
      rcases this with rfl | rfl | rfl | rfl | rfl | rfl <;> exact ⟨_, rfl, rfl⟩
  · rw [q1, q2, px_bd, px_bd, if_pos rfl, if_pos rfl]
    exact ⟨_, rfl, rfl⟩

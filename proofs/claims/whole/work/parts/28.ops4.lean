theorem op_goes {N Wn : Nat} {kd wv : Nat → Nat} {kinds winds kindOf mwinds now trial pinned stored guides aside : Nat → Int32} {year : Int32} {A : AS} (hR : RR2 N kd Wn wv kinds winds kindOf mwinds) (hD : RDs N now pinned stored guides year A) (v w : Int32) : ∃ r trial' year' pinned' stored' guides' aside', fX4_goes (nI N) (nI Wn) kinds winds now trial v w = some (r, trial') ∧ fX5_goes (nI N) (nI Wn) year kindOf mwinds pinned stored guides aside v w = some (r, year', pinned', stored', guides', aside') ∧ RDs N now pinned' stored' guides' year' A := by
  obtain ⟨h1, hN, hWn, hK, hK2, hW, hW2⟩ := hR
  have hy := hD.2.2.2
  unfold fX4_goes fX5_goes
  rcases e_placeQ h1 hN v w with ⟨p, t, hp, ht, rfl, rfl⟩ | ⟨q1, q2⟩
  · have hb := hD.2.2.1.1 (5 * p + t) (by omega)
    rw [e_isPlace hN hp ht, e_mPeak hN hp, px_bd, px_bd, if_neg i01, if_neg i01, e_mTrim ht, px_bd, if_neg i01, n_5]
    rw [pk_mul, nI_add, px_slt, px_rd (by omega) (by omega), hD.2.1.1 _ (by omega), e_isOn hD.1.1 hD.2.2.1.1 (by omega) ht, px_bd]
    by_cases hc : A.1 (5 * p + t) = 0
    · rw [if_pos hc, hc]
      exact ⟨_, _, _, _, _, _, _, rfl, rfl, hD⟩
    · rw [if_neg hc, if_neg (by decide), if_neg (by rw [n_0, px_eq (by omega) (by omega)]; exact hc)]
      obtain ⟨t1, b1, b2⟩ := e_become trial now
      obtain ⟨as, s1, s2⟩ := e_begin (aside := aside) hN hD.2.1
      have hb2 : ∀ j, (yrs N kd Wn wv j A).1 (5 * p + t) ≤ 20 := fun j => (yrs_ok hD.2.2.1 j).1 _ (by omega)
      have hyj := yrs_y N kd Wn wv A
      have stC : ∀ (j : Nat) (s : Int32 × (Nat → Int32)), j < 60 → s.1 = nI (j + 1) ∧ CS s.2 (yrs N kd Wn wv j A) → ∃ o, CS o (yrs N kd Wn wv (j + 1) A) ∧ bX4_goes_39 (nI N) (nI Wn) kinds winds (nI p) (nI t) s = if (yrs N kd Wn wv (j + 1) A).1 (5 * p + t) = 0 then some (.inr (.inl (nI (j + 1), o))) else some (.inl (nI (j + 1 + 1), o)) := by
        rintro j ⟨x, f⟩ hj ⟨q1, q2⟩
        dsimp only at q1 q2
        subst q1
        obtain ⟨e, e1, e2⟩ := e_letYear hN hWn hK hW q2 (yrs_ok hD.2.2.1 j).1 (by rw [hyj]; omega)
        have e2 : CS e (yrs N kd Wn wv (j + 1) A) := e2
        refine ⟨e, e2, ?_⟩
        unfold bX4_goes_39
        dsimp only
        rw [n_60, if_neg (by rw [px_lt (by omega) (by omega)]; omega), e1, px_bd, e_isOn e2.1 (yrs_ok hD.2.2.1 (j + 1)).1 (by omega) ht, px_bd]
        by_cases h : (yrs N kd Wn wv (j + 1) A).1 (5 * p + t) = 0
        · rw [if_pos h, if_pos h, if_pos (by decide)]
        · rw [if_neg h, if_neg h, if_neg (by decide), n_1, nI_add]
      have stM : ∀ (j : Nat) (s : Int32 × Int32 × (Nat → Int32) × (Nat → Int32)), j < 60 → s.1 = nI j ∧ MS N s.2.2.1 stored s.2.2.2 s.2.1 (yrs N kd Wn wv j A) → (yrs N kd Wn wv j A).1 (5 * p + t) ≠ 0 → ∃ s', bX5_goes_42 (nI N) (nI Wn) kindOf mwinds (nI (5 * p + t)) s = some (.inl s') ∧ s'.1 = nI (j + 1) ∧ MS N s'.2.2.1 stored s'.2.2.2 s'.2.1 (yrs N kd Wn wv (j + 1) A) := by
        rintro j ⟨x, yy, f, g⟩ hj ⟨q1, q2⟩ hne
        dsimp only at q1 q2
        subst q1
        have hbj := hb2 j
        obtain ⟨f', g', m1, m2⟩ := e_goesOn hN hWn hK2 hW2 q2 (yrs_ok hD.2.2.1 j) (by rw [hyj]; omega) (n := 1) (by omega)
        refine ⟨(nI (j + 1), _, f', g'), ?_, rfl, m2⟩
        unfold bX5_goes_42
        dsimp only
        rw [n_60, if_neg (by rw [px_le (by omega) (by omega)]; omega), px_rd (by omega) (by omega), q2.1 _ (by omega), if_neg (by rw [n_0, px_le (by omega) (by omega)]; omega), n_1, m1, px_bd, nI_add]
        rfl
      rw [b1, s1, px_bd, px_bd]
      by_cases hex : ∃ j, 1 ≤ j ∧ j ≤ 60 ∧ (yrs N kd Wn wv j A).1 (5 * p + t) = 0
      · obtain ⟨m, ⟨m1, m2, m3⟩, hmin⟩ := pk_least _ hex
        have hnz : ∀ j, j < m → (yrs N kd Wn wv j A).1 (5 * p + t) ≠ 0 := by
          intro j hj
          cases j with
          | zero => exact hc
          | succ j => exact fun z => hmin (j + 1) hj ⟨by omega, by omega, z⟩
        obtain ⟨r, hr, wt, rfl⟩ := px_inv0 (B := bX4_goes_39 (nI N) (nI Wn) kinds winds (nI p) (nI t)) (n := 1000) (s0 := ((1 : Int32), t1)) (R := fun r => ∃ wt, r = .inl (nI m, wt)) (fun j s => s.1 = nI (j + 1) ∧ CS s.2 (yrs N kd Wn wv j A)) (m - 1) (by omega) ⟨rfl, CS_of_eq b2 hD.1⟩ (by
            intro j s hj hI
            obtain ⟨o, o1, o2⟩ := stC j s (by omega) hI
            rw [if_neg (hnz (j + 1) (by omega))] at o2
            exact ⟨_, o2, rfl, o1⟩) (by
            intro s hI
            obtain ⟨o, o1, o2⟩ := stC (m - 1) s (by omega) hI
            rw [show m - 1 + 1 = m by omega] at o2
            rw [if_pos m3] at o2
            exact ⟨_, o2, _, rfl⟩)
        obtain ⟨⟨r1, r2, r3, r4⟩, hr2, rfl, hM2⟩ := px_inv0 (B := bX5_goes_42 (nI N) (nI Wn) kindOf mwinds (nI (5 * p + t))) (n := 1000) (s0 := ((0 : Int32), year, pinned, guides)) (R := fun r => r.1 = nI m ∧ MS N r.2.2.1 stored r.2.2.2 r.2.1 (yrs N kd Wn wv m A)) (fun j s => s.1 = nI j ∧ MS N s.2.2.1 stored s.2.2.2 s.2.1 (yrs N kd Wn wv j A)) m (by omega) ⟨rfl, hD.2.1⟩ (by
            intro j s hj hI
            exact stM j s (by omega) hI (hnz j hj)) (by
            rintro ⟨x, yy, f, g⟩ ⟨q1, q2⟩
            dsimp only at q1 q2
            subst q1
            refine ⟨(nI m, yy, f, g), ?_, rfl, q2⟩
            unfold bX5_goes_42
            dsimp only
            rw [n_60]
            by_cases h60 : m = 60
            · rw [if_pos (by rw [px_le (by omega) (by omega)]; omega)]
            · rw [if_neg (by rw [px_le (by omega) (by omega)]; omega), px_rd (by omega) (by omega), q2.1 _ (by omega), m3, if_pos (by decide)])
        have hM2 : MS N r3 stored r4 r2 (yrs N kd Wn wv m A) := hM2
        obtain ⟨p2, s2', g2, k1, k2⟩ := e_putBack (pinned := r3) (stored := stored) (guides := r4) (year := r2) hN s2
        rw [hr, px_bd, hr2, px_bd]
        dsimp only
        rw [px_rd (by omega) (by omega), hM2.1 _ (by omega), m3, if_pos (by decide)]
        unfold jX5_goes_83
        rw [k1, px_bd]
        dsimp only
        rw [if_neg i01]
        exact ⟨_, _, _, _, _, _, _, rfl, rfl, hD.1, k2, hD.2.2⟩
      · have hnz : ∀ j, j ≤ 60 → (yrs N kd Wn wv j A).1 (5 * p + t) ≠ 0 := by
          intro j hj
          cases j with
          | zero => exact hc
          | succ j => exact fun z => hex ⟨j + 1, by omega, hj, z⟩
        obtain ⟨r, hr, wt, rfl⟩ := px_inv0 (B := bX4_goes_39 (nI N) (nI Wn) kinds winds (nI p) (nI t)) (n := 1000) (s0 := ((1 : Int32), t1)) (R := fun r => ∃ wt, r = .inr wt) (fun j s => s.1 = nI (j + 1) ∧ CS s.2 (yrs N kd Wn wv j A)) 60 (by omega) ⟨rfl, CS_of_eq b2 hD.1⟩ (by
            intro j s hj hI
            obtain ⟨o, o1, o2⟩ := stC j s (by omega) hI
            rw [if_neg (hnz (j + 1) (by omega))] at o2
            exact ⟨_, o2, rfl, o1⟩) (by
            rintro ⟨x, f⟩ ⟨q1, q2⟩
            dsimp only at q1 q2
            subst q1
            refine ⟨.inr f, ?_, f, rfl⟩
            unfold bX4_goes_39
            dsimp only
            rw [n_60, if_pos (by decide)])
        obtain ⟨⟨r1, r2, r3, r4⟩, hr2, hM2⟩ := px_inv0 (B := bX5_goes_42 (nI N) (nI Wn) kindOf mwinds (nI (5 * p + t))) (n := 1000) (s0 := ((0 : Int32), year, pinned, guides)) (R := fun r => MS N r.2.2.1 stored r.2.2.2 r.2.1 (yrs N kd Wn wv 60 A)) (fun j s => s.1 = nI j ∧ MS N s.2.2.1 stored s.2.2.2 s.2.1 (yrs N kd Wn wv j A)) 60 (by omega) ⟨rfl, hD.2.1⟩ (by
            intro j s hj hI
            exact stM j s (by omega) hI (hnz j (by omega))) (by
            rintro ⟨x, yy, f, g⟩ ⟨q1, q2⟩
            dsimp only at q1 q2
            subst q1
            refine ⟨(nI 60, yy, f, g), ?_, q2⟩
            unfold bX5_goes_42
            dsimp only
            rw [n_60, if_pos (by decide)])
        have hM2 : MS N r3 stored r4 r2 (yrs N kd Wn wv 60 A) := hM2
        obtain ⟨p2, s2', g2, k1, k2⟩ := e_putBack (pinned := r3) (stored := stored) (guides := r4) (year := r2) hN s2
        have hb60 := hb2 60
        have hz60 := hnz 60 (by omega)
        rw [hr, px_bd, hr2, px_bd]
        dsimp only
        rw [px_rd (by omega) (by omega), hM2.1 _ (by omega), if_neg (by rw [n_0, px_eq (by omega) (by omega)]; exact hz60)]
        unfold jX5_goes_83
        rw [k1, px_bd]
        dsimp only
        rw [if_pos rfl]
        exact ⟨_, _, _, _, _, _, _, rfl, rfl, hD.1, k2, hD.2.2⟩
  · rw [q1, px_bd, if_pos rfl]
    rcases q2 with q2 | ⟨q2, q3⟩
    · rw [q2, px_bd, if_pos rfl]
      exact ⟨_, _, _, _, _, _, _, rfl, rfl, hD⟩
    · rw [q2, px_bd, if_neg i01, q3, px_bd, if_pos rfl]
      exact ⟨_, _, _, _, _, _, _, rfl, rfl, hD⟩
/-! bits of a look -/
theorem lkU_bit (P : Nat → Nat) (p : Nat) : ∀ n t, (lkU P p n).testBit t = decide (t < n ∧ P (5 * p + t) ≠ 0)
  | 0, t => by simp [lkU]
  | n + 1, t => by
    have ih := lkU_bit P p n t
    unfold lkU
    by_cases h : P (5 * p + n) = 0
    · rw [if_pos h, ih]
      by_cases e : t = n
      · subst e; simp [h]
      · simp only [decide_eq_decide]
        constructor
        · rintro ⟨q1, q2⟩; exact ⟨by omega, q2⟩
        · rintro ⟨q1, q2⟩; exact ⟨by omega, q2⟩
    · rw [if_neg h, Nat.testBit_or, ih, Nat.testBit_two_pow]
      by_cases e : n = t
      · subst e; simp [h]
      · simp only [e, decide_false, Bool.or_false, decide_eq_decide]
        constructor
        · rintro ⟨q1, q2⟩; exact ⟨by omega, q2⟩
        · rintro ⟨q1, q2⟩; exact ⟨by omega, q2⟩
theorem lk_bit (P : Nat → Nat) (p : Nat) {t : Nat} (ht : t < 5) : lk P p / 2 ^ t % 2 = if P (5 * p + t) = 0 then 0 else 1 := by
  have h := lkU_bit P p 5 t
  rw [Nat.testBit_eq_decide_div_mod_eq] at h
  unfold lk
  by_cases e : P (5 * p + t) = 0
  · rw [if_pos e]
    simp only [e, ne_eq, not_true_eq_false, and_false, decide_false, decide_eq_false_iff_not] at h
    omega
  · rw [if_neg e]
    simpa [e, ht] using h
theorem e_has {a t : Nat} (ha : a < 2147483648) (ht : t < 32) : fX5_has (nI a) (nI t) = some (if a / 2 ^ t % 2 = 1 then (1 : Int32) else 0) := by
  unfold fX5_has
  rw [n_31, px_and, px_shr ha ht, n_1, px_and, Nat.and_one_is_mod]
  have : a / 2 ^ t % 2 < 2 := Nat.mod_lt _ (by omega)
  simp (disch := omega) only [px_eq]
  split <;> rfl

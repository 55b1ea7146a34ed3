def RTx (len : Int32) (letters : Nat → Int32) (size : Int32) (text : Nat → Int32) : Prop := ∃ (L : Nat) (tx : Nat → Nat), L ≤ 200 ∧ len = nI L ∧ size = nI L ∧ ∀ k, k < L → letters k = nI (tx k) ∧ text k = nI (tx k) ∧ 32 ≤ tx k ∧ tx k ≤ 126
theorem px_char {c : Nat} (h : c < 65536) : vp_nar .char ((nI c).toUInt32 % 65536).toInt32 = nI c := by
  rw [pk_char, pk_tn (by omega), Nat.mod_eq_of_lt h]
  have h2 := (pk_charN h).1
  unfold vp_nar
  rw [h2]
theorem op_write {len size : Int32} {letters text : Nat → Int32} (h : RTx len letters size text) (v : Int32) : ∃ r len' size' letters' text', fX4_write len letters v = some (r, len', letters') ∧ fX5_write size text v = some (r, size', text') ∧ RTx len' letters' size' text' := by
  unfold fX4_write fX5_write
  rcases px_rng v 32 126 (by omega) (by omega) with q | q | ⟨c, c1, c2, rfl⟩
  · have q : v < (32 : Int32) := q
    rw [if_pos q, e_in_bad (Or.inl q), px_bd, if_pos rfl]
    exact ⟨_, _, _, _, _, rfl, rfl, h⟩
  · have q : (126 : Int32) < v := q
    have h2 : ¬ v ≤ (126 : Int32) := by
      rw [Int32.le_iff_toInt_le]; rw [Int32.lt_iff_toInt_lt] at q; omega
    have h3 : ¬ v < (32 : Int32) := by
      rw [Int32.lt_iff_toInt_lt] at q ⊢
      rw [show (126 : Int32).toInt = 126 from rfl] at q
      rw [show (32 : Int32).toInt = 32 from rfl]
      omega
    rw [if_neg h3, if_neg h2, e_in_bad (Or.inr q), px_bd, if_pos rfl]
    exact ⟨_, _, _, _, _, rfl, rfl, h⟩
  · obtain ⟨L, tx, hL, rfl, rfl, ht⟩ := h
    have e1 : ¬ nI c < (32 : Int32) := by rw [n_32, px_lt (by omega) (by omega)]; omega
    have e2 : nI c ≤ (126 : Int32) := by rw [n_126, px_le (by omega) (by omega)]; omega
    rw [if_neg e1, if_pos e2, n_32, n_126, e_in (by omega) (by omega) c1 c2, px_bd, if_neg i01]
    unfold fX2_append
    rw [px_char (by omega)]
    simp (disch := omega) only [n_200, px_lt, px_eq, n_1, nI_add, px_slt]
    by_cases h200 : L = 200
    · rw [if_neg (by omega), if_pos h200, px_bd]
      dsimp only
      rw [if_pos rfl]
      exact ⟨_, _, _, _, _, rfl, rfl, L, tx, hL, rfl, rfl, ht⟩
    · rw [if_pos (by omega), if_neg h200, px_wr (by omega) (by omega), px_wr (by omega) (by omega), px_bd]
      dsimp only
      rw [if_neg (by decide)]
      refine ⟨_, _, _, _, _, rfl, rfl, L + 1, fun k => if k = L then c else tx k, by omega, rfl, rfl, fun k hk => ?_⟩
      dsimp only
      by_cases e : k = L
      · subst e
        rw [px_upd_s, px_upd_s, if_pos rfl]
        exact ⟨rfl, rfl, c1, c2⟩
      · rw [px_upd_n e, px_upd_n e, if_neg e]
        exact ht k (by omega)
theorem op_wipe {len size : Int32} {letters text : Nat → Int32} (h : RTx len letters size text) : ∃ r, fX4_wipe len = some (r, (0 : Int32)) ∧ fX5_wipe size = some (r, (0 : Int32)) ∧ RTx (0 : Int32) letters (0 : Int32) text := by
  obtain ⟨L, tx, hL, rfl, rfl, ht⟩ := h
  exact ⟨_, rfl, rfl, 0, tx, by omega, rfl, rfl, fun k hk => absurd hk (Nat.not_lt_zero k)⟩
theorem op_pins {N : Nat} {now pinned stored guides : Nat → Int32} {year : Int32} {A : AS} (h1 : 1 ≤ N) (hN : N ≤ 6) (hD : RDs N now pinned stored guides year A) (v w : Int32) : ∃ r, fX4_pins (nI N) now v w = some r ∧ fX5_pins (nI N) pinned v w = some r := by
  unfold fX4_pins fX5_pins
  rcases e_placeQ h1 hN v w with ⟨p, t, hp, ht, rfl, rfl⟩ | ⟨q1, q2⟩
  · rw [e_isPlace hN hp ht, e_mPeak hN hp, px_bd, px_bd, if_neg i01, if_neg i01, e_mTrim ht, px_bd, if_neg i01, n_5]
    rw [pk_mul, nI_add, px_rd (by omega) (by omega), hD.2.1.1 _ (by omega), e_pinsOn _ (by omega) ht, px_bd, hD.1.1 _ (by omega)]
    exact ⟨_, rfl, rfl⟩
  · rw [q1, px_bd, if_pos rfl]
    rcases q2 with q2 | ⟨q2, q3⟩
    · rw [q2, px_bd, if_pos rfl]
      exact ⟨_, rfl, rfl⟩
    · rw [q2, px_bd, if_neg i01, q3, px_bd, if_pos rfl]
      exact ⟨_, rfl, rfl⟩
theorem op_store {N : Nat} {now pinned stored guides : Nat → Int32} {year : Int32} {A : AS} (hD : RDs N now pinned stored guides year A) (v : Int32) : ∃ r, fX4_store now v = some r ∧ fX5_store stored v = some r := by
  unfold fX4_store fX5_store
  rcases e_trimQ v with ⟨t, ht, rfl⟩ | ⟨q1, q2⟩
  · rw [e_isTrimming ht, e_mTrim ht, px_bd, px_bd, if_neg (by decide), if_neg i01, e_inStore _ ht, px_bd, px_rd (by omega) (by omega), hD.1.2.1 t ht, hD.2.1.2.1 t ht]
    exact ⟨_, rfl, rfl⟩
  · rw [q1, q2, px_bd, px_bd, if_pos rfl, if_pos rfl]
    exact ⟨_, rfl, rfl⟩
theorem op_wind {N Wn : Nat} {kd wv : Nat → Nat} {kinds winds kindOf mwinds now pinned stored guides : Nat → Int32} {year : Int32} {A : AS} (hR : RR2 N kd Wn wv kinds winds kindOf mwinds) (hD : RDs N now pinned stored guides year A) (v : Int32) : ∃ r, fX4_wind (nI Wn) winds now v = some r ∧ fX5_wind (nI Wn) year mwinds v = some r := by
  obtain ⟨h1, hN, hWn, hK, hK2, hW, hW2⟩ := hR
  unfold fX4_wind fX5_wind
  rcases px_rng v 0 99 (by omega) (by omega) with h | h | ⟨n, n1, n2, rfl⟩
  · have h : v < (0 : Int32) := h
    rw [if_pos h, e_in_bad (Or.inl h), px_bd, if_pos rfl]
    exact ⟨_, rfl, rfl⟩
  · have h : (99 : Int32) < v := h
    have h2 : ¬ v ≤ (99 : Int32) := by
      rw [Int32.le_iff_toInt_le]; rw [Int32.lt_iff_toInt_lt] at h; omega
    have h3 : ¬ v < (0 : Int32) := by
      rw [Int32.lt_iff_toInt_lt] at h ⊢
      rw [show (99 : Int32).toInt = 99 from rfl] at h
      rw [show (0 : Int32).toInt = 0 from rfl]
      omega
    rw [if_neg h3, if_neg h2, e_in_bad (Or.inr h), px_bd, if_pos rfl]
    exact ⟨_, rfl, rfl⟩
  · have hy := hD.2.2.2
    have hc41 : now 41 = nI A.2.2.2 := hD.1.2.2.2
    have hym : year = nI A.2.2.2 := hD.2.1.2.2.2
    rw [e_yearNow, px_bd, hc41, hym]
    simp (disch := omega) only [n_0, n_99, nI_add, px_lt, px_le]
    rw [if_neg (by omega), if_pos n2, e_in (by omega) (by omega) n1 n2, px_bd, if_neg (by decide), e_windIn hWn hW (by omega), e_windOf hWn hW2 (by omega)]
    exact ⟨_, rfl, rfl⟩
/-! begin, putBack -/
theorem e_begin {N : Nat} {pinned stored guides aside : Nat → Int32} {year : Int32} {A : AS} (hN : N ≤ 6) (hM : MS N pinned stored guides year A) : ∃ w, fX5_begin year pinned stored guides aside = some w ∧ ME N w A := by
  obtain ⟨w, w1, w2, -⟩ := e_lays (n := 42) (a := 0) (p1 := aside) hN hM (by omega) (by omega)
  refine ⟨w, ?_, ?_⟩
  · unfold fX5_begin
    rw [n_0, w1]
    rfl
  · refine ME_of_eq hN (fun k hk => ?_) w2
    rw [Nat.zero_add]
theorem e_putBack {N : Nat} {pinned stored guides aside : Nat → Int32} {year : Int32} {A : AS} (hN : N ≤ 6) (hM : ME N aside A) : ∃ p' s' g', fX5_putBack year pinned stored guides aside = some (nI A.2.2.2, p', s', g') ∧ MS N p' s' g' (nI A.2.2.2) A := by
  obtain ⟨p', s', g', m1, m2⟩ := e_takes (n := 42) (a := 0) (pinned := pinned) (stored := stored) (guides := guides) (year := year) (p1 := aside) hN (ME_of_eq hN (fun k hk => by rw [Nat.zero_add]) hM) (by omega) (by omega)
  refine ⟨p', s', g', ?_, m2⟩
  unfold fX5_putBack
  rw [n_0, m1]
  rfl
theorem op_behind {N Wn : Nat} {kd wv : Nat → Nat} {kinds winds kindOf mwinds now trial pinned stored guides aside : Nat → Int32} {year : Int32} {A : AS} (hR : RR2 N kd Wn wv kinds winds kindOf mwinds) (hD : RDs N now pinned stored guides year A) (v w : Int32) : ∃ r trial' year' pinned' stored' guides' aside', fX4_behind (nI N) (nI Wn) kinds winds now trial v w = some (r, trial') ∧ fX5_behind (nI N) (nI Wn) year kindOf mwinds pinned stored guides aside v w = some (r, year', pinned', stored', guides', aside') ∧ RDs N now pinned' stored' guides' year' A := by
  obtain ⟨h1, hN, hWn, hK, hK2, hW, hW2⟩ := hR
  unfold fX4_behind fX5_behind
  rcases px_rng v 0 20 (by omega) (by omega) with h | h | ⟨n, n1, n2, rfl⟩
  · have h : v < (0 : Int32) := h
    rw [if_pos h, e_in_bad (Or.inl h), px_bd, if_pos rfl]
    exact ⟨_, _, _, _, _, _, _, rfl, rfl, hD⟩
  · have h : (20 : Int32) < v := h
    have h3 : ¬ v < (0 : Int32) := by
      rw [Int32.lt_iff_toInt_lt] at h ⊢
      rw [show (20 : Int32).toInt = 20 from rfl] at h
      rw [show (0 : Int32).toInt = 0 from rfl]
      omega
    rw [if_neg h3, if_pos h, e_in_bad (Or.inr h), px_bd, if_pos rfl]
    exact ⟨_, _, _, _, _, _, _, rfl, rfl, hD⟩
  · have hy := hD.2.2.2
    have hym : year = nI A.2.2.2 := hD.2.1.2.2.2
    simp (disch := omega) only [n_0, n_20, px_lt]
    rw [if_neg (by omega), if_neg (by omega), e_in (by omega) (by omega) n1 n2, px_bd, if_neg (by decide)]
    rcases e_peakQ h1 hN w with ⟨p, hp, rfl⟩ | ⟨q1, q2⟩
    · obtain ⟨t1, b1, b2⟩ := e_become trial now
      obtain ⟨c', c1, c2⟩ := e_letYears hN hWn hK hW (CS_of_eq b2 hD.1) hD.2.2.1 (by omega) (n := n) (by omega)
      obtain ⟨as, s1, s2⟩ := e_begin (aside := aside) hN hD.2.1
      obtain ⟨p', g', m1, m2⟩ := e_goesOn hN hWn hK2 hW2 hD.2.1 hD.2.2.1 (by omega) (n := n) (by omega)
      obtain ⟨p2, s2', g2, k1, k2⟩ := e_putBack (pinned := p') (stored := stored) (guides := g') (year := nI (A.2.2.2 + n)) hN s2
      have hz := yrs_ok (kd := kd) (Wn := Wn) (wv := wv) hD.2.2.1 n
      rw [e_isPeak hN hp, e_mPeak hN hp, px_bd, px_bd, if_neg (by decide), if_neg (by decide), b1, px_bd, c1, px_bd, e_looksOf c2.1 hz.1 (by omega), px_bd, s1, px_bd, m1, px_bd]
      dsimp only
      rw [e_looks m2.1 hz.1 (by omega), px_bd, k1, px_bd]
      exact ⟨_, _, _, _, _, _, _, rfl, rfl, hD.1, k2, hD.2.2⟩
    · rw [q1, q2, px_bd, px_bd, if_pos (by decide), if_pos (by decide)]
      exact ⟨_, _, _, _, _, _, _, rfl, rfl, hD⟩

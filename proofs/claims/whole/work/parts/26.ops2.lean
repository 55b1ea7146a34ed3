theorem op_take {N : Nat} {now pinned stored guides cells ahead : Nat → Int32} {held next many year : Int32} {A : AS} (h1 : 1 ≤ N) (hN : N ≤ 6) (hD : RDs N now pinned stored guides year A) (hU : RUn 8 N cells held next ahead many) (v w : Int32) : ∃ r A' now' pinned' stored' held' next' cells' ahead', fX4_take (nI N) now (8 : Int32) held next cells v w = some (r, now', held', next', cells') ∧ (∃ many', fX5_take (nI N) year many pinned stored guides ahead v w = some (r, many', pinned', stored', ahead') ∧ RUn 8 N cells' held' next' ahead' many') ∧ RDs N now' pinned' stored' guides year A' := by
  unfold fX4_take fX5_take
  rcases e_placeQ h1 hN v w with ⟨p, t, hp, ht, rfl, rfl⟩ | ⟨q1, q2⟩
  · have hb := hD.2.2.1.1 (5 * p + t) (by omega)
    rw [e_isPlace hN hp ht, e_mPeak hN hp, px_bd, px_bd, if_neg i01, if_neg i01, e_mTrim ht, px_bd, if_neg i01, n_5]
    rw [pk_mul, nI_add, px_rd (by omega) (by omega), hD.2.1.1 _ (by omega), e_isOn hD.1.1 hD.2.2.1.1 (by omega) ht, px_bd]
    by_cases hc : A.1 (5 * p + t) = 0
    · rw [if_pos hc, hc]
      exact ⟨_, A, _, _, _, _, _, _, _, rfl, ⟨_, rfl, hU⟩, hD⟩
    · rw [if_neg hc, if_neg (by decide), if_neg (by rw [n_0, px_eq (by omega) (by omega)]; exact hc)]
      obtain ⟨held', next', cells', ahead', u1, u2, u3⟩ := RUn_push hN hD hU
      have hC' := CS_set (k := 5 * p + t) (n := 0) (x := A.2.1 t + 1) (by omega) ht hD.1
      have hM' := MS_set (k := 5 * p + t) (n := 0) (t := t) (x := A.2.1 t + 1) hD.2.1
      have hZ := PZ_set (N := N) (k := 5 * p + t) (n := 0) (by omega) (by omega) hD.2.2.1
      rw [u1, u2, px_bd, px_bd]
      dsimp only
      rw [e_takeOff (by omega) ht hD.1, px_bd, e_takesOff (by omega) ht hD.2.1, px_bd]
      dsimp only
      rw [e_looksOf hC'.1 hZ.1 (by omega), px_bd, e_looks hM'.1 hZ.1 (by omega), px_bd]
      exact ⟨_, _, _, _, _, _, _, _, _, rfl, ⟨_, rfl, u3⟩, hC', hM', hZ, hD.2.2.2⟩
  · rw [q1, px_bd, if_pos rfl]
    rcases q2 with q2 | ⟨q2, q3⟩
    · rw [q2, px_bd, if_pos rfl]
      exact ⟨_, A, _, _, _, _, _, _, _, rfl, ⟨_, rfl, hU⟩, hD⟩
    · rw [q2, px_bd, if_neg i01, q3, px_bd, if_pos rfl]
      exact ⟨_, A, _, _, _, _, _, _, _, rfl, ⟨_, rfl, hU⟩, hD⟩
theorem CS_setP {c : Nat → Int32} {A : AS} {k n : Nat} (hk : k < 30) (h : CS c A) : CS (upd c k (nI n)) ((fun j => if j = k then n else A.1 j), A.2) := by
  obtain ⟨h1, h2, h3, h4⟩ := h
  refine ⟨fun j hj => ?_, fun s hs => ?_, fun p hp => ?_, ?_⟩
  · show upd c k (nI n) j = nI (if j = k then n else A.1 j)
    by_cases e : j = k
    · subst e; rw [px_upd_s, if_pos rfl]
    · rw [px_upd_n e, if_neg e]; exact h1 j hj
  · rw [px_upd_n (by omega)]; exact h2 s hs
  · rw [px_upd_n (by omega)]; exact h3 p hp
  · rw [px_upd_n (by omega)]; exact h4
theorem MS_setP {N : Nat} {pinned stored guides : Nat → Int32} {year : Int32} {A : AS} {k n : Nat} (h : MS N pinned stored guides year A) : MS N (upd pinned k (nI n)) stored guides year ((fun j => if j = k then n else A.1 j), A.2) := by
  obtain ⟨h1, h2, h3, h4⟩ := h
  refine ⟨fun j hj => ?_, h2, h3, h4⟩
  show _ = nI (if j = k then n else A.1 j)
  by_cases e : j = k
  · subst e; rw [px_upd_s, if_pos rfl]
  · rw [px_upd_n e, if_neg e]; exact h1 j hj
theorem op_pin {N : Nat} {now pinned stored guides cells ahead : Nat → Int32} {held next many year : Int32} {A : AS} (h1 : 1 ≤ N) (hN : N ≤ 6) (hD : RDs N now pinned stored guides year A) (hU : RUn 8 N cells held next ahead many) (v w z : Int32) : ∃ r A' now' pinned' held' next' cells' ahead', fX4_pin (nI N) now (8 : Int32) held next cells v w z = some (r, now', held', next', cells') ∧ (∃ many', fX5_pin (nI N) year many pinned stored guides ahead v w z = some (r, many', pinned', ahead') ∧ RUn 8 N cells' held' next' ahead' many') ∧ RDs N now' pinned' stored guides year A' := by
  unfold fX4_pin fX5_pin
  rcases e_placeQ h1 hN v w with ⟨p, t, hp, ht, rfl, rfl⟩ | ⟨q1, q2⟩
  · have hb := hD.2.2.1.1 (5 * p + t) (by omega)
    rw [e_isPlace hN hp ht, e_mPeak hN hp, px_bd, px_bd, if_neg i01, if_neg i01, e_mTrim ht, px_bd, if_neg i01]
    rcases e_pinsQ z with ⟨n, n1, n2, rfl⟩ | ⟨q1, q2⟩
    · rw [e_isPins n1 n2, px_bd, if_neg i01, n_1, n_20, e_in (by omega) (by omega) n1 n2, px_bd, if_neg i01, n_5]
      rw [pk_mul, nI_add, px_rd (by omega) (by omega), hD.2.1.1 _ (by omega), e_isOn hD.1.1 hD.2.2.1.1 (by omega) ht, px_bd]
      by_cases hc : A.1 (5 * p + t) = 0
      · rw [if_pos hc, hc]
        exact ⟨_, A, _, _, _, _, _, _, rfl, ⟨_, rfl, hU⟩, hD⟩
      · rw [if_neg hc, if_neg (by decide), if_neg (by rw [n_0, px_eq (by omega) (by omega)]; exact hc)]
        obtain ⟨held', next', cells', ahead', u1, u2, u3⟩ := RUn_push hN hD hU
        have hC' := CS_setP (k := 5 * p + t) (n := n) (by omega) hD.1
        have hM' := MS_setP (k := 5 * p + t) (n := n) hD.2.1
        have hZ := PZ_set (N := N) (k := 5 * p + t) (n := n) (by omega) (by omega) hD.2.2.1
        rw [e_pinsOn _ (by omega) ht, px_bd, hD.1.1 _ (by omega), u1, u2, px_bd, px_bd]
        dsimp only
        rw [e_setPins _ (by omega) ht, px_bd, px_wr (by omega) (by omega)]
        exact ⟨_, _, _, _, _, _, _, _, rfl, ⟨_, rfl, u3⟩, hC', hM', hZ, hD.2.2.2⟩
    · rw [q1, q2, px_bd, px_bd, if_pos rfl, if_pos rfl]
      exact ⟨_, A, _, _, _, _, _, _, rfl, ⟨_, rfl, hU⟩, hD⟩
  · rw [q1, px_bd, if_pos rfl]
    rcases q2 with q2 | ⟨q2, q3⟩
    · rw [q2, px_bd, if_pos rfl]
      exact ⟨_, A, _, _, _, _, _, _, rfl, ⟨_, rfl, hU⟩, hD⟩
    · rw [q2, px_bd, if_neg i01, q3, px_bd, if_pos rfl]
      exact ⟨_, A, _, _, _, _, _, _, rfl, ⟨_, rfl, hU⟩, hD⟩
/-- the range, both sides -/
def RR2 (N : Nat) (kd : Nat → Nat) (Wn : Nat) (wv : Nat → Nat) (kinds winds kindOf mwinds : Nat → Int32) : Prop := 1 ≤ N ∧ N ≤ 6 ∧ Wn ≤ 12 ∧ KI N kinds kd ∧ KI N kindOf kd ∧ WI Wn winds wv ∧ WI Wn mwinds wv
theorem op_pass {N Wn : Nat} {kd wv : Nat → Nat} {kinds winds kindOf mwinds now pinned stored guides cells ahead : Nat → Int32} {held next many year : Int32} {A : AS} (hR : RR2 N kd Wn wv kinds winds kindOf mwinds) (hD : RDs N now pinned stored guides year A) (hU : RUn 8 N cells held next ahead many) (v : Int32) : ∃ r A' now' pinned' guides' year' held' next' cells' ahead', fX4_pass (nI N) (nI Wn) kinds winds now (8 : Int32) held next cells v = some (r, now', held', next', cells') ∧ (∃ many', fX5_pass (nI N) (nI Wn) year many kindOf mwinds pinned stored guides ahead v = some (r, year', many', pinned', guides', ahead') ∧ RUn 8 N cells' held' next' ahead' many') ∧ RDs N now' pinned' stored guides' year' A' := by
  obtain ⟨h1, hN, hWn, hK, hK2, hW, hW2⟩ := hR
  unfold fX4_pass fX5_pass
  rcases px_rng v 1 20 (by omega) (by omega) with h | h | ⟨n, n1, n2, rfl⟩
  · have h : v < (1 : Int32) := h
    rw [if_pos h, e_in_bad (Or.inl h), px_bd, if_pos rfl]
    exact ⟨_, A, _, _, _, _, _, _, _, _, rfl, ⟨_, rfl, hU⟩, hD⟩
  · have h : (20 : Int32) < v := h
    have h2 : ¬ v ≤ (20 : Int32) := by
      rw [Int32.le_iff_toInt_le]; rw [Int32.lt_iff_toInt_lt] at h; omega
    have h3 : ¬ v < (1 : Int32) := by
      rw [Int32.lt_iff_toInt_lt] at h ⊢
      rw [show (20 : Int32).toInt = 20 from rfl] at h
      rw [show (1 : Int32).toInt = 1 from rfl]
      omega
    rw [if_neg h3, if_neg h2, e_in_bad (Or.inr h), px_bd, if_pos rfl]
    exact ⟨_, A, _, _, _, _, _, _, _, _, rfl, ⟨_, rfl, hU⟩, hD⟩
  · have hy := hD.2.2.2
    have hc41 : now 41 = nI A.2.2.2 := hD.1.2.2.2
    have hym : year = nI A.2.2.2 := hD.2.1.2.2.2
    rw [e_yearNow, px_bd, hc41]
    simp (disch := omega) only [n_1, n_20, n_999, hym, nI_add, px_lt, px_le]
    rw [if_neg (by omega), if_pos n2, e_in (by omega) (by omega) n1 n2, px_bd, if_neg i01]
    by_cases hc : A.2.2.2 + n ≤ 999
    · rw [if_pos hc, if_pos hc]
      obtain ⟨held', next', cells', ahead', u1, u2, u3⟩ := RUn_push hN hD hU
      rw [hym] at u2
      obtain ⟨c', c1, c2⟩ := e_letYears hN hWn hK hW hD.1 hD.2.2.1 (by omega) (n := n) (by omega)
      obtain ⟨p', g', m1, m2⟩ := e_goesOn hN hWn hK2 hW2 hD.2.1 hD.2.2.1 (by omega) (n := n) (by omega)
      rw [hym] at m1
      have hyn := yrs_y N kd Wn wv A n
      rw [u1, u2, px_bd, px_bd]
      dsimp only
      rw [c1, m1, px_bd, px_bd]
      dsimp only
      rw [e_yearNow, px_bd, c2.2.2.2, hyn]
      exact ⟨_, _, _, _, _, _, _, _, _, _, rfl, ⟨_, rfl, u3⟩, c2, m2, yrs_ok hD.2.2.1 n, by rw [hyn]; exact hc⟩
    · rw [if_neg hc, if_neg hc]
      exact ⟨_, A, _, _, _, _, _, _, _, _, rfl, ⟨_, rfl, hU⟩, hD.1, ⟨hD.2.1.1, hD.2.1.2.1, hD.2.1.2.2.1, rfl⟩, hD.2.2.1, hD.2.2.2⟩
theorem op_undo {N : Nat} {now pinned stored guides cells ahead : Nat → Int32} {held next many year : Int32} {A : AS} (hN : N ≤ 6) (hD : RDs N now pinned stored guides year A) (hU : RUn 8 N cells held next ahead many) : ∃ r A' now' pinned' stored' guides' year' held' next', fX4_undo now (8 : Int32) held next cells = some (r, now', held', next') ∧ (∃ many', fX5_undo year many pinned stored guides ahead = some (r, year', many', pinned', stored', guides') ∧ RUn 8 N cells held' next' ahead many') ∧ RDs N now' pinned' stored' guides' year' A' := by
  obtain ⟨u, nx, U, rfl, rfl, rfl, h1, h2, h3, h4, h5⟩ := hU
  unfold fX4_undo fX5_undo
  simp (disch := omega) only [n_0, px_eq]
  by_cases h0 : u = 0
  · subst h0
    rw [if_pos rfl, n_8, e_fetch8_0, px_bd]
    dsimp only
    rw [if_pos rfl]
    exact ⟨_, A, _, _, _, _, _, _, _, rfl, ⟨_, rfl, ⟨0, nx, U, rfl, rfl, rfl, h1, h2, h3, h4, h5⟩⟩, hD⟩
  · obtain ⟨w, nx', w1, w2, w3, w4⟩ := e_fetch8 (n := 336) (now := now) rfl h2 h1 (by omega) h3
    obtain ⟨p', s', g', m1, m2⟩ := e_takes (n := 336) (a := 42 * (u - 1)) (pinned := pinned) (stored := stored) (guides := guides) (year := year) hN (h4 (u - 1) (by omega)) (by omega) (by omega)
    rw [if_neg h0, n_8, w1, px_bd]
    dsimp only
    rw [if_neg (by decide), n_1, px_sub (by omega), px_slt, n_42, pk_mul, m1, px_bd]
    exact ⟨_, _, _, _, _, _, _, _, _, rfl, ⟨_, rfl, ⟨u - 1, nx', U, rfl, rfl, rfl, by omega, w2, w3, fun j hj => h4 j (by omega), fun j hj => h5 j (by omega)⟩⟩, w4, m2, h5 (u - 1) (by omega)⟩
theorem op_keep {N : Nat} {now pinned stored guides cells kept : Nat → Int32} {held next many year : Int32} {A : AS} (hN : N ≤ 6) (hD : RDs N now pinned stored guides year A) (hU : RUn 2 N cells held next kept many) : ∃ r held' next' cells' kept', fX4_keep now (2 : Int32) held next cells = some (r, held', next', cells') ∧ (∃ many', fX5_keep year many pinned stored guides kept = some (r, many', kept') ∧ RUn 2 N cells' held' next' kept' many') := by
  obtain ⟨u, nx, U, rfl, rfl, rfl, h1, h2, h3, h4, h5⟩ := hU
  unfold fX4_keep fX5_keep
  simp (disch := omega) only [n_2, px_eq, px_lt]
  by_cases h0 : u = 2
  · rw [if_pos h0, if_neg (by omega)]
    exact ⟨_, _, _, _, _, rfl, ⟨_, rfl, ⟨u, nx, U, rfl, rfl, rfl, h1, h2, h3, h4, h5⟩⟩⟩
  · obtain ⟨w, nx', w1, w2, w3⟩ := e_layBy2 (n := 84) rfl h2 h1 h3 hD.1
    obtain ⟨k', k1, k2, k3⟩ := e_lays (n := 84) (a := 42 * u) (p1 := kept) hN hD.2.1 (by omega) (by omega)
    have hp : pushN 2 u = u + 1 := by unfold pushN; rw [if_neg h0]
    rw [hp] at w1 w3
    rw [if_neg h0, if_pos (by omega), w1, px_bd, n_42, pk_mul, k1, px_bd, n_1, nI_add, px_slt]
    refine ⟨_, _, _, _, _, rfl, ⟨_, rfl, ⟨u + 1, nx', pushU 2 u U A, rfl, rfl, rfl, by omega, w2, w3, fun j hj => ?_, fun j hj => ?_⟩⟩⟩
    · unfold pushU
      rw [if_neg h0]
      by_cases e : j = u
      · subst e
        rw [if_pos rfl]
        exact k2
      · rw [if_neg e]
        refine ME_of_eq hN (fun k hk => ?_) (h4 j (by omega))
        rw [k3 _ (by omega)]
    · unfold pushU
      rw [if_neg h0]
      by_cases e : j = u
      · rw [if_pos e]
        exact hD.2.2
      · rw [if_neg e]
        exact h5 j (by omega)
theorem op_back {N : Nat} {now pinned stored guides cells kept ucells ahead : Nat → Int32} {held next many year uheld unext umany : Int32} {A : AS} (hN : N ≤ 6) (hD : RDs N now pinned stored guides year A) (hU : RUn 2 N cells held next kept many) (hX : RUn 8 N ucells uheld unext ahead umany) : ∃ r A' now' pinned' stored' guides' year' held' next' uheld', fX4_back now uheld (2 : Int32) held next cells = some (r, now', uheld', held', next') ∧ (∃ many' umany', fX5_back year umany many pinned stored guides kept = some (r, year', umany', many', pinned', stored', guides') ∧ RUn 2 N cells held' next' kept many' ∧ RUn 8 N ucells uheld' unext ahead umany') ∧ RDs N now' pinned' stored' guides' year' A' := by
  obtain ⟨u, nx, U, rfl, rfl, rfl, h1, h2, h3, h4, h5⟩ := hU
  unfold fX4_back fX5_back
  simp (disch := omega) only [n_0, px_eq]
  by_cases h0 : u = 0
  · subst h0
    rw [if_pos rfl, n_2, e_fetch2_0, px_bd]
    dsimp only
    rw [if_pos rfl]
    exact ⟨_, A, _, _, _, _, _, _, _, _, rfl, ⟨_, _, rfl, ⟨0, nx, U, rfl, rfl, rfl, h1, h2, h3, h4, h5⟩, hX⟩, hD⟩
  · obtain ⟨w, nx', w1, w2, w3, w4⟩ := e_fetch2 (n := 84) (now := now) rfl h2 h1 (by omega) h3
    obtain ⟨p', s', g', m1, m2⟩ := e_takes (n := 84) (a := 42 * (u - 1)) (pinned := pinned) (stored := stored) (guides := guides) (year := year) hN (h4 (u - 1) (by omega)) (by omega) (by omega)
    obtain ⟨u2, nx2, U2, rfl, rfl, rfl, x1, x2, -⟩ := hX
    rw [if_neg h0, n_2, w1, px_bd]
    dsimp only
    rw [if_neg (by decide), n_1, px_sub (by omega), px_slt, n_42, pk_mul, m1, px_bd]
    exact ⟨_, _, _, _, _, _, _, _, _, _, rfl, ⟨_, _, rfl, ⟨u - 1, nx', U, rfl, rfl, rfl, by omega, w2, w3, fun j hj => h4 j (by omega), fun j hj => h5 j (by omega)⟩, ⟨0, nx2, U2, rfl, rfl, rfl, by omega, x2, fun j hj => absurd hj (Nat.not_lt_zero j), fun j hj => absurd hj (Nat.not_lt_zero j), fun j hj => absurd hj (Nat.not_lt_zero j)⟩⟩, w4, m2, h5 (u - 1) (by omega)⟩

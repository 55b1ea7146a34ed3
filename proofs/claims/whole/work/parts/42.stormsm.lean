theorem e_way {N Wn n g i : Nat} {kindOf mwinds pinned stored guides : Nat → Int32} {year : Int32} {kd wv : Nat → Nat} {A : AS} (hN : N ≤ 6) (hWn : Wn ≤ 12) (hK : KI N kindOf kd) (hW : WI Wn mwinds wv) (hn : n ≤ 8) (hg : g ≤ 10) (hi : i < 256) (hM : MS N pinned stored guides year A) (hZ : PZ N A.1) (hy : A.2.2.2 ≤ 999) : ∃ y' p' g', sx_it 1000 (bX5_storms_98 (nI N) (nI Wn) kindOf mwinds (nI n) (nI g) (nI i)) ((1 : Int64), (0 : Int32), year, pinned, guides) = some (lN (wtN g n i), y', p', g') ∧ MS N p' stored g' y' (mAs N kd Wn wv n A i) := by
  obtain ⟨⟨u, y', p', g'⟩, r1, r2, r3⟩ := px_inv0 (B := bX5_storms_98 (nI N) (nI Wn) kindOf mwinds (nI n) (nI g) (nI i)) (n := 1000) (s0 := ((1 : Int64), (0 : Int32), year, pinned, guides)) (R := fun r => r.1 = lN (wtN g n i) ∧ MS N r.2.2.1 stored r.2.2.2 r.2.1 (mAs N kd Wn wv n A i)) (fun j x => x.2.1 = nI j ∧ ∃ (B : AS) (u : Nat), x.1 = lN u ∧ MS N x.2.2.2.1 stored x.2.2.2.2 x.2.2.1 B ∧ PZ N B.1 ∧ B.2.2.2 = A.2.2.2 + j ∧ mAs N kd Wn wv (n - j) B (i / 2 ^ j) = mAs N kd Wn wv n A i ∧ u * wtN g (n - j) (i / 2 ^ j) = wtN g n i) n (by omega) ⟨rfl, A, 1, l_1, hM, hZ, rfl, by rw [Nat.pow_zero, Nat.div_one]; rfl, by rw [Nat.pow_zero, Nat.div_one, Nat.one_mul]; rfl⟩ (by
    rintro j ⟨x, y, yy, pn, gn⟩ hj ⟨q1, B, u, q2, q3, q4, q5, q6, q7⟩
    dsimp only at q1 q2 q3
    subst q1
    subst q2
    have hdd : i / 2 ^ j / 2 = i / 2 ^ (j + 1) := by rw [Nat.div_div_eq_div_mul, Nat.pow_succ]
    have hmm : n - j = n - (j + 1) + 1 := by omega
    have hwl := wnd_le (y := B.2.2.2) hW
    rw [hmm] at q6 q7
    have q6 : mAs N kd Wn wv (n - (j + 1)) (yrA N kd (if i / 2 ^ j % 2 = 1 then 20 else wnd Wn wv B.2.2.2) B) (i / 2 ^ j / 2) = mAs N kd Wn wv n A i := q6
    have q7 : u * ((if i / 2 ^ j % 2 = 1 then g else 10 - g) * wtN g (n - (j + 1)) (i / 2 ^ j / 2)) = wtN g n i := q7
    rw [hdd] at q6 q7
    rw [← Nat.mul_assoc] at q7
    unfold bX5_storms_98
    dsimp only
    rw [if_neg (by rw [px_le (by omega) (by omega)]; omega), e_has (by omega) (by omega), px_bd]
    have hyy := q3.2.2.2
    subst hyy
    by_cases hb : i / 2 ^ j % 2 = 1
    · rw [if_pos hb] at q6 q7
      obtain ⟨p', g', m1, m2⟩ := e_passesBy (w := 20) hN hK q3 q4.1 (by omega)
      rw [if_pos hb, if_neg i01]
      unfold jX5_storms_128 jX5_storms_155
      rw [nI_l (by omega), lN_mul, px_slt, e_has (by omega) (by omega), px_bd, if_pos hb, if_neg i01, n_20, m1, px_bd]
      dsimp only
      rw [n_1, nI_add]
      exact ⟨_, rfl, rfl, _, _, rfl, m2, yrA_ok q4, by show B.2.2.2 + 1 = _; omega, q6, q7⟩
    · rw [if_neg hb] at q6 q7
      obtain ⟨p', g', m1, m2⟩ := e_passesBy (w := wnd Wn wv B.2.2.2) hN hK q3 q4.1 hwl
      rw [if_neg hb, if_pos rfl]
      unfold jX5_storms_128 jX5_storms_155
      rw [n_10, px_sub hg, nI_l (by omega), lN_mul, px_slt, e_has (by omega) (by omega), px_bd, if_neg hb, if_pos rfl, e_windOf hWn hW (by omega), px_bd, m1, px_bd]
      dsimp only
      rw [n_1, nI_add]
      exact ⟨_, rfl, rfl, _, _, rfl, m2, yrA_ok q4, by show B.2.2.2 + 1 = _; omega, q6, q7⟩) (by
    rintro ⟨x, y, yy, pn, gn⟩ ⟨q1, B, u, q2, q3, q4, q5, q6, q7⟩
    dsimp only at q1 q2 q3
    subst q1
    subst q2
    rw [Nat.sub_self] at q6 q7
    have q6 : B = mAs N kd Wn wv n A i := q6
    have q7 : u * 1 = wtN g n i := q7
    rw [Nat.mul_one] at q7
    refine ⟨(lN u, yy, pn, gn), ?_, by rw [q7], by rw [← q6]; exact q3⟩
    unfold bX5_storms_98
    dsimp only
    rw [if_pos (by rw [px_le (by omega) (by omega)]; omega)])
  have r2 : u = lN (wtN g n i) := r2
  subst r2
  exact ⟨_, _, _, r1, r3⟩
theorem e_allWays {N Wn n g p t : Nat} {kindOf mwinds pinned stored guides aside : Nat → Int32} {year : Int32} {kd wv : Nat → Nat} {A : AS} (hN : N ≤ 6) (hWn : Wn ≤ 12) (hK : KI N kindOf kd) (hW : WI Wn mwinds wv) (hn : n ≤ 8) (hg : g ≤ 10) (hp : p < N) (ht : t < 5) (hM : MS N pinned stored guides year A) (hZ : PZ N A.1) (hy : A.2.2.2 ≤ 999) : ∃ y' p' s' g' as, sx_it 1000 (bX5_storms_80 (nI N) (nI Wn) kindOf mwinds (nI p) (nI t) (nI n) (nI g)) ((0 : Int64), (0 : Int32), year, pinned, stored, guides, aside) = some (lN (wyA N kd Wn wv (5 * p + t) g n A), y', p', s', g', as) ∧ MS N p' s' g' y' A := by
  have h2n : 2 ^ n ≤ 2 ^ 8 := Nat.pow_le_pow_right (by omega) hn
  have hsh : (1 : Int32) <<< (nI n &&& 31) = nI (2 ^ n) := by rw [n_1, n_31, px_and, px_shl1 n (by omega)]
  obtain ⟨⟨u, y', p', s', g', as⟩, r1, r2, r3⟩ := px_inv0 (B := bX5_storms_80 (nI N) (nI Wn) kindOf mwinds (nI p) (nI t) (nI n) (nI g)) (n := 1000) (s0 := ((0 : Int64), (0 : Int32), year, pinned, stored, guides, aside)) (R := fun r => r.1 = lN (wyA N kd Wn wv (5 * p + t) g n A) ∧ MS N r.2.2.1 r.2.2.2.1 r.2.2.2.2.1 r.2.1 A) (fun k x => x.1 = lN (smN (trmN N kd Wn wv (5 * p + t) g n A) k) ∧ x.2.1 = nI k ∧ MS N x.2.2.2.1 x.2.2.2.2.1 x.2.2.2.2.2.1 x.2.2.1 A) (2 ^ n) (by omega) ⟨l_0, rfl, hM⟩ (by
    rintro k ⟨x, y, yy, pn, sn, gn, an⟩ hk ⟨q1, q2, q3⟩
    dsimp only at q1 q2 q3
    subst q1
    subst q2
    obtain ⟨as, s1, s2⟩ := e_begin (aside := an) hN q3
    obtain ⟨y1, p1, g1, w1, w2⟩ := e_way (i := k) hN hWn hK hW hn hg (by omega) q3 hZ hy
    obtain ⟨p2, st2, g2, k1, k2⟩ := e_putBack (pinned := p1) (stored := sn) (guides := g1) (year := y1) hN s2
    have hb : (mAs N kd Wn wv n A k).1 (5 * p + t) ≤ 20 := by
      have : ∀ (m : Nat) (B : AS) (i : Nat), PZ N B.1 → PZ N (mAs N kd Wn wv m B i).1 := by
        intro m
        induction m with
        | zero => exact fun B i h => h
        | succ m ih => exact fun B i h => ih _ _ (yrA_ok h)
      exact (this n A k hZ).1 _ (by omega)
    unfold bX5_storms_80
    dsimp only
    rw [hsh, if_neg (by rw [px_le (by omega) (by omega)]; omega), s1, px_bd, w1, px_bd]
    dsimp only
    rw [n_5, pk_mul, nI_add, px_rd (by omega) (by omega), w2.1 _ (by omega)]
    unfold jX5_storms_185
    rw [px_slt, px_slt, k1, px_bd, px_bd]
    dsimp only
    rw [n_1, nI_add]
    by_cases hz : (mAs N kd Wn wv n A k).1 (5 * p + t) = 0
    · rw [if_pos (by rw [n_0, px_le (by omega) (by omega)]; omega)]
      refine ⟨_, rfl, ?_, rfl, k2⟩
      show lN _ + (0 : Int64) = _
      rw [l_0, lN_add, smN_s, show trmN N kd Wn wv (5 * p + t) g n A k = 0 from if_pos hz]
    · rw [if_neg (by rw [n_0, px_le (by omega) (by omega)]; omega)]
      refine ⟨_, rfl, ?_, rfl, k2⟩
      show lN _ + lN _ = _
      rw [lN_add, smN_s, show trmN N kd Wn wv (5 * p + t) g n A k = wtN g n k from if_neg hz]) (by
    rintro ⟨x, y, yy, pn, sn, gn, an⟩ ⟨q1, q2, q3⟩
    dsimp only at q1 q2 q3
    subst q1
    subst q2
    refine ⟨(lN (wyA N kd Wn wv (5 * p + t) g n A), yy, pn, sn, gn, an), ?_, rfl, q3⟩
    unfold bX5_storms_80
    dsimp only
    rw [hsh, if_pos (by rw [px_le (by omega) (by omega)]; omega), smN_ways])
  have r2 : u = lN (wyA N kd Wn wv (5 * p + t) g n A) := r2
  subst r2
  exact ⟨_, _, _, _, _, r1, r3⟩
theorem op_storms {N Wn : Nat} {kd wv : Nat → Nat} {kinds winds kindOf mwinds now gusts pinned stored guides aside : Nat → Int32} {year : Int32} {A : AS} (hR : RR2 N kd Wn wv kinds winds kindOf mwinds) (hD : RDs N now pinned stored guides year A) (v w x y z : Int32) : ∃ r gusts' year' pinned' stored' guides' aside', fX4_storms (nI N) (nI Wn) kinds winds now gusts v w x y z = some (r, gusts') ∧ fX5_storms (nI N) (nI Wn) year kindOf mwinds pinned stored guides aside v w x y z = some (r, year', pinned', stored', guides', aside') ∧ RDs N now pinned' stored' guides' year' A := by
  obtain ⟨h1, hN, hWn, hK, hK2, hW, hW2⟩ := hR
  unfold fX4_storms fX5_storms
  rcases e_placeQ h1 hN v w with ⟨p, t, hp, ht, rfl, rfl⟩ | ⟨q1, q2⟩
  · rw [e_isPlace hN hp ht, e_mPeak hN hp, px_bd, px_bd, if_neg i01, if_neg i01, e_mTrim ht, px_bd, if_neg i01]
    rcases px_rng x 0 8 (by omega) (by omega) with hx | hx | ⟨n, n1, n2, rfl⟩
    · have e : fX5_in x (0 : Int32) (8 : Int32) = some 0 := e_in_bad (Or.inl hx)
      rw [if_pos (show x < 0 from hx), e, px_bd, if_pos rfl]
      exact ⟨_, _, _, _, _, _, _, rfl, rfl, hD⟩
    · have e : fX5_in x (0 : Int32) (8 : Int32) = some 0 := e_in_bad (Or.inr hx)
      rw [e, px_bd, if_pos rfl, if_pos (show (8 : Int32) < x from hx), ite_self]
      exact ⟨_, _, _, _, _, _, _, rfl, rfl, hD⟩
    · have e : fX5_in (nI n) (0 : Int32) (8 : Int32) = some 1 := e_in (j := n) (a := 0) (b := 8) (by omega) (by omega) n1 n2
      rw [e, px_bd, if_neg i01, if_neg (show ¬ nI n < 0 by rw [px_lt0 (by omega)]; exact id), if_neg (show ¬ (8 : Int32) < nI n by rw [n_8, px_lt (by omega) (by omega)]; omega)]
      rcases px_rng y 0 10 (by omega) (by omega) with hy | hy | ⟨g, g1, g2, rfl⟩
      · have e : fX5_in y (0 : Int32) (10 : Int32) = some 0 := e_in_bad (Or.inl hy)
        rw [if_pos (show y < 0 from hy), e, px_bd, if_pos rfl]
        exact ⟨_, _, _, _, _, _, _, rfl, rfl, hD⟩
      · have e : fX5_in y (0 : Int32) (10 : Int32) = some 0 := e_in_bad (Or.inr hy)
        rw [e, px_bd, if_pos rfl, if_pos (show (10 : Int32) < y from hy), ite_self]
        exact ⟨_, _, _, _, _, _, _, rfl, rfl, hD⟩
      · have e : fX5_in (nI g) (0 : Int32) (10 : Int32) = some 1 := e_in (j := g) (a := 0) (b := 10) (by omega) (by omega) g1 g2
        rw [e, px_bd, if_neg i01, if_neg (show ¬ nI g < 0 by rw [px_lt0 (by omega)]; exact id), if_neg (show ¬ (10 : Int32) < nI g by rw [n_10, px_lt (by omega) (by omega)]; omega)]
        obtain ⟨gu, u1, u2⟩ := px_inv0 (B := bX4_storms_44 now (nI p)) (n := 1000) (s0 := ((0 : Int32), gusts)) (R := fun r => GR r 0 p A) (fun k s => s.1 = nI k ∧ ∀ j, j < k → s.2 (5 * 0 + j) = nI (A.1 (5 * p + j))) 5 (by omega) ⟨rfl, fun j hj => by omega⟩ (by
          rintro k ⟨s, f⟩ hk ⟨q1, q2⟩
          dsimp only at q1 q2
          subst q1
          refine ⟨(nI (k + 1), upd f k (nI (A.1 (5 * p + k)))), ?_, rfl, ?_⟩
          · unfold bX4_storms_44
            dsimp only
            rw [n_5, if_neg (by rw [px_le (by omega) (by omega)]; omega), e_pinsOn _ (by omega) hk, px_bd, hD.1.1 _ (by omega), px_wr (by omega) (by omega), n_1, nI_add]
          · intro j hj
            dsimp only
            by_cases e : j = k
            · subst e; rw [show 5 * 0 + j = j by omega, px_upd_s]
            · rw [px_upd_n (by omega)]; exact q2 j (by omega)) (by
          rintro ⟨s, f⟩ ⟨q1, q2⟩
          dsimp only at q1 q2
          subst q1
          refine ⟨f, ?_, q2⟩
          unfold bX4_storms_44
          dsimp only
          rw [n_5, if_pos (by decide)])
        have hw0 := wyA_le (N := N) (kd := kd) (Wn := Wn) (wv := wv) (q := 5 * p + t) g2 n A
        have h10 : 10 ^ n ≤ 100000000 := Nat.le_trans (Nat.pow_le_pow_right (by omega) n2) (by decide : 10 ^ 8 ≤ 100000000)
        have h10p : 0 < 10 ^ n := Nat.pow_pos (by omega)
        obtain ⟨gu2, c1, _⟩ := e_ways (now := now) (t := t) (Y := A.2.2.2) hN hWn hK hW hp ht g2 n2 hD.1.2.2.2 (by have := hD.2.2.2; omega) n 10 0 gu A (by omega) (by omega) u2 hD.2.2.1 rfl
        have p91 : sx_it 1000 (bX4_storms_91 (nI n)) ((1 : Int32), (0 : Int32)) = some (nI (10 ^ n)) := by
          refine px_it n 1000 (fun j => (nI (10 ^ j), nI j)) ?_ ?_ (by omega)
          · intro j hj
            unfold bX4_storms_91
            dsimp only
            rw [if_neg (by rw [px_le (by omega) (by omega)]; omega), n_10, pk_mul, px_slt, n_1, nI_add, Nat.pow_succ]
          · unfold bX4_storms_91
            dsimp only
            rw [if_pos (by rw [px_le (by omega) (by omega)]; omega)]
        have p57 : sx_it 1000 (bX5_storms_57 (nI n)) ((1 : Int64), (0 : Int32)) = some (lN (10 ^ n)) := by
          refine px_it n 1000 (fun j => (lN (10 ^ j), nI j)) ?_ ?_ (by omega)
          · intro j hj
            unfold bX5_storms_57
            dsimp only
            rw [if_neg (by rw [px_le (by omega) (by omega)]; omega), l_10, lN_mul, px_slt, n_1, nI_add, Nat.pow_succ]
          · unfold bX5_storms_57
            dsimp only
            rw [if_pos (by rw [px_le (by omega) (by omega)]; omega)]
        obtain ⟨y', p', s', g', as, d1, d2⟩ := e_allWays (aside := aside) (p := p) (t := t) hN hWn hK2 hW2 n2 g2 hp ht hD.2.1 hD.2.2.1 hD.2.2.2
        have hD2 : RDs N now p' s' g' y' A := ⟨hD.1, d2, hD.2.2⟩
        obtain ⟨W, hWe⟩ : ∃ W, W = wyA N kd Wn wv (5 * p + t) g n A := ⟨_, rfl⟩
        rw [← hWe] at c1 d1 hw0
        have gp : 0 < Nat.gcd (10 ^ n) W := Nat.gcd_pos_of_pos_left _ h10p
        have gl : Nat.gcd (10 ^ n) W ≤ 10 ^ n := Nat.le_of_dvd h10p (Nat.gcd_dvd_left _ _)
        have c1 : fX4_waysToStay 10 (nI N) (nI Wn) kinds winds now gu (0 : Int32) (nI n) (nI p) (nI t) (nI g) = some (nI W, gu2) := c1
        rcases e_01Q z with rfl | rfl | ⟨q1, q2⟩
        · rw [e_zo0, e_in01_0, px_bd, px_bd, if_neg i01, if_neg i01, u1, px_bd, c1, px_bd, p57, px_bd, d1, px_bd]
          dsimp only
          rw [p91, px_bd, e_common (by omega) h10, px_bd, if_pos n_0.symm, if_pos n_0.symm, px_nzl gp (by omega), pk_lDiv (by omega) gp (by omega), lN_i, e_lowT (by omega) h10 n2, px_bd]
          have hq : W / Nat.gcd W (10 ^ n) = (ltN (W, 10 ^ n) n).1 := ltN_fin (z := (W, 10 ^ n)) (n := n) (Nat.gcd_dvd_right _ _)
          rw [← hq, Nat.gcd_comm]
          exact ⟨_, _, _, _, _, _, _, rfl, rfl, hD2⟩
        · rw [e_zo1, e_in01_1, px_bd, px_bd, if_neg i01, if_neg i01, u1, px_bd, c1, px_bd, p57, px_bd, d1, px_bd]
          dsimp only
          rw [p91, px_bd, e_common (by omega) h10, px_bd, if_neg (show ¬ nI 1 = 0 by decide), if_neg (show ¬ nI 1 = 0 by decide), px_nzl gp (by omega), pk_lDiv (by omega) gp (by omega), lN_i, e_lowT h10 (by omega) n2, px_bd]
          have hq : 10 ^ n / Nat.gcd (10 ^ n) W = (ltN (10 ^ n, W) n).1 := ltN_fin (z := (10 ^ n, W)) (n := n) (Nat.gcd_dvd_left _ _)
          rw [← hq]
          exact ⟨_, _, _, _, _, _, _, rfl, rfl, hD2⟩
        · rw [q1, q2, px_bd, px_bd, if_pos rfl, if_pos rfl]
          exact ⟨_, _, _, _, _, _, _, rfl, rfl, hD⟩
  · rw [q1, px_bd, if_pos rfl]
    rcases q2 with q2 | ⟨q2, q3⟩
    · rw [q2, px_bd, if_pos rfl]
      exact ⟨_, _, _, _, _, _, _, rfl, rfl, hD⟩
    · rw [q2, px_bd, if_neg i01, q3, px_bd, if_pos rfl]
      exact ⟨_, _, _, _, _, _, _, rfl, rfl, hD⟩

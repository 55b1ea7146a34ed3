theorem sdN_b {N k : Nat} {P : Nat → Nat} {S : Nat → Int32} (hk : k < 5 * N) : k < sdN N P S k ∧ sdN N P S k ≤ 5 * N := by
  have := ls_le (Q2 N P S k) (k + 1) (5 * N - (k + 1))
  unfold sdN
  omega
theorem sdN_no {N k d : Nat} {P : Nat → Nat} {S : Nat → Int32} (h1 : k < d) (h2 : d < sdN N P S k) : ¬ Q2 N P S k d = true := by
  have := ls_no (Q := Q2 N P S k) (a := k + 1) (n := 5 * N - (k + 1)) (j := d - (k + 1)) (by unfold sdN at h2; omega)
  rwa [show k + 1 + (d - (k + 1)) = d by omega] at this
theorem sdN_yes {N k : Nat} {P : Nat → Nat} {S : Nat → Int32} (h : sdN N P S k < 5 * N) : Q2 N P S k (sdN N P S k) = true := ls_yes (by unfold sdN at h; omega)
theorem ls0_no {Q : Nat → Bool} {n j : Nat} (h : j < ls Q 0 n) : ¬ Q j = true := by
  have := ls_no h
  rwa [Nat.zero_add] at this
theorem ls0_yes {Q : Nat → Bool} {n : Nat} (h : ls Q 0 n < n) : Q (ls Q 0 n) = true := by
  have := ls_yes h
  rwa [Nat.zero_add] at this
theorem PZ_on {N k n t : Nat} {x : Int32} {A : AS} (hk : k < 5 * N) (hn : n ≤ 20) (h : PZ N A.1) : PZ N (setA A k n t x).1 := PZ_set hk hn h
theorem e_put1 {N c : Nat} {pinned stored guides : Nat → Int32} {year : Int32} {A : AS} (hN : N ≤ 6) (hc : c < 10 * N) (h5 : c % 10 < 5) (hM : MS N pinned stored guides year A) : ∃ p' s', fX5_puts pinned stored (nI (c / 10)) (nI (c % 10)) (1 : Int32) = some (p', s') ∧ MS N p' s' guides year (setA A (cnN c) 1 (cnN c % 5) (A.2.1 (cnN c % 5) - 1)) := by
  obtain ⟨e1, e2, e3, e4⟩ := cnN_in h5
  refine ⟨_, _, e_puts (by omega) h5 hM _, ?_⟩
  rw [e4, e1]
  exact MS_set hM
theorem e_off1 {N c : Nat} {pinned stored guides : Nat → Int32} {year : Int32} {A : AS} (hN : N ≤ 6) (hc : c < 10 * N) (h5 : c % 10 < 5) (hz : A.1 (cnN c) = 0) (hM : MS N pinned stored guides year (setA A (cnN c) 1 (cnN c % 5) (A.2.1 (cnN c % 5) - 1))) : ∃ p' s', fX5_takesOff pinned stored (nI (c / 10)) (nI (c % 10)) = some (p', s') ∧ MS N p' s' guides year A := by
  obtain ⟨e1, e2, e3, e4⟩ := cnN_in h5
  have hb := setA_back (A := A) (k := cnN c) (t := cnN c % 5) hz
  refine ⟨_, _, e_takesOff (by omega) h5 hM, ?_⟩
  have := MS_set (k := cnN c) (n := 0) (t := cnN c % 5) (x := (setA A (cnN c) 1 (cnN c % 5) (A.2.1 (cnN c % 5) - 1)).2.1 (cnN c % 5) + 1) hM
  rw [hb] at this
  rw [← e1, ← e4]
  exact this
theorem e_may1 {N c : Nat} {pinned stored guides : Nat → Int32} {year : Int32} {A : AS} (hN : N ≤ 6) (hc : c < 10 * N) (h5 : c % 10 < 5) (hB : PB A.1) (hM : MS N pinned stored guides year A) : fX5_mayPut pinned stored (nI (c / 10)) (nI (c % 10)) = some (if elB A.1 A.2.1 (cnN c) = true then (1 : Int32) else 0) := by
  obtain ⟨e1, e2, e3, e4⟩ := cnN_in h5
  rw [e_mayPut (by omega) h5 hM hB]
  unfold elB
  rw [e4, ← e1]
  by_cases e : A.1 (cnN c) = 0 ∧ ¬ A.2.1 (c % 10) ≤ 0
  · rw [if_pos e, if_pos (decide_eq_true e)]
  · rw [if_neg e, if_neg (by rw [decide_eq_false e]; decide)]
theorem e_pa1 {N : Nat} {pinned : Nat → Int32} {P : Nat → Nat} (hN : N ≤ 6) (hP : PI pinned P) (hB : PB P) : ∃ x, fX5_pairsAlike (nI N) pinned = some x ∧ (x = 0 ↔ apN N (lk P) = true) := by
  have hc := cO_le (alB (lk P) 31) N hN N
  refine ⟨_, e_mPairs hN hP hB, ?_⟩
  rw [bit0 (by omega)]
  unfold apN
  rw [decide_eq_true_iff]
theorem e_inner3 {N c : Nat} {pinned stored guides added : Nat → Int32} {year : Int32} {A : AS} (hN : N ≤ 6) (hc : c < 10 * N) (h5 : c % 10 < 5) (hZ : PZ N A.1) (hM : MS N pinned stored guides year (setA A (cnN c) 1 (cnN c % 5) (A.2.1 (cnN c % 5) - 1))) : ∃ v p' s' ad, sx_it 1000 (bX5_adds_113 (nI N) (nI c)) (nI 3, nI (c + 1), pinned, stored, added) = some (v, p', s', ad) ∧ MS N p' s' guides year (setA A (cnN c) 1 (cnN c % 5) (A.2.1 (cnN c % 5) - 1)) ∧ (if sdN N A.1 A.2.1 (cnN c) < 5 * N then v = nI 2 ∧ ad 0 = nI c ∧ ad 1 = nI (tenN (sdN N A.1 A.2.1 (cnN c))) else v = nI 3 ∧ ad = added) := by
  have hk := cnN_lt hc h5
  have hsb := sdN_b (P := A.1) (S := A.2.1) hk
  have hcs := (cnN_in h5).2.1
  obtain ⟨k, hkk⟩ : ∃ k, k = cnN c := ⟨_, rfl⟩
  rw [← hkk] at hM hk hsb hcs ⊢
  obtain ⟨A1, hA1⟩ : ∃ A1 : AS, A1 = setA A k 1 (k % 5) (A.2.1 (k % 5) - 1) := ⟨_, rfl⟩
  rw [← hA1] at hM ⊢
  have hZ1 : PZ N A1.1 := by rw [hA1]; exact PZ_on hk (by omega) hZ
  have hmono : ∀ j, cnN c + 1 ≤ cnN (c + 1 + j) := by
    intro j
    induction j with
    | zero => rw [← hkk]; exact Nat.le_of_eq hcs.symm
    | succ j ih =>
      refine Nat.le_trans ih ?_
      by_cases e : (c + 1 + j) % 10 < 5
      · have := (cnN_in e).2.1
        rw [show c + 1 + (j + 1) = c + 1 + j + 1 by omega, this]; omega
      · rw [show c + 1 + (j + 1) = c + 1 + j + 1 by omega, cnN_out e]; exact Nat.le_refl _
  obtain ⟨⟨v, p', s', ad⟩, r1, r2, r3⟩ := px_inv (B := bX5_adds_113 (nI N) (nI c)) (R := fun r => MS N r.2.1 r.2.2.1 guides year A1 ∧ (if sdN N A.1 A.2.1 k < 5 * N then r.1 = nI 2 ∧ r.2.2.2 0 = nI c ∧ r.2.2.2 1 = nI (tenN (sdN N A.1 A.2.1 k)) else r.1 = nI 3 ∧ r.2.2.2 = added)) (fun j x => x.2.1 = nI (c + 1 + j) ∧ MS N x.2.2.1 x.2.2.2.1 guides year A1 ∧ (if sdN N A.1 A.2.1 k < cnN (c + 1 + j) then x.1 = nI 2 ∧ x.2.2.2.2 0 = nI c ∧ x.2.2.2.2 1 = nI (tenN (sdN N A.1 A.2.1 k)) else x.1 = nI 3 ∧ x.2.2.2.2 = added)) (10 * N - (c + 1)) (by
    rintro j ⟨v, y, pn, sn, ad⟩ hj ⟨q1, q2, q3⟩
    dsimp only at q1 q2 q3
    subst q1
    obtain ⟨c2, hc2⟩ : ∃ c2, c2 = c + 1 + j := ⟨_, rfl⟩
    have hm := hmono j
    rw [← hc2] at q3 hm ⊢
    rw [show c + 1 + (j + 1) = c2 + 1 by omega]
    have d1 : nI c2 - nI c2 / (10 : Int32) * (10 : Int32) = nI (c2 % 10) := by rw [n_10]; exact px_rem (by omega) (by omega) (by omega)
    have d2 : nI c2 / (10 : Int32) = nI (c2 / 10) := by rw [n_10]; exact px_div (by omega) (by omega) (by omega)
    have hr10 : c2 % 10 < 10 := Nat.mod_lt _ (by omega)
    by_cases hf : sdN N A.1 A.2.1 k < cnN c2
    · rw [if_pos hf] at q3
      have hle := cnN_le (c := c2) (N := N) (by omega)
      refine Or.inr ⟨(v, pn, sn, ad), ?_, q2, by rw [if_pos (by omega)]; exact q3⟩
      unfold bX5_adds_113
      dsimp only
      rw [n_10, pk_mul, if_neg (by rw [px_le (by omega) (by omega)]; omega), q3.1, if_pos (by decide)]
    · rw [if_neg hf] at q3
      obtain ⟨q3, rfl⟩ := q3
      subst q3
      refine Or.inl ?_
      have B0 : bX5_adds_113 (nI N) (nI c) (nI 3, nI c2, pn, sn, ad) = if (5 : Int32) ≤ nI (c2 % 10) then some (.inl (nI 3, nI (c2 + 1), pn, sn, ad)) else (fX5_mayPut pn sn (nI (c2 / 10)) (nI (c2 % 10))).bind fun x9 => if x9 = 0 then some (.inl (nI 3, nI (c2 + 1), pn, sn, ad)) else (fX5_puts pn sn (nI (c2 / 10)) (nI (c2 % 10)) (1 : Int32)).bind fun (o10, o11) => (fX5_pairsAlike (nI N) o10).bind fun x14 => if x14 = 0 then jX5_adds_193 o10 o11 (upd (upd ad 0 (nI c)) 1 (nI c2)) (2 : Int32) (nI c2) else jX5_adds_193 o10 o11 ad (nI 3) (nI c2) := by
        unfold bX5_adds_113
        dsimp only
        rw [d1, d2, if_neg (by rw [n_10, pk_mul, px_le (by omega) (by omega)]; omega), if_neg (by decide), show nI c2 + (1 : Int32) = nI (c2 + 1) from nI_1 c2]
        simp only [n_0, n_1, px_wr (show 0 < 2 by omega) (show 2 < 2147483648 by omega), px_wr (show 1 < 2 by omega) (show 2 < 2147483648 by omega)]
        rfl
      rw [B0]
      by_cases h52 : c2 % 10 < 5
      · obtain ⟨e1, e2, e3, e4⟩ := cnN_in h52
        have hd := cnN_lt (N := N) (c := c2) (by omega) h52
        rw [if_neg (by rw [n_5, px_le (by omega) (by omega)]; omega), e_may1 hN (by omega) h52 hZ1.1 q2, px_bd, e2]
        have hel : elB A1.1 A1.2.1 (cnN c2) = el2 A.1 A.2.1 k (cnN c2) := by
          rw [hA1]
          unfold elB el2 setA
          dsimp only
          refine decide_eq_decide.mpr ?_
          rw [if_neg (show ¬ cnN c2 = k by omega)]
        by_cases he : elB A1.1 A1.2.1 (cnN c2) = true
        · rw [if_pos he, if_neg i01]
          obtain ⟨p1, s1, a1, a2⟩ := e_put1 hN (show c2 < 10 * N by omega) h52 q2
          obtain ⟨x, x1, x2⟩ := e_pa1 hN a2.1 (PZ_on hd (by omega) hZ1).1
          obtain ⟨p2, s2, b1, b2⟩ := e_off1 hN (show c2 < 10 * N by omega) h52 (elB_y he).1 a2
          have hx : (x = 0 ↔ Q2 N A.1 A.2.1 k (cnN c2) = true) := by
            rw [x2]
            unfold Q2
            rw [← hel, he, Bool.true_and, hA1]
            exact Iff.rfl
          rw [a1, px_bd]
          dsimp only
          rw [x1, px_bd]
          unfold jX5_adds_193
          rw [d1, d2, b1, px_bd, px_bd]
          dsimp only
          rw [show nI c2 + (1 : Int32) = nI (c2 + 1) from nI_1 c2]
          by_cases hx0 : x = 0
          · have hq := hx.mp hx0
            have hsd : sdN N A.1 A.2.1 k = cnN c2 := by
              rcases Nat.lt_or_ge (cnN c2) (sdN N A.1 A.2.1 k) with h | h
              · exact absurd hq (sdN_no (by omega) h)
              · omega
            rw [if_pos hx0]
            refine ⟨_, rfl, rfl, b2, ?_⟩
            rw [if_pos (by omega), hsd, cnN_ten h52]
            exact ⟨rfl, by show upd (upd ad 0 (nI c)) 1 (nI c2) 0 = nI c; rw [px_upd_n (by omega), px_upd_s], by show upd (upd ad 0 (nI c)) 1 (nI c2) 1 = nI c2; rw [px_upd_s]⟩
          · rw [if_neg hx0]
            refine ⟨_, rfl, rfl, b2, ?_⟩
            rw [if_neg]
            · exact ⟨rfl, rfl⟩
            · intro z
              have e : sdN N A.1 A.2.1 k = cnN c2 := by omega
              have := sdN_yes (N := N) (P := A.1) (S := A.2.1) (k := k) (by omega)
              rw [e] at this
              exact hx0 (hx.mpr this)
        · rw [if_neg he, if_pos rfl]
          refine ⟨_, rfl, rfl, q2, ?_⟩
          rw [if_neg]
          · exact ⟨rfl, rfl⟩
          · intro z
            have e : sdN N A.1 A.2.1 k = cnN c2 := by omega
            have := sdN_yes (N := N) (P := A.1) (S := A.2.1) (k := k) (by omega)
            rw [e] at this
            unfold Q2 at this
            rw [Bool.and_eq_true, ← hel] at this
            exact he this.1
      · rw [if_pos (by rw [n_5, px_le (by omega) (by omega)]; omega), cnN_out h52]
        exact ⟨_, rfl, rfl, q2, by rw [if_neg hf]; exact ⟨rfl, rfl⟩⟩) (by
    rintro ⟨v, y, pn, sn, ad⟩ ⟨q1, q2, q3⟩
    dsimp only at q1 q2 q3
    subst q1
    rw [show c + 1 + (10 * N - (c + 1)) = 10 * N by omega, cnN_end] at q3
    refine ⟨(v, pn, sn, ad), ?_, q2, q3⟩
    unfold bX5_adds_113
    dsimp only
    rw [n_10, pk_mul, if_pos (by rw [px_le (by omega) (by omega)]; omega)]) 1000 0 (nI 3, nI (c + 1), pinned, stored, added) (by omega) (by omega) ⟨rfl, hM, by
      dsimp only
      rw [if_neg (by rw [Nat.add_zero, hcs]; omega)]
      exact ⟨rfl, rfl⟩⟩
  exact ⟨v, p', s', ad, r1, r2, r3⟩
theorem e_inner12 {N c v : Nat} {pinned stored added : Nat → Int32} (hN : N ≤ 6) (hc : c < 10 * N) (hv : v ≤ 2) : sx_it 1000 (bX5_adds_113 (nI N) (nI c)) (nI v, nI (c + 1), pinned, stored, added) = some (nI v, pinned, stored, added) := by
  refine px_it 0 1000 (fun _ => (nI v, nI (c + 1), pinned, stored, added)) (fun j hj => by omega) ?_ (by omega)
  unfold bX5_adds_113
  dsimp only
  rw [n_2, if_pos (show nI v ≤ nI 2 by rw [px_le (by omega) (by omega)]; omega), ite_self]
theorem adR_3 {N m : Nat} {P : Nat → Nat} {S : Nat → Int32} {v a b : Int32} (h : adR N P S m v a b) : ∃ n, v = nI n ∧ 1 ≤ n ∧ n ≤ 3 := by
  unfold adR at h
  split at h
  · exact ⟨1, h.1, by omega, by omega⟩
  · split at h
    · exact ⟨2, h.1, by omega, by omega⟩
    · exact ⟨3, h.1, by omega, by omega⟩
theorem e_adds33 {N c : Nat} {pinned stored guides added : Nat → Int32} {year v : Int32} {A : AS} (hN : N ≤ 6) (hc : c < 10 * N) (hZ : PZ N A.1) (hM : MS N pinned stored guides year A) (hA : adR N A.1 A.2.1 (cnN c) v (added 0) (added 1)) : ∃ v' p' s' ad, bX5_adds_33 (nI N) (v, nI c, pinned, stored, added) = some (.inl (v', nI (c + 1), p', s', ad)) ∧ MS N p' s' guides year A ∧ adR N A.1 A.2.1 (cnN (c + 1)) v' (ad 0) (ad 1) := by
  have d1 : nI c - nI c / (10 : Int32) * (10 : Int32) = nI (c % 10) := by rw [n_10]; exact px_rem (by omega) (by omega) (by omega)
  have d2 : nI c / (10 : Int32) = nI (c / 10) := by rw [n_10]; exact px_div (by omega) (by omega) (by omega)
  have hr10 : c % 10 < 10 := Nat.mod_lt _ (by omega)
  unfold bX5_adds_33
  dsimp only
  rw [d1, d2, if_neg (by rw [n_10, pk_mul, px_le (by omega) (by omega)]; omega), show nI c + (1 : Int32) = nI (c + 1) from nI_1 c]
  by_cases h5 : c % 10 < 5
  · obtain ⟨e1, e2, e3, e4⟩ := cnN_in h5
    have hk := cnN_lt hc h5
    rw [if_neg (by rw [n_5, px_le (by omega) (by omega)]; omega), e_may1 hN hc h5 hZ.1 hM, px_bd, e2]
    have y1 := @ls0_yes (Q1 N A.1 A.2.1) (5 * N)
    have y3 := @ls0_yes (Q3 N A.1 A.2.1) (5 * N)
    have o1 := @ls0_no (Q1 N A.1 A.2.1) (5 * N) (cnN c)
    have o3 := @ls0_no (Q3 N A.1 A.2.1) (5 * N) (cnN c)
    have t0 := cnN_ten h5
    by_cases he : elB A.1 A.2.1 (cnN c) = true
    · rw [if_pos he, if_neg i01]
      obtain ⟨p1, s1, a1, a2⟩ := e_put1 hN hc h5 hM
      obtain ⟨x, x1, x2⟩ := e_pa1 hN a2.1 (PZ_on hk (by omega) hZ).1
      have hx : (x = 0 ↔ Q1 N A.1 A.2.1 (cnN c) = true) := by
        rw [x2]
        unfold Q1
        rw [he, Bool.true_and]
        exact Iff.rfl
      have h3 : Q3 N A.1 A.2.1 (cnN c) = true ↔ sdN N A.1 A.2.1 (cnN c) < 5 * N := by
        unfold Q3
        rw [he, Bool.true_and, decide_eq_true_iff]
      have fin : ∀ (w : Int32) (ad0 : Nat → Int32) (w' : Int32) (p' s' ad : Nat → Int32), sx_it 1000 (bX5_adds_113 (nI N) (nI c)) (w, nI (c + 1), p1, s1, ad0) = some (w', p', s', ad) → MS N p' s' guides year (setA A (cnN c) 1 (cnN c % 5) (A.2.1 (cnN c % 5) - 1)) → adR N A.1 A.2.1 (cnN c + 1) w' (ad 0) (ad 1) → ∃ v' p' s' ad, jX5_adds_109 (nI N) p1 s1 ad0 w (nI c) = some (.inl (v', nI (c + 1), p', s', ad)) ∧ MS N p' s' guides year A ∧ adR N A.1 A.2.1 (cnN c + 1) v' (ad 0) (ad 1) := by
        intro w ad0 w' p' s' ad f1 f2 f3
        obtain ⟨p2, s2, b1, b2⟩ := e_off1 hN hc h5 (elB_y he).1 f2
        unfold jX5_adds_109
        rw [d1, d2, show nI c + (1 : Int32) = nI (c + 1) from nI_1 c, px_slt, f1, px_bd]
        dsimp only
        rw [b1, px_bd]
        exact ⟨_, _, _, _, rfl, b2, f3⟩
      rw [a1, px_bd]
      dsimp only
      rw [x1, px_bd]
      simp only [n_0, n_1, px_wr (show 0 < 2 by omega) (show 2 < 2147483648 by omega), px_wr (show 1 < 2 by omega) (show 2 < 2147483648 by omega)]
      unfold adR at hA
      by_cases c1 : ls (Q1 N A.1 A.2.1) 0 (5 * N) < cnN c
      · rw [if_pos c1] at hA
        rw [hA.1, if_pos (Int32.le_refl _)]
        refine fin _ _ _ _ _ _ (e_inner12 hN hc (by omega)) a2 ?_
        unfold adR
        rw [if_pos (by omega)]
        exact ⟨rfl, hA.2⟩
      · rw [if_neg c1] at hA
        by_cases hx0 : x = 0
        · have hq := hx.mp hx0
          have hk1 : ls (Q1 N A.1 A.2.1) 0 (5 * N) = cnN c := by
            rcases Nat.lt_or_ge (cnN c) (ls (Q1 N A.1 A.2.1) 0 (5 * N)) with h | h
            · exact absurd hq (o1 h)
            · omega
          have hv1 : ¬ v ≤ nI 1 := by
            split at hA
            · rw [hA.1]; decide
            · rw [hA.1]; decide
          rw [if_neg hv1, if_pos (show x = nI 0 from hx0)]
          refine fin _ _ _ _ _ _ (e_inner12 hN hc (by omega)) a2 ?_
          unfold adR
          rw [if_pos (by omega), hk1, t0]
          exact ⟨rfl, by rw [px_upd_n (by omega), px_upd_s], px_upd_s⟩
        · have hk1 : ¬ ls (Q1 N A.1 A.2.1) 0 (5 * N) < cnN c + 1 := by
            intro z
            have e : ls (Q1 N A.1 A.2.1) 0 (5 * N) = cnN c := by omega
            have := y1 (by omega)
            rw [e] at this
            exact hx0 (hx.mpr this)
          by_cases c2 : ls (Q3 N A.1 A.2.1) 0 (5 * N) < cnN c
          · rw [if_pos c2] at hA
            rw [hA.1, if_neg (show ¬ nI 2 ≤ nI 1 by decide), if_neg (show ¬ x = nI 0 from hx0)]
            refine fin _ _ _ _ _ _ (e_inner12 hN hc (by omega)) a2 ?_
            unfold adR
            rw [if_neg hk1, if_pos (by omega)]
            exact ⟨rfl, hA.2⟩
          · rw [if_neg c2] at hA
            rw [hA.1, if_neg (show ¬ nI 3 ≤ nI 1 by decide), if_neg (show ¬ x = nI 0 from hx0)]
            obtain ⟨w', p', s', ad, f1, f2, f3⟩ := e_inner3 (added := added) hN hc h5 hZ a2
            refine fin _ _ _ _ _ _ f1 f2 ?_
            unfold adR
            rw [if_neg hk1]
            by_cases hs : sdN N A.1 A.2.1 (cnN c) < 5 * N
            · rw [if_pos hs] at f3
              have hk2 : ls (Q3 N A.1 A.2.1) 0 (5 * N) = cnN c := by
                rcases Nat.lt_or_ge (cnN c) (ls (Q3 N A.1 A.2.1) 0 (5 * N)) with h | h
                · exact absurd (h3.mpr hs) (o3 h)
                · omega
              rw [if_pos (by omega), hk2, t0]
              exact f3
            · rw [if_neg hs] at f3
              rw [if_neg, f3.1, f3.2]
              · exact ⟨rfl, hA.2⟩
              · intro z
                have e : ls (Q3 N A.1 A.2.1) 0 (5 * N) = cnN c := by omega
                have := y3 (by omega)
                rw [e] at this
                exact hs (h3.mp this)
    · rw [if_neg he, if_pos rfl]
      refine ⟨_, _, _, _, rfl, hM, ?_⟩
      have n1 : ¬ ls (Q1 N A.1 A.2.1) 0 (5 * N) = cnN c := by
        intro e
        have := y1 (by omega)
        rw [e] at this
        unfold Q1 at this
        rw [Bool.and_eq_true] at this
        exact he this.1
      have n3 : ¬ ls (Q3 N A.1 A.2.1) 0 (5 * N) = cnN c := by
        intro e
        have := y3 (by omega)
        rw [e] at this
        unfold Q3 at this
        rw [Bool.and_eq_true] at this
        exact he this.1
      unfold adR at hA ⊢
      by_cases c1 : ls (Q1 N A.1 A.2.1) 0 (5 * N) < cnN c
      · rw [if_pos c1] at hA
        rw [if_pos (by omega)]
        exact hA
      · rw [if_neg c1] at hA
        rw [if_neg (by omega)]
        by_cases c2 : ls (Q3 N A.1 A.2.1) 0 (5 * N) < cnN c
        · rw [if_pos c2] at hA
          rw [if_pos (by omega)]
          exact hA
        · rw [if_neg c2] at hA
          rw [if_neg (by omega)]
          exact hA
  · rw [if_pos (by rw [n_5, px_le (by omega) (by omega)]; omega), cnN_out h5]
    exact ⟨_, _, _, _, rfl, hM, hA⟩
theorem e_adds {N : Nat} {pinned stored guides aside added : Nat → Int32} {year : Int32} {A : AS} (hN : N ≤ 6) (hZ : PZ N A.1) (hM : MS N pinned stored guides year A) : ∃ r y' p' s' g' as ad, fX5_adds (nI N) year pinned stored guides aside added = some (r, y', p', s', g', as, ad) ∧ MS N p' s' g' y' A ∧ (if apN N (lk A.1) = true then r = 0 ∧ ad 0 = -4 ∧ ad 1 = -4 else ∃ v, adR N A.1 A.2.1 (5 * N) v (ad 0) (ad 1) ∧ r = if v = nI 3 then -4 else v) := by
  obtain ⟨x, x1, x2⟩ := e_pa1 hN hM.1 hZ.1
  unfold fX5_adds
  rw [x1]
  simp only [n_0, n_1, px_wr (show 0 < 2 by omega) (show 2 < 2147483648 by omega), px_wr (show 1 < 2 by omega) (show 2 < 2147483648 by omega), px_bd]
  have g0 : upd (upd added 0 (-4 : Int32)) 1 (-4) 0 = -4 := by rw [px_upd_n (by omega), px_upd_s]
  have g1 : upd (upd added 0 (-4 : Int32)) 1 (-4) 1 = -4 := px_upd_s
  by_cases h : apN N (lk A.1) = true
  · rw [if_pos (show x = nI 0 from x2.mpr h)]
    exact ⟨_, _, _, _, _, _, _, rfl, hM, by rw [if_pos h]; exact ⟨rfl, g0, g1⟩⟩
  · rw [if_neg (show ¬ x = nI 0 from fun z => h (x2.mp z))]
    obtain ⟨as, s1, s2⟩ := e_begin (aside := aside) hN hM
    obtain ⟨⟨v, p', s', ad⟩, r1, r2, r3⟩ := px_inv0 (B := bX5_adds_33 (nI N)) (n := 1000) (s0 := ((3 : Int32), nI 0, pinned, stored, upd (upd added 0 (-4 : Int32)) 1 (-4))) (R := fun r => MS N r.2.1 r.2.2.1 guides year A ∧ adR N A.1 A.2.1 (5 * N) r.1 (r.2.2.2 0) (r.2.2.2 1)) (fun c x => x.2.1 = nI c ∧ MS N x.2.2.1 x.2.2.2.1 guides year A ∧ adR N A.1 A.2.1 (cnN c) x.1 (x.2.2.2.2 0) (x.2.2.2.2 1)) (10 * N) (by omega) ⟨rfl, hM, by
        dsimp only
        rw [g0, g1, show cnN 0 = 0 from rfl]
        unfold adR
        rw [if_neg (by omega), if_neg (by omega)]
        exact ⟨rfl, rfl, rfl⟩⟩ (by
      rintro c ⟨v, y, pn, sn, ad⟩ hc ⟨q1, q2, q3⟩
      dsimp only at q1 q2 q3
      subst q1
      obtain ⟨v', p', s', ad', b1, b2, b3⟩ := e_adds33 hN hc hZ q2 q3
      exact ⟨_, b1, rfl, b2, b3⟩) (by
      rintro ⟨v, y, pn, sn, ad⟩ ⟨q1, q2, q3⟩
      dsimp only at q1 q2 q3
      subst q1
      rw [cnN_end] at q3
      refine ⟨(v, pn, sn, ad), ?_, q2, q3⟩
      unfold bX5_adds_33
      dsimp only
      rw [n_10, pk_mul, if_pos (by rw [px_le (by omega) (by omega)]; omega)])
    have r2 : MS N p' s' guides year A := r2
    have r3 : adR N A.1 A.2.1 (5 * N) v (ad 0) (ad 1) := r3
    obtain ⟨p2, st2, g2, k1, k2⟩ := e_putBack (pinned := p') (stored := s') (guides := guides) (year := year) hN s2
    obtain ⟨n, rfl, n1, n3⟩ := adR_3 r3
    rw [s1, px_bd, r1, px_bd]
    dsimp only
    rw [k1, px_bd]
    dsimp only
    rw [n_3]
    by_cases e : n = 3
    · subst e
      rw [if_pos (Int32.le_refl _)]
      exact ⟨_, _, _, _, _, _, _, rfl, k2, by rw [if_neg h]; exact ⟨_, r3, by rw [if_pos rfl]⟩⟩
    · rw [if_neg (by rw [px_le (by omega) (by omega)]; omega)]
      exact ⟨_, _, _, _, _, _, _, rfl, k2, by rw [if_neg h]; exact ⟨_, r3, by rw [if_neg (fun z => e ((px_eq (by omega) (by omega)).mp z))]⟩⟩
theorem e_ten {k : Nat} (hk : k < 30) : fX4_tenTimesPeakAndTrimming (nI k) = some (nI (tenN k)) := by
  unfold fX4_tenTimesPeakAndTrimming
  rw [n_5, px_rem (by omega) (by omega) (by omega), px_div (by omega) (by omega) (by omega), n_10, pk_mul, nI_add]
  rfl
theorem e_search {N : Nat} {now f added : Nat → Int32} {A : AS} (hN : N ≤ 6) (hC : CS now A) (hB : PB A.1) : ∃ f' ad', fX4_searchAdded (nI N) now f added = some ((if apN N (lk A.1) = true then nI 0 else if ls (Q1 N A.1 A.2.1) 0 (5 * N) < 5 * N then nI 1 else if ls (Q3 N A.1 A.2.1) 0 (5 * N) < 5 * N then nI 2 else -4), f', ad') ∧ (¬ apN N (lk A.1) = true → ls (Q1 N A.1 A.2.1) 0 (5 * N) < 5 * N → ad' 0 = nI (ls (Q1 N A.1 A.2.1) 0 (5 * N))) ∧ (¬ apN N (lk A.1) = true → ¬ ls (Q1 N A.1 A.2.1) 0 (5 * N) < 5 * N → ls (Q3 N A.1 A.2.1) 0 (5 * N) < 5 * N → ad' 0 = nI (ls (Q3 N A.1 A.2.1) 0 (5 * N)) ∧ ad' 1 = nI (sdN N A.1 A.2.1 (ls (Q3 N A.1 A.2.1) 0 (5 * N)))) := by
  obtain ⟨f0, a1, a2⟩ := e_lookAt (faces := f) hC.1 hB
  have hc := cO_le (alB (lk A.1) 31) N hN N
  unfold fX4_searchAdded
  rw [a1, px_bd, n_31, e_pairsAlike hN a2 (by omega), px_bd]
  have hap : apN N (lk A.1) = true ↔ cO (alB (lk A.1) 31) N N = 0 := decide_eq_true_iff
  by_cases h : apN N (lk A.1) = true
  · rw [if_pos h, if_pos ((bit0 (by omega)).mpr (hap.mp h))]
    exact ⟨_, _, rfl, fun z => absurd h z, fun z => absurd h z⟩
  · rw [if_neg h, if_neg (fun z => h (hap.mpr ((bit0 (by omega)).mp z)))]
    obtain ⟨f1, b1, b2⟩ := e_isOne (added := added) hN hC hB a2
    rw [b2, px_bd]
    by_cases h1 : ls (Q1 N A.1 A.2.1) 0 (5 * N) < 5 * N
    · rw [if_pos h1, if_pos h1]
      dsimp only
      rw [if_neg i01]
      exact ⟨_, _, rfl, fun _ _ => px_upd_s, fun _ z => absurd h1 z⟩
    · rw [if_neg h1, if_neg h1]
      dsimp only
      obtain ⟨f2, c2⟩ := e_two (added := added) hN hC hB b1
      rw [if_pos rfl, c2, px_bd]
      by_cases h2 : ls (Q3 N A.1 A.2.1) 0 (5 * N) < 5 * N
      · rw [if_pos h2, if_pos h2]
        dsimp only
        rw [if_neg i01]
        exact ⟨_, _, rfl, fun _ z => absurd z h1, fun _ _ _ => ⟨px_upd_s, by rw [px_upd_n (by omega), px_upd_s]⟩⟩
      · rw [if_neg h2, if_neg h2]
        dsimp only
        rw [if_pos rfl]
        exact ⟨_, _, rfl, fun _ z => absurd z h1, fun _ _ z => absurd z h2⟩
theorem op_add {N : Nat} {now faces added pinned stored guides aside madded : Nat → Int32} {year : Int32} {A : AS} (hN : N ≤ 6) (hD : RDs N now pinned stored guides year A) (v : Int32) : ∃ r faces' added' year' pinned' stored' guides' aside' madded', fX4_add (nI N) now faces added v = some (r, faces', added') ∧ fX5_add (nI N) year pinned stored guides aside madded v = some (r, year', pinned', stored', guides', aside', madded') ∧ RDs N now pinned' stored' guides' year' A := by
  obtain ⟨f', ad', a1, a2, a3⟩ := e_search (f := faces) (added := added) hN hD.1 hD.2.2.1.1
  obtain ⟨r, y', p', s', g', as, ad, b1, b2, b3⟩ := e_adds (aside := aside) (added := madded) hN hD.2.2.1 hD.2.1
  have hD2 : RDs N now p' s' g' y' A := ⟨hD.1, b2, hD.2.2⟩
  have l1 := ls_le (Q1 N A.1 A.2.1) 0 (5 * N)
  have l3 := ls_le (Q3 N A.1 A.2.1) 0 (5 * N)
  have hr : r = (if apN N (lk A.1) = true then nI 0 else if ls (Q1 N A.1 A.2.1) 0 (5 * N) < 5 * N then nI 1 else if ls (Q3 N A.1 A.2.1) 0 (5 * N) < 5 * N then nI 2 else -4) := by
    by_cases h : apN N (lk A.1) = true
    · rw [if_pos h] at b3 ⊢; exact b3.1
    · rw [if_neg h] at b3 ⊢
      obtain ⟨w, w1, w2⟩ := b3
      unfold adR at w1
      by_cases h1 : ls (Q1 N A.1 A.2.1) 0 (5 * N) < 5 * N
      · rw [if_pos h1] at w1 ⊢
        rw [w2, w1.1, if_neg (by decide)]
      · rw [if_neg h1] at w1 ⊢
        by_cases h2 : ls (Q3 N A.1 A.2.1) 0 (5 * N) < 5 * N
        · rw [if_pos h2] at w1 ⊢
          rw [w2, w1.1, if_neg (by decide)]
        · rw [if_neg h2] at w1 ⊢
          rw [w2, w1.1, if_pos rfl]
  rw [← hr] at a1
  have bad : (v < (-1 : Int32) ∨ (1 : Int32) < v) ∨ (v = -1 ∨ v = nI 0 ∨ v = nI 1) := by
    rcases px_rng v 0 1 (by omega) (by omega) with h | h | ⟨j, j1, j2, rfl⟩
    · by_cases e : v = -1
      · exact Or.inr (Or.inl e)
      · refine Or.inl (Or.inl ?_)
        rw [Int32.lt_iff_toInt_lt] at h ⊢
        rw [nI_toInt (by omega)] at h
        rw [show (-1 : Int32).toInt = -1 from by decide]
        have : v.toInt ≠ -1 := fun z => e (Int32.toInt_inj.mp (by rw [z]; decide))
        omega
    · exact Or.inl (Or.inr h)
    · rcases (show j = 0 ∨ j = 1 by omega) with rfl | rfl
      · exact Or.inr (Or.inr (Or.inl rfl))
      · exact Or.inr (Or.inr (Or.inr rfl))
  unfold fX4_add fX5_add
  rcases bad with hb | hg
  · rw [e_in_bad hb, px_bd, if_pos rfl]
    rcases hb with h | h
    · rw [if_pos h]
      exact ⟨_, _, _, _, _, _, _, _, _, rfl, rfl, hD⟩
    · have h2 : ¬ v ≤ (1 : Int32) := by rw [Int32.not_le]; exact h
      rw [if_neg h2, ite_self]
      exact ⟨_, _, _, _, _, _, _, _, _, rfl, rfl, hD⟩
  · have e1 : fX5_in v (-1 : Int32) (1 : Int32) = some 1 := by rcases hg with rfl | rfl | rfl <;> decide +kernel
    have e2 : ¬ v < (-1 : Int32) := by rcases hg with rfl | rfl | rfl <;> decide
    have e3 : v ≤ (1 : Int32) := by rcases hg with rfl | rfl | rfl <;> decide
    rw [e1, px_bd, if_neg i01, b1, px_bd, if_neg e2, if_pos e3, a1, px_bd]
    dsimp only
    by_cases hr4 : r = (-4 : Int32)
    · rw [if_pos hr4, if_pos hr4]
      exact ⟨_, _, _, _, _, _, _, _, _, rfl, rfl, hD2⟩
    · rw [if_neg hr4, if_neg hr4]
      rcases hg with rfl | hg
      · rw [if_pos rfl, if_neg (by decide)]
        exact ⟨_, _, _, _, _, _, _, _, _, rfl, rfl, hD2⟩
      · have hv1 : ¬ v = (-1 : Int32) := by rcases hg with rfl | rfl <;> decide
        have hv0 : (0 : Int32) ≤ v := by rcases hg with rfl | rfl <;> decide
        rw [if_neg hv1, if_pos hv0]
        have goal : ∀ z, (∃ g, (if r ≤ v then some ((-4 : Int32), f', ad') else sx_rd ad' 2 v fun x4 => (fX4_tenTimesPeakAndTrimming x4).bind fun x5 => some (x5, f', ad')) = some (z, g) ∧ (sx_rd ad 2 v fun x9 => some (x9, y', p', s', g', as, ad)) = some (z, y', p', s', g', as, ad)) → ∃ r_1 faces' added' year' pinned' stored' guides' aside' madded', (if r ≤ v then some ((-4 : Int32), f', ad') else sx_rd ad' 2 v fun x4 => (fX4_tenTimesPeakAndTrimming x4).bind fun x5 => some (x5, f', ad')) = some (r_1, faces', added') ∧ (sx_rd ad 2 v fun x9 => some (x9, y', p', s', g', as, ad)) = some (r_1, year', pinned', stored', guides', aside', madded') ∧ RDs N now pinned' stored' guides' year' A := by
          rintro z ⟨⟨g1, g2⟩, g3, g4⟩
          exact ⟨_, _, _, _, _, _, _, _, _, g3, g4, hD2⟩
        by_cases h : apN N (lk A.1) = true
        · rw [if_pos h] at b3
          refine goal (-4) ⟨_, by rw [b3.1, if_pos hv0], ?_⟩
          rcases hg with rfl | rfl
          · rw [px_rd (by omega) (by omega), b3.2.1]
          · rw [px_rd (by omega) (by omega), b3.2.2]
        · rw [if_neg h] at b3 hr
          obtain ⟨w, w1, w2⟩ := b3
          unfold adR at w1
          by_cases h1 : ls (Q1 N A.1 A.2.1) 0 (5 * N) < 5 * N
          · rw [if_pos h1] at w1 hr
            rcases hg with rfl | rfl
            · refine goal (nI (tenN (ls (Q1 N A.1 A.2.1) 0 (5 * N)))) ⟨(f', ad'), ?_, ?_⟩
              · rw [hr, if_neg (by decide), px_rd (by omega) (by omega), a2 h h1, e_ten (by omega), px_bd]
              · rw [px_rd (by omega) (by omega), w1.2.1]
            · refine goal (-4) ⟨_, by rw [hr, if_pos (by decide)], ?_⟩
              rw [px_rd (by omega) (by omega), w1.2.2]
          · rw [if_neg h1] at w1 hr
            by_cases h2 : ls (Q3 N A.1 A.2.1) 0 (5 * N) < 5 * N
            · rw [if_pos h2] at w1 hr
              have hq0 := ls0_yes h2
              have hq : sdN N A.1 A.2.1 (ls (Q3 N A.1 A.2.1) 0 (5 * N)) < 5 * N := of_decide_eq_true (Bool.and_eq_true_iff.mp hq0).2
              rcases hg with rfl | rfl
              · refine goal (nI (tenN (ls (Q3 N A.1 A.2.1) 0 (5 * N)))) ⟨(f', ad'), ?_, ?_⟩
                · rw [hr, if_neg (by decide), px_rd (by omega) (by omega), (a3 h h1 h2).1, e_ten (by omega), px_bd]
                · rw [px_rd (by omega) (by omega), w1.2.1]
              · refine goal (nI (tenN (sdN N A.1 A.2.1 (ls (Q3 N A.1 A.2.1) 0 (5 * N))))) ⟨(f', ad'), ?_, ?_⟩
                · rw [hr, if_neg (by decide), px_rd (by omega) (by omega), (a3 h h1 h2).2, e_ten (by omega), px_bd]
                · rw [px_rd (by omega) (by omega), w1.2.2]
            · rw [if_neg h2] at hr
              exact absurd hr hr4

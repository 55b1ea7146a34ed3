/-! what is said -/
def orS (of_ is_ : Nat → Nat) (b : Nat) : Nat → Nat
  | 0 => 0
  | j + 1 => if is_ j = b then orS of_ is_ b j ||| 2 ^ of_ j else orS of_ is_ b j
def okS (of_ is_ : Nat → Nat) (x : Nat) : Nat → Bool
  | 0 => true
  | j + 1 => okS of_ is_ x j && decide (x / 2 ^ of_ j % 2 = is_ j)
theorem orS_lt {of_ is_ : Nat → Nat} {b : Nat} : ∀ s, (∀ j, j < s → of_ j < 5) → orS of_ is_ b s < 32
  | 0, _ => by show 0 < 32; omega
  | s + 1, h => by
    have ih := orS_lt (is_ := is_) (b := b) s (fun j hj => h j (by omega))
    unfold orS
    split
    · exact Nat.or_lt_two_pow (n := 5) ih (Nat.pow_lt_pow_right (by omega) (h s (by omega)))
    · exact ih
theorem and_or_eq (x a b : Nat) : x &&& (a ||| b) = a ||| b ↔ (x &&& a = a ∧ x &&& b = b) := by
  constructor
  · intro h
    refine ⟨?_, ?_⟩ <;>
    · apply Nat.eq_of_testBit_eq
      intro i
      have h1 := congrArg (fun z => z.testBit i) h
      simp only [Nat.testBit_and, Nat.testBit_or] at h1 ⊢
      revert h1
      cases x.testBit i <;> cases a.testBit i <;> cases b.testBit i <;> simp
  · rintro ⟨h1, h2⟩
    rw [Nat.and_or_distrib_left, h1, h2]
theorem and_or_z (x a b : Nat) : x &&& (a ||| b) = 0 ↔ (x &&& a = 0 ∧ x &&& b = 0) := by
  rw [Nat.and_or_distrib_left]
  exact Nat.or_eq_zero_iff
theorem and_pow (x t : Nat) : x &&& 2 ^ t = if x / 2 ^ t % 2 = 1 then 2 ^ t else 0 := by
  apply Nat.eq_of_testBit_eq
  intro i
  rw [Nat.testBit_and, Nat.testBit_two_pow]
  by_cases e : t = i
  · subst e
    rw [Nat.testBit_eq_decide_div_mod_eq]
    by_cases h : x / 2 ^ t % 2 = 1
    · rw [if_pos h, Nat.testBit_two_pow]; simp [h]
    · rw [if_neg h]; simp [h]
  · split
    · rw [Nat.testBit_two_pow]; simp [e]
    · simp [e]
theorem and_pow_eq (x t : Nat) : x &&& 2 ^ t = 2 ^ t ↔ x / 2 ^ t % 2 = 1 := by
  rw [and_pow]
  have : 0 < 2 ^ t := Nat.pow_pos (by omega)
  by_cases h : x / 2 ^ t % 2 = 1
  · rw [if_pos h]; simp [h]
  · rw [if_neg h]
    constructor
    · intro z; omega
    · intro z; exact absurd z h
theorem and_pow_z (x t : Nat) : x &&& 2 ^ t = 0 ↔ x / 2 ^ t % 2 = 0 := by
  rw [and_pow]
  have : 0 < 2 ^ t := Nat.pow_pos (by omega)
  by_cases h : x / 2 ^ t % 2 = 1
  · rw [if_pos h]
    constructor
    · intro z; omega
    · intro z; omega
  · rw [if_neg h]
    constructor
    · intro _; omega
    · intro _; rfl
theorem okS_iff {of_ is_ : Nat → Nat} (x : Nat) : ∀ s, (∀ j, j < s → is_ j ≤ 1) → (okS of_ is_ x s = true ↔ (x &&& orS of_ is_ 1 s = orS of_ is_ 1 s ∧ x &&& orS of_ is_ 0 s = 0))
  | 0, _ => by simp [okS, orS]
  | s + 1, h => by
    have ih := okS_iff (of_ := of_) x s (fun j hj => h j (by omega))
    have hs := h s (by omega)
    unfold okS
    rw [Bool.and_eq_true, ih, decide_eq_true_eq]
    have e : is_ s = 0 ∨ is_ s = 1 := by omega
    rcases e with e | e
    · show _ ↔ (x &&& (if is_ s = 1 then _ else _) = (if is_ s = 1 then _ else _) ∧ x &&& (if is_ s = 0 then _ else _) = 0)
      rw [if_neg (by omega), if_pos e, e, and_or_z, and_pow_z, and_assoc]
    · show _ ↔ (x &&& (if is_ s = 1 then _ else _) = (if is_ s = 1 then _ else _) ∧ x &&& (if is_ s = 0 then _ else _) = 0)
      rw [if_pos e, if_neg (by omega), e, and_or_eq, and_pow_eq]
      constructor
      · rintro ⟨⟨a, b⟩, c⟩; exact ⟨⟨a, c⟩, b⟩
      · rintro ⟨⟨a, c⟩, b⟩; exact ⟨⟨a, b⟩, c⟩
/-- what is said, both sides -/
def RSd (on off cnt saidMany : Int32) (saidOf saidIs : Nat → Int32) : Prop := ∃ (s : Nat) (of_ is_ : Nat → Nat), s ≤ 6 ∧ cnt = nI s ∧ saidMany = nI s ∧ (∀ j, j < s → saidOf j = nI (of_ j) ∧ of_ j < 5 ∧ saidIs j = nI (is_ j) ∧ is_ j ≤ 1) ∧ on = nI (orS of_ is_ 1 s) ∧ off = nI (orS of_ is_ 0 s)
theorem orS_cong {of_ is_ of2 is2 : Nat → Nat} {b : Nat} : ∀ s, (∀ j, j < s → of_ j = of2 j ∧ is_ j = is2 j) → orS of_ is_ b s = orS of2 is2 b s
  | 0, _ => rfl
  | s + 1, h => by
    unfold orS
    rw [(h s (by omega)).1, (h s (by omega)).2, orS_cong s (fun j hj => h j (by omega))]
theorem op_say {on off cnt saidMany : Int32} {saidOf saidIs : Nat → Int32} (hS : RSd on off cnt saidMany saidOf saidIs) (v w : Int32) : ∃ r on' off' cnt' many' of' is', fX4_say on off cnt v w = some (r, on', off', cnt') ∧ fX5_say saidMany saidOf saidIs v w = some (r, many', of', is') ∧ RSd on' off' cnt' many' of' is' := by
  unfold fX4_say fX5_say
  rcases e_trimQ v with ⟨t, ht, rfl⟩ | ⟨q1, q2⟩
  · rw [e_isTrimming ht, e_mTrim ht, px_bd, px_bd, if_neg (by decide), if_neg i01]
    have hmain : ∀ b : Nat, b ≤ 1 → ∃ r on' off' cnt' many' of' is', (if cnt < (6 : Int32) then if nI b = (1 : Int32) then sx_lt (on ||| ((1 : Int32) <<< (nI t &&& 31))) fun x5 => jX4_say_60 x5 off cnt else sx_lt (off ||| ((1 : Int32) <<< (nI t &&& 31))) fun x4 => jX4_say_60 on x4 cnt else some ((-3 : Int32), on, off, cnt)) = some (r, on', off', cnt') ∧ (if saidMany = (6 : Int32) then some ((-3 : Int32), saidMany, saidOf, saidIs) else sx_wr saidOf 6 saidMany (nI t) fun g3 => sx_wr saidIs 6 saidMany (nI b) fun g4 => sx_lt (saidMany + (1 : Int32)) fun x5 => some (x5, x5, g3, g4)) = some (r, many', of', is') ∧ RSd on' off' cnt' many' of' is' := by
      intro b hb
      obtain ⟨s, of_, is_, hs, rfl, rfl, hj, rfl, rfl⟩ := hS
      simp (disch := omega) only [n_6, n_1, n_31, px_lt, px_eq, px_and, px_shl1, px_or, nI_add, px_slt]
      by_cases h6 : s = 6
      · rw [if_neg (by omega), if_pos h6]
        exact ⟨_, _, _, _, _, _, _, rfl, rfl, s, of_, is_, hs, rfl, rfl, hj, rfl, rfl⟩
      · rw [if_pos (by omega), if_neg h6, px_wr (by omega) (by omega), px_wr (by omega) (by omega)]
        have key : ∀ o1 o0, o1 = orS (fun j => if j = s then t else of_ j) (fun j => if j = s then b else is_ j) 1 (s + 1) → o0 = orS (fun j => if j = s then t else of_ j) (fun j => if j = s then b else is_ j) 0 (s + 1) → RSd (nI o1) (nI o0) (nI (s + 1)) (nI (s + 1)) (upd saidOf s (nI t)) (upd saidIs s (nI b)) := by
          rintro o1 o0 rfl rfl
          refine ⟨s + 1, _, _, by omega, rfl, rfl, fun j hj2 => ?_, rfl, rfl⟩
          by_cases e : j = s
          · subst e
            rw [px_upd_s, px_upd_s, if_pos rfl, if_pos rfl]
            exact ⟨rfl, ht, rfl, hb⟩
          · rw [px_upd_n e, px_upd_n e, if_neg e, if_neg e]
            exact hj j (by omega)
        have hc : ∀ b', orS (fun j => if j = s then t else of_ j) (fun j => if j = s then b else is_ j) b' s = orS of_ is_ b' s := fun b' => orS_cong s (fun j hj2 => ⟨by rw [if_neg (by omega)], by rw [if_neg (by omega)]⟩)
        have he : ∀ b', orS (fun j => if j = s then t else of_ j) (fun j => if j = s then b else is_ j) b' (s + 1) = if b = b' then orS of_ is_ b' s ||| 2 ^ t else orS of_ is_ b' s := by
          intro b'
          show (if (if s = s then b else is_ s) = b' then _ ||| 2 ^ (if s = s then t else of_ s) else _) = _
          rw [if_pos rfl, if_pos rfl, hc]
        unfold jX4_say_60
        rw [n_1, nI_add, px_slt, px_slt]
        by_cases h1 : b = 1
        · rw [if_pos h1]
          exact ⟨_, _, _, _, _, _, _, rfl, rfl, key _ _ (by rw [he, if_pos h1]) (by rw [he, if_neg (by omega)])⟩
        · rw [if_neg h1]
          exact ⟨_, _, _, _, _, _, _, rfl, rfl, key _ _ (by rw [he, if_neg h1]) (by rw [he, if_pos (by omega)])⟩
    rcases e_01Q w with rfl | rfl | ⟨q1, q2⟩
    · rw [e_zo0, e_in01_0, px_bd, px_bd, if_neg i01, if_neg i01]
      exact hmain 0 (by omega)
    · rw [e_zo1, e_in01_1, px_bd, px_bd, if_neg i01, if_neg i01]
      exact hmain 1 (by omega)
    · rw [q1, q2, px_bd, px_bd, if_pos rfl, if_pos rfl]
      exact ⟨_, _, _, _, _, _, _, rfl, rfl, hS⟩
  · rw [q1, q2, px_bd, px_bd, if_pos rfl, if_pos rfl]
    exact ⟨_, _, _, _, _, _, _, rfl, rfl, hS⟩
theorem op_forget {on off cnt saidMany : Int32} {saidOf saidIs : Nat → Int32} (hS : RSd on off cnt saidMany saidOf saidIs) : ∃ r, fX4_forget on off cnt = some (r, (0 : Int32), (0 : Int32), (0 : Int32)) ∧ fX5_forget saidMany = some (r, (0 : Int32)) ∧ RSd (0 : Int32) (0 : Int32) (0 : Int32) (0 : Int32) saidOf saidIs := by
  obtain ⟨s, of_, is_, hs, rfl, rfl, hj, rfl, rfl⟩ := hS
  exact ⟨_, rfl, rfl, 0, of_, is_, by omega, rfl, rfl, fun j hj => absurd hj (Nat.not_lt_zero j), rfl, rfl⟩
/-- peaks of which all is so, as bits -/
def whU (ok : Nat → Bool) : Nat → Nat
  | 0 => 0
  | p + 1 => if ok p = true then whU ok p ||| 2 ^ p else whU ok p
theorem whU_lt (ok : Nat → Bool) : ∀ p, whU ok p < 2 ^ p
  | 0 => Nat.one_pos
  | p + 1 => by
    have ih := whU_lt ok p
    unfold whU
    split
    · refine Nat.or_lt_two_pow ?_ (Nat.pow_lt_pow_right (by omega) (by omega))
      rw [Nat.pow_succ]; omega
    · rw [Nat.pow_succ]; omega
theorem whU_64 (ok : Nat → Bool) {N : Nat} (hN : N ≤ 6) : whU ok N < 64 := Nat.lt_of_lt_of_le (whU_lt ok N) (Nat.pow_le_pow_right (n := 2) (by omega) hN)
theorem e_which {N s : Nat} {now : Nat → Int32} {P of_ is_ : Nat → Nat} (hN : N ≤ 6) (hP : PI now P) (hB : PB P) (hof : ∀ j, j < s → of_ j < 5 ∧ is_ j ≤ 1) : fX4_which (nI (orS of_ is_ 1 s)) (nI (orS of_ is_ 0 s)) (nI N) now = some (nI (whU (fun p => okS of_ is_ (lk P p) s) N)) := by
  have o1 := orS_lt (is_ := is_) (b := 1) s (fun j hj => (hof j hj).1)
  have o0 := orS_lt (is_ := is_) (b := 0) s (fun j hj => (hof j hj).1)
  unfold fX4_which
  refine px_lp (fun p => (nI (whU (fun p => okS of_ is_ (lk P p) s) p), nI p)) N _ rfl (by omega) ?_ ?_ rfl
  · intro p hp
    have hl := lk_lt P p
    have g1 : lk P p &&& orS of_ is_ 1 s < 2147483648 := Nat.lt_of_le_of_lt Nat.and_le_right (by omega)
    have g0 : lk P p &&& orS of_ is_ 0 s < 2147483648 := Nat.lt_of_le_of_lt Nat.and_le_right (by omega)
    have hk := okS_iff (of_ := of_) (is_ := is_) (lk P p) s (fun j hj => (hof j hj).2)
    unfold bX4_which_4
    dsimp only
    rw [e_looksOf hP hB (by omega), px_bd]
    simp (disch := omega) only [n_0, n_1, n_2, n_3, n_4, n_5, n_6, n_7, n_8, n_9, n_10, n_12, n_16, n_20, n_30, n_31, n_32, n_35, n_36, n_41, n_42, n_44, n_48, n_57, n_59, n_60, n_63, n_64, n_99, n_111, n_112, n_115, n_119, n_126, n_200, n_294, n_512, n_999, n_9999, n_1048576, px_bd, px_slt, px_rd, px_wr, px_cp, px_nz, px_lt, px_le, px_eq, nI_add, pk_mul, px_sub, px_or, px_and, px_xor, px_shl1, px_shr]
    rw [if_neg (by omega)]
    show _ = some (Sum.inl (nI (if okS of_ is_ (lk P p) s = true then whU (fun p => okS of_ is_ (lk P p) s) p ||| 2 ^ p else whU (fun p => okS of_ is_ (lk P p) s) p), nI (p + 1)))
    by_cases h1 : lk P p &&& orS of_ is_ 1 s = orS of_ is_ 1 s
    · rw [if_pos h1]
      by_cases h0 : lk P p &&& orS of_ is_ 0 s = 0
      · rw [if_pos h0, if_pos (hk.mpr ⟨h1, h0⟩)]
      · rw [if_neg h0, if_neg (fun z => h0 (hk.mp z).2)]
    · rw [if_neg h1, if_neg (fun z => h1 (hk.mp z).1)]
  · unfold bX4_which_4
    simp (disch := omega) only [px_le]
    rw [if_pos (Nat.le_refl _)]
theorem e_those {N s : Nat} {pinned saidOf saidIs : Nat → Int32} {P of_ is_ : Nat → Nat} (hN : N ≤ 6) (hs : s ≤ 6) (hP : PI pinned P) (hB : PB P) (hof : ∀ j, j < s → saidOf j = nI (of_ j) ∧ of_ j < 5 ∧ saidIs j = nI (is_ j) ∧ is_ j ≤ 1) : fX5_those (nI N) (nI s) pinned saidOf saidIs = some (nI (whU (fun p => okS of_ is_ (lk P p) s) N)) := by
  unfold fX5_those
  refine px_lp (fun p => (nI (whU (fun p => okS of_ is_ (lk P p) s) p), nI p)) N _ rfl (by omega) ?_ ?_ rfl
  · intro p hp
    have hl := lk_lt P p
    unfold bX5_those_4
    dsimp only
    rw [if_neg (by rw [px_le (by omega) (by omega)]; omega)]
    refine px_lp (fun j => ((if okS of_ is_ (lk P p) j = true then (1 : Int32) else 0), nI j)) s (if okS of_ is_ (lk P p) s = true then (1 : Int32) else 0) rfl (by omega) ?_ ?_ ?_
    · intro j hj
      have hh := hof j hj
      have hd : lk P p / 2 ^ of_ j < 2147483648 := Nat.lt_of_le_of_lt (Nat.div_le_self _ _) (by omega)
      have hm : lk P p / 2 ^ of_ j % 2 < 2 := Nat.mod_lt _ (by omega)
      unfold bX5_those_17
      dsimp only
      rw [if_neg (by rw [px_le (by omega) (by omega)]; omega), e_looks hP hB (by omega), px_bd, px_rd (by omega) (by omega), px_rd (by omega) (by omega), hh.1, hh.2.2.1, n_31, px_and, px_shr (by omega) (by omega), n_1, px_and, Nat.and_one_is_mod, nI_add]
      show _ = some (Sum.inl ((if (okS of_ is_ (lk P p) j && decide (lk P p / 2 ^ of_ j % 2 = is_ j)) = true then nI 1 else 0), nI (j + 1)))
      by_cases h : okS of_ is_ (lk P p) j = true
      · rw [if_pos h, if_neg (by decide), h, Bool.true_and]
        by_cases h2 : lk P p / 2 ^ of_ j % 2 = is_ j
        · rw [if_pos (by rw [h2]), if_pos (by simp [h2])]
        · rw [if_neg (by rw [px_eq (by omega) (by omega)]; exact h2), if_neg (by simp [h2])]
      · rw [if_neg h, if_pos rfl, if_neg (by simp [h])]
    · unfold bX5_those_17
      dsimp only
      rw [if_pos (by rw [px_le (by omega) (by omega)]; omega)]
    · show _ = some (Sum.inl (nI (if okS of_ is_ (lk P p) s = true then whU (fun p => okS of_ is_ (lk P p) s) p ||| 2 ^ p else whU (fun p => okS of_ is_ (lk P p) s) p), nI (p + 1)))
      by_cases h : okS of_ is_ (lk P p) s = true
      · rw [if_pos h, if_pos h, if_neg i01]
        simp (disch := omega) only [n_0, n_1, n_2, n_3, n_4, n_5, n_6, n_7, n_8, n_9, n_10, n_12, n_16, n_20, n_30, n_31, n_32, n_35, n_36, n_41, n_42, n_44, n_48, n_57, n_59, n_60, n_63, n_64, n_99, n_111, n_112, n_115, n_119, n_126, n_200, n_294, n_512, n_999, n_9999, n_1048576, px_bd, px_slt, px_rd, px_wr, px_cp, px_nz, px_lt, px_le, px_eq, nI_add, pk_mul, px_sub, px_or, px_and, px_xor, px_shl1, px_shr]
      · rw [if_neg h, if_neg h, if_pos rfl]
        simp (disch := omega) only [n_0, n_1, n_2, n_3, n_4, n_5, n_6, n_7, n_8, n_9, n_10, n_12, n_16, n_20, n_30, n_31, n_32, n_35, n_36, n_41, n_42, n_44, n_48, n_57, n_59, n_60, n_63, n_64, n_99, n_111, n_112, n_115, n_119, n_126, n_200, n_294, n_512, n_999, n_9999, n_1048576, px_bd, px_slt, px_rd, px_wr, px_cp, px_nz, px_lt, px_le, px_eq, nI_add, pk_mul, px_sub, px_or, px_and, px_xor, px_shl1, px_shr, Nat.or_zero]
  · unfold bX5_those_4
    simp (disch := omega) only [px_le]
    rw [if_pos (Nat.le_refl _)]
theorem op_which {N : Nat} {now pinned stored guides : Nat → Int32} {year on off cnt saidMany : Int32} {saidOf saidIs : Nat → Int32} {A : AS} (hN : N ≤ 6) (hD : RDs N now pinned stored guides year A) (hS : RSd on off cnt saidMany saidOf saidIs) : ∃ r, fX4_which on off (nI N) now = some r ∧ fX5_which (nI N) saidMany pinned saidOf saidIs = some r := by
  obtain ⟨s, of_, is_, hs, rfl, rfl, hj, rfl, rfl⟩ := hS
  unfold fX5_which
  rw [e_which hN hD.1.1 hD.2.2.1.1 (fun j q => ⟨(hj j q).2.1, (hj j q).2.2.2⟩), e_those hN hs hD.2.1.1 hD.2.2.1.1 hj]
  exact ⟨_, rfl, rfl⟩

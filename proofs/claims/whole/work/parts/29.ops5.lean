/-! pairs of peaks -/
def cI (Q : Nat → Nat → Bool) (a : Nat) : Nat → Nat
  | 0 => 0
  | j + 1 => cI Q a j + if Q a (a + 1 + j) = true then 1 else 0
def cO (Q : Nat → Nat → Bool) (N : Nat) : Nat → Nat
  | 0 => 0
  | n + 1 => cO Q N n + cI Q n (N - 1 - n)
theorem cI_s (Q : Nat → Nat → Bool) (a j : Nat) : cI Q a (j + 1) = cI Q a j + if Q a (a + 1 + j) = true then 1 else 0 := rfl
theorem cI_le (Q : Nat → Nat → Bool) (a : Nat) : ∀ j, cI Q a j ≤ j
  | 0 => Nat.le_refl 0
  | j + 1 => by
    have := cI_le Q a j
    unfold cI
    split <;> omega
theorem cO_le (Q : Nat → Nat → Bool) (N : Nat) (hN : N ≤ 6) : ∀ n, cO Q N n ≤ 6 * n
  | 0 => Nat.le_refl 0
  | n + 1 => by
    have h1 := cO_le Q N hN n
    have h2 := cI_le Q n (N - 1 - n)
    unfold cO
    omega
theorem cI_cong {Q T : Nat → Nat → Bool} {a : Nat} : ∀ j, (∀ b, a < b → b < a + 1 + j → Q a b = T a b) → cI Q a j = cI T a j
  | 0, _ => rfl
  | j + 1, h => by
    unfold cI
    rw [cI_cong j (fun b h1 h2 => h b h1 (by omega)), h (a + 1 + j) (by omega) (by omega)]
theorem cO_cong {Q T : Nat → Nat → Bool} {N : Nat} (h : ∀ a b, a < b → b < N → Q a b = T a b) : ∀ n, n ≤ N → cO Q N n = cO T N n
  | 0, _ => rfl
  | n + 1, hn => by
    unfold cO
    rw [cO_cong h n (by omega), cI_cong (N - 1 - n) (fun b h1 h2 => h n b h1 (by omega))]
/-- faces: how each peak looks -/
def FI (faces : Nat → Int32) (F : Nat → Nat) : Prop := ∀ p, p < 6 → faces p = nI (F p) ∧ F p < 64
theorem e_lookAt {faces c : Nat → Int32} {P : Nat → Nat} (hP : PI c P) (hB : PB P) : ∃ f, fX4_lookAt faces c = some f ∧ FI f (lk P) := by
  refine ⟨pf faces (fun p => nI (lk P p)) 0 6, ?_, fun p hp => ⟨pf_low hp, by have := lk_lt P p; omega⟩⟩
  unfold fX4_lookAt
  refine px_lp (fun n => (nI n, pf faces (fun p => nI (lk P p)) 0 n)) 6 _ ?_ (by omega) ?_ ?_ rfl
  · rw [pf_0]; rfl
  · intro n hn
    unfold bX4_lookAt_2
    dsimp only
    rw [e_looksOf hP hB hn]
    simp (disch := omega) only [n_0, n_1, n_2, n_3, n_4, n_5, n_6, n_7, n_8, n_9, n_10, n_12, n_16, n_20, n_30, n_31, n_32, n_35, n_36, n_41, n_42, n_44, n_48, n_57, n_59, n_60, n_63, n_64, n_99, n_111, n_112, n_115, n_119, n_126, n_200, n_294, n_512, n_999, n_9999, n_1048576, px_bd, px_slt, px_rd, px_wr, px_cp, px_nz, px_lt, px_le, px_eq, nI_add, pk_mul, px_sub, px_or, px_and, px_xor, px_shl1, px_shr]
    rw [if_neg (by omega), ← pf_succ0]
  · unfold bX4_lookAt_2
    simp (disch := omega) only [n_0, n_1, n_2, n_3, n_4, n_5, n_6, n_7, n_8, n_9, n_10, n_12, n_16, n_20, n_30, n_31, n_32, n_35, n_36, n_41, n_42, n_44, n_48, n_57, n_59, n_60, n_63, n_64, n_99, n_111, n_112, n_115, n_119, n_126, n_200, n_294, n_512, n_999, n_9999, n_1048576, px_bd, px_slt, px_rd, px_wr, px_cp, px_nz, px_lt, px_le, px_eq, nI_add, pk_mul, px_sub, px_or, px_and, px_xor, px_shl1, px_shr]
    rfl
/-- alike by the trimmings of a set -/
def alB (F : Nat → Nat) (s : Nat) : Nat → Nat → Bool := fun a b => decide (F a &&& s = F b &&& s)
theorem xor_and (x y s : Nat) : ((x ^^^ y) &&& s = 0) ↔ (x &&& s = y &&& s) := by
  constructor
  · intro h
    apply Nat.eq_of_testBit_eq
    intro i
    have h1 := congrArg (fun z => z.testBit i) h
    simp only [Nat.testBit_and, Nat.testBit_xor, Nat.zero_testBit] at h1 ⊢
    revert h1
    cases x.testBit i <;> cases y.testBit i <;> cases s.testBit i <;> simp
  · intro h
    apply Nat.eq_of_testBit_eq
    intro i
    have h1 := congrArg (fun z => z.testBit i) h
    simp only [Nat.testBit_and, Nat.testBit_xor, Nat.zero_testBit] at h1 ⊢
    revert h1
    cases x.testBit i <;> cases y.testBit i <;> cases s.testBit i <;> simp
theorem e_pairsAlike {N s : Nat} {faces : Nat → Int32} {F : Nat → Nat} (hN : N ≤ 6) (hF : FI faces F) (hs : s < 64) : fX4_pairsAlike (nI N) faces (nI s) = some (nI (cO (alB F s) N N)) := by
  unfold fX4_pairsAlike
  refine px_lp (fun n => (nI (cO (alB F s) N n), nI n)) N (nI (cO (alB F s) N N)) rfl (by omega) ?_ ?_ rfl
  · intro n hn
    unfold bX4_pairsAlike_4
    dsimp only
    rw [if_neg (by rw [px_le (by omega) (by omega)]; omega), n_1, nI_add, px_slt]
    refine px_lp (fun j => (nI (cO (alB F s) N n + cI (alB F s) n j), nI (n + 1 + j))) (N - 1 - n) (nI (cO (alB F s) N (n + 1))) rfl (by omega) ?_ ?_ rfl
    · intro j hj
      have f1 := hF n (by omega)
      have f2 := hF (n + 1 + j) (by omega)
      unfold bX4_pairsAlike_20
      have hx : (F n ^^^ F (n + 1 + j)) &&& s < 2147483648 := Nat.lt_of_le_of_lt Nat.and_le_right (by omega)
      simp (disch := omega) only [n_0, n_1, n_2, n_3, n_4, n_5, n_6, n_7, n_8, n_9, n_10, n_12, n_16, n_20, n_30, n_31, n_32, n_35, n_36, n_41, n_42, n_44, n_48, n_57, n_59, n_60, n_63, n_64, n_99, n_111, n_112, n_115, n_119, n_126, n_200, n_294, n_512, n_999, n_9999, n_1048576, px_bd, px_slt, px_rd, px_wr, px_cp, px_nz, px_lt, px_le, px_eq, nI_add, pk_mul, px_sub, px_or, px_and, px_xor, px_shl1, px_shr, f1.1, f2.1]
      rw [if_neg (by omega)]
      rw [cI_s]
      by_cases h : (F n ^^^ F (n + 1 + j)) &&& s = 0
      · rw [if_pos h, if_pos (show alB F s n (n + 1 + j) = true from decide_eq_true ((xor_and _ _ _).mp h))]
        rfl
      · rw [if_neg h, if_neg (show ¬ alB F s n (n + 1 + j) = true from fun z => h ((xor_and _ _ _).mpr (of_decide_eq_true z)))]
        rfl
    · unfold bX4_pairsAlike_20
      simp (disch := omega) only [n_0, n_1, n_2, n_3, n_4, n_5, n_6, n_7, n_8, n_9, n_10, n_12, n_16, n_20, n_30, n_31, n_32, n_35, n_36, n_41, n_42, n_44, n_48, n_57, n_59, n_60, n_63, n_64, n_99, n_111, n_112, n_115, n_119, n_126, n_200, n_294, n_512, n_999, n_9999, n_1048576, px_bd, px_slt, px_rd, px_wr, px_cp, px_nz, px_lt, px_le, px_eq, nI_add, pk_mul, px_sub, px_or, px_and, px_xor, px_shl1, px_shr]
      rw [if_pos (by omega)]
      rfl
  · unfold bX4_pairsAlike_4
    simp (disch := omega) only [n_0, n_1, n_2, n_3, n_4, n_5, n_6, n_7, n_8, n_9, n_10, n_12, n_16, n_20, n_30, n_31, n_32, n_35, n_36, n_41, n_42, n_44, n_48, n_57, n_59, n_60, n_63, n_64, n_99, n_111, n_112, n_115, n_119, n_126, n_200, n_294, n_512, n_999, n_9999, n_1048576, px_bd, px_slt, px_rd, px_wr, px_cp, px_nz, px_lt, px_le, px_eq, nI_add, pk_mul, px_sub, px_or, px_and, px_xor, px_shl1, px_shr]
    rw [if_pos (Nat.le_refl _)]
theorem e_mPairs {N : Nat} {pinned : Nat → Int32} {P : Nat → Nat} (hN : N ≤ 6) (hP : PI pinned P) (hB : PB P) : fX5_pairsAlike (nI N) pinned = some (nI (cO (alB (lk P) 31) N N)) := by
  have h31 : ∀ p, lk P p &&& 31 = lk P p := fun p => by
    have h : (31 : Nat) = 2 ^ 5 - 1 := rfl
    rw [h, Nat.and_two_pow_sub_one_eq_mod]
    exact Nat.mod_eq_of_lt (lk_lt P p)
  unfold fX5_pairsAlike
  refine px_lp (fun n => (nI (cO (alB (lk P) 31) N n), nI n)) N (nI (cO (alB (lk P) 31) N N)) rfl (by omega) ?_ ?_ rfl
  · intro n hn
    unfold bX5_pairsAlike_4
    dsimp only
    rw [if_neg (by rw [px_le (by omega) (by omega)]; omega), n_1, nI_add, px_slt]
    refine px_lp (fun j => (nI (cO (alB (lk P) 31) N n + cI (alB (lk P) 31) n j), nI (n + 1 + j))) (N - 1 - n) (nI (cO (alB (lk P) 31) N (n + 1))) rfl (by omega) ?_ ?_ rfl
    · intro j hj
      have f1 := lk_lt P n
      have f2 := lk_lt P (n + 1 + j)
      unfold bX5_pairsAlike_16
      dsimp only
      rw [e_looks hP hB (by omega), e_looks hP hB (by omega)]
      simp (disch := omega) only [n_0, n_1, n_2, n_3, n_4, n_5, n_6, n_7, n_8, n_9, n_10, n_12, n_16, n_20, n_30, n_31, n_32, n_35, n_36, n_41, n_42, n_44, n_48, n_57, n_59, n_60, n_63, n_64, n_99, n_111, n_112, n_115, n_119, n_126, n_200, n_294, n_512, n_999, n_9999, n_1048576, px_bd, px_slt, px_rd, px_wr, px_cp, px_nz, px_lt, px_le, px_eq, nI_add, pk_mul, px_sub, px_or, px_and, px_xor, px_shl1, px_shr]
      rw [if_neg (by omega)]
      rw [cI_s]
      by_cases h : lk P n = lk P (n + 1 + j)
      · rw [if_pos h, if_pos (show alB (lk P) 31 n (n + 1 + j) = true from decide_eq_true (by rw [h]))]
        rfl
      · rw [if_neg h, if_neg (show ¬ alB (lk P) 31 n (n + 1 + j) = true from fun z => h (by have := of_decide_eq_true z; rwa [h31, h31] at this))]
        rfl
    · unfold bX5_pairsAlike_16
      simp (disch := omega) only [n_0, n_1, n_2, n_3, n_4, n_5, n_6, n_7, n_8, n_9, n_10, n_12, n_16, n_20, n_30, n_31, n_32, n_35, n_36, n_41, n_42, n_44, n_48, n_57, n_59, n_60, n_63, n_64, n_99, n_111, n_112, n_115, n_119, n_126, n_200, n_294, n_512, n_999, n_9999, n_1048576, px_bd, px_slt, px_rd, px_wr, px_cp, px_nz, px_lt, px_le, px_eq, nI_add, pk_mul, px_sub, px_or, px_and, px_xor, px_shl1, px_shr]
      rw [if_pos (by omega)]
      rfl
  · unfold bX5_pairsAlike_4
    simp (disch := omega) only [n_0, n_1, n_2, n_3, n_4, n_5, n_6, n_7, n_8, n_9, n_10, n_12, n_16, n_20, n_30, n_31, n_32, n_35, n_36, n_41, n_42, n_44, n_48, n_57, n_59, n_60, n_63, n_64, n_99, n_111, n_112, n_115, n_119, n_126, n_200, n_294, n_512, n_999, n_9999, n_1048576, px_bd, px_slt, px_rd, px_wr, px_cp, px_nz, px_lt, px_le, px_eq, nI_add, pk_mul, px_sub, px_or, px_and, px_xor, px_shl1, px_shr]
    rw [if_pos (Nat.le_refl _)]
/-! tell -/
theorem e_tells {N s : Nat} {pinned : Nat → Int32} {P : Nat → Nat} (hN : N ≤ 6) (hP : PI pinned P) (hB : PB P) (hs : s < 64) : fX5_tells (nI N) pinned (nI s) = some (if cO (alB (lk P) s) N N = 0 then (1 : Int32) else 0) := by
  unfold fX5_tells
  refine px_lp (fun n => ((if cO (alB (lk P) s) N n = 0 then (1 : Int32) else 0), nI n)) N (if cO (alB (lk P) s) N N = 0 then (1 : Int32) else 0) rfl (by omega) ?_ ?_ ?_
  · intro n hn
    unfold bX5_tells_4
    dsimp only
    rw [if_neg (by rw [px_le (by omega) (by omega)]; omega), n_1, nI_add, px_slt, ← n_1]
    refine px_lp (fun j => ((if cO (alB (lk P) s) N n + cI (alB (lk P) s) n j = 0 then (1 : Int32) else 0), nI (n + 1 + j))) (N - 1 - n) (if cO (alB (lk P) s) N (n + 1) = 0 then (1 : Int32) else 0) rfl (by omega) ?_ ?_ rfl
    · intro j hj
      have f1 := lk_lt P n
      have f2 := lk_lt P (n + 1 + j)
      have g1 : lk P n &&& s < 2147483648 := Nat.lt_of_le_of_lt Nat.and_le_right (by omega)
      have g2 : lk P (n + 1 + j) &&& s < 2147483648 := Nat.lt_of_le_of_lt Nat.and_le_right (by omega)
      unfold bX5_tells_17
      dsimp only
      rw [e_looks hP hB (by omega), px_bd, e_looks hP hB (by omega), px_bd, if_neg (by rw [px_le (by omega) (by omega)]; omega), px_and, px_and]
      rw [show nI (n + 1 + j) + 1 = nI (n + 1 + (j + 1)) from nI_1 _]
      by_cases h0 : cO (alB (lk P) s) N n + cI (alB (lk P) s) n j = 0
      · rw [if_pos h0, if_neg i01, cI_s]
        by_cases h : lk P n &&& s = lk P (n + 1 + j) &&& s
        · rw [if_pos (by rw [h]), if_pos (show alB (lk P) s n (n + 1 + j) = true from decide_eq_true h), if_neg (by omega)]
        · rw [if_neg (by rw [px_eq g1 g2]; exact h), if_neg (show ¬ alB (lk P) s n (n + 1 + j) = true from fun z => h (of_decide_eq_true z)), if_pos (by omega)]
      · rw [if_neg h0, if_pos rfl, cI_s, if_neg (by omega)]
    · unfold bX5_tells_17
      simp (disch := omega) only [px_le]
      rw [if_pos (by omega)]
      rfl
  · unfold bX5_tells_4
    simp (disch := omega) only [px_le]
    rw [if_pos (Nat.le_refl _)]
  · unfold sx_ok8
    by_cases h : cO (alB (lk P) s) N N = 0
    · rw [if_pos h]; rfl
    · rw [if_neg h]; rfl
def pc (a : Nat) : Nat := a % 2 + a / 2 % 2 + a / 4 % 2 + a / 8 % 2 + a / 16 % 2 + a / 32 % 2
theorem pc_le (a : Nat) : pc a ≤ 6 := by unfold pc; omega
theorem e_bitCount : ∀ a, a < 64 → fJ6_bitCount_0f7a4 (nI a) = some (nI (pc a)) := by decide +kernel
theorem e_bits : ∀ a, a < 64 → fX5_bits (nI a) = some (nI (pc a)) := by decide +kernel
/-- the best set so far -/
def bsU (T : Nat → Bool) : Nat → Option Nat
  | 0 => none
  | s + 1 => match bsU T s with
    | none => if T s = true then some s else none
    | some b => if pc s < pc b ∧ T s = true then some s else some b
theorem bsU_lt (T : Nat → Bool) : ∀ s b, bsU T s = some b → b < s
  | 0, b, h => by cases h
  | s + 1, b, h => by
    have ih := bsU_lt T s
    unfold bsU at h
    cases hs : bsU T s with
    | none =>
      rw [hs] at h
      dsimp only at h
      by_cases ht : T s = true
      · rw [if_pos ht] at h; cases h; omega
      · rw [if_neg ht] at h; cases h
    | some c =>
      rw [hs] at h
      dsimp only at h
      have := ih c hs
      by_cases ht : pc s < pc c ∧ T s = true
      · rw [if_pos ht] at h; cases h; omega
      · rw [if_neg ht] at h; cases h; omega
def enc (o : Option Nat) : Int32 := match o with
  | none => -4
  | some b => nI b
def encf (o : Option Nat) : Int32 := match o with
  | none => 1048576
  | some b => nI (pc b)
theorem nI_ne4 {a : Nat} (h : a < 2147483648) : ¬ nI a = (-4 : Int32) := by
  rw [n_4]
  exact fun z => (px_neg 4 (by omega) (by omega) h).mp z
def tlB (F : Nat → Nat) (N : Nat) : Nat → Bool := fun s => decide (cO (alB F s) N N = 0)
theorem e_smallest {N : Nat} {now faces : Nat → Int32} {P : Nat → Nat} (hN : N ≤ 6) (hP : PI now P) (hB : PB P) : ∃ f, fX4_smallestTellingSet (nI N) now faces = some (enc (bsU (tlB (lk P) N) 32), f) := by
  unfold fX4_smallestTellingSet
  obtain ⟨f, f1, f2⟩ := e_lookAt (faces := faces) hP hB
  rw [f1, px_bd]
  refine ⟨f, ?_⟩
  refine px_lp (fun s => (enc (bsU (tlB (lk P) N) s), nI s)) 32 (enc (bsU (tlB (lk P) N) 32)) rfl (by omega) ?_ ?_ rfl
  · intro s hs
    have hc := cO_le (alB (lk P) s) N hN N
    have J : ∀ z, jX4_smallestTellingSet_36 (nI N) f z (nI s) = some (.inl (if tlB (lk P) N s = true then nI s else z, nI (s + 1))) := by
      intro z
      unfold jX4_smallestTellingSet_36 jX4_smallestTellingSet_41 tlB
      rw [if_neg i01, e_pairsAlike hN f2 (by omega), px_bd, n_0, n_1, nI_add]
      by_cases h : cO (alB (lk P) s) N N = 0
      · rw [h, if_pos rfl, if_pos (by simp)]
      · rw [if_neg (by rw [px_eq (by omega) (by omega)]; exact h), if_neg (by simp [h])]
    unfold bX4_smallestTellingSet_13
    dsimp only
    rw [n_31, if_neg (by rw [px_lt (by omega) (by omega)]; omega)]
    cases hb : bsU (tlB (lk P) N) s with
    | none =>
      rw [if_pos (show enc none = (-4 : Int32) from rfl), J]
      unfold bsU
      rw [hb]
      dsimp only
      by_cases ht : tlB (lk P) N s = true
      · rw [if_pos ht, if_pos ht]; rfl
      · rw [if_neg ht, if_neg ht]
    | some b =>
      have hbl := bsU_lt _ s b hb
      have p1 := pc_le s
      have p2 := pc_le b
      rw [show enc (some b) = nI b from rfl, if_neg (nI_ne4 (by omega)), e_bitCount s (by omega), px_bd, e_bitCount b (by omega), px_bd, J]
      unfold bsU
      rw [hb]
      dsimp only
      by_cases hp : pc s < pc b
      · rw [if_neg (by rw [px_le (by omega) (by omega)]; omega)]
        by_cases ht : tlB (lk P) N s = true
        · rw [if_pos ht, if_pos ⟨hp, ht⟩]; rfl
        · rw [if_neg ht, if_neg (fun z => ht z.2)]; rfl
      · rw [if_pos (by rw [px_le (by omega) (by omega)]; omega), if_neg (fun z => hp z.1)]
        unfold jX4_smallestTellingSet_41
        rw [if_pos rfl, n_1, nI_add]
        rfl
  · unfold bX4_smallestTellingSet_13
    dsimp only
    rw [n_31, if_pos (by decide)]
theorem op_tell {N : Nat} {now faces pinned stored guides : Nat → Int32} {year : Int32} {A : AS} (hN : N ≤ 6) (hD : RDs N now pinned stored guides year A) (v : Int32) : ∃ r f, fX4_tell (nI N) now faces v = some (r, f) ∧ fX5_tell (nI N) pinned v = some r := by
  have hB := hD.2.2.1.1
  obtain ⟨f, f1⟩ := e_smallest (faces := faces) hN hD.1.1 hB
  have L : ∀ {τ : Type} (Fn : Int32 × Int32 → Option τ), (sx_it 1000 (bX5_tell_20 (nI N) pinned) ((-4 : Int32), (1048576 : Int32), (0 : Int32))).bind Fn = Fn (enc (bsU (tlB (lk A.1) N) 32), encf (bsU (tlB (lk A.1) N) 32)) := by
    intro τ Fn
    refine px_lp (fun s => (enc (bsU (tlB (lk A.1) N) s), encf (bsU (tlB (lk A.1) N) s), nI s)) 32 _ rfl (by omega) ?_ ?_ rfl
    · intro s hs
      have p1 := pc_le s
      unfold bX5_tell_20
      dsimp only
      rw [n_32, if_neg (by rw [px_le (by omega) (by omega)]; omega), e_bits s (by omega), px_bd, e_tells hN hD.2.1.1 hB (by omega), px_bd, px_bd]
      have ht : (if (if cO (alB (lk A.1) s) N N = 0 then (1 : Int32) else 0) = 0 then some (Sum.inl (enc (bsU (tlB (lk A.1) N) s), encf (bsU (tlB (lk A.1) N) s), nI s + 1)) else some (Sum.inl (nI s, nI (pc s), nI s + 1)) : Option ((Int32 × Int32 × Int32) ⊕ (Int32 × Int32))) = if tlB (lk A.1) N s = true then some (Sum.inl (nI s, nI (pc s), nI (s + 1))) else some (Sum.inl (enc (bsU (tlB (lk A.1) N) s), encf (bsU (tlB (lk A.1) N) s), nI (s + 1))) := by
        rw [show nI s + 1 = nI (s + 1) from nI_1 s]
        unfold tlB
        by_cases h : cO (alB (lk A.1) s) N N = 0
        · rw [if_pos h, if_neg i01, if_pos (by simp [h])]
        · rw [if_neg h, if_pos rfl, if_neg (by simp [h])]
      rw [ht]
      rw [show nI s + 1 = nI (s + 1) from nI_1 s]
      cases hb : bsU (tlB (lk A.1) N) s with
      | none =>
        rw [show encf none = (1048576 : Int32) from rfl, n_1048576, if_neg (by rw [px_le (by omega) (by omega)]; omega)]
        unfold bsU
        rw [hb]
        dsimp only
        by_cases ht : tlB (lk A.1) N s = true
        · rw [if_pos ht, if_pos ht]; rfl
        · rw [if_neg ht, if_neg ht]; rfl
      | some b =>
        have p2 := pc_le b
        rw [show encf (some b) = nI (pc b) from rfl]
        unfold bsU
        rw [hb]
        dsimp only
        by_cases hp : pc s < pc b
        · rw [if_neg (by rw [px_le (by omega) (by omega)]; omega)]
          by_cases ht : tlB (lk A.1) N s = true
          · rw [if_pos ht, if_pos ⟨hp, ht⟩]; rfl
          · rw [if_neg ht, if_neg (fun z => ht z.2)]; rfl
        · rw [if_pos (by rw [px_le (by omega) (by omega)]; omega), if_neg (fun z => hp z.1)]
          rfl
    · unfold bX5_tell_20
      dsimp only
      rw [n_32, if_pos (by decide)]
  unfold fX4_tell fX5_tell
  rw [L, f1]
  rw [px_bd]
  dsimp only
  have hbl := bsU_lt (tlB (lk A.1) N) 32
  rcases e_01Q v with rfl | rfl | ⟨q1, q2⟩
  · rw [e_zo0, e_in01_0, px_bd, px_bd, if_neg i01, if_neg i01]
    cases hb : bsU (tlB (lk A.1) N) 32 with
    | none =>
      rw [if_pos (show enc none = (-4 : Int32) from rfl), if_pos (show enc none = (-4 : Int32) from rfl)]
      exact ⟨_, _, rfl, rfl⟩
    | some b =>
      have := hbl b hb
      rw [show enc (some b) = nI b from rfl, if_neg (nI_ne4 (by omega)), if_neg (nI_ne4 (by omega)), if_pos n_0.symm, if_neg (by decide), e_bitCount b (by omega)]
      exact ⟨_, _, rfl, rfl⟩
  · rw [e_zo1, e_in01_1, px_bd, px_bd, if_neg i01, if_neg i01]
    cases hb : bsU (tlB (lk A.1) N) 32 with
    | none =>
      rw [if_pos (show enc none = (-4 : Int32) from rfl), if_pos (show enc none = (-4 : Int32) from rfl)]
      exact ⟨_, _, rfl, rfl⟩
    | some b =>
      have := hbl b hb
      rw [show enc (some b) = nI b from rfl, if_neg (nI_ne4 (by omega)), if_neg (nI_ne4 (by omega)), if_neg (by decide), if_pos n_1.symm]
      exact ⟨_, _, rfl, rfl⟩
  · rw [q1, q2, px_bd, px_bd, if_pos rfl, if_pos rfl]
    exact ⟨_, _, rfl, rfl⟩

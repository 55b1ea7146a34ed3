/-! add -/
def ls (Q : Nat → Bool) (a n : Nat) : Nat := lo (fun k => if Q k = true then 1 else 0) a n
theorem ls_le (Q : Nat → Bool) (a n : Nat) : ls Q a n ≤ n := lo_le _ n a
theorem ls_no {Q : Nat → Bool} {a n j : Nat} (h : j < ls Q a n) : ¬ Q (a + j) = true := by
  intro z
  have := lo_z _ n a j h
  rw [if_pos z] at this
  omega
theorem ls_yes {Q : Nat → Bool} {a n : Nat} (h : ls Q a n < n) : Q (a + ls Q a n) = true := by
  have := lo_nz _ n a h
  by_cases e : Q (a + ls Q a n) = true
  · exact e
  · exact absurd (if_neg e) this
def trF (F : Nat → Nat) (k : Nat) : Nat → Nat := fun p => if p = k / 5 then F p ^^^ 2 ^ (k % 5) else F p
theorem trF_tw (F : Nat → Nat) (k : Nat) : trF (trF F k) k = F := by
  funext p
  unfold trF
  by_cases e : p = k / 5
  · rw [if_pos e, if_pos e, Nat.xor_assoc, Nat.xor_self, Nat.xor_zero]
  · rw [if_neg e, if_neg e]
def on1 (P : Nat → Nat) (k : Nat) : Nat → Nat := fun j => if j = k then 1 else P j
theorem trF_lk {P : Nat → Nat} {k : Nat} (h : P k = 0) : trF (lk P) k = lk (on1 P k) := by
  funext p
  apply Nat.eq_of_testBit_eq
  intro t
  have e2 : (lk (on1 P k) p).testBit t = decide (t < 5 ∧ on1 P k (5 * p + t) ≠ 0) := lkU_bit _ p 5 t
  have e1 : (lk P p).testBit t = decide (t < 5 ∧ P (5 * p + t) ≠ 0) := lkU_bit _ p 5 t
  rw [e2]
  unfold trF on1
  by_cases hp : p = k / 5
  · rw [if_pos hp, Nat.testBit_xor, e1, Nat.testBit_two_pow]
    by_cases ht : k % 5 = t
    · have hk : 5 * p + t = k := by omega
      rw [hk, if_pos rfl]
      simp [h, ht]
      omega
    · by_cases h5 : t < 5
      · rw [if_neg (by omega)]
        simp [ht]
      · simp [h5, ht]
  · rw [if_neg hp, e1]
    by_cases h5 : t < 5
    · rw [if_neg (by omega)]
    · simp [h5]
theorem e_turn {f : Nat → Int32} {F : Nat → Nat} {k : Nat} (hF : FI f F) (hk : k < 30) : ∃ f', fX4_turn f (nI k) = some f' ∧ FI f' (trF F k) := by
  have hq : k / 5 < 6 := by omega
  have hr : k % 5 < 5 := Nat.mod_lt _ (by omega)
  have h0 := hF (k / 5) hq
  have hp : 2 ^ (k % 5) < 2 ^ 6 := Nat.pow_lt_pow_right (by omega) (by omega)
  have hx : F (k / 5) ^^^ 2 ^ (k % 5) < 2 ^ 6 := Nat.xor_lt_two_pow (by omega) hp
  refine ⟨upd f (k / 5) (nI (F (k / 5) ^^^ 2 ^ (k % 5))), ?_, fun p hp2 => ?_⟩
  · unfold fX4_turn
    rw [if_neg (by rw [px_lt0 (by omega)]; exact id), n_30, if_neg (by rw [px_le (by omega) (by omega)]; omega), n_5, px_rem (by omega) (by omega) (by omega), px_div (by omega) (by omega) (by omega), px_rd (by omega) (by omega), n_31, px_and, n_1, px_shl1 _ (by omega), h0.1, px_xor, px_wr (by omega) (by omega)]
  · unfold trF
    by_cases e : p = k / 5
    · subst e
      rw [px_upd_s, if_pos rfl]
      exact ⟨rfl, by omega⟩
    · rw [px_upd_n e, if_neg e]
      exact hF p hp2
def apN (N : Nat) (F : Nat → Nat) : Bool := decide (cO (alB F 31) N N = 0)
theorem e_apart {N k : Nat} {f : Nat → Int32} {F : Nat → Nat} (hN : N ≤ 6) (hF : FI f F) (hk : k < 30) : ∃ f', fX4_isApartWith (nI N) f (nI k) = some (if apN N (trF F k) = true then (1 : Int32) else 0, f') ∧ FI f' F := by
  obtain ⟨f1, a1, a2⟩ := e_turn hF hk
  obtain ⟨f2, b1, b2⟩ := e_turn a2 hk
  rw [trF_tw] at b2
  refine ⟨f2, ?_, b2⟩
  have hc := cO_le (alB (trF F k) 31) N hN N
  unfold fX4_isApartWith jX4_isApartWith_19
  rw [a1, px_bd, n_31, e_pairsAlike hN a2 (by omega), px_bd, b1, px_bd, px_bd]
  unfold apN sx_ok8
  by_cases h : cO (alB (trF F k) 31) N N = 0
  · rw [if_pos ((bit0 (by omega)).mpr h), if_pos (decide_eq_true h), if_pos (by decide)]
  · rw [if_neg (fun z => h ((bit0 (by omega)).mp z)), if_pos (show vp_nar .boolean (0 : Int32) = 0 by decide), if_neg (show ¬ decide (cO (alB (trF F k) 31) N N = 0) = true by rw [decide_eq_false h]; decide)]
def elB (P : Nat → Nat) (S : Nat → Int32) (k : Nat) : Bool := decide (P k = 0 ∧ ¬ S (k % 5) ≤ 0)
theorem elB_y {P : Nat → Nat} {S : Nat → Int32} {k : Nat} (h : elB P S k = true) : P k = 0 ∧ ¬ S (k % 5) ≤ 0 := of_decide_eq_true h
theorem e_canPutAt {k : Nat} {c : Nat → Int32} {A : AS} (h : CS c A) (hB : PB A.1) (hk : k < 30) : fX4_canPutAt c (nI k) = some (if elB A.1 A.2.1 k = true then (1 : Int32) else 0) := by
  unfold fX4_canPutAt
  have hr : k % 5 < 5 := Nat.mod_lt _ (by omega)
  rw [n_5, px_rem (by omega) (by omega) (by omega), px_div (by omega) (by omega) (by omega), e_canPut (by omega) hr h hB, px_bd, show 5 * (k / 5) + k % 5 = k by omega]
  unfold elB
  by_cases e : A.1 k = 0 ∧ ¬ A.2.1 (k % 5) ≤ 0
  · rw [if_pos e, if_pos (decide_eq_true e)]
  · rw [if_neg e, if_neg (by rw [decide_eq_false e]; decide)]
def Q1 (N : Nat) (P : Nat → Nat) (S : Nat → Int32) (k : Nat) : Bool := elB P S k && apN N (lk (on1 P k))
def el2 (P : Nat → Nat) (S : Nat → Int32) (k d : Nat) : Bool := decide (P d = 0 ∧ ¬ (if d % 5 = k % 5 then S (k % 5) - 1 else S (d % 5)) ≤ 0)
def Q2 (N : Nat) (P : Nat → Nat) (S : Nat → Int32) (k d : Nat) : Bool := el2 P S k d && apN N (lk (on1 (on1 P k) d))
def sdN (N : Nat) (P : Nat → Nat) (S : Nat → Int32) (k : Nat) : Nat := k + 1 + ls (Q2 N P S k) (k + 1) (5 * N - (k + 1))
def Q3 (N : Nat) (P : Nat → Nat) (S : Nat → Int32) (k : Nat) : Bool := elB P S k && decide (sdN N P S k < 5 * N)
theorem e_isOne {N : Nat} {now f added : Nat → Int32} {A : AS} (hN : N ≤ 6) (hC : CS now A) (hB : PB A.1) (hF : FI f (lk A.1)) : ∃ f', FI f' (lk A.1) ∧ fX4_isOneAddedEnough (nI N) now f added = some (if ls (Q1 N A.1 A.2.1) 0 (5 * N) < 5 * N then ((1 : Int32), f', upd added 0 (nI (ls (Q1 N A.1 A.2.1) 0 (5 * N)))) else ((0 : Int32), f', added)) := by
  have hl := ls_le (Q1 N A.1 A.2.1) 0 (5 * N)
  have st : ∀ k g, k < 5 * N → FI g (lk A.1) → ∃ g', FI g' (lk A.1) ∧ bX4_isOneAddedEnough_2 (nI N) now (nI k, g) = if Q1 N A.1 A.2.1 k = true then some (.inr (.inl (nI k, g'))) else some (.inl (nI (k + 1), g')) := by
    intro k g hk hg
    unfold bX4_isOneAddedEnough_2
    dsimp only
    rw [n_5, pk_mul, if_neg (by rw [px_le (by omega) (by omega)]; omega), e_canPutAt hC hB (by omega), px_bd]
    unfold Q1
    by_cases he : elB A.1 A.2.1 k = true
    · obtain ⟨g', a1, a2⟩ := e_apart (k := k) hN hg (by omega)
      rw [trF_lk (elB_y he).1] at a1
      refine ⟨g', a2, ?_⟩
      rw [if_pos he, if_neg i01, a1, px_bd, he]
      dsimp only
      by_cases ha : apN N (lk (on1 A.1 k)) = true
      · rw [if_pos ha, if_neg i01, ha]; rfl
      · rw [if_neg ha, if_pos rfl, n_1, nI_add, eq_false_of_ne_true ha]; rfl
    · refine ⟨g, hg, ?_⟩
      rw [if_neg he, if_pos rfl, n_1, nI_add, eq_false_of_ne_true he]; rfl
  obtain ⟨r, r1, f', r2, r3⟩ := px_inv0 (B := bX4_isOneAddedEnough_2 (nI N) now) (n := 1000) (s0 := ((0 : Int32), f)) (R := fun r => ∃ f', FI f' (lk A.1) ∧ r = if ls (Q1 N A.1 A.2.1) 0 (5 * N) < 5 * N then .inl (nI (ls (Q1 N A.1 A.2.1) 0 (5 * N)), f') else .inr f') (fun k x => x.1 = nI k ∧ FI x.2 (lk A.1)) (ls (Q1 N A.1 A.2.1) 0 (5 * N)) (by omega) ⟨rfl, hF⟩ (by
    rintro k ⟨x, g⟩ hk ⟨q1, q2⟩
    dsimp only at q1 q2
    subst q1
    obtain ⟨g', a1, a2⟩ := st k g (by omega) q2
    have hno := ls_no hk
    rw [Nat.zero_add] at hno
    rw [if_neg hno] at a2
    exact ⟨_, a2, rfl, a1⟩) (by
    rintro ⟨x, g⟩ ⟨q1, q2⟩
    dsimp only at q1 q2
    subst q1
    by_cases h : ls (Q1 N A.1 A.2.1) 0 (5 * N) < 5 * N
    · obtain ⟨g', a1, a2⟩ := st _ g h q2
      have hy := ls_yes h
      rw [Nat.zero_add] at hy
      rw [if_pos hy] at a2
      exact ⟨_, a2, g', a1, by rw [if_pos h]⟩
    · refine ⟨.inr g, ?_, g, q2, by rw [if_neg h]⟩
      unfold bX4_isOneAddedEnough_2
      dsimp only
      rw [n_5, pk_mul, if_pos (by rw [px_le (by omega) (by omega)]; omega)])
  refine ⟨f', r2, ?_⟩
  unfold fX4_isOneAddedEnough
  rw [r1, px_bd, r3]
  by_cases h : ls (Q1 N A.1 A.2.1) 0 (5 * N) < 5 * N
  · rw [if_pos h, if_pos h]
    dsimp only
    rw [n_0, px_wr (by omega) (by omega)]
  · rw [if_neg h, if_neg h]
theorem i2_lt {x : Int32} (h : ¬ x ≤ 0) : (x < (2 : Int32)) ↔ x - 1 ≤ 0 := by
  have h0 : (0 : Int32).toInt = 0 := by decide
  have h2 : (2 : Int32).toInt = 2 := by decide
  have h1 : (1 : Int32).toInt = 1 := by decide
  have a := x.le_toInt
  have b := x.toInt_lt
  rw [Int32.le_iff_toInt_le, h0] at h
  have e : (x - 1).toInt = x.toInt - 1 := by
    rw [Int32.toInt_sub, h1]
    exact Int.bmod_eq_of_le (by omega) (by omega)
  rw [Int32.lt_iff_toInt_lt, Int32.le_iff_toInt_le, h0, h2, e]
  omega
theorem on1_z {P : Nat → Nat} {k d : Nat} (h : d ≠ k) (hd : P d = 0) : on1 P k d = 0 := by unfold on1; rw [if_neg h]; exact hd
theorem e_second {N k : Nat} {now f added : Nat → Int32} {A : AS} (hN : N ≤ 6) (hC : CS now A) (hB : PB A.1) (hk : k < 5 * N) (hel : elB A.1 A.2.1 k = true) (hF : FI f (lk (on1 A.1 k))) : ∃ f', FI f' (lk (on1 A.1 k)) ∧ fX4_findSecondAdded (nI N) now f added (nI k) = some (if sdN N A.1 A.2.1 k < 5 * N then ((1 : Int32), f', upd added 1 (nI (sdN N A.1 A.2.1 k))) else ((0 : Int32), f', added)) := by
  have hl := ls_le (Q2 N A.1 A.2.1 k) (k + 1) (5 * N - (k + 1))
  have hsd : sdN N A.1 A.2.1 k = k + 1 + ls (Q2 N A.1 A.2.1 k) (k + 1) (5 * N - (k + 1)) := rfl
  have hr : k % 5 < 5 := Nat.mod_lt _ (by omega)
  have st : ∀ d g, k < d → d < 5 * N → FI g (lk (on1 A.1 k)) → ∃ g', FI g' (lk (on1 A.1 k)) ∧ bX4_findSecondAdded_4 (nI N) now (nI k) (nI d, g) = if Q2 N A.1 A.2.1 k d = true then some (.inr (.inl (nI d, g'))) else some (.inl (nI (d + 1), g')) := by
    intro d g hkd hd hg
    have hrd : d % 5 < 5 := Nat.mod_lt _ (by omega)
    obtain ⟨g', a1, a2⟩ := e_apart (k := d) hN hg (by omega)
    have c55 : ∀ x : Int32, jX4_findSecondAdded_55 (nI N) now g (nI d) x = if x = 0 then some (.inl (nI (d + 1), g)) else if elB A.1 A.2.1 d = true then (if apN N (trF (lk (on1 A.1 k)) d) = true then some (.inr (.inl (nI d, g'))) else some (.inl (nI (d + 1), g'))) else some (.inl (nI (d + 1), g)) := by
      intro x
      unfold jX4_findSecondAdded_55
      rw [show nI d + (1 : Int32) = nI (d + 1) from nI_1 d, e_canPutAt hC hB (by omega), px_bd, a1, px_bd]
      dsimp only
      by_cases hx : x = 0
      · rw [if_pos hx, if_pos hx]
      · rw [if_neg hx, if_neg hx]
        by_cases he : elB A.1 A.2.1 d = true
        · rw [if_pos he, if_pos he, if_neg i01]
          by_cases ha : apN N (trF (lk (on1 A.1 k)) d) = true
          · rw [if_pos ha, if_pos ha, if_neg i01]
          · rw [if_neg ha, if_neg ha, if_pos rfl]
        · rw [if_neg he, if_neg he, if_pos rfl]
    have hb : bX4_findSecondAdded_4 (nI N) now (nI k) (nI d, g) = if (d % 5 = k % 5 ∧ A.2.1 (d % 5) < (2 : Int32)) then some (.inl (nI (d + 1), g)) else if elB A.1 A.2.1 d = true then (if apN N (trF (lk (on1 A.1 k)) d) = true then some (.inr (.inl (nI d, g'))) else some (.inl (nI (d + 1), g'))) else some (.inl (nI (d + 1), g)) := by
      unfold bX4_findSecondAdded_4 jX4_findSecondAdded_31 jX4_findSecondAdded_50
      dsimp only
      rw [n_5, pk_mul, if_neg (by rw [px_le (by omega) (by omega)]; omega), px_rem (by omega) (by omega) (by omega), px_rem (by omega) (by omega) (by omega), e_inStore _ hrd, px_bd, hC.2.1 _ hrd, c55, c55, if_neg i01, if_neg i01, if_pos rfl, if_pos rfl]
      by_cases he : d % 5 = k % 5
      · rw [if_pos ((px_eq (by omega) (by omega)).mpr he)]
        by_cases h2 : A.2.1 (d % 5) < (2 : Int32)
        · rw [if_pos h2, if_pos ⟨he, h2⟩]
        · rw [if_neg h2, if_neg (show ¬ (d % 5 = k % 5 ∧ A.2.1 (d % 5) < (2 : Int32)) from fun z => h2 z.2)]
      · rw [if_neg (fun z => he ((px_eq (by omega) (by omega)).mp z)), if_neg (show ¬ (d % 5 = k % 5 ∧ A.2.1 (d % 5) < (2 : Int32)) from fun z => he z.1)]
    have hek := elB_y hel
    rw [hb]
    have hq2 : Q2 N A.1 A.2.1 k d = true ↔ (¬ (d % 5 = k % 5 ∧ A.2.1 (d % 5) < (2 : Int32)) ∧ elB A.1 A.2.1 d = true ∧ apN N (trF (lk (on1 A.1 k)) d) = true) := by
      unfold Q2 el2 elB
      rw [Bool.and_eq_true, decide_eq_true_iff, decide_eq_true_iff]
      by_cases hz : A.1 d = 0
      · rw [trF_lk (on1_z (by omega) hz)]
        by_cases he : d % 5 = k % 5
        · rw [if_pos he, he, i2_lt hek.2]
          constructor
          · rintro ⟨⟨_, q1⟩, q2⟩; exact ⟨fun z => q1 z.2, ⟨hz, hek.2⟩, q2⟩
          · rintro ⟨q1, q2, q3⟩; exact ⟨⟨hz, fun z => q1 ⟨rfl, z⟩⟩, q3⟩
        · rw [if_neg he]
          constructor
          · rintro ⟨q1, q2⟩; exact ⟨fun z => he z.1, q1, q2⟩
          · rintro ⟨q1, q2, q3⟩; exact ⟨q2, q3⟩
      · constructor
        · rintro ⟨⟨q1, _⟩, _⟩; exact absurd q1 hz
        · rintro ⟨_, ⟨q1, _⟩, _⟩; exact absurd q1 hz
    by_cases c1 : d % 5 = k % 5 ∧ A.2.1 (d % 5) < (2 : Int32)
    · exact ⟨g, hg, by rw [if_pos c1, if_neg (fun z => (hq2.mp z).1 c1)]⟩
    · rw [if_neg c1]
      by_cases c2 : elB A.1 A.2.1 d = true
      · rw [if_pos c2]
        by_cases c3 : apN N (trF (lk (on1 A.1 k)) d) = true
        · exact ⟨g', a2, by rw [if_pos c3, if_pos (hq2.mpr ⟨c1, c2, c3⟩)]⟩
        · exact ⟨g', a2, by rw [if_neg c3, if_neg (fun z => c3 (hq2.mp z).2.2)]⟩
      · exact ⟨g, hg, by rw [if_neg c2, if_neg (fun z => c2 (hq2.mp z).2.1)]⟩
  obtain ⟨r, r1, f', r2, r3⟩ := px_inv0 (B := bX4_findSecondAdded_4 (nI N) now (nI k)) (n := 1000) (s0 := (nI (k + 1), f)) (R := fun r => ∃ f', FI f' (lk (on1 A.1 k)) ∧ r = if sdN N A.1 A.2.1 k < 5 * N then .inl (nI (sdN N A.1 A.2.1 k), f') else .inr f') (fun j x => x.1 = nI (k + 1 + j) ∧ FI x.2 (lk (on1 A.1 k))) (ls (Q2 N A.1 A.2.1 k) (k + 1) (5 * N - (k + 1))) (by omega) ⟨rfl, hF⟩ (by
    rintro j ⟨x, g⟩ hj ⟨q1, q2⟩
    dsimp only at q1 q2
    subst q1
    obtain ⟨g', a1, a2⟩ := st (k + 1 + j) g (by omega) (by omega) q2
    rw [if_neg (ls_no hj)] at a2
    exact ⟨_, a2, rfl, a1⟩) (by
    rintro ⟨x, g⟩ ⟨q1, q2⟩
    dsimp only at q1 q2
    rw [← hsd] at q1
    subst q1
    by_cases h : sdN N A.1 A.2.1 k < 5 * N
    · obtain ⟨g', a1, a2⟩ := st _ g (by omega) h q2
      have hy : Q2 N A.1 A.2.1 k (sdN N A.1 A.2.1 k) = true := ls_yes (by omega)
      rw [if_pos hy] at a2
      exact ⟨_, a2, g', a1, by rw [if_pos h]⟩
    · refine ⟨.inr g, ?_, g, q2, by rw [if_neg h]⟩
      unfold bX4_findSecondAdded_4
      dsimp only
      rw [n_5, pk_mul, if_pos (by rw [px_le (by omega) (by omega)]; omega)])
  refine ⟨f', r2, ?_⟩
  unfold fX4_findSecondAdded
  rw [show nI k + (1 : Int32) = nI (k + 1) from nI_1 k, px_slt, r1, px_bd, r3]
  by_cases h : sdN N A.1 A.2.1 k < 5 * N
  · rw [if_pos h, if_pos h]
    dsimp only
    rw [n_1, px_wr (by omega) (by omega)]
  · rw [if_neg h, if_neg h]
theorem e_two {N : Nat} {now f added : Nat → Int32} {A : AS} (hN : N ≤ 6) (hC : CS now A) (hB : PB A.1) (hF : FI f (lk A.1)) : ∃ f', fX4_areTwoAddedEnough (nI N) now f added = some (if ls (Q3 N A.1 A.2.1) 0 (5 * N) < 5 * N then ((1 : Int32), f', upd (upd added 1 (nI (sdN N A.1 A.2.1 (ls (Q3 N A.1 A.2.1) 0 (5 * N))))) 0 (nI (ls (Q3 N A.1 A.2.1) 0 (5 * N)))) else ((0 : Int32), f', added)) := by
  have hl := ls_le (Q3 N A.1 A.2.1) 0 (5 * N)
  have st : ∀ k g, k < 5 * N → FI g (lk A.1) → ∃ g', FI g' (lk A.1) ∧ bX4_areTwoAddedEnough_2 (nI N) now (nI k, g, added) = if Q3 N A.1 A.2.1 k = true then some (.inr (.inl (nI k, g', upd added 1 (nI (sdN N A.1 A.2.1 k))))) else some (.inl (nI (k + 1), g', added)) := by
    intro k g hk hg
    unfold bX4_areTwoAddedEnough_2
    dsimp only
    rw [n_5, pk_mul, if_neg (by rw [px_le (by omega) (by omega)]; omega), e_canPutAt hC hB (by omega), px_bd]
    unfold Q3
    by_cases he : elB A.1 A.2.1 k = true
    · obtain ⟨g1, a1, a2⟩ := e_turn (k := k) hg (by omega)
      rw [trF_lk (elB_y he).1] at a2
      obtain ⟨g2, b1, b2⟩ := e_second (added := added) hN hC hB hk he a2
      obtain ⟨g3, c1, c2⟩ := e_turn (k := k) b1 (by omega)
      rw [← trF_lk (elB_y he).1, trF_tw] at c2
      refine ⟨g3, c2, ?_⟩
      rw [if_pos he, if_neg i01, a1, px_bd, b2, px_bd, he]
      by_cases hs : sdN N A.1 A.2.1 k < 5 * N
      · rw [if_pos hs]
        dsimp only
        rw [c1, px_bd, if_neg i01, decide_eq_true hs]; rfl
      · rw [if_neg hs]
        dsimp only
        rw [c1, px_bd, if_pos rfl, decide_eq_false hs, n_1, nI_add]; rfl
    · refine ⟨g, hg, ?_⟩
      rw [if_neg he, if_pos rfl, n_1, nI_add, eq_false_of_ne_true he]; rfl
  obtain ⟨r, r1, f', r3⟩ := px_inv0 (B := bX4_areTwoAddedEnough_2 (nI N) now) (n := 1000) (s0 := ((0 : Int32), f, added)) (R := fun r => ∃ f', r = if ls (Q3 N A.1 A.2.1) 0 (5 * N) < 5 * N then .inl (nI (ls (Q3 N A.1 A.2.1) 0 (5 * N)), f', upd added 1 (nI (sdN N A.1 A.2.1 (ls (Q3 N A.1 A.2.1) 0 (5 * N))))) else .inr (f', added)) (fun k x => x.1 = nI k ∧ FI x.2.1 (lk A.1) ∧ x.2.2 = added) (ls (Q3 N A.1 A.2.1) 0 (5 * N)) (by omega) ⟨rfl, hF, rfl⟩ (by
    rintro k ⟨x, g, ad⟩ hk ⟨q1, q2, q3⟩
    dsimp only at q1 q2 q3
    subst q1
    subst q3
    obtain ⟨g', a1, a2⟩ := st k g (by omega) q2
    have hno := ls_no hk
    rw [Nat.zero_add] at hno
    rw [if_neg hno] at a2
    exact ⟨_, a2, rfl, a1, rfl⟩) (by
    rintro ⟨x, g, ad⟩ ⟨q1, q2, q3⟩
    dsimp only at q1 q2 q3
    subst q1
    subst q3
    by_cases h : ls (Q3 N A.1 A.2.1) 0 (5 * N) < 5 * N
    · obtain ⟨g', a1, a2⟩ := st _ g h q2
      have hy := ls_yes h
      rw [Nat.zero_add] at hy
      rw [if_pos hy] at a2
      exact ⟨_, a2, g', by rw [if_pos h]⟩
    · refine ⟨.inr (g, ad), ?_, g, by rw [if_neg h]⟩
      unfold bX4_areTwoAddedEnough_2
      dsimp only
      rw [n_5, pk_mul, if_pos (by rw [px_le (by omega) (by omega)]; omega)])
  refine ⟨f', ?_⟩
  unfold fX4_areTwoAddedEnough
  rw [r1, px_bd, r3]
  by_cases h : ls (Q3 N A.1 A.2.1) 0 (5 * N) < 5 * N
  · rw [if_pos h, if_pos h]
    dsimp only
    rw [n_0, px_wr (by omega) (by omega)]
  · rw [if_neg h, if_neg h]
/-! the model's side: places k = 5 * peak + trimming, written 10 * peak + trimming -/
def tenN (k : Nat) : Nat := 10 * (k / 5) + k % 5
/-- what the model has found when the places below m are done -/
def adR (N : Nat) (P : Nat → Nat) (S : Nat → Int32) (m : Nat) (v a b : Int32) : Prop :=
  if ls (Q1 N P S) 0 (5 * N) < m then v = nI 1 ∧ a = nI (tenN (ls (Q1 N P S) 0 (5 * N))) ∧ b = -4
  else if ls (Q3 N P S) 0 (5 * N) < m then v = nI 2 ∧ a = nI (tenN (ls (Q3 N P S) 0 (5 * N))) ∧ b = nI (tenN (sdN N P S (ls (Q3 N P S) 0 (5 * N))))
  else v = nI 3 ∧ a = -4 ∧ b = -4
/-- how many places lie below the number c -/
def cnN (c : Nat) : Nat := 5 * (c / 10) + (if c % 10 < 5 then c % 10 else 5)
theorem cnN_in {c : Nat} (h : c % 10 < 5) : cnN c = 5 * (c / 10) + c % 10 ∧ cnN (c + 1) = cnN c + 1 ∧ cnN c / 5 = c / 10 ∧ cnN c % 5 = c % 10 := by
  unfold cnN
  rw [if_pos h]
  refine ⟨rfl, ?_, by omega, by omega⟩
  by_cases e : (c + 1) % 10 < 5
  · rw [if_pos e]; omega
  · rw [if_neg e]; omega
theorem cnN_out {c : Nat} (h : ¬ c % 10 < 5) : cnN (c + 1) = cnN c := by
  unfold cnN
  rw [if_neg h]
  by_cases e : (c + 1) % 10 < 5
  · rw [if_pos e]; omega
  · rw [if_neg e]; omega
theorem cnN_ten {c : Nat} (h : c % 10 < 5) : tenN (cnN c) = c := by
  have := cnN_in h
  unfold tenN
  rw [this.2.2.1, this.2.2.2]
  omega
theorem cnN_end (N : Nat) : cnN (10 * N) = 5 * N := by
  unfold cnN
  rw [show 10 * N / 10 = N by omega, show 10 * N % 10 = 0 by omega]
  rfl
theorem cnN_lt {c N : Nat} (h : c < 10 * N) (h2 : c % 10 < 5) : cnN c < 5 * N := by
  have := cnN_in h2
  omega
theorem cnN_le {c N : Nat} (h : c ≤ 10 * N) : cnN c ≤ 5 * N := by
  unfold cnN
  split <;> omega
/-- a trimming put and taken off again -/
theorem setA_back {A : AS} {k t : Nat} (h : A.1 k = 0) : setA (setA A k 1 t (A.2.1 t - 1)) k 0 t ((setA A k 1 t (A.2.1 t - 1)).2.1 t + 1) = A := by
  obtain ⟨P, S, G⟩ := A
  unfold setA
  dsimp only at h ⊢
  rw [if_pos rfl, Int32.sub_add_cancel]
  congr 1
  · funext j
    by_cases e : j = k
    · subst e; rw [if_pos rfl, h]
    · rw [if_neg e, if_neg e]
  · congr 1
    funext s
    by_cases e : s = t
    · subst e; rw [if_pos rfl]
    · rw [if_neg e, if_neg e]

/-! match -/
def ftB (P : Nat → Nat) (g : Nat → Int32) (b k : Nat) : Bool := decide (nI (lk P b) &&& (g k ^^^ (-1 : Int32)) = 0)
theorem e_fits {b k : Nat} {now : Nat → Int32} {A : AS} (hC : CS now A) (hB : PB A.1) (hb : b < 6) (hk : k < 6) : fX4_fitsGuideOf now (nI b) (nI k) = some (if ftB A.1 A.2.2.1 b k = true then (1 : Int32) else 0) := by
  unfold fX4_fitsGuideOf
  rw [e_looksOf hC.1 hB hb, px_bd, e_guideOf _ hk, px_bd, hC.2.2.1 k hk]
  by_cases h : nI (lk A.1 b) &&& (A.2.2.1 k ^^^ (-1 : Int32)) = 0
  · rw [if_pos h, if_pos (by unfold ftB; exact decide_eq_true h)]
  · rw [if_neg h, if_neg (by unfold ftB; rw [decide_eq_false h]; decide)]
theorem e_mayHave {N b k : Nat} {pinned stored guides : Nat → Int32} {year : Int32} {A : AS} (hN : N ≤ 6) (hM : MS N pinned stored guides year A) (hB : PB A.1) (hb : b < 6) (hk : k < N) : fX5_mayHave pinned guides (nI b) (nI k) = some (if ftB A.1 A.2.2.1 b k = true then (1 : Int32) else 0) := by
  unfold fX5_mayHave
  rw [e_looks hM.1 hB hb, px_bd, px_rd (by omega) (by omega), hM.2.2.1 k hk]
  by_cases h : nI (lk A.1 b) &&& (A.2.2.1 k ^^^ (-1 : Int32)) = 0
  · rw [if_pos h, if_pos (by unfold ftB; exact decide_eq_true h)]
  · rw [if_neg h, if_neg (by unfold ftB; rw [decide_eq_false h]; decide)]
/-! sets of peaks as masks -/
theorem mk_or : ∀ i, i < 64 → ∀ j, j < 6 → i / 2 ^ j % 2 = 0 → i < i ||| 2 ^ j ∧ i ||| 2 ^ j < 64 ∧ pc (i ||| 2 ^ j) = pc i + 1 := by decide +kernel
theorem mk_all : ∀ N, N ≤ 6 → ∀ j, j < N → ¬ (2 ^ N - 1) / 2 ^ j % 2 = 0 := by decide +kernel
theorem mk_pc : ∀ N, N ≤ 6 → ∀ i, i < 64 → i < 2 ^ N - 1 → pc i < N := by decide +kernel
theorem mk_pcM : ∀ N, N ≤ 6 → pc (2 ^ N - 1) = N := by decide +kernel
theorem mk_64 : ∀ N, N ≤ 6 → 2 ^ N ≤ 64 := by decide +kernel
theorem mk_in {N i j : Nat} (hN : N ≤ 6) (hi : i ≤ 2 ^ N - 1) (hj : j < N) : i ||| 2 ^ j ≤ 2 ^ N - 1 := by
  have h0 : 0 < 2 ^ N := Nat.two_pow_pos N
  have := Nat.or_lt_two_pow (x := i) (y := 2 ^ j) (n := N) (by omega) (Nat.pow_lt_pow_right (by omega) hj)
  omega
def sW (ft : Nat → Nat → Bool) (T : Nat → Nat) (i : Nat) : Nat → Nat
  | 0 => 0
  | j + 1 => sW ft T i j + if i / 2 ^ j % 2 = 0 ∧ ft (pc i) j = true then T (i ||| 2 ^ j) else 0
theorem sW_s (ft : Nat → Nat → Bool) (T : Nat → Nat) (i j : Nat) : sW ft T i (j + 1) = sW ft T i j + if i / 2 ^ j % 2 = 0 ∧ ft (pc i) j = true then T (i ||| 2 ^ j) else 0 := rfl
theorem sW_cong {ft : Nat → Nat → Bool} {T S : Nat → Nat} {i : Nat} : ∀ n, (∀ j, j < n → i / 2 ^ j % 2 = 0 → T (i ||| 2 ^ j) = S (i ||| 2 ^ j)) → sW ft T i n = sW ft S i n
  | 0, _ => rfl
  | n + 1, h => by
    rw [sW_s, sW_s, sW_cong n (fun j hj => h j (by omega))]
    by_cases c : i / 2 ^ n % 2 = 0 ∧ ft (pc i) n = true
    · rw [if_pos c, if_pos c, h n (by omega) c.1]
    · rw [if_neg c, if_neg c]
theorem sW_le {ft : Nat → Nat → Bool} {T : Nat → Nat} {i B : Nat} : ∀ n, (∀ j, j < n → i / 2 ^ j % 2 = 0 → T (i ||| 2 ^ j) ≤ B) → sW ft T i n ≤ n * B
  | 0, _ => by show 0 ≤ _; omega
  | n + 1, h => by
    have h1 := sW_le (ft := ft) n (fun j hj => h j (by omega))
    rw [sW_s, Nat.succ_mul]
    by_cases c : i / 2 ^ n % 2 = 0 ∧ ft (pc i) n = true
    · rw [if_pos c]
      have := h n (by omega) c.1
      omega
    · rw [if_neg c]; omega
theorem sW_pos {ft : Nat → Nat → Bool} {T : Nat → Nat} {i : Nat} : ∀ n, 0 < sW ft T i n → ∃ j, j < n ∧ (i / 2 ^ j % 2 = 0 ∧ ft (pc i) j = true ∧ 0 < T (i ||| 2 ^ j))
  | 0, h => absurd h (Nat.lt_irrefl 0)
  | n + 1, h => by
    rw [sW_s] at h
    by_cases c : i / 2 ^ n % 2 = 0 ∧ ft (pc i) n = true
    · rw [if_pos c] at h
      by_cases z : 0 < T (i ||| 2 ^ n)
      · exact ⟨n, by omega, c.1, c.2, z⟩
      · obtain ⟨j, h1, h2⟩ := sW_pos (ft := ft) (T := T) (i := i) n (by omega)
        exact ⟨j, by omega, h2⟩
    · rw [if_neg c] at h
      obtain ⟨j, h1, h2⟩ := sW_pos (ft := ft) (T := T) (i := i) n (by omega)
      exact ⟨j, by omega, h2⟩
theorem sW_full {ft : Nat → Nat → Bool} {T : Nat → Nat} {N : Nat} (hN : N ≤ 6) : ∀ n, n ≤ N → sW ft T (2 ^ N - 1) n = 0
  | 0, _ => rfl
  | n + 1, h => by
    rw [sW_s, sW_full hN n (by omega), if_neg (fun z => mk_all N hN n (by omega) z.1)]
def tbW (N : Nat) (ft : Nat → Nat → Bool) : Nat → Nat → Nat
  | 0 => fun i => if i = 2 ^ N - 1 then 1 else 0
  | k + 1 => fun i => if i = 2 ^ N - 1 - (k + 1) then sW ft (tbW N ft k) i N else tbW N ft k i
theorem tbW_same {N : Nat} {ft : Nat → Nat → Bool} {k i : Nat} (h : 2 ^ N - 1 - k ≤ i) : ∀ d, k + d ≤ 2 ^ N - 1 → tbW N ft (k + d) i = tbW N ft k i
  | 0, _ => rfl
  | d + 1, hd => by
    show (if i = 2 ^ N - 1 - (k + d + 1) then _ else tbW N ft (k + d) i) = _
    rw [if_neg (by omega), tbW_same h d (by omega)]
def gW (N : Nat) (ft : Nat → Nat → Bool) : Nat → Nat := tbW N ft (2 ^ N - 1)
theorem gW_M {N : Nat} {ft : Nat → Nat → Bool} : gW N ft (2 ^ N - 1) = 1 := by
  have := tbW_same (N := N) (ft := ft) (k := 0) (i := 2 ^ N - 1) (by omega) (2 ^ N - 1) (by omega)
  unfold gW
  rw [Nat.zero_add] at this
  rw [this]
  show (if 2 ^ N - 1 = 2 ^ N - 1 then 1 else 0) = 1
  rw [if_pos rfl]
theorem gW_rec {N i : Nat} {ft : Nat → Nat → Bool} (hN : N ≤ 6) (hi : i < 2 ^ N - 1) : gW N ft i = sW ft (gW N ft) i N := by
  have h64 := mk_64 N hN
  have e1 := tbW_same (N := N) (ft := ft) (k := 2 ^ N - 1 - 1 - i + 1) (i := i) (by omega) i (by omega)
  rw [show 2 ^ N - 1 - 1 - i + 1 + i = 2 ^ N - 1 by omega] at e1
  show tbW N ft (2 ^ N - 1) i = _
  rw [e1]
  show (if i = 2 ^ N - 1 - (2 ^ N - 1 - 1 - i + 1) then sW ft (tbW N ft (2 ^ N - 1 - 1 - i)) i N else _) = _
  rw [if_pos (by omega)]
  refine sW_cong N (fun j hj hc => ?_)
  have hm := mk_or i (by omega) j (by omega) hc
  have e2 := tbW_same (N := N) (ft := ft) (k := 2 ^ N - 1 - 1 - i) (i := i ||| 2 ^ j) (by omega) (i + 1) (by omega)
  rw [show 2 ^ N - 1 - 1 - i + (i + 1) = 2 ^ N - 1 by omega] at e2
  exact e2.symm
theorem pw6 : ∀ a, a < 6 → 6 * 6 ^ (6 - (a + 1)) = 6 ^ (6 - a) := by decide +kernel
theorem pw6le : ∀ a, a < 7 → 6 ^ (6 - a) ≤ 46656 ∧ 1 ≤ 6 ^ (6 - a) := by decide +kernel
theorem gW_le {N : Nat} {ft : Nat → Nat → Bool} (hN : N ≤ 6) : ∀ d i, 2 ^ N - 1 - i ≤ d → i ≤ 2 ^ N - 1 → gW N ft i ≤ 6 ^ (6 - pc i)
  | d, i, h, hi => by
    have h64 := mk_64 N hN
    by_cases e : i = 2 ^ N - 1
    · subst e
      rw [gW_M]
      exact (pw6le _ (by have := pc_le (2 ^ N - 1); omega)).2
    · have hp := mk_pc N hN i (by omega) (by omega)
      rw [gW_rec hN (by omega), ← pw6 (pc i) (by omega)]
      refine Nat.le_trans (sW_le (B := 6 ^ (6 - (pc i + 1))) N (fun j hj hc => ?_)) (Nat.mul_le_mul hN (Nat.le_refl _))
      have hm := mk_or i (by omega) j (by omega) hc
      rw [← hm.2.2]
      match d, h with
      | 0, h => omega
      | d + 1, h => exact gW_le hN d _ (by omega) (mk_in hN (by omega) hj)
theorem gW_le2 {N i : Nat} {ft : Nat → Nat → Bool} (hN : N ≤ 6) (hi : i ≤ 2 ^ N - 1) : gW N ft i ≤ 46656 := Nat.le_trans (gW_le hN _ i (Nat.le_refl _) hi) (pw6le _ (by have := pc_le i; omega)).1
theorem mk_bit {i j : Nat} (hi : i < 64) (hj : j < 6) : ((nI i >>> (nI j &&& 31)) &&& (1 : Int32)) = nI (i / 2 ^ j % 2) := by
  rw [n_31, px_and, px_shr (by omega) (by omega), n_1, px_and, Nat.and_one_is_mod]
theorem mk_set {i j : Nat} (hj : j < 6) : nI i ||| ((1 : Int32) <<< (nI j &&& 31)) = nI (i ||| 2 ^ j) := by
  rw [n_1, n_31, px_and, px_shl1 j (by omega), px_or]
theorem mk_M {N : Nat} (h1 : 1 ≤ N) (hN : N ≤ 6) : ((1 : Int32) <<< (nI N &&& 31)) - (1 : Int32) = nI (2 ^ N - 1) := by
  rw [n_1, n_31, px_and, px_shl1 N (by omega), px_sub (Nat.two_pow_pos N)]
def TWs (N : Nat) (ft : Nat → Nat → Bool) (w : Nat → Int32) (a : Nat) : Prop := ∀ i, a ≤ i → i ≤ 2 ^ N - 1 → w i = nI (gW N ft i)
theorem bit0 {x : Nat} (h : x < 2147483648) : nI x = 0 ↔ x = 0 := px_eq (b := 0) h (by omega)
theorem e_countWays {N : Nat} {now ways : Nat → Int32} {A : AS} (h1 : 1 ≤ N) (hN : N ≤ 6) (hC : CS now A) (hB : PB A.1) : ∃ w, fX4_countWays (nI N) now ways = some w ∧ TWs N (ftB A.1 A.2.2.1) w 0 := by
  have h64 := mk_64 N hN
  have h20 : 2 ≤ 2 ^ N := by
    have := Nat.pow_le_pow_right (n := 2) (by omega) h1
    omega
  obtain ⟨w, hw, hw2⟩ := px_inv0 (B := bX4_countWays_14 (nI N) now (nI (2 ^ N - 1))) (n := 1000) (s0 := (nI (2 ^ N - 1), ways)) (R := fun w => TWs N (ftB A.1 A.2.2.1) w 0) (fun k x => x.1 = (if k ≤ 2 ^ N - 1 then nI (2 ^ N - 1 - k) else -1) ∧ TWs N (ftB A.1 A.2.2.1) x.2 (2 ^ N - k)) (2 ^ N) (by omega) ⟨by rw [if_pos (by omega)]; rfl, fun i a b => by omega⟩ (by
    rintro k ⟨x, w⟩ hk ⟨q1, q2⟩
    dsimp only at q1 q2
    rw [if_pos (by omega)] at q1
    subst q1
    obtain ⟨i, hi⟩ : ∃ i, i = 2 ^ N - 1 - k := ⟨_, rfl⟩
    rw [← hi]
    have hin : sx_it 1000 (bX4_countWays_32 (nI N) now w (nI i)) (nI (if i = 2 ^ N - 1 then 1 else 0), (0 : Int32)) = some (nI (gW N (ftB A.1 A.2.2.1) i)) := by
      have hg : gW N (ftB A.1 A.2.2.1) i = (if i = 2 ^ N - 1 then 1 else 0) + sW (ftB A.1 A.2.2.1) (gW N (ftB A.1 A.2.2.1)) i N := by
        by_cases e : i = 2 ^ N - 1
        · rw [if_pos e, e, gW_M, sW_full hN N (by omega)]
        · rw [if_neg e, gW_rec hN (by omega)]; omega
      refine px_it N 1000 (fun j => (nI ((if i = 2 ^ N - 1 then 1 else 0) + sW (ftB A.1 A.2.2.1) (gW N (ftB A.1 A.2.2.1)) i j), nI j)) ?_ ?_ (by omega)
      · intro j hj
        unfold bX4_countWays_32
        dsimp only
        rw [if_neg (by rw [px_le (by omega) (by omega)]; omega), mk_bit (by omega) (by omega), sW_s]
        have hm2 : i / 2 ^ j % 2 < 2 := Nat.mod_lt _ (by omega)
        by_cases hc : i / 2 ^ j % 2 = 0
        · have hm := mk_or i (by omega) j (by omega) hc
          have hlt : i < 2 ^ N - 1 := by
            rcases Nat.lt_or_ge i (2 ^ N - 1) with h | h
            · exact h
            · exact absurd (show (2 ^ N - 1) / 2 ^ j % 2 = 0 by rw [show 2 ^ N - 1 = i by omega]; exact hc) (mk_all N hN j hj)
          have hp := mk_pc N hN i (by omega) hlt
          rw [if_pos ((bit0 (by omega)).mpr hc), e_bitCount i (by omega), px_bd, e_fits hC hB (by omega) (by omega), px_bd]
          by_cases hf : ftB A.1 A.2.2.1 (pc i) j = true
          · rw [if_pos hf, if_neg i01, mk_set (by omega), px_rd (by omega) (by omega), px_slt, q2 _ (by omega) (mk_in hN (by omega) hj), nI_add, if_pos (show (i / 2 ^ j % 2 = 0 ∧ ftB A.1 A.2.2.1 (pc i) j = true) from ⟨hc, hf⟩), n_1, nI_add, Nat.add_assoc]
          · rw [if_neg hf, if_pos rfl, if_neg (show ¬ (i / 2 ^ j % 2 = 0 ∧ ftB A.1 A.2.2.1 (pc i) j = true) from fun z => hf z.2), n_1, nI_add]; rfl
        · rw [if_neg (fun z => hc ((bit0 (by omega)).mp z)), if_neg (show ¬ (i / 2 ^ j % 2 = 0 ∧ ftB A.1 A.2.2.1 (pc i) j = true) from fun z => hc z.1), n_1, nI_add]; rfl
      · unfold bX4_countWays_32
        dsimp only
        rw [if_pos (by rw [px_le (by omega) (by omega)]; omega), hg]
    refine ⟨(_, upd w i (nI (gW N (ftB A.1 A.2.2.1) i))), ?_, rfl, ?_⟩
    · unfold bX4_countWays_14
      dsimp only
      rw [if_neg (by rw [px_lt0 (by omega)]; exact id)]
      have fin : jX4_countWays_28 (nI N) now w (nI i) (nI (if i = 2 ^ N - 1 then 1 else 0)) = some (.inl ((if k + 1 ≤ 2 ^ N - 1 then nI (2 ^ N - 1 - (k + 1)) else -1), upd w i (nI (gW N (ftB A.1 A.2.2.1) i)))) := by
        unfold jX4_countWays_28
        rw [hin, px_bd, px_wr (by omega) (by omega)]
        by_cases e : k + 1 ≤ 2 ^ N - 1
        · rw [if_pos e, show i = 2 ^ N - 1 - (k + 1) + 1 by omega, pk_m1]
        · rw [if_neg e, show i = 0 by omega]; rfl
      by_cases e : i = 2 ^ N - 1
      · rw [if_pos ((px_eq (by omega) (by omega)).mpr e)]
        rw [if_pos e] at fin
        exact fin
      · rw [if_neg (fun z => e ((px_eq (by omega) (by omega)).mp z))]
        rw [if_neg e] at fin
        exact fin
    · intro a ha hb
      dsimp only
      by_cases e : a = i
      · subst e; rw [px_upd_s]
      · rw [px_upd_n e]; exact q2 a (by omega) hb) (by
    rintro ⟨x, w⟩ ⟨q1, q2⟩
    dsimp only at q1 q2
    rw [if_neg (by omega)] at q1
    subst q1
    refine ⟨w, ?_, fun i a b => q2 i (by omega) b⟩
    unfold bX4_countWays_14
    dsimp only
    rw [if_pos (by decide)])
  refine ⟨w, ?_, hw2⟩
  unfold fX4_countWays
  rw [mk_M h1 hN, px_slt, hw, px_bd]

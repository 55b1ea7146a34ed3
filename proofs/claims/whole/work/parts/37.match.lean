/-! match -/
def ftB (P : Nat → Nat) (g : Nat → Int32) (b k : Nat) : Bool := decide (nI (lk P b) &&& (g k ^^^ (-1 : Int32)) = 0)
theorem e_fits {b k : Nat} {now : Nat → Int32} {A : AS} (hC : CS now A) (hB : PB A.1) (hb : b < 6) (hk : k < 6) : fX4_fitsGuideOf now (nI b) (nI k) = some (if ftB A.1 A.2.2.1 b k = true then (1 : Int32) else 0) := by
  unfold fX4_fitsGuideOf
  rw [e_looksOf hC.1 hB hb, px_bd, e_guideOf _ hk, px_bd, hC.2.2.1 k hk]
  by_cases h : nI (lk A.1 b) &&& (A.2.2.1 k ^^^ (-1 : Int32)) = 0
  · rw [if_pos h, if_pos (by unfold ftB; exact decide_eq_true h)]
  · rw [if_neg h, if_neg (by unfold ftB; rw [decide_eq_false h]; decide)]
theorem e_mayHave {N b k : Nat} {pinned stored guides : Nat → Int32} {year : Int32} {A : AS} (hN : N ≤ 6) (hM : MS N pinned stored guides year A) (hB : PB A.1) (hb : b < 6) (hk : k < N) : fX5_mayHave pinned guides (nI b) (nI k) = some (if ftB A.1 A.2.2.1 b k = true then (1 : Int32) else 0) := by
  unfold fX5_mayHave
  rw [e_looks hM.1 hB hb, px_bd, px_rd (by omega) (by omega), hM.2.2.1 k hk]
  by_cases h : nI (lk A.1 b) &&& (A.2.2.1 k ^^^ (-1 : Int32)) = 0
  · rw [if_pos h, if_pos (by unfold ftB; exact decide_eq_true h)]
  · rw [if_neg h, if_neg (by unfold ftB; rw [decide_eq_false h]; decide)]
/-! sets of peaks as masks -/
theorem mk_or : ∀ i, i < 64 → ∀ j, j < 6 → i / 2 ^ j % 2 = 0 → i < i ||| 2 ^ j ∧ i ||| 2 ^ j < 64 ∧ pc (i ||| 2 ^ j) = pc i + 1 := by decide +kernel
theorem mk_all : ∀ N, N ≤ 6 → ∀ j, j < N → ¬ (2 ^ N - 1) / 2 ^ j % 2 = 0 := by decide +kernel
theorem mk_pc : ∀ N, N ≤ 6 → ∀ i, i < 64 → i < 2 ^ N - 1 → pc i < N := by decide +kernel
theorem mk_pcM : ∀ N, N ≤ 6 → pc (2 ^ N - 1) = N := by decide +kernel
theorem mk_64 : ∀ N, N ≤ 6 → 2 ^ N ≤ 64 := by decide +kernel
theorem mk_in {N i j : Nat} (hN : N ≤ 6) (hi : i ≤ 2 ^ N - 1) (hj : j < N) : i ||| 2 ^ j ≤ 2 ^ N - 1 := by
  have h0 : 0 < 2 ^ N := Nat.two_pow_pos N
  have := Nat.or_lt_two_pow (x := i) (y := 2 ^ j) (n := N) (by omega) (Nat.pow_lt_pow_right (by omega) hj)
  omega
def sW (ft : Nat → Nat → Bool) (T : Nat → Nat) (i : Nat) : Nat → Nat
  | 0 => 0
  | j + 1 => sW ft T i j + if i / 2 ^ j % 2 = 0 ∧ ft (pc i) j = true then T (i ||| 2 ^ j) else 0
theorem sW_s (ft : Nat → Nat → Bool) (T : Nat → Nat) (i j : Nat) : sW ft T i (j + 1) = sW ft T i j + if i / 2 ^ j % 2 = 0 ∧ ft (pc i) j = true then T (i ||| 2 ^ j) else 0 := rfl
theorem sW_cong {ft : Nat → Nat → Bool} {T S : Nat → Nat} {i : Nat} : ∀ n, (∀ j, j < n → i / 2 ^ j % 2 = 0 → T (i ||| 2 ^ j) = S (i ||| 2 ^ j)) → sW ft T i n = sW ft S i n
  | 0, _ => rfl
  | n + 1, h => by
    rw [sW_s, sW_s, sW_cong n (fun j hj => h j (by omega))]
    by_cases c : i / 2 ^ n % 2 = 0 ∧ ft (pc i) n = true
    · rw [if_pos c, if_pos c, h n (by omega) c.1]
    · rw [if_neg c, if_neg c]
theorem sW_le {ft : Nat → Nat → Bool} {T : Nat → Nat} {i B : Nat} : ∀ n, (∀ j, j < n → i / 2 ^ j % 2 = 0 → T (i ||| 2 ^ j) ≤ B) → sW ft T i n ≤ n * B
  | 0, _ => by show 0 ≤ _; omega
  | n + 1, h => by
    have h1 := sW_le (ft := ft) n (fun j hj => h j (by omega))
    rw [sW_s, Nat.succ_mul]
    by_cases c : i / 2 ^ n % 2 = 0 ∧ ft (pc i) n = true
    · rw [if_pos c]
      have := h n (by omega) c.1
      omega
    · rw [if_neg c]; omega
theorem sW_pos {ft : Nat → Nat → Bool} {T : Nat → Nat} {i : Nat} : ∀ n, 0 < sW ft T i n → ∃ j, j < n ∧ (i / 2 ^ j % 2 = 0 ∧ ft (pc i) j = true ∧ 0 < T (i ||| 2 ^ j))
  | 0, h => absurd h (Nat.lt_irrefl 0)
  | n + 1, h => by
    rw [sW_s] at h
    by_cases c : i / 2 ^ n % 2 = 0 ∧ ft (pc i) n = true
    · rw [if_pos c] at h
      by_cases z : 0 < T (i ||| 2 ^ n)
      · exact ⟨n, by omega, c.1, c.2, z⟩
      · obtain ⟨j, h1, h2⟩ := sW_pos (ft := ft) (T := T) (i := i) n (by omega)
        exact ⟨j, by omega, h2⟩
    · rw [if_neg c] at h
      obtain ⟨j, h1, h2⟩ := sW_pos (ft := ft) (T := T) (i := i) n (by omega)
      exact ⟨j, by omega, h2⟩
theorem sW_full {ft : Nat → Nat → Bool} {T : Nat → Nat} {N : Nat} (hN : N ≤ 6) : ∀ n, n ≤ N → sW ft T (2 ^ N - 1) n = 0
  | 0, _ => rfl
  | n + 1, h => by
    rw [sW_s, sW_full hN n (by omega), if_neg (fun z => mk_all N hN n (by omega) z.1)]
def tbW (N : Nat) (ft : Nat → Nat → Bool) : Nat → Nat → Nat
  | 0 => fun i => if i = 2 ^ N - 1 then 1 else 0
  | k + 1 => fun i => if i = 2 ^ N - 1 - (k + 1) then sW ft (tbW N ft k) i N else tbW N ft k i
theorem tbW_same {N : Nat} {ft : Nat → Nat → Bool} {k i : Nat} (h : 2 ^ N - 1 - k ≤ i) : ∀ d, k + d ≤ 2 ^ N - 1 → tbW N ft (k + d) i = tbW N ft k i
  | 0, _ => rfl
  | d + 1, hd => by
    show (if i = 2 ^ N - 1 - (k + d + 1) then _ else tbW N ft (k + d) i) = _
    rw [if_neg (by omega), tbW_same h d (by omega)]
def gW (N : Nat) (ft : Nat → Nat → Bool) : Nat → Nat := tbW N ft (2 ^ N - 1)
theorem gW_M {N : Nat} {ft : Nat → Nat → Bool} : gW N ft (2 ^ N - 1) = 1 := by
  have := tbW_same (N := N) (ft := ft) (k := 0) (i := 2 ^ N - 1) (by omega) (2 ^ N - 1) (by omega)
  unfold gW
  rw [Nat.zero_add] at this
  rw [this]
  show (if 2 ^ N - 1 = 2 ^ N - 1 then 1 else 0) = 1
  rw [if_pos rfl]
theorem gW_rec {N i : Nat} {ft : Nat → Nat → Bool} (hN : N ≤ 6) (hi : i < 2 ^ N - 1) : gW N ft i = sW ft (gW N ft) i N := by
  have h64 := mk_64 N hN
  have e1 := tbW_same (N := N) (ft := ft) (k := 2 ^ N - 1 - 1 - i + 1) (i := i) (by omega) i (by omega)
  rw [show 2 ^ N - 1 - 1 - i + 1 + i = 2 ^ N - 1 by omega] at e1
  show tbW N ft (2 ^ N - 1) i = _
  rw [e1]
  show (if i = 2 ^ N - 1 - (2 ^ N - 1 - 1 - i + 1) then sW ft (tbW N ft (2 ^ N - 1 - 1 - i)) i N else _) = _
  rw [if_pos (by omega)]
  refine sW_cong N (fun j hj hc => ?_)
  have hm := mk_or i (by omega) j (by omega) hc
  have e2 := tbW_same (N := N) (ft := ft) (k := 2 ^ N - 1 - 1 - i) (i := i ||| 2 ^ j) (by omega) (i + 1) (by omega)
  rw [show 2 ^ N - 1 - 1 - i + (i + 1) = 2 ^ N - 1 by omega] at e2
  exact e2.symm
theorem pw6 : ∀ a, a < 6 → 6 * 6 ^ (6 - (a + 1)) = 6 ^ (6 - a) := by decide +kernel
theorem pw6le : ∀ a, a < 7 → 6 ^ (6 - a) ≤ 46656 ∧ 1 ≤ 6 ^ (6 - a) := by decide +kernel
theorem gW_le {N : Nat} {ft : Nat → Nat → Bool} (hN : N ≤ 6) : ∀ d i, 2 ^ N - 1 - i ≤ d → i ≤ 2 ^ N - 1 → gW N ft i ≤ 6 ^ (6 - pc i)
  | d, i, h, hi => by
    have h64 := mk_64 N hN
    by_cases e : i = 2 ^ N - 1
    · subst e
      rw [gW_M]
      exact (pw6le _ (by have := pc_le (2 ^ N - 1); omega)).2
    · have hp := mk_pc N hN i (by omega) (by omega)
      rw [gW_rec hN (by omega), ← pw6 (pc i) (by omega)]
      refine Nat.le_trans (sW_le (B := 6 ^ (6 - (pc i + 1))) N (fun j hj hc => ?_)) (Nat.mul_le_mul hN (Nat.le_refl _))
      have hm := mk_or i (by omega) j (by omega) hc
      rw [← hm.2.2]
      match d, h with
      | 0, h => omega
      | d + 1, h => exact gW_le hN d _ (by omega) (mk_in hN (by omega) hj)
theorem gW_le2 {N i : Nat} {ft : Nat → Nat → Bool} (hN : N ≤ 6) (hi : i ≤ 2 ^ N - 1) : gW N ft i ≤ 46656 := Nat.le_trans (gW_le hN _ i (Nat.le_refl _) hi) (pw6le _ (by have := pc_le i; omega)).1
theorem mk_bit {i j : Nat} (hi : i < 64) (hj : j < 6) : ((nI i >>> (nI j &&& 31)) &&& (1 : Int32)) = nI (i / 2 ^ j % 2) := by
  rw [n_31, px_and, px_shr (by omega) (by omega), n_1, px_and, Nat.and_one_is_mod]
theorem mk_set {i j : Nat} (hj : j < 6) : nI i ||| ((1 : Int32) <<< (nI j &&& 31)) = nI (i ||| 2 ^ j) := by
  rw [n_1, n_31, px_and, px_shl1 j (by omega), px_or]
theorem mk_M {N : Nat} (h1 : 1 ≤ N) (hN : N ≤ 6) : ((1 : Int32) <<< (nI N &&& 31)) - (1 : Int32) = nI (2 ^ N - 1) := by
  rw [n_1, n_31, px_and, px_shl1 N (by omega), px_sub (Nat.two_pow_pos N)]
def TWs (N : Nat) (ft : Nat → Nat → Bool) (w : Nat → Int32) (a : Nat) : Prop := ∀ i, a ≤ i → i ≤ 2 ^ N - 1 → w i = nI (gW N ft i)
theorem bit0 {x : Nat} (h : x < 2147483648) : nI x = 0 ↔ x = 0 := px_eq (b := 0) h (by omega)
theorem e_countWays {N : Nat} {now ways : Nat → Int32} {A : AS} (h1 : 1 ≤ N) (hN : N ≤ 6) (hC : CS now A) (hB : PB A.1) : ∃ w, fX4_countWays (nI N) now ways = some w ∧ TWs N (ftB A.1 A.2.2.1) w 0 := by
  have h64 := mk_64 N hN
  have h20 : 2 ≤ 2 ^ N := by
    have := Nat.pow_le_pow_right (n := 2) (by omega) h1
    omega
  obtain ⟨w, hw, hw2⟩ := px_inv0 (B := bX4_countWays_14 (nI N) now (nI (2 ^ N - 1))) (n := 1000) (s0 := (nI (2 ^ N - 1), ways)) (R := fun w => TWs N (ftB A.1 A.2.2.1) w 0) (fun k x => x.1 = (if k ≤ 2 ^ N - 1 then nI (2 ^ N - 1 - k) else -1) ∧ TWs N (ftB A.1 A.2.2.1) x.2 (2 ^ N - k)) (2 ^ N) (by omega) ⟨by rw [if_pos (by omega)]; rfl, fun i a b => by omega⟩ (by
    rintro k ⟨x, w⟩ hk ⟨q1, q2⟩
    dsimp only at q1 q2
    rw [if_pos (by omega)] at q1
    subst q1
    obtain ⟨i, hi⟩ : ∃ i, i = 2 ^ N - 1 - k := ⟨_, rfl⟩
    rw [← hi]
    have hin : sx_it 1000 (bX4_countWays_32 (nI N) now w (nI i)) (nI (if i = 2 ^ N - 1 then 1 else 0), (0 : Int32)) = some (nI (gW N (ftB A.1 A.2.2.1) i)) := by
      have hg : gW N (ftB A.1 A.2.2.1) i = (if i = 2 ^ N - 1 then 1 else 0) + sW (ftB A.1 A.2.2.1) (gW N (ftB A.1 A.2.2.1)) i N := by
        by_cases e : i = 2 ^ N - 1
        · rw [if_pos e, e, gW_M, sW_full hN N (by omega)]
        · rw [if_neg e, gW_rec hN (by omega)]; omega
      refine px_it N 1000 (fun j => (nI ((if i = 2 ^ N - 1 then 1 else 0) + sW (ftB A.1 A.2.2.1) (gW N (ftB A.1 A.2.2.1)) i j), nI j)) ?_ ?_ (by omega)
      · intro j hj
        unfold bX4_countWays_32
        dsimp only
        rw [if_neg (by rw [px_le (by omega) (by omega)]; omega), mk_bit (by omega) (by omega), sW_s]
        have hm2 : i / 2 ^ j % 2 < 2 := Nat.mod_lt _ (by omega)
        by_cases hc : i / 2 ^ j % 2 = 0
        · have hm := mk_or i (by omega) j (by omega) hc
          have hlt : i < 2 ^ N - 1 := by
            rcases Nat.lt_or_ge i (2 ^ N - 1) with h | h
            · exact h
            · exact absurd (show (2 ^ N - 1) / 2 ^ j % 2 = 0 by rw [show 2 ^ N - 1 = i by omega]; exact hc) (mk_all N hN j hj)
          have hp := mk_pc N hN i (by omega) hlt
          rw [if_pos ((bit0 (by omega)).mpr hc), e_bitCount i (by omega), px_bd, e_fits hC hB (by omega) (by omega), px_bd]
          by_cases hf : ftB A.1 A.2.2.1 (pc i) j = true
          · rw [if_pos hf, if_neg i01, mk_set (by omega), px_rd (by omega) (by omega), px_slt, q2 _ (by omega) (mk_in hN (by omega) hj), nI_add, if_pos (show (i / 2 ^ j % 2 = 0 ∧ ftB A.1 A.2.2.1 (pc i) j = true) from ⟨hc, hf⟩), n_1, nI_add, Nat.add_assoc]
          · rw [if_neg hf, if_pos rfl, if_neg (show ¬ (i / 2 ^ j % 2 = 0 ∧ ftB A.1 A.2.2.1 (pc i) j = true) from fun z => hf z.2), n_1, nI_add]; rfl
        · rw [if_neg (fun z => hc ((bit0 (by omega)).mp z)), if_neg (show ¬ (i / 2 ^ j % 2 = 0 ∧ ftB A.1 A.2.2.1 (pc i) j = true) from fun z => hc z.1), n_1, nI_add]; rfl
      · unfold bX4_countWays_32
        dsimp only
        rw [if_pos (by rw [px_le (by omega) (by omega)]; omega), hg]
    refine ⟨(_, upd w i (nI (gW N (ftB A.1 A.2.2.1) i))), ?_, rfl, ?_⟩
    · unfold bX4_countWays_14
      dsimp only
      rw [if_neg (by rw [px_lt0 (by omega)]; exact id)]
      have fin : jX4_countWays_28 (nI N) now w (nI i) (nI (if i = 2 ^ N - 1 then 1 else 0)) = some (.inl ((if k + 1 ≤ 2 ^ N - 1 then nI (2 ^ N - 1 - (k + 1)) else -1), upd w i (nI (gW N (ftB A.1 A.2.2.1) i)))) := by
        unfold jX4_countWays_28
        rw [hin, px_bd, px_wr (by omega) (by omega)]
        by_cases e : k + 1 ≤ 2 ^ N - 1
        · rw [if_pos e, show i = 2 ^ N - 1 - (k + 1) + 1 by omega, pk_m1]
        · rw [if_neg e, show i = 0 by omega]; rfl
      by_cases e : i = 2 ^ N - 1
      · rw [if_pos ((px_eq (by omega) (by omega)).mpr e)]
        rw [if_pos e] at fin
        exact fin
      · rw [if_neg (fun z => e ((px_eq (by omega) (by omega)).mp z))]
        rw [if_neg e] at fin
        exact fin
    · intro a ha hb
      dsimp only
      by_cases e : a = i
      · subst e; rw [px_upd_s]
      · rw [px_upd_n e]; exact q2 a (by omega) hb) (by
    rintro ⟨x, w⟩ ⟨q1, q2⟩
    dsimp only at q1 q2
    rw [if_neg (by omega)] at q1
    subst q1
    refine ⟨w, ?_, fun i a b => q2 i (by omega) b⟩
    unfold bX4_countWays_14
    dsimp only
    rw [if_pos (by decide)])
  refine ⟨w, ?_, hw2⟩
  unfold fX4_countWays
  rw [mk_M h1 hN, px_slt, hw, px_bd]
theorem e_setWays {N : Nat} {pinned stored guides ways : Nat → Int32} {year : Int32} {A : AS} (h1 : 1 ≤ N) (hN : N ≤ 6) (hM : MS N pinned stored guides year A) (hB : PB A.1) : ∃ w, fX5_setWays (nI N) pinned guides ways = some w ∧ TWs N (ftB A.1 A.2.2.1) w 0 := by
  have h64 := mk_64 N hN
  have h20 : 2 ≤ 2 ^ N := by
    have := Nat.pow_le_pow_right (n := 2) (by omega) h1
    omega
  obtain ⟨w, hw, hw2⟩ := px_inv0 (B := bX5_setWays_20 (nI N) pinned guides) (n := 1000) (s0 := (nI (2 ^ N - 1 - 1), upd ways (2 ^ N - 1) (nI 1))) (R := fun w => TWs N (ftB A.1 A.2.2.1) w 0) (fun k x => x.1 = (if k < 2 ^ N - 1 then nI (2 ^ N - 1 - 1 - k) else -1) ∧ TWs N (ftB A.1 A.2.2.1) x.2 (2 ^ N - 1 - k)) (2 ^ N - 1) (by omega) ⟨by rw [if_pos (by omega)]; rfl, fun i a b => by
      dsimp only
      rw [show i = 2 ^ N - 1 by omega, px_upd_s, gW_M]⟩ (by
    rintro k ⟨x, w⟩ hk ⟨q1, q2⟩
    dsimp only at q1 q2
    rw [if_pos (by omega)] at q1
    subst q1
    obtain ⟨i, hi⟩ : ∃ i, i = 2 ^ N - 1 - 1 - k := ⟨_, rfl⟩
    rw [← hi]
    have hp := mk_pc N hN i (by omega) (by omega)
    obtain ⟨w2, hin, hv, ho⟩ := px_inv0 (B := bX5_setWays_39 (nI N) pinned guides (nI i) (nI (pc i))) (n := 1000) (s0 := ((0 : Int32), upd w i (0 : Int32))) (R := fun x => x i = nI (gW N (ftB A.1 A.2.2.1) i) ∧ TWs N (ftB A.1 A.2.2.1) x (i + 1)) (fun j x => x.1 = nI j ∧ x.2 i = nI (sW (ftB A.1 A.2.2.1) (gW N (ftB A.1 A.2.2.1)) i j) ∧ TWs N (ftB A.1 A.2.2.1) x.2 (i + 1)) N (by omega) ⟨rfl, px_upd_s, fun a ha hb => by
        dsimp only
        rw [px_upd_n (by omega)]; exact q2 a (by omega) hb⟩ (by
      rintro j ⟨x, f⟩ hj ⟨r1, r2, r3⟩
      dsimp only at r1 r2 r3
      subst r1
      have hm2 : i / 2 ^ j % 2 < 2 := Nat.mod_lt _ (by omega)
      have hT : ∀ y, TWs N (ftB A.1 A.2.2.1) (upd f i y) (i + 1) := by
        intro y a ha hb
        rw [px_upd_n (by omega)]; exact r3 a ha hb
      have B0 : bX5_setWays_39 (nI N) pinned guides (nI i) (nI (pc i)) (nI j, f) = some (.inl (nI (j + 1), upd f i (nI (sW (ftB A.1 A.2.2.1) (gW N (ftB A.1 A.2.2.1)) i (j + 1))))) := by
        unfold bX5_setWays_39
        dsimp only
        rw [if_neg (by rw [px_le (by omega) (by omega)]; omega), px_rd (by omega) (by omega), e_has (by omega) (by omega), px_bd, r2, sW_s]
        by_cases hc : i / 2 ^ j % 2 = 0
        · have hm := mk_or i (by omega) j (by omega) hc
          rw [if_neg (show ¬ i / 2 ^ j % 2 = 1 by omega), if_pos rfl, e_mayHave hN hM hB (by omega) hj, px_bd]
          by_cases hf : ftB A.1 A.2.2.1 (pc i) j = true
          · rw [if_pos hf, if_neg i01, mk_set (by omega), px_rd (by omega) (by omega), r3 _ (by omega) (mk_in hN (by omega) hj), nI_add, px_wr (by omega) (by omega), if_pos (show (i / 2 ^ j % 2 = 0 ∧ ftB A.1 A.2.2.1 (pc i) j = true) from ⟨hc, hf⟩), n_1, nI_add]
          · rw [if_neg hf, if_pos rfl, px_wr (by omega) (by omega), if_neg (show ¬ (i / 2 ^ j % 2 = 0 ∧ ftB A.1 A.2.2.1 (pc i) j = true) from fun z => hf z.2), n_1, nI_add, n_0, nI_add]
        · rw [if_pos (show i / 2 ^ j % 2 = 1 by omega), if_neg i01, px_wr (by omega) (by omega), if_neg (show ¬ (i / 2 ^ j % 2 = 0 ∧ ftB A.1 A.2.2.1 (pc i) j = true) from fun z => hc z.1), n_1, nI_add, n_0, nI_add]
      exact ⟨_, B0, rfl, px_upd_s, hT _⟩) (by
      rintro ⟨x, f⟩ ⟨r1, r2, r3⟩
      dsimp only at r1 r2 r3
      subst r1
      refine ⟨f, ?_, ?_, r3⟩
      · unfold bX5_setWays_39
        dsimp only
        rw [if_pos (by rw [px_le (by omega) (by omega)]; omega)]
      · rw [r2, gW_rec hN (by omega)])
    refine ⟨((if k + 1 < 2 ^ N - 1 then nI (2 ^ N - 1 - 1 - (k + 1)) else -1), w2), ?_, rfl, ?_⟩
    · unfold bX5_setWays_20
      dsimp only
      rw [if_neg (by rw [px_lt0 (by omega)]; exact id), e_bits i (by omega), px_bd, px_wr (by omega) (by omega), hin, px_bd]
      by_cases e : k + 1 < 2 ^ N - 1
      · rw [if_pos e, show i = 2 ^ N - 1 - 1 - (k + 1) + 1 by omega, pk_m1]
      · rw [if_neg e, show i = 0 by omega]; rfl
    · intro a ha hb
      dsimp only
      by_cases e : a = i
      · subst e; exact hv
      · exact ho a (by omega) hb) (by
    rintro ⟨x, w⟩ ⟨q1, q2⟩
    dsimp only at q1 q2
    rw [if_neg (by omega)] at q1
    subst q1
    refine ⟨w, ?_, fun i a b => q2 i (by omega) b⟩
    unfold bX5_setWays_20
    dsimp only
    rw [if_pos (by decide)])
  refine ⟨w, ?_, hw2⟩
  unfold fX5_setWays
  rw [mk_M h1 hN, px_slt, px_wr (by omega) (by omega), n_1, px_sub (by omega), px_slt, hw, px_bd]
/-! the first way -/
def fwJ (N : Nat) (ft : Nat → Nat → Bool) (b i : Nat) : Nat := lo (fun j => if i / 2 ^ j % 2 = 0 ∧ ft b j = true ∧ 0 < gW N ft (i ||| 2 ^ j) then 1 else 0) 0 N
theorem fwJ_no {N b i j : Nat} {ft : Nat → Nat → Bool} (h : j < fwJ N ft b i) : ¬ (i / 2 ^ j % 2 = 0 ∧ ft b j = true ∧ 0 < gW N ft (i ||| 2 ^ j)) := by
  intro z
  have := lo_z _ N 0 j h
  rw [Nat.zero_add, if_pos z] at this
  omega
theorem fwJ_yes {N b i : Nat} {ft : Nat → Nat → Bool} (h : fwJ N ft b i < N) : (i / 2 ^ (fwJ N ft b i) % 2 = 0 ∧ ft b (fwJ N ft b i) = true ∧ 0 < gW N ft (i ||| 2 ^ (fwJ N ft b i))) := by
  have := lo_nz _ N 0 h
  rw [Nat.zero_add] at this
  by_cases e : (i / 2 ^ (fwJ N ft b i) % 2 = 0 ∧ ft b (fwJ N ft b i) = true ∧ 0 < gW N ft (i ||| 2 ^ (fwJ N ft b i)))
  · exact e
  · exact absurd (if_neg e) this
def mkU (N : Nat) (ft : Nat → Nat → Bool) : Nat → Nat × Nat
  | 0 => (0, 0)
  | b + 1 => ((mkU N ft b).1 ||| 2 ^ (fwJ N ft b (mkU N ft b).1), fwJ N ft b (mkU N ft b).1)
theorem mkU_ok {N : Nat} {ft : Nat → Nat → Bool} (hN : N ≤ 6) (h0 : 0 < gW N ft 0) : ∀ b, b ≤ N → (mkU N ft b).1 ≤ 2 ^ N - 1 ∧ pc (mkU N ft b).1 = b ∧ 0 < gW N ft (mkU N ft b).1 ∧ (b < N → fwJ N ft b (mkU N ft b).1 < N)
  | b, hb => by
    have h64 := mk_64 N hN
    have main : (mkU N ft b).1 ≤ 2 ^ N - 1 ∧ pc (mkU N ft b).1 = b ∧ 0 < gW N ft (mkU N ft b).1 := by
      match b, hb with
      | 0, _ => exact ⟨Nat.zero_le _, by show pc 0 = 0; decide, h0⟩
      | b + 1, hb =>
        obtain ⟨i1, i2, i3, i4⟩ := mkU_ok hN h0 b (by omega)
        have hj := i4 (by omega)
        have hy := fwJ_yes hj
        have hm := mk_or _ (by omega) _ (by omega) hy.1
        exact ⟨mk_in hN i1 hj, by show pc (_ ||| _) = _; rw [hm.2.2, i2], hy.2.2⟩
    refine ⟨main.1, main.2.1, main.2.2, fun hlt => ?_⟩
    have hne : (mkU N ft b).1 < 2 ^ N - 1 := by
      rcases Nat.lt_or_ge (mkU N ft b).1 (2 ^ N - 1) with h | h
      · exact h
      · have e : (mkU N ft b).1 = 2 ^ N - 1 := by have := main.1; omega
        have := mk_pcM N hN
        rw [← e, main.2.1] at this
        omega
    have hg := main.2.2
    rw [gW_rec hN hne] at hg
    obtain ⟨j, j1, j2⟩ := sW_pos N hg
    rw [main.2.1] at j2
    rcases Nat.lt_or_ge (fwJ N ft b (mkU N ft b).1) N with h | h
    · exact h
    · exact absurd j2 (fwJ_no (by omega))
theorem e_lowest {N b i : Nat} {now w : Nat → Int32} {A : AS} (hN : N ≤ 6) (hC : CS now A) (hB : PB A.1) (hT : TWs N (ftB A.1 A.2.2.1) w 0) (hb : b < 6) (hi : i ≤ 2 ^ N - 1) (hj : fwJ N (ftB A.1 A.2.2.1) b i < N) : fX4_lowestGuideFor (nI N) now w (nI b) (nI i) = some (nI (fwJ N (ftB A.1 A.2.2.1) b i)) := by
  have h64 := mk_64 N hN
  have st : ∀ j, j < N → bX4_lowestGuideFor_2 (nI N) now w (nI b) (nI i) (nI j) = if (i / 2 ^ j % 2 = 0 ∧ ftB A.1 A.2.2.1 b j = true ∧ 0 < gW N (ftB A.1 A.2.2.1) (i ||| 2 ^ j)) then some (.inr (.inl (nI j))) else some (.inl (nI (j + 1))) := by
    intro j hj
    have hm2 : i / 2 ^ j % 2 < 2 := Nat.mod_lt _ (by omega)
    unfold bX4_lowestGuideFor_2 jX4_lowestGuideFor_26
    rw [if_neg (by rw [px_le (by omega) (by omega)]; omega), mk_bit (by omega) (by omega), if_neg i01, if_pos rfl]
    by_cases hc : i / 2 ^ j % 2 = 0
    · have hm := mk_or i (by omega) j (by omega) hc
      have hg := gW_le2 (ft := ftB A.1 A.2.2.1) hN (mk_in hN hi hj)
      rw [if_pos ((bit0 (by omega)).mpr hc), e_fits hC hB hb (by omega), px_bd]
      by_cases hf : ftB A.1 A.2.2.1 b j = true
      · rw [if_pos hf, if_neg i01, mk_set (by omega), px_rd (by omega) (by omega), hT _ (by omega) (mk_in hN hi hj)]
        by_cases hz : 0 < gW N (ftB A.1 A.2.2.1) (i ||| 2 ^ j)
        · rw [if_neg (by rw [n_0, px_le (by omega) (by omega)]; omega), if_pos ⟨hc, hf, hz⟩]
        · rw [if_pos (by rw [n_0, px_le (by omega) (by omega)]; omega), if_neg (fun z => hz z.2.2), n_1, nI_add]
      · rw [if_neg hf, if_pos rfl, if_neg (fun z => hf z.2.1), n_1, nI_add]
    · rw [if_neg (fun z => hc ((bit0 (by omega)).mp z)), if_neg (fun z => hc z.1), n_1, nI_add]
  unfold fX4_lowestGuideFor
  refine px_lp (fun j => nI j) (fwJ N (ftB A.1 A.2.2.1) b i) (.inl (nI (fwJ N (ftB A.1 A.2.2.1) b i))) rfl (by omega) ?_ ?_ ?_
  · intro j hq
    rw [st j (by omega), if_neg (fwJ_no hq)]
  · rw [st _ hj, if_pos (fwJ_yes hj)]
  · rfl
theorem e_lowM {N b i : Nat} {pinned stored guides w : Nat → Int32} {year : Int32} {A : AS} (hN : N ≤ 6) (hM : MS N pinned stored guides year A) (hB : PB A.1) (hT : TWs N (ftB A.1 A.2.2.1) w 0) (hb : b < 6) (hi : i ≤ 2 ^ N - 1) (hj : fwJ N (ftB A.1 A.2.2.1) b i < N) : sx_it 1000 (bX5_match_64 pinned guides w (nI i) (nI b)) (0 : Int32) = some (nI (fwJ N (ftB A.1 A.2.2.1) b i)) := by
  have h64 := mk_64 N hN
  have st : ∀ j, j < N → bX5_match_64 pinned guides w (nI i) (nI b) (nI j) = if (i / 2 ^ j % 2 = 0 ∧ ftB A.1 A.2.2.1 b j = true ∧ 0 < gW N (ftB A.1 A.2.2.1) (i ||| 2 ^ j)) then some (.inr (nI j)) else some (.inl (nI (j + 1))) := by
    intro j hj
    have hm2 : i / 2 ^ j % 2 < 2 := Nat.mod_lt _ (by omega)
    unfold bX5_match_64
    rw [e_has (by omega) (by omega), px_bd]
    by_cases hc : i / 2 ^ j % 2 = 0
    · have hm := mk_or i (by omega) j (by omega) hc
      have hg := gW_le2 (ft := ftB A.1 A.2.2.1) hN (mk_in hN hi hj)
      rw [if_neg (show ¬ i / 2 ^ j % 2 = 1 by omega), if_pos rfl, e_mayHave hN hM hB hb hj, px_bd]
      by_cases hf : ftB A.1 A.2.2.1 b j = true
      · rw [if_pos hf, if_neg i01, mk_set (by omega), px_rd (by omega) (by omega), hT _ (by omega) (mk_in hN hi hj)]
        by_cases hz : 0 < gW N (ftB A.1 A.2.2.1) (i ||| 2 ^ j)
        · rw [if_neg (fun z => by have := (bit0 (by omega)).mp z; omega), if_pos ⟨hc, hf, hz⟩]
        · rw [if_pos ((bit0 (by omega)).mpr (by omega)), if_neg (fun z => hz z.2.2), n_1, nI_add]
      · rw [if_neg hf, if_pos rfl, if_neg (fun z => hf z.2.1), n_1, nI_add]
    · rw [if_pos (show i / 2 ^ j % 2 = 1 by omega), if_neg i01, if_neg (fun z => hc z.1), n_1, nI_add]
  refine px_it (fwJ N (ftB A.1 A.2.2.1) b i) 1000 (fun j => nI j) ?_ ?_ (by omega)
  · intro j hq
    rw [st j (by omega), if_neg (fwJ_no hq)]
  · rw [st _ hj, if_pos (fwJ_yes hj)]
theorem op_match {N : Nat} {now ways pinned stored guides mways : Nat → Int32} {year : Int32} {A : AS} (h1 : 1 ≤ N) (hN : N ≤ 6) (hD : RDs N now pinned stored guides year A) (v : Int32) : ∃ r ways' mways', fX4_match (nI N) now ways v = some (r, ways') ∧ fX5_match (nI N) pinned guides mways v = some (r, mways') := by
  have hB := hD.2.2.1.1
  have h64 := mk_64 N hN
  obtain ⟨w, w1, w2⟩ := e_countWays (ways := ways) h1 hN hD.1 hB
  obtain ⟨m, m1, m2⟩ := e_setWays (ways := mways) h1 hN hD.2.1 hB
  have g0 := gW_le2 (ft := ftB A.1 A.2.2.1) hN (Nat.zero_le (2 ^ N - 1))
  have hs1 : nI N - (1 : Int32) = nI (N - 1) := by rw [n_1, px_sub h1]
  unfold fX4_match fX5_match
  by_cases hv : v = (-1 : Int32)
  · subst hv
    have e : fX5_in (-1 : Int32) (-1 : Int32) (nI N - (1 : Int32)) = some 1 := by
      unfold fX5_in
      rw [hs1, if_neg (by decide), if_neg]
      intro z
      have : (nI (N - 1)).toInt < (-1 : Int32).toInt := Int32.lt_iff_toInt_lt.mp z
      rw [nI_toInt (by omega), show (-1 : Int32).toInt = -1 from by decide] at this
      omega
    rw [if_pos rfl, e, px_bd, if_neg i01, m1, px_bd]
    unfold jX4_match_18 jX5_match_33
    rw [w1, px_bd, if_pos rfl, if_pos (by decide), if_neg (by decide), n_0, px_rd (by omega) (by omega), px_rd (by omega) (by omega), w2 0 (by omega) (by omega), m2 0 (by omega) (by omega)]
    exact ⟨_, _, _, rfl, rfl⟩
  · rw [if_neg hv]
    rcases e_peakQ h1 hN v with ⟨p, hp, rfl⟩ | ⟨q1, q2⟩
    · have e : fX5_in (nI p) (-1 : Int32) (nI N - (1 : Int32)) = some 1 := by
        unfold fX5_in
        rw [hs1, if_neg, if_neg (by rw [px_lt (by omega) (by omega)]; omega)]
        intro z
        have : (nI p).toInt < (-1 : Int32).toInt := Int32.lt_iff_toInt_lt.mp z
        rw [nI_toInt (by omega), show (-1 : Int32).toInt = -1 from by decide] at this
        omega
      rw [e_isPeak hN hp, e, px_bd, px_bd, if_neg (show ¬ nI 1 = 0 by decide), if_neg i01, m1, px_bd]
      unfold jX4_match_18 jX5_match_33
      rw [w1, px_bd, if_neg hv, if_neg (show ¬ nI p < 0 by rw [px_lt0 (by omega)]; exact id), n_0, px_rd (by omega) (by omega), px_rd (by omega) (by omega), w2 0 (by omega) (by omega), m2 0 (by omega) (by omega)]
      by_cases hz : gW N (ftB A.1 A.2.2.1) 0 = 0
      · rw [hz, if_pos rfl, if_pos rfl, if_pos (by rw [px_le (by omega) (by omega)]; omega)]
        exact ⟨_, _, _, rfl, rfl⟩
      · have hz2 : ¬ nI (gW N (ftB A.1 A.2.2.1) 0) = nI 0 := fun z => hz ((px_eq (by omega) (by omega)).mp z)
        rw [if_neg hz2, if_neg hz2]
        have ok := mkU_ok hN (Nat.pos_of_ne_zero hz)
        have fC : fX4_guideInFirstWay (nI N) now w (nI p) = some (nI (mkU N (ftB A.1 A.2.2.1) (p + 1)).2) := by
          unfold fX4_guideInFirstWay
          obtain ⟨r, r1, r2⟩ := px_inv0 (B := bX4_guideInFirstWay_8 (nI N) now w (nI p)) (n := 1000) (s0 := ((0 : Int32), (-4 : Int32), (0 : Int32))) (R := fun r => r = .inr (nI (mkU N (ftB A.1 A.2.2.1) (p + 1)).2)) (fun b x => x.1 = nI (mkU N (ftB A.1 A.2.2.1) b).1 ∧ (1 ≤ b → x.2.1 = nI (mkU N (ftB A.1 A.2.2.1) b).2) ∧ x.2.2 = nI b) (p + 1) (by omega) ⟨rfl, fun z => by omega, rfl⟩ (by
            rintro b ⟨x, y, u⟩ hb ⟨q1, q2, q3⟩
            dsimp only at q1 q2 q3
            subst q1
            subst q3
            obtain ⟨i1, i2, i3, i4⟩ := ok b (by omega)
            have hj := i4 (by omega)
            refine ⟨(nI (mkU N (ftB A.1 A.2.2.1) (b + 1)).1, nI (mkU N (ftB A.1 A.2.2.1) (b + 1)).2, nI (b + 1)), ?_, rfl, fun _ => rfl, rfl⟩
            unfold bX4_guideInFirstWay_8
            dsimp only
            rw [if_neg (by rw [px_lt (by omega) (by omega)]; omega), e_lowest hN hD.1 hB w2 (by omega) i1 hj, px_bd, if_neg (nI_ne4 (by omega)), mk_set (by omega), px_slt, n_1, nI_add]
            rfl) (by
            rintro ⟨x, y, u⟩ ⟨q1, q2, q3⟩
            dsimp only at q1 q2 q3
            subst q3
            refine ⟨_, ?_, rfl⟩
            unfold bX4_guideInFirstWay_8
            dsimp only
            rw [if_pos (by rw [px_lt (by omega) (by omega)]; omega), q2 (by omega)])
          rw [r1, px_bd, r2]
        have fM : sx_it 1000 (bX5_match_56 pinned guides m (nI p)) (nI 0, nI 0, nI 0) = some (nI (mkU N (ftB A.1 A.2.2.1) (p + 1)).2) := by
          obtain ⟨r, r1, r2⟩ := px_inv0 (B := bX5_match_56 pinned guides m (nI p)) (n := 1000) (s0 := (nI 0, nI 0, nI 0)) (R := fun r => r = (nI (mkU N (ftB A.1 A.2.2.1) (p + 1)).2)) (fun b x => x.1 = nI (mkU N (ftB A.1 A.2.2.1) b).1 ∧ (1 ≤ b → x.2.1 = nI (mkU N (ftB A.1 A.2.2.1) b).2) ∧ x.2.2 = nI b) (p + 1) (by omega) ⟨rfl, fun z => by omega, rfl⟩ (by
            rintro b ⟨x, y, u⟩ hb ⟨q1, q2, q3⟩
            dsimp only at q1 q2 q3
            subst q1
            subst q3
            obtain ⟨i1, i2, i3, i4⟩ := ok b (by omega)
            have hj := i4 (by omega)
            refine ⟨(nI (mkU N (ftB A.1 A.2.2.1) (b + 1)).1, nI (mkU N (ftB A.1 A.2.2.1) (b + 1)).2, nI (b + 1)), ?_, rfl, fun _ => rfl, rfl⟩
            unfold bX5_match_56
            dsimp only
            rw [if_neg (by rw [px_lt (by omega) (by omega)]; omega), e_lowM hN hD.2.1 hB m2 (by omega) i1 hj, px_bd, mk_set (by omega), px_slt, n_1, nI_add]
            rfl) (by
            rintro ⟨x, y, u⟩ ⟨q1, q2, q3⟩
            dsimp only at q1 q2 q3
            subst q3
            refine ⟨_, ?_, rfl⟩
            unfold bX5_match_56
            dsimp only
            rw [if_pos (by rw [px_lt (by omega) (by omega)]; omega), q2 (by omega)])
          rw [r1, r2]
        rw [fC, fM, px_bd, px_bd]
        exact ⟨_, _, _, rfl, rfl⟩
    · have e : fX5_in v (-1 : Int32) (nI N - (1 : Int32)) = some 0 := by
        rw [hs1]
        have z := q2
        unfold fX5_isPeak at z
        rcases px_rng v 0 (N - 1) (by omega) (by omega) with h | h | ⟨j, j1, j2, rfl⟩
        · refine e_in_bad (Or.inl ?_)
          rw [Int32.lt_iff_toInt_lt] at h ⊢
          rw [nI_toInt (by omega)] at h
          rw [show (-1 : Int32).toInt = -1 from by decide]
          have : v.toInt ≠ -1 := fun z => hv (Int32.toInt_inj.mp (by rw [z]; decide))
          omega
        · exact e_in_bad (Or.inr h)
        · have := e_mPeak (N := N) (p := j) hN (by omega)
          rw [q2] at this
          exact absurd this (by decide)
      rw [q1, px_bd, if_pos rfl, e, px_bd, if_pos rfl]
      exact ⟨_, _, _, rfl, rfl⟩

/-! arguments that are asked for -/
theorem px_rng (v : Int32) (a b : Nat) (ha : a < 2147483648) (hb : b < 2147483648) : v < nI a ∨ nI b < v ∨ ∃ j, a ≤ j ∧ j ≤ b ∧ v = nI j := by
  by_cases h1 : v < nI a
  · exact Or.inl h1
  · by_cases h2 : nI b < v
    · exact Or.inr (Or.inl h2)
    · right; right
      rw [Int32.lt_iff_toInt_lt, nI_toInt (by omega)] at h1 h2
      obtain ⟨j, hj, e⟩ := nI_of (x := v) (by rw [Int32.lt_iff_toInt_lt, show (0 : Int32).toInt = 0 from rfl]; omega)
      subst e
      rw [nI_toInt hj] at h1 h2
      exact ⟨j, by omega, by omega, rfl⟩
theorem e_in_bad {v a b : Int32} (h : v < a ∨ b < v) : fX5_in v a b = some (0 : Int32) := by
  unfold fX5_in
  by_cases h1 : v < a
  · rw [if_pos h1]
  · rw [if_neg h1, if_pos (h.resolve_left h1)]
theorem e_in {j a b : Nat} (hj : j < 2147483648) (hb : b < 2147483648) (h1 : a ≤ j) (h2 : j ≤ b) : fX5_in (nI j) (nI a) (nI b) = some (1 : Int32) := by
  unfold fX5_in
  simp (disch := omega) only [px_lt]
  rw [if_neg (by omega), if_neg (by omega)]
theorem e_peakQ {N : Nat} (h1 : 1 ≤ N) (hN : N ≤ 6) (v : Int32) : (∃ p, p < N ∧ v = nI p) ∨ (fX1_isPeak (nI N) v = some (0 : Int32) ∧ fX5_isPeak (nI N) v = some (0 : Int32)) := by
  rcases px_rng v 0 (N - 1) (by omega) (by omega) with h | h | ⟨j, -, h, rfl⟩
  · right
    have h : v < (0 : Int32) := h
    refine ⟨?_, ?_⟩
    · unfold fX1_isPeak; rw [if_pos h]
    · unfold fX5_isPeak; rw [e_in_bad (Or.inl h)]; rfl
  · right
    have h3 : nI N ≤ v := by
      rw [Int32.lt_iff_toInt_lt, nI_toInt (by omega)] at h
      rw [Int32.le_iff_toInt_le, nI_toInt (by omega)]
      omega
    refine ⟨?_, ?_⟩
    · unfold fX1_isPeak
      split <;> first | rfl | rw [if_pos h3]
    · unfold fX5_isPeak; rw [n_1, px_sub (by omega), e_in_bad (Or.inr h)]; rfl
  · exact Or.inl ⟨j, by omega, rfl⟩
theorem e_mPeak {N p : Nat} (hN : N ≤ 6) (hp : p < N) : fX5_isPeak (nI N) (nI p) = some (1 : Int32) := by
  unfold fX5_isPeak
  rw [n_1, px_sub (by omega), n_0, e_in (by omega) (by omega) (by omega) (by omega)]
  rfl
theorem e_trimQ (v : Int32) : (∃ t, t < 5 ∧ v = nI t) ∨ (fX4_isTrimming v = some (0 : Int32) ∧ fX5_isTrimming v = some (0 : Int32)) := by
  rcases px_rng v 0 4 (by omega) (by omega) with h | h | ⟨j, -, h, rfl⟩
  · right
    have h : v < (0 : Int32) := h
    refine ⟨?_, ?_⟩
    · unfold fX4_isTrimming; rw [if_pos h]
    · unfold fX5_isTrimming; rw [e_in_bad (Or.inl h)]; rfl
  · right
    have h3 : (5 : Int32) ≤ v := by
      rw [Int32.lt_iff_toInt_lt, nI_toInt (by omega)] at h
      rw [n_5, Int32.le_iff_toInt_le, nI_toInt (by omega)]
      omega
    refine ⟨?_, ?_⟩
    · unfold fX4_isTrimming
      split <;> first | rfl | rw [if_pos h3]
    · unfold fX5_isTrimming; rw [n_4, e_in_bad (Or.inr h)]; rfl
  · exact Or.inl ⟨j, by omega, rfl⟩
theorem e_mTrim {t : Nat} (ht : t < 5) : fX5_isTrimming (nI t) = some (1 : Int32) := by
  unfold fX5_isTrimming
  rw [n_0, n_4, e_in (by omega) (by omega) (by omega) (by omega)]
  rfl
theorem e_pinsQ (v : Int32) : (∃ n, 1 ≤ n ∧ n ≤ 20 ∧ v = nI n) ∨ (fX4_isPins v = some (0 : Int32) ∧ fX5_in v (1 : Int32) (20 : Int32) = some (0 : Int32)) := by
  rcases px_rng v 1 20 (by omega) (by omega) with h | h | ⟨j, h1, h, rfl⟩
  · right
    have h : v < (1 : Int32) := h
    refine ⟨?_, e_in_bad (Or.inl h)⟩
    unfold fX4_isPins; rw [if_pos h]
  · right
    have h : (20 : Int32) < v := h
    refine ⟨?_, e_in_bad (Or.inr h)⟩
    unfold fX4_isPins
    split <;> first | rfl | rw [if_pos h]
  · exact Or.inl ⟨j, h1, h, rfl⟩
theorem e_isPins {n : Nat} (h1 : 1 ≤ n) (h2 : n ≤ 20) : fX4_isPins (nI n) = some (1 : Int32) := by
  unfold fX4_isPins
  simp (disch := omega) only [n_0, n_1, n_2, n_3, n_4, n_5, n_6, n_7, n_8, n_9, n_10, n_12, n_16, n_20, n_30, n_31, n_32, n_35, n_36, n_41, n_42, n_44, n_48, n_57, n_59, n_60, n_63, n_64, n_99, n_111, n_112, n_115, n_119, n_126, n_200, n_294, n_512, n_999, n_9999, n_1048576, px_bd, px_slt, px_rd, px_wr, px_cp, px_nz, px_lt, px_le, px_eq, nI_add, pk_mul, px_sub, px_or, px_and, px_xor, px_shl1, px_shr]
  rw [if_neg (by omega), if_neg (by omega)]
theorem e_placeQ {N : Nat} (h1 : 1 ≤ N) (hN : N ≤ 6) (v w : Int32) : (∃ p t, p < N ∧ t < 5 ∧ v = nI p ∧ w = nI t) ∨ (fX4_isPlace (nI N) v w = some (0 : Int32) ∧ (fX5_isPeak (nI N) v = some (0 : Int32) ∨ (fX5_isPeak (nI N) v = some (1 : Int32) ∧ fX5_isTrimming w = some (0 : Int32)))) := by
  rcases e_peakQ h1 hN v with ⟨p, hp, rfl⟩ | ⟨q1, q2⟩
  · rcases e_trimQ w with ⟨t, ht, rfl⟩ | ⟨q3, q4⟩
    · exact Or.inl ⟨p, t, hp, ht, rfl, rfl⟩
    · right
      refine ⟨?_, Or.inr ⟨e_mPeak hN hp, q4⟩⟩
      unfold fX4_isPlace
      rw [e_isPeak hN hp, px_bd, q3]
      rfl
  · right
    refine ⟨?_, Or.inl q2⟩
    unfold fX4_isPlace
    rw [q1]
    rfl
theorem e_isPlace {N p t : Nat} (hN : N ≤ 6) (hp : p < N) (ht : t < 5) : fX4_isPlace (nI N) (nI p) (nI t) = some (1 : Int32) := by
  unfold fX4_isPlace
  rw [e_isPeak hN hp, px_bd, e_isTrimming ht]
  rfl
theorem e_01Q (v : Int32) : v = nI 0 ∨ v = nI 1 ∨ (fX4_isZeroOrOne v = some (0 : Int32) ∧ fX5_in v (0 : Int32) (1 : Int32) = some (0 : Int32)) := by
  rcases px_rng v 0 1 (by omega) (by omega) with h | h | ⟨j, h1, h, rfl⟩
  · right; right
    refine ⟨?_, e_in_bad (Or.inl h)⟩
    unfold fX4_isZeroOrOne
    rw [if_neg, if_neg]
    · rintro rfl; exact absurd h (by decide)
    · rintro rfl; exact absurd h (by decide)
  · right; right
    refine ⟨?_, e_in_bad (Or.inr h)⟩
    unfold fX4_isZeroOrOne
    rw [if_neg, if_neg]
    · rintro rfl; exact absurd h (by decide)
    · rintro rfl; exact absurd h (by decide)
  · have : j = 0 ∨ j = 1 := by omega
    rcases this with rfl | rfl
    · exact Or.inl rfl
    · exact Or.inr (Or.inl rfl)
theorem e_zo0 : fX4_isZeroOrOne (nI 0) = some (1 : Int32) := by decide +kernel
theorem e_zo1 : fX4_isZeroOrOne (nI 1) = some (1 : Int32) := by decide +kernel
theorem e_in01_0 : fX5_in (nI 0) (0 : Int32) (1 : Int32) = some (1 : Int32) := by decide +kernel
theorem e_in01_1 : fX5_in (nI 1) (0 : Int32) (1 : Int32) = some (1 : Int32) := by decide +kernel
theorem i01 : ¬ (1 : Int32) = 0 := by decide
/-! the two sides, piece by piece -/
def RDs (N : Nat) (now pinned stored guides : Nat → Int32) (year : Int32) (A : AS) : Prop := CS now A ∧ MS N pinned stored guides year A ∧ PZ N A.1 ∧ A.2.2.2 ≤ 999
def RUn (m N : Nat) (cells : Nat → Int32) (held next : Int32) (ahead : Nat → Int32) (many : Int32) : Prop := ∃ (u nx : Nat) (U : Nat → AS), held = nI u ∧ next = nI nx ∧ many = nI u ∧ u ≤ m ∧ nx < m ∧ UR m cells nx u U ∧ UM N ahead u U ∧ ∀ j, j < u → PZ N (U j).1 ∧ (U j).2.2.2 ≤ 999
def RRg (N : Nat) (kd : Nat → Nat) (Wn : Nat) (wv : Nat → Nat) (pk wt : Int32) (kinds heights winds : Nat → Int32) (many windMany : Int32) (kindOf highs mwinds : Nat → Int32) : Prop := 1 ≤ N ∧ N ≤ 6 ∧ Wn ≤ 12 ∧ pk = nI N ∧ many = nI N ∧ wt = nI Wn ∧ windMany = nI Wn ∧ KI N kinds kd ∧ KI N kindOf kd ∧ (∀ p, p < N → heights p = highs p) ∧ WI Wn winds wv ∧ WI Wn mwinds wv
theorem RUn_push {N : Nat} {cells now pinned stored guides ahead : Nat → Int32} {held next many year : Int32} {A : AS} (hN : N ≤ 6) (hD : RDs N now pinned stored guides year A) (hU : RUn 8 N cells held next ahead many) : ∃ held' next' cells' ahead', fX0_layBy 336 (8 : Int32) held next cells now = some (held', next', cells') ∧ fX5_notes year many pinned stored guides ahead = some (held', ahead') ∧ RUn 8 N cells' held' next' ahead' held' := by
  obtain ⟨u, nx, U, rfl, rfl, rfl, h1, h2, h3, h4, h5⟩ := hU
  obtain ⟨d1, d2, d3, d4⟩ := hD
  obtain ⟨w, nx', w1, w2, w3⟩ := e_layBy8 (n := 336) rfl h2 h1 h3 d1
  obtain ⟨ah, a1, a2⟩ := e_notes hN d2 h1 h4
  refine ⟨_, _, _, _, w1, a1, pushN 8 u, nx', pushU 8 u U A, rfl, rfl, rfl, ?_, w2, w3, a2, fun j hj => ?_⟩
  · unfold pushN; split <;> omega
  · unfold pushN at hj
    unfold pushU
    by_cases h : u = 8
    · rw [if_pos h] at hj ⊢
      by_cases e : j + 1 = 8
      · rw [if_pos e]; exact ⟨d3, d4⟩
      · rw [if_neg e]; exact h5 _ (by omega)
    · rw [if_neg h] at hj ⊢
      by_cases e : j = u
      · rw [if_pos e]; exact ⟨d3, d4⟩
      · rw [if_neg e]; exact h5 _ (by omega)
/-- one pile of pins, and what is in the store of a trimming, anew -/
def setA (A : AS) (k n t : Nat) (x : Int32) : AS := ((fun j => if j = k then n else A.1 j), (fun s => if s = t then x else A.2.1 s), A.2.2)
theorem CS_set {c : Nat → Int32} {A : AS} {k n t : Nat} {x : Int32} (hk : k < 30) (ht : t < 5) (h : CS c A) : CS (upd (upd c k (nI n)) (30 + t) x) (setA A k n t x) := by
  obtain ⟨h1, h2, h3, h4⟩ := h
  refine ⟨fun j hj => ?_, fun s hs => ?_, fun p hp => ?_, ?_⟩
  · rw [px_upd_n (by omega)]
    show upd c k (nI n) j = nI (if j = k then n else A.1 j)
    by_cases e : j = k
    · subst e; rw [px_upd_s, if_pos rfl]
    · rw [px_upd_n e, if_neg e]; exact h1 j hj
  · show _ = if s = t then x else A.2.1 s
    by_cases e : s = t
    · subst e; rw [px_upd_s, if_pos rfl]
    · rw [px_upd_n (by omega), px_upd_n (by omega), if_neg e]; exact h2 s hs
  · rw [px_upd_n (by omega), px_upd_n (by omega)]; exact h3 p hp
  · rw [px_upd_n (by omega), px_upd_n (by omega)]; exact h4
theorem MS_set {N : Nat} {pinned stored guides : Nat → Int32} {year : Int32} {A : AS} {k n t : Nat} {x : Int32} (h : MS N pinned stored guides year A) : MS N (upd pinned k (nI n)) (upd stored t x) guides year (setA A k n t x) := by
  obtain ⟨h1, h2, h3, h4⟩ := h
  refine ⟨fun j hj => ?_, fun s hs => ?_, h3, h4⟩
  · show _ = nI (if j = k then n else A.1 j)
    by_cases e : j = k
    · subst e; rw [px_upd_s, if_pos rfl]
    · rw [px_upd_n e, if_neg e]; exact h1 j hj
  · show _ = if s = t then x else A.2.1 s
    by_cases e : s = t
    · subst e; rw [px_upd_s, if_pos rfl]
    · rw [px_upd_n e, if_neg e]; exact h2 s hs
theorem PZ_set {N k n : Nat} {P : Nat → Nat} (hk : k < 5 * N) (hn : n ≤ 20) (h : PZ N P) : PZ N (fun j => if j = k then n else P j) := by
  refine ⟨fun j hj => ?_, fun j h1 h2 => ?_⟩
  · dsimp only
    split
    · exact hn
    · exact h.1 j hj
  · dsimp only
    rw [if_neg (by omega)]
    exact h.2 j h1 h2
/-- the store as it was -/
theorem setA_same (A : AS) (k n t : Nat) : setA A k n t (A.2.1 t) = ((fun j => if j = k then n else A.1 j), A.2) := by
  unfold setA
  congr 2
  funext s
  by_cases e : s = t
  · rw [if_pos e, e]
  · rw [if_neg e]
theorem e_putOn {c : Nat → Int32} {A : AS} {p t n : Nat} (hp : p < 6) (ht : t < 5) (h : CS c A) : fX3_putOn c (nI p) (nI t) (nI n) = some (upd (upd c (5 * p + t) (nI n)) (30 + t) (A.2.1 t - 1)) := by
  unfold fX3_putOn
  rw [e_setPins c hp ht, px_bd, e_inStore _ ht, px_bd, px_upd_n (by omega), h.2.1 t ht, e_setStore _ ht]
  rfl
theorem e_takeOff {c : Nat → Int32} {A : AS} {p t : Nat} (hp : p < 6) (ht : t < 5) (h : CS c A) : fX3_takeOff c (nI p) (nI t) = some (upd (upd c (5 * p + t) (nI 0)) (30 + t) (A.2.1 t + 1)) := by
  unfold fX3_takeOff
  rw [n_0, e_setPins c hp ht, px_bd, e_inStore _ ht, px_bd, px_upd_n (by omega), h.2.1 t ht, e_setStore _ ht]
  rfl
theorem e_puts {N : Nat} {pinned stored guides : Nat → Int32} {year : Int32} {A : AS} {p t : Nat} (hp : p < 6) (ht : t < 5) (h : MS N pinned stored guides year A) (x : Int32) : fX5_puts pinned stored (nI p) (nI t) x = some (upd pinned (5 * p + t) x, upd stored t (A.2.1 t - 1)) := by
  unfold fX5_puts
  rw [n_5]
  simp (disch := omega) only [pk_mul, nI_add, px_wr, px_rd, h.2.1 t ht]
theorem e_takesOff {N : Nat} {pinned stored guides : Nat → Int32} {year : Int32} {A : AS} {p t : Nat} (hp : p < 6) (ht : t < 5) (h : MS N pinned stored guides year A) : fX5_takesOff pinned stored (nI p) (nI t) = some (upd pinned (5 * p + t) (nI 0), upd stored t (A.2.1 t + 1)) := by
  unfold fX5_takesOff
  rw [n_5, n_0]
  simp (disch := omega) only [pk_mul, nI_add, px_wr, px_rd, h.2.1 t ht]
theorem e_canPut {c : Nat → Int32} {A : AS} {p t : Nat} (hp : p < 6) (ht : t < 5) (h : CS c A) (hB : PB A.1) : fX3_canPut c (nI p) (nI t) = some (if A.1 (5 * p + t) = 0 ∧ ¬ A.2.1 t ≤ 0 then (1 : Int32) else 0) := by
  have := hB (5 * p + t) (by omega)
  unfold fX3_canPut
  rw [e_isTrimming ht, px_bd, if_neg (show ¬ nI 1 = (0 : Int32) by decide), e_pinsOn c hp ht, px_bd, h.1 (5 * p + t) (by omega), n_30, nI_add, px_rd (by omega) (by omega), h.2.1 t ht]
  rw [show (0 : Int32) = nI 0 from rfl]
  simp (disch := omega) only [px_eq]
  by_cases h1 : A.1 (5 * p + t) = 0
  · rw [if_pos h1]
    by_cases h2 : A.2.1 t ≤ nI 0
    · rw [if_pos h2, if_neg (fun z => z.2 h2)]
    · rw [if_neg h2, if_pos ⟨h1, h2⟩]
  · rw [if_neg h1, if_neg (fun z => h1 z.1)]
theorem e_mayPut {N : Nat} {pinned stored guides : Nat → Int32} {year : Int32} {A : AS} {p t : Nat} (hp : p < 6) (ht : t < 5) (h : MS N pinned stored guides year A) (hB : PB A.1) : fX5_mayPut pinned stored (nI p) (nI t) = some (if A.1 (5 * p + t) = 0 ∧ ¬ A.2.1 t ≤ 0 then (1 : Int32) else 0) := by
  have := hB (5 * p + t) (by omega)
  unfold fX5_mayPut
  rw [show (0 : Int32) = nI 0 from rfl, n_5]
  simp (disch := omega) only [pk_mul, nI_add, px_rd, h.2.1 t ht, h.1 (5 * p + t) (by omega), px_eq]
  by_cases h1 : A.1 (5 * p + t) = 0
  · rw [if_pos h1]
    by_cases h2 : A.2.1 t ≤ nI 0
    · rw [if_pos h2, if_neg (fun z => z.2 h2)]
    · rw [if_neg h2, if_pos ⟨h1, h2⟩]
  · rw [if_neg h1, if_neg (fun z => h1 z.1)]

/-! put, take, pin, pass, undo, keep, back -/
theorem op_put {N : Nat} {now pinned stored guides cells ahead : Nat → Int32} {held next many year : Int32} {A : AS} (h1 : 1 ≤ N) (hN : N ≤ 6) (hD : RDs N now pinned stored guides year A) (hU : RUn 8 N cells held next ahead many) (v w z : Int32) : ∃ r A' now' pinned' stored' held' next' cells' ahead', fX4_put (nI N) now (8 : Int32) held next cells v w z = some (r, now', held', next', cells') ∧ (∃ many', fX5_put (nI N) year many pinned stored guides ahead v w z = some (r, many', pinned', stored', ahead') ∧ RUn 8 N cells' held' next' ahead' many') ∧ RDs N now' pinned' stored' guides year A' := by
  unfold fX4_put fX5_put
  rcases e_placeQ h1 hN v w with ⟨p, t, hp, ht, rfl, rfl⟩ | ⟨q1, q2⟩
  · rw [e_isPlace hN hp ht, e_mPeak hN hp, px_bd, px_bd, if_neg i01, if_neg i01, e_mTrim ht, px_bd, if_neg i01]
    rcases e_pinsQ z with ⟨n, n1, n2, rfl⟩ | ⟨q1, q2⟩
    · rw [e_isPins n1 n2, px_bd, if_neg i01, n_1, n_20, e_in (by omega) (by omega) n1 n2, px_bd, if_neg i01, e_canPut (by omega) ht hD.1 hD.2.2.1.1, px_bd, e_mayPut (by omega) ht hD.2.1 hD.2.2.1.1, px_bd]
      by_cases hc : A.1 (5 * p + t) = 0 ∧ ¬ A.2.1 t ≤ 0
      · rw [if_pos hc, if_neg i01, if_neg i01]
        obtain ⟨held', next', cells', ahead', u1, u2, u3⟩ := RUn_push hN hD hU
        have hC' := CS_set (k := 5 * p + t) (n := n) (x := A.2.1 t - 1) (by omega) ht hD.1
        have hM' := MS_set (k := 5 * p + t) (n := n) (t := t) (x := A.2.1 t - 1) hD.2.1
        have hZ := PZ_set (N := N) (k := 5 * p + t) (by omega) n2 hD.2.2.1
        rw [u1, u2, px_bd, px_bd]
        dsimp only
        rw [e_putOn (by omega) ht hD.1, px_bd, e_puts (by omega) ht hD.2.1, px_bd]
        dsimp only
        rw [e_looksOf hC'.1 hZ.1 (by omega), px_bd, e_looks hM'.1 hZ.1 (by omega), px_bd]
        exact ⟨_, _, _, _, _, _, _, _, _, rfl, ⟨_, rfl, u3⟩, hC', hM', hZ, hD.2.2.2⟩
      · rw [if_neg hc, if_pos rfl, if_pos rfl]
        exact ⟨_, A, _, _, _, _, _, _, _, rfl, ⟨_, rfl, hU⟩, hD⟩
    · rw [q1, q2, px_bd, px_bd, if_pos rfl, if_pos rfl]
      exact ⟨_, A, _, _, _, _, _, _, _, rfl, ⟨_, rfl, hU⟩, hD⟩
  · rw [q1, px_bd, if_pos rfl]
    rcases q2 with q2 | ⟨q2, q3⟩
    · rw [q2, px_bd, if_pos rfl]
      exact ⟨_, A, _, _, _, _, _, _, _, rfl, ⟨_, rfl, hU⟩, hD⟩
    · rw [q2, px_bd, if_neg i01, q3, px_bd, if_pos rfl]
      exact ⟨_, A, _, _, _, _, _, _, _, rfl, ⟨_, rfl, hU⟩, hD⟩

/-! ask -/
def wU (set : Nat) (P : Nat → Nat) (t : Nat) : Nat → Nat
  | 0 => 0
  | p + 1 => wU set P t p + if set / 2 ^ p % 2 = 1 ∧ P (5 * p + t) ≠ 0 then 1 else 0
def bU (set : Nat) : Nat → Nat
  | 0 => 0
  | p + 1 => bU set p + set / 2 ^ p % 2
theorem wU_le (set : Nat) (P : Nat → Nat) (t : Nat) : ∀ n, wU set P t n ≤ bU set n
  | 0 => Nat.le_refl 0
  | n + 1 => by
    have := wU_le set P t n
    unfold wU bU
    split <;> omega
theorem bU_mono (set : Nat) {n : Nat} : ∀ j, bU set n ≤ bU set (n + j)
  | 0 => Nat.le_refl _
  | j + 1 => Nat.le_trans (bU_mono set j) (Nat.le_add_right _ _)
theorem bU_6 (set : Nat) : bU set 6 = pc set := by
  unfold pc
  show 0 + set / 2 ^ 0 % 2 + set / 2 ^ 1 % 2 + set / 2 ^ 2 % 2 + set / 2 ^ 3 % 2 + set / 2 ^ 4 % 2 + set / 2 ^ 5 % 2 = _
  simp only [Nat.pow_zero, Nat.div_one, Nat.reducePow, Nat.zero_add]
theorem wU_pc {set : Nat} {P : Nat → Nat} {t N : Nat} (hN : N ≤ 6) : wU set P t N ≤ pc set := by
  rw [← bU_6]
  have h := bU_mono set (n := N) (6 - N)
  rw [show N + (6 - N) = 6 by omega] at h
  exact Nat.le_trans (wU_le set P t N) h
def gpN (set : Nat) (P : Nat → Nat) (N t : Nat) : Nat := if wU set P t N < pc set - wU set P t N then pc set - wU set P t N else wU set P t N
theorem gpN_le {set : Nat} {P : Nat → Nat} {t N : Nat} (hN : N ≤ 6) : gpN set P N t ≤ 6 := by
  have := wU_pc (set := set) (P := P) (t := t) hN
  have := pc_le set
  unfold gpN
  split <;> omega
theorem e_gpC {N set t : Nat} {now : Nat → Int32} {P : Nat → Nat} (hN : N ≤ 6) (hP : PI now P) (hB : PB P) (hs : set < 64) (ht : t < 5) : fX4_greaterPart (nI N) now (nI set) (nI t) = some (nI (gpN set P N t)) := by
  have h1 := wU_pc (set := set) (P := P) (t := t) hN
  have h2 := pc_le set
  unfold fX4_greaterPart
  refine px_lp (fun p => (nI (wU set P t p), nI p)) N (nI (wU set P t N)) rfl (by omega) ?_ ?_ ?_
  · intro p hp
    have hd : set / 2 ^ p < 2147483648 := Nat.lt_of_le_of_lt (Nat.div_le_self _ _) (by omega)
    have hm : set / 2 ^ p % 2 < 2 := Nat.mod_lt _ (by omega)
    unfold bX4_greaterPart_5
    dsimp only
    rw [if_neg (by rw [px_le (by omega) (by omega)]; omega), n_31, px_and, px_shr (by omega) (by omega), n_1, px_and, Nat.and_one_is_mod, e_isOn hP hB (by omega) ht, px_bd, nI_add, nI_add]
    show _ = some (Sum.inl (nI (wU set P t p + if set / 2 ^ p % 2 = 1 ∧ P (5 * p + t) ≠ 0 then 1 else 0), nI (p + 1)))
    by_cases h : set / 2 ^ p % 2 = 1
    · rw [if_pos (by rw [h])]
      by_cases h2 : P (5 * p + t) = 0
      · rw [if_pos h2, if_pos (by decide), if_neg (fun z => z.2 h2)]; rfl
      · rw [if_neg h2, if_neg (by decide), if_pos ⟨h, h2⟩]
    · rw [if_neg (by rw [px_eq (by omega) (by omega)]; exact h), if_neg (fun z => h z.1)]; rfl
  · unfold bX4_greaterPart_5
    dsimp only
    rw [if_pos (by rw [px_le (by omega) (by omega)]; omega)]
  · rw [e_bitCount set hs, px_bd, px_sub h1]
    unfold gpN
    by_cases h : wU set P t N < pc set - wU set P t N
    · rw [if_pos h, if_pos (by rw [px_lt (by omega) (by omega)]; exact h)]
    · rw [if_neg h, if_neg (by rw [px_lt (by omega) (by omega)]; exact h)]
theorem e_gpM {N set t : Nat} {pinned : Nat → Int32} {P : Nat → Nat} (hN : N ≤ 6) (hP : PI pinned P) (hB : PB P) (hs : set < 64) (ht : t < 5) {τ : Type} (Fn : Int32 → Option τ) : ((sx_it 1000 (bX5_ask_75 (nI N) pinned (nI set) (nI t)) ((0 : Int32), (0 : Int32))).bind fun w14 => (fX5_bits (nI set)).bind fun x15 => (fX5_greater w14 (x15 - w14)).bind Fn) = Fn (nI (gpN set P N t)) := by
  have h1 := wU_pc (set := set) (P := P) (t := t) hN
  have h2 := pc_le set
  refine px_lp (fun p => (nI (wU set P t p), nI p)) N (nI (wU set P t N)) rfl (by omega) ?_ ?_ ?_
  · intro p hp
    have hl := lk_lt P p
    have hk := lk_bit P p ht
    unfold bX5_ask_75
    dsimp only
    rw [if_neg (by rw [px_le (by omega) (by omega)]; omega), e_has (by omega) (by omega), px_bd, e_looks hP hB (by omega), px_bd, e_has (by omega) (by omega), px_bd, px_slt, px_slt, hk]
    rw [show nI p + 1 = nI (p + 1) from nI_1 p, show nI (wU set P t p) + 1 = nI (wU set P t p + 1) from nI_1 _, show nI (wU set P t p) + 0 = nI (wU set P t p + 0) from nI_add _ 0]
    show _ = some (Sum.inl (nI (wU set P t p + if set / 2 ^ p % 2 = 1 ∧ P (5 * p + t) ≠ 0 then 1 else 0), nI (p + 1)))
    by_cases h : set / 2 ^ p % 2 = 1
    · rw [if_pos h, if_neg i01]
      by_cases h2 : P (5 * p + t) = 0
      · rw [if_pos h2, if_pos (show (if (0 : Nat) = 1 then (1 : Int32) else 0) = 0 by decide), if_neg (fun z => z.2 h2)]
      · rw [if_neg h2, if_pos rfl, if_neg i01, if_pos ⟨h, h2⟩]
    · rw [if_neg h, if_pos rfl, if_neg (fun z => h z.1)]
  · unfold bX5_ask_75
    dsimp only
    rw [if_pos (by rw [px_le (by omega) (by omega)]; omega)]
  · rw [e_bits set hs, px_bd, px_sub h1]
    unfold fX5_greater gpN
    by_cases h : wU set P t N < pc set - wU set P t N
    · rw [if_pos h, if_pos (by rw [px_le (by omega) (by omega)]; omega)]
      rfl
    · rw [if_neg h]
      by_cases h3 : wU set P t N = pc set - wU set P t N
      · rw [if_pos (by rw [px_le (by omega) (by omega)]; omega), ← h3]
        rfl
      · rw [if_neg (by rw [px_le (by omega) (by omega)]; omega)]
        rfl
/-- the best to ask so far -/
def baU (sd : Nat → Bool) (g : Nat → Nat) : Nat → Option Nat
  | 0 => none
  | t + 1 => if sd t = true then baU sd g t else match baU sd g t with
    | none => some t
    | some b => if g t < g b then some t else some b
theorem baU_lt (sd : Nat → Bool) (g : Nat → Nat) : ∀ s b, baU sd g s = some b → b < s
  | 0, b, h => by cases h
  | s + 1, b, h => by
    have ih := baU_lt sd g s
    unfold baU at h
    by_cases hs : sd s = true
    · rw [if_pos hs] at h
      have := ih b h
      omega
    · rw [if_neg hs] at h
      cases hb : baU sd g s with
      | none => rw [hb] at h; cases h; omega
      | some c =>
        rw [hb] at h
        have := ih c hb
        dsimp only at h
        by_cases hg : g s < g c
        · rw [if_pos hg] at h; cases h; omega
        · rw [if_neg hg] at h; cases h; omega
def encg (g : Nat → Nat) (o : Option Nat) : Int32 := match o with
  | none => 1048576
  | some b => nI (g b)
def tdU (of_ : Nat → Nat) : Nat → Nat
  | 0 => 0
  | j + 1 => tdU of_ j ||| 2 ^ of_ j
theorem tdU_eq {of_ is_ : Nat → Nat} : ∀ s, (∀ j, j < s → is_ j ≤ 1) → tdU of_ s = orS of_ is_ 1 s ||| orS of_ is_ 0 s
  | 0, _ => by simp [tdU, orS]
  | s + 1, h => by
    have ih := tdU_eq (of_ := of_) s (fun j hj => h j (by omega))
    have hs := h s (by omega)
    unfold tdU
    rw [ih]
    show _ = (if is_ s = 1 then _ else _) ||| (if is_ s = 0 then _ else _)
    have e : is_ s = 0 ∨ is_ s = 1 := by omega
    rcases e with e | e
    · rw [if_neg (by omega), if_pos e, Nat.or_assoc]
    · rw [if_pos e, if_neg (by omega), Nat.or_assoc, Nat.or_assoc, Nat.or_comm (orS of_ is_ 0 s)]
theorem op_ask {N : Nat} {now pinned stored guides : Nat → Int32} {year on off cnt saidMany : Int32} {saidOf saidIs : Nat → Int32} {A : AS} (hN : N ≤ 6) (hD : RDs N now pinned stored guides year A) (hS : RSd on off cnt saidMany saidOf saidIs) (v : Int32) : ∃ r, fX4_ask on off (nI N) now v = some r ∧ fX5_ask (nI N) saidMany pinned saidOf saidIs v = some r := by
  obtain ⟨s, of_, is_, hs, rfl, rfl, hj, rfl, rfl⟩ := hS
  have hB := hD.2.2.1.1
  have o1 := orS_lt (is_ := is_) (b := 1) s (fun j q => (hj j q).2.1)
  have o0 := orS_lt (is_ := is_) (b := 0) s (fun j q => (hj j q).2.1)
  have htd := tdU_eq (of_ := of_) s (fun j q => (hj j q).2.2.2)
  have htl : tdU of_ s < 32 := by rw [htd]; exact Nat.or_lt_two_pow (n := 5) o1 o0
  unfold fX4_ask fX5_ask
  rw [e_which hN hD.1.1 hB (fun j q => ⟨(hj j q).2.1, (hj j q).2.2.2⟩), e_those hN hs hD.2.1.1 hB hj, px_bd, px_bd]
  have hset := whU_64 (fun p => okS of_ is_ (lk A.1 p) s) hN
  generalize whU (fun p => okS of_ is_ (lk A.1 p) s) N = set at hset
  have L1 : ∀ {τ : Type} (Fn : Int32 → Option τ), (sx_it 1000 (bX5_ask_21 (nI s) saidOf) ((0 : Int32), (0 : Int32))).bind Fn = Fn (nI (tdU of_ s)) := by
    intro τ Fn
    refine px_lp (fun j => (nI (tdU of_ j), nI j)) s _ rfl (by omega) ?_ ?_ rfl
    · intro j q
      have hh := hj j q
      unfold bX5_ask_21
      dsimp only
      rw [if_neg (by rw [px_le (by omega) (by omega)]; omega), px_rd (by omega) (by omega), hh.1]
      simp (disch := omega) only [n_0, n_1, n_2, n_3, n_4, n_5, n_6, n_7, n_8, n_9, n_10, n_12, n_16, n_20, n_30, n_31, n_32, n_35, n_36, n_41, n_42, n_44, n_48, n_57, n_59, n_60, n_63, n_64, n_99, n_111, n_112, n_115, n_119, n_126, n_200, n_294, n_512, n_999, n_9999, n_1048576, px_bd, px_slt, px_rd, px_wr, px_cp, px_nz, px_lt, px_le, px_eq, nI_add, pk_mul, px_sub, px_or, px_and, px_xor, px_shl1, px_shr]
      rfl
    · unfold bX5_ask_21
      dsimp only
      rw [if_pos (by rw [px_le (by omega) (by omega)]; omega)]
  rw [L1]
  have hsd : ∀ t, t < 5 → ∀ (Fa Fb : Option ((Int32 × Int32) ⊕ Int32)), (if (((nI (orS of_ is_ 1 s) ||| nI (orS of_ is_ 0 s)) >>> (nI t &&& 31)) &&& (1 : Int32)) = (1 : Int32) then Fa else Fb) = if decide (tdU of_ s / 2 ^ t % 2 = 1) = true then Fa else Fb := by
    intro t ht Fa Fb
    have hd : tdU of_ s / 2 ^ t < 2147483648 := Nat.lt_of_le_of_lt (Nat.div_le_self _ _) (by omega)
    have hm : tdU of_ s / 2 ^ t % 2 < 2 := Nat.mod_lt _ (by omega)
    rw [px_or, ← htd, n_31, px_and, px_shr (by omega) (by omega), n_1, px_and, Nat.and_one_is_mod]
    by_cases h : tdU of_ s / 2 ^ t % 2 = 1
    · rw [if_pos (by rw [h]), if_pos (by simp [h])]
    · rw [if_neg (by rw [px_eq (by omega) (by omega)]; exact h), if_neg (by simp [h])]
  by_cases h0 : set = 0
  · subst h0
    rw [if_pos n_0.symm]
    have L2 : ∀ {τ : Type} (Fn : Int32 × Int32 → Option τ), (sx_it 1000 (bX5_ask_59 (nI N) pinned (nI 0) (nI (tdU of_ s))) ((-4 : Int32), (1048576 : Int32), (0 : Int32))).bind Fn = Fn ((-4 : Int32), (1048576 : Int32)) := by
      intro τ Fn
      refine px_lp (fun _ => ((-4 : Int32), (1048576 : Int32), (0 : Int32))) 0 _ rfl (by omega) (fun k hk => absurd hk (Nat.not_lt_zero k)) ?_ rfl
      unfold bX5_ask_59
      dsimp only
      rw [if_neg (by decide), if_pos (by decide)]
    rw [L2]
    unfold jX4_ask_28
    dsimp only
    rw [if_pos rfl, if_pos rfl]
    rcases e_01Q v with rfl | rfl | ⟨q1, q2⟩
    · rw [e_zo0, e_in01_0, px_bd, if_neg i01]
      exact ⟨_, rfl, rfl⟩
    · rw [e_zo1, e_in01_1, px_bd, if_neg i01]
      exact ⟨_, rfl, rfl⟩
    · rw [q1, q2, px_bd, if_pos rfl]
      exact ⟨_, rfl, rfl⟩
  · rw [if_neg (by rw [n_0, px_eq (by omega) (by omega)]; exact h0)]
    generalize hsde : (fun t => decide (tdU of_ s / 2 ^ t % 2 = 1)) = sd
    have hsd2 : ∀ t, sd t = decide (tdU of_ s / 2 ^ t % 2 = 1) := fun t => by rw [← hsde]
    generalize hge : (fun t => gpN set A.1 N t) = g
    have hg2 : ∀ t, gpN set A.1 N t = g t := fun t => by rw [← hge]
    have hgl : ∀ t, g t ≤ 6 := fun t => by rw [← hg2]; exact gpN_le hN
    have L3 : fX4_bestToAsk (nI (orS of_ is_ 1 s)) (nI (orS of_ is_ 0 s)) (nI N) now (nI set) = some (enc (baU sd g 5)) := by
      unfold fX4_bestToAsk
      refine px_lp (fun t => (enc (baU sd g t), nI t)) 5 _ rfl (by omega) ?_ ?_ rfl
      · intro t ht
        unfold bX4_bestToAsk_5
        dsimp only
        rw [n_5, if_neg (by rw [px_le (by omega) (by omega)]; omega), hsd t ht, ← hsd2]
        unfold jX4_bestToAsk_32
        rw [if_neg i01, if_pos rfl, show nI t + 1 = nI (t + 1) from nI_1 t, e_gpC hN hD.1.1 hB hset ht, px_bd, hg2]
        by_cases hst : sd t = true
        · rw [if_pos hst]
          unfold baU
          rw [if_pos hst]
          cases t <;> rfl
        · rw [if_neg hst]
          rw [show baU sd g (t + 1) = (if sd t = true then baU sd g t else match baU sd g t with | none => some t | some b => if g t < g b then some t else some b) from rfl, if_neg hst]
          cases hb : baU sd g t with
          | none => rw [if_pos (show enc none = (-4 : Int32) from rfl)]; rfl
          | some b =>
            have hbl := baU_lt sd g t b hb
            have g1 := hgl t
            have g2 := hgl b
            rw [show enc (some b) = nI b from rfl, if_neg (nI_ne4 (by omega)), e_gpC hN hD.1.1 hB hset (by omega), px_bd, hg2]
            dsimp only
            by_cases hg : g t < g b
            · rw [if_pos hg, if_neg (by rw [px_le (by omega) (by omega)]; omega)]; rfl
            · rw [if_neg hg, if_pos (by rw [px_le (by omega) (by omega)]; omega)]; rfl
      · unfold bX4_bestToAsk_5
        dsimp only
        rw [n_5, if_pos (by decide)]
    have L4 : ∀ {τ : Type} (Fn : Int32 × Int32 → Option τ), (sx_it 1000 (bX5_ask_59 (nI N) pinned (nI set) (nI (tdU of_ s))) ((-4 : Int32), (1048576 : Int32), (0 : Int32))).bind Fn = Fn (enc (baU sd g 5), encg g (baU sd g 5)) := by
      intro τ Fn
      refine px_lp (fun t => (enc (baU sd g t), encg g (baU sd g t), nI t)) 5 _ rfl (by omega) ?_ ?_ rfl
      · intro t ht
        unfold bX5_ask_59
        dsimp only
        rw [n_5, if_neg (by rw [px_le (by omega) (by omega)]; omega), if_neg (by rw [n_0, px_eq (by omega) (by omega)]; exact h0), e_gpM hN hD.2.1.1 hB hset ht, hg2, e_has (by omega) (by omega), px_bd]
        have g1 := hgl t
        unfold jX5_ask_157 jX5_ask_158 jX5_ask_172
        rw [if_pos rfl, if_pos rfl, if_neg i01, if_neg i01, show nI t + 1 = nI (t + 1) from nI_1 t]
        rw [show baU sd g (t + 1) = (if sd t = true then baU sd g t else match baU sd g t with | none => some t | some b => if g t < g b then some t else some b) from rfl]
        by_cases hst : tdU of_ s / 2 ^ t % 2 = 1
        · have hst2 : sd t = true := by rw [hsd2]; simp [hst]
          rw [if_pos hst, if_neg i01, if_pos hst2]
        · have hst2 : ¬ sd t = true := by rw [hsd2]; simp [hst]
          rw [if_neg hst, if_pos rfl, if_neg hst2]
          cases hb : baU sd g t with
          | none =>
            rw [show encg g none = (1048576 : Int32) from rfl, n_1048576, if_neg (by rw [px_le (by omega) (by omega)]; omega)]
            rfl
          | some b =>
            have g2 := hgl b
            rw [show encg g (some b) = nI (g b) from rfl]
            dsimp only
            by_cases hg : g t < g b
            · rw [if_pos hg, if_neg (by rw [px_le (by omega) (by omega)]; omega)]; rfl
            · rw [if_neg hg, if_pos (by rw [px_le (by omega) (by omega)]; omega)]; rfl
      · unfold bX5_ask_59
        dsimp only
        rw [n_5, if_pos (by decide)]
    rw [L3, L4, px_bd]
    dsimp only
    unfold jX4_ask_28
    have hbl := baU_lt sd g 5
    rcases e_01Q v with rfl | rfl | ⟨q1, q2⟩
    · rw [e_zo0, e_in01_0, px_bd, px_bd, if_neg i01, if_neg i01, if_pos n_0.symm, if_pos n_0.symm]
      simp only [ite_self]
      exact ⟨_, rfl, rfl⟩
    · rw [e_zo1, e_in01_1, px_bd, px_bd, if_neg i01, if_neg i01, if_neg (show ¬ nI 1 = (0 : Int32) by decide), if_neg (show ¬ nI 1 = (0 : Int32) by decide)]
      cases hb : baU sd g 5 with
      | none =>
        rw [if_pos (show enc none = (-4 : Int32) from rfl), if_pos (show enc none = (-4 : Int32) from rfl)]
        exact ⟨_, rfl, rfl⟩
      | some b =>
        have := hbl b hb
        rw [show enc (some b) = nI b from rfl, if_neg (nI_ne4 (by omega)), if_neg (nI_ne4 (by omega)), e_gpC hN hD.1.1 hB hset (by omega), hg2]
        exact ⟨_, rfl, rfl⟩
    · rw [q1, q2, px_bd, px_bd, if_pos rfl, if_pos rfl]
      exact ⟨_, rfl, rfl⟩

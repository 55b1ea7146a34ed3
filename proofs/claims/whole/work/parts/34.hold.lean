/-! hold -/
/-- the greatest of force and what was lost by then -/
def mU (f : Nat → Nat) (l : Nat) : Nat → Nat
  | 0 => 0
  | j + 1 => max (mU f l j) (f j + l * j)
def ndH (f : Nat → Nat) (l n : Nat) : Nat := max (l * n + 1) (mU f l n)
theorem mU_le {f : Nat → Nat} {l : Nat} (hf : ∀ j, f j ≤ 22) (hl : l ≤ 2) : ∀ n, n ≤ 20 → mU f l n ≤ 70
  | 0, _ => Nat.zero_le _
  | n + 1, h => by
    have := mU_le hf hl n (by omega)
    have h2 := hf n
    have h3 : l * n ≤ 2 * n := Nat.mul_le_mul_right n hl
    unfold mU
    omega
theorem e_toHold {N Wn p l n : Nat} {now kinds winds : Nat → Int32} {kd wv : Nat → Nat} {A : AS} (hN : N ≤ 6) (hWn : Wn ≤ 12) (hK : KI N kinds kd) (hW : WI Wn winds wv) (hC : CS now A) (hy : A.2.2.2 ≤ 2000) (hp : p < N) (hl : l ≤ 2) (hn : n ≤ 20) : fX4_pinsToHold (nI N) (nI Wn) kinds winds now (nI p) (nI n) (nI l) = some (nI (ndH (fun j => fc (kd p) (wnd Wn wv (A.2.2.2 + j))) l n)) := by
  have hf : ∀ j, fc (kd p) (wnd Wn wv (A.2.2.2 + j)) ≤ 22 := fun j => fc_le (wnd_le hW)
  generalize hfe : (fun j => fc (kd p) (wnd Wn wv (A.2.2.2 + j))) = f
  have hfj : ∀ j, fc (kd p) (wnd Wn wv (A.2.2.2 + j)) = f j := fun j => by rw [← hfe]
  have hf' : ∀ j, f j ≤ 22 := fun j => by rw [← hfj]; exact hf j
  have hln : l * n ≤ 2 * n := Nat.mul_le_mul_right n hl
  unfold fX4_pinsToHold
  rw [pk_mul, n_1, nI_add, px_slt]
  refine px_lp (fun j => (nI (max (l * n + 1) (mU f l j)), nI j)) n _ ?_ (by omega) ?_ ?_ rfl
  · show (nI (l * n + 1), (0 : Int32)) = (nI (max (l * n + 1) 0), nI 0)
    rw [Nat.max_eq_left (Nat.zero_le _)]
    rfl
  · intro j hj
    have hm := mU_le hf' hl j (by omega)
    have hlj : l * j ≤ 2 * j := Nat.mul_le_mul_right j hl
    have hfj2 := hf' j
    unfold bX4_pinsToHold_10
    dsimp only
    rw [if_neg (by rw [px_le (by omega) (by omega)]; omega), e_yearNow, px_bd, hC.2.2.2, nI_add, e_windIn hWn hW (by omega), px_bd, e_forceAt hN hK hp (wnd_le hW), px_bd, hfj, pk_mul, nI_add, px_slt, n_1, nI_add]
    show _ = some (Sum.inl (nI (max (l * n + 1) (max (mU f l j) (f j + l * j))), nI (j + 1)))
    congr 3
    by_cases h : max (l * n + 1) (mU f l j) < f j + l * j
    · rw [if_pos (by rw [px_lt (by omega) (by omega)]; exact h)]
      congr 1
      omega
    · rw [if_neg (by rw [px_lt (by omega) (by omega)]; exact h)]
      congr 1
      omega
  · unfold bX4_pinsToHold_10
    dsimp only
    rw [if_pos (by rw [px_le (by omega) (by omega)]; omega)]
    rfl
theorem e_greater {a b : Nat} (ha : a < 2147483648) (hb : b < 2147483648) : fX5_greater (nI a) (nI b) = some (nI (max a b)) := by
  unfold fX5_greater
  simp (disch := omega) only [px_le]
  by_cases h : a ≤ b
  · rw [if_pos h, Nat.max_eq_right h]
  · rw [if_neg h, Nat.max_eq_left (by omega)]
theorem e_needed {N Wn p l n y : Nat} {kinds winds : Nat → Int32} {kd wv : Nat → Nat} (hN : N ≤ 6) (hWn : Wn ≤ 12) (hK : KI N kinds kd) (hW : WI Wn winds wv) (hy : y ≤ 2000) (hp : p < N) (hl1 : 1 ≤ l) (hl : l ≤ 2) (hn1 : 1 ≤ n) (hn : n ≤ 20) : fX5_needed (nI Wn) (nI y) kinds winds (nI p) (nI l) (nI n) = some (nI (ndH (fun j => fc (kd p) (wnd Wn wv (y + j))) l n)) := by
  have hf : ∀ j, fc (kd p) (wnd Wn wv (y + j)) ≤ 22 := fun j => fc_le (wnd_le hW)
  generalize hfe : (fun j => fc (kd p) (wnd Wn wv (y + j))) = f
  have hfj : ∀ j, fc (kd p) (wnd Wn wv (y + j)) = f j := fun j => by rw [← hfe]
  have hf' : ∀ j, f j ≤ 22 := fun j => by rw [← hfj]; exact hf j
  unfold fX5_needed
  refine px_lp (fun j => (nI (max (if j = 0 then 0 else l * j + 1) (mU f l j)), nI j)) n _ ?_ (by omega) ?_ ?_ rfl
  · rfl
  · intro j hj
    have hm := mU_le hf' hl j (by omega)
    have hlj : l * j ≤ 2 * j := Nat.mul_le_mul_right j hl
    have hls : l * (j + 1) = l * j + l := Nat.mul_succ l j
    have hfj2 := hf' j
    have hc : (if j = 0 then 0 else l * j + 1) ≤ 2 * j + 1 := by split <;> omega
    unfold bX5_needed_6
    dsimp only
    rw [if_neg (by rw [px_le (by omega) (by omega)]; omega), nI_add, e_windOf hWn hW (by omega), px_bd, e_forceBy hN hK hp (wnd_le hW), px_bd, hfj, pk_mul, nI_add, e_greater (by omega) (by omega), px_bd, nI_add, n_1, nI_add, nI_add, e_greater (by omega) (by omega), px_bd]
    show _ = some (Sum.inl (nI (max (if j + 1 = 0 then 0 else l * (j + 1) + 1) (max (mU f l j) (f j + l * j))), nI (j + 1)))
    congr 4
    rw [if_neg (show ¬ j + 1 = 0 by omega), hls]
    by_cases h : j = 0
    · rw [if_pos h]; omega
    · rw [if_neg h]; omega
  · unfold bX5_needed_6
    dsimp only
    rw [if_pos (by rw [px_le (by omega) (by omega)]; omega), if_neg (show ¬ n = 0 by omega)]
    rfl
/-- nothing below t is on -/
def fsU (P : Nat → Nat) (p : Nat) : Nat → Bool
  | 0 => true
  | t + 1 => fsU P p t && decide (P (5 * p + t) = 0)
def lsU (g : Bool) (P : Nat → Nat) (p t : Nat) : Nat := if g = true ∧ fsU P p t = true then 2 else 1
def moU (nd : Nat → Nat) (g : Bool) (P : Nat → Nat) (p : Nat) : Nat → Nat
  | 0 => 0
  | t + 1 => moU nd g P p t + if P (5 * p + t) = 0 then 0 else nd (lsU g P p t) - P (5 * p + t)
def hoU (nd : Nat → Nat → Nat) (kd : Nat → Nat) (P : Nat → Nat) : Nat → Nat
  | 0 => 0
  | p + 1 => hoU nd kd P p + moU (nd p) (decide (kd p = 3)) P p 5
theorem op_hold {N Wn : Nat} {kd wv : Nat → Nat} {kinds winds kindOf mwinds now pinned stored guides : Nat → Int32} {year : Int32} {A : AS} (hR : RR2 N kd Wn wv kinds winds kindOf mwinds) (hD : RDs N now pinned stored guides year A) (v : Int32) : ∃ r, fX4_hold (nI N) (nI Wn) kinds winds now v = some r ∧ fX5_hold (nI N) (nI Wn) year kindOf mwinds pinned v = some r := by
  obtain ⟨h1, hN, hWn, hK, hK2, hW, hW2⟩ := hR
  have hy := hD.2.2.2
  have hB := hD.2.2.1.1
  have hym : year = nI A.2.2.2 := hD.2.1.2.2.2
  unfold fX4_hold fX5_hold
  rcases px_rng v 1 20 (by omega) (by omega) with h | h | ⟨n, n1, n2, rfl⟩
  · have h : v < (1 : Int32) := h
    rw [if_pos h, e_in_bad (Or.inl h), px_bd, if_pos rfl]
    exact ⟨_, rfl, rfl⟩
  · have h : (20 : Int32) < v := h
    have h2 : ¬ v ≤ (20 : Int32) := by
      rw [Int32.le_iff_toInt_le]; rw [Int32.lt_iff_toInt_lt] at h; omega
    have h3 : ¬ v < (1 : Int32) := by
      rw [Int32.lt_iff_toInt_lt] at h ⊢
      rw [show (20 : Int32).toInt = 20 from rfl] at h
      rw [show (1 : Int32).toInt = 1 from rfl]
      omega
    rw [if_neg h3, if_neg h2, e_in_bad (Or.inr h), px_bd, if_pos rfl]
    exact ⟨_, rfl, rfl⟩
  · have e1 : ¬ nI n < (1 : Int32) := by rw [n_1, px_lt (by omega) (by omega)]; omega
    have e2 : nI n ≤ (20 : Int32) := by rw [n_20, px_le (by omega) (by omega)]; omega
    have e3 : fX5_in (nI n) (1 : Int32) (20 : Int32) = some (1 : Int32) := e_in (j := n) (a := 1) (b := 20) (by omega) (by omega) n1 n2
    rw [if_neg e1, if_pos e2, e3, px_bd, if_neg i01]
    generalize hnd : (fun p l => ndH (fun j => fc (kd p) (wnd Wn wv (A.2.2.2 + j))) l n) = nd
    have hnd2 : ∀ p l, ndH (fun j => fc (kd p) (wnd Wn wv (A.2.2.2 + j))) l n = nd p l := fun p l => by rw [← hnd]
    have hndl : ∀ p l, l ≤ 2 → nd p l ≤ 70 := by
      intro p l hl
      rw [← hnd2]
      have := mU_le (f := fun j => fc (kd p) (wnd Wn wv (A.2.2.2 + j))) (l := l) (fun j => fc_le (wnd_le hW)) hl n n2
      have h3 : l * n ≤ 2 * n := Nat.mul_le_mul_right n hl
      unfold ndH
      omega
    have hls : ∀ g p t, lsU g A.1 p t = 1 ∨ lsU g A.1 p t = 2 := fun g p t => by unfold lsU; split <;> simp
    refine ⟨nI (hoU nd kd A.1 N), ?_, ?_⟩
    · refine px_lp (fun p => (nI (hoU nd kd A.1 p), nI p)) N _ rfl (by omega) ?_ ?_ rfl
      · intro p hp
        unfold bX4_hold_17
        dsimp only
        rw [if_neg (by rw [px_le (by omega) (by omega)]; omega)]
        have L : fX4_pinsMoreAt (nI N) (nI Wn) kinds winds now (nI p) (nI n) = some (nI (moU (nd p) (decide (kd p = 3)) A.1 p 5)) := by
          unfold fX4_pinsMoreAt jX4_pinsMoreAt_18
          rw [e_hasGoats hN hK hp, px_bd]
          have LL : ∀ l0, l0 = lsU (decide (kd p = 3)) A.1 p 0 → ((sx_it 1000 (bX4_pinsMoreAt_23 (nI N) (nI Wn) kinds winds now (nI p) (nI n)) ((0 : Int32), nI l0, (0 : Int32))).bind fun w7 => some w7) = some (nI (moU (nd p) (decide (kd p = 3)) A.1 p 5)) := by
            rintro l0 rfl
            refine px_lp (fun t => (nI (moU (nd p) (decide (kd p = 3)) A.1 p t), nI (lsU (decide (kd p = 3)) A.1 p t), nI t)) 5 _ rfl (by omega) ?_ ?_ rfl
            · intro t ht
              have hl := hls (decide (kd p = 3)) p t
              have hb := hB (5 * p + t) (by omega)
              have hq := hndl p (lsU (decide (kd p = 3)) A.1 p t) (by omega)
              unfold bX4_pinsMoreAt_23
              dsimp only
              rw [n_5, if_neg (by rw [px_le (by omega) (by omega)]; omega), e_isOn hD.1.1 hB (by omega) ht, px_bd, e_toHold hN hWn hK hW hD.1 (by omega) hp (by omega) n2, px_bd, hnd2, e_pinsOn _ (by omega) ht, px_bd, hD.1.1 _ (by omega), px_slt]
              show _ = some (Sum.inl (nI (moU (nd p) (decide (kd p = 3)) A.1 p t + if A.1 (5 * p + t) = 0 then 0 else nd p (lsU (decide (kd p = 3)) A.1 p t) - A.1 (5 * p + t)), nI (lsU (decide (kd p = 3)) A.1 p (t + 1)), nI (t + 1)))
              rw [show nI t + 1 = nI (t + 1) from nI_1 t]
              by_cases h : A.1 (5 * p + t) = 0
              · rw [if_pos h, if_pos (by decide), if_pos h]
                have : lsU (decide (kd p = 3)) A.1 p (t + 1) = lsU (decide (kd p = 3)) A.1 p t := by
                  unfold lsU
                  rw [show fsU A.1 p (t + 1) = (fsU A.1 p t && decide (A.1 (5 * p + t) = 0)) from rfl, h]
                  simp
                rw [this]
                rfl
              · rw [if_neg h, if_neg (by decide), if_neg h, n_0, px_max0 _ (by omega) (by omega), nI_add]
                have : lsU (decide (kd p = 3)) A.1 p (t + 1) = 1 := by
                  unfold lsU
                  rw [if_neg]
                  rintro ⟨-, z⟩
                  rw [show fsU A.1 p (t + 1) = (fsU A.1 p t && decide (A.1 (5 * p + t) = 0)) from rfl] at z
                  simp [h] at z
                rw [this]
                rfl
            · unfold bX4_pinsMoreAt_23
              dsimp only
              rw [n_5, if_pos (by decide)]
          by_cases hg : kd p = 3
          · rw [show (if decide (kd p = 3) = true then nI 1 else nI 0) = nI 1 from if_pos (by simp [hg]), if_neg (by decide)]
            exact LL 2 (by unfold lsU; rw [if_pos ⟨by simp [hg], rfl⟩])
          · rw [show (if decide (kd p = 3) = true then nI 1 else nI 0) = nI 0 from if_neg (by simp [hg]), if_pos (by decide)]
            exact LL 1 (by unfold lsU; rw [if_neg (by simp [hg])])
        rw [L, px_bd, px_slt, nI_add, n_1, nI_add]
        rfl
      · unfold bX4_hold_17
        dsimp only
        rw [if_pos (by rw [px_le (by omega) (by omega)]; omega)]
    · refine px_lp (fun p => (nI (hoU nd kd A.1 p), nI p)) N _ rfl (by omega) ?_ ?_ rfl
      · intro p hp
        have hkp := hK2 p hp
        have hk3 := hkp.2
        unfold bX5_hold_16
        dsimp only
        rw [if_neg (by rw [px_le (by omega) (by omega)]; omega)]
        refine px_lp (fun t => (nI (hoU nd kd A.1 p + moU (nd p) (decide (kd p = 3)) A.1 p t), (if fsU A.1 p t = true then (1 : Int32) else 0), nI t)) 5 (nI (hoU nd kd A.1 (p + 1))) rfl (by omega) ?_ ?_ ?_
        · intro t ht
          have hl := hls (decide (kd p = 3)) p t
          have hb := hB (5 * p + t) (by omega)
          have hq := hndl p (lsU (decide (kd p = 3)) A.1 p t) (by omega)
          have J : ∀ l0, l0 = lsU (decide (kd p = 3)) A.1 p t → A.1 (5 * p + t) ≠ 0 → jX5_hold_74 (nI Wn) year kindOf mwinds (nI n) (nI (hoU nd kd A.1 p + moU (nd p) (decide (kd p = 3)) A.1 p t)) (nI p) (nI t) (nI (A.1 (5 * p + t))) (nI l0) = some (Sum.inl (nI (hoU nd kd A.1 p + moU (nd p) (decide (kd p = 3)) A.1 p (t + 1)), (if fsU A.1 p (t + 1) = true then (1 : Int32) else 0), nI (t + 1))) := by
            rintro l0 rfl hne
            unfold jX5_hold_74
            rw [hym, e_needed hN hWn hK2 hW2 (by omega) hp (by omega) (by omega) n1 n2, px_bd, hnd2, n_0, px_gr0 _ (by omega) (by omega), px_bd, px_slt, nI_add, n_1, nI_add]
            have hfs : ¬ fsU A.1 p (t + 1) = true := by
              rw [show fsU A.1 p (t + 1) = (fsU A.1 p t && decide (A.1 (5 * p + t) = 0)) from rfl]
              simp [hne]
            rw [if_neg hfs]
            show _ = some (Sum.inl (nI (hoU nd kd A.1 p + (moU (nd p) (decide (kd p = 3)) A.1 p t + if A.1 (5 * p + t) = 0 then 0 else nd p (lsU (decide (kd p = 3)) A.1 p t) - A.1 (5 * p + t))), nI 0, nI (t + 1)))
            rw [if_neg hne, Nat.add_assoc]
          unfold bX5_hold_30
          dsimp only
          rw [n_5, if_neg (by rw [px_le (by omega) (by omega)]; omega), pk_mul, nI_add, px_rd (by omega) (by omega), hD.2.1.1 _ (by omega), px_rd (by omega) (by omega), hkp.1]
          by_cases h : A.1 (5 * p + t) = 0
          · rw [if_pos (by rw [h]; decide), show nI t + 1 = nI (t + 1) from nI_1 t]
            rw [show fsU A.1 p (t + 1) = (fsU A.1 p t && decide (A.1 (5 * p + t) = 0)) from rfl, h]
            rw [show moU (nd p) (decide (kd p = 3)) A.1 p (t + 1) = moU (nd p) (decide (kd p = 3)) A.1 p t + (if A.1 (5 * p + t) = 0 then 0 else nd p (lsU (decide (kd p = 3)) A.1 p t) - A.1 (5 * p + t)) from rfl, if_pos h]
            simp
          · rw [if_neg (by rw [n_0, px_le (by omega) (by omega)]; omega)]
            unfold jX5_hold_73
            by_cases hg : kd p = 3
            · rw [if_pos (by rw [hg]; rfl)]
              by_cases hf : fsU A.1 p t = true
              · rw [if_pos hf, if_neg i01]
                exact J 2 (by unfold lsU; rw [if_pos ⟨by simp [hg], hf⟩]) h
              · rw [if_neg hf, if_pos rfl]
                exact J 1 (by unfold lsU; rw [if_neg (fun z => hf z.2)]) h
            · rw [if_neg (by rw [n_3, px_eq (by omega) (by omega)]; exact hg)]
              exact J 1 (by unfold lsU; rw [if_neg (by simp [hg])]) h
        · unfold bX5_hold_30
          dsimp only
          rw [n_5, if_pos (by decide)]
          rfl
        · rw [show nI p + 1 = nI (p + 1) from nI_1 p]
      · unfold bX5_hold_16
        dsimp only
        rw [if_pos (by rw [px_le (by omega) (by omega)]; omega)]

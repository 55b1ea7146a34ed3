theorem lo_le (r : Nat → Nat) : ∀ (n a : Nat), lo r a n ≤ n
  | 0, a => Nat.le_refl 0
  | n + 1, a => by
    have := lo_le r n (a + 1)
    unfold lo
    split <;> omega
theorem lo_z (r : Nat → Nat) : ∀ (n a k : Nat), k < lo r a n → r (a + k) = 0
  | 0, a, k, h => absurd h (Nat.not_lt_zero k)
  | n + 1, a, k, h => by
    unfold lo at h
    by_cases h0 : r a = 0
    · rw [if_pos h0] at h
      cases k with
      | zero => exact h0
      | succ k =>
        have := lo_z r n (a + 1) k (by omega)
        rwa [show a + 1 + k = a + (k + 1) by omega] at this
    · rw [if_neg h0] at h
      exact absurd h (Nat.not_lt_zero k)
theorem lo_nz (r : Nat → Nat) : ∀ (n a : Nat), lo r a n < n → r (a + lo r a n) ≠ 0
  | 0, a, h => absurd h (Nat.not_lt_zero _)
  | n + 1, a, h => by
    unfold lo at h ⊢
    by_cases h0 : r a = 0
    · rw [if_pos h0] at h ⊢
      have := lo_nz r n (a + 1) (by omega)
      rwa [show a + (1 + lo r (a + 1) n) = a + 1 + lo r (a + 1) n by omega]
    · rw [if_neg h0] at h ⊢
      exact h0
theorem lo_cong {r q : Nat → Nat} : ∀ (n a : Nat), (∀ k, a ≤ k → k < a + n → r k = q k) → lo r a n = lo q a n
  | 0, a, _ => rfl
  | n + 1, a, h => by
    unfold lo
    rw [h a (Nat.le_refl a) (by omega), lo_cong n (a + 1) (fun k h1 h2 => h k (by omega) (by omega))]
theorem wz_le (F x : Nat) : wz F x ≤ x := by unfold wz; split <;> omega
/-- five places of a row of n, from at on, by the wind alone -/
def wnd5 (row : Nat → Int32) (F : Nat) (r : Nat → Nat) (at_ n : Nat) : Nat → Int32 := pf row (fun j => nI (wz F (r (at_ + j)))) at_ n
theorem e_weather {row : Nat → Int32} {r : Nat → Nat} {n at_ F : Nat} (g : Bool) (hn : n ≤ 100) (ha : at_ + 5 ≤ n) (hF : F ≤ 100) (hr : ∀ k, at_ ≤ k → k < at_ + 5 → row k = nI (r k)) (hb : ∀ k, at_ ≤ k → k < at_ + 5 → r k ≤ 20) : ∃ w, fX4_weather n row (nI at_) (nI F) (if g = true then nI 1 else nI 0) = some w ∧ (∀ k, at_ ≤ k → k < at_ + 5 → w k = nI (wrow F g r at_ k)) ∧ (∀ k, (k < at_ ∨ at_ + 5 ≤ k) → w k = row k) := by
  have L1 : ∀ {τ : Type} (Fn : (Nat → Int32) → Option τ), (sx_it 1000 (bX4_weather_20 n (nI at_) (nI F)) (nI at_, row)).bind Fn = Fn (wnd5 row F r at_ 5) := by
    intro τ Fn
    refine px_lp (fun j => (nI (at_ + j), wnd5 row F r at_ j)) 5 _ ?_ (by omega) ?_ ?_ rfl
    · unfold wnd5; rw [pf_0]; rfl
    · intro j hj
      have hv : wnd5 row F r at_ j (at_ + j) = nI (r (at_ + j)) := by unfold wnd5; rw [pf_out (by omega)]; exact hr _ (by omega) (by omega)
      have hb1 := hb (at_ + j) (by omega) (by omega)
      unfold bX4_weather_20
      simp (disch := omega) only [n_0, n_1, n_2, n_3, n_4, n_5, n_6, n_7, n_8, n_9, n_10, n_12, n_16, n_20, n_30, n_31, n_32, n_35, n_36, n_41, n_42, n_44, n_48, n_57, n_59, n_60, n_63, n_64, n_99, n_111, n_112, n_115, n_119, n_126, n_200, n_294, n_512, n_999, n_9999, n_1048576, px_bd, px_slt, px_rd, px_wr, px_cp, px_nz, px_lt, px_le, px_eq, nI_add, pk_mul, px_sub, px_or, px_and, px_xor, px_shl1, px_shr, hv]
      rw [if_neg (by omega)]
      have hs : ∀ x, x = nI (wz F (r (at_ + j))) → upd (wnd5 row F r at_ j) (at_ + j) x = wnd5 row F r at_ (j + 1) := by
        rintro x rfl
        unfold wnd5
        exact pf_succ row (fun j => nI (wz F (r (at_ + j)))) at_ j
      by_cases h1 : r (at_ + j) < F
      · rw [if_pos h1, hs _ (by unfold wz; rw [if_pos (Or.inl h1)])]
        rfl
      · rw [if_neg h1]
        by_cases h2 : r (at_ + j) = 0
        · rw [if_neg (by omega), hs _ (by unfold wz; rw [if_pos (Or.inr h2)])]
          rfl
        · rw [if_pos (by omega), hs _ (by unfold wz; rw [if_neg (by omega)])]
          rfl
    · unfold bX4_weather_20
      simp (disch := omega) only [n_0, n_1, n_2, n_3, n_4, n_5, n_6, n_7, n_8, n_9, n_10, n_12, n_16, n_20, n_30, n_31, n_32, n_35, n_36, n_41, n_42, n_44, n_48, n_57, n_59, n_60, n_63, n_64, n_99, n_111, n_112, n_115, n_119, n_126, n_200, n_294, n_512, n_999, n_9999, n_1048576, px_bd, px_slt, px_rd, px_wr, px_cp, px_nz, px_lt, px_le, px_eq, nI_add, pk_mul, px_sub, px_or, px_and, px_xor, px_shl1, px_shr]
      rw [if_pos (Nat.le_refl _)]
  have h5 : ∀ k, at_ ≤ k → k < at_ + 5 → wnd5 row F r at_ 5 k = nI (wz F (r k)) := fun k h1 h2 => by
    unfold wnd5
    rw [pf_in h1 h2, show at_ + (k - at_) = k by omega]
  have h5o : ∀ k, (k < at_ ∨ at_ + 5 ≤ k) → wnd5 row F r at_ 5 k = row k := fun k h => by
    unfold wnd5
    rw [pf_out h]
  unfold fX4_weather
  rw [L1]
  rw [show Int32.ofNat n = nI n from rfl]
  simp (disch := omega) only [n_0, n_1, n_2, n_3, n_4, n_5, n_6, n_7, n_8, n_9, n_10, n_12, n_16, n_20, n_30, n_31, n_32, n_35, n_36, n_41, n_42, n_44, n_48, n_57, n_59, n_60, n_63, n_64, n_99, n_111, n_112, n_115, n_119, n_126, n_200, n_294, n_512, n_999, n_9999, n_1048576, px_bd, px_slt, px_rd, px_wr, px_cp, px_nz, px_lt, px_le, px_eq, nI_add, pk_mul, px_sub, px_or, px_and, px_xor, px_shl1, px_shr]
  rw [if_neg (by omega), if_pos (by omega)]
  cases g with
  | false =>
    simp only [Bool.false_eq_true, if_false, if_true]
    refine ⟨_, rfl, fun k h1 h2 => ?_, h5o⟩
    rw [h5 k h1 h2]
    unfold wrow
    rw [if_pos ⟨h1, h2⟩, if_neg (by simp)]
  | true =>
    simp only [if_true]
    rw [if_neg (by rw [px_eq (by omega) (by omega)]; omega)]
    have hlo : lo (fun j => wz F (r j)) at_ 5 ≤ 5 := lo_le _ 5 at_
    have hz := lo_z (fun j => wz F (r j)) 5 at_
    have hnz := lo_nz (fun j => wz F (r j)) 5 at_
    have hw : ∀ k, wz F (r k) - 1 ≤ wz F (r k) := fun k => by omega
    generalize hL : lo (fun j => wz F (r j)) at_ 5 = L at hlo hz hnz
    have hb2 : ∀ k, at_ ≤ k → k < at_ + 5 → wz F (r k) ≤ 20 := fun k h1 h2 => Nat.le_trans (wz_le _ _) (hb k h1 h2)
    have stp : ∀ j, j < L → bX4_weather_72 n (wnd5 row F r at_ 5) (nI at_) (nI (at_ + j)) = some (.inl (nI (at_ + (j + 1)))) := by
      intro j hj
      unfold bX4_weather_72
      simp (disch := omega) only [n_0, n_1, n_2, n_3, n_4, n_5, n_6, n_7, n_8, n_9, n_10, n_12, n_16, n_20, n_30, n_31, n_32, n_35, n_36, n_41, n_42, n_44, n_48, n_57, n_59, n_60, n_63, n_64, n_99, n_111, n_112, n_115, n_119, n_126, n_200, n_294, n_512, n_999, n_9999, n_1048576, px_bd, px_slt, px_rd, px_wr, px_cp, px_nz, px_lt, px_le, px_eq, nI_add, pk_mul, px_sub, px_or, px_and, px_xor, px_shl1, px_shr]
      rw [if_neg (by omega), h5 _ (by omega) (by omega), hz j hj, if_pos (by decide)]
      rfl
    by_cases h : L < 5
    · refine ⟨upd (wnd5 row F r at_ 5) (at_ + L) (nI (wz F (r (at_ + L)) - 1)), ?_, ?_, ?_⟩
      · have hne := hnz h
        have hb3 := hb2 (at_ + L) (by omega) (by omega)
        refine px_lp (fun j => nI (at_ + j)) L (.inl (nI (at_ + L))) rfl (by omega) stp ?_ ?_
        · unfold bX4_weather_72
          simp (disch := omega) only [n_0, n_1, n_2, n_3, n_4, n_5, n_6, n_7, n_8, n_9, n_10, n_12, n_16, n_20, n_30, n_31, n_32, n_35, n_36, n_41, n_42, n_44, n_48, n_57, n_59, n_60, n_63, n_64, n_99, n_111, n_112, n_115, n_119, n_126, n_200, n_294, n_512, n_999, n_9999, n_1048576, px_bd, px_slt, px_rd, px_wr, px_cp, px_nz, px_lt, px_le, px_eq, nI_add, pk_mul, px_sub, px_or, px_and, px_xor, px_shl1, px_shr]
          rw [if_neg (by omega), h5 _ (by omega) (by omega)]
          simp (disch := omega) only [n_0, n_1, n_2, n_3, n_4, n_5, n_6, n_7, n_8, n_9, n_10, n_12, n_16, n_20, n_30, n_31, n_32, n_35, n_36, n_41, n_42, n_44, n_48, n_57, n_59, n_60, n_63, n_64, n_99, n_111, n_112, n_115, n_119, n_126, n_200, n_294, n_512, n_999, n_9999, n_1048576, px_bd, px_slt, px_rd, px_wr, px_cp, px_nz, px_lt, px_le, px_eq, nI_add, pk_mul, px_sub, px_or, px_and, px_xor, px_shl1, px_shr]
          rw [if_neg (by omega)]
        · simp (disch := omega) only [n_0, n_1, n_2, n_3, n_4, n_5, n_6, n_7, n_8, n_9, n_10, n_12, n_16, n_20, n_30, n_31, n_32, n_35, n_36, n_41, n_42, n_44, n_48, n_57, n_59, n_60, n_63, n_64, n_99, n_111, n_112, n_115, n_119, n_126, n_200, n_294, n_512, n_999, n_9999, n_1048576, px_bd, px_slt, px_rd, px_wr, px_cp, px_nz, px_lt, px_le, px_eq, nI_add, pk_mul, px_sub, px_or, px_and, px_xor, px_shl1, px_shr]
          rw [h5 _ (by omega) (by omega), px_sub (by omega)]
      · intro k h1 h2
        unfold wrow
        rw [if_pos ⟨h1, h2⟩, hL]
        by_cases hk : k = at_ + L
        · subst hk
          rw [px_upd_s, if_pos ⟨rfl, rfl⟩]
        · rw [px_upd_n hk, if_neg (by simp [hk]), h5 k h1 h2]
      · intro k hk
        rw [px_upd_n (by omega), h5o k hk]
    · have h6 : L = 5 := by omega
      subst h6
      refine ⟨wnd5 row F r at_ 5, ?_, fun k h1 h2 => ?_, h5o⟩
      · refine px_lp (fun j => nI (at_ + j)) 5 (.inr ()) rfl (by omega) stp ?_ rfl
        unfold bX4_weather_72
        simp (disch := omega) only [n_0, n_1, n_2, n_3, n_4, n_5, n_6, n_7, n_8, n_9, n_10, n_12, n_16, n_20, n_30, n_31, n_32, n_35, n_36, n_41, n_42, n_44, n_48, n_57, n_59, n_60, n_63, n_64, n_99, n_111, n_112, n_115, n_119, n_126, n_200, n_294, n_512, n_999, n_9999, n_1048576, px_bd, px_slt, px_rd, px_wr, px_cp, px_nz, px_lt, px_le, px_eq, nI_add, pk_mul, px_sub, px_or, px_and, px_xor, px_shl1, px_shr]
        rw [if_pos (Nat.le_refl _)]
      · rw [h5 k h1 h2]
        unfold wrow
        rw [if_pos ⟨h1, h2⟩, hL, if_neg (by omega)]

/-! force, wind -/
def fc (kd w : Nat) : Nat := if kd = 1 then w + 2 else if kd = 2 then w - 2 else w
theorem fc_le {kd w : Nat} (h : w ≤ 20) : fc kd w ≤ 22 := by unfold fc; split <;> (try split) <;> omega
theorem px_neg_lt {a b : Nat} (h : a < b) (hb : b < 2147483648) : nI a - nI b < 0 := by
  rw [Int32.lt_iff_toInt_lt, Int32.toInt_sub, nI_toInt (by omega), nI_toInt (by omega)]
  show ((a : Int) - b).bmod (2 ^ 32) < 0
  rw [Int.bmod_eq_of_le (by omega) (by omega)]
  omega
theorem px_max0 {w : Nat} (c : Nat) (h : w < 2147483648) (hc : c < 2147483648) : (if nI 0 < nI w - nI c then nI w - nI c else nI 0) = nI (w - c) := by
  by_cases h1 : c ≤ w
  · simp (disch := omega) only [px_sub h1, px_lt]
    by_cases h2 : 0 < w - c
    · rw [if_pos h2]
    · rw [if_neg h2, show w - c = 0 by omega]
  · rw [if_neg, show w - c = 0 by omega]
    intro h2
    have h3 := px_neg_lt (a := w) (b := c) (by omega) hc
    rw [Int32.lt_iff_toInt_lt] at h2 h3
    rw [show (nI 0).toInt = 0 from rfl] at h2
    rw [show (0 : Int32).toInt = 0 from rfl] at h3
    omega
theorem px_gr0 {w : Nat} (c : Nat) (h : w < 2147483648) (hc : c < 2147483648) : fX5_greater (nI 0) (nI w - nI c) = some (nI (w - c)) := by
  unfold fX5_greater
  by_cases h1 : c ≤ w
  · simp (disch := omega) only [px_sub h1, px_le]
    rw [if_pos (by omega)]
  · rw [if_neg, show w - c = 0 by omega]
    intro h2
    have h3 := px_neg_lt (a := w) (b := c) (by omega) hc
    rw [Int32.le_iff_toInt_le, show (nI 0).toInt = 0 from rfl] at h2
    rw [Int32.lt_iff_toInt_lt, show (0 : Int32).toInt = 0 from rfl] at h3
    omega
theorem e_isPeak {N p : Nat} (hN : N ≤ 6) (hp : p < N) : fX1_isPeak (nI N) (nI p) = some (nI 1) := by
  unfold fX1_isPeak
  simp (disch := omega) only [n_0, n_1, n_2, n_3, n_4, n_5, n_6, n_7, n_8, n_9, n_10, n_12, n_16, n_20, n_30, n_31, n_32, n_35, n_36, n_41, n_42, n_44, n_48, n_57, n_59, n_60, n_63, n_64, n_99, n_111, n_112, n_115, n_119, n_126, n_200, n_294, n_512, n_999, n_9999, n_1048576, px_bd, px_slt, px_rd, px_wr, px_cp, px_nz, px_lt, px_le, px_eq, nI_add, pk_mul, px_sub, px_or, px_and, px_xor, px_shl1, px_shr]
  rw [if_neg (by omega), if_neg (by omega)]
/-- kinds of the peaks -/
def KI (N : Nat) (kinds : Nat → Int32) (kd : Nat → Nat) : Prop := ∀ p, p < N → kinds p = nI (kd p) ∧ kd p ≤ 3
theorem e_kindOf {N p : Nat} {kinds : Nat → Int32} {kd : Nat → Nat} (hN : N ≤ 6) (hK : KI N kinds kd) (hp : p < N) : fX1_kindOf (nI N) kinds (nI p) = some (nI (kd p)) := by
  unfold fX1_kindOf
  rw [e_isPeak hN hp]
  simp (disch := omega) only [n_0, n_1, n_2, n_3, n_4, n_5, n_6, n_7, n_8, n_9, n_10, n_12, n_16, n_20, n_30, n_31, n_32, n_35, n_36, n_41, n_42, n_44, n_48, n_57, n_59, n_60, n_63, n_64, n_99, n_111, n_112, n_115, n_119, n_126, n_200, n_294, n_512, n_999, n_9999, n_1048576, px_bd, px_slt, px_rd, px_wr, px_cp, px_nz, px_lt, px_le, px_eq, nI_add, pk_mul, px_sub, px_or, px_and, px_xor, px_shl1, px_shr]
  rw [if_neg (by omega), (hK p hp).1]
theorem e_hasGoats {N p : Nat} {kinds : Nat → Int32} {kd : Nat → Nat} (hN : N ≤ 6) (hK : KI N kinds kd) (hp : p < N) : fX1_hasGoats (nI N) kinds (nI p) = some (if decide (kd p = 3) = true then nI 1 else nI 0) := by
  have := (hK p hp).2
  unfold fX1_hasGoats
  rw [e_kindOf hN hK hp]
  simp (disch := omega) only [n_0, n_1, n_2, n_3, n_4, n_5, n_6, n_7, n_8, n_9, n_10, n_12, n_16, n_20, n_30, n_31, n_32, n_35, n_36, n_41, n_42, n_44, n_48, n_57, n_59, n_60, n_63, n_64, n_99, n_111, n_112, n_115, n_119, n_126, n_200, n_294, n_512, n_999, n_9999, n_1048576, px_bd, px_slt, px_rd, px_wr, px_cp, px_nz, px_lt, px_le, px_eq, nI_add, pk_mul, px_sub, px_or, px_and, px_xor, px_shl1, px_shr, decide_eq_true_eq]
  split <;> rfl
theorem e_forceAt {N p w : Nat} {kinds : Nat → Int32} {kd : Nat → Nat} (hN : N ≤ 6) (hK : KI N kinds kd) (hp : p < N) (hw : w ≤ 20) : fX1_forceAt (nI N) kinds (nI p) (nI w) = some (nI (fc (kd p) w)) := by
  have := (hK p hp).2
  unfold fX1_forceAt
  rw [e_kindOf hN hK hp]
  simp (disch := omega) only [px_bd, n_0, n_1, n_2, px_eq, nI_add]
  unfold fc
  split
  · rfl
  · split
    · rw [px_max0 2 (by omega) (by omega)]
    · rfl
theorem e_forceBy {N p w : Nat} {kinds : Nat → Int32} {kd : Nat → Nat} (hN : N ≤ 6) (hK : KI N kinds kd) (hp : p < N) (hw : w ≤ 20) : fX5_forceBy kinds (nI p) (nI w) = some (nI (fc (kd p) w)) := by
  have := (hK p hp).2
  unfold fX5_forceBy
  simp (disch := omega) only [px_rd, (hK p hp).1, px_bd, n_0, n_1, n_2, px_eq, nI_add, px_gr0]
  unfold fc
  split
  · rfl
  · split <;> rfl
/-- the winds told: Wn of them, wv -/
def WI (Wn : Nat) (winds : Nat → Int32) (wv : Nat → Nat) : Prop := ∀ k, k < Wn → winds k = nI (wv k) ∧ wv k ≤ 20
def wnd (Wn : Nat) (wv : Nat → Nat) (y : Nat) : Nat := if Wn = 0 then 3 else wv (y % Wn)
theorem wnd_le {Wn y : Nat} {winds : Nat → Int32} {wv : Nat → Nat} (hW : WI Wn winds wv) : wnd Wn wv y ≤ 20 := by
  unfold wnd
  split
  · omega
  · exact (hW _ (Nat.mod_lt _ (by omega))).2
theorem e_windIn {Wn y : Nat} {winds : Nat → Int32} {wv : Nat → Nat} (hn : Wn ≤ 12) (hW : WI Wn winds wv) (hy : y < 100000) : fX1_windIn (nI Wn) winds (nI y) = some (nI (wnd Wn wv y)) := by
  unfold fX1_windIn wnd
  simp (disch := omega) only [n_0, n_1, n_3, px_lt, px_le]
  by_cases h : Wn = 0
  · rw [if_pos (by omega), if_pos h]
  · rw [if_neg (by omega), if_neg h, if_pos (by omega), px_nz (by omega) (by omega), px_rem (by omega) (by omega) (by omega)]
    have := Nat.mod_lt y (show Wn > 0 by omega)
    rw [px_rd (by omega) (by omega), (hW _ this).1]
theorem e_windOf {Wn y : Nat} {winds : Nat → Int32} {wv : Nat → Nat} (hn : Wn ≤ 12) (hW : WI Wn winds wv) (hy : y < 100000) : fX5_windOf (nI Wn) winds (nI y) = some (nI (wnd Wn wv y)) := by
  unfold fX5_windOf wnd
  simp (disch := omega) only [n_0, n_3, px_eq]
  by_cases h : Wn = 0
  · rw [if_pos h, if_pos h]
  · rw [if_neg h, if_neg h, px_nz (by omega) (by omega), px_rem (by omega) (by omega) (by omega)]
    have := Nat.mod_lt y (show Wn > 0 by omega)
    rw [px_rd (by omega) (by omega), (hW _ this).1]

/-! a year -/
def yrU (kd : Nat → Nat) (w : Nat) (P : Nat → Nat) : Nat → Nat → Nat
  | 0 => P
  | n + 1 => wrow (fc (kd n) w) (decide (kd n = 3)) (yrU kd w P n) (5 * n)
/-- the state behind a year with wind w -/
def yrA (N : Nat) (kd : Nat → Nat) (w : Nat) (A : AS) : AS := (yrU kd w A.1 N, A.2.1, (fun p => nI (lk A.1 p)), A.2.2.2 + 1)
theorem wrow_le (F : Nat) (g : Bool) (r : Nat → Nat) (a k : Nat) : wrow F g r a k ≤ r k := by
  unfold wrow
  have := wz_le F (r k)
  split
  · split <;> omega
  · omega
theorem wrow_out {F : Nat} {g : Bool} {r : Nat → Nat} {a k : Nat} (h : k < a ∨ a + 5 ≤ k) : wrow F g r a k = r k := by
  unfold wrow; rw [if_neg (by omega)]
theorem yrU_le (kd : Nat → Nat) (w : Nat) (P : Nat → Nat) (k : Nat) : ∀ n, yrU kd w P n k ≤ P k
  | 0 => Nat.le_refl _
  | n + 1 => Nat.le_trans (wrow_le _ _ _ _ _) (yrU_le kd w P k n)
theorem yrA_ok {N : Nat} {kd : Nat → Nat} {w : Nat} {A : AS} (h : PB A.1 ∧ (∀ k, 5 * N ≤ k → k < 30 → A.1 k = 0)) : PB (yrA N kd w A).1 ∧ (∀ k, 5 * N ≤ k → k < 30 → (yrA N kd w A).1 k = 0) :=
  ⟨fun k hk => Nat.le_trans (yrU_le _ _ _ _ _) (h.1 k hk), fun k h1 h2 => by
    have := yrU_le kd w A.1 k N
    have h3 := h.2 k h1 h2
    show yrU kd w A.1 N k = 0
    omega⟩
theorem e_letYear {N Wn : Nat} {c kinds winds : Nat → Int32} {kd wv : Nat → Nat} {A : AS} (hN : N ≤ 6) (hWn : Wn ≤ 12) (hK : KI N kinds kd) (hW : WI Wn winds wv) (hC : CS c A) (hB : PB A.1) (hy : A.2.2.2 ≤ 5000) : ∃ c', fX3_letYearGoBy c (nI N) (nI Wn) kinds winds = some c' ∧ CS c' (yrA N kd (wnd Wn wv A.2.2.2) A) := by
  obtain ⟨P, st, gu, y⟩ := A
  obtain ⟨h1, h2, h3, h4⟩ := hC
  dsimp only at h1 h2 h3 h4 hB hy ⊢
  have hw := wnd_le (y := y) hW
  unfold fX3_letYearGoBy
  rw [e_makeGuides h1 hB, px_bd, e_yearNow, px_bd, pf_out (by omega), h4, e_windIn hWn hW (by omega), px_bd]
  generalize wnd Wn wv y = w at hw
  obtain ⟨r, hr, r1, r2⟩ := px_inv0 (B := bX3_letYearGoBy_15 (nI N) kinds (nI w)) (n := 1000) (s0 := ((0 : Int32), pf c (fun p => nI (lk P p)) 35 6)) (R := fun r => (∀ k, k < 30 → r k = nI (yrU kd w P N k)) ∧ (∀ k, 30 ≤ k → r k = pf c (fun p => nI (lk P p)) 35 6 k))
    (fun n s => s.1 = nI n ∧ (∀ k, k < 30 → s.2 k = nI (yrU kd w P n k)) ∧ (∀ k, 30 ≤ k → s.2 k = pf c (fun p => nI (lk P p)) 35 6 k)) N (by omega) ⟨rfl, fun k hk => by dsimp only; rw [pf_out (by omega)]; exact h1 k hk, fun k _ => rfl⟩ (by
      rintro n ⟨v, f⟩ hn ⟨q1, fp, fo⟩
      dsimp only at q1 fp fo
      subst q1
      obtain ⟨e, e1, e2, e3⟩ := e_weather (row := f) (r := yrU kd w P n) (n := 42) (at_ := 5 * n) (F := fc (kd n) w) (decide (kd n = 3)) (by omega) (by omega) (Nat.le_trans (fc_le hw) (by omega)) (fun k q1 q2 => fp k (by omega)) (fun k q1 q2 => Nat.le_trans (yrU_le kd w P k n) (hB k (by omega)))
      refine ⟨(nI (n + 1), e), ?_, rfl, fun k hk => ?_, fun k hk => ?_⟩
      · unfold bX3_letYearGoBy_15
        simp (disch := omega) only [n_0, n_1, n_2, n_3, n_4, n_5, n_6, n_7, n_8, n_9, n_10, n_12, n_16, n_20, n_30, n_31, n_32, n_35, n_36, n_41, n_42, n_44, n_48, n_57, n_59, n_60, n_63, n_64, n_99, n_111, n_112, n_115, n_119, n_126, n_200, n_294, n_512, n_999, n_9999, n_1048576, px_bd, px_slt, px_rd, px_wr, px_cp, px_nz, px_lt, px_le, px_eq, nI_add, pk_mul, px_sub, px_or, px_and, px_xor, px_shl1, px_shr]
        rw [if_neg (by omega), e_forceAt hN hK (by omega) hw, px_bd, e_hasGoats hN hK (by omega), px_bd, show n * 5 = 5 * n by omega, e1, px_bd]
      · show e k = nI (wrow (fc (kd n) w) (decide (kd n = 3)) (yrU kd w P n) (5 * n) k)
        by_cases q : 5 * n ≤ k ∧ k < 5 * n + 5
        · exact e2 k q.1 q.2
        · rw [e3 k (by omega), wrow_out (by omega)]
          exact fp k hk
      · show e k = _
        rw [e3 k (by omega)]
        exact fo k hk) (by
      rintro ⟨v, f⟩ ⟨q1, fp, fo⟩
      dsimp only at q1 fp fo
      subst q1
      refine ⟨f, ?_, fp, fo⟩
      unfold bX3_letYearGoBy_15
      simp (disch := omega) only [n_0, n_1, n_2, n_3, n_4, n_5, n_6, n_7, n_8, n_9, n_10, n_12, n_16, n_20, n_30, n_31, n_32, n_35, n_36, n_41, n_42, n_44, n_48, n_57, n_59, n_60, n_63, n_64, n_99, n_111, n_112, n_115, n_119, n_126, n_200, n_294, n_512, n_999, n_9999, n_1048576, px_bd, px_slt, px_rd, px_wr, px_cp, px_nz, px_lt, px_le, px_eq, nI_add, pk_mul, px_sub, px_or, px_and, px_xor, px_shl1, px_shr]
      rw [if_pos (Nat.le_refl _)])
  rw [hr, px_bd]
  have hy41 : r 41 = nI y := by rw [r2 41 (by omega), pf_out (by omega)]; exact h4
  simp (disch := omega) only [n_0, n_1, n_2, n_3, n_4, n_5, n_6, n_7, n_8, n_9, n_10, n_12, n_16, n_20, n_30, n_31, n_32, n_35, n_36, n_41, n_42, n_44, n_48, n_57, n_59, n_60, n_63, n_64, n_99, n_111, n_112, n_115, n_119, n_126, n_200, n_294, n_512, n_999, n_9999, n_1048576, px_bd, px_slt, px_rd, px_wr, px_cp, px_nz, px_lt, px_le, px_eq, nI_add, pk_mul, px_sub, px_or, px_and, px_xor, px_shl1, px_shr, hy41]
  refine ⟨_, rfl, fun k hk => ?_, fun t ht => ?_, fun p hp => ?_, ?_⟩
  · rw [px_upd_n (by omega)]; exact r1 k hk
  · rw [px_upd_n (by omega), r2 _ (by omega), pf_out (by omega)]; exact h2 t ht
  · rw [px_upd_n (by omega), r2 _ (by omega), pf_at hp]
    rfl
  · rw [px_upd_s]; rfl
theorem e_passesBy {N w : Nat} {pinned kinds stored guides : Nat → Int32} {year : Int32} {kd : Nat → Nat} {A : AS} (hN : N ≤ 6) (hK : KI N kinds kd) (hM : MS N pinned stored guides year A) (hB : PB A.1) (hw : w ≤ 20) : ∃ p' g', fX5_passesBy (nI N) year kinds pinned guides (nI w) = some (nI (A.2.2.2 + 1), p', g') ∧ MS N p' stored g' (nI (A.2.2.2 + 1)) (yrA N kd w A) := by
  obtain ⟨P, st, gu, y⟩ := A
  obtain ⟨h1, h2, h3, h4⟩ := hM
  dsimp only at h1 h2 h3 h4 hB ⊢
  subst h4
  unfold fX5_passesBy
  rw [e_setGuides hN h1 hB, px_bd]
  obtain ⟨r, hr, r1⟩ := px_inv0 (B := bX5_passesBy_6 (nI N) kinds (nI w)) (n := 1000) (s0 := ((0 : Int32), pinned)) (R := fun r => ∀ k, k < 30 → r k = nI (yrU kd w P N k))
    (fun n s => s.1 = nI n ∧ ∀ k, k < 30 → s.2 k = nI (yrU kd w P n k)) N (by omega) ⟨rfl, h1⟩ (by
      rintro n ⟨v, f⟩ hn ⟨q1, fp⟩
      dsimp only at q1 fp
      subst q1
      have hF : fc (kd n) w ≤ 22 := fc_le hw
      have hkd := (hK n hn)
      generalize hr0 : yrU kd w P n = r at fp
      have hb : ∀ k, k < 30 → r k ≤ 20 := fun k hk => by rw [← hr0]; exact Nat.le_trans (yrU_le kd w P k n) (hB k hk)
      have L1 : ∀ {τ : Type} (Fn : (Nat → Int32) → Option τ), (sx_it 1000 (bX5_passesBy_26 (nI n) (nI (fc (kd n) w))) (nI (5 * n), f)).bind Fn = Fn (wnd5 f (fc (kd n) w) r (5 * n) 5) := by
        intro τ Fn
        refine px_lp (fun j => (nI (5 * n + j), wnd5 f (fc (kd n) w) r (5 * n) j)) 5 _ ?_ (by omega) ?_ ?_ rfl
        · unfold wnd5; rw [pf_0]; rfl
        · intro j hj
          have hv : wnd5 f (fc (kd n) w) r (5 * n) j (5 * n + j) = nI (r (5 * n + j)) := by unfold wnd5; rw [pf_out (by omega)]; exact fp _ (by omega)
          have hb1 := hb (5 * n + j) (by omega)
          unfold bX5_passesBy_26
          simp (disch := omega) only [n_0, n_1, n_2, n_3, n_4, n_5, n_6, n_7, n_8, n_9, n_10, n_12, n_16, n_20, n_30, n_31, n_32, n_35, n_36, n_41, n_42, n_44, n_48, n_57, n_59, n_60, n_63, n_64, n_99, n_111, n_112, n_115, n_119, n_126, n_200, n_294, n_512, n_999, n_9999, n_1048576, px_bd, px_slt, px_rd, px_wr, px_cp, px_nz, px_lt, px_le, px_eq, nI_add, pk_mul, px_sub, px_or, px_and, px_xor, px_shl1, px_shr, hv]
          rw [if_neg (by omega)]
          have hs : ∀ x, x = nI (wz (fc (kd n) w) (r (5 * n + j))) → upd (wnd5 f (fc (kd n) w) r (5 * n) j) (5 * n + j) x = wnd5 f (fc (kd n) w) r (5 * n) (j + 1) := by
            rintro x rfl
            unfold wnd5
            exact pf_succ f (fun j => nI (wz (fc (kd n) w) (r (5 * n + j)))) (5 * n) j
          by_cases h1 : r (5 * n + j) < fc (kd n) w
          · rw [if_neg (by omega), hs _ (by unfold wz; rw [if_pos (Or.inl h1)])]
            rfl
          · rw [if_pos (by omega), px_gr0 1 (by omega) (by omega)]
            simp (disch := omega) only [n_0, n_1, n_2, n_3, n_4, n_5, n_6, n_7, n_8, n_9, n_10, n_12, n_16, n_20, n_30, n_31, n_32, n_35, n_36, n_41, n_42, n_44, n_48, n_57, n_59, n_60, n_63, n_64, n_99, n_111, n_112, n_115, n_119, n_126, n_200, n_294, n_512, n_999, n_9999, n_1048576, px_bd, px_slt, px_rd, px_wr, px_cp, px_nz, px_lt, px_le, px_eq, nI_add, pk_mul, px_sub, px_or, px_and, px_xor, px_shl1, px_shr]
            rw [hs _ (by unfold wz; split <;> first | (congr 1; done) | (congr 1; omega))]
            rfl
        · unfold bX5_passesBy_26
          simp (disch := omega) only [n_0, n_1, n_2, n_3, n_4, n_5, n_6, n_7, n_8, n_9, n_10, n_12, n_16, n_20, n_30, n_31, n_32, n_35, n_36, n_41, n_42, n_44, n_48, n_57, n_59, n_60, n_63, n_64, n_99, n_111, n_112, n_115, n_119, n_126, n_200, n_294, n_512, n_999, n_9999, n_1048576, px_bd, px_slt, px_rd, px_wr, px_cp, px_nz, px_lt, px_le, px_eq, nI_add, pk_mul, px_sub, px_or, px_and, px_xor, px_shl1, px_shr]
          rw [if_pos (by omega)]
      have h5 : ∀ k, 5 * n ≤ k → k < 5 * n + 5 → wnd5 f (fc (kd n) w) r (5 * n) 5 k = nI (wz (fc (kd n) w) (r k)) := fun k h1 h2 => by
        unfold wnd5
        rw [pf_in h1 h2, show 5 * n + (k - 5 * n) = k by omega]
      have h5o : ∀ k, (k < 5 * n ∨ 5 * n + 5 ≤ k) → wnd5 f (fc (kd n) w) r (5 * n) 5 k = f k := fun k h => by
        unfold wnd5
        rw [pf_out h]
      have hlo : lo (fun j => wz (fc (kd n) w) (r j)) (5 * n) 5 ≤ 5 := lo_le _ 5 _
      have hz := lo_z (fun j => wz (fc (kd n) w) (r j)) 5 (5 * n)
      have hnz := lo_nz (fun j => wz (fc (kd n) w) (r j)) 5 (5 * n)
      generalize hL : lo (fun j => wz (fc (kd n) w) (r j)) (5 * n) 5 = L at hlo hz hnz
      have hb2 : ∀ k, k < 30 → wz (fc (kd n) w) (r k) ≤ 20 := fun k h1 => Nat.le_trans (wz_le _ _) (hb k h1)
      have L2 : ∀ {τ : Type} (Fn : Int32 → Option τ), (sx_it 1000 (bX5_passesBy_82 (wnd5 f (fc (kd n) w) r (5 * n) 5) (nI n)) (nI (5 * n))).bind Fn = Fn (nI (5 * n + L)) := by
        intro τ Fn
        refine px_lp (fun j => nI (5 * n + j)) L _ rfl (by omega) ?_ ?_ rfl
        · intro j hj
          unfold bX5_passesBy_82
          simp (disch := omega) only [n_0, n_1, n_2, n_3, n_4, n_5, n_6, n_7, n_8, n_9, n_10, n_12, n_16, n_20, n_30, n_31, n_32, n_35, n_36, n_41, n_42, n_44, n_48, n_57, n_59, n_60, n_63, n_64, n_99, n_111, n_112, n_115, n_119, n_126, n_200, n_294, n_512, n_999, n_9999, n_1048576, px_bd, px_slt, px_rd, px_wr, px_cp, px_nz, px_lt, px_le, px_eq, nI_add, pk_mul, px_sub, px_or, px_and, px_xor, px_shl1, px_shr]
          rw [if_neg (by omega), h5 _ (by omega) (by omega), hz j hj]
          rfl
        · unfold bX5_passesBy_82
          simp (disch := omega) only [n_0, n_1, n_2, n_3, n_4, n_5, n_6, n_7, n_8, n_9, n_10, n_12, n_16, n_20, n_30, n_31, n_32, n_35, n_36, n_41, n_42, n_44, n_48, n_57, n_59, n_60, n_63, n_64, n_99, n_111, n_112, n_115, n_119, n_126, n_200, n_294, n_512, n_999, n_9999, n_1048576, px_bd, px_slt, px_rd, px_wr, px_cp, px_nz, px_lt, px_le, px_eq, nI_add, pk_mul, px_sub, px_or, px_and, px_xor, px_shl1, px_shr]
          by_cases h : L = 5
          · rw [if_pos (by omega)]
          · have hne := hnz (by omega)
            have hb3 := hb2 (5 * n + L) (by omega)
            rw [if_neg (by omega), h5 _ (by omega) (by omega)]
            simp (disch := omega) only [n_0, n_1, n_2, n_3, n_4, n_5, n_6, n_7, n_8, n_9, n_10, n_12, n_16, n_20, n_30, n_31, n_32, n_35, n_36, n_41, n_42, n_44, n_48, n_57, n_59, n_60, n_63, n_64, n_99, n_111, n_112, n_115, n_119, n_126, n_200, n_294, n_512, n_999, n_9999, n_1048576, px_bd, px_slt, px_rd, px_wr, px_cp, px_nz, px_lt, px_le, px_eq, nI_add, pk_mul, px_sub, px_or, px_and, px_xor, px_shl1, px_shr]
            rw [if_neg hne]
      have hB6 : ∃ e, bX5_passesBy_6 (nI N) kinds (nI w) (nI n, f) = some (.inl (nI (n + 1), e)) ∧ (∀ k, 5 * n ≤ k → k < 5 * n + 5 → e k = nI (wrow (fc (kd n) w) (decide (kd n = 3)) r (5 * n) k)) ∧ (∀ k, (k < 5 * n ∨ 5 * n + 5 ≤ k) → e k = f k) := by
        have hkb := hkd.2
        unfold bX5_passesBy_6
        dsimp only
        rw [e_forceBy hN hK hn hw]
        simp (disch := omega) only [n_0, n_1, n_2, n_3, n_4, n_5, n_6, n_7, n_8, n_9, n_10, n_12, n_16, n_20, n_30, n_31, n_32, n_35, n_36, n_41, n_42, n_44, n_48, n_57, n_59, n_60, n_63, n_64, n_99, n_111, n_112, n_115, n_119, n_126, n_200, n_294, n_512, n_999, n_9999, n_1048576, px_bd, px_slt, px_rd, px_wr, px_cp, px_nz, px_lt, px_le, px_eq, nI_add, pk_mul, px_sub, px_or, px_and, px_xor, px_shl1, px_shr, L1, L2, hkd.1]
        rw [if_neg (by omega)]
        by_cases h3 : kd n = 3
        · rw [if_pos h3]
          by_cases h : L = 5
          · rw [if_pos (by omega)]
            refine ⟨_, rfl, fun k q1 q2 => ?_, h5o⟩
            rw [h5 k q1 q2]
            unfold wrow
            rw [if_pos ⟨q1, q2⟩, hL, if_neg (by omega)]
          · have hne := hnz (by omega)
            have hb3 := hb2 (5 * n + L) (by omega)
            rw [if_neg (by omega), h5 _ (by omega) (by omega), px_sub (by omega)]
            refine ⟨_, rfl, fun k q1 q2 => ?_, fun k hk => ?_⟩
            · unfold wrow
              rw [if_pos ⟨q1, q2⟩, hL]
              by_cases hk : k = 5 * n + L
              · subst hk
                rw [px_upd_s, if_pos ⟨by simp [h3], rfl⟩]
              · rw [px_upd_n hk, if_neg (by simp [hk]), h5 k q1 q2]
            · rw [px_upd_n (by omega), h5o k hk]
        · rw [if_neg h3]
          refine ⟨_, rfl, fun k q1 q2 => ?_, h5o⟩
          rw [h5 k q1 q2]
          unfold wrow
          rw [if_pos ⟨q1, q2⟩, if_neg (by simp [h3])]
      obtain ⟨e, e1, e2, e3⟩ := hB6
      refine ⟨(nI (n + 1), e), e1, rfl, fun k hk => ?_⟩
      show e k = nI (wrow (fc (kd n) w) (decide (kd n = 3)) (yrU kd w P n) (5 * n) k)
      rw [hr0]
      by_cases q : 5 * n ≤ k ∧ k < 5 * n + 5
      · exact e2 k q.1 q.2
      · rw [e3 k (by omega), wrow_out (by omega)]
        exact fp k hk) (by
      rintro ⟨v, f⟩ ⟨q1, fp⟩
      dsimp only at q1 fp
      subst q1
      refine ⟨f, ?_, fp⟩
      unfold bX5_passesBy_6
      simp (disch := omega) only [n_0, n_1, n_2, n_3, n_4, n_5, n_6, n_7, n_8, n_9, n_10, n_12, n_16, n_20, n_30, n_31, n_32, n_35, n_36, n_41, n_42, n_44, n_48, n_57, n_59, n_60, n_63, n_64, n_99, n_111, n_112, n_115, n_119, n_126, n_200, n_294, n_512, n_999, n_9999, n_1048576, px_bd, px_slt, px_rd, px_wr, px_cp, px_nz, px_lt, px_le, px_eq, nI_add, pk_mul, px_sub, px_or, px_and, px_xor, px_shl1, px_shr]
      rw [if_pos (Nat.le_refl _)])
  rw [hr, px_bd]
  simp (disch := omega) only [n_0, n_1, n_2, n_3, n_4, n_5, n_6, n_7, n_8, n_9, n_10, n_12, n_16, n_20, n_30, n_31, n_32, n_35, n_36, n_41, n_42, n_44, n_48, n_57, n_59, n_60, n_63, n_64, n_99, n_111, n_112, n_115, n_119, n_126, n_200, n_294, n_512, n_999, n_9999, n_1048576, px_bd, px_slt, px_rd, px_wr, px_cp, px_nz, px_lt, px_le, px_eq, nI_add, pk_mul, px_sub, px_or, px_and, px_xor, px_shl1, px_shr]
  exact ⟨_, _, rfl, r1, h2, fun p hp => pf_low hp, rfl⟩

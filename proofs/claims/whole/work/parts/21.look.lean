/-! how a peak looks: bits -/
def lkU (P : Nat → Nat) (p : Nat) : Nat → Nat
  | 0 => 0
  | t + 1 => if P (5 * p + t) = 0 then lkU P p t else lkU P p t ||| 2 ^ t
def lk (P : Nat → Nat) (p : Nat) : Nat := lkU P p 5
theorem lkU_lt (P : Nat → Nat) (p : Nat) : ∀ t, lkU P p t < 2 ^ t
  | 0 => Nat.one_pos
  | t + 1 => by
    have ih := lkU_lt P p t
    unfold lkU
    split
    · rw [Nat.pow_succ]; omega
    · refine Nat.or_lt_two_pow ?_ ?_
      · rw [Nat.pow_succ]; omega
      · exact Nat.pow_lt_pow_right (by omega) (by omega)
theorem lk_lt (P : Nat → Nat) (p : Nat) : lk P p < 32 := lkU_lt P p 5
/-- what both sides' numbers are: pins (below 30) -/
def PI (c : Nat → Int32) (P : Nat → Nat) : Prop := ∀ k, k < 30 → c k = nI (P k)
def PB (P : Nat → Nat) : Prop := ∀ k, k < 30 → P k ≤ 20
theorem e_pinsOn (c : Nat → Int32) {p t : Nat} (hp : p < 6) (ht : t < 5) : fX3_pinsOn c (nI p) (nI t) = some (c (5 * p + t)) := by
  unfold fX3_pinsOn
  simp (disch := omega) only [n_0, n_1, n_2, n_3, n_4, n_5, n_6, n_7, n_8, n_9, n_10, n_12, n_16, n_20, n_30, n_31, n_32, n_35, n_36, n_41, n_42, n_44, n_48, n_57, n_59, n_60, n_63, n_64, n_99, n_111, n_112, n_115, n_119, n_126, n_200, n_294, n_512, n_999, n_9999, n_1048576, px_bd, px_slt, px_rd, px_wr, px_cp, px_nz, px_lt, px_le, px_eq, nI_add, pk_mul, px_sub, px_or, px_and, px_xor, px_shl1, px_shr]
  rw [if_neg (by omega), if_neg (by omega), show p * 5 + t = 5 * p + t by omega]
theorem e_isOn {c : Nat → Int32} {P : Nat → Nat} (hP : PI c P) (hB : PB P) {p t : Nat} (hp : p < 6) (ht : t < 5) : fX3_isOn c (nI p) (nI t) = some (if P (5 * p + t) = 0 then nI 0 else nI 1) := by
  unfold fX3_isOn
  have h1 := hB (5 * p + t) (by omega)
  rw [e_pinsOn c hp ht, hP _ (by omega)]
  simp (disch := omega) only [n_0, n_1, n_2, n_3, n_4, n_5, n_6, n_7, n_8, n_9, n_10, n_12, n_16, n_20, n_30, n_31, n_32, n_35, n_36, n_41, n_42, n_44, n_48, n_57, n_59, n_60, n_63, n_64, n_99, n_111, n_112, n_115, n_119, n_126, n_200, n_294, n_512, n_999, n_9999, n_1048576, px_bd, px_slt, px_rd, px_wr, px_cp, px_nz, px_lt, px_le, px_eq, nI_add, pk_mul, px_sub, px_or, px_and, px_xor, px_shl1, px_shr]
  split <;> split <;> first | rfl | (exfalso; omega)
theorem e_looksOf {c : Nat → Int32} {P : Nat → Nat} (hP : PI c P) (hB : PB P) {p : Nat} (hp : p < 6) : fX3_looksOf c (nI p) = some (nI (lk P p)) := by
  unfold fX3_looksOf
  refine px_lp (fun t => (nI (lkU P p t), nI t)) 5 (nI (lk P p)) rfl (by omega) ?_ ?_ rfl
  · intro t ht
    unfold bX3_looksOf_4
    dsimp only
    have h1 := hB (5 * p + t) (by omega)
    rw [e_isOn hP hB hp ht]
    simp (disch := omega) only [n_0, n_1, n_2, n_3, n_4, n_5, n_6, n_7, n_8, n_9, n_10, n_12, n_16, n_20, n_30, n_31, n_32, n_35, n_36, n_41, n_42, n_44, n_48, n_57, n_59, n_60, n_63, n_64, n_99, n_111, n_112, n_115, n_119, n_126, n_200, n_294, n_512, n_999, n_9999, n_1048576, px_bd, px_slt, px_rd, px_wr, px_cp, px_nz, px_lt, px_le, px_eq, nI_add, pk_mul, px_sub, px_or, px_and, px_xor, px_shl1, px_shr]
    rw [if_neg (by omega), lkU]
    by_cases h : P (5 * p + t) = 0
    · simp (disch := omega) only [h, if_true, n_0, n_1, n_2, n_3, n_4, n_5, n_6, n_7, n_8, n_9, n_10, n_12, n_16, n_20, n_30, n_31, n_32, n_35, n_36, n_41, n_42, n_44, n_48, n_57, n_59, n_60, n_63, n_64, n_99, n_111, n_112, n_115, n_119, n_126, n_200, n_294, n_512, n_999, n_9999, n_1048576, px_bd, px_slt, px_rd, px_wr, px_cp, px_nz, px_lt, px_le, px_eq, nI_add, pk_mul, px_sub, px_or, px_and, px_xor, px_shl1, px_shr]
    · simp (disch := omega) only [h, if_false, n_0, n_1, n_2, n_3, n_4, n_5, n_6, n_7, n_8, n_9, n_10, n_12, n_16, n_20, n_30, n_31, n_32, n_35, n_36, n_41, n_42, n_44, n_48, n_57, n_59, n_60, n_63, n_64, n_99, n_111, n_112, n_115, n_119, n_126, n_200, n_294, n_512, n_999, n_9999, n_1048576, px_bd, px_slt, px_rd, px_wr, px_cp, px_nz, px_lt, px_le, px_eq, nI_add, pk_mul, px_sub, px_or, px_and, px_xor, px_shl1, px_shr]
      rfl
  · unfold bX3_looksOf_4
    simp (disch := omega) only [n_0, n_1, n_2, n_3, n_4, n_5, n_6, n_7, n_8, n_9, n_10, n_12, n_16, n_20, n_30, n_31, n_32, n_35, n_36, n_41, n_42, n_44, n_48, n_57, n_59, n_60, n_63, n_64, n_99, n_111, n_112, n_115, n_119, n_126, n_200, n_294, n_512, n_999, n_9999, n_1048576, px_bd, px_slt, px_rd, px_wr, px_cp, px_nz, px_lt, px_le, px_eq, nI_add, pk_mul, px_sub, px_or, px_and, px_xor, px_shl1, px_shr]
    rfl
theorem e_looks {c : Nat → Int32} {P : Nat → Nat} (hP : PI c P) (hB : PB P) {p : Nat} (hp : p < 6) : fX5_looks c (nI p) = some (nI (lk P p)) := by
  unfold fX5_looks
  refine px_lp (fun t => (nI (lkU P p t), nI t)) 5 (nI (lk P p)) rfl (by omega) ?_ ?_ rfl
  · intro t ht
    unfold bX5_looks_4
    have h1 := hB (5 * p + t) (by omega)
    simp (disch := omega) only [n_0, n_1, n_2, n_3, n_4, n_5, n_6, n_7, n_8, n_9, n_10, n_12, n_16, n_20, n_30, n_31, n_32, n_35, n_36, n_41, n_42, n_44, n_48, n_57, n_59, n_60, n_63, n_64, n_99, n_111, n_112, n_115, n_119, n_126, n_200, n_294, n_512, n_999, n_9999, n_1048576, px_bd, px_slt, px_rd, px_wr, px_cp, px_nz, px_lt, px_le, px_eq, nI_add, pk_mul, px_sub, px_or, px_and, px_xor, px_shl1, px_shr]
    rw [if_neg (by omega), lkU, hP _ (by omega)]
    simp (disch := omega) only [n_0, n_1, n_2, n_3, n_4, n_5, n_6, n_7, n_8, n_9, n_10, n_12, n_16, n_20, n_30, n_31, n_32, n_35, n_36, n_41, n_42, n_44, n_48, n_57, n_59, n_60, n_63, n_64, n_99, n_111, n_112, n_115, n_119, n_126, n_200, n_294, n_512, n_999, n_9999, n_1048576, px_bd, px_slt, px_rd, px_wr, px_cp, px_nz, px_lt, px_le, px_eq, nI_add, pk_mul, px_sub, px_or, px_and, px_xor, px_shl1, px_shr]
    by_cases h : P (5 * p + t) = 0
    · simp (disch := omega) only [h, Nat.le_refl, if_true, Nat.or_zero]
    · rw [if_neg (by omega), if_neg h]
  · unfold bX5_looks_4
    simp (disch := omega) only [n_0, n_1, n_2, n_3, n_4, n_5, n_6, n_7, n_8, n_9, n_10, n_12, n_16, n_20, n_30, n_31, n_32, n_35, n_36, n_41, n_42, n_44, n_48, n_57, n_59, n_60, n_63, n_64, n_99, n_111, n_112, n_115, n_119, n_126, n_200, n_294, n_512, n_999, n_9999, n_1048576, px_bd, px_slt, px_rd, px_wr, px_cp, px_nz, px_lt, px_le, px_eq, nI_add, pk_mul, px_sub, px_or, px_and, px_xor, px_shl1, px_shr]
    rfl

/-! count -/
def onU (P : Nat → Nat) : Nat → Nat
  | 0 => 0
  | k + 1 => onU P k + if P k = 0 then 0 else 1
def smU (P : Nat → Nat) : Nat → Nat
  | 0 => 0
  | k + 1 => smU P k + P k
theorem onU_le (P : Nat → Nat) : ∀ k, onU P k ≤ k
  | 0 => Nat.le_refl 0
  | k + 1 => by
    have := onU_le P k
    unfold onU; split <;> omega
theorem smU_le {P : Nat → Nat} (h : PB P) : ∀ k, k ≤ 30 → smU P k ≤ 20 * k
  | 0, _ => Nat.le_refl 0
  | k + 1, hk => by
    have h1 := smU_le h k (by omega)
    have h2 := h k (by omega)
    unfold smU; omega
theorem onU_z {P : Nat → Nat} {n : Nat} (h : ∀ k, n ≤ k → k < 30 → P k = 0) : ∀ j, n + j ≤ 30 → onU P (n + j) = onU P n
  | 0, _ => rfl
  | j + 1, hj => by
    rw [← Nat.add_assoc]
    unfold onU
    rw [if_pos (h (n + j) (by omega) (by omega)), Nat.add_zero]
    have := onU_z h j (by omega)
    cases n with
    | zero => exact this
    | succ n => exact this
theorem smU_z {P : Nat → Nat} {n : Nat} (h : ∀ k, n ≤ k → k < 30 → P k = 0) : ∀ j, n + j ≤ 30 → smU P (n + j) = smU P n
  | 0, _ => rfl
  | j + 1, hj => by
    show smU P (n + j) + P (n + j) = smU P n
    rw [h (n + j) (by omega) (by omega), Nat.add_zero]
    exact smU_z h j (by omega)
theorem pc_lk (P : Nat → Nat) (p : Nat) : onU P (5 * p) + pc (lk P p) = onU P (5 * (p + 1)) := by
  have h := lk_lt P p
  have b0 := lk_bit P p (t := 0) (by omega)
  have b1 := lk_bit P p (t := 1) (by omega)
  have b2 := lk_bit P p (t := 2) (by omega)
  have b3 := lk_bit P p (t := 3) (by omega)
  have b4 := lk_bit P p (t := 4) (by omega)
  rw [show 5 * (p + 1) = 5 * p + 5 by omega]
  show _ = onU P (5 * p) + (if P (5 * p) = 0 then 0 else 1) + (if P (5 * p + 1) = 0 then 0 else 1) + (if P (5 * p + 2) = 0 then 0 else 1) + (if P (5 * p + 3) = 0 then 0 else 1) + (if P (5 * p + 4) = 0 then 0 else 1)
  unfold pc
  simp only [Nat.pow_zero, Nat.div_one, Nat.add_zero, Nat.reducePow] at b0 b1 b2 b3 b4
  omega
theorem e_trimmingsOn {c : Nat → Int32} {P : Nat → Nat} (hP : PI c P) (hB : PB P) : fX3_trimmingsOn c = some (nI (onU P 30)) := by
  unfold fX3_trimmingsOn
  refine px_lp (fun p => (nI (onU P (5 * p)), nI p)) 6 (nI (onU P 30)) rfl (by omega) ?_ ?_ rfl
  · intro p hp
    have h := lk_lt P p
    unfold bX3_trimmingsOn_4
    dsimp only
    rw [n_6, if_neg (by rw [px_le (by omega) (by omega)]; omega), e_looksOf hP hB hp, px_bd, e_bitCount _ (by omega), px_bd, nI_add, px_slt, n_1, nI_add, pc_lk]
  · unfold bX3_trimmingsOn_4
    dsimp only
    rw [n_6, if_pos (by decide)]
theorem e_onMany {N : Nat} {c : Nat → Int32} {P : Nat → Nat} (hN : N ≤ 6) (hP : PI c P) (hB : PZ N P) : fX5_onMany (nI N) c = some (nI (onU P 30)) := by
  have hz := onU_z hB.2 (30 - 5 * N) (by omega)
  rw [show 5 * N + (30 - 5 * N) = 30 by omega] at hz
  rw [hz]
  unfold fX5_onMany
  refine px_lp (fun k => (nI (onU P k), nI k)) (5 * N) (nI (onU P (5 * N))) rfl (by omega) ?_ ?_ rfl
  · intro k hk
    have hb := hB.1 k (by omega)
    unfold bX5_onMany_4
    simp (disch := omega) only [n_0, n_1, n_2, n_3, n_4, n_5, n_6, n_7, n_8, n_9, n_10, n_12, n_16, n_20, n_30, n_31, n_32, n_35, n_36, n_41, n_42, n_44, n_48, n_57, n_59, n_60, n_63, n_64, n_99, n_111, n_112, n_115, n_119, n_126, n_200, n_294, n_512, n_999, n_9999, n_1048576, px_bd, px_slt, px_rd, px_wr, px_cp, px_nz, px_lt, px_le, px_eq, nI_add, pk_mul, px_sub, px_or, px_and, px_xor, px_shl1, px_shr, hP k (by omega)]
    rw [if_neg (by omega)]
    show _ = some (Sum.inl (nI (onU P k + if P k = 0 then 0 else 1), nI (k + 1)))
    by_cases h : P k = 0
    · rw [if_pos (by omega), if_pos h]
    · rw [if_neg (by omega), if_neg h]
  · unfold bX5_onMany_4
    simp (disch := omega) only [n_0, n_1, n_2, n_3, n_4, n_5, n_6, n_7, n_8, n_9, n_10, n_12, n_16, n_20, n_30, n_31, n_32, n_35, n_36, n_41, n_42, n_44, n_48, n_57, n_59, n_60, n_63, n_64, n_99, n_111, n_112, n_115, n_119, n_126, n_200, n_294, n_512, n_999, n_9999, n_1048576, px_bd, px_slt, px_rd, px_wr, px_cp, px_nz, px_lt, px_le, px_eq, nI_add, pk_mul, px_sub, px_or, px_and, px_xor, px_shl1, px_shr]
    rw [if_pos (by omega)]
theorem e_sumPins {c : Nat → Int32} {P : Nat → Nat} (hP : PI c P) : fX3_sumOf c (0 : Int32) (30 : Int32) = some (nI (smU P 30)) := by
  unfold fX3_sumOf
  rw [px_slt, if_neg (by decide)]
  refine px_lp (fun k => (nI (smU P k), nI k)) 30 (nI (smU P 30)) rfl (by omega) ?_ ?_ rfl
  · intro k hk
    unfold bX3_sumOf_9
    simp (disch := omega) only [n_0, n_1, n_2, n_3, n_4, n_5, n_6, n_7, n_8, n_9, n_10, n_12, n_16, n_20, n_30, n_31, n_32, n_35, n_36, n_41, n_42, n_44, n_48, n_57, n_59, n_60, n_63, n_64, n_99, n_111, n_112, n_115, n_119, n_126, n_200, n_294, n_512, n_999, n_9999, n_1048576, px_bd, px_slt, px_rd, px_wr, px_cp, px_nz, px_lt, px_le, px_eq, nI_add, pk_mul, px_sub, px_or, px_and, px_xor, px_shl1, px_shr, hP k (by omega)]
    rw [if_neg (by omega), if_neg (by omega)]
    rfl
  · unfold bX3_sumOf_9
    simp (disch := omega) only [n_0, n_1, n_2, n_3, n_4, n_5, n_6, n_7, n_8, n_9, n_10, n_12, n_16, n_20, n_30, n_31, n_32, n_35, n_36, n_41, n_42, n_44, n_48, n_57, n_59, n_60, n_63, n_64, n_99, n_111, n_112, n_115, n_119, n_126, n_200, n_294, n_512, n_999, n_9999, n_1048576, px_bd, px_slt, px_rd, px_wr, px_cp, px_nz, px_lt, px_le, px_eq, nI_add, pk_mul, px_sub, px_or, px_and, px_xor, px_shl1, px_shr]
    rfl
theorem e_pinsAll {N : Nat} {c : Nat → Int32} {P : Nat → Nat} (hN : N ≤ 6) (hP : PI c P) (hB : PZ N P) : fX5_pinsAll (nI N) c = some (nI (smU P 30)) := by
  have hz := smU_z hB.2 (30 - 5 * N) (by omega)
  rw [show 5 * N + (30 - 5 * N) = 30 by omega] at hz
  rw [hz]
  unfold fX5_pinsAll
  refine px_lp (fun k => (nI (smU P k), nI k)) (5 * N) (nI (smU P (5 * N))) rfl (by omega) ?_ ?_ rfl
  · intro k hk
    unfold bX5_pinsAll_4
    simp (disch := omega) only [n_0, n_1, n_2, n_3, n_4, n_5, n_6, n_7, n_8, n_9, n_10, n_12, n_16, n_20, n_30, n_31, n_32, n_35, n_36, n_41, n_42, n_44, n_48, n_57, n_59, n_60, n_63, n_64, n_99, n_111, n_112, n_115, n_119, n_126, n_200, n_294, n_512, n_999, n_9999, n_1048576, px_bd, px_slt, px_rd, px_wr, px_cp, px_nz, px_lt, px_le, px_eq, nI_add, pk_mul, px_sub, px_or, px_and, px_xor, px_shl1, px_shr, hP k (by omega)]
    rw [if_neg (by omega)]
    rfl
  · unfold bX5_pinsAll_4
    simp (disch := omega) only [n_0, n_1, n_2, n_3, n_4, n_5, n_6, n_7, n_8, n_9, n_10, n_12, n_16, n_20, n_30, n_31, n_32, n_35, n_36, n_41, n_42, n_44, n_48, n_57, n_59, n_60, n_63, n_64, n_99, n_111, n_112, n_115, n_119, n_126, n_200, n_294, n_512, n_999, n_9999, n_1048576, px_bd, px_slt, px_rd, px_wr, px_cp, px_nz, px_lt, px_le, px_eq, nI_add, pk_mul, px_sub, px_or, px_and, px_xor, px_shl1, px_shr]
    rw [if_pos (by omega)]
def siU (f : Nat → Int32) : Nat → Int32
  | 0 => 0
  | k + 1 => siU f k + f k
theorem siU_cong {f g : Nat → Int32} : ∀ n, (∀ k, k < n → f k = g k) → siU f n = siU g n
  | 0, _ => rfl
  | n + 1, h => by
    unfold siU
    rw [siU_cong n (fun k hk => h k (by omega)), h n (by omega)]
theorem e_sumStore {c : Nat → Int32} : fX3_sumOf c (30 : Int32) (5 : Int32) = some (siU (fun t => c (30 + t)) 5) := by
  unfold fX3_sumOf
  rw [px_slt, if_pos (by decide)]
  refine px_lp (fun k => (siU (fun t => c (30 + t)) k, nI (30 + k))) 5 _ rfl (by omega) ?_ ?_ rfl
  · intro k hk
    unfold bX3_sumOf_9
    simp (disch := omega) only [n_0, n_1, n_2, n_3, n_4, n_5, n_6, n_7, n_8, n_9, n_10, n_12, n_16, n_20, n_30, n_31, n_32, n_35, n_36, n_41, n_42, n_44, n_48, n_57, n_59, n_60, n_63, n_64, n_99, n_111, n_112, n_115, n_119, n_126, n_200, n_294, n_512, n_999, n_9999, n_1048576, px_bd, px_slt, px_rd, px_wr, px_cp, px_nz, px_lt, px_le, px_eq, nI_add, pk_mul, px_sub, px_or, px_and, px_xor, px_shl1, px_shr]
    rw [if_neg (by omega), if_neg (by omega)]
    rfl
  · unfold bX3_sumOf_9
    simp (disch := omega) only [n_0, n_1, n_2, n_3, n_4, n_5, n_6, n_7, n_8, n_9, n_10, n_12, n_16, n_20, n_30, n_31, n_32, n_35, n_36, n_41, n_42, n_44, n_48, n_57, n_59, n_60, n_63, n_64, n_99, n_111, n_112, n_115, n_119, n_126, n_200, n_294, n_512, n_999, n_9999, n_1048576, px_bd, px_slt, px_rd, px_wr, px_cp, px_nz, px_lt, px_le, px_eq, nI_add, pk_mul, px_sub, px_or, px_and, px_xor, px_shl1, px_shr]
    rfl
theorem e_storedAll {f : Nat → Int32} : fX5_storedAll f = some (siU f 5) := by
  unfold fX5_storedAll
  refine px_lp (fun k => (siU f k, nI k)) 5 _ rfl (by omega) ?_ ?_ rfl
  · intro k hk
    unfold bX5_storedAll_4
    simp (disch := omega) only [n_0, n_1, n_2, n_3, n_4, n_5, n_6, n_7, n_8, n_9, n_10, n_12, n_16, n_20, n_30, n_31, n_32, n_35, n_36, n_41, n_42, n_44, n_48, n_57, n_59, n_60, n_63, n_64, n_99, n_111, n_112, n_115, n_119, n_126, n_200, n_294, n_512, n_999, n_9999, n_1048576, px_bd, px_slt, px_rd, px_wr, px_cp, px_nz, px_lt, px_le, px_eq, nI_add, pk_mul, px_sub, px_or, px_and, px_xor, px_shl1, px_shr]
    rw [if_neg (by omega)]
    rfl
  · unfold bX5_storedAll_4
    simp (disch := omega) only [n_0, n_1, n_2, n_3, n_4, n_5, n_6, n_7, n_8, n_9, n_10, n_12, n_16, n_20, n_30, n_31, n_32, n_35, n_36, n_41, n_42, n_44, n_48, n_57, n_59, n_60, n_63, n_64, n_99, n_111, n_112, n_115, n_119, n_126, n_200, n_294, n_512, n_999, n_9999, n_1048576, px_bd, px_slt, px_rd, px_wr, px_cp, px_nz, px_lt, px_le, px_eq, nI_add, pk_mul, px_sub, px_or, px_and, px_xor, px_shl1, px_shr]
    rfl
def okU (N : Nat) (P : Nat → Nat) (g : Nat → Int32) : Nat → Nat
  | 0 => 0
  | p + 1 => okU N P g p + if knv N P (g p) = nI p then 1 else 0
theorem okU_cong {N : Nat} {P : Nat → Nat} {f g : Nat → Int32} : ∀ n, (∀ k, k < n → f k = g k) → okU N P f n = okU N P g n
  | 0, _ => rfl
  | n + 1, h => by
    unfold okU
    rw [okU_cong n (fun k hk => h k (by omega)), h n (by omega)]
theorem e_ownC {N : Nat} {c : Nat → Int32} {P : Nat → Nat} (hN : N ≤ 6) (hP : PI c P) (hB : PB P) : fX4_peaksKnownAsThemselves (nI N) c = some (nI (okU N P (fun p => c (35 + p)) N)) := by
  unfold fX4_peaksKnownAsThemselves
  refine px_lp (fun p => (nI (okU N P (fun p => c (35 + p)) p), nI p)) N _ rfl (by omega) ?_ ?_ rfl
  · intro p hp
    unfold bX4_peaksKnownAsThemselves_4
    dsimp only
    rw [if_neg (by rw [px_le (by omega) (by omega)]; omega), e_guideOf c (by omega), px_bd, e_knownBy hN hP hB, px_bd, n_1, nI_add, nI_add]
    show _ = some (Sum.inl (nI (okU N P (fun p => c (35 + p)) p + if knv N P (c (35 + p)) = nI p then 1 else 0), nI (p + 1)))
    by_cases h : knv N P (c (35 + p)) = nI p
    · rw [if_pos h, if_pos h]
    · rw [if_neg h, if_neg h]
      rfl
  · unfold bX4_peaksKnownAsThemselves_4
    dsimp only
    rw [if_pos (by rw [px_le (by omega) (by omega)]; omega)]
theorem e_ownM {N : Nat} {c g : Nat → Int32} {P : Nat → Nat} (hN : N ≤ 6) (hP : PI c P) (hB : PB P) : fX5_ownKnown (nI N) c g = some (nI (okU N P g N)) := by
  unfold fX5_ownKnown
  refine px_lp (fun p => (nI (okU N P g p), nI p)) N _ rfl (by omega) ?_ ?_ rfl
  · intro p hp
    unfold bX5_ownKnown_4
    dsimp only
    rw [if_neg (by rw [px_le (by omega) (by omega)]; omega), e_mKnownBy hN hP hB (by omega), px_bd, n_1, n_0, nI_add, nI_add, nI_add, px_slt, px_slt]
    show _ = some (Sum.inl (nI (okU N P g p + if knv N P (g p) = nI p then 1 else 0), nI (p + 1)))
    by_cases h : knv N P (g p) = nI p
    · rw [if_pos h, if_pos h]
    · rw [if_neg h, if_neg h]
  · unfold bX5_ownKnown_4
    dsimp only
    rw [if_pos (by rw [px_le (by omega) (by omega)]; omega)]
theorem op_count {N : Nat} {now pinned stored guides : Nat → Int32} {year cnt saidMany len size held many kheld kmany : Int32} {A : AS} (h1 : 1 ≤ N) (hN : N ≤ 6) (hD : RDs N now pinned stored guides year A) (hc : cnt = saidMany) (ht : len = size) (hu : held = many) (hk : kheld = kmany) (v : Int32) : ∃ r, fX4_count cnt len (nI N) now held kheld v = some r ∧ fX5_count (nI N) year saidMany size many kmany pinned stored guides v = some r := by
  subst hc; subst ht; subst hu; subst hk
  have hB := hD.2.2.1.1
  have hs : siU (fun t => now (30 + t)) 5 = siU stored 5 := siU_cong 5 (fun t ht => by rw [hD.1.2.1 t ht, hD.2.1.2.1 t ht])
  have ho : okU N A.1 (fun p => now (35 + p)) N = okU N A.1 guides N := okU_cong N (fun p hp => by rw [hD.1.2.2.1 p (by omega), hD.2.1.2.2.1 p hp])
  unfold fX4_count fX5_count
  rw [e_yearNow, px_bd, hD.1.2.2.2, hD.2.1.2.2.2, e_trimmingsOn hD.1.1 hB, px_bd, e_onMany hN hD.2.1.1 hD.2.2.1, px_bd, e_sumStore, px_bd, e_storedAll, px_bd, hs, e_sumPins hD.1.1, px_bd, e_pinsAll hN hD.2.1.1 hD.2.2.1, px_bd, e_ownC hN hD.1.1 hB, px_bd, e_ownM hN hD.2.1.1 hB, px_bd, ho]
  rcases px_rng v 0 9 (by omega) (by omega) with h | h | ⟨j, j1, j2, rfl⟩
  · have h : v < (0 : Int32) := h
    rw [e_in_bad (Or.inl h), px_bd, if_pos rfl]
    refine ⟨-1, ?_, rfl⟩
    have hne : ∀ k : Nat, k < 10 → ¬ v = nI k := fun k hk z => by
      subst z
      exact nI_pos (by omega) h
    rw [if_neg (show ¬ v = (0 : Int32) from hne 0 (by omega)), if_neg (show ¬ v = (1 : Int32) from hne 1 (by omega)), if_neg (show ¬ v = (2 : Int32) from hne 2 (by omega)), if_neg (show ¬ v = (3 : Int32) from hne 3 (by omega)), if_neg (show ¬ v = (4 : Int32) from hne 4 (by omega)), if_neg (show ¬ v = (5 : Int32) from hne 5 (by omega)), if_neg (show ¬ v = (6 : Int32) from hne 6 (by omega)), if_neg (show ¬ v = (7 : Int32) from hne 7 (by omega)), if_neg (show ¬ v = (8 : Int32) from hne 8 (by omega)), if_neg (show ¬ v = (9 : Int32) from hne 9 (by omega))]
  · have h : (9 : Int32) < v := h
    rw [e_in_bad (Or.inr h), px_bd, if_pos rfl]
    refine ⟨-1, ?_, rfl⟩
    have hne : ∀ k : Nat, k < 10 → ¬ v = nI k := fun k hk z => by
      subst z
      rw [n_9, px_lt (by omega) (by omega)] at h
      omega
    rw [if_neg (show ¬ v = (0 : Int32) from hne 0 (by omega)), if_neg (show ¬ v = (1 : Int32) from hne 1 (by omega)), if_neg (show ¬ v = (2 : Int32) from hne 2 (by omega)), if_neg (show ¬ v = (3 : Int32) from hne 3 (by omega)), if_neg (show ¬ v = (4 : Int32) from hne 4 (by omega)), if_neg (show ¬ v = (5 : Int32) from hne 5 (by omega)), if_neg (show ¬ v = (6 : Int32) from hne 6 (by omega)), if_neg (show ¬ v = (7 : Int32) from hne 7 (by omega)), if_neg (show ¬ v = (8 : Int32) from hne 8 (by omega)), if_neg (show ¬ v = (9 : Int32) from hne 9 (by omega))]
  · have e9 : fX5_in (nI j) (0 : Int32) (9 : Int32) = some (1 : Int32) := e_in (j := j) (a := 0) (b := 9) (by omega) (by omega) j1 j2
    rw [e9, px_bd, if_neg i01]
    have : j = 0 ∨ j = 1 ∨ j = 2 ∨ j = 3 ∨ j = 4 ∨ j = 5 ∨ j = 6 ∨ j = 7 ∨ j = 8 ∨ j = 9 := by omega
    rcases this with rfl | rfl | rfl | rfl | rfl | rfl | rfl | rfl | rfl | rfl <;> exact ⟨_, rfl, rfl⟩

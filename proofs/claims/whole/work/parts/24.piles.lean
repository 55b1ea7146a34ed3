/-! years one behind the other -/
def yrs (N : Nat) (kd : Nat → Nat) (Wn : Nat) (wv : Nat → Nat) : Nat → AS → AS
  | 0, A => A
  | n + 1, A => yrA N kd (wnd Wn wv (yrs N kd Wn wv n A).2.2.2) (yrs N kd Wn wv n A)
theorem yrs_y (N : Nat) (kd : Nat → Nat) (Wn : Nat) (wv : Nat → Nat) (A : AS) : ∀ n, (yrs N kd Wn wv n A).2.2.2 = A.2.2.2 + n
  | 0 => rfl
  | n + 1 => by
    show (yrs N kd Wn wv n A).2.2.2 + 1 = _
    rw [yrs_y N kd Wn wv A n]; omega
def PZ (N : Nat) (P : Nat → Nat) : Prop := PB P ∧ (∀ k, 5 * N ≤ k → k < 30 → P k = 0)
theorem yrs_ok {N : Nat} {kd : Nat → Nat} {Wn : Nat} {wv : Nat → Nat} {A : AS} (h : PZ N A.1) : ∀ n, PZ N (yrs N kd Wn wv n A).1
  | 0 => h
  | n + 1 => yrA_ok (yrs_ok h n)
theorem e_letYears {N Wn : Nat} {c kinds winds : Nat → Int32} {kd wv : Nat → Nat} {A : AS} (hN : N ≤ 6) (hWn : Wn ≤ 12) (hK : KI N kinds kd) (hW : WI Wn winds wv) (hC : CS c A) (hB : PZ N A.1) (hy : A.2.2.2 ≤ 2000) {n : Nat} (hn : n ≤ 60) : ∃ c', fX4_letYearsGoBy (nI N) (nI Wn) kinds winds c (nI n) = some c' ∧ CS c' (yrs N kd Wn wv n A) := by
  unfold fX4_letYearsGoBy
  obtain ⟨r, hr, h2⟩ := px_inv0 (B := bX4_letYearsGoBy_2 (nI N) (nI Wn) kinds winds (nI n)) (n := 1000) (s0 := ((0 : Int32), c)) (R := fun r => CS r (yrs N kd Wn wv n A)) (fun j s => s.1 = nI j ∧ CS s.2 (yrs N kd Wn wv j A)) n (by omega) ⟨rfl, hC⟩ (by
      rintro j ⟨v, f⟩ hj ⟨q1, q2⟩
      dsimp only at q1 q2
      subst q1
      have hyj := yrs_y N kd Wn wv A j
      obtain ⟨e, e1, e2⟩ := e_letYear hN hWn hK hW q2 (yrs_ok hB j).1 (by omega)
      refine ⟨(nI (j + 1), e), ?_, rfl, e2⟩
      unfold bX4_letYearsGoBy_2
      simp (disch := omega) only [n_0, n_1, n_2, n_3, n_4, n_5, n_6, n_7, n_8, n_9, n_10, n_12, n_16, n_20, n_30, n_31, n_32, n_35, n_36, n_41, n_42, n_44, n_48, n_57, n_59, n_60, n_63, n_64, n_99, n_111, n_112, n_115, n_119, n_126, n_200, n_294, n_512, n_999, n_9999, n_1048576, px_bd, px_slt, px_rd, px_wr, px_cp, px_nz, px_lt, px_le, px_eq, nI_add, pk_mul, px_sub, px_or, px_and, px_xor, px_shl1, px_shr]
      rw [if_neg (by omega), e1, px_bd]) (by
      rintro ⟨v, f⟩ ⟨q1, q2⟩
      dsimp only at q1 q2
      subst q1
      refine ⟨f, ?_, q2⟩
      unfold bX4_letYearsGoBy_2
      simp (disch := omega) only [n_0, n_1, n_2, n_3, n_4, n_5, n_6, n_7, n_8, n_9, n_10, n_12, n_16, n_20, n_30, n_31, n_32, n_35, n_36, n_41, n_42, n_44, n_48, n_57, n_59, n_60, n_63, n_64, n_99, n_111, n_112, n_115, n_119, n_126, n_200, n_294, n_512, n_999, n_9999, n_1048576, px_bd, px_slt, px_rd, px_wr, px_cp, px_nz, px_lt, px_le, px_eq, nI_add, pk_mul, px_sub, px_or, px_and, px_xor, px_shl1, px_shr]
      rw [if_pos (Nat.le_refl _)])
  rw [hr, px_bd]
  exact ⟨r, rfl, h2⟩
theorem e_goesOn {N Wn : Nat} {pinned kinds winds stored guides : Nat → Int32} {year : Int32} {kd wv : Nat → Nat} {A : AS} (hN : N ≤ 6) (hWn : Wn ≤ 12) (hK : KI N kinds kd) (hW : WI Wn winds wv) (hM : MS N pinned stored guides year A) (hB : PZ N A.1) (hy : A.2.2.2 ≤ 2000) {n : Nat} (hn : n ≤ 60) : ∃ p' g', fX5_goesOn (nI N) (nI Wn) year kinds winds pinned guides (nI n) = some (nI (A.2.2.2 + n), p', g') ∧ MS N p' stored g' (nI (A.2.2.2 + n)) (yrs N kd Wn wv n A) := by
  unfold fX5_goesOn
  have hy0 : year = nI A.2.2.2 := hM.2.2.2
  obtain ⟨r, hr, h0, h2⟩ := px_inv0 (B := bX5_goesOn_2 (nI N) (nI Wn) kinds winds (nI n)) (n := 1000) (s0 := ((0 : Int32), year, pinned, guides)) (R := fun r => r.1 = nI (A.2.2.2 + n) ∧ MS N r.2.1 stored r.2.2 (nI (A.2.2.2 + n)) (yrs N kd Wn wv n A)) (fun j s => s.1 = nI j ∧ s.2.1 = nI (A.2.2.2 + j) ∧ MS N s.2.2.1 stored s.2.2.2 (nI (A.2.2.2 + j)) (yrs N kd Wn wv j A)) n (by omega) ⟨rfl, hy0, by rw [Nat.add_zero, ← hy0]; exact hM⟩ (by
      rintro j ⟨v, yy, f, g⟩ hj ⟨q1, q2, q3⟩
      dsimp only at q1 q2 q3
      subst q1
      subst q2
      have hyj := yrs_y N kd Wn wv A j
      obtain ⟨e, g', e1, e2⟩ := e_passesBy (w := wnd Wn wv (A.2.2.2 + j)) hN hK q3 (yrs_ok hB j).1 (wnd_le hW)
      refine ⟨(nI (j + 1), nI (A.2.2.2 + (j + 1)), e, g'), ?_, rfl, rfl, ?_⟩
      · unfold bX5_goesOn_2
        simp (disch := omega) only [n_0, n_1, n_2, n_3, n_4, n_5, n_6, n_7, n_8, n_9, n_10, n_12, n_16, n_20, n_30, n_31, n_32, n_35, n_36, n_41, n_42, n_44, n_48, n_57, n_59, n_60, n_63, n_64, n_99, n_111, n_112, n_115, n_119, n_126, n_200, n_294, n_512, n_999, n_9999, n_1048576, px_bd, px_slt, px_rd, px_wr, px_cp, px_nz, px_lt, px_le, px_eq, nI_add, pk_mul, px_sub, px_or, px_and, px_xor, px_shl1, px_shr]
        rw [if_neg (by omega), e_windOf hWn hW (by omega), px_bd, e1, px_bd, hyj]
        rfl
      · rw [hyj] at e2
        show MS N e stored g' (nI (A.2.2.2 + (j + 1))) (yrA N kd (wnd Wn wv (yrs N kd Wn wv j A).2.2.2) (yrs N kd Wn wv j A))
        rw [hyj]
        exact e2) (by
      rintro ⟨v, yy, f, g⟩ ⟨q1, q2, q3⟩
      dsimp only at q1 q2 q3
      subst q1
      refine ⟨(yy, f, g), ?_, q2, q3⟩
      unfold bX5_goesOn_2
      simp (disch := omega) only [n_0, n_1, n_2, n_3, n_4, n_5, n_6, n_7, n_8, n_9, n_10, n_12, n_16, n_20, n_30, n_31, n_32, n_35, n_36, n_41, n_42, n_44, n_48, n_57, n_59, n_60, n_63, n_64, n_99, n_111, n_112, n_115, n_119, n_126, n_200, n_294, n_512, n_999, n_9999, n_1048576, px_bd, px_slt, px_rd, px_wr, px_cp, px_nz, px_lt, px_le, px_eq, nI_add, pk_mul, px_sub, px_or, px_and, px_xor, px_shl1, px_shr]
      rw [if_pos (Nat.le_refl _)])
  obtain ⟨r1, r2, r3⟩ := r
  dsimp only at h0 h2
  rw [hr, px_bd, h0]
  exact ⟨r2, r3, rfl, h2⟩
/-! the reference's rows laid aside: year, pins, store, guides -/
def ME (N : Nat) (e : Nat → Int32) (A : AS) : Prop := e 0 = nI A.2.2.2 ∧ (∀ k, k < 30 → e (1 + k) = nI (A.1 k)) ∧ (∀ t, t < 5 → e (31 + t) = A.2.1 t) ∧ (∀ p, p < N → e (36 + p) = A.2.2.1 p)
theorem e_lays {N n a : Nat} {pinned stored guides p1 : Nat → Int32} {year : Int32} {A : AS} (hN : N ≤ 6) (hM : MS N pinned stored guides year A) (hn : n ≤ 400) (ha : a + 42 ≤ n) : ∃ w, fX5_lays n year pinned stored guides p1 (nI a) = some w ∧ ME N (fun k => w (a + k)) A ∧ ∀ k, (k < a ∨ a + 42 ≤ k) → w k = p1 k := by
  obtain ⟨h1, h2, h3, h4⟩ := hM
  refine ⟨pf (pf (pf (upd p1 a year) pinned (a + 1) 30) stored (a + 31) 5) guides (a + 36) 6, ?_, ⟨?_, fun k hk => ?_, fun t ht => ?_, fun p hp => ?_⟩, fun k hk => ?_⟩
  · unfold fX5_lays
    simp (disch := omega) only [px_wr]
    refine px_lp (fun j => (nI j, pf (upd p1 a year) pinned (a + 1) j)) 30 (pf (upd p1 a year) pinned (a + 1) 30) ?_ (by omega) ?_ ?_ ?_
    · rw [pf_0]; rfl
    · intro j hj
      unfold bX5_lays_9
      simp (disch := omega) only [n_0, n_1, n_2, n_3, n_4, n_5, n_6, n_7, n_8, n_9, n_10, n_12, n_16, n_20, n_30, n_31, n_32, n_35, n_36, n_41, n_42, n_44, n_48, n_57, n_59, n_60, n_63, n_64, n_99, n_111, n_112, n_115, n_119, n_126, n_200, n_294, n_512, n_999, n_9999, n_1048576, px_bd, px_slt, px_rd, px_wr, px_cp, px_nz, px_lt, px_le, px_eq, nI_add, pk_mul, px_sub, px_or, px_and, px_xor, px_shl1, px_shr]
      rw [if_neg (by omega), pf_succ]
    · unfold bX5_lays_9
      simp (disch := omega) only [n_0, n_1, n_2, n_3, n_4, n_5, n_6, n_7, n_8, n_9, n_10, n_12, n_16, n_20, n_30, n_31, n_32, n_35, n_36, n_41, n_42, n_44, n_48, n_57, n_59, n_60, n_63, n_64, n_99, n_111, n_112, n_115, n_119, n_126, n_200, n_294, n_512, n_999, n_9999, n_1048576, px_bd, px_slt, px_rd, px_wr, px_cp, px_nz, px_lt, px_le, px_eq, nI_add, pk_mul, px_sub, px_or, px_and, px_xor, px_shl1, px_shr]
      rfl
    refine px_lp (fun j => (nI j, pf (pf (upd p1 a year) pinned (a + 1) 30) stored (a + 31) j)) 5 (pf (pf (upd p1 a year) pinned (a + 1) 30) stored (a + 31) 5) ?_ (by omega) ?_ ?_ ?_
    · rw [pf_0]; rfl
    · intro j hj
      unfold bX5_lays_36
      simp (disch := omega) only [n_0, n_1, n_2, n_3, n_4, n_5, n_6, n_7, n_8, n_9, n_10, n_12, n_16, n_20, n_30, n_31, n_32, n_35, n_36, n_41, n_42, n_44, n_48, n_57, n_59, n_60, n_63, n_64, n_99, n_111, n_112, n_115, n_119, n_126, n_200, n_294, n_512, n_999, n_9999, n_1048576, px_bd, px_slt, px_rd, px_wr, px_cp, px_nz, px_lt, px_le, px_eq, nI_add, pk_mul, px_sub, px_or, px_and, px_xor, px_shl1, px_shr]
      rw [if_neg (by omega), pf_succ]
    · unfold bX5_lays_36
      simp (disch := omega) only [n_0, n_1, n_2, n_3, n_4, n_5, n_6, n_7, n_8, n_9, n_10, n_12, n_16, n_20, n_30, n_31, n_32, n_35, n_36, n_41, n_42, n_44, n_48, n_57, n_59, n_60, n_63, n_64, n_99, n_111, n_112, n_115, n_119, n_126, n_200, n_294, n_512, n_999, n_9999, n_1048576, px_bd, px_slt, px_rd, px_wr, px_cp, px_nz, px_lt, px_le, px_eq, nI_add, pk_mul, px_sub, px_or, px_and, px_xor, px_shl1, px_shr]
      rfl
    refine px_lp (fun j => (nI j, pf (pf (pf (upd p1 a year) pinned (a + 1) 30) stored (a + 31) 5) guides (a + 36) j)) 6 _ ?_ (by omega) ?_ ?_ rfl
    · rw [pf_0]; rfl
    · intro j hj
      unfold bX5_lays_63
      simp (disch := omega) only [n_0, n_1, n_2, n_3, n_4, n_5, n_6, n_7, n_8, n_9, n_10, n_12, n_16, n_20, n_30, n_31, n_32, n_35, n_36, n_41, n_42, n_44, n_48, n_57, n_59, n_60, n_63, n_64, n_99, n_111, n_112, n_115, n_119, n_126, n_200, n_294, n_512, n_999, n_9999, n_1048576, px_bd, px_slt, px_rd, px_wr, px_cp, px_nz, px_lt, px_le, px_eq, nI_add, pk_mul, px_sub, px_or, px_and, px_xor, px_shl1, px_shr]
      rw [if_neg (by omega), pf_succ]
    · unfold bX5_lays_63
      simp (disch := omega) only [n_0, n_1, n_2, n_3, n_4, n_5, n_6, n_7, n_8, n_9, n_10, n_12, n_16, n_20, n_30, n_31, n_32, n_35, n_36, n_41, n_42, n_44, n_48, n_57, n_59, n_60, n_63, n_64, n_99, n_111, n_112, n_115, n_119, n_126, n_200, n_294, n_512, n_999, n_9999, n_1048576, px_bd, px_slt, px_rd, px_wr, px_cp, px_nz, px_lt, px_le, px_eq, nI_add, pk_mul, px_sub, px_or, px_and, px_xor, px_shl1, px_shr]
      rfl
  · dsimp only
    rw [pf_out (by omega), pf_out (by omega), pf_out (by omega)]
    show upd p1 a year (a + 0) = _
    rw [Nat.add_zero, px_upd_s, h4]
  · dsimp only
    rw [pf_out (by omega), pf_out (by omega), show a + (1 + k) = a + 1 + k by omega, pf_at hk, h1 k hk]
  · dsimp only
    rw [pf_out (by omega), show a + (31 + t) = a + 31 + t by omega, pf_at ht, h2 t ht]
  · dsimp only
    rw [show a + (36 + p) = a + 36 + p by omega, pf_at (by omega), h3 p hp]
  · rw [pf_out (by omega), pf_out (by omega), pf_out (by omega), px_upd_n (by omega)]
theorem e_takes {N n a : Nat} {pinned stored guides p1 : Nat → Int32} {year : Int32} {A : AS} (hN : N ≤ 6) (hM : ME N (fun k => p1 (a + k)) A) (hn : n ≤ 400) (ha : a + 42 ≤ n) : ∃ p' s' g', fX5_takes n year pinned stored guides p1 (nI a) = some (nI A.2.2.2, p', s', g') ∧ MS N p' s' g' (nI A.2.2.2) A := by
  obtain ⟨h1, h2, h3, h4⟩ := hM
  dsimp only [Nat.add_zero] at h1 h2 h3 h4
  refine ⟨pf pinned (fun k => p1 (a + 1 + k)) 0 30, pf stored (fun t => p1 (a + 31 + t)) 0 5, pf guides (fun p => p1 (a + 36 + p)) 0 6, ?_, fun k hk => ?_, fun t ht => ?_, fun p hp => ?_, rfl⟩
  · unfold fX5_takes
    simp (disch := omega) only [px_rd, h1]
    refine px_lp (fun j => (nI j, pf pinned (fun k => p1 (a + 1 + k)) 0 j)) 30 (pf pinned (fun k => p1 (a + 1 + k)) 0 30) ?_ (by omega) ?_ ?_ ?_
    · rw [pf_0]; rfl
    · intro j hj
      unfold bX5_takes_9
      simp (disch := omega) only [n_0, n_1, n_2, n_3, n_4, n_5, n_6, n_7, n_8, n_9, n_10, n_12, n_16, n_20, n_30, n_31, n_32, n_35, n_36, n_41, n_42, n_44, n_48, n_57, n_59, n_60, n_63, n_64, n_99, n_111, n_112, n_115, n_119, n_126, n_200, n_294, n_512, n_999, n_9999, n_1048576, px_bd, px_slt, px_rd, px_wr, px_cp, px_nz, px_lt, px_le, px_eq, nI_add, pk_mul, px_sub, px_or, px_and, px_xor, px_shl1, px_shr]
      rw [if_neg (by omega), ← pf_succ0]
    · unfold bX5_takes_9
      simp (disch := omega) only [n_0, n_1, n_2, n_3, n_4, n_5, n_6, n_7, n_8, n_9, n_10, n_12, n_16, n_20, n_30, n_31, n_32, n_35, n_36, n_41, n_42, n_44, n_48, n_57, n_59, n_60, n_63, n_64, n_99, n_111, n_112, n_115, n_119, n_126, n_200, n_294, n_512, n_999, n_9999, n_1048576, px_bd, px_slt, px_rd, px_wr, px_cp, px_nz, px_lt, px_le, px_eq, nI_add, pk_mul, px_sub, px_or, px_and, px_xor, px_shl1, px_shr]
      rfl
    refine px_lp (fun j => (nI j, pf stored (fun t => p1 (a + 31 + t)) 0 j)) 5 (pf stored (fun t => p1 (a + 31 + t)) 0 5) ?_ (by omega) ?_ ?_ ?_
    · rw [pf_0]; rfl
    · intro j hj
      unfold bX5_takes_36
      simp (disch := omega) only [n_0, n_1, n_2, n_3, n_4, n_5, n_6, n_7, n_8, n_9, n_10, n_12, n_16, n_20, n_30, n_31, n_32, n_35, n_36, n_41, n_42, n_44, n_48, n_57, n_59, n_60, n_63, n_64, n_99, n_111, n_112, n_115, n_119, n_126, n_200, n_294, n_512, n_999, n_9999, n_1048576, px_bd, px_slt, px_rd, px_wr, px_cp, px_nz, px_lt, px_le, px_eq, nI_add, pk_mul, px_sub, px_or, px_and, px_xor, px_shl1, px_shr]
      rw [if_neg (by omega), ← pf_succ0]
    · unfold bX5_takes_36
      simp (disch := omega) only [n_0, n_1, n_2, n_3, n_4, n_5, n_6, n_7, n_8, n_9, n_10, n_12, n_16, n_20, n_30, n_31, n_32, n_35, n_36, n_41, n_42, n_44, n_48, n_57, n_59, n_60, n_63, n_64, n_99, n_111, n_112, n_115, n_119, n_126, n_200, n_294, n_512, n_999, n_9999, n_1048576, px_bd, px_slt, px_rd, px_wr, px_cp, px_nz, px_lt, px_le, px_eq, nI_add, pk_mul, px_sub, px_or, px_and, px_xor, px_shl1, px_shr]
      rfl
    refine px_lp (fun j => (nI j, pf guides (fun p => p1 (a + 36 + p)) 0 j)) 6 _ ?_ (by omega) ?_ ?_ rfl
    · rw [pf_0]; rfl
    · intro j hj
      unfold bX5_takes_63
      simp (disch := omega) only [n_0, n_1, n_2, n_3, n_4, n_5, n_6, n_7, n_8, n_9, n_10, n_12, n_16, n_20, n_30, n_31, n_32, n_35, n_36, n_41, n_42, n_44, n_48, n_57, n_59, n_60, n_63, n_64, n_99, n_111, n_112, n_115, n_119, n_126, n_200, n_294, n_512, n_999, n_9999, n_1048576, px_bd, px_slt, px_rd, px_wr, px_cp, px_nz, px_lt, px_le, px_eq, nI_add, pk_mul, px_sub, px_or, px_and, px_xor, px_shl1, px_shr]
      rw [if_neg (by omega), ← pf_succ0]
    · unfold bX5_takes_63
      simp (disch := omega) only [n_0, n_1, n_2, n_3, n_4, n_5, n_6, n_7, n_8, n_9, n_10, n_12, n_16, n_20, n_30, n_31, n_32, n_35, n_36, n_41, n_42, n_44, n_48, n_57, n_59, n_60, n_63, n_64, n_99, n_111, n_112, n_115, n_119, n_126, n_200, n_294, n_512, n_999, n_9999, n_1048576, px_bd, px_slt, px_rd, px_wr, px_cp, px_nz, px_lt, px_le, px_eq, nI_add, pk_mul, px_sub, px_or, px_and, px_xor, px_shl1, px_shr]
      rfl
  · rw [pf_low hk, ← h2 k hk]
    show p1 (a + 1 + k) = p1 (a + (1 + k))
    rw [Nat.add_assoc]
  · rw [pf_low ht, ← h3 t ht]
    show p1 (a + 31 + t) = p1 (a + (31 + t))
    rw [Nat.add_assoc]
  · rw [pf_low (by omega), ← h4 p hp]
    show p1 (a + 36 + p) = p1 (a + (36 + p))
    rw [Nat.add_assoc]

/-! what can be undone: the reference's rows, oldest first; the class's ring -/
def UM (N : Nat) (ahead : Nat → Int32) (u : Nat) (U : Nat → AS) : Prop := ∀ j, j < u → ME N (fun k => ahead (42 * j + k)) (U j)
def UR (m : Nat) (cells : Nat → Int32) (nx u : Nat) (U : Nat → AS) : Prop := ∀ j, j < u → CS (fun k => cells (42 * ((nx + m - u + j) % m) + k)) (U j)
def pushU (m u : Nat) (U : Nat → AS) (A : AS) : Nat → AS := if u = m then (fun j => if j + 1 = m then A else U (j + 1)) else (fun j => if j = u then A else U j)
def pushN (m u : Nat) : Nat := if u = m then m else u + 1
theorem ME_of_eq {N : Nat} (hN : N ≤ 6) {e f : Nat → Int32} {A : AS} (h : ∀ k, k < 42 → f k = e k) (he : ME N e A) : ME N f A := by
  obtain ⟨h1, h2, h3, h4⟩ := he
  refine ⟨?_, fun k hk => ?_, fun t ht => ?_, fun p hp => ?_⟩
  · rw [h 0 (by omega)]; exact h1
  · rw [h _ (by omega)]; exact h2 k hk
  · rw [h _ (by omega)]; exact h3 t ht
  · rw [h _ (by omega)]; exact h4 p hp
theorem e_notes {N u : Nat} {pinned stored guides ahead : Nat → Int32} {year : Int32} {A : AS} {U : Nat → AS} (hN : N ≤ 6) (hM : MS N pinned stored guides year A) (hu : u ≤ 8) (hU : UM N ahead u U) : ∃ w, fX5_notes year (nI u) pinned stored guides ahead = some (nI (pushN 8 u), w) ∧ UM N w (pushN 8 u) (pushU 8 u U A) := by
  have J : ∀ (v : Nat) (ah : Nat → Int32), v < 8 → ∃ w, jX5_notes_49 year (nI v) pinned stored guides ah = some (nI (v + 1), w) ∧ ME N (fun k => w (42 * v + k)) A ∧ ∀ k, (k < 42 * v ∨ 42 * v + 42 ≤ k) → w k = ah k := by
    intro v ah hv
    obtain ⟨w, w1, w2, w3⟩ := e_lays (n := 336) (a := 42 * v) (p1 := ah) hN hM (by omega) (by omega)
    refine ⟨w, ?_, w2, w3⟩
    unfold jX5_notes_49
    simp (disch := omega) only [n_0, n_1, n_2, n_3, n_4, n_5, n_6, n_7, n_8, n_9, n_10, n_12, n_16, n_20, n_30, n_31, n_32, n_35, n_36, n_41, n_42, n_44, n_48, n_57, n_59, n_60, n_63, n_64, n_99, n_111, n_112, n_115, n_119, n_126, n_200, n_294, n_512, n_999, n_9999, n_1048576, px_bd, px_slt, px_rd, px_wr, px_cp, px_nz, px_lt, px_le, px_eq, nI_add, pk_mul, px_sub, px_or, px_and, px_xor, px_shl1, px_shr]
    rw [w1]
    simp (disch := omega) only [n_0, n_1, n_2, n_3, n_4, n_5, n_6, n_7, n_8, n_9, n_10, n_12, n_16, n_20, n_30, n_31, n_32, n_35, n_36, n_41, n_42, n_44, n_48, n_57, n_59, n_60, n_63, n_64, n_99, n_111, n_112, n_115, n_119, n_126, n_200, n_294, n_512, n_999, n_9999, n_1048576, px_bd, px_slt, px_rd, px_wr, px_cp, px_nz, px_lt, px_le, px_eq, nI_add, pk_mul, px_sub, px_or, px_and, px_xor, px_shl1, px_shr]
  unfold fX5_notes
  simp (disch := omega) only [n_8, px_eq]
  by_cases h8 : u = 8
  · subst h8
    rw [if_pos rfl]
    have L : (sx_it 1000 bX5_notes_11 ((0 : Int32), ahead)) = some (pf ahead (fun k => ahead (k + 42)) 0 294) := by
      have h := px_it (B := bX5_notes_11) (r := pf ahead (fun k => ahead (k + 42)) 0 294) 294 1000 (fun j => (nI j, pf ahead (fun k => ahead (k + 42)) 0 j)) (by
        intro j hj
        unfold bX5_notes_11
        simp (disch := omega) only [n_0, n_1, n_2, n_3, n_4, n_5, n_6, n_7, n_8, n_9, n_10, n_12, n_16, n_20, n_30, n_31, n_32, n_35, n_36, n_41, n_42, n_44, n_48, n_57, n_59, n_60, n_63, n_64, n_99, n_111, n_112, n_115, n_119, n_126, n_200, n_294, n_512, n_999, n_9999, n_1048576, px_bd, px_slt, px_rd, px_wr, px_cp, px_nz, px_lt, px_le, px_eq, nI_add, pk_mul, px_sub, px_or, px_and, px_xor, px_shl1, px_shr]
        rw [if_neg (by omega), pf_out (by omega), ← pf_succ0]) (by
        unfold bX5_notes_11
        simp (disch := omega) only [n_0, n_1, n_2, n_3, n_4, n_5, n_6, n_7, n_8, n_9, n_10, n_12, n_16, n_20, n_30, n_31, n_32, n_35, n_36, n_41, n_42, n_44, n_48, n_57, n_59, n_60, n_63, n_64, n_99, n_111, n_112, n_115, n_119, n_126, n_200, n_294, n_512, n_999, n_9999, n_1048576, px_bd, px_slt, px_rd, px_wr, px_cp, px_nz, px_lt, px_le, px_eq, nI_add, pk_mul, px_sub, px_or, px_and, px_xor, px_shl1, px_shr]
        rfl) (by omega)
      rw [pf_0] at h
      exact h
    rw [L]
    simp (disch := omega) only [px_bd, n_1, px_sub, px_slt]
    obtain ⟨w, w1, w2, w3⟩ := J 7 (pf ahead (fun k => ahead (k + 42)) 0 294) (by omega)
    refine ⟨w, w1, ?_⟩
    intro j hj
    have hj : j < 8 := hj
    unfold pushU
    rw [if_pos rfl]
    by_cases e : j + 1 = 8
    · have e : j = 7 := by omega
      subst e
      exact w2
    · rw [if_neg e]
      refine ME_of_eq hN (fun k hk => ?_) (hU (j + 1) (by omega))
      rw [w3 _ (by omega), pf_low (by omega), show 42 * j + k + 42 = 42 * (j + 1) + k by omega]
  · rw [if_neg h8]
    obtain ⟨w, w1, w2, w3⟩ := J u ahead (by omega)
    refine ⟨w, by rw [w1]; unfold pushN; rw [if_neg h8], ?_⟩
    intro j hj
    unfold pushN at hj
    rw [if_neg h8] at hj
    unfold pushU
    rw [if_neg h8]
    by_cases e : j = u
    · subst e
      rw [if_pos rfl]
      exact w2
    · rw [if_neg e]
      refine ME_of_eq hN (fun k hk => ?_) (hU j (by omega))
      rw [w3 _ (by omega)]
theorem e_layBy8 {n nx u : Nat} {cells now : Nat → Int32} {A : AS} {U : Nat → AS} (hn : n = 42 * 8) (hnx : nx < 8) (hu : u ≤ 8) (hU : UR 8 cells nx u U) (hC : CS now A) : ∃ w nx', fX0_layBy n (nI 8) (nI u) (nI nx) cells now = some (nI (pushN 8 u), nI nx', w) ∧ nx' < 8 ∧ UR 8 w nx' (pushN 8 u) (pushU 8 u U A) := by
  subst hn
  have hm : (if nI 8 < nI (u + 1) then nI 8 else nI (u + 1)) = nI (pushN 8 u) := by
    unfold pushN
    simp (disch := omega) only [px_lt]
    by_cases h : u = 8
    · rw [if_pos (by omega), if_pos h]
    · rw [if_neg (by omega), if_neg h]
  have hw : ∀ (j : Nat) (nx' : Nat), j < pushN 8 u → nx' = (nx + 1) % 8 → CS (fun k => va_cpy now cells 0 (nx * 42) 42 (42 * ((nx' + 8 - pushN 8 u + j) % 8) + k)) (pushU 8 u U A j) := by
    intro j nx' hj hnx'
    subst hnx'
    unfold pushN at hj ⊢
    unfold pushU
    have hnew : ∀ i, i = nx → CS (fun k => va_cpy now cells 0 (nx * 42) 42 (42 * i + k)) A := by
      rintro i rfl
      refine CS_of_eq (fun k hk => ?_) hC
      unfold va_cpy
      rw [if_pos (by omega)]
      congr 1
      omega
    have hold : ∀ i (B : AS), i ≠ nx → CS (fun k => cells (42 * i + k)) B → CS (fun k => va_cpy now cells 0 (nx * 42) 42 (42 * i + k)) B := by
      intro i B hi hB
      refine CS_of_eq (fun k hk => ?_) hB
      unfold va_cpy
      rw [if_neg (by omega)]
    by_cases h : u = 8
    · subst h
      rw [if_pos rfl] at hj ⊢
      rw [if_pos rfl]
      by_cases e : j + 1 = 8
      · rw [if_pos e]
        exact hnew _ (by omega)
      · rw [if_neg e]
        refine hold _ _ (by omega) ?_
        have := hU (j + 1) (by omega)
        rwa [show ((nx + 1) % 8 + 8 - 8 + j) % 8 = (nx + 8 - 8 + (j + 1)) % 8 by omega]
    · rw [if_neg h] at hj ⊢
      rw [if_neg h]
      by_cases e : j = u
      · rw [if_pos e]
        exact hnew _ (by omega)
      · rw [if_neg e]
        refine hold _ _ (by omega) ?_
        have := hU j (by omega)
        rwa [show ((nx + 1) % 8 + 8 - (u + 1) + j) % 8 = (nx + 8 - u + j) % 8 by omega]
  unfold fX0_layBy jX0_layBy_45
  simp (disch := omega) only [n_0, n_1, n_42, pk_mul, px_cp, nI_add, px_le, px_slt]
  by_cases h : 8 ≤ nx + 1
  · rw [if_pos h, hm]
    exact ⟨_, 0, rfl, by omega, fun j hj => hw j 0 hj (by omega)⟩
  · rw [if_neg h, hm]
    exact ⟨_, nx + 1, rfl, by omega, fun j hj => hw j (nx + 1) hj (by omega)⟩
theorem e_fetch8 {n nx u : Nat} {cells now : Nat → Int32} {U : Nat → AS} (hn : n = 42 * 8) (hnx : nx < 8) (hu : u ≤ 8) (h0 : 0 < u) (hU : UR 8 cells nx u U) : ∃ w nx', fX0_fetch n (nI 8) (nI u) (nI nx) cells now = some (nI 1, nI (u - 1), nI nx', w) ∧ nx' < 8 ∧ UR 8 cells nx' (u - 1) U ∧ CS w (U (u - 1)) := by
  subst hn
  have hw : ∀ nx', nx' = (nx + 8 - 1) % 8 → UR 8 cells nx' (u - 1) U ∧ CS (va_cpy cells now (nx' * 42) 0 42) (U (u - 1)) := by
    rintro nx' rfl
    refine ⟨fun j hj => ?_, ?_⟩
    · have := hU j (by omega)
      rwa [show ((nx + 8 - 1) % 8 + 8 - (u - 1) + j) % 8 = (nx + 8 - u + j) % 8 by omega]
    · refine CS_of_eq (fun k hk => ?_) (hU (u - 1) (by omega))
      unfold va_cpy
      rw [if_pos (by omega)]
      congr 1
      omega
  unfold fX0_fetch jX0_fetch_33
  simp (disch := omega) only [n_0, n_1, n_42, px_le, px_slt]
  rw [if_pos (by omega)]
  by_cases h : nx ≤ 0
  · rw [if_pos h, px_sub (by omega), px_sub (by omega), pk_mul, px_cp (by omega) (by omega) (by omega) (by omega)]
    exact ⟨_, 8 - 1, rfl, by omega, hw _ (by omega)⟩
  · rw [if_neg h, px_sub (by omega), px_sub (by omega), pk_mul, px_cp (by omega) (by omega) (by omega) (by omega)]
    exact ⟨_, nx - 1, rfl, by omega, hw _ (by omega)⟩
theorem e_fetch8_0 {n nx : Nat} {cells now : Nat → Int32} : fX0_fetch n (nI 8) (nI 0) (nI nx) cells now = some (nI 0, nI 0, nI nx, now) := by
  unfold fX0_fetch
  rw [if_neg (by decide)]
  rfl
theorem e_layBy2 {n nx u : Nat} {cells now : Nat → Int32} {A : AS} {U : Nat → AS} (hn : n = 42 * 2) (hnx : nx < 2) (hu : u ≤ 2) (hU : UR 2 cells nx u U) (hC : CS now A) : ∃ w nx', fX0_layBy n (nI 2) (nI u) (nI nx) cells now = some (nI (pushN 2 u), nI nx', w) ∧ nx' < 2 ∧ UR 2 w nx' (pushN 2 u) (pushU 2 u U A) := by
  subst hn
  have hm : (if nI 2 < nI (u + 1) then nI 2 else nI (u + 1)) = nI (pushN 2 u) := by
    unfold pushN
    simp (disch := omega) only [px_lt]
    by_cases h : u = 2
    · rw [if_pos (by omega), if_pos h]
    · rw [if_neg (by omega), if_neg h]
  have hw : ∀ (j : Nat) (nx' : Nat), j < pushN 2 u → nx' = (nx + 1) % 2 → CS (fun k => va_cpy now cells 0 (nx * 42) 42 (42 * ((nx' + 2 - pushN 2 u + j) % 2) + k)) (pushU 2 u U A j) := by
    intro j nx' hj hnx'
    subst hnx'
    unfold pushN at hj ⊢
    unfold pushU
    have hnew : ∀ i, i = nx → CS (fun k => va_cpy now cells 0 (nx * 42) 42 (42 * i + k)) A := by
      rintro i rfl
      refine CS_of_eq (fun k hk => ?_) hC
      unfold va_cpy
      rw [if_pos (by omega)]
      congr 1
      omega
    have hold : ∀ i (B : AS), i ≠ nx → CS (fun k => cells (42 * i + k)) B → CS (fun k => va_cpy now cells 0 (nx * 42) 42 (42 * i + k)) B := by
      intro i B hi hB
      refine CS_of_eq (fun k hk => ?_) hB
      unfold va_cpy
      rw [if_neg (by omega)]
    by_cases h : u = 2
    · subst h
      rw [if_pos rfl] at hj ⊢
      rw [if_pos rfl]
      by_cases e : j + 1 = 2
      · rw [if_pos e]
        exact hnew _ (by omega)
      · rw [if_neg e]
        refine hold _ _ (by omega) ?_
        have := hU (j + 1) (by omega)
        rwa [show ((nx + 1) % 2 + 2 - 2 + j) % 2 = (nx + 2 - 2 + (j + 1)) % 2 by omega]
    · rw [if_neg h] at hj ⊢
      rw [if_neg h]
      by_cases e : j = u
      · rw [if_pos e]
        exact hnew _ (by omega)
      · rw [if_neg e]
        refine hold _ _ (by omega) ?_
        have := hU j (by omega)
        rwa [show ((nx + 1) % 2 + 2 - (u + 1) + j) % 2 = (nx + 2 - u + j) % 2 by omega]
  unfold fX0_layBy jX0_layBy_45
  simp (disch := omega) only [n_0, n_1, n_42, pk_mul, px_cp, nI_add, px_le, px_slt]
  by_cases h : 2 ≤ nx + 1
  · rw [if_pos h, hm]
    exact ⟨_, 0, rfl, by omega, fun j hj => hw j 0 hj (by omega)⟩
  · rw [if_neg h, hm]
    exact ⟨_, nx + 1, rfl, by omega, fun j hj => hw j (nx + 1) hj (by omega)⟩
theorem e_fetch2 {n nx u : Nat} {cells now : Nat → Int32} {U : Nat → AS} (hn : n = 42 * 2) (hnx : nx < 2) (hu : u ≤ 2) (h0 : 0 < u) (hU : UR 2 cells nx u U) : ∃ w nx', fX0_fetch n (nI 2) (nI u) (nI nx) cells now = some (nI 1, nI (u - 1), nI nx', w) ∧ nx' < 2 ∧ UR 2 cells nx' (u - 1) U ∧ CS w (U (u - 1)) := by
  subst hn
  have hw : ∀ nx', nx' = (nx + 2 - 1) % 2 → UR 2 cells nx' (u - 1) U ∧ CS (va_cpy cells now (nx' * 42) 0 42) (U (u - 1)) := by
    rintro nx' rfl
    refine ⟨fun j hj => ?_, ?_⟩
    · have := hU j (by omega)
      rwa [show ((nx + 2 - 1) % 2 + 2 - (u - 1) + j) % 2 = (nx + 2 - u + j) % 2 by omega]
    · refine CS_of_eq (fun k hk => ?_) (hU (u - 1) (by omega))
      unfold va_cpy
      rw [if_pos (by omega)]
      congr 1
      omega
  unfold fX0_fetch jX0_fetch_33
  simp (disch := omega) only [n_0, n_1, n_42, px_le, px_slt]
  rw [if_pos (by omega)]
  by_cases h : nx ≤ 0
  · rw [if_pos h, px_sub (by omega), px_sub (by omega), pk_mul, px_cp (by omega) (by omega) (by omega) (by omega)]
    exact ⟨_, 2 - 1, rfl, by omega, hw _ (by omega)⟩
  · rw [if_neg h, px_sub (by omega), px_sub (by omega), pk_mul, px_cp (by omega) (by omega) (by omega) (by omega)]
    exact ⟨_, nx - 1, rfl, by omega, hw _ (by omega)⟩
theorem e_fetch2_0 {n nx : Nat} {cells now : Nat → Int32} : fX0_fetch n (nI 2) (nI 0) (nI nx) cells now = some (nI 0, nI 0, nI nx, now) := by
  unfold fX0_fetch
  rw [if_neg (by decide)]
  rfl

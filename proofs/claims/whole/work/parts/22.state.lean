/-! abstract states: pins, store, guides, year -/
abbrev AS : Type := (Nat → Nat) × (Nat → Int32) × (Nat → Int32) × Nat
/-- the class's row of 42 -/
def CS (c : Nat → Int32) (A : AS) : Prop := PI c A.1 ∧ (∀ t, t < 5 → c (30 + t) = A.2.1 t) ∧ (∀ p, p < 6 → c (35 + p) = A.2.2.1 p) ∧ c 41 = nI A.2.2.2
/-- the reference's -/
def MS (N : Nat) (pinned stored guides : Nat → Int32) (year : Int32) (A : AS) : Prop := PI pinned A.1 ∧ (∀ t, t < 5 → stored t = A.2.1 t) ∧ (∀ p, p < N → guides p = A.2.2.1 p) ∧ year = nI A.2.2.2
def OkA (N : Nat) (A : AS) : Prop := PB A.1 ∧ (∀ k, 5 * N ≤ k → k < 30 → A.1 k = 0) ∧ A.2.2.2 ≤ 2000
theorem e_isTrimming {t : Nat} (ht : t < 5) : fX4_isTrimming (nI t) = some (nI 1) := by
  unfold fX4_isTrimming
  simp (disch := omega) only [n_0, n_1, n_2, n_3, n_4, n_5, n_6, n_7, n_8, n_9, n_10, n_12, n_16, n_20, n_30, n_31, n_32, n_35, n_36, n_41, n_42, n_44, n_48, n_57, n_59, n_60, n_63, n_64, n_99, n_111, n_112, n_115, n_119, n_126, n_200, n_294, n_512, n_999, n_9999, n_1048576, px_bd, px_slt, px_rd, px_wr, px_cp, px_nz, px_lt, px_le, px_eq, nI_add, pk_mul, px_sub, px_or, px_and, px_xor, px_shl1, px_shr]
  rw [if_neg (by omega), if_neg (by omega)]
theorem e_inStore (c : Nat → Int32) {t : Nat} (ht : t < 5) : fX3_inStore c (nI t) = some (c (30 + t)) := by
  unfold fX3_inStore
  rw [e_isTrimming ht]
  simp (disch := omega) only [n_0, n_1, n_2, n_3, n_4, n_5, n_6, n_7, n_8, n_9, n_10, n_12, n_16, n_20, n_30, n_31, n_32, n_35, n_36, n_41, n_42, n_44, n_48, n_57, n_59, n_60, n_63, n_64, n_99, n_111, n_112, n_115, n_119, n_126, n_200, n_294, n_512, n_999, n_9999, n_1048576, px_bd, px_slt, px_rd, px_wr, px_cp, px_nz, px_lt, px_le, px_eq, nI_add, pk_mul, px_sub, px_or, px_and, px_xor, px_shl1, px_shr]
  rfl
theorem e_setStore (c : Nat → Int32) {t : Nat} (ht : t < 5) (x : Int32) : fX3_setStore c (nI t) x = some (upd c (30 + t) x) := by
  unfold fX3_setStore
  rw [e_isTrimming ht]
  simp (disch := omega) only [n_0, n_1, n_2, n_3, n_4, n_5, n_6, n_7, n_8, n_9, n_10, n_12, n_16, n_20, n_30, n_31, n_32, n_35, n_36, n_41, n_42, n_44, n_48, n_57, n_59, n_60, n_63, n_64, n_99, n_111, n_112, n_115, n_119, n_126, n_200, n_294, n_512, n_999, n_9999, n_1048576, px_bd, px_slt, px_rd, px_wr, px_cp, px_nz, px_lt, px_le, px_eq, nI_add, pk_mul, px_sub, px_or, px_and, px_xor, px_shl1, px_shr]
  rfl
theorem e_setPins (c : Nat → Int32) {p t : Nat} (hp : p < 6) (ht : t < 5) (x : Int32) : fX3_setPins c (nI p) (nI t) x = some (upd c (5 * p + t) x) := by
  unfold fX3_setPins
  simp (disch := omega) only [n_0, n_1, n_2, n_3, n_4, n_5, n_6, n_7, n_8, n_9, n_10, n_12, n_16, n_20, n_30, n_31, n_32, n_35, n_36, n_41, n_42, n_44, n_48, n_57, n_59, n_60, n_63, n_64, n_99, n_111, n_112, n_115, n_119, n_126, n_200, n_294, n_512, n_999, n_9999, n_1048576, px_bd, px_slt, px_rd, px_wr, px_cp, px_nz, px_lt, px_le, px_eq, nI_add, pk_mul, px_sub, px_or, px_and, px_xor, px_shl1, px_shr]
  rw [if_neg (by omega), if_neg (by omega), show p * 5 + t = 5 * p + t by omega]
theorem e_guideOf (c : Nat → Int32) {p : Nat} (hp : p < 6) : fX3_guideOf c (nI p) = some (c (35 + p)) := by
  unfold fX3_guideOf
  simp (disch := omega) only [n_0, n_1, n_2, n_3, n_4, n_5, n_6, n_7, n_8, n_9, n_10, n_12, n_16, n_20, n_30, n_31, n_32, n_35, n_36, n_41, n_42, n_44, n_48, n_57, n_59, n_60, n_63, n_64, n_99, n_111, n_112, n_115, n_119, n_126, n_200, n_294, n_512, n_999, n_9999, n_1048576, px_bd, px_slt, px_rd, px_wr, px_cp, px_nz, px_lt, px_le, px_eq, nI_add, pk_mul, px_sub, px_or, px_and, px_xor, px_shl1, px_shr]
  rw [if_neg (by omega), if_neg (by omega)]
theorem e_yearNow (c : Nat → Int32) : fX3_yearNow c = some (c 41) := by
  unfold fX3_yearNow
  simp (disch := omega) only [n_0, n_1, n_2, n_3, n_4, n_5, n_6, n_7, n_8, n_9, n_10, n_12, n_16, n_20, n_30, n_31, n_32, n_35, n_36, n_41, n_42, n_44, n_48, n_57, n_59, n_60, n_63, n_64, n_99, n_111, n_112, n_115, n_119, n_126, n_200, n_294, n_512, n_999, n_9999, n_1048576, px_bd, px_slt, px_rd, px_wr, px_cp, px_nz, px_lt, px_le, px_eq, nI_add, pk_mul, px_sub, px_or, px_and, px_xor, px_shl1, px_shr]
theorem e_become (c e : Nat → Int32) : ∃ r, fX3_become c e = some r ∧ ∀ k, k < 42 → r k = e k := by
  unfold fX3_become
  simp (disch := omega) only [n_0, n_1, n_2, n_3, n_4, n_5, n_6, n_7, n_8, n_9, n_10, n_12, n_16, n_20, n_30, n_31, n_32, n_35, n_36, n_41, n_42, n_44, n_48, n_57, n_59, n_60, n_63, n_64, n_99, n_111, n_112, n_115, n_119, n_126, n_200, n_294, n_512, n_999, n_9999, n_1048576, px_bd, px_slt, px_rd, px_wr, px_cp, px_nz, px_lt, px_le, px_eq, nI_add, pk_mul, px_sub, px_or, px_and, px_xor, px_shl1, px_shr]
  refine ⟨_, rfl, fun k hk => ?_⟩
  simp [va_cpy, hk]
theorem CS_of_eq {c e : Nat → Int32} {A : AS} (h : ∀ k, k < 42 → e k = c k) (hc : CS c A) : CS e A := by
  obtain ⟨h1, h2, h3, h4⟩ := hc
  refine ⟨fun k hk => ?_, fun t ht => ?_, fun p hp => ?_, ?_⟩
  · rw [h k (by omega)]; exact h1 k hk
  · rw [h _ (by omega)]; exact h2 t ht
  · rw [h _ (by omega)]; exact h3 p hp
  · rw [h _ (by omega)]; exact h4
theorem e_makeGuides {c : Nat → Int32} {P : Nat → Nat} (hP : PI c P) (hB : PB P) : fX3_makeGuides c = some (pf c (fun p => nI (lk P p)) 35 6) := by
  unfold fX3_makeGuides
  refine px_lp (fun n => (nI n, pf c (fun p => nI (lk P p)) 35 n)) 6 _ ?_ (by omega) ?_ ?_ rfl
  · rw [pf_0]; rfl
  · intro n hn
    unfold bX3_makeGuides_2
    dsimp only
    rw [e_looksOf (P := P) (fun k hk => by rw [pf_out (by omega)]; exact hP k hk) hB hn]
    simp (disch := omega) only [n_0, n_1, n_2, n_3, n_4, n_5, n_6, n_7, n_8, n_9, n_10, n_12, n_16, n_20, n_30, n_31, n_32, n_35, n_36, n_41, n_42, n_44, n_48, n_57, n_59, n_60, n_63, n_64, n_99, n_111, n_112, n_115, n_119, n_126, n_200, n_294, n_512, n_999, n_9999, n_1048576, px_bd, px_slt, px_rd, px_wr, px_cp, px_nz, px_lt, px_le, px_eq, nI_add, pk_mul, px_sub, px_or, px_and, px_xor, px_shl1, px_shr]
    rw [if_neg (by omega), ← pf_succ]
  · unfold bX3_makeGuides_2
    simp (disch := omega) only [n_0, n_1, n_2, n_3, n_4, n_5, n_6, n_7, n_8, n_9, n_10, n_12, n_16, n_20, n_30, n_31, n_32, n_35, n_36, n_41, n_42, n_44, n_48, n_57, n_59, n_60, n_63, n_64, n_99, n_111, n_112, n_115, n_119, n_126, n_200, n_294, n_512, n_999, n_9999, n_1048576, px_bd, px_slt, px_rd, px_wr, px_cp, px_nz, px_lt, px_le, px_eq, nI_add, pk_mul, px_sub, px_or, px_and, px_xor, px_shl1, px_shr]
    rfl
theorem e_setGuides {g c : Nat → Int32} {P : Nat → Nat} {N : Nat} (hN : N ≤ 6) (hP : PI c P) (hB : PB P) : fX5_setGuides (nI N) c g = some (pf g (fun p => nI (lk P p)) 0 N) := by
  unfold fX5_setGuides
  refine px_lp (fun n => (nI n, pf g (fun p => nI (lk P p)) 0 n)) N _ ?_ (by omega) ?_ ?_ rfl
  · rw [pf_0]; rfl
  · intro n hn
    unfold bX5_setGuides_2
    dsimp only
    rw [e_looks hP hB (by omega)]
    simp (disch := omega) only [n_0, n_1, n_2, n_3, n_4, n_5, n_6, n_7, n_8, n_9, n_10, n_12, n_16, n_20, n_30, n_31, n_32, n_35, n_36, n_41, n_42, n_44, n_48, n_57, n_59, n_60, n_63, n_64, n_99, n_111, n_112, n_115, n_119, n_126, n_200, n_294, n_512, n_999, n_9999, n_1048576, px_bd, px_slt, px_rd, px_wr, px_cp, px_nz, px_lt, px_le, px_eq, nI_add, pk_mul, px_sub, px_or, px_and, px_xor, px_shl1, px_shr]
    rw [if_neg (by omega), ← pf_succ0]
  · unfold bX5_setGuides_2
    simp (disch := omega) only [n_0, n_1, n_2, n_3, n_4, n_5, n_6, n_7, n_8, n_9, n_10, n_12, n_16, n_20, n_30, n_31, n_32, n_35, n_36, n_41, n_42, n_44, n_48, n_57, n_59, n_60, n_63, n_64, n_99, n_111, n_112, n_115, n_119, n_126, n_200, n_294, n_512, n_999, n_9999, n_1048576, px_bd, px_slt, px_rd, px_wr, px_cp, px_nz, px_lt, px_le, px_eq, nI_add, pk_mul, px_sub, px_or, px_and, px_xor, px_shl1, px_shr]
    rw [if_pos (Nat.le_refl _)]
/-! a year at one peak: five pins -/
/-- by force F -/
def wz (F x : Nat) : Nat := if x < F ∨ x = 0 then 0 else x - 1
/-- the first place below n where the row isn't 0, from a on; n: none -/
def lo (r : Nat → Nat) (a : Nat) : Nat → Nat
  | 0 => 0
  | n + 1 => if r a = 0 then 1 + lo r (a + 1) n else 0
/-- pins of a row behind a year at the five places from a on -/
def wrow (F : Nat) (goat : Bool) (r : Nat → Nat) (a : Nat) : Nat → Nat := fun k =>
  if a ≤ k ∧ k < a + 5 then
    (if goat = true ∧ k = a + lo (fun j => wz F (r j)) a 5 then wz F (r k) - 1 else wz F (r k))
  else r k

/-! fault, lay -/
theorem e_fill0 (c : Nat → Int32) (x : Int32) : fJ7_fill_53178 42 c x = some (pf c (fun _ => x) 0 42) := by
  unfold fJ7_fill_53178
  rw [show Int32.ofNat 42 = nI 42 from rfl, px_slt]
  refine px_lp (fun n => (nI n, pf c (fun _ => x) 0 n)) 42 _ ?_ (by omega) ?_ ?_ rfl
  · rw [pf_0]; rfl
  · intro n hn
    unfold bJ7_fill_53178_5
    simp (disch := omega) only [n_0, n_1, n_2, n_3, n_4, n_5, n_6, n_7, n_8, n_9, n_10, n_12, n_16, n_20, n_30, n_31, n_32, n_35, n_36, n_41, n_42, n_44, n_48, n_57, n_59, n_60, n_63, n_64, n_99, n_111, n_112, n_115, n_119, n_126, n_200, n_294, n_512, n_999, n_9999, n_1048576, px_bd, px_slt, px_rd, px_wr, px_cp, px_nz, px_lt, px_le, px_eq, nI_add, pk_mul, px_sub, px_or, px_and, px_xor, px_shl1, px_shr]
    rw [if_neg (by omega), pf_succ0 c (fun _ => x) n]
  · unfold bJ7_fill_53178_5
    simp (disch := omega) only [n_0, n_1, n_2, n_3, n_4, n_5, n_6, n_7, n_8, n_9, n_10, n_12, n_16, n_20, n_30, n_31, n_32, n_35, n_36, n_41, n_42, n_44, n_48, n_57, n_59, n_60, n_63, n_64, n_99, n_111, n_112, n_115, n_119, n_126, n_200, n_294, n_512, n_999, n_9999, n_1048576, px_bd, px_slt, px_rd, px_wr, px_cp, px_nz, px_lt, px_le, px_eq, nI_add, pk_mul, px_sub, px_or, px_and, px_xor, px_shl1, px_shr]
    rw [if_pos (Nat.le_refl _)]
theorem e_fill1 (c : Nat → Int32) (x : Int32) : fJ7_fill_fda19 42 c (30 : Int32) (35 : Int32) x = some (pf c (fun _ => x) 30 5) := by
  unfold fJ7_fill_fda19
  rw [show fJ7_rangeCheck_23922 (Int32.ofNat 42) (30 : Int32) (35 : Int32) = some () by decide +kernel, px_bd]
  refine px_lp (fun n => (nI (30 + n), pf c (fun _ => x) 30 n)) 5 _ ?_ (by omega) ?_ ?_ rfl
  · rw [pf_0]; rfl
  · intro n hn
    unfold bJ7_fill_fda19_10
    simp (disch := omega) only [n_0, n_1, n_2, n_3, n_4, n_5, n_6, n_7, n_8, n_9, n_10, n_12, n_16, n_20, n_30, n_31, n_32, n_35, n_36, n_41, n_42, n_44, n_48, n_57, n_59, n_60, n_63, n_64, n_99, n_111, n_112, n_115, n_119, n_126, n_200, n_294, n_512, n_999, n_9999, n_1048576, px_bd, px_slt, px_rd, px_wr, px_cp, px_nz, px_lt, px_le, px_eq, nI_add, pk_mul, px_sub, px_or, px_and, px_xor, px_shl1, px_shr]
    rw [if_neg (by omega), ← pf_succ, Nat.add_assoc]
  · unfold bJ7_fill_fda19_10
    simp (disch := omega) only [n_0, n_1, n_2, n_3, n_4, n_5, n_6, n_7, n_8, n_9, n_10, n_12, n_16, n_20, n_30, n_31, n_32, n_35, n_36, n_41, n_42, n_44, n_48, n_57, n_59, n_60, n_63, n_64, n_99, n_111, n_112, n_115, n_119, n_126, n_200, n_294, n_512, n_999, n_9999, n_1048576, px_bd, px_slt, px_rd, px_wr, px_cp, px_nz, px_lt, px_le, px_eq, nI_add, pk_mul, px_sub, px_or, px_and, px_xor, px_shl1, px_shr]
    rw [if_pos (Nat.le_refl _)]
theorem e_sclear (c : Nat → Int32) : fX3_clear c = some (pf (pf c (fun _ => (0 : Int32)) 0 42) (fun _ => (2 : Int32)) 30 5) := by
  unfold fX3_clear
  rw [e_fill0, px_bd, e_fill1, px_bd]
theorem e_f17 (c : Nat → Int32) : sx_it 1000 bX5_fault_17 ((0 : Int32), c) = some (pf c (fun _ => (0 : Int32)) 0 30) := by
  have h := px_it (B := bX5_fault_17) (r := pf c (fun _ => (0 : Int32)) 0 30) 30 1000 (fun n => (nI n, pf c (fun _ => (0 : Int32)) 0 n)) ?_ ?_ (by omega)
  · rw [pf_0] at h; exact h
  · intro n hn
    unfold bX5_fault_17
    dsimp only
    rw [n_30, if_neg (by rw [px_le (by omega) (by omega)]; omega), px_wr (by omega) (by omega), pf_succ0 c (fun _ => (0 : Int32)) n, show nI n + (1 : Int32) = nI (n + 1) from nI_1 n]
  · unfold bX5_fault_17
    dsimp only
    rw [n_30, if_pos (by rw [px_le (by omega) (by omega)]; omega)]
theorem e_f38 (c : Nat → Int32) : sx_it 1000 bX5_fault_38 ((0 : Int32), c) = some (pf c (fun _ => (2 : Int32)) 0 5) := by
  have h := px_it (B := bX5_fault_38) (r := pf c (fun _ => (2 : Int32)) 0 5) 5 1000 (fun n => (nI n, pf c (fun _ => (2 : Int32)) 0 n)) ?_ ?_ (by omega)
  · rw [pf_0] at h; exact h
  · intro n hn
    unfold bX5_fault_38
    dsimp only
    rw [n_5, if_neg (by rw [px_le (by omega) (by omega)]; omega), px_wr (by omega) (by omega), pf_succ0 c (fun _ => (2 : Int32)) n, show nI n + (1 : Int32) = nI (n + 1) from nI_1 n]
  · unfold bX5_fault_38
    dsimp only
    rw [n_5, if_pos (by rw [px_le (by omega) (by omega)]; omega)]
theorem RRd_0 (kinds heights winds cells rk rh rp rs rw_ : Nat → Int32) : RRd 0 0 kinds heights winds (pf (pf cells (fun _ => (0 : Int32)) 0 42) (fun _ => (2 : Int32)) 30 5) rk rh (pf rp (fun _ => (0 : Int32)) 0 30) (pf rs (fun _ => (2 : Int32)) 0 5) rw_ := by
  refine ⟨by omega, by omega, ⟨fun _ => 0, fun p hp => by omega, fun p hp => by omega⟩, fun p hp => by omega, ⟨fun _ => 0, fun p hp => by omega, fun p hp => by omega⟩, ⟨fun _ => 0, fun k hk => ?_, fun k hk => ?_, fun k hk => Nat.zero_le _, fun k hk hk2 => rfl⟩, fun t ht => ?_, ?_⟩
  · rw [pf_out (by omega), pf_low (by omega)]; rfl
  · rw [pf_low hk]; rfl
  · rw [pf_at ht, pf_low ht]
  · rw [pf_out (by omega), pf_low (by omega)]; rfl
theorem rd_all {len size ca cp cw ra rq rv rn : Int32} {letters text nums kinds heights winds cells rk rh rp rs rw_ : Nat → Int32} (hX : RTx len letters size text) :
  (∃ P W rn' at' at2 nums' kinds' heights' winds' cells' rk' rh' rp' rs' rw', RRd P W kinds' heights' winds' cells' rk' rh' rp' rs' rw' ∧ fX2_readAll len ca letters nums cp cw kinds heights winds cells = some ((-4 : Int32), at', nums', nI P, nI W, kinds', heights', winds', cells') ∧ fX5_fault size ra rq rv rn text rk rh rp rs rw_ = some ((-4 : Int32), at2, nI P, nI W, rn', rk', rh', rp', rs', rw')) ∨
  (∃ b z z', b < 200 ∧ fX2_readAll len ca letters nums cp cw kinds heights winds cells = some (nI b, z) ∧ fX5_fault size ra rq rv rn text rk rh rp rs rw_ = some (nI b, z')) := by
  obtain ⟨L, tx, hL, rfl, rfl, ht⟩ := hX
  have h := lp_read hL (fun k hk => ⟨(ht k hk).1, (ht k hk).2.2⟩ : TX L tx letters) (fun k hk => ⟨(ht k hk).2.1, (ht k hk).2.2⟩ : TX L tx text) L 1000 1000 0 0 0 0 rn nums kinds heights winds _ rk rh _ _ rw_ (by omega) (by omega) (by omega) (by omega) (RRd_0 kinds heights winds cells rk rh rp rs rw_)
  unfold fX2_readAll fX5_fault fX1_clear
  rw [px_bd]
  dsimp only
  rw [e_sclear, px_bd, e_f17, px_bd, e_f38, px_bd]
  rw [show nI 0 = (0 : Int32) from n_0.symm] at h
  rcases h with ⟨P, W, rn', at', at2, nums', kinds', heights', winds', cells', rk', rh', rp', rs', rw', e1, e2, e3⟩ | ⟨b, z, z', e1, e2, e3⟩
  · rw [e2, e3, px_bd, px_bd]
    exact Or.inl ⟨P, W, rn', at', at2, nums', kinds', heights', winds', cells', rk', rh', rp', rs', rw', e1, rfl, rfl⟩
  · rw [e2, e3, px_bd, px_bd]
    exact Or.inr ⟨b, z, z', e1, rfl, rfl⟩
theorem op_fault {len size ca cp cw ra rq rv rn : Int32} {letters text nums kinds heights winds cells rk rh rp rs rw_ : Nat → Int32} (hX : RTx len letters size text) : ∃ r z z', fX4_fault len ca letters nums cp cw kinds heights winds cells = some (r, z) ∧ fX5_fault size ra rq rv rn text rk rh rp rs rw_ = some (r, z') := by
  unfold fX4_fault
  rcases rd_all (ca := ca) (cp := cp) (cw := cw) (ra := ra) (rq := rq) (rv := rv) (rn := rn) (nums := nums) (kinds := kinds) (heights := heights) (winds := winds) (cells := cells) (rk := rk) (rh := rh) (rp := rp) (rs := rs) (rw_ := rw_) hX with ⟨P, W, rn', at', at2, nums', kinds', heights', winds', cells', rk', rh', rp', rs', rw', e1, e2, e3⟩ | ⟨b, z, z', e1, e2, e3⟩
  · rw [e2, e3, px_bd]
    exact ⟨_, _, _, rfl, rfl⟩
  · rw [e2, e3, px_bd]
    exact ⟨_, _, _, rfl, rfl⟩
theorem e_l37 (rk rh a b : Nat → Int32) : sx_it 1000 (bX5_lay_37 rk rh) ((0 : Int32), a, b) = some (pf a rk 0 6, pf b rh 0 6) := by
  have h := px_it (B := bX5_lay_37 rk rh) (r := (pf a rk 0 6, pf b rh 0 6)) 6 1000 (fun n => (nI n, pf a rk 0 n, pf b rh 0 n)) ?_ ?_ (by omega)
  · rw [pf_0, pf_0] at h; exact h
  · intro n hn
    unfold bX5_lay_37
    dsimp only
    rw [n_6, if_neg (by rw [px_le (by omega) (by omega)]; omega), px_rd (by omega) (by omega), px_wr (by omega) (by omega), px_rd (by omega) (by omega), px_wr (by omega) (by omega), pf_succ0 a rk n, pf_succ0 b rh n, show nI n + (1 : Int32) = nI (n + 1) from nI_1 n]
  · unfold bX5_lay_37
    dsimp only
    rw [n_6, if_pos (by rw [px_le (by omega) (by omega)]; omega)]
theorem e_l75 (v a : Nat → Int32) : sx_it 1000 (bX5_lay_75 v) ((0 : Int32), a) = some (pf a v 0 30) := by
  have h := px_it (B := bX5_lay_75 v) (r := pf a v 0 30) 30 1000 (fun n => (nI n, pf a v 0 n)) ?_ ?_ (by omega)
  · rw [pf_0] at h; exact h
  · intro n hn
    unfold bX5_lay_75
    dsimp only
    rw [n_30, if_neg (by rw [px_le (by omega) (by omega)]; omega), px_rd (by omega) (by omega), px_wr (by omega) (by omega), pf_succ0 a v n, show nI n + (1 : Int32) = nI (n + 1) from nI_1 n]
  · unfold bX5_lay_75
    dsimp only
    rw [n_30, if_pos (by rw [px_le (by omega) (by omega)]; omega)]
theorem e_l101 (v a : Nat → Int32) : sx_it 1000 (bX5_lay_101 v) ((0 : Int32), a) = some (pf a v 0 5) := by
  have h := px_it (B := bX5_lay_101 v) (r := pf a v 0 5) 5 1000 (fun n => (nI n, pf a v 0 n)) ?_ ?_ (by omega)
  · rw [pf_0] at h; exact h
  · intro n hn
    unfold bX5_lay_101
    dsimp only
    rw [n_5, if_neg (by rw [px_le (by omega) (by omega)]; omega), px_rd (by omega) (by omega), px_wr (by omega) (by omega), pf_succ0 a v n, show nI n + (1 : Int32) = nI (n + 1) from nI_1 n]
  · unfold bX5_lay_101
    dsimp only
    rw [n_5, if_pos (by rw [px_le (by omega) (by omega)]; omega)]
theorem e_l126 (v a : Nat → Int32) : sx_it 1000 (bX5_lay_126 v) ((0 : Int32), a) = some (pf a v 0 12) := by
  have h := px_it (B := bX5_lay_126 v) (r := pf a v 0 12) 12 1000 (fun n => (nI n, pf a v 0 n)) ?_ ?_ (by omega)
  · rw [pf_0] at h; exact h
  · intro n hn
    unfold bX5_lay_126
    dsimp only
    rw [n_12, if_neg (by rw [px_le (by omega) (by omega)]; omega), px_rd (by omega) (by omega), px_wr (by omega) (by omega), pf_succ0 a v n, show nI n + (1 : Int32) = nI (n + 1) from nI_1 n]
  · unfold bX5_lay_126
    dsimp only
    rw [n_12, if_pos (by rw [px_le (by omega) (by omega)]; omega)]
theorem e_rbecome (a b : Int32) (k h w k2 h2 w2 : Nat → Int32) (a2 b2 : Int32) : ∃ k' h' w', fX1_become a b k h w a2 b2 k2 h2 w2 = some (a2, b2, k', h', w') ∧ (∀ p, p < 6 → k' p = k2 p) ∧ (∀ p, p < 6 → h' p = h2 p) ∧ (∀ p, p < 12 → w' p = w2 p) := by
  unfold fX1_become
  simp (disch := omega) only [n_0, n_1, n_2, n_3, n_4, n_5, n_6, n_7, n_8, n_9, n_10, n_12, n_16, n_20, n_30, n_31, n_32, n_35, n_36, n_41, n_42, n_44, n_48, n_57, n_59, n_60, n_63, n_64, n_99, n_111, n_112, n_115, n_119, n_126, n_200, n_294, n_512, n_999, n_9999, n_1048576, px_bd, px_slt, px_rd, px_wr, px_cp, px_nz, px_lt, px_le, px_eq, nI_add, pk_mul, px_sub, px_or, px_and, px_xor, px_shl1, px_shr]
  refine ⟨_, _, _, rfl, fun p hp => ?_, fun p hp => ?_, fun p hp => ?_⟩ <;> simp [va_cpy, hp]
theorem RUn_0 {m N : Nat} {N' : Nat} {cells ahead : Nat → Int32} {held next many : Int32} (hm : 0 < m) (h : RUn m N cells held next ahead many) : RUn m N' cells (0 : Int32) next ahead (0 : Int32) := by
  obtain ⟨u, nx, U, rfl, rfl, rfl, h1, h2, h3, h4, h5⟩ := h
  exact ⟨0, nx, U, rfl, rfl, rfl, by omega, h2, fun j hj => absurd hj (Nat.not_lt_zero j), fun j hj => absurd hj (Nat.not_lt_zero j), fun j hj => absurd hj (Nat.not_lt_zero j)⟩
theorem RSd_0 (saidOf saidIs : Nat → Int32) : RSd (0 : Int32) (0 : Int32) (0 : Int32) (0 : Int32) saidOf saidIs := ⟨0, fun _ => 0, fun _ => 0, by omega, rfl, rfl, fun j hj => absurd hj (Nat.not_lt_zero j), rfl, rfl⟩

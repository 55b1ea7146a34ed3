/-! lowest terms -/
theorem l_0 : (0 : Int64) = lN 0 := by decide +kernel
theorem l_10 : (10 : Int64) = lN 10 := by decide +kernel
theorem px_nzl {ρ : Type} {b : Nat} {F : Option ρ} (h : 0 < b) (hb : b < 2 ^ 63) : sx_nzl (lN b) F = F := by
  unfold sx_nzl
  rw [if_neg]
  rw [l_0, pk_lEQ hb (by omega)]
  omega
theorem lg_z {b : Nat} (hb : b < 2 ^ 63) : lg_cmp (lN b) (0 : Int64) = 0 ↔ b = 0 := by
  unfold lg_cmp
  rw [l_0]
  by_cases h : b = 0
  · subst h
    rw [if_neg (by rw [gt_iff_lt, pk_lLT (by omega) (by omega)]; omega), if_pos rfl]
    exact ⟨fun _ => rfl, fun _ => rfl⟩
  · rw [if_pos (by rw [gt_iff_lt, pk_lLT (by omega) hb]; omega)]
    exact ⟨fun z => absurd z (by decide), fun z => absurd z h⟩
theorem cm_s {a b : Nat} (ha : a < 2 ^ 63) (hb : b < 2 ^ 63) (h : 0 < b) : bX5_common_6 (lN a, lN b) = some (.inl (lN b, lN (a % b))) := by
  unfold bX5_common_6
  dsimp only
  rw [if_neg (fun z => by have := (lg_z hb).mp z; omega), px_nzl h hb, px_slt, pk_lRem ha h hb]
theorem cm_e {a : Nat} : bX5_common_6 (lN a, lN 0) = some (.inr (lN a)) := by
  unfold bX5_common_6
  dsimp only
  rw [if_pos ((lg_z (by omega)).mpr rfl)]
theorem md_half {b c : Nat} (h0 : 0 < c) (h : c < b) {f : Nat} (hb : b < 2 ^ (f + 1)) : b % c < 2 ^ f := by
  have hm : b % c < c := Nat.mod_lt _ h0
  rw [Nat.pow_succ] at hb
  rcases Nat.lt_or_ge (2 * c) (b + 1) with h1 | h1
  · omega
  · have : b % c = b - c := by
      rw [Nat.mod_eq_sub_mod (by omega), Nat.mod_eq_of_lt (by omega)]
    omega
theorem e_gcd : ∀ (f a b n : Nat), b < 2 ^ f → a < 2 ^ 63 → b < 2 ^ 63 → 2 * f < n → sx_it n bX5_common_6 (lN a, lN b) = some (lN (Nat.gcd b a))
  | 0, a, b, n, hb, ha, hb2, hn => by
    have e : b = 0 := by have : (2 : Nat) ^ 0 = 1 := rfl; omega
    subst e
    match n, hn with
    | n + 1, _ => unfold sx_it; rw [cm_e, Nat.gcd_zero_left]
  | f + 1, a, b, n, hb, ha, hb2, hn => by
    match n, hn with
    | n + 2, hn =>
      by_cases h : b = 0
      · subst h
        unfold sx_it; rw [cm_e, Nat.gcd_zero_left]
      · have hm : a % b < b := Nat.mod_lt _ (by omega)
        unfold sx_it
        rw [cm_s ha hb2 (by omega)]
        show sx_it (n + 1) bX5_common_6 (lN b, lN (a % b)) = _
        rw [Nat.gcd_rec]
        by_cases h2 : a % b = 0
        · rw [h2, Nat.gcd_zero_left]
          unfold sx_it; rw [cm_e]
        · unfold sx_it
          rw [cm_s hb2 (by omega) (by omega)]
          show sx_it n bX5_common_6 (lN (a % b), lN (b % (a % b))) = _
          rw [Nat.gcd_rec (a % b) b]
          exact e_gcd f _ _ n (md_half (by omega) hm hb) (by omega) (Nat.lt_of_le_of_lt (Nat.mod_le _ _) hb2) (by omega)
theorem e_common {a b : Nat} (ha : a ≤ 100000000) (hb : b ≤ 100000000) : fX5_common (lN a) (lN b) = some (lN (Nat.gcd b a)) := by
  unfold fX5_common
  rw [e_gcd 30 a b 1000 (by omega) (by omega) (by omega) (by omega), px_bd]
theorem cop_dvd {g m p : Nat} (hp : ∀ d, d ∣ p → d = 1 ∨ d = p) (hn : ¬ p ∣ g) (h : g ∣ p * m) : g ∣ m := by
  have h1 : Nat.gcd g p = 1 := by
    rcases hp _ (Nat.gcd_dvd_right g p) with e | e
    · exact e
    · exact absurd (e ▸ Nat.gcd_dvd_left g p) hn
  have h2 : g ∣ Nat.gcd (g * m) (p * m) := Nat.dvd_gcd ⟨m, rfl⟩ h
  rw [Nat.gcd_mul_right, h1, Nat.one_mul] at h2
  exact h2
theorem pr2 : ∀ d, d ∣ 2 → d = 1 ∨ d = 2 := by
  intro d h
  have := Nat.le_of_dvd (by omega) h
  have : d ≠ 0 := fun e => by subst e; omega
  omega
theorem pr5 : ∀ d, d ∣ 5 → d = 1 ∨ d = 5 := by
  intro d h
  have h5 := Nat.le_of_dvd (by omega) h
  have : ∀ d, d ≤ 5 → d ∣ 5 → d = 1 ∨ d = 5 := by decide
  exact this d h5 h
/-- both by p, where both can be -/
def hv (p : Nat) (z : Nat × Nat) : Nat × Nat := if z.1 % p = 0 ∧ z.2 % p = 0 then (z.1 / p, z.2 / p) else z
theorem hv_le (p : Nat) (z : Nat × Nat) : (hv p z).1 ≤ z.1 ∧ (hv p z).2 ≤ z.2 := by
  unfold hv
  split
  · exact ⟨Nat.div_le_self _ _, Nat.div_le_self _ _⟩
  · exact ⟨Nat.le_refl _, Nat.le_refl _⟩
theorem hv_d {p : Nat} (h0 : 0 < p) (z : Nat × Nat) : ∃ d, 0 < d ∧ z.1 = (hv p z).1 * d ∧ z.2 = (hv p z).2 * d := by
  unfold hv
  by_cases h : z.1 % p = 0 ∧ z.2 % p = 0
  · rw [if_pos h]
    exact ⟨p, h0, (Nat.div_mul_cancel (Nat.dvd_of_mod_eq_zero h.1)).symm, (Nat.div_mul_cancel (Nat.dvd_of_mod_eq_zero h.2)).symm⟩
  · rw [if_neg h]
    exact ⟨1, by omega, (Nat.mul_one _).symm, (Nat.mul_one _).symm⟩
theorem hv_g {p m : Nat} (h0 : 0 < p) (hp : ∀ d, d ∣ p → d = 1 ∨ d = p) {z : Nat × Nat} (h : Nat.gcd z.1 z.2 ∣ p * m) : Nat.gcd (hv p z).1 (hv p z).2 ∣ m := by
  unfold hv
  by_cases c : z.1 % p = 0 ∧ z.2 % p = 0
  · rw [if_pos c]
    have e1 := Nat.mul_div_cancel' (Nat.dvd_of_mod_eq_zero c.1)
    have e2 := Nat.mul_div_cancel' (Nat.dvd_of_mod_eq_zero c.2)
    rw [← e1, ← e2, Nat.gcd_mul_left] at h
    exact Nat.dvd_of_mul_dvd_mul_left h0 h
  · rw [if_neg c]
    refine cop_dvd hp (fun hd => c ?_) h
    exact ⟨Nat.mod_eq_zero_of_dvd (Nat.dvd_trans hd (Nat.gcd_dvd_left _ _)), Nat.mod_eq_zero_of_dvd (Nat.dvd_trans hd (Nat.gcd_dvd_right _ _))⟩
def ltN (z : Nat × Nat) : Nat → Nat × Nat
  | 0 => z
  | j + 1 => hv 5 (hv 2 (ltN z j))
theorem ltN_le (z : Nat × Nat) : ∀ j, (ltN z j).1 ≤ z.1 ∧ (ltN z j).2 ≤ z.2
  | 0 => ⟨Nat.le_refl _, Nat.le_refl _⟩
  | j + 1 => by
    have h := ltN_le z j
    have h2 := hv_le 2 (ltN z j)
    have h5 := hv_le 5 (hv 2 (ltN z j))
    show (hv 5 (hv 2 (ltN z j))).1 ≤ _ ∧ (hv 5 (hv 2 (ltN z j))).2 ≤ _
    omega
theorem ltN_g {z : Nat × Nat} {n : Nat} (h : Nat.gcd z.1 z.2 ∣ 10 ^ n) : ∀ j, j ≤ n → Nat.gcd (ltN z j).1 (ltN z j).2 ∣ 10 ^ (n - j) ∧ ∃ d, 0 < d ∧ z.1 = (ltN z j).1 * d ∧ z.2 = (ltN z j).2 * d
  | 0, _ => ⟨h, 1, by omega, (Nat.mul_one _).symm, (Nat.mul_one _).symm⟩
  | j + 1, hj => by
    obtain ⟨g, d, d0, d1, d2⟩ := ltN_g h j (by omega)
    obtain ⟨a, a0, a1, a2⟩ := hv_d (p := 2) (by omega) (ltN z j)
    obtain ⟨b, b0, b1, b2⟩ := hv_d (p := 5) (by omega) (hv 2 (ltN z j))
    refine ⟨?_, b * (a * d), Nat.mul_pos b0 (Nat.mul_pos a0 d0), ?_, ?_⟩
    · refine hv_g (by omega) pr5 (hv_g (by omega) pr2 ?_)
      rw [show 2 * (5 * 10 ^ (n - (j + 1))) = 10 ^ (n - j) from by
        rw [show n - j = n - (j + 1) + 1 by omega, Nat.pow_succ]; omega]
      exact g
    · show _ = (hv 5 (hv 2 (ltN z j))).1 * _
      rw [← Nat.mul_assoc, ← b1, ← Nat.mul_assoc, ← a1, ← d1]
    · show _ = (hv 5 (hv 2 (ltN z j))).2 * _
      rw [← Nat.mul_assoc, ← b2, ← Nat.mul_assoc, ← a2, ← d2]
theorem ltN_fin {z : Nat × Nat} {n : Nat} (h : Nat.gcd z.1 z.2 ∣ 10 ^ n) : z.1 / Nat.gcd z.1 z.2 = (ltN z n).1 := by
  obtain ⟨g, d, d0, d1, d2⟩ := ltN_g h n (Nat.le_refl n)
  rw [Nat.sub_self, Nat.pow_zero, Nat.dvd_one] at g
  have e : Nat.gcd z.1 z.2 = d := by
    rw [d1, d2, Nat.gcd_mul_right, g, Nat.one_mul]
  rw [e]
  conv => lhs; rw [d1]
  exact Nat.mul_div_cancel _ d0
theorem e_lowT {a b n : Nat} (ha : a ≤ 100000000) (hb : b ≤ 100000000) (hn : n ≤ 8) : fX4_inLowestTerms (nI a) (nI b) (nI n) = some (nI (ltN (a, b) n).1) := by
  unfold fX4_inLowestTerms
  refine px_lp (fun j => (nI (ltN (a, b) j).1, nI (ltN (a, b) j).2, nI j)) n (nI (ltN (a, b) n).1) rfl (by omega) ?_ ?_ rfl
  · intro j hj
    have hl := ltN_le (a, b) j
    dsimp only at hl
    have hh := hv_le 2 (ltN (a, b) j)
    obtain ⟨w, hw⟩ : ∃ w, w = hv 2 (ltN (a, b) j) := ⟨_, rfl⟩
    have hs : ltN (a, b) (j + 1) = hv 5 w := by rw [hw]; rfl
    rw [← hw] at hh
    obtain ⟨u, hu⟩ : ∃ u, u = ltN (a, b) j := ⟨_, rfl⟩
    rw [← hu] at hh hl hw
    have h37 : jX4_inLowestTerms_37 (nI w.1) (nI w.2) (nI j) = some (.inl (nI (hv 5 w).1, nI (hv 5 w).2, nI (j + 1))) := by
      unfold jX4_inLowestTerms_37 hv
      rw [show nI j + (1 : Int32) = nI (j + 1) from nI_1 j, n_5, px_rem (by omega) (by omega) (by omega), px_rem (by omega) (by omega) (by omega), px_div (by omega) (by omega) (by omega), px_div (by omega) (by omega) (by omega), px_slt, px_slt]
      have m1 : w.1 % 5 < 5 := Nat.mod_lt _ (by omega)
      have m2 : w.2 % 5 < 5 := Nat.mod_lt _ (by omega)
      by_cases c1 : w.1 % 5 = 0
      · rw [if_pos ((bit0 (by omega)).mpr c1)]
        by_cases c2 : w.2 % 5 = 0
        · rw [if_pos ((bit0 (by omega)).mpr c2), if_pos ⟨c1, c2⟩]
        · rw [if_neg (fun z => c2 ((bit0 (by omega)).mp z)), if_neg (fun z => c2 z.2)]
      · rw [if_neg (fun z => c1 ((bit0 (by omega)).mp z)), if_neg (fun z => c1 z.1)]
    unfold bX4_inLowestTerms_8
    dsimp only
    rw [← hu, hs, ← h37, if_neg (by rw [px_le (by omega) (by omega)]; omega), n_2, px_rem (by omega) (by omega) (by omega), px_rem (by omega) (by omega) (by omega), px_div (by omega) (by omega) (by omega), px_div (by omega) (by omega) (by omega), px_slt, px_slt, hw]
    unfold hv
    have m1 : u.1 % 2 < 2 := Nat.mod_lt _ (by omega)
    have m2 : u.2 % 2 < 2 := Nat.mod_lt _ (by omega)
    by_cases c1 : u.1 % 2 = 0
    · rw [if_pos ((bit0 (by omega)).mpr c1)]
      by_cases c2 : u.2 % 2 = 0
      · rw [if_pos ((bit0 (by omega)).mpr c2), if_pos ⟨c1, c2⟩]
      · rw [if_neg (fun z => c2 ((bit0 (by omega)).mp z)), if_neg (fun z => c2 z.2)]
    · rw [if_neg (fun z => c1 ((bit0 (by omega)).mp z)), if_neg (fun z => c1 z.1)]
  · unfold bX4_inLowestTerms_8
    dsimp only
    rw [if_pos (by rw [px_le (by omega) (by omega)]; omega)]

/-! a turn of both -/
theorem e_heed {c P W : Nat} {g kinds heights winds cells : Nat → Int32} (hc : c ≤ 126) : fX2_heed g (nI P) (nI W) kinds heights winds cells (nI c) =
  if c = 112 then
    (fX1_tellPeak (nI P) kinds heights (g 0) (g 1)).bind fun (x16, o17, o18, o19) =>
    some (x16, o17, nI W, o18, o19, winds, cells)
  else
    if c = 115 then
      (fX2_tellStore cells (g 0) (g 1)).bind fun (x12, o13) =>
      some (x12, nI P, nI W, kinds, heights, winds, o13)
    else
      if c = 111 then
        (fX2_tellOn (nI P) cells (g 0) (g 1) (g 2)).bind fun (x8, o9) =>
        some (x8, nI P, nI W, kinds, heights, winds, o9)
      else
        if c = 119 then
          (fX1_tellWind (nI W) winds (g 0)).bind fun (x2, o3, o4) =>
          if x2 = 0 then
            some ((0 : Int32), nI P, o3, kinds, heights, o4, cells)
          else
            some ((1 : Int32), nI P, o3, kinds, heights, o4, cells)
        else
          some ((0 : Int32), nI P, nI W, kinds, heights, winds, cells) := by
  have r0 : ∀ {ρ : Type} (F : Int32 → Option ρ), sx_rd g 3 (0 : Int32) F = F (g 0) := fun F => by rw [n_0]; exact px_rd (by omega) (by omega)
  have r1 : ∀ {ρ : Type} (F : Int32 → Option ρ), sx_rd g 3 (1 : Int32) F = F (g 1) := fun F => by rw [n_1]; exact px_rd (by omega) (by omega)
  have r2 : ∀ {ρ : Type} (F : Int32 → Option ρ), sx_rd g 3 (2 : Int32) F = F (g 2) := fun F => by rw [n_2]; exact px_rd (by omega) (by omega)
  unfold fX2_heed
  simp only [r0, r1, r2]
  rw [n_112, n_115, n_111, n_119]
  simp only [px_eq (show c < 2147483648 by omega) (show 112 < 2147483648 by omega), px_eq (show c < 2147483648 by omega) (show 115 < 2147483648 by omega), px_eq (show c < 2147483648 by omega) (show 111 < 2147483648 by omega), px_eq (show c < 2147483648 by omega) (show 119 < 2147483648 by omega)]
theorem ls_1 {vs : List Nat} (h : vs.length = 1) : ∃ x, vs = [x] := by
  match vs, h with
  | [x], _ => exact ⟨x, rfl⟩
theorem ls_2 {vs : List Nat} (h : vs.length = 2) : ∃ x y, vs = [x, y] := by
  match vs, h with
  | [x, y], _ => exact ⟨x, y, rfl⟩
theorem ls_3 {vs : List Nat} (h : vs.length = 3) : ∃ x y z, vs = [x, y, z] := by
  match vs, h with
  | [x, y, z], _ => exact ⟨x, y, z, rfl⟩
def StR (L i a P W : Nat) (rn : Int32) (f fm nums kinds heights winds cells rk rh rp rs rw_ : Nat → Int32) : Prop :=
  (∃ e P' W' rn' nums' kinds' heights' winds' cells' rk' rh' rp' rs' rw', a < e ∧ e ≤ L ∧ RRd P' W' kinds' heights' winds' cells' rk' rh' rp' rs' rw' ∧ bX2_readAll_21 (nI L) f (nI i, nI a, nums, nI P, nI W, kinds, heights, winds, cells) = some (.inl (nI (i + 1), nI e, nums', nI P', nI W', kinds', heights', winds', cells')) ∧ bX5_fault_56 (nI L) fm (nI a, nI P, nI W, rn, rk, rh, rp, rs, rw_) = some (.inl (nI e, nI P', nI W', rn', rk', rh', rp', rs', rw'))) ∨
  (∃ z z', bX2_readAll_21 (nI L) f (nI i, nI a, nums, nI P, nI W, kinds, heights, winds, cells) = some (.inr (.inl (nI a, z))) ∧ bX5_fault_56 (nI L) fm (nI a, nI P, nI W, rn, rk, rh, rp, rs, rw_) = some (.inr (.inl (nI a, z'))))
theorem st_read {L i a P W : Nat} {rn : Int32} {tx : Nat → Nat} {f fm nums kinds heights winds cells rk rh rp rs rw_ : Nat → Int32} (hL : L ≤ 200) (hi : i ≤ a) (ha : a < L) (hT : TX L tx f) (hM : TX L tx fm) (h : RRd P W kinds heights winds cells rk rh rp rs rw_) : StR L i a P W rn f fm nums kinds heights winds cells rk rh rp rs rw_ := by
  have hx := hT a ha
  have hl : ltC L tx a = tx a := if_pos ha
  have hm1 := ms_it (P := P) (W := W) (rn := rn) (tx := tx) (f := fm) (rk := rk) (rh := rh) (rp := rp) (rs := rs) (rw_ := rw_) hL ha
  rw [ms_hd hL ha hM] at hm1
  have hP : P ≤ 6 := h.1
  have hW : W ≤ 12 := h.2.1
  unfold StR
  by_cases c1 : tx a = 112
  · rw [if_pos c1] at hm1
    have hit : itN L tx a = sqN L tx 2 (a + 1) := by unfold itN; rw [hl, c1]; rfl
    rcases e_rPeak (rn := rn) (kn := rk) (hg := rh) hL (show a + 1 ≤ 800 by omega) hM hP with ⟨t, n, e, num', s1, s2, s3, s4, s5, s6⟩ | ⟨s1, at', num', s2⟩
    · obtain ⟨b1, b2, b3, b4⟩ := sq_b _ _ _ _ s1
      obtain ⟨g', g1, g2⟩ := cs_it (i := i) (P := P) (W := W) (nums := nums) (kinds := kinds) (heights := heights) (winds := winds) (cells := cells) hL hi ha hT (hit.trans s1)
      rw [c1] at g1
      have e0 : g' 0 = nI t := g1 0 (by decide)
      have e1 : g' 1 = nI n := g1 1 (by decide)
      rw [e_heed (by omega), if_pos c1, e0, e1, e_tellPeak hP (by omega) (by omega), if_pos ⟨s2, s3, s4, s5⟩] at g2
      rw [s6] at hm1
      exact Or.inl ⟨e, _, _, _, _, _, _, _, _, _, _, _, _, _, by omega, b4 (by omega), RRd_peak h s5 s2, g2, hm1⟩
    · rw [s2] at hm1
      match hs : sqN L tx 2 (a + 1) with
      | none =>
        obtain ⟨z, hz⟩ := cs_bad (i := i) (P := P) (W := W) (nums := nums) (kinds := kinds) (heights := heights) (winds := winds) (cells := cells) hL hi ha hT (hit.trans hs)
        exact Or.inr ⟨z, _, hz, hm1⟩
      | some (vs, e) =>
        obtain ⟨b1, b2, b3, b4⟩ := sq_b _ _ _ _ hs
        obtain ⟨t, n, rfl⟩ := ls_2 b1
        have ht : t ≤ 99 := b2 0
        have hn : n ≤ 99 := b2 1
        obtain ⟨g', g1, g2⟩ := cs_it (i := i) (P := P) (W := W) (nums := nums) (kinds := kinds) (heights := heights) (winds := winds) (cells := cells) hL hi ha hT (hit.trans hs)
        rw [c1] at g1
        have e0 : g' 0 = nI t := g1 0 (by decide)
        have e1 : g' 1 = nI n := g1 1 (by decide)
        rw [e_heed (by omega), if_pos c1, e0, e1, e_tellPeak hP ht hn, if_neg (s1 t n e hs)] at g2
        exact Or.inr ⟨_, _, g2, hm1⟩
  rw [if_neg c1] at hm1
  by_cases c2 : tx a = 115
  · rw [if_pos c2] at hm1
    have hit : itN L tx a = sqN L tx 2 (a + 1) := by unfold itN; rw [hl, c2]; rfl
    rcases e_rStore (rn := rn) (st := rs) hL (show a + 1 ≤ 800 by omega) hM with ⟨t, n, e, num', s1, s2, s3, s6⟩ | ⟨s1, at', num', s2⟩
    · obtain ⟨b1, b2, b3, b4⟩ := sq_b _ _ _ _ s1
      obtain ⟨g', g1, g2⟩ := cs_it (i := i) (P := P) (W := W) (nums := nums) (kinds := kinds) (heights := heights) (winds := winds) (cells := cells) hL hi ha hT (hit.trans s1)
      rw [c2] at g1
      have e0 : g' 0 = nI t := g1 0 (by decide)
      have e1 : g' 1 = nI n := g1 1 (by decide)
      rw [e_heed (by omega), if_neg c1, if_pos c2, e0, e1, e_tellStore (by omega) (by omega), if_pos ⟨s2, s3⟩] at g2
      rw [s6] at hm1
      exact Or.inl ⟨e, _, _, _, _, _, _, _, _, _, _, _, _, _, by omega, b4 (by omega), RRd_store h s2, g2, hm1⟩
    · rw [s2] at hm1
      match hs : sqN L tx 2 (a + 1) with
      | none =>
        obtain ⟨z, hz⟩ := cs_bad (i := i) (P := P) (W := W) (nums := nums) (kinds := kinds) (heights := heights) (winds := winds) (cells := cells) hL hi ha hT (hit.trans hs)
        exact Or.inr ⟨z, _, hz, hm1⟩
      | some (vs, e) =>
        obtain ⟨b1, b2, b3, b4⟩ := sq_b _ _ _ _ hs
        obtain ⟨t, n, rfl⟩ := ls_2 b1
        have ht : t ≤ 99 := b2 0
        have hn : n ≤ 99 := b2 1
        obtain ⟨g', g1, g2⟩ := cs_it (i := i) (P := P) (W := W) (nums := nums) (kinds := kinds) (heights := heights) (winds := winds) (cells := cells) hL hi ha hT (hit.trans hs)
        rw [c2] at g1
        have e0 : g' 0 = nI t := g1 0 (by decide)
        have e1 : g' 1 = nI n := g1 1 (by decide)
        rw [e_heed (by omega), if_neg c1, if_pos c2, e0, e1, e_tellStore ht hn, if_neg (s1 t n e hs)] at g2
        exact Or.inr ⟨_, _, g2, hm1⟩
  rw [if_neg c2] at hm1
  by_cases c3 : tx a = 111
  · rw [if_pos c3] at hm1
    have hit : itN L tx a = sqN L tx 3 (a + 1) := by unfold itN; rw [hl, c3]; rfl
    rcases e_rOn (rn := rn) (ps := rp) hL (show a + 1 ≤ 800 by omega) hM hP with ⟨q, t, n, e, num', s1, s2, s3, s4, s5, s6⟩ | ⟨s1, at', num', s2⟩
    · obtain ⟨b1, b2, b3, b4⟩ := sq_b _ _ _ _ s1
      obtain ⟨g', g1, g2⟩ := cs_it (i := i) (P := P) (W := W) (nums := nums) (kinds := kinds) (heights := heights) (winds := winds) (cells := cells) hL hi ha hT (hit.trans s1)
      rw [c3] at g1
      have e0 : g' 0 = nI q := g1 0 (by decide)
      have e1 : g' 1 = nI t := g1 1 (by decide)
      have e2 : g' 2 = nI n := g1 2 (by decide)
      rw [e_heed (by omega), if_neg c1, if_neg c2, if_pos c3, e0, e1, e2, e_tellOn hP (by omega) (by omega) (by omega), if_pos ⟨s2, s3, s4, s5⟩] at g2
      rw [s6] at hm1
      exact Or.inl ⟨e, _, _, _, _, _, _, _, _, _, _, _, _, _, by omega, b4 (by omega), RRd_on h s2 s3 s5, g2, hm1⟩
    · rw [s2] at hm1
      match hs : sqN L tx 3 (a + 1) with
      | none =>
        obtain ⟨z, hz⟩ := cs_bad (i := i) (P := P) (W := W) (nums := nums) (kinds := kinds) (heights := heights) (winds := winds) (cells := cells) hL hi ha hT (hit.trans hs)
        exact Or.inr ⟨z, _, hz, hm1⟩
      | some (vs, e) =>
        obtain ⟨b1, b2, b3, b4⟩ := sq_b _ _ _ _ hs
        obtain ⟨q, t, n, rfl⟩ := ls_3 b1
        have hq : q ≤ 99 := b2 0
        have ht : t ≤ 99 := b2 1
        have hn : n ≤ 99 := b2 2
        obtain ⟨g', g1, g2⟩ := cs_it (i := i) (P := P) (W := W) (nums := nums) (kinds := kinds) (heights := heights) (winds := winds) (cells := cells) hL hi ha hT (hit.trans hs)
        rw [c3] at g1
        have e0 : g' 0 = nI q := g1 0 (by decide)
        have e1 : g' 1 = nI t := g1 1 (by decide)
        have e2 : g' 2 = nI n := g1 2 (by decide)
        rw [e_heed (by omega), if_neg c1, if_neg c2, if_pos c3, e0, e1, e2, e_tellOn hP hq ht hn, if_neg (s1 q t n e hs)] at g2
        exact Or.inr ⟨_, _, g2, hm1⟩
  rw [if_neg c3] at hm1
  by_cases c4 : tx a = 119
  · rw [if_pos c4] at hm1
    have hit : itN L tx a = sqN L tx 1 (a + 1) := by unfold itN; rw [hl, c4]; rfl
    rcases e_rWind (rn := rn) (wd := rw_) hL (show a + 1 ≤ 800 by omega) hM hW with ⟨n, e, num', s1, s2, s3, s6⟩ | ⟨s1, at', num', s2⟩
    · obtain ⟨b1, b2, b3, b4⟩ := sq_b _ _ _ _ s1
      obtain ⟨g', g1, g2⟩ := cs_it (i := i) (P := P) (W := W) (nums := nums) (kinds := kinds) (heights := heights) (winds := winds) (cells := cells) hL hi ha hT (hit.trans s1)
      rw [c4] at g1
      have e0 : g' 0 = nI n := g1 0 (by decide)
      rw [e_heed (by omega), if_neg c1, if_neg c2, if_neg c3, if_pos c4, e0, e_tellWind hW (by omega), if_pos ⟨s2, s3⟩] at g2
      rw [s6] at hm1
      exact Or.inl ⟨e, _, _, _, _, _, _, _, _, _, _, _, _, _, by omega, b4 (by omega), RRd_wind h s3 s2, g2, hm1⟩
    · rw [s2] at hm1
      match hs : sqN L tx 1 (a + 1) with
      | none =>
        obtain ⟨z, hz⟩ := cs_bad (i := i) (P := P) (W := W) (nums := nums) (kinds := kinds) (heights := heights) (winds := winds) (cells := cells) hL hi ha hT (hit.trans hs)
        exact Or.inr ⟨z, _, hz, hm1⟩
      | some (vs, e) =>
        obtain ⟨b1, b2, b3, b4⟩ := sq_b _ _ _ _ hs
        obtain ⟨n, rfl⟩ := ls_1 b1
        have hn : n ≤ 99 := b2 0
        obtain ⟨g', g1, g2⟩ := cs_it (i := i) (P := P) (W := W) (nums := nums) (kinds := kinds) (heights := heights) (winds := winds) (cells := cells) hL hi ha hT (hit.trans hs)
        rw [c4] at g1
        have e0 : g' 0 = nI n := g1 0 (by decide)
        rw [e_heed (by omega), if_neg c1, if_neg c2, if_neg c3, if_pos c4, e0, e_tellWind hW hn, if_neg (s1 n e hs)] at g2
        exact Or.inr ⟨_, _, g2, hm1⟩
  rw [if_neg c4] at hm1
  have hit : itN L tx a = none := by
    unfold itN nbN
    rw [hl, if_neg c3, if_neg c4, if_neg c1, if_neg c2, if_pos rfl]
  obtain ⟨z, hz⟩ := cs_bad (i := i) (P := P) (W := W) (nums := nums) (kinds := kinds) (heights := heights) (winds := winds) (cells := cells) hL hi ha hT hit
  exact Or.inr ⟨z, _, hz, hm1⟩
/-- all turns -/
theorem lp_read {L : Nat} {tx : Nat → Nat} {f fm : Nat → Int32} (hL : L ≤ 200) (hT : TX L tx f) (hM : TX L tx fm) : ∀ (d m m' i a P W : Nat) (rn : Int32) (nums kinds heights winds cells rk rh rp rs rw_ : Nat → Int32), i ≤ a → a + d = L → d < m → d < m' → RRd P W kinds heights winds cells rk rh rp rs rw_ →
  (∃ P' W' rn' at' at2 nums' kinds' heights' winds' cells' rk' rh' rp' rs' rw', RRd P' W' kinds' heights' winds' cells' rk' rh' rp' rs' rw' ∧ sx_it m (bX2_readAll_21 (nI L) f) (nI i, nI a, nums, nI P, nI W, kinds, heights, winds, cells) = some (.inr (at', nums', nI P', nI W', kinds', heights', winds', cells')) ∧ sx_it m' (bX5_fault_56 (nI L) fm) (nI a, nI P, nI W, rn, rk, rh, rp, rs, rw_) = some (.inr (at2, nI P', nI W', rn', rk', rh', rp', rs', rw'))) ∨
  (∃ b z z', b < 200 ∧ sx_it m (bX2_readAll_21 (nI L) f) (nI i, nI a, nums, nI P, nI W, kinds, heights, winds, cells) = some (.inl (nI b, z)) ∧ sx_it m' (bX5_fault_56 (nI L) fm) (nI a, nI P, nI W, rn, rk, rh, rp, rs, rw_) = some (.inl (nI b, z'))) := by
  intro d
  induction d using Nat.strongRecOn with
  | _ d ih =>
    intro m m' i a P W rn nums kinds heights winds cells rk rh rp rs rw_ hi had hm hm' h
    match m, m', hm, hm' with
    | m + 1, m' + 1, hm, hm' =>
      by_cases hd : d = 0
      · refine Or.inl ⟨P, W, rn, nI a, nI a, nums, kinds, heights, winds, cells, rk, rh, rp, rs, rw_, h, ?_, ?_⟩
        · unfold sx_it bX2_readAll_21
          dsimp only
          by_cases h2 : (200 : Int32) ≤ nI i
          · rw [if_pos h2]
          · rw [if_neg h2, if_pos (show nI L ≤ nI a by rw [px_le (by omega) (by omega)]; omega)]
        · unfold sx_it bX5_fault_56
          dsimp only
          rw [if_pos (show nI L ≤ nI a by rw [px_le (by omega) (by omega)]; omega)]
      · rcases st_read (rn := rn) (nums := nums) hL hi (show a < L by omega) hT hM h with ⟨e, P', W', rn', nums', kinds', heights', winds', cells', rk', rh', rp', rs', rw', e1, e2, e3, e4, e5⟩ | ⟨z, z', e1, e2⟩
        · have := ih (L - e) (by omega) m m' (i + 1) e P' W' rn' nums' kinds' heights' winds' cells' rk' rh' rp' rs' rw' (by omega) (by omega) (by omega) (by omega) e3
          unfold sx_it
          rw [e4, e5]
          exact this
        · refine Or.inr ⟨a, z, z', by omega, ?_, ?_⟩
          · unfold sx_it
            rw [e1]
          · unfold sx_it
            rw [e2]

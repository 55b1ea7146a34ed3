/-! both sides read: item by item -/
def RRd (P W : Nat) (kinds heights winds cells rk rh rp rs rw_ : Nat → Int32) : Prop := P ≤ 6 ∧ W ≤ 12 ∧ (∃ kd, KI P kinds kd ∧ KI P rk kd) ∧ (∀ p, p < P → heights p = rh p) ∧ (∃ wv, WI W winds wv ∧ WI W rw_ wv) ∧ (∃ Q, PI cells Q ∧ PI rp Q ∧ PZ P Q) ∧ (∀ t, t < 5 → cells (30 + t) = rs t) ∧ cells 41 = nI 0
theorem RRd_peak {P W t n : Nat} {kinds heights winds cells rk rh rp rs rw_ : Nat → Int32} (h : RRd P W kinds heights winds cells rk rh rp rs rw_) (hP : P < 6) (ht : t ≤ 3) : RRd (P + 1) W (upd kinds P (nI t)) (upd heights P (nI n)) winds cells (upd rk P (nI t)) (upd rh P (nI n)) rp rs rw_ := by
  obtain ⟨h1, h2, ⟨kd, k1, k2⟩, h4, h5, ⟨Q, q1, q2, q3, q4⟩, h7, h8⟩ := h
  refine ⟨by omega, h2, ⟨fun p => if p = P then t else kd p, fun p hp => ?_, fun p hp => ?_⟩, fun p hp => ?_, h5, ⟨Q, q1, q2, q3, fun k hk hk2 => q4 k (by omega) hk2⟩, h7, h8⟩
  · dsimp only
    by_cases e : p = P
    · subst e; rw [px_upd_s, if_pos rfl]; exact ⟨rfl, ht⟩
    · rw [px_upd_n e, if_neg e]; exact k1 p (by omega)
  · dsimp only
    by_cases e : p = P
    · subst e; rw [px_upd_s, if_pos rfl]; exact ⟨rfl, ht⟩
    · rw [px_upd_n e, if_neg e]; exact k2 p (by omega)
  · by_cases e : p = P
    · subst e; rw [px_upd_s, px_upd_s]
    · rw [px_upd_n e, px_upd_n e]; exact h4 p (by omega)
theorem RRd_wind {P W n : Nat} {kinds heights winds cells rk rh rp rs rw_ : Nat → Int32} (h : RRd P W kinds heights winds cells rk rh rp rs rw_) (hW : W < 12) (hn : n ≤ 20) : RRd P (W + 1) kinds heights (upd winds W (nI n)) cells rk rh rp rs (upd rw_ W (nI n)) := by
  obtain ⟨h1, h2, h3, h4, ⟨wv, w1, w2⟩, h6, h7, h8⟩ := h
  refine ⟨h1, by omega, h3, h4, ⟨fun k => if k = W then n else wv k, fun k hk => ?_, fun k hk => ?_⟩, h6, h7, h8⟩
  · dsimp only
    by_cases e : k = W
    · subst e; rw [px_upd_s, if_pos rfl]; exact ⟨rfl, hn⟩
    · rw [px_upd_n e, if_neg e]; exact w1 k (by omega)
  · dsimp only
    by_cases e : k = W
    · subst e; rw [px_upd_s, if_pos rfl]; exact ⟨rfl, hn⟩
    · rw [px_upd_n e, if_neg e]; exact w2 k (by omega)
theorem RRd_store {P W t n : Nat} {kinds heights winds cells rk rh rp rs rw_ : Nat → Int32} (h : RRd P W kinds heights winds cells rk rh rp rs rw_) (ht : t ≤ 4) : RRd P W kinds heights winds (upd cells (30 + t) (nI n)) rk rh rp (upd rs t (nI n)) rw_ := by
  obtain ⟨h1, h2, h3, h4, h5, ⟨Q, q1, q2, q3⟩, h7, h8⟩ := h
  refine ⟨h1, h2, h3, h4, h5, ⟨Q, fun k hk => ?_, q2, q3⟩, fun s hs => ?_, ?_⟩
  · rw [px_upd_n (by omega)]; exact q1 k hk
  · by_cases e : s = t
    · subst e; rw [px_upd_s, px_upd_s]
    · rw [px_upd_n (by omega), px_upd_n e]; exact h7 s hs
  · rw [px_upd_n (by omega)]; exact h8
theorem RRd_on {P W q t n : Nat} {kinds heights winds cells rk rh rp rs rw_ : Nat → Int32} (h : RRd P W kinds heights winds cells rk rh rp rs rw_) (hq : q < P) (ht : t ≤ 4) (hn : n ≤ 20) : RRd P W kinds heights winds (upd cells (5 * q + t) (nI n)) rk rh (upd rp (5 * q + t) (nI n)) rs rw_ := by
  obtain ⟨h1, h2, h3, h4, h5, ⟨Q, q1, q2, q3, q4⟩, h7, h8⟩ := h
  refine ⟨h1, h2, h3, h4, h5, ⟨fun k => if k = 5 * q + t then n else Q k, fun k hk => ?_, fun k hk => ?_, fun k hk => ?_, fun k hk hk2 => ?_⟩, fun s hs => ?_, ?_⟩
  · dsimp only
    by_cases e : k = 5 * q + t
    · subst e; rw [px_upd_s, if_pos rfl]
    · rw [px_upd_n e, if_neg e]; exact q1 k hk
  · dsimp only
    by_cases e : k = 5 * q + t
    · subst e; rw [px_upd_s, if_pos rfl]
    · rw [px_upd_n e, if_neg e]; exact q2 k hk
  · dsimp only
    by_cases e : k = 5 * q + t
    · rw [if_pos e]; exact hn
    · rw [if_neg e]; exact q3 k hk
  · dsimp only
    rw [if_neg (by omega)]; exact q4 k hk hk2
  · rw [px_upd_n (by omega)]; exact h7 s hs
  · rw [px_upd_n (by omega)]; exact h8
/-- the class's turn -/
theorem cs_bad {L i a P W : Nat} {tx : Nat → Nat} {f nums kinds heights winds cells : Nat → Int32} (hL : L ≤ 200) (hi : i ≤ a) (ha : a < L) (hT : TX L tx f) (h : itN L tx a = none) : ∃ z, bX2_readAll_21 (nI L) f (nI i, nI a, nums, nI P, nI W, kinds, heights, winds, cells) = some (.inr (.inl (nI a, z))) := by
  obtain ⟨at', g', e1⟩ := (e_readItem (g := nums) hL (by omega) hT).1 h
  unfold bX2_readAll_21
  dsimp only
  rw [n_200, if_neg (show ¬ nI 200 ≤ nI i by rw [px_le (by omega) (by omega)]; omega), if_neg (show ¬ nI L ≤ nI a by rw [px_le (by omega) (by omega)]; omega), e1, px_bd]
  exact ⟨_, rfl⟩
theorem cs_it {L i a e P W : Nat} {vs : List Nat} {tx : Nat → Nat} {f nums kinds heights winds cells : Nat → Int32} (hL : L ≤ 200) (hi : i ≤ a) (ha : a < L) (hT : TX L tx f) (h : itN L tx a = some (vs, e)) : ∃ g', (∀ j, j < nbN (tx a) → g' j = nI (vs.getD j 0)) ∧ bX2_readAll_21 (nI L) f (nI i, nI a, nums, nI P, nI W, kinds, heights, winds, cells) = (fX2_heed g' (nI P) (nI W) kinds heights winds cells (nI (tx a))).bind fun (x8, o9, o10, o11, o12, o13, o14) => if x8 = 0 then some (.inr (.inl (nI a, nI e, g', o9, o10, o11, o12, o13, o14))) else some (.inl (nI (i + 1), nI e, g', o9, o10, o11, o12, o13, o14)) := by
  obtain ⟨g', e1, e2⟩ := (e_readItem (g := nums) hL (by omega) hT).2 vs e h
  have hl : ltC L tx a = tx a := if_pos ha
  refine ⟨g', fun j hj => e2 j (by rw [hl]; exact hj), ?_⟩
  unfold bX2_readAll_21
  dsimp only
  rw [n_200, if_neg (show ¬ nI 200 ≤ nI i by rw [px_le (by omega) (by omega)]; omega), if_neg (show ¬ nI L ≤ nI a by rw [px_le (by omega) (by omega)]; omega), e1, px_bd]
  dsimp only
  rw [if_neg i01, e_letterAt hL (by omega) hT, px_bd, hl, show nI i + (1 : Int32) = nI (i + 1) from nI_1 i]
/-- the reference's -/
theorem ms_it {L a P W : Nat} {rn : Int32} {tx : Nat → Nat} {f rk rh rp rs rw_ : Nat → Int32} (hL : L ≤ 200) (ha : a < L) : bX5_fault_56 (nI L) f (nI a, nI P, nI W, rn, rk, rh, rp, rs, rw_) = (fX5_readsItem (nI L) (nI a) (nI P) (nI W) rn f rk rh rp rs rw_).bind fun (x7, o8, o9, o10, o11, o12, o13, o14, o15, o16) => if x7 = 0 then some (.inr (.inl (nI a, o8, o9, o10, o11, o12, o13, o14, o15, o16))) else some (.inl (o8, o9, o10, o11, o12, o13, o14, o15, o16)) := by
  unfold bX5_fault_56
  dsimp only
  rw [if_neg (show ¬ nI L ≤ nI a by rw [px_le (by omega) (by omega)]; omega)]
theorem ms_hd {L a P W : Nat} {rn : Int32} {tx : Nat → Nat} {f rk rh rp rs rw_ : Nat → Int32} (hL : L ≤ 200) (ha : a < L) (hT : TX L tx f) : fX5_readsItem (nI L) (nI a) (nI P) (nI W) rn f rk rh rp rs rw_ =
  if tx a = 112 then
    (fX5_readsPeak (nI L) (nI (a + 1)) (nI P) rn f rk rh).bind fun (x16, o17, o18, o19, o20, o21) =>
    some (x16, o17, o18, nI W, o19, o20, o21, rp, rs, rw_)
  else
    if tx a = 115 then
      (fX5_readsStore (nI L) (nI (a + 1)) rn f rs).bind fun (x12, o13, o14, o15) =>
      some (x12, o13, nI P, nI W, o14, rk, rh, rp, o15, rw_)
    else
      if tx a = 111 then
        (fX5_readsOn (nI L) (nI (a + 1)) (nI P) rn f rp).bind fun (x8, o9, o10, o11) =>
        some (x8, o9, nI P, nI W, o10, rk, rh, o11, rs, rw_)
      else
        if tx a = 119 then
          (fX5_readsWind (nI L) (nI (a + 1)) (nI W) rn f rw_).bind fun (x3, o4, o5, o6, o7) =>
          if x3 = 0 then
            some ((0 : Int32), o4, nI P, o5, o6, rk, rh, rp, rs, o7)
          else
            some ((1 : Int32), o4, nI P, o5, o6, rk, rh, rp, rs, o7)
        else
          some ((0 : Int32), nI (a + 1), nI P, nI W, rn, rk, rh, rp, rs, rw_) := by
  have hx := hT a ha
  unfold fX5_readsItem
  rw [e_here hL (by omega) hT, px_bd, show ltM L tx a = tx a from if_pos ha, show nI a + (1 : Int32) = nI (a + 1) from nI_1 a, px_slt, n_112, n_115, n_111, n_119]
  simp only [px_eq (show tx a < 2147483648 by omega) (show 112 < 2147483648 by omega), px_eq (show tx a < 2147483648 by omega) (show 115 < 2147483648 by omega), px_eq (show tx a < 2147483648 by omega) (show 111 < 2147483648 by omega), px_eq (show tx a < 2147483648 by omega) (show 119 < 2147483648 by omega)]

/-! what is on which; the class's side of an item -/
theorem sq3_i {L a u v w e : Nat} {tx : Nat → Nat} (h : sqN L tx 3 a = some ([u, v, w], e)) : ∃ c b, nmN L tx a 44 = some (u, c) ∧ nmN L tx c 44 = some (v, b) ∧ nmN L tx b 59 = some (w, e) := by
  rw [sq3] at h
  match h1 : nmN L tx a 44 with
  | none => rw [h1] at h; exact absurd h (by simp)
  | some (u', c) =>
    rw [h1] at h
    dsimp only at h
    match h2 : nmN L tx c 44 with
    | none => rw [h2] at h; exact absurd h (by simp)
    | some (v', b) =>
      rw [h2] at h
      dsimp only at h
      match h3 : nmN L tx b 59 with
      | none => rw [h3] at h; exact absurd h (by simp)
      | some (w', e') =>
        rw [h3] at h
        simp only [Option.some.injEq, Prod.mk.injEq, List.cons.injEq] at h
        obtain ⟨⟨rfl, rfl, rfl, -⟩, rfl⟩ := h
        exact ⟨c, b, rfl, h2, h3⟩
theorem e_rOn {L a p : Nat} {rn : Int32} {tx : Nat → Nat} {f ps : Nat → Int32} (hL : L ≤ 200) (ha : a ≤ 800) (hT : TX L tx f) (hp : p ≤ 6) : (∃ q t n e num', sqN L tx 3 a = some ([q, t, n], e) ∧ q < p ∧ t ≤ 4 ∧ 1 ≤ n ∧ n ≤ 20 ∧ fX5_readsOn (nI L) (nI a) (nI p) rn f ps = some ((1 : Int32), nI e, num', upd ps (5 * q + t) (nI n))) ∨ ((∀ q t n e, sqN L tx 3 a = some ([q, t, n], e) → ¬ (q < p ∧ t ≤ 4 ∧ 1 ≤ n ∧ n ≤ 20)) ∧ ∃ at' num', fX5_readsOn (nI L) (nI a) (nI p) rn f ps = some ((0 : Int32), at', num', ps)) := by
  unfold fX5_readsOn
  rw [n_44, n_59, n_4, n_20, n_5, n_0]
  rcases e_numC (rn := rn) (mk := 44) (nI 0) (nI p - (1 : Int32)) hL (show a ≤ 900 by omega) (by omega) hT with ⟨q, c, h1, h2, h3⟩ | ⟨h1, at', num', h3⟩
  · have hb := nmN_b (Or.inl rfl) h1
    rw [in_pk (by omega) hp] at h2
    rw [h3, px_bd]
    dsimp only
    rw [if_neg (show ¬ (1 : Int32) = nI 0 from i01)]
    rcases e_numC (rn := nI q) (mk := 44) (nI 0) (nI 4) hL (show c ≤ 900 by omega) (by omega) hT with ⟨t, b, k1, k2, k3⟩ | ⟨k1, at', num', k3⟩
    · have hb2 := nmN_b (Or.inl rfl) k1
      rw [in_bd (by omega) (by omega) (by omega)] at k2
      rw [k3, px_bd]
      dsimp only
      rw [if_neg (show ¬ (1 : Int32) = nI 0 from i01)]
      rcases e_numC (rn := nI t) (mk := 59) (nI 1) (nI 20) hL (show b ≤ 900 by omega) (by omega) hT with ⟨n, e, m1, m2, m3⟩ | ⟨m1, at', num', m3⟩
      · have hb3 := nmN_b (Or.inr rfl) m1
        rw [in_bd (by omega) (by omega) (by omega)] at m2
        rw [show (1 : Int32) = nI 1 from n_1, m3, px_bd]
        dsimp only
        rw [if_neg (show ¬ (1 : Int32) = nI 0 from i01), pk_mul, nI_add, px_wr (by omega) (by omega)]
        refine Or.inl ⟨q, t, n, e, nI n, ?_, h2, k2.2, m2.1, m2.2, rfl⟩
        rw [sq3, h1]
        dsimp only
        rw [k1]
        dsimp only
        rw [m1]
      · rw [show (1 : Int32) = nI 1 from n_1, m3, px_bd]
        dsimp only
        rw [if_pos (show (0 : Int32) = nI 0 from n_0)]
        refine Or.inr ⟨fun q' t' n' e z => ?_, at', num', rfl⟩
        obtain ⟨c', b', z1, z2, z3⟩ := sq3_i z
        rw [h1] at z1
        simp only [Option.some.injEq, Prod.mk.injEq] at z1
        obtain ⟨rfl, rfl⟩ := z1
        rw [k1] at z2
        simp only [Option.some.injEq, Prod.mk.injEq] at z2
        obtain ⟨rfl, rfl⟩ := z2
        have hw := nmN_b (Or.inr rfl) z3
        have := m1 _ _ z3
        rw [in_bd (by omega) (by omega) (by omega)] at this
        omega
    · rw [k3, px_bd]
      dsimp only
      rw [if_pos (show (0 : Int32) = nI 0 from n_0)]
      refine Or.inr ⟨fun q' t' n' e z => ?_, at', num', rfl⟩
      obtain ⟨c', b', z1, z2, z3⟩ := sq3_i z
      rw [h1] at z1
      simp only [Option.some.injEq, Prod.mk.injEq] at z1
      obtain ⟨rfl, rfl⟩ := z1
      have hw := nmN_b (Or.inl rfl) z2
      have := k1 _ _ z2
      rw [in_bd (by omega) (by omega) (by omega)] at this
      omega
  · rw [h3, px_bd]
    dsimp only
    rw [if_pos (show (0 : Int32) = nI 0 from n_0)]
    refine Or.inr ⟨fun q' t' n' e z => ?_, at', num', rfl⟩
    obtain ⟨c', b', z1, z2, z3⟩ := sq3_i z
    have hw := nmN_b (Or.inl rfl) z1
    have := h1 _ _ z1
    rw [in_pk (by omega) hp] at this
    omega
theorem sq_b {L : Nat} {tx : Nat → Nat} : ∀ (k a : Nat) (vs : List Nat) (e : Nat), sqN L tx k a = some (vs, e) → vs.length = k ∧ (∀ j, vs.getD j 0 ≤ 99) ∧ a + k ≤ e ∧ (0 < k → e ≤ L)
  | 0, a, vs, e, h => by
    simp only [sqN, Option.some.injEq, Prod.mk.injEq] at h
    obtain ⟨rfl, rfl⟩ := h
    exact ⟨rfl, fun j => by simp, by omega, fun z => by omega⟩
  | k + 1, a, vs, e, h => by
    unfold sqN at h
    match h1 : nmN L tx a (if k = 0 then 59 else 44) with
    | none => rw [h1] at h; exact absurd h (by simp)
    | some (v, b) =>
      have hb := nmN_b (by split <;> omega) h1
      rw [h1] at h
      dsimp only at h
      match h2 : sqN L tx k b with
      | none => rw [h2] at h; exact absurd h (by simp)
      | some (ws, e2) =>
        rw [h2] at h
        simp only [Option.some.injEq, Prod.mk.injEq] at h
        obtain ⟨rfl, rfl⟩ := h
        obtain ⟨i1, i2, i3, i4⟩ := sq_b k b ws e2 h2
        refine ⟨by simp [i1], fun j => ?_, by omega, fun _ => ?_⟩
        · cases j with
          | zero => exact hb.1
          | succ j => exact i2 j
        · by_cases hk : k = 0
          · subst hk
            simp only [sqN, Option.some.injEq, Prod.mk.injEq] at h2
            omega
          · exact i4 (by omega)
theorem e_tellPeak {p t n : Nat} {kn hg : Nat → Int32} (hp : p ≤ 6) (ht : t ≤ 99) (hn : n ≤ 99) : fX1_tellPeak (nI p) kn hg (nI t) (nI n) = if t ≤ 3 ∧ 1 ≤ n ∧ n ≤ 20 ∧ p < 6 then some ((1 : Int32), nI (p + 1), upd kn p (nI t), upd hg p (nI n)) else some ((0 : Int32), nI p, kn, hg) := by
  unfold fX1_tellPeak
  rw [n_4, n_20, n_6, if_neg (show ¬ nI t < 0 by rw [px_lt0 (by omega)]; exact id)]
  by_cases h1 : 4 ≤ t
  · rw [if_pos ((px_le (by omega) (by omega)).mpr h1), if_neg (by omega)]
  · rw [if_neg (fun z => h1 ((px_le (by omega) (by omega)).mp z))]
    by_cases h2 : n < 1
    · rw [if_pos (show nI n < (1 : Int32) by rw [n_1, px_lt (by omega) (by omega)]; exact h2), if_neg (by omega)]
    · rw [if_neg (show ¬ nI n < (1 : Int32) by rw [n_1, px_lt (by omega) (by omega)]; exact h2)]
      by_cases h3 : 20 < n
      · rw [if_pos ((px_lt (by omega) (by omega)).mpr h3), if_neg (by omega)]
      · rw [if_neg (fun z => h3 ((px_lt (by omega) (by omega)).mp z))]
        by_cases h4 : p < 6
        · rw [if_pos ((px_lt (by omega) (by omega)).mpr h4), if_pos (by omega), px_wr (by omega) (by omega), px_wr (by omega) (by omega), show nI p + (1 : Int32) = nI (p + 1) from nI_1 p, px_slt]
        · rw [if_neg (fun z => h4 ((px_lt (by omega) (by omega)).mp z)), if_neg (by omega)]
theorem e_tellWind {w n : Nat} {wd : Nat → Int32} (hw : w ≤ 12) (hn : n ≤ 99) : fX1_tellWind (nI w) wd (nI n) = if n ≤ 20 ∧ w < 12 then some ((1 : Int32), nI (w + 1), upd wd w (nI n)) else some ((0 : Int32), nI w, wd) := by
  unfold fX1_tellWind
  rw [n_20, n_12, if_neg (show ¬ nI n < 0 by rw [px_lt0 (by omega)]; exact id)]
  by_cases h3 : 20 < n
  · rw [if_pos ((px_lt (by omega) (by omega)).mpr h3), if_neg (by omega)]
  · rw [if_neg (fun z => h3 ((px_lt (by omega) (by omega)).mp z))]
    by_cases h4 : w < 12
    · rw [if_pos ((px_lt (by omega) (by omega)).mpr h4), if_pos (by omega), px_wr (by omega) (by omega), show nI w + (1 : Int32) = nI (w + 1) from nI_1 w, px_slt]
    · rw [if_neg (fun z => h4 ((px_lt (by omega) (by omega)).mp z)), if_neg (by omega)]
theorem e_trimN {t : Nat} (ht : t ≤ 99) : fX4_isTrimming (nI t) = some (if t ≤ 4 then (1 : Int32) else 0) := by
  unfold fX4_isTrimming
  rw [n_5, if_neg (show ¬ nI t < 0 by rw [px_lt0 (by omega)]; exact id)]
  by_cases h1 : 5 ≤ t
  · rw [if_pos ((px_le (by omega) (by omega)).mpr h1), if_neg (by omega)]
  · rw [if_neg (fun z => h1 ((px_le (by omega) (by omega)).mp z)), if_pos (by omega)]
theorem e_pinsN {n : Nat} (hn : n ≤ 99) : fX4_isPins (nI n) = some (if 1 ≤ n ∧ n ≤ 20 then (1 : Int32) else 0) := by
  unfold fX4_isPins
  rw [n_20]
  by_cases h2 : n < 1
  · rw [if_pos (show nI n < (1 : Int32) by rw [n_1, px_lt (by omega) (by omega)]; exact h2), if_neg (by omega)]
  · rw [if_neg (show ¬ nI n < (1 : Int32) by rw [n_1, px_lt (by omega) (by omega)]; exact h2)]
    by_cases h3 : 20 < n
    · rw [if_pos ((px_lt (by omega) (by omega)).mpr h3), if_neg (by omega)]
    · rw [if_neg (fun z => h3 ((px_lt (by omega) (by omega)).mp z)), if_pos (by omega)]
theorem e_peakN {p q : Nat} (hp : p ≤ 6) (hq : q ≤ 99) : fX1_isPeak (nI p) (nI q) = some (if q < p then (1 : Int32) else 0) := by
  unfold fX1_isPeak
  rw [if_neg (show ¬ nI q < 0 by rw [px_lt0 (by omega)]; exact id)]
  by_cases h1 : p ≤ q
  · rw [if_pos ((px_le (by omega) (by omega)).mpr h1), if_neg (by omega)]
  · rw [if_neg (fun z => h1 ((px_le (by omega) (by omega)).mp z)), if_pos (by omega)]
theorem e_tellStore {t n : Nat} {c : Nat → Int32} (ht : t ≤ 99) (hn : n ≤ 99) : fX2_tellStore c (nI t) (nI n) = if t ≤ 4 ∧ n ≤ 9 then some ((1 : Int32), upd c (30 + t) (nI n)) else some ((0 : Int32), c) := by
  unfold fX2_tellStore
  rw [e_trimN ht, px_bd, n_9]
  by_cases h1 : t ≤ 4
  · rw [if_pos h1, if_neg i01, if_neg (show ¬ nI n < 0 by rw [px_lt0 (by omega)]; exact id)]
    by_cases h2 : n ≤ 9
    · rw [if_pos ((px_le (by omega) (by omega)).mpr h2), if_pos ⟨h1, h2⟩, e_setStore c (by omega), px_bd]
    · rw [if_neg (fun z => h2 ((px_le (by omega) (by omega)).mp z)), if_neg (fun z => h2 z.2)]
  · rw [if_neg h1, if_pos rfl, if_neg (fun z => h1 z.1)]
theorem e_tellOn {p q t n : Nat} {c : Nat → Int32} (hp : p ≤ 6) (hq : q ≤ 99) (ht : t ≤ 99) (hn : n ≤ 99) : fX2_tellOn (nI p) c (nI q) (nI t) (nI n) = if q < p ∧ t ≤ 4 ∧ 1 ≤ n ∧ n ≤ 20 then some ((1 : Int32), upd c (5 * q + t) (nI n)) else some ((0 : Int32), c) := by
  unfold fX2_tellOn
  rw [e_peakN hp hq, px_bd]
  by_cases h0 : q < p
  · rw [if_pos h0, if_neg i01, e_trimN ht, px_bd]
    by_cases h1 : t ≤ 4
    · rw [if_pos h1, if_neg i01, e_pinsN hn, px_bd]
      by_cases h2 : 1 ≤ n ∧ n ≤ 20
      · rw [if_pos h2, if_neg i01, if_pos ⟨h0, h1, h2.1, h2.2⟩, e_setPins c (by omega) (by omega), px_bd]
      · rw [if_neg h2, if_pos rfl, if_neg (fun z => h2 z.2.2)]
    · rw [if_neg h1, if_pos rfl, if_neg (fun z => h1 z.2.1)]
  · rw [if_neg h0, if_pos rfl, if_neg (fun z => h0 z.1)]

/-! what an item says -/
theorem in_bd {v a b : Nat} (hv : v < 2147483648) (hb : b < 2147483648) (ha : a < 2147483648) : fX5_in (nI v) (nI a) (nI b) = some (1 : Int32) ↔ a ≤ v ∧ v ≤ b := by
  constructor
  · intro h
    by_cases c : nI v < nI a ∨ nI b < nI v
    · rw [e_in_bad c] at h
      exact absurd h (by decide)
    · rw [px_lt hv ha, px_lt hb hv] at c
      omega
  · rintro ⟨h1, h2⟩
    exact e_in hv hb h1 h2
theorem e_numC {L a mk : Nat} {rn : Int32} {tx : Nat → Nat} {f : Nat → Int32} (lo_ hi_ : Int32) (hL : L ≤ 200) (ha : a ≤ 900) (hmk : mk ≤ 126) (hT : TX L tx f) : (∃ v e, nmN L tx a mk = some (v, e) ∧ fX5_in (nI v) lo_ hi_ = some (1 : Int32) ∧ fX5_number (nI L) (nI a) rn f lo_ hi_ (nI mk) = some ((1 : Int32), nI e, nI v)) ∨ ((∀ v e, nmN L tx a mk = some (v, e) → ¬ fX5_in (nI v) lo_ hi_ = some (1 : Int32)) ∧ ∃ at' num', fX5_number (nI L) (nI a) rn f lo_ hi_ (nI mk) = some ((0 : Int32), at', num')) := by
  obtain ⟨at', num', h1, h2⟩ := e_number (rn := rn) lo_ hi_ hL ha hmk hT
  have hq := numOk_nm (L := L) (a := a) (mk := mk) (tx := tx) lo_ hi_
  match hn : nmN L tx a mk with
  | none =>
    rw [hn] at hq
    dsimp only at hq
    rw [hq] at h1
    exact Or.inr ⟨fun v e z => absurd z (by simp), at', num', h1⟩
  | some (v, e) =>
    rw [hn] at hq
    dsimp only at hq
    by_cases hi : fX5_in (nI v) lo_ hi_ = some (1 : Int32)
    · rw [if_pos hi] at hq
      have h3 := h2 v e hq
      rw [hq, h3.1, h3.2] at h1
      exact Or.inl ⟨v, e, rfl, hi, h1⟩
    · rw [if_neg hi] at hq
      rw [hq] at h1
      refine Or.inr ⟨fun v' e' z => ?_, at', num', h1⟩
      simp only [Option.some.injEq, Prod.mk.injEq] at z
      rw [← z.1]
      exact hi
theorem sq1 {L a : Nat} {tx : Nat → Nat} : sqN L tx 1 a = match nmN L tx a 59 with | none => none | some (v, b) => some ([v], b) := by
  unfold sqN
  rw [if_pos rfl]
  match nmN L tx a 59 with
  | none => rfl
  | some (v, b) => rfl
theorem sq2 {L a : Nat} {tx : Nat → Nat} : sqN L tx 2 a = match nmN L tx a 44 with | none => none | some (v, b) => (match nmN L tx b 59 with | none => none | some (w, e) => some ([v, w], e)) := by
  unfold sqN
  rw [if_neg (show ¬ (1 : Nat) = 0 by decide)]
  match nmN L tx a 44 with
  | none => rfl
  | some (v, b) =>
    dsimp only
    rw [sq1]
    match nmN L tx b 59 with
    | none => rfl
    | some (w, e) => rfl
theorem sq3 {L a : Nat} {tx : Nat → Nat} : sqN L tx 3 a = match nmN L tx a 44 with | none => none | some (u, c) => (match nmN L tx c 44 with | none => none | some (v, b) => (match nmN L tx b 59 with | none => none | some (w, e) => some ([u, v, w], e))) := by
  unfold sqN
  rw [if_neg (show ¬ (2 : Nat) = 0 by decide)]
  match nmN L tx a 44 with
  | none => rfl
  | some (u, c) =>
    dsimp only
    rw [sq2]
    match nmN L tx c 44 with
    | none => rfl
    | some (v, b) =>
      dsimp only
      match nmN L tx b 59 with
      | none => rfl
      | some (w, e) => rfl
theorem e_rStore {L a : Nat} {rn : Int32} {tx : Nat → Nat} {f st : Nat → Int32} (hL : L ≤ 200) (ha : a ≤ 800) (hT : TX L tx f) : (∃ t n e num', sqN L tx 2 a = some ([t, n], e) ∧ t ≤ 4 ∧ n ≤ 9 ∧ fX5_readsStore (nI L) (nI a) rn f st = some ((1 : Int32), nI e, num', upd st t (nI n))) ∨ ((∀ t n e, sqN L tx 2 a = some ([t, n], e) → ¬ (t ≤ 4 ∧ n ≤ 9)) ∧ ∃ at' num', fX5_readsStore (nI L) (nI a) rn f st = some ((0 : Int32), at', num', st)) := by
  unfold fX5_readsStore
  rw [n_44, n_59, n_4, n_9, n_0, sq2]
  rcases e_numC (rn := rn) (mk := 44) (nI 0) (nI 4) hL (show a ≤ 900 by omega) (by omega) hT with ⟨t, b, h1, h2, h3⟩ | ⟨h1, at', num', h3⟩
  · have hb := nmN_b (Or.inl rfl) h1
    rw [h3, px_bd, h1]
    dsimp only
    rw [if_neg (show ¬ (1 : Int32) = nI 0 from i01)]
    rw [in_bd (by omega) (by omega) (by omega)] at h2
    rcases e_numC (rn := nI t) (mk := 59) (nI 0) (nI 9) hL (show b ≤ 900 by omega) (by omega) hT with ⟨n, e, k1, k2, k3⟩ | ⟨k1, at', num', k3⟩
    · have hb2 := nmN_b (Or.inr rfl) k1
      rw [in_bd (by omega) (by omega) (by omega)] at k2
      rw [k3, px_bd, k1]
      dsimp only
      rw [if_neg (show ¬ (1 : Int32) = nI 0 from i01), px_wr (by omega) (by omega)]
      exact Or.inl ⟨t, n, e, nI n, rfl, h2.2, k2.2, rfl⟩
    · rw [k3, px_bd]
      dsimp only
      rw [if_pos (show (0 : Int32) = nI 0 from n_0)]
      refine Or.inr ⟨fun t' n' e z => ?_, at', num', rfl⟩
      match hq : nmN L tx b 59 with
      | none => rw [hq] at z; exact absurd z (by simp)
      | some (w, e2) =>
        have hw := nmN_b (Or.inr rfl) hq
        rw [hq] at z
        simp only [Option.some.injEq, Prod.mk.injEq, List.cons.injEq] at z
        have := k1 w e2 hq
        rw [in_bd (by omega) (by omega) (by omega)] at this
        omega
  · rw [h3, px_bd]
    dsimp only
    rw [if_pos (show (0 : Int32) = nI 0 from n_0)]
    refine Or.inr ⟨fun t' n' e z => ?_, at', num', rfl⟩
    match hq : nmN L tx a 44 with
    | none => rw [hq] at z; exact absurd z (by simp)
    | some (v, b) =>
      have hv := nmN_b (Or.inl rfl) hq
      have := h1 v b hq
      rw [in_bd (by omega) (by omega) (by omega)] at this
      rw [hq] at z
      dsimp only at z
      match hq2 : nmN L tx b 59 with
      | none => rw [hq2] at z; exact absurd z (by simp)
      | some (w, e2) =>
        rw [hq2] at z
        simp only [Option.some.injEq, Prod.mk.injEq, List.cons.injEq] at z
        omega
theorem e_rWind {L a w : Nat} {rn : Int32} {tx : Nat → Nat} {f wd : Nat → Int32} (hL : L ≤ 200) (ha : a ≤ 800) (hT : TX L tx f) (hw : w ≤ 12) : (∃ n e num', sqN L tx 1 a = some ([n], e) ∧ n ≤ 20 ∧ w < 12 ∧ fX5_readsWind (nI L) (nI a) (nI w) rn f wd = some ((1 : Int32), nI e, nI (w + 1), num', upd wd w (nI n))) ∨ ((∀ n e, sqN L tx 1 a = some ([n], e) → ¬ (n ≤ 20 ∧ w < 12)) ∧ ∃ at' num', fX5_readsWind (nI L) (nI a) (nI w) rn f wd = some ((0 : Int32), at', nI w, num', wd)) := by
  unfold fX5_readsWind
  rw [n_12, n_59, n_20, n_0, sq1]
  by_cases h12 : w = 12
  · rw [if_pos ((px_eq (by omega) (by omega)).mpr h12)]
    exact Or.inr ⟨fun n e _ z => by omega, _, _, rfl⟩
  · rw [if_neg (fun z => h12 ((px_eq (by omega) (by omega)).mp z))]
    rcases e_numC (rn := rn) (mk := 59) (nI 0) (nI 20) hL (show a ≤ 900 by omega) (by omega) hT with ⟨n, e, k1, k2, k3⟩ | ⟨k1, at', num', k3⟩
    · have hb2 := nmN_b (Or.inr rfl) k1
      rw [in_bd (by omega) (by omega) (by omega)] at k2
      rw [k3, px_bd, k1]
      dsimp only
      rw [if_neg (show ¬ (1 : Int32) = nI 0 from i01), px_wr (by omega) (by omega), show nI w + (1 : Int32) = nI (w + 1) from nI_1 w, px_slt]
      exact Or.inl ⟨n, e, nI n, rfl, k2.2, by omega, rfl⟩
    · rw [k3, px_bd]
      dsimp only
      rw [if_pos (show (0 : Int32) = nI 0 from n_0)]
      refine Or.inr ⟨fun n' e z => ?_, at', num', rfl⟩
      match hq : nmN L tx a 59 with
      | none => rw [hq] at z; exact absurd z (by simp)
      | some (v, e2) =>
        have hv := nmN_b (Or.inr rfl) hq
        rw [hq] at z
        simp only [Option.some.injEq, Prod.mk.injEq, List.cons.injEq] at z
        have := k1 v e2 hq
        rw [in_bd (by omega) (by omega) (by omega)] at this
        omega
theorem e_rPeak {L a p : Nat} {rn : Int32} {tx : Nat → Nat} {f kn hg : Nat → Int32} (hL : L ≤ 200) (ha : a ≤ 800) (hT : TX L tx f) (hp : p ≤ 6) : (∃ t n e num', sqN L tx 2 a = some ([t, n], e) ∧ t ≤ 3 ∧ 1 ≤ n ∧ n ≤ 20 ∧ p < 6 ∧ fX5_readsPeak (nI L) (nI a) (nI p) rn f kn hg = some ((1 : Int32), nI e, nI (p + 1), num', upd kn p (nI t), upd hg p (nI n))) ∨ ((∀ t n e, sqN L tx 2 a = some ([t, n], e) → ¬ (t ≤ 3 ∧ 1 ≤ n ∧ n ≤ 20 ∧ p < 6)) ∧ ∃ at' num', fX5_readsPeak (nI L) (nI a) (nI p) rn f kn hg = some ((0 : Int32), at', nI p, num', kn, hg)) := by
  unfold fX5_readsPeak
  rw [n_44, n_59, n_3, n_20, n_6, n_0, sq2]
  by_cases h6 : p = 6
  · rw [if_pos ((px_eq (by omega) (by omega)).mpr h6)]
    exact Or.inr ⟨fun t n e _ z => by omega, _, _, rfl⟩
  · rw [if_neg (fun z => h6 ((px_eq (by omega) (by omega)).mp z)), show nI p + (1 : Int32) = nI (p + 1) from nI_1 p, n_1]
    rcases e_numC (rn := rn) (mk := 44) (nI 0) (nI 3) hL (show a ≤ 900 by omega) (by omega) hT with ⟨t, b, h1, h2, h3⟩ | ⟨h1, at', num', h3⟩
    · have hb := nmN_b (Or.inl rfl) h1
      rw [h3, px_bd, h1]
      dsimp only
      rw [if_neg (show ¬ (1 : Int32) = nI 0 from i01)]
      rw [in_bd (by omega) (by omega) (by omega)] at h2
      rcases e_numC (rn := nI t) (mk := 59) (nI 1) (nI 20) hL (show b ≤ 900 by omega) (by omega) hT with ⟨n, e, k1, k2, k3⟩ | ⟨k1, at', num', k3⟩
      · have hb2 := nmN_b (Or.inr rfl) k1
        rw [in_bd (by omega) (by omega) (by omega)] at k2
        rw [k3, px_bd, k1]
        dsimp only
        rw [if_neg (show ¬ (1 : Int32) = nI 0 from i01), px_wr (by omega) (by omega), px_wr (by omega) (by omega), px_slt]
        exact Or.inl ⟨t, n, e, nI n, rfl, h2.2, k2.1, k2.2, by omega, rfl⟩
      · rw [k3, px_bd]
        dsimp only
        rw [if_pos (show (0 : Int32) = nI 0 from n_0)]
        refine Or.inr ⟨fun t' n' e z => ?_, at', num', rfl⟩
        match hq : nmN L tx b 59 with
        | none => rw [hq] at z; exact absurd z (by simp)
        | some (w, e2) =>
          have hw := nmN_b (Or.inr rfl) hq
          rw [hq] at z
          simp only [Option.some.injEq, Prod.mk.injEq, List.cons.injEq] at z
          have := k1 w e2 hq
          rw [in_bd (by omega) (by omega) (by omega)] at this
          omega
    · rw [h3, px_bd]
      dsimp only
      rw [if_pos (show (0 : Int32) = nI 0 from n_0)]
      refine Or.inr ⟨fun t' n' e z => ?_, at', num', rfl⟩
      match hq : nmN L tx a 44 with
      | none => rw [hq] at z; exact absurd z (by simp)
      | some (v, b) =>
        have hv := nmN_b (Or.inl rfl) hq
        have := h1 v b hq
        rw [in_bd (by omega) (by omega) (by omega)] at this
        rw [hq] at z
        dsimp only at z
        match hq2 : nmN L tx b 59 with
        | none => rw [hq2] at z; exact absurd z (by simp)
        | some (w, e2) =>
          rw [hq2] at z
          simp only [Option.some.injEq, Prod.mk.injEq, List.cons.injEq] at z
          omega
theorem in_pk {v p : Nat} (hv : v < 2147483648) (hp : p ≤ 6) : fX5_in (nI v) (nI 0) (nI p - (1 : Int32)) = some (1 : Int32) ↔ v < p := by
  by_cases h0 : p = 0
  · subst h0
    have e : fX5_in (nI v) (nI 0) (nI 0 - (1 : Int32)) = some (0 : Int32) := by
      refine e_in_bad (Or.inr ?_)
      rw [Int32.lt_iff_toInt_lt, nI_toInt (by omega), show (nI 0 - (1 : Int32)).toInt = -1 from by decide]
      omega
    rw [e]
    exact ⟨fun z => absurd z (by decide), fun z => by omega⟩
  · rw [n_1, px_sub (by omega)]
    have := in_bd (v := v) (a := 0) (b := p - 1) hv (by omega) (by omega)
    rw [← n_1, this]
    omega

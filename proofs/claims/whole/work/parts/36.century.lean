/-! century -/
def drN (s j : Nat) : Nat := (7919 * s + 6151 * j + 1) * (7919 * s + 6151 * j + 1) % 65521
theorem drN_lt (s j : Nat) : drN s j < 65521 := Nat.mod_lt _ (by omega)
theorem l_7919 : (7919 : Int64) = lN 7919 := by decide +kernel
theorem l_6151 : (6151 : Int64) = lN 6151 := by decide +kernel
theorem l_65521 : (65521 : Int64) = lN 65521 := by decide +kernel
theorem l_1 : (1 : Int64) = lN 1 := by decide +kernel
theorem e_drawE {s j : Nat} (hs : s ≤ 9999) (hj : j ≤ 60) : (((((7919 : Int64) * (nI s).toInt64) + ((6151 : Int64) * (nI j).toInt64)) + (1 : Int64)) * ((((7919 : Int64) * (nI s).toInt64) + ((6151 : Int64) * (nI j).toInt64)) + (1 : Int64)) - (((((7919 : Int64) * (nI s).toInt64) + ((6151 : Int64) * (nI j).toInt64)) + (1 : Int64)) * ((((7919 : Int64) * (nI s).toInt64) + ((6151 : Int64) * (nI j).toInt64)) + (1 : Int64))) / (65521 : Int64) * (65521 : Int64)).toInt32 = nI (drN s j) := by
  rw [l_7919, l_6151, l_65521, l_1, nI_l (by omega), nI_l (by omega), lN_mul, lN_mul, lN_add, lN_add, lN_mul]
  have hb : (7919 * s + 6151 * j + 1) * (7919 * s + 6151 * j + 1) ≤ 79551142 * 79551142 := Nat.mul_le_mul (by omega) (by omega)
  rw [pk_lRem (by omega) (by omega) (by omega), lN_i]
  rfl
/-- a year's trimming by draw -/
def trA (N q : Nat) (A : AS) : AS :=
  if q % 8 ≤ 2 ∧ (A.1 (5 * (q / 8 % N) + q / 64 % 5) = 0 ∧ ¬ A.2.1 (q / 64 % 5) ≤ 0) then setA A (5 * (q / 8 % N) + q / 64 % 5) (q / 512 % 9 + 1) (q / 64 % 5) (A.2.1 (q / 64 % 5) - 1)
  else if q % 8 = 3 ∧ A.1 (5 * (q / 8 % N) + q / 64 % 5) ≠ 0 then setA A (5 * (q / 8 % N) + q / 64 % 5) 0 (q / 64 % 5) (A.2.1 (q / 64 % 5) + 1)
  else if q % 8 = 4 ∧ A.1 (5 * (q / 8 % N) + q / 64 % 5) ≠ 0 then ((fun j => if j = 5 * (q / 8 % N) + q / 64 % 5 then q / 512 % 9 + 1 else A.1 j), A.2)
  else A
theorem trA_y (N q : Nat) (A : AS) : (trA N q A).2.2.2 = A.2.2.2 := by
  unfold trA
  split
  · rfl
  · split
    · rfl
    · split <;> rfl
theorem trA_ok {N q : Nat} {A : AS} (h1 : 1 ≤ N) (h : PZ N A.1) : PZ N (trA N q A).1 := by
  have hp : q / 8 % N < N := Nat.mod_lt _ (by omega)
  have ht : q / 64 % 5 < 5 := Nat.mod_lt _ (by omega)
  have hn : q / 512 % 9 < 9 := Nat.mod_lt _ (by omega)
  unfold trA
  split
  · exact PZ_set (by omega) (by omega) h
  · split
    · exact PZ_set (by omega) (by omega) h
    · split
      · exact PZ_set (by omega) (by omega) h
      · exact h
theorem e_tbd {N q : Nat} {c : Nat → Int32} {A : AS} (h1 : 1 ≤ N) (hN : N ≤ 6) (hq : q < 65521) (hC : CS c A) (hZ : PZ N A.1) : ∃ c', fX4_trimByDraw (nI N) c (nI q) = some c' ∧ CS c' (trA N q A) := by
  have hp : q / 8 % N < N := Nat.mod_lt _ (by omega)
  have ht : q / 64 % 5 < 5 := Nat.mod_lt _ (by omega)
  have hn : q / 512 % 9 < 9 := Nat.mod_lt _ (by omega)
  have ha : q % 8 < 8 := Nat.mod_lt _ (by omega)
  have d8 : q / 8 ≤ q := Nat.div_le_self _ _
  have d64 : q / 64 ≤ q := Nat.div_le_self _ _
  have d512 : q / 512 ≤ q := Nat.div_le_self _ _
  have r1 : nI q - nI q / (8 : Int32) * (8 : Int32) = nI (q % 8) := by rw [n_8]; exact px_rem (by omega) (by omega) (by omega)
  have r2 : nI q / (8 : Int32) - nI q / (8 : Int32) / nI N * nI N = nI (q / 8 % N) := by rw [n_8, px_div (by omega) (by omega) (by omega)]; exact px_rem (by omega) (by omega) (by omega)
  have r3 : nI q / (64 : Int32) - nI q / (64 : Int32) / (5 : Int32) * (5 : Int32) = nI (q / 64 % 5) := by rw [n_64, n_5, px_div (by omega) (by omega) (by omega)]; exact px_rem (by omega) (by omega) (by omega)
  have r4 : (nI q / (512 : Int32) - nI q / (512 : Int32) / (9 : Int32) * (9 : Int32)) + (1 : Int32) = nI (q / 512 % 9 + 1) := by rw [n_512, n_9, px_div (by omega) (by omega) (by omega), px_rem (by omega) (by omega) (by omega), n_1, nI_add]
  unfold fX4_trimByDraw
  rw [if_pos (by rw [n_1, px_le (by omega) (by omega)]; omega), r1, r2, r3, r4, px_slt, px_nz (by omega) (by omega), px_slt, px_slt, px_slt]
  unfold trA
  generalize q / 8 % N = p at hp ⊢
  generalize q / 64 % 5 = t at ht ⊢
  generalize q / 512 % 9 = n at hn ⊢
  generalize q % 8 = a at ha ⊢
  unfold jX4_trimByDraw_80 jX4_trimByDraw_107
  rw [n_2, n_3, n_4]
  rw [e_canPut (by omega) ht hC hZ.1, e_isOn hC.1 hZ.1 (by omega) ht, px_bd, px_bd, px_bd, e_putOn (by omega) ht hC, e_takeOff (by omega) ht hC, e_setPins _ (by omega) ht, px_bd, px_bd, px_bd]
  have k3 : (nI a = nI 3) ↔ a = 3 := px_eq (by omega) (by omega)
  have k4 : (nI a = nI 4) ↔ a = 4 := px_eq (by omega) (by omega)
  have C1 := CS_set (k := 5 * p + t) (n := n + 1) (x := A.2.1 t - 1) (by omega) ht hC
  have C2 := CS_set (k := 5 * p + t) (n := 0) (x := A.2.1 t + 1) (by omega) ht hC
  have C3 := CS_setP (k := 5 * p + t) (n := n + 1) (by omega) hC
  have rest : ∃ c', (if nI a = nI 3 then if (if A.1 (5 * p + t) = 0 then nI 0 else nI 1) = 0 then (if nI a = nI 4 then if (if A.1 (5 * p + t) = 0 then nI 0 else nI 1) = 0 then some c else some (upd c (5 * p + t) (nI (n + 1))) else some c) else some (upd (upd c (5 * p + t) (nI 0)) (30 + t) (A.2.1 t + 1)) else (if nI a = nI 4 then if (if A.1 (5 * p + t) = 0 then nI 0 else nI 1) = 0 then some c else some (upd c (5 * p + t) (nI (n + 1))) else some c)) = some c' ∧ CS c' (if a = 3 ∧ A.1 (5 * p + t) ≠ 0 then setA A (5 * p + t) 0 t (A.2.1 t + 1) else if a = 4 ∧ A.1 (5 * p + t) ≠ 0 then ((fun j => if j = 5 * p + t then n + 1 else A.1 j), A.2) else A) := by
    by_cases hz : A.1 (5 * p + t) = 0
    · rw [if_neg (show ¬ (a = 3 ∧ A.1 (5 * p + t) ≠ 0) from fun z => z.2 hz), if_neg (show ¬ (a = 4 ∧ A.1 (5 * p + t) ≠ 0) from fun z => z.2 hz), if_pos hz, if_pos n_0.symm, if_pos n_0.symm, ite_self, ite_self]
      exact ⟨_, rfl, hC⟩
    · have i10 : ¬ nI 1 = 0 := by decide
      rw [if_neg hz, if_neg i10, if_neg i10]
      by_cases a3 : a = 3
      · rw [if_pos (k3.mpr a3), if_pos ⟨a3, hz⟩]
        exact ⟨_, rfl, C2⟩
      · rw [if_neg (fun z => a3 (k3.mp z)), if_neg (show ¬ (a = 3 ∧ A.1 (5 * p + t) ≠ 0) from fun z => a3 z.1)]
        by_cases a4 : a = 4
        · rw [if_pos (k4.mpr a4), if_pos ⟨a4, hz⟩]
          exact ⟨_, rfl, C3⟩
        · rw [if_neg (fun z => a4 (k4.mp z)), if_neg (show ¬ (a = 4 ∧ A.1 (5 * p + t) ≠ 0) from fun z => a4 z.1)]
          exact ⟨_, rfl, hC⟩
  by_cases a2 : a ≤ 2
  · rw [if_neg (by rw [px_lt (by omega) (by omega)]; omega)]
    by_cases hc : A.1 (5 * p + t) = 0 ∧ ¬ A.2.1 t ≤ 0
    · rw [if_pos hc, if_neg i01, if_pos ⟨a2, hc⟩]
      exact ⟨_, rfl, C1⟩
    · rw [if_neg hc, if_pos rfl, if_neg (show ¬ (a ≤ 2 ∧ A.1 (5 * p + t) = 0 ∧ ¬ A.2.1 t ≤ 0) from fun z => hc z.2)]
      exact rest
  · rw [if_pos (by rw [px_lt (by omega) (by omega)]; omega), if_neg (show ¬ (a ≤ 2 ∧ A.1 (5 * p + t) = 0 ∧ ¬ A.2.1 t ≤ 0) from fun z => a2 z.1)]
    exact rest
theorem e_cenM {N Wn : Nat} {kindOf mwinds pinned stored guides : Nat → Int32} {year : Int32} {kd wv : Nat → Nat} {s j m : Nat} {A : AS} (h1 : 1 ≤ N) (hN : N ≤ 6) (hWn : Wn ≤ 12) (hK : KI N kindOf kd) (hW : WI Wn mwinds wv) (hs : s ≤ 9999) (hj : j < m) (hm : m ≤ 60) (hM : MS N pinned stored guides year A) (hZ : PZ N A.1) (hy : A.2.2.2 ≤ 2000) : ∃ y' p' s' g', bX5_century_39 (nI N) (nI Wn) kindOf mwinds (nI s) (nI m) (nI j, year, pinned, stored, guides) = some (.inl (nI (j + 1), y', p', s', g')) ∧ MS N p' s' g' y' (yrs N kd Wn wv 1 (trA N (drN s j) A)) := by
  have hq := drN_lt s j
  unfold bX5_century_39
  dsimp only
  rw [if_neg (by rw [px_le (by omega) (by omega)]; omega), px_slt, e_drawE hs (by omega), px_slt]
  generalize drN s j = q at hq ⊢
  have hp : q / 8 % N < N := Nat.mod_lt _ (by omega)
  have ht : q / 64 % 5 < 5 := Nat.mod_lt _ (by omega)
  have hn : q / 512 % 9 < 9 := Nat.mod_lt _ (by omega)
  have ha : q % 8 < 8 := Nat.mod_lt _ (by omega)
  have d8 : q / 8 ≤ q := Nat.div_le_self _ _
  have d64 : q / 64 ≤ q := Nat.div_le_self _ _
  have d512 : q / 512 ≤ q := Nat.div_le_self _ _
  have r1 : nI q - nI q / (8 : Int32) * (8 : Int32) = nI (q % 8) := by rw [n_8]; exact px_rem (by omega) (by omega) (by omega)
  have r2 : nI q / (8 : Int32) - nI q / (8 : Int32) / nI N * nI N = nI (q / 8 % N) := by rw [n_8, px_div (by omega) (by omega) (by omega)]; exact px_rem (by omega) (by omega) (by omega)
  have r3 : nI q / (64 : Int32) - nI q / (64 : Int32) / (5 : Int32) * (5 : Int32) = nI (q / 64 % 5) := by rw [n_64, n_5, px_div (by omega) (by omega) (by omega)]; exact px_rem (by omega) (by omega) (by omega)
  have r4 : (nI q / (512 : Int32) - nI q / (512 : Int32) / (9 : Int32) * (9 : Int32)) + (1 : Int32) = nI (q / 512 % 9 + 1) := by rw [n_512, n_9, px_div (by omega) (by omega) (by omega), px_rem (by omega) (by omega) (by omega), n_1, nI_add]
  rw [px_nz (by omega) (by omega), r2, r3, r4, px_slt, px_slt, px_slt]
  have hB0 := trA_ok (q := q) h1 hZ
  have hY0 := trA_y N q A
  have fin : ∀ pn st, MS N pn st guides year (trA N q A) → ∃ y' p' s' g', jX5_century_217 (nI N) (nI Wn) year kindOf mwinds pn st guides (nI j) = some (.inl (nI (j + 1), y', p', s', g')) ∧ MS N p' s' g' y' (yrs N kd Wn wv 1 (trA N q A)) := by
    intro pn st hm2
    obtain ⟨p', g', m1, m2⟩ := e_goesOn hN hWn hK hW hm2 hB0 (by rw [hY0]; exact hy) (n := 1) (by omega)
    unfold jX5_century_217
    rw [n_1, m1, px_bd]
    dsimp only
    rw [nI_add]
    exact ⟨_, _, _, _, rfl, m2⟩
  unfold trA at fin ⊢
  generalize q / 8 % N = p at hp fin ⊢
  generalize q / 64 % 5 = t at ht fin ⊢
  generalize q / 512 % 9 = n at hn fin ⊢
  have hb := hZ.1 (5 * p + t) (by omega)
  rw [n_5, pk_mul, nI_add, px_rd (by omega) (by omega), hM.1 _ (by omega)]
  have C1 := MS_set (k := 5 * p + t) (n := n + 1) (t := t) (x := A.2.1 t - 1) hM
  have C2 := MS_set (k := 5 * p + t) (n := 0) (t := t) (x := A.2.1 t + 1) hM
  have C3 := MS_setP (k := 5 * p + t) (n := n + 1) hM
  have k3 : (nI (q % 8) = nI 3) ↔ q % 8 = 3 := px_eq (by omega) (by omega)
  have k4 : (nI (q % 8) = nI 4) ↔ q % 8 = 4 := px_eq (by omega) (by omega)
  have c0 : nI (A.1 (5 * p + t)) ≤ 0 ↔ A.1 (5 * p + t) = 0 := by rw [n_0, px_le (by omega) (by omega)]; omega
  have key : ∀ x : Int32, (x = 0 ↔ A.1 (5 * p + t) = 0) → ∃ y' p' s' g', jX5_century_129 (nI N) (nI Wn) year kindOf mwinds pinned stored guides (nI j) (nI q) (nI p) (nI t) (nI (n + 1)) x = some (.inl (nI (j + 1), y', p', s', g')) ∧ MS N p' s' g' y' (yrs N kd Wn wv 1 (if q % 8 ≤ 2 ∧ A.1 (5 * p + t) = 0 ∧ ¬A.2.1 t ≤ 0 then setA A (5 * p + t) (n + 1) t (A.2.1 t - 1) else if q % 8 = 3 ∧ A.1 (5 * p + t) ≠ 0 then setA A (5 * p + t) 0 t (A.2.1 t + 1) else if q % 8 = 4 ∧ A.1 (5 * p + t) ≠ 0 then ((fun j => if j = 5 * p + t then n + 1 else A.1 j), A.2) else A)) := by
    intro x hx
    have rest : ¬ (q % 8 ≤ 2 ∧ A.1 (5 * p + t) = 0 ∧ ¬A.2.1 t ≤ 0) → ∃ y' p' s' g', jX5_century_164 (nI N) (nI Wn) year kindOf mwinds pinned stored guides (nI j) (nI q) (nI p) (nI t) (nI (n + 1)) x = some (.inl (nI (j + 1), y', p', s', g')) ∧ MS N p' s' g' y' (yrs N kd Wn wv 1 (if q % 8 ≤ 2 ∧ A.1 (5 * p + t) = 0 ∧ ¬A.2.1 t ≤ 0 then setA A (5 * p + t) (n + 1) t (A.2.1 t - 1) else if q % 8 = 3 ∧ A.1 (5 * p + t) ≠ 0 then setA A (5 * p + t) 0 t (A.2.1 t + 1) else if q % 8 = 4 ∧ A.1 (5 * p + t) ≠ 0 then ((fun j => if j = 5 * p + t then n + 1 else A.1 j), A.2) else A)) := by
      intro hno
      rw [if_neg hno] at fin ⊢
      unfold jX5_century_164 jX5_century_189
      rw [r1, n_3, n_4]
      by_cases hz : A.1 (5 * p + t) = 0
      · rw [if_pos (hx.mpr hz), if_pos (hx.mpr hz), ite_self, ite_self]
        refine fin _ _ ?_
        rw [if_neg (fun z => z.2 hz), if_neg (fun z => z.2 hz)]
        exact hM
      · rw [if_neg (fun z => hz (hx.mp z)), if_neg (fun z => hz (hx.mp z))]
        by_cases a3 : q % 8 = 3
        · rw [if_pos (k3.mpr a3), e_takesOff (by omega) ht hM, px_bd]
          dsimp only
          refine fin _ _ ?_
          rw [if_pos ⟨a3, hz⟩]
          exact C2
        · rw [if_neg (fun z => a3 (k3.mp z))]
          by_cases a4 : q % 8 = 4
          · rw [if_pos (k4.mpr a4), n_5, pk_mul, nI_add, px_wr (by omega) (by omega)]
            refine fin _ _ ?_
            rw [if_neg (fun z => a3 z.1), if_pos ⟨a4, hz⟩]
            exact C3
          · rw [if_neg (fun z => a4 (k4.mp z))]
            refine fin _ _ ?_
            rw [if_neg (fun z => a3 z.1), if_neg (fun z => a4 z.1)]
            exact hM
    unfold jX5_century_129
    rw [r1, n_3]
    by_cases a2 : q % 8 ≤ 2
    · rw [if_neg (by rw [px_le (by omega) (by omega)]; omega), e_mayPut (by omega) ht hM hZ.1, px_bd]
      by_cases hc : A.1 (5 * p + t) = 0 ∧ ¬ A.2.1 t ≤ 0
      · rw [if_pos hc, if_neg i01, e_puts (by omega) ht hM, px_bd]
        dsimp only
        rw [if_pos ⟨a2, hc⟩] at fin ⊢
        exact fin _ _ C1
      · rw [if_neg hc, if_pos rfl]
        exact rest (fun z => hc z.2)
    · rw [if_pos (by rw [px_le (by omega) (by omega)]; omega)]
      exact rest (fun z => a2 z.1)
  by_cases hz : A.1 (5 * p + t) = 0
  · rw [if_pos (c0.mpr hz)]
    exact key _ ⟨fun _ => hz, fun _ => rfl⟩
  · rw [if_neg (fun z => hz (c0.mp z))]
    exact key _ ⟨fun z => (i01 z).elim, fun z => (hz z).elim⟩
def cenU (N : Nat) (kd : Nat → Nat) (Wn : Nat) (wv : Nat → Nat) (s : Nat) (A : AS) : Nat → AS
  | 0 => A
  | j + 1 => yrs N kd Wn wv 1 (trA N (drN s j) (cenU N kd Wn wv s A j))
theorem cenU_ok {N : Nat} {kd : Nat → Nat} {Wn : Nat} {wv : Nat → Nat} {s : Nat} {A : AS} (h1 : 1 ≤ N) (h : PZ N A.1) : ∀ j, PZ N (cenU N kd Wn wv s A j).1 ∧ (cenU N kd Wn wv s A j).2.2.2 = A.2.2.2 + j
  | 0 => ⟨h, rfl⟩
  | j + 1 => by
    obtain ⟨i1, i2⟩ := cenU_ok (kd := kd) (Wn := Wn) (wv := wv) (s := s) h1 h j
    refine ⟨yrs_ok (trA_ok h1 i1) 1, ?_⟩
    show (yrs N kd Wn wv 1 (trA N (drN s j) (cenU N kd Wn wv s A j))).2.2.2 = _
    rw [yrs_y, trA_y, i2]
    omega
theorem e_cen {N Wn : Nat} {kd wv : Nat → Nat} {kinds winds kindOf mwinds trial pinned stored guides : Nat → Int32} {year : Int32} {A : AS} {s m : Nat} (hR : RR2 N kd Wn wv kinds winds kindOf mwinds) (hC : CS trial A) (hM : MS N pinned stored guides year A) (hZ : PZ N A.1) (hy : A.2.2.2 ≤ 999) (hs : s ≤ 9999) (hm : m ≤ 60) : (∃ t', sx_it 1000 (bX4_century_45 (nI N) (nI Wn) kinds winds (nI s) (nI m)) ((0 : Int32), trial) = some t' ∧ CS t' (cenU N kd Wn wv s A m)) ∧ (∃ y' p' s' g', sx_it 1000 (bX5_century_39 (nI N) (nI Wn) kindOf mwinds (nI s) (nI m)) ((0 : Int32), year, pinned, stored, guides) = some (y', p', s', g') ∧ MS N p' s' g' y' (cenU N kd Wn wv s A m)) := by
  obtain ⟨h1, hN, hWn, hK, hK2, hW, hW2⟩ := hR
  have ok := cenU_ok (kd := kd) (Wn := Wn) (wv := wv) (s := s) h1 hZ
  constructor
  · obtain ⟨r, hr, hr2⟩ := px_inv0 (B := bX4_century_45 (nI N) (nI Wn) kinds winds (nI s) (nI m)) (n := 1000) (s0 := ((0 : Int32), trial)) (R := fun r => CS r (cenU N kd Wn wv s A m)) (fun j x => x.1 = nI j ∧ CS x.2 (cenU N kd Wn wv s A j)) m (by omega) ⟨rfl, hC⟩ (by
      rintro j ⟨x, f⟩ hj ⟨q1, q2⟩
      dsimp only at q1 q2
      subst q1
      obtain ⟨i1, i2⟩ := ok j
      obtain ⟨c1, d1, d2⟩ := e_tbd (q := drN s j) h1 hN (drN_lt s j) q2 i1
      obtain ⟨c2, d3, d4⟩ := e_letYear hN hWn hK hW d2 (trA_ok h1 i1).1 (by rw [trA_y, i2]; omega)
      refine ⟨(nI (j + 1), c2), ?_, rfl, d4⟩
      unfold bX4_century_45 fX4_drawOf
      dsimp only
      rw [if_neg (by rw [px_le (by omega) (by omega)]; omega), px_slt, e_drawE hs (by omega), px_bd, d1, px_bd, d3, px_bd, n_1, nI_add]) (by
      rintro ⟨x, f⟩ ⟨q1, q2⟩
      dsimp only at q1 q2
      subst q1
      refine ⟨f, ?_, q2⟩
      unfold bX4_century_45
      dsimp only
      rw [if_pos (by rw [px_le (by omega) (by omega)]; omega)])
    exact ⟨r, hr, hr2⟩
  · obtain ⟨⟨y', p', s', g'⟩, hr, hr2⟩ := px_inv0 (B := bX5_century_39 (nI N) (nI Wn) kindOf mwinds (nI s) (nI m)) (n := 1000) (s0 := ((0 : Int32), year, pinned, stored, guides)) (R := fun r => MS N r.2.1 r.2.2.1 r.2.2.2 r.1 (cenU N kd Wn wv s A m)) (fun j x => x.1 = nI j ∧ MS N x.2.2.1 x.2.2.2.1 x.2.2.2.2 x.2.1 (cenU N kd Wn wv s A j)) m (by omega) ⟨rfl, hM⟩ (by
      rintro j ⟨x, yy, pp, ss, gg⟩ hj ⟨q1, q2⟩
      dsimp only at q1 q2
      subst q1
      obtain ⟨i1, i2⟩ := ok j
      obtain ⟨y', p', s', g', d1, d2⟩ := e_cenM h1 hN hWn hK2 hW2 hs hj hm q2 i1 (by rw [i2]; omega)
      exact ⟨_, d1, rfl, d2⟩) (by
      rintro ⟨x, yy, pp, ss, gg⟩ ⟨q1, q2⟩
      dsimp only at q1 q2
      subst q1
      refine ⟨(yy, pp, ss, gg), ?_, q2⟩
      unfold bX5_century_39
      dsimp only
      rw [if_pos (by rw [px_le (by omega) (by omega)]; omega)])
    exact ⟨_, _, _, _, hr, hr2⟩
theorem op_century {N Wn : Nat} {kd wv : Nat → Nat} {kinds winds kindOf mwinds now trial faces pinned stored guides aside : Nat → Int32} {year : Int32} {A : AS} (hR : RR2 N kd Wn wv kinds winds kindOf mwinds) (hD : RDs N now pinned stored guides year A) (v w z : Int32) : ∃ r trial' faces' year' pinned' stored' guides' aside', fX4_century (nI N) (nI Wn) kinds winds now trial faces v w z = some (r, trial', faces') ∧ fX5_century (nI N) (nI Wn) year kindOf mwinds pinned stored guides aside v w z = some (r, year', pinned', stored', guides', aside') ∧ RDs N now pinned' stored' guides' year' A := by
  have hR0 := hR
  obtain ⟨h1, hN, hWn, hK, hK2, hW, hW2⟩ := hR
  unfold fX4_century fX5_century
  rcases px_rng v 0 9999 (by omega) (by omega) with hv | hv | ⟨s, s1, s2, rfl⟩
  · have e : fX5_in v (0 : Int32) (9999 : Int32) = some 0 := e_in_bad (Or.inl hv)
    rw [if_pos (show v < 0 from hv), e, px_bd, if_pos rfl]
    exact ⟨_, _, _, _, _, _, _, _, rfl, rfl, hD⟩
  · have e : fX5_in v (0 : Int32) (9999 : Int32) = some 0 := e_in_bad (Or.inr hv)
    rw [e, px_bd, if_pos rfl]
    by_cases h0 : v < 0
    · rw [if_pos h0]
      exact ⟨_, _, _, _, _, _, _, _, rfl, rfl, hD⟩
    · rw [if_neg h0, if_pos (show (9999 : Int32) < v from hv)]
      exact ⟨_, _, _, _, _, _, _, _, rfl, rfl, hD⟩
  · have e : fX5_in (nI s) (0 : Int32) (9999 : Int32) = some 1 := e_in (j := s) (a := 0) (b := 9999) (by omega) (by omega) s1 s2
    rw [e, px_bd, if_neg i01, if_neg (by rw [px_lt0 (by omega)]; exact id), n_9999, if_neg (by rw [px_lt (by omega) (by omega)]; omega)]
    rcases px_rng w 1 60 (by omega) (by omega) with hw | hw | ⟨m, m1, m2, rfl⟩
    · have e : fX5_in w (1 : Int32) (60 : Int32) = some 0 := e_in_bad (Or.inl hw)
      rw [e, px_bd, if_pos rfl, if_pos (show w < (1 : Int32) from hw)]
      exact ⟨_, _, _, _, _, _, _, _, rfl, rfl, hD⟩
    · have e : fX5_in w (1 : Int32) (60 : Int32) = some 0 := e_in_bad (Or.inr hw)
      rw [e, px_bd, if_pos rfl]
      by_cases h0 : w < (1 : Int32)
      · rw [if_pos h0]
        exact ⟨_, _, _, _, _, _, _, _, rfl, rfl, hD⟩
      · rw [if_neg h0, if_pos (show (60 : Int32) < w from hw)]
        exact ⟨_, _, _, _, _, _, _, _, rfl, rfl, hD⟩
    · have e : fX5_in (nI m) (1 : Int32) (60 : Int32) = some 1 := e_in (j := m) (a := 1) (b := 60) (by omega) (by omega) m1 m2
      rw [e, px_bd, if_neg i01, if_neg (show ¬ nI m < (1 : Int32) by rw [n_1, px_lt (by omega) (by omega)]; omega), if_neg (show ¬ (60 : Int32) < nI m by rw [n_60, px_lt (by omega) (by omega)]; omega)]
      obtain ⟨t1, b1, b2⟩ := e_become trial now
      obtain ⟨as, s1', s2'⟩ := e_begin (aside := aside) hN hD.2.1
      obtain ⟨⟨t', c1, c2⟩, y', p', s', g', d1, d2⟩ := e_cen (s := s) (m := m) hR0 (CS_of_eq b2 hD.1) hD.2.1 hD.2.2.1 hD.2.2.2 s2 m2
      have ok := (cenU_ok (kd := kd) (Wn := Wn) (wv := wv) (s := s) h1 hD.2.2.1 m).1
      obtain ⟨f, f1, f2⟩ := e_lookAt (faces := faces) c2.1 ok.1
      obtain ⟨p2, st2, g2, k1, k2⟩ := e_putBack (pinned := p') (stored := s') (guides := g') (year := y') hN s2'
      have k3 : RDs N now p2 st2 g2 (nI A.2.2.2) A := ⟨hD.1, k2, hD.2.2⟩
      rcases e_01Q z with rfl | rfl | ⟨q1, q2⟩
      · rw [e_zo0, e_in01_0, px_bd, px_bd, if_neg i01, if_neg i01, b1, px_bd, c1, px_bd, f1, px_bd, s1', px_bd, d1, px_bd]
        dsimp only
        rw [if_pos n_0.symm, if_pos n_0.symm, e_trimmingsOn c2.1 ok.1, px_bd, e_onMany hN d2.1 ok, px_bd]
        unfold jX5_century_243
        rw [k1, px_bd]
        exact ⟨_, _, _, _, _, _, _, _, rfl, rfl, k3⟩
      · rw [e_zo1, e_in01_1, px_bd, px_bd, if_neg i01, if_neg i01, b1, px_bd, c1, px_bd, f1, px_bd, s1', px_bd, d1, px_bd]
        dsimp only
        rw [if_neg (by decide), if_neg (by decide), n_31, e_pairsAlike hN f2 (by omega), px_bd, e_mPairs hN d2.1 ok.1, px_bd]
        unfold jX5_century_243
        rw [k1, px_bd]
        exact ⟨_, _, _, _, _, _, _, _, rfl, rfl, k3⟩
      · rw [q1, q2, px_bd, px_bd, if_pos rfl, if_pos rfl]
        exact ⟨_, _, _, _, _, _, _, _, rfl, rfl, hD⟩

/-! storms: the class's gusts -/
theorem lo_shift {r q : Nat → Nat} : ∀ (n a b : Nat), (∀ s, s < n → r (a + s) = q (b + s)) → lo r a n = lo q b n
  | 0, a, b, _ => rfl
  | n + 1, a, b, h => by
    have h0 := h 0 (by omega)
    rw [Nat.add_zero, Nat.add_zero] at h0
    unfold lo
    rw [h0, lo_shift n (a + 1) (b + 1) (fun s hs => by
      have := h (s + 1) (by omega)
      rwa [show a + (s + 1) = a + 1 + s by omega, show b + (s + 1) = b + 1 + s by omega] at this)]
theorem wrow_shift {F : Nat} {g : Bool} {r q : Nat → Nat} {a b : Nat} (h : ∀ s, s < 5 → r (a + s) = q (b + s)) {s : Nat} (hs : s < 5) : wrow F g r a (a + s) = wrow F g q b (b + s) := by
  unfold wrow
  rw [if_pos (show a ≤ a + s ∧ a + s < a + 5 by omega), if_pos (show b ≤ b + s ∧ b + s < b + 5 by omega), h s hs, lo_shift (r := fun j => wz F (r j)) (q := fun j => wz F (q j)) 5 a b (fun s hs => by rw [h s hs])]
  have e : (g = true ∧ a + s = a + lo (fun j => wz F (q j)) b 5) ↔ (g = true ∧ b + s = b + lo (fun j => wz F (q j)) b 5) := by
    constructor
    · rintro ⟨h1, h2⟩; exact ⟨h1, by omega⟩
    · rintro ⟨h1, h2⟩; exact ⟨h1, by omega⟩
  by_cases c : (g = true ∧ b + s = b + lo (fun j => wz F (q j)) b 5)
  · rw [if_pos c, if_pos (e.mpr c)]
  · rw [if_neg c, if_neg (fun z => c (e.mp z))]
theorem yrU_hi (kd : Nat → Nat) (w : Nat) (P : Nat → Nat) : ∀ (n k : Nat), 5 * n ≤ k → yrU kd w P n k = P k
  | 0, k, _ => rfl
  | n + 1, k, h => by
    show wrow _ _ (yrU kd w P n) (5 * n) k = _
    rw [wrow_out (by omega)]
    exact yrU_hi kd w P n k (by omega)
theorem yrU_row (kd : Nat → Nat) (w : Nat) (P : Nat → Nat) {p s : Nat} (hs : s < 5) : ∀ n, p < n → yrU kd w P n (5 * p + s) = wrow (fc (kd p) w) (decide (kd p = 3)) P (5 * p) (5 * p + s)
  | 0, h => absurd h (Nat.not_lt_zero _)
  | n + 1, h => by
    show wrow _ _ (yrU kd w P n) (5 * n) (5 * p + s) = _
    by_cases e : p = n
    · subst e
      exact wrow_shift (fun s hs => yrU_hi kd w P p _ (by omega)) hs
    · rw [wrow_out (by omega)]
      exact yrU_row kd w P hs n (by omega)
def GR (gusts : Nat → Int32) (l p : Nat) (A : AS) : Prop := ∀ s, s < 5 → gusts (5 * l + s) = nI (A.1 (5 * p + s))
theorem e_blow {N l p w : Nat} {kinds gusts : Nat → Int32} {kd : Nat → Nat} {A : AS} (hN : N ≤ 6) (hK : KI N kinds kd) (hp : p < N) (hl : l < 8) (hw : w ≤ 20) (hB : PB A.1) (hG : GR gusts l p A) : ∃ g', fX4_blowGust (nI N) kinds gusts (nI l) (nI p) (nI w) = some ((1 : Int32), g') ∧ GR g' (l + 1) p (yrA N kd w A) ∧ ∀ k, k < 5 * (l + 1) → g' k = gusts k := by
  have hcp : ∀ s, s < 5 → va_cpy gusts gusts (l * 5) ((l + 1) * 5) 5 ((l + 1) * 5 + s) = nI (A.1 (5 * p + s)) := by
    intro s hs
    unfold va_cpy
    rw [if_pos (by omega), ← hG s hs]
    congr 1
    omega
  obtain ⟨g', a1, a2, a3⟩ := e_weather (row := va_cpy gusts gusts (l * 5) ((l + 1) * 5) 5) (r := fun k => A.1 (5 * p + (k - (l + 1) * 5))) (n := 45) (at_ := (l + 1) * 5) (F := fc (kd p) w) (decide (kd p = 3)) (by omega) (by omega) (by have := fc_le (kd := kd p) hw; omega) (by
    intro k h1 h2
    have := hcp (k - (l + 1) * 5) (by omega)
    rwa [show (l + 1) * 5 + (k - (l + 1) * 5) = k by omega] at this) (by
    intro k h1 h2
    exact hB _ (by omega))
  refine ⟨g', ?_, ?_, ?_⟩
  · unfold fX4_blowGust
    rw [if_neg (by rw [px_lt0 (by omega)]; exact id), n_8, if_pos (by rw [px_lt (by omega) (by omega)]; omega), n_1, nI_add, n_5, pk_mul, pk_mul, px_slt, px_cp (by omega) (by omega) (by omega) (by omega), e_forceAt hN hK hp hw, px_bd, e_hasGoats hN hK hp, px_bd, a1, px_bd]
  · intro s hs
    rw [show 5 * (l + 1) + s = (l + 1) * 5 + s by omega, a2 _ (by omega) (by omega)]
    show _ = nI (yrU kd w A.1 N (5 * p + s))
    rw [yrU_row kd w A.1 hs N hp]
    congr 1
    refine wrow_shift (fun x hx => ?_) hs
    show A.1 (5 * p + ((l + 1) * 5 + x - (l + 1) * 5)) = A.1 (5 * p + x)
    rw [show (l + 1) * 5 + x - (l + 1) * 5 = x by omega]
  · intro k hk
    rw [a3 k (by omega)]
    unfold va_cpy
    rw [if_neg (by omega)]
def wyA (N : Nat) (kd : Nat → Nat) (Wn : Nat) (wv : Nat → Nat) (q g : Nat) : Nat → AS → Nat
  | 0, A => if A.1 q = 0 then 0 else 1
  | m + 1, A => g * wyA N kd Wn wv q g m (yrA N kd 20 A) + (10 - g) * wyA N kd Wn wv q g m (yrA N kd (wnd Wn wv A.2.2.2) A)
theorem wyA_z {N : Nat} {kd : Nat → Nat} {Wn : Nat} {wv : Nat → Nat} {q g : Nat} : ∀ (m : Nat) (A : AS), A.1 q = 0 → wyA N kd Wn wv q g m A = 0
  | 0, A, h => if_pos h
  | m + 1, A, h => by
    have hz : ∀ w, (yrA N kd w A).1 q = 0 := fun w => by
      have := yrU_le kd w A.1 q N
      show yrU kd w A.1 N q = 0
      omega
    show g * _ + (10 - g) * _ = 0
    rw [wyA_z m _ (hz _), wyA_z m _ (hz _)]
    rfl
theorem wyA_le {N : Nat} {kd : Nat → Nat} {Wn : Nat} {wv : Nat → Nat} {q g : Nat} (hg : g ≤ 10) : ∀ (m : Nat) (A : AS), wyA N kd Wn wv q g m A ≤ 10 ^ m
  | 0, A => by unfold wyA; split <;> omega
  | m + 1, A => by
    have h1 := Nat.mul_le_mul (Nat.le_refl g) (wyA_le (N := N) (kd := kd) (Wn := Wn) (wv := wv) (q := q) hg m (yrA N kd 20 A))
    have h2 := Nat.mul_le_mul (Nat.le_refl (10 - g)) (wyA_le (N := N) (kd := kd) (Wn := Wn) (wv := wv) (q := q) hg m (yrA N kd (wnd Wn wv A.2.2.2) A))
    show g * _ + (10 - g) * _ ≤ _
    refine Nat.le_trans (Nat.add_le_add h1 h2) ?_
    rw [← Nat.add_mul, Nat.pow_succ, Nat.mul_comm (10 ^ m)]
    exact Nat.mul_le_mul (by omega) (Nat.le_refl _)
theorem e_ways {N Wn p t g n Y : Nat} {kinds winds now : Nat → Int32} {kd wv : Nat → Nat} (hN : N ≤ 6) (hWn : Wn ≤ 12) (hK : KI N kinds kd) (hW : WI Wn winds wv) (hp : p < N) (ht : t < 5) (hg : g ≤ 10) (hn : n ≤ 8) (hY : now 41 = nI Y) (hY2 : Y ≤ 2000) : ∀ (m fu l : Nat) (gusts : Nat → Int32) (A : AS), l + m = n → m < fu → GR gusts l p A → PZ N A.1 → A.2.2.2 = Y + l → ∃ g', fX4_waysToStay fu (nI N) (nI Wn) kinds winds now gusts (nI l) (nI n) (nI p) (nI t) (nI g) = some (nI (wyA N kd Wn wv (5 * p + t) g m A), g') ∧ ∀ k, k < 5 * (l + 1) → g' k = gusts k
  | m, 0, l, gusts, A, _, hf, _, _, _ => absurd hf (Nat.not_lt_zero _)
  | m, fu + 1, l, gusts, A, hlm, hf, hG, hZ, hA => by
    have hb := hZ.1 (5 * p + t) (by omega)
    unfold fX4_waysToStay
    rw [if_neg (by rw [px_lt0 (by omega)]; exact id), n_8, if_neg (by rw [px_lt (by omega) (by omega)]; omega), n_5, pk_mul, nI_add, px_rd (by omega) (by omega), show l * 5 + t = 5 * l + t by omega, hG t ht]
    by_cases hz : A.1 (5 * p + t) = 0
    · rw [if_pos ((bit0 (by omega)).mpr hz), wyA_z m A hz]
      exact ⟨_, rfl, fun k _ => rfl⟩
    · rw [if_neg (fun z => hz ((bit0 (by omega)).mp z))]
      match m, hlm, hf with
      | 0, hlm, hf =>
        rw [if_neg (by rw [px_lt (by omega) (by omega)]; omega)]
        refine ⟨gusts, ?_, fun k _ => rfl⟩
        unfold wyA
        rw [if_neg hz, n_1]
      | m + 1, hlm, hf =>
        rw [if_pos (by rw [px_lt (by omega) (by omega)]; omega)]
        have hwl := wnd_le (y := A.2.2.2) hW
        have rest : ∀ (u : Nat) (gu : Nat → Int32), (∀ k, k < 5 * (l + 1) → gu k = gusts k) → ∃ g', jX4_waysToStay_73 (fX4_waysToStay fu) (nI N) (nI Wn) kinds winds now gu (nI l) (nI n) (nI p) (nI t) (nI g) (nI u) = some (nI (u + (10 - g) * wyA N kd Wn wv (5 * p + t) g m (yrA N kd (wnd Wn wv A.2.2.2) A)), g') ∧ ∀ k, k < 5 * (l + 1) → g' k = gusts k := by
          intro u gu hgu
          unfold jX4_waysToStay_73
          by_cases h10 : g = 10
          · rw [n_10, if_pos (by rw [px_le (by omega) (by omega)]; omega), h10]
            refine ⟨gu, ?_, hgu⟩
            rw [Nat.sub_self, Nat.zero_mul, Nat.add_zero]
          · rw [n_10, if_neg (by rw [px_le (by omega) (by omega)]; omega), e_yearNow, px_bd, hY, nI_add, e_windIn hWn hW (by omega), px_bd, ← hA]
            obtain ⟨g1, a1, a2, a3⟩ := e_blow (w := wnd Wn wv A.2.2.2) hN hK hp (show l < 8 by omega) hwl hZ.1 (show GR gu l p A from fun s hs => by rw [hgu _ (by omega)]; exact hG s hs)
            obtain ⟨g2, b1, b2⟩ := e_ways hN hWn hK hW hp ht hg hn hY hY2 m fu (l + 1) g1 (yrA N kd (wnd Wn wv A.2.2.2) A) (by omega) (by omega) a2 (yrA_ok hZ) (by show A.2.2.2 + 1 = _; omega)
            rw [a1, px_bd]
            dsimp only
            rw [if_neg i01, n_1, nI_add, b1, px_bd]
            dsimp only
            rw [px_sub hg, pk_mul, nI_add, px_slt]
            exact ⟨g2, rfl, fun k hk => by rw [b2 k (by omega), a3 k (by omega), hgu k hk]⟩
        by_cases h0 : g = 0
        · rw [if_pos (by rw [n_0, px_le (by omega) (by omega)]; omega)]
          obtain ⟨g', c1, c2⟩ := rest 0 gusts (fun k _ => rfl)
          refine ⟨g', ?_, c2⟩
          rw [n_0, c1]
          show _ = some (nI (g * _ + (10 - g) * _), g')
          rw [h0, Nat.zero_mul]
        · rw [if_neg (by rw [n_0, px_le (by omega) (by omega)]; omega)]
          obtain ⟨g1, a1, a2, a3⟩ := e_blow (w := 20) hN hK hp (show l < 8 by omega) (by omega) hZ.1 hG
          obtain ⟨g2, b1, b2⟩ := e_ways hN hWn hK hW hp ht hg hn hY hY2 m fu (l + 1) g1 (yrA N kd 20 A) (by omega) (by omega) a2 (yrA_ok hZ) (by show A.2.2.2 + 1 = _; omega)
          rw [n_20, a1, px_bd]
          dsimp only
          rw [if_neg i01, n_1, nI_add, b1, px_bd]
          dsimp only
          rw [n_0, pk_mul, nI_add, px_slt, Nat.zero_add]
          exact rest _ g2 (fun k hk => by rw [b2 k (by omega), a3 k (by omega)])
/-! storms: the model's sum over all ways -/
def mAs (N : Nat) (kd : Nat → Nat) (Wn : Nat) (wv : Nat → Nat) : Nat → AS → Nat → AS
  | 0, A, _ => A
  | m + 1, A, i => mAs N kd Wn wv m (yrA N kd (if i % 2 = 1 then 20 else wnd Wn wv A.2.2.2) A) (i / 2)
def wtN (g : Nat) : Nat → Nat → Nat
  | 0, _ => 1
  | m + 1, i => (if i % 2 = 1 then g else 10 - g) * wtN g m (i / 2)
def smN (f : Nat → Nat) : Nat → Nat
  | 0 => 0
  | n + 1 => smN f n + f n
theorem smN_s (f : Nat → Nat) (n : Nat) : smN f (n + 1) = smN f n + f n := rfl
theorem smN_two (f : Nat → Nat) : ∀ n, smN f (2 * n) = smN (fun i => f (2 * i)) n + smN (fun i => f (2 * i + 1)) n
  | 0 => rfl
  | n + 1 => by
    have ih := smN_two f n
    rw [show 2 * (n + 1) = 2 * n + 1 + 1 by omega, smN_s, smN_s, smN_s, smN_s, ih]
    omega
theorem smN_mul (c : Nat) (f : Nat → Nat) : ∀ n, smN (fun i => c * f i) n = c * smN f n
  | 0 => rfl
  | n + 1 => by rw [smN_s, smN_s, smN_mul c f n, Nat.mul_add]
theorem smN_cong {f h : Nat → Nat} : ∀ n, (∀ i, i < n → f i = h i) → smN f n = smN h n
  | 0, _ => rfl
  | n + 1, e => by rw [smN_s, smN_s, smN_cong n (fun i hi => e i (by omega)), e n (by omega)]
def trmN (N : Nat) (kd : Nat → Nat) (Wn : Nat) (wv : Nat → Nat) (q g m : Nat) (A : AS) (i : Nat) : Nat := if (mAs N kd Wn wv m A i).1 q = 0 then 0 else wtN g m i
theorem trm_mul (c : Nat) {P : Prop} [Decidable P] (x : Nat) : (if P then 0 else c * x) = c * (if P then 0 else x) := by
  split
  · rw [Nat.mul_zero]
  · rfl
theorem smN_ways (N : Nat) (kd : Nat → Nat) (Wn : Nat) (wv : Nat → Nat) (q g : Nat) : ∀ (m : Nat) (A : AS), smN (trmN N kd Wn wv q g m A) (2 ^ m) = wyA N kd Wn wv q g m A
  | 0, A => by
    show 0 + (if A.1 q = 0 then 0 else 1) = _
    rw [Nat.zero_add]
    rfl
  | m + 1, A => by
    rw [Nat.pow_succ, Nat.mul_comm, smN_two]
    have e0 : ∀ i, trmN N kd Wn wv q g (m + 1) A (2 * i) = (10 - g) * trmN N kd Wn wv q g m (yrA N kd (wnd Wn wv A.2.2.2) A) i := by
      intro i
      show (if (mAs N kd Wn wv m (yrA N kd (if 2 * i % 2 = 1 then 20 else wnd Wn wv A.2.2.2) A) (2 * i / 2)).1 q = 0 then 0 else (if 2 * i % 2 = 1 then g else 10 - g) * wtN g m (2 * i / 2)) = _
      rw [if_neg (show ¬ 2 * i % 2 = 1 by omega), if_neg (show ¬ 2 * i % 2 = 1 by omega), show 2 * i / 2 = i by omega, trm_mul]
      rfl
    have e1 : ∀ i, trmN N kd Wn wv q g (m + 1) A (2 * i + 1) = g * trmN N kd Wn wv q g m (yrA N kd 20 A) i := by
      intro i
      show (if (mAs N kd Wn wv m (yrA N kd (if (2 * i + 1) % 2 = 1 then 20 else wnd Wn wv A.2.2.2) A) ((2 * i + 1) / 2)).1 q = 0 then 0 else (if (2 * i + 1) % 2 = 1 then g else 10 - g) * wtN g m ((2 * i + 1) / 2)) = _
      rw [if_pos (show (2 * i + 1) % 2 = 1 by omega), if_pos (show (2 * i + 1) % 2 = 1 by omega), show (2 * i + 1) / 2 = i by omega, trm_mul]
      rfl
    rw [smN_cong _ (fun i _ => e0 i), smN_cong _ (fun i _ => e1 i), smN_mul, smN_mul, smN_ways N kd Wn wv q g m, smN_ways N kd Wn wv q g m, Nat.add_comm]
    rfl

/-! plain facts for the pure functions -/
theorem n_0 : (0 : Int32) = nI 0 := by decide +kernel
theorem n_1 : (1 : Int32) = nI 1 := by decide +kernel
theorem n_2 : (2 : Int32) = nI 2 := by decide +kernel
theorem n_3 : (3 : Int32) = nI 3 := by decide +kernel
theorem n_4 : (4 : Int32) = nI 4 := by decide +kernel
theorem n_5 : (5 : Int32) = nI 5 := by decide +kernel
theorem n_6 : (6 : Int32) = nI 6 := by decide +kernel
theorem n_7 : (7 : Int32) = nI 7 := by decide +kernel
theorem n_8 : (8 : Int32) = nI 8 := by decide +kernel
theorem n_9 : (9 : Int32) = nI 9 := by decide +kernel
theorem n_10 : (10 : Int32) = nI 10 := by decide +kernel
theorem n_12 : (12 : Int32) = nI 12 := by decide +kernel
theorem n_16 : (16 : Int32) = nI 16 := by decide +kernel
theorem n_20 : (20 : Int32) = nI 20 := by decide +kernel
theorem n_30 : (30 : Int32) = nI 30 := by decide +kernel
theorem n_31 : (31 : Int32) = nI 31 := by decide +kernel
theorem n_32 : (32 : Int32) = nI 32 := by decide +kernel
theorem n_35 : (35 : Int32) = nI 35 := by decide +kernel
theorem n_36 : (36 : Int32) = nI 36 := by decide +kernel
theorem n_41 : (41 : Int32) = nI 41 := by decide +kernel
theorem n_42 : (42 : Int32) = nI 42 := by decide +kernel
theorem n_44 : (44 : Int32) = nI 44 := by decide +kernel
theorem n_48 : (48 : Int32) = nI 48 := by decide +kernel
theorem n_57 : (57 : Int32) = nI 57 := by decide +kernel
theorem n_59 : (59 : Int32) = nI 59 := by decide +kernel
theorem n_60 : (60 : Int32) = nI 60 := by decide +kernel
theorem n_63 : (63 : Int32) = nI 63 := by decide +kernel
theorem n_64 : (64 : Int32) = nI 64 := by decide +kernel
theorem n_99 : (99 : Int32) = nI 99 := by decide +kernel
theorem n_111 : (111 : Int32) = nI 111 := by decide +kernel
theorem n_112 : (112 : Int32) = nI 112 := by decide +kernel
theorem n_115 : (115 : Int32) = nI 115 := by decide +kernel
theorem n_119 : (119 : Int32) = nI 119 := by decide +kernel
theorem n_126 : (126 : Int32) = nI 126 := by decide +kernel
theorem n_200 : (200 : Int32) = nI 200 := by decide +kernel
theorem n_294 : (294 : Int32) = nI 294 := by decide +kernel
theorem n_512 : (512 : Int32) = nI 512 := by decide +kernel
theorem n_999 : (999 : Int32) = nI 999 := by decide +kernel
theorem n_9999 : (9999 : Int32) = nI 9999 := by decide +kernel
theorem n_1048576 : (1048576 : Int32) = nI 1048576 := by decide +kernel
theorem px_bd {α ρ : Type} {x : α} {F : α → Option ρ} : (some x).bind F = F x := rfl
theorem px_slt {α ρ : Type} {x : α} {F : α → Option ρ} : sx_lt x F = F x := rfl
theorem px_rd {α ρ : Type} {f : Nat → α} {n i : Nat} {F : α → Option ρ} (h : i < n) (hn : n < 2147483648) : sx_rd f n (nI i) F = F (f i) := by
  unfold sx_rd
  rw [nI_clamp (by omega), if_neg]
  rintro (h1 | h1)
  · exact nI_pos (by omega) h1
  · omega
theorem px_wr {ρ : Type} {f : Nat → Int32} {n i : Nat} {x : Int32} {F : (Nat → Int32) → Option ρ} (h : i < n) (hn : n < 2147483648) : sx_wr f n (nI i) x F = F (upd f i x) := by
  unfold sx_wr
  rw [nI_clamp (by omega), if_neg]
  rintro (h1 | h1)
  · exact nI_pos (by omega) h1
  · omega
theorem px_cp {ρ : Type} {f g : Nat → Int32} {n0 n1 a b c : Nat} {F : (Nat → Int32) → Option ρ} (h0 : a + c ≤ n0) (h1 : b + c ≤ n1) (hn0 : n0 < 2147483648) (hn1 : n1 < 2147483648) : sx_cp f g n0 n1 (nI a) (nI b) (nI c) F = F (va_cpy f g a b c) := by
  unfold sx_cp
  rw [nI_clamp (by omega), nI_clamp (by omega), nI_clamp (by omega), if_neg]
  rintro (h | h | h | h | h)
  · exact nI_pos (by omega) h
  · exact nI_pos (by omega) h
  · exact nI_pos (by omega) h
  · omega
  · omega
theorem px_nz {ρ : Type} {a : Nat} {F : Option ρ} (h : 0 < a) (hn : a < 2147483648) : sx_nz (nI a) F = F := by
  unfold sx_nz
  rw [if_neg]
  exact nI_ne0 h (by omega)
theorem px_lt {a b : Nat} (ha : a < 2147483648) (hb : b < 2147483648) : nI a < nI b ↔ a < b := nI_ltI (by omega) (by omega)
theorem px_le {a b : Nat} (ha : a < 2147483648) (hb : b < 2147483648) : nI a ≤ nI b ↔ a ≤ b := nI_leI (by omega) (by omega)
theorem px_eq {a b : Nat} (ha : a < 2147483648) (hb : b < 2147483648) : nI a = nI b ↔ a = b := nI_eq (by omega) (by omega)
theorem px_sub {a b : Nat} (h : b ≤ a) : nI a - nI b = nI (a - b) := pk_sub h
theorem px_div {a b : Nat} (ha : a < 2147483648) (h0 : 0 < b) (hb : b < 2147483648) : nI a / nI b = nI (a / b) := pk_div (by omega) h0 (by omega)
theorem px_rem {a b : Nat} (ha : a < 2147483648) (h0 : 0 < b) (hb : b < 2147483648) : nI a - nI a / nI b * nI b = nI (a % b) := pk_rem (by omega) h0 (by omega)
theorem px_or (a b : Nat) : nI a ||| nI b = nI (a ||| b) := by
  apply Int32.toBitVec_inj.1
  show BitVec.ofNat 32 a ||| BitVec.ofNat 32 b = BitVec.ofNat 32 (a ||| b)
  apply BitVec.eq_of_getLsbD_eq
  intro i hi
  simp [hi]
theorem px_and (a b : Nat) : nI a &&& nI b = nI (a &&& b) := by
  apply Int32.toBitVec_inj.1
  show BitVec.ofNat 32 a &&& BitVec.ofNat 32 b = BitVec.ofNat 32 (a &&& b)
  apply BitVec.eq_of_getLsbD_eq
  intro i hi
  simp [hi]
theorem px_xor (a b : Nat) : nI a ^^^ nI b = nI (a ^^^ b) := by
  apply Int32.toBitVec_inj.1
  show BitVec.ofNat 32 a ^^^ BitVec.ofNat 32 b = BitVec.ofNat 32 (a ^^^ b)
  apply BitVec.eq_of_getLsbD_eq
  intro i hi
  simp [hi]
theorem px_shl1 : ∀ t, t < 9 → nI 1 <<< nI (t &&& 31) = nI (2 ^ t) := by decide +kernel
theorem px_shr {n : Nat} (h : n < 2147483648) {t : Nat} (ht : t < 32) : nI n >>> nI (t &&& 31) = nI (n / 2 ^ t) := by
  refine pk_shrN (by omega) _ t ?_
  have : ∀ t, t < 32 → ((nI (t &&& 31)).toBitVec.smod 32).toNat = t := by decide +kernel
  exact this t ht
theorem px_lt0 {a : Nat} (ha : a < 2147483648) : nI a < 0 ↔ False := ⟨fun h => nI_pos (by omega) h, fun h => h.elim⟩
theorem px_neg {a : Nat} (z : Nat) (hz : 0 < z) (hz2 : z < 2147483648) (ha : a < 2147483648) : nI a = -nI z ↔ False := by
  refine ⟨fun h => ?_, fun h => h.elim⟩
  have h1 := congrArg Int32.toInt h
  rw [nI_toInt (by omega), sb_negT (by omega)] at h1
  omega
/-- a loop that goes N turns from f 0 to f N -/
theorem px_it {σ ρ : Type} {B : σ → Option (σ ⊕ ρ)} {r : ρ} : ∀ (N n : Nat) (f : Nat → σ), (∀ k, k < N → B (f k) = some (.inl (f (k + 1)))) → B (f N) = some (.inr r) → N < n → sx_it n B (f 0) = some r
  | 0, 0, f, _, _, h => absurd h (Nat.lt_irrefl 0)
  | 0, n + 1, f, _, he, _ => by unfold sx_it; rw [he]
  | N + 1, 0, f, _, _, h => absurd h (Nat.not_lt_zero _)
  | N + 1, n + 1, f, hs, he, h => by
    unfold sx_it
    rw [hs 0 (Nat.succ_pos N)]
    exact px_it N n (fun k => f (k + 1)) (fun k hk => hs (k + 1) (by omega)) he (by omega)
theorem px_upd_s {f : Nat → Int32} {k : Nat} {x : Int32} : upd f k x k = x := by simp [upd]
theorem px_upd_n {f : Nat → Int32} {k j : Nat} {x : Int32} (h : j ≠ k) : upd f k x j = f j := by simp [upd, h]
theorem px_or0 (x : Int32) : x ||| 0 = x := Int32.or_zero
theorem px_lp {σ ρ τ : Type} {B : σ → Option (σ ⊕ ρ)} {F : ρ → Option τ} {s : σ} {n : Nat} {z : Option τ} (f : Nat → σ) (N : Nat) (r : ρ) (h0 : s = f 0) (hN : N < n) (hs : ∀ k, k < N → B (f k) = some (.inl (f (k + 1)))) (he : B (f N) = some (.inr r)) (hz : F r = z) : (sx_it n B s).bind F = z := by
  rw [h0, px_it N n f hs he hN]
  exact hz
/-- g with n places from a on anew, by v -/
def pf (g v : Nat → Int32) (a n : Nat) : Nat → Int32 := fun k => if a ≤ k ∧ k < a + n then v (k - a) else g k
theorem pf_0 (g v : Nat → Int32) (a : Nat) : pf g v a 0 = g := by
  funext k; unfold pf; rw [if_neg (by omega)]
theorem pf_in {g v : Nat → Int32} {a n k : Nat} (h : a ≤ k) (h2 : k < a + n) : pf g v a n k = v (k - a) := by unfold pf; rw [if_pos ⟨h, h2⟩]
theorem pf_at {g v : Nat → Int32} {a n k : Nat} (h2 : k < n) : pf g v a n (a + k) = v k := by rw [pf_in (by omega) (by omega), show a + k - a = k by omega]
theorem pf_out {g v : Nat → Int32} {a n k : Nat} (h : k < a ∨ a + n ≤ k) : pf g v a n k = g k := by unfold pf; rw [if_neg (by omega)]
theorem pf_succ (g v : Nat → Int32) (a n : Nat) : upd (pf g v a n) (a + n) (v n) = pf g v a (n + 1) := by
  funext k
  unfold upd pf
  by_cases h : k = a + n
  · subst h
    rw [if_pos rfl, if_pos (by omega), show a + n - a = n by omega]
  · rw [if_neg h]
    by_cases h2 : a ≤ k ∧ k < a + n
    · rw [if_pos h2, if_pos (by omega)]
    · rw [if_neg h2, if_neg (by omega)]
theorem pf_succ0 (g v : Nat → Int32) (n : Nat) : upd (pf g v 0 n) n (v n) = pf g v 0 (n + 1) := by
  have h := pf_succ g v 0 n
  rwa [Nat.zero_add] at h
theorem pf_low {g v : Nat → Int32} {n k : Nat} (h2 : k < n) : pf g v 0 n k = v k := by rw [pf_in (by omega) (by omega), Nat.sub_zero]
/-- a loop by an invariant; it may end early -/
theorem px_inv {σ ρ : Type} {B : σ → Option (σ ⊕ ρ)} {R : ρ → Prop} (I : Nat → σ → Prop) (N : Nat) (hs : ∀ k s, k < N → I k s → (∃ s', B s = some (.inl s') ∧ I (k + 1) s') ∨ (∃ r, B s = some (.inr r) ∧ R r)) (he : ∀ s, I N s → ∃ r, B s = some (.inr r) ∧ R r) : ∀ (n k : Nat) (s : σ), k ≤ N → N - k < n → I k s → ∃ r, sx_it n B s = some r ∧ R r
  | 0, k, s, _, h, _ => absurd h (Nat.not_lt_zero _)
  | n + 1, k, s, hk, h, hI => by
    unfold sx_it
    by_cases e : k = N
    · subst e
      obtain ⟨r, h1, h2⟩ := he s hI
      rw [h1]
      exact ⟨r, rfl, h2⟩
    · rcases hs k s (by omega) hI with ⟨s', h1, h2⟩ | ⟨r, h1, h2⟩
      · rw [h1]
        exact px_inv I N hs he n (k + 1) s' (by omega) (by omega) h2
      · rw [h1]
        exact ⟨r, rfl, h2⟩
theorem px_inv0 {σ ρ : Type} {B : σ → Option (σ ⊕ ρ)} {R : ρ → Prop} (I : Nat → σ → Prop) (N : Nat) {n : Nat} {s0 : σ} (hn : N < n) (h0 : I 0 s0) (hs : ∀ k s, k < N → I k s → ∃ s', B s = some (.inl s') ∧ I (k + 1) s') (he : ∀ s, I N s → ∃ r, B s = some (.inr r) ∧ R r) : ∃ r, sx_it n B s0 = some r ∧ R r := px_inv I N (fun k s hk hI => Or.inl (hs k s hk hI)) he n 0 s0 (Nat.zero_le _) (by omega) h0

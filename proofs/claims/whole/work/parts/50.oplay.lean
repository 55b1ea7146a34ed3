/-- what is laid -/
theorem RDs_new {P : Nat} {cells now rp rs pinned stored guides : Nat → Int32} {Q : Nat → Nat} (hQ : PI cells Q) (hR : PI rp Q) (hZ : PZ P Q) (hs : ∀ t, t < 5 → cells (30 + t) = rs t) (h41 : cells 41 = nI 0) (hn : ∀ k, k < 42 → now k = cells k) : RDs P (pf now (fun p => nI (lk Q p)) 35 6) (pf pinned rp 0 30) (pf stored rs 0 5) (pf guides (fun p => nI (lk Q p)) 0 P) (0 : Int32) (Q, rs, (fun p => nI (lk Q p)), 0) := by
  refine ⟨⟨fun k hk => ?_, fun t ht => ?_, fun p hp => ?_, ?_⟩, ⟨fun k hk => ?_, fun t ht => ?_, fun p hp => ?_, rfl⟩, hZ, by show 0 ≤ 999; omega⟩
  · rw [pf_out (by omega), hn k (by omega)]; exact hQ k hk
  · rw [pf_out (by omega), hn _ (by omega)]; exact hs t ht
  · rw [pf_at hp]
  · rw [pf_out (by omega), hn _ (by omega)]; exact h41
  · rw [pf_low hk]; exact hR k hk
  · rw [pf_low ht]
  · rw [pf_low hp]
theorem op_lay {N Wn : Nat} {kd wv : Nat → Nat} {len size ca cp cw ra rq rv rn on off cnt saidMany pk wt many windMany year uheld unext umany kheld knext kmany : Int32} {letters text nums ckinds cheights cwinds ccells rk rh rp rs rw_ kinds heights winds now kindOf highs mwinds pinned stored guides saidOf saidIs ucells ahead kcells kept : Nat → Int32} {A : AS} (hX : RTx len letters size text) (hR : RRg N kd Wn wv pk wt kinds heights winds many windMany kindOf highs mwinds) (hD : RDs N now pinned stored guides year A) (hU : RUn 8 N ucells uheld unext ahead umany) (hK : RUn 2 N kcells kheld knext kept kmany) (hS : RSd on off cnt saidMany saidOf saidIs) :
  ∃ r on' off' cnt' ca' nums' cp' cw' ckinds' cheights' cwinds' ccells' pk' wt' kinds' heights' winds' now' uheld' kheld' many' windMany' year' saidMany' ra' rq' rv' rn' umany' kmany' kindOf' highs' mwinds' pinned' stored' guides' rk' rh' rp' rs' rw' N' Wn' kd' wv' A',
  fX4_lay on off cnt len ca letters nums cp cw ckinds cheights cwinds ccells pk wt kinds heights winds now uheld kheld = some (r, on', off', cnt', ca', nums', cp', cw', ckinds', cheights', cwinds', ccells', pk', wt', kinds', heights', winds', now', uheld', kheld') ∧
  fX5_lay many windMany year saidMany size ra rq rv rn umany kmany kindOf highs mwinds pinned stored guides text rk rh rp rs rw_ = some (r, many', windMany', year', saidMany', ra', rq', rv', rn', umany', kmany', kindOf', highs', mwinds', pinned', stored', guides', rk', rh', rp', rs', rw') ∧
  RRg N' kd' Wn' wv' pk' wt' kinds' heights' winds' many' windMany' kindOf' highs' mwinds' ∧ RDs N' now' pinned' stored' guides' year' A' ∧ RUn 8 N' ucells uheld' unext ahead umany' ∧ RUn 2 N' kcells kheld' knext kept kmany' ∧ RSd on' off' cnt' saidMany' saidOf saidIs := by
  unfold fX4_lay fX4_layAsTold fX5_lay
  rcases rd_all (ca := ca) (cp := cp) (cw := cw) (ra := ra) (rq := rq) (rv := rv) (rn := rn) (nums := nums) (kinds := ckinds) (heights := cheights) (winds := cwinds) (cells := ccells) (rk := rk) (rh := rh) (rp := rp) (rs := rs) (rw_ := rw_) hX with ⟨P, W, rn', at', at2, nums', kinds', heights', winds', cells', rk', rh', rp', rs', rw', e1, e2, e3⟩ | ⟨b, z, z', e1, e2, e3⟩
  · rw [e2, e3, px_bd, px_bd]
    dsimp only
    rw [if_pos rfl, if_pos rfl]
    have hP := e1.1
    by_cases h0 : P = 0
    · rw [if_neg (show ¬ (1 : Int32) ≤ nI P by rw [n_1, px_le (by omega) (by omega)]; omega), if_pos (show nI P = 0 by rw [h0]; rfl), px_bd]
      dsimp only
      rw [if_pos rfl]
      exact ⟨_, _, _, _, _, _, _, _, _, _, _, _, _, _, _, _, _, _, _, _, _, _, _, _, _, _, _, _, _, _, _, _, _, _, _, _, _, _, _, _, _, N, Wn, kd, wv, A, rfl, rfl, hR, hD, hU, hK, hS⟩
    · obtain ⟨r1, r2, ⟨kd', r3, r4⟩, r5, ⟨wv', r6, r7⟩, ⟨Q, r8, r9, r10⟩, r11, r12⟩ := e1
      obtain ⟨k3, h3, w3, b1, b2, b3, b4⟩ := e_rbecome pk wt kinds heights winds kinds' heights' winds' (nI P) (nI W)
      obtain ⟨now3, n1, n2⟩ := e_become now cells'
      rw [if_pos (show (1 : Int32) ≤ nI P by rw [n_1, px_le (by omega) (by omega)]; omega), if_neg (show ¬ nI P = 0 by rw [n_0, px_eq (by omega) (by omega)]; omega), b1, px_bd]
      dsimp only
      rw [n1, px_bd, e_makeGuides (P := Q) (fun k hk => by rw [n2 k (by omega)]; exact r8 k hk) r10.1, px_bd]
      unfold fX4_forget
      rw [px_bd]
      dsimp only
      rw [px_bd]
      dsimp only
      rw [if_neg i01, e_l37, px_bd]
      dsimp only
      rw [e_l75, px_bd, e_l101, px_bd, e_l126, px_bd, e_setGuides hP (P := Q) (fun k hk => by rw [pf_low hk]; exact r9 k hk) r10.1, px_bd]
      refine ⟨_, _, _, _, _, _, _, _, _, _, _, _, _, _, _, _, _, _, _, _, _, _, _, _, _, _, _, _, _, _, _, _, _, _, _, _, _, _, _, _, _, P, W, kd', wv', _, rfl, rfl, ?_, RDs_new r8 r9 r10 r11 r12 n2, RUn_0 (by omega) hU, RUn_0 (by omega) hK, RSd_0 _ _⟩
      refine ⟨by omega, hP, r2, rfl, rfl, rfl, rfl, fun p hp => ?_, fun p hp => ?_, fun p hp => ?_, fun k hk => ?_, fun k hk => ?_⟩
      · rw [b2 p (by omega)]; exact r3 p hp
      · rw [pf_low (by omega)]; exact r4 p hp
      · rw [b3 p (by omega), pf_low (by omega)]; exact r5 p hp
      · rw [b4 k (by omega)]; exact r6 k hk
      · rw [pf_low (by omega)]; exact r7 k hk
  · have h4 : ¬ nI b = (-4 : Int32) := by
      rw [show (-4 : Int32) = -nI 4 by decide +kernel, px_neg 4 (by omega) (by omega) (by omega)]
      exact id
    obtain ⟨z1, z2, z3, z4, z5, z6, z7, z8⟩ := z
    obtain ⟨y1, y2, y3, y4, y5, y6, y7, y8, y9⟩ := z'
    rw [e2, e3, px_bd, px_bd]
    dsimp only
    rw [if_neg h4, if_neg h4, px_bd]
    dsimp only
    rw [if_pos rfl]
    exact ⟨_, _, _, _, _, _, _, _, _, _, _, _, _, _, _, _, _, _, _, _, _, _, _, _, _, _, _, _, _, _, _, _, _, _, _, _, _, _, _, _, _, N, Wn, kd, wv, A, rfl, rfl, hR, hD, hU, hK, hS⟩

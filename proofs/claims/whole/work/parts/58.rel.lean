/-! both objects, side by side -/
def Rel (on off cnt len : Int32) (letters : Nat → Int32) (pk wt : Int32) (kinds heights winds now : Nat → Int32) (uheld unext : Int32) (ucells : Nat → Int32) (kheld knext : Int32) (kcells : Nat → Int32) (many windMany : Int32) (kindOf highs mwinds : Nat → Int32) (year : Int32) (pinned stored guides : Nat → Int32) (saidMany : Int32) (saidOf saidIs : Nat → Int32) (size : Int32) (text ahead : Nat → Int32) (umany : Int32) (kept : Nat → Int32) (kmany : Int32) : Prop :=
  ∃ (N : Nat) (kd : Nat → Nat) (Wn : Nat) (wv : Nat → Nat) (A : AS), RRg N kd Wn wv pk wt kinds heights winds many windMany kindOf highs mwinds ∧ RDs N now pinned stored guides year A ∧ RUn 8 N ucells uheld unext ahead umany ∧ RUn 2 N kcells kheld knext kept kmany ∧ RSd on off cnt saidMany saidOf saidIs ∧ RTx len letters size text
theorem RUn_00 {m N : Nat} {cells ahead : Nat → Int32} (hm : 0 < m) : RUn m N cells (0 : Int32) (0 : Int32) ahead (0 : Int32) :=
  ⟨0, 0, fun _ => (fun _ => 0, zA, zA, 0), rfl, rfl, rfl, by omega, hm, fun j hj => absurd hj (Nat.not_lt_zero j), fun j hj => absurd hj (Nat.not_lt_zero j), fun j hj => absurd hj (Nat.not_lt_zero j)⟩
theorem RTx_0 {letters text : Nat → Int32} : RTx (0 : Int32) letters (0 : Int32) text := ⟨0, fun _ => 0, by omega, rfl, rfl, fun k hk => absurd hk (Nat.not_lt_zero k)⟩
theorem t_K : ∀ p, p < 5 → tK.getD p 0 ≤ 3 := by decide
theorem t_W : ∀ p, p < 4 → tW.getD p 0 ≤ 20 := by decide
theorem t_P : ∀ p, p < 30 → tP.getD p 0 ≤ 20 ∧ (25 ≤ p → tP.getD p 0 = 0) := by decide
theorem st_both : ∃ r ro1 ro2 ro3 ro4 ro5 ro6 ro7 ro8 ro9 ro10 ro11 ro12 ro13 ro14 ro15 ro16 ro17 ro18 ro19 m1 m2 m3 m4 m5 m6 m7 m8, fX4_layAsTold 0 0 0 (nI 104) 0 tA zA 0 0 zA zA zA zA 0 0 zA zA zA zA 0 0 = some (r, ro1, ro2, ro3, ro4, ro5, ro6, ro7, ro8, ro9, ro10, ro11, ro12, ro13, ro14, ro15, ro16, ro17, ro18, ro19) ∧ fX5_tail 0 0 zA zA zA zA zA zA = some (m1, m2, m3, m4, m5, m6, m7, m8) ∧ Rel ro1 ro2 ro3 0 tA ro12 ro13 ro14 ro15 ro16 ro17 ro18 0 zA ro19 0 zA m1 m2 m3 m4 m5 0 m6 m7 m8 0 zA zA 0 zA zA 0 zA 0 := by
  have h4 := ev4
  have h5 := ev5
  match e4 : fst4, e5 : fst5 with
  | none, _ => rw [e4] at h4; exact absurd h4 (by decide)
  | some _, none => rw [e5] at h5; exact absurd h5 (by decide)
  | some (r, ro1, ro2, ro3, ro4, ro5, ro6, ro7, ro8, ro9, ro10, ro11, ro12, ro13, ro14, ro15, ro16, ro17, ro18, ro19), some (m1, m2, m3, m4, m5, m6, m7, m8) =>
    rw [e4] at h4
    rw [e5] at h5
    simp only [Bool.and_eq_true, beq_iff_eq, List.all_eq_true, List.mem_range] at h4 h5
    obtain ⟨⟨⟨⟨⟨⟨⟨⟨⟨⟨⟨⟨⟨a1, a2⟩, a3⟩, a4⟩, a5⟩, a6⟩, a7⟩, a8⟩, a9⟩, a10⟩, a11⟩, a12⟩, a13⟩, a14⟩ := h4
    obtain ⟨⟨⟨⟨⟨⟨⟨b1, b2⟩, b3⟩, b4⟩, b5⟩, b6⟩, b7⟩, b8⟩ := h5
    subst a1; subst a2; subst a3; subst a4; subst a5; subst a6; subst a7; subst b1; subst b2
    refine ⟨r, _, _, _, ro4, ro5, ro6, ro7, ro8, ro9, ro10, ro11, _, _, ro14, ro15, ro16, ro17, _, _, _, _, m3, m4, m5, m6, m7, m8, e4, e5, 5, fun p => tK.getD p 0, 4, fun p => tW.getD p 0, (fun p => tP.getD p 0, fun p => nI (tS.getD p 0), fun p => nI (tL.getD p 0), 0), ?_, ?_, RUn_00 (by omega), RUn_00 (by omega), RSd_0 _ _, RTx_0⟩
    · exact ⟨by omega, by omega, by omega, by decide +kernel, by decide +kernel, by decide +kernel, by decide +kernel, fun p hp => ⟨a8 p hp, t_K p hp⟩, fun p hp => ⟨b3 p hp, t_K p hp⟩, fun p hp => by rw [a9 p hp, b4 p hp], fun p hp => ⟨a10 p hp, t_W p hp⟩, fun p hp => ⟨b5 p hp, t_W p hp⟩⟩
    · exact ⟨⟨fun k hk => a11 k hk, fun t ht => a12 t ht, fun p hp => a13 p hp, a14⟩, ⟨fun k hk => b6 k hk, fun t ht => b7 t ht, fun p hp => b8 p hp, rfl⟩, ⟨fun k hk => (t_P k hk).1, fun k h1 h2 => (t_P k h2).2 h1⟩, by show 0 ≤ 999; omega⟩

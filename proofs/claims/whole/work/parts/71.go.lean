theorem df_X4 : ∀ j, j < 13 → defaultValue (tyX4 j) = vp_V [.null, .null, .null, .null, .null, .null, .null, .null, .null, .null, .int 0, .int 0, .int 0] j := by
  intro j hj
  match j, hj with
  | 0, _ => rfl
  | 1, _ => rfl
  | 2, _ => rfl
  | 3, _ => rfl
  | 4, _ => rfl
  | 5, _ => rfl
  | 6, _ => rfl
  | 7, _ => rfl
  | 8, _ => rfl
  | 9, _ => rfl
  | 10, _ => rfl
  | 11, _ => rfl
  | 12, _ => rfl
  | j + 13, hj => exact absurd hj (by omega)
theorem df_X5 : ∀ j, j < 30 → defaultValue (tyX5 j) = vp_V [.int 0, .int 0, .null, .null, .null, .int 0, .null, .null, .null, .int 0, .null, .null, .null, .int 0, .int 0, .int 0, .int 0, .null, .null, .null, .null, .null, .int 0, .null, .int 0, .null, .null, .null, .null, .int 0] j := by
  intro j hj
  match j, hj with
  | 0, _ => rfl
  | 1, _ => rfl
  | 2, _ => rfl
  | 3, _ => rfl
  | 4, _ => rfl
  | 5, _ => rfl
  | 6, _ => rfl
  | 7, _ => rfl
  | 8, _ => rfl
  | 9, _ => rfl
  | 10, _ => rfl
  | 11, _ => rfl
  | 12, _ => rfl
  | 13, _ => rfl
  | 14, _ => rfl
  | 15, _ => rfl
  | 16, _ => rfl
  | 17, _ => rfl
  | 18, _ => rfl
  | 19, _ => rfl
  | 20, _ => rfl
  | 21, _ => rfl
  | 22, _ => rfl
  | 23, _ => rfl
  | 24, _ => rfl
  | 25, _ => rfl
  | 26, _ => rfl
  | 27, _ => rfl
  | 28, _ => rfl
  | 29, _ => rfl
  | j + 30, hj => exact absurd hj (by omega)
theorem nw_L_7 : sx_nw RL 7 RX4 TX4 13 4 tyX4 := ⟨sx_mem 119 (by decide +kernel) (by decide +kernel), sx_mem 120 (by decide +kernel) (by decide +kernel), sx_mem 105 (by decide +kernel) (by decide +kernel), rfl, hin_X4, tyX4_ok⟩
theorem nw_L_10 : sx_nw RL 10 RX5 TX5 30 5 tyX5 := ⟨sx_mem 774 (by decide +kernel) (by decide +kernel), sx_mem 775 (by decide +kernel) (by decide +kernel), sx_mem 117 (by decide +kernel) (by decide +kernel), rfl, hin_X5, tyX5_ok⟩
theorem lI_L_9 : sx_lkI RL 9 yX4_init cX4_init 1 0 := ⟨Or.inl (sx_mem 121 (by decide +kernel) (by decide +kernel)), rfl, sx_mem 122 (by decide +kernel) (by decide +kernel), sx_mem 105 (by decide +kernel) (by decide +kernel), sx_mem 123 (by decide +kernel) (by decide +kernel), ⟨by decide +kernel, by decide +kernel⟩, by decide +kernel⟩
theorem lI_L_12 : sx_lkI RL 12 yX5_init cX5_init 2 0 := ⟨Or.inl (sx_mem 776 (by decide +kernel) (by decide +kernel)), rfl, sx_mem 777 (by decide +kernel) (by decide +kernel), sx_mem 117 (by decide +kernel) (by decide +kernel), sx_mem 778 (by decide +kernel) (by decide +kernel), ⟨by decide +kernel, by decide +kernel⟩, by decide +kernel⟩
set_option maxHeartbeats 4000000 in
set_option maxRecDepth 100000 in
theorem lw_go {d : sx_D} {κ : sx_C} (sb sa va : Nat) (fa : Value) (L : Nat) (xs : Nat → Int32) (hL : L ≤ 384) (X : sx_X d κ cL_law 4 RL room_1) (hs : sx_Sc κ sb L xs) (hZ : sx_St κ sa va fa) (hK : sx_Sr κ sa) (hR : ∀ (lv : List (Option Value)) (ws : va_W), sx_G d κ 4 46 1848 945 lv [.int 1] ws) : sx_G d κ 4 0 0 0 [some (.ref sb), none, none, none] [] [] := by
  obtain ⟨r, ro1, ro2, ro3, ro4, ro5, ro6, ro7, ro8, ro9, ro10, ro11, ro12, ro13, ro14, ro15, ro16, ro17, ro18, ro19, m1, m2, m3, m4, m5, m6, m7, m8, hf4, hf5, hRel⟩ := st_both
  refine g_new (pc' := 3) X nw_L_7 df_X4 dL_law_0 rfl ⟨Nat.le_of_ble_eq_true rfl, Nat.le_of_ble_eq_true rfl⟩ (fun q4 => ?_)
  show sx_G d κ 4 1 13 3 [some (.ref sb), none, none, none] [.ref q4] [(q4, .inr (4, [.null, .null, .null, .null, .null, .null, .null, .null, .null, .null, .int 0, .int 0, .int 0]))]
  refine g_dup (pc' := 4) X dL_law_3 rfl rfl ?_
  refine g_callNS (pc' := 7) (As := []) (b := q4) (st := [.ref q4]) (wr := []) X hZ hK lI_L_9 dL_law_4 rfl rfl rfl (Nat.le_of_ble_eq_true rfl) ⟨Nat.le_of_ble_eq_true rfl, Nat.le_of_ble_eq_true rfl, Nat.le_of_ble_eq_true rfl, Nat.le_of_ble_eq_true rfl⟩ [0] [] (by decide) rfl rfl (by decide) (by decide) (fun l => ctX4_init l d q4 sa va fa r ro1 ro2 ro3 ro4 ro5 ro6 ro7 ro8 ro9 ro10 ro11 ro12 ro13 ro14 ro15 ro16 ro17 ro18 ro19 hf4) (fun a ha => ?_)
  subst ha
  show sx_G d κ 4 26 954 7 [some (.ref sb), none, none, none] [.ref (a 0)] [oX4 a ro1 ro2 ro3, oX2 (a 1) (a 2) (a 3) (a 4) (a 8) 0 ro4, ac d (a 2) 200 tA, ai d (a 3) 3 ro5, oX1 (a 4) (a 5) (a 6) (a 7) ro6 ro7, ai d (a 5) 6 ro8, ai d (a 6) 6 ro9, ai d (a 7) 12 ro10, oX3 (a 8) (a 9), ai d (a 9) 42 ro11, oX1 (a 10) (a 11) (a 12) (a 13) ro12 ro13, ai d (a 11) 6 ro14, ai d (a 12) 6 ro15, ai d (a 13) 12 ro16, oX3 (a 14) (a 15), ai d (a 15) 42 ro17, oX3 (a 16) (a 17), ai d (a 17) 42 zA, oX0 (a 18) 8 (a 19) ro18 0, ai d (a 19) 336 zA, oX0 (a 20) 2 (a 21) ro19 0, ai d (a 21) 84 zA, ai d (a 22) 6 zA, ai d (a 23) 2 zA, ai d (a 24) 64 zA, ai d (a 25) 45 zA]
  refine g_astore_n (lv' := [some (.ref sb), some (.ref (a 0)), none, none]) (pc' := 8) X dL_law_7 rfl rfl (by decide) rfl rfl ?_
  refine g_new (pc' := 11) X nw_L_10 df_X5 dL_law_8 rfl ⟨Nat.le_of_ble_eq_true rfl, Nat.le_of_ble_eq_true rfl⟩ (fun q5 => ?_)
  show sx_G d κ 4 27 984 11 [some (.ref sb), some (.ref (a 0)), none, none] [.ref q5] [oX4 a ro1 ro2 ro3, oX2 (a 1) (a 2) (a 3) (a 4) (a 8) 0 ro4, ac d (a 2) 200 tA, ai d (a 3) 3 ro5, oX1 (a 4) (a 5) (a 6) (a 7) ro6 ro7, ai d (a 5) 6 ro8, ai d (a 6) 6 ro9, ai d (a 7) 12 ro10, oX3 (a 8) (a 9), ai d (a 9) 42 ro11, oX1 (a 10) (a 11) (a 12) (a 13) ro12 ro13, ai d (a 11) 6 ro14, ai d (a 12) 6 ro15, ai d (a 13) 12 ro16, oX3 (a 14) (a 15), ai d (a 15) 42 ro17, oX3 (a 16) (a 17), ai d (a 17) 42 zA, oX0 (a 18) 8 (a 19) ro18 0, ai d (a 19) 336 zA, oX0 (a 20) 2 (a 21) ro19 0, ai d (a 21) 84 zA, ai d (a 22) 6 zA, ai d (a 23) 2 zA, ai d (a 24) 64 zA, ai d (a 25) 45 zA, (q5, .inr (5, [.int 0, .int 0, .null, .null, .null, .int 0, .null, .null, .null, .int 0, .null, .null, .null, .int 0, .int 0, .int 0, .int 0, .null, .null, .null, .null, .null, .int 0, .null, .int 0, .null, .null, .null, .null, .int 0]))]
  refine g_dup (pc' := 12) X dL_law_11 rfl rfl ?_
  refine g_callI (pc' := 15) (As := []) (b := q5) (st := [.ref q5]) (wr := [oX4 a ro1 ro2 ro3, oX2 (a 1) (a 2) (a 3) (a 4) (a 8) 0 ro4, ac d (a 2) 200 tA, ai d (a 3) 3 ro5, oX1 (a 4) (a 5) (a 6) (a 7) ro6 ro7, ai d (a 5) 6 ro8, ai d (a 6) 6 ro9, ai d (a 7) 12 ro10, oX3 (a 8) (a 9), ai d (a 9) 42 ro11, oX1 (a 10) (a 11) (a 12) (a 13) ro12 ro13, ai d (a 11) 6 ro14, ai d (a 12) 6 ro15, ai d (a 13) 12 ro16, oX3 (a 14) (a 15), ai d (a 15) 42 ro17, oX3 (a 16) (a 17), ai d (a 17) 42 zA, oX0 (a 18) 8 (a 19) ro18 0, ai d (a 19) 336 zA, oX0 (a 20) 2 (a 21) ro19 0, ai d (a 21) 84 zA, ai d (a 22) 6 zA, ai d (a 23) 2 zA, ai d (a 24) 64 zA, ai d (a 25) 45 zA]) X lI_L_12 dL_law_12 rfl rfl rfl (Nat.le_of_ble_eq_true rfl) ⟨Nat.le_of_ble_eq_true rfl, Nat.le_of_ble_eq_true rfl, Nat.le_of_ble_eq_true rfl, Nat.le_of_ble_eq_true rfl⟩ [26] [0, 1, 2, 3, 4, 5, 6, 7, 8, 9, 10, 11, 12, 13, 14, 15, 16, 17, 18, 19, 20, 21, 22, 23, 24, 25] (by decide) rfl rfl (by decide) (by decide) (fun l => ctX5_init l d q5 m1 m2 m3 m4 m5 m6 m7 m8 hf5) (fun b hb => ?_)
  subst hb
  show sx_G d κ 4 46 1848 15 [some (.ref sb), some (.ref (a 0)), none, none] [.ref (b 0)] (LwW d a b ro1 ro2 ro3 0 ro4 tA ro5 ro6 ro7 ro8 ro9 ro10 ro11 ro12 ro13 ro14 ro15 ro16 ro17 zA ro18 0 zA ro19 0 zA zA zA zA zA m1 m2 0 0 0 0 0 0 0 0 0 m3 m4 m5 m6 m7 m8 zA zA zA zA zA zA zA zA zA zA zA zA zA)
  refine g_astore_n (lv' := [some (.ref sb), some (.ref (a 0)), some (.ref (b 0)), none]) (pc' := 16) X dL_law_15 rfl rfl (by decide) rfl rfl ?_
  refine g_iconst (v := 0) (pc' := 17) X dL_law_16 rfl (by decide) ?_
  refine g_istore_n (lv' := [some (.ref sb), some (.ref (a 0)), some (.ref (b 0)), some (.int 0)]) (pc' := 18) X dL_law_17 rfl rfl (by decide) rfl rfl ?_
  exact lw_loop a b sb L xs hL X hs hR 65 0 (by omega) ro1 ro2 ro3 0 ro4 tA ro5 ro6 ro7 ro8 ro9 ro10 ro11 ro12 ro13 ro14 ro15 ro16 ro17 zA ro18 0 zA ro19 0 zA zA zA zA zA m1 m2 0 0 0 0 0 0 0 0 0 m3 m4 m5 m6 m7 m8 zA zA zA zA zA zA zA zA zA zA zA zA zA hRel

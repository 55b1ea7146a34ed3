theorem ob_X0 : Cond.methodLink RX0 3 objectInit ∈ sx_gw := sx_mem 201 (by decide +kernel) (by decide +kernel)
theorem mx_X0_9 : sx_mx RX0 9 := ⟨sx_mem 202 (by decide +kernel) (by decide +kernel), sx_mem 203 (by decide +kernel) (by decide +kernel), sx_mem 110 (by decide +kernel) (by decide +kernel), sx_mem 204 (by decide +kernel) (by decide +kernel)⟩
theorem ff_X0_15 : sx_ff RX0 15 RX0 TX0 4 0 0 := ⟨rfl, by decide, hin_X0, rfl, sx_mem 205 (by decide +kernel) (by decide +kernel)⟩
theorem fg_X0_15 : sx_fl RX0 RX0 15 RX0 TX0 4 0 0 := ⟨rfl, by decide, hin_X0, rfl, Or.inl (sx_mem 205 (by decide +kernel) (by decide +kernel))⟩
theorem ff_X0_21 : sx_ff RX0 21 RX0 TX0 4 0 1 := ⟨rfl, by decide, hin_X0, rfl, sx_mem 206 (by decide +kernel) (by decide +kernel)⟩
set_option maxRecDepth 100000 in
theorem ctX0_init_8 (l : Launch) (d : sx_D) (q : Nat) : sx_N l d yX0_init cX0_init 2 1 1 336 [.ref q, .int 8] [(q, .inr (0, [.int 0, .null, .int 0, .int 0]))] (fun _ : Nat => True) (fun u => [(q, .inr (0, [.int 8, .ref u, .int 0, .int 0])), ai d u 336 (fun _ => (0 : Int32))]) := by
  refine sx_N.intro (lv0 := [some (.ref q), some (.int 8)]) (by decide +kernel) rfl (Nat.le_of_ble_eq_true rfl) rfl ?_
  intro κ X hI hR
  have X : sx_X d κ cX0_init 2 RX0 (sx_rmN 1 1 336) := X
  refine g_aload_n (pc' := 1) X dX0_init_0 rfl rfl rfl ?_
  refine g_objI (pc' := 4) (a := q) (st := []) X ob_X0 dX0_init_1 rfl (Nat.le_of_ble_eq_true rfl) ⟨Nat.le_of_ble_eq_true rfl, Nat.le_of_ble_eq_true rfl⟩ ?_
  refine g_aload_n (pc' := 5) X dX0_init_4 rfl rfl rfl ?_
  refine g_iconst (v := 1) (pc' := 6) X dX0_init_5 rfl (by decide) ?_
  refine g_iload_n (pc' := 7) X dX0_init_6 rfl rfl rfl ?_
  refine g_max (pc' := 10) X mx_X0_9 dX0_init_7 rfl ⟨Nat.le_of_ble_eq_true rfl, Nat.le_of_ble_eq_true rfl, Nat.le_of_ble_eq_true rfl, Nat.le_of_ble_eq_true rfl⟩ ?_
  rw [show (if (1 : Int32) < 8 then (8 : Int32) else 1) = 8 by decide]
  refine g_putF (pc' := 13) (w2 := [(q, .inr (0, [.int 8, .null, .int 0, .int 0]))]) X hI ff_X0_15 fw_X0 rfl dX0_init_10 rfl 0 rfl rfl rfl (Nat.le_of_ble_eq_true rfl) rfl ?_
  refine g_aload_n (pc' := 14) X dX0_init_13 rfl rfl rfl ?_
  refine g_aload_n (pc' := 15) X dX0_init_14 rfl rfl rfl ?_
  refine g_get (pc' := 18) X fg_X0_15 dX0_init_15 rfl 0 rfl rfl ?_
  refine g_bipush (v := 42) (pc' := 20) X dX0_init_18 rfl (by decide) ?_
  refine g_imul (pc' := 21) X dX0_init_20 rfl ?_
  refine g_newi (pc' := 23) (N := 336) X dX0_init_21 rfl (by decide) (by decide) (Nat.le_of_ble_eq_true rfl) ⟨Nat.le_of_ble_eq_true rfl, Nat.le_of_ble_eq_true rfl⟩ (fun b1 => ?_)
  show sx_G d κ 2 1 336 23 [some (.ref q), some (.int 8)] [.ref b1, .ref q] [(q, .inr (0, [.int 8, .null, .int 0, .int 0])), ai d b1 336 (fun _ => (0 : Int32))]
  refine g_putF (pc' := 26) (w2 := [(q, .inr (0, [.int 8, .ref b1, .int 0, .int 0])), ai d b1 336 (fun _ => (0 : Int32))]) X hI ff_X0_21 fw_X0 rfl dX0_init_23 rfl 0 rfl rfl rfl (Nat.le_of_ble_eq_true rfl) rfl ?_
  exact hR b1 _ _ trivial dX0_init_26
set_option maxRecDepth 100000 in
theorem ctX0_init_2 (l : Launch) (d : sx_D) (q : Nat) : sx_N l d yX0_init cX0_init 2 1 1 84 [.ref q, .int 2] [(q, .inr (0, [.int 0, .null, .int 0, .int 0]))] (fun _ : Nat => True) (fun u => [(q, .inr (0, [.int 2, .ref u, .int 0, .int 0])), ai d u 84 (fun _ => (0 : Int32))]) := by
  refine sx_N.intro (lv0 := [some (.ref q), some (.int 2)]) (by decide +kernel) rfl (Nat.le_of_ble_eq_true rfl) rfl ?_
  intro κ X hI hR
  have X : sx_X d κ cX0_init 2 RX0 (sx_rmN 1 1 84) := X
  refine g_aload_n (pc' := 1) X dX0_init_0 rfl rfl rfl ?_
  refine g_objI (pc' := 4) (a := q) (st := []) X ob_X0 dX0_init_1 rfl (Nat.le_of_ble_eq_true rfl) ⟨Nat.le_of_ble_eq_true rfl, Nat.le_of_ble_eq_true rfl⟩ ?_
  refine g_aload_n (pc' := 5) X dX0_init_4 rfl rfl rfl ?_
  refine g_iconst (v := 1) (pc' := 6) X dX0_init_5 rfl (by decide) ?_
  refine g_iload_n (pc' := 7) X dX0_init_6 rfl rfl rfl ?_
  refine g_max (pc' := 10) X mx_X0_9 dX0_init_7 rfl ⟨Nat.le_of_ble_eq_true rfl, Nat.le_of_ble_eq_true rfl, Nat.le_of_ble_eq_true rfl, Nat.le_of_ble_eq_true rfl⟩ ?_
  rw [show (if (1 : Int32) < 2 then (2 : Int32) else 1) = 2 by decide]
  refine g_putF (pc' := 13) (w2 := [(q, .inr (0, [.int 2, .null, .int 0, .int 0]))]) X hI ff_X0_15 fw_X0 rfl dX0_init_10 rfl 0 rfl rfl rfl (Nat.le_of_ble_eq_true rfl) rfl ?_
  refine g_aload_n (pc' := 14) X dX0_init_13 rfl rfl rfl ?_
  refine g_aload_n (pc' := 15) X dX0_init_14 rfl rfl rfl ?_
  refine g_get (pc' := 18) X fg_X0_15 dX0_init_15 rfl 0 rfl rfl ?_
  refine g_bipush (v := 42) (pc' := 20) X dX0_init_18 rfl (by decide) ?_
  refine g_imul (pc' := 21) X dX0_init_20 rfl ?_
  refine g_newi (pc' := 23) (N := 84) X dX0_init_21 rfl (by decide) (by decide) (Nat.le_of_ble_eq_true rfl) ⟨Nat.le_of_ble_eq_true rfl, Nat.le_of_ble_eq_true rfl⟩ (fun b1 => ?_)
  show sx_G d κ 2 1 84 23 [some (.ref q), some (.int 2)] [.ref b1, .ref q] [(q, .inr (0, [.int 2, .null, .int 0, .int 0])), ai d b1 84 (fun _ => (0 : Int32))]
  refine g_putF (pc' := 26) (w2 := [(q, .inr (0, [.int 2, .ref b1, .int 0, .int 0])), ai d b1 84 (fun _ => (0 : Int32))]) X hI ff_X0_21 fw_X0 rfl dX0_init_23 rfl 0 rfl rfl rfl (Nat.le_of_ble_eq_true rfl) rfl ?_
  exact hR b1 _ _ trivial dX0_init_26
theorem ob_X1 : Cond.methodLink RX1 3 objectInit ∈ sx_gw := sx_mem 138 (by decide +kernel) (by decide +kernel)
theorem ff_X1_9 : sx_ff RX1 9 RX1 TX1 5 1 0 := ⟨rfl, by decide, hin_X1, rfl, sx_mem 139 (by decide +kernel) (by decide +kernel)⟩
theorem ff_X1_15 : sx_ff RX1 15 RX1 TX1 5 1 1 := ⟨rfl, by decide, hin_X1, rfl, sx_mem 140 (by decide +kernel) (by decide +kernel)⟩
theorem ff_X1_18 : sx_ff RX1 18 RX1 TX1 5 1 2 := ⟨rfl, by decide, hin_X1, rfl, sx_mem 141 (by decide +kernel) (by decide +kernel)⟩
set_option maxRecDepth 100000 in
theorem ctX1_init (l : Launch) (d : sx_D) (q : Nat) : sx_N l d yX1_init cX1_init 1 1 3 24 [.ref q] [(q, .inr (1, [.null, .null, .null, .int 0, .int 0]))] (fun _ : Nat × Nat × Nat => True) (fun u => [(q, .inr (1, [.ref u.1, .ref u.2.1, .ref u.2.2, .int 0, .int 0])), ai d u.1 6 (fun _ => (0 : Int32)), ai d u.2.1 6 (fun _ => (0 : Int32)), ai d u.2.2 12 (fun _ => (0 : Int32))]) := by
  refine sx_N.intro (lv0 := [some (.ref q)]) (by decide +kernel) rfl (Nat.le_of_ble_eq_true rfl) rfl ?_
  intro κ X hI hR
  have X : sx_X d κ cX1_init 1 RX1 (sx_rmN 1 3 24) := X
  refine g_aload_n (pc' := 1) X dX1_init_0 rfl rfl rfl ?_
  refine g_objI (pc' := 4) (a := q) (st := []) X ob_X1 dX1_init_1 rfl (Nat.le_of_ble_eq_true rfl) ⟨Nat.le_of_ble_eq_true rfl, Nat.le_of_ble_eq_true rfl⟩ ?_
  refine g_aload_n (pc' := 5) X dX1_init_4 rfl rfl rfl ?_
  refine g_bipush (v := 6) (pc' := 7) X dX1_init_5 rfl (by decide) ?_
  refine g_newi (pc' := 9) (N := 6) X dX1_init_7 rfl (by decide) (by decide) (Nat.le_of_ble_eq_true rfl) ⟨Nat.le_of_ble_eq_true rfl, Nat.le_of_ble_eq_true rfl⟩ (fun b1 => ?_)
  show sx_G d κ 1 1 6 9 [some (.ref q)] [.ref b1, .ref q] [(q, .inr (1, [.null, .null, .null, .int 0, .int 0])), ai d b1 6 (fun _ => (0 : Int32))]
  refine g_putF (pc' := 12) (w2 := [(q, .inr (1, [.ref b1, .null, .null, .int 0, .int 0])), ai d b1 6 (fun _ => (0 : Int32))]) X hI ff_X1_9 fw_X1 rfl dX1_init_9 rfl 0 rfl rfl rfl (Nat.le_of_ble_eq_true rfl) rfl ?_
  refine g_aload_n (pc' := 13) X dX1_init_12 rfl rfl rfl ?_
  refine g_bipush (v := 6) (pc' := 15) X dX1_init_13 rfl (by decide) ?_
  refine g_newi (pc' := 17) (N := 6) X dX1_init_15 rfl (by decide) (by decide) (Nat.le_of_ble_eq_true rfl) ⟨Nat.le_of_ble_eq_true rfl, Nat.le_of_ble_eq_true rfl⟩ (fun b2 => ?_)
  show sx_G d κ 1 2 12 17 [some (.ref q)] [.ref b2, .ref q] [(q, .inr (1, [.ref b1, .null, .null, .int 0, .int 0])), ai d b1 6 (fun _ => (0 : Int32)), ai d b2 6 (fun _ => (0 : Int32))]
  refine g_putF (pc' := 20) (w2 := [(q, .inr (1, [.ref b1, .ref b2, .null, .int 0, .int 0])), ai d b1 6 (fun _ => (0 : Int32)), ai d b2 6 (fun _ => (0 : Int32))]) X hI ff_X1_15 fw_X1 rfl dX1_init_17 rfl 0 rfl rfl rfl (Nat.le_of_ble_eq_true rfl) rfl ?_
  refine g_aload_n (pc' := 21) X dX1_init_20 rfl rfl rfl ?_
  refine g_bipush (v := 12) (pc' := 23) X dX1_init_21 rfl (by decide) ?_
  refine g_newi (pc' := 25) (N := 12) X dX1_init_23 rfl (by decide) (by decide) (Nat.le_of_ble_eq_true rfl) ⟨Nat.le_of_ble_eq_true rfl, Nat.le_of_ble_eq_true rfl⟩ (fun b3 => ?_)
  show sx_G d κ 1 3 24 25 [some (.ref q)] [.ref b3, .ref q] [(q, .inr (1, [.ref b1, .ref b2, .null, .int 0, .int 0])), ai d b1 6 (fun _ => (0 : Int32)), ai d b2 6 (fun _ => (0 : Int32)), ai d b3 12 (fun _ => (0 : Int32))]
  refine g_putF (pc' := 28) (w2 := [(q, .inr (1, [.ref b1, .ref b2, .ref b3, .int 0, .int 0])), ai d b1 6 (fun _ => (0 : Int32)), ai d b2 6 (fun _ => (0 : Int32)), ai d b3 12 (fun _ => (0 : Int32))]) X hI ff_X1_18 fw_X1 rfl dX1_init_25 rfl 0 rfl rfl rfl (Nat.le_of_ble_eq_true rfl) rfl ?_
  exact hR (b1, b2, b3) _ _ trivial dX1_init_28
theorem ob_X3 : Cond.methodLink RX3 3 objectInit ∈ sx_gw := sx_mem 164 (by decide +kernel) (by decide +kernel)
theorem ff_X3_9 : sx_ff RX3 9 RX3 TX3 1 3 0 := ⟨rfl, by decide, hin_X3, rfl, sx_mem 165 (by decide +kernel) (by decide +kernel)⟩
set_option maxRecDepth 100000 in
theorem ctX3_init (l : Launch) (d : sx_D) (q : Nat) : sx_N l d yX3_init cX3_init 1 1 1 42 [.ref q] [(q, .inr (3, [.null]))] (fun _ : Nat => True) (fun u => [(q, .inr (3, [.ref u])), ai d u 42 (fun _ => (0 : Int32))]) := by
  refine sx_N.intro (lv0 := [some (.ref q)]) (by decide +kernel) rfl (Nat.le_of_ble_eq_true rfl) rfl ?_
  intro κ X hI hR
  have X : sx_X d κ cX3_init 1 RX3 (sx_rmN 1 1 42) := X
  refine g_aload_n (pc' := 1) X dX3_init_0 rfl rfl rfl ?_
  refine g_objI (pc' := 4) (a := q) (st := []) X ob_X3 dX3_init_1 rfl (Nat.le_of_ble_eq_true rfl) ⟨Nat.le_of_ble_eq_true rfl, Nat.le_of_ble_eq_true rfl⟩ ?_
  refine g_aload_n (pc' := 5) X dX3_init_4 rfl rfl rfl ?_
  refine g_bipush (v := 42) (pc' := 7) X dX3_init_5 rfl (by decide) ?_
  refine g_newi (pc' := 9) (N := 42) X dX3_init_7 rfl (by decide) (by decide) (Nat.le_of_ble_eq_true rfl) ⟨Nat.le_of_ble_eq_true rfl, Nat.le_of_ble_eq_true rfl⟩ (fun b1 => ?_)
  show sx_G d κ 1 1 42 9 [some (.ref q)] [.ref b1, .ref q] [(q, .inr (3, [.null])), ai d b1 42 (fun _ => (0 : Int32))]
  refine g_putF (pc' := 12) (w2 := [(q, .inr (3, [.ref b1])), ai d b1 42 (fun _ => (0 : Int32))]) X hI ff_X3_9 fw_X3 rfl dX3_init_9 rfl 0 rfl rfl rfl (Nat.le_of_ble_eq_true rfl) rfl ?_
  exact hR b1 _ _ trivial dX3_init_12
theorem ob_X2 : Cond.methodLink RX2 3 objectInit ∈ sx_gw := sx_mem 132 (by decide +kernel) (by decide +kernel)
theorem ff_X2_9 : sx_ff RX2 9 RX2 TX2 6 2 0 := ⟨rfl, by decide, hin_X2, rfl, sx_mem 170 (by decide +kernel) (by decide +kernel)⟩
theorem ff_X2_15 : sx_ff RX2 15 RX2 TX2 6 2 1 := ⟨rfl, by decide, hin_X2, rfl, sx_mem 171 (by decide +kernel) (by decide +kernel)⟩
theorem nw_X2_19 : sx_nw RX2 19 RX1 TX1 5 1 tyX1 := ⟨sx_mem 133 (by decide +kernel) (by decide +kernel), sx_mem 134 (by decide +kernel) (by decide +kernel), sx_mem 107 (by decide +kernel) (by decide +kernel), rfl, hin_X1, tyX1_ok⟩
theorem df_X1 : ∀ j, j < 5 → defaultValue (tyX1 j) = vp_V [.null, .null, .null, .int 0, .int 0] j := by
  intro j hj
  match j, hj with
  | 0, _ => rfl
  | 1, _ => rfl
  | 2, _ => rfl
  | 3, _ => rfl
  | 4, _ => rfl
  | j + 5, hj => exact absurd hj (by omega)
theorem lI_X2_21 : sx_lkI RX2 21 yX1_init cX1_init 1 0 := ⟨Or.inr ⟨"TrimmedPeaks", List.mem_of_getElem? (i := 135) (by decide +kernel)⟩, rfl, sx_mem 136 (by decide +kernel) (by decide +kernel), sx_mem 107 (by decide +kernel) (by decide +kernel), sx_mem 137 (by decide +kernel) (by decide +kernel), ⟨by decide +kernel, by decide +kernel⟩, by decide +kernel⟩
theorem ff_X2_22 : sx_ff RX2 22 RX2 TX2 6 2 2 := ⟨rfl, by decide, hin_X2, rfl, sx_mem 172 (by decide +kernel) (by decide +kernel)⟩
theorem nw_X2_26 : sx_nw RX2 26 RX3 TX3 1 3 tyX3 := ⟨sx_mem 159 (by decide +kernel) (by decide +kernel), sx_mem 160 (by decide +kernel) (by decide +kernel), sx_mem 108 (by decide +kernel) (by decide +kernel), rfl, hin_X3, tyX3_ok⟩
theorem df_X3 : ∀ j, j < 1 → defaultValue (tyX3 j) = vp_V [.null] j := by
  intro j hj
  match j, hj with
  | 0, _ => rfl
  | j + 1, hj => exact absurd hj (by omega)
theorem lI_X2_28 : sx_lkI RX2 28 yX3_init cX3_init 1 0 := ⟨Or.inr ⟨"TrimmedPeaks", List.mem_of_getElem? (i := 161) (by decide +kernel)⟩, rfl, sx_mem 162 (by decide +kernel) (by decide +kernel), sx_mem 108 (by decide +kernel) (by decide +kernel), sx_mem 163 (by decide +kernel) (by decide +kernel), ⟨by decide +kernel, by decide +kernel⟩, by decide +kernel⟩
theorem ff_X2_29 : sx_ff RX2 29 RX2 TX2 6 2 3 := ⟨rfl, by decide, hin_X2, rfl, sx_mem 174 (by decide +kernel) (by decide +kernel)⟩
set_option maxRecDepth 100000 in
theorem ctX2_init (l : Launch) (d : sx_D) (q : Nat) : sx_N l d yX2_init cX2_init 1 2 8 275 [.ref q] [(q, .inr (2, [.null, .null, .null, .null, .int 0, .int 0]))] (fun _ : Nat × Nat × Nat × Nat × Nat × Nat × Nat × Nat => True) (fun u => [(q, .inr (2, [.ref u.1, .ref u.2.1, .ref u.2.2.1, .ref u.2.2.2.2.2.2.1, .int 0, .int 0])), ac d u.1 200 (fun _ => (0 : Int32)), ai d u.2.1 3 (fun _ => (0 : Int32)), (u.2.2.1, .inr (1, [.ref u.2.2.2.1, .ref u.2.2.2.2.1, .ref u.2.2.2.2.2.1, .int 0, .int 0])), ai d u.2.2.2.1 6 (fun _ => (0 : Int32)), ai d u.2.2.2.2.1 6 (fun _ => (0 : Int32)), ai d u.2.2.2.2.2.1 12 (fun _ => (0 : Int32)), (u.2.2.2.2.2.2.1, .inr (3, [.ref u.2.2.2.2.2.2.2])), ai d u.2.2.2.2.2.2.2 42 (fun _ => (0 : Int32))]) := by
  refine sx_N.intro (lv0 := [some (.ref q)]) (by decide +kernel) rfl (Nat.le_of_ble_eq_true rfl) rfl ?_
  intro κ X hI hR
  have X : sx_X d κ cX2_init 1 RX2 (sx_rmN 2 8 275) := X
  refine g_aload_n (pc' := 1) X dX2_init_0 rfl rfl rfl ?_
  refine g_objI (pc' := 4) (a := q) (st := []) X ob_X2 dX2_init_1 rfl (Nat.le_of_ble_eq_true rfl) ⟨Nat.le_of_ble_eq_true rfl, Nat.le_of_ble_eq_true rfl⟩ ?_
  refine g_aload_n (pc' := 5) X dX2_init_4 rfl rfl rfl ?_
  refine g_sipush (v := 200) (pc' := 8) X dX2_init_5 rfl (by decide) ?_
  refine g_newc (pc' := 10) (N := 200) X dX2_init_8 rfl (by decide) (by decide) (Nat.le_of_ble_eq_true rfl) ⟨Nat.le_of_ble_eq_true rfl, Nat.le_of_ble_eq_true rfl⟩ (fun b1 => ?_)
  show sx_G d κ 1 1 200 10 [some (.ref q)] [.ref b1, .ref q] [(q, .inr (2, [.null, .null, .null, .null, .int 0, .int 0])), ac d b1 200 (fun _ => (0 : Int32))]
  refine g_putF (pc' := 13) (w2 := [(q, .inr (2, [.ref b1, .null, .null, .null, .int 0, .int 0])), ac d b1 200 (fun _ => (0 : Int32))]) X hI ff_X2_9 fw_X2 rfl dX2_init_10 rfl 0 rfl rfl rfl (Nat.le_of_ble_eq_true rfl) rfl ?_
  refine g_aload_n (pc' := 14) X dX2_init_13 rfl rfl rfl ?_
  refine g_iconst (v := 3) (pc' := 15) X dX2_init_14 rfl (by decide) ?_
  refine g_newi (pc' := 17) (N := 3) X dX2_init_15 rfl (by decide) (by decide) (Nat.le_of_ble_eq_true rfl) ⟨Nat.le_of_ble_eq_true rfl, Nat.le_of_ble_eq_true rfl⟩ (fun b2 => ?_)
  show sx_G d κ 1 2 203 17 [some (.ref q)] [.ref b2, .ref q] [(q, .inr (2, [.ref b1, .null, .null, .null, .int 0, .int 0])), ac d b1 200 (fun _ => (0 : Int32)), ai d b2 3 (fun _ => (0 : Int32))]
  refine g_putF (pc' := 20) (w2 := [(q, .inr (2, [.ref b1, .ref b2, .null, .null, .int 0, .int 0])), ac d b1 200 (fun _ => (0 : Int32)), ai d b2 3 (fun _ => (0 : Int32))]) X hI ff_X2_15 fw_X2 rfl dX2_init_17 rfl 0 rfl rfl rfl (Nat.le_of_ble_eq_true rfl) rfl ?_
  refine g_aload_n (pc' := 21) X dX2_init_20 rfl rfl rfl ?_
  refine g_new (pc' := 24) X nw_X2_19 df_X1 dX2_init_21 rfl ⟨Nat.le_of_ble_eq_true rfl, Nat.le_of_ble_eq_true rfl⟩ (fun b3 => ?_)
  show sx_G d κ 1 3 208 24 [some (.ref q)] [.ref b3, .ref q] [(q, .inr (2, [.ref b1, .ref b2, .null, .null, .int 0, .int 0])), ac d b1 200 (fun _ => (0 : Int32)), ai d b2 3 (fun _ => (0 : Int32)), (b3, .inr (1, [.null, .null, .null, .int 0, .int 0]))]
  refine g_dup (pc' := 25) X dX2_init_24 rfl rfl ?_
  refine g_callI (pc' := 28) (As := []) (b := b3) (st := [.ref b3, .ref q]) (wr := [(q, .inr (2, [.ref b1, .ref b2, .null, .null, .int 0, .int 0])), ac d b1 200 (fun _ => (0 : Int32)), ai d b2 3 (fun _ => (0 : Int32))]) X lI_X2_21 dX2_init_25 rfl rfl rfl (Nat.le_of_ble_eq_true rfl) ⟨Nat.le_of_ble_eq_true rfl, Nat.le_of_ble_eq_true rfl, Nat.le_of_ble_eq_true rfl, Nat.le_of_ble_eq_true rfl⟩ [3] [0, 1, 2] (by decide) rfl rfl (by decide) (by decide) (fun l => ctX1_init l d b3) (fun u hu => ?_)
  obtain ⟨b4, b5, b6⟩ := u
  show sx_G d κ 1 6 232 28 [some (.ref q)] [.ref b3, .ref q] [(q, .inr (2, [.ref b1, .ref b2, .null, .null, .int 0, .int 0])), ac d b1 200 (fun _ => (0 : Int32)), ai d b2 3 (fun _ => (0 : Int32)), (b3, .inr (1, [.ref b4, .ref b5, .ref b6, .int 0, .int 0])), ai d b4 6 (fun _ => (0 : Int32)), ai d b5 6 (fun _ => (0 : Int32)), ai d b6 12 (fun _ => (0 : Int32))]
  refine g_putF (pc' := 31) (w2 := [(q, .inr (2, [.ref b1, .ref b2, .ref b3, .null, .int 0, .int 0])), ac d b1 200 (fun _ => (0 : Int32)), ai d b2 3 (fun _ => (0 : Int32)), (b3, .inr (1, [.ref b4, .ref b5, .ref b6, .int 0, .int 0])), ai d b4 6 (fun _ => (0 : Int32)), ai d b5 6 (fun _ => (0 : Int32)), ai d b6 12 (fun _ => (0 : Int32))]) X hI ff_X2_22 fw_X2 rfl dX2_init_28 rfl 0 rfl rfl rfl (Nat.le_of_ble_eq_true rfl) rfl ?_
  refine g_aload_n (pc' := 32) X dX2_init_31 rfl rfl rfl ?_
  refine g_new (pc' := 35) X nw_X2_26 df_X3 dX2_init_32 rfl ⟨Nat.le_of_ble_eq_true rfl, Nat.le_of_ble_eq_true rfl⟩ (fun b7 => ?_)
  show sx_G d κ 1 7 233 35 [some (.ref q)] [.ref b7, .ref q] [(q, .inr (2, [.ref b1, .ref b2, .ref b3, .null, .int 0, .int 0])), ac d b1 200 (fun _ => (0 : Int32)), ai d b2 3 (fun _ => (0 : Int32)), (b3, .inr (1, [.ref b4, .ref b5, .ref b6, .int 0, .int 0])), ai d b4 6 (fun _ => (0 : Int32)), ai d b5 6 (fun _ => (0 : Int32)), ai d b6 12 (fun _ => (0 : Int32)), (b7, .inr (3, [.null]))]
  refine g_dup (pc' := 36) X dX2_init_35 rfl rfl ?_
  refine g_callI (pc' := 39) (As := []) (b := b7) (st := [.ref b7, .ref q]) (wr := [(q, .inr (2, [.ref b1, .ref b2, .ref b3, .null, .int 0, .int 0])), ac d b1 200 (fun _ => (0 : Int32)), ai d b2 3 (fun _ => (0 : Int32)), (b3, .inr (1, [.ref b4, .ref b5, .ref b6, .int 0, .int 0])), ai d b4 6 (fun _ => (0 : Int32)), ai d b5 6 (fun _ => (0 : Int32)), ai d b6 12 (fun _ => (0 : Int32))]) X lI_X2_28 dX2_init_36 rfl rfl rfl (Nat.le_of_ble_eq_true rfl) ⟨Nat.le_of_ble_eq_true rfl, Nat.le_of_ble_eq_true rfl, Nat.le_of_ble_eq_true rfl, Nat.le_of_ble_eq_true rfl⟩ [7] [0, 1, 2, 3, 4, 5, 6] (by decide) rfl rfl (by decide) (by decide) (fun l => ctX3_init l d b7) (fun u hu => ?_)
  obtain ⟨b8, rfl⟩ : ∃ z, z = u := ⟨_, rfl⟩
  show sx_G d κ 1 8 275 39 [some (.ref q)] [.ref b7, .ref q] [(q, .inr (2, [.ref b1, .ref b2, .ref b3, .null, .int 0, .int 0])), ac d b1 200 (fun _ => (0 : Int32)), ai d b2 3 (fun _ => (0 : Int32)), (b3, .inr (1, [.ref b4, .ref b5, .ref b6, .int 0, .int 0])), ai d b4 6 (fun _ => (0 : Int32)), ai d b5 6 (fun _ => (0 : Int32)), ai d b6 12 (fun _ => (0 : Int32)), (b7, .inr (3, [.ref b8])), ai d b8 42 (fun _ => (0 : Int32))]
  refine g_putF (pc' := 42) (w2 := [(q, .inr (2, [.ref b1, .ref b2, .ref b3, .ref b7, .int 0, .int 0])), ac d b1 200 (fun _ => (0 : Int32)), ai d b2 3 (fun _ => (0 : Int32)), (b3, .inr (1, [.ref b4, .ref b5, .ref b6, .int 0, .int 0])), ai d b4 6 (fun _ => (0 : Int32)), ai d b5 6 (fun _ => (0 : Int32)), ai d b6 12 (fun _ => (0 : Int32)), (b7, .inr (3, [.ref b8])), ai d b8 42 (fun _ => (0 : Int32))]) X hI ff_X2_29 fw_X2 rfl dX2_init_39 rfl 0 rfl rfl rfl (Nat.le_of_ble_eq_true rfl) rfl ?_
  exact hR (b1, b2, b3, b4, b5, b6, b7, b8) _ _ trivial dX2_init_42

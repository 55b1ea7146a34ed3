-- X0_layBy
def jX0_layBy_45 (s_most : Int32) (s_held : Int32) (s_cells : Nat → Int32) (t1 : Int32) : Option (Int32 × Int32 × (Nat → Int32)) :=
  sx_lt (if s_most < (s_held + (1 : Int32)) then s_most else (s_held + (1 : Int32))) fun x2 =>
  some (x2, t1, s_cells)
def fX0_layBy (s_cells_n : Nat) (s_most : Int32) (s_held : Int32) (s_next : Int32) (s_cells : Nat → Int32) (s_p1_cells : Nat → Int32) : Option (Int32 × Int32 × (Nat → Int32)) :=
  sx_cp s_p1_cells s_cells 42 s_cells_n (0 : Int32) (s_next * (42 : Int32)) (42 : Int32) fun g1 =>
  if s_most ≤ (s_next + (1 : Int32)) then
    jX0_layBy_45 s_most s_held g1 (0 : Int32)
  else
    jX0_layBy_45 s_most s_held g1 (s_next + (1 : Int32))
set_option maxHeartbeats 4000000 in
set_option maxRecDepth 100000 in
theorem ctX0_layBy (l : Launch) (d : sx_D) (q : Nat) (q_cells : Nat) (q1 : Nat) (q1_cells : Nat) (s_cells_n : Nat) (s_most : Int32) (s_held : Int32) (s_next : Int32) (s_cells : Nat → Int32) (s_p1_cells : Nat → Int32) (ro1 : Int32) (ro2 : Int32) (ro3 : Nat → Int32) (hf : fX0_layBy s_cells_n s_most s_held s_next s_cells s_p1_cells = some (ro1, ro2, ro3)) : sx_V l d yX0_layBy cX0_layBy 2 1 [.ref q, .ref q1] [oX0 q s_most q_cells s_held s_next, ai d q_cells s_cells_n s_cells, oX3 q1 q1_cells, ai d q1_cells 42 s_p1_cells] [oX0 q s_most q_cells ro1 ro2, ai d q_cells s_cells_n ro3, oX3 q1 q1_cells, ai d q1_cells 42 s_p1_cells] := by
  refine sx_V.intro (lv0 := [some (.ref q), some (.ref q1)]) (by decide +kernel) (Nat.le_of_ble_eq_true rfl) rfl ?_
  intro κ X hR
  have X : sx_X d κ cX0_layBy 2 RX0 (sx_rm 1) := X
  unfold fX0_layBy at hf
  refine g_aload_n (pc' := 1) X dX0_layBy_0 rfl rfl rfl ?_
  refine g_get (pc' := 4) X fl_X0_25 dX0_layBy_1 rfl 2 rfl rfl ?_
  refine g_iconst (v := 0) (pc' := 5) X dX0_layBy_4 rfl (by decide) ?_
  refine g_aload_n (pc' := 6) X dX0_layBy_5 rfl rfl rfl ?_
  refine g_get (pc' := 9) X fl_X0_21 dX0_layBy_6 rfl 0 rfl rfl ?_
  refine g_aload_n (pc' := 10) X dX0_layBy_9 rfl rfl rfl ?_
  refine g_get (pc' := 13) X fl_X0_28 dX0_layBy_10 rfl 0 rfl rfl ?_
  refine g_bipush (v := 42) (pc' := 15) X dX0_layBy_13 rfl (by decide) ?_
  refine g_imul (pc' := 16) X dX0_layBy_15 rfl ?_
  refine g_bipush (v := 42) (pc' := 18) X dX0_layBy_16 rfl (by decide) ?_
  refine g_copy (pc' := 21) (w2 := fun g1 => [oX0 q s_most q_cells s_held s_next, ai d q_cells s_cells_n g1, oX3 q1 q1_cells, ai d q1_cells 42 s_p1_cells]) X nv_X0_31 dX0_layBy_18 rfl 3 1 rfl rfl ⟨Nat.le_of_ble_eq_true rfl, Nat.le_of_ble_eq_true rfl⟩ hf (fun _ => rfl) (fun g1 hf => ?_)
  refine g_aload_n (pc' := 22) X dX0_layBy_21 rfl rfl rfl ?_
  refine g_aload_n (pc' := 23) X dX0_layBy_22 rfl rfl rfl ?_
  refine g_get (pc' := 26) X fl_X0_28 dX0_layBy_23 rfl 0 rfl rfl ?_
  refine g_iconst (v := 1) (pc' := 27) X dX0_layBy_26 rfl (by decide) ?_
  refine g_iadd (pc' := 28) X dX0_layBy_27 rfl ?_
  refine g_aload_n (pc' := 29) X dX0_layBy_28 rfl rfl rfl ?_
  refine g_get (pc' := 32) X fl_X0_15 dX0_layBy_29 rfl 0 rfl rfl ?_
  have hjX0_layBy_45 : ∀ (t1 : Int32) (s_held : Int32) (s_next : Int32) (s_cells : Nat → Int32), jX0_layBy_45 s_most s_held s_cells t1 = some (ro1, ro2, ro3) → sx_G d κ 2 0 0 45 [some (.ref q), none] [.int t1, .ref q] [oX0 q s_most q_cells s_held s_next, ai d q_cells s_cells_n s_cells, oX3 q1 q1_cells, ai d q1_cells 42 s_p1_cells] := by
    intro t1 s_held s_next s_cells hf
    unfold jX0_layBy_45 at hf
    refine g_put (pc' := 48) (w2 := [oX0 q s_most q_cells s_held t1, ai d q_cells s_cells_n s_cells, oX3 q1 q1_cells, ai d q1_cells 42 s_p1_cells]) X fl_X0_28 fw_X0 rfl dX0_layBy_45 rfl 0 rfl rfl rfl (Nat.le_of_ble_eq_true rfl) rfl ?_
    refine g_aload_n (pc' := 49) X dX0_layBy_48 rfl rfl rfl ?_
    refine g_aload_n (pc' := 50) X dX0_layBy_49 rfl rfl rfl ?_
    refine g_get (pc' := 53) X fl_X0_37 dX0_layBy_50 rfl 0 rfl rfl ?_
    refine g_iconst (v := 1) (pc' := 54) X dX0_layBy_53 rfl (by decide) ?_
    refine g_iadd (pc' := 55) X dX0_layBy_54 rfl ?_
    refine g_aload_n (pc' := 56) X dX0_layBy_55 rfl rfl rfl ?_
    refine g_get (pc' := 59) X fl_X0_15 dX0_layBy_56 rfl 0 rfl rfl ?_
    refine g_min (pc' := 62) X mn_X0_40 dX0_layBy_59 rfl ⟨Nat.le_of_ble_eq_true rfl, Nat.le_of_ble_eq_true rfl, Nat.le_of_ble_eq_true rfl, Nat.le_of_ble_eq_true rfl⟩ ?_
    refine g_putN (pc' := 65) (w2 := fun x2 => [oX0 q s_most q_cells x2 t1, ai d q_cells s_cells_n s_cells, oX3 q1 q1_cells, ai d q1_cells 42 s_p1_cells]) X fl_X0_37 fw_X0 rfl dX0_layBy_62 rfl 0 rfl (fun _ => rfl) (fun _ => rfl) (Nat.le_of_ble_eq_true rfl) (fun _ => rfl) hf (fun x2 hf => ?_)
    cases hf
    exact hR _ _ dX0_layBy_65
  refine g_icmp_ge (tgt := 44) (pc' := 35) X dX0_layBy_32 (by decide) rfl hf (fun hf => ?_) (fun hf => ?_)
  · refine g_iconst (v := 0) (pc' := 45) X dX0_layBy_44 rfl (by decide) ?_
    exact sx_weak [true, false] rfl (hjX0_layBy_45 (0 : Int32) s_held s_next g1 hf)
  · refine g_aload_n (pc' := 36) X dX0_layBy_35 rfl rfl rfl ?_
    refine g_get (pc' := 39) X fl_X0_28 dX0_layBy_36 rfl 0 rfl rfl ?_
    refine g_iconst (v := 1) (pc' := 40) X dX0_layBy_39 rfl (by decide) ?_
    refine g_iadd (pc' := 41) X dX0_layBy_40 rfl ?_
    refine g_goto (tgt := 45) X dX0_layBy_41 (by decide) ?_
    exact sx_weak [true, false] rfl (hjX0_layBy_45 (s_next + (1 : Int32)) s_held s_next g1 hf)
-- X0_fetch
def jX0_fetch_33 (s_cells_n : Nat) (s_held : Int32) (s_cells : Nat → Int32) (s_p1_cells : Nat → Int32) (t1 : Int32) : Option (Int32 × Int32 × Int32 × (Nat → Int32)) :=
  sx_lt (s_held - (1 : Int32)) fun x1 =>
  sx_cp s_cells s_p1_cells s_cells_n 42 (t1 * (42 : Int32)) (0 : Int32) (42 : Int32) fun g2 =>
  some ((1 : Int32), x1, t1, g2)
def fX0_fetch (s_cells_n : Nat) (s_most : Int32) (s_held : Int32) (s_next : Int32) (s_cells : Nat → Int32) (s_p1_cells : Nat → Int32) : Option (Int32 × Int32 × Int32 × (Nat → Int32)) :=
  if (1 : Int32) ≤ s_held then
    if s_next ≤ 0 then
      jX0_fetch_33 s_cells_n s_held s_cells s_p1_cells (s_most - (1 : Int32))
    else
      jX0_fetch_33 s_cells_n s_held s_cells s_p1_cells (s_next - (1 : Int32))
  else
    some ((0 : Int32), s_held, s_next, s_p1_cells)
set_option maxHeartbeats 4000000 in
set_option maxRecDepth 100000 in
theorem ctX0_fetch (l : Launch) (d : sx_D) (q : Nat) (q_cells : Nat) (q1 : Nat) (q1_cells : Nat) (s_cells_n : Nat) (s_most : Int32) (s_held : Int32) (s_next : Int32) (s_cells : Nat → Int32) (s_p1_cells : Nat → Int32) (r : Int32) (ro1 : Int32) (ro2 : Int32) (ro3 : Nat → Int32) (hf : fX0_fetch s_cells_n s_most s_held s_next s_cells s_p1_cells = some (r, ro1, ro2, ro3)) : sx_I l d yX0_fetch cX0_fetch 2 .boolean 1 [.ref q, .ref q1] [oX0 q s_most q_cells s_held s_next, ai d q_cells s_cells_n s_cells, oX3 q1 q1_cells, ai d q1_cells 42 s_p1_cells] [oX0 q s_most q_cells ro1 ro2, ai d q_cells s_cells_n s_cells, oX3 q1 q1_cells, ai d q1_cells 42 ro3] r := by
  refine sx_I.intro (lv0 := [some (.ref q), some (.ref q1)]) (by decide +kernel) (Nat.le_of_ble_eq_true rfl) rfl ?_
  intro κ X hR
  have X : sx_X d κ cX0_fetch 2 RX0 (sx_rm 1) := X
  unfold fX0_fetch at hf
  refine g_aload_n (pc' := 1) X dX0_fetch_0 rfl rfl rfl ?_
  refine g_get (pc' := 4) X fl_X0_37 dX0_fetch_1 rfl 0 rfl rfl ?_
  refine g_iconst (v := 1) (pc' := 5) X dX0_fetch_4 rfl (by decide) ?_
  refine g_icmp_ge (tgt := 10) (pc' := 8) X dX0_fetch_5 (by decide) rfl hf (fun hf => ?_) (fun hf => ?_)
  · refine g_aload_n (pc' := 11) X dX0_fetch_10 rfl rfl rfl ?_
    refine g_aload_n (pc' := 12) X dX0_fetch_11 rfl rfl rfl ?_
    refine g_get (pc' := 15) X fl_X0_28 dX0_fetch_12 rfl 0 rfl rfl ?_
    have hjX0_fetch_33 : ∀ (t1 : Int32) (s_held : Int32) (s_next : Int32) (s_p1_cells : Nat → Int32), jX0_fetch_33 s_cells_n s_held s_cells s_p1_cells t1 = some (r, ro1, ro2, ro3) → sx_G d κ 2 0 0 33 [some (.ref q), some (.ref q1)] [.int t1, .ref q] [oX0 q s_most q_cells s_held s_next, ai d q_cells s_cells_n s_cells, oX3 q1 q1_cells, ai d q1_cells 42 s_p1_cells] := by
      intro t1 s_held s_next s_p1_cells hf
      unfold jX0_fetch_33 at hf
      refine g_put (pc' := 36) (w2 := [oX0 q s_most q_cells s_held t1, ai d q_cells s_cells_n s_cells, oX3 q1 q1_cells, ai d q1_cells 42 s_p1_cells]) X fl_X0_28 fw_X0 rfl dX0_fetch_33 rfl 0 rfl rfl rfl (Nat.le_of_ble_eq_true rfl) rfl ?_
      refine g_aload_n (pc' := 37) X dX0_fetch_36 rfl rfl rfl ?_
      refine g_dup (pc' := 38) X dX0_fetch_37 rfl rfl ?_
      refine g_get (pc' := 41) X fl_X0_37 dX0_fetch_38 rfl 0 rfl rfl ?_
      refine g_iconst (v := 1) (pc' := 42) X dX0_fetch_41 rfl (by decide) ?_
      refine g_isub (pc' := 43) X dX0_fetch_42 rfl ?_
      refine g_putN (pc' := 46) (w2 := fun x1 => [oX0 q s_most q_cells x1 t1, ai d q_cells s_cells_n s_cells, oX3 q1 q1_cells, ai d q1_cells 42 s_p1_cells]) X fl_X0_37 fw_X0 rfl dX0_fetch_43 rfl 0 rfl (fun _ => rfl) (fun _ => rfl) (Nat.le_of_ble_eq_true rfl) (fun _ => rfl) hf (fun x1 hf => ?_)
      refine g_aload_n (pc' := 47) X dX0_fetch_46 rfl rfl rfl ?_
      refine g_get (pc' := 50) X fl_X0_21 dX0_fetch_47 rfl 0 rfl rfl ?_
      refine g_aload_n (pc' := 51) X dX0_fetch_50 rfl rfl rfl ?_
      refine g_get (pc' := 54) X fl_X0_28 dX0_fetch_51 rfl 0 rfl rfl ?_
      refine g_bipush (v := 42) (pc' := 56) X dX0_fetch_54 rfl (by decide) ?_
      refine g_imul (pc' := 57) X dX0_fetch_56 rfl ?_
      refine g_aload_n (pc' := 58) X dX0_fetch_57 rfl rfl rfl ?_
      refine g_get (pc' := 61) X fl_X0_25 dX0_fetch_58 rfl 2 rfl rfl ?_
      refine g_iconst (v := 0) (pc' := 62) X dX0_fetch_61 rfl (by decide) ?_
      refine g_bipush (v := 42) (pc' := 64) X dX0_fetch_62 rfl (by decide) ?_
      refine g_copy (pc' := 67) (w2 := fun g2 => [oX0 q s_most q_cells x1 t1, ai d q_cells s_cells_n s_cells, oX3 q1 q1_cells, ai d q1_cells 42 g2]) X nv_X0_31 dX0_fetch_64 rfl 1 3 rfl rfl ⟨Nat.le_of_ble_eq_true rfl, Nat.le_of_ble_eq_true rfl⟩ hf (fun _ => rfl) (fun g2 hf => ?_)
      refine g_iconst (v := 1) (pc' := 68) X dX0_fetch_67 rfl (by decide) ?_
      cases hf
      exact hR _ _ dX0_fetch_68 rfl
    refine g_if_le (tgt := 27) (pc' := 18) X dX0_fetch_15 (by decide) rfl hf (fun hf => ?_) (fun hf => ?_)
    · refine g_aload_n (pc' := 28) X dX0_fetch_27 rfl rfl rfl ?_
      refine g_get (pc' := 31) X fl_X0_15 dX0_fetch_28 rfl 0 rfl rfl ?_
      refine g_iconst (v := 1) (pc' := 32) X dX0_fetch_31 rfl (by decide) ?_
      refine g_isub (pc' := 33) X dX0_fetch_32 rfl ?_
      exact sx_weak [true, true] rfl (hjX0_fetch_33 (s_most - (1 : Int32)) s_held s_next s_p1_cells hf)
    · refine g_aload_n (pc' := 19) X dX0_fetch_18 rfl rfl rfl ?_
      refine g_get (pc' := 22) X fl_X0_28 dX0_fetch_19 rfl 0 rfl rfl ?_
      refine g_iconst (v := 1) (pc' := 23) X dX0_fetch_22 rfl (by decide) ?_
      refine g_isub (pc' := 24) X dX0_fetch_23 rfl ?_
      refine g_goto (tgt := 33) X dX0_fetch_24 (by decide) ?_
      exact sx_weak [true, true] rfl (hjX0_fetch_33 (s_next - (1 : Int32)) s_held s_next s_p1_cells hf)
  · refine g_iconst (v := 0) (pc' := 9) X dX0_fetch_8 rfl (by decide) ?_
    cases hf
    exact hR _ _ dX0_fetch_9 rfl
-- X1_clear
def fX1_clear (s_peaks : Int32) (s_windsTold : Int32) : Option (Int32 × Int32) :=
  some ((0 : Int32), (0 : Int32))
set_option maxHeartbeats 4000000 in
set_option maxRecDepth 100000 in
theorem ctX1_clear (l : Launch) (d : sx_D) (q : Nat) (q_kinds : Nat) (q_heights : Nat) (q_winds : Nat) (s_peaks : Int32) (s_windsTold : Int32) (ro1 : Int32) (ro2 : Int32) (hf : fX1_clear s_peaks s_windsTold = some (ro1, ro2)) : sx_V l d yX1_clear cX1_clear 1 0 [.ref q] [oX1 q q_kinds q_heights q_winds s_peaks s_windsTold] [oX1 q q_kinds q_heights q_winds ro1 ro2] := by
  refine sx_V.intro (lv0 := [some (.ref q)]) (by decide +kernel) (Nat.le_of_ble_eq_true rfl) rfl ?_
  intro κ X hR
  have X : sx_X d κ cX1_clear 1 RX1 (sx_rm 0) := X
  unfold fX1_clear at hf
  refine g_aload_n (pc' := 1) X dX1_clear_0 rfl rfl rfl ?_
  refine g_iconst (v := 0) (pc' := 2) X dX1_clear_1 rfl (by decide) ?_
  refine g_put (pc' := 5) (w2 := [oX1 q q_kinds q_heights q_winds (0 : Int32) s_windsTold]) X fl_X1_21 fw_X1 rfl dX1_clear_2 rfl 0 rfl rfl rfl (Nat.le_of_ble_eq_true rfl) rfl ?_
  refine g_aload_n (pc' := 6) X dX1_clear_5 rfl rfl rfl ?_
  refine g_iconst (v := 0) (pc' := 7) X dX1_clear_6 rfl (by decide) ?_
  refine g_put (pc' := 10) (w2 := [oX1 q q_kinds q_heights q_winds (0 : Int32) (0 : Int32)]) X fl_X1_25 fw_X1 rfl dX1_clear_7 rfl 0 rfl rfl rfl (Nat.le_of_ble_eq_true rfl) rfl ?_
  cases hf
  exact hR _ _ dX1_clear_10
-- X1_become
def fX1_become (s_peaks : Int32) (s_windsTold : Int32) (s_kinds : Nat → Int32) (s_heights : Nat → Int32) (s_winds : Nat → Int32) (s_p1_peaks : Int32) (s_p1_windsTold : Int32) (s_p1_kinds : Nat → Int32) (s_p1_heights : Nat → Int32) (s_p1_winds : Nat → Int32) : Option (Int32 × Int32 × (Nat → Int32) × (Nat → Int32) × (Nat → Int32)) :=
  sx_cp s_p1_kinds s_kinds 6 6 (0 : Int32) (0 : Int32) (6 : Int32) fun g1 =>
  sx_cp s_p1_heights s_heights 6 6 (0 : Int32) (0 : Int32) (6 : Int32) fun g2 =>
  sx_cp s_p1_winds s_winds 12 12 (0 : Int32) (0 : Int32) (12 : Int32) fun g3 =>
  some (s_p1_peaks, s_p1_windsTold, g1, g2, g3)
set_option maxHeartbeats 4000000 in
set_option maxRecDepth 100000 in
theorem ctX1_become (l : Launch) (d : sx_D) (q : Nat) (q_kinds : Nat) (q_heights : Nat) (q_winds : Nat) (q1 : Nat) (q1_kinds : Nat) (q1_heights : Nat) (q1_winds : Nat) (s_peaks : Int32) (s_windsTold : Int32) (s_kinds : Nat → Int32) (s_heights : Nat → Int32) (s_winds : Nat → Int32) (s_p1_peaks : Int32) (s_p1_windsTold : Int32) (s_p1_kinds : Nat → Int32) (s_p1_heights : Nat → Int32) (s_p1_winds : Nat → Int32) (ro1 : Int32) (ro2 : Int32) (ro3 : Nat → Int32) (ro4 : Nat → Int32) (ro5 : Nat → Int32) (hf : fX1_become s_peaks s_windsTold s_kinds s_heights s_winds s_p1_peaks s_p1_windsTold s_p1_kinds s_p1_heights s_p1_winds = some (ro1, ro2, ro3, ro4, ro5)) : sx_V l d yX1_become cX1_become 2 1 [.ref q, .ref q1] [oX1 q q_kinds q_heights q_winds s_peaks s_windsTold, ai d q_kinds 6 s_kinds, ai d q_heights 6 s_heights, ai d q_winds 12 s_winds, oX1 q1 q1_kinds q1_heights q1_winds s_p1_peaks s_p1_windsTold, ai d q1_kinds 6 s_p1_kinds, ai d q1_heights 6 s_p1_heights, ai d q1_winds 12 s_p1_winds] [oX1 q q_kinds q_heights q_winds ro1 ro2, ai d q_kinds 6 ro3, ai d q_heights 6 ro4, ai d q_winds 12 ro5, oX1 q1 q1_kinds q1_heights q1_winds s_p1_peaks s_p1_windsTold, ai d q1_kinds 6 s_p1_kinds, ai d q1_heights 6 s_p1_heights, ai d q1_winds 12 s_p1_winds] := by
  refine sx_V.intro (lv0 := [some (.ref q), some (.ref q1)]) (by decide +kernel) (Nat.le_of_ble_eq_true rfl) rfl ?_
  intro κ X hR
  have X : sx_X d κ cX1_become 2 RX1 (sx_rm 1) := X
  unfold fX1_become at hf
  refine g_aload_n (pc' := 1) X dX1_become_0 rfl rfl rfl ?_
  refine g_get (pc' := 4) X fl_X1_9 dX1_become_1 rfl 4 rfl rfl ?_
  refine g_iconst (v := 0) (pc' := 5) X dX1_become_4 rfl (by decide) ?_
  refine g_aload_n (pc' := 6) X dX1_become_5 rfl rfl rfl ?_
  refine g_get (pc' := 9) X fl_X1_9 dX1_become_6 rfl 0 rfl rfl ?_
  refine g_iconst (v := 0) (pc' := 10) X dX1_become_9 rfl (by decide) ?_
  refine g_bipush (v := 6) (pc' := 12) X dX1_become_10 rfl (by decide) ?_
  refine g_copy (pc' := 15) (w2 := fun g1 => [oX1 q q_kinds q_heights q_winds s_peaks s_windsTold, ai d q_kinds 6 g1, ai d q_heights 6 s_heights, ai d q_winds 12 s_winds, oX1 q1 q1_kinds q1_heights q1_winds s_p1_peaks s_p1_windsTold, ai d q1_kinds 6 s_p1_kinds, ai d q1_heights 6 s_p1_heights, ai d q1_winds 12 s_p1_winds]) X nv_X1_28 dX1_become_12 rfl 5 1 rfl rfl ⟨Nat.le_of_ble_eq_true rfl, Nat.le_of_ble_eq_true rfl⟩ hf (fun _ => rfl) (fun g1 hf => ?_)
  refine g_aload_n (pc' := 16) X dX1_become_15 rfl rfl rfl ?_
  refine g_get (pc' := 19) X fl_X1_15 dX1_become_16 rfl 4 rfl rfl ?_
  refine g_iconst (v := 0) (pc' := 20) X dX1_become_19 rfl (by decide) ?_
  refine g_aload_n (pc' := 21) X dX1_become_20 rfl rfl rfl ?_
  refine g_get (pc' := 24) X fl_X1_15 dX1_become_21 rfl 0 rfl rfl ?_
  refine g_iconst (v := 0) (pc' := 25) X dX1_become_24 rfl (by decide) ?_
  refine g_bipush (v := 6) (pc' := 27) X dX1_become_25 rfl (by decide) ?_
  refine g_copy (pc' := 30) (w2 := fun g2 => [oX1 q q_kinds q_heights q_winds s_peaks s_windsTold, ai d q_kinds 6 g1, ai d q_heights 6 g2, ai d q_winds 12 s_winds, oX1 q1 q1_kinds q1_heights q1_winds s_p1_peaks s_p1_windsTold, ai d q1_kinds 6 s_p1_kinds, ai d q1_heights 6 s_p1_heights, ai d q1_winds 12 s_p1_winds]) X nv_X1_28 dX1_become_27 rfl 6 2 rfl rfl ⟨Nat.le_of_ble_eq_true rfl, Nat.le_of_ble_eq_true rfl⟩ hf (fun _ => rfl) (fun g2 hf => ?_)
  refine g_aload_n (pc' := 31) X dX1_become_30 rfl rfl rfl ?_
  refine g_get (pc' := 34) X fl_X1_18 dX1_become_31 rfl 4 rfl rfl ?_
  refine g_iconst (v := 0) (pc' := 35) X dX1_become_34 rfl (by decide) ?_
  refine g_aload_n (pc' := 36) X dX1_become_35 rfl rfl rfl ?_
  refine g_get (pc' := 39) X fl_X1_18 dX1_become_36 rfl 0 rfl rfl ?_
  refine g_iconst (v := 0) (pc' := 40) X dX1_become_39 rfl (by decide) ?_
  refine g_bipush (v := 12) (pc' := 42) X dX1_become_40 rfl (by decide) ?_
  refine g_copy (pc' := 45) (w2 := fun g3 => [oX1 q q_kinds q_heights q_winds s_peaks s_windsTold, ai d q_kinds 6 g1, ai d q_heights 6 g2, ai d q_winds 12 g3, oX1 q1 q1_kinds q1_heights q1_winds s_p1_peaks s_p1_windsTold, ai d q1_kinds 6 s_p1_kinds, ai d q1_heights 6 s_p1_heights, ai d q1_winds 12 s_p1_winds]) X nv_X1_28 dX1_become_42 rfl 7 3 rfl rfl ⟨Nat.le_of_ble_eq_true rfl, Nat.le_of_ble_eq_true rfl⟩ hf (fun _ => rfl) (fun g3 hf => ?_)
  refine g_aload_n (pc' := 46) X dX1_become_45 rfl rfl rfl ?_
  refine g_aload_n (pc' := 47) X dX1_become_46 rfl rfl rfl ?_
  refine g_get (pc' := 50) X fl_X1_21 dX1_become_47 rfl 4 rfl rfl ?_
  refine g_put (pc' := 53) (w2 := [oX1 q q_kinds q_heights q_winds s_p1_peaks s_windsTold, ai d q_kinds 6 g1, ai d q_heights 6 g2, ai d q_winds 12 g3, oX1 q1 q1_kinds q1_heights q1_winds s_p1_peaks s_p1_windsTold, ai d q1_kinds 6 s_p1_kinds, ai d q1_heights 6 s_p1_heights, ai d q1_winds 12 s_p1_winds]) X fl_X1_21 fw_X1 rfl dX1_become_50 rfl 0 rfl rfl rfl (Nat.le_of_ble_eq_true rfl) rfl ?_
  refine g_aload_n (pc' := 54) X dX1_become_53 rfl rfl rfl ?_
  refine g_aload_n (pc' := 55) X dX1_become_54 rfl rfl rfl ?_
  refine g_get (pc' := 58) X fl_X1_25 dX1_become_55 rfl 4 rfl rfl ?_
  refine g_put (pc' := 61) (w2 := [oX1 q q_kinds q_heights q_winds s_p1_peaks s_p1_windsTold, ai d q_kinds 6 g1, ai d q_heights 6 g2, ai d q_winds 12 g3, oX1 q1 q1_kinds q1_heights q1_winds s_p1_peaks s_p1_windsTold, ai d q1_kinds 6 s_p1_kinds, ai d q1_heights 6 s_p1_heights, ai d q1_winds 12 s_p1_winds]) X fl_X1_25 fw_X1 rfl dX1_become_58 rfl 0 rfl rfl rfl (Nat.le_of_ble_eq_true rfl) rfl ?_
  cases hf
  exact hR _ _ dX1_become_61
-- X1_tellPeak
def fX1_tellPeak (s_peaks : Int32) (s_kinds : Nat → Int32) (s_heights : Nat → Int32) (v1 : Int32) (v2 : Int32) : Option (Int32 × Int32 × (Nat → Int32) × (Nat → Int32)) :=
  if v1 < 0 then
    some ((0 : Int32), s_peaks, s_kinds, s_heights)
  else
    if (4 : Int32) ≤ v1 then
      some ((0 : Int32), s_peaks, s_kinds, s_heights)
    else
      if v2 < (1 : Int32) then
        some ((0 : Int32), s_peaks, s_kinds, s_heights)
      else
        if (20 : Int32) < v2 then
          some ((0 : Int32), s_peaks, s_kinds, s_heights)
        else
          if s_peaks < (6 : Int32) then
            sx_wr s_kinds 6 s_peaks v1 fun g1 =>
            sx_wr s_heights 6 s_peaks v2 fun g2 =>
            sx_lt (s_peaks + (1 : Int32)) fun x3 =>
            some ((1 : Int32), x3, g1, g2)
          else
            some ((0 : Int32), s_peaks, s_kinds, s_heights)
set_option maxHeartbeats 4000000 in
set_option maxRecDepth 100000 in
theorem ctX1_tellPeak (l : Launch) (d : sx_D) (q : Nat) (q_kinds : Nat) (q_heights : Nat) (q_winds : Nat) (s_peaks : Int32) (s_windsTold : Int32) (s_kinds : Nat → Int32) (s_heights : Nat → Int32) (v1 : Int32) (v2 : Int32) (r : Int32) (ro1 : Int32) (ro2 : Nat → Int32) (ro3 : Nat → Int32) (hf : fX1_tellPeak s_peaks s_kinds s_heights v1 v2 = some (r, ro1, ro2, ro3)) : sx_I l d yX1_tellPeak cX1_tellPeak 3 .boolean 0 [.ref q, .int v1, .int v2] [oX1 q q_kinds q_heights q_winds s_peaks s_windsTold, ai d q_kinds 6 s_kinds, ai d q_heights 6 s_heights] [oX1 q q_kinds q_heights q_winds ro1 s_windsTold, ai d q_kinds 6 ro2, ai d q_heights 6 ro3] r := by
  refine sx_I.intro (lv0 := [some (.ref q), some (.int v1), some (.int v2)]) (by decide +kernel) (Nat.le_of_ble_eq_true rfl) rfl ?_
  intro κ X hR
  have X : sx_X d κ cX1_tellPeak 3 RX1 (sx_rm 0) := X
  unfold fX1_tellPeak at hf
  refine g_iload_n (pc' := 1) X dX1_tellPeak_0 rfl rfl rfl ?_
  refine g_if_lt (tgt := 29) (pc' := 4) X dX1_tellPeak_1 (by decide) rfl hf (fun hf => ?_) (fun hf => ?_)
  · refine g_iconst (v := 0) (pc' := 30) X dX1_tellPeak_29 rfl (by decide) ?_
    cases hf
    exact hR _ _ dX1_tellPeak_30 rfl
  · refine g_iload_n (pc' := 5) X dX1_tellPeak_4 rfl rfl rfl ?_
    refine g_iconst (v := 4) (pc' := 6) X dX1_tellPeak_5 rfl (by decide) ?_
    refine g_icmp_ge (tgt := 29) (pc' := 9) X dX1_tellPeak_6 (by decide) rfl hf (fun hf => ?_) (fun hf => ?_)
    · refine g_iconst (v := 0) (pc' := 30) X dX1_tellPeak_29 rfl (by decide) ?_
      cases hf
      exact hR _ _ dX1_tellPeak_30 rfl
    · refine g_iload_n (pc' := 10) X dX1_tellPeak_9 rfl rfl rfl ?_
      refine g_iconst (v := 1) (pc' := 11) X dX1_tellPeak_10 rfl (by decide) ?_
      refine g_icmp_lt (tgt := 29) (pc' := 14) X dX1_tellPeak_11 (by decide) rfl hf (fun hf => ?_) (fun hf => ?_)
      · refine g_iconst (v := 0) (pc' := 30) X dX1_tellPeak_29 rfl (by decide) ?_
        cases hf
        exact hR _ _ dX1_tellPeak_30 rfl
      · refine g_iload_n (pc' := 15) X dX1_tellPeak_14 rfl rfl rfl ?_
        refine g_bipush (v := 20) (pc' := 17) X dX1_tellPeak_15 rfl (by decide) ?_
        refine g_icmp_gt (tgt := 29) (pc' := 20) X dX1_tellPeak_17 (by decide) rfl hf (fun hf => ?_) (fun hf => ?_)
        · refine g_iconst (v := 0) (pc' := 30) X dX1_tellPeak_29 rfl (by decide) ?_
          cases hf
          exact hR _ _ dX1_tellPeak_30 rfl
        · refine g_aload_n (pc' := 21) X dX1_tellPeak_20 rfl rfl rfl ?_
          refine g_get (pc' := 24) X fl_X1_21 dX1_tellPeak_21 rfl 0 rfl rfl ?_
          refine g_bipush (v := 6) (pc' := 26) X dX1_tellPeak_24 rfl (by decide) ?_
          refine g_icmp_lt (tgt := 31) (pc' := 29) X dX1_tellPeak_26 (by decide) rfl hf (fun hf => ?_) (fun hf => ?_)
          · refine g_aload_n (pc' := 32) X dX1_tellPeak_31 rfl rfl rfl ?_
            refine g_get (pc' := 35) X fl_X1_9 dX1_tellPeak_32 rfl 0 rfl rfl ?_
            refine g_aload_n (pc' := 36) X dX1_tellPeak_35 rfl rfl rfl ?_
            refine g_get (pc' := 39) X fl_X1_21 dX1_tellPeak_36 rfl 0 rfl rfl ?_
            refine g_iload_n (pc' := 40) X dX1_tellPeak_39 rfl rfl rfl ?_
            refine g_iast (pc' := 41) (w2 := fun g1 => [oX1 q q_kinds q_heights q_winds s_peaks s_windsTold, ai d q_kinds 6 g1, ai d q_heights 6 s_heights]) X dX1_tellPeak_40 rfl 1 rfl hf (fun _ => rfl) (fun g1 hf => ?_)
            refine g_aload_n (pc' := 42) X dX1_tellPeak_41 rfl rfl rfl ?_
            refine g_get (pc' := 45) X fl_X1_15 dX1_tellPeak_42 rfl 0 rfl rfl ?_
            refine g_aload_n (pc' := 46) X dX1_tellPeak_45 rfl rfl rfl ?_
            refine g_get (pc' := 49) X fl_X1_21 dX1_tellPeak_46 rfl 0 rfl rfl ?_
            refine g_iload_n (pc' := 50) X dX1_tellPeak_49 rfl rfl rfl ?_
            refine g_iast (pc' := 51) (w2 := fun g2 => [oX1 q q_kinds q_heights q_winds s_peaks s_windsTold, ai d q_kinds 6 g1, ai d q_heights 6 g2]) X dX1_tellPeak_50 rfl 2 rfl hf (fun _ => rfl) (fun g2 hf => ?_)
            refine g_aload_n (pc' := 52) X dX1_tellPeak_51 rfl rfl rfl ?_
            refine g_dup (pc' := 53) X dX1_tellPeak_52 rfl rfl ?_
            refine g_get (pc' := 56) X fl_X1_21 dX1_tellPeak_53 rfl 0 rfl rfl ?_
            refine g_iconst (v := 1) (pc' := 57) X dX1_tellPeak_56 rfl (by decide) ?_
            refine g_iadd (pc' := 58) X dX1_tellPeak_57 rfl ?_
            refine g_putN (pc' := 61) (w2 := fun x3 => [oX1 q q_kinds q_heights q_winds x3 s_windsTold, ai d q_kinds 6 g1, ai d q_heights 6 g2]) X fl_X1_21 fw_X1 rfl dX1_tellPeak_58 rfl 0 rfl (fun _ => rfl) (fun _ => rfl) (Nat.le_of_ble_eq_true rfl) (fun _ => rfl) hf (fun x3 hf => ?_)
            refine g_iconst (v := 1) (pc' := 62) X dX1_tellPeak_61 rfl (by decide) ?_
            cases hf
            exact hR _ _ dX1_tellPeak_62 rfl
          · refine g_iconst (v := 0) (pc' := 30) X dX1_tellPeak_29 rfl (by decide) ?_
            cases hf
            exact hR _ _ dX1_tellPeak_30 rfl
-- X1_tellWind
def fX1_tellWind (s_windsTold : Int32) (s_winds : Nat → Int32) (v1 : Int32) : Option (Int32 × Int32 × (Nat → Int32)) :=
  if v1 < 0 then
    some ((0 : Int32), s_windsTold, s_winds)
  else
    if (20 : Int32) < v1 then
      some ((0 : Int32), s_windsTold, s_winds)
    else
      if s_windsTold < (12 : Int32) then
        sx_wr s_winds 12 s_windsTold v1 fun g1 =>
        sx_lt (s_windsTold + (1 : Int32)) fun x2 =>
        some ((1 : Int32), x2, g1)
      else
        some ((0 : Int32), s_windsTold, s_winds)
set_option maxHeartbeats 4000000 in
set_option maxRecDepth 100000 in
theorem ctX1_tellWind (l : Launch) (d : sx_D) (q : Nat) (q_kinds : Nat) (q_heights : Nat) (q_winds : Nat) (s_peaks : Int32) (s_windsTold : Int32) (s_winds : Nat → Int32) (v1 : Int32) (r : Int32) (ro1 : Int32) (ro2 : Nat → Int32) (hf : fX1_tellWind s_windsTold s_winds v1 = some (r, ro1, ro2)) : sx_I l d yX1_tellWind cX1_tellWind 2 .boolean 0 [.ref q, .int v1] [oX1 q q_kinds q_heights q_winds s_peaks s_windsTold, ai d q_winds 12 s_winds] [oX1 q q_kinds q_heights q_winds s_peaks ro1, ai d q_winds 12 ro2] r := by
  refine sx_I.intro (lv0 := [some (.ref q), some (.int v1)]) (by decide +kernel) (Nat.le_of_ble_eq_true rfl) rfl ?_
  intro κ X hR
  have X : sx_X d κ cX1_tellWind 2 RX1 (sx_rm 0) := X
  unfold fX1_tellWind at hf
  refine g_iload_n (pc' := 1) X dX1_tellWind_0 rfl rfl rfl ?_
  refine g_if_lt (tgt := 19) (pc' := 4) X dX1_tellWind_1 (by decide) rfl hf (fun hf => ?_) (fun hf => ?_)
  · refine g_iconst (v := 0) (pc' := 20) X dX1_tellWind_19 rfl (by decide) ?_
    cases hf
    exact hR _ _ dX1_tellWind_20 rfl
  · refine g_iload_n (pc' := 5) X dX1_tellWind_4 rfl rfl rfl ?_
    refine g_bipush (v := 20) (pc' := 7) X dX1_tellWind_5 rfl (by decide) ?_
    refine g_icmp_gt (tgt := 19) (pc' := 10) X dX1_tellWind_7 (by decide) rfl hf (fun hf => ?_) (fun hf => ?_)
    · refine g_iconst (v := 0) (pc' := 20) X dX1_tellWind_19 rfl (by decide) ?_
      cases hf
      exact hR _ _ dX1_tellWind_20 rfl
    · refine g_aload_n (pc' := 11) X dX1_tellWind_10 rfl rfl rfl ?_
      refine g_get (pc' := 14) X fl_X1_25 dX1_tellWind_11 rfl 0 rfl rfl ?_
      refine g_bipush (v := 12) (pc' := 16) X dX1_tellWind_14 rfl (by decide) ?_
      refine g_icmp_lt (tgt := 21) (pc' := 19) X dX1_tellWind_16 (by decide) rfl hf (fun hf => ?_) (fun hf => ?_)
      · refine g_aload_n (pc' := 22) X dX1_tellWind_21 rfl rfl rfl ?_
        refine g_get (pc' := 25) X fl_X1_18 dX1_tellWind_22 rfl 0 rfl rfl ?_
        refine g_aload_n (pc' := 26) X dX1_tellWind_25 rfl rfl rfl ?_
        refine g_get (pc' := 29) X fl_X1_25 dX1_tellWind_26 rfl 0 rfl rfl ?_
        refine g_iload_n (pc' := 30) X dX1_tellWind_29 rfl rfl rfl ?_
        refine g_iast (pc' := 31) (w2 := fun g1 => [oX1 q q_kinds q_heights q_winds s_peaks s_windsTold, ai d q_winds 12 g1]) X dX1_tellWind_30 rfl 1 rfl hf (fun _ => rfl) (fun g1 hf => ?_)
        refine g_aload_n (pc' := 32) X dX1_tellWind_31 rfl rfl rfl ?_
        refine g_dup (pc' := 33) X dX1_tellWind_32 rfl rfl ?_
        refine g_get (pc' := 36) X fl_X1_25 dX1_tellWind_33 rfl 0 rfl rfl ?_
        refine g_iconst (v := 1) (pc' := 37) X dX1_tellWind_36 rfl (by decide) ?_
        refine g_iadd (pc' := 38) X dX1_tellWind_37 rfl ?_
        refine g_putN (pc' := 41) (w2 := fun x2 => [oX1 q q_kinds q_heights q_winds s_peaks x2, ai d q_winds 12 g1]) X fl_X1_25 fw_X1 rfl dX1_tellWind_38 rfl 0 rfl (fun _ => rfl) (fun _ => rfl) (Nat.le_of_ble_eq_true rfl) (fun _ => rfl) hf (fun x2 hf => ?_)
        refine g_iconst (v := 1) (pc' := 42) X dX1_tellWind_41 rfl (by decide) ?_
        cases hf
        exact hR _ _ dX1_tellWind_42 rfl
      · refine g_iconst (v := 0) (pc' := 20) X dX1_tellWind_19 rfl (by decide) ?_
        cases hf
        exact hR _ _ dX1_tellWind_20 rfl
-- X1_isPeak
def fX1_isPeak (s_peaks : Int32) (v1 : Int32) : Option (Int32) :=
  if v1 < 0 then
    some (0 : Int32)
  else
    if s_peaks ≤ v1 then
      some (0 : Int32)
    else
      some (1 : Int32)
set_option maxHeartbeats 4000000 in
set_option maxRecDepth 100000 in
theorem ctX1_isPeak (l : Launch) (d : sx_D) (q : Nat) (q_kinds : Nat) (q_heights : Nat) (q_winds : Nat) (s_peaks : Int32) (s_windsTold : Int32) (v1 : Int32) (r : Int32) (hf : fX1_isPeak s_peaks v1 = some r) : sx_I l d yX1_isPeak cX1_isPeak 2 .boolean 0 [.ref q, .int v1] [oX1 q q_kinds q_heights q_winds s_peaks s_windsTold] [oX1 q q_kinds q_heights q_winds s_peaks s_windsTold] r := by
  refine sx_I.intro (lv0 := [some (.ref q), some (.int v1)]) (by decide +kernel) (Nat.le_of_ble_eq_true rfl) rfl ?_
  intro κ X hR
  have X : sx_X d κ cX1_isPeak 2 RX1 (sx_rm 0) := X
  unfold fX1_isPeak at hf
  refine g_iload_n (pc' := 1) X dX1_isPeak_0 rfl rfl rfl ?_
  refine g_if_lt (tgt := 16) (pc' := 4) X dX1_isPeak_1 (by decide) rfl hf (fun hf => ?_) (fun hf => ?_)
  · refine g_iconst (v := 0) (pc' := 17) X dX1_isPeak_16 rfl (by decide) ?_
    cases hf
    exact hR _ _ dX1_isPeak_17 rfl
  · refine g_iload_n (pc' := 5) X dX1_isPeak_4 rfl rfl rfl ?_
    refine g_aload_n (pc' := 6) X dX1_isPeak_5 rfl rfl rfl ?_
    refine g_get (pc' := 9) X fl_X1_21 dX1_isPeak_6 rfl 0 rfl rfl ?_
    refine g_icmp_ge (tgt := 16) (pc' := 12) X dX1_isPeak_9 (by decide) rfl hf (fun hf => ?_) (fun hf => ?_)
    · refine g_iconst (v := 0) (pc' := 17) X dX1_isPeak_16 rfl (by decide) ?_
      cases hf
      exact hR _ _ dX1_isPeak_17 rfl
    · refine g_iconst (v := 1) (pc' := 13) X dX1_isPeak_12 rfl (by decide) ?_
      refine g_goto (tgt := 17) X dX1_isPeak_13 (by decide) ?_
      cases hf
      exact hR _ _ dX1_isPeak_17 rfl
-- X1_kindOf
def fX1_kindOf (s_peaks : Int32) (s_kinds : Nat → Int32) (v1 : Int32) : Option (Int32) :=
  (fX1_isPeak s_peaks v1).bind fun x1 =>
  if x1 = 0 then
    some (0 : Int32)
  else
    sx_rd s_kinds 6 v1 fun x2 =>
    some x2
set_option maxHeartbeats 4000000 in
set_option maxRecDepth 100000 in
theorem ctX1_kindOf (l : Launch) (d : sx_D) (q : Nat) (q_kinds : Nat) (q_heights : Nat) (q_winds : Nat) (s_peaks : Int32) (s_windsTold : Int32) (s_kinds : Nat → Int32) (v1 : Int32) (r : Int32) (hf : fX1_kindOf s_peaks s_kinds v1 = some r) : sx_I l d yX1_kindOf cX1_kindOf 2 .int 1 [.ref q, .int v1] [oX1 q q_kinds q_heights q_winds s_peaks s_windsTold, ai d q_kinds 6 s_kinds] [oX1 q q_kinds q_heights q_winds s_peaks s_windsTold, ai d q_kinds 6 s_kinds] r := by
  refine sx_I.intro (lv0 := [some (.ref q), some (.int v1)]) (by decide +kernel) (Nat.le_of_ble_eq_true rfl) rfl ?_
  intro κ X hR
  have X : sx_X d κ cX1_kindOf 2 RX1 (sx_rm 1) := X
  unfold fX1_kindOf at hf
  refine g_aload_n (pc' := 1) X dX1_kindOf_0 rfl rfl rfl ?_
  refine g_iload_n (pc' := 2) X dX1_kindOf_1 rfl rfl rfl ?_
  refine g_callVi0 (pc' := 5) (As := [.int v1]) (b := q) (st := []) (w2 := fun x1 => [oX1 q q_kinds q_heights q_winds s_peaks s_windsTold, ai d q_kinds 6 s_kinds]) X lk_X1_34 dX1_kindOf_2 rfl rfl rfl (Nat.le_of_ble_eq_true rfl) ⟨Nat.le_of_ble_eq_true rfl, Nat.le_of_ble_eq_true rfl, Nat.le_of_ble_eq_true rfl, Nat.le_of_ble_eq_true rfl⟩ rfl [0] (by decide) rfl hf (fun l x1 h => ctX1_isPeak l d q q_kinds q_heights q_winds s_peaks s_windsTold v1 x1 h) (fun _ => rfl) (fun _ => rfl) (fun x1 hnx1 hf => ?_)
  refine g_if_eq (tgt := 17) (pc' := 8) X dX1_kindOf_5 (by decide) rfl hf (fun hf => ?_) (fun hf => ?_)
  · refine g_iconst (v := 0) (pc' := 18) X dX1_kindOf_17 rfl (by decide) ?_
    cases hf
    exact hR _ _ dX1_kindOf_18 rfl
  · refine g_aload_n (pc' := 9) X dX1_kindOf_8 rfl rfl rfl ?_
    refine g_get (pc' := 12) X fl_X1_9 dX1_kindOf_9 rfl 0 rfl rfl ?_
    refine g_iload_n (pc' := 13) X dX1_kindOf_12 rfl rfl rfl ?_
    refine g_iald (pc' := 14) X dX1_kindOf_13 rfl 1 rfl hf (fun x2 hf => ?_)
    refine g_goto (tgt := 18) X dX1_kindOf_14 (by decide) ?_
    cases hf
    exact hR _ _ dX1_kindOf_18 rfl
-- X1_heightOf
def fX1_heightOf (s_peaks : Int32) (s_heights : Nat → Int32) (v1 : Int32) : Option (Int32) :=
  (fX1_isPeak s_peaks v1).bind fun x1 =>
  if x1 = 0 then
    some (0 : Int32)
  else
    sx_rd s_heights 6 v1 fun x2 =>
    some x2
set_option maxHeartbeats 4000000 in
set_option maxRecDepth 100000 in
theorem ctX1_heightOf (l : Launch) (d : sx_D) (q : Nat) (q_kinds : Nat) (q_heights : Nat) (q_winds : Nat) (s_peaks : Int32) (s_windsTold : Int32) (s_heights : Nat → Int32) (v1 : Int32) (r : Int32) (hf : fX1_heightOf s_peaks s_heights v1 = some r) : sx_I l d yX1_heightOf cX1_heightOf 2 .int 1 [.ref q, .int v1] [oX1 q q_kinds q_heights q_winds s_peaks s_windsTold, ai d q_heights 6 s_heights] [oX1 q q_kinds q_heights q_winds s_peaks s_windsTold, ai d q_heights 6 s_heights] r := by
  refine sx_I.intro (lv0 := [some (.ref q), some (.int v1)]) (by decide +kernel) (Nat.le_of_ble_eq_true rfl) rfl ?_
  intro κ X hR
  have X : sx_X d κ cX1_heightOf 2 RX1 (sx_rm 1) := X
  unfold fX1_heightOf at hf
  refine g_aload_n (pc' := 1) X dX1_heightOf_0 rfl rfl rfl ?_
  refine g_iload_n (pc' := 2) X dX1_heightOf_1 rfl rfl rfl ?_
  refine g_callVi0 (pc' := 5) (As := [.int v1]) (b := q) (st := []) (w2 := fun x1 => [oX1 q q_kinds q_heights q_winds s_peaks s_windsTold, ai d q_heights 6 s_heights]) X lk_X1_34 dX1_heightOf_2 rfl rfl rfl (Nat.le_of_ble_eq_true rfl) ⟨Nat.le_of_ble_eq_true rfl, Nat.le_of_ble_eq_true rfl, Nat.le_of_ble_eq_true rfl, Nat.le_of_ble_eq_true rfl⟩ rfl [0] (by decide) rfl hf (fun l x1 h => ctX1_isPeak l d q q_kinds q_heights q_winds s_peaks s_windsTold v1 x1 h) (fun _ => rfl) (fun _ => rfl) (fun x1 hnx1 hf => ?_)
  refine g_if_eq (tgt := 17) (pc' := 8) X dX1_heightOf_5 (by decide) rfl hf (fun hf => ?_) (fun hf => ?_)
  · refine g_iconst (v := 0) (pc' := 18) X dX1_heightOf_17 rfl (by decide) ?_
    cases hf
    exact hR _ _ dX1_heightOf_18 rfl
  · refine g_aload_n (pc' := 9) X dX1_heightOf_8 rfl rfl rfl ?_
    refine g_get (pc' := 12) X fl_X1_15 dX1_heightOf_9 rfl 0 rfl rfl ?_
    refine g_iload_n (pc' := 13) X dX1_heightOf_12 rfl rfl rfl ?_
    refine g_iald (pc' := 14) X dX1_heightOf_13 rfl 1 rfl hf (fun x2 hf => ?_)
    refine g_goto (tgt := 18) X dX1_heightOf_14 (by decide) ?_
    cases hf
    exact hR _ _ dX1_heightOf_18 rfl
-- X1_hasGoats
def fX1_hasGoats (s_peaks : Int32) (s_kinds : Nat → Int32) (v1 : Int32) : Option (Int32) :=
  (fX1_kindOf s_peaks s_kinds v1).bind fun x1 =>
  if x1 = (3 : Int32) then
    some (1 : Int32)
  else
    some (0 : Int32)
set_option maxHeartbeats 4000000 in
set_option maxRecDepth 100000 in
theorem ctX1_hasGoats (l : Launch) (d : sx_D) (q : Nat) (q_kinds : Nat) (q_heights : Nat) (q_winds : Nat) (s_peaks : Int32) (s_windsTold : Int32) (s_kinds : Nat → Int32) (v1 : Int32) (r : Int32) (hf : fX1_hasGoats s_peaks s_kinds v1 = some r) : sx_I l d yX1_hasGoats cX1_hasGoats 2 .boolean 2 [.ref q, .int v1] [oX1 q q_kinds q_heights q_winds s_peaks s_windsTold, ai d q_kinds 6 s_kinds] [oX1 q q_kinds q_heights q_winds s_peaks s_windsTold, ai d q_kinds 6 s_kinds] r := by
  refine sx_I.intro (lv0 := [some (.ref q), some (.int v1)]) (by decide +kernel) (Nat.le_of_ble_eq_true rfl) rfl ?_
  intro κ X hR
  have X : sx_X d κ cX1_hasGoats 2 RX1 (sx_rm 2) := X
  unfold fX1_hasGoats at hf
  refine g_aload_n (pc' := 1) X dX1_hasGoats_0 rfl rfl rfl ?_
  refine g_iload_n (pc' := 2) X dX1_hasGoats_1 rfl rfl rfl ?_
  refine g_callVi0 (pc' := 5) (As := [.int v1]) (b := q) (st := []) (w2 := fun x1 => [oX1 q q_kinds q_heights q_winds s_peaks s_windsTold, ai d q_kinds 6 s_kinds]) X lk_X1_38 dX1_hasGoats_2 rfl rfl rfl (Nat.le_of_ble_eq_true rfl) ⟨Nat.le_of_ble_eq_true rfl, Nat.le_of_ble_eq_true rfl, Nat.le_of_ble_eq_true rfl, Nat.le_of_ble_eq_true rfl⟩ rfl [0, 1] (by decide) rfl hf (fun l x1 h => ctX1_kindOf l d q q_kinds q_heights q_winds s_peaks s_windsTold s_kinds v1 x1 h) (fun _ => rfl) (fun _ => rfl) (fun x1 hnx1 hf => ?_)
  refine g_iconst (v := 3) (pc' := 6) X dX1_hasGoats_5 rfl (by decide) ?_
  refine g_icmp_ne (tgt := 13) (pc' := 9) X dX1_hasGoats_6 (by decide) rfl hf (fun hf => ?_) (fun hf => ?_)
  · refine g_iconst (v := 0) (pc' := 14) X dX1_hasGoats_13 rfl (by decide) ?_
    cases hf
    exact hR _ _ dX1_hasGoats_14 rfl
  · refine g_iconst (v := 1) (pc' := 10) X dX1_hasGoats_9 rfl (by decide) ?_
    refine g_goto (tgt := 14) X dX1_hasGoats_10 (by decide) ?_
    cases hf
    exact hR _ _ dX1_hasGoats_14 rfl
-- X1_windIn
def fX1_windIn (s_windsTold : Int32) (s_winds : Nat → Int32) (v1 : Int32) : Option (Int32) :=
  if s_windsTold < (1 : Int32) then
    some (3 : Int32)
  else
    if 0 ≤ v1 then
      sx_nz s_windsTold <|
      sx_rd s_winds 12 (v1 - v1 / s_windsTold * s_windsTold) fun x1 =>
      some x1
    else
      some (3 : Int32)
set_option maxHeartbeats 4000000 in
set_option maxRecDepth 100000 in
theorem ctX1_windIn (l : Launch) (d : sx_D) (q : Nat) (q_kinds : Nat) (q_heights : Nat) (q_winds : Nat) (s_peaks : Int32) (s_windsTold : Int32) (s_winds : Nat → Int32) (v1 : Int32) (r : Int32) (hf : fX1_windIn s_windsTold s_winds v1 = some r) : sx_I l d yX1_windIn cX1_windIn 2 .int 0 [.ref q, .int v1] [oX1 q q_kinds q_heights q_winds s_peaks s_windsTold, ai d q_winds 12 s_winds] [oX1 q q_kinds q_heights q_winds s_peaks s_windsTold, ai d q_winds 12 s_winds] r := by
  refine sx_I.intro (lv0 := [some (.ref q), some (.int v1)]) (by decide +kernel) (Nat.le_of_ble_eq_true rfl) rfl ?_
  intro κ X hR
  have X : sx_X d κ cX1_windIn 2 RX1 (sx_rm 0) := X
  unfold fX1_windIn at hf
  refine g_aload_n (pc' := 1) X dX1_windIn_0 rfl rfl rfl ?_
  refine g_get (pc' := 4) X fl_X1_25 dX1_windIn_1 rfl 0 rfl rfl ?_
  refine g_iconst (v := 1) (pc' := 5) X dX1_windIn_4 rfl (by decide) ?_
  refine g_icmp_lt (tgt := 12) (pc' := 8) X dX1_windIn_5 (by decide) rfl hf (fun hf => ?_) (fun hf => ?_)
  · refine g_iconst (v := 3) (pc' := 13) X dX1_windIn_12 rfl (by decide) ?_
    refine g_goto (tgt := 27) X dX1_windIn_13 (by decide) ?_
    cases hf
    exact hR _ _ dX1_windIn_27 rfl
  · refine g_iload_n (pc' := 9) X dX1_windIn_8 rfl rfl rfl ?_
    refine g_if_ge (tgt := 16) (pc' := 12) X dX1_windIn_9 (by decide) rfl hf (fun hf => ?_) (fun hf => ?_)
    · refine g_aload_n (pc' := 17) X dX1_windIn_16 rfl rfl rfl ?_
      refine g_get (pc' := 20) X fl_X1_18 dX1_windIn_17 rfl 0 rfl rfl ?_
      refine g_iload_n (pc' := 21) X dX1_windIn_20 rfl rfl rfl ?_
      refine g_aload_n (pc' := 22) X dX1_windIn_21 rfl rfl rfl ?_
      refine g_get (pc' := 25) X fl_X1_25 dX1_windIn_22 rfl 0 rfl rfl ?_
      refine g_iremZ (pc' := 26) X dX1_windIn_25 rfl hf (fun hf => ?_)
      refine g_iald (pc' := 27) X dX1_windIn_26 rfl 1 rfl hf (fun x1 hf => ?_)
      cases hf
      exact hR _ _ dX1_windIn_27 rfl
    · refine g_iconst (v := 3) (pc' := 13) X dX1_windIn_12 rfl (by decide) ?_
      refine g_goto (tgt := 27) X dX1_windIn_13 (by decide) ?_
      cases hf
      exact hR _ _ dX1_windIn_27 rfl
-- X1_forceAt
def fX1_forceAt (s_peaks : Int32) (s_kinds : Nat → Int32) (v1 : Int32) (v2 : Int32) : Option (Int32) :=
  (fX1_kindOf s_peaks s_kinds v1).bind fun x1 =>
  if x1 = (1 : Int32) then
    some (v2 + (2 : Int32))
  else
    if x1 = (2 : Int32) then
      some (if (0 : Int32) < (v2 - (2 : Int32)) then (v2 - (2 : Int32)) else (0 : Int32))
    else
      some v2
set_option maxHeartbeats 4000000 in
set_option maxRecDepth 100000 in
theorem ctX1_forceAt (l : Launch) (d : sx_D) (q : Nat) (q_kinds : Nat) (q_heights : Nat) (q_winds : Nat) (s_peaks : Int32) (s_windsTold : Int32) (s_kinds : Nat → Int32) (v1 : Int32) (v2 : Int32) (r : Int32) (hf : fX1_forceAt s_peaks s_kinds v1 v2 = some r) : sx_I l d yX1_forceAt cX1_forceAt 4 .int 2 [.ref q, .int v1, .int v2] [oX1 q q_kinds q_heights q_winds s_peaks s_windsTold, ai d q_kinds 6 s_kinds] [oX1 q q_kinds q_heights q_winds s_peaks s_windsTold, ai d q_kinds 6 s_kinds] r := by
  refine sx_I.intro (lv0 := [some (.ref q), some (.int v1), some (.int v2), none]) (by decide +kernel) (Nat.le_of_ble_eq_true rfl) rfl ?_
  intro κ X hR
  have X : sx_X d κ cX1_forceAt 4 RX1 (sx_rm 2) := X
  unfold fX1_forceAt at hf
  refine g_aload_n (pc' := 1) X dX1_forceAt_0 rfl rfl rfl ?_
  refine g_iload_n (pc' := 2) X dX1_forceAt_1 rfl rfl rfl ?_
  refine g_callVi0 (pc' := 5) (As := [.int v1]) (b := q) (st := []) (w2 := fun x1 => [oX1 q q_kinds q_heights q_winds s_peaks s_windsTold, ai d q_kinds 6 s_kinds]) X lk_X1_38 dX1_forceAt_2 rfl rfl rfl (Nat.le_of_ble_eq_true rfl) ⟨Nat.le_of_ble_eq_true rfl, Nat.le_of_ble_eq_true rfl, Nat.le_of_ble_eq_true rfl, Nat.le_of_ble_eq_true rfl⟩ rfl [0, 1] (by decide) rfl hf (fun l x1 h => ctX1_kindOf l d q q_kinds q_heights q_winds s_peaks s_windsTold s_kinds v1 x1 h) (fun _ => rfl) (fun _ => rfl) (fun x1 hnx1 hf => ?_)
  refine g_istore_n (lv' := [some (.ref q), some (.int v1), some (.int v2), some (.int x1)]) (pc' := 6) X dX1_forceAt_5 rfl rfl (by decide) rfl rfl ?_
  refine g_iload_n (pc' := 7) X dX1_forceAt_6 rfl rfl rfl ?_
  refine g_iconst (v := 1) (pc' := 8) X dX1_forceAt_7 rfl (by decide) ?_
  refine g_icmp_ne (tgt := 15) (pc' := 11) X dX1_forceAt_8 (by decide) rfl hf (fun hf => ?_) (fun hf => ?_)
  · refine g_iload_n (pc' := 16) X dX1_forceAt_15 rfl rfl rfl ?_
    refine g_iconst (v := 2) (pc' := 17) X dX1_forceAt_16 rfl (by decide) ?_
    refine g_icmp_ne (tgt := 30) (pc' := 20) X dX1_forceAt_17 (by decide) rfl hf (fun hf => ?_) (fun hf => ?_)
    · refine g_iload_n (pc' := 31) X dX1_forceAt_30 rfl rfl rfl ?_
      cases hf
      exact hR _ _ dX1_forceAt_31 rfl
    · refine g_iconst (v := 0) (pc' := 21) X dX1_forceAt_20 rfl (by decide) ?_
      refine g_iload_n (pc' := 22) X dX1_forceAt_21 rfl rfl rfl ?_
      refine g_iconst (v := 2) (pc' := 23) X dX1_forceAt_22 rfl (by decide) ?_
      refine g_isub (pc' := 24) X dX1_forceAt_23 rfl ?_
      refine g_max (pc' := 27) X mx_X1_42 dX1_forceAt_24 rfl ⟨Nat.le_of_ble_eq_true rfl, Nat.le_of_ble_eq_true rfl, Nat.le_of_ble_eq_true rfl, Nat.le_of_ble_eq_true rfl⟩ ?_
      refine g_goto (tgt := 31) X dX1_forceAt_27 (by decide) ?_
      cases hf
      exact hR _ _ dX1_forceAt_31 rfl
  · refine g_iload_n (pc' := 12) X dX1_forceAt_11 rfl rfl rfl ?_
    refine g_iconst (v := 2) (pc' := 13) X dX1_forceAt_12 rfl (by decide) ?_
    refine g_iadd (pc' := 14) X dX1_forceAt_13 rfl ?_
    cases hf
    exact hR _ _ dX1_forceAt_14 rfl
-- X2_append
def fX2_append (s_length : Int32) (s_letters : Nat → Int32) (v1 : Int32) : Option (Int32 × Int32 × (Nat → Int32)) :=
  if s_length < (200 : Int32) then
    sx_wr s_letters 200 s_length (vp_nar .char v1) fun g1 =>
    sx_lt (s_length + (1 : Int32)) fun x2 =>
    some ((1 : Int32), x2, g1)
  else
    some ((0 : Int32), s_length, s_letters)
set_option maxHeartbeats 4000000 in
set_option maxRecDepth 100000 in
theorem ctX2_append (l : Launch) (d : sx_D) (q : Nat) (q_letters : Nat) (q_numbers : Nat) (q_range : Nat) (q_state : Nat) (s_length : Int32) (s_at : Int32) (s_letters : Nat → Int32) (v1 : Int32) (r : Int32) (ro1 : Int32) (ro2 : Nat → Int32) (hf : fX2_append s_length s_letters v1 = some (r, ro1, ro2)) : sx_I l d yX2_append cX2_append 2 .boolean 0 [.ref q, .int v1] [oX2 q q_letters q_numbers q_range q_state s_length s_at, ac d q_letters 200 s_letters] [oX2 q q_letters q_numbers q_range q_state ro1 s_at, ac d q_letters 200 ro2] r := by
  refine sx_I.intro (lv0 := [some (.ref q), some (.int v1)]) (by decide +kernel) (Nat.le_of_ble_eq_true rfl) rfl ?_
  intro κ X hR
  have X : sx_X d κ cX2_append 2 RX2 (sx_rm 0) := X
  unfold fX2_append at hf
  refine g_aload_n (pc' := 1) X dX2_append_0 rfl rfl rfl ?_
  refine g_get (pc' := 4) X fl_X2_33 dX2_append_1 rfl 0 rfl rfl ?_
  refine g_sipush (v := 200) (pc' := 7) X dX2_append_4 rfl (by decide) ?_
  refine g_icmp_lt (tgt := 12) (pc' := 10) X dX2_append_7 (by decide) rfl hf (fun hf => ?_) (fun hf => ?_)
  · refine g_aload_n (pc' := 13) X dX2_append_12 rfl rfl rfl ?_
    refine g_get (pc' := 16) X fl_X2_9 dX2_append_13 rfl 0 rfl rfl ?_
    refine g_aload_n (pc' := 17) X dX2_append_16 rfl rfl rfl ?_
    refine g_get (pc' := 20) X fl_X2_33 dX2_append_17 rfl 0 rfl rfl ?_
    refine g_iload_n (pc' := 21) X dX2_append_20 rfl rfl rfl ?_
    refine g_cast (pc' := 22) (w2 := fun g1 => [oX2 q q_letters q_numbers q_range q_state s_length s_at, ac d q_letters 200 g1]) X dX2_append_21 rfl 1 rfl hf (fun _ => rfl) (fun g1 hf => ?_)
    refine g_aload_n (pc' := 23) X dX2_append_22 rfl rfl rfl ?_
    refine g_dup (pc' := 24) X dX2_append_23 rfl rfl ?_
    refine g_get (pc' := 27) X fl_X2_33 dX2_append_24 rfl 0 rfl rfl ?_
    refine g_iconst (v := 1) (pc' := 28) X dX2_append_27 rfl (by decide) ?_
    refine g_iadd (pc' := 29) X dX2_append_28 rfl ?_
    refine g_putN (pc' := 32) (w2 := fun x2 => [oX2 q q_letters q_numbers q_range q_state x2 s_at, ac d q_letters 200 g1]) X fl_X2_33 fw_X2 rfl dX2_append_29 rfl 0 rfl (fun _ => rfl) (fun _ => rfl) (Nat.le_of_ble_eq_true rfl) (fun _ => rfl) hf (fun x2 hf => ?_)
    refine g_iconst (v := 1) (pc' := 33) X dX2_append_32 rfl (by decide) ?_
    cases hf
    exact hR _ _ dX2_append_33 rfl
  · refine g_iconst (v := 0) (pc' := 11) X dX2_append_10 rfl (by decide) ?_
    cases hf
    exact hR _ _ dX2_append_11 rfl
-- X3_setPins
def fX3_setPins (s_cells : Nat → Int32) (v1 : Int32) (v2 : Int32) (v3 : Int32) : Option ((Nat → Int32)) :=
  sx_lt ((v1 * (5 : Int32)) + v2) fun x1 =>
  if x1 < 0 then
    some s_cells
  else
    if (30 : Int32) ≤ x1 then
      some s_cells
    else
      sx_wr s_cells 42 x1 v3 fun g2 =>
      some g2
set_option maxHeartbeats 4000000 in
set_option maxRecDepth 100000 in
theorem ctX3_setPins (l : Launch) (d : sx_D) (q : Nat) (q_cells : Nat) (s_cells : Nat → Int32) (v1 : Int32) (v2 : Int32) (v3 : Int32) (ro1 : Nat → Int32) (hf : fX3_setPins s_cells v1 v2 v3 = some ro1) : sx_V l d yX3_setPins cX3_setPins 5 0 [.ref q, .int v1, .int v2, .int v3] [oX3 q q_cells, ai d q_cells 42 s_cells] [oX3 q q_cells, ai d q_cells 42 ro1] := by
  refine sx_V.intro (lv0 := [some (.ref q), some (.int v1), some (.int v2), some (.int v3), none]) (by decide +kernel) (Nat.le_of_ble_eq_true rfl) rfl ?_
  intro κ X hR
  have X : sx_X d κ cX3_setPins 5 RX3 (sx_rm 0) := X
  unfold fX3_setPins at hf
  refine g_iload_n (pc' := 1) X dX3_setPins_0 rfl rfl rfl ?_
  refine g_iconst (v := 5) (pc' := 2) X dX3_setPins_1 rfl (by decide) ?_
  refine g_imul (pc' := 3) X dX3_setPins_2 rfl ?_
  refine g_iload_n (pc' := 4) X dX3_setPins_3 rfl rfl rfl ?_
  refine g_iadd (pc' := 5) X dX3_setPins_4 rfl ?_
  refine g_istoreN (lv' := fun x1 => [some (.ref q), some (.int v1), some (.int v2), some (.int v3), some (.int x1)]) (pc' := 7) X dX3_setPins_5 rfl (by decide) rfl (fun _ => rfl) hf (fun x1 hf => ?_)
  refine g_iload (pc' := 9) X dX3_setPins_7 rfl rfl ?_
  refine g_if_lt (tgt := 27) (pc' := 12) X dX3_setPins_9 (by decide) rfl hf (fun hf => ?_) (fun hf => ?_)
  · cases hf
    exact hR _ _ dX3_setPins_27
  · refine g_iload (pc' := 14) X dX3_setPins_12 rfl rfl ?_
    refine g_bipush (v := 30) (pc' := 16) X dX3_setPins_14 rfl (by decide) ?_
    refine g_icmp_ge (tgt := 27) (pc' := 19) X dX3_setPins_16 (by decide) rfl hf (fun hf => ?_) (fun hf => ?_)
    · cases hf
      exact hR _ _ dX3_setPins_27
    · refine g_aload_n (pc' := 20) X dX3_setPins_19 rfl rfl rfl ?_
      refine g_get (pc' := 23) X fl_X3_9 dX3_setPins_20 rfl 0 rfl rfl ?_
      refine g_iload (pc' := 25) X dX3_setPins_23 rfl rfl ?_
      refine g_iload_n (pc' := 26) X dX3_setPins_25 rfl rfl rfl ?_
      refine g_iast (pc' := 27) (w2 := fun g2 => [oX3 q q_cells, ai d q_cells 42 g2]) X dX3_setPins_26 rfl 1 rfl hf (fun _ => rfl) (fun g2 hf => ?_)
      cases hf
      exact hR _ _ dX3_setPins_27
-- X4_isPins
def fX4_isPins (v0 : Int32) : Option (Int32) :=
  if v0 < (1 : Int32) then
    some (0 : Int32)
  else
    if (20 : Int32) < v0 then
      some (0 : Int32)
    else
      some (1 : Int32)
set_option maxHeartbeats 4000000 in
set_option maxRecDepth 100000 in
theorem ctX4_isPins (l : Launch) (d : sx_D) (v0 : Int32) (r : Int32) (hf : fX4_isPins v0 = some r) : sx_I l d yX4_isPins cX4_isPins 1 .boolean 0 [.int v0] [] [] r := by
  refine sx_I.intro (lv0 := [some (.int v0)]) (by decide +kernel) (Nat.le_of_ble_eq_true rfl) rfl ?_
  intro κ X hR
  have X : sx_X d κ cX4_isPins 1 RX4 (sx_rm 0) := X
  unfold fX4_isPins at hf
  refine g_iload_n (pc' := 1) X dX4_isPins_0 rfl rfl rfl ?_
  refine g_iconst (v := 1) (pc' := 2) X dX4_isPins_1 rfl (by decide) ?_
  refine g_icmp_lt (tgt := 15) (pc' := 5) X dX4_isPins_2 (by decide) rfl hf (fun hf => ?_) (fun hf => ?_)
  · refine g_iconst (v := 0) (pc' := 16) X dX4_isPins_15 rfl (by decide) ?_
    cases hf
    exact hR _ _ dX4_isPins_16 rfl
  · refine g_iload_n (pc' := 6) X dX4_isPins_5 rfl rfl rfl ?_
    refine g_bipush (v := 20) (pc' := 8) X dX4_isPins_6 rfl (by decide) ?_
    refine g_icmp_gt (tgt := 15) (pc' := 11) X dX4_isPins_8 (by decide) rfl hf (fun hf => ?_) (fun hf => ?_)
    · refine g_iconst (v := 0) (pc' := 16) X dX4_isPins_15 rfl (by decide) ?_
      cases hf
      exact hR _ _ dX4_isPins_16 rfl
    · refine g_iconst (v := 1) (pc' := 12) X dX4_isPins_11 rfl (by decide) ?_
      refine g_goto (tgt := 16) X dX4_isPins_12 (by decide) ?_
      cases hf
      exact hR _ _ dX4_isPins_16 rfl
-- X4_isTrimming
def fX4_isTrimming (v0 : Int32) : Option (Int32) :=
  if v0 < 0 then
    some (0 : Int32)
  else
    if (5 : Int32) ≤ v0 then
      some (0 : Int32)
    else
      some (1 : Int32)
set_option maxHeartbeats 4000000 in
set_option maxRecDepth 100000 in
theorem ctX4_isTrimming (l : Launch) (d : sx_D) (v0 : Int32) (r : Int32) (hf : fX4_isTrimming v0 = some r) : sx_I l d yX4_isTrimming cX4_isTrimming 1 .boolean 0 [.int v0] [] [] r := by
  refine sx_I.intro (lv0 := [some (.int v0)]) (by decide +kernel) (Nat.le_of_ble_eq_true rfl) rfl ?_
  intro κ X hR
  have X : sx_X d κ cX4_isTrimming 1 RX4 (sx_rm 0) := X
  unfold fX4_isTrimming at hf
  refine g_iload_n (pc' := 1) X dX4_isTrimming_0 rfl rfl rfl ?_
  refine g_if_lt (tgt := 13) (pc' := 4) X dX4_isTrimming_1 (by decide) rfl hf (fun hf => ?_) (fun hf => ?_)
  · refine g_iconst (v := 0) (pc' := 14) X dX4_isTrimming_13 rfl (by decide) ?_
    cases hf
    exact hR _ _ dX4_isTrimming_14 rfl
  · refine g_iload_n (pc' := 5) X dX4_isTrimming_4 rfl rfl rfl ?_
    refine g_iconst (v := 5) (pc' := 6) X dX4_isTrimming_5 rfl (by decide) ?_
    refine g_icmp_ge (tgt := 13) (pc' := 9) X dX4_isTrimming_6 (by decide) rfl hf (fun hf => ?_) (fun hf => ?_)
    · refine g_iconst (v := 0) (pc' := 14) X dX4_isTrimming_13 rfl (by decide) ?_
      cases hf
      exact hR _ _ dX4_isTrimming_14 rfl
    · refine g_iconst (v := 1) (pc' := 10) X dX4_isTrimming_9 rfl (by decide) ?_
      refine g_goto (tgt := 14) X dX4_isTrimming_10 (by decide) ?_
      cases hf
      exact hR _ _ dX4_isTrimming_14 rfl
-- X2_tellOn
def fX2_tellOn (s_range_peaks : Int32) (s_state_cells : Nat → Int32) (v1 : Int32) (v2 : Int32) (v3 : Int32) : Option (Int32 × (Nat → Int32)) :=
  (fX1_isPeak s_range_peaks v1).bind fun x1 =>
  if x1 = 0 then
    some ((0 : Int32), s_state_cells)
  else
    (fX4_isTrimming v2).bind fun x2 =>
    if x2 = 0 then
      some ((0 : Int32), s_state_cells)
    else
      (fX4_isPins v3).bind fun x3 =>
      if x3 = 0 then
        some ((0 : Int32), s_state_cells)
      else
        (fX3_setPins s_state_cells v1 v2 v3).bind fun o4 =>
        some ((1 : Int32), o4)
set_option maxHeartbeats 4000000 in
set_option maxRecDepth 100000 in
theorem ctX2_tellOn (l : Launch) (d : sx_D) (q : Nat) (q_letters : Nat) (q_numbers : Nat) (q_range : Nat) (q_state : Nat) (q_range_kinds : Nat) (q_range_heights : Nat) (q_range_winds : Nat) (q_state_cells : Nat) (s_length : Int32) (s_at : Int32) (s_range_peaks : Int32) (s_range_windsTold : Int32) (s_state_cells : Nat → Int32) (v1 : Int32) (v2 : Int32) (v3 : Int32) (r : Int32) (ro1 : Nat → Int32) (hf : fX2_tellOn s_range_peaks s_state_cells v1 v2 v3 = some (r, ro1)) : sx_I l d yX2_tellOn cX2_tellOn 4 .boolean 1 [.ref q, .int v1, .int v2, .int v3] [oX2 q q_letters q_numbers q_range q_state s_length s_at, oX1 q_range q_range_kinds q_range_heights q_range_winds s_range_peaks s_range_windsTold, oX3 q_state q_state_cells, ai d q_state_cells 42 s_state_cells] [oX2 q q_letters q_numbers q_range q_state s_length s_at, oX1 q_range q_range_kinds q_range_heights q_range_winds s_range_peaks s_range_windsTold, oX3 q_state q_state_cells, ai d q_state_cells 42 ro1] r := by
  refine sx_I.intro (lv0 := [some (.ref q), some (.int v1), some (.int v2), some (.int v3)]) (by decide +kernel) (Nat.le_of_ble_eq_true rfl) rfl ?_
  intro κ X hR
  have X : sx_X d κ cX2_tellOn 4 RX2 (sx_rm 1) := X
  unfold fX2_tellOn at hf
  refine g_aload_n (pc' := 1) X dX2_tellOn_0 rfl rfl rfl ?_
  refine g_get (pc' := 4) X fl_X2_22 dX2_tellOn_1 rfl 0 rfl rfl ?_
  refine g_iload_n (pc' := 5) X dX2_tellOn_4 rfl rfl rfl ?_
  refine g_callVi0 (pc' := 8) (As := [.int v1]) (b := q_range) (st := []) (w2 := fun x1 => [oX2 q q_letters q_numbers q_range q_state s_length s_at, oX1 q_range q_range_kinds q_range_heights q_range_winds s_range_peaks s_range_windsTold, oX3 q_state q_state_cells, ai d q_state_cells 42 s_state_cells]) X lk_X2_96 dX2_tellOn_5 rfl rfl rfl (Nat.le_of_ble_eq_true rfl) ⟨Nat.le_of_ble_eq_true rfl, Nat.le_of_ble_eq_true rfl, Nat.le_of_ble_eq_true rfl, Nat.le_of_ble_eq_true rfl⟩ rfl [1] (by decide) rfl hf (fun l x1 h => ctX1_isPeak l d q_range q_range_kinds q_range_heights q_range_winds s_range_peaks s_range_windsTold v1 x1 h) (fun _ => rfl) (fun _ => rfl) (fun x1 hnx1 hf => ?_)
  refine g_if_eq (tgt := 25) (pc' := 11) X dX2_tellOn_8 (by decide) rfl hf (fun hf => ?_) (fun hf => ?_)
  · refine g_iconst (v := 0) (pc' := 26) X dX2_tellOn_25 rfl (by decide) ?_
    cases hf
    exact hR _ _ dX2_tellOn_26 rfl
  · refine g_iload_n (pc' := 12) X dX2_tellOn_11 rfl rfl rfl ?_
    refine g_callSi0 (pc' := 15) (As := [.int v2]) (st := []) (w2 := fun x2 => [oX2 q q_letters q_numbers q_range q_state s_length s_at, oX1 q_range q_range_kinds q_range_heights q_range_winds s_range_peaks s_range_windsTold, oX3 q_state q_state_cells, ai d q_state_cells 42 s_state_cells]) X lk_X2_89 dX2_tellOn_12 rfl rfl rfl (Nat.le_of_ble_eq_true rfl) ⟨Nat.le_of_ble_eq_true rfl, Nat.le_of_ble_eq_true rfl, Nat.le_of_ble_eq_true rfl, Nat.le_of_ble_eq_true rfl⟩ [] (by decide) rfl hf (fun l x2 h => ctX4_isTrimming l d v2 x2 h) (fun _ => rfl) (fun _ => rfl) (fun x2 hnx2 hf => ?_)
    refine g_if_eq (tgt := 25) (pc' := 18) X dX2_tellOn_15 (by decide) rfl hf (fun hf => ?_) (fun hf => ?_)
    · refine g_iconst (v := 0) (pc' := 26) X dX2_tellOn_25 rfl (by decide) ?_
      cases hf
      exact hR _ _ dX2_tellOn_26 rfl
    · refine g_iload_n (pc' := 19) X dX2_tellOn_18 rfl rfl rfl ?_
      refine g_callSi0 (pc' := 22) (As := [.int v3]) (st := []) (w2 := fun x3 => [oX2 q q_letters q_numbers q_range q_state s_length s_at, oX1 q_range q_range_kinds q_range_heights q_range_winds s_range_peaks s_range_windsTold, oX3 q_state q_state_cells, ai d q_state_cells 42 s_state_cells]) X lk_X2_99 dX2_tellOn_19 rfl rfl rfl (Nat.le_of_ble_eq_true rfl) ⟨Nat.le_of_ble_eq_true rfl, Nat.le_of_ble_eq_true rfl, Nat.le_of_ble_eq_true rfl, Nat.le_of_ble_eq_true rfl⟩ [] (by decide) rfl hf (fun l x3 h => ctX4_isPins l d v3 x3 h) (fun _ => rfl) (fun _ => rfl) (fun x3 hnx3 hf => ?_)
      refine g_if_ne (tgt := 27) (pc' := 25) X dX2_tellOn_22 (by decide) rfl hf (fun hf => ?_) (fun hf => ?_)
      · refine g_aload_n (pc' := 28) X dX2_tellOn_27 rfl rfl rfl ?_
        refine g_get (pc' := 31) X fl_X2_29 dX2_tellOn_28 rfl 0 rfl rfl ?_
        refine g_iload_n (pc' := 32) X dX2_tellOn_31 rfl rfl rfl ?_
        refine g_iload_n (pc' := 33) X dX2_tellOn_32 rfl rfl rfl ?_
        refine g_iload_n (pc' := 34) X dX2_tellOn_33 rfl rfl rfl ?_
        refine g_callVv1 (pc' := 37) (As := [.int v1, .int v2, .int v3]) (b := q_state) (st := []) (w2 := fun o4 => [oX2 q q_letters q_numbers q_range q_state s_length s_at, oX1 q_range q_range_kinds q_range_heights q_range_winds s_range_peaks s_range_windsTold, oX3 q_state q_state_cells, ai d q_state_cells 42 o4]) X lk_X2_102 dX2_tellOn_34 rfl rfl rfl (Nat.le_of_ble_eq_true rfl) ⟨Nat.le_of_ble_eq_true rfl, Nat.le_of_ble_eq_true rfl, Nat.le_of_ble_eq_true rfl, Nat.le_of_ble_eq_true rfl⟩ rfl [2, 3] (by decide) rfl hf (fun l o4 h => ctX3_setPins l d q_state q_state_cells s_state_cells v1 v2 v3 o4 h) (fun _ => rfl) (fun _ => rfl) (fun o4 hf => ?_)
        refine g_iconst (v := 1) (pc' := 38) X dX2_tellOn_37 rfl (by decide) ?_
        cases hf
        exact hR _ _ dX2_tellOn_38 rfl
      · refine g_iconst (v := 0) (pc' := 26) X dX2_tellOn_25 rfl (by decide) ?_
        cases hf
        exact hR _ _ dX2_tellOn_26 rfl
-- X3_setStore
def fX3_setStore (s_cells : Nat → Int32) (v1 : Int32) (v2 : Int32) : Option ((Nat → Int32)) :=
  (fX4_isTrimming v1).bind fun x1 =>
  if x1 = 0 then
    some s_cells
  else
    sx_wr s_cells 42 ((30 : Int32) + v1) v2 fun g2 =>
    some g2
set_option maxHeartbeats 4000000 in
set_option maxRecDepth 100000 in
theorem ctX3_setStore (l : Launch) (d : sx_D) (q : Nat) (q_cells : Nat) (s_cells : Nat → Int32) (v1 : Int32) (v2 : Int32) (ro1 : Nat → Int32) (hf : fX3_setStore s_cells v1 v2 = some ro1) : sx_V l d yX3_setStore cX3_setStore 3 1 [.ref q, .int v1, .int v2] [oX3 q q_cells, ai d q_cells 42 s_cells] [oX3 q q_cells, ai d q_cells 42 ro1] := by
  refine sx_V.intro (lv0 := [some (.ref q), some (.int v1), some (.int v2)]) (by decide +kernel) (Nat.le_of_ble_eq_true rfl) rfl ?_
  intro κ X hR
  have X : sx_X d κ cX3_setStore 3 RX3 (sx_rm 1) := X
  unfold fX3_setStore at hf
  refine g_iload_n (pc' := 1) X dX3_setStore_0 rfl rfl rfl ?_
  refine g_callSi0 (pc' := 4) (As := [.int v1]) (st := []) (w2 := fun x1 => [oX3 q q_cells, ai d q_cells 42 s_cells]) X lk_X3_38 dX3_setStore_1 rfl rfl rfl (Nat.le_of_ble_eq_true rfl) ⟨Nat.le_of_ble_eq_true rfl, Nat.le_of_ble_eq_true rfl, Nat.le_of_ble_eq_true rfl, Nat.le_of_ble_eq_true rfl⟩ [] (by decide) rfl hf (fun l x1 h => ctX4_isTrimming l d v1 x1 h) (fun _ => rfl) (fun _ => rfl) (fun x1 hnx1 hf => ?_)
  refine g_if_eq (tgt := 17) (pc' := 7) X dX3_setStore_4 (by decide) rfl hf (fun hf => ?_) (fun hf => ?_)
  · cases hf
    exact hR _ _ dX3_setStore_17
  · refine g_aload_n (pc' := 8) X dX3_setStore_7 rfl rfl rfl ?_
    refine g_get (pc' := 11) X fl_X3_9 dX3_setStore_8 rfl 0 rfl rfl ?_
    refine g_bipush (v := 30) (pc' := 13) X dX3_setStore_11 rfl (by decide) ?_
    refine g_iload_n (pc' := 14) X dX3_setStore_13 rfl rfl rfl ?_
    refine g_iadd (pc' := 15) X dX3_setStore_14 rfl ?_
    refine g_iload_n (pc' := 16) X dX3_setStore_15 rfl rfl rfl ?_
    refine g_iast (pc' := 17) (w2 := fun g2 => [oX3 q q_cells, ai d q_cells 42 g2]) X dX3_setStore_16 rfl 1 rfl hf (fun _ => rfl) (fun g2 hf => ?_)
    cases hf
    exact hR _ _ dX3_setStore_17
-- X2_tellStore
def fX2_tellStore (s_state_cells : Nat → Int32) (v1 : Int32) (v2 : Int32) : Option (Int32 × (Nat → Int32)) :=
  (fX4_isTrimming v1).bind fun x1 =>
  if x1 = 0 then
    some ((0 : Int32), s_state_cells)
  else
    if v2 < 0 then
      some ((0 : Int32), s_state_cells)
    else
      if v2 ≤ (9 : Int32) then
        (fX3_setStore s_state_cells v1 v2).bind fun o2 =>
        some ((1 : Int32), o2)
      else
        some ((0 : Int32), s_state_cells)
set_option maxHeartbeats 4000000 in
set_option maxRecDepth 100000 in
theorem ctX2_tellStore (l : Launch) (d : sx_D) (q : Nat) (q_letters : Nat) (q_numbers : Nat) (q_range : Nat) (q_state : Nat) (q_state_cells : Nat) (s_length : Int32) (s_at : Int32) (s_state_cells : Nat → Int32) (v1 : Int32) (v2 : Int32) (r : Int32) (ro1 : Nat → Int32) (hf : fX2_tellStore s_state_cells v1 v2 = some (r, ro1)) : sx_I l d yX2_tellStore cX2_tellStore 3 .boolean 2 [.ref q, .int v1, .int v2] [oX2 q q_letters q_numbers q_range q_state s_length s_at, oX3 q_state q_state_cells, ai d q_state_cells 42 s_state_cells] [oX2 q q_letters q_numbers q_range q_state s_length s_at, oX3 q_state q_state_cells, ai d q_state_cells 42 ro1] r := by
  refine sx_I.intro (lv0 := [some (.ref q), some (.int v1), some (.int v2)]) (by decide +kernel) (Nat.le_of_ble_eq_true rfl) rfl ?_
  intro κ X hR
  have X : sx_X d κ cX2_tellStore 3 RX2 (sx_rm 2) := X
  unfold fX2_tellStore at hf
  refine g_iload_n (pc' := 1) X dX2_tellStore_0 rfl rfl rfl ?_
  refine g_callSi0 (pc' := 4) (As := [.int v1]) (st := []) (w2 := fun x1 => [oX2 q q_letters q_numbers q_range q_state s_length s_at, oX3 q_state q_state_cells, ai d q_state_cells 42 s_state_cells]) X lk_X2_89 dX2_tellStore_1 rfl rfl rfl (Nat.le_of_ble_eq_true rfl) ⟨Nat.le_of_ble_eq_true rfl, Nat.le_of_ble_eq_true rfl, Nat.le_of_ble_eq_true rfl, Nat.le_of_ble_eq_true rfl⟩ [] (by decide) rfl hf (fun l x1 h => ctX4_isTrimming l d v1 x1 h) (fun _ => rfl) (fun _ => rfl) (fun x1 hnx1 hf => ?_)
  refine g_if_eq (tgt := 17) (pc' := 7) X dX2_tellStore_4 (by decide) rfl hf (fun hf => ?_) (fun hf => ?_)
  · refine g_iconst (v := 0) (pc' := 18) X dX2_tellStore_17 rfl (by decide) ?_
    cases hf
    exact hR _ _ dX2_tellStore_18 rfl
  · refine g_iload_n (pc' := 8) X dX2_tellStore_7 rfl rfl rfl ?_
    refine g_if_lt (tgt := 17) (pc' := 11) X dX2_tellStore_8 (by decide) rfl hf (fun hf => ?_) (fun hf => ?_)
    · refine g_iconst (v := 0) (pc' := 18) X dX2_tellStore_17 rfl (by decide) ?_
      cases hf
      exact hR _ _ dX2_tellStore_18 rfl
    · refine g_iload_n (pc' := 12) X dX2_tellStore_11 rfl rfl rfl ?_
      refine g_bipush (v := 9) (pc' := 14) X dX2_tellStore_12 rfl (by decide) ?_
      refine g_icmp_le (tgt := 19) (pc' := 17) X dX2_tellStore_14 (by decide) rfl hf (fun hf => ?_) (fun hf => ?_)
      · refine g_aload_n (pc' := 20) X dX2_tellStore_19 rfl rfl rfl ?_
        refine g_get (pc' := 23) X fl_X2_29 dX2_tellStore_20 rfl 0 rfl rfl ?_
        refine g_iload_n (pc' := 24) X dX2_tellStore_23 rfl rfl rfl ?_
        refine g_iload_n (pc' := 25) X dX2_tellStore_24 rfl rfl rfl ?_
        refine g_callVv1 (pc' := 28) (As := [.int v1, .int v2]) (b := q_state) (st := []) (w2 := fun o2 => [oX2 q q_letters q_numbers q_range q_state s_length s_at, oX3 q_state q_state_cells, ai d q_state_cells 42 o2]) X lk_X2_92 dX2_tellStore_25 rfl rfl rfl (Nat.le_of_ble_eq_true rfl) ⟨Nat.le_of_ble_eq_true rfl, Nat.le_of_ble_eq_true rfl, Nat.le_of_ble_eq_true rfl, Nat.le_of_ble_eq_true rfl⟩ rfl [1, 2] (by decide) rfl hf (fun l o2 h => ctX3_setStore l d q_state q_state_cells s_state_cells v1 v2 o2 h) (fun _ => rfl) (fun _ => rfl) (fun o2 hf => ?_)
        refine g_iconst (v := 1) (pc' := 29) X dX2_tellStore_28 rfl (by decide) ?_
        cases hf
        exact hR _ _ dX2_tellStore_29 rfl
      · refine g_iconst (v := 0) (pc' := 18) X dX2_tellStore_17 rfl (by decide) ?_
        cases hf
        exact hR _ _ dX2_tellStore_18 rfl
-- X2_heed
def fX2_heed (s_numbers : Nat → Int32) (s_range_peaks : Int32) (s_range_windsTold : Int32) (s_range_kinds : Nat → Int32) (s_range_heights : Nat → Int32) (s_range_winds : Nat → Int32) (s_state_cells : Nat → Int32) (v1 : Int32) : Option (Int32 × Int32 × Int32 × (Nat → Int32) × (Nat → Int32) × (Nat → Int32) × (Nat → Int32)) :=
  if v1 = (112 : Int32) then
    sx_rd s_numbers 3 (0 : Int32) fun x14 =>
    sx_rd s_numbers 3 (1 : Int32) fun x15 =>
    (fX1_tellPeak s_range_peaks s_range_kinds s_range_heights x14 x15).bind fun (x16, o17, o18, o19) =>
    some (x16, o17, s_range_windsTold, o18, o19, s_range_winds, s_state_cells)
  else
    if v1 = (115 : Int32) then
      sx_rd s_numbers 3 (0 : Int32) fun x10 =>
      sx_rd s_numbers 3 (1 : Int32) fun x11 =>
      (fX2_tellStore s_state_cells x10 x11).bind fun (x12, o13) =>
      some (x12, s_range_peaks, s_range_windsTold, s_range_kinds, s_range_heights, s_range_winds, o13)
    else
      if v1 = (111 : Int32) then
        sx_rd s_numbers 3 (0 : Int32) fun x5 =>
        sx_rd s_numbers 3 (1 : Int32) fun x6 =>
        sx_rd s_numbers 3 (2 : Int32) fun x7 =>
        (fX2_tellOn s_range_peaks s_state_cells x5 x6 x7).bind fun (x8, o9) =>
        some (x8, s_range_peaks, s_range_windsTold, s_range_kinds, s_range_heights, s_range_winds, o9)
      else
        if v1 = (119 : Int32) then
          sx_rd s_numbers 3 (0 : Int32) fun x1 =>
          (fX1_tellWind s_range_windsTold s_range_winds x1).bind fun (x2, o3, o4) =>
          if x2 = 0 then
            some ((0 : Int32), s_range_peaks, o3, s_range_kinds, s_range_heights, o4, s_state_cells)
          else
            some ((1 : Int32), s_range_peaks, o3, s_range_kinds, s_range_heights, o4, s_state_cells)
        else
          some ((0 : Int32), s_range_peaks, s_range_windsTold, s_range_kinds, s_range_heights, s_range_winds, s_state_cells)
set_option maxHeartbeats 4000000 in
set_option maxRecDepth 100000 in
theorem ctX2_heed (l : Launch) (d : sx_D) (q : Nat) (q_letters : Nat) (q_numbers : Nat) (q_range : Nat) (q_state : Nat) (q_range_kinds : Nat) (q_range_heights : Nat) (q_range_winds : Nat) (q_state_cells : Nat) (s_length : Int32) (s_at : Int32) (s_numbers : Nat → Int32) (s_range_peaks : Int32) (s_range_windsTold : Int32) (s_range_kinds : Nat → Int32) (s_range_heights : Nat → Int32) (s_range_winds : Nat → Int32) (s_state_cells : Nat → Int32) (v1 : Int32) (r : Int32) (ro1 : Int32) (ro2 : Int32) (ro3 : Nat → Int32) (ro4 : Nat → Int32) (ro5 : Nat → Int32) (ro6 : Nat → Int32) (hf : fX2_heed s_numbers s_range_peaks s_range_windsTold s_range_kinds s_range_heights s_range_winds s_state_cells v1 = some (r, ro1, ro2, ro3, ro4, ro5, ro6)) : sx_I l d yX2_heed cX2_heed 2 .boolean 3 [.ref q, .int v1] [oX2 q q_letters q_numbers q_range q_state s_length s_at, ai d q_numbers 3 s_numbers, oX1 q_range q_range_kinds q_range_heights q_range_winds s_range_peaks s_range_windsTold, ai d q_range_kinds 6 s_range_kinds, ai d q_range_heights 6 s_range_heights, ai d q_range_winds 12 s_range_winds, oX3 q_state q_state_cells, ai d q_state_cells 42 s_state_cells] [oX2 q q_letters q_numbers q_range q_state s_length s_at, ai d q_numbers 3 s_numbers, oX1 q_range q_range_kinds q_range_heights q_range_winds ro1 ro2, ai d q_range_kinds 6 ro3, ai d q_range_heights 6 ro4, ai d q_range_winds 12 ro5, oX3 q_state q_state_cells, ai d q_state_cells 42 ro6] r := by
  refine sx_I.intro (lv0 := [some (.ref q), some (.int v1)]) (by decide +kernel) (Nat.le_of_ble_eq_true rfl) rfl ?_
  intro κ X hR
  have X : sx_X d κ cX2_heed 2 RX2 (sx_rm 3) := X
  unfold fX2_heed at hf
  refine g_iload_n (pc' := 1) X dX2_heed_0 rfl rfl rfl ?_
  refine g_bipush (v := 112) (pc' := 3) X dX2_heed_1 rfl (by decide) ?_
  refine g_icmp_ne (tgt := 26) (pc' := 6) X dX2_heed_3 (by decide) rfl hf (fun hf => ?_) (fun hf => ?_)
  · refine g_iload_n (pc' := 27) X dX2_heed_26 rfl rfl rfl ?_
    refine g_bipush (v := 115) (pc' := 29) X dX2_heed_27 rfl (by decide) ?_
    refine g_icmp_ne (tgt := 49) (pc' := 32) X dX2_heed_29 (by decide) rfl hf (fun hf => ?_) (fun hf => ?_)
    · refine g_iload_n (pc' := 50) X dX2_heed_49 rfl rfl rfl ?_
      refine g_bipush (v := 111) (pc' := 52) X dX2_heed_50 rfl (by decide) ?_
      refine g_icmp_ne (tgt := 78) (pc' := 55) X dX2_heed_52 (by decide) rfl hf (fun hf => ?_) (fun hf => ?_)
      · refine g_iload_n (pc' := 79) X dX2_heed_78 rfl rfl rfl ?_
        refine g_bipush (v := 119) (pc' := 81) X dX2_heed_79 rfl (by decide) ?_
        refine g_icmp_ne (tgt := 104) (pc' := 84) X dX2_heed_81 (by decide) rfl hf (fun hf => ?_) (fun hf => ?_)
        · refine g_iconst (v := 0) (pc' := 105) X dX2_heed_104 rfl (by decide) ?_
          cases hf
          exact hR _ _ dX2_heed_105 rfl
        · refine g_aload_n (pc' := 85) X dX2_heed_84 rfl rfl rfl ?_
          refine g_get (pc' := 88) X fl_X2_22 dX2_heed_85 rfl 0 rfl rfl ?_
          refine g_aload_n (pc' := 89) X dX2_heed_88 rfl rfl rfl ?_
          refine g_get (pc' := 92) X fl_X2_15 dX2_heed_89 rfl 0 rfl rfl ?_
          refine g_iconst (v := 0) (pc' := 93) X dX2_heed_92 rfl (by decide) ?_
          refine g_iald (pc' := 94) X dX2_heed_93 rfl 1 rfl hf (fun x1 hf => ?_)
          refine g_callVi2 (pc' := 97) (As := [.int x1]) (b := q_range) (st := []) (w2 := fun x2 o3 o4 => [oX2 q q_letters q_numbers q_range q_state s_length s_at, ai d q_numbers 3 s_numbers, oX1 q_range q_range_kinds q_range_heights q_range_winds s_range_peaks o3, ai d q_range_kinds 6 s_range_kinds, ai d q_range_heights 6 s_range_heights, ai d q_range_winds 12 o4, oX3 q_state q_state_cells, ai d q_state_cells 42 s_state_cells]) X lk_X2_85 dX2_heed_94 rfl rfl rfl (Nat.le_of_ble_eq_true rfl) ⟨Nat.le_of_ble_eq_true rfl, Nat.le_of_ble_eq_true rfl, Nat.le_of_ble_eq_true rfl, Nat.le_of_ble_eq_true rfl⟩ rfl [2, 5] (by decide) rfl hf (fun l x2 o3 o4 h => ctX1_tellWind l d q_range q_range_kinds q_range_heights q_range_winds s_range_peaks s_range_windsTold s_range_winds x1 x2 o3 o4 h) (fun _ _ _ => rfl) (fun _ _ _ => rfl) (fun x2 o3 o4 hnx2 hf => ?_)
          refine g_if_eq (tgt := 104) (pc' := 100) X dX2_heed_97 (by decide) rfl hf (fun hf => ?_) (fun hf => ?_)
          · refine g_iconst (v := 0) (pc' := 105) X dX2_heed_104 rfl (by decide) ?_
            cases hf
            exact hR _ _ dX2_heed_105 rfl
          · refine g_iconst (v := 1) (pc' := 101) X dX2_heed_100 rfl (by decide) ?_
            refine g_goto (tgt := 105) X dX2_heed_101 (by decide) ?_
            cases hf
            exact hR _ _ dX2_heed_105 rfl
      · refine g_aload_n (pc' := 56) X dX2_heed_55 rfl rfl rfl ?_
        refine g_aload_n (pc' := 57) X dX2_heed_56 rfl rfl rfl ?_
        refine g_get (pc' := 60) X fl_X2_15 dX2_heed_57 rfl 0 rfl rfl ?_
        refine g_iconst (v := 0) (pc' := 61) X dX2_heed_60 rfl (by decide) ?_
        refine g_iald (pc' := 62) X dX2_heed_61 rfl 1 rfl hf (fun x5 hf => ?_)
        refine g_aload_n (pc' := 63) X dX2_heed_62 rfl rfl rfl ?_
        refine g_get (pc' := 66) X fl_X2_15 dX2_heed_63 rfl 0 rfl rfl ?_
        refine g_iconst (v := 1) (pc' := 67) X dX2_heed_66 rfl (by decide) ?_
        refine g_iald (pc' := 68) X dX2_heed_67 rfl 1 rfl hf (fun x6 hf => ?_)
        refine g_aload_n (pc' := 69) X dX2_heed_68 rfl rfl rfl ?_
        refine g_get (pc' := 72) X fl_X2_15 dX2_heed_69 rfl 0 rfl rfl ?_
        refine g_iconst (v := 2) (pc' := 73) X dX2_heed_72 rfl (by decide) ?_
        refine g_iald (pc' := 74) X dX2_heed_73 rfl 1 rfl hf (fun x7 hf => ?_)
        refine g_callVi1 (pc' := 77) (As := [.int x5, .int x6, .int x7]) (b := q) (st := []) (w2 := fun x8 o9 => [oX2 q q_letters q_numbers q_range q_state s_length s_at, ai d q_numbers 3 s_numbers, oX1 q_range q_range_kinds q_range_heights q_range_winds s_range_peaks s_range_windsTold, ai d q_range_kinds 6 s_range_kinds, ai d q_range_heights 6 s_range_heights, ai d q_range_winds 12 s_range_winds, oX3 q_state q_state_cells, ai d q_state_cells 42 o9]) X lk_X2_81 dX2_heed_74 rfl rfl rfl (Nat.le_of_ble_eq_true rfl) ⟨Nat.le_of_ble_eq_true rfl, Nat.le_of_ble_eq_true rfl, Nat.le_of_ble_eq_true rfl, Nat.le_of_ble_eq_true rfl⟩ rfl [0, 2, 6, 7] (by decide) rfl hf (fun l x8 o9 h => ctX2_tellOn l d q q_letters q_numbers q_range q_state q_range_kinds q_range_heights q_range_winds q_state_cells s_length s_at s_range_peaks s_range_windsTold s_state_cells x5 x6 x7 x8 o9 h) (fun _ _ => rfl) (fun _ _ => rfl) (fun x8 o9 hnx8 hf => ?_)
        cases hf
        exact hR _ _ dX2_heed_77 hnx8
    · refine g_aload_n (pc' := 33) X dX2_heed_32 rfl rfl rfl ?_
      refine g_aload_n (pc' := 34) X dX2_heed_33 rfl rfl rfl ?_
      refine g_get (pc' := 37) X fl_X2_15 dX2_heed_34 rfl 0 rfl rfl ?_
      refine g_iconst (v := 0) (pc' := 38) X dX2_heed_37 rfl (by decide) ?_
      refine g_iald (pc' := 39) X dX2_heed_38 rfl 1 rfl hf (fun x10 hf => ?_)
      refine g_aload_n (pc' := 40) X dX2_heed_39 rfl rfl rfl ?_
      refine g_get (pc' := 43) X fl_X2_15 dX2_heed_40 rfl 0 rfl rfl ?_
      refine g_iconst (v := 1) (pc' := 44) X dX2_heed_43 rfl (by decide) ?_
      refine g_iald (pc' := 45) X dX2_heed_44 rfl 1 rfl hf (fun x11 hf => ?_)
      refine g_callVi1 (pc' := 48) (As := [.int x10, .int x11]) (b := q) (st := []) (w2 := fun x12 o13 => [oX2 q q_letters q_numbers q_range q_state s_length s_at, ai d q_numbers 3 s_numbers, oX1 q_range q_range_kinds q_range_heights q_range_winds s_range_peaks s_range_windsTold, ai d q_range_kinds 6 s_range_kinds, ai d q_range_heights 6 s_range_heights, ai d q_range_winds 12 s_range_winds, oX3 q_state q_state_cells, ai d q_state_cells 42 o13]) X lk_X2_78 dX2_heed_45 rfl rfl rfl (Nat.le_of_ble_eq_true rfl) ⟨Nat.le_of_ble_eq_true rfl, Nat.le_of_ble_eq_true rfl, Nat.le_of_ble_eq_true rfl, Nat.le_of_ble_eq_true rfl⟩ rfl [0, 6, 7] (by decide) rfl hf (fun l x12 o13 h => ctX2_tellStore l d q q_letters q_numbers q_range q_state q_state_cells s_length s_at s_state_cells x10 x11 x12 o13 h) (fun _ _ => rfl) (fun _ _ => rfl) (fun x12 o13 hnx12 hf => ?_)
      cases hf
      exact hR _ _ dX2_heed_48 hnx12
  · refine g_aload_n (pc' := 7) X dX2_heed_6 rfl rfl rfl ?_
    refine g_get (pc' := 10) X fl_X2_22 dX2_heed_7 rfl 0 rfl rfl ?_
    refine g_aload_n (pc' := 11) X dX2_heed_10 rfl rfl rfl ?_
    refine g_get (pc' := 14) X fl_X2_15 dX2_heed_11 rfl 0 rfl rfl ?_
    refine g_iconst (v := 0) (pc' := 15) X dX2_heed_14 rfl (by decide) ?_
    refine g_iald (pc' := 16) X dX2_heed_15 rfl 1 rfl hf (fun x14 hf => ?_)
    refine g_aload_n (pc' := 17) X dX2_heed_16 rfl rfl rfl ?_
    refine g_get (pc' := 20) X fl_X2_15 dX2_heed_17 rfl 0 rfl rfl ?_
    refine g_iconst (v := 1) (pc' := 21) X dX2_heed_20 rfl (by decide) ?_
    refine g_iald (pc' := 22) X dX2_heed_21 rfl 1 rfl hf (fun x15 hf => ?_)
    refine g_callVi3 (pc' := 25) (As := [.int x14, .int x15]) (b := q_range) (st := []) (w2 := fun x16 o17 o18 o19 => [oX2 q q_letters q_numbers q_range q_state s_length s_at, ai d q_numbers 3 s_numbers, oX1 q_range q_range_kinds q_range_heights q_range_winds o17 s_range_windsTold, ai d q_range_kinds 6 o18, ai d q_range_heights 6 o19, ai d q_range_winds 12 s_range_winds, oX3 q_state q_state_cells, ai d q_state_cells 42 s_state_cells]) X lk_X2_74 dX2_heed_22 rfl rfl rfl (Nat.le_of_ble_eq_true rfl) ⟨Nat.le_of_ble_eq_true rfl, Nat.le_of_ble_eq_true rfl, Nat.le_of_ble_eq_true rfl, Nat.le_of_ble_eq_true rfl⟩ rfl [2, 3, 4] (by decide) rfl hf (fun l x16 o17 o18 o19 h => ctX1_tellPeak l d q_range q_range_kinds q_range_heights q_range_winds s_range_peaks s_range_windsTold s_range_kinds s_range_heights x14 x15 x16 o17 o18 o19 h) (fun _ _ _ _ => rfl) (fun _ _ _ _ => rfl) (fun x16 o17 o18 o19 hnx16 hf => ?_)
    cases hf
    exact hR _ _ dX2_heed_25 hnx16
-- X2_letterAt
def fX2_letterAt (s_length : Int32) (s_letters : Nat → Int32) (v1 : Int32) : Option (Int32) :=
  if v1 < 0 then
    some (32 : Int32)
  else
    if s_length ≤ v1 then
      some (32 : Int32)
    else
      if (200 : Int32) ≤ v1 then
        some (32 : Int32)
      else
        sx_rd s_letters 200 v1 fun x1 =>
        sx_ok8 .char x1 <|
        some x1
set_option maxHeartbeats 4000000 in
set_option maxRecDepth 100000 in
theorem ctX2_letterAt (l : Launch) (d : sx_D) (q : Nat) (q_letters : Nat) (q_numbers : Nat) (q_range : Nat) (q_state : Nat) (s_length : Int32) (s_at : Int32) (s_letters : Nat → Int32) (v1 : Int32) (r : Int32) (hf : fX2_letterAt s_length s_letters v1 = some r) : sx_I l d yX2_letterAt cX2_letterAt 2 .char 0 [.ref q, .int v1] [oX2 q q_letters q_numbers q_range q_state s_length s_at, ac d q_letters 200 s_letters] [oX2 q q_letters q_numbers q_range q_state s_length s_at, ac d q_letters 200 s_letters] r := by
  refine sx_I.intro (lv0 := [some (.ref q), some (.int v1)]) (by decide +kernel) (Nat.le_of_ble_eq_true rfl) rfl ?_
  intro κ X hR
  have X : sx_X d κ cX2_letterAt 2 RX2 (sx_rm 0) := X
  unfold fX2_letterAt at hf
  refine g_iload_n (pc' := 1) X dX2_letterAt_0 rfl rfl rfl ?_
  refine g_if_lt (tgt := 28) (pc' := 4) X dX2_letterAt_1 (by decide) rfl hf (fun hf => ?_) (fun hf => ?_)
  · refine g_bipush (v := 32) (pc' := 30) X dX2_letterAt_28 rfl (by decide) ?_
    cases hf
    exact hR _ _ dX2_letterAt_30 rfl
  · refine g_iload_n (pc' := 5) X dX2_letterAt_4 rfl rfl rfl ?_
    refine g_aload_n (pc' := 6) X dX2_letterAt_5 rfl rfl rfl ?_
    refine g_get (pc' := 9) X fl_X2_33 dX2_letterAt_6 rfl 0 rfl rfl ?_
    refine g_icmp_ge (tgt := 28) (pc' := 12) X dX2_letterAt_9 (by decide) rfl hf (fun hf => ?_) (fun hf => ?_)
    · refine g_bipush (v := 32) (pc' := 30) X dX2_letterAt_28 rfl (by decide) ?_
      cases hf
      exact hR _ _ dX2_letterAt_30 rfl
    · refine g_iload_n (pc' := 13) X dX2_letterAt_12 rfl rfl rfl ?_
      refine g_sipush (v := 200) (pc' := 16) X dX2_letterAt_13 rfl (by decide) ?_
      refine g_icmp_ge (tgt := 28) (pc' := 19) X dX2_letterAt_16 (by decide) rfl hf (fun hf => ?_) (fun hf => ?_)
      · refine g_bipush (v := 32) (pc' := 30) X dX2_letterAt_28 rfl (by decide) ?_
        cases hf
        exact hR _ _ dX2_letterAt_30 rfl
      · refine g_aload_n (pc' := 20) X dX2_letterAt_19 rfl rfl rfl ?_
        refine g_get (pc' := 23) X fl_X2_9 dX2_letterAt_20 rfl 0 rfl rfl ?_
        refine g_iload_n (pc' := 24) X dX2_letterAt_23 rfl rfl rfl ?_
        refine g_cald (pc' := 25) X dX2_letterAt_24 rfl 1 rfl hf (fun x1 hf => ?_)
        refine g_goto (tgt := 30) X dX2_letterAt_25 (by decide) ?_
        obtain ⟨hn8, hf⟩ := sx_ok8_s (fun _ => rfl) hf
        cases hf
        exact hR _ _ dX2_letterAt_30 hn8
-- X2_numbersBehind
def fX2_numbersBehind (v0 : Int32) : Option (Int32) :=
  if v0 = (111 : Int32) then
    some (3 : Int32)
  else
    if v0 = (119 : Int32) then
      some (1 : Int32)
    else
      if v0 = (112 : Int32) then
        some (2 : Int32)
      else
        if v0 = (115 : Int32) then
          some (2 : Int32)
        else
          some (0 : Int32)
set_option maxHeartbeats 4000000 in
set_option maxRecDepth 100000 in
theorem ctX2_numbersBehind (l : Launch) (d : sx_D) (v0 : Int32) (r : Int32) (hf : fX2_numbersBehind v0 = some r) : sx_I l d yX2_numbersBehind cX2_numbersBehind 1 .int 0 [.int v0] [] [] r := by
  refine sx_I.intro (lv0 := [some (.int v0)]) (by decide +kernel) (Nat.le_of_ble_eq_true rfl) rfl ?_
  intro κ X hR
  have X : sx_X d κ cX2_numbersBehind 1 RX2 (sx_rm 0) := X
  unfold fX2_numbersBehind at hf
  refine g_iload_n (pc' := 1) X dX2_numbersBehind_0 rfl rfl rfl ?_
  refine g_bipush (v := 111) (pc' := 3) X dX2_numbersBehind_1 rfl (by decide) ?_
  refine g_icmp_ne (tgt := 8) (pc' := 6) X dX2_numbersBehind_3 (by decide) rfl hf (fun hf => ?_) (fun hf => ?_)
  · refine g_iload_n (pc' := 9) X dX2_numbersBehind_8 rfl rfl rfl ?_
    refine g_bipush (v := 119) (pc' := 11) X dX2_numbersBehind_9 rfl (by decide) ?_
    refine g_icmp_ne (tgt := 18) (pc' := 14) X dX2_numbersBehind_11 (by decide) rfl hf (fun hf => ?_) (fun hf => ?_)
    · refine g_iload_n (pc' := 19) X dX2_numbersBehind_18 rfl rfl rfl ?_
      refine g_bipush (v := 112) (pc' := 21) X dX2_numbersBehind_19 rfl (by decide) ?_
      refine g_icmp_eq (tgt := 30) (pc' := 24) X dX2_numbersBehind_21 (by decide) rfl hf (fun hf => ?_) (fun hf => ?_)
      · refine g_iconst (v := 2) (pc' := 31) X dX2_numbersBehind_30 rfl (by decide) ?_
        refine g_goto (tgt := 35) X dX2_numbersBehind_31 (by decide) ?_
        cases hf
        exact hR _ _ dX2_numbersBehind_35 rfl
      · refine g_iload_n (pc' := 25) X dX2_numbersBehind_24 rfl rfl rfl ?_
        refine g_bipush (v := 115) (pc' := 27) X dX2_numbersBehind_25 rfl (by decide) ?_
        refine g_icmp_ne (tgt := 34) (pc' := 30) X dX2_numbersBehind_27 (by decide) rfl hf (fun hf => ?_) (fun hf => ?_)
        · refine g_iconst (v := 0) (pc' := 35) X dX2_numbersBehind_34 rfl (by decide) ?_
          cases hf
          exact hR _ _ dX2_numbersBehind_35 rfl
        · refine g_iconst (v := 2) (pc' := 31) X dX2_numbersBehind_30 rfl (by decide) ?_
          refine g_goto (tgt := 35) X dX2_numbersBehind_31 (by decide) ?_
          cases hf
          exact hR _ _ dX2_numbersBehind_35 rfl
    · refine g_iconst (v := 1) (pc' := 15) X dX2_numbersBehind_14 rfl (by decide) ?_
      refine g_goto (tgt := 35) X dX2_numbersBehind_15 (by decide) ?_
      cases hf
      exact hR _ _ dX2_numbersBehind_35 rfl
  · refine g_iconst (v := 3) (pc' := 7) X dX2_numbersBehind_6 rfl (by decide) ?_
    cases hf
    exact hR _ _ dX2_numbersBehind_7 rfl
-- X2_readNumber
def fX2_readNumber (s_length : Int32) (s_at : Int32) (s_letters : Nat → Int32) : Option (Int32 × Int32) :=
  (fX2_letterAt s_length s_letters s_at).bind fun x1 =>
  sx_lt (x1 - (48 : Int32)) fun x2 =>
  if x2 < 0 then
    some ((-1 : Int32), s_at)
  else
    if x2 ≤ (9 : Int32) then
      sx_lt (s_at + (1 : Int32)) fun x3 =>
      (fX2_letterAt s_length s_letters x3).bind fun x4 =>
      sx_lt (x4 - (48 : Int32)) fun x5 =>
      if x5 < 0 then
        some (x2, x3)
      else
        if x5 ≤ (9 : Int32) then
          sx_lt (x3 + (1 : Int32)) fun x6 =>
          some (((10 : Int32) * x2) + x5, x6)
        else
          some (x2, x3)
    else
      some ((-1 : Int32), s_at)
set_option maxHeartbeats 4000000 in
set_option maxRecDepth 100000 in
theorem ctX2_readNumber (l : Launch) (d : sx_D) (q : Nat) (q_letters : Nat) (q_numbers : Nat) (q_range : Nat) (q_state : Nat) (s_length : Int32) (s_at : Int32) (s_letters : Nat → Int32) (r : Int32) (ro1 : Int32) (hf : fX2_readNumber s_length s_at s_letters = some (r, ro1)) : sx_I l d yX2_readNumber cX2_readNumber 3 .int 1 [.ref q] [oX2 q q_letters q_numbers q_range q_state s_length s_at, ac d q_letters 200 s_letters] [oX2 q q_letters q_numbers q_range q_state s_length ro1, ac d q_letters 200 s_letters] r := by
  refine sx_I.intro (lv0 := [some (.ref q), none, none]) (by decide +kernel) (Nat.le_of_ble_eq_true rfl) rfl ?_
  intro κ X hR
  have X : sx_X d κ cX2_readNumber 3 RX2 (sx_rm 1) := X
  unfold fX2_readNumber at hf
  refine g_aload_n (pc' := 1) X dX2_readNumber_0 rfl rfl rfl ?_
  refine g_aload_n (pc' := 2) X dX2_readNumber_1 rfl rfl rfl ?_
  refine g_get (pc' := 5) X fl_X2_54 dX2_readNumber_2 rfl 0 rfl rfl ?_
  refine g_callVi0 (pc' := 8) (As := [.int s_at]) (b := q) (st := []) (w2 := fun x1 => [oX2 q q_letters q_numbers q_range q_state s_length s_at, ac d q_letters 200 s_letters]) X lk_X2_61 dX2_readNumber_5 rfl rfl rfl (Nat.le_of_ble_eq_true rfl) ⟨Nat.le_of_ble_eq_true rfl, Nat.le_of_ble_eq_true rfl, Nat.le_of_ble_eq_true rfl, Nat.le_of_ble_eq_true rfl⟩ rfl [0, 1] (by decide) rfl hf (fun l x1 h => ctX2_letterAt l d q q_letters q_numbers q_range q_state s_length s_at s_letters s_at x1 h) (fun _ => rfl) (fun _ => rfl) (fun x1 hnx1 hf => ?_)
  refine g_bipush (v := 48) (pc' := 10) X dX2_readNumber_8 rfl (by decide) ?_
  refine g_isub (pc' := 11) X dX2_readNumber_10 rfl ?_
  refine g_istore_nN (lv' := fun x2 => [some (.ref q), some (.int x2), none]) (pc' := 12) X dX2_readNumber_11 rfl rfl (by decide) rfl (fun _ => rfl) hf (fun x2 hf => ?_)
  refine g_iload_n (pc' := 13) X dX2_readNumber_12 rfl rfl rfl ?_
  refine g_if_lt (tgt := 22) (pc' := 16) X dX2_readNumber_13 (by decide) rfl hf (fun hf => ?_) (fun hf => ?_)
  · refine g_iconst (v := -1) (pc' := 23) X dX2_readNumber_22 rfl (by decide) ?_
    cases hf
    exact hR _ _ dX2_readNumber_23 rfl
  · refine g_iload_n (pc' := 17) X dX2_readNumber_16 rfl rfl rfl ?_
    refine g_bipush (v := 9) (pc' := 19) X dX2_readNumber_17 rfl (by decide) ?_
    refine g_icmp_le (tgt := 24) (pc' := 22) X dX2_readNumber_19 (by decide) rfl hf (fun hf => ?_) (fun hf => ?_)
    · refine g_aload_n (pc' := 25) X dX2_readNumber_24 rfl rfl rfl ?_
      refine g_dup (pc' := 26) X dX2_readNumber_25 rfl rfl ?_
      refine g_get (pc' := 29) X fl_X2_54 dX2_readNumber_26 rfl 0 rfl rfl ?_
      refine g_iconst (v := 1) (pc' := 30) X dX2_readNumber_29 rfl (by decide) ?_
      refine g_iadd (pc' := 31) X dX2_readNumber_30 rfl ?_
      refine g_putN (pc' := 34) (w2 := fun x3 => [oX2 q q_letters q_numbers q_range q_state s_length x3, ac d q_letters 200 s_letters]) X fl_X2_54 fw_X2 rfl dX2_readNumber_31 rfl 0 rfl (fun _ => rfl) (fun _ => rfl) (Nat.le_of_ble_eq_true rfl) (fun _ => rfl) hf (fun x3 hf => ?_)
      refine g_aload_n (pc' := 35) X dX2_readNumber_34 rfl rfl rfl ?_
      refine g_aload_n (pc' := 36) X dX2_readNumber_35 rfl rfl rfl ?_
      refine g_get (pc' := 39) X fl_X2_54 dX2_readNumber_36 rfl 0 rfl rfl ?_
      refine g_callVi0 (pc' := 42) (As := [.int x3]) (b := q) (st := []) (w2 := fun x4 => [oX2 q q_letters q_numbers q_range q_state s_length x3, ac d q_letters 200 s_letters]) X lk_X2_61 dX2_readNumber_39 rfl rfl rfl (Nat.le_of_ble_eq_true rfl) ⟨Nat.le_of_ble_eq_true rfl, Nat.le_of_ble_eq_true rfl, Nat.le_of_ble_eq_true rfl, Nat.le_of_ble_eq_true rfl⟩ rfl [0, 1] (by decide) rfl hf (fun l x4 h => ctX2_letterAt l d q q_letters q_numbers q_range q_state s_length x3 s_letters x3 x4 h) (fun _ => rfl) (fun _ => rfl) (fun x4 hnx4 hf => ?_)
      refine g_bipush (v := 48) (pc' := 44) X dX2_readNumber_42 rfl (by decide) ?_
      refine g_isub (pc' := 45) X dX2_readNumber_44 rfl ?_
      refine g_istore_nN (lv' := fun x5 => [some (.ref q), some (.int x2), some (.int x5)]) (pc' := 46) X dX2_readNumber_45 rfl rfl (by decide) rfl (fun _ => rfl) hf (fun x5 hf => ?_)
      refine g_iload_n (pc' := 47) X dX2_readNumber_46 rfl rfl rfl ?_
      refine g_if_lt (tgt := 56) (pc' := 50) X dX2_readNumber_47 (by decide) rfl hf (fun hf => ?_) (fun hf => ?_)
      · refine g_iload_n (pc' := 57) X dX2_readNumber_56 rfl rfl rfl ?_
        cases hf
        exact hR _ _ dX2_readNumber_57 rfl
      · refine g_iload_n (pc' := 51) X dX2_readNumber_50 rfl rfl rfl ?_
        refine g_bipush (v := 9) (pc' := 53) X dX2_readNumber_51 rfl (by decide) ?_
        refine g_icmp_le (tgt := 58) (pc' := 56) X dX2_readNumber_53 (by decide) rfl hf (fun hf => ?_) (fun hf => ?_)
        · refine g_aload_n (pc' := 59) X dX2_readNumber_58 rfl rfl rfl ?_
          refine g_dup (pc' := 60) X dX2_readNumber_59 rfl rfl ?_
          refine g_get (pc' := 63) X fl_X2_54 dX2_readNumber_60 rfl 0 rfl rfl ?_
          refine g_iconst (v := 1) (pc' := 64) X dX2_readNumber_63 rfl (by decide) ?_
          refine g_iadd (pc' := 65) X dX2_readNumber_64 rfl ?_
          refine g_putN (pc' := 68) (w2 := fun x6 => [oX2 q q_letters q_numbers q_range q_state s_length x6, ac d q_letters 200 s_letters]) X fl_X2_54 fw_X2 rfl dX2_readNumber_65 rfl 0 rfl (fun _ => rfl) (fun _ => rfl) (Nat.le_of_ble_eq_true rfl) (fun _ => rfl) hf (fun x6 hf => ?_)
          refine g_bipush (v := 10) (pc' := 70) X dX2_readNumber_68 rfl (by decide) ?_
          refine g_iload_n (pc' := 71) X dX2_readNumber_70 rfl rfl rfl ?_
          refine g_imul (pc' := 72) X dX2_readNumber_71 rfl ?_
          refine g_iload_n (pc' := 73) X dX2_readNumber_72 rfl rfl rfl ?_
          refine g_iadd (pc' := 74) X dX2_readNumber_73 rfl ?_
          cases hf
          exact hR _ _ dX2_readNumber_74 rfl
        · refine g_iload_n (pc' := 57) X dX2_readNumber_56 rfl rfl rfl ?_
          cases hf
          exact hR _ _ dX2_readNumber_57 rfl
    · refine g_iconst (v := -1) (pc' := 23) X dX2_readNumber_22 rfl (by decide) ?_
      cases hf
      exact hR _ _ dX2_readNumber_23 rfl
-- X2_readItem
def jX2_readItem_58 (s_length : Int32) (s_at : Int32) (s_letters : Nat → Int32) (s_numbers : Nat → Int32) (v2 : Int32) (t0 : Int32) : Option ((Int32 × Int32 × (Nat → Int32)) ⊕ ((Int32 × (Nat → Int32)) ⊕ (Int32 × (Nat → Int32)))) :=
  sx_rd s_numbers 3 v2 fun x7 =>
  if x7 < 0 then
    some (.inr (.inl (s_at, s_numbers)))
  else
    (fX2_letterAt s_length s_letters s_at).bind fun x8 =>
    if x8 = t0 then
      sx_lt (s_at + (1 : Int32)) fun x9 =>
      some (.inl (v2 + (1 : Int32), x9, s_numbers))
    else
      some (.inr (.inl (s_at, s_numbers)))
def bX2_readItem_24 (s_length : Int32) (s_letters : Nat → Int32) (v1 : Int32) : (Int32 × Int32 × (Nat → Int32)) → Option ((Int32 × Int32 × (Nat → Int32)) ⊕ ((Int32 × (Nat → Int32)) ⊕ (Int32 × (Nat → Int32)))) := fun (v2, s_at, s_numbers) =>
  if v1 ≤ v2 then
    some (.inr (.inr (s_at, s_numbers)))
  else
    if (3 : Int32) ≤ v2 then
      some (.inr (.inr (s_at, s_numbers)))
    else
      (fX2_readNumber s_length s_at s_letters).bind fun (x4, o5) =>
      sx_wr s_numbers 3 v2 x4 fun g6 =>
      if v1 ≤ (v2 + (1 : Int32)) then
        jX2_readItem_58 s_length o5 s_letters g6 v2 (59 : Int32)
      else
        jX2_readItem_58 s_length o5 s_letters g6 v2 (44 : Int32)
def fX2_readItem (s_length : Int32) (s_at : Int32) (s_letters : Nat → Int32) (s_numbers : Nat → Int32) : Option (Int32 × Int32 × (Nat → Int32)) :=
  (fX2_letterAt s_length s_letters s_at).bind fun x1 =>
  (fX2_numbersBehind x1).bind fun x2 =>
  sx_lt (s_at + (1 : Int32)) fun x3 =>
  (sx_it 1000 (bX2_readItem_24 s_length s_letters x2) ((0 : Int32), x3, s_numbers)).bind fun y10 => match y10 with
    | .inl (w11, w12) =>
      some ((0 : Int32), w11, w12)
    | .inr ((w13, w14)) =>
      if x2 ≤ 0 then
        some ((0 : Int32), w13, w14)
      else
        some ((1 : Int32), w13, w14)
set_option maxHeartbeats 4000000 in
set_option maxRecDepth 100000 in
theorem lX2_readItem_24 (d : sx_D) (κ : sx_C) (q : Nat) (q_letters : Nat) (q_numbers : Nat) (q_range : Nat) (q_state : Nat) (s_length : Int32) (s_letters : Nat → Int32) (v1 : Int32) (X : sx_X d κ cX2_readItem 4 RX2 (sx_rm 2)) (y : (Int32 × (Nat → Int32)) ⊕ (Int32 × (Nat → Int32))) (hE80 : ∀ (s_at : Int32) (s_numbers : Nat → Int32), (.inl (s_at, s_numbers)) = y → sx_G d κ 4 0 0 80 [none, none, none, none] [] [oX2 q q_letters q_numbers q_range q_state s_length s_at, ac d q_letters 200 s_letters, ai d q_numbers 3 s_numbers]) (hE98 : ∀ (s_at : Int32) (s_numbers : Nat → Int32), (.inr (s_at, s_numbers)) = y → sx_G d κ 4 0 0 98 [none, some (.int v1), none, none] [] [oX2 q q_letters q_numbers q_range q_state s_length s_at, ac d q_letters 200 s_letters, ai d q_numbers 3 s_numbers]) : ∀ (n : Nat) (s : Int32 × Int32 × (Nat → Int32)), sx_it n (bX2_readItem_24 s_length s_letters v1) s = some y → (match s with | (v2, s_at, s_numbers) => sx_G d κ 4 0 0 24 [some (.ref q), some (.int v1), some (.int v2), none] [] [oX2 q q_letters q_numbers q_range q_state s_length s_at, ac d q_letters 200 s_letters, ai d q_numbers 3 s_numbers]) := by
  refine sx_it_run (bX2_readItem_24 s_length s_letters v1) (fun s => match s with | (v2, s_at, s_numbers) => sx_G d κ 4 0 0 24 [some (.ref q), some (.int v1), some (.int v2), none] [] [oX2 q q_letters q_numbers q_range q_state s_length s_at, ac d q_letters 200 s_letters, ai d q_numbers 3 s_numbers]) y ?_
  rintro ⟨v2, s_at, s_numbers⟩ x hf hb he
  show sx_G d κ 4 0 0 24 [some (.ref q), some (.int v1), some (.int v2), none] [] [oX2 q q_letters q_numbers q_range q_state s_length s_at, ac d q_letters 200 s_letters, ai d q_numbers 3 s_numbers]
  unfold bX2_readItem_24 at hf
  refine g_iload_n (pc' := 25) X dX2_readItem_24 rfl rfl rfl ?_
  refine g_iload_n (pc' := 26) X dX2_readItem_25 rfl rfl rfl ?_
  refine g_icmp_ge (tgt := 98) (pc' := 29) X dX2_readItem_26 (by decide) rfl hf (fun hf => ?_) (fun hf => ?_)
  · exact sx_weak [false, true, false, true] rfl (hE98 _ _ (sx_ex hf he))
  · refine g_iload_n (pc' := 30) X dX2_readItem_29 rfl rfl rfl ?_
    refine g_iconst (v := 3) (pc' := 31) X dX2_readItem_30 rfl (by decide) ?_
    refine g_icmp_ge (tgt := 98) (pc' := 34) X dX2_readItem_31 (by decide) rfl hf (fun hf => ?_) (fun hf => ?_)
    · exact sx_weak [false, true, false, true] rfl (hE98 _ _ (sx_ex hf he))
    · refine g_aload_n (pc' := 35) X dX2_readItem_34 rfl rfl rfl ?_
      refine g_get (pc' := 38) X fl_X2_15 dX2_readItem_35 rfl 0 rfl rfl ?_
      refine g_iload_n (pc' := 39) X dX2_readItem_38 rfl rfl rfl ?_
      refine g_aload_n (pc' := 40) X dX2_readItem_39 rfl rfl rfl ?_
      refine g_callVi1 (pc' := 43) (As := []) (b := q) (st := [.int v2, .ref q_numbers]) (w2 := fun x4 o5 => [oX2 q q_letters q_numbers q_range q_state s_length o5, ac d q_letters 200 s_letters, ai d q_numbers 3 s_numbers]) X lk_X2_71 dX2_readItem_40 rfl rfl rfl (Nat.le_of_ble_eq_true rfl) ⟨Nat.le_of_ble_eq_true rfl, Nat.le_of_ble_eq_true rfl, Nat.le_of_ble_eq_true rfl, Nat.le_of_ble_eq_true rfl⟩ rfl [0, 1] (by decide) rfl hf (fun l x4 o5 h => ctX2_readNumber l d q q_letters q_numbers q_range q_state s_length s_at s_letters x4 o5 h) (fun _ _ => rfl) (fun _ _ => rfl) (fun x4 o5 hnx4 hf => ?_)
      refine g_iast (pc' := 44) (w2 := fun g6 => [oX2 q q_letters q_numbers q_range q_state s_length o5, ac d q_letters 200 s_letters, ai d q_numbers 3 g6]) X dX2_readItem_43 rfl 2 rfl hf (fun _ => rfl) (fun g6 hf => ?_)
      refine g_iload_n (pc' := 45) X dX2_readItem_44 rfl rfl rfl ?_
      refine g_iconst (v := 1) (pc' := 46) X dX2_readItem_45 rfl (by decide) ?_
      refine g_iadd (pc' := 47) X dX2_readItem_46 rfl ?_
      refine g_iload_n (pc' := 48) X dX2_readItem_47 rfl rfl rfl ?_
      have hjX2_readItem_58 : ∀ (v2 : Int32) (t0 : Int32) (s_at : Int32) (s_numbers : Nat → Int32), jX2_readItem_58 s_length s_at s_letters s_numbers v2 t0 = some x → sx_G d κ 4 0 0 58 [some (.ref q), some (.int v1), some (.int v2), none] [.int t0] [oX2 q q_letters q_numbers q_range q_state s_length s_at, ac d q_letters 200 s_letters, ai d q_numbers 3 s_numbers] := by
        intro v2 t0 s_at s_numbers hf
        unfold jX2_readItem_58 at hf
        refine g_istore_n (lv' := [some (.ref q), some (.int v1), some (.int v2), some (.int t0)]) (pc' := 59) X dX2_readItem_58 rfl rfl (by decide) rfl rfl ?_
        refine g_aload_n (pc' := 60) X dX2_readItem_59 rfl rfl rfl ?_
        refine g_get (pc' := 63) X fl_X2_15 dX2_readItem_60 rfl 0 rfl rfl ?_
        refine g_iload_n (pc' := 64) X dX2_readItem_63 rfl rfl rfl ?_
        refine g_iald (pc' := 65) X dX2_readItem_64 rfl 2 rfl hf (fun x7 hf => ?_)
        refine g_if_lt (tgt := 80) (pc' := 68) X dX2_readItem_65 (by decide) rfl hf (fun hf => ?_) (fun hf => ?_)
        · exact sx_weak [false, false, false, false] rfl (hE80 _ _ (sx_ex hf he))
        · refine g_aload_n (pc' := 69) X dX2_readItem_68 rfl rfl rfl ?_
          refine g_aload_n (pc' := 70) X dX2_readItem_69 rfl rfl rfl ?_
          refine g_get (pc' := 73) X fl_X2_54 dX2_readItem_70 rfl 0 rfl rfl ?_
          refine g_callVi0 (pc' := 76) (As := [.int s_at]) (b := q) (st := []) (w2 := fun x8 => [oX2 q q_letters q_numbers q_range q_state s_length s_at, ac d q_letters 200 s_letters, ai d q_numbers 3 s_numbers]) X lk_X2_61 dX2_readItem_73 rfl rfl rfl (Nat.le_of_ble_eq_true rfl) ⟨Nat.le_of_ble_eq_true rfl, Nat.le_of_ble_eq_true rfl, Nat.le_of_ble_eq_true rfl, Nat.le_of_ble_eq_true rfl⟩ rfl [0, 1] (by decide) rfl hf (fun l x8 h => ctX2_letterAt l d q q_letters q_numbers q_range q_state s_length s_at s_letters s_at x8 h) (fun _ => rfl) (fun _ => rfl) (fun x8 hnx8 hf => ?_)
          refine g_iload_n (pc' := 77) X dX2_readItem_76 rfl rfl rfl ?_
          refine g_icmp_eq (tgt := 82) (pc' := 80) X dX2_readItem_77 (by decide) rfl hf (fun hf => ?_) (fun hf => ?_)
          · refine g_aload_n (pc' := 83) X dX2_readItem_82 rfl rfl rfl ?_
            refine g_dup (pc' := 84) X dX2_readItem_83 rfl rfl ?_
            refine g_get (pc' := 87) X fl_X2_54 dX2_readItem_84 rfl 0 rfl rfl ?_
            refine g_iconst (v := 1) (pc' := 88) X dX2_readItem_87 rfl (by decide) ?_
            refine g_iadd (pc' := 89) X dX2_readItem_88 rfl ?_
            refine g_putN (pc' := 92) (w2 := fun x9 => [oX2 q q_letters q_numbers q_range q_state s_length x9, ac d q_letters 200 s_letters, ai d q_numbers 3 s_numbers]) X fl_X2_54 fw_X2 rfl dX2_readItem_89 rfl 0 rfl (fun _ => rfl) (fun _ => rfl) (Nat.le_of_ble_eq_true rfl) (fun _ => rfl) hf (fun x9 hf => ?_)
            refine g_iinc (v := 1) (lv' := [some (.ref q), some (.int v1), some (.int (v2 + (1 : Int32))), some (.int t0)]) (pc' := 95) X dX2_readItem_92 rfl rfl (by decide) (by decide) rfl rfl ?_
            refine g_goto (tgt := 24) X dX2_readItem_95 (by decide) ?_
            have hk := sx_bk hf hb
            exact sx_weak [true, true, true, false] rfl hk
          · exact sx_weak [false, false, false, false] rfl (hE80 _ _ (sx_ex hf he))
      refine g_icmp_ge (tgt := 56) (pc' := 51) X dX2_readItem_48 (by decide) rfl hf (fun hf => ?_) (fun hf => ?_)
      · refine g_bipush (v := 59) (pc' := 58) X dX2_readItem_56 rfl (by decide) ?_
        exact sx_weak [true, true, true, true] rfl (hjX2_readItem_58 v2 (59 : Int32) o5 g6 hf)
      · refine g_bipush (v := 44) (pc' := 53) X dX2_readItem_51 rfl (by decide) ?_
        refine g_goto (tgt := 58) X dX2_readItem_53 (by decide) ?_
        exact sx_weak [true, true, true, true] rfl (hjX2_readItem_58 v2 (44 : Int32) o5 g6 hf)
set_option maxHeartbeats 4000000 in
set_option maxRecDepth 100000 in
theorem ctX2_readItem (l : Launch) (d : sx_D) (q : Nat) (q_letters : Nat) (q_numbers : Nat) (q_range : Nat) (q_state : Nat) (s_length : Int32) (s_at : Int32) (s_letters : Nat → Int32) (s_numbers : Nat → Int32) (r : Int32) (ro1 : Int32) (ro2 : Nat → Int32) (hf : fX2_readItem s_length s_at s_letters s_numbers = some (r, ro1, ro2)) : sx_I l d yX2_readItem cX2_readItem 4 .boolean 2 [.ref q] [oX2 q q_letters q_numbers q_range q_state s_length s_at, ac d q_letters 200 s_letters, ai d q_numbers 3 s_numbers] [oX2 q q_letters q_numbers q_range q_state s_length ro1, ac d q_letters 200 s_letters, ai d q_numbers 3 ro2] r := by
  refine sx_I.intro (lv0 := [some (.ref q), none, none, none]) (by decide +kernel) (Nat.le_of_ble_eq_true rfl) rfl ?_
  intro κ X hR
  have X : sx_X d κ cX2_readItem 4 RX2 (sx_rm 2) := X
  unfold fX2_readItem at hf
  refine g_aload_n (pc' := 1) X dX2_readItem_0 rfl rfl rfl ?_
  refine g_aload_n (pc' := 2) X dX2_readItem_1 rfl rfl rfl ?_
  refine g_get (pc' := 5) X fl_X2_54 dX2_readItem_2 rfl 0 rfl rfl ?_
  refine g_callVi0 (pc' := 8) (As := [.int s_at]) (b := q) (st := []) (w2 := fun x1 => [oX2 q q_letters q_numbers q_range q_state s_length s_at, ac d q_letters 200 s_letters, ai d q_numbers 3 s_numbers]) X lk_X2_61 dX2_readItem_5 rfl rfl rfl (Nat.le_of_ble_eq_true rfl) ⟨Nat.le_of_ble_eq_true rfl, Nat.le_of_ble_eq_true rfl, Nat.le_of_ble_eq_true rfl, Nat.le_of_ble_eq_true rfl⟩ rfl [0, 1] (by decide) rfl hf (fun l x1 h => ctX2_letterAt l d q q_letters q_numbers q_range q_state s_length s_at s_letters s_at x1 h) (fun _ => rfl) (fun _ => rfl) (fun x1 hnx1 hf => ?_)
  refine g_callSi0 (pc' := 11) (As := [.int x1]) (st := []) (w2 := fun x2 => [oX2 q q_letters q_numbers q_range q_state s_length s_at, ac d q_letters 200 s_letters, ai d q_numbers 3 s_numbers]) X lk_X2_67 dX2_readItem_8 rfl rfl rfl (Nat.le_of_ble_eq_true rfl) ⟨Nat.le_of_ble_eq_true rfl, Nat.le_of_ble_eq_true rfl, Nat.le_of_ble_eq_true rfl, Nat.le_of_ble_eq_true rfl⟩ [] (by decide) rfl hf (fun l x2 h => ctX2_numbersBehind l d x1 x2 h) (fun _ => rfl) (fun _ => rfl) (fun x2 hnx2 hf => ?_)
  refine g_istore_n (lv' := [some (.ref q), some (.int x2), none, none]) (pc' := 12) X dX2_readItem_11 rfl rfl (by decide) rfl rfl ?_
  refine g_aload_n (pc' := 13) X dX2_readItem_12 rfl rfl rfl ?_
  refine g_dup (pc' := 14) X dX2_readItem_13 rfl rfl ?_
  refine g_get (pc' := 17) X fl_X2_54 dX2_readItem_14 rfl 0 rfl rfl ?_
  refine g_iconst (v := 1) (pc' := 18) X dX2_readItem_17 rfl (by decide) ?_
  refine g_iadd (pc' := 19) X dX2_readItem_18 rfl ?_
  refine g_putN (pc' := 22) (w2 := fun x3 => [oX2 q q_letters q_numbers q_range q_state s_length x3, ac d q_letters 200 s_letters, ai d q_numbers 3 s_numbers]) X fl_X2_54 fw_X2 rfl dX2_readItem_19 rfl 0 rfl (fun _ => rfl) (fun _ => rfl) (Nat.le_of_ble_eq_true rfl) (fun _ => rfl) hf (fun x3 hf => ?_)
  refine g_iconst (v := 0) (pc' := 23) X dX2_readItem_22 rfl (by decide) ?_
  refine g_istore_n (lv' := [some (.ref q), some (.int x2), some (.int (0 : Int32)), none]) (pc' := 24) X dX2_readItem_23 rfl rfl (by decide) rfl rfl ?_
  obtain ⟨y10, hy10, hf⟩ := sx_bd hf
  refine sx_weak [true, true, true, true] rfl (lX2_readItem_24 d κ q q_letters q_numbers q_range q_state s_length s_letters x2 X y10 ?_ ?_ 1000 ((0 : Int32), x3, s_numbers) hy10)
  · rintro w11 w12 rfl
    refine g_iconst (v := 0) (pc' := 81) X dX2_readItem_80 rfl (by decide) ?_
    cases hf
    exact hR _ _ dX2_readItem_81 rfl
  · rintro w13 w14 rfl
    refine g_iload_n (pc' := 99) X dX2_readItem_98 rfl rfl rfl ?_
    refine g_if_le (tgt := 106) (pc' := 102) X dX2_readItem_99 (by decide) rfl hf (fun hf => ?_) (fun hf => ?_)
    · refine g_iconst (v := 0) (pc' := 107) X dX2_readItem_106 rfl (by decide) ?_
      cases hf
      exact hR _ _ dX2_readItem_107 rfl
    · refine g_iconst (v := 1) (pc' := 103) X dX2_readItem_102 rfl (by decide) ?_
      refine g_goto (tgt := 107) X dX2_readItem_103 (by decide) ?_
      cases hf
      exact hR _ _ dX2_readItem_107 rfl
-- J7_fill_53178
def bJ7_fill_53178_5 (s_p0_n : Nat) (v1 : Int32) (v3 : Int32) : (Int32 × (Nat → Int32)) → Option ((Int32 × (Nat → Int32)) ⊕ ((Nat → Int32))) := fun (v2, s_p0) =>
  if v3 ≤ v2 then
    some (.inr s_p0)
  else
    sx_wr s_p0 s_p0_n v2 v1 fun g2 =>
    some (.inl (v2 + (1 : Int32), g2))
def fJ7_fill_53178 (s_p0_n : Nat) (s_p0 : Nat → Int32) (v1 : Int32) : Option ((Nat → Int32)) :=
  sx_lt (Int32.ofNat s_p0_n) fun x1 =>
  (sx_it 1000 (bJ7_fill_53178_5 s_p0_n v1 x1) ((0 : Int32), s_p0)).bind fun w4 =>
  some w4
set_option maxHeartbeats 4000000 in
set_option maxRecDepth 100000 in
theorem lJ7_fill_53178_5 (d : sx_D) (κ : sx_C) (q0 : Nat) (s_p0_n : Nat) (v1 : Int32) (v3 : Int32) (X : sx_X d κ cJ7_fill_53178 4 RJ7 (sx_rm 0)) (y : (Nat → Int32)) (hE20 : ∀ (s_p0 : Nat → Int32), s_p0 = y → sx_G d κ 4 0 0 20 [none, none, none, none] [] [ai d q0 s_p0_n s_p0]) : ∀ (n : Nat) (s : Int32 × (Nat → Int32)), sx_it n (bJ7_fill_53178_5 s_p0_n v1 v3) s = some y → (match s with | (v2, s_p0) => sx_G d κ 4 0 0 5 [some (.ref q0), some (.int v1), some (.int v2), some (.int v3)] [] [ai d q0 s_p0_n s_p0]) := by
  refine sx_it_run (bJ7_fill_53178_5 s_p0_n v1 v3) (fun s => match s with | (v2, s_p0) => sx_G d κ 4 0 0 5 [some (.ref q0), some (.int v1), some (.int v2), some (.int v3)] [] [ai d q0 s_p0_n s_p0]) y ?_
  rintro ⟨v2, s_p0⟩ x hf hb he
  show sx_G d κ 4 0 0 5 [some (.ref q0), some (.int v1), some (.int v2), some (.int v3)] [] [ai d q0 s_p0_n s_p0]
  unfold bJ7_fill_53178_5 at hf
  refine g_iload_n (pc' := 6) X dJ7_fill_53178_5 rfl rfl rfl ?_
  refine g_iload_n (pc' := 7) X dJ7_fill_53178_6 rfl rfl rfl ?_
  refine g_icmp_ge (tgt := 20) (pc' := 10) X dJ7_fill_53178_7 (by decide) rfl hf (fun hf => ?_) (fun hf => ?_)
  · exact sx_weak [false, false, false, false] rfl (hE20 _ (sx_ex hf he))
  · refine g_aload_n (pc' := 11) X dJ7_fill_53178_10 rfl rfl rfl ?_
    refine g_iload_n (pc' := 12) X dJ7_fill_53178_11 rfl rfl rfl ?_
    refine g_iload_n (pc' := 13) X dJ7_fill_53178_12 rfl rfl rfl ?_
    refine g_iast (pc' := 14) (w2 := fun g2 => [ai d q0 s_p0_n g2]) X dJ7_fill_53178_13 rfl 0 rfl hf (fun _ => rfl) (fun g2 hf => ?_)
    refine g_iinc (v := 1) (lv' := [some (.ref q0), some (.int v1), some (.int (v2 + (1 : Int32))), some (.int v3)]) (pc' := 17) X dJ7_fill_53178_14 rfl rfl (by decide) (by decide) rfl rfl ?_
    refine g_goto (tgt := 5) X dJ7_fill_53178_17 (by decide) ?_
    have hk := sx_bk hf hb
    exact sx_weak [true, true, true, true] rfl hk
set_option maxHeartbeats 4000000 in
set_option maxRecDepth 100000 in
theorem ctJ7_fill_53178 (l : Launch) (d : sx_D) (q0 : Nat) (s_p0_n : Nat) (s_p0 : Nat → Int32) (v1 : Int32) (ro1 : Nat → Int32) (hf : fJ7_fill_53178 s_p0_n s_p0 v1 = some ro1) : sx_V l d yJ7_fill_53178 cJ7_fill_53178 4 0 [.ref q0, .int v1] [ai d q0 s_p0_n s_p0] [ai d q0 s_p0_n ro1] := by
  refine sx_V.intro (lv0 := [some (.ref q0), some (.int v1), none, none]) (by decide +kernel) (Nat.le_of_ble_eq_true rfl) rfl ?_
  intro κ X hR
  have X : sx_X d κ cJ7_fill_53178 4 RJ7 (sx_rm 0) := X
  unfold fJ7_fill_53178 at hf
  refine g_iconst (v := 0) (pc' := 1) X dJ7_fill_53178_0 rfl (by decide) ?_
  refine g_istore_n (lv' := [some (.ref q0), some (.int v1), some (.int (0 : Int32)), none]) (pc' := 2) X dJ7_fill_53178_1 rfl rfl (by decide) rfl rfl ?_
  refine g_aload_n (pc' := 3) X dJ7_fill_53178_2 rfl rfl rfl ?_
  refine g_alen (pc' := 4) X dJ7_fill_53178_3 rfl 0 rfl ?_
  refine g_istore_nN (lv' := fun x1 => [some (.ref q0), some (.int v1), some (.int (0 : Int32)), some (.int x1)]) (pc' := 5) X dJ7_fill_53178_4 rfl rfl (by decide) rfl (fun _ => rfl) hf (fun x1 hf => ?_)
  obtain ⟨y3, hy3, hf⟩ := sx_bd hf
  refine sx_weak [true, true, true, true] rfl (lJ7_fill_53178_5 d κ q0 s_p0_n v1 x1 X y3 ?_ 1000 ((0 : Int32), s_p0) hy3)
  rintro w4 rfl
  cases hf
  exact hR _ _ dJ7_fill_53178_20
-- J7_rangeCheck_23922
def fJ7_rangeCheck_23922 (v0 : Int32) (v1 : Int32) (v2 : Int32) : Option (Unit) :=
  if v1 ≤ v2 then
    if 0 ≤ v1 then
      if v2 ≤ v0 then
        some ()
      else
        none
    else
      none
  else
    none
set_option maxHeartbeats 4000000 in
set_option maxRecDepth 100000 in
theorem ctJ7_rangeCheck_23922 (l : Launch) (d : sx_D) (v0 : Int32) (v1 : Int32) (v2 : Int32) (u : Unit) (hf : fJ7_rangeCheck_23922 v0 v1 v2 = some u) : sx_V l d yJ7_rangeCheck_23922 cJ7_rangeCheck_23922 3 0 [.int v0, .int v1, .int v2] [] [] := by
  refine sx_V.intro (lv0 := [some (.int v0), some (.int v1), some (.int v2)]) (by decide +kernel) (Nat.le_of_ble_eq_true rfl) rfl ?_
  intro κ X hR
  have X : sx_X d κ cJ7_rangeCheck_23922 3 RJ7 (sx_rm 0) := X
  unfold fJ7_rangeCheck_23922 at hf
  refine g_iload_n (pc' := 1) X dJ7_rangeCheck_23922_0 rfl rfl rfl ?_
  refine g_iload_n (pc' := 2) X dJ7_rangeCheck_23922_1 rfl rfl rfl ?_
  refine g_icmp_le (tgt := 46) (pc' := 5) X dJ7_rangeCheck_23922_2 (by decide) rfl hf (fun hf => ?_) (fun hf => ?_)
  · refine g_iload_n (pc' := 47) X dJ7_rangeCheck_23922_46 rfl rfl rfl ?_
    refine g_if_ge (tgt := 59) (pc' := 50) X dJ7_rangeCheck_23922_47 (by decide) rfl hf (fun hf => ?_) (fun hf => ?_)
    · refine g_iload_n (pc' := 60) X dJ7_rangeCheck_23922_59 rfl rfl rfl ?_
      refine g_iload_n (pc' := 61) X dJ7_rangeCheck_23922_60 rfl rfl rfl ?_
      refine g_icmp_le (tgt := 73) (pc' := 64) X dJ7_rangeCheck_23922_61 (by decide) rfl hf (fun hf => ?_) (fun hf => ?_)
      · cases hf
        exact hR _ _ dJ7_rangeCheck_23922_73
      · cases hf
    · cases hf
  · cases hf
-- J7_fill_fda19
def bJ7_fill_fda19_10 (s_p0_n : Nat) (v2 : Int32) (v3 : Int32) : (Int32 × (Nat → Int32)) → Option ((Int32 × (Nat → Int32)) ⊕ ((Nat → Int32))) := fun (v4, s_p0) =>
  if v2 ≤ v4 then
    some (.inr s_p0)
  else
    sx_wr s_p0 s_p0_n v4 v3 fun g1 =>
    some (.inl (v4 + (1 : Int32), g1))
def fJ7_fill_fda19 (s_p0_n : Nat) (s_p0 : Nat → Int32) (v1 : Int32) (v2 : Int32) (v3 : Int32) : Option ((Nat → Int32)) :=
  (fJ7_rangeCheck_23922 (Int32.ofNat s_p0_n) v1 v2).bind fun _ =>
  (sx_it 1000 (bJ7_fill_fda19_10 s_p0_n v2 v3) (v1, s_p0)).bind fun w3 =>
  some w3
set_option maxHeartbeats 4000000 in
set_option maxRecDepth 100000 in
theorem lJ7_fill_fda19_10 (d : sx_D) (κ : sx_C) (q0 : Nat) (s_p0_n : Nat) (v2 : Int32) (v3 : Int32) (X : sx_X d κ cJ7_fill_fda19 5 RJ7 (sx_rm 1)) (y : (Nat → Int32)) (hE27 : ∀ (s_p0 : Nat → Int32), s_p0 = y → sx_G d κ 5 0 0 27 [none, none, none, none, none] [] [ai d q0 s_p0_n s_p0]) : ∀ (n : Nat) (s : Int32 × (Nat → Int32)), sx_it n (bJ7_fill_fda19_10 s_p0_n v2 v3) s = some y → (match s with | (v4, s_p0) => sx_G d κ 5 0 0 10 [some (.ref q0), none, some (.int v2), some (.int v3), some (.int v4)] [] [ai d q0 s_p0_n s_p0]) := by
  refine sx_it_run (bJ7_fill_fda19_10 s_p0_n v2 v3) (fun s => match s with | (v4, s_p0) => sx_G d κ 5 0 0 10 [some (.ref q0), none, some (.int v2), some (.int v3), some (.int v4)] [] [ai d q0 s_p0_n s_p0]) y ?_
  rintro ⟨v4, s_p0⟩ x hf hb he
  show sx_G d κ 5 0 0 10 [some (.ref q0), none, some (.int v2), some (.int v3), some (.int v4)] [] [ai d q0 s_p0_n s_p0]
  unfold bJ7_fill_fda19_10 at hf
  refine g_iload (pc' := 12) X dJ7_fill_fda19_10 rfl rfl ?_
  refine g_iload_n (pc' := 13) X dJ7_fill_fda19_12 rfl rfl rfl ?_
  refine g_icmp_ge (tgt := 27) (pc' := 16) X dJ7_fill_fda19_13 (by decide) rfl hf (fun hf => ?_) (fun hf => ?_)
  · exact sx_weak [false, true, false, false, false] rfl (hE27 _ (sx_ex hf he))
  · refine g_aload_n (pc' := 17) X dJ7_fill_fda19_16 rfl rfl rfl ?_
    refine g_iload (pc' := 19) X dJ7_fill_fda19_17 rfl rfl ?_
    refine g_iload_n (pc' := 20) X dJ7_fill_fda19_19 rfl rfl rfl ?_
    refine g_iast (pc' := 21) (w2 := fun g1 => [ai d q0 s_p0_n g1]) X dJ7_fill_fda19_20 rfl 0 rfl hf (fun _ => rfl) (fun g1 hf => ?_)
    refine g_iinc (v := 1) (lv' := [some (.ref q0), none, some (.int v2), some (.int v3), some (.int (v4 + (1 : Int32)))]) (pc' := 24) X dJ7_fill_fda19_21 rfl rfl (by decide) (by decide) rfl rfl ?_
    refine g_goto (tgt := 10) X dJ7_fill_fda19_24 (by decide) ?_
    have hk := sx_bk hf hb
    exact sx_weak [true, true, true, true, true] rfl hk
set_option maxHeartbeats 4000000 in
set_option maxRecDepth 100000 in
theorem ctJ7_fill_fda19 (l : Launch) (d : sx_D) (q0 : Nat) (s_p0_n : Nat) (s_p0 : Nat → Int32) (v1 : Int32) (v2 : Int32) (v3 : Int32) (ro1 : Nat → Int32) (hf : fJ7_fill_fda19 s_p0_n s_p0 v1 v2 v3 = some ro1) : sx_V l d yJ7_fill_fda19 cJ7_fill_fda19 5 1 [.ref q0, .int v1, .int v2, .int v3] [ai d q0 s_p0_n s_p0] [ai d q0 s_p0_n ro1] := by
  refine sx_V.intro (lv0 := [some (.ref q0), some (.int v1), some (.int v2), some (.int v3), none]) (by decide +kernel) (Nat.le_of_ble_eq_true rfl) rfl ?_
  intro κ X hR
  have X : sx_X d κ cJ7_fill_fda19 5 RJ7 (sx_rm 1) := X
  unfold fJ7_fill_fda19 at hf
  refine g_aload_n (pc' := 1) X dJ7_fill_fda19_0 rfl rfl rfl ?_
  refine g_alen (pc' := 2) X dJ7_fill_fda19_1 rfl 0 rfl ?_
  refine g_iload_n (pc' := 3) X dJ7_fill_fda19_2 rfl rfl rfl ?_
  refine g_iload_n (pc' := 4) X dJ7_fill_fda19_3 rfl rfl rfl ?_
  refine g_callSv0 (pc' := 7) (As := [.int (Int32.ofNat s_p0_n), .int v1, .int v2]) (st := []) (w2 := fun u => [ai d q0 s_p0_n s_p0]) X lk_J7_13 dJ7_fill_fda19_4 rfl rfl rfl (Nat.le_of_ble_eq_true rfl) ⟨Nat.le_of_ble_eq_true rfl, Nat.le_of_ble_eq_true rfl, Nat.le_of_ble_eq_true rfl, Nat.le_of_ble_eq_true rfl⟩ [] (by decide) rfl hf (fun l u h => ctJ7_rangeCheck_23922 l d (Int32.ofNat s_p0_n) v1 v2 u h) (fun _ => rfl) (fun _ => rfl) (fun u hf => ?_)
  refine g_iload_n (pc' := 8) X dJ7_fill_fda19_7 rfl rfl rfl ?_
  refine g_istore (lv' := [some (.ref q0), some (.int v1), some (.int v2), some (.int v3), some (.int v1)]) (pc' := 10) X dJ7_fill_fda19_8 rfl (by decide) rfl rfl ?_
  obtain ⟨y2, hy2, hf⟩ := sx_bd hf
  refine sx_weak [true, false, true, true, true] rfl (lJ7_fill_fda19_10 d κ q0 s_p0_n v2 v3 X y2 ?_ 1000 (v1, s_p0) hy2)
  rintro w3 rfl
  cases hf
  exact hR _ _ dJ7_fill_fda19_27
-- X3_clear
def fX3_clear (s_cells : Nat → Int32) : Option ((Nat → Int32)) :=
  (fJ7_fill_53178 42 s_cells (0 : Int32)).bind fun o1 =>
  (fJ7_fill_fda19 42 o1 (30 : Int32) (35 : Int32) (2 : Int32)).bind fun o2 =>
  some o2
set_option maxHeartbeats 4000000 in
set_option maxRecDepth 100000 in
theorem ctX3_clear (l : Launch) (d : sx_D) (q : Nat) (q_cells : Nat) (s_cells : Nat → Int32) (ro1 : Nat → Int32) (hf : fX3_clear s_cells = some ro1) : sx_V l d yX3_clear cX3_clear 1 2 [.ref q] [oX3 q q_cells, ai d q_cells 42 s_cells] [oX3 q q_cells, ai d q_cells 42 ro1] := by
  refine sx_V.intro (lv0 := [some (.ref q)]) (by decide +kernel) (Nat.le_of_ble_eq_true rfl) rfl ?_
  intro κ X hR
  have X : sx_X d κ cX3_clear 1 RX3 (sx_rm 2) := X
  unfold fX3_clear at hf
  refine g_aload_n (pc' := 1) X dX3_clear_0 rfl rfl rfl ?_
  refine g_get (pc' := 4) X fl_X3_9 dX3_clear_1 rfl 0 rfl rfl ?_
  refine g_iconst (v := 0) (pc' := 5) X dX3_clear_4 rfl (by decide) ?_
  refine g_callSv1 (pc' := 8) (As := [.ref q_cells, .int (0 : Int32)]) (st := []) (w2 := fun o1 => [oX3 q q_cells, ai d q_cells 42 o1]) X lk_X3_15 dX3_clear_5 rfl rfl rfl (Nat.le_of_ble_eq_true rfl) ⟨Nat.le_of_ble_eq_true rfl, Nat.le_of_ble_eq_true rfl, Nat.le_of_ble_eq_true rfl, Nat.le_of_ble_eq_true rfl⟩ [1] (by decide) rfl hf (fun l o1 h => ctJ7_fill_53178 l d q_cells 42 s_cells (0 : Int32) o1 h) (fun _ => rfl) (fun _ => rfl) (fun o1 hf => ?_)
  refine g_aload_n (pc' := 9) X dX3_clear_8 rfl rfl rfl ?_
  refine g_get (pc' := 12) X fl_X3_9 dX3_clear_9 rfl 0 rfl rfl ?_
  refine g_bipush (v := 30) (pc' := 14) X dX3_clear_12 rfl (by decide) ?_
  refine g_bipush (v := 35) (pc' := 16) X dX3_clear_14 rfl (by decide) ?_
  refine g_iconst (v := 2) (pc' := 17) X dX3_clear_16 rfl (by decide) ?_
  refine g_callSv1 (pc' := 20) (As := [.ref q_cells, .int (30 : Int32), .int (35 : Int32), .int (2 : Int32)]) (st := []) (w2 := fun o2 => [oX3 q q_cells, ai d q_cells 42 o2]) X lk_X3_21 dX3_clear_17 rfl rfl rfl (Nat.le_of_ble_eq_true rfl) ⟨Nat.le_of_ble_eq_true rfl, Nat.le_of_ble_eq_true rfl, Nat.le_of_ble_eq_true rfl, Nat.le_of_ble_eq_true rfl⟩ [1] (by decide) rfl hf (fun l o2 h => ctJ7_fill_fda19 l d q_cells 42 o1 (30 : Int32) (35 : Int32) (2 : Int32) o2 h) (fun _ => rfl) (fun _ => rfl) (fun o2 hf => ?_)
  cases hf
  exact hR _ _ dX3_clear_20
-- X2_readAll
def bX2_readAll_21 (s_length : Int32) (s_letters : Nat → Int32) : (Int32 × Int32 × (Nat → Int32) × Int32 × Int32 × (Nat → Int32) × (Nat → Int32) × (Nat → Int32) × (Nat → Int32)) → Option ((Int32 × Int32 × (Nat → Int32) × Int32 × Int32 × (Nat → Int32) × (Nat → Int32) × (Nat → Int32) × (Nat → Int32)) ⊕ ((Int32 × Int32 × (Nat → Int32) × Int32 × Int32 × (Nat → Int32) × (Nat → Int32) × (Nat → Int32) × (Nat → Int32)) ⊕ (Int32 × (Nat → Int32) × Int32 × Int32 × (Nat → Int32) × (Nat → Int32) × (Nat → Int32) × (Nat → Int32)))) := fun (v1, s_at, s_numbers, s_range_peaks, s_range_windsTold, s_range_kinds, s_range_heights, s_range_winds, s_state_cells) =>
  if (200 : Int32) ≤ v1 then
    some (.inr (.inr (s_at, s_numbers, s_range_peaks, s_range_windsTold, s_range_kinds, s_range_heights, s_range_winds, s_state_cells)))
  else
    if s_length ≤ s_at then
      some (.inr (.inr (s_at, s_numbers, s_range_peaks, s_range_windsTold, s_range_kinds, s_range_heights, s_range_winds, s_state_cells)))
    else
      (fX2_readItem s_length s_at s_letters s_numbers).bind fun (x4, o5, o6) =>
      if x4 = 0 then
        some (.inr (.inl (s_at, o5, o6, s_range_peaks, s_range_windsTold, s_range_kinds, s_range_heights, s_range_winds, s_state_cells)))
      else
        (fX2_letterAt s_length s_letters s_at).bind fun x7 =>
        (fX2_heed o6 s_range_peaks s_range_windsTold s_range_kinds s_range_heights s_range_winds s_state_cells x7).bind fun (x8, o9, o10, o11, o12, o13, o14) =>
        if x8 = 0 then
          some (.inr (.inl (s_at, o5, o6, o9, o10, o11, o12, o13, o14)))
        else
          some (.inl (v1 + (1 : Int32), o5, o6, o9, o10, o11, o12, o13, o14))
def fX2_readAll (s_length : Int32) (s_at : Int32) (s_letters : Nat → Int32) (s_numbers : Nat → Int32) (s_range_peaks : Int32) (s_range_windsTold : Int32) (s_range_kinds : Nat → Int32) (s_range_heights : Nat → Int32) (s_range_winds : Nat → Int32) (s_state_cells : Nat → Int32) : Option (Int32 × Int32 × (Nat → Int32) × Int32 × Int32 × (Nat → Int32) × (Nat → Int32) × (Nat → Int32) × (Nat → Int32)) :=
  (fX1_clear s_range_peaks s_range_windsTold).bind fun (o1, o2) =>
  (fX3_clear s_state_cells).bind fun o3 =>
  (sx_it 1000 (bX2_readAll_21 s_length s_letters) ((0 : Int32), (0 : Int32), s_numbers, o1, o2, s_range_kinds, s_range_heights, s_range_winds, o3)).bind fun y15 => match y15 with
    | .inl (w16, w17, w18, w19, w20, w21, w22, w23, w24) =>
      some (w16, w17, w18, w19, w20, w21, w22, w23, w24)
    | .inr ((w25, w26, w27, w28, w29, w30, w31, w32)) =>
      some ((-4 : Int32), w25, w26, w27, w28, w29, w30, w31, w32)
set_option maxHeartbeats 4000000 in
set_option maxRecDepth 100000 in
theorem lX2_readAll_21 (d : sx_D) (κ : sx_C) (q : Nat) (q_letters : Nat) (q_numbers : Nat) (q_range : Nat) (q_state : Nat) (q_range_kinds : Nat) (q_range_heights : Nat) (q_range_winds : Nat) (q_state_cells : Nat) (s_length : Int32) (s_letters : Nat → Int32) (X : sx_X d κ cX2_readAll 3 RX2 (sx_rm 4)) (y : (Int32 × Int32 × (Nat → Int32) × Int32 × Int32 × (Nat → Int32) × (Nat → Int32) × (Nat → Int32) × (Nat → Int32)) ⊕ (Int32 × (Nat → Int32) × Int32 × Int32 × (Nat → Int32) × (Nat → Int32) × (Nat → Int32) × (Nat → Int32))) (hE63 : ∀ (v2 : Int32) (s_at : Int32) (s_numbers : Nat → Int32) (s_range_peaks : Int32) (s_range_windsTold : Int32) (s_range_kinds : Nat → Int32) (s_range_heights : Nat → Int32) (s_range_winds : Nat → Int32) (s_state_cells : Nat → Int32), (.inl (v2, s_at, s_numbers, s_range_peaks, s_range_windsTold, s_range_kinds, s_range_heights, s_range_winds, s_state_cells)) = y → sx_G d κ 3 0 0 63 [none, none, some (.int v2)] [] [oX2 q q_letters q_numbers q_range q_state s_length s_at, ac d q_letters 200 s_letters, ai d q_numbers 3 s_numbers, oX1 q_range q_range_kinds q_range_heights q_range_winds s_range_peaks s_range_windsTold, ai d q_range_kinds 6 s_range_kinds, ai d q_range_heights 6 s_range_heights, ai d q_range_winds 12 s_range_winds, oX3 q_state q_state_cells, ai d q_state_cells 42 s_state_cells]) (hE71 : ∀ (s_at : Int32) (s_numbers : Nat → Int32) (s_range_peaks : Int32) (s_range_windsTold : Int32) (s_range_kinds : Nat → Int32) (s_range_heights : Nat → Int32) (s_range_winds : Nat → Int32) (s_state_cells : Nat → Int32), (.inr (s_at, s_numbers, s_range_peaks, s_range_windsTold, s_range_kinds, s_range_heights, s_range_winds, s_state_cells)) = y → sx_G d κ 3 0 0 71 [none, none, none] [] [oX2 q q_letters q_numbers q_range q_state s_length s_at, ac d q_letters 200 s_letters, ai d q_numbers 3 s_numbers, oX1 q_range q_range_kinds q_range_heights q_range_winds s_range_peaks s_range_windsTold, ai d q_range_kinds 6 s_range_kinds, ai d q_range_heights 6 s_range_heights, ai d q_range_winds 12 s_range_winds, oX3 q_state q_state_cells, ai d q_state_cells 42 s_state_cells]) : ∀ (n : Nat) (s : Int32 × Int32 × (Nat → Int32) × Int32 × Int32 × (Nat → Int32) × (Nat → Int32) × (Nat → Int32) × (Nat → Int32)), sx_it n (bX2_readAll_21 s_length s_letters) s = some y → (match s with | (v1, s_at, s_numbers, s_range_peaks, s_range_windsTold, s_range_kinds, s_range_heights, s_range_winds, s_state_cells) => sx_G d κ 3 0 0 21 [some (.ref q), some (.int v1), none] [] [oX2 q q_letters q_numbers q_range q_state s_length s_at, ac d q_letters 200 s_letters, ai d q_numbers 3 s_numbers, oX1 q_range q_range_kinds q_range_heights q_range_winds s_range_peaks s_range_windsTold, ai d q_range_kinds 6 s_range_kinds, ai d q_range_heights 6 s_range_heights, ai d q_range_winds 12 s_range_winds, oX3 q_state q_state_cells, ai d q_state_cells 42 s_state_cells]) := by
  refine sx_it_run (bX2_readAll_21 s_length s_letters) (fun s => match s with | (v1, s_at, s_numbers, s_range_peaks, s_range_windsTold, s_range_kinds, s_range_heights, s_range_winds, s_state_cells) => sx_G d κ 3 0 0 21 [some (.ref q), some (.int v1), none] [] [oX2 q q_letters q_numbers q_range q_state s_length s_at, ac d q_letters 200 s_letters, ai d q_numbers 3 s_numbers, oX1 q_range q_range_kinds q_range_heights q_range_winds s_range_peaks s_range_windsTold, ai d q_range_kinds 6 s_range_kinds, ai d q_range_heights 6 s_range_heights, ai d q_range_winds 12 s_range_winds, oX3 q_state q_state_cells, ai d q_state_cells 42 s_state_cells]) y ?_
  rintro ⟨v1, s_at, s_numbers, s_range_peaks, s_range_windsTold, s_range_kinds, s_range_heights, s_range_winds, s_state_cells⟩ x hf hb he
  show sx_G d κ 3 0 0 21 [some (.ref q), some (.int v1), none] [] [oX2 q q_letters q_numbers q_range q_state s_length s_at, ac d q_letters 200 s_letters, ai d q_numbers 3 s_numbers, oX1 q_range q_range_kinds q_range_heights q_range_winds s_range_peaks s_range_windsTold, ai d q_range_kinds 6 s_range_kinds, ai d q_range_heights 6 s_range_heights, ai d q_range_winds 12 s_range_winds, oX3 q_state q_state_cells, ai d q_state_cells 42 s_state_cells]
  unfold bX2_readAll_21 at hf
  refine g_iload_n (pc' := 22) X dX2_readAll_21 rfl rfl rfl ?_
  refine g_sipush (v := 200) (pc' := 25) X dX2_readAll_22 rfl (by decide) ?_
  refine g_icmp_ge (tgt := 71) (pc' := 28) X dX2_readAll_25 (by decide) rfl hf (fun hf => ?_) (fun hf => ?_)
  · exact sx_weak [false, false, true] rfl (hE71 _ _ _ _ _ _ _ _ (sx_ex hf he))
  · refine g_aload_n (pc' := 29) X dX2_readAll_28 rfl rfl rfl ?_
    refine g_get (pc' := 32) X fl_X2_54 dX2_readAll_29 rfl 0 rfl rfl ?_
    refine g_aload_n (pc' := 33) X dX2_readAll_32 rfl rfl rfl ?_
    refine g_get (pc' := 36) X fl_X2_33 dX2_readAll_33 rfl 0 rfl rfl ?_
    refine g_icmp_ge (tgt := 71) (pc' := 39) X dX2_readAll_36 (by decide) rfl hf (fun hf => ?_) (fun hf => ?_)
    · exact sx_weak [false, false, true] rfl (hE71 _ _ _ _ _ _ _ _ (sx_ex hf he))
    · refine g_aload_n (pc' := 40) X dX2_readAll_39 rfl rfl rfl ?_
      refine g_get (pc' := 43) X fl_X2_54 dX2_readAll_40 rfl 0 rfl rfl ?_
      refine g_istore_n (lv' := [some (.ref q), some (.int v1), some (.int s_at)]) (pc' := 44) X dX2_readAll_43 rfl rfl (by decide) rfl rfl ?_
      refine g_aload_n (pc' := 45) X dX2_readAll_44 rfl rfl rfl ?_
      refine g_callVi2 (pc' := 48) (As := []) (b := q) (st := []) (w2 := fun x4 o5 o6 => [oX2 q q_letters q_numbers q_range q_state s_length o5, ac d q_letters 200 s_letters, ai d q_numbers 3 o6, oX1 q_range q_range_kinds q_range_heights q_range_winds s_range_peaks s_range_windsTold, ai d q_range_kinds 6 s_range_kinds, ai d q_range_heights 6 s_range_heights, ai d q_range_winds 12 s_range_winds, oX3 q_state q_state_cells, ai d q_state_cells 42 s_state_cells]) X lk_X2_57 dX2_readAll_45 rfl rfl rfl (Nat.le_of_ble_eq_true rfl) ⟨Nat.le_of_ble_eq_true rfl, Nat.le_of_ble_eq_true rfl, Nat.le_of_ble_eq_true rfl, Nat.le_of_ble_eq_true rfl⟩ rfl [0, 1, 2] (by decide) rfl hf (fun l x4 o5 o6 h => ctX2_readItem l d q q_letters q_numbers q_range q_state s_length s_at s_letters s_numbers x4 o5 o6 h) (fun _ _ _ => rfl) (fun _ _ _ => rfl) (fun x4 o5 o6 hnx4 hf => ?_)
      refine g_if_eq (tgt := 63) (pc' := 51) X dX2_readAll_48 (by decide) rfl hf (fun hf => ?_) (fun hf => ?_)
      · exact sx_weak [false, false, true] rfl (hE63 _ _ _ _ _ _ _ _ _ (sx_ex hf he))
      · refine g_aload_n (pc' := 52) X dX2_readAll_51 rfl rfl rfl ?_
        refine g_aload_n (pc' := 53) X dX2_readAll_52 rfl rfl rfl ?_
        refine g_iload_n (pc' := 54) X dX2_readAll_53 rfl rfl rfl ?_
        refine g_callVi0 (pc' := 57) (As := [.int s_at]) (b := q) (st := [.ref q]) (w2 := fun x7 => [oX2 q q_letters q_numbers q_range q_state s_length o5, ac d q_letters 200 s_letters, ai d q_numbers 3 o6, oX1 q_range q_range_kinds q_range_heights q_range_winds s_range_peaks s_range_windsTold, ai d q_range_kinds 6 s_range_kinds, ai d q_range_heights 6 s_range_heights, ai d q_range_winds 12 s_range_winds, oX3 q_state q_state_cells, ai d q_state_cells 42 s_state_cells]) X lk_X2_61 dX2_readAll_54 rfl rfl rfl (Nat.le_of_ble_eq_true rfl) ⟨Nat.le_of_ble_eq_true rfl, Nat.le_of_ble_eq_true rfl, Nat.le_of_ble_eq_true rfl, Nat.le_of_ble_eq_true rfl⟩ rfl [0, 1] (by decide) rfl hf (fun l x7 h => ctX2_letterAt l d q q_letters q_numbers q_range q_state s_length o5 s_letters s_at x7 h) (fun _ => rfl) (fun _ => rfl) (fun x7 hnx7 hf => ?_)
        refine g_callVi6 (pc' := 60) (As := [.int x7]) (b := q) (st := []) (w2 := fun x8 o9 o10 o11 o12 o13 o14 => [oX2 q q_letters q_numbers q_range q_state s_length o5, ac d q_letters 200 s_letters, ai d q_numbers 3 o6, oX1 q_range q_range_kinds q_range_heights q_range_winds o9 o10, ai d q_range_kinds 6 o11, ai d q_range_heights 6 o12, ai d q_range_winds 12 o13, oX3 q_state q_state_cells, ai d q_state_cells 42 o14]) X lk_X2_64 dX2_readAll_57 rfl rfl rfl (Nat.le_of_ble_eq_true rfl) ⟨Nat.le_of_ble_eq_true rfl, Nat.le_of_ble_eq_true rfl, Nat.le_of_ble_eq_true rfl, Nat.le_of_ble_eq_true rfl⟩ rfl [0, 2, 3, 4, 5, 6, 7, 8] (by decide) rfl hf (fun l x8 o9 o10 o11 o12 o13 o14 h => ctX2_heed l d q q_letters q_numbers q_range q_state q_range_kinds q_range_heights q_range_winds q_state_cells s_length o5 o6 s_range_peaks s_range_windsTold s_range_kinds s_range_heights s_range_winds s_state_cells x7 x8 o9 o10 o11 o12 o13 o14 h) (fun _ _ _ _ _ _ _ => rfl) (fun _ _ _ _ _ _ _ => rfl) (fun x8 o9 o10 o11 o12 o13 o14 hnx8 hf => ?_)
        refine g_if_ne (tgt := 65) (pc' := 63) X dX2_readAll_60 (by decide) rfl hf (fun hf => ?_) (fun hf => ?_)
        · refine g_iinc (v := 1) (lv' := [some (.ref q), some (.int (v1 + (1 : Int32))), some (.int s_at)]) (pc' := 68) X dX2_readAll_65 rfl rfl (by decide) (by decide) rfl rfl ?_
          refine g_goto (tgt := 21) X dX2_readAll_68 (by decide) ?_
          have hk := sx_bk hf hb
          exact sx_weak [true, true, false] rfl hk
        · exact sx_weak [false, false, true] rfl (hE63 _ _ _ _ _ _ _ _ _ (sx_ex hf he))
set_option maxHeartbeats 4000000 in
set_option maxRecDepth 100000 in
theorem ctX2_readAll (l : Launch) (d : sx_D) (q : Nat) (q_letters : Nat) (q_numbers : Nat) (q_range : Nat) (q_state : Nat) (q_range_kinds : Nat) (q_range_heights : Nat) (q_range_winds : Nat) (q_state_cells : Nat) (s_length : Int32) (s_at : Int32) (s_letters : Nat → Int32) (s_numbers : Nat → Int32) (s_range_peaks : Int32) (s_range_windsTold : Int32) (s_range_kinds : Nat → Int32) (s_range_heights : Nat → Int32) (s_range_winds : Nat → Int32) (s_state_cells : Nat → Int32) (r : Int32) (ro1 : Int32) (ro2 : Nat → Int32) (ro3 : Int32) (ro4 : Int32) (ro5 : Nat → Int32) (ro6 : Nat → Int32) (ro7 : Nat → Int32) (ro8 : Nat → Int32) (hf : fX2_readAll s_length s_at s_letters s_numbers s_range_peaks s_range_windsTold s_range_kinds s_range_heights s_range_winds s_state_cells = some (r, ro1, ro2, ro3, ro4, ro5, ro6, ro7, ro8)) : sx_I l d yX2_readAll cX2_readAll 3 .int 4 [.ref q] [oX2 q q_letters q_numbers q_range q_state s_length s_at, ac d q_letters 200 s_letters, ai d q_numbers 3 s_numbers, oX1 q_range q_range_kinds q_range_heights q_range_winds s_range_peaks s_range_windsTold, ai d q_range_kinds 6 s_range_kinds, ai d q_range_heights 6 s_range_heights, ai d q_range_winds 12 s_range_winds, oX3 q_state q_state_cells, ai d q_state_cells 42 s_state_cells] [oX2 q q_letters q_numbers q_range q_state s_length ro1, ac d q_letters 200 s_letters, ai d q_numbers 3 ro2, oX1 q_range q_range_kinds q_range_heights q_range_winds ro3 ro4, ai d q_range_kinds 6 ro5, ai d q_range_heights 6 ro6, ai d q_range_winds 12 ro7, oX3 q_state q_state_cells, ai d q_state_cells 42 ro8] r := by
  refine sx_I.intro (lv0 := [some (.ref q), none, none]) (by decide +kernel) (Nat.le_of_ble_eq_true rfl) rfl ?_
  intro κ X hR
  have X : sx_X d κ cX2_readAll 3 RX2 (sx_rm 4) := X
  unfold fX2_readAll at hf
  refine g_aload_n (pc' := 1) X dX2_readAll_0 rfl rfl rfl ?_
  refine g_get (pc' := 4) X fl_X2_22 dX2_readAll_1 rfl 0 rfl rfl ?_
  refine g_callVv2 (pc' := 7) (As := []) (b := q_range) (st := []) (w2 := fun o1 o2 => [oX2 q q_letters q_numbers q_range q_state s_length s_at, ac d q_letters 200 s_letters, ai d q_numbers 3 s_numbers, oX1 q_range q_range_kinds q_range_heights q_range_winds o1 o2, ai d q_range_kinds 6 s_range_kinds, ai d q_range_heights 6 s_range_heights, ai d q_range_winds 12 s_range_winds, oX3 q_state q_state_cells, ai d q_state_cells 42 s_state_cells]) X lk_X2_50 dX2_readAll_4 rfl rfl rfl (Nat.le_of_ble_eq_true rfl) ⟨Nat.le_of_ble_eq_true rfl, Nat.le_of_ble_eq_true rfl, Nat.le_of_ble_eq_true rfl, Nat.le_of_ble_eq_true rfl⟩ rfl [3] (by decide) rfl hf (fun l o1 o2 h => ctX1_clear l d q_range q_range_kinds q_range_heights q_range_winds s_range_peaks s_range_windsTold o1 o2 h) (fun _ _ => rfl) (fun _ _ => rfl) (fun o1 o2 hf => ?_)
  refine g_aload_n (pc' := 8) X dX2_readAll_7 rfl rfl rfl ?_
  refine g_get (pc' := 11) X fl_X2_29 dX2_readAll_8 rfl 0 rfl rfl ?_
  refine g_callVv1 (pc' := 14) (As := []) (b := q_state) (st := []) (w2 := fun o3 => [oX2 q q_letters q_numbers q_range q_state s_length s_at, ac d q_letters 200 s_letters, ai d q_numbers 3 s_numbers, oX1 q_range q_range_kinds q_range_heights q_range_winds o1 o2, ai d q_range_kinds 6 s_range_kinds, ai d q_range_heights 6 s_range_heights, ai d q_range_winds 12 s_range_winds, oX3 q_state q_state_cells, ai d q_state_cells 42 o3]) X lk_X2_53 dX2_readAll_11 rfl rfl rfl (Nat.le_of_ble_eq_true rfl) ⟨Nat.le_of_ble_eq_true rfl, Nat.le_of_ble_eq_true rfl, Nat.le_of_ble_eq_true rfl, Nat.le_of_ble_eq_true rfl⟩ rfl [7, 8] (by decide) rfl hf (fun l o3 h => ctX3_clear l d q_state q_state_cells s_state_cells o3 h) (fun _ => rfl) (fun _ => rfl) (fun o3 hf => ?_)
  refine g_aload_n (pc' := 15) X dX2_readAll_14 rfl rfl rfl ?_
  refine g_iconst (v := 0) (pc' := 16) X dX2_readAll_15 rfl (by decide) ?_
  refine g_put (pc' := 19) (w2 := [oX2 q q_letters q_numbers q_range q_state s_length (0 : Int32), ac d q_letters 200 s_letters, ai d q_numbers 3 s_numbers, oX1 q_range q_range_kinds q_range_heights q_range_winds o1 o2, ai d q_range_kinds 6 s_range_kinds, ai d q_range_heights 6 s_range_heights, ai d q_range_winds 12 s_range_winds, oX3 q_state q_state_cells, ai d q_state_cells 42 o3]) X fl_X2_54 fw_X2 rfl dX2_readAll_16 rfl 0 rfl rfl rfl (Nat.le_of_ble_eq_true rfl) rfl ?_
  refine g_iconst (v := 0) (pc' := 20) X dX2_readAll_19 rfl (by decide) ?_
  refine g_istore_n (lv' := [some (.ref q), some (.int (0 : Int32)), none]) (pc' := 21) X dX2_readAll_20 rfl rfl (by decide) rfl rfl ?_
  obtain ⟨y15, hy15, hf⟩ := sx_bd hf
  refine sx_weak [true, true, true] rfl (lX2_readAll_21 d κ q q_letters q_numbers q_range q_state q_range_kinds q_range_heights q_range_winds q_state_cells s_length s_letters X y15 ?_ ?_ 1000 ((0 : Int32), (0 : Int32), s_numbers, o1, o2, s_range_kinds, s_range_heights, s_range_winds, o3) hy15)
  · rintro w16 w17 w18 w19 w20 w21 w22 w23 w24 rfl
    refine g_iload_n (pc' := 64) X dX2_readAll_63 rfl rfl rfl ?_
    cases hf
    exact hR _ _ dX2_readAll_64 rfl
  · rintro w25 w26 w27 w28 w29 w30 w31 w32 rfl
    refine g_bipush (v := -4) (pc' := 73) X dX2_readAll_71 rfl (by decide) ?_
    cases hf
    exact hR _ _ dX2_readAll_73 rfl
-- X3_become
def fX3_become (s_cells : Nat → Int32) (s_p1_cells : Nat → Int32) : Option ((Nat → Int32)) :=
  sx_cp s_p1_cells s_cells 42 42 (0 : Int32) (0 : Int32) (42 : Int32) fun g1 =>
  some g1
set_option maxHeartbeats 4000000 in
set_option maxRecDepth 100000 in
theorem ctX3_become (l : Launch) (d : sx_D) (q : Nat) (q_cells : Nat) (q1 : Nat) (q1_cells : Nat) (s_cells : Nat → Int32) (s_p1_cells : Nat → Int32) (ro1 : Nat → Int32) (hf : fX3_become s_cells s_p1_cells = some ro1) : sx_V l d yX3_become cX3_become 2 1 [.ref q, .ref q1] [oX3 q q_cells, ai d q_cells 42 s_cells, oX3 q1 q1_cells, ai d q1_cells 42 s_p1_cells] [oX3 q q_cells, ai d q_cells 42 ro1, oX3 q1 q1_cells, ai d q1_cells 42 s_p1_cells] := by
  refine sx_V.intro (lv0 := [some (.ref q), some (.ref q1)]) (by decide +kernel) (Nat.le_of_ble_eq_true rfl) rfl ?_
  intro κ X hR
  have X : sx_X d κ cX3_become 2 RX3 (sx_rm 1) := X
  unfold fX3_become at hf
  refine g_aload_n (pc' := 1) X dX3_become_0 rfl rfl rfl ?_
  refine g_get (pc' := 4) X fl_X3_9 dX3_become_1 rfl 2 rfl rfl ?_
  refine g_iconst (v := 0) (pc' := 5) X dX3_become_4 rfl (by decide) ?_
  refine g_aload_n (pc' := 6) X dX3_become_5 rfl rfl rfl ?_
  refine g_get (pc' := 9) X fl_X3_9 dX3_become_6 rfl 0 rfl rfl ?_
  refine g_iconst (v := 0) (pc' := 10) X dX3_become_9 rfl (by decide) ?_
  refine g_bipush (v := 42) (pc' := 12) X dX3_become_10 rfl (by decide) ?_
  refine g_copy (pc' := 15) (w2 := fun g1 => [oX3 q q_cells, ai d q_cells 42 g1, oX3 q1 q1_cells, ai d q1_cells 42 s_p1_cells]) X nv_X3_24 dX3_become_12 rfl 3 1 rfl rfl ⟨Nat.le_of_ble_eq_true rfl, Nat.le_of_ble_eq_true rfl⟩ hf (fun _ => rfl) (fun g1 hf => ?_)
  cases hf
  exact hR _ _ dX3_become_15
-- X3_pinsOn
def fX3_pinsOn (s_cells : Nat → Int32) (v1 : Int32) (v2 : Int32) : Option (Int32) :=
  sx_lt ((v1 * (5 : Int32)) + v2) fun x1 =>
  if x1 < 0 then
    some (0 : Int32)
  else
    if (30 : Int32) ≤ x1 then
      some (0 : Int32)
    else
      sx_rd s_cells 42 x1 fun x2 =>
      some x2
set_option maxHeartbeats 4000000 in
set_option maxRecDepth 100000 in
theorem ctX3_pinsOn (l : Launch) (d : sx_D) (q : Nat) (q_cells : Nat) (s_cells : Nat → Int32) (v1 : Int32) (v2 : Int32) (r : Int32) (hf : fX3_pinsOn s_cells v1 v2 = some r) : sx_I l d yX3_pinsOn cX3_pinsOn 4 .int 0 [.ref q, .int v1, .int v2] [oX3 q q_cells, ai d q_cells 42 s_cells] [oX3 q q_cells, ai d q_cells 42 s_cells] r := by
  refine sx_I.intro (lv0 := [some (.ref q), some (.int v1), some (.int v2), none]) (by decide +kernel) (Nat.le_of_ble_eq_true rfl) rfl ?_
  intro κ X hR
  have X : sx_X d κ cX3_pinsOn 4 RX3 (sx_rm 0) := X
  unfold fX3_pinsOn at hf
  refine g_iload_n (pc' := 1) X dX3_pinsOn_0 rfl rfl rfl ?_
  refine g_iconst (v := 5) (pc' := 2) X dX3_pinsOn_1 rfl (by decide) ?_
  refine g_imul (pc' := 3) X dX3_pinsOn_2 rfl ?_
  refine g_iload_n (pc' := 4) X dX3_pinsOn_3 rfl rfl rfl ?_
  refine g_iadd (pc' := 5) X dX3_pinsOn_4 rfl ?_
  refine g_istore_nN (lv' := fun x1 => [some (.ref q), some (.int v1), some (.int v2), some (.int x1)]) (pc' := 6) X dX3_pinsOn_5 rfl rfl (by decide) rfl (fun _ => rfl) hf (fun x1 hf => ?_)
  refine g_iload_n (pc' := 7) X dX3_pinsOn_6 rfl rfl rfl ?_
  refine g_if_lt (tgt := 25) (pc' := 10) X dX3_pinsOn_7 (by decide) rfl hf (fun hf => ?_) (fun hf => ?_)
  · refine g_iconst (v := 0) (pc' := 26) X dX3_pinsOn_25 rfl (by decide) ?_
    cases hf
    exact hR _ _ dX3_pinsOn_26 rfl
  · refine g_iload_n (pc' := 11) X dX3_pinsOn_10 rfl rfl rfl ?_
    refine g_bipush (v := 30) (pc' := 13) X dX3_pinsOn_11 rfl (by decide) ?_
    refine g_icmp_ge (tgt := 25) (pc' := 16) X dX3_pinsOn_13 (by decide) rfl hf (fun hf => ?_) (fun hf => ?_)
    · refine g_iconst (v := 0) (pc' := 26) X dX3_pinsOn_25 rfl (by decide) ?_
      cases hf
      exact hR _ _ dX3_pinsOn_26 rfl
    · refine g_aload_n (pc' := 17) X dX3_pinsOn_16 rfl rfl rfl ?_
      refine g_get (pc' := 20) X fl_X3_9 dX3_pinsOn_17 rfl 0 rfl rfl ?_
      refine g_iload_n (pc' := 21) X dX3_pinsOn_20 rfl rfl rfl ?_
      refine g_iald (pc' := 22) X dX3_pinsOn_21 rfl 1 rfl hf (fun x2 hf => ?_)
      refine g_goto (tgt := 26) X dX3_pinsOn_22 (by decide) ?_
      cases hf
      exact hR _ _ dX3_pinsOn_26 rfl
-- X3_isOn
def fX3_isOn (s_cells : Nat → Int32) (v1 : Int32) (v2 : Int32) : Option (Int32) :=
  (fX3_pinsOn s_cells v1 v2).bind fun x1 =>
  if x1 ≤ 0 then
    some (0 : Int32)
  else
    some (1 : Int32)
set_option maxHeartbeats 4000000 in
set_option maxRecDepth 100000 in
theorem ctX3_isOn (l : Launch) (d : sx_D) (q : Nat) (q_cells : Nat) (s_cells : Nat → Int32) (v1 : Int32) (v2 : Int32) (r : Int32) (hf : fX3_isOn s_cells v1 v2 = some r) : sx_I l d yX3_isOn cX3_isOn 3 .boolean 1 [.ref q, .int v1, .int v2] [oX3 q q_cells, ai d q_cells 42 s_cells] [oX3 q q_cells, ai d q_cells 42 s_cells] r := by
  refine sx_I.intro (lv0 := [some (.ref q), some (.int v1), some (.int v2)]) (by decide +kernel) (Nat.le_of_ble_eq_true rfl) rfl ?_
  intro κ X hR
  have X : sx_X d κ cX3_isOn 3 RX3 (sx_rm 1) := X
  unfold fX3_isOn at hf
  refine g_aload_n (pc' := 1) X dX3_isOn_0 rfl rfl rfl ?_
  refine g_iload_n (pc' := 2) X dX3_isOn_1 rfl rfl rfl ?_
  refine g_iload_n (pc' := 3) X dX3_isOn_2 rfl rfl rfl ?_
  refine g_callVi0 (pc' := 6) (As := [.int v1, .int v2]) (b := q) (st := []) (w2 := fun x1 => [oX3 q q_cells, ai d q_cells 42 s_cells]) X lk_X3_30 dX3_isOn_3 rfl rfl rfl (Nat.le_of_ble_eq_true rfl) ⟨Nat.le_of_ble_eq_true rfl, Nat.le_of_ble_eq_true rfl, Nat.le_of_ble_eq_true rfl, Nat.le_of_ble_eq_true rfl⟩ rfl [0, 1] (by decide) rfl hf (fun l x1 h => ctX3_pinsOn l d q q_cells s_cells v1 v2 x1 h) (fun _ => rfl) (fun _ => rfl) (fun x1 hnx1 hf => ?_)
  refine g_if_le (tgt := 13) (pc' := 9) X dX3_isOn_6 (by decide) rfl hf (fun hf => ?_) (fun hf => ?_)
  · refine g_iconst (v := 0) (pc' := 14) X dX3_isOn_13 rfl (by decide) ?_
    cases hf
    exact hR _ _ dX3_isOn_14 rfl
  · refine g_iconst (v := 1) (pc' := 10) X dX3_isOn_9 rfl (by decide) ?_
    refine g_goto (tgt := 14) X dX3_isOn_10 (by decide) ?_
    cases hf
    exact hR _ _ dX3_isOn_14 rfl
-- X3_looksOf
def bX3_looksOf_4 (s_cells : Nat → Int32) (v1 : Int32) : (Int32 × Int32) → Option ((Int32 × Int32) ⊕ (Int32)) := fun (v2, v3) =>
  if (5 : Int32) ≤ v3 then
    some (.inr v2)
  else
    (fX3_isOn s_cells v1 v3).bind fun x1 =>
    if x1 = 0 then
      some (.inl (v2, v3 + (1 : Int32)))
    else
      sx_lt (v2 ||| ((1 : Int32) <<< (v3 &&& 31))) fun x2 =>
      some (.inl (x2, v3 + (1 : Int32)))
def fX3_looksOf (s_cells : Nat → Int32) (v1 : Int32) : Option (Int32) :=
  (sx_it 1000 (bX3_looksOf_4 s_cells v1) ((0 : Int32), (0 : Int32))).bind fun w4 =>
  some w4
set_option maxHeartbeats 4000000 in
set_option maxRecDepth 100000 in
theorem lX3_looksOf_4 (d : sx_D) (κ : sx_C) (q : Nat) (q_cells : Nat) (s_cells : Nat → Int32) (v1 : Int32) (X : sx_X d κ cX3_looksOf 4 RX3 (sx_rm 2)) (y : Int32) (hE30 : ∀ (v2 : Int32), v2 = y → sx_G d κ 4 0 0 30 [none, none, some (.int v2), none] [] [oX3 q q_cells, ai d q_cells 42 s_cells]) : ∀ (n : Nat) (s : Int32 × Int32), sx_it n (bX3_looksOf_4 s_cells v1) s = some y → (match s with | (v2, v3) => sx_G d κ 4 0 0 4 [some (.ref q), some (.int v1), some (.int v2), some (.int v3)] [] [oX3 q q_cells, ai d q_cells 42 s_cells]) := by
  refine sx_it_run (bX3_looksOf_4 s_cells v1) (fun s => match s with | (v2, v3) => sx_G d κ 4 0 0 4 [some (.ref q), some (.int v1), some (.int v2), some (.int v3)] [] [oX3 q q_cells, ai d q_cells 42 s_cells]) y ?_
  rintro ⟨v2, v3⟩ x hf hb he
  show sx_G d κ 4 0 0 4 [some (.ref q), some (.int v1), some (.int v2), some (.int v3)] [] [oX3 q q_cells, ai d q_cells 42 s_cells]
  unfold bX3_looksOf_4 at hf
  refine g_iload_n (pc' := 5) X dX3_looksOf_4 rfl rfl rfl ?_
  refine g_iconst (v := 5) (pc' := 6) X dX3_looksOf_5 rfl (by decide) ?_
  refine g_icmp_ge (tgt := 30) (pc' := 9) X dX3_looksOf_6 (by decide) rfl hf (fun hf => ?_) (fun hf => ?_)
  · exact sx_weak [false, false, true, false] rfl (hE30 _ (sx_ex hf he))
  · refine g_aload_n (pc' := 10) X dX3_looksOf_9 rfl rfl rfl ?_
    refine g_iload_n (pc' := 11) X dX3_looksOf_10 rfl rfl rfl ?_
    refine g_iload_n (pc' := 12) X dX3_looksOf_11 rfl rfl rfl ?_
    refine g_callVi0 (pc' := 15) (As := [.int v1, .int v3]) (b := q) (st := []) (w2 := fun x1 => [oX3 q q_cells, ai d q_cells 42 s_cells]) X lk_X3_34 dX3_looksOf_12 rfl rfl rfl (Nat.le_of_ble_eq_true rfl) ⟨Nat.le_of_ble_eq_true rfl, Nat.le_of_ble_eq_true rfl, Nat.le_of_ble_eq_true rfl, Nat.le_of_ble_eq_true rfl⟩ rfl [0, 1] (by decide) rfl hf (fun l x1 h => ctX3_isOn l d q q_cells s_cells v1 v3 x1 h) (fun _ => rfl) (fun _ => rfl) (fun x1 hnx1 hf => ?_)
    refine g_if_eq (tgt := 24) (pc' := 18) X dX3_looksOf_15 (by decide) rfl hf (fun hf => ?_) (fun hf => ?_)
    · refine g_iinc (v := 1) (lv' := [some (.ref q), some (.int v1), some (.int v2), some (.int (v3 + (1 : Int32)))]) (pc' := 27) X dX3_looksOf_24 rfl rfl (by decide) (by decide) rfl rfl ?_
      refine g_goto (tgt := 4) X dX3_looksOf_27 (by decide) ?_
      have hk := sx_bk hf hb
      exact sx_weak [true, true, true, true] rfl hk
    · refine g_iload_n (pc' := 19) X dX3_looksOf_18 rfl rfl rfl ?_
      refine g_iconst (v := 1) (pc' := 20) X dX3_looksOf_19 rfl (by decide) ?_
      refine g_iload_n (pc' := 21) X dX3_looksOf_20 rfl rfl rfl ?_
      refine g_ishl (pc' := 22) X dX3_looksOf_21 rfl ?_
      refine g_ior (pc' := 23) X dX3_looksOf_22 rfl ?_
      refine g_istore_nN (lv' := fun x2 => [some (.ref q), some (.int v1), some (.int x2), some (.int v3)]) (pc' := 24) X dX3_looksOf_23 rfl rfl (by decide) rfl (fun _ => rfl) hf (fun x2 hf => ?_)
      refine g_iinc (v := 1) (lv' := [some (.ref q), some (.int v1), some (.int x2), some (.int (v3 + (1 : Int32)))]) (pc' := 27) X dX3_looksOf_24 rfl rfl (by decide) (by decide) rfl rfl ?_
      refine g_goto (tgt := 4) X dX3_looksOf_27 (by decide) ?_
      have hk := sx_bk hf hb
      exact sx_weak [true, true, true, true] rfl hk
set_option maxHeartbeats 4000000 in
set_option maxRecDepth 100000 in
theorem ctX3_looksOf (l : Launch) (d : sx_D) (q : Nat) (q_cells : Nat) (s_cells : Nat → Int32) (v1 : Int32) (r : Int32) (hf : fX3_looksOf s_cells v1 = some r) : sx_I l d yX3_looksOf cX3_looksOf 4 .int 2 [.ref q, .int v1] [oX3 q q_cells, ai d q_cells 42 s_cells] [oX3 q q_cells, ai d q_cells 42 s_cells] r := by
  refine sx_I.intro (lv0 := [some (.ref q), some (.int v1), none, none]) (by decide +kernel) (Nat.le_of_ble_eq_true rfl) rfl ?_
  intro κ X hR
  have X : sx_X d κ cX3_looksOf 4 RX3 (sx_rm 2) := X
  unfold fX3_looksOf at hf
  refine g_iconst (v := 0) (pc' := 1) X dX3_looksOf_0 rfl (by decide) ?_
  refine g_istore_n (lv' := [some (.ref q), some (.int v1), some (.int (0 : Int32)), none]) (pc' := 2) X dX3_looksOf_1 rfl rfl (by decide) rfl rfl ?_
  refine g_iconst (v := 0) (pc' := 3) X dX3_looksOf_2 rfl (by decide) ?_
  refine g_istore_n (lv' := [some (.ref q), some (.int v1), some (.int (0 : Int32)), some (.int (0 : Int32))]) (pc' := 4) X dX3_looksOf_3 rfl rfl (by decide) rfl rfl ?_
  obtain ⟨y3, hy3, hf⟩ := sx_bd hf
  refine sx_weak [true, true, true, true] rfl (lX3_looksOf_4 d κ q q_cells s_cells v1 X y3 ?_ 1000 ((0 : Int32), (0 : Int32)) hy3)
  rintro w4 rfl
  refine g_iload_n (pc' := 31) X dX3_looksOf_30 rfl rfl rfl ?_
  cases hf
  exact hR _ _ dX3_looksOf_31 rfl
-- X3_inStore
def fX3_inStore (s_cells : Nat → Int32) (v1 : Int32) : Option (Int32) :=
  (fX4_isTrimming v1).bind fun x1 =>
  if x1 = 0 then
    some (0 : Int32)
  else
    sx_rd s_cells 42 ((30 : Int32) + v1) fun x2 =>
    some x2
set_option maxHeartbeats 4000000 in
set_option maxRecDepth 100000 in
theorem ctX3_inStore (l : Launch) (d : sx_D) (q : Nat) (q_cells : Nat) (s_cells : Nat → Int32) (v1 : Int32) (r : Int32) (hf : fX3_inStore s_cells v1 = some r) : sx_I l d yX3_inStore cX3_inStore 2 .int 1 [.ref q, .int v1] [oX3 q q_cells, ai d q_cells 42 s_cells] [oX3 q q_cells, ai d q_cells 42 s_cells] r := by
  refine sx_I.intro (lv0 := [some (.ref q), some (.int v1)]) (by decide +kernel) (Nat.le_of_ble_eq_true rfl) rfl ?_
  intro κ X hR
  have X : sx_X d κ cX3_inStore 2 RX3 (sx_rm 1) := X
  unfold fX3_inStore at hf
  refine g_iload_n (pc' := 1) X dX3_inStore_0 rfl rfl rfl ?_
  refine g_callSi0 (pc' := 4) (As := [.int v1]) (st := []) (w2 := fun x1 => [oX3 q q_cells, ai d q_cells 42 s_cells]) X lk_X3_38 dX3_inStore_1 rfl rfl rfl (Nat.le_of_ble_eq_true rfl) ⟨Nat.le_of_ble_eq_true rfl, Nat.le_of_ble_eq_true rfl, Nat.le_of_ble_eq_true rfl, Nat.le_of_ble_eq_true rfl⟩ [] (by decide) rfl hf (fun l x1 h => ctX4_isTrimming l d v1 x1 h) (fun _ => rfl) (fun _ => rfl) (fun x1 hnx1 hf => ?_)
  refine g_if_eq (tgt := 19) (pc' := 7) X dX3_inStore_4 (by decide) rfl hf (fun hf => ?_) (fun hf => ?_)
  · refine g_iconst (v := 0) (pc' := 20) X dX3_inStore_19 rfl (by decide) ?_
    cases hf
    exact hR _ _ dX3_inStore_20 rfl
  · refine g_aload_n (pc' := 8) X dX3_inStore_7 rfl rfl rfl ?_
    refine g_get (pc' := 11) X fl_X3_9 dX3_inStore_8 rfl 0 rfl rfl ?_
    refine g_bipush (v := 30) (pc' := 13) X dX3_inStore_11 rfl (by decide) ?_
    refine g_iload_n (pc' := 14) X dX3_inStore_13 rfl rfl rfl ?_
    refine g_iadd (pc' := 15) X dX3_inStore_14 rfl ?_
    refine g_iald (pc' := 16) X dX3_inStore_15 rfl 1 rfl hf (fun x2 hf => ?_)
    refine g_goto (tgt := 20) X dX3_inStore_16 (by decide) ?_
    cases hf
    exact hR _ _ dX3_inStore_20 rfl
-- X3_guideOf
def fX3_guideOf (s_cells : Nat → Int32) (v1 : Int32) : Option (Int32) :=
  if v1 < 0 then
    some (0 : Int32)
  else
    if (6 : Int32) ≤ v1 then
      some (0 : Int32)
    else
      sx_rd s_cells 42 ((35 : Int32) + v1) fun x1 =>
      some x1
set_option maxHeartbeats 4000000 in
set_option maxRecDepth 100000 in
theorem ctX3_guideOf (l : Launch) (d : sx_D) (q : Nat) (q_cells : Nat) (s_cells : Nat → Int32) (v1 : Int32) (r : Int32) (hf : fX3_guideOf s_cells v1 = some r) : sx_I l d yX3_guideOf cX3_guideOf 2 .int 0 [.ref q, .int v1] [oX3 q q_cells, ai d q_cells 42 s_cells] [oX3 q q_cells, ai d q_cells 42 s_cells] r := by
  refine sx_I.intro (lv0 := [some (.ref q), some (.int v1)]) (by decide +kernel) (Nat.le_of_ble_eq_true rfl) rfl ?_
  intro κ X hR
  have X : sx_X d κ cX3_guideOf 2 RX3 (sx_rm 0) := X
  unfold fX3_guideOf at hf
  refine g_iload_n (pc' := 1) X dX3_guideOf_0 rfl rfl rfl ?_
  refine g_if_lt (tgt := 22) (pc' := 4) X dX3_guideOf_1 (by decide) rfl hf (fun hf => ?_) (fun hf => ?_)
  · refine g_iconst (v := 0) (pc' := 23) X dX3_guideOf_22 rfl (by decide) ?_
    cases hf
    exact hR _ _ dX3_guideOf_23 rfl
  · refine g_iload_n (pc' := 5) X dX3_guideOf_4 rfl rfl rfl ?_
    refine g_bipush (v := 6) (pc' := 7) X dX3_guideOf_5 rfl (by decide) ?_
    refine g_icmp_ge (tgt := 22) (pc' := 10) X dX3_guideOf_7 (by decide) rfl hf (fun hf => ?_) (fun hf => ?_)
    · refine g_iconst (v := 0) (pc' := 23) X dX3_guideOf_22 rfl (by decide) ?_
      cases hf
      exact hR _ _ dX3_guideOf_23 rfl
    · refine g_aload_n (pc' := 11) X dX3_guideOf_10 rfl rfl rfl ?_
      refine g_get (pc' := 14) X fl_X3_9 dX3_guideOf_11 rfl 0 rfl rfl ?_
      refine g_bipush (v := 35) (pc' := 16) X dX3_guideOf_14 rfl (by decide) ?_
      refine g_iload_n (pc' := 17) X dX3_guideOf_16 rfl rfl rfl ?_
      refine g_iadd (pc' := 18) X dX3_guideOf_17 rfl ?_
      refine g_iald (pc' := 19) X dX3_guideOf_18 rfl 1 rfl hf (fun x1 hf => ?_)
      refine g_goto (tgt := 23) X dX3_guideOf_19 (by decide) ?_
      cases hf
      exact hR _ _ dX3_guideOf_23 rfl
-- X3_makeGuides
def bX3_makeGuides_2  : (Int32 × (Nat → Int32)) → Option ((Int32 × (Nat → Int32)) ⊕ ((Nat → Int32))) := fun (v1, s_cells) =>
  if (6 : Int32) ≤ v1 then
    some (.inr s_cells)
  else
    (fX3_looksOf s_cells v1).bind fun x1 =>
    sx_wr s_cells 42 ((35 : Int32) + v1) x1 fun g2 =>
    some (.inl (v1 + (1 : Int32), g2))
def fX3_makeGuides (s_cells : Nat → Int32) : Option ((Nat → Int32)) :=
  (sx_it 1000 (bX3_makeGuides_2) ((0 : Int32), s_cells)).bind fun w4 =>
  some w4
set_option maxHeartbeats 4000000 in
set_option maxRecDepth 100000 in
theorem lX3_makeGuides_2 (d : sx_D) (κ : sx_C) (q : Nat) (q_cells : Nat) (X : sx_X d κ cX3_makeGuides 2 RX3 (sx_rm 3)) (y : (Nat → Int32)) (hE28 : ∀ (s_cells : Nat → Int32), s_cells = y → sx_G d κ 2 0 0 28 [none, none] [] [oX3 q q_cells, ai d q_cells 42 s_cells]) : ∀ (n : Nat) (s : Int32 × (Nat → Int32)), sx_it n (bX3_makeGuides_2) s = some y → (match s with | (v1, s_cells) => sx_G d κ 2 0 0 2 [some (.ref q), some (.int v1)] [] [oX3 q q_cells, ai d q_cells 42 s_cells]) := by
  refine sx_it_run (bX3_makeGuides_2) (fun s => match s with | (v1, s_cells) => sx_G d κ 2 0 0 2 [some (.ref q), some (.int v1)] [] [oX3 q q_cells, ai d q_cells 42 s_cells]) y ?_
  rintro ⟨v1, s_cells⟩ x hf hb he
  show sx_G d κ 2 0 0 2 [some (.ref q), some (.int v1)] [] [oX3 q q_cells, ai d q_cells 42 s_cells]
  unfold bX3_makeGuides_2 at hf
  refine g_iload_n (pc' := 3) X dX3_makeGuides_2 rfl rfl rfl ?_
  refine g_bipush (v := 6) (pc' := 5) X dX3_makeGuides_3 rfl (by decide) ?_
  refine g_icmp_ge (tgt := 28) (pc' := 8) X dX3_makeGuides_5 (by decide) rfl hf (fun hf => ?_) (fun hf => ?_)
  · exact sx_weak [false, false] rfl (hE28 _ (sx_ex hf he))
  · refine g_aload_n (pc' := 9) X dX3_makeGuides_8 rfl rfl rfl ?_
    refine g_get (pc' := 12) X fl_X3_9 dX3_makeGuides_9 rfl 0 rfl rfl ?_
    refine g_bipush (v := 35) (pc' := 14) X dX3_makeGuides_12 rfl (by decide) ?_
    refine g_iload_n (pc' := 15) X dX3_makeGuides_14 rfl rfl rfl ?_
    refine g_iadd (pc' := 16) X dX3_makeGuides_15 rfl ?_
    refine g_aload_n (pc' := 17) X dX3_makeGuides_16 rfl rfl rfl ?_
    refine g_iload_n (pc' := 18) X dX3_makeGuides_17 rfl rfl rfl ?_
    refine g_callVi0 (pc' := 21) (As := [.int v1]) (b := q) (st := [.int ((35 : Int32) + v1), .ref q_cells]) (w2 := fun x1 => [oX3 q q_cells, ai d q_cells 42 s_cells]) X lk_X3_42 dX3_makeGuides_18 rfl rfl rfl (Nat.le_of_ble_eq_true rfl) ⟨Nat.le_of_ble_eq_true rfl, Nat.le_of_ble_eq_true rfl, Nat.le_of_ble_eq_true rfl, Nat.le_of_ble_eq_true rfl⟩ rfl [0, 1] (by decide) rfl hf (fun l x1 h => ctX3_looksOf l d q q_cells s_cells v1 x1 h) (fun _ => rfl) (fun _ => rfl) (fun x1 hnx1 hf => ?_)
    refine g_iast (pc' := 22) (w2 := fun g2 => [oX3 q q_cells, ai d q_cells 42 g2]) X dX3_makeGuides_21 rfl 1 rfl hf (fun _ => rfl) (fun g2 hf => ?_)
    refine g_iinc (v := 1) (lv' := [some (.ref q), some (.int (v1 + (1 : Int32)))]) (pc' := 25) X dX3_makeGuides_22 rfl rfl (by decide) (by decide) rfl rfl ?_
    refine g_goto (tgt := 2) X dX3_makeGuides_25 (by decide) ?_
    have hk := sx_bk hf hb
    exact sx_weak [true, true] rfl hk
set_option maxHeartbeats 4000000 in
set_option maxRecDepth 100000 in
theorem ctX3_makeGuides (l : Launch) (d : sx_D) (q : Nat) (q_cells : Nat) (s_cells : Nat → Int32) (ro1 : Nat → Int32) (hf : fX3_makeGuides s_cells = some ro1) : sx_V l d yX3_makeGuides cX3_makeGuides 2 3 [.ref q] [oX3 q q_cells, ai d q_cells 42 s_cells] [oX3 q q_cells, ai d q_cells 42 ro1] := by
  refine sx_V.intro (lv0 := [some (.ref q), none]) (by decide +kernel) (Nat.le_of_ble_eq_true rfl) rfl ?_
  intro κ X hR
  have X : sx_X d κ cX3_makeGuides 2 RX3 (sx_rm 3) := X
  unfold fX3_makeGuides at hf
  refine g_iconst (v := 0) (pc' := 1) X dX3_makeGuides_0 rfl (by decide) ?_
  refine g_istore_n (lv' := [some (.ref q), some (.int (0 : Int32))]) (pc' := 2) X dX3_makeGuides_1 rfl rfl (by decide) rfl rfl ?_
  obtain ⟨y3, hy3, hf⟩ := sx_bd hf
  refine sx_weak [true, true] rfl (lX3_makeGuides_2 d κ q q_cells X y3 ?_ 1000 ((0 : Int32), s_cells) hy3)
  rintro w4 rfl
  cases hf
  exact hR _ _ dX3_makeGuides_28
-- X3_yearNow
def fX3_yearNow (s_cells : Nat → Int32) : Option (Int32) :=
  sx_rd s_cells 42 (41 : Int32) fun x1 =>
  some x1
set_option maxHeartbeats 4000000 in
set_option maxRecDepth 100000 in
theorem ctX3_yearNow (l : Launch) (d : sx_D) (q : Nat) (q_cells : Nat) (s_cells : Nat → Int32) (r : Int32) (hf : fX3_yearNow s_cells = some r) : sx_I l d yX3_yearNow cX3_yearNow 1 .int 0 [.ref q] [oX3 q q_cells, ai d q_cells 42 s_cells] [oX3 q q_cells, ai d q_cells 42 s_cells] r := by
  refine sx_I.intro (lv0 := [some (.ref q)]) (by decide +kernel) (Nat.le_of_ble_eq_true rfl) rfl ?_
  intro κ X hR
  have X : sx_X d κ cX3_yearNow 1 RX3 (sx_rm 0) := X
  unfold fX3_yearNow at hf
  refine g_aload_n (pc' := 1) X dX3_yearNow_0 rfl rfl rfl ?_
  refine g_get (pc' := 4) X fl_X3_9 dX3_yearNow_1 rfl 0 rfl rfl ?_
  refine g_bipush (v := 41) (pc' := 6) X dX3_yearNow_4 rfl (by decide) ?_
  refine g_iald (pc' := 7) X dX3_yearNow_6 rfl 1 rfl hf (fun x1 hf => ?_)
  cases hf
  exact hR _ _ dX3_yearNow_7 rfl
-- X3_canPut
def fX3_canPut (s_cells : Nat → Int32) (v1 : Int32) (v2 : Int32) : Option (Int32) :=
  (fX4_isTrimming v2).bind fun x1 =>
  if x1 = 0 then
    some (0 : Int32)
  else
    (fX3_pinsOn s_cells v1 v2).bind fun x2 =>
    if x2 = 0 then
      sx_rd s_cells 42 ((30 : Int32) + v2) fun x3 =>
      if x3 ≤ 0 then
        some (0 : Int32)
      else
        some (1 : Int32)
    else
      some (0 : Int32)
set_option maxHeartbeats 4000000 in
set_option maxRecDepth 100000 in
theorem ctX3_canPut (l : Launch) (d : sx_D) (q : Nat) (q_cells : Nat) (s_cells : Nat → Int32) (v1 : Int32) (v2 : Int32) (r : Int32) (hf : fX3_canPut s_cells v1 v2 = some r) : sx_I l d yX3_canPut cX3_canPut 3 .boolean 1 [.ref q, .int v1, .int v2] [oX3 q q_cells, ai d q_cells 42 s_cells] [oX3 q q_cells, ai d q_cells 42 s_cells] r := by
  refine sx_I.intro (lv0 := [some (.ref q), some (.int v1), some (.int v2)]) (by decide +kernel) (Nat.le_of_ble_eq_true rfl) rfl ?_
  intro κ X hR
  have X : sx_X d κ cX3_canPut 3 RX3 (sx_rm 1) := X
  unfold fX3_canPut at hf
  refine g_iload_n (pc' := 1) X dX3_canPut_0 rfl rfl rfl ?_
  refine g_callSi0 (pc' := 4) (As := [.int v2]) (st := []) (w2 := fun x1 => [oX3 q q_cells, ai d q_cells 42 s_cells]) X lk_X3_38 dX3_canPut_1 rfl rfl rfl (Nat.le_of_ble_eq_true rfl) ⟨Nat.le_of_ble_eq_true rfl, Nat.le_of_ble_eq_true rfl, Nat.le_of_ble_eq_true rfl, Nat.le_of_ble_eq_true rfl⟩ [] (by decide) rfl hf (fun l x1 h => ctX4_isTrimming l d v2 x1 h) (fun _ => rfl) (fun _ => rfl) (fun x1 hnx1 hf => ?_)
  refine g_if_eq (tgt := 32) (pc' := 7) X dX3_canPut_4 (by decide) rfl hf (fun hf => ?_) (fun hf => ?_)
  · refine g_iconst (v := 0) (pc' := 33) X dX3_canPut_32 rfl (by decide) ?_
    cases hf
    exact hR _ _ dX3_canPut_33 rfl
  · refine g_aload_n (pc' := 8) X dX3_canPut_7 rfl rfl rfl ?_
    refine g_iload_n (pc' := 9) X dX3_canPut_8 rfl rfl rfl ?_
    refine g_iload_n (pc' := 10) X dX3_canPut_9 rfl rfl rfl ?_
    refine g_callVi0 (pc' := 13) (As := [.int v1, .int v2]) (b := q) (st := []) (w2 := fun x2 => [oX3 q q_cells, ai d q_cells 42 s_cells]) X lk_X3_30 dX3_canPut_10 rfl rfl rfl (Nat.le_of_ble_eq_true rfl) ⟨Nat.le_of_ble_eq_true rfl, Nat.le_of_ble_eq_true rfl, Nat.le_of_ble_eq_true rfl, Nat.le_of_ble_eq_true rfl⟩ rfl [0, 1] (by decide) rfl hf (fun l x2 h => ctX3_pinsOn l d q q_cells s_cells v1 v2 x2 h) (fun _ => rfl) (fun _ => rfl) (fun x2 hnx2 hf => ?_)
    refine g_if_ne (tgt := 32) (pc' := 16) X dX3_canPut_13 (by decide) rfl hf (fun hf => ?_) (fun hf => ?_)
    · refine g_iconst (v := 0) (pc' := 33) X dX3_canPut_32 rfl (by decide) ?_
      cases hf
      exact hR _ _ dX3_canPut_33 rfl
    · refine g_aload_n (pc' := 17) X dX3_canPut_16 rfl rfl rfl ?_
      refine g_get (pc' := 20) X fl_X3_9 dX3_canPut_17 rfl 0 rfl rfl ?_
      refine g_bipush (v := 30) (pc' := 22) X dX3_canPut_20 rfl (by decide) ?_
      refine g_iload_n (pc' := 23) X dX3_canPut_22 rfl rfl rfl ?_
      refine g_iadd (pc' := 24) X dX3_canPut_23 rfl ?_
      refine g_iald (pc' := 25) X dX3_canPut_24 rfl 1 rfl hf (fun x3 hf => ?_)
      refine g_if_le (tgt := 32) (pc' := 28) X dX3_canPut_25 (by decide) rfl hf (fun hf => ?_) (fun hf => ?_)
      · refine g_iconst (v := 0) (pc' := 33) X dX3_canPut_32 rfl (by decide) ?_
        cases hf
        exact hR _ _ dX3_canPut_33 rfl
      · refine g_iconst (v := 1) (pc' := 29) X dX3_canPut_28 rfl (by decide) ?_
        refine g_goto (tgt := 33) X dX3_canPut_29 (by decide) ?_
        cases hf
        exact hR _ _ dX3_canPut_33 rfl
-- X3_putOn
def fX3_putOn (s_cells : Nat → Int32) (v1 : Int32) (v2 : Int32) (v3 : Int32) : Option ((Nat → Int32)) :=
  (fX3_setPins s_cells v1 v2 v3).bind fun o1 =>
  (fX3_inStore o1 v2).bind fun x2 =>
  (fX3_setStore o1 v2 (x2 - (1 : Int32))).bind fun o3 =>
  some o3
set_option maxHeartbeats 4000000 in
set_option maxRecDepth 100000 in
theorem ctX3_putOn (l : Launch) (d : sx_D) (q : Nat) (q_cells : Nat) (s_cells : Nat → Int32) (v1 : Int32) (v2 : Int32) (v3 : Int32) (ro1 : Nat → Int32) (hf : fX3_putOn s_cells v1 v2 v3 = some ro1) : sx_V l d yX3_putOn cX3_putOn 4 2 [.ref q, .int v1, .int v2, .int v3] [oX3 q q_cells, ai d q_cells 42 s_cells] [oX3 q q_cells, ai d q_cells 42 ro1] := by
  refine sx_V.intro (lv0 := [some (.ref q), some (.int v1), some (.int v2), some (.int v3)]) (by decide +kernel) (Nat.le_of_ble_eq_true rfl) rfl ?_
  intro κ X hR
  have X : sx_X d κ cX3_putOn 4 RX3 (sx_rm 2) := X
  unfold fX3_putOn at hf
  refine g_aload_n (pc' := 1) X dX3_putOn_0 rfl rfl rfl ?_
  refine g_iload_n (pc' := 2) X dX3_putOn_1 rfl rfl rfl ?_
  refine g_iload_n (pc' := 3) X dX3_putOn_2 rfl rfl rfl ?_
  refine g_iload_n (pc' := 4) X dX3_putOn_3 rfl rfl rfl ?_
  refine g_callVv1 (pc' := 7) (As := [.int v1, .int v2, .int v3]) (b := q) (st := []) (w2 := fun o1 => [oX3 q q_cells, ai d q_cells 42 o1]) X lk_X3_46 dX3_putOn_4 rfl rfl rfl (Nat.le_of_ble_eq_true rfl) ⟨Nat.le_of_ble_eq_true rfl, Nat.le_of_ble_eq_true rfl, Nat.le_of_ble_eq_true rfl, Nat.le_of_ble_eq_true rfl⟩ rfl [0, 1] (by decide) rfl hf (fun l o1 h => ctX3_setPins l d q q_cells s_cells v1 v2 v3 o1 h) (fun _ => rfl) (fun _ => rfl) (fun o1 hf => ?_)
  refine g_aload_n (pc' := 8) X dX3_putOn_7 rfl rfl rfl ?_
  refine g_iload_n (pc' := 9) X dX3_putOn_8 rfl rfl rfl ?_
  refine g_aload_n (pc' := 10) X dX3_putOn_9 rfl rfl rfl ?_
  refine g_iload_n (pc' := 11) X dX3_putOn_10 rfl rfl rfl ?_
  refine g_callVi0 (pc' := 14) (As := [.int v2]) (b := q) (st := [.int v2, .ref q]) (w2 := fun x2 => [oX3 q q_cells, ai d q_cells 42 o1]) X lk_X3_50 dX3_putOn_11 rfl rfl rfl (Nat.le_of_ble_eq_true rfl) ⟨Nat.le_of_ble_eq_true rfl, Nat.le_of_ble_eq_true rfl, Nat.le_of_ble_eq_true rfl, Nat.le_of_ble_eq_true rfl⟩ rfl [0, 1] (by decide) rfl hf (fun l x2 h => ctX3_inStore l d q q_cells o1 v2 x2 h) (fun _ => rfl) (fun _ => rfl) (fun x2 hnx2 hf => ?_)
  refine g_iconst (v := 1) (pc' := 15) X dX3_putOn_14 rfl (by decide) ?_
  refine g_isub (pc' := 16) X dX3_putOn_15 rfl ?_
  refine g_callVv1 (pc' := 19) (As := [.int v2, .int (x2 - (1 : Int32))]) (b := q) (st := []) (w2 := fun o3 => [oX3 q q_cells, ai d q_cells 42 o3]) X lk_X3_53 dX3_putOn_16 rfl rfl rfl (Nat.le_of_ble_eq_true rfl) ⟨Nat.le_of_ble_eq_true rfl, Nat.le_of_ble_eq_true rfl, Nat.le_of_ble_eq_true rfl, Nat.le_of_ble_eq_true rfl⟩ rfl [0, 1] (by decide) rfl hf (fun l o3 h => ctX3_setStore l d q q_cells o1 v2 (x2 - (1 : Int32)) o3 h) (fun _ => rfl) (fun _ => rfl) (fun o3 hf => ?_)
  cases hf
  exact hR _ _ dX3_putOn_19
-- X3_takeOff
def fX3_takeOff (s_cells : Nat → Int32) (v1 : Int32) (v2 : Int32) : Option ((Nat → Int32)) :=
  (fX3_setPins s_cells v1 v2 (0 : Int32)).bind fun o1 =>
  (fX3_inStore o1 v2).bind fun x2 =>
  (fX3_setStore o1 v2 (x2 + (1 : Int32))).bind fun o3 =>
  some o3
set_option maxHeartbeats 4000000 in
set_option maxRecDepth 100000 in
theorem ctX3_takeOff (l : Launch) (d : sx_D) (q : Nat) (q_cells : Nat) (s_cells : Nat → Int32) (v1 : Int32) (v2 : Int32) (ro1 : Nat → Int32) (hf : fX3_takeOff s_cells v1 v2 = some ro1) : sx_V l d yX3_takeOff cX3_takeOff 3 2 [.ref q, .int v1, .int v2] [oX3 q q_cells, ai d q_cells 42 s_cells] [oX3 q q_cells, ai d q_cells 42 ro1] := by
  refine sx_V.intro (lv0 := [some (.ref q), some (.int v1), some (.int v2)]) (by decide +kernel) (Nat.le_of_ble_eq_true rfl) rfl ?_
  intro κ X hR
  have X : sx_X d κ cX3_takeOff 3 RX3 (sx_rm 2) := X
  unfold fX3_takeOff at hf
  refine g_aload_n (pc' := 1) X dX3_takeOff_0 rfl rfl rfl ?_
  refine g_iload_n (pc' := 2) X dX3_takeOff_1 rfl rfl rfl ?_
  refine g_iload_n (pc' := 3) X dX3_takeOff_2 rfl rfl rfl ?_
  refine g_iconst (v := 0) (pc' := 4) X dX3_takeOff_3 rfl (by decide) ?_
  refine g_callVv1 (pc' := 7) (As := [.int v1, .int v2, .int (0 : Int32)]) (b := q) (st := []) (w2 := fun o1 => [oX3 q q_cells, ai d q_cells 42 o1]) X lk_X3_46 dX3_takeOff_4 rfl rfl rfl (Nat.le_of_ble_eq_true rfl) ⟨Nat.le_of_ble_eq_true rfl, Nat.le_of_ble_eq_true rfl, Nat.le_of_ble_eq_true rfl, Nat.le_of_ble_eq_true rfl⟩ rfl [0, 1] (by decide) rfl hf (fun l o1 h => ctX3_setPins l d q q_cells s_cells v1 v2 (0 : Int32) o1 h) (fun _ => rfl) (fun _ => rfl) (fun o1 hf => ?_)
  refine g_aload_n (pc' := 8) X dX3_takeOff_7 rfl rfl rfl ?_
  refine g_iload_n (pc' := 9) X dX3_takeOff_8 rfl rfl rfl ?_
  refine g_aload_n (pc' := 10) X dX3_takeOff_9 rfl rfl rfl ?_
  refine g_iload_n (pc' := 11) X dX3_takeOff_10 rfl rfl rfl ?_
  refine g_callVi0 (pc' := 14) (As := [.int v2]) (b := q) (st := [.int v2, .ref q]) (w2 := fun x2 => [oX3 q q_cells, ai d q_cells 42 o1]) X lk_X3_50 dX3_takeOff_11 rfl rfl rfl (Nat.le_of_ble_eq_true rfl) ⟨Nat.le_of_ble_eq_true rfl, Nat.le_of_ble_eq_true rfl, Nat.le_of_ble_eq_true rfl, Nat.le_of_ble_eq_true rfl⟩ rfl [0, 1] (by decide) rfl hf (fun l x2 h => ctX3_inStore l d q q_cells o1 v2 x2 h) (fun _ => rfl) (fun _ => rfl) (fun x2 hnx2 hf => ?_)
  refine g_iconst (v := 1) (pc' := 15) X dX3_takeOff_14 rfl (by decide) ?_
  refine g_iadd (pc' := 16) X dX3_takeOff_15 rfl ?_
  refine g_callVv1 (pc' := 19) (As := [.int v2, .int (x2 + (1 : Int32))]) (b := q) (st := []) (w2 := fun o3 => [oX3 q q_cells, ai d q_cells 42 o3]) X lk_X3_53 dX3_takeOff_16 rfl rfl rfl (Nat.le_of_ble_eq_true rfl) ⟨Nat.le_of_ble_eq_true rfl, Nat.le_of_ble_eq_true rfl, Nat.le_of_ble_eq_true rfl, Nat.le_of_ble_eq_true rfl⟩ rfl [0, 1] (by decide) rfl hf (fun l o3 h => ctX3_setStore l d q q_cells o1 v2 (x2 + (1 : Int32)) o3 h) (fun _ => rfl) (fun _ => rfl) (fun o3 hf => ?_)
  cases hf
  exact hR _ _ dX3_takeOff_19
-- X4_weather
def bX4_weather_20 (s_p0_n : Nat) (v1 : Int32) (v2 : Int32) : (Int32 × (Nat → Int32)) → Option ((Int32 × (Nat → Int32)) ⊕ ((Nat → Int32))) := fun (v4, s_p0) =>
  if (v1 + (5 : Int32)) ≤ v4 then
    some (.inr s_p0)
  else
    sx_rd s_p0 s_p0_n v4 fun x1 =>
    if x1 < v2 then
      sx_wr s_p0 s_p0_n v4 (0 : Int32) fun g2 =>
      some (.inl (v4 + (1 : Int32), g2))
    else
      sx_rd s_p0 s_p0_n v4 fun x3 =>
      if (1 : Int32) ≤ x3 then
        sx_rd s_p0 s_p0_n v4 fun x4 =>
        sx_wr s_p0 s_p0_n v4 (x4 - (1 : Int32)) fun g5 =>
        some (.inl (v4 + (1 : Int32), g5))
      else
        sx_wr s_p0 s_p0_n v4 (0 : Int32) fun g6 =>
        some (.inl (v4 + (1 : Int32), g6))
def bX4_weather_72 (s_p0_n : Nat) (s_p0 : Nat → Int32) (v1 : Int32) : Int32 → Option ((Int32) ⊕ ((Int32) ⊕ (Unit))) := fun v4 =>
  if (v1 + (5 : Int32)) ≤ v4 then
    some (.inr (.inr ()))
  else
    sx_rd s_p0 s_p0_n v4 fun x9 =>
    if x9 ≤ 0 then
      some (.inl (v4 + (1 : Int32)))
    else
      some (.inr (.inl v4))
def fX4_weather (s_p0_n : Nat) (s_p0 : Nat → Int32) (v1 : Int32) (v2 : Int32) (v3 : Int32) : Option ((Nat → Int32)) :=
  if v1 < 0 then
    some s_p0
  else
    if v1 ≤ ((Int32.ofNat s_p0_n) - (5 : Int32)) then
      (sx_it 1000 (bX4_weather_20 s_p0_n v1 v2) (v1, s_p0)).bind fun w8 =>
      if v3 = 0 then
        some w8
      else
        (sx_it 1000 (bX4_weather_72 s_p0_n w8 v1) v1).bind fun y10 => match y10 with
          | .inl w11 =>
            sx_rd w8 s_p0_n w11 fun x12 =>
            sx_wr w8 s_p0_n w11 (x12 - (1 : Int32)) fun g13 =>
            some g13
          | .inr (_) =>
            some w8
    else
      some s_p0
set_option maxHeartbeats 4000000 in
set_option maxRecDepth 100000 in
theorem lX4_weather_20 (d : sx_D) (κ : sx_C) (q0 : Nat) (s_p0_n : Nat) (v1 : Int32) (v2 : Int32) (v3 : Int32) (X : sx_X d κ cX4_weather 5 RX4 (sx_rm 0)) (y : (Nat → Int32)) (hE64 : ∀ (s_p0 : Nat → Int32), s_p0 = y → sx_G d κ 5 0 0 64 [some (.ref q0), some (.int v1), none, some (.int v3), none] [] [ai d q0 s_p0_n s_p0]) : ∀ (n : Nat) (s : Int32 × (Nat → Int32)), sx_it n (bX4_weather_20 s_p0_n v1 v2) s = some y → (match s with | (v4, s_p0) => sx_G d κ 5 0 0 20 [some (.ref q0), some (.int v1), some (.int v2), some (.int v3), some (.int v4)] [] [ai d q0 s_p0_n s_p0]) := by
  refine sx_it_run (bX4_weather_20 s_p0_n v1 v2) (fun s => match s with | (v4, s_p0) => sx_G d κ 5 0 0 20 [some (.ref q0), some (.int v1), some (.int v2), some (.int v3), some (.int v4)] [] [ai d q0 s_p0_n s_p0]) y ?_
  rintro ⟨v4, s_p0⟩ x hf hb he
  show sx_G d κ 5 0 0 20 [some (.ref q0), some (.int v1), some (.int v2), some (.int v3), some (.int v4)] [] [ai d q0 s_p0_n s_p0]
  unfold bX4_weather_20 at hf
  refine g_iload (pc' := 22) X dX4_weather_20 rfl rfl ?_
  refine g_iload_n (pc' := 23) X dX4_weather_22 rfl rfl rfl ?_
  refine g_iconst (v := 5) (pc' := 24) X dX4_weather_23 rfl (by decide) ?_
  refine g_iadd (pc' := 25) X dX4_weather_24 rfl ?_
  refine g_icmp_ge (tgt := 64) (pc' := 28) X dX4_weather_25 (by decide) rfl hf (fun hf => ?_) (fun hf => ?_)
  · exact sx_weak [true, true, false, true, false] rfl (hE64 _ (sx_ex hf he))
  · refine g_aload_n (pc' := 29) X dX4_weather_28 rfl rfl rfl ?_
    refine g_iload (pc' := 31) X dX4_weather_29 rfl rfl ?_
    refine g_aload_n (pc' := 32) X dX4_weather_31 rfl rfl rfl ?_
    refine g_iload (pc' := 34) X dX4_weather_32 rfl rfl ?_
    refine g_iald (pc' := 35) X dX4_weather_34 rfl 0 rfl hf (fun x1 hf => ?_)
    refine g_iload_n (pc' := 36) X dX4_weather_35 rfl rfl rfl ?_
    refine g_icmp_lt (tgt := 47) (pc' := 39) X dX4_weather_36 (by decide) rfl hf (fun hf => ?_) (fun hf => ?_)
    · refine g_iconst (v := 0) (pc' := 48) X dX4_weather_47 rfl (by decide) ?_
      refine g_goto (tgt := 57) X dX4_weather_48 (by decide) ?_
      refine g_iast (pc' := 58) (w2 := fun g2 => [ai d q0 s_p0_n g2]) X dX4_weather_57 rfl 0 rfl hf (fun _ => rfl) (fun g2 hf => ?_)
      refine g_iinc (v := 1) (lv' := [some (.ref q0), some (.int v1), some (.int v2), some (.int v3), some (.int (v4 + (1 : Int32)))]) (pc' := 61) X dX4_weather_58 rfl rfl (by decide) (by decide) rfl rfl ?_
      refine g_goto (tgt := 20) X dX4_weather_61 (by decide) ?_
      have hk := sx_bk hf hb
      exact sx_weak [true, true, true, true, true] rfl hk
    · refine g_aload_n (pc' := 40) X dX4_weather_39 rfl rfl rfl ?_
      refine g_iload (pc' := 42) X dX4_weather_40 rfl rfl ?_
      refine g_iald (pc' := 43) X dX4_weather_42 rfl 0 rfl hf (fun x3 hf => ?_)
      refine g_iconst (v := 1) (pc' := 44) X dX4_weather_43 rfl (by decide) ?_
      refine g_icmp_ge (tgt := 51) (pc' := 47) X dX4_weather_44 (by decide) rfl hf (fun hf => ?_) (fun hf => ?_)
      · refine g_aload_n (pc' := 52) X dX4_weather_51 rfl rfl rfl ?_
        refine g_iload (pc' := 54) X dX4_weather_52 rfl rfl ?_
        refine g_iald (pc' := 55) X dX4_weather_54 rfl 0 rfl hf (fun x4 hf => ?_)
        refine g_iconst (v := 1) (pc' := 56) X dX4_weather_55 rfl (by decide) ?_
        refine g_isub (pc' := 57) X dX4_weather_56 rfl ?_
        refine g_iast (pc' := 58) (w2 := fun g5 => [ai d q0 s_p0_n g5]) X dX4_weather_57 rfl 0 rfl hf (fun _ => rfl) (fun g5 hf => ?_)
        refine g_iinc (v := 1) (lv' := [some (.ref q0), some (.int v1), some (.int v2), some (.int v3), some (.int (v4 + (1 : Int32)))]) (pc' := 61) X dX4_weather_58 rfl rfl (by decide) (by decide) rfl rfl ?_
        refine g_goto (tgt := 20) X dX4_weather_61 (by decide) ?_
        have hk := sx_bk hf hb
        exact sx_weak [true, true, true, true, true] rfl hk
      · refine g_iconst (v := 0) (pc' := 48) X dX4_weather_47 rfl (by decide) ?_
        refine g_goto (tgt := 57) X dX4_weather_48 (by decide) ?_
        refine g_iast (pc' := 58) (w2 := fun g6 => [ai d q0 s_p0_n g6]) X dX4_weather_57 rfl 0 rfl hf (fun _ => rfl) (fun g6 hf => ?_)
        refine g_iinc (v := 1) (lv' := [some (.ref q0), some (.int v1), some (.int v2), some (.int v3), some (.int (v4 + (1 : Int32)))]) (pc' := 61) X dX4_weather_58 rfl rfl (by decide) (by decide) rfl rfl ?_
        refine g_goto (tgt := 20) X dX4_weather_61 (by decide) ?_
        have hk := sx_bk hf hb
        exact sx_weak [true, true, true, true, true] rfl hk
set_option maxHeartbeats 4000000 in
set_option maxRecDepth 100000 in
theorem lX4_weather_72 (d : sx_D) (κ : sx_C) (q0 : Nat) (s_p0_n : Nat) (s_p0 : Nat → Int32) (v1 : Int32) (X : sx_X d κ cX4_weather 5 RX4 (sx_rm 0)) (y : (Int32) ⊕ (Unit)) (hE87 : ∀ (v4 : Int32), (.inl v4) = y → sx_G d κ 5 0 0 87 [some (.ref q0), none, none, none, some (.int v4)] [] [ai d q0 s_p0_n s_p0]) (hE102 : (.inr ()) = y → sx_G d κ 5 0 0 102 [none, none, none, none, none] [] [ai d q0 s_p0_n s_p0]) : ∀ (n : Nat) (v4 : Int32), sx_it n (bX4_weather_72 s_p0_n s_p0 v1) v4 = some y → sx_G d κ 5 0 0 72 [some (.ref q0), some (.int v1), none, none, some (.int v4)] [] [ai d q0 s_p0_n s_p0] := by
  refine sx_it_run (bX4_weather_72 s_p0_n s_p0 v1) (fun v4 => sx_G d κ 5 0 0 72 [some (.ref q0), some (.int v1), none, none, some (.int v4)] [] [ai d q0 s_p0_n s_p0]) y ?_
  rintro v4 x hf hb he
  show sx_G d κ 5 0 0 72 [some (.ref q0), some (.int v1), none, none, some (.int v4)] [] [ai d q0 s_p0_n s_p0]
  unfold bX4_weather_72 at hf
  refine g_iload (pc' := 74) X dX4_weather_72 rfl rfl ?_
  refine g_iload_n (pc' := 75) X dX4_weather_74 rfl rfl rfl ?_
  refine g_iconst (v := 5) (pc' := 76) X dX4_weather_75 rfl (by decide) ?_
  refine g_iadd (pc' := 77) X dX4_weather_76 rfl ?_
  refine g_icmp_ge (tgt := 102) (pc' := 80) X dX4_weather_77 (by decide) rfl hf (fun hf => ?_) (fun hf => ?_)
  · exact sx_weak [false, false, true, true, false] rfl (hE102  (sx_ex hf he))
  · refine g_aload_n (pc' := 81) X dX4_weather_80 rfl rfl rfl ?_
    refine g_iload (pc' := 83) X dX4_weather_81 rfl rfl ?_
    refine g_iald (pc' := 84) X dX4_weather_83 rfl 0 rfl hf (fun x9 hf => ?_)
    refine g_if_le (tgt := 96) (pc' := 87) X dX4_weather_84 (by decide) rfl hf (fun hf => ?_) (fun hf => ?_)
    · refine g_iinc (v := 1) (lv' := [some (.ref q0), some (.int v1), none, none, some (.int (v4 + (1 : Int32)))]) (pc' := 99) X dX4_weather_96 rfl rfl (by decide) (by decide) rfl rfl ?_
      refine g_goto (tgt := 72) X dX4_weather_99 (by decide) ?_
      have hk := sx_bk hf hb
      exact sx_weak [true, true, true, true, true] rfl hk
    · exact sx_weak [true, false, true, true, true] rfl (hE87 _ (sx_ex hf he))
set_option maxHeartbeats 4000000 in
set_option maxRecDepth 100000 in
theorem ctX4_weather (l : Launch) (d : sx_D) (q0 : Nat) (s_p0_n : Nat) (s_p0 : Nat → Int32) (v1 : Int32) (v2 : Int32) (v3 : Int32) (ro1 : Nat → Int32) (hf : fX4_weather s_p0_n s_p0 v1 v2 v3 = some ro1) : sx_V l d yX4_weather cX4_weather 5 0 [.ref q0, .int v1, .int v2, .int v3] [ai d q0 s_p0_n s_p0] [ai d q0 s_p0_n ro1] := by
  refine sx_V.intro (lv0 := [some (.ref q0), some (.int v1), some (.int v2), some (.int v3), none]) (by decide +kernel) (Nat.le_of_ble_eq_true rfl) rfl ?_
  intro κ X hR
  have X : sx_X d κ cX4_weather 5 RX4 (sx_rm 0) := X
  unfold fX4_weather at hf
  refine g_aload_n (pc' := 1) X dX4_weather_0 rfl rfl rfl ?_
  refine g_ifnull (pc' := 4) X dX4_weather_1 rfl ?_
  refine g_iload_n (pc' := 5) X dX4_weather_4 rfl rfl rfl ?_
  refine g_if_lt (tgt := 16) (pc' := 8) X dX4_weather_5 (by decide) rfl hf (fun hf => ?_) (fun hf => ?_)
  · cases hf
    exact hR _ _ dX4_weather_16
  · refine g_iload_n (pc' := 9) X dX4_weather_8 rfl rfl rfl ?_
    refine g_aload_n (pc' := 10) X dX4_weather_9 rfl rfl rfl ?_
    refine g_alen (pc' := 11) X dX4_weather_10 rfl 0 rfl ?_
    refine g_iconst (v := 5) (pc' := 12) X dX4_weather_11 rfl (by decide) ?_
    refine g_isub (pc' := 13) X dX4_weather_12 rfl ?_
    refine g_icmp_le (tgt := 17) (pc' := 16) X dX4_weather_13 (by decide) rfl hf (fun hf => ?_) (fun hf => ?_)
    · refine g_iload_n (pc' := 18) X dX4_weather_17 rfl rfl rfl ?_
      refine g_istore (lv' := [some (.ref q0), some (.int v1), some (.int v2), some (.int v3), some (.int v1)]) (pc' := 20) X dX4_weather_18 rfl (by decide) rfl rfl ?_
      obtain ⟨y7, hy7, hf⟩ := sx_bd hf
      refine sx_weak [true, true, true, true, true] rfl (lX4_weather_20 d κ q0 s_p0_n v1 v2 v3 X y7 ?_ 1000 (v1, s_p0) hy7)
      rintro w8 rfl
      refine g_iload_n (pc' := 65) X dX4_weather_64 rfl rfl rfl ?_
      refine g_if_ne (tgt := 69) (pc' := 68) X dX4_weather_65 (by decide) rfl hf (fun hf => ?_) (fun hf => ?_)
      · refine g_iload_n (pc' := 70) X dX4_weather_69 rfl rfl rfl ?_
        refine g_istore (lv' := [some (.ref q0), some (.int v1), none, some (.int v3), some (.int v1)]) (pc' := 72) X dX4_weather_70 rfl (by decide) rfl rfl ?_
        obtain ⟨y10, hy10, hf⟩ := sx_bd hf
        refine sx_weak [true, true, true, false, true] rfl (lX4_weather_72 d κ q0 s_p0_n w8 v1 X y10 ?_ ?_ 1000 v1 hy10)
        · rintro w11 rfl
          refine g_aload_n (pc' := 88) X dX4_weather_87 rfl rfl rfl ?_
          refine g_iload (pc' := 90) X dX4_weather_88 rfl rfl ?_
          refine g_dup2 (pc' := 91) X dX4_weather_90 rfl rfl rfl ?_
          refine g_iald (pc' := 92) X dX4_weather_91 rfl 0 rfl hf (fun x12 hf => ?_)
          refine g_iconst (v := 1) (pc' := 93) X dX4_weather_92 rfl (by decide) ?_
          refine g_isub (pc' := 94) X dX4_weather_93 rfl ?_
          refine g_iast (pc' := 95) (w2 := fun g13 => [ai d q0 s_p0_n g13]) X dX4_weather_94 rfl 0 rfl hf (fun _ => rfl) (fun g13 hf => ?_)
          cases hf
          exact hR _ _ dX4_weather_95
        · rintro rfl
          cases hf
          exact hR _ _ dX4_weather_102
      · cases hf
        exact hR _ _ dX4_weather_68
    · cases hf
      exact hR _ _ dX4_weather_16
-- X3_letYearGoBy
def bX3_letYearGoBy_15 (s_p1_peaks : Int32) (s_p1_kinds : Nat → Int32) (v2 : Int32) : (Int32 × (Nat → Int32)) → Option ((Int32 × (Nat → Int32)) ⊕ ((Nat → Int32))) := fun (v3, s_cells) =>
  if s_p1_peaks ≤ v3 then
    some (.inr s_cells)
  else
    (fX1_forceAt s_p1_peaks s_p1_kinds v3 v2).bind fun x4 =>
    (fX1_hasGoats s_p1_peaks s_p1_kinds v3).bind fun x5 =>
    (fX4_weather 42 s_cells (v3 * (5 : Int32)) x4 x5).bind fun o6 =>
    some (.inl (v3 + (1 : Int32), o6))
def fX3_letYearGoBy (s_cells : Nat → Int32) (s_p1_peaks : Int32) (s_p1_windsTold : Int32) (s_p1_kinds : Nat → Int32) (s_p1_winds : Nat → Int32) : Option ((Nat → Int32)) :=
  (fX3_makeGuides s_cells).bind fun o1 =>
  (fX3_yearNow o1).bind fun x2 =>
  (fX1_windIn s_p1_windsTold s_p1_winds x2).bind fun x3 =>
  (sx_it 1000 (bX3_letYearGoBy_15 s_p1_peaks s_p1_kinds x3) ((0 : Int32), o1)).bind fun w8 =>
  sx_rd w8 42 (41 : Int32) fun x9 =>
  sx_wr w8 42 (41 : Int32) (x9 + (1 : Int32)) fun g10 =>
  some g10
set_option maxHeartbeats 4000000 in
set_option maxRecDepth 100000 in
theorem lX3_letYearGoBy_15 (d : sx_D) (κ : sx_C) (q : Nat) (q_cells : Nat) (q1 : Nat) (q1_kinds : Nat) (q1_heights : Nat) (q1_winds : Nat) (s_p1_peaks : Int32) (s_p1_windsTold : Int32) (s_p1_kinds : Nat → Int32) (s_p1_winds : Nat → Int32) (v2 : Int32) (X : sx_X d κ cX3_letYearGoBy 4 RX3 (sx_rm 4)) (y : (Nat → Int32)) (hE50 : ∀ (s_cells : Nat → Int32), s_cells = y → sx_G d κ 4 0 0 50 [some (.ref q), none, none, none] [] [oX3 q q_cells, ai d q_cells 42 s_cells, oX1 q1 q1_kinds q1_heights q1_winds s_p1_peaks s_p1_windsTold, ai d q1_kinds 6 s_p1_kinds, ai d q1_winds 12 s_p1_winds]) : ∀ (n : Nat) (s : Int32 × (Nat → Int32)), sx_it n (bX3_letYearGoBy_15 s_p1_peaks s_p1_kinds v2) s = some y → (match s with | (v3, s_cells) => sx_G d κ 4 0 0 15 [some (.ref q), some (.ref q1), some (.int v2), some (.int v3)] [] [oX3 q q_cells, ai d q_cells 42 s_cells, oX1 q1 q1_kinds q1_heights q1_winds s_p1_peaks s_p1_windsTold, ai d q1_kinds 6 s_p1_kinds, ai d q1_winds 12 s_p1_winds]) := by
  refine sx_it_run (bX3_letYearGoBy_15 s_p1_peaks s_p1_kinds v2) (fun s => match s with | (v3, s_cells) => sx_G d κ 4 0 0 15 [some (.ref q), some (.ref q1), some (.int v2), some (.int v3)] [] [oX3 q q_cells, ai d q_cells 42 s_cells, oX1 q1 q1_kinds q1_heights q1_winds s_p1_peaks s_p1_windsTold, ai d q1_kinds 6 s_p1_kinds, ai d q1_winds 12 s_p1_winds]) y ?_
  rintro ⟨v3, s_cells⟩ x hf hb he
  show sx_G d κ 4 0 0 15 [some (.ref q), some (.ref q1), some (.int v2), some (.int v3)] [] [oX3 q q_cells, ai d q_cells 42 s_cells, oX1 q1 q1_kinds q1_heights q1_winds s_p1_peaks s_p1_windsTold, ai d q1_kinds 6 s_p1_kinds, ai d q1_winds 12 s_p1_winds]
  unfold bX3_letYearGoBy_15 at hf
  refine g_iload_n (pc' := 16) X dX3_letYearGoBy_15 rfl rfl rfl ?_
  refine g_aload_n (pc' := 17) X dX3_letYearGoBy_16 rfl rfl rfl ?_
  refine g_get (pc' := 20) X fl_X3_69 dX3_letYearGoBy_17 rfl 2 rfl rfl ?_
  refine g_icmp_ge (tgt := 50) (pc' := 23) X dX3_letYearGoBy_20 (by decide) rfl hf (fun hf => ?_) (fun hf => ?_)
  · exact sx_weak [true, false, false, false] rfl (hE50 _ (sx_ex hf he))
  · refine g_aload_n (pc' := 24) X dX3_letYearGoBy_23 rfl rfl rfl ?_
    refine g_get (pc' := 27) X fl_X3_9 dX3_letYearGoBy_24 rfl 0 rfl rfl ?_
    refine g_iload_n (pc' := 28) X dX3_letYearGoBy_27 rfl rfl rfl ?_
    refine g_iconst (v := 5) (pc' := 29) X dX3_letYearGoBy_28 rfl (by decide) ?_
    refine g_imul (pc' := 30) X dX3_letYearGoBy_29 rfl ?_
    refine g_aload_n (pc' := 31) X dX3_letYearGoBy_30 rfl rfl rfl ?_
    refine g_iload_n (pc' := 32) X dX3_letYearGoBy_31 rfl rfl rfl ?_
    refine g_iload_n (pc' := 33) X dX3_letYearGoBy_32 rfl rfl rfl ?_
    refine g_callVi0 (pc' := 36) (As := [.int v3, .int v2]) (b := q1) (st := [.int (v3 * (5 : Int32)), .ref q_cells]) (w2 := fun x4 => [oX3 q q_cells, ai d q_cells 42 s_cells, oX1 q1 q1_kinds q1_heights q1_winds s_p1_peaks s_p1_windsTold, ai d q1_kinds 6 s_p1_kinds, ai d q1_winds 12 s_p1_winds]) X lk_X3_73 dX3_letYearGoBy_33 rfl rfl rfl (Nat.le_of_ble_eq_true rfl) ⟨Nat.le_of_ble_eq_true rfl, Nat.le_of_ble_eq_true rfl, Nat.le_of_ble_eq_true rfl, Nat.le_of_ble_eq_true rfl⟩ rfl [2, 3] (by decide) rfl hf (fun l x4 h => ctX1_forceAt l d q1 q1_kinds q1_heights q1_winds s_p1_peaks s_p1_windsTold s_p1_kinds v3 v2 x4 h) (fun _ => rfl) (fun _ => rfl) (fun x4 hnx4 hf => ?_)
    refine g_aload_n (pc' := 37) X dX3_letYearGoBy_36 rfl rfl rfl ?_
    refine g_iload_n (pc' := 38) X dX3_letYearGoBy_37 rfl rfl rfl ?_
    refine g_callVi0 (pc' := 41) (As := [.int v3]) (b := q1) (st := [.int x4, .int (v3 * (5 : Int32)), .ref q_cells]) (w2 := fun x5 => [oX3 q q_cells, ai d q_cells 42 s_cells, oX1 q1 q1_kinds q1_heights q1_winds s_p1_peaks s_p1_windsTold, ai d q1_kinds 6 s_p1_kinds, ai d q1_winds 12 s_p1_winds]) X lk_X3_76 dX3_letYearGoBy_38 rfl rfl rfl (Nat.le_of_ble_eq_true rfl) ⟨Nat.le_of_ble_eq_true rfl, Nat.le_of_ble_eq_true rfl, Nat.le_of_ble_eq_true rfl, Nat.le_of_ble_eq_true rfl⟩ rfl [2, 3] (by decide) rfl hf (fun l x5 h => ctX1_hasGoats l d q1 q1_kinds q1_heights q1_winds s_p1_peaks s_p1_windsTold s_p1_kinds v3 x5 h) (fun _ => rfl) (fun _ => rfl) (fun x5 hnx5 hf => ?_)
    refine g_callSv1 (pc' := 44) (As := [.ref q_cells, .int (v3 * (5 : Int32)), .int x4, .int x5]) (st := []) (w2 := fun o6 => [oX3 q q_cells, ai d q_cells 42 o6, oX1 q1 q1_kinds q1_heights q1_winds s_p1_peaks s_p1_windsTold, ai d q1_kinds 6 s_p1_kinds, ai d q1_winds 12 s_p1_winds]) X lk_X3_79 dX3_letYearGoBy_41 rfl rfl rfl (Nat.le_of_ble_eq_true rfl) ⟨Nat.le_of_ble_eq_true rfl, Nat.le_of_ble_eq_true rfl, Nat.le_of_ble_eq_true rfl, Nat.le_of_ble_eq_true rfl⟩ [1] (by decide) rfl hf (fun l o6 h => ctX4_weather l d q_cells 42 s_cells (v3 * (5 : Int32)) x4 x5 o6 h) (fun _ => rfl) (fun _ => rfl) (fun o6 hf => ?_)
    refine g_iinc (v := 1) (lv' := [some (.ref q), some (.ref q1), some (.int v2), some (.int (v3 + (1 : Int32)))]) (pc' := 47) X dX3_letYearGoBy_44 rfl rfl (by decide) (by decide) rfl rfl ?_
    refine g_goto (tgt := 15) X dX3_letYearGoBy_47 (by decide) ?_
    have hk := sx_bk hf hb
    exact sx_weak [true, true, true, true] rfl hk
set_option maxHeartbeats 4000000 in
set_option maxRecDepth 100000 in
theorem ctX3_letYearGoBy (l : Launch) (d : sx_D) (q : Nat) (q_cells : Nat) (q1 : Nat) (q1_kinds : Nat) (q1_heights : Nat) (q1_winds : Nat) (s_cells : Nat → Int32) (s_p1_peaks : Int32) (s_p1_windsTold : Int32) (s_p1_kinds : Nat → Int32) (s_p1_winds : Nat → Int32) (ro1 : Nat → Int32) (hf : fX3_letYearGoBy s_cells s_p1_peaks s_p1_windsTold s_p1_kinds s_p1_winds = some ro1) : sx_V l d yX3_letYearGoBy cX3_letYearGoBy 4 4 [.ref q, .ref q1] [oX3 q q_cells, ai d q_cells 42 s_cells, oX1 q1 q1_kinds q1_heights q1_winds s_p1_peaks s_p1_windsTold, ai d q1_kinds 6 s_p1_kinds, ai d q1_winds 12 s_p1_winds] [oX3 q q_cells, ai d q_cells 42 ro1, oX1 q1 q1_kinds q1_heights q1_winds s_p1_peaks s_p1_windsTold, ai d q1_kinds 6 s_p1_kinds, ai d q1_winds 12 s_p1_winds] := by
  refine sx_V.intro (lv0 := [some (.ref q), some (.ref q1), none, none]) (by decide +kernel) (Nat.le_of_ble_eq_true rfl) rfl ?_
  intro κ X hR
  have X : sx_X d κ cX3_letYearGoBy 4 RX3 (sx_rm 4) := X
  unfold fX3_letYearGoBy at hf
  refine g_aload_n (pc' := 1) X dX3_letYearGoBy_0 rfl rfl rfl ?_
  refine g_callVv1 (pc' := 4) (As := []) (b := q) (st := []) (w2 := fun o1 => [oX3 q q_cells, ai d q_cells 42 o1, oX1 q1 q1_kinds q1_heights q1_winds s_p1_peaks s_p1_windsTold, ai d q1_kinds 6 s_p1_kinds, ai d q1_winds 12 s_p1_winds]) X lk_X3_57 dX3_letYearGoBy_1 rfl rfl rfl (Nat.le_of_ble_eq_true rfl) ⟨Nat.le_of_ble_eq_true rfl, Nat.le_of_ble_eq_true rfl, Nat.le_of_ble_eq_true rfl, Nat.le_of_ble_eq_true rfl⟩ rfl [0, 1] (by decide) rfl hf (fun l o1 h => ctX3_makeGuides l d q q_cells s_cells o1 h) (fun _ => rfl) (fun _ => rfl) (fun o1 hf => ?_)
  refine g_aload_n (pc' := 5) X dX3_letYearGoBy_4 rfl rfl rfl ?_
  refine g_aload_n (pc' := 6) X dX3_letYearGoBy_5 rfl rfl rfl ?_
  refine g_callVi0 (pc' := 9) (As := []) (b := q) (st := [.ref q1]) (w2 := fun x2 => [oX3 q q_cells, ai d q_cells 42 o1, oX1 q1 q1_kinds q1_heights q1_winds s_p1_peaks s_p1_windsTold, ai d q1_kinds 6 s_p1_kinds, ai d q1_winds 12 s_p1_winds]) X lk_X3_60 dX3_letYearGoBy_6 rfl rfl rfl (Nat.le_of_ble_eq_true rfl) ⟨Nat.le_of_ble_eq_true rfl, Nat.le_of_ble_eq_true rfl, Nat.le_of_ble_eq_true rfl, Nat.le_of_ble_eq_true rfl⟩ rfl [0, 1] (by decide) rfl hf (fun l x2 h => ctX3_yearNow l d q q_cells o1 x2 h) (fun _ => rfl) (fun _ => rfl) (fun x2 hnx2 hf => ?_)
  refine g_callVi0 (pc' := 12) (As := [.int x2]) (b := q1) (st := []) (w2 := fun x3 => [oX3 q q_cells, ai d q_cells 42 o1, oX1 q1 q1_kinds q1_heights q1_winds s_p1_peaks s_p1_windsTold, ai d q1_kinds 6 s_p1_kinds, ai d q1_winds 12 s_p1_winds]) X lk_X3_64 dX3_letYearGoBy_9 rfl rfl rfl (Nat.le_of_ble_eq_true rfl) ⟨Nat.le_of_ble_eq_true rfl, Nat.le_of_ble_eq_true rfl, Nat.le_of_ble_eq_true rfl, Nat.le_of_ble_eq_true rfl⟩ rfl [2, 4] (by decide) rfl hf (fun l x3 h => ctX1_windIn l d q1 q1_kinds q1_heights q1_winds s_p1_peaks s_p1_windsTold s_p1_winds x2 x3 h) (fun _ => rfl) (fun _ => rfl) (fun x3 hnx3 hf => ?_)
  refine g_istore_n (lv' := [some (.ref q), some (.ref q1), some (.int x3), none]) (pc' := 13) X dX3_letYearGoBy_12 rfl rfl (by decide) rfl rfl ?_
  refine g_iconst (v := 0) (pc' := 14) X dX3_letYearGoBy_13 rfl (by decide) ?_
  refine g_istore_n (lv' := [some (.ref q), some (.ref q1), some (.int x3), some (.int (0 : Int32))]) (pc' := 15) X dX3_letYearGoBy_14 rfl rfl (by decide) rfl rfl ?_
  obtain ⟨y7, hy7, hf⟩ := sx_bd hf
  refine sx_weak [true, true, true, true] rfl (lX3_letYearGoBy_15 d κ q q_cells q1 q1_kinds q1_heights q1_winds s_p1_peaks s_p1_windsTold s_p1_kinds s_p1_winds x3 X y7 ?_ 1000 ((0 : Int32), o1) hy7)
  rintro w8 rfl
  refine g_aload_n (pc' := 51) X dX3_letYearGoBy_50 rfl rfl rfl ?_
  refine g_get (pc' := 54) X fl_X3_9 dX3_letYearGoBy_51 rfl 0 rfl rfl ?_
  refine g_bipush (v := 41) (pc' := 56) X dX3_letYearGoBy_54 rfl (by decide) ?_
  refine g_dup2 (pc' := 57) X dX3_letYearGoBy_56 rfl rfl rfl ?_
  refine g_iald (pc' := 58) X dX3_letYearGoBy_57 rfl 1 rfl hf (fun x9 hf => ?_)
  refine g_iconst (v := 1) (pc' := 59) X dX3_letYearGoBy_58 rfl (by decide) ?_
  refine g_iadd (pc' := 60) X dX3_letYearGoBy_59 rfl ?_
  refine g_iast (pc' := 61) (w2 := fun g10 => [oX3 q q_cells, ai d q_cells 42 g10, oX1 q1 q1_kinds q1_heights q1_winds s_p1_peaks s_p1_windsTold, ai d q1_kinds 6 s_p1_kinds, ai d q1_winds 12 s_p1_winds]) X dX3_letYearGoBy_60 rfl 1 rfl hf (fun _ => rfl) (fun g10 hf => ?_)
  cases hf
  exact hR _ _ dX3_letYearGoBy_61
-- J6_bitCount_0f7a4
def fJ6_bitCount_0f7a4 (v0 : Int32) : Option (Int32) :=
  sx_lt (v0 - (((v0.toUInt32 >>> ((1 : Int32).toUInt32 &&& Int32.toUInt32 31)).toInt32) &&& (1431655765 : Int32))) fun x1 =>
  sx_lt ((x1 &&& (858993459 : Int32)) + (((x1.toUInt32 >>> ((2 : Int32).toUInt32 &&& Int32.toUInt32 31)).toInt32) &&& (858993459 : Int32))) fun x2 =>
  sx_lt ((x2 + ((x2.toUInt32 >>> ((4 : Int32).toUInt32 &&& Int32.toUInt32 31)).toInt32)) &&& (252645135 : Int32)) fun x3 =>
  sx_lt (x3 + ((x3.toUInt32 >>> ((8 : Int32).toUInt32 &&& Int32.toUInt32 31)).toInt32)) fun x4 =>
  sx_lt (x4 + ((x4.toUInt32 >>> ((16 : Int32).toUInt32 &&& Int32.toUInt32 31)).toInt32)) fun x5 =>
  some (x5 &&& (63 : Int32))
set_option maxHeartbeats 4000000 in
set_option maxRecDepth 100000 in
theorem ctJ6_bitCount_0f7a4 (l : Launch) (d : sx_D) (v0 : Int32) (r : Int32) (hf : fJ6_bitCount_0f7a4 v0 = some r) : sx_I l d yJ6_bitCount_0f7a4 cJ6_bitCount_0f7a4 1 .int 0 [.int v0] [] [] r := by
  refine sx_I.intro (lv0 := [some (.int v0)]) (by decide +kernel) (Nat.le_of_ble_eq_true rfl) rfl ?_
  intro κ X hR
  have X : sx_X d κ cJ6_bitCount_0f7a4 1 RJ6 (sx_rm 0) := X
  unfold fJ6_bitCount_0f7a4 at hf
  refine g_iload_n (pc' := 1) X dJ6_bitCount_0f7a4_0 rfl rfl rfl ?_
  refine g_iload_n (pc' := 2) X dJ6_bitCount_0f7a4_1 rfl rfl rfl ?_
  refine g_iconst (v := 1) (pc' := 3) X dJ6_bitCount_0f7a4_2 rfl (by decide) ?_
  refine g_iushr (pc' := 4) X dJ6_bitCount_0f7a4_3 rfl ?_
  refine g_ldcw (v := 1431655765) (pc' := 7) X dJ6_bitCount_0f7a4_4 rfl cs_J6_265 ?_
  refine g_iand (pc' := 8) X dJ6_bitCount_0f7a4_7 rfl ?_
  refine g_isub (pc' := 9) X dJ6_bitCount_0f7a4_8 rfl ?_
  refine g_istore_nN (lv' := fun x1 => [some (.int x1)]) (pc' := 10) X dJ6_bitCount_0f7a4_9 rfl rfl (by decide) rfl (fun _ => rfl) hf (fun x1 hf => ?_)
  refine g_iload_n (pc' := 11) X dJ6_bitCount_0f7a4_10 rfl rfl rfl ?_
  refine g_ldcw (v := 858993459) (pc' := 14) X dJ6_bitCount_0f7a4_11 rfl cs_J6_266 ?_
  refine g_iand (pc' := 15) X dJ6_bitCount_0f7a4_14 rfl ?_
  refine g_iload_n (pc' := 16) X dJ6_bitCount_0f7a4_15 rfl rfl rfl ?_
  refine g_iconst (v := 2) (pc' := 17) X dJ6_bitCount_0f7a4_16 rfl (by decide) ?_
  refine g_iushr (pc' := 18) X dJ6_bitCount_0f7a4_17 rfl ?_
  refine g_ldcw (v := 858993459) (pc' := 21) X dJ6_bitCount_0f7a4_18 rfl cs_J6_266 ?_
  refine g_iand (pc' := 22) X dJ6_bitCount_0f7a4_21 rfl ?_
  refine g_iadd (pc' := 23) X dJ6_bitCount_0f7a4_22 rfl ?_
  refine g_istore_nN (lv' := fun x2 => [some (.int x2)]) (pc' := 24) X dJ6_bitCount_0f7a4_23 rfl rfl (by decide) rfl (fun _ => rfl) hf (fun x2 hf => ?_)
  refine g_iload_n (pc' := 25) X dJ6_bitCount_0f7a4_24 rfl rfl rfl ?_
  refine g_iload_n (pc' := 26) X dJ6_bitCount_0f7a4_25 rfl rfl rfl ?_
  refine g_iconst (v := 4) (pc' := 27) X dJ6_bitCount_0f7a4_26 rfl (by decide) ?_
  refine g_iushr (pc' := 28) X dJ6_bitCount_0f7a4_27 rfl ?_
  refine g_iadd (pc' := 29) X dJ6_bitCount_0f7a4_28 rfl ?_
  refine g_ldcw (v := 252645135) (pc' := 32) X dJ6_bitCount_0f7a4_29 rfl cs_J6_267 ?_
  refine g_iand (pc' := 33) X dJ6_bitCount_0f7a4_32 rfl ?_
  refine g_istore_nN (lv' := fun x3 => [some (.int x3)]) (pc' := 34) X dJ6_bitCount_0f7a4_33 rfl rfl (by decide) rfl (fun _ => rfl) hf (fun x3 hf => ?_)
  refine g_iload_n (pc' := 35) X dJ6_bitCount_0f7a4_34 rfl rfl rfl ?_
  refine g_iload_n (pc' := 36) X dJ6_bitCount_0f7a4_35 rfl rfl rfl ?_
  refine g_bipush (v := 8) (pc' := 38) X dJ6_bitCount_0f7a4_36 rfl (by decide) ?_
  refine g_iushr (pc' := 39) X dJ6_bitCount_0f7a4_38 rfl ?_
  refine g_iadd (pc' := 40) X dJ6_bitCount_0f7a4_39 rfl ?_
  refine g_istore_nN (lv' := fun x4 => [some (.int x4)]) (pc' := 41) X dJ6_bitCount_0f7a4_40 rfl rfl (by decide) rfl (fun _ => rfl) hf (fun x4 hf => ?_)
  refine g_iload_n (pc' := 42) X dJ6_bitCount_0f7a4_41 rfl rfl rfl ?_
  refine g_iload_n (pc' := 43) X dJ6_bitCount_0f7a4_42 rfl rfl rfl ?_
  refine g_bipush (v := 16) (pc' := 45) X dJ6_bitCount_0f7a4_43 rfl (by decide) ?_
  refine g_iushr (pc' := 46) X dJ6_bitCount_0f7a4_45 rfl ?_
  refine g_iadd (pc' := 47) X dJ6_bitCount_0f7a4_46 rfl ?_
  refine g_istore_nN (lv' := fun x5 => [some (.int x5)]) (pc' := 48) X dJ6_bitCount_0f7a4_47 rfl rfl (by decide) rfl (fun _ => rfl) hf (fun x5 hf => ?_)
  refine g_iload_n (pc' := 49) X dJ6_bitCount_0f7a4_48 rfl rfl rfl ?_
  refine g_bipush (v := 63) (pc' := 51) X dJ6_bitCount_0f7a4_49 rfl (by decide) ?_
  refine g_iand (pc' := 52) X dJ6_bitCount_0f7a4_51 rfl ?_
  cases hf
  exact hR _ _ dJ6_bitCount_0f7a4_52 rfl
-- X3_trimmingsOn
def bX3_trimmingsOn_4 (s_cells : Nat → Int32) : (Int32 × Int32) → Option ((Int32 × Int32) ⊕ (Int32)) := fun (v1, v2) =>
  if (6 : Int32) ≤ v2 then
    some (.inr v1)
  else
    (fX3_looksOf s_cells v2).bind fun x1 =>
    (fJ6_bitCount_0f7a4 x1).bind fun x2 =>
    sx_lt (v1 + x2) fun x3 =>
    some (.inl (x3, v2 + (1 : Int32)))
def fX3_trimmingsOn (s_cells : Nat → Int32) : Option (Int32) :=
  (sx_it 1000 (bX3_trimmingsOn_4 s_cells) ((0 : Int32), (0 : Int32))).bind fun w5 =>
  some w5
set_option maxHeartbeats 4000000 in
set_option maxRecDepth 100000 in
theorem lX3_trimmingsOn_4 (d : sx_D) (κ : sx_C) (q : Nat) (q_cells : Nat) (s_cells : Nat → Int32) (X : sx_X d κ cX3_trimmingsOn 3 RX3 (sx_rm 3)) (y : Int32) (hE27 : ∀ (v1 : Int32), v1 = y → sx_G d κ 3 0 0 27 [none, some (.int v1), none] [] [oX3 q q_cells, ai d q_cells 42 s_cells]) : ∀ (n : Nat) (s : Int32 × Int32), sx_it n (bX3_trimmingsOn_4 s_cells) s = some y → (match s with | (v1, v2) => sx_G d κ 3 0 0 4 [some (.ref q), some (.int v1), some (.int v2)] [] [oX3 q q_cells, ai d q_cells 42 s_cells]) := by
  refine sx_it_run (bX3_trimmingsOn_4 s_cells) (fun s => match s with | (v1, v2) => sx_G d κ 3 0 0 4 [some (.ref q), some (.int v1), some (.int v2)] [] [oX3 q q_cells, ai d q_cells 42 s_cells]) y ?_
  rintro ⟨v1, v2⟩ x hf hb he
  show sx_G d κ 3 0 0 4 [some (.ref q), some (.int v1), some (.int v2)] [] [oX3 q q_cells, ai d q_cells 42 s_cells]
  unfold bX3_trimmingsOn_4 at hf
  refine g_iload_n (pc' := 5) X dX3_trimmingsOn_4 rfl rfl rfl ?_
  refine g_bipush (v := 6) (pc' := 7) X dX3_trimmingsOn_5 rfl (by decide) ?_
  refine g_icmp_ge (tgt := 27) (pc' := 10) X dX3_trimmingsOn_7 (by decide) rfl hf (fun hf => ?_) (fun hf => ?_)
  · exact sx_weak [false, true, false] rfl (hE27 _ (sx_ex hf he))
  · refine g_iload_n (pc' := 11) X dX3_trimmingsOn_10 rfl rfl rfl ?_
    refine g_aload_n (pc' := 12) X dX3_trimmingsOn_11 rfl rfl rfl ?_
    refine g_iload_n (pc' := 13) X dX3_trimmingsOn_12 rfl rfl rfl ?_
    refine g_callVi0 (pc' := 16) (As := [.int v2]) (b := q) (st := [.int v1]) (w2 := fun x1 => [oX3 q q_cells, ai d q_cells 42 s_cells]) X lk_X3_42 dX3_trimmingsOn_13 rfl rfl rfl (Nat.le_of_ble_eq_true rfl) ⟨Nat.le_of_ble_eq_true rfl, Nat.le_of_ble_eq_true rfl, Nat.le_of_ble_eq_true rfl, Nat.le_of_ble_eq_true rfl⟩ rfl [0, 1] (by decide) rfl hf (fun l x1 h => ctX3_looksOf l d q q_cells s_cells v2 x1 h) (fun _ => rfl) (fun _ => rfl) (fun x1 hnx1 hf => ?_)
    refine g_callSi0 (pc' := 19) (As := [.int x1]) (st := [.int v1]) (w2 := fun x2 => [oX3 q q_cells, ai d q_cells 42 s_cells]) X lk_X3_83 dX3_trimmingsOn_16 rfl rfl rfl (Nat.le_of_ble_eq_true rfl) ⟨Nat.le_of_ble_eq_true rfl, Nat.le_of_ble_eq_true rfl, Nat.le_of_ble_eq_true rfl, Nat.le_of_ble_eq_true rfl⟩ [] (by decide) rfl hf (fun l x2 h => ctJ6_bitCount_0f7a4 l d x1 x2 h) (fun _ => rfl) (fun _ => rfl) (fun x2 hnx2 hf => ?_)
    refine g_iadd (pc' := 20) X dX3_trimmingsOn_19 rfl ?_
    refine g_istore_nN (lv' := fun x3 => [some (.ref q), some (.int x3), some (.int v2)]) (pc' := 21) X dX3_trimmingsOn_20 rfl rfl (by decide) rfl (fun _ => rfl) hf (fun x3 hf => ?_)
    refine g_iinc (v := 1) (lv' := [some (.ref q), some (.int x3), some (.int (v2 + (1 : Int32)))]) (pc' := 24) X dX3_trimmingsOn_21 rfl rfl (by decide) (by decide) rfl rfl ?_
    refine g_goto (tgt := 4) X dX3_trimmingsOn_24 (by decide) ?_
    have hk := sx_bk hf hb
    exact sx_weak [true, true, true] rfl hk
set_option maxHeartbeats 4000000 in
set_option maxRecDepth 100000 in
theorem ctX3_trimmingsOn (l : Launch) (d : sx_D) (q : Nat) (q_cells : Nat) (s_cells : Nat → Int32) (r : Int32) (hf : fX3_trimmingsOn s_cells = some r) : sx_I l d yX3_trimmingsOn cX3_trimmingsOn 3 .int 3 [.ref q] [oX3 q q_cells, ai d q_cells 42 s_cells] [oX3 q q_cells, ai d q_cells 42 s_cells] r := by
  refine sx_I.intro (lv0 := [some (.ref q), none, none]) (by decide +kernel) (Nat.le_of_ble_eq_true rfl) rfl ?_
  intro κ X hR
  have X : sx_X d κ cX3_trimmingsOn 3 RX3 (sx_rm 3) := X
  unfold fX3_trimmingsOn at hf
  refine g_iconst (v := 0) (pc' := 1) X dX3_trimmingsOn_0 rfl (by decide) ?_
  refine g_istore_n (lv' := [some (.ref q), some (.int (0 : Int32)), none]) (pc' := 2) X dX3_trimmingsOn_1 rfl rfl (by decide) rfl rfl ?_
  refine g_iconst (v := 0) (pc' := 3) X dX3_trimmingsOn_2 rfl (by decide) ?_
  refine g_istore_n (lv' := [some (.ref q), some (.int (0 : Int32)), some (.int (0 : Int32))]) (pc' := 4) X dX3_trimmingsOn_3 rfl rfl (by decide) rfl rfl ?_
  obtain ⟨y4, hy4, hf⟩ := sx_bd hf
  refine sx_weak [true, true, true] rfl (lX3_trimmingsOn_4 d κ q q_cells s_cells X y4 ?_ 1000 ((0 : Int32), (0 : Int32)) hy4)
  rintro w5 rfl
  refine g_iload_n (pc' := 28) X dX3_trimmingsOn_27 rfl rfl rfl ?_
  cases hf
  exact hR _ _ dX3_trimmingsOn_28 rfl
-- X3_sumOf
def bX3_sumOf_9 (s_cells : Nat → Int32) (v1 : Int32) (v2 : Int32) : (Int32 × Int32) → Option ((Int32 × Int32) ⊕ (Int32)) := fun (v3, v4) =>
  if (v1 + v2) ≤ v4 then
    some (.inr v3)
  else
    if (42 : Int32) ≤ v4 then
      some (.inr v3)
    else
      sx_rd s_cells 42 v4 fun x2 =>
      sx_lt (v3 + x2) fun x3 =>
      some (.inl (x3, v4 + (1 : Int32)))
def fX3_sumOf (s_cells : Nat → Int32) (v1 : Int32) (v2 : Int32) : Option (Int32) :=
  sx_lt (if (0 : Int32) < v1 then v1 else (0 : Int32)) fun x1 =>
  (sx_it 1000 (bX3_sumOf_9 s_cells v1 v2) ((0 : Int32), x1)).bind fun w5 =>
  some w5
set_option maxHeartbeats 4000000 in
set_option maxRecDepth 100000 in
theorem lX3_sumOf_9 (d : sx_D) (κ : sx_C) (q : Nat) (q_cells : Nat) (s_cells : Nat → Int32) (v1 : Int32) (v2 : Int32) (X : sx_X d κ cX3_sumOf 5 RX3 (sx_rm 1)) (y : Int32) (hE40 : ∀ (v3 : Int32), v3 = y → sx_G d κ 5 0 0 40 [none, none, none, some (.int v3), none] [] [oX3 q q_cells, ai d q_cells 42 s_cells]) : ∀ (n : Nat) (s : Int32 × Int32), sx_it n (bX3_sumOf_9 s_cells v1 v2) s = some y → (match s with | (v3, v4) => sx_G d κ 5 0 0 9 [some (.ref q), some (.int v1), some (.int v2), some (.int v3), some (.int v4)] [] [oX3 q q_cells, ai d q_cells 42 s_cells]) := by
  refine sx_it_run (bX3_sumOf_9 s_cells v1 v2) (fun s => match s with | (v3, v4) => sx_G d κ 5 0 0 9 [some (.ref q), some (.int v1), some (.int v2), some (.int v3), some (.int v4)] [] [oX3 q q_cells, ai d q_cells 42 s_cells]) y ?_
  rintro ⟨v3, v4⟩ x hf hb he
  show sx_G d κ 5 0 0 9 [some (.ref q), some (.int v1), some (.int v2), some (.int v3), some (.int v4)] [] [oX3 q q_cells, ai d q_cells 42 s_cells]
  unfold bX3_sumOf_9 at hf
  refine g_iload (pc' := 11) X dX3_sumOf_9 rfl rfl ?_
  refine g_iload_n (pc' := 12) X dX3_sumOf_11 rfl rfl rfl ?_
  refine g_iload_n (pc' := 13) X dX3_sumOf_12 rfl rfl rfl ?_
  refine g_iadd (pc' := 14) X dX3_sumOf_13 rfl ?_
  refine g_icmp_ge (tgt := 40) (pc' := 17) X dX3_sumOf_14 (by decide) rfl hf (fun hf => ?_) (fun hf => ?_)
  · exact sx_weak [false, false, false, true, false] rfl (hE40 _ (sx_ex hf he))
  · refine g_iload (pc' := 19) X dX3_sumOf_17 rfl rfl ?_
    refine g_bipush (v := 42) (pc' := 21) X dX3_sumOf_19 rfl (by decide) ?_
    refine g_icmp_ge (tgt := 40) (pc' := 24) X dX3_sumOf_21 (by decide) rfl hf (fun hf => ?_) (fun hf => ?_)
    · exact sx_weak [false, false, false, true, false] rfl (hE40 _ (sx_ex hf he))
    · refine g_iload_n (pc' := 25) X dX3_sumOf_24 rfl rfl rfl ?_
      refine g_aload_n (pc' := 26) X dX3_sumOf_25 rfl rfl rfl ?_
      refine g_get (pc' := 29) X fl_X3_9 dX3_sumOf_26 rfl 0 rfl rfl ?_
      refine g_iload (pc' := 31) X dX3_sumOf_29 rfl rfl ?_
      refine g_iald (pc' := 32) X dX3_sumOf_31 rfl 1 rfl hf (fun x2 hf => ?_)
      refine g_iadd (pc' := 33) X dX3_sumOf_32 rfl ?_
      refine g_istore_nN (lv' := fun x3 => [some (.ref q), some (.int v1), some (.int v2), some (.int x3), some (.int v4)]) (pc' := 34) X dX3_sumOf_33 rfl rfl (by decide) rfl (fun _ => rfl) hf (fun x3 hf => ?_)
      refine g_iinc (v := 1) (lv' := [some (.ref q), some (.int v1), some (.int v2), some (.int x3), some (.int (v4 + (1 : Int32)))]) (pc' := 37) X dX3_sumOf_34 rfl rfl (by decide) (by decide) rfl rfl ?_
      refine g_goto (tgt := 9) X dX3_sumOf_37 (by decide) ?_
      have hk := sx_bk hf hb
      exact sx_weak [true, true, true, true, true] rfl hk
set_option maxHeartbeats 4000000 in
set_option maxRecDepth 100000 in
theorem ctX3_sumOf (l : Launch) (d : sx_D) (q : Nat) (q_cells : Nat) (s_cells : Nat → Int32) (v1 : Int32) (v2 : Int32) (r : Int32) (hf : fX3_sumOf s_cells v1 v2 = some r) : sx_I l d yX3_sumOf cX3_sumOf 5 .int 1 [.ref q, .int v1, .int v2] [oX3 q q_cells, ai d q_cells 42 s_cells] [oX3 q q_cells, ai d q_cells 42 s_cells] r := by
  refine sx_I.intro (lv0 := [some (.ref q), some (.int v1), some (.int v2), none, none]) (by decide +kernel) (Nat.le_of_ble_eq_true rfl) rfl ?_
  intro κ X hR
  have X : sx_X d κ cX3_sumOf 5 RX3 (sx_rm 1) := X
  unfold fX3_sumOf at hf
  refine g_iconst (v := 0) (pc' := 1) X dX3_sumOf_0 rfl (by decide) ?_
  refine g_istore_n (lv' := [some (.ref q), some (.int v1), some (.int v2), some (.int (0 : Int32)), none]) (pc' := 2) X dX3_sumOf_1 rfl rfl (by decide) rfl rfl ?_
  refine g_iconst (v := 0) (pc' := 3) X dX3_sumOf_2 rfl (by decide) ?_
  refine g_iload_n (pc' := 4) X dX3_sumOf_3 rfl rfl rfl ?_
  refine g_max (pc' := 7) X mx_X3_88 dX3_sumOf_4 rfl ⟨Nat.le_of_ble_eq_true rfl, Nat.le_of_ble_eq_true rfl, Nat.le_of_ble_eq_true rfl, Nat.le_of_ble_eq_true rfl⟩ ?_
  refine g_istoreN (lv' := fun x1 => [some (.ref q), some (.int v1), some (.int v2), some (.int (0 : Int32)), some (.int x1)]) (pc' := 9) X dX3_sumOf_7 rfl (by decide) rfl (fun _ => rfl) hf (fun x1 hf => ?_)
  obtain ⟨y4, hy4, hf⟩ := sx_bd hf
  refine sx_weak [true, true, true, true, true] rfl (lX3_sumOf_9 d κ q q_cells s_cells v1 v2 X y4 ?_ 1000 ((0 : Int32), x1) hy4)
  rintro w5 rfl
  refine g_iload_n (pc' := 41) X dX3_sumOf_40 rfl rfl rfl ?_
  cases hf
  exact hR _ _ dX3_sumOf_41 rfl
-- X4_isZeroOrOne
def fX4_isZeroOrOne (v0 : Int32) : Option (Int32) :=
  if v0 = 0 then
    some (1 : Int32)
  else
    if v0 = (1 : Int32) then
      some (1 : Int32)
    else
      some (0 : Int32)
set_option maxHeartbeats 4000000 in
set_option maxRecDepth 100000 in
theorem ctX4_isZeroOrOne (l : Launch) (d : sx_D) (v0 : Int32) (r : Int32) (hf : fX4_isZeroOrOne v0 = some r) : sx_I l d yX4_isZeroOrOne cX4_isZeroOrOne 1 .boolean 0 [.int v0] [] [] r := by
  refine sx_I.intro (lv0 := [some (.int v0)]) (by decide +kernel) (Nat.le_of_ble_eq_true rfl) rfl ?_
  intro κ X hR
  have X : sx_X d κ cX4_isZeroOrOne 1 RX4 (sx_rm 0) := X
  unfold fX4_isZeroOrOne at hf
  refine g_iload_n (pc' := 1) X dX4_isZeroOrOne_0 rfl rfl rfl ?_
  refine g_if_eq (tgt := 9) (pc' := 4) X dX4_isZeroOrOne_1 (by decide) rfl hf (fun hf => ?_) (fun hf => ?_)
  · refine g_iconst (v := 1) (pc' := 10) X dX4_isZeroOrOne_9 rfl (by decide) ?_
    refine g_goto (tgt := 14) X dX4_isZeroOrOne_10 (by decide) ?_
    cases hf
    exact hR _ _ dX4_isZeroOrOne_14 rfl
  · refine g_iload_n (pc' := 5) X dX4_isZeroOrOne_4 rfl rfl rfl ?_
    refine g_iconst (v := 1) (pc' := 6) X dX4_isZeroOrOne_5 rfl (by decide) ?_
    refine g_icmp_ne (tgt := 13) (pc' := 9) X dX4_isZeroOrOne_6 (by decide) rfl hf (fun hf => ?_) (fun hf => ?_)
    · refine g_iconst (v := 0) (pc' := 14) X dX4_isZeroOrOne_13 rfl (by decide) ?_
      cases hf
      exact hR _ _ dX4_isZeroOrOne_14 rfl
    · refine g_iconst (v := 1) (pc' := 10) X dX4_isZeroOrOne_9 rfl (by decide) ?_
      refine g_goto (tgt := 14) X dX4_isZeroOrOne_10 (by decide) ?_
      cases hf
      exact hR _ _ dX4_isZeroOrOne_14 rfl

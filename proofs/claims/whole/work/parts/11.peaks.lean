-- X4_write
def fX4_write (s_scribe_length : Int32) (s_scribe_letters : Nat → Int32) (v1 : Int32) : Option (Int32 × Int32 × (Nat → Int32)) :=
  if v1 < (32 : Int32) then
    some ((-1 : Int32), s_scribe_length, s_scribe_letters)
  else
    if v1 ≤ (126 : Int32) then
      (fX2_append s_scribe_length s_scribe_letters ((v1.toUInt32 % 65536).toInt32)).bind fun (x1, o2, o3) =>
      if x1 = 0 then
        some ((-3 : Int32), o2, o3)
      else
        some (o2, o2, o3)
    else
      some ((-1 : Int32), s_scribe_length, s_scribe_letters)
set_option maxHeartbeats 4000000 in
set_option maxRecDepth 100000 in
theorem ctX4_write (l : Launch) (d : sx_D) (a : Nat → Nat) (s_saidOn : Int32) (s_saidOff : Int32) (s_saidCount : Int32) (s_scribe_length : Int32) (s_scribe_at : Int32) (s_scribe_letters : Nat → Int32) (v1 : Int32) (r : Int32) (ro1 : Int32) (ro2 : Nat → Int32) (hf : fX4_write s_scribe_length s_scribe_letters v1 = some (r, ro1, ro2)) : sx_I l d yX4_write cX4_write 2 .int 1 [.ref (a 0), .int v1] [oX4 a s_saidOn s_saidOff s_saidCount, oX2 (a 1) (a 2) (a 3) (a 4) (a 8) s_scribe_length s_scribe_at, ac d (a 2) 200 s_scribe_letters] [oX4 a s_saidOn s_saidOff s_saidCount, oX2 (a 1) (a 2) (a 3) (a 4) (a 8) ro1 s_scribe_at, ac d (a 2) 200 ro2] r := by
  refine sx_I.intro (lv0 := [some (.ref (a 0)), some (.int v1)]) (by decide +kernel) (Nat.le_of_ble_eq_true rfl) rfl ?_
  intro κ X hR
  have X : sx_X d κ cX4_write 2 RX4 (sx_rm 1) := X
  unfold fX4_write at hf
  refine g_iload_n (pc' := 1) X dX4_write_0 rfl rfl rfl ?_
  refine g_bipush (v := 32) (pc' := 3) X dX4_write_1 rfl (by decide) ?_
  refine g_icmp_lt (tgt := 12) (pc' := 6) X dX4_write_3 (by decide) rfl hf (fun hf => ?_) (fun hf => ?_)
  · refine g_iconst (v := -1) (pc' := 13) X dX4_write_12 rfl (by decide) ?_
    cases hf
    exact hR _ _ dX4_write_13 rfl
  · refine g_iload_n (pc' := 7) X dX4_write_6 rfl rfl rfl ?_
    refine g_bipush (v := 126) (pc' := 9) X dX4_write_7 rfl (by decide) ?_
    refine g_icmp_le (tgt := 14) (pc' := 12) X dX4_write_9 (by decide) rfl hf (fun hf => ?_) (fun hf => ?_)
    · refine g_aload_n (pc' := 15) X dX4_write_14 rfl rfl rfl ?_
      refine g_get (pc' := 18) X fl_X4_10 dX4_write_15 rfl 0 rfl rfl ?_
      refine g_iload_n (pc' := 19) X dX4_write_18 rfl rfl rfl ?_
      refine g_i2c (pc' := 20) X dX4_write_19 rfl ?_
      refine g_callVi2 (pc' := 23) (As := [.int ((v1.toUInt32 % 65536).toInt32)]) (b := (a 1)) (st := []) (w2 := fun x1 o2 o3 => [oX4 a s_saidOn s_saidOff s_saidCount, oX2 (a 1) (a 2) (a 3) (a 4) (a 8) o2 s_scribe_at, ac d (a 2) 200 o3]) X lk_X4_72 dX4_write_20 rfl rfl rfl (Nat.le_of_ble_eq_true rfl) ⟨Nat.le_of_ble_eq_true rfl, Nat.le_of_ble_eq_true rfl, Nat.le_of_ble_eq_true rfl, Nat.le_of_ble_eq_true rfl⟩ rfl [1, 2] (by decide) rfl hf (fun l x1 o2 o3 h => ctX2_append l d (a 1) (a 2) (a 3) (a 4) (a 8) s_scribe_length s_scribe_at s_scribe_letters ((v1.toUInt32 % 65536).toInt32) x1 o2 o3 h) (fun _ _ _ => rfl) (fun _ _ _ => rfl) (fun x1 o2 o3 hnx1 hf => ?_)
      refine g_if_eq (tgt := 36) (pc' := 26) X dX4_write_23 (by decide) rfl hf (fun hf => ?_) (fun hf => ?_)
      · refine g_bipush (v := -3) (pc' := 38) X dX4_write_36 rfl (by decide) ?_
        cases hf
        exact hR _ _ dX4_write_38 rfl
      · refine g_aload_n (pc' := 27) X dX4_write_26 rfl rfl rfl ?_
        refine g_get (pc' := 30) X fl_X4_10 dX4_write_27 rfl 0 rfl rfl ?_
        refine g_get (pc' := 33) X fl_X4_68 dX4_write_30 rfl 1 rfl rfl ?_
        refine g_goto (tgt := 38) X dX4_write_33 (by decide) ?_
        cases hf
        exact hR _ _ dX4_write_38 rfl
    · refine g_iconst (v := -1) (pc' := 13) X dX4_write_12 rfl (by decide) ?_
      cases hf
      exact hR _ _ dX4_write_13 rfl
-- X4_wipe
def fX4_wipe (s_scribe_length : Int32) : Option (Int32 × Int32) :=
  some (s_scribe_length, (0 : Int32))
set_option maxHeartbeats 4000000 in
set_option maxRecDepth 100000 in
theorem ctX4_wipe (l : Launch) (d : sx_D) (a : Nat → Nat) (s_saidOn : Int32) (s_saidOff : Int32) (s_saidCount : Int32) (s_scribe_length : Int32) (s_scribe_at : Int32) (r : Int32) (ro1 : Int32) (hf : fX4_wipe s_scribe_length = some (r, ro1)) : sx_I l d yX4_wipe cX4_wipe 2 .int 0 [.ref (a 0)] [oX4 a s_saidOn s_saidOff s_saidCount, oX2 (a 1) (a 2) (a 3) (a 4) (a 8) s_scribe_length s_scribe_at] [oX4 a s_saidOn s_saidOff s_saidCount, oX2 (a 1) (a 2) (a 3) (a 4) (a 8) ro1 s_scribe_at] r := by
  refine sx_I.intro (lv0 := [some (.ref (a 0)), none]) (by decide +kernel) (Nat.le_of_ble_eq_true rfl) rfl ?_
  intro κ X hR
  have X : sx_X d κ cX4_wipe 2 RX4 (sx_rm 0) := X
  unfold fX4_wipe at hf
  refine g_aload_n (pc' := 1) X dX4_wipe_0 rfl rfl rfl ?_
  refine g_get (pc' := 4) X fl_X4_10 dX4_wipe_1 rfl 0 rfl rfl ?_
  refine g_get (pc' := 7) X fl_X4_68 dX4_wipe_4 rfl 1 rfl rfl ?_
  refine g_istore_n (lv' := [some (.ref (a 0)), some (.int s_scribe_length)]) (pc' := 8) X dX4_wipe_7 rfl rfl (by decide) rfl rfl ?_
  refine g_aload_n (pc' := 9) X dX4_wipe_8 rfl rfl rfl ?_
  refine g_get (pc' := 12) X fl_X4_10 dX4_wipe_9 rfl 0 rfl rfl ?_
  refine g_iconst (v := 0) (pc' := 13) X dX4_wipe_12 rfl (by decide) ?_
  refine g_put (pc' := 16) (w2 := [oX4 a s_saidOn s_saidOff s_saidCount, oX2 (a 1) (a 2) (a 3) (a 4) (a 8) (0 : Int32) s_scribe_at]) X fl_X4_68 fw_X2 rfl dX4_wipe_13 rfl 1 rfl rfl rfl (Nat.le_of_ble_eq_true rfl) rfl ?_
  refine g_iload_n (pc' := 17) X dX4_wipe_16 rfl rfl rfl ?_
  cases hf
  exact hR _ _ dX4_wipe_17 rfl
-- X4_fault
def fX4_fault (s_scribe_length : Int32) (s_scribe_at : Int32) (s_scribe_letters : Nat → Int32) (s_scribe_numbers : Nat → Int32) (s_scribe_range_peaks : Int32) (s_scribe_range_windsTold : Int32) (s_scribe_range_kinds : Nat → Int32) (s_scribe_range_heights : Nat → Int32) (s_scribe_range_winds : Nat → Int32) (s_scribe_state_cells : Nat → Int32) : Option (Int32 × Int32 × (Nat → Int32) × Int32 × Int32 × (Nat → Int32) × (Nat → Int32) × (Nat → Int32) × (Nat → Int32)) :=
  (fX2_readAll s_scribe_length s_scribe_at s_scribe_letters s_scribe_numbers s_scribe_range_peaks s_scribe_range_windsTold s_scribe_range_kinds s_scribe_range_heights s_scribe_range_winds s_scribe_state_cells).bind fun (x1, o2, o3, o4, o5, o6, o7, o8, o9) =>
  some (x1, o2, o3, o4, o5, o6, o7, o8, o9)
set_option maxHeartbeats 4000000 in
set_option maxRecDepth 100000 in
theorem ctX4_fault (l : Launch) (d : sx_D) (a : Nat → Nat) (s_saidOn : Int32) (s_saidOff : Int32) (s_saidCount : Int32) (s_scribe_length : Int32) (s_scribe_at : Int32) (s_scribe_letters : Nat → Int32) (s_scribe_numbers : Nat → Int32) (s_scribe_range_peaks : Int32) (s_scribe_range_windsTold : Int32) (s_scribe_range_kinds : Nat → Int32) (s_scribe_range_heights : Nat → Int32) (s_scribe_range_winds : Nat → Int32) (s_scribe_state_cells : Nat → Int32) (r : Int32) (ro1 : Int32) (ro2 : Nat → Int32) (ro3 : Int32) (ro4 : Int32) (ro5 : Nat → Int32) (ro6 : Nat → Int32) (ro7 : Nat → Int32) (ro8 : Nat → Int32) (hf : fX4_fault s_scribe_length s_scribe_at s_scribe_letters s_scribe_numbers s_scribe_range_peaks s_scribe_range_windsTold s_scribe_range_kinds s_scribe_range_heights s_scribe_range_winds s_scribe_state_cells = some (r, ro1, ro2, ro3, ro4, ro5, ro6, ro7, ro8)) : sx_I l d yX4_fault cX4_fault 1 .int 5 [.ref (a 0)] [oX4 a s_saidOn s_saidOff s_saidCount, oX2 (a 1) (a 2) (a 3) (a 4) (a 8) s_scribe_length s_scribe_at, ac d (a 2) 200 s_scribe_letters, ai d (a 3) 3 s_scribe_numbers, oX1 (a 4) (a 5) (a 6) (a 7) s_scribe_range_peaks s_scribe_range_windsTold, ai d (a 5) 6 s_scribe_range_kinds, ai d (a 6) 6 s_scribe_range_heights, ai d (a 7) 12 s_scribe_range_winds, oX3 (a 8) (a 9), ai d (a 9) 42 s_scribe_state_cells] [oX4 a s_saidOn s_saidOff s_saidCount, oX2 (a 1) (a 2) (a 3) (a 4) (a 8) s_scribe_length ro1, ac d (a 2) 200 s_scribe_letters, ai d (a 3) 3 ro2, oX1 (a 4) (a 5) (a 6) (a 7) ro3 ro4, ai d (a 5) 6 ro5, ai d (a 6) 6 ro6, ai d (a 7) 12 ro7, oX3 (a 8) (a 9), ai d (a 9) 42 ro8] r := by
  refine sx_I.intro (lv0 := [some (.ref (a 0))]) (by decide +kernel) (Nat.le_of_ble_eq_true rfl) rfl ?_
  intro κ X hR
  have X : sx_X d κ cX4_fault 1 RX4 (sx_rm 5) := X
  unfold fX4_fault at hf
  refine g_aload_n (pc' := 1) X dX4_fault_0 rfl rfl rfl ?_
  refine g_get (pc' := 4) X fl_X4_10 dX4_fault_1 rfl 0 rfl rfl ?_
  refine g_callVi8 (pc' := 7) (As := []) (b := (a 1)) (st := []) (w2 := fun x1 o2 o3 o4 o5 o6 o7 o8 o9 => [oX4 a s_saidOn s_saidOff s_saidCount, oX2 (a 1) (a 2) (a 3) (a 4) (a 8) s_scribe_length o2, ac d (a 2) 200 s_scribe_letters, ai d (a 3) 3 o3, oX1 (a 4) (a 5) (a 6) (a 7) o4 o5, ai d (a 5) 6 o6, ai d (a 6) 6 o7, ai d (a 7) 12 o8, oX3 (a 8) (a 9), ai d (a 9) 42 o9]) X lk_X4_76 dX4_fault_4 rfl rfl rfl (Nat.le_of_ble_eq_true rfl) ⟨Nat.le_of_ble_eq_true rfl, Nat.le_of_ble_eq_true rfl, Nat.le_of_ble_eq_true rfl, Nat.le_of_ble_eq_true rfl⟩ rfl [1, 2, 3, 4, 5, 6, 7, 8, 9] (by decide) rfl hf (fun l x1 o2 o3 o4 o5 o6 o7 o8 o9 h => ctX2_readAll l d (a 1) (a 2) (a 3) (a 4) (a 8) (a 5) (a 6) (a 7) (a 9) s_scribe_length s_scribe_at s_scribe_letters s_scribe_numbers s_scribe_range_peaks s_scribe_range_windsTold s_scribe_range_kinds s_scribe_range_heights s_scribe_range_winds s_scribe_state_cells x1 o2 o3 o4 o5 o6 o7 o8 o9 h) (fun _ _ _ _ _ _ _ _ _ => rfl) (fun _ _ _ _ _ _ _ _ _ => rfl) (fun x1 o2 o3 o4 o5 o6 o7 o8 o9 hnx1 hf => ?_)
  cases hf
  exact hR _ _ dX4_fault_7 rfl
-- X4_forget
def fX4_forget (s_saidOn : Int32) (s_saidOff : Int32) (s_saidCount : Int32) : Option (Int32 × Int32 × Int32 × Int32) :=
  some (s_saidCount, (0 : Int32), (0 : Int32), (0 : Int32))
set_option maxHeartbeats 4000000 in
set_option maxRecDepth 100000 in
theorem ctX4_forget (l : Launch) (d : sx_D) (a : Nat → Nat) (s_saidOn : Int32) (s_saidOff : Int32) (s_saidCount : Int32) (r : Int32) (ro1 : Int32) (ro2 : Int32) (ro3 : Int32) (hf : fX4_forget s_saidOn s_saidOff s_saidCount = some (r, ro1, ro2, ro3)) : sx_I l d yX4_forget cX4_forget 2 .int 0 [.ref (a 0)] [oX4 a s_saidOn s_saidOff s_saidCount] [oX4 a ro1 ro2 ro3] r := by
  refine sx_I.intro (lv0 := [some (.ref (a 0)), none]) (by decide +kernel) (Nat.le_of_ble_eq_true rfl) rfl ?_
  intro κ X hR
  have X : sx_X d κ cX4_forget 2 RX4 (sx_rm 0) := X
  unfold fX4_forget at hf
  refine g_aload_n (pc' := 1) X dX4_forget_0 rfl rfl rfl ?_
  refine g_get (pc' := 4) X fl_X4_200 dX4_forget_1 rfl 0 rfl rfl ?_
  refine g_istore_n (lv' := [some (.ref (a 0)), some (.int s_saidCount)]) (pc' := 5) X dX4_forget_4 rfl rfl (by decide) rfl rfl ?_
  refine g_aload_n (pc' := 6) X dX4_forget_5 rfl rfl rfl ?_
  refine g_iconst (v := 0) (pc' := 7) X dX4_forget_6 rfl (by decide) ?_
  refine g_put (pc' := 10) (w2 := [oX4 a (0 : Int32) s_saidOff s_saidCount]) X fl_X4_203 fw_X4 rfl dX4_forget_7 rfl 0 rfl rfl rfl (Nat.le_of_ble_eq_true rfl) rfl ?_
  refine g_aload_n (pc' := 11) X dX4_forget_10 rfl rfl rfl ?_
  refine g_iconst (v := 0) (pc' := 12) X dX4_forget_11 rfl (by decide) ?_
  refine g_put (pc' := 15) (w2 := [oX4 a (0 : Int32) (0 : Int32) s_saidCount]) X fl_X4_206 fw_X4 rfl dX4_forget_12 rfl 0 rfl rfl rfl (Nat.le_of_ble_eq_true rfl) rfl ?_
  refine g_aload_n (pc' := 16) X dX4_forget_15 rfl rfl rfl ?_
  refine g_iconst (v := 0) (pc' := 17) X dX4_forget_16 rfl (by decide) ?_
  refine g_put (pc' := 20) (w2 := [oX4 a (0 : Int32) (0 : Int32) (0 : Int32)]) X fl_X4_200 fw_X4 rfl dX4_forget_17 rfl 0 rfl rfl rfl (Nat.le_of_ble_eq_true rfl) rfl ?_
  refine g_iload_n (pc' := 21) X dX4_forget_20 rfl rfl rfl ?_
  cases hf
  exact hR _ _ dX4_forget_21 rfl
-- X4_layAsTold
def fX4_layAsTold (s_saidOn : Int32) (s_saidOff : Int32) (s_saidCount : Int32) (s_scribe_length : Int32) (s_scribe_at : Int32) (s_scribe_letters : Nat → Int32) (s_scribe_numbers : Nat → Int32) (s_scribe_range_peaks : Int32) (s_scribe_range_windsTold : Int32) (s_scribe_range_kinds : Nat → Int32) (s_scribe_range_heights : Nat → Int32) (s_scribe_range_winds : Nat → Int32) (s_scribe_state_cells : Nat → Int32) (s_range_peaks : Int32) (s_range_windsTold : Int32) (s_range_kinds : Nat → Int32) (s_range_heights : Nat → Int32) (s_range_winds : Nat → Int32) (s_now_cells : Nat → Int32) (s_undoable_held : Int32) (s_kept_held : Int32) : Option (Int32 × Int32 × Int32 × Int32 × Int32 × (Nat → Int32) × Int32 × Int32 × (Nat → Int32) × (Nat → Int32) × (Nat → Int32) × (Nat → Int32) × Int32 × Int32 × (Nat → Int32) × (Nat → Int32) × (Nat → Int32) × (Nat → Int32) × Int32 × Int32) :=
  (fX2_readAll s_scribe_length s_scribe_at s_scribe_letters s_scribe_numbers s_scribe_range_peaks s_scribe_range_windsTold s_scribe_range_kinds s_scribe_range_heights s_scribe_range_winds s_scribe_state_cells).bind fun (x1, o2, o3, o4, o5, o6, o7, o8, o9) =>
  if x1 = (-4 : Int32) then
    if (1 : Int32) ≤ o4 then
      (fX1_become s_range_peaks s_range_windsTold s_range_kinds s_range_heights s_range_winds o4 o5 o6 o7 o8).bind fun (o10, o11, o12, o13, o14) =>
      (fX3_become s_now_cells o9).bind fun o15 =>
      (fX3_makeGuides o15).bind fun o16 =>
      (fX4_forget s_saidOn s_saidOff s_saidCount).bind fun (x17, o18, o19, o20) =>
      some ((1 : Int32), o18, o19, o20, o2, o3, o4, o5, o6, o7, o8, o9, o10, o11, o12, o13, o14, o16, (0 : Int32), (0 : Int32))
    else
      some ((0 : Int32), s_saidOn, s_saidOff, s_saidCount, o2, o3, o4, o5, o6, o7, o8, o9, s_range_peaks, s_range_windsTold, s_range_kinds, s_range_heights, s_range_winds, s_now_cells, s_undoable_held, s_kept_held)
  else
    some ((0 : Int32), s_saidOn, s_saidOff, s_saidCount, o2, o3, o4, o5, o6, o7, o8, o9, s_range_peaks, s_range_windsTold, s_range_kinds, s_range_heights, s_range_winds, s_now_cells, s_undoable_held, s_kept_held)
set_option maxHeartbeats 4000000 in
set_option maxRecDepth 100000 in
theorem ctX4_layAsTold (l : Launch) (d : sx_D) (a : Nat → Nat) (s_saidOn : Int32) (s_saidOff : Int32) (s_saidCount : Int32) (s_scribe_length : Int32) (s_scribe_at : Int32) (s_scribe_letters : Nat → Int32) (s_scribe_numbers : Nat → Int32) (s_scribe_range_peaks : Int32) (s_scribe_range_windsTold : Int32) (s_scribe_range_kinds : Nat → Int32) (s_scribe_range_heights : Nat → Int32) (s_scribe_range_winds : Nat → Int32) (s_scribe_state_cells : Nat → Int32) (s_range_peaks : Int32) (s_range_windsTold : Int32) (s_range_kinds : Nat → Int32) (s_range_heights : Nat → Int32) (s_range_winds : Nat → Int32) (s_now_cells : Nat → Int32) (s_undoable_most : Int32) (s_undoable_held : Int32) (s_undoable_next : Int32) (s_kept_most : Int32) (s_kept_held : Int32) (s_kept_next : Int32) (r : Int32) (ro1 : Int32) (ro2 : Int32) (ro3 : Int32) (ro4 : Int32) (ro5 : Nat → Int32) (ro6 : Int32) (ro7 : Int32) (ro8 : Nat → Int32) (ro9 : Nat → Int32) (ro10 : Nat → Int32) (ro11 : Nat → Int32) (ro12 : Int32) (ro13 : Int32) (ro14 : Nat → Int32) (ro15 : Nat → Int32) (ro16 : Nat → Int32) (ro17 : Nat → Int32) (ro18 : Int32) (ro19 : Int32) (hf : fX4_layAsTold s_saidOn s_saidOff s_saidCount s_scribe_length s_scribe_at s_scribe_letters s_scribe_numbers s_scribe_range_peaks s_scribe_range_windsTold s_scribe_range_kinds s_scribe_range_heights s_scribe_range_winds s_scribe_state_cells s_range_peaks s_range_windsTold s_range_kinds s_range_heights s_range_winds s_now_cells s_undoable_held s_kept_held = some (r, ro1, ro2, ro3, ro4, ro5, ro6, ro7, ro8, ro9, ro10, ro11, ro12, ro13, ro14, ro15, ro16, ro17, ro18, ro19)) : sx_I l d yX4_layAsTold cX4_layAsTold 1 .boolean 5 [.ref (a 0)] [oX4 a s_saidOn s_saidOff s_saidCount, oX2 (a 1) (a 2) (a 3) (a 4) (a 8) s_scribe_length s_scribe_at, ac d (a 2) 200 s_scribe_letters, ai d (a 3) 3 s_scribe_numbers, oX1 (a 4) (a 5) (a 6) (a 7) s_scribe_range_peaks s_scribe_range_windsTold, ai d (a 5) 6 s_scribe_range_kinds, ai d (a 6) 6 s_scribe_range_heights, ai d (a 7) 12 s_scribe_range_winds, oX3 (a 8) (a 9), ai d (a 9) 42 s_scribe_state_cells, oX1 (a 10) (a 11) (a 12) (a 13) s_range_peaks s_range_windsTold, ai d (a 11) 6 s_range_kinds, ai d (a 12) 6 s_range_heights, ai d (a 13) 12 s_range_winds, oX3 (a 14) (a 15), ai d (a 15) 42 s_now_cells, oX0 (a 18) s_undoable_most (a 19) s_undoable_held s_undoable_next, oX0 (a 20) s_kept_most (a 21) s_kept_held s_kept_next] [oX4 a ro1 ro2 ro3, oX2 (a 1) (a 2) (a 3) (a 4) (a 8) s_scribe_length ro4, ac d (a 2) 200 s_scribe_letters, ai d (a 3) 3 ro5, oX1 (a 4) (a 5) (a 6) (a 7) ro6 ro7, ai d (a 5) 6 ro8, ai d (a 6) 6 ro9, ai d (a 7) 12 ro10, oX3 (a 8) (a 9), ai d (a 9) 42 ro11, oX1 (a 10) (a 11) (a 12) (a 13) ro12 ro13, ai d (a 11) 6 ro14, ai d (a 12) 6 ro15, ai d (a 13) 12 ro16, oX3 (a 14) (a 15), ai d (a 15) 42 ro17, oX0 (a 18) s_undoable_most (a 19) ro18 s_undoable_next, oX0 (a 20) s_kept_most (a 21) ro19 s_kept_next] r := by
  refine sx_I.intro (lv0 := [some (.ref (a 0))]) (by decide +kernel) (Nat.le_of_ble_eq_true rfl) rfl ?_
  intro κ X hR
  have X : sx_X d κ cX4_layAsTold 1 RX4 (sx_rm 5) := X
  unfold fX4_layAsTold at hf
  refine g_aload_n (pc' := 1) X dX4_layAsTold_0 rfl rfl rfl ?_
  refine g_get (pc' := 4) X fl_X4_10 dX4_layAsTold_1 rfl 0 rfl rfl ?_
  refine g_callVi8 (pc' := 7) (As := []) (b := (a 1)) (st := []) (w2 := fun x1 o2 o3 o4 o5 o6 o7 o8 o9 => [oX4 a s_saidOn s_saidOff s_saidCount, oX2 (a 1) (a 2) (a 3) (a 4) (a 8) s_scribe_length o2, ac d (a 2) 200 s_scribe_letters, ai d (a 3) 3 o3, oX1 (a 4) (a 5) (a 6) (a 7) o4 o5, ai d (a 5) 6 o6, ai d (a 6) 6 o7, ai d (a 7) 12 o8, oX3 (a 8) (a 9), ai d (a 9) 42 o9, oX1 (a 10) (a 11) (a 12) (a 13) s_range_peaks s_range_windsTold, ai d (a 11) 6 s_range_kinds, ai d (a 12) 6 s_range_heights, ai d (a 13) 12 s_range_winds, oX3 (a 14) (a 15), ai d (a 15) 42 s_now_cells, oX0 (a 18) s_undoable_most (a 19) s_undoable_held s_undoable_next, oX0 (a 20) s_kept_most (a 21) s_kept_held s_kept_next]) X lk_X4_76 dX4_layAsTold_4 rfl rfl rfl (Nat.le_of_ble_eq_true rfl) ⟨Nat.le_of_ble_eq_true rfl, Nat.le_of_ble_eq_true rfl, Nat.le_of_ble_eq_true rfl, Nat.le_of_ble_eq_true rfl⟩ rfl [1, 2, 3, 4, 5, 6, 7, 8, 9] (by decide) rfl hf (fun l x1 o2 o3 o4 o5 o6 o7 o8 o9 h => ctX2_readAll l d (a 1) (a 2) (a 3) (a 4) (a 8) (a 5) (a 6) (a 7) (a 9) s_scribe_length s_scribe_at s_scribe_letters s_scribe_numbers s_scribe_range_peaks s_scribe_range_windsTold s_scribe_range_kinds s_scribe_range_heights s_scribe_range_winds s_scribe_state_cells x1 o2 o3 o4 o5 o6 o7 o8 o9 h) (fun _ _ _ _ _ _ _ _ _ => rfl) (fun _ _ _ _ _ _ _ _ _ => rfl) (fun x1 o2 o3 o4 o5 o6 o7 o8 o9 hnx1 hf => ?_)
  refine g_bipush (v := -4) (pc' := 9) X dX4_layAsTold_7 rfl (by decide) ?_
  refine g_icmp_ne (tgt := 26) (pc' := 12) X dX4_layAsTold_9 (by decide) rfl hf (fun hf => ?_) (fun hf => ?_)
  · refine g_iconst (v := 0) (pc' := 27) X dX4_layAsTold_26 rfl (by decide) ?_
    cases hf
    exact hR _ _ dX4_layAsTold_27 rfl
  · refine g_aload_n (pc' := 13) X dX4_layAsTold_12 rfl rfl rfl ?_
    refine g_get (pc' := 16) X fl_X4_10 dX4_layAsTold_13 rfl 0 rfl rfl ?_
    refine g_get (pc' := 19) X fl_X4_247 dX4_layAsTold_16 rfl 1 rfl rfl ?_
    refine g_get (pc' := 22) X fl_X4_80 dX4_layAsTold_19 rfl 4 rfl rfl ?_
    refine g_iconst (v := 1) (pc' := 23) X dX4_layAsTold_22 rfl (by decide) ?_
    refine g_icmp_ge (tgt := 28) (pc' := 26) X dX4_layAsTold_23 (by decide) rfl hf (fun hf => ?_) (fun hf => ?_)
    · refine g_aload_n (pc' := 29) X dX4_layAsTold_28 rfl rfl rfl ?_
      refine g_get (pc' := 32) X fl_X4_19 dX4_layAsTold_29 rfl 0 rfl rfl ?_
      refine g_aload_n (pc' := 33) X dX4_layAsTold_32 rfl rfl rfl ?_
      refine g_get (pc' := 36) X fl_X4_10 dX4_layAsTold_33 rfl 0 rfl rfl ?_
      refine g_get (pc' := 39) X fl_X4_247 dX4_layAsTold_36 rfl 1 rfl rfl ?_
      refine g_callVv5 (pc' := 42) (As := [.ref (a 4)]) (b := (a 10)) (st := []) (w2 := fun o10 o11 o12 o13 o14 => [oX4 a s_saidOn s_saidOff s_saidCount, oX2 (a 1) (a 2) (a 3) (a 4) (a 8) s_scribe_length o2, ac d (a 2) 200 s_scribe_letters, ai d (a 3) 3 o3, oX1 (a 4) (a 5) (a 6) (a 7) o4 o5, ai d (a 5) 6 o6, ai d (a 6) 6 o7, ai d (a 7) 12 o8, oX3 (a 8) (a 9), ai d (a 9) 42 o9, oX1 (a 10) (a 11) (a 12) (a 13) o10 o11, ai d (a 11) 6 o12, ai d (a 12) 6 o13, ai d (a 13) 12 o14, oX3 (a 14) (a 15), ai d (a 15) 42 s_now_cells, oX0 (a 18) s_undoable_most (a 19) s_undoable_held s_undoable_next, oX0 (a 20) s_kept_most (a 21) s_kept_held s_kept_next]) X lk_X4_248 dX4_layAsTold_39 rfl rfl rfl (Nat.le_of_ble_eq_true rfl) ⟨Nat.le_of_ble_eq_true rfl, Nat.le_of_ble_eq_true rfl, Nat.le_of_ble_eq_true rfl, Nat.le_of_ble_eq_true rfl⟩ rfl [10, 11, 12, 13, 4, 5, 6, 7] (by decide) rfl hf (fun l o10 o11 o12 o13 o14 h => ctX1_become l d (a 10) (a 11) (a 12) (a 13) (a 4) (a 5) (a 6) (a 7) s_range_peaks s_range_windsTold s_range_kinds s_range_heights s_range_winds o4 o5 o6 o7 o8 o10 o11 o12 o13 o14 h) (fun _ _ _ _ _ => rfl) (fun _ _ _ _ _ => rfl) (fun o10 o11 o12 o13 o14 hf => ?_)
      refine g_aload_n (pc' := 43) X dX4_layAsTold_42 rfl rfl rfl ?_
      refine g_get (pc' := 46) X fl_X4_26 dX4_layAsTold_43 rfl 0 rfl rfl ?_
      refine g_aload_n (pc' := 47) X dX4_layAsTold_46 rfl rfl rfl ?_
      refine g_get (pc' := 50) X fl_X4_10 dX4_layAsTold_47 rfl 0 rfl rfl ?_
      refine g_get (pc' := 53) X fl_X4_250 dX4_layAsTold_50 rfl 1 rfl rfl ?_
      refine g_callVv1 (pc' := 56) (As := [.ref (a 8)]) (b := (a 14)) (st := []) (w2 := fun o15 => [oX4 a s_saidOn s_saidOff s_saidCount, oX2 (a 1) (a 2) (a 3) (a 4) (a 8) s_scribe_length o2, ac d (a 2) 200 s_scribe_letters, ai d (a 3) 3 o3, oX1 (a 4) (a 5) (a 6) (a 7) o4 o5, ai d (a 5) 6 o6, ai d (a 6) 6 o7, ai d (a 7) 12 o8, oX3 (a 8) (a 9), ai d (a 9) 42 o9, oX1 (a 10) (a 11) (a 12) (a 13) o10 o11, ai d (a 11) 6 o12, ai d (a 12) 6 o13, ai d (a 13) 12 o14, oX3 (a 14) (a 15), ai d (a 15) 42 o15, oX0 (a 18) s_undoable_most (a 19) s_undoable_held s_undoable_next, oX0 (a 20) s_kept_most (a 21) s_kept_held s_kept_next]) X lk_X4_176 dX4_layAsTold_53 rfl rfl rfl (Nat.le_of_ble_eq_true rfl) ⟨Nat.le_of_ble_eq_true rfl, Nat.le_of_ble_eq_true rfl, Nat.le_of_ble_eq_true rfl, Nat.le_of_ble_eq_true rfl⟩ rfl [14, 15, 8, 9] (by decide) rfl hf (fun l o15 h => ctX3_become l d (a 14) (a 15) (a 8) (a 9) s_now_cells o9 o15 h) (fun _ => rfl) (fun _ => rfl) (fun o15 hf => ?_)
      refine g_aload_n (pc' := 57) X dX4_layAsTold_56 rfl rfl rfl ?_
      refine g_get (pc' := 60) X fl_X4_26 dX4_layAsTold_57 rfl 0 rfl rfl ?_
      refine g_callVv1 (pc' := 63) (As := []) (b := (a 14)) (st := []) (w2 := fun o16 => [oX4 a s_saidOn s_saidOff s_saidCount, oX2 (a 1) (a 2) (a 3) (a 4) (a 8) s_scribe_length o2, ac d (a 2) 200 s_scribe_letters, ai d (a 3) 3 o3, oX1 (a 4) (a 5) (a 6) (a 7) o4 o5, ai d (a 5) 6 o6, ai d (a 6) 6 o7, ai d (a 7) 12 o8, oX3 (a 8) (a 9), ai d (a 9) 42 o9, oX1 (a 10) (a 11) (a 12) (a 13) o10 o11, ai d (a 11) 6 o12, ai d (a 12) 6 o13, ai d (a 13) 12 o14, oX3 (a 14) (a 15), ai d (a 15) 42 o16, oX0 (a 18) s_undoable_most (a 19) s_undoable_held s_undoable_next, oX0 (a 20) s_kept_most (a 21) s_kept_held s_kept_next]) X lk_X4_253 dX4_layAsTold_60 rfl rfl rfl (Nat.le_of_ble_eq_true rfl) ⟨Nat.le_of_ble_eq_true rfl, Nat.le_of_ble_eq_true rfl, Nat.le_of_ble_eq_true rfl, Nat.le_of_ble_eq_true rfl⟩ rfl [14, 15] (by decide) rfl hf (fun l o16 h => ctX3_makeGuides l d (a 14) (a 15) o15 o16 h) (fun _ => rfl) (fun _ => rfl) (fun o16 hf => ?_)
      refine g_aload_n (pc' := 64) X dX4_layAsTold_63 rfl rfl rfl ?_
      refine g_get (pc' := 67) X fl_X4_38 dX4_layAsTold_64 rfl 0 rfl rfl ?_
      refine g_iconst (v := 0) (pc' := 68) X dX4_layAsTold_67 rfl (by decide) ?_
      refine g_put (pc' := 71) (w2 := [oX4 a s_saidOn s_saidOff s_saidCount, oX2 (a 1) (a 2) (a 3) (a 4) (a 8) s_scribe_length o2, ac d (a 2) 200 s_scribe_letters, ai d (a 3) 3 o3, oX1 (a 4) (a 5) (a 6) (a 7) o4 o5, ai d (a 5) 6 o6, ai d (a 6) 6 o7, ai d (a 7) 12 o8, oX3 (a 8) (a 9), ai d (a 9) 42 o9, oX1 (a 10) (a 11) (a 12) (a 13) o10 o11, ai d (a 11) 6 o12, ai d (a 12) 6 o13, ai d (a 13) 12 o14, oX3 (a 14) (a 15), ai d (a 15) 42 o16, oX0 (a 18) s_undoable_most (a 19) (0 : Int32) s_undoable_next, oX0 (a 20) s_kept_most (a 21) s_kept_held s_kept_next]) X fl_X4_158 fw_X0 rfl dX4_layAsTold_68 rfl 16 rfl rfl rfl (Nat.le_of_ble_eq_true rfl) rfl ?_
      refine g_aload_n (pc' := 72) X dX4_layAsTold_71 rfl rfl rfl ?_
      refine g_get (pc' := 75) X fl_X4_42 dX4_layAsTold_72 rfl 0 rfl rfl ?_
      refine g_iconst (v := 0) (pc' := 76) X dX4_layAsTold_75 rfl (by decide) ?_
      refine g_put (pc' := 79) (w2 := [oX4 a s_saidOn s_saidOff s_saidCount, oX2 (a 1) (a 2) (a 3) (a 4) (a 8) s_scribe_length o2, ac d (a 2) 200 s_scribe_letters, ai d (a 3) 3 o3, oX1 (a 4) (a 5) (a 6) (a 7) o4 o5, ai d (a 5) 6 o6, ai d (a 6) 6 o7, ai d (a 7) 12 o8, oX3 (a 8) (a 9), ai d (a 9) 42 o9, oX1 (a 10) (a 11) (a 12) (a 13) o10 o11, ai d (a 11) 6 o12, ai d (a 12) 6 o13, ai d (a 13) 12 o14, oX3 (a 14) (a 15), ai d (a 15) 42 o16, oX0 (a 18) s_undoable_most (a 19) (0 : Int32) s_undoable_next, oX0 (a 20) s_kept_most (a 21) (0 : Int32) s_kept_next]) X fl_X4_158 fw_X0 rfl dX4_layAsTold_76 rfl 17 rfl rfl rfl (Nat.le_of_ble_eq_true rfl) rfl ?_
      refine g_aload_n (pc' := 80) X dX4_layAsTold_79 rfl rfl rfl ?_
      refine g_callVi3 (pc' := 83) (As := []) (b := (a 0)) (st := []) (w2 := fun x17 o18 o19 o20 => [oX4 a o18 o19 o20, oX2 (a 1) (a 2) (a 3) (a 4) (a 8) s_scribe_length o2, ac d (a 2) 200 s_scribe_letters, ai d (a 3) 3 o3, oX1 (a 4) (a 5) (a 6) (a 7) o4 o5, ai d (a 5) 6 o6, ai d (a 6) 6 o7, ai d (a 7) 12 o8, oX3 (a 8) (a 9), ai d (a 9) 42 o9, oX1 (a 10) (a 11) (a 12) (a 13) o10 o11, ai d (a 11) 6 o12, ai d (a 12) 6 o13, ai d (a 13) 12 o14, oX3 (a 14) (a 15), ai d (a 15) 42 o16, oX0 (a 18) s_undoable_most (a 19) (0 : Int32) s_undoable_next, oX0 (a 20) s_kept_most (a 21) (0 : Int32) s_kept_next]) X lk_X4_256 dX4_layAsTold_80 rfl rfl rfl (Nat.le_of_ble_eq_true rfl) ⟨Nat.le_of_ble_eq_true rfl, Nat.le_of_ble_eq_true rfl, Nat.le_of_ble_eq_true rfl, Nat.le_of_ble_eq_true rfl⟩ rfl [0] (by decide) rfl hf (fun l x17 o18 o19 o20 h => ctX4_forget l d a s_saidOn s_saidOff s_saidCount x17 o18 o19 o20 h) (fun _ _ _ _ => rfl) (fun _ _ _ _ => rfl) (fun x17 o18 o19 o20 hnx17 hf => ?_)
      refine g_pop (pc' := 84) X dX4_layAsTold_83 rfl rfl ?_
      refine g_iconst (v := 1) (pc' := 85) X dX4_layAsTold_84 rfl (by decide) ?_
      cases hf
      exact hR _ _ dX4_layAsTold_85 rfl
    · refine g_iconst (v := 0) (pc' := 27) X dX4_layAsTold_26 rfl (by decide) ?_
      cases hf
      exact hR _ _ dX4_layAsTold_27 rfl
-- X4_lay
def fX4_lay (s_saidOn : Int32) (s_saidOff : Int32) (s_saidCount : Int32) (s_scribe_length : Int32) (s_scribe_at : Int32) (s_scribe_letters : Nat → Int32) (s_scribe_numbers : Nat → Int32) (s_scribe_range_peaks : Int32) (s_scribe_range_windsTold : Int32) (s_scribe_range_kinds : Nat → Int32) (s_scribe_range_heights : Nat → Int32) (s_scribe_range_winds : Nat → Int32) (s_scribe_state_cells : Nat → Int32) (s_range_peaks : Int32) (s_range_windsTold : Int32) (s_range_kinds : Nat → Int32) (s_range_heights : Nat → Int32) (s_range_winds : Nat → Int32) (s_now_cells : Nat → Int32) (s_undoable_held : Int32) (s_kept_held : Int32) : Option (Int32 × Int32 × Int32 × Int32 × Int32 × (Nat → Int32) × Int32 × Int32 × (Nat → Int32) × (Nat → Int32) × (Nat → Int32) × (Nat → Int32) × Int32 × Int32 × (Nat → Int32) × (Nat → Int32) × (Nat → Int32) × (Nat → Int32) × Int32 × Int32) :=
  (fX4_layAsTold s_saidOn s_saidOff s_saidCount s_scribe_length s_scribe_at s_scribe_letters s_scribe_numbers s_scribe_range_peaks s_scribe_range_windsTold s_scribe_range_kinds s_scribe_range_heights s_scribe_range_winds s_scribe_state_cells s_range_peaks s_range_windsTold s_range_kinds s_range_heights s_range_winds s_now_cells s_undoable_held s_kept_held).bind fun (x1, o2, o3, o4, o5, o6, o7, o8, o9, o10, o11, o12, o13, o14, o15, o16, o17, o18, o19, o20) =>
  if x1 = 0 then
    some ((-2 : Int32), o2, o3, o4, o5, o6, o7, o8, o9, o10, o11, o12, o13, o14, o15, o16, o17, o18, o19, o20)
  else
    some (o13, o2, o3, o4, o5, o6, o7, o8, o9, o10, o11, o12, o13, o14, o15, o16, o17, o18, o19, o20)
set_option maxHeartbeats 4000000 in
set_option maxRecDepth 100000 in
theorem ctX4_lay (l : Launch) (d : sx_D) (a : Nat → Nat) (s_saidOn : Int32) (s_saidOff : Int32) (s_saidCount : Int32) (s_scribe_length : Int32) (s_scribe_at : Int32) (s_scribe_letters : Nat → Int32) (s_scribe_numbers : Nat → Int32) (s_scribe_range_peaks : Int32) (s_scribe_range_windsTold : Int32) (s_scribe_range_kinds : Nat → Int32) (s_scribe_range_heights : Nat → Int32) (s_scribe_range_winds : Nat → Int32) (s_scribe_state_cells : Nat → Int32) (s_range_peaks : Int32) (s_range_windsTold : Int32) (s_range_kinds : Nat → Int32) (s_range_heights : Nat → Int32) (s_range_winds : Nat → Int32) (s_now_cells : Nat → Int32) (s_undoable_most : Int32) (s_undoable_held : Int32) (s_undoable_next : Int32) (s_kept_most : Int32) (s_kept_held : Int32) (s_kept_next : Int32) (r : Int32) (ro1 : Int32) (ro2 : Int32) (ro3 : Int32) (ro4 : Int32) (ro5 : Nat → Int32) (ro6 : Int32) (ro7 : Int32) (ro8 : Nat → Int32) (ro9 : Nat → Int32) (ro10 : Nat → Int32) (ro11 : Nat → Int32) (ro12 : Int32) (ro13 : Int32) (ro14 : Nat → Int32) (ro15 : Nat → Int32) (ro16 : Nat → Int32) (ro17 : Nat → Int32) (ro18 : Int32) (ro19 : Int32) (hf : fX4_lay s_saidOn s_saidOff s_saidCount s_scribe_length s_scribe_at s_scribe_letters s_scribe_numbers s_scribe_range_peaks s_scribe_range_windsTold s_scribe_range_kinds s_scribe_range_heights s_scribe_range_winds s_scribe_state_cells s_range_peaks s_range_windsTold s_range_kinds s_range_heights s_range_winds s_now_cells s_undoable_held s_kept_held = some (r, ro1, ro2, ro3, ro4, ro5, ro6, ro7, ro8, ro9, ro10, ro11, ro12, ro13, ro14, ro15, ro16, ro17, ro18, ro19)) : sx_I l d yX4_lay cX4_lay 1 .int 6 [.ref (a 0)] [oX4 a s_saidOn s_saidOff s_saidCount, oX2 (a 1) (a 2) (a 3) (a 4) (a 8) s_scribe_length s_scribe_at, ac d (a 2) 200 s_scribe_letters, ai d (a 3) 3 s_scribe_numbers, oX1 (a 4) (a 5) (a 6) (a 7) s_scribe_range_peaks s_scribe_range_windsTold, ai d (a 5) 6 s_scribe_range_kinds, ai d (a 6) 6 s_scribe_range_heights, ai d (a 7) 12 s_scribe_range_winds, oX3 (a 8) (a 9), ai d (a 9) 42 s_scribe_state_cells, oX1 (a 10) (a 11) (a 12) (a 13) s_range_peaks s_range_windsTold, ai d (a 11) 6 s_range_kinds, ai d (a 12) 6 s_range_heights, ai d (a 13) 12 s_range_winds, oX3 (a 14) (a 15), ai d (a 15) 42 s_now_cells, oX0 (a 18) s_undoable_most (a 19) s_undoable_held s_undoable_next, oX0 (a 20) s_kept_most (a 21) s_kept_held s_kept_next] [oX4 a ro1 ro2 ro3, oX2 (a 1) (a 2) (a 3) (a 4) (a 8) s_scribe_length ro4, ac d (a 2) 200 s_scribe_letters, ai d (a 3) 3 ro5, oX1 (a 4) (a 5) (a 6) (a 7) ro6 ro7, ai d (a 5) 6 ro8, ai d (a 6) 6 ro9, ai d (a 7) 12 ro10, oX3 (a 8) (a 9), ai d (a 9) 42 ro11, oX1 (a 10) (a 11) (a 12) (a 13) ro12 ro13, ai d (a 11) 6 ro14, ai d (a 12) 6 ro15, ai d (a 13) 12 ro16, oX3 (a 14) (a 15), ai d (a 15) 42 ro17, oX0 (a 18) s_undoable_most (a 19) ro18 s_undoable_next, oX0 (a 20) s_kept_most (a 21) ro19 s_kept_next] r := by
  refine sx_I.intro (lv0 := [some (.ref (a 0))]) (by decide +kernel) (Nat.le_of_ble_eq_true rfl) rfl ?_
  intro κ X hR
  have X : sx_X d κ cX4_lay 1 RX4 (sx_rm 6) := X
  unfold fX4_lay at hf
  refine g_aload_n (pc' := 1) X dX4_lay_0 rfl rfl rfl ?_
  refine g_callVi19 (pc' := 4) (As := []) (b := (a 0)) (st := []) (w2 := fun x1 o2 o3 o4 o5 o6 o7 o8 o9 o10 o11 o12 o13 o14 o15 o16 o17 o18 o19 o20 => [oX4 a o2 o3 o4, oX2 (a 1) (a 2) (a 3) (a 4) (a 8) s_scribe_length o5, ac d (a 2) 200 s_scribe_letters, ai d (a 3) 3 o6, oX1 (a 4) (a 5) (a 6) (a 7) o7 o8, ai d (a 5) 6 o9, ai d (a 6) 6 o10, ai d (a 7) 12 o11, oX3 (a 8) (a 9), ai d (a 9) 42 o12, oX1 (a 10) (a 11) (a 12) (a 13) o13 o14, ai d (a 11) 6 o15, ai d (a 12) 6 o16, ai d (a 13) 12 o17, oX3 (a 14) (a 15), ai d (a 15) 42 o18, oX0 (a 18) s_undoable_most (a 19) o19 s_undoable_next, oX0 (a 20) s_kept_most (a 21) o20 s_kept_next]) X lk_X4_64 dX4_lay_1 rfl rfl rfl (Nat.le_of_ble_eq_true rfl) ⟨Nat.le_of_ble_eq_true rfl, Nat.le_of_ble_eq_true rfl, Nat.le_of_ble_eq_true rfl, Nat.le_of_ble_eq_true rfl⟩ rfl [0, 1, 2, 3, 4, 5, 6, 7, 8, 9, 10, 11, 12, 13, 14, 15, 16, 17] (by decide) rfl hf (fun l x1 o2 o3 o4 o5 o6 o7 o8 o9 o10 o11 o12 o13 o14 o15 o16 o17 o18 o19 o20 h => ctX4_layAsTold l d a s_saidOn s_saidOff s_saidCount s_scribe_length s_scribe_at s_scribe_letters s_scribe_numbers s_scribe_range_peaks s_scribe_range_windsTold s_scribe_range_kinds s_scribe_range_heights s_scribe_range_winds s_scribe_state_cells s_range_peaks s_range_windsTold s_range_kinds s_range_heights s_range_winds s_now_cells s_undoable_most s_undoable_held s_undoable_next s_kept_most s_kept_held s_kept_next x1 o2 o3 o4 o5 o6 o7 o8 o9 o10 o11 o12 o13 o14 o15 o16 o17 o18 o19 o20 h) (fun _ _ _ _ _ _ _ _ _ _ _ _ _ _ _ _ _ _ _ _ => rfl) (fun _ _ _ _ _ _ _ _ _ _ _ _ _ _ _ _ _ _ _ _ => rfl) (fun x1 o2 o3 o4 o5 o6 o7 o8 o9 o10 o11 o12 o13 o14 o15 o16 o17 o18 o19 o20 hnx1 hf => ?_)
  refine g_if_eq (tgt := 17) (pc' := 7) X dX4_lay_4 (by decide) rfl hf (fun hf => ?_) (fun hf => ?_)
  · refine g_bipush (v := -2) (pc' := 19) X dX4_lay_17 rfl (by decide) ?_
    cases hf
    exact hR _ _ dX4_lay_19 rfl
  · refine g_aload_n (pc' := 8) X dX4_lay_7 rfl rfl rfl ?_
    refine g_get (pc' := 11) X fl_X4_19 dX4_lay_8 rfl 0 rfl rfl ?_
    refine g_get (pc' := 14) X fl_X4_80 dX4_lay_11 rfl 10 rfl rfl ?_
    refine g_goto (tgt := 19) X dX4_lay_14 (by decide) ?_
    cases hf
    exact hR _ _ dX4_lay_19 rfl
-- X4_shadeBy
def jX4_shadeBy_47 (t0 : Int32) : Option (Int32) :=
  if t0 = 0 then
    some (0 : Int32)
  else
    some (3 : Int32)
def jX4_shadeBy_46  : Option (Int32) :=
  jX4_shadeBy_47 (0 : Int32)
def fX4_shadeBy (s_range_peaks : Int32) (s_range_heights : Nat → Int32) (s_now_cells : Nat → Int32) (v1 : Int32) (v2 : Int32) : Option (Int32) :=
  (fX1_isPeak s_range_peaks v1).bind fun x1 =>
  if x1 = 0 then
    jX4_shadeBy_46
  else
    (fX1_heightOf s_range_peaks s_range_heights v1).bind fun x2 =>
    (fX1_heightOf s_range_peaks s_range_heights v2).bind fun x3 =>
    if x2 ≤ x3 then
      jX4_shadeBy_46
    else
      (fX3_isOn s_now_cells v1 (3 : Int32)).bind fun x4 =>
      if x4 = 0 then
        jX4_shadeBy_46
      else
        jX4_shadeBy_47 (1 : Int32)
set_option maxHeartbeats 4000000 in
set_option maxRecDepth 100000 in
theorem ctX4_shadeBy (l : Launch) (d : sx_D) (a : Nat → Nat) (s_saidOn : Int32) (s_saidOff : Int32) (s_saidCount : Int32) (s_range_peaks : Int32) (s_range_windsTold : Int32) (s_range_heights : Nat → Int32) (s_now_cells : Nat → Int32) (v1 : Int32) (v2 : Int32) (r : Int32) (hf : fX4_shadeBy s_range_peaks s_range_heights s_now_cells v1 v2 = some r) : sx_I l d yX4_shadeBy cX4_shadeBy 4 .int 2 [.ref (a 0), .int v1, .int v2] [oX4 a s_saidOn s_saidOff s_saidCount, oX1 (a 10) (a 11) (a 12) (a 13) s_range_peaks s_range_windsTold, ai d (a 12) 6 s_range_heights, oX3 (a 14) (a 15), ai d (a 15) 42 s_now_cells] [oX4 a s_saidOn s_saidOff s_saidCount, oX1 (a 10) (a 11) (a 12) (a 13) s_range_peaks s_range_windsTold, ai d (a 12) 6 s_range_heights, oX3 (a 14) (a 15), ai d (a 15) 42 s_now_cells] r := by
  refine sx_I.intro (lv0 := [some (.ref (a 0)), some (.int v1), some (.int v2), none]) (by decide +kernel) (Nat.le_of_ble_eq_true rfl) rfl ?_
  intro κ X hR
  have X : sx_X d κ cX4_shadeBy 4 RX4 (sx_rm 2) := X
  unfold fX4_shadeBy at hf
  refine g_aload_n (pc' := 1) X dX4_shadeBy_0 rfl rfl rfl ?_
  refine g_get (pc' := 4) X fl_X4_19 dX4_shadeBy_1 rfl 0 rfl rfl ?_
  refine g_iload_n (pc' := 5) X dX4_shadeBy_4 rfl rfl rfl ?_
  refine g_callVi0 (pc' := 8) (As := [.int v1]) (b := (a 10)) (st := []) (w2 := fun x1 => [oX4 a s_saidOn s_saidOff s_saidCount, oX1 (a 10) (a 11) (a 12) (a 13) s_range_peaks s_range_windsTold, ai d (a 12) 6 s_range_heights, oX3 (a 14) (a 15), ai d (a 15) 42 s_now_cells]) X lk_X4_83 dX4_shadeBy_5 rfl rfl rfl (Nat.le_of_ble_eq_true rfl) ⟨Nat.le_of_ble_eq_true rfl, Nat.le_of_ble_eq_true rfl, Nat.le_of_ble_eq_true rfl, Nat.le_of_ble_eq_true rfl⟩ rfl [1] (by decide) rfl hf (fun l x1 h => ctX1_isPeak l d (a 10) (a 11) (a 12) (a 13) s_range_peaks s_range_windsTold v1 x1 h) (fun _ => rfl) (fun _ => rfl) (fun x1 hnx1 hf => ?_)
  have hjX4_shadeBy_47 : ∀ (t0 : Int32), jX4_shadeBy_47 t0 = some r → sx_G d κ 4 0 0 47 [none, none, none, none] [.int t0] [oX4 a s_saidOn s_saidOff s_saidCount, oX1 (a 10) (a 11) (a 12) (a 13) s_range_peaks s_range_windsTold, ai d (a 12) 6 s_range_heights, oX3 (a 14) (a 15), ai d (a 15) 42 s_now_cells] := by
    intro t0 hf
    unfold jX4_shadeBy_47 at hf
    refine g_istore_n (lv' := [none, none, none, some (.int t0)]) (pc' := 48) X dX4_shadeBy_47 rfl rfl (by decide) rfl rfl ?_
    refine g_iload_n (pc' := 49) X dX4_shadeBy_48 rfl rfl rfl ?_
    refine g_if_eq (tgt := 56) (pc' := 52) X dX4_shadeBy_49 (by decide) rfl hf (fun hf => ?_) (fun hf => ?_)
    · refine g_iconst (v := 0) (pc' := 57) X dX4_shadeBy_56 rfl (by decide) ?_
      cases hf
      exact hR _ _ dX4_shadeBy_57 rfl
    · refine g_iconst (v := 3) (pc' := 53) X dX4_shadeBy_52 rfl (by decide) ?_
      refine g_goto (tgt := 57) X dX4_shadeBy_53 (by decide) ?_
      cases hf
      exact hR _ _ dX4_shadeBy_57 rfl
  have hjX4_shadeBy_46 : jX4_shadeBy_46 = some r → sx_G d κ 4 0 0 46 [none, none, none, none] [] [oX4 a s_saidOn s_saidOff s_saidCount, oX1 (a 10) (a 11) (a 12) (a 13) s_range_peaks s_range_windsTold, ai d (a 12) 6 s_range_heights, oX3 (a 14) (a 15), ai d (a 15) 42 s_now_cells] := by
    intro hf
    unfold jX4_shadeBy_46 at hf
    refine g_iconst (v := 0) (pc' := 47) X dX4_shadeBy_46 rfl (by decide) ?_
    exact sx_weak [true, true, true, true] rfl (hjX4_shadeBy_47 (0 : Int32) hf)
  refine g_if_eq (tgt := 46) (pc' := 11) X dX4_shadeBy_8 (by decide) rfl hf (fun hf => ?_) (fun hf => ?_)
  · exact sx_weak [false, false, false, true] rfl (hjX4_shadeBy_46  hf)
  · refine g_aload_n (pc' := 12) X dX4_shadeBy_11 rfl rfl rfl ?_
    refine g_get (pc' := 15) X fl_X4_19 dX4_shadeBy_12 rfl 0 rfl rfl ?_
    refine g_iload_n (pc' := 16) X dX4_shadeBy_15 rfl rfl rfl ?_
    refine g_callVi0 (pc' := 19) (As := [.int v1]) (b := (a 10)) (st := []) (w2 := fun x2 => [oX4 a s_saidOn s_saidOff s_saidCount, oX1 (a 10) (a 11) (a 12) (a 13) s_range_peaks s_range_windsTold, ai d (a 12) 6 s_range_heights, oX3 (a 14) (a 15), ai d (a 15) 42 s_now_cells]) X lk_X4_91 dX4_shadeBy_16 rfl rfl rfl (Nat.le_of_ble_eq_true rfl) ⟨Nat.le_of_ble_eq_true rfl, Nat.le_of_ble_eq_true rfl, Nat.le_of_ble_eq_true rfl, Nat.le_of_ble_eq_true rfl⟩ rfl [1, 2] (by decide) rfl hf (fun l x2 h => ctX1_heightOf l d (a 10) (a 11) (a 12) (a 13) s_range_peaks s_range_windsTold s_range_heights v1 x2 h) (fun _ => rfl) (fun _ => rfl) (fun x2 hnx2 hf => ?_)
    refine g_aload_n (pc' := 20) X dX4_shadeBy_19 rfl rfl rfl ?_
    refine g_get (pc' := 23) X fl_X4_19 dX4_shadeBy_20 rfl 0 rfl rfl ?_
    refine g_iload_n (pc' := 24) X dX4_shadeBy_23 rfl rfl rfl ?_
    refine g_callVi0 (pc' := 27) (As := [.int v2]) (b := (a 10)) (st := [.int x2]) (w2 := fun x3 => [oX4 a s_saidOn s_saidOff s_saidCount, oX1 (a 10) (a 11) (a 12) (a 13) s_range_peaks s_range_windsTold, ai d (a 12) 6 s_range_heights, oX3 (a 14) (a 15), ai d (a 15) 42 s_now_cells]) X lk_X4_91 dX4_shadeBy_24 rfl rfl rfl (Nat.le_of_ble_eq_true rfl) ⟨Nat.le_of_ble_eq_true rfl, Nat.le_of_ble_eq_true rfl, Nat.le_of_ble_eq_true rfl, Nat.le_of_ble_eq_true rfl⟩ rfl [1, 2] (by decide) rfl hf (fun l x3 h => ctX1_heightOf l d (a 10) (a 11) (a 12) (a 13) s_range_peaks s_range_windsTold s_range_heights v2 x3 h) (fun _ => rfl) (fun _ => rfl) (fun x3 hnx3 hf => ?_)
    refine g_icmp_le (tgt := 46) (pc' := 30) X dX4_shadeBy_27 (by decide) rfl hf (fun hf => ?_) (fun hf => ?_)
    · exact sx_weak [false, false, false, true] rfl (hjX4_shadeBy_46  hf)
    · refine g_aload_n (pc' := 31) X dX4_shadeBy_30 rfl rfl rfl ?_
      refine g_get (pc' := 34) X fl_X4_26 dX4_shadeBy_31 rfl 0 rfl rfl ?_
      refine g_iload_n (pc' := 35) X dX4_shadeBy_34 rfl rfl rfl ?_
      refine g_iconst (v := 3) (pc' := 36) X dX4_shadeBy_35 rfl (by decide) ?_
      refine g_callVi0 (pc' := 39) (As := [.int v1, .int (3 : Int32)]) (b := (a 14)) (st := []) (w2 := fun x4 => [oX4 a s_saidOn s_saidOff s_saidCount, oX1 (a 10) (a 11) (a 12) (a 13) s_range_peaks s_range_windsTold, ai d (a 12) 6 s_range_heights, oX3 (a 14) (a 15), ai d (a 15) 42 s_now_cells]) X lk_X4_140 dX4_shadeBy_36 rfl rfl rfl (Nat.le_of_ble_eq_true rfl) ⟨Nat.le_of_ble_eq_true rfl, Nat.le_of_ble_eq_true rfl, Nat.le_of_ble_eq_true rfl, Nat.le_of_ble_eq_true rfl⟩ rfl [3, 4] (by decide) rfl hf (fun l x4 h => ctX3_isOn l d (a 14) (a 15) s_now_cells v1 (3 : Int32) x4 h) (fun _ => rfl) (fun _ => rfl) (fun x4 hnx4 hf => ?_)
      refine g_if_eq (tgt := 46) (pc' := 42) X dX4_shadeBy_39 (by decide) rfl hf (fun hf => ?_) (fun hf => ?_)
      · exact sx_weak [false, false, false, true] rfl (hjX4_shadeBy_46  hf)
      · refine g_iconst (v := 1) (pc' := 43) X dX4_shadeBy_42 rfl (by decide) ?_
        refine g_goto (tgt := 47) X dX4_shadeBy_43 (by decide) ?_
        exact sx_weak [false, false, false, true] rfl (hjX4_shadeBy_47 (1 : Int32) hf)
-- X4_lightOf
def fX4_lightOf (s_range_peaks : Int32) (s_range_heights : Nat → Int32) (s_now_cells : Nat → Int32) (v1 : Int32) : Option (Int32) :=
  (fX4_shadeBy s_range_peaks s_range_heights s_now_cells (v1 - (1 : Int32)) v1).bind fun x1 =>
  (fX4_shadeBy s_range_peaks s_range_heights s_now_cells (v1 + (1 : Int32)) v1).bind fun x2 =>
  some (((12 : Int32) - x1) - x2)
set_option maxHeartbeats 4000000 in
set_option maxRecDepth 100000 in
theorem ctX4_lightOf (l : Launch) (d : sx_D) (a : Nat → Nat) (s_saidOn : Int32) (s_saidOff : Int32) (s_saidCount : Int32) (s_range_peaks : Int32) (s_range_windsTold : Int32) (s_range_heights : Nat → Int32) (s_now_cells : Nat → Int32) (v1 : Int32) (r : Int32) (hf : fX4_lightOf s_range_peaks s_range_heights s_now_cells v1 = some r) : sx_I l d yX4_lightOf cX4_lightOf 2 .int 3 [.ref (a 0), .int v1] [oX4 a s_saidOn s_saidOff s_saidCount, oX1 (a 10) (a 11) (a 12) (a 13) s_range_peaks s_range_windsTold, ai d (a 12) 6 s_range_heights, oX3 (a 14) (a 15), ai d (a 15) 42 s_now_cells] [oX4 a s_saidOn s_saidOff s_saidCount, oX1 (a 10) (a 11) (a 12) (a 13) s_range_peaks s_range_windsTold, ai d (a 12) 6 s_range_heights, oX3 (a 14) (a 15), ai d (a 15) 42 s_now_cells] r := by
  refine sx_I.intro (lv0 := [some (.ref (a 0)), some (.int v1)]) (by decide +kernel) (Nat.le_of_ble_eq_true rfl) rfl ?_
  intro κ X hR
  have X : sx_X d κ cX4_lightOf 2 RX4 (sx_rm 3) := X
  unfold fX4_lightOf at hf
  refine g_bipush (v := 12) (pc' := 2) X dX4_lightOf_0 rfl (by decide) ?_
  refine g_aload_n (pc' := 3) X dX4_lightOf_2 rfl rfl rfl ?_
  refine g_iload_n (pc' := 4) X dX4_lightOf_3 rfl rfl rfl ?_
  refine g_iconst (v := 1) (pc' := 5) X dX4_lightOf_4 rfl (by decide) ?_
  refine g_isub (pc' := 6) X dX4_lightOf_5 rfl ?_
  refine g_iload_n (pc' := 7) X dX4_lightOf_6 rfl rfl rfl ?_
  refine g_callVi0 (pc' := 10) (As := [.int (v1 - (1 : Int32)), .int v1]) (b := (a 0)) (st := [.int (12 : Int32)]) (w2 := fun x1 => [oX4 a s_saidOn s_saidOff s_saidCount, oX1 (a 10) (a 11) (a 12) (a 13) s_range_peaks s_range_windsTold, ai d (a 12) 6 s_range_heights, oX3 (a 14) (a 15), ai d (a 15) 42 s_now_cells]) X lk_X4_259 dX4_lightOf_7 rfl rfl rfl (Nat.le_of_ble_eq_true rfl) ⟨Nat.le_of_ble_eq_true rfl, Nat.le_of_ble_eq_true rfl, Nat.le_of_ble_eq_true rfl, Nat.le_of_ble_eq_true rfl⟩ rfl [0, 1, 2, 3, 4] (by decide) rfl hf (fun l x1 h => ctX4_shadeBy l d a s_saidOn s_saidOff s_saidCount s_range_peaks s_range_windsTold s_range_heights s_now_cells (v1 - (1 : Int32)) v1 x1 h) (fun _ => rfl) (fun _ => rfl) (fun x1 hnx1 hf => ?_)
  refine g_isub (pc' := 11) X dX4_lightOf_10 rfl ?_
  refine g_aload_n (pc' := 12) X dX4_lightOf_11 rfl rfl rfl ?_
  refine g_iload_n (pc' := 13) X dX4_lightOf_12 rfl rfl rfl ?_
  refine g_iconst (v := 1) (pc' := 14) X dX4_lightOf_13 rfl (by decide) ?_
  refine g_iadd (pc' := 15) X dX4_lightOf_14 rfl ?_
  refine g_iload_n (pc' := 16) X dX4_lightOf_15 rfl rfl rfl ?_
  refine g_callVi0 (pc' := 19) (As := [.int (v1 + (1 : Int32)), .int v1]) (b := (a 0)) (st := [.int ((12 : Int32) - x1)]) (w2 := fun x2 => [oX4 a s_saidOn s_saidOff s_saidCount, oX1 (a 10) (a 11) (a 12) (a 13) s_range_peaks s_range_windsTold, ai d (a 12) 6 s_range_heights, oX3 (a 14) (a 15), ai d (a 15) 42 s_now_cells]) X lk_X4_259 dX4_lightOf_16 rfl rfl rfl (Nat.le_of_ble_eq_true rfl) ⟨Nat.le_of_ble_eq_true rfl, Nat.le_of_ble_eq_true rfl, Nat.le_of_ble_eq_true rfl, Nat.le_of_ble_eq_true rfl⟩ rfl [0, 1, 2, 3, 4] (by decide) rfl hf (fun l x2 h => ctX4_shadeBy l d a s_saidOn s_saidOff s_saidCount s_range_peaks s_range_windsTold s_range_heights s_now_cells (v1 + (1 : Int32)) v1 x2 h) (fun _ => rfl) (fun _ => rfl) (fun x2 hnx2 hf => ?_)
  refine g_isub (pc' := 20) X dX4_lightOf_19 rfl ?_
  cases hf
  exact hR _ _ dX4_lightOf_20 rfl
-- X4_peak
def fX4_peak (s_range_peaks : Int32) (s_range_windsTold : Int32) (s_range_kinds : Nat → Int32) (s_range_heights : Nat → Int32) (s_range_winds : Nat → Int32) (s_now_cells : Nat → Int32) (v1 : Int32) (v2 : Int32) : Option (Int32) :=
  (fX1_isPeak s_range_peaks v1).bind fun x1 =>
  if x1 = 0 then
    some (-1 : Int32)
  else
    if v2 = (0 : Int32) then
      (fX1_kindOf s_range_peaks s_range_kinds v1).bind fun x2 =>
      some x2
    else
    if v2 = (1 : Int32) then
      (fX1_heightOf s_range_peaks s_range_heights v1).bind fun x3 =>
      some x3
    else
    if v2 = (2 : Int32) then
      (fX3_looksOf s_now_cells v1).bind fun x4 =>
      some x4
    else
    if v2 = (3 : Int32) then
      (fX3_guideOf s_now_cells v1).bind fun x5 =>
      some x5
    else
    if v2 = (4 : Int32) then
      (fX3_yearNow s_now_cells).bind fun x6 =>
      (fX1_windIn s_range_windsTold s_range_winds x6).bind fun x7 =>
      (fX1_forceAt s_range_peaks s_range_kinds v1 x7).bind fun x8 =>
      some x8
    else
    if v2 = (5 : Int32) then
      (fX4_lightOf s_range_peaks s_range_heights s_now_cells v1).bind fun x9 =>
      some x9
    else
      some (-1 : Int32)
set_option maxHeartbeats 4000000 in
set_option maxRecDepth 100000 in
theorem ctX4_peak (l : Launch) (d : sx_D) (a : Nat → Nat) (s_saidOn : Int32) (s_saidOff : Int32) (s_saidCount : Int32) (s_range_peaks : Int32) (s_range_windsTold : Int32) (s_range_kinds : Nat → Int32) (s_range_heights : Nat → Int32) (s_range_winds : Nat → Int32) (s_now_cells : Nat → Int32) (v1 : Int32) (v2 : Int32) (r : Int32) (hf : fX4_peak s_range_peaks s_range_windsTold s_range_kinds s_range_heights s_range_winds s_now_cells v1 v2 = some r) : sx_I l d yX4_peak cX4_peak 3 .int 4 [.ref (a 0), .int v1, .int v2] [oX4 a s_saidOn s_saidOff s_saidCount, oX1 (a 10) (a 11) (a 12) (a 13) s_range_peaks s_range_windsTold, ai d (a 11) 6 s_range_kinds, ai d (a 12) 6 s_range_heights, ai d (a 13) 12 s_range_winds, oX3 (a 14) (a 15), ai d (a 15) 42 s_now_cells] [oX4 a s_saidOn s_saidOff s_saidCount, oX1 (a 10) (a 11) (a 12) (a 13) s_range_peaks s_range_windsTold, ai d (a 11) 6 s_range_kinds, ai d (a 12) 6 s_range_heights, ai d (a 13) 12 s_range_winds, oX3 (a 14) (a 15), ai d (a 15) 42 s_now_cells] r := by
  refine sx_I.intro (lv0 := [some (.ref (a 0)), some (.int v1), some (.int v2)]) (by decide +kernel) (Nat.le_of_ble_eq_true rfl) rfl ?_
  intro κ X hR
  have X : sx_X d κ cX4_peak 3 RX4 (sx_rm 4) := X
  unfold fX4_peak at hf
  refine g_aload_n (pc' := 1) X dX4_peak_0 rfl rfl rfl ?_
  refine g_get (pc' := 4) X fl_X4_19 dX4_peak_1 rfl 0 rfl rfl ?_
  refine g_iload_n (pc' := 5) X dX4_peak_4 rfl rfl rfl ?_
  refine g_callVi0 (pc' := 8) (As := [.int v1]) (b := (a 10)) (st := []) (w2 := fun x1 => [oX4 a s_saidOn s_saidOff s_saidCount, oX1 (a 10) (a 11) (a 12) (a 13) s_range_peaks s_range_windsTold, ai d (a 11) 6 s_range_kinds, ai d (a 12) 6 s_range_heights, ai d (a 13) 12 s_range_winds, oX3 (a 14) (a 15), ai d (a 15) 42 s_now_cells]) X lk_X4_83 dX4_peak_5 rfl rfl rfl (Nat.le_of_ble_eq_true rfl) ⟨Nat.le_of_ble_eq_true rfl, Nat.le_of_ble_eq_true rfl, Nat.le_of_ble_eq_true rfl, Nat.le_of_ble_eq_true rfl⟩ rfl [1] (by decide) rfl hf (fun l x1 h => ctX1_isPeak l d (a 10) (a 11) (a 12) (a 13) s_range_peaks s_range_windsTold v1 x1 h) (fun _ => rfl) (fun _ => rfl) (fun x1 hnx1 hf => ?_)
  refine g_if_ne (tgt := 13) (pc' := 11) X dX4_peak_8 (by decide) rfl hf (fun hf => ?_) (fun hf => ?_)
  · refine g_iload_n (pc' := 14) X dX4_peak_13 rfl rfl rfl ?_
    by_cases h0 : v2 = (0 : Int32)
    · rw [if_pos h0] at hf
      refine g_tabIn (tgt := 52) X dX4_peak_14 (by rw [h0]; decide) (by rw [h0]; decide) (by rw [h0]; rfl) (by decide) ?_
      refine g_aload_n (pc' := 53) X dX4_peak_52 rfl rfl rfl ?_
      refine g_get (pc' := 56) X fl_X4_19 dX4_peak_53 rfl 0 rfl rfl ?_
      refine g_iload_n (pc' := 57) X dX4_peak_56 rfl rfl rfl ?_
      refine g_callVi0 (pc' := 60) (As := [.int v1]) (b := (a 10)) (st := []) (w2 := fun x2 => [oX4 a s_saidOn s_saidOff s_saidCount, oX1 (a 10) (a 11) (a 12) (a 13) s_range_peaks s_range_windsTold, ai d (a 11) 6 s_range_kinds, ai d (a 12) 6 s_range_heights, ai d (a 13) 12 s_range_winds, oX3 (a 14) (a 15), ai d (a 15) 42 s_now_cells]) X lk_X4_87 dX4_peak_57 rfl rfl rfl (Nat.le_of_ble_eq_true rfl) ⟨Nat.le_of_ble_eq_true rfl, Nat.le_of_ble_eq_true rfl, Nat.le_of_ble_eq_true rfl, Nat.le_of_ble_eq_true rfl⟩ rfl [1, 2] (by decide) rfl hf (fun l x2 h => ctX1_kindOf l d (a 10) (a 11) (a 12) (a 13) s_range_peaks s_range_windsTold s_range_kinds v1 x2 h) (fun _ => rfl) (fun _ => rfl) (fun x2 hnx2 hf => ?_)
      cases hf
      exact hR _ _ dX4_peak_60 rfl
    rw [if_neg h0] at hf
    by_cases h1 : v2 = (1 : Int32)
    · rw [if_pos h1] at hf
      refine g_tabIn (tgt := 61) X dX4_peak_14 (by rw [h1]; decide) (by rw [h1]; decide) (by rw [h1]; rfl) (by decide) ?_
      refine g_aload_n (pc' := 62) X dX4_peak_61 rfl rfl rfl ?_
      refine g_get (pc' := 65) X fl_X4_19 dX4_peak_62 rfl 0 rfl rfl ?_
      refine g_iload_n (pc' := 66) X dX4_peak_65 rfl rfl rfl ?_
      refine g_callVi0 (pc' := 69) (As := [.int v1]) (b := (a 10)) (st := []) (w2 := fun x3 => [oX4 a s_saidOn s_saidOff s_saidCount, oX1 (a 10) (a 11) (a 12) (a 13) s_range_peaks s_range_windsTold, ai d (a 11) 6 s_range_kinds, ai d (a 12) 6 s_range_heights, ai d (a 13) 12 s_range_winds, oX3 (a 14) (a 15), ai d (a 15) 42 s_now_cells]) X lk_X4_91 dX4_peak_66 rfl rfl rfl (Nat.le_of_ble_eq_true rfl) ⟨Nat.le_of_ble_eq_true rfl, Nat.le_of_ble_eq_true rfl, Nat.le_of_ble_eq_true rfl, Nat.le_of_ble_eq_true rfl⟩ rfl [1, 3] (by decide) rfl hf (fun l x3 h => ctX1_heightOf l d (a 10) (a 11) (a 12) (a 13) s_range_peaks s_range_windsTold s_range_heights v1 x3 h) (fun _ => rfl) (fun _ => rfl) (fun x3 hnx3 hf => ?_)
      cases hf
      exact hR _ _ dX4_peak_69 rfl
    rw [if_neg h1] at hf
    by_cases h2 : v2 = (2 : Int32)
    · rw [if_pos h2] at hf
      refine g_tabIn (tgt := 70) X dX4_peak_14 (by rw [h2]; decide) (by rw [h2]; decide) (by rw [h2]; rfl) (by decide) ?_
      refine g_aload_n (pc' := 71) X dX4_peak_70 rfl rfl rfl ?_
      refine g_get (pc' := 74) X fl_X4_26 dX4_peak_71 rfl 0 rfl rfl ?_
      refine g_iload_n (pc' := 75) X dX4_peak_74 rfl rfl rfl ?_
      refine g_callVi0 (pc' := 78) (As := [.int v1]) (b := (a 14)) (st := []) (w2 := fun x4 => [oX4 a s_saidOn s_saidOff s_saidCount, oX1 (a 10) (a 11) (a 12) (a 13) s_range_peaks s_range_windsTold, ai d (a 11) 6 s_range_kinds, ai d (a 12) 6 s_range_heights, ai d (a 13) 12 s_range_winds, oX3 (a 14) (a 15), ai d (a 15) 42 s_now_cells]) X lk_X4_94 dX4_peak_75 rfl rfl rfl (Nat.le_of_ble_eq_true rfl) ⟨Nat.le_of_ble_eq_true rfl, Nat.le_of_ble_eq_true rfl, Nat.le_of_ble_eq_true rfl, Nat.le_of_ble_eq_true rfl⟩ rfl [5, 6] (by decide) rfl hf (fun l x4 h => ctX3_looksOf l d (a 14) (a 15) s_now_cells v1 x4 h) (fun _ => rfl) (fun _ => rfl) (fun x4 hnx4 hf => ?_)
      cases hf
      exact hR _ _ dX4_peak_78 rfl
    rw [if_neg h2] at hf
    by_cases h3 : v2 = (3 : Int32)
    · rw [if_pos h3] at hf
      refine g_tabIn (tgt := 79) X dX4_peak_14 (by rw [h3]; decide) (by rw [h3]; decide) (by rw [h3]; rfl) (by decide) ?_
      refine g_aload_n (pc' := 80) X dX4_peak_79 rfl rfl rfl ?_
      refine g_get (pc' := 83) X fl_X4_26 dX4_peak_80 rfl 0 rfl rfl ?_
      refine g_iload_n (pc' := 84) X dX4_peak_83 rfl rfl rfl ?_
      refine g_callVi0 (pc' := 87) (As := [.int v1]) (b := (a 14)) (st := []) (w2 := fun x5 => [oX4 a s_saidOn s_saidOff s_saidCount, oX1 (a 10) (a 11) (a 12) (a 13) s_range_peaks s_range_windsTold, ai d (a 11) 6 s_range_kinds, ai d (a 12) 6 s_range_heights, ai d (a 13) 12 s_range_winds, oX3 (a 14) (a 15), ai d (a 15) 42 s_now_cells]) X lk_X4_97 dX4_peak_84 rfl rfl rfl (Nat.le_of_ble_eq_true rfl) ⟨Nat.le_of_ble_eq_true rfl, Nat.le_of_ble_eq_true rfl, Nat.le_of_ble_eq_true rfl, Nat.le_of_ble_eq_true rfl⟩ rfl [5, 6] (by decide) rfl hf (fun l x5 h => ctX3_guideOf l d (a 14) (a 15) s_now_cells v1 x5 h) (fun _ => rfl) (fun _ => rfl) (fun x5 hnx5 hf => ?_)
      cases hf
      exact hR _ _ dX4_peak_87 rfl
    rw [if_neg h3] at hf
    by_cases h4 : v2 = (4 : Int32)
    · rw [if_pos h4] at hf
      refine g_tabIn (tgt := 88) X dX4_peak_14 (by rw [h4]; decide) (by rw [h4]; decide) (by rw [h4]; rfl) (by decide) ?_
      refine g_aload_n (pc' := 89) X dX4_peak_88 rfl rfl rfl ?_
      refine g_get (pc' := 92) X fl_X4_19 dX4_peak_89 rfl 0 rfl rfl ?_
      refine g_iload_n (pc' := 93) X dX4_peak_92 rfl rfl rfl ?_
      refine g_aload_n (pc' := 94) X dX4_peak_93 rfl rfl rfl ?_
      refine g_get (pc' := 97) X fl_X4_19 dX4_peak_94 rfl 0 rfl rfl ?_
      refine g_aload_n (pc' := 98) X dX4_peak_97 rfl rfl rfl ?_
      refine g_get (pc' := 101) X fl_X4_26 dX4_peak_98 rfl 0 rfl rfl ?_
      refine g_callVi0 (pc' := 104) (As := []) (b := (a 14)) (st := [.ref (a 10), .int v1, .ref (a 10)]) (w2 := fun x6 => [oX4 a s_saidOn s_saidOff s_saidCount, oX1 (a 10) (a 11) (a 12) (a 13) s_range_peaks s_range_windsTold, ai d (a 11) 6 s_range_kinds, ai d (a 12) 6 s_range_heights, ai d (a 13) 12 s_range_winds, oX3 (a 14) (a 15), ai d (a 15) 42 s_now_cells]) X lk_X4_100 dX4_peak_101 rfl rfl rfl (Nat.le_of_ble_eq_true rfl) ⟨Nat.le_of_ble_eq_true rfl, Nat.le_of_ble_eq_true rfl, Nat.le_of_ble_eq_true rfl, Nat.le_of_ble_eq_true rfl⟩ rfl [5, 6] (by decide) rfl hf (fun l x6 h => ctX3_yearNow l d (a 14) (a 15) s_now_cells x6 h) (fun _ => rfl) (fun _ => rfl) (fun x6 hnx6 hf => ?_)
      refine g_callVi0 (pc' := 107) (As := [.int x6]) (b := (a 10)) (st := [.int v1, .ref (a 10)]) (w2 := fun x7 => [oX4 a s_saidOn s_saidOff s_saidCount, oX1 (a 10) (a 11) (a 12) (a 13) s_range_peaks s_range_windsTold, ai d (a 11) 6 s_range_kinds, ai d (a 12) 6 s_range_heights, ai d (a 13) 12 s_range_winds, oX3 (a 14) (a 15), ai d (a 15) 42 s_now_cells]) X lk_X4_103 dX4_peak_104 rfl rfl rfl (Nat.le_of_ble_eq_true rfl) ⟨Nat.le_of_ble_eq_true rfl, Nat.le_of_ble_eq_true rfl, Nat.le_of_ble_eq_true rfl, Nat.le_of_ble_eq_true rfl⟩ rfl [1, 4] (by decide) rfl hf (fun l x7 h => ctX1_windIn l d (a 10) (a 11) (a 12) (a 13) s_range_peaks s_range_windsTold s_range_winds x6 x7 h) (fun _ => rfl) (fun _ => rfl) (fun x7 hnx7 hf => ?_)
      refine g_callVi0 (pc' := 110) (As := [.int v1, .int x7]) (b := (a 10)) (st := []) (w2 := fun x8 => [oX4 a s_saidOn s_saidOff s_saidCount, oX1 (a 10) (a 11) (a 12) (a 13) s_range_peaks s_range_windsTold, ai d (a 11) 6 s_range_kinds, ai d (a 12) 6 s_range_heights, ai d (a 13) 12 s_range_winds, oX3 (a 14) (a 15), ai d (a 15) 42 s_now_cells]) X lk_X4_106 dX4_peak_107 rfl rfl rfl (Nat.le_of_ble_eq_true rfl) ⟨Nat.le_of_ble_eq_true rfl, Nat.le_of_ble_eq_true rfl, Nat.le_of_ble_eq_true rfl, Nat.le_of_ble_eq_true rfl⟩ rfl [1, 2] (by decide) rfl hf (fun l x8 h => ctX1_forceAt l d (a 10) (a 11) (a 12) (a 13) s_range_peaks s_range_windsTold s_range_kinds v1 x7 x8 h) (fun _ => rfl) (fun _ => rfl) (fun x8 hnx8 hf => ?_)
      cases hf
      exact hR _ _ dX4_peak_110 rfl
    rw [if_neg h4] at hf
    by_cases h5 : v2 = (5 : Int32)
    · rw [if_pos h5] at hf
      refine g_tabIn (tgt := 111) X dX4_peak_14 (by rw [h5]; decide) (by rw [h5]; decide) (by rw [h5]; rfl) (by decide) ?_
      refine g_aload_n (pc' := 112) X dX4_peak_111 rfl rfl rfl ?_
      refine g_iload_n (pc' := 113) X dX4_peak_112 rfl rfl rfl ?_
      refine g_callVi0 (pc' := 116) (As := [.int v1]) (b := (a 0)) (st := []) (w2 := fun x9 => [oX4 a s_saidOn s_saidOff s_saidCount, oX1 (a 10) (a 11) (a 12) (a 13) s_range_peaks s_range_windsTold, ai d (a 11) 6 s_range_kinds, ai d (a 12) 6 s_range_heights, ai d (a 13) 12 s_range_winds, oX3 (a 14) (a 15), ai d (a 15) 42 s_now_cells]) X lk_X4_110 dX4_peak_113 rfl rfl rfl (Nat.le_of_ble_eq_true rfl) ⟨Nat.le_of_ble_eq_true rfl, Nat.le_of_ble_eq_true rfl, Nat.le_of_ble_eq_true rfl, Nat.le_of_ble_eq_true rfl⟩ rfl [0, 1, 3, 5, 6] (by decide) rfl hf (fun l x9 h => ctX4_lightOf l d a s_saidOn s_saidOff s_saidCount s_range_peaks s_range_windsTold s_range_heights s_now_cells v1 x9 h) (fun _ => rfl) (fun _ => rfl) (fun x9 hnx9 hf => ?_)
      cases hf
      exact hR _ _ dX4_peak_116 rfl
    rw [if_neg h5] at hf
    have k0 := lv_neT h0 (a := 0) (by decide)
    have k1 := lv_neT h1 (a := 1) (by decide)
    have k2 := lv_neT h2 (a := 2) (by decide)
    have k3 := lv_neT h3 (a := 3) (by decide)
    have k4 := lv_neT h4 (a := 4) (by decide)
    have k5 := lv_neT h5 (a := 5) (by decide)
    refine g_tabOut (tgt := 117) X dX4_peak_14 (by omega) (by decide) ?_
    refine g_iconst (v := -1) (pc' := 118) X dX4_peak_117 rfl (by decide) ?_
    cases hf
    exact hR _ _ dX4_peak_118 rfl
  · refine g_iconst (v := -1) (pc' := 12) X dX4_peak_11 rfl (by decide) ?_
    cases hf
    exact hR _ _ dX4_peak_12 rfl
-- X4_isPlace
def fX4_isPlace (s_range_peaks : Int32) (v1 : Int32) (v2 : Int32) : Option (Int32) :=
  (fX1_isPeak s_range_peaks v1).bind fun x1 =>
  if x1 = 0 then
    some (0 : Int32)
  else
    (fX4_isTrimming v2).bind fun x2 =>
    if x2 = 0 then
      some (0 : Int32)
    else
      some (1 : Int32)
set_option maxHeartbeats 4000000 in
set_option maxRecDepth 100000 in
theorem ctX4_isPlace (l : Launch) (d : sx_D) (a : Nat → Nat) (s_saidOn : Int32) (s_saidOff : Int32) (s_saidCount : Int32) (s_range_peaks : Int32) (s_range_windsTold : Int32) (v1 : Int32) (v2 : Int32) (r : Int32) (hf : fX4_isPlace s_range_peaks v1 v2 = some r) : sx_I l d yX4_isPlace cX4_isPlace 3 .boolean 1 [.ref (a 0), .int v1, .int v2] [oX4 a s_saidOn s_saidOff s_saidCount, oX1 (a 10) (a 11) (a 12) (a 13) s_range_peaks s_range_windsTold] [oX4 a s_saidOn s_saidOff s_saidCount, oX1 (a 10) (a 11) (a 12) (a 13) s_range_peaks s_range_windsTold] r := by
  refine sx_I.intro (lv0 := [some (.ref (a 0)), some (.int v1), some (.int v2)]) (by decide +kernel) (Nat.le_of_ble_eq_true rfl) rfl ?_
  intro κ X hR
  have X : sx_X d κ cX4_isPlace 3 RX4 (sx_rm 1) := X
  unfold fX4_isPlace at hf
  refine g_aload_n (pc' := 1) X dX4_isPlace_0 rfl rfl rfl ?_
  refine g_get (pc' := 4) X fl_X4_19 dX4_isPlace_1 rfl 0 rfl rfl ?_
  refine g_iload_n (pc' := 5) X dX4_isPlace_4 rfl rfl rfl ?_
  refine g_callVi0 (pc' := 8) (As := [.int v1]) (b := (a 10)) (st := []) (w2 := fun x1 => [oX4 a s_saidOn s_saidOff s_saidCount, oX1 (a 10) (a 11) (a 12) (a 13) s_range_peaks s_range_windsTold]) X lk_X4_83 dX4_isPlace_5 rfl rfl rfl (Nat.le_of_ble_eq_true rfl) ⟨Nat.le_of_ble_eq_true rfl, Nat.le_of_ble_eq_true rfl, Nat.le_of_ble_eq_true rfl, Nat.le_of_ble_eq_true rfl⟩ rfl [1] (by decide) rfl hf (fun l x1 h => ctX1_isPeak l d (a 10) (a 11) (a 12) (a 13) s_range_peaks s_range_windsTold v1 x1 h) (fun _ => rfl) (fun _ => rfl) (fun x1 hnx1 hf => ?_)
  refine g_if_eq (tgt := 22) (pc' := 11) X dX4_isPlace_8 (by decide) rfl hf (fun hf => ?_) (fun hf => ?_)
  · refine g_iconst (v := 0) (pc' := 23) X dX4_isPlace_22 rfl (by decide) ?_
    cases hf
    exact hR _ _ dX4_isPlace_23 rfl
  · refine g_iload_n (pc' := 12) X dX4_isPlace_11 rfl rfl rfl ?_
    refine g_callSi0 (pc' := 15) (As := [.int v2]) (st := []) (w2 := fun x2 => [oX4 a s_saidOn s_saidOff s_saidCount, oX1 (a 10) (a 11) (a 12) (a 13) s_range_peaks s_range_windsTold]) X lk_X4_120 dX4_isPlace_12 rfl rfl rfl (Nat.le_of_ble_eq_true rfl) ⟨Nat.le_of_ble_eq_true rfl, Nat.le_of_ble_eq_true rfl, Nat.le_of_ble_eq_true rfl, Nat.le_of_ble_eq_true rfl⟩ [] (by decide) rfl hf (fun l x2 h => ctX4_isTrimming l d v2 x2 h) (fun _ => rfl) (fun _ => rfl) (fun x2 hnx2 hf => ?_)
    refine g_if_eq (tgt := 22) (pc' := 18) X dX4_isPlace_15 (by decide) rfl hf (fun hf => ?_) (fun hf => ?_)
    · refine g_iconst (v := 0) (pc' := 23) X dX4_isPlace_22 rfl (by decide) ?_
      cases hf
      exact hR _ _ dX4_isPlace_23 rfl
    · refine g_iconst (v := 1) (pc' := 19) X dX4_isPlace_18 rfl (by decide) ?_
      refine g_goto (tgt := 23) X dX4_isPlace_19 (by decide) ?_
      cases hf
      exact hR _ _ dX4_isPlace_23 rfl
-- X4_pins
def fX4_pins (s_range_peaks : Int32) (s_now_cells : Nat → Int32) (v1 : Int32) (v2 : Int32) : Option (Int32) :=
  (fX4_isPlace s_range_peaks v1 v2).bind fun x1 =>
  if x1 = 0 then
    some (-1 : Int32)
  else
    (fX3_pinsOn s_now_cells v1 v2).bind fun x2 =>
    some x2
set_option maxHeartbeats 4000000 in
set_option maxRecDepth 100000 in
theorem ctX4_pins (l : Launch) (d : sx_D) (a : Nat → Nat) (s_saidOn : Int32) (s_saidOff : Int32) (s_saidCount : Int32) (s_range_peaks : Int32) (s_range_windsTold : Int32) (s_now_cells : Nat → Int32) (v1 : Int32) (v2 : Int32) (r : Int32) (hf : fX4_pins s_range_peaks s_now_cells v1 v2 = some r) : sx_I l d yX4_pins cX4_pins 3 .int 2 [.ref (a 0), .int v1, .int v2] [oX4 a s_saidOn s_saidOff s_saidCount, oX1 (a 10) (a 11) (a 12) (a 13) s_range_peaks s_range_windsTold, oX3 (a 14) (a 15), ai d (a 15) 42 s_now_cells] [oX4 a s_saidOn s_saidOff s_saidCount, oX1 (a 10) (a 11) (a 12) (a 13) s_range_peaks s_range_windsTold, oX3 (a 14) (a 15), ai d (a 15) 42 s_now_cells] r := by
  refine sx_I.intro (lv0 := [some (.ref (a 0)), some (.int v1), some (.int v2)]) (by decide +kernel) (Nat.le_of_ble_eq_true rfl) rfl ?_
  intro κ X hR
  have X : sx_X d κ cX4_pins 3 RX4 (sx_rm 2) := X
  unfold fX4_pins at hf
  refine g_aload_n (pc' := 1) X dX4_pins_0 rfl rfl rfl ?_
  refine g_iload_n (pc' := 2) X dX4_pins_1 rfl rfl rfl ?_
  refine g_iload_n (pc' := 3) X dX4_pins_2 rfl rfl rfl ?_
  refine g_callVi0 (pc' := 6) (As := [.int v1, .int v2]) (b := (a 0)) (st := []) (w2 := fun x1 => [oX4 a s_saidOn s_saidOff s_saidCount, oX1 (a 10) (a 11) (a 12) (a 13) s_range_peaks s_range_windsTold, oX3 (a 14) (a 15), ai d (a 15) 42 s_now_cells]) X lk_X4_113 dX4_pins_3 rfl rfl rfl (Nat.le_of_ble_eq_true rfl) ⟨Nat.le_of_ble_eq_true rfl, Nat.le_of_ble_eq_true rfl, Nat.le_of_ble_eq_true rfl, Nat.le_of_ble_eq_true rfl⟩ rfl [0, 1] (by decide) rfl hf (fun l x1 h => ctX4_isPlace l d a s_saidOn s_saidOff s_saidCount s_range_peaks s_range_windsTold v1 v2 x1 h) (fun _ => rfl) (fun _ => rfl) (fun x1 hnx1 hf => ?_)
  refine g_if_eq (tgt := 21) (pc' := 9) X dX4_pins_6 (by decide) rfl hf (fun hf => ?_) (fun hf => ?_)
  · refine g_iconst (v := -1) (pc' := 22) X dX4_pins_21 rfl (by decide) ?_
    cases hf
    exact hR _ _ dX4_pins_22 rfl
  · refine g_aload_n (pc' := 10) X dX4_pins_9 rfl rfl rfl ?_
    refine g_get (pc' := 13) X fl_X4_26 dX4_pins_10 rfl 0 rfl rfl ?_
    refine g_iload_n (pc' := 14) X dX4_pins_13 rfl rfl rfl ?_
    refine g_iload_n (pc' := 15) X dX4_pins_14 rfl rfl rfl ?_
    refine g_callVi0 (pc' := 18) (As := [.int v1, .int v2]) (b := (a 14)) (st := []) (w2 := fun x2 => [oX4 a s_saidOn s_saidOff s_saidCount, oX1 (a 10) (a 11) (a 12) (a 13) s_range_peaks s_range_windsTold, oX3 (a 14) (a 15), ai d (a 15) 42 s_now_cells]) X lk_X4_117 dX4_pins_15 rfl rfl rfl (Nat.le_of_ble_eq_true rfl) ⟨Nat.le_of_ble_eq_true rfl, Nat.le_of_ble_eq_true rfl, Nat.le_of_ble_eq_true rfl, Nat.le_of_ble_eq_true rfl⟩ rfl [2, 3] (by decide) rfl hf (fun l x2 h => ctX3_pinsOn l d (a 14) (a 15) s_now_cells v1 v2 x2 h) (fun _ => rfl) (fun _ => rfl) (fun x2 hnx2 hf => ?_)
    refine g_goto (tgt := 22) X dX4_pins_18 (by decide) ?_
    cases hf
    exact hR _ _ dX4_pins_22 rfl
-- X4_store
def fX4_store (s_now_cells : Nat → Int32) (v1 : Int32) : Option (Int32) :=
  (fX4_isTrimming v1).bind fun x1 =>
  if x1 = 0 then
    some (-1 : Int32)
  else
    (fX3_inStore s_now_cells v1).bind fun x2 =>
    some x2
set_option maxHeartbeats 4000000 in
set_option maxRecDepth 100000 in
theorem ctX4_store (l : Launch) (d : sx_D) (a : Nat → Nat) (s_saidOn : Int32) (s_saidOff : Int32) (s_saidCount : Int32) (s_now_cells : Nat → Int32) (v1 : Int32) (r : Int32) (hf : fX4_store s_now_cells v1 = some r) : sx_I l d yX4_store cX4_store 2 .int 2 [.ref (a 0), .int v1] [oX4 a s_saidOn s_saidOff s_saidCount, oX3 (a 14) (a 15), ai d (a 15) 42 s_now_cells] [oX4 a s_saidOn s_saidOff s_saidCount, oX3 (a 14) (a 15), ai d (a 15) 42 s_now_cells] r := by
  refine sx_I.intro (lv0 := [some (.ref (a 0)), some (.int v1)]) (by decide +kernel) (Nat.le_of_ble_eq_true rfl) rfl ?_
  intro κ X hR
  have X : sx_X d κ cX4_store 2 RX4 (sx_rm 2) := X
  unfold fX4_store at hf
  refine g_iload_n (pc' := 1) X dX4_store_0 rfl rfl rfl ?_
  refine g_callSi0 (pc' := 4) (As := [.int v1]) (st := []) (w2 := fun x1 => [oX4 a s_saidOn s_saidOff s_saidCount, oX3 (a 14) (a 15), ai d (a 15) 42 s_now_cells]) X lk_X4_120 dX4_store_1 rfl rfl rfl (Nat.le_of_ble_eq_true rfl) ⟨Nat.le_of_ble_eq_true rfl, Nat.le_of_ble_eq_true rfl, Nat.le_of_ble_eq_true rfl, Nat.le_of_ble_eq_true rfl⟩ [] (by decide) rfl hf (fun l x1 h => ctX4_isTrimming l d v1 x1 h) (fun _ => rfl) (fun _ => rfl) (fun x1 hnx1 hf => ?_)
  refine g_if_eq (tgt := 18) (pc' := 7) X dX4_store_4 (by decide) rfl hf (fun hf => ?_) (fun hf => ?_)
  · refine g_iconst (v := -1) (pc' := 19) X dX4_store_18 rfl (by decide) ?_
    cases hf
    exact hR _ _ dX4_store_19 rfl
  · refine g_aload_n (pc' := 8) X dX4_store_7 rfl rfl rfl ?_
    refine g_get (pc' := 11) X fl_X4_26 dX4_store_8 rfl 0 rfl rfl ?_
    refine g_iload_n (pc' := 12) X dX4_store_11 rfl rfl rfl ?_
    refine g_callVi0 (pc' := 15) (As := [.int v1]) (b := (a 14)) (st := []) (w2 := fun x2 => [oX4 a s_saidOn s_saidOff s_saidCount, oX3 (a 14) (a 15), ai d (a 15) 42 s_now_cells]) X lk_X4_123 dX4_store_12 rfl rfl rfl (Nat.le_of_ble_eq_true rfl) ⟨Nat.le_of_ble_eq_true rfl, Nat.le_of_ble_eq_true rfl, Nat.le_of_ble_eq_true rfl, Nat.le_of_ble_eq_true rfl⟩ rfl [1, 2] (by decide) rfl hf (fun l x2 h => ctX3_inStore l d (a 14) (a 15) s_now_cells v1 x2 h) (fun _ => rfl) (fun _ => rfl) (fun x2 hnx2 hf => ?_)
    refine g_goto (tgt := 19) X dX4_store_15 (by decide) ?_
    cases hf
    exact hR _ _ dX4_store_19 rfl
-- X4_wind
def fX4_wind (s_range_windsTold : Int32) (s_range_winds : Nat → Int32) (s_now_cells : Nat → Int32) (v1 : Int32) : Option (Int32) :=
  if v1 < 0 then
    some (-1 : Int32)
  else
    if v1 ≤ (99 : Int32) then
      (fX3_yearNow s_now_cells).bind fun x1 =>
      (fX1_windIn s_range_windsTold s_range_winds (x1 + v1)).bind fun x2 =>
      some x2
    else
      some (-1 : Int32)
set_option maxHeartbeats 4000000 in
set_option maxRecDepth 100000 in
theorem ctX4_wind (l : Launch) (d : sx_D) (a : Nat → Nat) (s_saidOn : Int32) (s_saidOff : Int32) (s_saidCount : Int32) (s_range_peaks : Int32) (s_range_windsTold : Int32) (s_range_winds : Nat → Int32) (s_now_cells : Nat → Int32) (v1 : Int32) (r : Int32) (hf : fX4_wind s_range_windsTold s_range_winds s_now_cells v1 = some r) : sx_I l d yX4_wind cX4_wind 2 .int 1 [.ref (a 0), .int v1] [oX4 a s_saidOn s_saidOff s_saidCount, oX1 (a 10) (a 11) (a 12) (a 13) s_range_peaks s_range_windsTold, ai d (a 13) 12 s_range_winds, oX3 (a 14) (a 15), ai d (a 15) 42 s_now_cells] [oX4 a s_saidOn s_saidOff s_saidCount, oX1 (a 10) (a 11) (a 12) (a 13) s_range_peaks s_range_windsTold, ai d (a 13) 12 s_range_winds, oX3 (a 14) (a 15), ai d (a 15) 42 s_now_cells] r := by
  refine sx_I.intro (lv0 := [some (.ref (a 0)), some (.int v1)]) (by decide +kernel) (Nat.le_of_ble_eq_true rfl) rfl ?_
  intro κ X hR
  have X : sx_X d κ cX4_wind 2 RX4 (sx_rm 1) := X
  unfold fX4_wind at hf
  refine g_iload_n (pc' := 1) X dX4_wind_0 rfl rfl rfl ?_
  refine g_if_lt (tgt := 10) (pc' := 4) X dX4_wind_1 (by decide) rfl hf (fun hf => ?_) (fun hf => ?_)
  · refine g_iconst (v := -1) (pc' := 11) X dX4_wind_10 rfl (by decide) ?_
    cases hf
    exact hR _ _ dX4_wind_11 rfl
  · refine g_iload_n (pc' := 5) X dX4_wind_4 rfl rfl rfl ?_
    refine g_bipush (v := 99) (pc' := 7) X dX4_wind_5 rfl (by decide) ?_
    refine g_icmp_le (tgt := 12) (pc' := 10) X dX4_wind_7 (by decide) rfl hf (fun hf => ?_) (fun hf => ?_)
    · refine g_aload_n (pc' := 13) X dX4_wind_12 rfl rfl rfl ?_
      refine g_get (pc' := 16) X fl_X4_19 dX4_wind_13 rfl 0 rfl rfl ?_
      refine g_aload_n (pc' := 17) X dX4_wind_16 rfl rfl rfl ?_
      refine g_get (pc' := 20) X fl_X4_26 dX4_wind_17 rfl 0 rfl rfl ?_
      refine g_callVi0 (pc' := 23) (As := []) (b := (a 14)) (st := [.ref (a 10)]) (w2 := fun x1 => [oX4 a s_saidOn s_saidOff s_saidCount, oX1 (a 10) (a 11) (a 12) (a 13) s_range_peaks s_range_windsTold, ai d (a 13) 12 s_range_winds, oX3 (a 14) (a 15), ai d (a 15) 42 s_now_cells]) X lk_X4_100 dX4_wind_20 rfl rfl rfl (Nat.le_of_ble_eq_true rfl) ⟨Nat.le_of_ble_eq_true rfl, Nat.le_of_ble_eq_true rfl, Nat.le_of_ble_eq_true rfl, Nat.le_of_ble_eq_true rfl⟩ rfl [3, 4] (by decide) rfl hf (fun l x1 h => ctX3_yearNow l d (a 14) (a 15) s_now_cells x1 h) (fun _ => rfl) (fun _ => rfl) (fun x1 hnx1 hf => ?_)
      refine g_iload_n (pc' := 24) X dX4_wind_23 rfl rfl rfl ?_
      refine g_iadd (pc' := 25) X dX4_wind_24 rfl ?_
      refine g_callVi0 (pc' := 28) (As := [.int (x1 + v1)]) (b := (a 10)) (st := []) (w2 := fun x2 => [oX4 a s_saidOn s_saidOff s_saidCount, oX1 (a 10) (a 11) (a 12) (a 13) s_range_peaks s_range_windsTold, ai d (a 13) 12 s_range_winds, oX3 (a 14) (a 15), ai d (a 15) 42 s_now_cells]) X lk_X4_103 dX4_wind_25 rfl rfl rfl (Nat.le_of_ble_eq_true rfl) ⟨Nat.le_of_ble_eq_true rfl, Nat.le_of_ble_eq_true rfl, Nat.le_of_ble_eq_true rfl, Nat.le_of_ble_eq_true rfl⟩ rfl [1, 2] (by decide) rfl hf (fun l x2 h => ctX1_windIn l d (a 10) (a 11) (a 12) (a 13) s_range_peaks s_range_windsTold s_range_winds (x1 + v1) x2 h) (fun _ => rfl) (fun _ => rfl) (fun x2 hnx2 hf => ?_)
      cases hf
      exact hR _ _ dX4_wind_28 rfl
    · refine g_iconst (v := -1) (pc' := 11) X dX4_wind_10 rfl (by decide) ?_
      cases hf
      exact hR _ _ dX4_wind_11 rfl
-- X4_put
def fX4_put (s_range_peaks : Int32) (s_now_cells : Nat → Int32) (s_undoable_most : Int32) (s_undoable_held : Int32) (s_undoable_next : Int32) (s_undoable_cells : Nat → Int32) (v1 : Int32) (v2 : Int32) (v3 : Int32) : Option (Int32 × (Nat → Int32) × Int32 × Int32 × (Nat → Int32)) :=
  (fX4_isPlace s_range_peaks v1 v2).bind fun x1 =>
  if x1 = 0 then
    some ((-1 : Int32), s_now_cells, s_undoable_held, s_undoable_next, s_undoable_cells)
  else
    (fX4_isPins v3).bind fun x2 =>
    if x2 = 0 then
      some ((-1 : Int32), s_now_cells, s_undoable_held, s_undoable_next, s_undoable_cells)
    else
      (fX3_canPut s_now_cells v1 v2).bind fun x3 =>
      if x3 = 0 then
        some ((-2 : Int32), s_now_cells, s_undoable_held, s_undoable_next, s_undoable_cells)
      else
        (fX0_layBy 336 s_undoable_most s_undoable_held s_undoable_next s_undoable_cells s_now_cells).bind fun (o4, o5, o6) =>
        (fX3_putOn s_now_cells v1 v2 v3).bind fun o7 =>
        (fX3_looksOf o7 v1).bind fun x8 =>
        some (x8, o7, o4, o5, o6)
set_option maxHeartbeats 4000000 in
set_option maxRecDepth 100000 in
theorem ctX4_put (l : Launch) (d : sx_D) (a : Nat → Nat) (s_saidOn : Int32) (s_saidOff : Int32) (s_saidCount : Int32) (s_range_peaks : Int32) (s_range_windsTold : Int32) (s_now_cells : Nat → Int32) (s_undoable_most : Int32) (s_undoable_held : Int32) (s_undoable_next : Int32) (s_undoable_cells : Nat → Int32) (v1 : Int32) (v2 : Int32) (v3 : Int32) (r : Int32) (ro1 : Nat → Int32) (ro2 : Int32) (ro3 : Int32) (ro4 : Nat → Int32) (hf : fX4_put s_range_peaks s_now_cells s_undoable_most s_undoable_held s_undoable_next s_undoable_cells v1 v2 v3 = some (r, ro1, ro2, ro3, ro4)) : sx_I l d yX4_put cX4_put 4 .int 3 [.ref (a 0), .int v1, .int v2, .int v3] [oX4 a s_saidOn s_saidOff s_saidCount, oX1 (a 10) (a 11) (a 12) (a 13) s_range_peaks s_range_windsTold, oX3 (a 14) (a 15), ai d (a 15) 42 s_now_cells, oX0 (a 18) s_undoable_most (a 19) s_undoable_held s_undoable_next, ai d (a 19) 336 s_undoable_cells] [oX4 a s_saidOn s_saidOff s_saidCount, oX1 (a 10) (a 11) (a 12) (a 13) s_range_peaks s_range_windsTold, oX3 (a 14) (a 15), ai d (a 15) 42 ro1, oX0 (a 18) s_undoable_most (a 19) ro2 ro3, ai d (a 19) 336 ro4] r := by
  refine sx_I.intro (lv0 := [some (.ref (a 0)), some (.int v1), some (.int v2), some (.int v3)]) (by decide +kernel) (Nat.le_of_ble_eq_true rfl) rfl ?_
  intro κ X hR
  have X : sx_X d κ cX4_put 4 RX4 (sx_rm 3) := X
  unfold fX4_put at hf
  refine g_aload_n (pc' := 1) X dX4_put_0 rfl rfl rfl ?_
  refine g_iload_n (pc' := 2) X dX4_put_1 rfl rfl rfl ?_
  refine g_iload_n (pc' := 3) X dX4_put_2 rfl rfl rfl ?_
  refine g_callVi0 (pc' := 6) (As := [.int v1, .int v2]) (b := (a 0)) (st := []) (w2 := fun x1 => [oX4 a s_saidOn s_saidOff s_saidCount, oX1 (a 10) (a 11) (a 12) (a 13) s_range_peaks s_range_windsTold, oX3 (a 14) (a 15), ai d (a 15) 42 s_now_cells, oX0 (a 18) s_undoable_most (a 19) s_undoable_held s_undoable_next, ai d (a 19) 336 s_undoable_cells]) X lk_X4_113 dX4_put_3 rfl rfl rfl (Nat.le_of_ble_eq_true rfl) ⟨Nat.le_of_ble_eq_true rfl, Nat.le_of_ble_eq_true rfl, Nat.le_of_ble_eq_true rfl, Nat.le_of_ble_eq_true rfl⟩ rfl [0, 1] (by decide) rfl hf (fun l x1 h => ctX4_isPlace l d a s_saidOn s_saidOff s_saidCount s_range_peaks s_range_windsTold v1 v2 x1 h) (fun _ => rfl) (fun _ => rfl) (fun x1 hnx1 hf => ?_)
  refine g_if_eq (tgt := 16) (pc' := 9) X dX4_put_6 (by decide) rfl hf (fun hf => ?_) (fun hf => ?_)
  · refine g_iconst (v := -1) (pc' := 17) X dX4_put_16 rfl (by decide) ?_
    cases hf
    exact hR _ _ dX4_put_17 rfl
  · refine g_iload_n (pc' := 10) X dX4_put_9 rfl rfl rfl ?_
    refine g_callSi0 (pc' := 13) (As := [.int v3]) (st := []) (w2 := fun x2 => [oX4 a s_saidOn s_saidOff s_saidCount, oX1 (a 10) (a 11) (a 12) (a 13) s_range_peaks s_range_windsTold, oX3 (a 14) (a 15), ai d (a 15) 42 s_now_cells, oX0 (a 18) s_undoable_most (a 19) s_undoable_held s_undoable_next, ai d (a 19) 336 s_undoable_cells]) X lk_X4_126 dX4_put_10 rfl rfl rfl (Nat.le_of_ble_eq_true rfl) ⟨Nat.le_of_ble_eq_true rfl, Nat.le_of_ble_eq_true rfl, Nat.le_of_ble_eq_true rfl, Nat.le_of_ble_eq_true rfl⟩ [] (by decide) rfl hf (fun l x2 h => ctX4_isPins l d v3 x2 h) (fun _ => rfl) (fun _ => rfl) (fun x2 hnx2 hf => ?_)
    refine g_if_ne (tgt := 18) (pc' := 16) X dX4_put_13 (by decide) rfl hf (fun hf => ?_) (fun hf => ?_)
    · refine g_aload_n (pc' := 19) X dX4_put_18 rfl rfl rfl ?_
      refine g_get (pc' := 22) X fl_X4_26 dX4_put_19 rfl 0 rfl rfl ?_
      refine g_iload_n (pc' := 23) X dX4_put_22 rfl rfl rfl ?_
      refine g_iload_n (pc' := 24) X dX4_put_23 rfl rfl rfl ?_
      refine g_callVi0 (pc' := 27) (As := [.int v1, .int v2]) (b := (a 14)) (st := []) (w2 := fun x3 => [oX4 a s_saidOn s_saidOff s_saidCount, oX1 (a 10) (a 11) (a 12) (a 13) s_range_peaks s_range_windsTold, oX3 (a 14) (a 15), ai d (a 15) 42 s_now_cells, oX0 (a 18) s_undoable_most (a 19) s_undoable_held s_undoable_next, ai d (a 19) 336 s_undoable_cells]) X lk_X4_129 dX4_put_24 rfl rfl rfl (Nat.le_of_ble_eq_true rfl) ⟨Nat.le_of_ble_eq_true rfl, Nat.le_of_ble_eq_true rfl, Nat.le_of_ble_eq_true rfl, Nat.le_of_ble_eq_true rfl⟩ rfl [2, 3] (by decide) rfl hf (fun l x3 h => ctX3_canPut l d (a 14) (a 15) s_now_cells v1 v2 x3 h) (fun _ => rfl) (fun _ => rfl) (fun x3 hnx3 hf => ?_)
      refine g_if_ne (tgt := 33) (pc' := 30) X dX4_put_27 (by decide) rfl hf (fun hf => ?_) (fun hf => ?_)
      · refine g_aload_n (pc' := 34) X dX4_put_33 rfl rfl rfl ?_
        refine g_get (pc' := 37) X fl_X4_38 dX4_put_34 rfl 0 rfl rfl ?_
        refine g_aload_n (pc' := 38) X dX4_put_37 rfl rfl rfl ?_
        refine g_get (pc' := 41) X fl_X4_26 dX4_put_38 rfl 0 rfl rfl ?_
        refine g_callVv3 (pc' := 44) (As := [.ref (a 14)]) (b := (a 18)) (st := []) (w2 := fun o4 o5 o6 => [oX4 a s_saidOn s_saidOff s_saidCount, oX1 (a 10) (a 11) (a 12) (a 13) s_range_peaks s_range_windsTold, oX3 (a 14) (a 15), ai d (a 15) 42 s_now_cells, oX0 (a 18) s_undoable_most (a 19) o4 o5, ai d (a 19) 336 o6]) X lk_X4_132 dX4_put_41 rfl rfl rfl (Nat.le_of_ble_eq_true rfl) ⟨Nat.le_of_ble_eq_true rfl, Nat.le_of_ble_eq_true rfl, Nat.le_of_ble_eq_true rfl, Nat.le_of_ble_eq_true rfl⟩ rfl [4, 5, 2, 3] (by decide) rfl hf (fun l o4 o5 o6 h => ctX0_layBy l d (a 18) (a 19) (a 14) (a 15) 336 s_undoable_most s_undoable_held s_undoable_next s_undoable_cells s_now_cells o4 o5 o6 h) (fun _ _ _ => rfl) (fun _ _ _ => rfl) (fun o4 o5 o6 hf => ?_)
        refine g_aload_n (pc' := 45) X dX4_put_44 rfl rfl rfl ?_
        refine g_get (pc' := 48) X fl_X4_26 dX4_put_45 rfl 0 rfl rfl ?_
        refine g_iload_n (pc' := 49) X dX4_put_48 rfl rfl rfl ?_
        refine g_iload_n (pc' := 50) X dX4_put_49 rfl rfl rfl ?_
        refine g_iload_n (pc' := 51) X dX4_put_50 rfl rfl rfl ?_
        refine g_callVv1 (pc' := 54) (As := [.int v1, .int v2, .int v3]) (b := (a 14)) (st := []) (w2 := fun o7 => [oX4 a s_saidOn s_saidOff s_saidCount, oX1 (a 10) (a 11) (a 12) (a 13) s_range_peaks s_range_windsTold, oX3 (a 14) (a 15), ai d (a 15) 42 o7, oX0 (a 18) s_undoable_most (a 19) o4 o5, ai d (a 19) 336 o6]) X lk_X4_136 dX4_put_51 rfl rfl rfl (Nat.le_of_ble_eq_true rfl) ⟨Nat.le_of_ble_eq_true rfl, Nat.le_of_ble_eq_true rfl, Nat.le_of_ble_eq_true rfl, Nat.le_of_ble_eq_true rfl⟩ rfl [2, 3] (by decide) rfl hf (fun l o7 h => ctX3_putOn l d (a 14) (a 15) s_now_cells v1 v2 v3 o7 h) (fun _ => rfl) (fun _ => rfl) (fun o7 hf => ?_)
        refine g_aload_n (pc' := 55) X dX4_put_54 rfl rfl rfl ?_
        refine g_get (pc' := 58) X fl_X4_26 dX4_put_55 rfl 0 rfl rfl ?_
        refine g_iload_n (pc' := 59) X dX4_put_58 rfl rfl rfl ?_
        refine g_callVi0 (pc' := 62) (As := [.int v1]) (b := (a 14)) (st := []) (w2 := fun x8 => [oX4 a s_saidOn s_saidOff s_saidCount, oX1 (a 10) (a 11) (a 12) (a 13) s_range_peaks s_range_windsTold, oX3 (a 14) (a 15), ai d (a 15) 42 o7, oX0 (a 18) s_undoable_most (a 19) o4 o5, ai d (a 19) 336 o6]) X lk_X4_94 dX4_put_59 rfl rfl rfl (Nat.le_of_ble_eq_true rfl) ⟨Nat.le_of_ble_eq_true rfl, Nat.le_of_ble_eq_true rfl, Nat.le_of_ble_eq_true rfl, Nat.le_of_ble_eq_true rfl⟩ rfl [2, 3] (by decide) rfl hf (fun l x8 h => ctX3_looksOf l d (a 14) (a 15) o7 v1 x8 h) (fun _ => rfl) (fun _ => rfl) (fun x8 hnx8 hf => ?_)
        cases hf
        exact hR _ _ dX4_put_62 rfl
      · refine g_bipush (v := -2) (pc' := 32) X dX4_put_30 rfl (by decide) ?_
        cases hf
        exact hR _ _ dX4_put_32 rfl
    · refine g_iconst (v := -1) (pc' := 17) X dX4_put_16 rfl (by decide) ?_
      cases hf
      exact hR _ _ dX4_put_17 rfl
-- X4_take
def fX4_take (s_range_peaks : Int32) (s_now_cells : Nat → Int32) (s_undoable_most : Int32) (s_undoable_held : Int32) (s_undoable_next : Int32) (s_undoable_cells : Nat → Int32) (v1 : Int32) (v2 : Int32) : Option (Int32 × (Nat → Int32) × Int32 × Int32 × (Nat → Int32)) :=
  (fX4_isPlace s_range_peaks v1 v2).bind fun x1 =>
  if x1 = 0 then
    some ((-1 : Int32), s_now_cells, s_undoable_held, s_undoable_next, s_undoable_cells)
  else
    (fX3_isOn s_now_cells v1 v2).bind fun x2 =>
    if x2 = 0 then
      some ((-2 : Int32), s_now_cells, s_undoable_held, s_undoable_next, s_undoable_cells)
    else
      (fX0_layBy 336 s_undoable_most s_undoable_held s_undoable_next s_undoable_cells s_now_cells).bind fun (o3, o4, o5) =>
      (fX3_takeOff s_now_cells v1 v2).bind fun o6 =>
      (fX3_looksOf o6 v1).bind fun x7 =>
      some (x7, o6, o3, o4, o5)
set_option maxHeartbeats 4000000 in
set_option maxRecDepth 100000 in
theorem ctX4_take (l : Launch) (d : sx_D) (a : Nat → Nat) (s_saidOn : Int32) (s_saidOff : Int32) (s_saidCount : Int32) (s_range_peaks : Int32) (s_range_windsTold : Int32) (s_now_cells : Nat → Int32) (s_undoable_most : Int32) (s_undoable_held : Int32) (s_undoable_next : Int32) (s_undoable_cells : Nat → Int32) (v1 : Int32) (v2 : Int32) (r : Int32) (ro1 : Nat → Int32) (ro2 : Int32) (ro3 : Int32) (ro4 : Nat → Int32) (hf : fX4_take s_range_peaks s_now_cells s_undoable_most s_undoable_held s_undoable_next s_undoable_cells v1 v2 = some (r, ro1, ro2, ro3, ro4)) : sx_I l d yX4_take cX4_take 3 .int 3 [.ref (a 0), .int v1, .int v2] [oX4 a s_saidOn s_saidOff s_saidCount, oX1 (a 10) (a 11) (a 12) (a 13) s_range_peaks s_range_windsTold, oX3 (a 14) (a 15), ai d (a 15) 42 s_now_cells, oX0 (a 18) s_undoable_most (a 19) s_undoable_held s_undoable_next, ai d (a 19) 336 s_undoable_cells] [oX4 a s_saidOn s_saidOff s_saidCount, oX1 (a 10) (a 11) (a 12) (a 13) s_range_peaks s_range_windsTold, oX3 (a 14) (a 15), ai d (a 15) 42 ro1, oX0 (a 18) s_undoable_most (a 19) ro2 ro3, ai d (a 19) 336 ro4] r := by
  refine sx_I.intro (lv0 := [some (.ref (a 0)), some (.int v1), some (.int v2)]) (by decide +kernel) (Nat.le_of_ble_eq_true rfl) rfl ?_
  intro κ X hR
  have X : sx_X d κ cX4_take 3 RX4 (sx_rm 3) := X
  unfold fX4_take at hf
  refine g_aload_n (pc' := 1) X dX4_take_0 rfl rfl rfl ?_
  refine g_iload_n (pc' := 2) X dX4_take_1 rfl rfl rfl ?_
  refine g_iload_n (pc' := 3) X dX4_take_2 rfl rfl rfl ?_
  refine g_callVi0 (pc' := 6) (As := [.int v1, .int v2]) (b := (a 0)) (st := []) (w2 := fun x1 => [oX4 a s_saidOn s_saidOff s_saidCount, oX1 (a 10) (a 11) (a 12) (a 13) s_range_peaks s_range_windsTold, oX3 (a 14) (a 15), ai d (a 15) 42 s_now_cells, oX0 (a 18) s_undoable_most (a 19) s_undoable_held s_undoable_next, ai d (a 19) 336 s_undoable_cells]) X lk_X4_113 dX4_take_3 rfl rfl rfl (Nat.le_of_ble_eq_true rfl) ⟨Nat.le_of_ble_eq_true rfl, Nat.le_of_ble_eq_true rfl, Nat.le_of_ble_eq_true rfl, Nat.le_of_ble_eq_true rfl⟩ rfl [0, 1] (by decide) rfl hf (fun l x1 h => ctX4_isPlace l d a s_saidOn s_saidOff s_saidCount s_range_peaks s_range_windsTold v1 v2 x1 h) (fun _ => rfl) (fun _ => rfl) (fun x1 hnx1 hf => ?_)
  refine g_if_ne (tgt := 11) (pc' := 9) X dX4_take_6 (by decide) rfl hf (fun hf => ?_) (fun hf => ?_)
  · refine g_aload_n (pc' := 12) X dX4_take_11 rfl rfl rfl ?_
    refine g_get (pc' := 15) X fl_X4_26 dX4_take_12 rfl 0 rfl rfl ?_
    refine g_iload_n (pc' := 16) X dX4_take_15 rfl rfl rfl ?_
    refine g_iload_n (pc' := 17) X dX4_take_16 rfl rfl rfl ?_
    refine g_callVi0 (pc' := 20) (As := [.int v1, .int v2]) (b := (a 14)) (st := []) (w2 := fun x2 => [oX4 a s_saidOn s_saidOff s_saidCount, oX1 (a 10) (a 11) (a 12) (a 13) s_range_peaks s_range_windsTold, oX3 (a 14) (a 15), ai d (a 15) 42 s_now_cells, oX0 (a 18) s_undoable_most (a 19) s_undoable_held s_undoable_next, ai d (a 19) 336 s_undoable_cells]) X lk_X4_140 dX4_take_17 rfl rfl rfl (Nat.le_of_ble_eq_true rfl) ⟨Nat.le_of_ble_eq_true rfl, Nat.le_of_ble_eq_true rfl, Nat.le_of_ble_eq_true rfl, Nat.le_of_ble_eq_true rfl⟩ rfl [2, 3] (by decide) rfl hf (fun l x2 h => ctX3_isOn l d (a 14) (a 15) s_now_cells v1 v2 x2 h) (fun _ => rfl) (fun _ => rfl) (fun x2 hnx2 hf => ?_)
    refine g_if_ne (tgt := 26) (pc' := 23) X dX4_take_20 (by decide) rfl hf (fun hf => ?_) (fun hf => ?_)
    · refine g_aload_n (pc' := 27) X dX4_take_26 rfl rfl rfl ?_
      refine g_get (pc' := 30) X fl_X4_38 dX4_take_27 rfl 0 rfl rfl ?_
      refine g_aload_n (pc' := 31) X dX4_take_30 rfl rfl rfl ?_
      refine g_get (pc' := 34) X fl_X4_26 dX4_take_31 rfl 0 rfl rfl ?_
      refine g_callVv3 (pc' := 37) (As := [.ref (a 14)]) (b := (a 18)) (st := []) (w2 := fun o3 o4 o5 => [oX4 a s_saidOn s_saidOff s_saidCount, oX1 (a 10) (a 11) (a 12) (a 13) s_range_peaks s_range_windsTold, oX3 (a 14) (a 15), ai d (a 15) 42 s_now_cells, oX0 (a 18) s_undoable_most (a 19) o3 o4, ai d (a 19) 336 o5]) X lk_X4_132 dX4_take_34 rfl rfl rfl (Nat.le_of_ble_eq_true rfl) ⟨Nat.le_of_ble_eq_true rfl, Nat.le_of_ble_eq_true rfl, Nat.le_of_ble_eq_true rfl, Nat.le_of_ble_eq_true rfl⟩ rfl [4, 5, 2, 3] (by decide) rfl hf (fun l o3 o4 o5 h => ctX0_layBy l d (a 18) (a 19) (a 14) (a 15) 336 s_undoable_most s_undoable_held s_undoable_next s_undoable_cells s_now_cells o3 o4 o5 h) (fun _ _ _ => rfl) (fun _ _ _ => rfl) (fun o3 o4 o5 hf => ?_)
      refine g_aload_n (pc' := 38) X dX4_take_37 rfl rfl rfl ?_
      refine g_get (pc' := 41) X fl_X4_26 dX4_take_38 rfl 0 rfl rfl ?_
      refine g_iload_n (pc' := 42) X dX4_take_41 rfl rfl rfl ?_
      refine g_iload_n (pc' := 43) X dX4_take_42 rfl rfl rfl ?_
      refine g_callVv1 (pc' := 46) (As := [.int v1, .int v2]) (b := (a 14)) (st := []) (w2 := fun o6 => [oX4 a s_saidOn s_saidOff s_saidCount, oX1 (a 10) (a 11) (a 12) (a 13) s_range_peaks s_range_windsTold, oX3 (a 14) (a 15), ai d (a 15) 42 o6, oX0 (a 18) s_undoable_most (a 19) o3 o4, ai d (a 19) 336 o5]) X lk_X4_143 dX4_take_43 rfl rfl rfl (Nat.le_of_ble_eq_true rfl) ⟨Nat.le_of_ble_eq_true rfl, Nat.le_of_ble_eq_true rfl, Nat.le_of_ble_eq_true rfl, Nat.le_of_ble_eq_true rfl⟩ rfl [2, 3] (by decide) rfl hf (fun l o6 h => ctX3_takeOff l d (a 14) (a 15) s_now_cells v1 v2 o6 h) (fun _ => rfl) (fun _ => rfl) (fun o6 hf => ?_)
      refine g_aload_n (pc' := 47) X dX4_take_46 rfl rfl rfl ?_
      refine g_get (pc' := 50) X fl_X4_26 dX4_take_47 rfl 0 rfl rfl ?_
      refine g_iload_n (pc' := 51) X dX4_take_50 rfl rfl rfl ?_
      refine g_callVi0 (pc' := 54) (As := [.int v1]) (b := (a 14)) (st := []) (w2 := fun x7 => [oX4 a s_saidOn s_saidOff s_saidCount, oX1 (a 10) (a 11) (a 12) (a 13) s_range_peaks s_range_windsTold, oX3 (a 14) (a 15), ai d (a 15) 42 o6, oX0 (a 18) s_undoable_most (a 19) o3 o4, ai d (a 19) 336 o5]) X lk_X4_94 dX4_take_51 rfl rfl rfl (Nat.le_of_ble_eq_true rfl) ⟨Nat.le_of_ble_eq_true rfl, Nat.le_of_ble_eq_true rfl, Nat.le_of_ble_eq_true rfl, Nat.le_of_ble_eq_true rfl⟩ rfl [2, 3] (by decide) rfl hf (fun l x7 h => ctX3_looksOf l d (a 14) (a 15) o6 v1 x7 h) (fun _ => rfl) (fun _ => rfl) (fun x7 hnx7 hf => ?_)
      cases hf
      exact hR _ _ dX4_take_54 rfl
    · refine g_bipush (v := -2) (pc' := 25) X dX4_take_23 rfl (by decide) ?_
      cases hf
      exact hR _ _ dX4_take_25 rfl
  · refine g_iconst (v := -1) (pc' := 10) X dX4_take_9 rfl (by decide) ?_
    cases hf
    exact hR _ _ dX4_take_10 rfl
-- X4_pin
def fX4_pin (s_range_peaks : Int32) (s_now_cells : Nat → Int32) (s_undoable_most : Int32) (s_undoable_held : Int32) (s_undoable_next : Int32) (s_undoable_cells : Nat → Int32) (v1 : Int32) (v2 : Int32) (v3 : Int32) : Option (Int32 × (Nat → Int32) × Int32 × Int32 × (Nat → Int32)) :=
  (fX4_isPlace s_range_peaks v1 v2).bind fun x1 =>
  if x1 = 0 then
    some ((-1 : Int32), s_now_cells, s_undoable_held, s_undoable_next, s_undoable_cells)
  else
    (fX4_isPins v3).bind fun x2 =>
    if x2 = 0 then
      some ((-1 : Int32), s_now_cells, s_undoable_held, s_undoable_next, s_undoable_cells)
    else
      (fX3_isOn s_now_cells v1 v2).bind fun x3 =>
      if x3 = 0 then
        some ((-2 : Int32), s_now_cells, s_undoable_held, s_undoable_next, s_undoable_cells)
      else
        (fX3_pinsOn s_now_cells v1 v2).bind fun x4 =>
        (fX0_layBy 336 s_undoable_most s_undoable_held s_undoable_next s_undoable_cells s_now_cells).bind fun (o5, o6, o7) =>
        (fX3_setPins s_now_cells v1 v2 v3).bind fun o8 =>
        some (x4, o8, o5, o6, o7)
set_option maxHeartbeats 4000000 in
set_option maxRecDepth 100000 in
theorem ctX4_pin (l : Launch) (d : sx_D) (a : Nat → Nat) (s_saidOn : Int32) (s_saidOff : Int32) (s_saidCount : Int32) (s_range_peaks : Int32) (s_range_windsTold : Int32) (s_now_cells : Nat → Int32) (s_undoable_most : Int32) (s_undoable_held : Int32) (s_undoable_next : Int32) (s_undoable_cells : Nat → Int32) (v1 : Int32) (v2 : Int32) (v3 : Int32) (r : Int32) (ro1 : Nat → Int32) (ro2 : Int32) (ro3 : Int32) (ro4 : Nat → Int32) (hf : fX4_pin s_range_peaks s_now_cells s_undoable_most s_undoable_held s_undoable_next s_undoable_cells v1 v2 v3 = some (r, ro1, ro2, ro3, ro4)) : sx_I l d yX4_pin cX4_pin 5 .int 2 [.ref (a 0), .int v1, .int v2, .int v3] [oX4 a s_saidOn s_saidOff s_saidCount, oX1 (a 10) (a 11) (a 12) (a 13) s_range_peaks s_range_windsTold, oX3 (a 14) (a 15), ai d (a 15) 42 s_now_cells, oX0 (a 18) s_undoable_most (a 19) s_undoable_held s_undoable_next, ai d (a 19) 336 s_undoable_cells] [oX4 a s_saidOn s_saidOff s_saidCount, oX1 (a 10) (a 11) (a 12) (a 13) s_range_peaks s_range_windsTold, oX3 (a 14) (a 15), ai d (a 15) 42 ro1, oX0 (a 18) s_undoable_most (a 19) ro2 ro3, ai d (a 19) 336 ro4] r := by
  refine sx_I.intro (lv0 := [some (.ref (a 0)), some (.int v1), some (.int v2), some (.int v3), none]) (by decide +kernel) (Nat.le_of_ble_eq_true rfl) rfl ?_
  intro κ X hR
  have X : sx_X d κ cX4_pin 5 RX4 (sx_rm 2) := X
  unfold fX4_pin at hf
  refine g_aload_n (pc' := 1) X dX4_pin_0 rfl rfl rfl ?_
  refine g_iload_n (pc' := 2) X dX4_pin_1 rfl rfl rfl ?_
  refine g_iload_n (pc' := 3) X dX4_pin_2 rfl rfl rfl ?_
  refine g_callVi0 (pc' := 6) (As := [.int v1, .int v2]) (b := (a 0)) (st := []) (w2 := fun x1 => [oX4 a s_saidOn s_saidOff s_saidCount, oX1 (a 10) (a 11) (a 12) (a 13) s_range_peaks s_range_windsTold, oX3 (a 14) (a 15), ai d (a 15) 42 s_now_cells, oX0 (a 18) s_undoable_most (a 19) s_undoable_held s_undoable_next, ai d (a 19) 336 s_undoable_cells]) X lk_X4_113 dX4_pin_3 rfl rfl rfl (Nat.le_of_ble_eq_true rfl) ⟨Nat.le_of_ble_eq_true rfl, Nat.le_of_ble_eq_true rfl, Nat.le_of_ble_eq_true rfl, Nat.le_of_ble_eq_true rfl⟩ rfl [0, 1] (by decide) rfl hf (fun l x1 h => ctX4_isPlace l d a s_saidOn s_saidOff s_saidCount s_range_peaks s_range_windsTold v1 v2 x1 h) (fun _ => rfl) (fun _ => rfl) (fun x1 hnx1 hf => ?_)
  refine g_if_eq (tgt := 16) (pc' := 9) X dX4_pin_6 (by decide) rfl hf (fun hf => ?_) (fun hf => ?_)
  · refine g_iconst (v := -1) (pc' := 17) X dX4_pin_16 rfl (by decide) ?_
    cases hf
    exact hR _ _ dX4_pin_17 rfl
  · refine g_iload_n (pc' := 10) X dX4_pin_9 rfl rfl rfl ?_
    refine g_callSi0 (pc' := 13) (As := [.int v3]) (st := []) (w2 := fun x2 => [oX4 a s_saidOn s_saidOff s_saidCount, oX1 (a 10) (a 11) (a 12) (a 13) s_range_peaks s_range_windsTold, oX3 (a 14) (a 15), ai d (a 15) 42 s_now_cells, oX0 (a 18) s_undoable_most (a 19) s_undoable_held s_undoable_next, ai d (a 19) 336 s_undoable_cells]) X lk_X4_126 dX4_pin_10 rfl rfl rfl (Nat.le_of_ble_eq_true rfl) ⟨Nat.le_of_ble_eq_true rfl, Nat.le_of_ble_eq_true rfl, Nat.le_of_ble_eq_true rfl, Nat.le_of_ble_eq_true rfl⟩ [] (by decide) rfl hf (fun l x2 h => ctX4_isPins l d v3 x2 h) (fun _ => rfl) (fun _ => rfl) (fun x2 hnx2 hf => ?_)
    refine g_if_ne (tgt := 18) (pc' := 16) X dX4_pin_13 (by decide) rfl hf (fun hf => ?_) (fun hf => ?_)
    · refine g_aload_n (pc' := 19) X dX4_pin_18 rfl rfl rfl ?_
      refine g_get (pc' := 22) X fl_X4_26 dX4_pin_19 rfl 0 rfl rfl ?_
      refine g_iload_n (pc' := 23) X dX4_pin_22 rfl rfl rfl ?_
      refine g_iload_n (pc' := 24) X dX4_pin_23 rfl rfl rfl ?_
      refine g_callVi0 (pc' := 27) (As := [.int v1, .int v2]) (b := (a 14)) (st := []) (w2 := fun x3 => [oX4 a s_saidOn s_saidOff s_saidCount, oX1 (a 10) (a 11) (a 12) (a 13) s_range_peaks s_range_windsTold, oX3 (a 14) (a 15), ai d (a 15) 42 s_now_cells, oX0 (a 18) s_undoable_most (a 19) s_undoable_held s_undoable_next, ai d (a 19) 336 s_undoable_cells]) X lk_X4_140 dX4_pin_24 rfl rfl rfl (Nat.le_of_ble_eq_true rfl) ⟨Nat.le_of_ble_eq_true rfl, Nat.le_of_ble_eq_true rfl, Nat.le_of_ble_eq_true rfl, Nat.le_of_ble_eq_true rfl⟩ rfl [2, 3] (by decide) rfl hf (fun l x3 h => ctX3_isOn l d (a 14) (a 15) s_now_cells v1 v2 x3 h) (fun _ => rfl) (fun _ => rfl) (fun x3 hnx3 hf => ?_)
      refine g_if_ne (tgt := 33) (pc' := 30) X dX4_pin_27 (by decide) rfl hf (fun hf => ?_) (fun hf => ?_)
      · refine g_aload_n (pc' := 34) X dX4_pin_33 rfl rfl rfl ?_
        refine g_get (pc' := 37) X fl_X4_26 dX4_pin_34 rfl 0 rfl rfl ?_
        refine g_iload_n (pc' := 38) X dX4_pin_37 rfl rfl rfl ?_
        refine g_iload_n (pc' := 39) X dX4_pin_38 rfl rfl rfl ?_
        refine g_callVi0 (pc' := 42) (As := [.int v1, .int v2]) (b := (a 14)) (st := []) (w2 := fun x4 => [oX4 a s_saidOn s_saidOff s_saidCount, oX1 (a 10) (a 11) (a 12) (a 13) s_range_peaks s_range_windsTold, oX3 (a 14) (a 15), ai d (a 15) 42 s_now_cells, oX0 (a 18) s_undoable_most (a 19) s_undoable_held s_undoable_next, ai d (a 19) 336 s_undoable_cells]) X lk_X4_117 dX4_pin_39 rfl rfl rfl (Nat.le_of_ble_eq_true rfl) ⟨Nat.le_of_ble_eq_true rfl, Nat.le_of_ble_eq_true rfl, Nat.le_of_ble_eq_true rfl, Nat.le_of_ble_eq_true rfl⟩ rfl [2, 3] (by decide) rfl hf (fun l x4 h => ctX3_pinsOn l d (a 14) (a 15) s_now_cells v1 v2 x4 h) (fun _ => rfl) (fun _ => rfl) (fun x4 hnx4 hf => ?_)
        refine g_istore (lv' := [some (.ref (a 0)), some (.int v1), some (.int v2), some (.int v3), some (.int x4)]) (pc' := 44) X dX4_pin_42 rfl (by decide) rfl rfl ?_
        refine g_aload_n (pc' := 45) X dX4_pin_44 rfl rfl rfl ?_
        refine g_get (pc' := 48) X fl_X4_38 dX4_pin_45 rfl 0 rfl rfl ?_
        refine g_aload_n (pc' := 49) X dX4_pin_48 rfl rfl rfl ?_
        refine g_get (pc' := 52) X fl_X4_26 dX4_pin_49 rfl 0 rfl rfl ?_
        refine g_callVv3 (pc' := 55) (As := [.ref (a 14)]) (b := (a 18)) (st := []) (w2 := fun o5 o6 o7 => [oX4 a s_saidOn s_saidOff s_saidCount, oX1 (a 10) (a 11) (a 12) (a 13) s_range_peaks s_range_windsTold, oX3 (a 14) (a 15), ai d (a 15) 42 s_now_cells, oX0 (a 18) s_undoable_most (a 19) o5 o6, ai d (a 19) 336 o7]) X lk_X4_132 dX4_pin_52 rfl rfl rfl (Nat.le_of_ble_eq_true rfl) ⟨Nat.le_of_ble_eq_true rfl, Nat.le_of_ble_eq_true rfl, Nat.le_of_ble_eq_true rfl, Nat.le_of_ble_eq_true rfl⟩ rfl [4, 5, 2, 3] (by decide) rfl hf (fun l o5 o6 o7 h => ctX0_layBy l d (a 18) (a 19) (a 14) (a 15) 336 s_undoable_most s_undoable_held s_undoable_next s_undoable_cells s_now_cells o5 o6 o7 h) (fun _ _ _ => rfl) (fun _ _ _ => rfl) (fun o5 o6 o7 hf => ?_)
        refine g_aload_n (pc' := 56) X dX4_pin_55 rfl rfl rfl ?_
        refine g_get (pc' := 59) X fl_X4_26 dX4_pin_56 rfl 0 rfl rfl ?_
        refine g_iload_n (pc' := 60) X dX4_pin_59 rfl rfl rfl ?_
        refine g_iload_n (pc' := 61) X dX4_pin_60 rfl rfl rfl ?_
        refine g_iload_n (pc' := 62) X dX4_pin_61 rfl rfl rfl ?_
        refine g_callVv1 (pc' := 65) (As := [.int v1, .int v2, .int v3]) (b := (a 14)) (st := []) (w2 := fun o8 => [oX4 a s_saidOn s_saidOff s_saidCount, oX1 (a 10) (a 11) (a 12) (a 13) s_range_peaks s_range_windsTold, oX3 (a 14) (a 15), ai d (a 15) 42 o8, oX0 (a 18) s_undoable_most (a 19) o5 o6, ai d (a 19) 336 o7]) X lk_X4_147 dX4_pin_62 rfl rfl rfl (Nat.le_of_ble_eq_true rfl) ⟨Nat.le_of_ble_eq_true rfl, Nat.le_of_ble_eq_true rfl, Nat.le_of_ble_eq_true rfl, Nat.le_of_ble_eq_true rfl⟩ rfl [2, 3] (by decide) rfl hf (fun l o8 h => ctX3_setPins l d (a 14) (a 15) s_now_cells v1 v2 v3 o8 h) (fun _ => rfl) (fun _ => rfl) (fun o8 hf => ?_)
        refine g_iload (pc' := 67) X dX4_pin_65 rfl rfl ?_
        cases hf
        exact hR _ _ dX4_pin_67 rfl
      · refine g_bipush (v := -2) (pc' := 32) X dX4_pin_30 rfl (by decide) ?_
        cases hf
        exact hR _ _ dX4_pin_32 rfl
    · refine g_iconst (v := -1) (pc' := 17) X dX4_pin_16 rfl (by decide) ?_
      cases hf
      exact hR _ _ dX4_pin_17 rfl
-- X4_letYearsGoBy
def bX4_letYearsGoBy_2 (s_range_peaks : Int32) (s_range_windsTold : Int32) (s_range_kinds : Nat → Int32) (s_range_winds : Nat → Int32) (v2 : Int32) : (Int32 × (Nat → Int32)) → Option ((Int32 × (Nat → Int32)) ⊕ ((Nat → Int32))) := fun (v3, s_p1_cells) =>
  if v2 ≤ v3 then
    some (.inr s_p1_cells)
  else
    (fX3_letYearGoBy s_p1_cells s_range_peaks s_range_windsTold s_range_kinds s_range_winds).bind fun o1 =>
    some (.inl (v3 + (1 : Int32), o1))
def fX4_letYearsGoBy (s_range_peaks : Int32) (s_range_windsTold : Int32) (s_range_kinds : Nat → Int32) (s_range_winds : Nat → Int32) (s_p1_cells : Nat → Int32) (v2 : Int32) : Option ((Nat → Int32)) :=
  (sx_it 1000 (bX4_letYearsGoBy_2 s_range_peaks s_range_windsTold s_range_kinds s_range_winds v2) ((0 : Int32), s_p1_cells)).bind fun w3 =>
  some w3
set_option maxHeartbeats 4000000 in
set_option maxRecDepth 100000 in
theorem lX4_letYearsGoBy_2 (d : sx_D) (κ : sx_C) (a : Nat → Nat) (q1 : Nat) (q1_cells : Nat) (s_saidOn : Int32) (s_saidOff : Int32) (s_saidCount : Int32) (s_range_peaks : Int32) (s_range_windsTold : Int32) (s_range_kinds : Nat → Int32) (s_range_winds : Nat → Int32) (v2 : Int32) (X : sx_X d κ cX4_letYearsGoBy 4 RX4 (sx_rm 5)) (y : (Nat → Int32)) (hE21 : ∀ (s_p1_cells : Nat → Int32), s_p1_cells = y → sx_G d κ 4 0 0 21 [none, none, none, none] [] [oX4 a s_saidOn s_saidOff s_saidCount, oX1 (a 10) (a 11) (a 12) (a 13) s_range_peaks s_range_windsTold, ai d (a 11) 6 s_range_kinds, ai d (a 13) 12 s_range_winds, oX3 q1 q1_cells, ai d q1_cells 42 s_p1_cells]) : ∀ (n : Nat) (s : Int32 × (Nat → Int32)), sx_it n (bX4_letYearsGoBy_2 s_range_peaks s_range_windsTold s_range_kinds s_range_winds v2) s = some y → (match s with | (v3, s_p1_cells) => sx_G d κ 4 0 0 2 [some (.ref (a 0)), some (.ref q1), some (.int v2), some (.int v3)] [] [oX4 a s_saidOn s_saidOff s_saidCount, oX1 (a 10) (a 11) (a 12) (a 13) s_range_peaks s_range_windsTold, ai d (a 11) 6 s_range_kinds, ai d (a 13) 12 s_range_winds, oX3 q1 q1_cells, ai d q1_cells 42 s_p1_cells]) := by
  refine sx_it_run (bX4_letYearsGoBy_2 s_range_peaks s_range_windsTold s_range_kinds s_range_winds v2) (fun s => match s with | (v3, s_p1_cells) => sx_G d κ 4 0 0 2 [some (.ref (a 0)), some (.ref q1), some (.int v2), some (.int v3)] [] [oX4 a s_saidOn s_saidOff s_saidCount, oX1 (a 10) (a 11) (a 12) (a 13) s_range_peaks s_range_windsTold, ai d (a 11) 6 s_range_kinds, ai d (a 13) 12 s_range_winds, oX3 q1 q1_cells, ai d q1_cells 42 s_p1_cells]) y ?_
  rintro ⟨v3, s_p1_cells⟩ x hf hb he
  show sx_G d κ 4 0 0 2 [some (.ref (a 0)), some (.ref q1), some (.int v2), some (.int v3)] [] [oX4 a s_saidOn s_saidOff s_saidCount, oX1 (a 10) (a 11) (a 12) (a 13) s_range_peaks s_range_windsTold, ai d (a 11) 6 s_range_kinds, ai d (a 13) 12 s_range_winds, oX3 q1 q1_cells, ai d q1_cells 42 s_p1_cells]
  unfold bX4_letYearsGoBy_2 at hf
  refine g_iload_n (pc' := 3) X dX4_letYearsGoBy_2 rfl rfl rfl ?_
  refine g_iload_n (pc' := 4) X dX4_letYearsGoBy_3 rfl rfl rfl ?_
  refine g_icmp_ge (tgt := 21) (pc' := 7) X dX4_letYearsGoBy_4 (by decide) rfl hf (fun hf => ?_) (fun hf => ?_)
  · exact sx_weak [false, false, false, false] rfl (hE21 _ (sx_ex hf he))
  · refine g_aload_n (pc' := 8) X dX4_letYearsGoBy_7 rfl rfl rfl ?_
    refine g_aload_n (pc' := 9) X dX4_letYearsGoBy_8 rfl rfl rfl ?_
    refine g_get (pc' := 12) X fl_X4_19 dX4_letYearsGoBy_9 rfl 0 rfl rfl ?_
    refine g_callVv1 (pc' := 15) (As := [.ref (a 10)]) (b := q1) (st := []) (w2 := fun o1 => [oX4 a s_saidOn s_saidOff s_saidCount, oX1 (a 10) (a 11) (a 12) (a 13) s_range_peaks s_range_windsTold, ai d (a 11) 6 s_range_kinds, ai d (a 13) 12 s_range_winds, oX3 q1 q1_cells, ai d q1_cells 42 o1]) X lk_X4_179 dX4_letYearsGoBy_12 rfl rfl rfl (Nat.le_of_ble_eq_true rfl) ⟨Nat.le_of_ble_eq_true rfl, Nat.le_of_ble_eq_true rfl, Nat.le_of_ble_eq_true rfl, Nat.le_of_ble_eq_true rfl⟩ rfl [4, 5, 1, 2, 3] (by decide) rfl hf (fun l o1 h => ctX3_letYearGoBy l d q1 q1_cells (a 10) (a 11) (a 12) (a 13) s_p1_cells s_range_peaks s_range_windsTold s_range_kinds s_range_winds o1 h) (fun _ => rfl) (fun _ => rfl) (fun o1 hf => ?_)
    refine g_iinc (v := 1) (lv' := [some (.ref (a 0)), some (.ref q1), some (.int v2), some (.int (v3 + (1 : Int32)))]) (pc' := 18) X dX4_letYearsGoBy_15 rfl rfl (by decide) (by decide) rfl rfl ?_
    refine g_goto (tgt := 2) X dX4_letYearsGoBy_18 (by decide) ?_
    have hk := sx_bk hf hb
    exact sx_weak [true, true, true, true] rfl hk
set_option maxHeartbeats 4000000 in
set_option maxRecDepth 100000 in
theorem ctX4_letYearsGoBy (l : Launch) (d : sx_D) (a : Nat → Nat) (q1 : Nat) (q1_cells : Nat) (s_saidOn : Int32) (s_saidOff : Int32) (s_saidCount : Int32) (s_range_peaks : Int32) (s_range_windsTold : Int32) (s_range_kinds : Nat → Int32) (s_range_winds : Nat → Int32) (s_p1_cells : Nat → Int32) (v2 : Int32) (ro1 : Nat → Int32) (hf : fX4_letYearsGoBy s_range_peaks s_range_windsTold s_range_kinds s_range_winds s_p1_cells v2 = some ro1) : sx_V l d yX4_letYearsGoBy cX4_letYearsGoBy 4 5 [.ref (a 0), .ref q1, .int v2] [oX4 a s_saidOn s_saidOff s_saidCount, oX1 (a 10) (a 11) (a 12) (a 13) s_range_peaks s_range_windsTold, ai d (a 11) 6 s_range_kinds, ai d (a 13) 12 s_range_winds, oX3 q1 q1_cells, ai d q1_cells 42 s_p1_cells] [oX4 a s_saidOn s_saidOff s_saidCount, oX1 (a 10) (a 11) (a 12) (a 13) s_range_peaks s_range_windsTold, ai d (a 11) 6 s_range_kinds, ai d (a 13) 12 s_range_winds, oX3 q1 q1_cells, ai d q1_cells 42 ro1] := by
  refine sx_V.intro (lv0 := [some (.ref (a 0)), some (.ref q1), some (.int v2), none]) (by decide +kernel) (Nat.le_of_ble_eq_true rfl) rfl ?_
  intro κ X hR
  have X : sx_X d κ cX4_letYearsGoBy 4 RX4 (sx_rm 5) := X
  unfold fX4_letYearsGoBy at hf
  refine g_iconst (v := 0) (pc' := 1) X dX4_letYearsGoBy_0 rfl (by decide) ?_
  refine g_istore_n (lv' := [some (.ref (a 0)), some (.ref q1), some (.int v2), some (.int (0 : Int32))]) (pc' := 2) X dX4_letYearsGoBy_1 rfl rfl (by decide) rfl rfl ?_
  obtain ⟨y2, hy2, hf⟩ := sx_bd hf
  refine sx_weak [true, true, true, true] rfl (lX4_letYearsGoBy_2 d κ a q1 q1_cells s_saidOn s_saidOff s_saidCount s_range_peaks s_range_windsTold s_range_kinds s_range_winds v2 X y2 ?_ 1000 ((0 : Int32), s_p1_cells) hy2)
  rintro w3 rfl
  cases hf
  exact hR _ _ dX4_letYearsGoBy_21
-- X4_pass
def fX4_pass (s_range_peaks : Int32) (s_range_windsTold : Int32) (s_range_kinds : Nat → Int32) (s_range_winds : Nat → Int32) (s_now_cells : Nat → Int32) (s_undoable_most : Int32) (s_undoable_held : Int32) (s_undoable_next : Int32) (s_undoable_cells : Nat → Int32) (v1 : Int32) : Option (Int32 × (Nat → Int32) × Int32 × Int32 × (Nat → Int32)) :=
  if v1 < (1 : Int32) then
    some ((-1 : Int32), s_now_cells, s_undoable_held, s_undoable_next, s_undoable_cells)
  else
    if v1 ≤ (20 : Int32) then
      (fX3_yearNow s_now_cells).bind fun x1 =>
      if (x1 + v1) ≤ (999 : Int32) then
        (fX0_layBy 336 s_undoable_most s_undoable_held s_undoable_next s_undoable_cells s_now_cells).bind fun (o2, o3, o4) =>
        (fX4_letYearsGoBy s_range_peaks s_range_windsTold s_range_kinds s_range_winds s_now_cells v1).bind fun o5 =>
        (fX3_yearNow o5).bind fun x6 =>
        some (x6, o5, o2, o3, o4)
      else
        some ((-2 : Int32), s_now_cells, s_undoable_held, s_undoable_next, s_undoable_cells)
    else
      some ((-1 : Int32), s_now_cells, s_undoable_held, s_undoable_next, s_undoable_cells)
set_option maxHeartbeats 4000000 in
set_option maxRecDepth 100000 in
theorem ctX4_pass (l : Launch) (d : sx_D) (a : Nat → Nat) (s_saidOn : Int32) (s_saidOff : Int32) (s_saidCount : Int32) (s_range_peaks : Int32) (s_range_windsTold : Int32) (s_range_kinds : Nat → Int32) (s_range_winds : Nat → Int32) (s_now_cells : Nat → Int32) (s_undoable_most : Int32) (s_undoable_held : Int32) (s_undoable_next : Int32) (s_undoable_cells : Nat → Int32) (v1 : Int32) (r : Int32) (ro1 : Nat → Int32) (ro2 : Int32) (ro3 : Int32) (ro4 : Nat → Int32) (hf : fX4_pass s_range_peaks s_range_windsTold s_range_kinds s_range_winds s_now_cells s_undoable_most s_undoable_held s_undoable_next s_undoable_cells v1 = some (r, ro1, ro2, ro3, ro4)) : sx_I l d yX4_pass cX4_pass 2 .int 6 [.ref (a 0), .int v1] [oX4 a s_saidOn s_saidOff s_saidCount, oX1 (a 10) (a 11) (a 12) (a 13) s_range_peaks s_range_windsTold, ai d (a 11) 6 s_range_kinds, ai d (a 13) 12 s_range_winds, oX3 (a 14) (a 15), ai d (a 15) 42 s_now_cells, oX0 (a 18) s_undoable_most (a 19) s_undoable_held s_undoable_next, ai d (a 19) 336 s_undoable_cells] [oX4 a s_saidOn s_saidOff s_saidCount, oX1 (a 10) (a 11) (a 12) (a 13) s_range_peaks s_range_windsTold, ai d (a 11) 6 s_range_kinds, ai d (a 13) 12 s_range_winds, oX3 (a 14) (a 15), ai d (a 15) 42 ro1, oX0 (a 18) s_undoable_most (a 19) ro2 ro3, ai d (a 19) 336 ro4] r := by
  refine sx_I.intro (lv0 := [some (.ref (a 0)), some (.int v1)]) (by decide +kernel) (Nat.le_of_ble_eq_true rfl) rfl ?_
  intro κ X hR
  have X : sx_X d κ cX4_pass 2 RX4 (sx_rm 6) := X
  unfold fX4_pass at hf
  refine g_iload_n (pc' := 1) X dX4_pass_0 rfl rfl rfl ?_
  refine g_iconst (v := 1) (pc' := 2) X dX4_pass_1 rfl (by decide) ?_
  refine g_icmp_lt (tgt := 11) (pc' := 5) X dX4_pass_2 (by decide) rfl hf (fun hf => ?_) (fun hf => ?_)
  · refine g_iconst (v := -1) (pc' := 12) X dX4_pass_11 rfl (by decide) ?_
    cases hf
    exact hR _ _ dX4_pass_12 rfl
  · refine g_iload_n (pc' := 6) X dX4_pass_5 rfl rfl rfl ?_
    refine g_bipush (v := 20) (pc' := 8) X dX4_pass_6 rfl (by decide) ?_
    refine g_icmp_le (tgt := 13) (pc' := 11) X dX4_pass_8 (by decide) rfl hf (fun hf => ?_) (fun hf => ?_)
    · refine g_aload_n (pc' := 14) X dX4_pass_13 rfl rfl rfl ?_
      refine g_get (pc' := 17) X fl_X4_26 dX4_pass_14 rfl 0 rfl rfl ?_
      refine g_callVi0 (pc' := 20) (As := []) (b := (a 14)) (st := []) (w2 := fun x1 => [oX4 a s_saidOn s_saidOff s_saidCount, oX1 (a 10) (a 11) (a 12) (a 13) s_range_peaks s_range_windsTold, ai d (a 11) 6 s_range_kinds, ai d (a 13) 12 s_range_winds, oX3 (a 14) (a 15), ai d (a 15) 42 s_now_cells, oX0 (a 18) s_undoable_most (a 19) s_undoable_held s_undoable_next, ai d (a 19) 336 s_undoable_cells]) X lk_X4_100 dX4_pass_17 rfl rfl rfl (Nat.le_of_ble_eq_true rfl) ⟨Nat.le_of_ble_eq_true rfl, Nat.le_of_ble_eq_true rfl, Nat.le_of_ble_eq_true rfl, Nat.le_of_ble_eq_true rfl⟩ rfl [4, 5] (by decide) rfl hf (fun l x1 h => ctX3_yearNow l d (a 14) (a 15) s_now_cells x1 h) (fun _ => rfl) (fun _ => rfl) (fun x1 hnx1 hf => ?_)
      refine g_iload_n (pc' := 21) X dX4_pass_20 rfl rfl rfl ?_
      refine g_iadd (pc' := 22) X dX4_pass_21 rfl ?_
      refine g_sipush (v := 999) (pc' := 25) X dX4_pass_22 rfl (by decide) ?_
      refine g_icmp_le (tgt := 31) (pc' := 28) X dX4_pass_25 (by decide) rfl hf (fun hf => ?_) (fun hf => ?_)
      · refine g_aload_n (pc' := 32) X dX4_pass_31 rfl rfl rfl ?_
        refine g_get (pc' := 35) X fl_X4_38 dX4_pass_32 rfl 0 rfl rfl ?_
        refine g_aload_n (pc' := 36) X dX4_pass_35 rfl rfl rfl ?_
        refine g_get (pc' := 39) X fl_X4_26 dX4_pass_36 rfl 0 rfl rfl ?_
        refine g_callVv3 (pc' := 42) (As := [.ref (a 14)]) (b := (a 18)) (st := []) (w2 := fun o2 o3 o4 => [oX4 a s_saidOn s_saidOff s_saidCount, oX1 (a 10) (a 11) (a 12) (a 13) s_range_peaks s_range_windsTold, ai d (a 11) 6 s_range_kinds, ai d (a 13) 12 s_range_winds, oX3 (a 14) (a 15), ai d (a 15) 42 s_now_cells, oX0 (a 18) s_undoable_most (a 19) o2 o3, ai d (a 19) 336 o4]) X lk_X4_132 dX4_pass_39 rfl rfl rfl (Nat.le_of_ble_eq_true rfl) ⟨Nat.le_of_ble_eq_true rfl, Nat.le_of_ble_eq_true rfl, Nat.le_of_ble_eq_true rfl, Nat.le_of_ble_eq_true rfl⟩ rfl [6, 7, 4, 5] (by decide) rfl hf (fun l o2 o3 o4 h => ctX0_layBy l d (a 18) (a 19) (a 14) (a 15) 336 s_undoable_most s_undoable_held s_undoable_next s_undoable_cells s_now_cells o2 o3 o4 h) (fun _ _ _ => rfl) (fun _ _ _ => rfl) (fun o2 o3 o4 hf => ?_)
        refine g_aload_n (pc' := 43) X dX4_pass_42 rfl rfl rfl ?_
        refine g_aload_n (pc' := 44) X dX4_pass_43 rfl rfl rfl ?_
        refine g_get (pc' := 47) X fl_X4_26 dX4_pass_44 rfl 0 rfl rfl ?_
        refine g_iload_n (pc' := 48) X dX4_pass_47 rfl rfl rfl ?_
        refine g_callVv1 (pc' := 51) (As := [.ref (a 14), .int v1]) (b := (a 0)) (st := []) (w2 := fun o5 => [oX4 a s_saidOn s_saidOff s_saidCount, oX1 (a 10) (a 11) (a 12) (a 13) s_range_peaks s_range_windsTold, ai d (a 11) 6 s_range_kinds, ai d (a 13) 12 s_range_winds, oX3 (a 14) (a 15), ai d (a 15) 42 o5, oX0 (a 18) s_undoable_most (a 19) o2 o3, ai d (a 19) 336 o4]) X lk_X4_150 dX4_pass_48 rfl rfl rfl (Nat.le_of_ble_eq_true rfl) ⟨Nat.le_of_ble_eq_true rfl, Nat.le_of_ble_eq_true rfl, Nat.le_of_ble_eq_true rfl, Nat.le_of_ble_eq_true rfl⟩ rfl [0, 1, 2, 3, 4, 5] (by decide) rfl hf (fun l o5 h => ctX4_letYearsGoBy l d a (a 14) (a 15) s_saidOn s_saidOff s_saidCount s_range_peaks s_range_windsTold s_range_kinds s_range_winds s_now_cells v1 o5 h) (fun _ => rfl) (fun _ => rfl) (fun o5 hf => ?_)
        refine g_aload_n (pc' := 52) X dX4_pass_51 rfl rfl rfl ?_
        refine g_get (pc' := 55) X fl_X4_26 dX4_pass_52 rfl 0 rfl rfl ?_
        refine g_callVi0 (pc' := 58) (As := []) (b := (a 14)) (st := []) (w2 := fun x6 => [oX4 a s_saidOn s_saidOff s_saidCount, oX1 (a 10) (a 11) (a 12) (a 13) s_range_peaks s_range_windsTold, ai d (a 11) 6 s_range_kinds, ai d (a 13) 12 s_range_winds, oX3 (a 14) (a 15), ai d (a 15) 42 o5, oX0 (a 18) s_undoable_most (a 19) o2 o3, ai d (a 19) 336 o4]) X lk_X4_100 dX4_pass_55 rfl rfl rfl (Nat.le_of_ble_eq_true rfl) ⟨Nat.le_of_ble_eq_true rfl, Nat.le_of_ble_eq_true rfl, Nat.le_of_ble_eq_true rfl, Nat.le_of_ble_eq_true rfl⟩ rfl [4, 5] (by decide) rfl hf (fun l x6 h => ctX3_yearNow l d (a 14) (a 15) o5 x6 h) (fun _ => rfl) (fun _ => rfl) (fun x6 hnx6 hf => ?_)
        cases hf
        exact hR _ _ dX4_pass_58 rfl
      · refine g_bipush (v := -2) (pc' := 30) X dX4_pass_28 rfl (by decide) ?_
        cases hf
        exact hR _ _ dX4_pass_30 rfl
    · refine g_iconst (v := -1) (pc' := 12) X dX4_pass_11 rfl (by decide) ?_
      cases hf
      exact hR _ _ dX4_pass_12 rfl
-- X4_undo
def fX4_undo (s_now_cells : Nat → Int32) (s_undoable_most : Int32) (s_undoable_held : Int32) (s_undoable_next : Int32) (s_undoable_cells : Nat → Int32) : Option (Int32 × (Nat → Int32) × Int32 × Int32) :=
  (fX0_fetch 336 s_undoable_most s_undoable_held s_undoable_next s_undoable_cells s_now_cells).bind fun (x1, o2, o3, o4) =>
  if x1 = 0 then
    some ((-2 : Int32), o4, o2, o3)
  else
    some (o2, o4, o2, o3)
set_option maxHeartbeats 4000000 in
set_option maxRecDepth 100000 in
theorem ctX4_undo (l : Launch) (d : sx_D) (a : Nat → Nat) (s_saidOn : Int32) (s_saidOff : Int32) (s_saidCount : Int32) (s_now_cells : Nat → Int32) (s_undoable_most : Int32) (s_undoable_held : Int32) (s_undoable_next : Int32) (s_undoable_cells : Nat → Int32) (r : Int32) (ro1 : Nat → Int32) (ro2 : Int32) (ro3 : Int32) (hf : fX4_undo s_now_cells s_undoable_most s_undoable_held s_undoable_next s_undoable_cells = some (r, ro1, ro2, ro3)) : sx_I l d yX4_undo cX4_undo 1 .int 2 [.ref (a 0)] [oX4 a s_saidOn s_saidOff s_saidCount, oX3 (a 14) (a 15), ai d (a 15) 42 s_now_cells, oX0 (a 18) s_undoable_most (a 19) s_undoable_held s_undoable_next, ai d (a 19) 336 s_undoable_cells] [oX4 a s_saidOn s_saidOff s_saidCount, oX3 (a 14) (a 15), ai d (a 15) 42 ro1, oX0 (a 18) s_undoable_most (a 19) ro2 ro3, ai d (a 19) 336 s_undoable_cells] r := by
  refine sx_I.intro (lv0 := [some (.ref (a 0))]) (by decide +kernel) (Nat.le_of_ble_eq_true rfl) rfl ?_
  intro κ X hR
  have X : sx_X d κ cX4_undo 1 RX4 (sx_rm 2) := X
  unfold fX4_undo at hf
  refine g_aload_n (pc' := 1) X dX4_undo_0 rfl rfl rfl ?_
  refine g_get (pc' := 4) X fl_X4_38 dX4_undo_1 rfl 0 rfl rfl ?_
  refine g_aload_n (pc' := 5) X dX4_undo_4 rfl rfl rfl ?_
  refine g_get (pc' := 8) X fl_X4_26 dX4_undo_5 rfl 0 rfl rfl ?_
  refine g_callVi3 (pc' := 11) (As := [.ref (a 14)]) (b := (a 18)) (st := []) (w2 := fun x1 o2 o3 o4 => [oX4 a s_saidOn s_saidOff s_saidCount, oX3 (a 14) (a 15), ai d (a 15) 42 o4, oX0 (a 18) s_undoable_most (a 19) o2 o3, ai d (a 19) 336 s_undoable_cells]) X lk_X4_154 dX4_undo_8 rfl rfl rfl (Nat.le_of_ble_eq_true rfl) ⟨Nat.le_of_ble_eq_true rfl, Nat.le_of_ble_eq_true rfl, Nat.le_of_ble_eq_true rfl, Nat.le_of_ble_eq_true rfl⟩ rfl [3, 4, 1, 2] (by decide) rfl hf (fun l x1 o2 o3 o4 h => ctX0_fetch l d (a 18) (a 19) (a 14) (a 15) 336 s_undoable_most s_undoable_held s_undoable_next s_undoable_cells s_now_cells x1 o2 o3 o4 h) (fun _ _ _ _ => rfl) (fun _ _ _ _ => rfl) (fun x1 o2 o3 o4 hnx1 hf => ?_)
  refine g_if_eq (tgt := 24) (pc' := 14) X dX4_undo_11 (by decide) rfl hf (fun hf => ?_) (fun hf => ?_)
  · refine g_bipush (v := -2) (pc' := 26) X dX4_undo_24 rfl (by decide) ?_
    cases hf
    exact hR _ _ dX4_undo_26 rfl
  · refine g_aload_n (pc' := 15) X dX4_undo_14 rfl rfl rfl ?_
    refine g_get (pc' := 18) X fl_X4_38 dX4_undo_15 rfl 0 rfl rfl ?_
    refine g_get (pc' := 21) X fl_X4_158 dX4_undo_18 rfl 3 rfl rfl ?_
    refine g_goto (tgt := 26) X dX4_undo_21 (by decide) ?_
    cases hf
    exact hR _ _ dX4_undo_26 rfl
-- X4_firstPairAlike
def bX4_firstPairAlike_17 (s_range_peaks : Int32) (s_faces : Nat → Int32) (v1 : Int32) : Int32 → Option ((Int32) ⊕ ((Int32) ⊕ (Unit))) := fun v2 =>
  if s_range_peaks ≤ v2 then
    some (.inr (.inr ()))
  else
    sx_rd s_faces 6 v1 fun x2 =>
    sx_rd s_faces 6 v2 fun x3 =>
    if x2 = x3 then
      some (.inr (.inl v2))
    else
      some (.inl (v2 + (1 : Int32)))
def bX4_firstPairAlike_2 (s_range_peaks : Int32) (s_faces : Nat → Int32) : Int32 → Option ((Int32) ⊕ ((Int32 × Int32) ⊕ (Unit))) := fun v1 =>
  if s_range_peaks ≤ v1 then
    some (.inr (.inr ()))
  else
    sx_lt (v1 + (1 : Int32)) fun x1 =>
    (sx_it 1000 (bX4_firstPairAlike_17 s_range_peaks s_faces v1) x1).bind fun y4 => match y4 with
      | .inl w5 =>
        some (.inr (.inl (v1, w5)))
      | .inr (_) =>
        some (.inl (v1 + (1 : Int32)))
def fX4_firstPairAlike (s_range_peaks : Int32) (s_faces : Nat → Int32) : Option (Int32) :=
  (sx_it 1000 (bX4_firstPairAlike_2 s_range_peaks s_faces) (0 : Int32)).bind fun y6 => match y6 with
    | .inl (w7, w8) =>
      some (((10 : Int32) * w7) + w8)
    | .inr (_) =>
      some (-4 : Int32)
set_option maxHeartbeats 4000000 in
set_option maxRecDepth 100000 in
theorem lX4_firstPairAlike_17 (d : sx_D) (κ : sx_C) (a : Nat → Nat) (s_saidOn : Int32) (s_saidOff : Int32) (s_saidCount : Int32) (s_range_peaks : Int32) (s_range_windsTold : Int32) (s_faces : Nat → Int32) (v1 : Int32) (X : sx_X d κ cX4_firstPairAlike 3 RX4 (sx_rm 0)) (y : (Int32) ⊕ (Unit)) (hE43 : ∀ (v2 : Int32), (.inl v2) = y → sx_G d κ 3 0 0 43 [none, some (.int v1), some (.int v2)] [] [oX4 a s_saidOn s_saidOff s_saidCount, oX1 (a 10) (a 11) (a 12) (a 13) s_range_peaks s_range_windsTold, ai d (a 22) 6 s_faces]) (hE56 : (.inr ()) = y → sx_G d κ 3 0 0 56 [some (.ref (a 0)), some (.int v1), none] [] [oX4 a s_saidOn s_saidOff s_saidCount, oX1 (a 10) (a 11) (a 12) (a 13) s_range_peaks s_range_windsTold, ai d (a 22) 6 s_faces]) : ∀ (n : Nat) (v2 : Int32), sx_it n (bX4_firstPairAlike_17 s_range_peaks s_faces v1) v2 = some y → sx_G d κ 3 0 0 17 [some (.ref (a 0)), some (.int v1), some (.int v2)] [] [oX4 a s_saidOn s_saidOff s_saidCount, oX1 (a 10) (a 11) (a 12) (a 13) s_range_peaks s_range_windsTold, ai d (a 22) 6 s_faces] := by
  refine sx_it_run (bX4_firstPairAlike_17 s_range_peaks s_faces v1) (fun v2 => sx_G d κ 3 0 0 17 [some (.ref (a 0)), some (.int v1), some (.int v2)] [] [oX4 a s_saidOn s_saidOff s_saidCount, oX1 (a 10) (a 11) (a 12) (a 13) s_range_peaks s_range_windsTold, ai d (a 22) 6 s_faces]) y ?_
  rintro v2 x hf hb he
  show sx_G d κ 3 0 0 17 [some (.ref (a 0)), some (.int v1), some (.int v2)] [] [oX4 a s_saidOn s_saidOff s_saidCount, oX1 (a 10) (a 11) (a 12) (a 13) s_range_peaks s_range_windsTold, ai d (a 22) 6 s_faces]
  unfold bX4_firstPairAlike_17 at hf
  refine g_iload_n (pc' := 18) X dX4_firstPairAlike_17 rfl rfl rfl ?_
  refine g_aload_n (pc' := 19) X dX4_firstPairAlike_18 rfl rfl rfl ?_
  refine g_get (pc' := 22) X fl_X4_19 dX4_firstPairAlike_19 rfl 0 rfl rfl ?_
  refine g_get (pc' := 25) X fl_X4_80 dX4_firstPairAlike_22 rfl 1 rfl rfl ?_
  refine g_icmp_ge (tgt := 56) (pc' := 28) X dX4_firstPairAlike_25 (by decide) rfl hf (fun hf => ?_) (fun hf => ?_)
  · exact sx_weak [true, true, false] rfl (hE56  (sx_ex hf he))
  · refine g_aload_n (pc' := 29) X dX4_firstPairAlike_28 rfl rfl rfl ?_
    refine g_get (pc' := 32) X fl_X4_45 dX4_firstPairAlike_29 rfl 0 rfl rfl ?_
    refine g_iload_n (pc' := 33) X dX4_firstPairAlike_32 rfl rfl rfl ?_
    refine g_iald (pc' := 34) X dX4_firstPairAlike_33 rfl 2 rfl hf (fun x2 hf => ?_)
    refine g_aload_n (pc' := 35) X dX4_firstPairAlike_34 rfl rfl rfl ?_
    refine g_get (pc' := 38) X fl_X4_45 dX4_firstPairAlike_35 rfl 0 rfl rfl ?_
    refine g_iload_n (pc' := 39) X dX4_firstPairAlike_38 rfl rfl rfl ?_
    refine g_iald (pc' := 40) X dX4_firstPairAlike_39 rfl 2 rfl hf (fun x3 hf => ?_)
    refine g_icmp_ne (tgt := 50) (pc' := 43) X dX4_firstPairAlike_40 (by decide) rfl hf (fun hf => ?_) (fun hf => ?_)
    · refine g_iinc (v := 1) (lv' := [some (.ref (a 0)), some (.int v1), some (.int (v2 + (1 : Int32)))]) (pc' := 53) X dX4_firstPairAlike_50 rfl rfl (by decide) (by decide) rfl rfl ?_
      refine g_goto (tgt := 17) X dX4_firstPairAlike_53 (by decide) ?_
      have hk := sx_bk hf hb
      exact sx_weak [true, true, true] rfl hk
    · exact sx_weak [false, true, true] rfl (hE43 _ (sx_ex hf he))
set_option maxHeartbeats 4000000 in
set_option maxRecDepth 100000 in
theorem lX4_firstPairAlike_2 (d : sx_D) (κ : sx_C) (a : Nat → Nat) (s_saidOn : Int32) (s_saidOff : Int32) (s_saidCount : Int32) (s_range_peaks : Int32) (s_range_windsTold : Int32) (s_faces : Nat → Int32) (X : sx_X d κ cX4_firstPairAlike 3 RX4 (sx_rm 0)) (y : (Int32 × Int32) ⊕ (Unit)) (hE43 : ∀ (v1 : Int32) (v2 : Int32), (.inl (v1, v2)) = y → sx_G d κ 3 0 0 43 [none, some (.int v1), some (.int v2)] [] [oX4 a s_saidOn s_saidOff s_saidCount, oX1 (a 10) (a 11) (a 12) (a 13) s_range_peaks s_range_windsTold, ai d (a 22) 6 s_faces]) (hE62 : (.inr ()) = y → sx_G d κ 3 0 0 62 [none, none, none] [] [oX4 a s_saidOn s_saidOff s_saidCount, oX1 (a 10) (a 11) (a 12) (a 13) s_range_peaks s_range_windsTold, ai d (a 22) 6 s_faces]) : ∀ (n : Nat) (v1 : Int32), sx_it n (bX4_firstPairAlike_2 s_range_peaks s_faces) v1 = some y → sx_G d κ 3 0 0 2 [some (.ref (a 0)), some (.int v1), none] [] [oX4 a s_saidOn s_saidOff s_saidCount, oX1 (a 10) (a 11) (a 12) (a 13) s_range_peaks s_range_windsTold, ai d (a 22) 6 s_faces] := by
  refine sx_it_run (bX4_firstPairAlike_2 s_range_peaks s_faces) (fun v1 => sx_G d κ 3 0 0 2 [some (.ref (a 0)), some (.int v1), none] [] [oX4 a s_saidOn s_saidOff s_saidCount, oX1 (a 10) (a 11) (a 12) (a 13) s_range_peaks s_range_windsTold, ai d (a 22) 6 s_faces]) y ?_
  rintro v1 x hf hb he
  show sx_G d κ 3 0 0 2 [some (.ref (a 0)), some (.int v1), none] [] [oX4 a s_saidOn s_saidOff s_saidCount, oX1 (a 10) (a 11) (a 12) (a 13) s_range_peaks s_range_windsTold, ai d (a 22) 6 s_faces]
  unfold bX4_firstPairAlike_2 at hf
  refine g_iload_n (pc' := 3) X dX4_firstPairAlike_2 rfl rfl rfl ?_
  refine g_aload_n (pc' := 4) X dX4_firstPairAlike_3 rfl rfl rfl ?_
  refine g_get (pc' := 7) X fl_X4_19 dX4_firstPairAlike_4 rfl 0 rfl rfl ?_
  refine g_get (pc' := 10) X fl_X4_80 dX4_firstPairAlike_7 rfl 1 rfl rfl ?_
  refine g_icmp_ge (tgt := 62) (pc' := 13) X dX4_firstPairAlike_10 (by decide) rfl hf (fun hf => ?_) (fun hf => ?_)
  · exact sx_weak [false, false, true] rfl (hE62  (sx_ex hf he))
  · refine g_iload_n (pc' := 14) X dX4_firstPairAlike_13 rfl rfl rfl ?_
    refine g_iconst (v := 1) (pc' := 15) X dX4_firstPairAlike_14 rfl (by decide) ?_
    refine g_iadd (pc' := 16) X dX4_firstPairAlike_15 rfl ?_
    refine g_istore_nN (lv' := fun x1 => [some (.ref (a 0)), some (.int v1), some (.int x1)]) (pc' := 17) X dX4_firstPairAlike_16 rfl rfl (by decide) rfl (fun _ => rfl) hf (fun x1 hf => ?_)
    obtain ⟨y4, hy4, hf⟩ := sx_bd hf
    refine sx_weak [true, true, true] rfl (lX4_firstPairAlike_17 d κ a s_saidOn s_saidOff s_saidCount s_range_peaks s_range_windsTold s_faces v1 X y4 ?_ ?_ 1000 x1 hy4)
    · rintro w5 rfl
      exact sx_weak [true, true, true] rfl (hE43 _ _ (sx_ex hf he))
    · rintro rfl
      refine g_iinc (v := 1) (lv' := [some (.ref (a 0)), some (.int (v1 + (1 : Int32))), none]) (pc' := 59) X dX4_firstPairAlike_56 rfl rfl (by decide) (by decide) rfl rfl ?_
      refine g_goto (tgt := 2) X dX4_firstPairAlike_59 (by decide) ?_
      have hk := sx_bk hf hb
      exact sx_weak [true, true, true] rfl hk
set_option maxHeartbeats 4000000 in
set_option maxRecDepth 100000 in
theorem ctX4_firstPairAlike (l : Launch) (d : sx_D) (a : Nat → Nat) (s_saidOn : Int32) (s_saidOff : Int32) (s_saidCount : Int32) (s_range_peaks : Int32) (s_range_windsTold : Int32) (s_faces : Nat → Int32) (r : Int32) (hf : fX4_firstPairAlike s_range_peaks s_faces = some r) : sx_I l d yX4_firstPairAlike cX4_firstPairAlike 3 .int 0 [.ref (a 0)] [oX4 a s_saidOn s_saidOff s_saidCount, oX1 (a 10) (a 11) (a 12) (a 13) s_range_peaks s_range_windsTold, ai d (a 22) 6 s_faces] [oX4 a s_saidOn s_saidOff s_saidCount, oX1 (a 10) (a 11) (a 12) (a 13) s_range_peaks s_range_windsTold, ai d (a 22) 6 s_faces] r := by
  refine sx_I.intro (lv0 := [some (.ref (a 0)), none, none]) (by decide +kernel) (Nat.le_of_ble_eq_true rfl) rfl ?_
  intro κ X hR
  have X : sx_X d κ cX4_firstPairAlike 3 RX4 (sx_rm 0) := X
  unfold fX4_firstPairAlike at hf
  refine g_iconst (v := 0) (pc' := 1) X dX4_firstPairAlike_0 rfl (by decide) ?_
  refine g_istore_n (lv' := [some (.ref (a 0)), some (.int (0 : Int32)), none]) (pc' := 2) X dX4_firstPairAlike_1 rfl rfl (by decide) rfl rfl ?_
  obtain ⟨y6, hy6, hf⟩ := sx_bd hf
  refine sx_weak [true, true, true] rfl (lX4_firstPairAlike_2 d κ a s_saidOn s_saidOff s_saidCount s_range_peaks s_range_windsTold s_faces X y6 ?_ ?_ 1000 (0 : Int32) hy6)
  · rintro w7 w8 rfl
    refine g_bipush (v := 10) (pc' := 45) X dX4_firstPairAlike_43 rfl (by decide) ?_
    refine g_iload_n (pc' := 46) X dX4_firstPairAlike_45 rfl rfl rfl ?_
    refine g_imul (pc' := 47) X dX4_firstPairAlike_46 rfl ?_
    refine g_iload_n (pc' := 48) X dX4_firstPairAlike_47 rfl rfl rfl ?_
    refine g_iadd (pc' := 49) X dX4_firstPairAlike_48 rfl ?_
    cases hf
    exact hR _ _ dX4_firstPairAlike_49 rfl
  · rintro rfl
    refine g_bipush (v := -4) (pc' := 64) X dX4_firstPairAlike_62 rfl (by decide) ?_
    cases hf
    exact hR _ _ dX4_firstPairAlike_64 rfl
-- X4_lookAt
def bX4_lookAt_2 (s_p1_cells : Nat → Int32) : (Int32 × (Nat → Int32)) → Option ((Int32 × (Nat → Int32)) ⊕ ((Nat → Int32))) := fun (v2, s_faces) =>
  if (6 : Int32) ≤ v2 then
    some (.inr s_faces)
  else
    (fX3_looksOf s_p1_cells v2).bind fun x1 =>
    sx_wr s_faces 6 v2 x1 fun g2 =>
    some (.inl (v2 + (1 : Int32), g2))
def fX4_lookAt (s_faces : Nat → Int32) (s_p1_cells : Nat → Int32) : Option ((Nat → Int32)) :=
  (sx_it 1000 (bX4_lookAt_2 s_p1_cells) ((0 : Int32), s_faces)).bind fun w4 =>
  some w4
set_option maxHeartbeats 4000000 in
set_option maxRecDepth 100000 in
theorem lX4_lookAt_2 (d : sx_D) (κ : sx_C) (a : Nat → Nat) (q1 : Nat) (q1_cells : Nat) (s_saidOn : Int32) (s_saidOff : Int32) (s_saidCount : Int32) (s_p1_cells : Nat → Int32) (X : sx_X d κ cX4_lookAt 3 RX4 (sx_rm 3)) (y : (Nat → Int32)) (hE25 : ∀ (s_faces : Nat → Int32), s_faces = y → sx_G d κ 3 0 0 25 [none, none, none] [] [oX4 a s_saidOn s_saidOff s_saidCount, ai d (a 22) 6 s_faces, oX3 q1 q1_cells, ai d q1_cells 42 s_p1_cells]) : ∀ (n : Nat) (s : Int32 × (Nat → Int32)), sx_it n (bX4_lookAt_2 s_p1_cells) s = some y → (match s with | (v2, s_faces) => sx_G d κ 3 0 0 2 [some (.ref (a 0)), some (.ref q1), some (.int v2)] [] [oX4 a s_saidOn s_saidOff s_saidCount, ai d (a 22) 6 s_faces, oX3 q1 q1_cells, ai d q1_cells 42 s_p1_cells]) := by
  refine sx_it_run (bX4_lookAt_2 s_p1_cells) (fun s => match s with | (v2, s_faces) => sx_G d κ 3 0 0 2 [some (.ref (a 0)), some (.ref q1), some (.int v2)] [] [oX4 a s_saidOn s_saidOff s_saidCount, ai d (a 22) 6 s_faces, oX3 q1 q1_cells, ai d q1_cells 42 s_p1_cells]) y ?_
  rintro ⟨v2, s_faces⟩ x hf hb he
  show sx_G d κ 3 0 0 2 [some (.ref (a 0)), some (.ref q1), some (.int v2)] [] [oX4 a s_saidOn s_saidOff s_saidCount, ai d (a 22) 6 s_faces, oX3 q1 q1_cells, ai d q1_cells 42 s_p1_cells]
  unfold bX4_lookAt_2 at hf
  refine g_iload_n (pc' := 3) X dX4_lookAt_2 rfl rfl rfl ?_
  refine g_bipush (v := 6) (pc' := 5) X dX4_lookAt_3 rfl (by decide) ?_
  refine g_icmp_ge (tgt := 25) (pc' := 8) X dX4_lookAt_5 (by decide) rfl hf (fun hf => ?_) (fun hf => ?_)
  · exact sx_weak [false, false, false] rfl (hE25 _ (sx_ex hf he))
  · refine g_aload_n (pc' := 9) X dX4_lookAt_8 rfl rfl rfl ?_
    refine g_get (pc' := 12) X fl_X4_45 dX4_lookAt_9 rfl 0 rfl rfl ?_
    refine g_iload_n (pc' := 13) X dX4_lookAt_12 rfl rfl rfl ?_
    refine g_aload_n (pc' := 14) X dX4_lookAt_13 rfl rfl rfl ?_
    refine g_iload_n (pc' := 15) X dX4_lookAt_14 rfl rfl rfl ?_
    refine g_callVi0 (pc' := 18) (As := [.int v2]) (b := q1) (st := [.int v2, .ref (a 22)]) (w2 := fun x1 => [oX4 a s_saidOn s_saidOff s_saidCount, ai d (a 22) 6 s_faces, oX3 q1 q1_cells, ai d q1_cells 42 s_p1_cells]) X lk_X4_94 dX4_lookAt_15 rfl rfl rfl (Nat.le_of_ble_eq_true rfl) ⟨Nat.le_of_ble_eq_true rfl, Nat.le_of_ble_eq_true rfl, Nat.le_of_ble_eq_true rfl, Nat.le_of_ble_eq_true rfl⟩ rfl [2, 3] (by decide) rfl hf (fun l x1 h => ctX3_looksOf l d q1 q1_cells s_p1_cells v2 x1 h) (fun _ => rfl) (fun _ => rfl) (fun x1 hnx1 hf => ?_)
    refine g_iast (pc' := 19) (w2 := fun g2 => [oX4 a s_saidOn s_saidOff s_saidCount, ai d (a 22) 6 g2, oX3 q1 q1_cells, ai d q1_cells 42 s_p1_cells]) X dX4_lookAt_18 rfl 1 rfl hf (fun _ => rfl) (fun g2 hf => ?_)
    refine g_iinc (v := 1) (lv' := [some (.ref (a 0)), some (.ref q1), some (.int (v2 + (1 : Int32)))]) (pc' := 22) X dX4_lookAt_19 rfl rfl (by decide) (by decide) rfl rfl ?_
    refine g_goto (tgt := 2) X dX4_lookAt_22 (by decide) ?_
    have hk := sx_bk hf hb
    exact sx_weak [true, true, true] rfl hk
set_option maxHeartbeats 4000000 in
set_option maxRecDepth 100000 in
theorem ctX4_lookAt (l : Launch) (d : sx_D) (a : Nat → Nat) (q1 : Nat) (q1_cells : Nat) (s_saidOn : Int32) (s_saidOff : Int32) (s_saidCount : Int32) (s_faces : Nat → Int32) (s_p1_cells : Nat → Int32) (ro1 : Nat → Int32) (hf : fX4_lookAt s_faces s_p1_cells = some ro1) : sx_V l d yX4_lookAt cX4_lookAt 3 3 [.ref (a 0), .ref q1] [oX4 a s_saidOn s_saidOff s_saidCount, ai d (a 22) 6 s_faces, oX3 q1 q1_cells, ai d q1_cells 42 s_p1_cells] [oX4 a s_saidOn s_saidOff s_saidCount, ai d (a 22) 6 ro1, oX3 q1 q1_cells, ai d q1_cells 42 s_p1_cells] := by
  refine sx_V.intro (lv0 := [some (.ref (a 0)), some (.ref q1), none]) (by decide +kernel) (Nat.le_of_ble_eq_true rfl) rfl ?_
  intro κ X hR
  have X : sx_X d κ cX4_lookAt 3 RX4 (sx_rm 3) := X
  unfold fX4_lookAt at hf
  refine g_iconst (v := 0) (pc' := 1) X dX4_lookAt_0 rfl (by decide) ?_
  refine g_istore_n (lv' := [some (.ref (a 0)), some (.ref q1), some (.int (0 : Int32))]) (pc' := 2) X dX4_lookAt_1 rfl rfl (by decide) rfl rfl ?_
  obtain ⟨y3, hy3, hf⟩ := sx_bd hf
  refine sx_weak [true, true, true] rfl (lX4_lookAt_2 d κ a q1 q1_cells s_saidOn s_saidOff s_saidCount s_p1_cells X y3 ?_ 1000 ((0 : Int32), s_faces) hy3)
  rintro w4 rfl
  cases hf
  exact hR _ _ dX4_lookAt_25
-- X4_pairsAlike
def bX4_pairsAlike_20 (s_range_peaks : Int32) (s_faces : Nat → Int32) (v1 : Int32) (v3 : Int32) : (Int32 × Int32) → Option ((Int32 × Int32) ⊕ (Int32)) := fun (v2, v4) =>
  if s_range_peaks ≤ v4 then
    some (.inr v2)
  else
    sx_rd s_faces 6 v3 fun x2 =>
    sx_rd s_faces 6 v4 fun x3 =>
    if ((x2 ^^^ x3) &&& v1) = 0 then
      some (.inl (v2 + (1 : Int32), v4 + (1 : Int32)))
    else
      some (.inl (v2, v4 + (1 : Int32)))
def bX4_pairsAlike_4 (s_range_peaks : Int32) (s_faces : Nat → Int32) (v1 : Int32) : (Int32 × Int32) → Option ((Int32 × Int32) ⊕ (Int32)) := fun (v2, v3) =>
  if s_range_peaks ≤ v3 then
    some (.inr v2)
  else
    sx_lt (v3 + (1 : Int32)) fun x1 =>
    (sx_it 1000 (bX4_pairsAlike_20 s_range_peaks s_faces v1 v3) (v2, x1)).bind fun w5 =>
    some (.inl (w5, v3 + (1 : Int32)))
def fX4_pairsAlike (s_range_peaks : Int32) (s_faces : Nat → Int32) (v1 : Int32) : Option (Int32) :=
  (sx_it 1000 (bX4_pairsAlike_4 s_range_peaks s_faces v1) ((0 : Int32), (0 : Int32))).bind fun w7 =>
  some w7
set_option maxHeartbeats 4000000 in
set_option maxRecDepth 100000 in
theorem lX4_pairsAlike_20 (d : sx_D) (κ : sx_C) (a : Nat → Nat) (s_saidOn : Int32) (s_saidOff : Int32) (s_saidCount : Int32) (s_range_peaks : Int32) (s_range_windsTold : Int32) (s_faces : Nat → Int32) (v1 : Int32) (v3 : Int32) (X : sx_X d κ cX4_pairsAlike 5 RX4 (sx_rm 0)) (y : Int32) (hE60 : ∀ (v2 : Int32), v2 = y → sx_G d κ 5 0 0 60 [some (.ref (a 0)), some (.int v1), some (.int v2), some (.int v3), none] [] [oX4 a s_saidOn s_saidOff s_saidCount, oX1 (a 10) (a 11) (a 12) (a 13) s_range_peaks s_range_windsTold, ai d (a 22) 6 s_faces]) : ∀ (n : Nat) (s : Int32 × Int32), sx_it n (bX4_pairsAlike_20 s_range_peaks s_faces v1 v3) s = some y → (match s with | (v2, v4) => sx_G d κ 5 0 0 20 [some (.ref (a 0)), some (.int v1), some (.int v2), some (.int v3), some (.int v4)] [] [oX4 a s_saidOn s_saidOff s_saidCount, oX1 (a 10) (a 11) (a 12) (a 13) s_range_peaks s_range_windsTold, ai d (a 22) 6 s_faces]) := by
  refine sx_it_run (bX4_pairsAlike_20 s_range_peaks s_faces v1 v3) (fun s => match s with | (v2, v4) => sx_G d κ 5 0 0 20 [some (.ref (a 0)), some (.int v1), some (.int v2), some (.int v3), some (.int v4)] [] [oX4 a s_saidOn s_saidOff s_saidCount, oX1 (a 10) (a 11) (a 12) (a 13) s_range_peaks s_range_windsTold, ai d (a 22) 6 s_faces]) y ?_
  rintro ⟨v2, v4⟩ x hf hb he
  show sx_G d κ 5 0 0 20 [some (.ref (a 0)), some (.int v1), some (.int v2), some (.int v3), some (.int v4)] [] [oX4 a s_saidOn s_saidOff s_saidCount, oX1 (a 10) (a 11) (a 12) (a 13) s_range_peaks s_range_windsTold, ai d (a 22) 6 s_faces]
  unfold bX4_pairsAlike_20 at hf
  refine g_iload (pc' := 22) X dX4_pairsAlike_20 rfl rfl ?_
  refine g_aload_n (pc' := 23) X dX4_pairsAlike_22 rfl rfl rfl ?_
  refine g_get (pc' := 26) X fl_X4_19 dX4_pairsAlike_23 rfl 0 rfl rfl ?_
  refine g_get (pc' := 29) X fl_X4_80 dX4_pairsAlike_26 rfl 1 rfl rfl ?_
  refine g_icmp_ge (tgt := 60) (pc' := 32) X dX4_pairsAlike_29 (by decide) rfl hf (fun hf => ?_) (fun hf => ?_)
  · exact sx_weak [true, true, true, true, false] rfl (hE60 _ (sx_ex hf he))
  · refine g_aload_n (pc' := 33) X dX4_pairsAlike_32 rfl rfl rfl ?_
    refine g_get (pc' := 36) X fl_X4_45 dX4_pairsAlike_33 rfl 0 rfl rfl ?_
    refine g_iload_n (pc' := 37) X dX4_pairsAlike_36 rfl rfl rfl ?_
    refine g_iald (pc' := 38) X dX4_pairsAlike_37 rfl 2 rfl hf (fun x2 hf => ?_)
    refine g_aload_n (pc' := 39) X dX4_pairsAlike_38 rfl rfl rfl ?_
    refine g_get (pc' := 42) X fl_X4_45 dX4_pairsAlike_39 rfl 0 rfl rfl ?_
    refine g_iload (pc' := 44) X dX4_pairsAlike_42 rfl rfl ?_
    refine g_iald (pc' := 45) X dX4_pairsAlike_44 rfl 2 rfl hf (fun x3 hf => ?_)
    refine g_ixor (pc' := 46) X dX4_pairsAlike_45 rfl ?_
    refine g_iload_n (pc' := 47) X dX4_pairsAlike_46 rfl rfl rfl ?_
    refine g_iand (pc' := 48) X dX4_pairsAlike_47 rfl ?_
    refine g_if_ne (tgt := 54) (pc' := 51) X dX4_pairsAlike_48 (by decide) rfl hf (fun hf => ?_) (fun hf => ?_)
    · refine g_iinc (v := 1) (lv' := [some (.ref (a 0)), some (.int v1), some (.int v2), some (.int v3), some (.int (v4 + (1 : Int32)))]) (pc' := 57) X dX4_pairsAlike_54 rfl rfl (by decide) (by decide) rfl rfl ?_
      refine g_goto (tgt := 20) X dX4_pairsAlike_57 (by decide) ?_
      have hk := sx_bk hf hb
      exact sx_weak [true, true, true, true, true] rfl hk
    · refine g_iinc (v := 1) (lv' := [some (.ref (a 0)), some (.int v1), some (.int (v2 + (1 : Int32))), some (.int v3), some (.int v4)]) (pc' := 54) X dX4_pairsAlike_51 rfl rfl (by decide) (by decide) rfl rfl ?_
      refine g_iinc (v := 1) (lv' := [some (.ref (a 0)), some (.int v1), some (.int (v2 + (1 : Int32))), some (.int v3), some (.int (v4 + (1 : Int32)))]) (pc' := 57) X dX4_pairsAlike_54 rfl rfl (by decide) (by decide) rfl rfl ?_
      refine g_goto (tgt := 20) X dX4_pairsAlike_57 (by decide) ?_
      have hk := sx_bk hf hb
      exact sx_weak [true, true, true, true, true] rfl hk
set_option maxHeartbeats 4000000 in
set_option maxRecDepth 100000 in
theorem lX4_pairsAlike_4 (d : sx_D) (κ : sx_C) (a : Nat → Nat) (s_saidOn : Int32) (s_saidOff : Int32) (s_saidCount : Int32) (s_range_peaks : Int32) (s_range_windsTold : Int32) (s_faces : Nat → Int32) (v1 : Int32) (X : sx_X d κ cX4_pairsAlike 5 RX4 (sx_rm 0)) (y : Int32) (hE66 : ∀ (v2 : Int32), v2 = y → sx_G d κ 5 0 0 66 [none, none, some (.int v2), none, none] [] [oX4 a s_saidOn s_saidOff s_saidCount, oX1 (a 10) (a 11) (a 12) (a 13) s_range_peaks s_range_windsTold, ai d (a 22) 6 s_faces]) : ∀ (n : Nat) (s : Int32 × Int32), sx_it n (bX4_pairsAlike_4 s_range_peaks s_faces v1) s = some y → (match s with | (v2, v3) => sx_G d κ 5 0 0 4 [some (.ref (a 0)), some (.int v1), some (.int v2), some (.int v3), none] [] [oX4 a s_saidOn s_saidOff s_saidCount, oX1 (a 10) (a 11) (a 12) (a 13) s_range_peaks s_range_windsTold, ai d (a 22) 6 s_faces]) := by
  refine sx_it_run (bX4_pairsAlike_4 s_range_peaks s_faces v1) (fun s => match s with | (v2, v3) => sx_G d κ 5 0 0 4 [some (.ref (a 0)), some (.int v1), some (.int v2), some (.int v3), none] [] [oX4 a s_saidOn s_saidOff s_saidCount, oX1 (a 10) (a 11) (a 12) (a 13) s_range_peaks s_range_windsTold, ai d (a 22) 6 s_faces]) y ?_
  rintro ⟨v2, v3⟩ x hf hb he
  show sx_G d κ 5 0 0 4 [some (.ref (a 0)), some (.int v1), some (.int v2), some (.int v3), none] [] [oX4 a s_saidOn s_saidOff s_saidCount, oX1 (a 10) (a 11) (a 12) (a 13) s_range_peaks s_range_windsTold, ai d (a 22) 6 s_faces]
  unfold bX4_pairsAlike_4 at hf
  refine g_iload_n (pc' := 5) X dX4_pairsAlike_4 rfl rfl rfl ?_
  refine g_aload_n (pc' := 6) X dX4_pairsAlike_5 rfl rfl rfl ?_
  refine g_get (pc' := 9) X fl_X4_19 dX4_pairsAlike_6 rfl 0 rfl rfl ?_
  refine g_get (pc' := 12) X fl_X4_80 dX4_pairsAlike_9 rfl 1 rfl rfl ?_
  refine g_icmp_ge (tgt := 66) (pc' := 15) X dX4_pairsAlike_12 (by decide) rfl hf (fun hf => ?_) (fun hf => ?_)
  · exact sx_weak [false, false, true, false, true] rfl (hE66 _ (sx_ex hf he))
  · refine g_iload_n (pc' := 16) X dX4_pairsAlike_15 rfl rfl rfl ?_
    refine g_iconst (v := 1) (pc' := 17) X dX4_pairsAlike_16 rfl (by decide) ?_
    refine g_iadd (pc' := 18) X dX4_pairsAlike_17 rfl ?_
    refine g_istoreN (lv' := fun x1 => [some (.ref (a 0)), some (.int v1), some (.int v2), some (.int v3), some (.int x1)]) (pc' := 20) X dX4_pairsAlike_18 rfl (by decide) rfl (fun _ => rfl) hf (fun x1 hf => ?_)
    obtain ⟨y4, hy4, hf⟩ := sx_bd hf
    refine sx_weak [true, true, true, true, true] rfl (lX4_pairsAlike_20 d κ a s_saidOn s_saidOff s_saidCount s_range_peaks s_range_windsTold s_faces v1 v3 X y4 ?_ 1000 (v2, x1) hy4)
    rintro w5 rfl
    refine g_iinc (v := 1) (lv' := [some (.ref (a 0)), some (.int v1), some (.int w5), some (.int (v3 + (1 : Int32))), none]) (pc' := 63) X dX4_pairsAlike_60 rfl rfl (by decide) (by decide) rfl rfl ?_
    refine g_goto (tgt := 4) X dX4_pairsAlike_63 (by decide) ?_
    have hk := sx_bk hf hb
    exact sx_weak [true, true, true, true, true] rfl hk
set_option maxHeartbeats 4000000 in
set_option maxRecDepth 100000 in
theorem ctX4_pairsAlike (l : Launch) (d : sx_D) (a : Nat → Nat) (s_saidOn : Int32) (s_saidOff : Int32) (s_saidCount : Int32) (s_range_peaks : Int32) (s_range_windsTold : Int32) (s_faces : Nat → Int32) (v1 : Int32) (r : Int32) (hf : fX4_pairsAlike s_range_peaks s_faces v1 = some r) : sx_I l d yX4_pairsAlike cX4_pairsAlike 5 .int 0 [.ref (a 0), .int v1] [oX4 a s_saidOn s_saidOff s_saidCount, oX1 (a 10) (a 11) (a 12) (a 13) s_range_peaks s_range_windsTold, ai d (a 22) 6 s_faces] [oX4 a s_saidOn s_saidOff s_saidCount, oX1 (a 10) (a 11) (a 12) (a 13) s_range_peaks s_range_windsTold, ai d (a 22) 6 s_faces] r := by
  refine sx_I.intro (lv0 := [some (.ref (a 0)), some (.int v1), none, none, none]) (by decide +kernel) (Nat.le_of_ble_eq_true rfl) rfl ?_
  intro κ X hR
  have X : sx_X d κ cX4_pairsAlike 5 RX4 (sx_rm 0) := X
  unfold fX4_pairsAlike at hf
  refine g_iconst (v := 0) (pc' := 1) X dX4_pairsAlike_0 rfl (by decide) ?_
  refine g_istore_n (lv' := [some (.ref (a 0)), some (.int v1), some (.int (0 : Int32)), none, none]) (pc' := 2) X dX4_pairsAlike_1 rfl rfl (by decide) rfl rfl ?_
  refine g_iconst (v := 0) (pc' := 3) X dX4_pairsAlike_2 rfl (by decide) ?_
  refine g_istore_n (lv' := [some (.ref (a 0)), some (.int v1), some (.int (0 : Int32)), some (.int (0 : Int32)), none]) (pc' := 4) X dX4_pairsAlike_3 rfl rfl (by decide) rfl rfl ?_
  obtain ⟨y6, hy6, hf⟩ := sx_bd hf
  refine sx_weak [true, true, true, true, true] rfl (lX4_pairsAlike_4 d κ a s_saidOn s_saidOff s_saidCount s_range_peaks s_range_windsTold s_faces v1 X y6 ?_ 1000 ((0 : Int32), (0 : Int32)) hy6)
  rintro w7 rfl
  refine g_iload_n (pc' := 67) X dX4_pairsAlike_66 rfl rfl rfl ?_
  cases hf
  exact hR _ _ dX4_pairsAlike_67 rfl
-- X4_alike
def fX4_alike (s_range_peaks : Int32) (s_now_cells : Nat → Int32) (s_faces : Nat → Int32) (v1 : Int32) : Option (Int32 × (Nat → Int32)) :=
  (fX4_isZeroOrOne v1).bind fun x1 =>
  if x1 = 0 then
    some ((-1 : Int32), s_faces)
  else
    (fX4_lookAt s_faces s_now_cells).bind fun o2 =>
    if v1 = 0 then
      (fX4_pairsAlike s_range_peaks o2 (31 : Int32)).bind fun x4 =>
      some (x4, o2)
    else
      (fX4_firstPairAlike s_range_peaks o2).bind fun x3 =>
      some (x3, o2)
set_option maxHeartbeats 4000000 in
set_option maxRecDepth 100000 in
theorem ctX4_alike (l : Launch) (d : sx_D) (a : Nat → Nat) (s_saidOn : Int32) (s_saidOff : Int32) (s_saidCount : Int32) (s_range_peaks : Int32) (s_range_windsTold : Int32) (s_now_cells : Nat → Int32) (s_faces : Nat → Int32) (v1 : Int32) (r : Int32) (ro1 : Nat → Int32) (hf : fX4_alike s_range_peaks s_now_cells s_faces v1 = some (r, ro1)) : sx_I l d yX4_alike cX4_alike 2 .int 4 [.ref (a 0), .int v1] [oX4 a s_saidOn s_saidOff s_saidCount, oX1 (a 10) (a 11) (a 12) (a 13) s_range_peaks s_range_windsTold, oX3 (a 14) (a 15), ai d (a 15) 42 s_now_cells, ai d (a 22) 6 s_faces] [oX4 a s_saidOn s_saidOff s_saidCount, oX1 (a 10) (a 11) (a 12) (a 13) s_range_peaks s_range_windsTold, oX3 (a 14) (a 15), ai d (a 15) 42 s_now_cells, ai d (a 22) 6 ro1] r := by
  refine sx_I.intro (lv0 := [some (.ref (a 0)), some (.int v1)]) (by decide +kernel) (Nat.le_of_ble_eq_true rfl) rfl ?_
  intro κ X hR
  have X : sx_X d κ cX4_alike 2 RX4 (sx_rm 4) := X
  unfold fX4_alike at hf
  refine g_iload_n (pc' := 1) X dX4_alike_0 rfl rfl rfl ?_
  refine g_callSi0 (pc' := 4) (As := [.int v1]) (st := []) (w2 := fun x1 => [oX4 a s_saidOn s_saidOff s_saidCount, oX1 (a 10) (a 11) (a 12) (a 13) s_range_peaks s_range_windsTold, oX3 (a 14) (a 15), ai d (a 15) 42 s_now_cells, ai d (a 22) 6 s_faces]) X lk_X4_161 dX4_alike_1 rfl rfl rfl (Nat.le_of_ble_eq_true rfl) ⟨Nat.le_of_ble_eq_true rfl, Nat.le_of_ble_eq_true rfl, Nat.le_of_ble_eq_true rfl, Nat.le_of_ble_eq_true rfl⟩ [] (by decide) rfl hf (fun l x1 h => ctX4_isZeroOrOne l d v1 x1 h) (fun _ => rfl) (fun _ => rfl) (fun x1 hnx1 hf => ?_)
  refine g_if_ne (tgt := 9) (pc' := 7) X dX4_alike_4 (by decide) rfl hf (fun hf => ?_) (fun hf => ?_)
  · refine g_aload_n (pc' := 10) X dX4_alike_9 rfl rfl rfl ?_
    refine g_aload_n (pc' := 11) X dX4_alike_10 rfl rfl rfl ?_
    refine g_get (pc' := 14) X fl_X4_26 dX4_alike_11 rfl 0 rfl rfl ?_
    refine g_callVv1 (pc' := 17) (As := [.ref (a 14)]) (b := (a 0)) (st := []) (w2 := fun o2 => [oX4 a s_saidOn s_saidOff s_saidCount, oX1 (a 10) (a 11) (a 12) (a 13) s_range_peaks s_range_windsTold, oX3 (a 14) (a 15), ai d (a 15) 42 s_now_cells, ai d (a 22) 6 o2]) X lk_X4_164 dX4_alike_14 rfl rfl rfl (Nat.le_of_ble_eq_true rfl) ⟨Nat.le_of_ble_eq_true rfl, Nat.le_of_ble_eq_true rfl, Nat.le_of_ble_eq_true rfl, Nat.le_of_ble_eq_true rfl⟩ rfl [0, 4, 2, 3] (by decide) rfl hf (fun l o2 h => ctX4_lookAt l d a (a 14) (a 15) s_saidOn s_saidOff s_saidCount s_faces s_now_cells o2 h) (fun _ => rfl) (fun _ => rfl) (fun o2 hf => ?_)
    refine g_iload_n (pc' := 18) X dX4_alike_17 rfl rfl rfl ?_
    refine g_if_ne (tgt := 30) (pc' := 21) X dX4_alike_18 (by decide) rfl hf (fun hf => ?_) (fun hf => ?_)
    · refine g_aload_n (pc' := 31) X dX4_alike_30 rfl rfl rfl ?_
      refine g_callVi0 (pc' := 34) (As := []) (b := (a 0)) (st := []) (w2 := fun x3 => [oX4 a s_saidOn s_saidOff s_saidCount, oX1 (a 10) (a 11) (a 12) (a 13) s_range_peaks s_range_windsTold, oX3 (a 14) (a 15), ai d (a 15) 42 s_now_cells, ai d (a 22) 6 o2]) X lk_X4_170 dX4_alike_31 rfl rfl rfl (Nat.le_of_ble_eq_true rfl) ⟨Nat.le_of_ble_eq_true rfl, Nat.le_of_ble_eq_true rfl, Nat.le_of_ble_eq_true rfl, Nat.le_of_ble_eq_true rfl⟩ rfl [0, 1, 4] (by decide) rfl hf (fun l x3 h => ctX4_firstPairAlike l d a s_saidOn s_saidOff s_saidCount s_range_peaks s_range_windsTold o2 x3 h) (fun _ => rfl) (fun _ => rfl) (fun x3 hnx3 hf => ?_)
      cases hf
      exact hR _ _ dX4_alike_34 rfl
    · refine g_aload_n (pc' := 22) X dX4_alike_21 rfl rfl rfl ?_
      refine g_bipush (v := 31) (pc' := 24) X dX4_alike_22 rfl (by decide) ?_
      refine g_callVi0 (pc' := 27) (As := [.int (31 : Int32)]) (b := (a 0)) (st := []) (w2 := fun x4 => [oX4 a s_saidOn s_saidOff s_saidCount, oX1 (a 10) (a 11) (a 12) (a 13) s_range_peaks s_range_windsTold, oX3 (a 14) (a 15), ai d (a 15) 42 s_now_cells, ai d (a 22) 6 o2]) X lk_X4_167 dX4_alike_24 rfl rfl rfl (Nat.le_of_ble_eq_true rfl) ⟨Nat.le_of_ble_eq_true rfl, Nat.le_of_ble_eq_true rfl, Nat.le_of_ble_eq_true rfl, Nat.le_of_ble_eq_true rfl⟩ rfl [0, 1, 4] (by decide) rfl hf (fun l x4 h => ctX4_pairsAlike l d a s_saidOn s_saidOff s_saidCount s_range_peaks s_range_windsTold o2 (31 : Int32) x4 h) (fun _ => rfl) (fun _ => rfl) (fun x4 hnx4 hf => ?_)
      refine g_goto (tgt := 34) X dX4_alike_27 (by decide) ?_
      cases hf
      exact hR _ _ dX4_alike_34 rfl
  · refine g_iconst (v := -1) (pc' := 8) X dX4_alike_7 rfl (by decide) ?_
    cases hf
    exact hR _ _ dX4_alike_8 rfl
-- X4_knownBy
def bX4_knownBy_2 (s_range_peaks : Int32) (s_now_cells : Nat → Int32) (v1 : Int32) : Int32 → Option ((Int32) ⊕ ((Int32) ⊕ (Unit))) := fun v2 =>
  if s_range_peaks ≤ v2 then
    some (.inr (.inr ()))
  else
    (fX3_looksOf s_now_cells v2).bind fun x1 =>
    if x1 = v1 then
      some (.inr (.inl v2))
    else
      some (.inl (v2 + (1 : Int32)))
def fX4_knownBy (s_range_peaks : Int32) (s_now_cells : Nat → Int32) (v1 : Int32) : Option (Int32) :=
  (sx_it 1000 (bX4_knownBy_2 s_range_peaks s_now_cells v1) (0 : Int32)).bind fun y2 => match y2 with
    | .inl w3 =>
      some w3
    | .inr (_) =>
      some (-4 : Int32)
set_option maxHeartbeats 4000000 in
set_option maxRecDepth 100000 in
theorem lX4_knownBy_2 (d : sx_D) (κ : sx_C) (a : Nat → Nat) (s_saidOn : Int32) (s_saidOff : Int32) (s_saidCount : Int32) (s_range_peaks : Int32) (s_range_windsTold : Int32) (s_now_cells : Nat → Int32) (v1 : Int32) (X : sx_X d κ cX4_knownBy 3 RX4 (sx_rm 3)) (y : (Int32) ⊕ (Unit)) (hE25 : ∀ (v2 : Int32), (.inl v2) = y → sx_G d κ 3 0 0 25 [none, none, some (.int v2)] [] [oX4 a s_saidOn s_saidOff s_saidCount, oX1 (a 10) (a 11) (a 12) (a 13) s_range_peaks s_range_windsTold, oX3 (a 14) (a 15), ai d (a 15) 42 s_now_cells]) (hE33 : (.inr ()) = y → sx_G d κ 3 0 0 33 [none, none, none] [] [oX4 a s_saidOn s_saidOff s_saidCount, oX1 (a 10) (a 11) (a 12) (a 13) s_range_peaks s_range_windsTold, oX3 (a 14) (a 15), ai d (a 15) 42 s_now_cells]) : ∀ (n : Nat) (v2 : Int32), sx_it n (bX4_knownBy_2 s_range_peaks s_now_cells v1) v2 = some y → sx_G d κ 3 0 0 2 [some (.ref (a 0)), some (.int v1), some (.int v2)] [] [oX4 a s_saidOn s_saidOff s_saidCount, oX1 (a 10) (a 11) (a 12) (a 13) s_range_peaks s_range_windsTold, oX3 (a 14) (a 15), ai d (a 15) 42 s_now_cells] := by
  refine sx_it_run (bX4_knownBy_2 s_range_peaks s_now_cells v1) (fun v2 => sx_G d κ 3 0 0 2 [some (.ref (a 0)), some (.int v1), some (.int v2)] [] [oX4 a s_saidOn s_saidOff s_saidCount, oX1 (a 10) (a 11) (a 12) (a 13) s_range_peaks s_range_windsTold, oX3 (a 14) (a 15), ai d (a 15) 42 s_now_cells]) y ?_
  rintro v2 x hf hb he
  show sx_G d κ 3 0 0 2 [some (.ref (a 0)), some (.int v1), some (.int v2)] [] [oX4 a s_saidOn s_saidOff s_saidCount, oX1 (a 10) (a 11) (a 12) (a 13) s_range_peaks s_range_windsTold, oX3 (a 14) (a 15), ai d (a 15) 42 s_now_cells]
  unfold bX4_knownBy_2 at hf
  refine g_iload_n (pc' := 3) X dX4_knownBy_2 rfl rfl rfl ?_
  refine g_aload_n (pc' := 4) X dX4_knownBy_3 rfl rfl rfl ?_
  refine g_get (pc' := 7) X fl_X4_19 dX4_knownBy_4 rfl 0 rfl rfl ?_
  refine g_get (pc' := 10) X fl_X4_80 dX4_knownBy_7 rfl 1 rfl rfl ?_
  refine g_icmp_ge (tgt := 33) (pc' := 13) X dX4_knownBy_10 (by decide) rfl hf (fun hf => ?_) (fun hf => ?_)
  · exact sx_weak [false, false, false] rfl (hE33  (sx_ex hf he))
  · refine g_aload_n (pc' := 14) X dX4_knownBy_13 rfl rfl rfl ?_
    refine g_get (pc' := 17) X fl_X4_26 dX4_knownBy_14 rfl 0 rfl rfl ?_
    refine g_iload_n (pc' := 18) X dX4_knownBy_17 rfl rfl rfl ?_
    refine g_callVi0 (pc' := 21) (As := [.int v2]) (b := (a 14)) (st := []) (w2 := fun x1 => [oX4 a s_saidOn s_saidOff s_saidCount, oX1 (a 10) (a 11) (a 12) (a 13) s_range_peaks s_range_windsTold, oX3 (a 14) (a 15), ai d (a 15) 42 s_now_cells]) X lk_X4_94 dX4_knownBy_18 rfl rfl rfl (Nat.le_of_ble_eq_true rfl) ⟨Nat.le_of_ble_eq_true rfl, Nat.le_of_ble_eq_true rfl, Nat.le_of_ble_eq_true rfl, Nat.le_of_ble_eq_true rfl⟩ rfl [2, 3] (by decide) rfl hf (fun l x1 h => ctX3_looksOf l d (a 14) (a 15) s_now_cells v2 x1 h) (fun _ => rfl) (fun _ => rfl) (fun x1 hnx1 hf => ?_)
    refine g_iload_n (pc' := 22) X dX4_knownBy_21 rfl rfl rfl ?_
    refine g_icmp_ne (tgt := 27) (pc' := 25) X dX4_knownBy_22 (by decide) rfl hf (fun hf => ?_) (fun hf => ?_)
    · refine g_iinc (v := 1) (lv' := [some (.ref (a 0)), some (.int v1), some (.int (v2 + (1 : Int32)))]) (pc' := 30) X dX4_knownBy_27 rfl rfl (by decide) (by decide) rfl rfl ?_
      refine g_goto (tgt := 2) X dX4_knownBy_30 (by decide) ?_
      have hk := sx_bk hf hb
      exact sx_weak [true, true, true] rfl hk
    · exact sx_weak [false, false, true] rfl (hE25 _ (sx_ex hf he))
set_option maxHeartbeats 4000000 in
set_option maxRecDepth 100000 in
theorem ctX4_knownBy (l : Launch) (d : sx_D) (a : Nat → Nat) (s_saidOn : Int32) (s_saidOff : Int32) (s_saidCount : Int32) (s_range_peaks : Int32) (s_range_windsTold : Int32) (s_now_cells : Nat → Int32) (v1 : Int32) (r : Int32) (hf : fX4_knownBy s_range_peaks s_now_cells v1 = some r) : sx_I l d yX4_knownBy cX4_knownBy 3 .int 3 [.ref (a 0), .int v1] [oX4 a s_saidOn s_saidOff s_saidCount, oX1 (a 10) (a 11) (a 12) (a 13) s_range_peaks s_range_windsTold, oX3 (a 14) (a 15), ai d (a 15) 42 s_now_cells] [oX4 a s_saidOn s_saidOff s_saidCount, oX1 (a 10) (a 11) (a 12) (a 13) s_range_peaks s_range_windsTold, oX3 (a 14) (a 15), ai d (a 15) 42 s_now_cells] r := by
  refine sx_I.intro (lv0 := [some (.ref (a 0)), some (.int v1), none]) (by decide +kernel) (Nat.le_of_ble_eq_true rfl) rfl ?_
  intro κ X hR
  have X : sx_X d κ cX4_knownBy 3 RX4 (sx_rm 3) := X
  unfold fX4_knownBy at hf
  refine g_iconst (v := 0) (pc' := 1) X dX4_knownBy_0 rfl (by decide) ?_
  refine g_istore_n (lv' := [some (.ref (a 0)), some (.int v1), some (.int (0 : Int32))]) (pc' := 2) X dX4_knownBy_1 rfl rfl (by decide) rfl rfl ?_
  obtain ⟨y2, hy2, hf⟩ := sx_bd hf
  refine sx_weak [true, true, true] rfl (lX4_knownBy_2 d κ a s_saidOn s_saidOff s_saidCount s_range_peaks s_range_windsTold s_now_cells v1 X y2 ?_ ?_ 1000 (0 : Int32) hy2)
  · rintro w3 rfl
    refine g_iload_n (pc' := 26) X dX4_knownBy_25 rfl rfl rfl ?_
    cases hf
    exact hR _ _ dX4_knownBy_26 rfl
  · rintro rfl
    refine g_bipush (v := -4) (pc' := 35) X dX4_knownBy_33 rfl (by decide) ?_
    cases hf
    exact hR _ _ dX4_knownBy_35 rfl
-- X4_known
def fX4_known (s_range_peaks : Int32) (s_now_cells : Nat → Int32) (v1 : Int32) : Option (Int32) :=
  (fX1_isPeak s_range_peaks v1).bind fun x1 =>
  if x1 = 0 then
    some (-1 : Int32)
  else
    (fX3_guideOf s_now_cells v1).bind fun x2 =>
    (fX4_knownBy s_range_peaks s_now_cells x2).bind fun x3 =>
    some x3
set_option maxHeartbeats 4000000 in
set_option maxRecDepth 100000 in
theorem ctX4_known (l : Launch) (d : sx_D) (a : Nat → Nat) (s_saidOn : Int32) (s_saidOff : Int32) (s_saidCount : Int32) (s_range_peaks : Int32) (s_range_windsTold : Int32) (s_now_cells : Nat → Int32) (v1 : Int32) (r : Int32) (hf : fX4_known s_range_peaks s_now_cells v1 = some r) : sx_I l d yX4_known cX4_known 2 .int 4 [.ref (a 0), .int v1] [oX4 a s_saidOn s_saidOff s_saidCount, oX1 (a 10) (a 11) (a 12) (a 13) s_range_peaks s_range_windsTold, oX3 (a 14) (a 15), ai d (a 15) 42 s_now_cells] [oX4 a s_saidOn s_saidOff s_saidCount, oX1 (a 10) (a 11) (a 12) (a 13) s_range_peaks s_range_windsTold, oX3 (a 14) (a 15), ai d (a 15) 42 s_now_cells] r := by
  refine sx_I.intro (lv0 := [some (.ref (a 0)), some (.int v1)]) (by decide +kernel) (Nat.le_of_ble_eq_true rfl) rfl ?_
  intro κ X hR
  have X : sx_X d κ cX4_known 2 RX4 (sx_rm 4) := X
  unfold fX4_known at hf
  refine g_aload_n (pc' := 1) X dX4_known_0 rfl rfl rfl ?_
  refine g_get (pc' := 4) X fl_X4_19 dX4_known_1 rfl 0 rfl rfl ?_
  refine g_iload_n (pc' := 5) X dX4_known_4 rfl rfl rfl ?_
  refine g_callVi0 (pc' := 8) (As := [.int v1]) (b := (a 10)) (st := []) (w2 := fun x1 => [oX4 a s_saidOn s_saidOff s_saidCount, oX1 (a 10) (a 11) (a 12) (a 13) s_range_peaks s_range_windsTold, oX3 (a 14) (a 15), ai d (a 15) 42 s_now_cells]) X lk_X4_83 dX4_known_5 rfl rfl rfl (Nat.le_of_ble_eq_true rfl) ⟨Nat.le_of_ble_eq_true rfl, Nat.le_of_ble_eq_true rfl, Nat.le_of_ble_eq_true rfl, Nat.le_of_ble_eq_true rfl⟩ rfl [1] (by decide) rfl hf (fun l x1 h => ctX1_isPeak l d (a 10) (a 11) (a 12) (a 13) s_range_peaks s_range_windsTold v1 x1 h) (fun _ => rfl) (fun _ => rfl) (fun x1 hnx1 hf => ?_)
  refine g_if_eq (tgt := 26) (pc' := 11) X dX4_known_8 (by decide) rfl hf (fun hf => ?_) (fun hf => ?_)
  · refine g_iconst (v := -1) (pc' := 27) X dX4_known_26 rfl (by decide) ?_
    cases hf
    exact hR _ _ dX4_known_27 rfl
  · refine g_aload_n (pc' := 12) X dX4_known_11 rfl rfl rfl ?_
    refine g_aload_n (pc' := 13) X dX4_known_12 rfl rfl rfl ?_
    refine g_get (pc' := 16) X fl_X4_26 dX4_known_13 rfl 0 rfl rfl ?_
    refine g_iload_n (pc' := 17) X dX4_known_16 rfl rfl rfl ?_
    refine g_callVi0 (pc' := 20) (As := [.int v1]) (b := (a 14)) (st := [.ref (a 0)]) (w2 := fun x2 => [oX4 a s_saidOn s_saidOff s_saidCount, oX1 (a 10) (a 11) (a 12) (a 13) s_range_peaks s_range_windsTold, oX3 (a 14) (a 15), ai d (a 15) 42 s_now_cells]) X lk_X4_97 dX4_known_17 rfl rfl rfl (Nat.le_of_ble_eq_true rfl) ⟨Nat.le_of_ble_eq_true rfl, Nat.le_of_ble_eq_true rfl, Nat.le_of_ble_eq_true rfl, Nat.le_of_ble_eq_true rfl⟩ rfl [2, 3] (by decide) rfl hf (fun l x2 h => ctX3_guideOf l d (a 14) (a 15) s_now_cells v1 x2 h) (fun _ => rfl) (fun _ => rfl) (fun x2 hnx2 hf => ?_)
    refine g_callVi0 (pc' := 23) (As := [.int x2]) (b := (a 0)) (st := []) (w2 := fun x3 => [oX4 a s_saidOn s_saidOff s_saidCount, oX1 (a 10) (a 11) (a 12) (a 13) s_range_peaks s_range_windsTold, oX3 (a 14) (a 15), ai d (a 15) 42 s_now_cells]) X lk_X4_173 dX4_known_20 rfl rfl rfl (Nat.le_of_ble_eq_true rfl) ⟨Nat.le_of_ble_eq_true rfl, Nat.le_of_ble_eq_true rfl, Nat.le_of_ble_eq_true rfl, Nat.le_of_ble_eq_true rfl⟩ rfl [0, 1, 2, 3] (by decide) rfl hf (fun l x3 h => ctX4_knownBy l d a s_saidOn s_saidOff s_saidCount s_range_peaks s_range_windsTold s_now_cells x2 x3 h) (fun _ => rfl) (fun _ => rfl) (fun x3 hnx3 hf => ?_)
    refine g_goto (tgt := 27) X dX4_known_23 (by decide) ?_
    cases hf
    exact hR _ _ dX4_known_27 rfl
-- X4_behind
def fX4_behind (s_range_peaks : Int32) (s_range_windsTold : Int32) (s_range_kinds : Nat → Int32) (s_range_winds : Nat → Int32) (s_now_cells : Nat → Int32) (s_trial_cells : Nat → Int32) (v1 : Int32) (v2 : Int32) : Option (Int32 × (Nat → Int32)) :=
  if v1 < 0 then
    some ((-1 : Int32), s_trial_cells)
  else
    if (20 : Int32) < v1 then
      some ((-1 : Int32), s_trial_cells)
    else
      (fX1_isPeak s_range_peaks v2).bind fun x1 =>
      if x1 = 0 then
        some ((-1 : Int32), s_trial_cells)
      else
        (fX3_become s_trial_cells s_now_cells).bind fun o2 =>
        (fX4_letYearsGoBy s_range_peaks s_range_windsTold s_range_kinds s_range_winds o2 v1).bind fun o3 =>
        (fX3_looksOf o3 v2).bind fun x4 =>
        some (x4, o3)
set_option maxHeartbeats 4000000 in
set_option maxRecDepth 100000 in
theorem ctX4_behind (l : Launch) (d : sx_D) (a : Nat → Nat) (s_saidOn : Int32) (s_saidOff : Int32) (s_saidCount : Int32) (s_range_peaks : Int32) (s_range_windsTold : Int32) (s_range_kinds : Nat → Int32) (s_range_winds : Nat → Int32) (s_now_cells : Nat → Int32) (s_trial_cells : Nat → Int32) (v1 : Int32) (v2 : Int32) (r : Int32) (ro1 : Nat → Int32) (hf : fX4_behind s_range_peaks s_range_windsTold s_range_kinds s_range_winds s_now_cells s_trial_cells v1 v2 = some (r, ro1)) : sx_I l d yX4_behind cX4_behind 3 .int 6 [.ref (a 0), .int v1, .int v2] [oX4 a s_saidOn s_saidOff s_saidCount, oX1 (a 10) (a 11) (a 12) (a 13) s_range_peaks s_range_windsTold, ai d (a 11) 6 s_range_kinds, ai d (a 13) 12 s_range_winds, oX3 (a 14) (a 15), ai d (a 15) 42 s_now_cells, oX3 (a 16) (a 17), ai d (a 17) 42 s_trial_cells] [oX4 a s_saidOn s_saidOff s_saidCount, oX1 (a 10) (a 11) (a 12) (a 13) s_range_peaks s_range_windsTold, ai d (a 11) 6 s_range_kinds, ai d (a 13) 12 s_range_winds, oX3 (a 14) (a 15), ai d (a 15) 42 s_now_cells, oX3 (a 16) (a 17), ai d (a 17) 42 ro1] r := by
  refine sx_I.intro (lv0 := [some (.ref (a 0)), some (.int v1), some (.int v2)]) (by decide +kernel) (Nat.le_of_ble_eq_true rfl) rfl ?_
  intro κ X hR
  have X : sx_X d κ cX4_behind 3 RX4 (sx_rm 6) := X
  unfold fX4_behind at hf
  refine g_iload_n (pc' := 1) X dX4_behind_0 rfl rfl rfl ?_
  refine g_if_lt (tgt := 21) (pc' := 4) X dX4_behind_1 (by decide) rfl hf (fun hf => ?_) (fun hf => ?_)
  · refine g_iconst (v := -1) (pc' := 22) X dX4_behind_21 rfl (by decide) ?_
    cases hf
    exact hR _ _ dX4_behind_22 rfl
  · refine g_iload_n (pc' := 5) X dX4_behind_4 rfl rfl rfl ?_
    refine g_bipush (v := 20) (pc' := 7) X dX4_behind_5 rfl (by decide) ?_
    refine g_icmp_gt (tgt := 21) (pc' := 10) X dX4_behind_7 (by decide) rfl hf (fun hf => ?_) (fun hf => ?_)
    · refine g_iconst (v := -1) (pc' := 22) X dX4_behind_21 rfl (by decide) ?_
      cases hf
      exact hR _ _ dX4_behind_22 rfl
    · refine g_aload_n (pc' := 11) X dX4_behind_10 rfl rfl rfl ?_
      refine g_get (pc' := 14) X fl_X4_19 dX4_behind_11 rfl 0 rfl rfl ?_
      refine g_iload_n (pc' := 15) X dX4_behind_14 rfl rfl rfl ?_
      refine g_callVi0 (pc' := 18) (As := [.int v2]) (b := (a 10)) (st := []) (w2 := fun x1 => [oX4 a s_saidOn s_saidOff s_saidCount, oX1 (a 10) (a 11) (a 12) (a 13) s_range_peaks s_range_windsTold, ai d (a 11) 6 s_range_kinds, ai d (a 13) 12 s_range_winds, oX3 (a 14) (a 15), ai d (a 15) 42 s_now_cells, oX3 (a 16) (a 17), ai d (a 17) 42 s_trial_cells]) X lk_X4_83 dX4_behind_15 rfl rfl rfl (Nat.le_of_ble_eq_true rfl) ⟨Nat.le_of_ble_eq_true rfl, Nat.le_of_ble_eq_true rfl, Nat.le_of_ble_eq_true rfl, Nat.le_of_ble_eq_true rfl⟩ rfl [1] (by decide) rfl hf (fun l x1 h => ctX1_isPeak l d (a 10) (a 11) (a 12) (a 13) s_range_peaks s_range_windsTold v2 x1 h) (fun _ => rfl) (fun _ => rfl) (fun x1 hnx1 hf => ?_)
      refine g_if_ne (tgt := 23) (pc' := 21) X dX4_behind_18 (by decide) rfl hf (fun hf => ?_) (fun hf => ?_)
      · refine g_aload_n (pc' := 24) X dX4_behind_23 rfl rfl rfl ?_
        refine g_get (pc' := 27) X fl_X4_30 dX4_behind_24 rfl 0 rfl rfl ?_
        refine g_aload_n (pc' := 28) X dX4_behind_27 rfl rfl rfl ?_
        refine g_get (pc' := 31) X fl_X4_26 dX4_behind_28 rfl 0 rfl rfl ?_
        refine g_callVv1 (pc' := 34) (As := [.ref (a 14)]) (b := (a 16)) (st := []) (w2 := fun o2 => [oX4 a s_saidOn s_saidOff s_saidCount, oX1 (a 10) (a 11) (a 12) (a 13) s_range_peaks s_range_windsTold, ai d (a 11) 6 s_range_kinds, ai d (a 13) 12 s_range_winds, oX3 (a 14) (a 15), ai d (a 15) 42 s_now_cells, oX3 (a 16) (a 17), ai d (a 17) 42 o2]) X lk_X4_176 dX4_behind_31 rfl rfl rfl (Nat.le_of_ble_eq_true rfl) ⟨Nat.le_of_ble_eq_true rfl, Nat.le_of_ble_eq_true rfl, Nat.le_of_ble_eq_true rfl, Nat.le_of_ble_eq_true rfl⟩ rfl [6, 7, 4, 5] (by decide) rfl hf (fun l o2 h => ctX3_become l d (a 16) (a 17) (a 14) (a 15) s_trial_cells s_now_cells o2 h) (fun _ => rfl) (fun _ => rfl) (fun o2 hf => ?_)
        refine g_aload_n (pc' := 35) X dX4_behind_34 rfl rfl rfl ?_
        refine g_aload_n (pc' := 36) X dX4_behind_35 rfl rfl rfl ?_
        refine g_get (pc' := 39) X fl_X4_30 dX4_behind_36 rfl 0 rfl rfl ?_
        refine g_iload_n (pc' := 40) X dX4_behind_39 rfl rfl rfl ?_
        refine g_callVv1 (pc' := 43) (As := [.ref (a 16), .int v1]) (b := (a 0)) (st := []) (w2 := fun o3 => [oX4 a s_saidOn s_saidOff s_saidCount, oX1 (a 10) (a 11) (a 12) (a 13) s_range_peaks s_range_windsTold, ai d (a 11) 6 s_range_kinds, ai d (a 13) 12 s_range_winds, oX3 (a 14) (a 15), ai d (a 15) 42 s_now_cells, oX3 (a 16) (a 17), ai d (a 17) 42 o3]) X lk_X4_150 dX4_behind_40 rfl rfl rfl (Nat.le_of_ble_eq_true rfl) ⟨Nat.le_of_ble_eq_true rfl, Nat.le_of_ble_eq_true rfl, Nat.le_of_ble_eq_true rfl, Nat.le_of_ble_eq_true rfl⟩ rfl [0, 1, 2, 3, 6, 7] (by decide) rfl hf (fun l o3 h => ctX4_letYearsGoBy l d a (a 16) (a 17) s_saidOn s_saidOff s_saidCount s_range_peaks s_range_windsTold s_range_kinds s_range_winds o2 v1 o3 h) (fun _ => rfl) (fun _ => rfl) (fun o3 hf => ?_)
        refine g_aload_n (pc' := 44) X dX4_behind_43 rfl rfl rfl ?_
        refine g_get (pc' := 47) X fl_X4_30 dX4_behind_44 rfl 0 rfl rfl ?_
        refine g_iload_n (pc' := 48) X dX4_behind_47 rfl rfl rfl ?_
        refine g_callVi0 (pc' := 51) (As := [.int v2]) (b := (a 16)) (st := []) (w2 := fun x4 => [oX4 a s_saidOn s_saidOff s_saidCount, oX1 (a 10) (a 11) (a 12) (a 13) s_range_peaks s_range_windsTold, ai d (a 11) 6 s_range_kinds, ai d (a 13) 12 s_range_winds, oX3 (a 14) (a 15), ai d (a 15) 42 s_now_cells, oX3 (a 16) (a 17), ai d (a 17) 42 o3]) X lk_X4_94 dX4_behind_48 rfl rfl rfl (Nat.le_of_ble_eq_true rfl) ⟨Nat.le_of_ble_eq_true rfl, Nat.le_of_ble_eq_true rfl, Nat.le_of_ble_eq_true rfl, Nat.le_of_ble_eq_true rfl⟩ rfl [6, 7] (by decide) rfl hf (fun l x4 h => ctX3_looksOf l d (a 16) (a 17) o3 v2 x4 h) (fun _ => rfl) (fun _ => rfl) (fun x4 hnx4 hf => ?_)
        cases hf
        exact hR _ _ dX4_behind_51 rfl
      · refine g_iconst (v := -1) (pc' := 22) X dX4_behind_21 rfl (by decide) ?_
        cases hf
        exact hR _ _ dX4_behind_22 rfl
-- X4_goes
def bX4_goes_39 (s_range_peaks : Int32) (s_range_windsTold : Int32) (s_range_kinds : Nat → Int32) (s_range_winds : Nat → Int32) (v1 : Int32) (v2 : Int32) : (Int32 × (Nat → Int32)) → Option ((Int32 × (Nat → Int32)) ⊕ ((Int32 × (Nat → Int32)) ⊕ ((Nat → Int32)))) := fun (v3, s_trial_cells) =>
  if (60 : Int32) < v3 then
    some (.inr (.inr s_trial_cells))
  else
    (fX3_letYearGoBy s_trial_cells s_range_peaks s_range_windsTold s_range_kinds s_range_winds).bind fun o4 =>
    (fX3_isOn o4 v1 v2).bind fun x5 =>
    if x5 = 0 then
      some (.inr (.inl (v3, o4)))
    else
      some (.inl (v3 + (1 : Int32), o4))
def fX4_goes (s_range_peaks : Int32) (s_range_windsTold : Int32) (s_range_kinds : Nat → Int32) (s_range_winds : Nat → Int32) (s_now_cells : Nat → Int32) (s_trial_cells : Nat → Int32) (v1 : Int32) (v2 : Int32) : Option (Int32 × (Nat → Int32)) :=
  (fX4_isPlace s_range_peaks v1 v2).bind fun x1 =>
  if x1 = 0 then
    some ((-1 : Int32), s_trial_cells)
  else
    (fX3_isOn s_now_cells v1 v2).bind fun x2 =>
    if x2 = 0 then
      some ((-2 : Int32), s_trial_cells)
    else
      (fX3_become s_trial_cells s_now_cells).bind fun o3 =>
      (sx_it 1000 (bX4_goes_39 s_range_peaks s_range_windsTold s_range_kinds s_range_winds v1 v2) ((1 : Int32), o3)).bind fun y6 => match y6 with
        | .inl (w7, w8) =>
          some (w7, w8)
        | .inr (w9) =>
          some ((-4 : Int32), w9)
set_option maxHeartbeats 4000000 in
set_option maxRecDepth 100000 in
theorem lX4_goes_39 (d : sx_D) (κ : sx_C) (a : Nat → Nat) (s_saidOn : Int32) (s_saidOff : Int32) (s_saidCount : Int32) (s_range_peaks : Int32) (s_range_windsTold : Int32) (s_range_kinds : Nat → Int32) (s_range_winds : Nat → Int32) (s_now_cells : Nat → Int32) (v1 : Int32) (v2 : Int32) (X : sx_X d κ cX4_goes 4 RX4 (sx_rm 5)) (y : (Int32 × (Nat → Int32)) ⊕ ((Nat → Int32))) (hE68 : ∀ (v3 : Int32) (s_trial_cells : Nat → Int32), (.inl (v3, s_trial_cells)) = y → sx_G d κ 4 0 0 68 [none, none, none, some (.int v3)] [] [oX4 a s_saidOn s_saidOff s_saidCount, oX1 (a 10) (a 11) (a 12) (a 13) s_range_peaks s_range_windsTold, ai d (a 11) 6 s_range_kinds, ai d (a 13) 12 s_range_winds, oX3 (a 14) (a 15), ai d (a 15) 42 s_now_cells, oX3 (a 16) (a 17), ai d (a 17) 42 s_trial_cells]) (hE76 : ∀ (s_trial_cells : Nat → Int32), (.inr s_trial_cells) = y → sx_G d κ 4 0 0 76 [none, none, none, none] [] [oX4 a s_saidOn s_saidOff s_saidCount, oX1 (a 10) (a 11) (a 12) (a 13) s_range_peaks s_range_windsTold, ai d (a 11) 6 s_range_kinds, ai d (a 13) 12 s_range_winds, oX3 (a 14) (a 15), ai d (a 15) 42 s_now_cells, oX3 (a 16) (a 17), ai d (a 17) 42 s_trial_cells]) : ∀ (n : Nat) (s : Int32 × (Nat → Int32)), sx_it n (bX4_goes_39 s_range_peaks s_range_windsTold s_range_kinds s_range_winds v1 v2) s = some y → (match s with | (v3, s_trial_cells) => sx_G d κ 4 0 0 39 [some (.ref (a 0)), some (.int v1), some (.int v2), some (.int v3)] [] [oX4 a s_saidOn s_saidOff s_saidCount, oX1 (a 10) (a 11) (a 12) (a 13) s_range_peaks s_range_windsTold, ai d (a 11) 6 s_range_kinds, ai d (a 13) 12 s_range_winds, oX3 (a 14) (a 15), ai d (a 15) 42 s_now_cells, oX3 (a 16) (a 17), ai d (a 17) 42 s_trial_cells]) := by
  refine sx_it_run (bX4_goes_39 s_range_peaks s_range_windsTold s_range_kinds s_range_winds v1 v2) (fun s => match s with | (v3, s_trial_cells) => sx_G d κ 4 0 0 39 [some (.ref (a 0)), some (.int v1), some (.int v2), some (.int v3)] [] [oX4 a s_saidOn s_saidOff s_saidCount, oX1 (a 10) (a 11) (a 12) (a 13) s_range_peaks s_range_windsTold, ai d (a 11) 6 s_range_kinds, ai d (a 13) 12 s_range_winds, oX3 (a 14) (a 15), ai d (a 15) 42 s_now_cells, oX3 (a 16) (a 17), ai d (a 17) 42 s_trial_cells]) y ?_
  rintro ⟨v3, s_trial_cells⟩ x hf hb he
  show sx_G d κ 4 0 0 39 [some (.ref (a 0)), some (.int v1), some (.int v2), some (.int v3)] [] [oX4 a s_saidOn s_saidOff s_saidCount, oX1 (a 10) (a 11) (a 12) (a 13) s_range_peaks s_range_windsTold, ai d (a 11) 6 s_range_kinds, ai d (a 13) 12 s_range_winds, oX3 (a 14) (a 15), ai d (a 15) 42 s_now_cells, oX3 (a 16) (a 17), ai d (a 17) 42 s_trial_cells]
  unfold bX4_goes_39 at hf
  refine g_iload_n (pc' := 40) X dX4_goes_39 rfl rfl rfl ?_
  refine g_bipush (v := 60) (pc' := 42) X dX4_goes_40 rfl (by decide) ?_
  refine g_icmp_gt (tgt := 76) (pc' := 45) X dX4_goes_42 (by decide) rfl hf (fun hf => ?_) (fun hf => ?_)
  · exact sx_weak [false, false, false, false] rfl (hE76 _ (sx_ex hf he))
  · refine g_aload_n (pc' := 46) X dX4_goes_45 rfl rfl rfl ?_
    refine g_get (pc' := 49) X fl_X4_30 dX4_goes_46 rfl 0 rfl rfl ?_
    refine g_aload_n (pc' := 50) X dX4_goes_49 rfl rfl rfl ?_
    refine g_get (pc' := 53) X fl_X4_19 dX4_goes_50 rfl 0 rfl rfl ?_
    refine g_callVv1 (pc' := 56) (As := [.ref (a 10)]) (b := (a 16)) (st := []) (w2 := fun o4 => [oX4 a s_saidOn s_saidOff s_saidCount, oX1 (a 10) (a 11) (a 12) (a 13) s_range_peaks s_range_windsTold, ai d (a 11) 6 s_range_kinds, ai d (a 13) 12 s_range_winds, oX3 (a 14) (a 15), ai d (a 15) 42 s_now_cells, oX3 (a 16) (a 17), ai d (a 17) 42 o4]) X lk_X4_179 dX4_goes_53 rfl rfl rfl (Nat.le_of_ble_eq_true rfl) ⟨Nat.le_of_ble_eq_true rfl, Nat.le_of_ble_eq_true rfl, Nat.le_of_ble_eq_true rfl, Nat.le_of_ble_eq_true rfl⟩ rfl [6, 7, 1, 2, 3] (by decide) rfl hf (fun l o4 h => ctX3_letYearGoBy l d (a 16) (a 17) (a 10) (a 11) (a 12) (a 13) s_trial_cells s_range_peaks s_range_windsTold s_range_kinds s_range_winds o4 h) (fun _ => rfl) (fun _ => rfl) (fun o4 hf => ?_)
    refine g_aload_n (pc' := 57) X dX4_goes_56 rfl rfl rfl ?_
    refine g_get (pc' := 60) X fl_X4_30 dX4_goes_57 rfl 0 rfl rfl ?_
    refine g_iload_n (pc' := 61) X dX4_goes_60 rfl rfl rfl ?_
    refine g_iload_n (pc' := 62) X dX4_goes_61 rfl rfl rfl ?_
    refine g_callVi0 (pc' := 65) (As := [.int v1, .int v2]) (b := (a 16)) (st := []) (w2 := fun x5 => [oX4 a s_saidOn s_saidOff s_saidCount, oX1 (a 10) (a 11) (a 12) (a 13) s_range_peaks s_range_windsTold, ai d (a 11) 6 s_range_kinds, ai d (a 13) 12 s_range_winds, oX3 (a 14) (a 15), ai d (a 15) 42 s_now_cells, oX3 (a 16) (a 17), ai d (a 17) 42 o4]) X lk_X4_140 dX4_goes_62 rfl rfl rfl (Nat.le_of_ble_eq_true rfl) ⟨Nat.le_of_ble_eq_true rfl, Nat.le_of_ble_eq_true rfl, Nat.le_of_ble_eq_true rfl, Nat.le_of_ble_eq_true rfl⟩ rfl [6, 7] (by decide) rfl hf (fun l x5 h => ctX3_isOn l d (a 16) (a 17) o4 v1 v2 x5 h) (fun _ => rfl) (fun _ => rfl) (fun x5 hnx5 hf => ?_)
    refine g_if_ne (tgt := 70) (pc' := 68) X dX4_goes_65 (by decide) rfl hf (fun hf => ?_) (fun hf => ?_)
    · refine g_iinc (v := 1) (lv' := [some (.ref (a 0)), some (.int v1), some (.int v2), some (.int (v3 + (1 : Int32)))]) (pc' := 73) X dX4_goes_70 rfl rfl (by decide) (by decide) rfl rfl ?_
      refine g_goto (tgt := 39) X dX4_goes_73 (by decide) ?_
      have hk := sx_bk hf hb
      exact sx_weak [true, true, true, true] rfl hk
    · exact sx_weak [false, false, false, true] rfl (hE68 _ _ (sx_ex hf he))
set_option maxHeartbeats 4000000 in
set_option maxRecDepth 100000 in
theorem ctX4_goes (l : Launch) (d : sx_D) (a : Nat → Nat) (s_saidOn : Int32) (s_saidOff : Int32) (s_saidCount : Int32) (s_range_peaks : Int32) (s_range_windsTold : Int32) (s_range_kinds : Nat → Int32) (s_range_winds : Nat → Int32) (s_now_cells : Nat → Int32) (s_trial_cells : Nat → Int32) (v1 : Int32) (v2 : Int32) (r : Int32) (ro1 : Nat → Int32) (hf : fX4_goes s_range_peaks s_range_windsTold s_range_kinds s_range_winds s_now_cells s_trial_cells v1 v2 = some (r, ro1)) : sx_I l d yX4_goes cX4_goes 4 .int 5 [.ref (a 0), .int v1, .int v2] [oX4 a s_saidOn s_saidOff s_saidCount, oX1 (a 10) (a 11) (a 12) (a 13) s_range_peaks s_range_windsTold, ai d (a 11) 6 s_range_kinds, ai d (a 13) 12 s_range_winds, oX3 (a 14) (a 15), ai d (a 15) 42 s_now_cells, oX3 (a 16) (a 17), ai d (a 17) 42 s_trial_cells] [oX4 a s_saidOn s_saidOff s_saidCount, oX1 (a 10) (a 11) (a 12) (a 13) s_range_peaks s_range_windsTold, ai d (a 11) 6 s_range_kinds, ai d (a 13) 12 s_range_winds, oX3 (a 14) (a 15), ai d (a 15) 42 s_now_cells, oX3 (a 16) (a 17), ai d (a 17) 42 ro1] r := by
  refine sx_I.intro (lv0 := [some (.ref (a 0)), some (.int v1), some (.int v2), none]) (by decide +kernel) (Nat.le_of_ble_eq_true rfl) rfl ?_
  intro κ X hR
  have X : sx_X d κ cX4_goes 4 RX4 (sx_rm 5) := X
  unfold fX4_goes at hf
  refine g_aload_n (pc' := 1) X dX4_goes_0 rfl rfl rfl ?_
  refine g_iload_n (pc' := 2) X dX4_goes_1 rfl rfl rfl ?_
  refine g_iload_n (pc' := 3) X dX4_goes_2 rfl rfl rfl ?_
  refine g_callVi0 (pc' := 6) (As := [.int v1, .int v2]) (b := (a 0)) (st := []) (w2 := fun x1 => [oX4 a s_saidOn s_saidOff s_saidCount, oX1 (a 10) (a 11) (a 12) (a 13) s_range_peaks s_range_windsTold, ai d (a 11) 6 s_range_kinds, ai d (a 13) 12 s_range_winds, oX3 (a 14) (a 15), ai d (a 15) 42 s_now_cells, oX3 (a 16) (a 17), ai d (a 17) 42 s_trial_cells]) X lk_X4_113 dX4_goes_3 rfl rfl rfl (Nat.le_of_ble_eq_true rfl) ⟨Nat.le_of_ble_eq_true rfl, Nat.le_of_ble_eq_true rfl, Nat.le_of_ble_eq_true rfl, Nat.le_of_ble_eq_true rfl⟩ rfl [0, 1] (by decide) rfl hf (fun l x1 h => ctX4_isPlace l d a s_saidOn s_saidOff s_saidCount s_range_peaks s_range_windsTold v1 v2 x1 h) (fun _ => rfl) (fun _ => rfl) (fun x1 hnx1 hf => ?_)
  refine g_if_ne (tgt := 11) (pc' := 9) X dX4_goes_6 (by decide) rfl hf (fun hf => ?_) (fun hf => ?_)
  · refine g_aload_n (pc' := 12) X dX4_goes_11 rfl rfl rfl ?_
    refine g_get (pc' := 15) X fl_X4_26 dX4_goes_12 rfl 0 rfl rfl ?_
    refine g_iload_n (pc' := 16) X dX4_goes_15 rfl rfl rfl ?_
    refine g_iload_n (pc' := 17) X dX4_goes_16 rfl rfl rfl ?_
    refine g_callVi0 (pc' := 20) (As := [.int v1, .int v2]) (b := (a 14)) (st := []) (w2 := fun x2 => [oX4 a s_saidOn s_saidOff s_saidCount, oX1 (a 10) (a 11) (a 12) (a 13) s_range_peaks s_range_windsTold, ai d (a 11) 6 s_range_kinds, ai d (a 13) 12 s_range_winds, oX3 (a 14) (a 15), ai d (a 15) 42 s_now_cells, oX3 (a 16) (a 17), ai d (a 17) 42 s_trial_cells]) X lk_X4_140 dX4_goes_17 rfl rfl rfl (Nat.le_of_ble_eq_true rfl) ⟨Nat.le_of_ble_eq_true rfl, Nat.le_of_ble_eq_true rfl, Nat.le_of_ble_eq_true rfl, Nat.le_of_ble_eq_true rfl⟩ rfl [4, 5] (by decide) rfl hf (fun l x2 h => ctX3_isOn l d (a 14) (a 15) s_now_cells v1 v2 x2 h) (fun _ => rfl) (fun _ => rfl) (fun x2 hnx2 hf => ?_)
    refine g_if_ne (tgt := 26) (pc' := 23) X dX4_goes_20 (by decide) rfl hf (fun hf => ?_) (fun hf => ?_)
    · refine g_aload_n (pc' := 27) X dX4_goes_26 rfl rfl rfl ?_
      refine g_get (pc' := 30) X fl_X4_30 dX4_goes_27 rfl 0 rfl rfl ?_
      refine g_aload_n (pc' := 31) X dX4_goes_30 rfl rfl rfl ?_
      refine g_get (pc' := 34) X fl_X4_26 dX4_goes_31 rfl 0 rfl rfl ?_
      refine g_callVv1 (pc' := 37) (As := [.ref (a 14)]) (b := (a 16)) (st := []) (w2 := fun o3 => [oX4 a s_saidOn s_saidOff s_saidCount, oX1 (a 10) (a 11) (a 12) (a 13) s_range_peaks s_range_windsTold, ai d (a 11) 6 s_range_kinds, ai d (a 13) 12 s_range_winds, oX3 (a 14) (a 15), ai d (a 15) 42 s_now_cells, oX3 (a 16) (a 17), ai d (a 17) 42 o3]) X lk_X4_176 dX4_goes_34 rfl rfl rfl (Nat.le_of_ble_eq_true rfl) ⟨Nat.le_of_ble_eq_true rfl, Nat.le_of_ble_eq_true rfl, Nat.le_of_ble_eq_true rfl, Nat.le_of_ble_eq_true rfl⟩ rfl [6, 7, 4, 5] (by decide) rfl hf (fun l o3 h => ctX3_become l d (a 16) (a 17) (a 14) (a 15) s_trial_cells s_now_cells o3 h) (fun _ => rfl) (fun _ => rfl) (fun o3 hf => ?_)
      refine g_iconst (v := 1) (pc' := 38) X dX4_goes_37 rfl (by decide) ?_
      refine g_istore_n (lv' := [some (.ref (a 0)), some (.int v1), some (.int v2), some (.int (1 : Int32))]) (pc' := 39) X dX4_goes_38 rfl rfl (by decide) rfl rfl ?_
      obtain ⟨y6, hy6, hf⟩ := sx_bd hf
      refine sx_weak [true, true, true, true] rfl (lX4_goes_39 d κ a s_saidOn s_saidOff s_saidCount s_range_peaks s_range_windsTold s_range_kinds s_range_winds s_now_cells v1 v2 X y6 ?_ ?_ 1000 ((1 : Int32), o3) hy6)
      · rintro w7 w8 rfl
        refine g_iload_n (pc' := 69) X dX4_goes_68 rfl rfl rfl ?_
        cases hf
        exact hR _ _ dX4_goes_69 rfl
      · rintro w9 rfl
        refine g_bipush (v := -4) (pc' := 78) X dX4_goes_76 rfl (by decide) ?_
        cases hf
        exact hR _ _ dX4_goes_78 rfl
    · refine g_bipush (v := -2) (pc' := 25) X dX4_goes_23 rfl (by decide) ?_
      cases hf
      exact hR _ _ dX4_goes_25 rfl
  · refine g_iconst (v := -1) (pc' := 10) X dX4_goes_9 rfl (by decide) ?_
    cases hf
    exact hR _ _ dX4_goes_10 rfl
-- X4_pinsToHold
def bX4_pinsToHold_10 (s_range_peaks : Int32) (s_range_windsTold : Int32) (s_range_kinds : Nat → Int32) (s_range_winds : Nat → Int32) (s_now_cells : Nat → Int32) (v1 : Int32) (v2 : Int32) (v3 : Int32) : (Int32 × Int32) → Option ((Int32 × Int32) ⊕ (Int32)) := fun (v4, v5) =>
  if v2 ≤ v5 then
    some (.inr v4)
  else
    (fX3_yearNow s_now_cells).bind fun x2 =>
    (fX1_windIn s_range_windsTold s_range_winds (x2 + v5)).bind fun x3 =>
    (fX1_forceAt s_range_peaks s_range_kinds v1 x3).bind fun x4 =>
    sx_lt (if v4 < (x4 + (v3 * v5)) then (x4 + (v3 * v5)) else v4) fun x5 =>
    some (.inl (x5, v5 + (1 : Int32)))
def fX4_pinsToHold (s_range_peaks : Int32) (s_range_windsTold : Int32) (s_range_kinds : Nat → Int32) (s_range_winds : Nat → Int32) (s_now_cells : Nat → Int32) (v1 : Int32) (v2 : Int32) (v3 : Int32) : Option (Int32) :=
  sx_lt ((v3 * v2) + (1 : Int32)) fun x1 =>
  (sx_it 1000 (bX4_pinsToHold_10 s_range_peaks s_range_windsTold s_range_kinds s_range_winds s_now_cells v1 v2 v3) (x1, (0 : Int32))).bind fun w7 =>
  some w7
set_option maxHeartbeats 4000000 in
set_option maxRecDepth 100000 in
theorem lX4_pinsToHold_10 (d : sx_D) (κ : sx_C) (a : Nat → Nat) (s_saidOn : Int32) (s_saidOff : Int32) (s_saidCount : Int32) (s_range_peaks : Int32) (s_range_windsTold : Int32) (s_range_kinds : Nat → Int32) (s_range_winds : Nat → Int32) (s_now_cells : Nat → Int32) (v1 : Int32) (v2 : Int32) (v3 : Int32) (X : sx_X d κ cX4_pinsToHold 7 RX4 (sx_rm 3)) (y : Int32) (hE63 : ∀ (v4 : Int32), v4 = y → sx_G d κ 7 0 0 63 [none, none, none, none, some (.int v4), none, none] [] [oX4 a s_saidOn s_saidOff s_saidCount, oX1 (a 10) (a 11) (a 12) (a 13) s_range_peaks s_range_windsTold, ai d (a 11) 6 s_range_kinds, ai d (a 13) 12 s_range_winds, oX3 (a 14) (a 15), ai d (a 15) 42 s_now_cells]) : ∀ (n : Nat) (s : Int32 × Int32), sx_it n (bX4_pinsToHold_10 s_range_peaks s_range_windsTold s_range_kinds s_range_winds s_now_cells v1 v2 v3) s = some y → (match s with | (v4, v5) => sx_G d κ 7 0 0 10 [some (.ref (a 0)), some (.int v1), some (.int v2), some (.int v3), some (.int v4), some (.int v5), none] [] [oX4 a s_saidOn s_saidOff s_saidCount, oX1 (a 10) (a 11) (a 12) (a 13) s_range_peaks s_range_windsTold, ai d (a 11) 6 s_range_kinds, ai d (a 13) 12 s_range_winds, oX3 (a 14) (a 15), ai d (a 15) 42 s_now_cells]) := by
  refine sx_it_run (bX4_pinsToHold_10 s_range_peaks s_range_windsTold s_range_kinds s_range_winds s_now_cells v1 v2 v3) (fun s => match s with | (v4, v5) => sx_G d κ 7 0 0 10 [some (.ref (a 0)), some (.int v1), some (.int v2), some (.int v3), some (.int v4), some (.int v5), none] [] [oX4 a s_saidOn s_saidOff s_saidCount, oX1 (a 10) (a 11) (a 12) (a 13) s_range_peaks s_range_windsTold, ai d (a 11) 6 s_range_kinds, ai d (a 13) 12 s_range_winds, oX3 (a 14) (a 15), ai d (a 15) 42 s_now_cells]) y ?_
  rintro ⟨v4, v5⟩ x hf hb he
  show sx_G d κ 7 0 0 10 [some (.ref (a 0)), some (.int v1), some (.int v2), some (.int v3), some (.int v4), some (.int v5), none] [] [oX4 a s_saidOn s_saidOff s_saidCount, oX1 (a 10) (a 11) (a 12) (a 13) s_range_peaks s_range_windsTold, ai d (a 11) 6 s_range_kinds, ai d (a 13) 12 s_range_winds, oX3 (a 14) (a 15), ai d (a 15) 42 s_now_cells]
  unfold bX4_pinsToHold_10 at hf
  refine g_iload (pc' := 12) X dX4_pinsToHold_10 rfl rfl ?_
  refine g_iload_n (pc' := 13) X dX4_pinsToHold_12 rfl rfl rfl ?_
  refine g_icmp_ge (tgt := 63) (pc' := 16) X dX4_pinsToHold_13 (by decide) rfl hf (fun hf => ?_) (fun hf => ?_)
  · exact sx_weak [false, false, false, false, true, false, true] rfl (hE63 _ (sx_ex hf he))
  · refine g_aload_n (pc' := 17) X dX4_pinsToHold_16 rfl rfl rfl ?_
    refine g_get (pc' := 20) X fl_X4_19 dX4_pinsToHold_17 rfl 0 rfl rfl ?_
    refine g_iload_n (pc' := 21) X dX4_pinsToHold_20 rfl rfl rfl ?_
    refine g_aload_n (pc' := 22) X dX4_pinsToHold_21 rfl rfl rfl ?_
    refine g_get (pc' := 25) X fl_X4_19 dX4_pinsToHold_22 rfl 0 rfl rfl ?_
    refine g_aload_n (pc' := 26) X dX4_pinsToHold_25 rfl rfl rfl ?_
    refine g_get (pc' := 29) X fl_X4_26 dX4_pinsToHold_26 rfl 0 rfl rfl ?_
    refine g_callVi0 (pc' := 32) (As := []) (b := (a 14)) (st := [.ref (a 10), .int v1, .ref (a 10)]) (w2 := fun x2 => [oX4 a s_saidOn s_saidOff s_saidCount, oX1 (a 10) (a 11) (a 12) (a 13) s_range_peaks s_range_windsTold, ai d (a 11) 6 s_range_kinds, ai d (a 13) 12 s_range_winds, oX3 (a 14) (a 15), ai d (a 15) 42 s_now_cells]) X lk_X4_100 dX4_pinsToHold_29 rfl rfl rfl (Nat.le_of_ble_eq_true rfl) ⟨Nat.le_of_ble_eq_true rfl, Nat.le_of_ble_eq_true rfl, Nat.le_of_ble_eq_true rfl, Nat.le_of_ble_eq_true rfl⟩ rfl [4, 5] (by decide) rfl hf (fun l x2 h => ctX3_yearNow l d (a 14) (a 15) s_now_cells x2 h) (fun _ => rfl) (fun _ => rfl) (fun x2 hnx2 hf => ?_)
    refine g_iload (pc' := 34) X dX4_pinsToHold_32 rfl rfl ?_
    refine g_iadd (pc' := 35) X dX4_pinsToHold_34 rfl ?_
    refine g_callVi0 (pc' := 38) (As := [.int (x2 + v5)]) (b := (a 10)) (st := [.int v1, .ref (a 10)]) (w2 := fun x3 => [oX4 a s_saidOn s_saidOff s_saidCount, oX1 (a 10) (a 11) (a 12) (a 13) s_range_peaks s_range_windsTold, ai d (a 11) 6 s_range_kinds, ai d (a 13) 12 s_range_winds, oX3 (a 14) (a 15), ai d (a 15) 42 s_now_cells]) X lk_X4_103 dX4_pinsToHold_35 rfl rfl rfl (Nat.le_of_ble_eq_true rfl) ⟨Nat.le_of_ble_eq_true rfl, Nat.le_of_ble_eq_true rfl, Nat.le_of_ble_eq_true rfl, Nat.le_of_ble_eq_true rfl⟩ rfl [1, 3] (by decide) rfl hf (fun l x3 h => ctX1_windIn l d (a 10) (a 11) (a 12) (a 13) s_range_peaks s_range_windsTold s_range_winds (x2 + v5) x3 h) (fun _ => rfl) (fun _ => rfl) (fun x3 hnx3 hf => ?_)
    refine g_callVi0 (pc' := 41) (As := [.int v1, .int x3]) (b := (a 10)) (st := []) (w2 := fun x4 => [oX4 a s_saidOn s_saidOff s_saidCount, oX1 (a 10) (a 11) (a 12) (a 13) s_range_peaks s_range_windsTold, ai d (a 11) 6 s_range_kinds, ai d (a 13) 12 s_range_winds, oX3 (a 14) (a 15), ai d (a 15) 42 s_now_cells]) X lk_X4_106 dX4_pinsToHold_38 rfl rfl rfl (Nat.le_of_ble_eq_true rfl) ⟨Nat.le_of_ble_eq_true rfl, Nat.le_of_ble_eq_true rfl, Nat.le_of_ble_eq_true rfl, Nat.le_of_ble_eq_true rfl⟩ rfl [1, 2] (by decide) rfl hf (fun l x4 h => ctX1_forceAt l d (a 10) (a 11) (a 12) (a 13) s_range_peaks s_range_windsTold s_range_kinds v1 x3 x4 h) (fun _ => rfl) (fun _ => rfl) (fun x4 hnx4 hf => ?_)
    refine g_istore (lv' := [some (.ref (a 0)), some (.int v1), some (.int v2), some (.int v3), some (.int v4), some (.int v5), some (.int x4)]) (pc' := 43) X dX4_pinsToHold_41 rfl (by decide) rfl rfl ?_
    refine g_iload (pc' := 45) X dX4_pinsToHold_43 rfl rfl ?_
    refine g_iload (pc' := 47) X dX4_pinsToHold_45 rfl rfl ?_
    refine g_iload_n (pc' := 48) X dX4_pinsToHold_47 rfl rfl rfl ?_
    refine g_iload (pc' := 50) X dX4_pinsToHold_48 rfl rfl ?_
    refine g_imul (pc' := 51) X dX4_pinsToHold_50 rfl ?_
    refine g_iadd (pc' := 52) X dX4_pinsToHold_51 rfl ?_
    refine g_max (pc' := 55) X mx_X4_268 dX4_pinsToHold_52 rfl ⟨Nat.le_of_ble_eq_true rfl, Nat.le_of_ble_eq_true rfl, Nat.le_of_ble_eq_true rfl, Nat.le_of_ble_eq_true rfl⟩ ?_
    refine g_istoreN (lv' := fun x5 => [some (.ref (a 0)), some (.int v1), some (.int v2), some (.int v3), some (.int x5), some (.int v5), some (.int x4)]) (pc' := 57) X dX4_pinsToHold_55 rfl (by decide) rfl (fun _ => rfl) hf (fun x5 hf => ?_)
    refine g_iinc (v := 1) (lv' := [some (.ref (a 0)), some (.int v1), some (.int v2), some (.int v3), some (.int x5), some (.int (v5 + (1 : Int32))), some (.int x4)]) (pc' := 60) X dX4_pinsToHold_57 rfl rfl (by decide) (by decide) rfl rfl ?_
    refine g_goto (tgt := 10) X dX4_pinsToHold_60 (by decide) ?_
    have hk := sx_bk hf hb
    exact sx_weak [true, true, true, true, true, true, false] rfl hk
set_option maxHeartbeats 4000000 in
set_option maxRecDepth 100000 in
theorem ctX4_pinsToHold (l : Launch) (d : sx_D) (a : Nat → Nat) (s_saidOn : Int32) (s_saidOff : Int32) (s_saidCount : Int32) (s_range_peaks : Int32) (s_range_windsTold : Int32) (s_range_kinds : Nat → Int32) (s_range_winds : Nat → Int32) (s_now_cells : Nat → Int32) (v1 : Int32) (v2 : Int32) (v3 : Int32) (r : Int32) (hf : fX4_pinsToHold s_range_peaks s_range_windsTold s_range_kinds s_range_winds s_now_cells v1 v2 v3 = some r) : sx_I l d yX4_pinsToHold cX4_pinsToHold 7 .int 3 [.ref (a 0), .int v1, .int v2, .int v3] [oX4 a s_saidOn s_saidOff s_saidCount, oX1 (a 10) (a 11) (a 12) (a 13) s_range_peaks s_range_windsTold, ai d (a 11) 6 s_range_kinds, ai d (a 13) 12 s_range_winds, oX3 (a 14) (a 15), ai d (a 15) 42 s_now_cells] [oX4 a s_saidOn s_saidOff s_saidCount, oX1 (a 10) (a 11) (a 12) (a 13) s_range_peaks s_range_windsTold, ai d (a 11) 6 s_range_kinds, ai d (a 13) 12 s_range_winds, oX3 (a 14) (a 15), ai d (a 15) 42 s_now_cells] r := by
  refine sx_I.intro (lv0 := [some (.ref (a 0)), some (.int v1), some (.int v2), some (.int v3), none, none, none]) (by decide +kernel) (Nat.le_of_ble_eq_true rfl) rfl ?_
  intro κ X hR
  have X : sx_X d κ cX4_pinsToHold 7 RX4 (sx_rm 3) := X
  unfold fX4_pinsToHold at hf
  refine g_iload_n (pc' := 1) X dX4_pinsToHold_0 rfl rfl rfl ?_
  refine g_iload_n (pc' := 2) X dX4_pinsToHold_1 rfl rfl rfl ?_
  refine g_imul (pc' := 3) X dX4_pinsToHold_2 rfl ?_
  refine g_iconst (v := 1) (pc' := 4) X dX4_pinsToHold_3 rfl (by decide) ?_
  refine g_iadd (pc' := 5) X dX4_pinsToHold_4 rfl ?_
  refine g_istoreN (lv' := fun x1 => [some (.ref (a 0)), some (.int v1), some (.int v2), some (.int v3), some (.int x1), none, none]) (pc' := 7) X dX4_pinsToHold_5 rfl (by decide) rfl (fun _ => rfl) hf (fun x1 hf => ?_)
  refine g_iconst (v := 0) (pc' := 8) X dX4_pinsToHold_7 rfl (by decide) ?_
  refine g_istore (lv' := [some (.ref (a 0)), some (.int v1), some (.int v2), some (.int v3), some (.int x1), some (.int (0 : Int32)), none]) (pc' := 10) X dX4_pinsToHold_8 rfl (by decide) rfl rfl ?_
  obtain ⟨y6, hy6, hf⟩ := sx_bd hf
  refine sx_weak [true, true, true, true, true, true, true] rfl (lX4_pinsToHold_10 d κ a s_saidOn s_saidOff s_saidCount s_range_peaks s_range_windsTold s_range_kinds s_range_winds s_now_cells v1 v2 v3 X y6 ?_ 1000 (x1, (0 : Int32)) hy6)
  rintro w7 rfl
  refine g_iload (pc' := 65) X dX4_pinsToHold_63 rfl rfl ?_
  cases hf
  exact hR _ _ dX4_pinsToHold_65 rfl
-- X4_pinsMoreAt
def bX4_pinsMoreAt_23 (s_range_peaks : Int32) (s_range_windsTold : Int32) (s_range_kinds : Nat → Int32) (s_range_winds : Nat → Int32) (s_now_cells : Nat → Int32) (v1 : Int32) (v2 : Int32) : (Int32 × Int32 × Int32) → Option ((Int32 × Int32 × Int32) ⊕ (Int32)) := fun (v3, v4, v5) =>
  if (5 : Int32) ≤ v5 then
    some (.inr v3)
  else
    (fX3_isOn s_now_cells v1 v5).bind fun x2 =>
    if x2 = 0 then
      some (.inl (v3, v4, v5 + (1 : Int32)))
    else
      (fX4_pinsToHold s_range_peaks s_range_windsTold s_range_kinds s_range_winds s_now_cells v1 v2 v4).bind fun x3 =>
      (fX3_pinsOn s_now_cells v1 v5).bind fun x4 =>
      sx_lt (v3 + (if (0 : Int32) < (x3 - x4) then (x3 - x4) else (0 : Int32))) fun x5 =>
      some (.inl (x5, (1 : Int32), v5 + (1 : Int32)))
def jX4_pinsMoreAt_18 (s_range_peaks : Int32) (s_range_windsTold : Int32) (s_range_kinds : Nat → Int32) (s_range_winds : Nat → Int32) (s_now_cells : Nat → Int32) (v1 : Int32) (v2 : Int32) (v3 : Int32) (t0 : Int32) : Option (Int32) :=
  (sx_it 1000 (bX4_pinsMoreAt_23 s_range_peaks s_range_windsTold s_range_kinds s_range_winds s_now_cells v1 v2) (v3, t0, (0 : Int32))).bind fun w7 =>
  some w7
def fX4_pinsMoreAt (s_range_peaks : Int32) (s_range_windsTold : Int32) (s_range_kinds : Nat → Int32) (s_range_winds : Nat → Int32) (s_now_cells : Nat → Int32) (v1 : Int32) (v2 : Int32) : Option (Int32) :=
  (fX1_hasGoats s_range_peaks s_range_kinds v1).bind fun x1 =>
  if x1 = 0 then
    jX4_pinsMoreAt_18 s_range_peaks s_range_windsTold s_range_kinds s_range_winds s_now_cells v1 v2 (0 : Int32) (1 : Int32)
  else
    jX4_pinsMoreAt_18 s_range_peaks s_range_windsTold s_range_kinds s_range_winds s_now_cells v1 v2 (0 : Int32) (2 : Int32)
set_option maxHeartbeats 4000000 in
set_option maxRecDepth 100000 in
theorem lX4_pinsMoreAt_23 (d : sx_D) (κ : sx_C) (a : Nat → Nat) (s_saidOn : Int32) (s_saidOff : Int32) (s_saidCount : Int32) (s_range_peaks : Int32) (s_range_windsTold : Int32) (s_range_kinds : Nat → Int32) (s_range_winds : Nat → Int32) (s_now_cells : Nat → Int32) (v1 : Int32) (v2 : Int32) (X : sx_X d κ cX4_pinsMoreAt 6 RX4 (sx_rm 4)) (y : Int32) (hE77 : ∀ (v3 : Int32), v3 = y → sx_G d κ 6 0 0 77 [none, none, none, some (.int v3), none, none] [] [oX4 a s_saidOn s_saidOff s_saidCount, oX1 (a 10) (a 11) (a 12) (a 13) s_range_peaks s_range_windsTold, ai d (a 11) 6 s_range_kinds, ai d (a 13) 12 s_range_winds, oX3 (a 14) (a 15), ai d (a 15) 42 s_now_cells]) : ∀ (n : Nat) (s : Int32 × Int32 × Int32), sx_it n (bX4_pinsMoreAt_23 s_range_peaks s_range_windsTold s_range_kinds s_range_winds s_now_cells v1 v2) s = some y → (match s with | (v3, v4, v5) => sx_G d κ 6 0 0 23 [some (.ref (a 0)), some (.int v1), some (.int v2), some (.int v3), some (.int v4), some (.int v5)] [] [oX4 a s_saidOn s_saidOff s_saidCount, oX1 (a 10) (a 11) (a 12) (a 13) s_range_peaks s_range_windsTold, ai d (a 11) 6 s_range_kinds, ai d (a 13) 12 s_range_winds, oX3 (a 14) (a 15), ai d (a 15) 42 s_now_cells]) := by
  refine sx_it_run (bX4_pinsMoreAt_23 s_range_peaks s_range_windsTold s_range_kinds s_range_winds s_now_cells v1 v2) (fun s => match s with | (v3, v4, v5) => sx_G d κ 6 0 0 23 [some (.ref (a 0)), some (.int v1), some (.int v2), some (.int v3), some (.int v4), some (.int v5)] [] [oX4 a s_saidOn s_saidOff s_saidCount, oX1 (a 10) (a 11) (a 12) (a 13) s_range_peaks s_range_windsTold, ai d (a 11) 6 s_range_kinds, ai d (a 13) 12 s_range_winds, oX3 (a 14) (a 15), ai d (a 15) 42 s_now_cells]) y ?_
  rintro ⟨v3, v4, v5⟩ x hf hb he
  show sx_G d κ 6 0 0 23 [some (.ref (a 0)), some (.int v1), some (.int v2), some (.int v3), some (.int v4), some (.int v5)] [] [oX4 a s_saidOn s_saidOff s_saidCount, oX1 (a 10) (a 11) (a 12) (a 13) s_range_peaks s_range_windsTold, ai d (a 11) 6 s_range_kinds, ai d (a 13) 12 s_range_winds, oX3 (a 14) (a 15), ai d (a 15) 42 s_now_cells]
  unfold bX4_pinsMoreAt_23 at hf
  refine g_iload (pc' := 25) X dX4_pinsMoreAt_23 rfl rfl ?_
  refine g_iconst (v := 5) (pc' := 26) X dX4_pinsMoreAt_25 rfl (by decide) ?_
  refine g_icmp_ge (tgt := 77) (pc' := 29) X dX4_pinsMoreAt_26 (by decide) rfl hf (fun hf => ?_) (fun hf => ?_)
  · exact sx_weak [false, false, false, true, false, false] rfl (hE77 _ (sx_ex hf he))
  · refine g_aload_n (pc' := 30) X dX4_pinsMoreAt_29 rfl rfl rfl ?_
    refine g_get (pc' := 33) X fl_X4_26 dX4_pinsMoreAt_30 rfl 0 rfl rfl ?_
    refine g_iload_n (pc' := 34) X dX4_pinsMoreAt_33 rfl rfl rfl ?_
    refine g_iload (pc' := 36) X dX4_pinsMoreAt_34 rfl rfl ?_
    refine g_callVi0 (pc' := 39) (As := [.int v1, .int v5]) (b := (a 14)) (st := []) (w2 := fun x2 => [oX4 a s_saidOn s_saidOff s_saidCount, oX1 (a 10) (a 11) (a 12) (a 13) s_range_peaks s_range_windsTold, ai d (a 11) 6 s_range_kinds, ai d (a 13) 12 s_range_winds, oX3 (a 14) (a 15), ai d (a 15) 42 s_now_cells]) X lk_X4_140 dX4_pinsMoreAt_36 rfl rfl rfl (Nat.le_of_ble_eq_true rfl) ⟨Nat.le_of_ble_eq_true rfl, Nat.le_of_ble_eq_true rfl, Nat.le_of_ble_eq_true rfl, Nat.le_of_ble_eq_true rfl⟩ rfl [4, 5] (by decide) rfl hf (fun l x2 h => ctX3_isOn l d (a 14) (a 15) s_now_cells v1 v5 x2 h) (fun _ => rfl) (fun _ => rfl) (fun x2 hnx2 hf => ?_)
    refine g_if_eq (tgt := 71) (pc' := 42) X dX4_pinsMoreAt_39 (by decide) rfl hf (fun hf => ?_) (fun hf => ?_)
    · refine g_iinc (v := 1) (lv' := [some (.ref (a 0)), some (.int v1), some (.int v2), some (.int v3), some (.int v4), some (.int (v5 + (1 : Int32)))]) (pc' := 74) X dX4_pinsMoreAt_71 rfl rfl (by decide) (by decide) rfl rfl ?_
      refine g_goto (tgt := 23) X dX4_pinsMoreAt_74 (by decide) ?_
      have hk := sx_bk hf hb
      exact sx_weak [true, true, true, true, true, true] rfl hk
    · refine g_iload_n (pc' := 43) X dX4_pinsMoreAt_42 rfl rfl rfl ?_
      refine g_iconst (v := 0) (pc' := 44) X dX4_pinsMoreAt_43 rfl (by decide) ?_
      refine g_aload_n (pc' := 45) X dX4_pinsMoreAt_44 rfl rfl rfl ?_
      refine g_iload_n (pc' := 46) X dX4_pinsMoreAt_45 rfl rfl rfl ?_
      refine g_iload_n (pc' := 47) X dX4_pinsMoreAt_46 rfl rfl rfl ?_
      refine g_iload (pc' := 49) X dX4_pinsMoreAt_47 rfl rfl ?_
      refine g_callVi0 (pc' := 52) (As := [.int v1, .int v2, .int v4]) (b := (a 0)) (st := [.int (0 : Int32), .int v3]) (w2 := fun x3 => [oX4 a s_saidOn s_saidOff s_saidCount, oX1 (a 10) (a 11) (a 12) (a 13) s_range_peaks s_range_windsTold, ai d (a 11) 6 s_range_kinds, ai d (a 13) 12 s_range_winds, oX3 (a 14) (a 15), ai d (a 15) 42 s_now_cells]) X lk_X4_265 dX4_pinsMoreAt_49 rfl rfl rfl (Nat.le_of_ble_eq_true rfl) ⟨Nat.le_of_ble_eq_true rfl, Nat.le_of_ble_eq_true rfl, Nat.le_of_ble_eq_true rfl, Nat.le_of_ble_eq_true rfl⟩ rfl [0, 1, 2, 3, 4, 5] (by decide) rfl hf (fun l x3 h => ctX4_pinsToHold l d a s_saidOn s_saidOff s_saidCount s_range_peaks s_range_windsTold s_range_kinds s_range_winds s_now_cells v1 v2 v4 x3 h) (fun _ => rfl) (fun _ => rfl) (fun x3 hnx3 hf => ?_)
      refine g_aload_n (pc' := 53) X dX4_pinsMoreAt_52 rfl rfl rfl ?_
      refine g_get (pc' := 56) X fl_X4_26 dX4_pinsMoreAt_53 rfl 0 rfl rfl ?_
      refine g_iload_n (pc' := 57) X dX4_pinsMoreAt_56 rfl rfl rfl ?_
      refine g_iload (pc' := 59) X dX4_pinsMoreAt_57 rfl rfl ?_
      refine g_callVi0 (pc' := 62) (As := [.int v1, .int v5]) (b := (a 14)) (st := [.int x3, .int (0 : Int32), .int v3]) (w2 := fun x4 => [oX4 a s_saidOn s_saidOff s_saidCount, oX1 (a 10) (a 11) (a 12) (a 13) s_range_peaks s_range_windsTold, ai d (a 11) 6 s_range_kinds, ai d (a 13) 12 s_range_winds, oX3 (a 14) (a 15), ai d (a 15) 42 s_now_cells]) X lk_X4_117 dX4_pinsMoreAt_59 rfl rfl rfl (Nat.le_of_ble_eq_true rfl) ⟨Nat.le_of_ble_eq_true rfl, Nat.le_of_ble_eq_true rfl, Nat.le_of_ble_eq_true rfl, Nat.le_of_ble_eq_true rfl⟩ rfl [4, 5] (by decide) rfl hf (fun l x4 h => ctX3_pinsOn l d (a 14) (a 15) s_now_cells v1 v5 x4 h) (fun _ => rfl) (fun _ => rfl) (fun x4 hnx4 hf => ?_)
      refine g_isub (pc' := 63) X dX4_pinsMoreAt_62 rfl ?_
      refine g_max (pc' := 66) X mx_X4_268 dX4_pinsMoreAt_63 rfl ⟨Nat.le_of_ble_eq_true rfl, Nat.le_of_ble_eq_true rfl, Nat.le_of_ble_eq_true rfl, Nat.le_of_ble_eq_true rfl⟩ ?_
      refine g_iadd (pc' := 67) X dX4_pinsMoreAt_66 rfl ?_
      refine g_istore_nN (lv' := fun x5 => [some (.ref (a 0)), some (.int v1), some (.int v2), some (.int x5), some (.int v4), some (.int v5)]) (pc' := 68) X dX4_pinsMoreAt_67 rfl rfl (by decide) rfl (fun _ => rfl) hf (fun x5 hf => ?_)
      refine g_iconst (v := 1) (pc' := 69) X dX4_pinsMoreAt_68 rfl (by decide) ?_
      refine g_istore (lv' := [some (.ref (a 0)), some (.int v1), some (.int v2), some (.int x5), some (.int (1 : Int32)), some (.int v5)]) (pc' := 71) X dX4_pinsMoreAt_69 rfl (by decide) rfl rfl ?_
      refine g_iinc (v := 1) (lv' := [some (.ref (a 0)), some (.int v1), some (.int v2), some (.int x5), some (.int (1 : Int32)), some (.int (v5 + (1 : Int32)))]) (pc' := 74) X dX4_pinsMoreAt_71 rfl rfl (by decide) (by decide) rfl rfl ?_
      refine g_goto (tgt := 23) X dX4_pinsMoreAt_74 (by decide) ?_
      have hk := sx_bk hf hb
      exact sx_weak [true, true, true, true, true, true] rfl hk
set_option maxHeartbeats 4000000 in
set_option maxRecDepth 100000 in
theorem ctX4_pinsMoreAt (l : Launch) (d : sx_D) (a : Nat → Nat) (s_saidOn : Int32) (s_saidOff : Int32) (s_saidCount : Int32) (s_range_peaks : Int32) (s_range_windsTold : Int32) (s_range_kinds : Nat → Int32) (s_range_winds : Nat → Int32) (s_now_cells : Nat → Int32) (v1 : Int32) (v2 : Int32) (r : Int32) (hf : fX4_pinsMoreAt s_range_peaks s_range_windsTold s_range_kinds s_range_winds s_now_cells v1 v2 = some r) : sx_I l d yX4_pinsMoreAt cX4_pinsMoreAt 6 .int 4 [.ref (a 0), .int v1, .int v2] [oX4 a s_saidOn s_saidOff s_saidCount, oX1 (a 10) (a 11) (a 12) (a 13) s_range_peaks s_range_windsTold, ai d (a 11) 6 s_range_kinds, ai d (a 13) 12 s_range_winds, oX3 (a 14) (a 15), ai d (a 15) 42 s_now_cells] [oX4 a s_saidOn s_saidOff s_saidCount, oX1 (a 10) (a 11) (a 12) (a 13) s_range_peaks s_range_windsTold, ai d (a 11) 6 s_range_kinds, ai d (a 13) 12 s_range_winds, oX3 (a 14) (a 15), ai d (a 15) 42 s_now_cells] r := by
  refine sx_I.intro (lv0 := [some (.ref (a 0)), some (.int v1), some (.int v2), none, none, none]) (by decide +kernel) (Nat.le_of_ble_eq_true rfl) rfl ?_
  intro κ X hR
  have X : sx_X d κ cX4_pinsMoreAt 6 RX4 (sx_rm 4) := X
  unfold fX4_pinsMoreAt at hf
  refine g_iconst (v := 0) (pc' := 1) X dX4_pinsMoreAt_0 rfl (by decide) ?_
  refine g_istore_n (lv' := [some (.ref (a 0)), some (.int v1), some (.int v2), some (.int (0 : Int32)), none, none]) (pc' := 2) X dX4_pinsMoreAt_1 rfl rfl (by decide) rfl rfl ?_
  refine g_aload_n (pc' := 3) X dX4_pinsMoreAt_2 rfl rfl rfl ?_
  refine g_get (pc' := 6) X fl_X4_19 dX4_pinsMoreAt_3 rfl 0 rfl rfl ?_
  refine g_iload_n (pc' := 7) X dX4_pinsMoreAt_6 rfl rfl rfl ?_
  refine g_callVi0 (pc' := 10) (As := [.int v1]) (b := (a 10)) (st := []) (w2 := fun x1 => [oX4 a s_saidOn s_saidOff s_saidCount, oX1 (a 10) (a 11) (a 12) (a 13) s_range_peaks s_range_windsTold, ai d (a 11) 6 s_range_kinds, ai d (a 13) 12 s_range_winds, oX3 (a 14) (a 15), ai d (a 15) 42 s_now_cells]) X lk_X4_262 dX4_pinsMoreAt_7 rfl rfl rfl (Nat.le_of_ble_eq_true rfl) ⟨Nat.le_of_ble_eq_true rfl, Nat.le_of_ble_eq_true rfl, Nat.le_of_ble_eq_true rfl, Nat.le_of_ble_eq_true rfl⟩ rfl [1, 2] (by decide) rfl hf (fun l x1 h => ctX1_hasGoats l d (a 10) (a 11) (a 12) (a 13) s_range_peaks s_range_windsTold s_range_kinds v1 x1 h) (fun _ => rfl) (fun _ => rfl) (fun x1 hnx1 hf => ?_)
  have hjX4_pinsMoreAt_18 : ∀ (v1 : Int32) (v2 : Int32) (v3 : Int32) (t0 : Int32), jX4_pinsMoreAt_18 s_range_peaks s_range_windsTold s_range_kinds s_range_winds s_now_cells v1 v2 v3 t0 = some r → sx_G d κ 6 0 0 18 [some (.ref (a 0)), some (.int v1), some (.int v2), some (.int v3), none, none] [.int t0] [oX4 a s_saidOn s_saidOff s_saidCount, oX1 (a 10) (a 11) (a 12) (a 13) s_range_peaks s_range_windsTold, ai d (a 11) 6 s_range_kinds, ai d (a 13) 12 s_range_winds, oX3 (a 14) (a 15), ai d (a 15) 42 s_now_cells] := by
    intro v1 v2 v3 t0 hf
    unfold jX4_pinsMoreAt_18 at hf
    refine g_istore (lv' := [some (.ref (a 0)), some (.int v1), some (.int v2), some (.int v3), some (.int t0), none]) (pc' := 20) X dX4_pinsMoreAt_18 rfl (by decide) rfl rfl ?_
    refine g_iconst (v := 0) (pc' := 21) X dX4_pinsMoreAt_20 rfl (by decide) ?_
    refine g_istore (lv' := [some (.ref (a 0)), some (.int v1), some (.int v2), some (.int v3), some (.int t0), some (.int (0 : Int32))]) (pc' := 23) X dX4_pinsMoreAt_21 rfl (by decide) rfl rfl ?_
    obtain ⟨y6, hy6, hf⟩ := sx_bd hf
    refine sx_weak [true, true, true, true, true, true] rfl (lX4_pinsMoreAt_23 d κ a s_saidOn s_saidOff s_saidCount s_range_peaks s_range_windsTold s_range_kinds s_range_winds s_now_cells v1 v2 X y6 ?_ 1000 (v3, t0, (0 : Int32)) hy6)
    rintro w7 rfl
    refine g_iload_n (pc' := 78) X dX4_pinsMoreAt_77 rfl rfl rfl ?_
    cases hf
    exact hR _ _ dX4_pinsMoreAt_78 rfl
  refine g_if_eq (tgt := 17) (pc' := 13) X dX4_pinsMoreAt_10 (by decide) rfl hf (fun hf => ?_) (fun hf => ?_)
  · refine g_iconst (v := 1) (pc' := 18) X dX4_pinsMoreAt_17 rfl (by decide) ?_
    exact sx_weak [true, true, true, true, true, true] rfl (hjX4_pinsMoreAt_18 v1 v2 (0 : Int32) (1 : Int32) hf)
  · refine g_iconst (v := 2) (pc' := 14) X dX4_pinsMoreAt_13 rfl (by decide) ?_
    refine g_goto (tgt := 18) X dX4_pinsMoreAt_14 (by decide) ?_
    exact sx_weak [true, true, true, true, true, true] rfl (hjX4_pinsMoreAt_18 v1 v2 (0 : Int32) (2 : Int32) hf)
-- X4_hold
def bX4_hold_17 (s_range_peaks : Int32) (s_range_windsTold : Int32) (s_range_kinds : Nat → Int32) (s_range_winds : Nat → Int32) (s_now_cells : Nat → Int32) (v1 : Int32) : (Int32 × Int32) → Option ((Int32 × Int32) ⊕ (Int32)) := fun (v2, v3) =>
  if s_range_peaks ≤ v3 then
    some (.inr v2)
  else
    (fX4_pinsMoreAt s_range_peaks s_range_windsTold s_range_kinds s_range_winds s_now_cells v3 v1).bind fun x1 =>
    sx_lt (v2 + x1) fun x2 =>
    some (.inl (x2, v3 + (1 : Int32)))
def fX4_hold (s_range_peaks : Int32) (s_range_windsTold : Int32) (s_range_kinds : Nat → Int32) (s_range_winds : Nat → Int32) (s_now_cells : Nat → Int32) (v1 : Int32) : Option (Int32) :=
  if v1 < (1 : Int32) then
    some (-1 : Int32)
  else
    if v1 ≤ (20 : Int32) then
      (sx_it 1000 (bX4_hold_17 s_range_peaks s_range_windsTold s_range_kinds s_range_winds s_now_cells v1) ((0 : Int32), (0 : Int32))).bind fun w4 =>
      some w4
    else
      some (-1 : Int32)
set_option maxHeartbeats 4000000 in
set_option maxRecDepth 100000 in
theorem lX4_hold_17 (d : sx_D) (κ : sx_C) (a : Nat → Nat) (s_saidOn : Int32) (s_saidOff : Int32) (s_saidCount : Int32) (s_range_peaks : Int32) (s_range_windsTold : Int32) (s_range_kinds : Nat → Int32) (s_range_winds : Nat → Int32) (s_now_cells : Nat → Int32) (v1 : Int32) (X : sx_X d κ cX4_hold 4 RX4 (sx_rm 5)) (y : Int32) (hE43 : ∀ (v2 : Int32), v2 = y → sx_G d κ 4 0 0 43 [none, none, some (.int v2), none] [] [oX4 a s_saidOn s_saidOff s_saidCount, oX1 (a 10) (a 11) (a 12) (a 13) s_range_peaks s_range_windsTold, ai d (a 11) 6 s_range_kinds, ai d (a 13) 12 s_range_winds, oX3 (a 14) (a 15), ai d (a 15) 42 s_now_cells]) : ∀ (n : Nat) (s : Int32 × Int32), sx_it n (bX4_hold_17 s_range_peaks s_range_windsTold s_range_kinds s_range_winds s_now_cells v1) s = some y → (match s with | (v2, v3) => sx_G d κ 4 0 0 17 [some (.ref (a 0)), some (.int v1), some (.int v2), some (.int v3)] [] [oX4 a s_saidOn s_saidOff s_saidCount, oX1 (a 10) (a 11) (a 12) (a 13) s_range_peaks s_range_windsTold, ai d (a 11) 6 s_range_kinds, ai d (a 13) 12 s_range_winds, oX3 (a 14) (a 15), ai d (a 15) 42 s_now_cells]) := by
  refine sx_it_run (bX4_hold_17 s_range_peaks s_range_windsTold s_range_kinds s_range_winds s_now_cells v1) (fun s => match s with | (v2, v3) => sx_G d κ 4 0 0 17 [some (.ref (a 0)), some (.int v1), some (.int v2), some (.int v3)] [] [oX4 a s_saidOn s_saidOff s_saidCount, oX1 (a 10) (a 11) (a 12) (a 13) s_range_peaks s_range_windsTold, ai d (a 11) 6 s_range_kinds, ai d (a 13) 12 s_range_winds, oX3 (a 14) (a 15), ai d (a 15) 42 s_now_cells]) y ?_
  rintro ⟨v2, v3⟩ x hf hb he
  show sx_G d κ 4 0 0 17 [some (.ref (a 0)), some (.int v1), some (.int v2), some (.int v3)] [] [oX4 a s_saidOn s_saidOff s_saidCount, oX1 (a 10) (a 11) (a 12) (a 13) s_range_peaks s_range_windsTold, ai d (a 11) 6 s_range_kinds, ai d (a 13) 12 s_range_winds, oX3 (a 14) (a 15), ai d (a 15) 42 s_now_cells]
  unfold bX4_hold_17 at hf
  refine g_iload_n (pc' := 18) X dX4_hold_17 rfl rfl rfl ?_
  refine g_aload_n (pc' := 19) X dX4_hold_18 rfl rfl rfl ?_
  refine g_get (pc' := 22) X fl_X4_19 dX4_hold_19 rfl 0 rfl rfl ?_
  refine g_get (pc' := 25) X fl_X4_80 dX4_hold_22 rfl 1 rfl rfl ?_
  refine g_icmp_ge (tgt := 43) (pc' := 28) X dX4_hold_25 (by decide) rfl hf (fun hf => ?_) (fun hf => ?_)
  · exact sx_weak [false, false, true, false] rfl (hE43 _ (sx_ex hf he))
  · refine g_iload_n (pc' := 29) X dX4_hold_28 rfl rfl rfl ?_
    refine g_aload_n (pc' := 30) X dX4_hold_29 rfl rfl rfl ?_
    refine g_iload_n (pc' := 31) X dX4_hold_30 rfl rfl rfl ?_
    refine g_iload_n (pc' := 32) X dX4_hold_31 rfl rfl rfl ?_
    refine g_callVi0 (pc' := 35) (As := [.int v3, .int v1]) (b := (a 0)) (st := [.int v2]) (w2 := fun x1 => [oX4 a s_saidOn s_saidOff s_saidCount, oX1 (a 10) (a 11) (a 12) (a 13) s_range_peaks s_range_windsTold, ai d (a 11) 6 s_range_kinds, ai d (a 13) 12 s_range_winds, oX3 (a 14) (a 15), ai d (a 15) 42 s_now_cells]) X lk_X4_183 dX4_hold_32 rfl rfl rfl (Nat.le_of_ble_eq_true rfl) ⟨Nat.le_of_ble_eq_true rfl, Nat.le_of_ble_eq_true rfl, Nat.le_of_ble_eq_true rfl, Nat.le_of_ble_eq_true rfl⟩ rfl [0, 1, 2, 3, 4, 5] (by decide) rfl hf (fun l x1 h => ctX4_pinsMoreAt l d a s_saidOn s_saidOff s_saidCount s_range_peaks s_range_windsTold s_range_kinds s_range_winds s_now_cells v3 v1 x1 h) (fun _ => rfl) (fun _ => rfl) (fun x1 hnx1 hf => ?_)
    refine g_iadd (pc' := 36) X dX4_hold_35 rfl ?_
    refine g_istore_nN (lv' := fun x2 => [some (.ref (a 0)), some (.int v1), some (.int x2), some (.int v3)]) (pc' := 37) X dX4_hold_36 rfl rfl (by decide) rfl (fun _ => rfl) hf (fun x2 hf => ?_)
    refine g_iinc (v := 1) (lv' := [some (.ref (a 0)), some (.int v1), some (.int x2), some (.int (v3 + (1 : Int32)))]) (pc' := 40) X dX4_hold_37 rfl rfl (by decide) (by decide) rfl rfl ?_
    refine g_goto (tgt := 17) X dX4_hold_40 (by decide) ?_
    have hk := sx_bk hf hb
    exact sx_weak [true, true, true, true] rfl hk
set_option maxHeartbeats 4000000 in
set_option maxRecDepth 100000 in
theorem ctX4_hold (l : Launch) (d : sx_D) (a : Nat → Nat) (s_saidOn : Int32) (s_saidOff : Int32) (s_saidCount : Int32) (s_range_peaks : Int32) (s_range_windsTold : Int32) (s_range_kinds : Nat → Int32) (s_range_winds : Nat → Int32) (s_now_cells : Nat → Int32) (v1 : Int32) (r : Int32) (hf : fX4_hold s_range_peaks s_range_windsTold s_range_kinds s_range_winds s_now_cells v1 = some r) : sx_I l d yX4_hold cX4_hold 4 .int 5 [.ref (a 0), .int v1] [oX4 a s_saidOn s_saidOff s_saidCount, oX1 (a 10) (a 11) (a 12) (a 13) s_range_peaks s_range_windsTold, ai d (a 11) 6 s_range_kinds, ai d (a 13) 12 s_range_winds, oX3 (a 14) (a 15), ai d (a 15) 42 s_now_cells] [oX4 a s_saidOn s_saidOff s_saidCount, oX1 (a 10) (a 11) (a 12) (a 13) s_range_peaks s_range_windsTold, ai d (a 11) 6 s_range_kinds, ai d (a 13) 12 s_range_winds, oX3 (a 14) (a 15), ai d (a 15) 42 s_now_cells] r := by
  refine sx_I.intro (lv0 := [some (.ref (a 0)), some (.int v1), none, none]) (by decide +kernel) (Nat.le_of_ble_eq_true rfl) rfl ?_
  intro κ X hR
  have X : sx_X d κ cX4_hold 4 RX4 (sx_rm 5) := X
  unfold fX4_hold at hf
  refine g_iload_n (pc' := 1) X dX4_hold_0 rfl rfl rfl ?_
  refine g_iconst (v := 1) (pc' := 2) X dX4_hold_1 rfl (by decide) ?_
  refine g_icmp_lt (tgt := 11) (pc' := 5) X dX4_hold_2 (by decide) rfl hf (fun hf => ?_) (fun hf => ?_)
  · refine g_iconst (v := -1) (pc' := 12) X dX4_hold_11 rfl (by decide) ?_
    cases hf
    exact hR _ _ dX4_hold_12 rfl
  · refine g_iload_n (pc' := 6) X dX4_hold_5 rfl rfl rfl ?_
    refine g_bipush (v := 20) (pc' := 8) X dX4_hold_6 rfl (by decide) ?_
    refine g_icmp_le (tgt := 13) (pc' := 11) X dX4_hold_8 (by decide) rfl hf (fun hf => ?_) (fun hf => ?_)
    · refine g_iconst (v := 0) (pc' := 14) X dX4_hold_13 rfl (by decide) ?_
      refine g_istore_n (lv' := [some (.ref (a 0)), some (.int v1), some (.int (0 : Int32)), none]) (pc' := 15) X dX4_hold_14 rfl rfl (by decide) rfl rfl ?_
      refine g_iconst (v := 0) (pc' := 16) X dX4_hold_15 rfl (by decide) ?_
      refine g_istore_n (lv' := [some (.ref (a 0)), some (.int v1), some (.int (0 : Int32)), some (.int (0 : Int32))]) (pc' := 17) X dX4_hold_16 rfl rfl (by decide) rfl rfl ?_
      obtain ⟨y3, hy3, hf⟩ := sx_bd hf
      refine sx_weak [true, true, true, true] rfl (lX4_hold_17 d κ a s_saidOn s_saidOff s_saidCount s_range_peaks s_range_windsTold s_range_kinds s_range_winds s_now_cells v1 X y3 ?_ 1000 ((0 : Int32), (0 : Int32)) hy3)
      rintro w4 rfl
      refine g_iload_n (pc' := 44) X dX4_hold_43 rfl rfl rfl ?_
      cases hf
      exact hR _ _ dX4_hold_44 rfl
    · refine g_iconst (v := -1) (pc' := 12) X dX4_hold_11 rfl (by decide) ?_
      cases hf
      exact hR _ _ dX4_hold_12 rfl
-- X4_smallestTellingSet
def jX4_smallestTellingSet_41 (s_range_peaks : Int32) (s_faces : Nat → Int32) (v1 : Int32) (v2 : Int32) (t0 : Int32) : Option ((Int32 × Int32) ⊕ (Int32)) :=
  if t0 = 0 then
    some (.inl (v1, v2 + (1 : Int32)))
  else
    (fX4_pairsAlike s_range_peaks s_faces v2).bind fun x2 =>
    if x2 = 0 then
      some (.inl (v2, v2 + (1 : Int32)))
    else
      some (.inl (v1, v2 + (1 : Int32)))
def jX4_smallestTellingSet_36 (s_range_peaks : Int32) (s_faces : Nat → Int32) (v1 : Int32) (v2 : Int32) : Option ((Int32 × Int32) ⊕ (Int32)) :=
  jX4_smallestTellingSet_41 s_range_peaks s_faces v1 v2 (1 : Int32)
def bX4_smallestTellingSet_13 (s_range_peaks : Int32) (s_faces : Nat → Int32) : (Int32 × Int32) → Option ((Int32 × Int32) ⊕ (Int32)) := fun (v1, v2) =>
  if (31 : Int32) < v2 then
    some (.inr v1)
  else
    if v1 = (-4 : Int32) then
      jX4_smallestTellingSet_36 s_range_peaks s_faces v1 v2
    else
      (fJ6_bitCount_0f7a4 v2).bind fun x3 =>
      (fJ6_bitCount_0f7a4 v1).bind fun x4 =>
      if x4 ≤ x3 then
        jX4_smallestTellingSet_41 s_range_peaks s_faces v1 v2 (0 : Int32)
      else
        jX4_smallestTellingSet_36 s_range_peaks s_faces v1 v2
def fX4_smallestTellingSet (s_range_peaks : Int32) (s_now_cells : Nat → Int32) (s_faces : Nat → Int32) : Option (Int32 × (Nat → Int32)) :=
  (fX4_lookAt s_faces s_now_cells).bind fun o1 =>
  (sx_it 1000 (bX4_smallestTellingSet_13 s_range_peaks o1) ((-4 : Int32), (0 : Int32))).bind fun w6 =>
  some (w6, o1)
set_option maxHeartbeats 4000000 in
set_option maxRecDepth 100000 in
theorem lX4_smallestTellingSet_13 (d : sx_D) (κ : sx_C) (a : Nat → Nat) (s_saidOn : Int32) (s_saidOff : Int32) (s_saidCount : Int32) (s_range_peaks : Int32) (s_range_windsTold : Int32) (s_now_cells : Nat → Int32) (s_faces : Nat → Int32) (X : sx_X d κ cX4_smallestTellingSet 4 RX4 (sx_rm 4)) (y : Int32) (hE62 : ∀ (v1 : Int32), v1 = y → sx_G d κ 4 0 0 62 [none, some (.int v1), none, none] [] [oX4 a s_saidOn s_saidOff s_saidCount, oX1 (a 10) (a 11) (a 12) (a 13) s_range_peaks s_range_windsTold, oX3 (a 14) (a 15), ai d (a 15) 42 s_now_cells, ai d (a 22) 6 s_faces]) : ∀ (n : Nat) (s : Int32 × Int32), sx_it n (bX4_smallestTellingSet_13 s_range_peaks s_faces) s = some y → (match s with | (v1, v2) => sx_G d κ 4 0 0 13 [some (.ref (a 0)), some (.int v1), some (.int v2), none] [] [oX4 a s_saidOn s_saidOff s_saidCount, oX1 (a 10) (a 11) (a 12) (a 13) s_range_peaks s_range_windsTold, oX3 (a 14) (a 15), ai d (a 15) 42 s_now_cells, ai d (a 22) 6 s_faces]) := by
  refine sx_it_run (bX4_smallestTellingSet_13 s_range_peaks s_faces) (fun s => match s with | (v1, v2) => sx_G d κ 4 0 0 13 [some (.ref (a 0)), some (.int v1), some (.int v2), none] [] [oX4 a s_saidOn s_saidOff s_saidCount, oX1 (a 10) (a 11) (a 12) (a 13) s_range_peaks s_range_windsTold, oX3 (a 14) (a 15), ai d (a 15) 42 s_now_cells, ai d (a 22) 6 s_faces]) y ?_
  rintro ⟨v1, v2⟩ x hf hb he
  show sx_G d κ 4 0 0 13 [some (.ref (a 0)), some (.int v1), some (.int v2), none] [] [oX4 a s_saidOn s_saidOff s_saidCount, oX1 (a 10) (a 11) (a 12) (a 13) s_range_peaks s_range_windsTold, oX3 (a 14) (a 15), ai d (a 15) 42 s_now_cells, ai d (a 22) 6 s_faces]
  unfold bX4_smallestTellingSet_13 at hf
  refine g_iload_n (pc' := 14) X dX4_smallestTellingSet_13 rfl rfl rfl ?_
  refine g_bipush (v := 31) (pc' := 16) X dX4_smallestTellingSet_14 rfl (by decide) ?_
  refine g_icmp_gt (tgt := 62) (pc' := 19) X dX4_smallestTellingSet_16 (by decide) rfl hf (fun hf => ?_) (fun hf => ?_)
  · exact sx_weak [false, true, false, true] rfl (hE62 _ (sx_ex hf he))
  · refine g_iload_n (pc' := 20) X dX4_smallestTellingSet_19 rfl rfl rfl ?_
    refine g_bipush (v := -4) (pc' := 22) X dX4_smallestTellingSet_20 rfl (by decide) ?_
    have hjX4_smallestTellingSet_41 : ∀ (v1 : Int32) (v2 : Int32) (t0 : Int32), jX4_smallestTellingSet_41 s_range_peaks s_faces v1 v2 t0 = some x → sx_G d κ 4 0 0 41 [some (.ref (a 0)), some (.int v1), some (.int v2), none] [.int t0] [oX4 a s_saidOn s_saidOff s_saidCount, oX1 (a 10) (a 11) (a 12) (a 13) s_range_peaks s_range_windsTold, oX3 (a 14) (a 15), ai d (a 15) 42 s_now_cells, ai d (a 22) 6 s_faces] := by
      intro v1 v2 t0 hf
      unfold jX4_smallestTellingSet_41 at hf
      refine g_istore_n (lv' := [some (.ref (a 0)), some (.int v1), some (.int v2), some (.int t0)]) (pc' := 42) X dX4_smallestTellingSet_41 rfl rfl (by decide) rfl rfl ?_
      refine g_iload_n (pc' := 43) X dX4_smallestTellingSet_42 rfl rfl rfl ?_
      refine g_if_eq (tgt := 56) (pc' := 46) X dX4_smallestTellingSet_43 (by decide) rfl hf (fun hf => ?_) (fun hf => ?_)
      · refine g_iinc (v := 1) (lv' := [some (.ref (a 0)), some (.int v1), some (.int (v2 + (1 : Int32))), some (.int t0)]) (pc' := 59) X dX4_smallestTellingSet_56 rfl rfl (by decide) (by decide) rfl rfl ?_
        refine g_goto (tgt := 13) X dX4_smallestTellingSet_59 (by decide) ?_
        have hk := sx_bk hf hb
        exact sx_weak [true, true, true, false] rfl hk
      · refine g_aload_n (pc' := 47) X dX4_smallestTellingSet_46 rfl rfl rfl ?_
        refine g_iload_n (pc' := 48) X dX4_smallestTellingSet_47 rfl rfl rfl ?_
        refine g_callVi0 (pc' := 51) (As := [.int v2]) (b := (a 0)) (st := []) (w2 := fun x2 => [oX4 a s_saidOn s_saidOff s_saidCount, oX1 (a 10) (a 11) (a 12) (a 13) s_range_peaks s_range_windsTold, oX3 (a 14) (a 15), ai d (a 15) 42 s_now_cells, ai d (a 22) 6 s_faces]) X lk_X4_167 dX4_smallestTellingSet_48 rfl rfl rfl (Nat.le_of_ble_eq_true rfl) ⟨Nat.le_of_ble_eq_true rfl, Nat.le_of_ble_eq_true rfl, Nat.le_of_ble_eq_true rfl, Nat.le_of_ble_eq_true rfl⟩ rfl [0, 1, 4] (by decide) rfl hf (fun l x2 h => ctX4_pairsAlike l d a s_saidOn s_saidOff s_saidCount s_range_peaks s_range_windsTold s_faces v2 x2 h) (fun _ => rfl) (fun _ => rfl) (fun x2 hnx2 hf => ?_)
        refine g_if_ne (tgt := 56) (pc' := 54) X dX4_smallestTellingSet_51 (by decide) rfl hf (fun hf => ?_) (fun hf => ?_)
        · refine g_iinc (v := 1) (lv' := [some (.ref (a 0)), some (.int v1), some (.int (v2 + (1 : Int32))), some (.int t0)]) (pc' := 59) X dX4_smallestTellingSet_56 rfl rfl (by decide) (by decide) rfl rfl ?_
          refine g_goto (tgt := 13) X dX4_smallestTellingSet_59 (by decide) ?_
          have hk := sx_bk hf hb
          exact sx_weak [true, true, true, false] rfl hk
        · refine g_iload_n (pc' := 55) X dX4_smallestTellingSet_54 rfl rfl rfl ?_
          refine g_istore_n (lv' := [some (.ref (a 0)), some (.int v2), some (.int v2), some (.int t0)]) (pc' := 56) X dX4_smallestTellingSet_55 rfl rfl (by decide) rfl rfl ?_
          refine g_iinc (v := 1) (lv' := [some (.ref (a 0)), some (.int v2), some (.int (v2 + (1 : Int32))), some (.int t0)]) (pc' := 59) X dX4_smallestTellingSet_56 rfl rfl (by decide) (by decide) rfl rfl ?_
          refine g_goto (tgt := 13) X dX4_smallestTellingSet_59 (by decide) ?_
          have hk := sx_bk hf hb
          exact sx_weak [true, true, true, false] rfl hk
    have hjX4_smallestTellingSet_36 : ∀ (v1 : Int32) (v2 : Int32), jX4_smallestTellingSet_36 s_range_peaks s_faces v1 v2 = some x → sx_G d κ 4 0 0 36 [some (.ref (a 0)), some (.int v1), some (.int v2), none] [] [oX4 a s_saidOn s_saidOff s_saidCount, oX1 (a 10) (a 11) (a 12) (a 13) s_range_peaks s_range_windsTold, oX3 (a 14) (a 15), ai d (a 15) 42 s_now_cells, ai d (a 22) 6 s_faces] := by
      intro v1 v2 hf
      unfold jX4_smallestTellingSet_36 at hf
      refine g_iconst (v := 1) (pc' := 37) X dX4_smallestTellingSet_36 rfl (by decide) ?_
      refine g_goto (tgt := 41) X dX4_smallestTellingSet_37 (by decide) ?_
      exact sx_weak [true, true, true, true] rfl (hjX4_smallestTellingSet_41 v1 v2 (1 : Int32) hf)
    refine g_icmp_eq (tgt := 36) (pc' := 25) X dX4_smallestTellingSet_22 (by decide) rfl hf (fun hf => ?_) (fun hf => ?_)
    · exact sx_weak [true, true, true, true] rfl (hjX4_smallestTellingSet_36 v1 v2 hf)
    · refine g_iload_n (pc' := 26) X dX4_smallestTellingSet_25 rfl rfl rfl ?_
      refine g_callSi0 (pc' := 29) (As := [.int v2]) (st := []) (w2 := fun x3 => [oX4 a s_saidOn s_saidOff s_saidCount, oX1 (a 10) (a 11) (a 12) (a 13) s_range_peaks s_range_windsTold, oX3 (a 14) (a 15), ai d (a 15) 42 s_now_cells, ai d (a 22) 6 s_faces]) X lk_X4_189 dX4_smallestTellingSet_26 rfl rfl rfl (Nat.le_of_ble_eq_true rfl) ⟨Nat.le_of_ble_eq_true rfl, Nat.le_of_ble_eq_true rfl, Nat.le_of_ble_eq_true rfl, Nat.le_of_ble_eq_true rfl⟩ [] (by decide) rfl hf (fun l x3 h => ctJ6_bitCount_0f7a4 l d v2 x3 h) (fun _ => rfl) (fun _ => rfl) (fun x3 hnx3 hf => ?_)
      refine g_iload_n (pc' := 30) X dX4_smallestTellingSet_29 rfl rfl rfl ?_
      refine g_callSi0 (pc' := 33) (As := [.int v1]) (st := [.int x3]) (w2 := fun x4 => [oX4 a s_saidOn s_saidOff s_saidCount, oX1 (a 10) (a 11) (a 12) (a 13) s_range_peaks s_range_windsTold, oX3 (a 14) (a 15), ai d (a 15) 42 s_now_cells, ai d (a 22) 6 s_faces]) X lk_X4_189 dX4_smallestTellingSet_30 rfl rfl rfl (Nat.le_of_ble_eq_true rfl) ⟨Nat.le_of_ble_eq_true rfl, Nat.le_of_ble_eq_true rfl, Nat.le_of_ble_eq_true rfl, Nat.le_of_ble_eq_true rfl⟩ [] (by decide) rfl hf (fun l x4 h => ctJ6_bitCount_0f7a4 l d v1 x4 h) (fun _ => rfl) (fun _ => rfl) (fun x4 hnx4 hf => ?_)
      refine g_icmp_ge (tgt := 40) (pc' := 36) X dX4_smallestTellingSet_33 (by decide) rfl hf (fun hf => ?_) (fun hf => ?_)
      · refine g_iconst (v := 0) (pc' := 41) X dX4_smallestTellingSet_40 rfl (by decide) ?_
        exact sx_weak [true, true, true, true] rfl (hjX4_smallestTellingSet_41 v1 v2 (0 : Int32) hf)
      · exact sx_weak [true, true, true, true] rfl (hjX4_smallestTellingSet_36 v1 v2 hf)
set_option maxHeartbeats 4000000 in
set_option maxRecDepth 100000 in
theorem ctX4_smallestTellingSet (l : Launch) (d : sx_D) (a : Nat → Nat) (s_saidOn : Int32) (s_saidOff : Int32) (s_saidCount : Int32) (s_range_peaks : Int32) (s_range_windsTold : Int32) (s_now_cells : Nat → Int32) (s_faces : Nat → Int32) (r : Int32) (ro1 : Nat → Int32) (hf : fX4_smallestTellingSet s_range_peaks s_now_cells s_faces = some (r, ro1)) : sx_I l d yX4_smallestTellingSet cX4_smallestTellingSet 4 .int 4 [.ref (a 0)] [oX4 a s_saidOn s_saidOff s_saidCount, oX1 (a 10) (a 11) (a 12) (a 13) s_range_peaks s_range_windsTold, oX3 (a 14) (a 15), ai d (a 15) 42 s_now_cells, ai d (a 22) 6 s_faces] [oX4 a s_saidOn s_saidOff s_saidCount, oX1 (a 10) (a 11) (a 12) (a 13) s_range_peaks s_range_windsTold, oX3 (a 14) (a 15), ai d (a 15) 42 s_now_cells, ai d (a 22) 6 ro1] r := by
  refine sx_I.intro (lv0 := [some (.ref (a 0)), none, none, none]) (by decide +kernel) (Nat.le_of_ble_eq_true rfl) rfl ?_
  intro κ X hR
  have X : sx_X d κ cX4_smallestTellingSet 4 RX4 (sx_rm 4) := X
  unfold fX4_smallestTellingSet at hf
  refine g_aload_n (pc' := 1) X dX4_smallestTellingSet_0 rfl rfl rfl ?_
  refine g_aload_n (pc' := 2) X dX4_smallestTellingSet_1 rfl rfl rfl ?_
  refine g_get (pc' := 5) X fl_X4_26 dX4_smallestTellingSet_2 rfl 0 rfl rfl ?_
  refine g_callVv1 (pc' := 8) (As := [.ref (a 14)]) (b := (a 0)) (st := []) (w2 := fun o1 => [oX4 a s_saidOn s_saidOff s_saidCount, oX1 (a 10) (a 11) (a 12) (a 13) s_range_peaks s_range_windsTold, oX3 (a 14) (a 15), ai d (a 15) 42 s_now_cells, ai d (a 22) 6 o1]) X lk_X4_164 dX4_smallestTellingSet_5 rfl rfl rfl (Nat.le_of_ble_eq_true rfl) ⟨Nat.le_of_ble_eq_true rfl, Nat.le_of_ble_eq_true rfl, Nat.le_of_ble_eq_true rfl, Nat.le_of_ble_eq_true rfl⟩ rfl [0, 4, 2, 3] (by decide) rfl hf (fun l o1 h => ctX4_lookAt l d a (a 14) (a 15) s_saidOn s_saidOff s_saidCount s_faces s_now_cells o1 h) (fun _ => rfl) (fun _ => rfl) (fun o1 hf => ?_)
  refine g_bipush (v := -4) (pc' := 10) X dX4_smallestTellingSet_8 rfl (by decide) ?_
  refine g_istore_n (lv' := [some (.ref (a 0)), some (.int (-4 : Int32)), none, none]) (pc' := 11) X dX4_smallestTellingSet_10 rfl rfl (by decide) rfl rfl ?_
  refine g_iconst (v := 0) (pc' := 12) X dX4_smallestTellingSet_11 rfl (by decide) ?_
  refine g_istore_n (lv' := [some (.ref (a 0)), some (.int (-4 : Int32)), some (.int (0 : Int32)), none]) (pc' := 13) X dX4_smallestTellingSet_12 rfl rfl (by decide) rfl rfl ?_
  obtain ⟨y5, hy5, hf⟩ := sx_bd hf
  refine sx_weak [true, true, true, true] rfl (lX4_smallestTellingSet_13 d κ a s_saidOn s_saidOff s_saidCount s_range_peaks s_range_windsTold s_now_cells o1 X y5 ?_ 1000 ((-4 : Int32), (0 : Int32)) hy5)
  rintro w6 rfl
  refine g_iload_n (pc' := 63) X dX4_smallestTellingSet_62 rfl rfl rfl ?_
  cases hf
  exact hR _ _ dX4_smallestTellingSet_63 rfl
-- X4_tell
def fX4_tell (s_range_peaks : Int32) (s_now_cells : Nat → Int32) (s_faces : Nat → Int32) (v1 : Int32) : Option (Int32 × (Nat → Int32)) :=
  (fX4_isZeroOrOne v1).bind fun x1 =>
  if x1 = 0 then
    some ((-1 : Int32), s_faces)
  else
    (fX4_smallestTellingSet s_range_peaks s_now_cells s_faces).bind fun (x2, o3) =>
    if x2 = (-4 : Int32) then
      some ((-4 : Int32), o3)
    else
      if v1 = 0 then
        (fJ6_bitCount_0f7a4 x2).bind fun x4 =>
        some (x4, o3)
      else
        some (x2, o3)
set_option maxHeartbeats 4000000 in
set_option maxRecDepth 100000 in
theorem ctX4_tell (l : Launch) (d : sx_D) (a : Nat → Nat) (s_saidOn : Int32) (s_saidOff : Int32) (s_saidCount : Int32) (s_range_peaks : Int32) (s_range_windsTold : Int32) (s_now_cells : Nat → Int32) (s_faces : Nat → Int32) (v1 : Int32) (r : Int32) (ro1 : Nat → Int32) (hf : fX4_tell s_range_peaks s_now_cells s_faces v1 = some (r, ro1)) : sx_I l d yX4_tell cX4_tell 3 .int 5 [.ref (a 0), .int v1] [oX4 a s_saidOn s_saidOff s_saidCount, oX1 (a 10) (a 11) (a 12) (a 13) s_range_peaks s_range_windsTold, oX3 (a 14) (a 15), ai d (a 15) 42 s_now_cells, ai d (a 22) 6 s_faces] [oX4 a s_saidOn s_saidOff s_saidCount, oX1 (a 10) (a 11) (a 12) (a 13) s_range_peaks s_range_windsTold, oX3 (a 14) (a 15), ai d (a 15) 42 s_now_cells, ai d (a 22) 6 ro1] r := by
  refine sx_I.intro (lv0 := [some (.ref (a 0)), some (.int v1), none]) (by decide +kernel) (Nat.le_of_ble_eq_true rfl) rfl ?_
  intro κ X hR
  have X : sx_X d κ cX4_tell 3 RX4 (sx_rm 5) := X
  unfold fX4_tell at hf
  refine g_iload_n (pc' := 1) X dX4_tell_0 rfl rfl rfl ?_
  refine g_callSi0 (pc' := 4) (As := [.int v1]) (st := []) (w2 := fun x1 => [oX4 a s_saidOn s_saidOff s_saidCount, oX1 (a 10) (a 11) (a 12) (a 13) s_range_peaks s_range_windsTold, oX3 (a 14) (a 15), ai d (a 15) 42 s_now_cells, ai d (a 22) 6 s_faces]) X lk_X4_161 dX4_tell_1 rfl rfl rfl (Nat.le_of_ble_eq_true rfl) ⟨Nat.le_of_ble_eq_true rfl, Nat.le_of_ble_eq_true rfl, Nat.le_of_ble_eq_true rfl, Nat.le_of_ble_eq_true rfl⟩ [] (by decide) rfl hf (fun l x1 h => ctX4_isZeroOrOne l d v1 x1 h) (fun _ => rfl) (fun _ => rfl) (fun x1 hnx1 hf => ?_)
  refine g_if_ne (tgt := 9) (pc' := 7) X dX4_tell_4 (by decide) rfl hf (fun hf => ?_) (fun hf => ?_)
  · refine g_aload_n (pc' := 10) X dX4_tell_9 rfl rfl rfl ?_
    refine g_callVi1 (pc' := 13) (As := []) (b := (a 0)) (st := []) (w2 := fun x2 o3 => [oX4 a s_saidOn s_saidOff s_saidCount, oX1 (a 10) (a 11) (a 12) (a 13) s_range_peaks s_range_windsTold, oX3 (a 14) (a 15), ai d (a 15) 42 s_now_cells, ai d (a 22) 6 o3]) X lk_X4_186 dX4_tell_10 rfl rfl rfl (Nat.le_of_ble_eq_true rfl) ⟨Nat.le_of_ble_eq_true rfl, Nat.le_of_ble_eq_true rfl, Nat.le_of_ble_eq_true rfl, Nat.le_of_ble_eq_true rfl⟩ rfl [0, 1, 2, 3, 4] (by decide) rfl hf (fun l x2 o3 h => ctX4_smallestTellingSet l d a s_saidOn s_saidOff s_saidCount s_range_peaks s_range_windsTold s_now_cells s_faces x2 o3 h) (fun _ _ => rfl) (fun _ _ => rfl) (fun x2 o3 hnx2 hf => ?_)
    refine g_istore_n (lv' := [some (.ref (a 0)), some (.int v1), some (.int x2)]) (pc' := 14) X dX4_tell_13 rfl rfl (by decide) rfl rfl ?_
    refine g_iload_n (pc' := 15) X dX4_tell_14 rfl rfl rfl ?_
    refine g_bipush (v := -4) (pc' := 17) X dX4_tell_15 rfl (by decide) ?_
    refine g_icmp_ne (tgt := 23) (pc' := 20) X dX4_tell_17 (by decide) rfl hf (fun hf => ?_) (fun hf => ?_)
    · refine g_iload_n (pc' := 24) X dX4_tell_23 rfl rfl rfl ?_
      refine g_if_ne (tgt := 34) (pc' := 27) X dX4_tell_24 (by decide) rfl hf (fun hf => ?_) (fun hf => ?_)
      · refine g_iload_n (pc' := 35) X dX4_tell_34 rfl rfl rfl ?_
        cases hf
        exact hR _ _ dX4_tell_35 rfl
      · refine g_iload_n (pc' := 28) X dX4_tell_27 rfl rfl rfl ?_
        refine g_callSi0 (pc' := 31) (As := [.int x2]) (st := []) (w2 := fun x4 => [oX4 a s_saidOn s_saidOff s_saidCount, oX1 (a 10) (a 11) (a 12) (a 13) s_range_peaks s_range_windsTold, oX3 (a 14) (a 15), ai d (a 15) 42 s_now_cells, ai d (a 22) 6 o3]) X lk_X4_189 dX4_tell_28 rfl rfl rfl (Nat.le_of_ble_eq_true rfl) ⟨Nat.le_of_ble_eq_true rfl, Nat.le_of_ble_eq_true rfl, Nat.le_of_ble_eq_true rfl, Nat.le_of_ble_eq_true rfl⟩ [] (by decide) rfl hf (fun l x4 h => ctJ6_bitCount_0f7a4 l d x2 x4 h) (fun _ => rfl) (fun _ => rfl) (fun x4 hnx4 hf => ?_)
        refine g_goto (tgt := 35) X dX4_tell_31 (by decide) ?_
        cases hf
        exact hR _ _ dX4_tell_35 rfl
    · refine g_bipush (v := -4) (pc' := 22) X dX4_tell_20 rfl (by decide) ?_
      cases hf
      exact hR _ _ dX4_tell_22 rfl
  · refine g_iconst (v := -1) (pc' := 8) X dX4_tell_7 rfl (by decide) ?_
    cases hf
    exact hR _ _ dX4_tell_8 rfl
-- X4_canPutAt
def fX4_canPutAt (s_now_cells : Nat → Int32) (v1 : Int32) : Option (Int32) :=
  (fX3_canPut s_now_cells (v1 / (5 : Int32)) (v1 - v1 / (5 : Int32) * (5 : Int32))).bind fun x1 =>
  some x1
set_option maxHeartbeats 4000000 in
set_option maxRecDepth 100000 in
theorem ctX4_canPutAt (l : Launch) (d : sx_D) (a : Nat → Nat) (s_saidOn : Int32) (s_saidOff : Int32) (s_saidCount : Int32) (s_now_cells : Nat → Int32) (v1 : Int32) (r : Int32) (hf : fX4_canPutAt s_now_cells v1 = some r) : sx_I l d yX4_canPutAt cX4_canPutAt 2 .boolean 2 [.ref (a 0), .int v1] [oX4 a s_saidOn s_saidOff s_saidCount, oX3 (a 14) (a 15), ai d (a 15) 42 s_now_cells] [oX4 a s_saidOn s_saidOff s_saidCount, oX3 (a 14) (a 15), ai d (a 15) 42 s_now_cells] r := by
  refine sx_I.intro (lv0 := [some (.ref (a 0)), some (.int v1)]) (by decide +kernel) (Nat.le_of_ble_eq_true rfl) rfl ?_
  intro κ X hR
  have X : sx_X d κ cX4_canPutAt 2 RX4 (sx_rm 2) := X
  unfold fX4_canPutAt at hf
  refine g_aload_n (pc' := 1) X dX4_canPutAt_0 rfl rfl rfl ?_
  refine g_get (pc' := 4) X fl_X4_26 dX4_canPutAt_1 rfl 0 rfl rfl ?_
  refine g_iload_n (pc' := 5) X dX4_canPutAt_4 rfl rfl rfl ?_
  refine g_iconst (v := 5) (pc' := 6) X dX4_canPutAt_5 rfl (by decide) ?_
  refine g_idiv (pc' := 7) X dX4_canPutAt_6 rfl (by decide) ?_
  refine g_iload_n (pc' := 8) X dX4_canPutAt_7 rfl rfl rfl ?_
  refine g_iconst (v := 5) (pc' := 9) X dX4_canPutAt_8 rfl (by decide) ?_
  refine g_irem (pc' := 10) X dX4_canPutAt_9 rfl (by decide) ?_
  refine g_callVi0 (pc' := 13) (As := [.int (v1 / (5 : Int32)), .int (v1 - v1 / (5 : Int32) * (5 : Int32))]) (b := (a 14)) (st := []) (w2 := fun x1 => [oX4 a s_saidOn s_saidOff s_saidCount, oX3 (a 14) (a 15), ai d (a 15) 42 s_now_cells]) X lk_X4_129 dX4_canPutAt_10 rfl rfl rfl (Nat.le_of_ble_eq_true rfl) ⟨Nat.le_of_ble_eq_true rfl, Nat.le_of_ble_eq_true rfl, Nat.le_of_ble_eq_true rfl, Nat.le_of_ble_eq_true rfl⟩ rfl [1, 2] (by decide) rfl hf (fun l x1 h => ctX3_canPut l d (a 14) (a 15) s_now_cells (v1 / (5 : Int32)) (v1 - v1 / (5 : Int32) * (5 : Int32)) x1 h) (fun _ => rfl) (fun _ => rfl) (fun x1 hnx1 hf => ?_)
  cases hf
  exact hR _ _ dX4_canPutAt_13 hnx1
-- X4_turn
def fX4_turn (s_faces : Nat → Int32) (v1 : Int32) : Option ((Nat → Int32)) :=
  if v1 < 0 then
    some s_faces
  else
    if (30 : Int32) ≤ v1 then
      some s_faces
    else
      sx_rd s_faces 6 (v1 / (5 : Int32)) fun x1 =>
      sx_wr s_faces 6 (v1 / (5 : Int32)) (x1 ^^^ ((1 : Int32) <<< ((v1 - v1 / (5 : Int32) * (5 : Int32)) &&& 31))) fun g2 =>
      some g2
set_option maxHeartbeats 4000000 in
set_option maxRecDepth 100000 in
theorem ctX4_turn (l : Launch) (d : sx_D) (a : Nat → Nat) (s_saidOn : Int32) (s_saidOff : Int32) (s_saidCount : Int32) (s_faces : Nat → Int32) (v1 : Int32) (ro1 : Nat → Int32) (hf : fX4_turn s_faces v1 = some ro1) : sx_V l d yX4_turn cX4_turn 2 0 [.ref (a 0), .int v1] [oX4 a s_saidOn s_saidOff s_saidCount, ai d (a 22) 6 s_faces] [oX4 a s_saidOn s_saidOff s_saidCount, ai d (a 22) 6 ro1] := by
  refine sx_V.intro (lv0 := [some (.ref (a 0)), some (.int v1)]) (by decide +kernel) (Nat.le_of_ble_eq_true rfl) rfl ?_
  intro κ X hR
  have X : sx_X d κ cX4_turn 2 RX4 (sx_rm 0) := X
  unfold fX4_turn at hf
  refine g_iload_n (pc' := 1) X dX4_turn_0 rfl rfl rfl ?_
  refine g_if_lt (tgt := 26) (pc' := 4) X dX4_turn_1 (by decide) rfl hf (fun hf => ?_) (fun hf => ?_)
  · cases hf
    exact hR _ _ dX4_turn_26
  · refine g_iload_n (pc' := 5) X dX4_turn_4 rfl rfl rfl ?_
    refine g_bipush (v := 30) (pc' := 7) X dX4_turn_5 rfl (by decide) ?_
    refine g_icmp_ge (tgt := 26) (pc' := 10) X dX4_turn_7 (by decide) rfl hf (fun hf => ?_) (fun hf => ?_)
    · cases hf
      exact hR _ _ dX4_turn_26
    · refine g_aload_n (pc' := 11) X dX4_turn_10 rfl rfl rfl ?_
      refine g_get (pc' := 14) X fl_X4_45 dX4_turn_11 rfl 0 rfl rfl ?_
      refine g_iload_n (pc' := 15) X dX4_turn_14 rfl rfl rfl ?_
      refine g_iconst (v := 5) (pc' := 16) X dX4_turn_15 rfl (by decide) ?_
      refine g_idiv (pc' := 17) X dX4_turn_16 rfl (by decide) ?_
      refine g_dup2 (pc' := 18) X dX4_turn_17 rfl rfl rfl ?_
      refine g_iald (pc' := 19) X dX4_turn_18 rfl 1 rfl hf (fun x1 hf => ?_)
      refine g_iconst (v := 1) (pc' := 20) X dX4_turn_19 rfl (by decide) ?_
      refine g_iload_n (pc' := 21) X dX4_turn_20 rfl rfl rfl ?_
      refine g_iconst (v := 5) (pc' := 22) X dX4_turn_21 rfl (by decide) ?_
      refine g_irem (pc' := 23) X dX4_turn_22 rfl (by decide) ?_
      refine g_ishl (pc' := 24) X dX4_turn_23 rfl ?_
      refine g_ixor (pc' := 25) X dX4_turn_24 rfl ?_
      refine g_iast (pc' := 26) (w2 := fun g2 => [oX4 a s_saidOn s_saidOff s_saidCount, ai d (a 22) 6 g2]) X dX4_turn_25 rfl 1 rfl hf (fun _ => rfl) (fun g2 hf => ?_)
      cases hf
      exact hR _ _ dX4_turn_26
-- X4_isApartWith
def jX4_isApartWith_19 (s_faces : Nat → Int32) (v1 : Int32) (t0 : Int32) : Option (Int32 × (Nat → Int32)) :=
  (fX4_turn s_faces v1).bind fun o3 =>
  sx_ok8 .boolean t0 <|
  some (t0, o3)
def fX4_isApartWith (s_range_peaks : Int32) (s_faces : Nat → Int32) (v1 : Int32) : Option (Int32 × (Nat → Int32)) :=
  (fX4_turn s_faces v1).bind fun o1 =>
  (fX4_pairsAlike s_range_peaks o1 (31 : Int32)).bind fun x2 =>
  if x2 = 0 then
    jX4_isApartWith_19 o1 v1 (1 : Int32)
  else
    jX4_isApartWith_19 o1 v1 (0 : Int32)
set_option maxHeartbeats 4000000 in
set_option maxRecDepth 100000 in
theorem ctX4_isApartWith (l : Launch) (d : sx_D) (a : Nat → Nat) (s_saidOn : Int32) (s_saidOff : Int32) (s_saidCount : Int32) (s_range_peaks : Int32) (s_range_windsTold : Int32) (s_faces : Nat → Int32) (v1 : Int32) (r : Int32) (ro1 : Nat → Int32) (hf : fX4_isApartWith s_range_peaks s_faces v1 = some (r, ro1)) : sx_I l d yX4_isApartWith cX4_isApartWith 3 .boolean 1 [.ref (a 0), .int v1] [oX4 a s_saidOn s_saidOff s_saidCount, oX1 (a 10) (a 11) (a 12) (a 13) s_range_peaks s_range_windsTold, ai d (a 22) 6 s_faces] [oX4 a s_saidOn s_saidOff s_saidCount, oX1 (a 10) (a 11) (a 12) (a 13) s_range_peaks s_range_windsTold, ai d (a 22) 6 ro1] r := by
  refine sx_I.intro (lv0 := [some (.ref (a 0)), some (.int v1), none]) (by decide +kernel) (Nat.le_of_ble_eq_true rfl) rfl ?_
  intro κ X hR
  have X : sx_X d κ cX4_isApartWith 3 RX4 (sx_rm 1) := X
  unfold fX4_isApartWith at hf
  refine g_aload_n (pc' := 1) X dX4_isApartWith_0 rfl rfl rfl ?_
  refine g_iload_n (pc' := 2) X dX4_isApartWith_1 rfl rfl rfl ?_
  refine g_callVv1 (pc' := 5) (As := [.int v1]) (b := (a 0)) (st := []) (w2 := fun o1 => [oX4 a s_saidOn s_saidOff s_saidCount, oX1 (a 10) (a 11) (a 12) (a 13) s_range_peaks s_range_windsTold, ai d (a 22) 6 o1]) X lk_X4_285 dX4_isApartWith_2 rfl rfl rfl (Nat.le_of_ble_eq_true rfl) ⟨Nat.le_of_ble_eq_true rfl, Nat.le_of_ble_eq_true rfl, Nat.le_of_ble_eq_true rfl, Nat.le_of_ble_eq_true rfl⟩ rfl [0, 2] (by decide) rfl hf (fun l o1 h => ctX4_turn l d a s_saidOn s_saidOff s_saidCount s_faces v1 o1 h) (fun _ => rfl) (fun _ => rfl) (fun o1 hf => ?_)
  refine g_aload_n (pc' := 6) X dX4_isApartWith_5 rfl rfl rfl ?_
  refine g_bipush (v := 31) (pc' := 8) X dX4_isApartWith_6 rfl (by decide) ?_
  refine g_callVi0 (pc' := 11) (As := [.int (31 : Int32)]) (b := (a 0)) (st := []) (w2 := fun x2 => [oX4 a s_saidOn s_saidOff s_saidCount, oX1 (a 10) (a 11) (a 12) (a 13) s_range_peaks s_range_windsTold, ai d (a 22) 6 o1]) X lk_X4_167 dX4_isApartWith_8 rfl rfl rfl (Nat.le_of_ble_eq_true rfl) ⟨Nat.le_of_ble_eq_true rfl, Nat.le_of_ble_eq_true rfl, Nat.le_of_ble_eq_true rfl, Nat.le_of_ble_eq_true rfl⟩ rfl [0, 1, 2] (by decide) rfl hf (fun l x2 h => ctX4_pairsAlike l d a s_saidOn s_saidOff s_saidCount s_range_peaks s_range_windsTold o1 (31 : Int32) x2 h) (fun _ => rfl) (fun _ => rfl) (fun x2 hnx2 hf => ?_)
  have hjX4_isApartWith_19 : ∀ (v1 : Int32) (t0 : Int32) (s_faces : Nat → Int32), jX4_isApartWith_19 s_faces v1 t0 = some (r, ro1) → sx_G d κ 3 0 0 19 [some (.ref (a 0)), some (.int v1), none] [.int t0] [oX4 a s_saidOn s_saidOff s_saidCount, oX1 (a 10) (a 11) (a 12) (a 13) s_range_peaks s_range_windsTold, ai d (a 22) 6 s_faces] := by
    intro v1 t0 s_faces hf
    unfold jX4_isApartWith_19 at hf
    refine g_istore_n (lv' := [some (.ref (a 0)), some (.int v1), some (.int t0)]) (pc' := 20) X dX4_isApartWith_19 rfl rfl (by decide) rfl rfl ?_
    refine g_aload_n (pc' := 21) X dX4_isApartWith_20 rfl rfl rfl ?_
    refine g_iload_n (pc' := 22) X dX4_isApartWith_21 rfl rfl rfl ?_
    refine g_callVv1 (pc' := 25) (As := [.int v1]) (b := (a 0)) (st := []) (w2 := fun o3 => [oX4 a s_saidOn s_saidOff s_saidCount, oX1 (a 10) (a 11) (a 12) (a 13) s_range_peaks s_range_windsTold, ai d (a 22) 6 o3]) X lk_X4_285 dX4_isApartWith_22 rfl rfl rfl (Nat.le_of_ble_eq_true rfl) ⟨Nat.le_of_ble_eq_true rfl, Nat.le_of_ble_eq_true rfl, Nat.le_of_ble_eq_true rfl, Nat.le_of_ble_eq_true rfl⟩ rfl [0, 2] (by decide) rfl hf (fun l o3 h => ctX4_turn l d a s_saidOn s_saidOff s_saidCount s_faces v1 o3 h) (fun _ => rfl) (fun _ => rfl) (fun o3 hf => ?_)
    refine g_iload_n (pc' := 26) X dX4_isApartWith_25 rfl rfl rfl ?_
    obtain ⟨hn8, hf⟩ := sx_ok8_s (fun _ => rfl) hf
    cases hf
    exact hR _ _ dX4_isApartWith_26 hn8
  refine g_if_ne (tgt := 18) (pc' := 14) X dX4_isApartWith_11 (by decide) rfl hf (fun hf => ?_) (fun hf => ?_)
  · refine g_iconst (v := 0) (pc' := 19) X dX4_isApartWith_18 rfl (by decide) ?_
    exact sx_weak [true, true, true] rfl (hjX4_isApartWith_19 v1 (0 : Int32) o1 hf)
  · refine g_iconst (v := 1) (pc' := 15) X dX4_isApartWith_14 rfl (by decide) ?_
    refine g_goto (tgt := 19) X dX4_isApartWith_15 (by decide) ?_
    exact sx_weak [true, true, true] rfl (hjX4_isApartWith_19 v1 (1 : Int32) o1 hf)
-- X4_findSecondAdded
def jX4_findSecondAdded_55 (s_range_peaks : Int32) (s_now_cells : Nat → Int32) (s_faces : Nat → Int32) (v2 : Int32) (t0 : Int32) : Option ((Int32 × (Nat → Int32)) ⊕ ((Int32 × (Nat → Int32)) ⊕ ((Nat → Int32)))) :=
  if t0 = 0 then
    some (.inl (v2 + (1 : Int32), s_faces))
  else
    (fX4_canPutAt s_now_cells v2).bind fun x2 =>
    if x2 = 0 then
      some (.inl (v2 + (1 : Int32), s_faces))
    else
      (fX4_isApartWith s_range_peaks s_faces v2).bind fun (x3, o4) =>
      if x3 = 0 then
        some (.inl (v2 + (1 : Int32), o4))
      else
        some (.inr (.inl (v2, o4)))
def jX4_findSecondAdded_50 (s_range_peaks : Int32) (s_now_cells : Nat → Int32) (s_faces : Nat → Int32) (v2 : Int32) : Option ((Int32 × (Nat → Int32)) ⊕ ((Int32 × (Nat → Int32)) ⊕ ((Nat → Int32)))) :=
  jX4_findSecondAdded_55 s_range_peaks s_now_cells s_faces v2 (1 : Int32)
def jX4_findSecondAdded_31 (s_range_peaks : Int32) (s_now_cells : Nat → Int32) (s_faces : Nat → Int32) (v2 : Int32) (t0 : Int32) : Option ((Int32 × (Nat → Int32)) ⊕ ((Int32 × (Nat → Int32)) ⊕ ((Nat → Int32)))) :=
  if t0 = 0 then
    jX4_findSecondAdded_50 s_range_peaks s_now_cells s_faces v2
  else
    (fX3_inStore s_now_cells (v2 - v2 / (5 : Int32) * (5 : Int32))).bind fun x5 =>
    if x5 < (2 : Int32) then
      jX4_findSecondAdded_55 s_range_peaks s_now_cells s_faces v2 (0 : Int32)
    else
      jX4_findSecondAdded_50 s_range_peaks s_now_cells s_faces v2
def bX4_findSecondAdded_4 (s_range_peaks : Int32) (s_now_cells : Nat → Int32) (v1 : Int32) : (Int32 × (Nat → Int32)) → Option ((Int32 × (Nat → Int32)) ⊕ ((Int32 × (Nat → Int32)) ⊕ ((Nat → Int32)))) := fun (v2, s_faces) =>
  if (s_range_peaks * (5 : Int32)) ≤ v2 then
    some (.inr (.inr s_faces))
  else
    if (v2 - v2 / (5 : Int32) * (5 : Int32)) = (v1 - v1 / (5 : Int32) * (5 : Int32)) then
      jX4_findSecondAdded_31 s_range_peaks s_now_cells s_faces v2 (1 : Int32)
    else
      jX4_findSecondAdded_31 s_range_peaks s_now_cells s_faces v2 (0 : Int32)
def fX4_findSecondAdded (s_range_peaks : Int32) (s_now_cells : Nat → Int32) (s_faces : Nat → Int32) (s_added : Nat → Int32) (v1 : Int32) : Option (Int32 × (Nat → Int32) × (Nat → Int32)) :=
  sx_lt (v1 + (1 : Int32)) fun x1 =>
  (sx_it 1000 (bX4_findSecondAdded_4 s_range_peaks s_now_cells v1) (x1, s_faces)).bind fun y6 => match y6 with
    | .inl (w7, w8) =>
      sx_wr s_added 2 (1 : Int32) w7 fun g9 =>
      some ((1 : Int32), w8, g9)
    | .inr (w10) =>
      some ((0 : Int32), w10, s_added)
set_option maxHeartbeats 4000000 in
set_option maxRecDepth 100000 in
theorem lX4_findSecondAdded_4 (d : sx_D) (κ : sx_C) (a : Nat → Nat) (s_saidOn : Int32) (s_saidOff : Int32) (s_saidCount : Int32) (s_range_peaks : Int32) (s_range_windsTold : Int32) (s_now_cells : Nat → Int32) (s_added : Nat → Int32) (v1 : Int32) (X : sx_X d κ cX4_findSecondAdded 5 RX4 (sx_rm 3)) (y : (Int32 × (Nat → Int32)) ⊕ ((Nat → Int32))) (hE78 : ∀ (v2 : Int32) (s_faces : Nat → Int32), (.inl (v2, s_faces)) = y → sx_G d κ 5 0 0 78 [some (.ref (a 0)), none, some (.int v2), none, none] [] [oX4 a s_saidOn s_saidOff s_saidCount, oX1 (a 10) (a 11) (a 12) (a 13) s_range_peaks s_range_windsTold, oX3 (a 14) (a 15), ai d (a 15) 42 s_now_cells, ai d (a 22) 6 s_faces, ai d (a 23) 2 s_added]) (hE93 : ∀ (s_faces : Nat → Int32), (.inr s_faces) = y → sx_G d κ 5 0 0 93 [none, none, none, none, none] [] [oX4 a s_saidOn s_saidOff s_saidCount, oX1 (a 10) (a 11) (a 12) (a 13) s_range_peaks s_range_windsTold, oX3 (a 14) (a 15), ai d (a 15) 42 s_now_cells, ai d (a 22) 6 s_faces, ai d (a 23) 2 s_added]) : ∀ (n : Nat) (s : Int32 × (Nat → Int32)), sx_it n (bX4_findSecondAdded_4 s_range_peaks s_now_cells v1) s = some y → (match s with | (v2, s_faces) => sx_G d κ 5 0 0 4 [some (.ref (a 0)), some (.int v1), some (.int v2), none, none] [] [oX4 a s_saidOn s_saidOff s_saidCount, oX1 (a 10) (a 11) (a 12) (a 13) s_range_peaks s_range_windsTold, oX3 (a 14) (a 15), ai d (a 15) 42 s_now_cells, ai d (a 22) 6 s_faces, ai d (a 23) 2 s_added]) := by
  refine sx_it_run (bX4_findSecondAdded_4 s_range_peaks s_now_cells v1) (fun s => match s with | (v2, s_faces) => sx_G d κ 5 0 0 4 [some (.ref (a 0)), some (.int v1), some (.int v2), none, none] [] [oX4 a s_saidOn s_saidOff s_saidCount, oX1 (a 10) (a 11) (a 12) (a 13) s_range_peaks s_range_windsTold, oX3 (a 14) (a 15), ai d (a 15) 42 s_now_cells, ai d (a 22) 6 s_faces, ai d (a 23) 2 s_added]) y ?_
  rintro ⟨v2, s_faces⟩ x hf hb he
  show sx_G d κ 5 0 0 4 [some (.ref (a 0)), some (.int v1), some (.int v2), none, none] [] [oX4 a s_saidOn s_saidOff s_saidCount, oX1 (a 10) (a 11) (a 12) (a 13) s_range_peaks s_range_windsTold, oX3 (a 14) (a 15), ai d (a 15) 42 s_now_cells, ai d (a 22) 6 s_faces, ai d (a 23) 2 s_added]
  unfold bX4_findSecondAdded_4 at hf
  refine g_iload_n (pc' := 5) X dX4_findSecondAdded_4 rfl rfl rfl ?_
  refine g_aload_n (pc' := 6) X dX4_findSecondAdded_5 rfl rfl rfl ?_
  refine g_get (pc' := 9) X fl_X4_19 dX4_findSecondAdded_6 rfl 0 rfl rfl ?_
  refine g_get (pc' := 12) X fl_X4_80 dX4_findSecondAdded_9 rfl 1 rfl rfl ?_
  refine g_iconst (v := 5) (pc' := 13) X dX4_findSecondAdded_12 rfl (by decide) ?_
  refine g_imul (pc' := 14) X dX4_findSecondAdded_13 rfl ?_
  refine g_icmp_ge (tgt := 93) (pc' := 17) X dX4_findSecondAdded_14 (by decide) rfl hf (fun hf => ?_) (fun hf => ?_)
  · exact sx_weak [false, false, false, true, true] rfl (hE93 _ (sx_ex hf he))
  · refine g_iload_n (pc' := 18) X dX4_findSecondAdded_17 rfl rfl rfl ?_
    refine g_iconst (v := 5) (pc' := 19) X dX4_findSecondAdded_18 rfl (by decide) ?_
    refine g_irem (pc' := 20) X dX4_findSecondAdded_19 rfl (by decide) ?_
    refine g_iload_n (pc' := 21) X dX4_findSecondAdded_20 rfl rfl rfl ?_
    refine g_iconst (v := 5) (pc' := 22) X dX4_findSecondAdded_21 rfl (by decide) ?_
    refine g_irem (pc' := 23) X dX4_findSecondAdded_22 rfl (by decide) ?_
    have hjX4_findSecondAdded_31 : ∀ (v2 : Int32) (t0 : Int32) (s_faces : Nat → Int32), jX4_findSecondAdded_31 s_range_peaks s_now_cells s_faces v2 t0 = some x → sx_G d κ 5 0 0 31 [some (.ref (a 0)), some (.int v1), some (.int v2), none, none] [.int t0] [oX4 a s_saidOn s_saidOff s_saidCount, oX1 (a 10) (a 11) (a 12) (a 13) s_range_peaks s_range_windsTold, oX3 (a 14) (a 15), ai d (a 15) 42 s_now_cells, ai d (a 22) 6 s_faces, ai d (a 23) 2 s_added] := by
      intro v2 t0 s_faces hf
      unfold jX4_findSecondAdded_31 at hf
      refine g_istore_n (lv' := [some (.ref (a 0)), some (.int v1), some (.int v2), some (.int t0), none]) (pc' := 32) X dX4_findSecondAdded_31 rfl rfl (by decide) rfl rfl ?_
      refine g_iload_n (pc' := 33) X dX4_findSecondAdded_32 rfl rfl rfl ?_
      have hjX4_findSecondAdded_55 : ∀ (v2 : Int32) (t0 : Int32) (s_faces : Nat → Int32), jX4_findSecondAdded_55 s_range_peaks s_now_cells s_faces v2 t0 = some x → sx_G d κ 5 0 0 55 [some (.ref (a 0)), some (.int v1), some (.int v2), none, none] [.int t0] [oX4 a s_saidOn s_saidOff s_saidCount, oX1 (a 10) (a 11) (a 12) (a 13) s_range_peaks s_range_windsTold, oX3 (a 14) (a 15), ai d (a 15) 42 s_now_cells, ai d (a 22) 6 s_faces, ai d (a 23) 2 s_added] := by
        intro v2 t0 s_faces hf
        unfold jX4_findSecondAdded_55 at hf
        refine g_istore (lv' := [some (.ref (a 0)), some (.int v1), some (.int v2), none, some (.int t0)]) (pc' := 57) X dX4_findSecondAdded_55 rfl (by decide) rfl rfl ?_
        refine g_iload (pc' := 59) X dX4_findSecondAdded_57 rfl rfl ?_
        refine g_if_eq (tgt := 87) (pc' := 62) X dX4_findSecondAdded_59 (by decide) rfl hf (fun hf => ?_) (fun hf => ?_)
        · refine g_iinc (v := 1) (lv' := [some (.ref (a 0)), some (.int v1), some (.int (v2 + (1 : Int32))), none, some (.int t0)]) (pc' := 90) X dX4_findSecondAdded_87 rfl rfl (by decide) (by decide) rfl rfl ?_
          refine g_goto (tgt := 4) X dX4_findSecondAdded_90 (by decide) ?_
          have hk := sx_bk hf hb
          exact sx_weak [true, true, true, true, false] rfl hk
        · refine g_aload_n (pc' := 63) X dX4_findSecondAdded_62 rfl rfl rfl ?_
          refine g_iload_n (pc' := 64) X dX4_findSecondAdded_63 rfl rfl rfl ?_
          refine g_callVi0 (pc' := 67) (As := [.int v2]) (b := (a 0)) (st := []) (w2 := fun x2 => [oX4 a s_saidOn s_saidOff s_saidCount, oX1 (a 10) (a 11) (a 12) (a 13) s_range_peaks s_range_windsTold, oX3 (a 14) (a 15), ai d (a 15) 42 s_now_cells, ai d (a 22) 6 s_faces, ai d (a 23) 2 s_added]) X lk_X4_279 dX4_findSecondAdded_64 rfl rfl rfl (Nat.le_of_ble_eq_true rfl) ⟨Nat.le_of_ble_eq_true rfl, Nat.le_of_ble_eq_true rfl, Nat.le_of_ble_eq_true rfl, Nat.le_of_ble_eq_true rfl⟩ rfl [0, 2, 3] (by decide) rfl hf (fun l x2 h => ctX4_canPutAt l d a s_saidOn s_saidOff s_saidCount s_now_cells v2 x2 h) (fun _ => rfl) (fun _ => rfl) (fun x2 hnx2 hf => ?_)
          refine g_if_eq (tgt := 87) (pc' := 70) X dX4_findSecondAdded_67 (by decide) rfl hf (fun hf => ?_) (fun hf => ?_)
          · refine g_iinc (v := 1) (lv' := [some (.ref (a 0)), some (.int v1), some (.int (v2 + (1 : Int32))), none, some (.int t0)]) (pc' := 90) X dX4_findSecondAdded_87 rfl rfl (by decide) (by decide) rfl rfl ?_
            refine g_goto (tgt := 4) X dX4_findSecondAdded_90 (by decide) ?_
            have hk := sx_bk hf hb
            exact sx_weak [true, true, true, true, false] rfl hk
          · refine g_aload_n (pc' := 71) X dX4_findSecondAdded_70 rfl rfl rfl ?_
            refine g_iload_n (pc' := 72) X dX4_findSecondAdded_71 rfl rfl rfl ?_
            refine g_callVi1 (pc' := 75) (As := [.int v2]) (b := (a 0)) (st := []) (w2 := fun x3 o4 => [oX4 a s_saidOn s_saidOff s_saidCount, oX1 (a 10) (a 11) (a 12) (a 13) s_range_peaks s_range_windsTold, oX3 (a 14) (a 15), ai d (a 15) 42 s_now_cells, ai d (a 22) 6 o4, ai d (a 23) 2 s_added]) X lk_X4_282 dX4_findSecondAdded_72 rfl rfl rfl (Nat.le_of_ble_eq_true rfl) ⟨Nat.le_of_ble_eq_true rfl, Nat.le_of_ble_eq_true rfl, Nat.le_of_ble_eq_true rfl, Nat.le_of_ble_eq_true rfl⟩ rfl [0, 1, 4] (by decide) rfl hf (fun l x3 o4 h => ctX4_isApartWith l d a s_saidOn s_saidOff s_saidCount s_range_peaks s_range_windsTold s_faces v2 x3 o4 h) (fun _ _ => rfl) (fun _ _ => rfl) (fun x3 o4 hnx3 hf => ?_)
            refine g_if_eq (tgt := 87) (pc' := 78) X dX4_findSecondAdded_75 (by decide) rfl hf (fun hf => ?_) (fun hf => ?_)
            · refine g_iinc (v := 1) (lv' := [some (.ref (a 0)), some (.int v1), some (.int (v2 + (1 : Int32))), none, some (.int t0)]) (pc' := 90) X dX4_findSecondAdded_87 rfl rfl (by decide) (by decide) rfl rfl ?_
              refine g_goto (tgt := 4) X dX4_findSecondAdded_90 (by decide) ?_
              have hk := sx_bk hf hb
              exact sx_weak [true, true, true, true, false] rfl hk
            · exact sx_weak [true, false, true, true, false] rfl (hE78 _ _ (sx_ex hf he))
      have hjX4_findSecondAdded_50 : ∀ (v2 : Int32) (s_faces : Nat → Int32), jX4_findSecondAdded_50 s_range_peaks s_now_cells s_faces v2 = some x → sx_G d κ 5 0 0 50 [some (.ref (a 0)), some (.int v1), some (.int v2), none, none] [] [oX4 a s_saidOn s_saidOff s_saidCount, oX1 (a 10) (a 11) (a 12) (a 13) s_range_peaks s_range_windsTold, oX3 (a 14) (a 15), ai d (a 15) 42 s_now_cells, ai d (a 22) 6 s_faces, ai d (a 23) 2 s_added] := by
        intro v2 s_faces hf
        unfold jX4_findSecondAdded_50 at hf
        refine g_iconst (v := 1) (pc' := 51) X dX4_findSecondAdded_50 rfl (by decide) ?_
        refine g_goto (tgt := 55) X dX4_findSecondAdded_51 (by decide) ?_
        exact sx_weak [true, true, true, true, true] rfl (hjX4_findSecondAdded_55 v2 (1 : Int32) s_faces hf)
      refine g_if_eq (tgt := 50) (pc' := 36) X dX4_findSecondAdded_33 (by decide) rfl hf (fun hf => ?_) (fun hf => ?_)
      · exact sx_weak [true, true, true, false, true] rfl (hjX4_findSecondAdded_50 v2 s_faces hf)
      · refine g_aload_n (pc' := 37) X dX4_findSecondAdded_36 rfl rfl rfl ?_
        refine g_get (pc' := 40) X fl_X4_26 dX4_findSecondAdded_37 rfl 0 rfl rfl ?_
        refine g_iload_n (pc' := 41) X dX4_findSecondAdded_40 rfl rfl rfl ?_
        refine g_iconst (v := 5) (pc' := 42) X dX4_findSecondAdded_41 rfl (by decide) ?_
        refine g_irem (pc' := 43) X dX4_findSecondAdded_42 rfl (by decide) ?_
        refine g_callVi0 (pc' := 46) (As := [.int (v2 - v2 / (5 : Int32) * (5 : Int32))]) (b := (a 14)) (st := []) (w2 := fun x5 => [oX4 a s_saidOn s_saidOff s_saidCount, oX1 (a 10) (a 11) (a 12) (a 13) s_range_peaks s_range_windsTold, oX3 (a 14) (a 15), ai d (a 15) 42 s_now_cells, ai d (a 22) 6 s_faces, ai d (a 23) 2 s_added]) X lk_X4_123 dX4_findSecondAdded_43 rfl rfl rfl (Nat.le_of_ble_eq_true rfl) ⟨Nat.le_of_ble_eq_true rfl, Nat.le_of_ble_eq_true rfl, Nat.le_of_ble_eq_true rfl, Nat.le_of_ble_eq_true rfl⟩ rfl [2, 3] (by decide) rfl hf (fun l x5 h => ctX3_inStore l d (a 14) (a 15) s_now_cells (v2 - v2 / (5 : Int32) * (5 : Int32)) x5 h) (fun _ => rfl) (fun _ => rfl) (fun x5 hnx5 hf => ?_)
        refine g_iconst (v := 2) (pc' := 47) X dX4_findSecondAdded_46 rfl (by decide) ?_
        refine g_icmp_lt (tgt := 54) (pc' := 50) X dX4_findSecondAdded_47 (by decide) rfl hf (fun hf => ?_) (fun hf => ?_)
        · refine g_iconst (v := 0) (pc' := 55) X dX4_findSecondAdded_54 rfl (by decide) ?_
          exact sx_weak [true, true, true, false, true] rfl (hjX4_findSecondAdded_55 v2 (0 : Int32) s_faces hf)
        · exact sx_weak [true, true, true, false, true] rfl (hjX4_findSecondAdded_50 v2 s_faces hf)
    refine g_icmp_ne (tgt := 30) (pc' := 26) X dX4_findSecondAdded_23 (by decide) rfl hf (fun hf => ?_) (fun hf => ?_)
    · refine g_iconst (v := 0) (pc' := 31) X dX4_findSecondAdded_30 rfl (by decide) ?_
      exact sx_weak [true, true, true, true, true] rfl (hjX4_findSecondAdded_31 v2 (0 : Int32) s_faces hf)
    · refine g_iconst (v := 1) (pc' := 27) X dX4_findSecondAdded_26 rfl (by decide) ?_
      refine g_goto (tgt := 31) X dX4_findSecondAdded_27 (by decide) ?_
      exact sx_weak [true, true, true, true, true] rfl (hjX4_findSecondAdded_31 v2 (1 : Int32) s_faces hf)
set_option maxHeartbeats 4000000 in
set_option maxRecDepth 100000 in
theorem ctX4_findSecondAdded (l : Launch) (d : sx_D) (a : Nat → Nat) (s_saidOn : Int32) (s_saidOff : Int32) (s_saidCount : Int32) (s_range_peaks : Int32) (s_range_windsTold : Int32) (s_now_cells : Nat → Int32) (s_faces : Nat → Int32) (s_added : Nat → Int32) (v1 : Int32) (r : Int32) (ro1 : Nat → Int32) (ro2 : Nat → Int32) (hf : fX4_findSecondAdded s_range_peaks s_now_cells s_faces s_added v1 = some (r, ro1, ro2)) : sx_I l d yX4_findSecondAdded cX4_findSecondAdded 5 .boolean 3 [.ref (a 0), .int v1] [oX4 a s_saidOn s_saidOff s_saidCount, oX1 (a 10) (a 11) (a 12) (a 13) s_range_peaks s_range_windsTold, oX3 (a 14) (a 15), ai d (a 15) 42 s_now_cells, ai d (a 22) 6 s_faces, ai d (a 23) 2 s_added] [oX4 a s_saidOn s_saidOff s_saidCount, oX1 (a 10) (a 11) (a 12) (a 13) s_range_peaks s_range_windsTold, oX3 (a 14) (a 15), ai d (a 15) 42 s_now_cells, ai d (a 22) 6 ro1, ai d (a 23) 2 ro2] r := by
  refine sx_I.intro (lv0 := [some (.ref (a 0)), some (.int v1), none, none, none]) (by decide +kernel) (Nat.le_of_ble_eq_true rfl) rfl ?_
  intro κ X hR
  have X : sx_X d κ cX4_findSecondAdded 5 RX4 (sx_rm 3) := X
  unfold fX4_findSecondAdded at hf
  refine g_iload_n (pc' := 1) X dX4_findSecondAdded_0 rfl rfl rfl ?_
  refine g_iconst (v := 1) (pc' := 2) X dX4_findSecondAdded_1 rfl (by decide) ?_
  refine g_iadd (pc' := 3) X dX4_findSecondAdded_2 rfl ?_
  refine g_istore_nN (lv' := fun x1 => [some (.ref (a 0)), some (.int v1), some (.int x1), none, none]) (pc' := 4) X dX4_findSecondAdded_3 rfl rfl (by decide) rfl (fun _ => rfl) hf (fun x1 hf => ?_)
  obtain ⟨y6, hy6, hf⟩ := sx_bd hf
  refine sx_weak [true, true, true, true, true] rfl (lX4_findSecondAdded_4 d κ a s_saidOn s_saidOff s_saidCount s_range_peaks s_range_windsTold s_now_cells s_added v1 X y6 ?_ ?_ 1000 (x1, s_faces) hy6)
  · rintro w7 w8 rfl
    refine g_aload_n (pc' := 79) X dX4_findSecondAdded_78 rfl rfl rfl ?_
    refine g_get (pc' := 82) X fl_X4_49 dX4_findSecondAdded_79 rfl 0 rfl rfl ?_
    refine g_iconst (v := 1) (pc' := 83) X dX4_findSecondAdded_82 rfl (by decide) ?_
    refine g_iload_n (pc' := 84) X dX4_findSecondAdded_83 rfl rfl rfl ?_
    refine g_iast (pc' := 85) (w2 := fun g9 => [oX4 a s_saidOn s_saidOff s_saidCount, oX1 (a 10) (a 11) (a 12) (a 13) s_range_peaks s_range_windsTold, oX3 (a 14) (a 15), ai d (a 15) 42 s_now_cells, ai d (a 22) 6 w8, ai d (a 23) 2 g9]) X dX4_findSecondAdded_84 rfl 5 rfl hf (fun _ => rfl) (fun g9 hf => ?_)
    refine g_iconst (v := 1) (pc' := 86) X dX4_findSecondAdded_85 rfl (by decide) ?_
    cases hf
    exact hR _ _ dX4_findSecondAdded_86 rfl
  · rintro w10 rfl
    refine g_iconst (v := 0) (pc' := 94) X dX4_findSecondAdded_93 rfl (by decide) ?_
    cases hf
    exact hR _ _ dX4_findSecondAdded_94 rfl
-- X4_areTwoAddedEnough
def bX4_areTwoAddedEnough_2 (s_range_peaks : Int32) (s_now_cells : Nat → Int32) : (Int32 × (Nat → Int32) × (Nat → Int32)) → Option ((Int32 × (Nat → Int32) × (Nat → Int32)) ⊕ ((Int32 × (Nat → Int32) × (Nat → Int32)) ⊕ ((Nat → Int32) × (Nat → Int32)))) := fun (v1, s_faces, s_added) =>
  if (s_range_peaks * (5 : Int32)) ≤ v1 then
    some (.inr (.inr (s_faces, s_added)))
  else
    (fX4_canPutAt s_now_cells v1).bind fun x1 =>
    if x1 = 0 then
      some (.inl (v1 + (1 : Int32), s_faces, s_added))
    else
      (fX4_turn s_faces v1).bind fun o2 =>
      (fX4_findSecondAdded s_range_peaks s_now_cells o2 s_added v1).bind fun (x3, o4, o5) =>
      (fX4_turn o4 v1).bind fun o6 =>
      if x3 = 0 then
        some (.inl (v1 + (1 : Int32), o6, o5))
      else
        some (.inr (.inl (v1, o6, o5)))
def fX4_areTwoAddedEnough (s_range_peaks : Int32) (s_now_cells : Nat → Int32) (s_faces : Nat → Int32) (s_added : Nat → Int32) : Option (Int32 × (Nat → Int32) × (Nat → Int32)) :=
  (sx_it 1000 (bX4_areTwoAddedEnough_2 s_range_peaks s_now_cells) ((0 : Int32), s_faces, s_added)).bind fun y7 => match y7 with
    | .inl (w8, w9, w10) =>
      sx_wr w10 2 (0 : Int32) w8 fun g11 =>
      some ((1 : Int32), w9, g11)
    | .inr ((w12, w13)) =>
      some ((0 : Int32), w12, w13)
set_option maxHeartbeats 4000000 in
set_option maxRecDepth 100000 in
theorem lX4_areTwoAddedEnough_2 (d : sx_D) (κ : sx_C) (a : Nat → Nat) (s_saidOn : Int32) (s_saidOff : Int32) (s_saidCount : Int32) (s_range_peaks : Int32) (s_range_windsTold : Int32) (s_now_cells : Nat → Int32) (X : sx_X d κ cX4_areTwoAddedEnough 3 RX4 (sx_rm 4)) (y : (Int32 × (Nat → Int32) × (Nat → Int32)) ⊕ ((Nat → Int32) × (Nat → Int32))) (hE43 : ∀ (v1 : Int32) (s_faces : Nat → Int32) (s_added : Nat → Int32), (.inl (v1, s_faces, s_added)) = y → sx_G d κ 3 0 0 43 [some (.ref (a 0)), some (.int v1), none] [] [oX4 a s_saidOn s_saidOff s_saidCount, oX1 (a 10) (a 11) (a 12) (a 13) s_range_peaks s_range_windsTold, oX3 (a 14) (a 15), ai d (a 15) 42 s_now_cells, ai d (a 22) 6 s_faces, ai d (a 23) 2 s_added]) (hE58 : ∀ (s_faces : Nat → Int32) (s_added : Nat → Int32), (.inr (s_faces, s_added)) = y → sx_G d κ 3 0 0 58 [none, none, none] [] [oX4 a s_saidOn s_saidOff s_saidCount, oX1 (a 10) (a 11) (a 12) (a 13) s_range_peaks s_range_windsTold, oX3 (a 14) (a 15), ai d (a 15) 42 s_now_cells, ai d (a 22) 6 s_faces, ai d (a 23) 2 s_added]) : ∀ (n : Nat) (s : Int32 × (Nat → Int32) × (Nat → Int32)), sx_it n (bX4_areTwoAddedEnough_2 s_range_peaks s_now_cells) s = some y → (match s with | (v1, s_faces, s_added) => sx_G d κ 3 0 0 2 [some (.ref (a 0)), some (.int v1), none] [] [oX4 a s_saidOn s_saidOff s_saidCount, oX1 (a 10) (a 11) (a 12) (a 13) s_range_peaks s_range_windsTold, oX3 (a 14) (a 15), ai d (a 15) 42 s_now_cells, ai d (a 22) 6 s_faces, ai d (a 23) 2 s_added]) := by
  refine sx_it_run (bX4_areTwoAddedEnough_2 s_range_peaks s_now_cells) (fun s => match s with | (v1, s_faces, s_added) => sx_G d κ 3 0 0 2 [some (.ref (a 0)), some (.int v1), none] [] [oX4 a s_saidOn s_saidOff s_saidCount, oX1 (a 10) (a 11) (a 12) (a 13) s_range_peaks s_range_windsTold, oX3 (a 14) (a 15), ai d (a 15) 42 s_now_cells, ai d (a 22) 6 s_faces, ai d (a 23) 2 s_added]) y ?_
  rintro ⟨v1, s_faces, s_added⟩ x hf hb he
  show sx_G d κ 3 0 0 2 [some (.ref (a 0)), some (.int v1), none] [] [oX4 a s_saidOn s_saidOff s_saidCount, oX1 (a 10) (a 11) (a 12) (a 13) s_range_peaks s_range_windsTold, oX3 (a 14) (a 15), ai d (a 15) 42 s_now_cells, ai d (a 22) 6 s_faces, ai d (a 23) 2 s_added]
  unfold bX4_areTwoAddedEnough_2 at hf
  refine g_iload_n (pc' := 3) X dX4_areTwoAddedEnough_2 rfl rfl rfl ?_
  refine g_aload_n (pc' := 4) X dX4_areTwoAddedEnough_3 rfl rfl rfl ?_
  refine g_get (pc' := 7) X fl_X4_19 dX4_areTwoAddedEnough_4 rfl 0 rfl rfl ?_
  refine g_get (pc' := 10) X fl_X4_80 dX4_areTwoAddedEnough_7 rfl 1 rfl rfl ?_
  refine g_iconst (v := 5) (pc' := 11) X dX4_areTwoAddedEnough_10 rfl (by decide) ?_
  refine g_imul (pc' := 12) X dX4_areTwoAddedEnough_11 rfl ?_
  refine g_icmp_ge (tgt := 58) (pc' := 15) X dX4_areTwoAddedEnough_12 (by decide) rfl hf (fun hf => ?_) (fun hf => ?_)
  · exact sx_weak [false, false, true] rfl (hE58 _ _ (sx_ex hf he))
  · refine g_aload_n (pc' := 16) X dX4_areTwoAddedEnough_15 rfl rfl rfl ?_
    refine g_iload_n (pc' := 17) X dX4_areTwoAddedEnough_16 rfl rfl rfl ?_
    refine g_callVi0 (pc' := 20) (As := [.int v1]) (b := (a 0)) (st := []) (w2 := fun x1 => [oX4 a s_saidOn s_saidOff s_saidCount, oX1 (a 10) (a 11) (a 12) (a 13) s_range_peaks s_range_windsTold, oX3 (a 14) (a 15), ai d (a 15) 42 s_now_cells, ai d (a 22) 6 s_faces, ai d (a 23) 2 s_added]) X lk_X4_279 dX4_areTwoAddedEnough_17 rfl rfl rfl (Nat.le_of_ble_eq_true rfl) ⟨Nat.le_of_ble_eq_true rfl, Nat.le_of_ble_eq_true rfl, Nat.le_of_ble_eq_true rfl, Nat.le_of_ble_eq_true rfl⟩ rfl [0, 2, 3] (by decide) rfl hf (fun l x1 h => ctX4_canPutAt l d a s_saidOn s_saidOff s_saidCount s_now_cells v1 x1 h) (fun _ => rfl) (fun _ => rfl) (fun x1 hnx1 hf => ?_)
    refine g_if_eq (tgt := 52) (pc' := 23) X dX4_areTwoAddedEnough_20 (by decide) rfl hf (fun hf => ?_) (fun hf => ?_)
    · refine g_iinc (v := 1) (lv' := [some (.ref (a 0)), some (.int (v1 + (1 : Int32))), none]) (pc' := 55) X dX4_areTwoAddedEnough_52 rfl rfl (by decide) (by decide) rfl rfl ?_
      refine g_goto (tgt := 2) X dX4_areTwoAddedEnough_55 (by decide) ?_
      have hk := sx_bk hf hb
      exact sx_weak [true, true, true] rfl hk
    · refine g_aload_n (pc' := 24) X dX4_areTwoAddedEnough_23 rfl rfl rfl ?_
      refine g_iload_n (pc' := 25) X dX4_areTwoAddedEnough_24 rfl rfl rfl ?_
      refine g_callVv1 (pc' := 28) (As := [.int v1]) (b := (a 0)) (st := []) (w2 := fun o2 => [oX4 a s_saidOn s_saidOff s_saidCount, oX1 (a 10) (a 11) (a 12) (a 13) s_range_peaks s_range_windsTold, oX3 (a 14) (a 15), ai d (a 15) 42 s_now_cells, ai d (a 22) 6 o2, ai d (a 23) 2 s_added]) X lk_X4_285 dX4_areTwoAddedEnough_25 rfl rfl rfl (Nat.le_of_ble_eq_true rfl) ⟨Nat.le_of_ble_eq_true rfl, Nat.le_of_ble_eq_true rfl, Nat.le_of_ble_eq_true rfl, Nat.le_of_ble_eq_true rfl⟩ rfl [0, 4] (by decide) rfl hf (fun l o2 h => ctX4_turn l d a s_saidOn s_saidOff s_saidCount s_faces v1 o2 h) (fun _ => rfl) (fun _ => rfl) (fun o2 hf => ?_)
      refine g_aload_n (pc' := 29) X dX4_areTwoAddedEnough_28 rfl rfl rfl ?_
      refine g_iload_n (pc' := 30) X dX4_areTwoAddedEnough_29 rfl rfl rfl ?_
      refine g_callVi2 (pc' := 33) (As := [.int v1]) (b := (a 0)) (st := []) (w2 := fun x3 o4 o5 => [oX4 a s_saidOn s_saidOff s_saidCount, oX1 (a 10) (a 11) (a 12) (a 13) s_range_peaks s_range_windsTold, oX3 (a 14) (a 15), ai d (a 15) 42 s_now_cells, ai d (a 22) 6 o4, ai d (a 23) 2 o5]) X lk_X4_288 dX4_areTwoAddedEnough_30 rfl rfl rfl (Nat.le_of_ble_eq_true rfl) ⟨Nat.le_of_ble_eq_true rfl, Nat.le_of_ble_eq_true rfl, Nat.le_of_ble_eq_true rfl, Nat.le_of_ble_eq_true rfl⟩ rfl [0, 1, 2, 3, 4, 5] (by decide) rfl hf (fun l x3 o4 o5 h => ctX4_findSecondAdded l d a s_saidOn s_saidOff s_saidCount s_range_peaks s_range_windsTold s_now_cells o2 s_added v1 x3 o4 o5 h) (fun _ _ _ => rfl) (fun _ _ _ => rfl) (fun x3 o4 o5 hnx3 hf => ?_)
      refine g_istore_n (lv' := [some (.ref (a 0)), some (.int v1), some (.int x3)]) (pc' := 34) X dX4_areTwoAddedEnough_33 rfl rfl (by decide) rfl rfl ?_
      refine g_aload_n (pc' := 35) X dX4_areTwoAddedEnough_34 rfl rfl rfl ?_
      refine g_iload_n (pc' := 36) X dX4_areTwoAddedEnough_35 rfl rfl rfl ?_
      refine g_callVv1 (pc' := 39) (As := [.int v1]) (b := (a 0)) (st := []) (w2 := fun o6 => [oX4 a s_saidOn s_saidOff s_saidCount, oX1 (a 10) (a 11) (a 12) (a 13) s_range_peaks s_range_windsTold, oX3 (a 14) (a 15), ai d (a 15) 42 s_now_cells, ai d (a 22) 6 o6, ai d (a 23) 2 o5]) X lk_X4_285 dX4_areTwoAddedEnough_36 rfl rfl rfl (Nat.le_of_ble_eq_true rfl) ⟨Nat.le_of_ble_eq_true rfl, Nat.le_of_ble_eq_true rfl, Nat.le_of_ble_eq_true rfl, Nat.le_of_ble_eq_true rfl⟩ rfl [0, 4] (by decide) rfl hf (fun l o6 h => ctX4_turn l d a s_saidOn s_saidOff s_saidCount o4 v1 o6 h) (fun _ => rfl) (fun _ => rfl) (fun o6 hf => ?_)
      refine g_iload_n (pc' := 40) X dX4_areTwoAddedEnough_39 rfl rfl rfl ?_
      refine g_if_eq (tgt := 52) (pc' := 43) X dX4_areTwoAddedEnough_40 (by decide) rfl hf (fun hf => ?_) (fun hf => ?_)
      · refine g_iinc (v := 1) (lv' := [some (.ref (a 0)), some (.int (v1 + (1 : Int32))), some (.int x3)]) (pc' := 55) X dX4_areTwoAddedEnough_52 rfl rfl (by decide) (by decide) rfl rfl ?_
        refine g_goto (tgt := 2) X dX4_areTwoAddedEnough_55 (by decide) ?_
        have hk := sx_bk hf hb
        exact sx_weak [true, true, false] rfl hk
      · exact sx_weak [true, true, false] rfl (hE43 _ _ _ (sx_ex hf he))
set_option maxHeartbeats 4000000 in
set_option maxRecDepth 100000 in
theorem ctX4_areTwoAddedEnough (l : Launch) (d : sx_D) (a : Nat → Nat) (s_saidOn : Int32) (s_saidOff : Int32) (s_saidCount : Int32) (s_range_peaks : Int32) (s_range_windsTold : Int32) (s_now_cells : Nat → Int32) (s_faces : Nat → Int32) (s_added : Nat → Int32) (r : Int32) (ro1 : Nat → Int32) (ro2 : Nat → Int32) (hf : fX4_areTwoAddedEnough s_range_peaks s_now_cells s_faces s_added = some (r, ro1, ro2)) : sx_I l d yX4_areTwoAddedEnough cX4_areTwoAddedEnough 3 .boolean 4 [.ref (a 0)] [oX4 a s_saidOn s_saidOff s_saidCount, oX1 (a 10) (a 11) (a 12) (a 13) s_range_peaks s_range_windsTold, oX3 (a 14) (a 15), ai d (a 15) 42 s_now_cells, ai d (a 22) 6 s_faces, ai d (a 23) 2 s_added] [oX4 a s_saidOn s_saidOff s_saidCount, oX1 (a 10) (a 11) (a 12) (a 13) s_range_peaks s_range_windsTold, oX3 (a 14) (a 15), ai d (a 15) 42 s_now_cells, ai d (a 22) 6 ro1, ai d (a 23) 2 ro2] r := by
  refine sx_I.intro (lv0 := [some (.ref (a 0)), none, none]) (by decide +kernel) (Nat.le_of_ble_eq_true rfl) rfl ?_
  intro κ X hR
  have X : sx_X d κ cX4_areTwoAddedEnough 3 RX4 (sx_rm 4) := X
  unfold fX4_areTwoAddedEnough at hf
  refine g_iconst (v := 0) (pc' := 1) X dX4_areTwoAddedEnough_0 rfl (by decide) ?_
  refine g_istore_n (lv' := [some (.ref (a 0)), some (.int (0 : Int32)), none]) (pc' := 2) X dX4_areTwoAddedEnough_1 rfl rfl (by decide) rfl rfl ?_
  obtain ⟨y7, hy7, hf⟩ := sx_bd hf
  refine sx_weak [true, true, true] rfl (lX4_areTwoAddedEnough_2 d κ a s_saidOn s_saidOff s_saidCount s_range_peaks s_range_windsTold s_now_cells X y7 ?_ ?_ 1000 ((0 : Int32), s_faces, s_added) hy7)
  · rintro w8 w9 w10 rfl
    refine g_aload_n (pc' := 44) X dX4_areTwoAddedEnough_43 rfl rfl rfl ?_
    refine g_get (pc' := 47) X fl_X4_49 dX4_areTwoAddedEnough_44 rfl 0 rfl rfl ?_
    refine g_iconst (v := 0) (pc' := 48) X dX4_areTwoAddedEnough_47 rfl (by decide) ?_
    refine g_iload_n (pc' := 49) X dX4_areTwoAddedEnough_48 rfl rfl rfl ?_
    refine g_iast (pc' := 50) (w2 := fun g11 => [oX4 a s_saidOn s_saidOff s_saidCount, oX1 (a 10) (a 11) (a 12) (a 13) s_range_peaks s_range_windsTold, oX3 (a 14) (a 15), ai d (a 15) 42 s_now_cells, ai d (a 22) 6 w9, ai d (a 23) 2 g11]) X dX4_areTwoAddedEnough_49 rfl 5 rfl hf (fun _ => rfl) (fun g11 hf => ?_)
    refine g_iconst (v := 1) (pc' := 51) X dX4_areTwoAddedEnough_50 rfl (by decide) ?_
    cases hf
    exact hR _ _ dX4_areTwoAddedEnough_51 rfl
  · rintro w12 w13 rfl
    refine g_iconst (v := 0) (pc' := 59) X dX4_areTwoAddedEnough_58 rfl (by decide) ?_
    cases hf
    exact hR _ _ dX4_areTwoAddedEnough_59 rfl
-- X4_isOneAddedEnough
def bX4_isOneAddedEnough_2 (s_range_peaks : Int32) (s_now_cells : Nat → Int32) : (Int32 × (Nat → Int32)) → Option ((Int32 × (Nat → Int32)) ⊕ ((Int32 × (Nat → Int32)) ⊕ ((Nat → Int32)))) := fun (v1, s_faces) =>
  if (s_range_peaks * (5 : Int32)) ≤ v1 then
    some (.inr (.inr s_faces))
  else
    (fX4_canPutAt s_now_cells v1).bind fun x1 =>
    if x1 = 0 then
      some (.inl (v1 + (1 : Int32), s_faces))
    else
      (fX4_isApartWith s_range_peaks s_faces v1).bind fun (x2, o3) =>
      if x2 = 0 then
        some (.inl (v1 + (1 : Int32), o3))
      else
        some (.inr (.inl (v1, o3)))
def fX4_isOneAddedEnough (s_range_peaks : Int32) (s_now_cells : Nat → Int32) (s_faces : Nat → Int32) (s_added : Nat → Int32) : Option (Int32 × (Nat → Int32) × (Nat → Int32)) :=
  (sx_it 1000 (bX4_isOneAddedEnough_2 s_range_peaks s_now_cells) ((0 : Int32), s_faces)).bind fun y4 => match y4 with
    | .inl (w5, w6) =>
      sx_wr s_added 2 (0 : Int32) w5 fun g7 =>
      some ((1 : Int32), w6, g7)
    | .inr (w8) =>
      some ((0 : Int32), w8, s_added)
set_option maxHeartbeats 4000000 in
set_option maxRecDepth 100000 in
theorem lX4_isOneAddedEnough_2 (d : sx_D) (κ : sx_C) (a : Nat → Nat) (s_saidOn : Int32) (s_saidOff : Int32) (s_saidCount : Int32) (s_range_peaks : Int32) (s_range_windsTold : Int32) (s_now_cells : Nat → Int32) (s_added : Nat → Int32) (X : sx_X d κ cX4_isOneAddedEnough 2 RX4 (sx_rm 3)) (y : (Int32 × (Nat → Int32)) ⊕ ((Nat → Int32))) (hE31 : ∀ (v1 : Int32) (s_faces : Nat → Int32), (.inl (v1, s_faces)) = y → sx_G d κ 2 0 0 31 [some (.ref (a 0)), some (.int v1)] [] [oX4 a s_saidOn s_saidOff s_saidCount, oX1 (a 10) (a 11) (a 12) (a 13) s_range_peaks s_range_windsTold, oX3 (a 14) (a 15), ai d (a 15) 42 s_now_cells, ai d (a 22) 6 s_faces, ai d (a 23) 2 s_added]) (hE46 : ∀ (s_faces : Nat → Int32), (.inr s_faces) = y → sx_G d κ 2 0 0 46 [none, none] [] [oX4 a s_saidOn s_saidOff s_saidCount, oX1 (a 10) (a 11) (a 12) (a 13) s_range_peaks s_range_windsTold, oX3 (a 14) (a 15), ai d (a 15) 42 s_now_cells, ai d (a 22) 6 s_faces, ai d (a 23) 2 s_added]) : ∀ (n : Nat) (s : Int32 × (Nat → Int32)), sx_it n (bX4_isOneAddedEnough_2 s_range_peaks s_now_cells) s = some y → (match s with | (v1, s_faces) => sx_G d κ 2 0 0 2 [some (.ref (a 0)), some (.int v1)] [] [oX4 a s_saidOn s_saidOff s_saidCount, oX1 (a 10) (a 11) (a 12) (a 13) s_range_peaks s_range_windsTold, oX3 (a 14) (a 15), ai d (a 15) 42 s_now_cells, ai d (a 22) 6 s_faces, ai d (a 23) 2 s_added]) := by
  refine sx_it_run (bX4_isOneAddedEnough_2 s_range_peaks s_now_cells) (fun s => match s with | (v1, s_faces) => sx_G d κ 2 0 0 2 [some (.ref (a 0)), some (.int v1)] [] [oX4 a s_saidOn s_saidOff s_saidCount, oX1 (a 10) (a 11) (a 12) (a 13) s_range_peaks s_range_windsTold, oX3 (a 14) (a 15), ai d (a 15) 42 s_now_cells, ai d (a 22) 6 s_faces, ai d (a 23) 2 s_added]) y ?_
  rintro ⟨v1, s_faces⟩ x hf hb he
  show sx_G d κ 2 0 0 2 [some (.ref (a 0)), some (.int v1)] [] [oX4 a s_saidOn s_saidOff s_saidCount, oX1 (a 10) (a 11) (a 12) (a 13) s_range_peaks s_range_windsTold, oX3 (a 14) (a 15), ai d (a 15) 42 s_now_cells, ai d (a 22) 6 s_faces, ai d (a 23) 2 s_added]
  unfold bX4_isOneAddedEnough_2 at hf
  refine g_iload_n (pc' := 3) X dX4_isOneAddedEnough_2 rfl rfl rfl ?_
  refine g_aload_n (pc' := 4) X dX4_isOneAddedEnough_3 rfl rfl rfl ?_
  refine g_get (pc' := 7) X fl_X4_19 dX4_isOneAddedEnough_4 rfl 0 rfl rfl ?_
  refine g_get (pc' := 10) X fl_X4_80 dX4_isOneAddedEnough_7 rfl 1 rfl rfl ?_
  refine g_iconst (v := 5) (pc' := 11) X dX4_isOneAddedEnough_10 rfl (by decide) ?_
  refine g_imul (pc' := 12) X dX4_isOneAddedEnough_11 rfl ?_
  refine g_icmp_ge (tgt := 46) (pc' := 15) X dX4_isOneAddedEnough_12 (by decide) rfl hf (fun hf => ?_) (fun hf => ?_)
  · exact sx_weak [false, false] rfl (hE46 _ (sx_ex hf he))
  · refine g_aload_n (pc' := 16) X dX4_isOneAddedEnough_15 rfl rfl rfl ?_
    refine g_iload_n (pc' := 17) X dX4_isOneAddedEnough_16 rfl rfl rfl ?_
    refine g_callVi0 (pc' := 20) (As := [.int v1]) (b := (a 0)) (st := []) (w2 := fun x1 => [oX4 a s_saidOn s_saidOff s_saidCount, oX1 (a 10) (a 11) (a 12) (a 13) s_range_peaks s_range_windsTold, oX3 (a 14) (a 15), ai d (a 15) 42 s_now_cells, ai d (a 22) 6 s_faces, ai d (a 23) 2 s_added]) X lk_X4_279 dX4_isOneAddedEnough_17 rfl rfl rfl (Nat.le_of_ble_eq_true rfl) ⟨Nat.le_of_ble_eq_true rfl, Nat.le_of_ble_eq_true rfl, Nat.le_of_ble_eq_true rfl, Nat.le_of_ble_eq_true rfl⟩ rfl [0, 2, 3] (by decide) rfl hf (fun l x1 h => ctX4_canPutAt l d a s_saidOn s_saidOff s_saidCount s_now_cells v1 x1 h) (fun _ => rfl) (fun _ => rfl) (fun x1 hnx1 hf => ?_)
    refine g_if_eq (tgt := 40) (pc' := 23) X dX4_isOneAddedEnough_20 (by decide) rfl hf (fun hf => ?_) (fun hf => ?_)
    · refine g_iinc (v := 1) (lv' := [some (.ref (a 0)), some (.int (v1 + (1 : Int32)))]) (pc' := 43) X dX4_isOneAddedEnough_40 rfl rfl (by decide) (by decide) rfl rfl ?_
      refine g_goto (tgt := 2) X dX4_isOneAddedEnough_43 (by decide) ?_
      have hk := sx_bk hf hb
      exact sx_weak [true, true] rfl hk
    · refine g_aload_n (pc' := 24) X dX4_isOneAddedEnough_23 rfl rfl rfl ?_
      refine g_iload_n (pc' := 25) X dX4_isOneAddedEnough_24 rfl rfl rfl ?_
      refine g_callVi1 (pc' := 28) (As := [.int v1]) (b := (a 0)) (st := []) (w2 := fun x2 o3 => [oX4 a s_saidOn s_saidOff s_saidCount, oX1 (a 10) (a 11) (a 12) (a 13) s_range_peaks s_range_windsTold, oX3 (a 14) (a 15), ai d (a 15) 42 s_now_cells, ai d (a 22) 6 o3, ai d (a 23) 2 s_added]) X lk_X4_282 dX4_isOneAddedEnough_25 rfl rfl rfl (Nat.le_of_ble_eq_true rfl) ⟨Nat.le_of_ble_eq_true rfl, Nat.le_of_ble_eq_true rfl, Nat.le_of_ble_eq_true rfl, Nat.le_of_ble_eq_true rfl⟩ rfl [0, 1, 4] (by decide) rfl hf (fun l x2 o3 h => ctX4_isApartWith l d a s_saidOn s_saidOff s_saidCount s_range_peaks s_range_windsTold s_faces v1 x2 o3 h) (fun _ _ => rfl) (fun _ _ => rfl) (fun x2 o3 hnx2 hf => ?_)
      refine g_if_eq (tgt := 40) (pc' := 31) X dX4_isOneAddedEnough_28 (by decide) rfl hf (fun hf => ?_) (fun hf => ?_)
      · refine g_iinc (v := 1) (lv' := [some (.ref (a 0)), some (.int (v1 + (1 : Int32)))]) (pc' := 43) X dX4_isOneAddedEnough_40 rfl rfl (by decide) (by decide) rfl rfl ?_
        refine g_goto (tgt := 2) X dX4_isOneAddedEnough_43 (by decide) ?_
        have hk := sx_bk hf hb
        exact sx_weak [true, true] rfl hk
      · exact sx_weak [true, true] rfl (hE31 _ _ (sx_ex hf he))
set_option maxHeartbeats 4000000 in
set_option maxRecDepth 100000 in
theorem ctX4_isOneAddedEnough (l : Launch) (d : sx_D) (a : Nat → Nat) (s_saidOn : Int32) (s_saidOff : Int32) (s_saidCount : Int32) (s_range_peaks : Int32) (s_range_windsTold : Int32) (s_now_cells : Nat → Int32) (s_faces : Nat → Int32) (s_added : Nat → Int32) (r : Int32) (ro1 : Nat → Int32) (ro2 : Nat → Int32) (hf : fX4_isOneAddedEnough s_range_peaks s_now_cells s_faces s_added = some (r, ro1, ro2)) : sx_I l d yX4_isOneAddedEnough cX4_isOneAddedEnough 2 .boolean 3 [.ref (a 0)] [oX4 a s_saidOn s_saidOff s_saidCount, oX1 (a 10) (a 11) (a 12) (a 13) s_range_peaks s_range_windsTold, oX3 (a 14) (a 15), ai d (a 15) 42 s_now_cells, ai d (a 22) 6 s_faces, ai d (a 23) 2 s_added] [oX4 a s_saidOn s_saidOff s_saidCount, oX1 (a 10) (a 11) (a 12) (a 13) s_range_peaks s_range_windsTold, oX3 (a 14) (a 15), ai d (a 15) 42 s_now_cells, ai d (a 22) 6 ro1, ai d (a 23) 2 ro2] r := by
  refine sx_I.intro (lv0 := [some (.ref (a 0)), none]) (by decide +kernel) (Nat.le_of_ble_eq_true rfl) rfl ?_
  intro κ X hR
  have X : sx_X d κ cX4_isOneAddedEnough 2 RX4 (sx_rm 3) := X
  unfold fX4_isOneAddedEnough at hf
  refine g_iconst (v := 0) (pc' := 1) X dX4_isOneAddedEnough_0 rfl (by decide) ?_
  refine g_istore_n (lv' := [some (.ref (a 0)), some (.int (0 : Int32))]) (pc' := 2) X dX4_isOneAddedEnough_1 rfl rfl (by decide) rfl rfl ?_
  obtain ⟨y4, hy4, hf⟩ := sx_bd hf
  refine sx_weak [true, true] rfl (lX4_isOneAddedEnough_2 d κ a s_saidOn s_saidOff s_saidCount s_range_peaks s_range_windsTold s_now_cells s_added X y4 ?_ ?_ 1000 ((0 : Int32), s_faces) hy4)
  · rintro w5 w6 rfl
    refine g_aload_n (pc' := 32) X dX4_isOneAddedEnough_31 rfl rfl rfl ?_
    refine g_get (pc' := 35) X fl_X4_49 dX4_isOneAddedEnough_32 rfl 0 rfl rfl ?_
    refine g_iconst (v := 0) (pc' := 36) X dX4_isOneAddedEnough_35 rfl (by decide) ?_
    refine g_iload_n (pc' := 37) X dX4_isOneAddedEnough_36 rfl rfl rfl ?_
    refine g_iast (pc' := 38) (w2 := fun g7 => [oX4 a s_saidOn s_saidOff s_saidCount, oX1 (a 10) (a 11) (a 12) (a 13) s_range_peaks s_range_windsTold, oX3 (a 14) (a 15), ai d (a 15) 42 s_now_cells, ai d (a 22) 6 w6, ai d (a 23) 2 g7]) X dX4_isOneAddedEnough_37 rfl 5 rfl hf (fun _ => rfl) (fun g7 hf => ?_)
    refine g_iconst (v := 1) (pc' := 39) X dX4_isOneAddedEnough_38 rfl (by decide) ?_
    cases hf
    exact hR _ _ dX4_isOneAddedEnough_39 rfl
  · rintro w8 rfl
    refine g_iconst (v := 0) (pc' := 47) X dX4_isOneAddedEnough_46 rfl (by decide) ?_
    cases hf
    exact hR _ _ dX4_isOneAddedEnough_47 rfl
-- X4_searchAdded
def fX4_searchAdded (s_range_peaks : Int32) (s_now_cells : Nat → Int32) (s_faces : Nat → Int32) (s_added : Nat → Int32) : Option (Int32 × (Nat → Int32) × (Nat → Int32)) :=
  (fX4_lookAt s_faces s_now_cells).bind fun o1 =>
  (fX4_pairsAlike s_range_peaks o1 (31 : Int32)).bind fun x2 =>
  if x2 = 0 then
    some ((0 : Int32), o1, s_added)
  else
    (fX4_isOneAddedEnough s_range_peaks s_now_cells o1 s_added).bind fun (x3, o4, o5) =>
    if x3 = 0 then
      (fX4_areTwoAddedEnough s_range_peaks s_now_cells o4 o5).bind fun (x6, o7, o8) =>
      if x6 = 0 then
        some ((-4 : Int32), o7, o8)
      else
        some ((2 : Int32), o7, o8)
    else
      some ((1 : Int32), o4, o5)
set_option maxHeartbeats 4000000 in
set_option maxRecDepth 100000 in
theorem ctX4_searchAdded (l : Launch) (d : sx_D) (a : Nat → Nat) (s_saidOn : Int32) (s_saidOff : Int32) (s_saidCount : Int32) (s_range_peaks : Int32) (s_range_windsTold : Int32) (s_now_cells : Nat → Int32) (s_faces : Nat → Int32) (s_added : Nat → Int32) (r : Int32) (ro1 : Nat → Int32) (ro2 : Nat → Int32) (hf : fX4_searchAdded s_range_peaks s_now_cells s_faces s_added = some (r, ro1, ro2)) : sx_I l d yX4_searchAdded cX4_searchAdded 1 .int 5 [.ref (a 0)] [oX4 a s_saidOn s_saidOff s_saidCount, oX1 (a 10) (a 11) (a 12) (a 13) s_range_peaks s_range_windsTold, oX3 (a 14) (a 15), ai d (a 15) 42 s_now_cells, ai d (a 22) 6 s_faces, ai d (a 23) 2 s_added] [oX4 a s_saidOn s_saidOff s_saidCount, oX1 (a 10) (a 11) (a 12) (a 13) s_range_peaks s_range_windsTold, oX3 (a 14) (a 15), ai d (a 15) 42 s_now_cells, ai d (a 22) 6 ro1, ai d (a 23) 2 ro2] r := by
  refine sx_I.intro (lv0 := [some (.ref (a 0))]) (by decide +kernel) (Nat.le_of_ble_eq_true rfl) rfl ?_
  intro κ X hR
  have X : sx_X d κ cX4_searchAdded 1 RX4 (sx_rm 5) := X
  unfold fX4_searchAdded at hf
  refine g_aload_n (pc' := 1) X dX4_searchAdded_0 rfl rfl rfl ?_
  refine g_aload_n (pc' := 2) X dX4_searchAdded_1 rfl rfl rfl ?_
  refine g_get (pc' := 5) X fl_X4_26 dX4_searchAdded_2 rfl 0 rfl rfl ?_
  refine g_callVv1 (pc' := 8) (As := [.ref (a 14)]) (b := (a 0)) (st := []) (w2 := fun o1 => [oX4 a s_saidOn s_saidOff s_saidCount, oX1 (a 10) (a 11) (a 12) (a 13) s_range_peaks s_range_windsTold, oX3 (a 14) (a 15), ai d (a 15) 42 s_now_cells, ai d (a 22) 6 o1, ai d (a 23) 2 s_added]) X lk_X4_164 dX4_searchAdded_5 rfl rfl rfl (Nat.le_of_ble_eq_true rfl) ⟨Nat.le_of_ble_eq_true rfl, Nat.le_of_ble_eq_true rfl, Nat.le_of_ble_eq_true rfl, Nat.le_of_ble_eq_true rfl⟩ rfl [0, 4, 2, 3] (by decide) rfl hf (fun l o1 h => ctX4_lookAt l d a (a 14) (a 15) s_saidOn s_saidOff s_saidCount s_faces s_now_cells o1 h) (fun _ => rfl) (fun _ => rfl) (fun o1 hf => ?_)
  refine g_aload_n (pc' := 9) X dX4_searchAdded_8 rfl rfl rfl ?_
  refine g_bipush (v := 31) (pc' := 11) X dX4_searchAdded_9 rfl (by decide) ?_
  refine g_callVi0 (pc' := 14) (As := [.int (31 : Int32)]) (b := (a 0)) (st := []) (w2 := fun x2 => [oX4 a s_saidOn s_saidOff s_saidCount, oX1 (a 10) (a 11) (a 12) (a 13) s_range_peaks s_range_windsTold, oX3 (a 14) (a 15), ai d (a 15) 42 s_now_cells, ai d (a 22) 6 o1, ai d (a 23) 2 s_added]) X lk_X4_167 dX4_searchAdded_11 rfl rfl rfl (Nat.le_of_ble_eq_true rfl) ⟨Nat.le_of_ble_eq_true rfl, Nat.le_of_ble_eq_true rfl, Nat.le_of_ble_eq_true rfl, Nat.le_of_ble_eq_true rfl⟩ rfl [0, 1, 4] (by decide) rfl hf (fun l x2 h => ctX4_pairsAlike l d a s_saidOn s_saidOff s_saidCount s_range_peaks s_range_windsTold o1 (31 : Int32) x2 h) (fun _ => rfl) (fun _ => rfl) (fun x2 hnx2 hf => ?_)
  refine g_if_ne (tgt := 19) (pc' := 17) X dX4_searchAdded_14 (by decide) rfl hf (fun hf => ?_) (fun hf => ?_)
  · refine g_aload_n (pc' := 20) X dX4_searchAdded_19 rfl rfl rfl ?_
    refine g_callVi2 (pc' := 23) (As := []) (b := (a 0)) (st := []) (w2 := fun x3 o4 o5 => [oX4 a s_saidOn s_saidOff s_saidCount, oX1 (a 10) (a 11) (a 12) (a 13) s_range_peaks s_range_windsTold, oX3 (a 14) (a 15), ai d (a 15) 42 s_now_cells, ai d (a 22) 6 o4, ai d (a 23) 2 o5]) X lk_X4_273 dX4_searchAdded_20 rfl rfl rfl (Nat.le_of_ble_eq_true rfl) ⟨Nat.le_of_ble_eq_true rfl, Nat.le_of_ble_eq_true rfl, Nat.le_of_ble_eq_true rfl, Nat.le_of_ble_eq_true rfl⟩ rfl [0, 1, 2, 3, 4, 5] (by decide) rfl hf (fun l x3 o4 o5 h => ctX4_isOneAddedEnough l d a s_saidOn s_saidOff s_saidCount s_range_peaks s_range_windsTold s_now_cells o1 s_added x3 o4 o5 h) (fun _ _ _ => rfl) (fun _ _ _ => rfl) (fun x3 o4 o5 hnx3 hf => ?_)
    refine g_if_eq (tgt := 28) (pc' := 26) X dX4_searchAdded_23 (by decide) rfl hf (fun hf => ?_) (fun hf => ?_)
    · refine g_aload_n (pc' := 29) X dX4_searchAdded_28 rfl rfl rfl ?_
      refine g_callVi2 (pc' := 32) (As := []) (b := (a 0)) (st := []) (w2 := fun x6 o7 o8 => [oX4 a s_saidOn s_saidOff s_saidCount, oX1 (a 10) (a 11) (a 12) (a 13) s_range_peaks s_range_windsTold, oX3 (a 14) (a 15), ai d (a 15) 42 s_now_cells, ai d (a 22) 6 o7, ai d (a 23) 2 o8]) X lk_X4_276 dX4_searchAdded_29 rfl rfl rfl (Nat.le_of_ble_eq_true rfl) ⟨Nat.le_of_ble_eq_true rfl, Nat.le_of_ble_eq_true rfl, Nat.le_of_ble_eq_true rfl, Nat.le_of_ble_eq_true rfl⟩ rfl [0, 1, 2, 3, 4, 5] (by decide) rfl hf (fun l x6 o7 o8 h => ctX4_areTwoAddedEnough l d a s_saidOn s_saidOff s_saidCount s_range_peaks s_range_windsTold s_now_cells o4 o5 x6 o7 o8 h) (fun _ _ _ => rfl) (fun _ _ _ => rfl) (fun x6 o7 o8 hnx6 hf => ?_)
      refine g_if_eq (tgt := 39) (pc' := 35) X dX4_searchAdded_32 (by decide) rfl hf (fun hf => ?_) (fun hf => ?_)
      · refine g_bipush (v := -4) (pc' := 41) X dX4_searchAdded_39 rfl (by decide) ?_
        cases hf
        exact hR _ _ dX4_searchAdded_41 rfl
      · refine g_iconst (v := 2) (pc' := 36) X dX4_searchAdded_35 rfl (by decide) ?_
        refine g_goto (tgt := 41) X dX4_searchAdded_36 (by decide) ?_
        cases hf
        exact hR _ _ dX4_searchAdded_41 rfl
    · refine g_iconst (v := 1) (pc' := 27) X dX4_searchAdded_26 rfl (by decide) ?_
      cases hf
      exact hR _ _ dX4_searchAdded_27 rfl
  · refine g_iconst (v := 0) (pc' := 18) X dX4_searchAdded_17 rfl (by decide) ?_
    cases hf
    exact hR _ _ dX4_searchAdded_18 rfl
-- X4_tenTimesPeakAndTrimming
def fX4_tenTimesPeakAndTrimming (v0 : Int32) : Option (Int32) :=
  some (((10 : Int32) * (v0 / (5 : Int32))) + (v0 - v0 / (5 : Int32) * (5 : Int32)))
set_option maxHeartbeats 4000000 in
set_option maxRecDepth 100000 in
theorem ctX4_tenTimesPeakAndTrimming (l : Launch) (d : sx_D) (v0 : Int32) (r : Int32) (hf : fX4_tenTimesPeakAndTrimming v0 = some r) : sx_I l d yX4_tenTimesPeakAndTrimming cX4_tenTimesPeakAndTrimming 1 .int 0 [.int v0] [] [] r := by
  refine sx_I.intro (lv0 := [some (.int v0)]) (by decide +kernel) (Nat.le_of_ble_eq_true rfl) rfl ?_
  intro κ X hR
  have X : sx_X d κ cX4_tenTimesPeakAndTrimming 1 RX4 (sx_rm 0) := X
  unfold fX4_tenTimesPeakAndTrimming at hf
  refine g_bipush (v := 10) (pc' := 2) X dX4_tenTimesPeakAndTrimming_0 rfl (by decide) ?_
  refine g_iload_n (pc' := 3) X dX4_tenTimesPeakAndTrimming_2 rfl rfl rfl ?_
  refine g_iconst (v := 5) (pc' := 4) X dX4_tenTimesPeakAndTrimming_3 rfl (by decide) ?_
  refine g_idiv (pc' := 5) X dX4_tenTimesPeakAndTrimming_4 rfl (by decide) ?_
  refine g_imul (pc' := 6) X dX4_tenTimesPeakAndTrimming_5 rfl ?_
  refine g_iload_n (pc' := 7) X dX4_tenTimesPeakAndTrimming_6 rfl rfl rfl ?_
  refine g_iconst (v := 5) (pc' := 8) X dX4_tenTimesPeakAndTrimming_7 rfl (by decide) ?_
  refine g_irem (pc' := 9) X dX4_tenTimesPeakAndTrimming_8 rfl (by decide) ?_
  refine g_iadd (pc' := 10) X dX4_tenTimesPeakAndTrimming_9 rfl ?_
  cases hf
  exact hR _ _ dX4_tenTimesPeakAndTrimming_10 rfl
-- X4_add
def fX4_add (s_range_peaks : Int32) (s_now_cells : Nat → Int32) (s_faces : Nat → Int32) (s_added : Nat → Int32) (v1 : Int32) : Option (Int32 × (Nat → Int32) × (Nat → Int32)) :=
  if v1 < (-1 : Int32) then
    some ((-1 : Int32), s_faces, s_added)
  else
    if v1 ≤ (1 : Int32) then
      (fX4_searchAdded s_range_peaks s_now_cells s_faces s_added).bind fun (x1, o2, o3) =>
      if x1 = (-4 : Int32) then
        some (x1, o2, o3)
      else
        if v1 = (-1 : Int32) then
          some (x1, o2, o3)
        else
          if x1 ≤ v1 then
            some ((-4 : Int32), o2, o3)
          else
            sx_rd o3 2 v1 fun x4 =>
            (fX4_tenTimesPeakAndTrimming x4).bind fun x5 =>
            some (x5, o2, o3)
    else
      some ((-1 : Int32), s_faces, s_added)
set_option maxHeartbeats 4000000 in
set_option maxRecDepth 100000 in
theorem ctX4_add (l : Launch) (d : sx_D) (a : Nat → Nat) (s_saidOn : Int32) (s_saidOff : Int32) (s_saidCount : Int32) (s_range_peaks : Int32) (s_range_windsTold : Int32) (s_now_cells : Nat → Int32) (s_faces : Nat → Int32) (s_added : Nat → Int32) (v1 : Int32) (r : Int32) (ro1 : Nat → Int32) (ro2 : Nat → Int32) (hf : fX4_add s_range_peaks s_now_cells s_faces s_added v1 = some (r, ro1, ro2)) : sx_I l d yX4_add cX4_add 3 .int 6 [.ref (a 0), .int v1] [oX4 a s_saidOn s_saidOff s_saidCount, oX1 (a 10) (a 11) (a 12) (a 13) s_range_peaks s_range_windsTold, oX3 (a 14) (a 15), ai d (a 15) 42 s_now_cells, ai d (a 22) 6 s_faces, ai d (a 23) 2 s_added] [oX4 a s_saidOn s_saidOff s_saidCount, oX1 (a 10) (a 11) (a 12) (a 13) s_range_peaks s_range_windsTold, oX3 (a 14) (a 15), ai d (a 15) 42 s_now_cells, ai d (a 22) 6 ro1, ai d (a 23) 2 ro2] r := by
  refine sx_I.intro (lv0 := [some (.ref (a 0)), some (.int v1), none]) (by decide +kernel) (Nat.le_of_ble_eq_true rfl) rfl ?_
  intro κ X hR
  have X : sx_X d κ cX4_add 3 RX4 (sx_rm 6) := X
  unfold fX4_add at hf
  refine g_iload_n (pc' := 1) X dX4_add_0 rfl rfl rfl ?_
  refine g_iconst (v := -1) (pc' := 2) X dX4_add_1 rfl (by decide) ?_
  refine g_icmp_lt (tgt := 10) (pc' := 5) X dX4_add_2 (by decide) rfl hf (fun hf => ?_) (fun hf => ?_)
  · refine g_iconst (v := -1) (pc' := 11) X dX4_add_10 rfl (by decide) ?_
    cases hf
    exact hR _ _ dX4_add_11 rfl
  · refine g_iload_n (pc' := 6) X dX4_add_5 rfl rfl rfl ?_
    refine g_iconst (v := 1) (pc' := 7) X dX4_add_6 rfl (by decide) ?_
    refine g_icmp_le (tgt := 12) (pc' := 10) X dX4_add_7 (by decide) rfl hf (fun hf => ?_) (fun hf => ?_)
    · refine g_aload_n (pc' := 13) X dX4_add_12 rfl rfl rfl ?_
      refine g_callVi2 (pc' := 16) (As := []) (b := (a 0)) (st := []) (w2 := fun x1 o2 o3 => [oX4 a s_saidOn s_saidOff s_saidCount, oX1 (a 10) (a 11) (a 12) (a 13) s_range_peaks s_range_windsTold, oX3 (a 14) (a 15), ai d (a 15) 42 s_now_cells, ai d (a 22) 6 o2, ai d (a 23) 2 o3]) X lk_X4_194 dX4_add_13 rfl rfl rfl (Nat.le_of_ble_eq_true rfl) ⟨Nat.le_of_ble_eq_true rfl, Nat.le_of_ble_eq_true rfl, Nat.le_of_ble_eq_true rfl, Nat.le_of_ble_eq_true rfl⟩ rfl [0, 1, 2, 3, 4, 5] (by decide) rfl hf (fun l x1 o2 o3 h => ctX4_searchAdded l d a s_saidOn s_saidOff s_saidCount s_range_peaks s_range_windsTold s_now_cells s_faces s_added x1 o2 o3 h) (fun _ _ _ => rfl) (fun _ _ _ => rfl) (fun x1 o2 o3 hnx1 hf => ?_)
      refine g_istore_n (lv' := [some (.ref (a 0)), some (.int v1), some (.int x1)]) (pc' := 17) X dX4_add_16 rfl rfl (by decide) rfl rfl ?_
      refine g_iload_n (pc' := 18) X dX4_add_17 rfl rfl rfl ?_
      refine g_bipush (v := -4) (pc' := 20) X dX4_add_18 rfl (by decide) ?_
      refine g_icmp_eq (tgt := 28) (pc' := 23) X dX4_add_20 (by decide) rfl hf (fun hf => ?_) (fun hf => ?_)
      · refine g_iload_n (pc' := 29) X dX4_add_28 rfl rfl rfl ?_
        cases hf
        exact hR _ _ dX4_add_29 rfl
      · refine g_iload_n (pc' := 24) X dX4_add_23 rfl rfl rfl ?_
        refine g_iconst (v := -1) (pc' := 25) X dX4_add_24 rfl (by decide) ?_
        refine g_icmp_ne (tgt := 30) (pc' := 28) X dX4_add_25 (by decide) rfl hf (fun hf => ?_) (fun hf => ?_)
        · refine g_iload_n (pc' := 31) X dX4_add_30 rfl rfl rfl ?_
          refine g_iload_n (pc' := 32) X dX4_add_31 rfl rfl rfl ?_
          refine g_icmp_ge (tgt := 47) (pc' := 35) X dX4_add_32 (by decide) rfl hf (fun hf => ?_) (fun hf => ?_)
          · refine g_bipush (v := -4) (pc' := 49) X dX4_add_47 rfl (by decide) ?_
            cases hf
            exact hR _ _ dX4_add_49 rfl
          · refine g_aload_n (pc' := 36) X dX4_add_35 rfl rfl rfl ?_
            refine g_get (pc' := 39) X fl_X4_49 dX4_add_36 rfl 0 rfl rfl ?_
            refine g_iload_n (pc' := 40) X dX4_add_39 rfl rfl rfl ?_
            refine g_iald (pc' := 41) X dX4_add_40 rfl 5 rfl hf (fun x4 hf => ?_)
            refine g_callSi0 (pc' := 44) (As := [.int x4]) (st := []) (w2 := fun x5 => [oX4 a s_saidOn s_saidOff s_saidCount, oX1 (a 10) (a 11) (a 12) (a 13) s_range_peaks s_range_windsTold, oX3 (a 14) (a 15), ai d (a 15) 42 s_now_cells, ai d (a 22) 6 o2, ai d (a 23) 2 o3]) X lk_X4_197 dX4_add_41 rfl rfl rfl (Nat.le_of_ble_eq_true rfl) ⟨Nat.le_of_ble_eq_true rfl, Nat.le_of_ble_eq_true rfl, Nat.le_of_ble_eq_true rfl, Nat.le_of_ble_eq_true rfl⟩ [] (by decide) rfl hf (fun l x5 h => ctX4_tenTimesPeakAndTrimming l d x4 x5 h) (fun _ => rfl) (fun _ => rfl) (fun x5 hnx5 hf => ?_)
            refine g_goto (tgt := 49) X dX4_add_44 (by decide) ?_
            cases hf
            exact hR _ _ dX4_add_49 rfl
        · refine g_iload_n (pc' := 29) X dX4_add_28 rfl rfl rfl ?_
          cases hf
          exact hR _ _ dX4_add_29 rfl
    · refine g_iconst (v := -1) (pc' := 11) X dX4_add_10 rfl (by decide) ?_
      cases hf
      exact hR _ _ dX4_add_11 rfl
-- X4_say
def jX4_say_60 (s_saidOn : Int32) (s_saidOff : Int32) (s_saidCount : Int32) : Option (Int32 × Int32 × Int32 × Int32) :=
  sx_lt (s_saidCount + (1 : Int32)) fun x3 =>
  some (x3, s_saidOn, s_saidOff, x3)
def fX4_say (s_saidOn : Int32) (s_saidOff : Int32) (s_saidCount : Int32) (v1 : Int32) (v2 : Int32) : Option (Int32 × Int32 × Int32 × Int32) :=
  (fX4_isTrimming v1).bind fun x1 =>
  if x1 = 0 then
    some ((-1 : Int32), s_saidOn, s_saidOff, s_saidCount)
  else
    (fX4_isZeroOrOne v2).bind fun x2 =>
    if x2 = 0 then
      some ((-1 : Int32), s_saidOn, s_saidOff, s_saidCount)
    else
      if s_saidCount < (6 : Int32) then
        if v2 = (1 : Int32) then
          sx_lt (s_saidOn ||| ((1 : Int32) <<< (v1 &&& 31))) fun x5 =>
          jX4_say_60 x5 s_saidOff s_saidCount
        else
          sx_lt (s_saidOff ||| ((1 : Int32) <<< (v1 &&& 31))) fun x4 =>
          jX4_say_60 s_saidOn x4 s_saidCount
      else
        some ((-3 : Int32), s_saidOn, s_saidOff, s_saidCount)
set_option maxHeartbeats 4000000 in
set_option maxRecDepth 100000 in
theorem ctX4_say (l : Launch) (d : sx_D) (a : Nat → Nat) (s_saidOn : Int32) (s_saidOff : Int32) (s_saidCount : Int32) (v1 : Int32) (v2 : Int32) (r : Int32) (ro1 : Int32) (ro2 : Int32) (ro3 : Int32) (hf : fX4_say s_saidOn s_saidOff s_saidCount v1 v2 = some (r, ro1, ro2, ro3)) : sx_I l d yX4_say cX4_say 3 .int 1 [.ref (a 0), .int v1, .int v2] [oX4 a s_saidOn s_saidOff s_saidCount] [oX4 a ro1 ro2 ro3] r := by
  refine sx_I.intro (lv0 := [some (.ref (a 0)), some (.int v1), some (.int v2)]) (by decide +kernel) (Nat.le_of_ble_eq_true rfl) rfl ?_
  intro κ X hR
  have X : sx_X d κ cX4_say 3 RX4 (sx_rm 1) := X
  unfold fX4_say at hf
  refine g_iload_n (pc' := 1) X dX4_say_0 rfl rfl rfl ?_
  refine g_callSi0 (pc' := 4) (As := [.int v1]) (st := []) (w2 := fun x1 => [oX4 a s_saidOn s_saidOff s_saidCount]) X lk_X4_120 dX4_say_1 rfl rfl rfl (Nat.le_of_ble_eq_true rfl) ⟨Nat.le_of_ble_eq_true rfl, Nat.le_of_ble_eq_true rfl, Nat.le_of_ble_eq_true rfl, Nat.le_of_ble_eq_true rfl⟩ [] (by decide) rfl hf (fun l x1 h => ctX4_isTrimming l d v1 x1 h) (fun _ => rfl) (fun _ => rfl) (fun x1 hnx1 hf => ?_)
  refine g_if_eq (tgt := 14) (pc' := 7) X dX4_say_4 (by decide) rfl hf (fun hf => ?_) (fun hf => ?_)
  · refine g_iconst (v := -1) (pc' := 15) X dX4_say_14 rfl (by decide) ?_
    cases hf
    exact hR _ _ dX4_say_15 rfl
  · refine g_iload_n (pc' := 8) X dX4_say_7 rfl rfl rfl ?_
    refine g_callSi0 (pc' := 11) (As := [.int v2]) (st := []) (w2 := fun x2 => [oX4 a s_saidOn s_saidOff s_saidCount]) X lk_X4_161 dX4_say_8 rfl rfl rfl (Nat.le_of_ble_eq_true rfl) ⟨Nat.le_of_ble_eq_true rfl, Nat.le_of_ble_eq_true rfl, Nat.le_of_ble_eq_true rfl, Nat.le_of_ble_eq_true rfl⟩ [] (by decide) rfl hf (fun l x2 h => ctX4_isZeroOrOne l d v2 x2 h) (fun _ => rfl) (fun _ => rfl) (fun x2 hnx2 hf => ?_)
    refine g_if_ne (tgt := 16) (pc' := 14) X dX4_say_11 (by decide) rfl hf (fun hf => ?_) (fun hf => ?_)
    · refine g_aload_n (pc' := 17) X dX4_say_16 rfl rfl rfl ?_
      refine g_get (pc' := 20) X fl_X4_200 dX4_say_17 rfl 0 rfl rfl ?_
      refine g_bipush (v := 6) (pc' := 22) X dX4_say_20 rfl (by decide) ?_
      refine g_icmp_lt (tgt := 28) (pc' := 25) X dX4_say_22 (by decide) rfl hf (fun hf => ?_) (fun hf => ?_)
      · refine g_iload_n (pc' := 29) X dX4_say_28 rfl rfl rfl ?_
        refine g_iconst (v := 1) (pc' := 30) X dX4_say_29 rfl (by decide) ?_
        have hjX4_say_60 : ∀ (s_saidOn : Int32) (s_saidOff : Int32) (s_saidCount : Int32), jX4_say_60 s_saidOn s_saidOff s_saidCount = some (r, ro1, ro2, ro3) → sx_G d κ 3 0 0 60 [some (.ref (a 0)), none, none] [] [oX4 a s_saidOn s_saidOff s_saidCount] := by
          intro s_saidOn s_saidOff s_saidCount hf
          unfold jX4_say_60 at hf
          refine g_aload_n (pc' := 61) X dX4_say_60 rfl rfl rfl ?_
          refine g_dup (pc' := 62) X dX4_say_61 rfl rfl ?_
          refine g_get (pc' := 65) X fl_X4_200 dX4_say_62 rfl 0 rfl rfl ?_
          refine g_iconst (v := 1) (pc' := 66) X dX4_say_65 rfl (by decide) ?_
          refine g_iadd (pc' := 67) X dX4_say_66 rfl ?_
          refine g_putN (pc' := 70) (w2 := fun x3 => [oX4 a s_saidOn s_saidOff x3]) X fl_X4_200 fw_X4 rfl dX4_say_67 rfl 0 rfl (fun _ => rfl) (fun _ => rfl) (Nat.le_of_ble_eq_true rfl) (fun _ => rfl) hf (fun x3 hf => ?_)
          refine g_aload_n (pc' := 71) X dX4_say_70 rfl rfl rfl ?_
          refine g_get (pc' := 74) X fl_X4_200 dX4_say_71 rfl 0 rfl rfl ?_
          cases hf
          exact hR _ _ dX4_say_74 rfl
        refine g_icmp_ne (tgt := 48) (pc' := 33) X dX4_say_30 (by decide) rfl hf (fun hf => ?_) (fun hf => ?_)
        · refine g_aload_n (pc' := 49) X dX4_say_48 rfl rfl rfl ?_
          refine g_dup (pc' := 50) X dX4_say_49 rfl rfl ?_
          refine g_get (pc' := 53) X fl_X4_206 dX4_say_50 rfl 0 rfl rfl ?_
          refine g_iconst (v := 1) (pc' := 54) X dX4_say_53 rfl (by decide) ?_
          refine g_iload_n (pc' := 55) X dX4_say_54 rfl rfl rfl ?_
          refine g_ishl (pc' := 56) X dX4_say_55 rfl ?_
          refine g_ior (pc' := 57) X dX4_say_56 rfl ?_
          refine g_putN (pc' := 60) (w2 := fun x4 => [oX4 a s_saidOn x4 s_saidCount]) X fl_X4_206 fw_X4 rfl dX4_say_57 rfl 0 rfl (fun _ => rfl) (fun _ => rfl) (Nat.le_of_ble_eq_true rfl) (fun _ => rfl) hf (fun x4 hf => ?_)
          exact sx_weak [true, false, false] rfl (hjX4_say_60 s_saidOn x4 s_saidCount hf)
        · refine g_aload_n (pc' := 34) X dX4_say_33 rfl rfl rfl ?_
          refine g_dup (pc' := 35) X dX4_say_34 rfl rfl ?_
          refine g_get (pc' := 38) X fl_X4_203 dX4_say_35 rfl 0 rfl rfl ?_
          refine g_iconst (v := 1) (pc' := 39) X dX4_say_38 rfl (by decide) ?_
          refine g_iload_n (pc' := 40) X dX4_say_39 rfl rfl rfl ?_
          refine g_ishl (pc' := 41) X dX4_say_40 rfl ?_
          refine g_ior (pc' := 42) X dX4_say_41 rfl ?_
          refine g_putN (pc' := 45) (w2 := fun x5 => [oX4 a x5 s_saidOff s_saidCount]) X fl_X4_203 fw_X4 rfl dX4_say_42 rfl 0 rfl (fun _ => rfl) (fun _ => rfl) (Nat.le_of_ble_eq_true rfl) (fun _ => rfl) hf (fun x5 hf => ?_)
          refine g_goto (tgt := 60) X dX4_say_45 (by decide) ?_
          exact sx_weak [true, false, false] rfl (hjX4_say_60 x5 s_saidOff s_saidCount hf)
      · refine g_bipush (v := -3) (pc' := 27) X dX4_say_25 rfl (by decide) ?_
        cases hf
        exact hR _ _ dX4_say_27 rfl
    · refine g_iconst (v := -1) (pc' := 15) X dX4_say_14 rfl (by decide) ?_
      cases hf
      exact hR _ _ dX4_say_15 rfl
-- X4_which
def bX4_which_4 (s_saidOn : Int32) (s_saidOff : Int32) (s_range_peaks : Int32) (s_now_cells : Nat → Int32) : (Int32 × Int32) → Option ((Int32 × Int32) ⊕ (Int32)) := fun (v1, v2) =>
  if s_range_peaks ≤ v2 then
    some (.inr v1)
  else
    (fX3_looksOf s_now_cells v2).bind fun x1 =>
    if (x1 &&& s_saidOn) = s_saidOn then
      if (x1 &&& s_saidOff) = 0 then
        sx_lt (v1 ||| ((1 : Int32) <<< (v2 &&& 31))) fun x2 =>
        some (.inl (x2, v2 + (1 : Int32)))
      else
        some (.inl (v1, v2 + (1 : Int32)))
    else
      some (.inl (v1, v2 + (1 : Int32)))
def fX4_which (s_saidOn : Int32) (s_saidOff : Int32) (s_range_peaks : Int32) (s_now_cells : Nat → Int32) : Option (Int32) :=
  (sx_it 1000 (bX4_which_4 s_saidOn s_saidOff s_range_peaks s_now_cells) ((0 : Int32), (0 : Int32))).bind fun w4 =>
  some w4
set_option maxHeartbeats 4000000 in
set_option maxRecDepth 100000 in
theorem lX4_which_4 (d : sx_D) (κ : sx_C) (a : Nat → Nat) (s_saidOn : Int32) (s_saidOff : Int32) (s_saidCount : Int32) (s_range_peaks : Int32) (s_range_windsTold : Int32) (s_now_cells : Nat → Int32) (X : sx_X d κ cX4_which 4 RX4 (sx_rm 3)) (y : Int32) (hE58 : ∀ (v1 : Int32), v1 = y → sx_G d κ 4 0 0 58 [none, some (.int v1), none, none] [] [oX4 a s_saidOn s_saidOff s_saidCount, oX1 (a 10) (a 11) (a 12) (a 13) s_range_peaks s_range_windsTold, oX3 (a 14) (a 15), ai d (a 15) 42 s_now_cells]) : ∀ (n : Nat) (s : Int32 × Int32), sx_it n (bX4_which_4 s_saidOn s_saidOff s_range_peaks s_now_cells) s = some y → (match s with | (v1, v2) => sx_G d κ 4 0 0 4 [some (.ref (a 0)), some (.int v1), some (.int v2), none] [] [oX4 a s_saidOn s_saidOff s_saidCount, oX1 (a 10) (a 11) (a 12) (a 13) s_range_peaks s_range_windsTold, oX3 (a 14) (a 15), ai d (a 15) 42 s_now_cells]) := by
  refine sx_it_run (bX4_which_4 s_saidOn s_saidOff s_range_peaks s_now_cells) (fun s => match s with | (v1, v2) => sx_G d κ 4 0 0 4 [some (.ref (a 0)), some (.int v1), some (.int v2), none] [] [oX4 a s_saidOn s_saidOff s_saidCount, oX1 (a 10) (a 11) (a 12) (a 13) s_range_peaks s_range_windsTold, oX3 (a 14) (a 15), ai d (a 15) 42 s_now_cells]) y ?_
  rintro ⟨v1, v2⟩ x hf hb he
  show sx_G d κ 4 0 0 4 [some (.ref (a 0)), some (.int v1), some (.int v2), none] [] [oX4 a s_saidOn s_saidOff s_saidCount, oX1 (a 10) (a 11) (a 12) (a 13) s_range_peaks s_range_windsTold, oX3 (a 14) (a 15), ai d (a 15) 42 s_now_cells]
  unfold bX4_which_4 at hf
  refine g_iload_n (pc' := 5) X dX4_which_4 rfl rfl rfl ?_
  refine g_aload_n (pc' := 6) X dX4_which_5 rfl rfl rfl ?_
  refine g_get (pc' := 9) X fl_X4_19 dX4_which_6 rfl 0 rfl rfl ?_
  refine g_get (pc' := 12) X fl_X4_80 dX4_which_9 rfl 1 rfl rfl ?_
  refine g_icmp_ge (tgt := 58) (pc' := 15) X dX4_which_12 (by decide) rfl hf (fun hf => ?_) (fun hf => ?_)
  · exact sx_weak [false, true, false, true] rfl (hE58 _ (sx_ex hf he))
  · refine g_aload_n (pc' := 16) X dX4_which_15 rfl rfl rfl ?_
    refine g_get (pc' := 19) X fl_X4_26 dX4_which_16 rfl 0 rfl rfl ?_
    refine g_iload_n (pc' := 20) X dX4_which_19 rfl rfl rfl ?_
    refine g_callVi0 (pc' := 23) (As := [.int v2]) (b := (a 14)) (st := []) (w2 := fun x1 => [oX4 a s_saidOn s_saidOff s_saidCount, oX1 (a 10) (a 11) (a 12) (a 13) s_range_peaks s_range_windsTold, oX3 (a 14) (a 15), ai d (a 15) 42 s_now_cells]) X lk_X4_94 dX4_which_20 rfl rfl rfl (Nat.le_of_ble_eq_true rfl) ⟨Nat.le_of_ble_eq_true rfl, Nat.le_of_ble_eq_true rfl, Nat.le_of_ble_eq_true rfl, Nat.le_of_ble_eq_true rfl⟩ rfl [2, 3] (by decide) rfl hf (fun l x1 h => ctX3_looksOf l d (a 14) (a 15) s_now_cells v2 x1 h) (fun _ => rfl) (fun _ => rfl) (fun x1 hnx1 hf => ?_)
    refine g_istore_n (lv' := [some (.ref (a 0)), some (.int v1), some (.int v2), some (.int x1)]) (pc' := 24) X dX4_which_23 rfl rfl (by decide) rfl rfl ?_
    refine g_iload_n (pc' := 25) X dX4_which_24 rfl rfl rfl ?_
    refine g_aload_n (pc' := 26) X dX4_which_25 rfl rfl rfl ?_
    refine g_get (pc' := 29) X fl_X4_203 dX4_which_26 rfl 0 rfl rfl ?_
    refine g_iand (pc' := 30) X dX4_which_29 rfl ?_
    refine g_aload_n (pc' := 31) X dX4_which_30 rfl rfl rfl ?_
    refine g_get (pc' := 34) X fl_X4_203 dX4_which_31 rfl 0 rfl rfl ?_
    refine g_icmp_ne (tgt := 52) (pc' := 37) X dX4_which_34 (by decide) rfl hf (fun hf => ?_) (fun hf => ?_)
    · refine g_iinc (v := 1) (lv' := [some (.ref (a 0)), some (.int v1), some (.int (v2 + (1 : Int32))), some (.int x1)]) (pc' := 55) X dX4_which_52 rfl rfl (by decide) (by decide) rfl rfl ?_
      refine g_goto (tgt := 4) X dX4_which_55 (by decide) ?_
      have hk := sx_bk hf hb
      exact sx_weak [true, true, true, false] rfl hk
    · refine g_iload_n (pc' := 38) X dX4_which_37 rfl rfl rfl ?_
      refine g_aload_n (pc' := 39) X dX4_which_38 rfl rfl rfl ?_
      refine g_get (pc' := 42) X fl_X4_206 dX4_which_39 rfl 0 rfl rfl ?_
      refine g_iand (pc' := 43) X dX4_which_42 rfl ?_
      refine g_if_ne (tgt := 52) (pc' := 46) X dX4_which_43 (by decide) rfl hf (fun hf => ?_) (fun hf => ?_)
      · refine g_iinc (v := 1) (lv' := [some (.ref (a 0)), some (.int v1), some (.int (v2 + (1 : Int32))), some (.int x1)]) (pc' := 55) X dX4_which_52 rfl rfl (by decide) (by decide) rfl rfl ?_
        refine g_goto (tgt := 4) X dX4_which_55 (by decide) ?_
        have hk := sx_bk hf hb
        exact sx_weak [true, true, true, false] rfl hk
      · refine g_iload_n (pc' := 47) X dX4_which_46 rfl rfl rfl ?_
        refine g_iconst (v := 1) (pc' := 48) X dX4_which_47 rfl (by decide) ?_
        refine g_iload_n (pc' := 49) X dX4_which_48 rfl rfl rfl ?_
        refine g_ishl (pc' := 50) X dX4_which_49 rfl ?_
        refine g_ior (pc' := 51) X dX4_which_50 rfl ?_
        refine g_istore_nN (lv' := fun x2 => [some (.ref (a 0)), some (.int x2), some (.int v2), some (.int x1)]) (pc' := 52) X dX4_which_51 rfl rfl (by decide) rfl (fun _ => rfl) hf (fun x2 hf => ?_)
        refine g_iinc (v := 1) (lv' := [some (.ref (a 0)), some (.int x2), some (.int (v2 + (1 : Int32))), some (.int x1)]) (pc' := 55) X dX4_which_52 rfl rfl (by decide) (by decide) rfl rfl ?_
        refine g_goto (tgt := 4) X dX4_which_55 (by decide) ?_
        have hk := sx_bk hf hb
        exact sx_weak [true, true, true, false] rfl hk
set_option maxHeartbeats 4000000 in
set_option maxRecDepth 100000 in
theorem ctX4_which (l : Launch) (d : sx_D) (a : Nat → Nat) (s_saidOn : Int32) (s_saidOff : Int32) (s_saidCount : Int32) (s_range_peaks : Int32) (s_range_windsTold : Int32) (s_now_cells : Nat → Int32) (r : Int32) (hf : fX4_which s_saidOn s_saidOff s_range_peaks s_now_cells = some r) : sx_I l d yX4_which cX4_which 4 .int 3 [.ref (a 0)] [oX4 a s_saidOn s_saidOff s_saidCount, oX1 (a 10) (a 11) (a 12) (a 13) s_range_peaks s_range_windsTold, oX3 (a 14) (a 15), ai d (a 15) 42 s_now_cells] [oX4 a s_saidOn s_saidOff s_saidCount, oX1 (a 10) (a 11) (a 12) (a 13) s_range_peaks s_range_windsTold, oX3 (a 14) (a 15), ai d (a 15) 42 s_now_cells] r := by
  refine sx_I.intro (lv0 := [some (.ref (a 0)), none, none, none]) (by decide +kernel) (Nat.le_of_ble_eq_true rfl) rfl ?_
  intro κ X hR
  have X : sx_X d κ cX4_which 4 RX4 (sx_rm 3) := X
  unfold fX4_which at hf
  refine g_iconst (v := 0) (pc' := 1) X dX4_which_0 rfl (by decide) ?_
  refine g_istore_n (lv' := [some (.ref (a 0)), some (.int (0 : Int32)), none, none]) (pc' := 2) X dX4_which_1 rfl rfl (by decide) rfl rfl ?_
  refine g_iconst (v := 0) (pc' := 3) X dX4_which_2 rfl (by decide) ?_
  refine g_istore_n (lv' := [some (.ref (a 0)), some (.int (0 : Int32)), some (.int (0 : Int32)), none]) (pc' := 4) X dX4_which_3 rfl rfl (by decide) rfl rfl ?_
  obtain ⟨y3, hy3, hf⟩ := sx_bd hf
  refine sx_weak [true, true, true, true] rfl (lX4_which_4 d κ a s_saidOn s_saidOff s_saidCount s_range_peaks s_range_windsTold s_now_cells X y3 ?_ 1000 ((0 : Int32), (0 : Int32)) hy3)
  rintro w4 rfl
  refine g_iload_n (pc' := 59) X dX4_which_58 rfl rfl rfl ?_
  cases hf
  exact hR _ _ dX4_which_59 rfl
-- X4_greaterPart
def bX4_greaterPart_5 (s_range_peaks : Int32) (s_now_cells : Nat → Int32) (v1 : Int32) (v2 : Int32) : (Int32 × Int32) → Option ((Int32 × Int32) ⊕ (Int32)) := fun (v3, v4) =>
  if s_range_peaks ≤ v4 then
    some (.inr v3)
  else
    if ((v1 >>> (v4 &&& 31)) &&& (1 : Int32)) = (1 : Int32) then
      (fX3_isOn s_now_cells v4 v2).bind fun x1 =>
      if x1 = 0 then
        some (.inl (v3, v4 + (1 : Int32)))
      else
        some (.inl (v3 + (1 : Int32), v4 + (1 : Int32)))
    else
      some (.inl (v3, v4 + (1 : Int32)))
def fX4_greaterPart (s_range_peaks : Int32) (s_now_cells : Nat → Int32) (v1 : Int32) (v2 : Int32) : Option (Int32) :=
  (sx_it 1000 (bX4_greaterPart_5 s_range_peaks s_now_cells v1 v2) ((0 : Int32), (0 : Int32))).bind fun w3 =>
  (fJ6_bitCount_0f7a4 v1).bind fun x4 =>
  some (if w3 < (x4 - w3) then (x4 - w3) else w3)
set_option maxHeartbeats 4000000 in
set_option maxRecDepth 100000 in
theorem lX4_greaterPart_5 (d : sx_D) (κ : sx_C) (a : Nat → Nat) (s_saidOn : Int32) (s_saidOff : Int32) (s_saidCount : Int32) (s_range_peaks : Int32) (s_range_windsTold : Int32) (s_now_cells : Nat → Int32) (v1 : Int32) (v2 : Int32) (X : sx_X d κ cX4_greaterPart 5 RX4 (sx_rm 2)) (y : Int32) (hE49 : ∀ (v3 : Int32), v3 = y → sx_G d κ 5 0 0 49 [none, some (.int v1), none, some (.int v3), none] [] [oX4 a s_saidOn s_saidOff s_saidCount, oX1 (a 10) (a 11) (a 12) (a 13) s_range_peaks s_range_windsTold, oX3 (a 14) (a 15), ai d (a 15) 42 s_now_cells]) : ∀ (n : Nat) (s : Int32 × Int32), sx_it n (bX4_greaterPart_5 s_range_peaks s_now_cells v1 v2) s = some y → (match s with | (v3, v4) => sx_G d κ 5 0 0 5 [some (.ref (a 0)), some (.int v1), some (.int v2), some (.int v3), some (.int v4)] [] [oX4 a s_saidOn s_saidOff s_saidCount, oX1 (a 10) (a 11) (a 12) (a 13) s_range_peaks s_range_windsTold, oX3 (a 14) (a 15), ai d (a 15) 42 s_now_cells]) := by
  refine sx_it_run (bX4_greaterPart_5 s_range_peaks s_now_cells v1 v2) (fun s => match s with | (v3, v4) => sx_G d κ 5 0 0 5 [some (.ref (a 0)), some (.int v1), some (.int v2), some (.int v3), some (.int v4)] [] [oX4 a s_saidOn s_saidOff s_saidCount, oX1 (a 10) (a 11) (a 12) (a 13) s_range_peaks s_range_windsTold, oX3 (a 14) (a 15), ai d (a 15) 42 s_now_cells]) y ?_
  rintro ⟨v3, v4⟩ x hf hb he
  show sx_G d κ 5 0 0 5 [some (.ref (a 0)), some (.int v1), some (.int v2), some (.int v3), some (.int v4)] [] [oX4 a s_saidOn s_saidOff s_saidCount, oX1 (a 10) (a 11) (a 12) (a 13) s_range_peaks s_range_windsTold, oX3 (a 14) (a 15), ai d (a 15) 42 s_now_cells]
  unfold bX4_greaterPart_5 at hf
  refine g_iload (pc' := 7) X dX4_greaterPart_5 rfl rfl ?_
  refine g_aload_n (pc' := 8) X dX4_greaterPart_7 rfl rfl rfl ?_
  refine g_get (pc' := 11) X fl_X4_19 dX4_greaterPart_8 rfl 0 rfl rfl ?_
  refine g_get (pc' := 14) X fl_X4_80 dX4_greaterPart_11 rfl 1 rfl rfl ?_
  refine g_icmp_ge (tgt := 49) (pc' := 17) X dX4_greaterPart_14 (by decide) rfl hf (fun hf => ?_) (fun hf => ?_)
  · exact sx_weak [false, true, false, true, false] rfl (hE49 _ (sx_ex hf he))
  · refine g_iload_n (pc' := 18) X dX4_greaterPart_17 rfl rfl rfl ?_
    refine g_iload (pc' := 20) X dX4_greaterPart_18 rfl rfl ?_
    refine g_ishr (pc' := 21) X dX4_greaterPart_20 rfl ?_
    refine g_iconst (v := 1) (pc' := 22) X dX4_greaterPart_21 rfl (by decide) ?_
    refine g_iand (pc' := 23) X dX4_greaterPart_22 rfl ?_
    refine g_iconst (v := 1) (pc' := 24) X dX4_greaterPart_23 rfl (by decide) ?_
    refine g_icmp_ne (tgt := 43) (pc' := 27) X dX4_greaterPart_24 (by decide) rfl hf (fun hf => ?_) (fun hf => ?_)
    · refine g_iinc (v := 1) (lv' := [some (.ref (a 0)), some (.int v1), some (.int v2), some (.int v3), some (.int (v4 + (1 : Int32)))]) (pc' := 46) X dX4_greaterPart_43 rfl rfl (by decide) (by decide) rfl rfl ?_
      refine g_goto (tgt := 5) X dX4_greaterPart_46 (by decide) ?_
      have hk := sx_bk hf hb
      exact sx_weak [true, true, true, true, true] rfl hk
    · refine g_aload_n (pc' := 28) X dX4_greaterPart_27 rfl rfl rfl ?_
      refine g_get (pc' := 31) X fl_X4_26 dX4_greaterPart_28 rfl 0 rfl rfl ?_
      refine g_iload (pc' := 33) X dX4_greaterPart_31 rfl rfl ?_
      refine g_iload_n (pc' := 34) X dX4_greaterPart_33 rfl rfl rfl ?_
      refine g_callVi0 (pc' := 37) (As := [.int v4, .int v2]) (b := (a 14)) (st := []) (w2 := fun x1 => [oX4 a s_saidOn s_saidOff s_saidCount, oX1 (a 10) (a 11) (a 12) (a 13) s_range_peaks s_range_windsTold, oX3 (a 14) (a 15), ai d (a 15) 42 s_now_cells]) X lk_X4_140 dX4_greaterPart_34 rfl rfl rfl (Nat.le_of_ble_eq_true rfl) ⟨Nat.le_of_ble_eq_true rfl, Nat.le_of_ble_eq_true rfl, Nat.le_of_ble_eq_true rfl, Nat.le_of_ble_eq_true rfl⟩ rfl [2, 3] (by decide) rfl hf (fun l x1 h => ctX3_isOn l d (a 14) (a 15) s_now_cells v4 v2 x1 h) (fun _ => rfl) (fun _ => rfl) (fun x1 hnx1 hf => ?_)
      refine g_if_eq (tgt := 43) (pc' := 40) X dX4_greaterPart_37 (by decide) rfl hf (fun hf => ?_) (fun hf => ?_)
      · refine g_iinc (v := 1) (lv' := [some (.ref (a 0)), some (.int v1), some (.int v2), some (.int v3), some (.int (v4 + (1 : Int32)))]) (pc' := 46) X dX4_greaterPart_43 rfl rfl (by decide) (by decide) rfl rfl ?_
        refine g_goto (tgt := 5) X dX4_greaterPart_46 (by decide) ?_
        have hk := sx_bk hf hb
        exact sx_weak [true, true, true, true, true] rfl hk
      · refine g_iinc (v := 1) (lv' := [some (.ref (a 0)), some (.int v1), some (.int v2), some (.int (v3 + (1 : Int32))), some (.int v4)]) (pc' := 43) X dX4_greaterPart_40 rfl rfl (by decide) (by decide) rfl rfl ?_
        refine g_iinc (v := 1) (lv' := [some (.ref (a 0)), some (.int v1), some (.int v2), some (.int (v3 + (1 : Int32))), some (.int (v4 + (1 : Int32)))]) (pc' := 46) X dX4_greaterPart_43 rfl rfl (by decide) (by decide) rfl rfl ?_
        refine g_goto (tgt := 5) X dX4_greaterPart_46 (by decide) ?_
        have hk := sx_bk hf hb
        exact sx_weak [true, true, true, true, true] rfl hk
set_option maxHeartbeats 4000000 in
set_option maxRecDepth 100000 in
theorem ctX4_greaterPart (l : Launch) (d : sx_D) (a : Nat → Nat) (s_saidOn : Int32) (s_saidOff : Int32) (s_saidCount : Int32) (s_range_peaks : Int32) (s_range_windsTold : Int32) (s_now_cells : Nat → Int32) (v1 : Int32) (v2 : Int32) (r : Int32) (hf : fX4_greaterPart s_range_peaks s_now_cells v1 v2 = some r) : sx_I l d yX4_greaterPart cX4_greaterPart 5 .int 2 [.ref (a 0), .int v1, .int v2] [oX4 a s_saidOn s_saidOff s_saidCount, oX1 (a 10) (a 11) (a 12) (a 13) s_range_peaks s_range_windsTold, oX3 (a 14) (a 15), ai d (a 15) 42 s_now_cells] [oX4 a s_saidOn s_saidOff s_saidCount, oX1 (a 10) (a 11) (a 12) (a 13) s_range_peaks s_range_windsTold, oX3 (a 14) (a 15), ai d (a 15) 42 s_now_cells] r := by
  refine sx_I.intro (lv0 := [some (.ref (a 0)), some (.int v1), some (.int v2), none, none]) (by decide +kernel) (Nat.le_of_ble_eq_true rfl) rfl ?_
  intro κ X hR
  have X : sx_X d κ cX4_greaterPart 5 RX4 (sx_rm 2) := X
  unfold fX4_greaterPart at hf
  refine g_iconst (v := 0) (pc' := 1) X dX4_greaterPart_0 rfl (by decide) ?_
  refine g_istore_n (lv' := [some (.ref (a 0)), some (.int v1), some (.int v2), some (.int (0 : Int32)), none]) (pc' := 2) X dX4_greaterPart_1 rfl rfl (by decide) rfl rfl ?_
  refine g_iconst (v := 0) (pc' := 3) X dX4_greaterPart_2 rfl (by decide) ?_
  refine g_istore (lv' := [some (.ref (a 0)), some (.int v1), some (.int v2), some (.int (0 : Int32)), some (.int (0 : Int32))]) (pc' := 5) X dX4_greaterPart_3 rfl (by decide) rfl rfl ?_
  obtain ⟨y2, hy2, hf⟩ := sx_bd hf
  refine sx_weak [true, true, true, true, true] rfl (lX4_greaterPart_5 d κ a s_saidOn s_saidOff s_saidCount s_range_peaks s_range_windsTold s_now_cells v1 v2 X y2 ?_ 1000 ((0 : Int32), (0 : Int32)) hy2)
  rintro w3 rfl
  refine g_iload_n (pc' := 50) X dX4_greaterPart_49 rfl rfl rfl ?_
  refine g_iload_n (pc' := 51) X dX4_greaterPart_50 rfl rfl rfl ?_
  refine g_callSi0 (pc' := 54) (As := [.int v1]) (st := [.int w3]) (w2 := fun x4 => [oX4 a s_saidOn s_saidOff s_saidCount, oX1 (a 10) (a 11) (a 12) (a 13) s_range_peaks s_range_windsTold, oX3 (a 14) (a 15), ai d (a 15) 42 s_now_cells]) X lk_X4_189 dX4_greaterPart_51 rfl rfl rfl (Nat.le_of_ble_eq_true rfl) ⟨Nat.le_of_ble_eq_true rfl, Nat.le_of_ble_eq_true rfl, Nat.le_of_ble_eq_true rfl, Nat.le_of_ble_eq_true rfl⟩ [] (by decide) rfl hf (fun l x4 h => ctJ6_bitCount_0f7a4 l d v1 x4 h) (fun _ => rfl) (fun _ => rfl) (fun x4 hnx4 hf => ?_)
  refine g_iload_n (pc' := 55) X dX4_greaterPart_54 rfl rfl rfl ?_
  refine g_isub (pc' := 56) X dX4_greaterPart_55 rfl ?_
  refine g_max (pc' := 59) X mx_X4_268 dX4_greaterPart_56 rfl ⟨Nat.le_of_ble_eq_true rfl, Nat.le_of_ble_eq_true rfl, Nat.le_of_ble_eq_true rfl, Nat.le_of_ble_eq_true rfl⟩ ?_
  cases hf
  exact hR _ _ dX4_greaterPart_59 rfl
-- X4_bestToAsk
def jX4_bestToAsk_32 (s_range_peaks : Int32) (s_now_cells : Nat → Int32) (v1 : Int32) (v2 : Int32) (v3 : Int32) (t0 : Int32) : Option ((Int32 × Int32) ⊕ (Int32)) :=
  if t0 = 0 then
    if v2 = (-4 : Int32) then
      some (.inl (v3, v3 + (1 : Int32)))
    else
      (fX4_greaterPart s_range_peaks s_now_cells v1 v3).bind fun x1 =>
      (fX4_greaterPart s_range_peaks s_now_cells v1 v2).bind fun x2 =>
      if x2 ≤ x1 then
        some (.inl (v2, v3 + (1 : Int32)))
      else
        some (.inl (v3, v3 + (1 : Int32)))
  else
    some (.inl (v2, v3 + (1 : Int32)))
def bX4_bestToAsk_5 (s_saidOn : Int32) (s_saidOff : Int32) (s_range_peaks : Int32) (s_now_cells : Nat → Int32) (v1 : Int32) : (Int32 × Int32) → Option ((Int32 × Int32) ⊕ (Int32)) := fun (v2, v3) =>
  if (5 : Int32) ≤ v3 then
    some (.inr v2)
  else
    if (((s_saidOn ||| s_saidOff) >>> (v3 &&& 31)) &&& (1 : Int32)) = (1 : Int32) then
      jX4_bestToAsk_32 s_range_peaks s_now_cells v1 v2 v3 (1 : Int32)
    else
      jX4_bestToAsk_32 s_range_peaks s_now_cells v1 v2 v3 (0 : Int32)
def fX4_bestToAsk (s_saidOn : Int32) (s_saidOff : Int32) (s_range_peaks : Int32) (s_now_cells : Nat → Int32) (v1 : Int32) : Option (Int32) :=
  (sx_it 1000 (bX4_bestToAsk_5 s_saidOn s_saidOff s_range_peaks s_now_cells v1) ((-4 : Int32), (0 : Int32))).bind fun w4 =>
  some w4
set_option maxHeartbeats 4000000 in
set_option maxRecDepth 100000 in
theorem lX4_bestToAsk_5 (d : sx_D) (κ : sx_C) (a : Nat → Nat) (s_saidOn : Int32) (s_saidOff : Int32) (s_saidCount : Int32) (s_range_peaks : Int32) (s_range_windsTold : Int32) (s_now_cells : Nat → Int32) (v1 : Int32) (X : sx_X d κ cX4_bestToAsk 5 RX4 (sx_rm 3)) (y : Int32) (hE68 : ∀ (v2 : Int32), v2 = y → sx_G d κ 5 0 0 68 [none, none, some (.int v2), none, none] [] [oX4 a s_saidOn s_saidOff s_saidCount, oX1 (a 10) (a 11) (a 12) (a 13) s_range_peaks s_range_windsTold, oX3 (a 14) (a 15), ai d (a 15) 42 s_now_cells]) : ∀ (n : Nat) (s : Int32 × Int32), sx_it n (bX4_bestToAsk_5 s_saidOn s_saidOff s_range_peaks s_now_cells v1) s = some y → (match s with | (v2, v3) => sx_G d κ 5 0 0 5 [some (.ref (a 0)), some (.int v1), some (.int v2), some (.int v3), none] [] [oX4 a s_saidOn s_saidOff s_saidCount, oX1 (a 10) (a 11) (a 12) (a 13) s_range_peaks s_range_windsTold, oX3 (a 14) (a 15), ai d (a 15) 42 s_now_cells]) := by
  refine sx_it_run (bX4_bestToAsk_5 s_saidOn s_saidOff s_range_peaks s_now_cells v1) (fun s => match s with | (v2, v3) => sx_G d κ 5 0 0 5 [some (.ref (a 0)), some (.int v1), some (.int v2), some (.int v3), none] [] [oX4 a s_saidOn s_saidOff s_saidCount, oX1 (a 10) (a 11) (a 12) (a 13) s_range_peaks s_range_windsTold, oX3 (a 14) (a 15), ai d (a 15) 42 s_now_cells]) y ?_
  rintro ⟨v2, v3⟩ x hf hb he
  show sx_G d κ 5 0 0 5 [some (.ref (a 0)), some (.int v1), some (.int v2), some (.int v3), none] [] [oX4 a s_saidOn s_saidOff s_saidCount, oX1 (a 10) (a 11) (a 12) (a 13) s_range_peaks s_range_windsTold, oX3 (a 14) (a 15), ai d (a 15) 42 s_now_cells]
  unfold bX4_bestToAsk_5 at hf
  refine g_iload_n (pc' := 6) X dX4_bestToAsk_5 rfl rfl rfl ?_
  refine g_iconst (v := 5) (pc' := 7) X dX4_bestToAsk_6 rfl (by decide) ?_
  refine g_icmp_ge (tgt := 68) (pc' := 10) X dX4_bestToAsk_7 (by decide) rfl hf (fun hf => ?_) (fun hf => ?_)
  · exact sx_weak [false, false, true, false, true] rfl (hE68 _ (sx_ex hf he))
  · refine g_aload_n (pc' := 11) X dX4_bestToAsk_10 rfl rfl rfl ?_
    refine g_get (pc' := 14) X fl_X4_203 dX4_bestToAsk_11 rfl 0 rfl rfl ?_
    refine g_aload_n (pc' := 15) X dX4_bestToAsk_14 rfl rfl rfl ?_
    refine g_get (pc' := 18) X fl_X4_206 dX4_bestToAsk_15 rfl 0 rfl rfl ?_
    refine g_ior (pc' := 19) X dX4_bestToAsk_18 rfl ?_
    refine g_iload_n (pc' := 20) X dX4_bestToAsk_19 rfl rfl rfl ?_
    refine g_ishr (pc' := 21) X dX4_bestToAsk_20 rfl ?_
    refine g_iconst (v := 1) (pc' := 22) X dX4_bestToAsk_21 rfl (by decide) ?_
    refine g_iand (pc' := 23) X dX4_bestToAsk_22 rfl ?_
    refine g_iconst (v := 1) (pc' := 24) X dX4_bestToAsk_23 rfl (by decide) ?_
    have hjX4_bestToAsk_32 : ∀ (v2 : Int32) (v3 : Int32) (t0 : Int32), jX4_bestToAsk_32 s_range_peaks s_now_cells v1 v2 v3 t0 = some x → sx_G d κ 5 0 0 32 [some (.ref (a 0)), some (.int v1), some (.int v2), some (.int v3), none] [.int t0] [oX4 a s_saidOn s_saidOff s_saidCount, oX1 (a 10) (a 11) (a 12) (a 13) s_range_peaks s_range_windsTold, oX3 (a 14) (a 15), ai d (a 15) 42 s_now_cells] := by
      intro v2 v3 t0 hf
      unfold jX4_bestToAsk_32 at hf
      refine g_istore (lv' := [some (.ref (a 0)), some (.int v1), some (.int v2), some (.int v3), some (.int t0)]) (pc' := 34) X dX4_bestToAsk_32 rfl (by decide) rfl rfl ?_
      refine g_iload (pc' := 36) X dX4_bestToAsk_34 rfl rfl ?_
      refine g_if_ne (tgt := 62) (pc' := 39) X dX4_bestToAsk_36 (by decide) rfl hf (fun hf => ?_) (fun hf => ?_)
      · refine g_iinc (v := 1) (lv' := [some (.ref (a 0)), some (.int v1), some (.int v2), some (.int (v3 + (1 : Int32))), some (.int t0)]) (pc' := 65) X dX4_bestToAsk_62 rfl rfl (by decide) (by decide) rfl rfl ?_
        refine g_goto (tgt := 5) X dX4_bestToAsk_65 (by decide) ?_
        have hk := sx_bk hf hb
        exact sx_weak [true, true, true, true, false] rfl hk
      · refine g_iload_n (pc' := 40) X dX4_bestToAsk_39 rfl rfl rfl ?_
        refine g_bipush (v := -4) (pc' := 42) X dX4_bestToAsk_40 rfl (by decide) ?_
        refine g_icmp_eq (tgt := 60) (pc' := 45) X dX4_bestToAsk_42 (by decide) rfl hf (fun hf => ?_) (fun hf => ?_)
        · refine g_iload_n (pc' := 61) X dX4_bestToAsk_60 rfl rfl rfl ?_
          refine g_istore_n (lv' := [some (.ref (a 0)), some (.int v1), some (.int v3), some (.int v3), some (.int t0)]) (pc' := 62) X dX4_bestToAsk_61 rfl rfl (by decide) rfl rfl ?_
          refine g_iinc (v := 1) (lv' := [some (.ref (a 0)), some (.int v1), some (.int v3), some (.int (v3 + (1 : Int32))), some (.int t0)]) (pc' := 65) X dX4_bestToAsk_62 rfl rfl (by decide) (by decide) rfl rfl ?_
          refine g_goto (tgt := 5) X dX4_bestToAsk_65 (by decide) ?_
          have hk := sx_bk hf hb
          exact sx_weak [true, true, true, true, false] rfl hk
        · refine g_aload_n (pc' := 46) X dX4_bestToAsk_45 rfl rfl rfl ?_
          refine g_iload_n (pc' := 47) X dX4_bestToAsk_46 rfl rfl rfl ?_
          refine g_iload_n (pc' := 48) X dX4_bestToAsk_47 rfl rfl rfl ?_
          refine g_callVi0 (pc' := 51) (As := [.int v1, .int v3]) (b := (a 0)) (st := []) (w2 := fun x1 => [oX4 a s_saidOn s_saidOff s_saidCount, oX1 (a 10) (a 11) (a 12) (a 13) s_range_peaks s_range_windsTold, oX3 (a 14) (a 15), ai d (a 15) 42 s_now_cells]) X lk_X4_215 dX4_bestToAsk_48 rfl rfl rfl (Nat.le_of_ble_eq_true rfl) ⟨Nat.le_of_ble_eq_true rfl, Nat.le_of_ble_eq_true rfl, Nat.le_of_ble_eq_true rfl, Nat.le_of_ble_eq_true rfl⟩ rfl [0, 1, 2, 3] (by decide) rfl hf (fun l x1 h => ctX4_greaterPart l d a s_saidOn s_saidOff s_saidCount s_range_peaks s_range_windsTold s_now_cells v1 v3 x1 h) (fun _ => rfl) (fun _ => rfl) (fun x1 hnx1 hf => ?_)
          refine g_aload_n (pc' := 52) X dX4_bestToAsk_51 rfl rfl rfl ?_
          refine g_iload_n (pc' := 53) X dX4_bestToAsk_52 rfl rfl rfl ?_
          refine g_iload_n (pc' := 54) X dX4_bestToAsk_53 rfl rfl rfl ?_
          refine g_callVi0 (pc' := 57) (As := [.int v1, .int v2]) (b := (a 0)) (st := [.int x1]) (w2 := fun x2 => [oX4 a s_saidOn s_saidOff s_saidCount, oX1 (a 10) (a 11) (a 12) (a 13) s_range_peaks s_range_windsTold, oX3 (a 14) (a 15), ai d (a 15) 42 s_now_cells]) X lk_X4_215 dX4_bestToAsk_54 rfl rfl rfl (Nat.le_of_ble_eq_true rfl) ⟨Nat.le_of_ble_eq_true rfl, Nat.le_of_ble_eq_true rfl, Nat.le_of_ble_eq_true rfl, Nat.le_of_ble_eq_true rfl⟩ rfl [0, 1, 2, 3] (by decide) rfl hf (fun l x2 h => ctX4_greaterPart l d a s_saidOn s_saidOff s_saidCount s_range_peaks s_range_windsTold s_now_cells v1 v2 x2 h) (fun _ => rfl) (fun _ => rfl) (fun x2 hnx2 hf => ?_)
          refine g_icmp_ge (tgt := 62) (pc' := 60) X dX4_bestToAsk_57 (by decide) rfl hf (fun hf => ?_) (fun hf => ?_)
          · refine g_iinc (v := 1) (lv' := [some (.ref (a 0)), some (.int v1), some (.int v2), some (.int (v3 + (1 : Int32))), some (.int t0)]) (pc' := 65) X dX4_bestToAsk_62 rfl rfl (by decide) (by decide) rfl rfl ?_
            refine g_goto (tgt := 5) X dX4_bestToAsk_65 (by decide) ?_
            have hk := sx_bk hf hb
            exact sx_weak [true, true, true, true, false] rfl hk
          · refine g_iload_n (pc' := 61) X dX4_bestToAsk_60 rfl rfl rfl ?_
            refine g_istore_n (lv' := [some (.ref (a 0)), some (.int v1), some (.int v3), some (.int v3), some (.int t0)]) (pc' := 62) X dX4_bestToAsk_61 rfl rfl (by decide) rfl rfl ?_
            refine g_iinc (v := 1) (lv' := [some (.ref (a 0)), some (.int v1), some (.int v3), some (.int (v3 + (1 : Int32))), some (.int t0)]) (pc' := 65) X dX4_bestToAsk_62 rfl rfl (by decide) (by decide) rfl rfl ?_
            refine g_goto (tgt := 5) X dX4_bestToAsk_65 (by decide) ?_
            have hk := sx_bk hf hb
            exact sx_weak [true, true, true, true, false] rfl hk
    refine g_icmp_ne (tgt := 31) (pc' := 27) X dX4_bestToAsk_24 (by decide) rfl hf (fun hf => ?_) (fun hf => ?_)
    · refine g_iconst (v := 0) (pc' := 32) X dX4_bestToAsk_31 rfl (by decide) ?_
      exact sx_weak [true, true, true, true, true] rfl (hjX4_bestToAsk_32 v2 v3 (0 : Int32) hf)
    · refine g_iconst (v := 1) (pc' := 28) X dX4_bestToAsk_27 rfl (by decide) ?_
      refine g_goto (tgt := 32) X dX4_bestToAsk_28 (by decide) ?_
      exact sx_weak [true, true, true, true, true] rfl (hjX4_bestToAsk_32 v2 v3 (1 : Int32) hf)
set_option maxHeartbeats 4000000 in
set_option maxRecDepth 100000 in
theorem ctX4_bestToAsk (l : Launch) (d : sx_D) (a : Nat → Nat) (s_saidOn : Int32) (s_saidOff : Int32) (s_saidCount : Int32) (s_range_peaks : Int32) (s_range_windsTold : Int32) (s_now_cells : Nat → Int32) (v1 : Int32) (r : Int32) (hf : fX4_bestToAsk s_saidOn s_saidOff s_range_peaks s_now_cells v1 = some r) : sx_I l d yX4_bestToAsk cX4_bestToAsk 5 .int 3 [.ref (a 0), .int v1] [oX4 a s_saidOn s_saidOff s_saidCount, oX1 (a 10) (a 11) (a 12) (a 13) s_range_peaks s_range_windsTold, oX3 (a 14) (a 15), ai d (a 15) 42 s_now_cells] [oX4 a s_saidOn s_saidOff s_saidCount, oX1 (a 10) (a 11) (a 12) (a 13) s_range_peaks s_range_windsTold, oX3 (a 14) (a 15), ai d (a 15) 42 s_now_cells] r := by
  refine sx_I.intro (lv0 := [some (.ref (a 0)), some (.int v1), none, none, none]) (by decide +kernel) (Nat.le_of_ble_eq_true rfl) rfl ?_
  intro κ X hR
  have X : sx_X d κ cX4_bestToAsk 5 RX4 (sx_rm 3) := X
  unfold fX4_bestToAsk at hf
  refine g_bipush (v := -4) (pc' := 2) X dX4_bestToAsk_0 rfl (by decide) ?_
  refine g_istore_n (lv' := [some (.ref (a 0)), some (.int v1), some (.int (-4 : Int32)), none, none]) (pc' := 3) X dX4_bestToAsk_2 rfl rfl (by decide) rfl rfl ?_
  refine g_iconst (v := 0) (pc' := 4) X dX4_bestToAsk_3 rfl (by decide) ?_
  refine g_istore_n (lv' := [some (.ref (a 0)), some (.int v1), some (.int (-4 : Int32)), some (.int (0 : Int32)), none]) (pc' := 5) X dX4_bestToAsk_4 rfl rfl (by decide) rfl rfl ?_
  obtain ⟨y3, hy3, hf⟩ := sx_bd hf
  refine sx_weak [true, true, true, true, true] rfl (lX4_bestToAsk_5 d κ a s_saidOn s_saidOff s_saidCount s_range_peaks s_range_windsTold s_now_cells v1 X y3 ?_ 1000 ((-4 : Int32), (0 : Int32)) hy3)
  rintro w4 rfl
  refine g_iload_n (pc' := 69) X dX4_bestToAsk_68 rfl rfl rfl ?_
  cases hf
  exact hR _ _ dX4_bestToAsk_69 rfl
-- X4_ask
def jX4_ask_28 (s_range_peaks : Int32) (s_now_cells : Nat → Int32) (v1 : Int32) (v2 : Int32) (t0 : Int32) : Option (Int32) :=
  if t0 = (-4 : Int32) then
    some t0
  else
    if v1 = 0 then
      some t0
    else
      (fX4_greaterPart s_range_peaks s_now_cells v2 t0).bind fun x3 =>
      some x3
def fX4_ask (s_saidOn : Int32) (s_saidOff : Int32) (s_range_peaks : Int32) (s_now_cells : Nat → Int32) (v1 : Int32) : Option (Int32) :=
  (fX4_isZeroOrOne v1).bind fun x1 =>
  if x1 = 0 then
    some (-1 : Int32)
  else
    (fX4_which s_saidOn s_saidOff s_range_peaks s_now_cells).bind fun x2 =>
    if x2 = 0 then
      jX4_ask_28 s_range_peaks s_now_cells v1 x2 (-4 : Int32)
    else
      (fX4_bestToAsk s_saidOn s_saidOff s_range_peaks s_now_cells x2).bind fun x4 =>
      jX4_ask_28 s_range_peaks s_now_cells v1 x2 x4
set_option maxHeartbeats 4000000 in
set_option maxRecDepth 100000 in
theorem ctX4_ask (l : Launch) (d : sx_D) (a : Nat → Nat) (s_saidOn : Int32) (s_saidOff : Int32) (s_saidCount : Int32) (s_range_peaks : Int32) (s_range_windsTold : Int32) (s_now_cells : Nat → Int32) (v1 : Int32) (r : Int32) (hf : fX4_ask s_saidOn s_saidOff s_range_peaks s_now_cells v1 = some r) : sx_I l d yX4_ask cX4_ask 4 .int 4 [.ref (a 0), .int v1] [oX4 a s_saidOn s_saidOff s_saidCount, oX1 (a 10) (a 11) (a 12) (a 13) s_range_peaks s_range_windsTold, oX3 (a 14) (a 15), ai d (a 15) 42 s_now_cells] [oX4 a s_saidOn s_saidOff s_saidCount, oX1 (a 10) (a 11) (a 12) (a 13) s_range_peaks s_range_windsTold, oX3 (a 14) (a 15), ai d (a 15) 42 s_now_cells] r := by
  refine sx_I.intro (lv0 := [some (.ref (a 0)), some (.int v1), none, none]) (by decide +kernel) (Nat.le_of_ble_eq_true rfl) rfl ?_
  intro κ X hR
  have X : sx_X d κ cX4_ask 4 RX4 (sx_rm 4) := X
  unfold fX4_ask at hf
  refine g_iload_n (pc' := 1) X dX4_ask_0 rfl rfl rfl ?_
  refine g_callSi0 (pc' := 4) (As := [.int v1]) (st := []) (w2 := fun x1 => [oX4 a s_saidOn s_saidOff s_saidCount, oX1 (a 10) (a 11) (a 12) (a 13) s_range_peaks s_range_windsTold, oX3 (a 14) (a 15), ai d (a 15) 42 s_now_cells]) X lk_X4_161 dX4_ask_1 rfl rfl rfl (Nat.le_of_ble_eq_true rfl) ⟨Nat.le_of_ble_eq_true rfl, Nat.le_of_ble_eq_true rfl, Nat.le_of_ble_eq_true rfl, Nat.le_of_ble_eq_true rfl⟩ [] (by decide) rfl hf (fun l x1 h => ctX4_isZeroOrOne l d v1 x1 h) (fun _ => rfl) (fun _ => rfl) (fun x1 hnx1 hf => ?_)
  refine g_if_ne (tgt := 9) (pc' := 7) X dX4_ask_4 (by decide) rfl hf (fun hf => ?_) (fun hf => ?_)
  · refine g_aload_n (pc' := 10) X dX4_ask_9 rfl rfl rfl ?_
    refine g_callVi0 (pc' := 13) (As := []) (b := (a 0)) (st := []) (w2 := fun x2 => [oX4 a s_saidOn s_saidOff s_saidCount, oX1 (a 10) (a 11) (a 12) (a 13) s_range_peaks s_range_windsTold, oX3 (a 14) (a 15), ai d (a 15) 42 s_now_cells]) X lk_X4_209 dX4_ask_10 rfl rfl rfl (Nat.le_of_ble_eq_true rfl) ⟨Nat.le_of_ble_eq_true rfl, Nat.le_of_ble_eq_true rfl, Nat.le_of_ble_eq_true rfl, Nat.le_of_ble_eq_true rfl⟩ rfl [0, 1, 2, 3] (by decide) rfl hf (fun l x2 h => ctX4_which l d a s_saidOn s_saidOff s_saidCount s_range_peaks s_range_windsTold s_now_cells x2 h) (fun _ => rfl) (fun _ => rfl) (fun x2 hnx2 hf => ?_)
    refine g_istore_n (lv' := [some (.ref (a 0)), some (.int v1), some (.int x2), none]) (pc' := 14) X dX4_ask_13 rfl rfl (by decide) rfl rfl ?_
    refine g_iload_n (pc' := 15) X dX4_ask_14 rfl rfl rfl ?_
    have hjX4_ask_28 : ∀ (v1 : Int32) (v2 : Int32) (t0 : Int32), jX4_ask_28 s_range_peaks s_now_cells v1 v2 t0 = some r → sx_G d κ 4 0 0 28 [some (.ref (a 0)), some (.int v1), some (.int v2), none] [.int t0] [oX4 a s_saidOn s_saidOff s_saidCount, oX1 (a 10) (a 11) (a 12) (a 13) s_range_peaks s_range_windsTold, oX3 (a 14) (a 15), ai d (a 15) 42 s_now_cells] := by
      intro v1 v2 t0 hf
      unfold jX4_ask_28 at hf
      refine g_istore_n (lv' := [some (.ref (a 0)), some (.int v1), some (.int v2), some (.int t0)]) (pc' := 29) X dX4_ask_28 rfl rfl (by decide) rfl rfl ?_
      refine g_iload_n (pc' := 30) X dX4_ask_29 rfl rfl rfl ?_
      refine g_bipush (v := -4) (pc' := 32) X dX4_ask_30 rfl (by decide) ?_
      refine g_icmp_eq (tgt := 39) (pc' := 35) X dX4_ask_32 (by decide) rfl hf (fun hf => ?_) (fun hf => ?_)
      · refine g_iload_n (pc' := 40) X dX4_ask_39 rfl rfl rfl ?_
        refine g_goto (tgt := 49) X dX4_ask_40 (by decide) ?_
        cases hf
        exact hR _ _ dX4_ask_49 rfl
      · refine g_iload_n (pc' := 36) X dX4_ask_35 rfl rfl rfl ?_
        refine g_if_ne (tgt := 43) (pc' := 39) X dX4_ask_36 (by decide) rfl hf (fun hf => ?_) (fun hf => ?_)
        · refine g_aload_n (pc' := 44) X dX4_ask_43 rfl rfl rfl ?_
          refine g_iload_n (pc' := 45) X dX4_ask_44 rfl rfl rfl ?_
          refine g_iload_n (pc' := 46) X dX4_ask_45 rfl rfl rfl ?_
          refine g_callVi0 (pc' := 49) (As := [.int v2, .int t0]) (b := (a 0)) (st := []) (w2 := fun x3 => [oX4 a s_saidOn s_saidOff s_saidCount, oX1 (a 10) (a 11) (a 12) (a 13) s_range_peaks s_range_windsTold, oX3 (a 14) (a 15), ai d (a 15) 42 s_now_cells]) X lk_X4_215 dX4_ask_46 rfl rfl rfl (Nat.le_of_ble_eq_true rfl) ⟨Nat.le_of_ble_eq_true rfl, Nat.le_of_ble_eq_true rfl, Nat.le_of_ble_eq_true rfl, Nat.le_of_ble_eq_true rfl⟩ rfl [0, 1, 2, 3] (by decide) rfl hf (fun l x3 h => ctX4_greaterPart l d a s_saidOn s_saidOff s_saidCount s_range_peaks s_range_windsTold s_now_cells v2 t0 x3 h) (fun _ => rfl) (fun _ => rfl) (fun x3 hnx3 hf => ?_)
          cases hf
          exact hR _ _ dX4_ask_49 rfl
        · refine g_iload_n (pc' := 40) X dX4_ask_39 rfl rfl rfl ?_
          refine g_goto (tgt := 49) X dX4_ask_40 (by decide) ?_
          cases hf
          exact hR _ _ dX4_ask_49 rfl
    refine g_if_ne (tgt := 23) (pc' := 18) X dX4_ask_15 (by decide) rfl hf (fun hf => ?_) (fun hf => ?_)
    · refine g_aload_n (pc' := 24) X dX4_ask_23 rfl rfl rfl ?_
      refine g_iload_n (pc' := 25) X dX4_ask_24 rfl rfl rfl ?_
      refine g_callVi0 (pc' := 28) (As := [.int x2]) (b := (a 0)) (st := []) (w2 := fun x4 => [oX4 a s_saidOn s_saidOff s_saidCount, oX1 (a 10) (a 11) (a 12) (a 13) s_range_peaks s_range_windsTold, oX3 (a 14) (a 15), ai d (a 15) 42 s_now_cells]) X lk_X4_212 dX4_ask_25 rfl rfl rfl (Nat.le_of_ble_eq_true rfl) ⟨Nat.le_of_ble_eq_true rfl, Nat.le_of_ble_eq_true rfl, Nat.le_of_ble_eq_true rfl, Nat.le_of_ble_eq_true rfl⟩ rfl [0, 1, 2, 3] (by decide) rfl hf (fun l x4 h => ctX4_bestToAsk l d a s_saidOn s_saidOff s_saidCount s_range_peaks s_range_windsTold s_now_cells x2 x4 h) (fun _ => rfl) (fun _ => rfl) (fun x4 hnx4 hf => ?_)
      exact sx_weak [true, true, true, true] rfl (hjX4_ask_28 v1 x2 x4 hf)
    · refine g_bipush (v := -4) (pc' := 20) X dX4_ask_18 rfl (by decide) ?_
      refine g_goto (tgt := 28) X dX4_ask_20 (by decide) ?_
      exact sx_weak [true, true, true, true] rfl (hjX4_ask_28 v1 x2 (-4 : Int32) hf)
  · refine g_iconst (v := -1) (pc' := 8) X dX4_ask_7 rfl (by decide) ?_
    cases hf
    exact hR _ _ dX4_ask_8 rfl
-- X4_fitsGuideOf
def fX4_fitsGuideOf (s_now_cells : Nat → Int32) (v1 : Int32) (v2 : Int32) : Option (Int32) :=
  (fX3_looksOf s_now_cells v1).bind fun x1 =>
  (fX3_guideOf s_now_cells v2).bind fun x2 =>
  if (x1 &&& (x2 ^^^ (-1 : Int32))) = 0 then
    some (1 : Int32)
  else
    some (0 : Int32)
set_option maxHeartbeats 4000000 in
set_option maxRecDepth 100000 in
theorem ctX4_fitsGuideOf (l : Launch) (d : sx_D) (a : Nat → Nat) (s_saidOn : Int32) (s_saidOff : Int32) (s_saidCount : Int32) (s_now_cells : Nat → Int32) (v1 : Int32) (v2 : Int32) (r : Int32) (hf : fX4_fitsGuideOf s_now_cells v1 v2 = some r) : sx_I l d yX4_fitsGuideOf cX4_fitsGuideOf 3 .boolean 3 [.ref (a 0), .int v1, .int v2] [oX4 a s_saidOn s_saidOff s_saidCount, oX3 (a 14) (a 15), ai d (a 15) 42 s_now_cells] [oX4 a s_saidOn s_saidOff s_saidCount, oX3 (a 14) (a 15), ai d (a 15) 42 s_now_cells] r := by
  refine sx_I.intro (lv0 := [some (.ref (a 0)), some (.int v1), some (.int v2)]) (by decide +kernel) (Nat.le_of_ble_eq_true rfl) rfl ?_
  intro κ X hR
  have X : sx_X d κ cX4_fitsGuideOf 3 RX4 (sx_rm 3) := X
  unfold fX4_fitsGuideOf at hf
  refine g_aload_n (pc' := 1) X dX4_fitsGuideOf_0 rfl rfl rfl ?_
  refine g_get (pc' := 4) X fl_X4_26 dX4_fitsGuideOf_1 rfl 0 rfl rfl ?_
  refine g_iload_n (pc' := 5) X dX4_fitsGuideOf_4 rfl rfl rfl ?_
  refine g_callVi0 (pc' := 8) (As := [.int v1]) (b := (a 14)) (st := []) (w2 := fun x1 => [oX4 a s_saidOn s_saidOff s_saidCount, oX3 (a 14) (a 15), ai d (a 15) 42 s_now_cells]) X lk_X4_94 dX4_fitsGuideOf_5 rfl rfl rfl (Nat.le_of_ble_eq_true rfl) ⟨Nat.le_of_ble_eq_true rfl, Nat.le_of_ble_eq_true rfl, Nat.le_of_ble_eq_true rfl, Nat.le_of_ble_eq_true rfl⟩ rfl [1, 2] (by decide) rfl hf (fun l x1 h => ctX3_looksOf l d (a 14) (a 15) s_now_cells v1 x1 h) (fun _ => rfl) (fun _ => rfl) (fun x1 hnx1 hf => ?_)
  refine g_aload_n (pc' := 9) X dX4_fitsGuideOf_8 rfl rfl rfl ?_
  refine g_get (pc' := 12) X fl_X4_26 dX4_fitsGuideOf_9 rfl 0 rfl rfl ?_
  refine g_iload_n (pc' := 13) X dX4_fitsGuideOf_12 rfl rfl rfl ?_
  refine g_callVi0 (pc' := 16) (As := [.int v2]) (b := (a 14)) (st := [.int x1]) (w2 := fun x2 => [oX4 a s_saidOn s_saidOff s_saidCount, oX3 (a 14) (a 15), ai d (a 15) 42 s_now_cells]) X lk_X4_97 dX4_fitsGuideOf_13 rfl rfl rfl (Nat.le_of_ble_eq_true rfl) ⟨Nat.le_of_ble_eq_true rfl, Nat.le_of_ble_eq_true rfl, Nat.le_of_ble_eq_true rfl, Nat.le_of_ble_eq_true rfl⟩ rfl [1, 2] (by decide) rfl hf (fun l x2 h => ctX3_guideOf l d (a 14) (a 15) s_now_cells v2 x2 h) (fun _ => rfl) (fun _ => rfl) (fun x2 hnx2 hf => ?_)
  refine g_iconst (v := -1) (pc' := 17) X dX4_fitsGuideOf_16 rfl (by decide) ?_
  refine g_ixor (pc' := 18) X dX4_fitsGuideOf_17 rfl ?_
  refine g_iand (pc' := 19) X dX4_fitsGuideOf_18 rfl ?_
  refine g_if_ne (tgt := 26) (pc' := 22) X dX4_fitsGuideOf_19 (by decide) rfl hf (fun hf => ?_) (fun hf => ?_)
  · refine g_iconst (v := 0) (pc' := 27) X dX4_fitsGuideOf_26 rfl (by decide) ?_
    cases hf
    exact hR _ _ dX4_fitsGuideOf_27 rfl
  · refine g_iconst (v := 1) (pc' := 23) X dX4_fitsGuideOf_22 rfl (by decide) ?_
    refine g_goto (tgt := 27) X dX4_fitsGuideOf_23 (by decide) ?_
    cases hf
    exact hR _ _ dX4_fitsGuideOf_27 rfl
-- X4_countWays
def bX4_countWays_32 (s_range_peaks : Int32) (s_now_cells : Nat → Int32) (s_ways : Nat → Int32) (v2 : Int32) : (Int32 × Int32) → Option ((Int32 × Int32) ⊕ (Int32)) := fun (v3, v4) =>
  if s_range_peaks ≤ v4 then
    some (.inr v3)
  else
    if ((v2 >>> (v4 &&& 31)) &&& (1 : Int32)) = 0 then
      (fJ6_bitCount_0f7a4 v2).bind fun x2 =>
      (fX4_fitsGuideOf s_now_cells x2 v4).bind fun x3 =>
      if x3 = 0 then
        some (.inl (v3, v4 + (1 : Int32)))
      else
        sx_rd s_ways 64 (v2 ||| ((1 : Int32) <<< (v4 &&& 31))) fun x4 =>
        sx_lt (v3 + x4) fun x5 =>
        some (.inl (x5, v4 + (1 : Int32)))
    else
      some (.inl (v3, v4 + (1 : Int32)))
def jX4_countWays_28 (s_range_peaks : Int32) (s_now_cells : Nat → Int32) (s_ways : Nat → Int32) (v2 : Int32) (t0 : Int32) : Option ((Int32 × (Nat → Int32)) ⊕ ((Nat → Int32))) :=
  (sx_it 1000 (bX4_countWays_32 s_range_peaks s_now_cells s_ways v2) (t0, (0 : Int32))).bind fun w7 =>
  sx_wr s_ways 64 v2 w7 fun g8 =>
  some (.inl (v2 + (-1 : Int32), g8))
def bX4_countWays_14 (s_range_peaks : Int32) (s_now_cells : Nat → Int32) (v1 : Int32) : (Int32 × (Nat → Int32)) → Option ((Int32 × (Nat → Int32)) ⊕ ((Nat → Int32))) := fun (v2, s_ways) =>
  if v2 < 0 then
    some (.inr s_ways)
  else
    if v2 = v1 then
      jX4_countWays_28 s_range_peaks s_now_cells s_ways v2 (1 : Int32)
    else
      jX4_countWays_28 s_range_peaks s_now_cells s_ways v2 (0 : Int32)
def fX4_countWays (s_range_peaks : Int32) (s_now_cells : Nat → Int32) (s_ways : Nat → Int32) : Option ((Nat → Int32)) :=
  sx_lt (((1 : Int32) <<< (s_range_peaks &&& 31)) - (1 : Int32)) fun x1 =>
  (sx_it 1000 (bX4_countWays_14 s_range_peaks s_now_cells x1) (x1, s_ways)).bind fun w10 =>
  some w10
set_option maxHeartbeats 4000000 in
set_option maxRecDepth 100000 in
theorem lX4_countWays_32 (d : sx_D) (κ : sx_C) (a : Nat → Nat) (s_saidOn : Int32) (s_saidOff : Int32) (s_saidCount : Int32) (s_range_peaks : Int32) (s_range_windsTold : Int32) (s_now_cells : Nat → Int32) (s_ways : Nat → Int32) (v1 : Int32) (v2 : Int32) (X : sx_X d κ cX4_countWays 5 RX4 (sx_rm 4)) (y : Int32) (hE86 : ∀ (v3 : Int32), v3 = y → sx_G d κ 5 0 0 86 [some (.ref (a 0)), some (.int v1), some (.int v2), some (.int v3), none] [] [oX4 a s_saidOn s_saidOff s_saidCount, oX1 (a 10) (a 11) (a 12) (a 13) s_range_peaks s_range_windsTold, oX3 (a 14) (a 15), ai d (a 15) 42 s_now_cells, ai d (a 24) 64 s_ways]) : ∀ (n : Nat) (s : Int32 × Int32), sx_it n (bX4_countWays_32 s_range_peaks s_now_cells s_ways v2) s = some y → (match s with | (v3, v4) => sx_G d κ 5 0 0 32 [some (.ref (a 0)), some (.int v1), some (.int v2), some (.int v3), some (.int v4)] [] [oX4 a s_saidOn s_saidOff s_saidCount, oX1 (a 10) (a 11) (a 12) (a 13) s_range_peaks s_range_windsTold, oX3 (a 14) (a 15), ai d (a 15) 42 s_now_cells, ai d (a 24) 64 s_ways]) := by
  refine sx_it_run (bX4_countWays_32 s_range_peaks s_now_cells s_ways v2) (fun s => match s with | (v3, v4) => sx_G d κ 5 0 0 32 [some (.ref (a 0)), some (.int v1), some (.int v2), some (.int v3), some (.int v4)] [] [oX4 a s_saidOn s_saidOff s_saidCount, oX1 (a 10) (a 11) (a 12) (a 13) s_range_peaks s_range_windsTold, oX3 (a 14) (a 15), ai d (a 15) 42 s_now_cells, ai d (a 24) 64 s_ways]) y ?_
  rintro ⟨v3, v4⟩ x hf hb he
  show sx_G d κ 5 0 0 32 [some (.ref (a 0)), some (.int v1), some (.int v2), some (.int v3), some (.int v4)] [] [oX4 a s_saidOn s_saidOff s_saidCount, oX1 (a 10) (a 11) (a 12) (a 13) s_range_peaks s_range_windsTold, oX3 (a 14) (a 15), ai d (a 15) 42 s_now_cells, ai d (a 24) 64 s_ways]
  unfold bX4_countWays_32 at hf
  refine g_iload (pc' := 34) X dX4_countWays_32 rfl rfl ?_
  refine g_aload_n (pc' := 35) X dX4_countWays_34 rfl rfl rfl ?_
  refine g_get (pc' := 38) X fl_X4_19 dX4_countWays_35 rfl 0 rfl rfl ?_
  refine g_get (pc' := 41) X fl_X4_80 dX4_countWays_38 rfl 1 rfl rfl ?_
  refine g_icmp_ge (tgt := 86) (pc' := 44) X dX4_countWays_41 (by decide) rfl hf (fun hf => ?_) (fun hf => ?_)
  · exact sx_weak [true, true, true, true, false] rfl (hE86 _ (sx_ex hf he))
  · refine g_iload_n (pc' := 45) X dX4_countWays_44 rfl rfl rfl ?_
    refine g_iload (pc' := 47) X dX4_countWays_45 rfl rfl ?_
    refine g_ishr (pc' := 48) X dX4_countWays_47 rfl ?_
    refine g_iconst (v := 1) (pc' := 49) X dX4_countWays_48 rfl (by decide) ?_
    refine g_iand (pc' := 50) X dX4_countWays_49 rfl ?_
    refine g_if_ne (tgt := 80) (pc' := 53) X dX4_countWays_50 (by decide) rfl hf (fun hf => ?_) (fun hf => ?_)
    · refine g_iinc (v := 1) (lv' := [some (.ref (a 0)), some (.int v1), some (.int v2), some (.int v3), some (.int (v4 + (1 : Int32)))]) (pc' := 83) X dX4_countWays_80 rfl rfl (by decide) (by decide) rfl rfl ?_
      refine g_goto (tgt := 32) X dX4_countWays_83 (by decide) ?_
      have hk := sx_bk hf hb
      exact sx_weak [true, true, true, true, true] rfl hk
    · refine g_aload_n (pc' := 54) X dX4_countWays_53 rfl rfl rfl ?_
      refine g_iload_n (pc' := 55) X dX4_countWays_54 rfl rfl rfl ?_
      refine g_callSi0 (pc' := 58) (As := [.int v2]) (st := [.ref (a 0)]) (w2 := fun x2 => [oX4 a s_saidOn s_saidOff s_saidCount, oX1 (a 10) (a 11) (a 12) (a 13) s_range_peaks s_range_windsTold, oX3 (a 14) (a 15), ai d (a 15) 42 s_now_cells, ai d (a 24) 64 s_ways]) X lk_X4_189 dX4_countWays_55 rfl rfl rfl (Nat.le_of_ble_eq_true rfl) ⟨Nat.le_of_ble_eq_true rfl, Nat.le_of_ble_eq_true rfl, Nat.le_of_ble_eq_true rfl, Nat.le_of_ble_eq_true rfl⟩ [] (by decide) rfl hf (fun l x2 h => ctJ6_bitCount_0f7a4 l d v2 x2 h) (fun _ => rfl) (fun _ => rfl) (fun x2 hnx2 hf => ?_)
      refine g_iload (pc' := 60) X dX4_countWays_58 rfl rfl ?_
      refine g_callVi0 (pc' := 63) (As := [.int x2, .int v4]) (b := (a 0)) (st := []) (w2 := fun x3 => [oX4 a s_saidOn s_saidOff s_saidCount, oX1 (a 10) (a 11) (a 12) (a 13) s_range_peaks s_range_windsTold, oX3 (a 14) (a 15), ai d (a 15) 42 s_now_cells, ai d (a 24) 64 s_ways]) X lk_X4_291 dX4_countWays_60 rfl rfl rfl (Nat.le_of_ble_eq_true rfl) ⟨Nat.le_of_ble_eq_true rfl, Nat.le_of_ble_eq_true rfl, Nat.le_of_ble_eq_true rfl, Nat.le_of_ble_eq_true rfl⟩ rfl [0, 2, 3] (by decide) rfl hf (fun l x3 h => ctX4_fitsGuideOf l d a s_saidOn s_saidOff s_saidCount s_now_cells x2 v4 x3 h) (fun _ => rfl) (fun _ => rfl) (fun x3 hnx3 hf => ?_)
      refine g_if_eq (tgt := 80) (pc' := 66) X dX4_countWays_63 (by decide) rfl hf (fun hf => ?_) (fun hf => ?_)
      · refine g_iinc (v := 1) (lv' := [some (.ref (a 0)), some (.int v1), some (.int v2), some (.int v3), some (.int (v4 + (1 : Int32)))]) (pc' := 83) X dX4_countWays_80 rfl rfl (by decide) (by decide) rfl rfl ?_
        refine g_goto (tgt := 32) X dX4_countWays_83 (by decide) ?_
        have hk := sx_bk hf hb
        exact sx_weak [true, true, true, true, true] rfl hk
      · refine g_iload_n (pc' := 67) X dX4_countWays_66 rfl rfl rfl ?_
        refine g_aload_n (pc' := 68) X dX4_countWays_67 rfl rfl rfl ?_
        refine g_get (pc' := 71) X fl_X4_52 dX4_countWays_68 rfl 0 rfl rfl ?_
        refine g_iload_n (pc' := 72) X dX4_countWays_71 rfl rfl rfl ?_
        refine g_iconst (v := 1) (pc' := 73) X dX4_countWays_72 rfl (by decide) ?_
        refine g_iload (pc' := 75) X dX4_countWays_73 rfl rfl ?_
        refine g_ishl (pc' := 76) X dX4_countWays_75 rfl ?_
        refine g_ior (pc' := 77) X dX4_countWays_76 rfl ?_
        refine g_iald (pc' := 78) X dX4_countWays_77 rfl 4 rfl hf (fun x4 hf => ?_)
        refine g_iadd (pc' := 79) X dX4_countWays_78 rfl ?_
        refine g_istore_nN (lv' := fun x5 => [some (.ref (a 0)), some (.int v1), some (.int v2), some (.int x5), some (.int v4)]) (pc' := 80) X dX4_countWays_79 rfl rfl (by decide) rfl (fun _ => rfl) hf (fun x5 hf => ?_)
        refine g_iinc (v := 1) (lv' := [some (.ref (a 0)), some (.int v1), some (.int v2), some (.int x5), some (.int (v4 + (1 : Int32)))]) (pc' := 83) X dX4_countWays_80 rfl rfl (by decide) (by decide) rfl rfl ?_
        refine g_goto (tgt := 32) X dX4_countWays_83 (by decide) ?_
        have hk := sx_bk hf hb
        exact sx_weak [true, true, true, true, true] rfl hk
set_option maxHeartbeats 4000000 in
set_option maxRecDepth 100000 in
theorem lX4_countWays_14 (d : sx_D) (κ : sx_C) (a : Nat → Nat) (s_saidOn : Int32) (s_saidOff : Int32) (s_saidCount : Int32) (s_range_peaks : Int32) (s_range_windsTold : Int32) (s_now_cells : Nat → Int32) (v1 : Int32) (X : sx_X d κ cX4_countWays 5 RX4 (sx_rm 4)) (y : (Nat → Int32)) (hE99 : ∀ (s_ways : Nat → Int32), s_ways = y → sx_G d κ 5 0 0 99 [none, none, none, none, none] [] [oX4 a s_saidOn s_saidOff s_saidCount, oX1 (a 10) (a 11) (a 12) (a 13) s_range_peaks s_range_windsTold, oX3 (a 14) (a 15), ai d (a 15) 42 s_now_cells, ai d (a 24) 64 s_ways]) : ∀ (n : Nat) (s : Int32 × (Nat → Int32)), sx_it n (bX4_countWays_14 s_range_peaks s_now_cells v1) s = some y → (match s with | (v2, s_ways) => sx_G d κ 5 0 0 14 [some (.ref (a 0)), some (.int v1), some (.int v2), none, none] [] [oX4 a s_saidOn s_saidOff s_saidCount, oX1 (a 10) (a 11) (a 12) (a 13) s_range_peaks s_range_windsTold, oX3 (a 14) (a 15), ai d (a 15) 42 s_now_cells, ai d (a 24) 64 s_ways]) := by
  refine sx_it_run (bX4_countWays_14 s_range_peaks s_now_cells v1) (fun s => match s with | (v2, s_ways) => sx_G d κ 5 0 0 14 [some (.ref (a 0)), some (.int v1), some (.int v2), none, none] [] [oX4 a s_saidOn s_saidOff s_saidCount, oX1 (a 10) (a 11) (a 12) (a 13) s_range_peaks s_range_windsTold, oX3 (a 14) (a 15), ai d (a 15) 42 s_now_cells, ai d (a 24) 64 s_ways]) y ?_
  rintro ⟨v2, s_ways⟩ x hf hb he
  show sx_G d κ 5 0 0 14 [some (.ref (a 0)), some (.int v1), some (.int v2), none, none] [] [oX4 a s_saidOn s_saidOff s_saidCount, oX1 (a 10) (a 11) (a 12) (a 13) s_range_peaks s_range_windsTold, oX3 (a 14) (a 15), ai d (a 15) 42 s_now_cells, ai d (a 24) 64 s_ways]
  unfold bX4_countWays_14 at hf
  refine g_iload_n (pc' := 15) X dX4_countWays_14 rfl rfl rfl ?_
  refine g_if_lt (tgt := 99) (pc' := 18) X dX4_countWays_15 (by decide) rfl hf (fun hf => ?_) (fun hf => ?_)
  · exact sx_weak [false, false, false, true, true] rfl (hE99 _ (sx_ex hf he))
  · refine g_iload_n (pc' := 19) X dX4_countWays_18 rfl rfl rfl ?_
    refine g_iload_n (pc' := 20) X dX4_countWays_19 rfl rfl rfl ?_
    have hjX4_countWays_28 : ∀ (v2 : Int32) (t0 : Int32) (s_ways : Nat → Int32), jX4_countWays_28 s_range_peaks s_now_cells s_ways v2 t0 = some x → sx_G d κ 5 0 0 28 [some (.ref (a 0)), some (.int v1), some (.int v2), none, none] [.int t0] [oX4 a s_saidOn s_saidOff s_saidCount, oX1 (a 10) (a 11) (a 12) (a 13) s_range_peaks s_range_windsTold, oX3 (a 14) (a 15), ai d (a 15) 42 s_now_cells, ai d (a 24) 64 s_ways] := by
      intro v2 t0 s_ways hf
      unfold jX4_countWays_28 at hf
      refine g_istore_n (lv' := [some (.ref (a 0)), some (.int v1), some (.int v2), some (.int t0), none]) (pc' := 29) X dX4_countWays_28 rfl rfl (by decide) rfl rfl ?_
      refine g_iconst (v := 0) (pc' := 30) X dX4_countWays_29 rfl (by decide) ?_
      refine g_istore (lv' := [some (.ref (a 0)), some (.int v1), some (.int v2), some (.int t0), some (.int (0 : Int32))]) (pc' := 32) X dX4_countWays_30 rfl (by decide) rfl rfl ?_
      obtain ⟨y6, hy6, hf⟩ := sx_bd hf
      refine sx_weak [true, true, true, true, true] rfl (lX4_countWays_32 d κ a s_saidOn s_saidOff s_saidCount s_range_peaks s_range_windsTold s_now_cells s_ways v1 v2 X y6 ?_ 1000 (t0, (0 : Int32)) hy6)
      rintro w7 rfl
      refine g_aload_n (pc' := 87) X dX4_countWays_86 rfl rfl rfl ?_
      refine g_get (pc' := 90) X fl_X4_52 dX4_countWays_87 rfl 0 rfl rfl ?_
      refine g_iload_n (pc' := 91) X dX4_countWays_90 rfl rfl rfl ?_
      refine g_iload_n (pc' := 92) X dX4_countWays_91 rfl rfl rfl ?_
      refine g_iast (pc' := 93) (w2 := fun g8 => [oX4 a s_saidOn s_saidOff s_saidCount, oX1 (a 10) (a 11) (a 12) (a 13) s_range_peaks s_range_windsTold, oX3 (a 14) (a 15), ai d (a 15) 42 s_now_cells, ai d (a 24) 64 g8]) X dX4_countWays_92 rfl 4 rfl hf (fun _ => rfl) (fun g8 hf => ?_)
      refine g_iinc (v := -1) (lv' := [some (.ref (a 0)), some (.int v1), some (.int (v2 + (-1 : Int32))), some (.int w7), none]) (pc' := 96) X dX4_countWays_93 rfl rfl (by decide) (by decide) rfl rfl ?_
      refine g_goto (tgt := 14) X dX4_countWays_96 (by decide) ?_
      have hk := sx_bk hf hb
      exact sx_weak [true, true, true, false, true] rfl hk
    refine g_icmp_ne (tgt := 27) (pc' := 23) X dX4_countWays_20 (by decide) rfl hf (fun hf => ?_) (fun hf => ?_)
    · refine g_iconst (v := 0) (pc' := 28) X dX4_countWays_27 rfl (by decide) ?_
      exact sx_weak [true, true, true, true, true] rfl (hjX4_countWays_28 v2 (0 : Int32) s_ways hf)
    · refine g_iconst (v := 1) (pc' := 24) X dX4_countWays_23 rfl (by decide) ?_
      refine g_goto (tgt := 28) X dX4_countWays_24 (by decide) ?_
      exact sx_weak [true, true, true, true, true] rfl (hjX4_countWays_28 v2 (1 : Int32) s_ways hf)
set_option maxHeartbeats 4000000 in
set_option maxRecDepth 100000 in
theorem ctX4_countWays (l : Launch) (d : sx_D) (a : Nat → Nat) (s_saidOn : Int32) (s_saidOff : Int32) (s_saidCount : Int32) (s_range_peaks : Int32) (s_range_windsTold : Int32) (s_now_cells : Nat → Int32) (s_ways : Nat → Int32) (ro1 : Nat → Int32) (hf : fX4_countWays s_range_peaks s_now_cells s_ways = some ro1) : sx_V l d yX4_countWays cX4_countWays 5 4 [.ref (a 0)] [oX4 a s_saidOn s_saidOff s_saidCount, oX1 (a 10) (a 11) (a 12) (a 13) s_range_peaks s_range_windsTold, oX3 (a 14) (a 15), ai d (a 15) 42 s_now_cells, ai d (a 24) 64 s_ways] [oX4 a s_saidOn s_saidOff s_saidCount, oX1 (a 10) (a 11) (a 12) (a 13) s_range_peaks s_range_windsTold, oX3 (a 14) (a 15), ai d (a 15) 42 s_now_cells, ai d (a 24) 64 ro1] := by
  refine sx_V.intro (lv0 := [some (.ref (a 0)), none, none, none, none]) (by decide +kernel) (Nat.le_of_ble_eq_true rfl) rfl ?_
  intro κ X hR
  have X : sx_X d κ cX4_countWays 5 RX4 (sx_rm 4) := X
  unfold fX4_countWays at hf
  refine g_iconst (v := 1) (pc' := 1) X dX4_countWays_0 rfl (by decide) ?_
  refine g_aload_n (pc' := 2) X dX4_countWays_1 rfl rfl rfl ?_
  refine g_get (pc' := 5) X fl_X4_19 dX4_countWays_2 rfl 0 rfl rfl ?_
  refine g_get (pc' := 8) X fl_X4_80 dX4_countWays_5 rfl 1 rfl rfl ?_
  refine g_ishl (pc' := 9) X dX4_countWays_8 rfl ?_
  refine g_iconst (v := 1) (pc' := 10) X dX4_countWays_9 rfl (by decide) ?_
  refine g_isub (pc' := 11) X dX4_countWays_10 rfl ?_
  refine g_istore_nN (lv' := fun x1 => [some (.ref (a 0)), some (.int x1), none, none, none]) (pc' := 12) X dX4_countWays_11 rfl rfl (by decide) rfl (fun _ => rfl) hf (fun x1 hf => ?_)
  refine g_iload_n (pc' := 13) X dX4_countWays_12 rfl rfl rfl ?_
  refine g_istore_n (lv' := [some (.ref (a 0)), some (.int x1), some (.int x1), none, none]) (pc' := 14) X dX4_countWays_13 rfl rfl (by decide) rfl rfl ?_
  obtain ⟨y9, hy9, hf⟩ := sx_bd hf
  refine sx_weak [true, true, true, true, true] rfl (lX4_countWays_14 d κ a s_saidOn s_saidOff s_saidCount s_range_peaks s_range_windsTold s_now_cells x1 X y9 ?_ 1000 (x1, s_ways) hy9)
  rintro w10 rfl
  cases hf
  exact hR _ _ dX4_countWays_99
-- X4_lowestGuideFor
def jX4_lowestGuideFor_26 (s_now_cells : Nat → Int32) (s_ways : Nat → Int32) (v1 : Int32) (v2 : Int32) (v3 : Int32) (t0 : Int32) : Option ((Int32) ⊕ ((Int32) ⊕ (Unit))) :=
  if t0 = 0 then
    some (.inl (v3 + (1 : Int32)))
  else
    (fX4_fitsGuideOf s_now_cells v1 v3).bind fun x1 =>
    if x1 = 0 then
      some (.inl (v3 + (1 : Int32)))
    else
      sx_rd s_ways 64 (v2 ||| ((1 : Int32) <<< (v3 &&& 31))) fun x2 =>
      if x2 ≤ 0 then
        some (.inl (v3 + (1 : Int32)))
      else
        some (.inr (.inl v3))
def bX4_lowestGuideFor_2 (s_range_peaks : Int32) (s_now_cells : Nat → Int32) (s_ways : Nat → Int32) (v1 : Int32) (v2 : Int32) : Int32 → Option ((Int32) ⊕ ((Int32) ⊕ (Unit))) := fun v3 =>
  if s_range_peaks ≤ v3 then
    some (.inr (.inr ()))
  else
    if ((v2 >>> (v3 &&& 31)) &&& (1 : Int32)) = 0 then
      jX4_lowestGuideFor_26 s_now_cells s_ways v1 v2 v3 (1 : Int32)
    else
      jX4_lowestGuideFor_26 s_now_cells s_ways v1 v2 v3 (0 : Int32)
def fX4_lowestGuideFor (s_range_peaks : Int32) (s_now_cells : Nat → Int32) (s_ways : Nat → Int32) (v1 : Int32) (v2 : Int32) : Option (Int32) :=
  (sx_it 1000 (bX4_lowestGuideFor_2 s_range_peaks s_now_cells s_ways v1 v2) (0 : Int32)).bind fun y3 => match y3 with
    | .inl w4 =>
      some w4
    | .inr (_) =>
      some (-4 : Int32)
set_option maxHeartbeats 4000000 in
set_option maxRecDepth 100000 in
theorem lX4_lowestGuideFor_2 (d : sx_D) (κ : sx_C) (a : Nat → Nat) (s_saidOn : Int32) (s_saidOff : Int32) (s_saidCount : Int32) (s_range_peaks : Int32) (s_range_windsTold : Int32) (s_now_cells : Nat → Int32) (s_ways : Nat → Int32) (v1 : Int32) (v2 : Int32) (X : sx_X d κ cX4_lowestGuideFor 5 RX4 (sx_rm 4)) (y : (Int32) ⊕ (Unit)) (hE55 : ∀ (v3 : Int32), (.inl v3) = y → sx_G d κ 5 0 0 55 [none, none, none, some (.int v3), none] [] [oX4 a s_saidOn s_saidOff s_saidCount, oX1 (a 10) (a 11) (a 12) (a 13) s_range_peaks s_range_windsTold, oX3 (a 14) (a 15), ai d (a 15) 42 s_now_cells, ai d (a 24) 64 s_ways]) (hE63 : (.inr ()) = y → sx_G d κ 5 0 0 63 [none, none, none, none, none] [] [oX4 a s_saidOn s_saidOff s_saidCount, oX1 (a 10) (a 11) (a 12) (a 13) s_range_peaks s_range_windsTold, oX3 (a 14) (a 15), ai d (a 15) 42 s_now_cells, ai d (a 24) 64 s_ways]) : ∀ (n : Nat) (v3 : Int32), sx_it n (bX4_lowestGuideFor_2 s_range_peaks s_now_cells s_ways v1 v2) v3 = some y → sx_G d κ 5 0 0 2 [some (.ref (a 0)), some (.int v1), some (.int v2), some (.int v3), none] [] [oX4 a s_saidOn s_saidOff s_saidCount, oX1 (a 10) (a 11) (a 12) (a 13) s_range_peaks s_range_windsTold, oX3 (a 14) (a 15), ai d (a 15) 42 s_now_cells, ai d (a 24) 64 s_ways] := by
  refine sx_it_run (bX4_lowestGuideFor_2 s_range_peaks s_now_cells s_ways v1 v2) (fun v3 => sx_G d κ 5 0 0 2 [some (.ref (a 0)), some (.int v1), some (.int v2), some (.int v3), none] [] [oX4 a s_saidOn s_saidOff s_saidCount, oX1 (a 10) (a 11) (a 12) (a 13) s_range_peaks s_range_windsTold, oX3 (a 14) (a 15), ai d (a 15) 42 s_now_cells, ai d (a 24) 64 s_ways]) y ?_
  rintro v3 x hf hb he
  show sx_G d κ 5 0 0 2 [some (.ref (a 0)), some (.int v1), some (.int v2), some (.int v3), none] [] [oX4 a s_saidOn s_saidOff s_saidCount, oX1 (a 10) (a 11) (a 12) (a 13) s_range_peaks s_range_windsTold, oX3 (a 14) (a 15), ai d (a 15) 42 s_now_cells, ai d (a 24) 64 s_ways]
  unfold bX4_lowestGuideFor_2 at hf
  refine g_iload_n (pc' := 3) X dX4_lowestGuideFor_2 rfl rfl rfl ?_
  refine g_aload_n (pc' := 4) X dX4_lowestGuideFor_3 rfl rfl rfl ?_
  refine g_get (pc' := 7) X fl_X4_19 dX4_lowestGuideFor_4 rfl 0 rfl rfl ?_
  refine g_get (pc' := 10) X fl_X4_80 dX4_lowestGuideFor_7 rfl 1 rfl rfl ?_
  refine g_icmp_ge (tgt := 63) (pc' := 13) X dX4_lowestGuideFor_10 (by decide) rfl hf (fun hf => ?_) (fun hf => ?_)
  · exact sx_weak [false, false, false, false, true] rfl (hE63  (sx_ex hf he))
  · refine g_iload_n (pc' := 14) X dX4_lowestGuideFor_13 rfl rfl rfl ?_
    refine g_iload_n (pc' := 15) X dX4_lowestGuideFor_14 rfl rfl rfl ?_
    refine g_ishr (pc' := 16) X dX4_lowestGuideFor_15 rfl ?_
    refine g_iconst (v := 1) (pc' := 17) X dX4_lowestGuideFor_16 rfl (by decide) ?_
    refine g_iand (pc' := 18) X dX4_lowestGuideFor_17 rfl ?_
    have hjX4_lowestGuideFor_26 : ∀ (v3 : Int32) (t0 : Int32), jX4_lowestGuideFor_26 s_now_cells s_ways v1 v2 v3 t0 = some x → sx_G d κ 5 0 0 26 [some (.ref (a 0)), some (.int v1), some (.int v2), some (.int v3), none] [.int t0] [oX4 a s_saidOn s_saidOff s_saidCount, oX1 (a 10) (a 11) (a 12) (a 13) s_range_peaks s_range_windsTold, oX3 (a 14) (a 15), ai d (a 15) 42 s_now_cells, ai d (a 24) 64 s_ways] := by
      intro v3 t0 hf
      unfold jX4_lowestGuideFor_26 at hf
      refine g_istore (lv' := [some (.ref (a 0)), some (.int v1), some (.int v2), some (.int v3), some (.int t0)]) (pc' := 28) X dX4_lowestGuideFor_26 rfl (by decide) rfl rfl ?_
      refine g_iload (pc' := 30) X dX4_lowestGuideFor_28 rfl rfl ?_
      refine g_if_eq (tgt := 57) (pc' := 33) X dX4_lowestGuideFor_30 (by decide) rfl hf (fun hf => ?_) (fun hf => ?_)
      · refine g_iinc (v := 1) (lv' := [some (.ref (a 0)), some (.int v1), some (.int v2), some (.int (v3 + (1 : Int32))), some (.int t0)]) (pc' := 60) X dX4_lowestGuideFor_57 rfl rfl (by decide) (by decide) rfl rfl ?_
        refine g_goto (tgt := 2) X dX4_lowestGuideFor_60 (by decide) ?_
        have hk := sx_bk hf hb
        exact sx_weak [true, true, true, true, false] rfl hk
      · refine g_aload_n (pc' := 34) X dX4_lowestGuideFor_33 rfl rfl rfl ?_
        refine g_iload_n (pc' := 35) X dX4_lowestGuideFor_34 rfl rfl rfl ?_
        refine g_iload_n (pc' := 36) X dX4_lowestGuideFor_35 rfl rfl rfl ?_
        refine g_callVi0 (pc' := 39) (As := [.int v1, .int v3]) (b := (a 0)) (st := []) (w2 := fun x1 => [oX4 a s_saidOn s_saidOff s_saidCount, oX1 (a 10) (a 11) (a 12) (a 13) s_range_peaks s_range_windsTold, oX3 (a 14) (a 15), ai d (a 15) 42 s_now_cells, ai d (a 24) 64 s_ways]) X lk_X4_291 dX4_lowestGuideFor_36 rfl rfl rfl (Nat.le_of_ble_eq_true rfl) ⟨Nat.le_of_ble_eq_true rfl, Nat.le_of_ble_eq_true rfl, Nat.le_of_ble_eq_true rfl, Nat.le_of_ble_eq_true rfl⟩ rfl [0, 2, 3] (by decide) rfl hf (fun l x1 h => ctX4_fitsGuideOf l d a s_saidOn s_saidOff s_saidCount s_now_cells v1 v3 x1 h) (fun _ => rfl) (fun _ => rfl) (fun x1 hnx1 hf => ?_)
        refine g_if_eq (tgt := 57) (pc' := 42) X dX4_lowestGuideFor_39 (by decide) rfl hf (fun hf => ?_) (fun hf => ?_)
        · refine g_iinc (v := 1) (lv' := [some (.ref (a 0)), some (.int v1), some (.int v2), some (.int (v3 + (1 : Int32))), some (.int t0)]) (pc' := 60) X dX4_lowestGuideFor_57 rfl rfl (by decide) (by decide) rfl rfl ?_
          refine g_goto (tgt := 2) X dX4_lowestGuideFor_60 (by decide) ?_
          have hk := sx_bk hf hb
          exact sx_weak [true, true, true, true, false] rfl hk
        · refine g_aload_n (pc' := 43) X dX4_lowestGuideFor_42 rfl rfl rfl ?_
          refine g_get (pc' := 46) X fl_X4_52 dX4_lowestGuideFor_43 rfl 0 rfl rfl ?_
          refine g_iload_n (pc' := 47) X dX4_lowestGuideFor_46 rfl rfl rfl ?_
          refine g_iconst (v := 1) (pc' := 48) X dX4_lowestGuideFor_47 rfl (by decide) ?_
          refine g_iload_n (pc' := 49) X dX4_lowestGuideFor_48 rfl rfl rfl ?_
          refine g_ishl (pc' := 50) X dX4_lowestGuideFor_49 rfl ?_
          refine g_ior (pc' := 51) X dX4_lowestGuideFor_50 rfl ?_
          refine g_iald (pc' := 52) X dX4_lowestGuideFor_51 rfl 4 rfl hf (fun x2 hf => ?_)
          refine g_if_le (tgt := 57) (pc' := 55) X dX4_lowestGuideFor_52 (by decide) rfl hf (fun hf => ?_) (fun hf => ?_)
          · refine g_iinc (v := 1) (lv' := [some (.ref (a 0)), some (.int v1), some (.int v2), some (.int (v3 + (1 : Int32))), some (.int t0)]) (pc' := 60) X dX4_lowestGuideFor_57 rfl rfl (by decide) (by decide) rfl rfl ?_
            refine g_goto (tgt := 2) X dX4_lowestGuideFor_60 (by decide) ?_
            have hk := sx_bk hf hb
            exact sx_weak [true, true, true, true, false] rfl hk
          · exact sx_weak [false, false, false, true, false] rfl (hE55 _ (sx_ex hf he))
    refine g_if_ne (tgt := 25) (pc' := 21) X dX4_lowestGuideFor_18 (by decide) rfl hf (fun hf => ?_) (fun hf => ?_)
    · refine g_iconst (v := 0) (pc' := 26) X dX4_lowestGuideFor_25 rfl (by decide) ?_
      exact sx_weak [true, true, true, true, true] rfl (hjX4_lowestGuideFor_26 v3 (0 : Int32) hf)
    · refine g_iconst (v := 1) (pc' := 22) X dX4_lowestGuideFor_21 rfl (by decide) ?_
      refine g_goto (tgt := 26) X dX4_lowestGuideFor_22 (by decide) ?_
      exact sx_weak [true, true, true, true, true] rfl (hjX4_lowestGuideFor_26 v3 (1 : Int32) hf)
set_option maxHeartbeats 4000000 in
set_option maxRecDepth 100000 in
theorem ctX4_lowestGuideFor (l : Launch) (d : sx_D) (a : Nat → Nat) (s_saidOn : Int32) (s_saidOff : Int32) (s_saidCount : Int32) (s_range_peaks : Int32) (s_range_windsTold : Int32) (s_now_cells : Nat → Int32) (s_ways : Nat → Int32) (v1 : Int32) (v2 : Int32) (r : Int32) (hf : fX4_lowestGuideFor s_range_peaks s_now_cells s_ways v1 v2 = some r) : sx_I l d yX4_lowestGuideFor cX4_lowestGuideFor 5 .int 4 [.ref (a 0), .int v1, .int v2] [oX4 a s_saidOn s_saidOff s_saidCount, oX1 (a 10) (a 11) (a 12) (a 13) s_range_peaks s_range_windsTold, oX3 (a 14) (a 15), ai d (a 15) 42 s_now_cells, ai d (a 24) 64 s_ways] [oX4 a s_saidOn s_saidOff s_saidCount, oX1 (a 10) (a 11) (a 12) (a 13) s_range_peaks s_range_windsTold, oX3 (a 14) (a 15), ai d (a 15) 42 s_now_cells, ai d (a 24) 64 s_ways] r := by
  refine sx_I.intro (lv0 := [some (.ref (a 0)), some (.int v1), some (.int v2), none, none]) (by decide +kernel) (Nat.le_of_ble_eq_true rfl) rfl ?_
  intro κ X hR
  have X : sx_X d κ cX4_lowestGuideFor 5 RX4 (sx_rm 4) := X
  unfold fX4_lowestGuideFor at hf
  refine g_iconst (v := 0) (pc' := 1) X dX4_lowestGuideFor_0 rfl (by decide) ?_
  refine g_istore_n (lv' := [some (.ref (a 0)), some (.int v1), some (.int v2), some (.int (0 : Int32)), none]) (pc' := 2) X dX4_lowestGuideFor_1 rfl rfl (by decide) rfl rfl ?_
  obtain ⟨y3, hy3, hf⟩ := sx_bd hf
  refine sx_weak [true, true, true, true, true] rfl (lX4_lowestGuideFor_2 d κ a s_saidOn s_saidOff s_saidCount s_range_peaks s_range_windsTold s_now_cells s_ways v1 v2 X y3 ?_ ?_ 1000 (0 : Int32) hy3)
  · rintro w4 rfl
    refine g_iload_n (pc' := 56) X dX4_lowestGuideFor_55 rfl rfl rfl ?_
    cases hf
    exact hR _ _ dX4_lowestGuideFor_56 rfl
  · rintro rfl
    refine g_bipush (v := -4) (pc' := 65) X dX4_lowestGuideFor_63 rfl (by decide) ?_
    cases hf
    exact hR _ _ dX4_lowestGuideFor_65 rfl
-- X4_guideInFirstWay
def bX4_guideInFirstWay_8 (s_range_peaks : Int32) (s_now_cells : Nat → Int32) (s_ways : Nat → Int32) (v1 : Int32) : (Int32 × Int32 × Int32) → Option ((Int32 × Int32 × Int32) ⊕ ((Unit) ⊕ (Int32))) := fun (v2, v3, v4) =>
  if v1 < v4 then
    some (.inr (.inr v3))
  else
    (fX4_lowestGuideFor s_range_peaks s_now_cells s_ways v4 v2).bind fun x1 =>
    if x1 = (-4 : Int32) then
      some (.inr (.inl ()))
    else
      sx_lt (v2 ||| ((1 : Int32) <<< (x1 &&& 31))) fun x2 =>
      some (.inl (x2, x1, v4 + (1 : Int32)))
def fX4_guideInFirstWay (s_range_peaks : Int32) (s_now_cells : Nat → Int32) (s_ways : Nat → Int32) (v1 : Int32) : Option (Int32) :=
  (sx_it 1000 (bX4_guideInFirstWay_8 s_range_peaks s_now_cells s_ways v1) ((0 : Int32), (-4 : Int32), (0 : Int32))).bind fun y3 => match y3 with
    | .inl _ =>
      some (-4 : Int32)
    | .inr (w4) =>
      some w4
set_option maxHeartbeats 4000000 in
set_option maxRecDepth 100000 in
theorem lX4_guideInFirstWay_8 (d : sx_D) (κ : sx_C) (a : Nat → Nat) (s_saidOn : Int32) (s_saidOff : Int32) (s_saidCount : Int32) (s_range_peaks : Int32) (s_range_windsTold : Int32) (s_now_cells : Nat → Int32) (s_ways : Nat → Int32) (v1 : Int32) (X : sx_X d κ cX4_guideInFirstWay 5 RX4 (sx_rm 5)) (y : (Unit) ⊕ (Int32)) (hE28 : (.inl ()) = y → sx_G d κ 5 0 0 28 [none, none, none, none, none] [] [oX4 a s_saidOn s_saidOff s_saidCount, oX1 (a 10) (a 11) (a 12) (a 13) s_range_peaks s_range_windsTold, oX3 (a 14) (a 15), ai d (a 15) 42 s_now_cells, ai d (a 24) 64 s_ways]) (hE43 : ∀ (v3 : Int32), (.inr v3) = y → sx_G d κ 5 0 0 43 [none, none, none, some (.int v3), none] [] [oX4 a s_saidOn s_saidOff s_saidCount, oX1 (a 10) (a 11) (a 12) (a 13) s_range_peaks s_range_windsTold, oX3 (a 14) (a 15), ai d (a 15) 42 s_now_cells, ai d (a 24) 64 s_ways]) : ∀ (n : Nat) (s : Int32 × Int32 × Int32), sx_it n (bX4_guideInFirstWay_8 s_range_peaks s_now_cells s_ways v1) s = some y → (match s with | (v2, v3, v4) => sx_G d κ 5 0 0 8 [some (.ref (a 0)), some (.int v1), some (.int v2), some (.int v3), some (.int v4)] [] [oX4 a s_saidOn s_saidOff s_saidCount, oX1 (a 10) (a 11) (a 12) (a 13) s_range_peaks s_range_windsTold, oX3 (a 14) (a 15), ai d (a 15) 42 s_now_cells, ai d (a 24) 64 s_ways]) := by
  refine sx_it_run (bX4_guideInFirstWay_8 s_range_peaks s_now_cells s_ways v1) (fun s => match s with | (v2, v3, v4) => sx_G d κ 5 0 0 8 [some (.ref (a 0)), some (.int v1), some (.int v2), some (.int v3), some (.int v4)] [] [oX4 a s_saidOn s_saidOff s_saidCount, oX1 (a 10) (a 11) (a 12) (a 13) s_range_peaks s_range_windsTold, oX3 (a 14) (a 15), ai d (a 15) 42 s_now_cells, ai d (a 24) 64 s_ways]) y ?_
  rintro ⟨v2, v3, v4⟩ x hf hb he
  show sx_G d κ 5 0 0 8 [some (.ref (a 0)), some (.int v1), some (.int v2), some (.int v3), some (.int v4)] [] [oX4 a s_saidOn s_saidOff s_saidCount, oX1 (a 10) (a 11) (a 12) (a 13) s_range_peaks s_range_windsTold, oX3 (a 14) (a 15), ai d (a 15) 42 s_now_cells, ai d (a 24) 64 s_ways]
  unfold bX4_guideInFirstWay_8 at hf
  refine g_iload (pc' := 10) X dX4_guideInFirstWay_8 rfl rfl ?_
  refine g_iload_n (pc' := 11) X dX4_guideInFirstWay_10 rfl rfl rfl ?_
  refine g_icmp_gt (tgt := 43) (pc' := 14) X dX4_guideInFirstWay_11 (by decide) rfl hf (fun hf => ?_) (fun hf => ?_)
  · exact sx_weak [false, false, false, true, false] rfl (hE43 _ (sx_ex hf he))
  · refine g_aload_n (pc' := 15) X dX4_guideInFirstWay_14 rfl rfl rfl ?_
    refine g_iload (pc' := 17) X dX4_guideInFirstWay_15 rfl rfl ?_
    refine g_iload_n (pc' := 18) X dX4_guideInFirstWay_17 rfl rfl rfl ?_
    refine g_callVi0 (pc' := 21) (As := [.int v4, .int v2]) (b := (a 0)) (st := []) (w2 := fun x1 => [oX4 a s_saidOn s_saidOff s_saidCount, oX1 (a 10) (a 11) (a 12) (a 13) s_range_peaks s_range_windsTold, oX3 (a 14) (a 15), ai d (a 15) 42 s_now_cells, ai d (a 24) 64 s_ways]) X lk_X4_294 dX4_guideInFirstWay_18 rfl rfl rfl (Nat.le_of_ble_eq_true rfl) ⟨Nat.le_of_ble_eq_true rfl, Nat.le_of_ble_eq_true rfl, Nat.le_of_ble_eq_true rfl, Nat.le_of_ble_eq_true rfl⟩ rfl [0, 1, 2, 3, 4] (by decide) rfl hf (fun l x1 h => ctX4_lowestGuideFor l d a s_saidOn s_saidOff s_saidCount s_range_peaks s_range_windsTold s_now_cells s_ways v4 v2 x1 h) (fun _ => rfl) (fun _ => rfl) (fun x1 hnx1 hf => ?_)
    refine g_istore_n (lv' := [some (.ref (a 0)), some (.int v1), some (.int v2), some (.int x1), some (.int v4)]) (pc' := 22) X dX4_guideInFirstWay_21 rfl rfl (by decide) rfl rfl ?_
    refine g_iload_n (pc' := 23) X dX4_guideInFirstWay_22 rfl rfl rfl ?_
    refine g_bipush (v := -4) (pc' := 25) X dX4_guideInFirstWay_23 rfl (by decide) ?_
    refine g_icmp_ne (tgt := 31) (pc' := 28) X dX4_guideInFirstWay_25 (by decide) rfl hf (fun hf => ?_) (fun hf => ?_)
    · refine g_iload_n (pc' := 32) X dX4_guideInFirstWay_31 rfl rfl rfl ?_
      refine g_iconst (v := 1) (pc' := 33) X dX4_guideInFirstWay_32 rfl (by decide) ?_
      refine g_iload_n (pc' := 34) X dX4_guideInFirstWay_33 rfl rfl rfl ?_
      refine g_ishl (pc' := 35) X dX4_guideInFirstWay_34 rfl ?_
      refine g_ior (pc' := 36) X dX4_guideInFirstWay_35 rfl ?_
      refine g_istore_nN (lv' := fun x2 => [some (.ref (a 0)), some (.int v1), some (.int x2), some (.int x1), some (.int v4)]) (pc' := 37) X dX4_guideInFirstWay_36 rfl rfl (by decide) rfl (fun _ => rfl) hf (fun x2 hf => ?_)
      refine g_iinc (v := 1) (lv' := [some (.ref (a 0)), some (.int v1), some (.int x2), some (.int x1), some (.int (v4 + (1 : Int32)))]) (pc' := 40) X dX4_guideInFirstWay_37 rfl rfl (by decide) (by decide) rfl rfl ?_
      refine g_goto (tgt := 8) X dX4_guideInFirstWay_40 (by decide) ?_
      have hk := sx_bk hf hb
      exact sx_weak [true, true, true, true, true] rfl hk
    · exact sx_weak [false, false, false, false, false] rfl (hE28  (sx_ex hf he))
set_option maxHeartbeats 4000000 in
set_option maxRecDepth 100000 in
theorem ctX4_guideInFirstWay (l : Launch) (d : sx_D) (a : Nat → Nat) (s_saidOn : Int32) (s_saidOff : Int32) (s_saidCount : Int32) (s_range_peaks : Int32) (s_range_windsTold : Int32) (s_now_cells : Nat → Int32) (s_ways : Nat → Int32) (v1 : Int32) (r : Int32) (hf : fX4_guideInFirstWay s_range_peaks s_now_cells s_ways v1 = some r) : sx_I l d yX4_guideInFirstWay cX4_guideInFirstWay 5 .int 5 [.ref (a 0), .int v1] [oX4 a s_saidOn s_saidOff s_saidCount, oX1 (a 10) (a 11) (a 12) (a 13) s_range_peaks s_range_windsTold, oX3 (a 14) (a 15), ai d (a 15) 42 s_now_cells, ai d (a 24) 64 s_ways] [oX4 a s_saidOn s_saidOff s_saidCount, oX1 (a 10) (a 11) (a 12) (a 13) s_range_peaks s_range_windsTold, oX3 (a 14) (a 15), ai d (a 15) 42 s_now_cells, ai d (a 24) 64 s_ways] r := by
  refine sx_I.intro (lv0 := [some (.ref (a 0)), some (.int v1), none, none, none]) (by decide +kernel) (Nat.le_of_ble_eq_true rfl) rfl ?_
  intro κ X hR
  have X : sx_X d κ cX4_guideInFirstWay 5 RX4 (sx_rm 5) := X
  unfold fX4_guideInFirstWay at hf
  refine g_iconst (v := 0) (pc' := 1) X dX4_guideInFirstWay_0 rfl (by decide) ?_
  refine g_istore_n (lv' := [some (.ref (a 0)), some (.int v1), some (.int (0 : Int32)), none, none]) (pc' := 2) X dX4_guideInFirstWay_1 rfl rfl (by decide) rfl rfl ?_
  refine g_bipush (v := -4) (pc' := 4) X dX4_guideInFirstWay_2 rfl (by decide) ?_
  refine g_istore_n (lv' := [some (.ref (a 0)), some (.int v1), some (.int (0 : Int32)), some (.int (-4 : Int32)), none]) (pc' := 5) X dX4_guideInFirstWay_4 rfl rfl (by decide) rfl rfl ?_
  refine g_iconst (v := 0) (pc' := 6) X dX4_guideInFirstWay_5 rfl (by decide) ?_
  refine g_istore (lv' := [some (.ref (a 0)), some (.int v1), some (.int (0 : Int32)), some (.int (-4 : Int32)), some (.int (0 : Int32))]) (pc' := 8) X dX4_guideInFirstWay_6 rfl (by decide) rfl rfl ?_
  obtain ⟨y3, hy3, hf⟩ := sx_bd hf
  refine sx_weak [true, true, true, true, true] rfl (lX4_guideInFirstWay_8 d κ a s_saidOn s_saidOff s_saidCount s_range_peaks s_range_windsTold s_now_cells s_ways v1 X y3 ?_ ?_ 1000 ((0 : Int32), (-4 : Int32), (0 : Int32)) hy3)
  · rintro rfl
    refine g_bipush (v := -4) (pc' := 30) X dX4_guideInFirstWay_28 rfl (by decide) ?_
    cases hf
    exact hR _ _ dX4_guideInFirstWay_30 rfl
  · rintro w4 rfl
    refine g_iload_n (pc' := 44) X dX4_guideInFirstWay_43 rfl rfl rfl ?_
    cases hf
    exact hR _ _ dX4_guideInFirstWay_44 rfl
-- X4_match
def jX4_match_18 (s_range_peaks : Int32) (s_now_cells : Nat → Int32) (s_ways : Nat → Int32) (v1 : Int32) : Option (Int32 × (Nat → Int32)) :=
  (fX4_countWays s_range_peaks s_now_cells s_ways).bind fun o1 =>
  if v1 = (-1 : Int32) then
    sx_rd o1 64 (0 : Int32) fun x4 =>
    some (x4, o1)
  else
    sx_rd o1 64 (0 : Int32) fun x2 =>
    if x2 = 0 then
      some ((-4 : Int32), o1)
    else
      (fX4_guideInFirstWay s_range_peaks s_now_cells o1 v1).bind fun x3 =>
      some (x3, o1)
def fX4_match (s_range_peaks : Int32) (s_now_cells : Nat → Int32) (s_ways : Nat → Int32) (v1 : Int32) : Option (Int32 × (Nat → Int32)) :=
  if v1 = (-1 : Int32) then
    jX4_match_18 s_range_peaks s_now_cells s_ways v1
  else
    (fX1_isPeak s_range_peaks v1).bind fun x5 =>
    if x5 = 0 then
      some ((-1 : Int32), s_ways)
    else
      jX4_match_18 s_range_peaks s_now_cells s_ways v1
set_option maxHeartbeats 4000000 in
set_option maxRecDepth 100000 in
theorem ctX4_match (l : Launch) (d : sx_D) (a : Nat → Nat) (s_saidOn : Int32) (s_saidOff : Int32) (s_saidCount : Int32) (s_range_peaks : Int32) (s_range_windsTold : Int32) (s_now_cells : Nat → Int32) (s_ways : Nat → Int32) (v1 : Int32) (r : Int32) (ro1 : Nat → Int32) (hf : fX4_match s_range_peaks s_now_cells s_ways v1 = some (r, ro1)) : sx_I l d yX4_match cX4_match 2 .int 6 [.ref (a 0), .int v1] [oX4 a s_saidOn s_saidOff s_saidCount, oX1 (a 10) (a 11) (a 12) (a 13) s_range_peaks s_range_windsTold, oX3 (a 14) (a 15), ai d (a 15) 42 s_now_cells, ai d (a 24) 64 s_ways] [oX4 a s_saidOn s_saidOff s_saidCount, oX1 (a 10) (a 11) (a 12) (a 13) s_range_peaks s_range_windsTold, oX3 (a 14) (a 15), ai d (a 15) 42 s_now_cells, ai d (a 24) 64 ro1] r := by
  refine sx_I.intro (lv0 := [some (.ref (a 0)), some (.int v1)]) (by decide +kernel) (Nat.le_of_ble_eq_true rfl) rfl ?_
  intro κ X hR
  have X : sx_X d κ cX4_match 2 RX4 (sx_rm 6) := X
  unfold fX4_match at hf
  refine g_iload_n (pc' := 1) X dX4_match_0 rfl rfl rfl ?_
  refine g_iconst (v := -1) (pc' := 2) X dX4_match_1 rfl (by decide) ?_
  have hjX4_match_18 : ∀ (v1 : Int32) (s_ways : Nat → Int32), jX4_match_18 s_range_peaks s_now_cells s_ways v1 = some (r, ro1) → sx_G d κ 2 0 0 18 [some (.ref (a 0)), some (.int v1)] [] [oX4 a s_saidOn s_saidOff s_saidCount, oX1 (a 10) (a 11) (a 12) (a 13) s_range_peaks s_range_windsTold, oX3 (a 14) (a 15), ai d (a 15) 42 s_now_cells, ai d (a 24) 64 s_ways] := by
    intro v1 s_ways hf
    unfold jX4_match_18 at hf
    refine g_aload_n (pc' := 19) X dX4_match_18 rfl rfl rfl ?_
    refine g_callVv1 (pc' := 22) (As := []) (b := (a 0)) (st := []) (w2 := fun o1 => [oX4 a s_saidOn s_saidOff s_saidCount, oX1 (a 10) (a 11) (a 12) (a 13) s_range_peaks s_range_windsTold, oX3 (a 14) (a 15), ai d (a 15) 42 s_now_cells, ai d (a 24) 64 o1]) X lk_X4_218 dX4_match_19 rfl rfl rfl (Nat.le_of_ble_eq_true rfl) ⟨Nat.le_of_ble_eq_true rfl, Nat.le_of_ble_eq_true rfl, Nat.le_of_ble_eq_true rfl, Nat.le_of_ble_eq_true rfl⟩ rfl [0, 1, 2, 3, 4] (by decide) rfl hf (fun l o1 h => ctX4_countWays l d a s_saidOn s_saidOff s_saidCount s_range_peaks s_range_windsTold s_now_cells s_ways o1 h) (fun _ => rfl) (fun _ => rfl) (fun o1 hf => ?_)
    refine g_iload_n (pc' := 23) X dX4_match_22 rfl rfl rfl ?_
    refine g_iconst (v := -1) (pc' := 24) X dX4_match_23 rfl (by decide) ?_
    refine g_icmp_ne (tgt := 34) (pc' := 27) X dX4_match_24 (by decide) rfl hf (fun hf => ?_) (fun hf => ?_)
    · refine g_aload_n (pc' := 35) X dX4_match_34 rfl rfl rfl ?_
      refine g_get (pc' := 38) X fl_X4_52 dX4_match_35 rfl 0 rfl rfl ?_
      refine g_iconst (v := 0) (pc' := 39) X dX4_match_38 rfl (by decide) ?_
      refine g_iald (pc' := 40) X dX4_match_39 rfl 4 rfl hf (fun x2 hf => ?_)
      refine g_if_ne (tgt := 48) (pc' := 43) X dX4_match_40 (by decide) rfl hf (fun hf => ?_) (fun hf => ?_)
      · refine g_aload_n (pc' := 49) X dX4_match_48 rfl rfl rfl ?_
        refine g_iload_n (pc' := 50) X dX4_match_49 rfl rfl rfl ?_
        refine g_callVi0 (pc' := 53) (As := [.int v1]) (b := (a 0)) (st := []) (w2 := fun x3 => [oX4 a s_saidOn s_saidOff s_saidCount, oX1 (a 10) (a 11) (a 12) (a 13) s_range_peaks s_range_windsTold, oX3 (a 14) (a 15), ai d (a 15) 42 s_now_cells, ai d (a 24) 64 o1]) X lk_X4_221 dX4_match_50 rfl rfl rfl (Nat.le_of_ble_eq_true rfl) ⟨Nat.le_of_ble_eq_true rfl, Nat.le_of_ble_eq_true rfl, Nat.le_of_ble_eq_true rfl, Nat.le_of_ble_eq_true rfl⟩ rfl [0, 1, 2, 3, 4] (by decide) rfl hf (fun l x3 h => ctX4_guideInFirstWay l d a s_saidOn s_saidOff s_saidCount s_range_peaks s_range_windsTold s_now_cells o1 v1 x3 h) (fun _ => rfl) (fun _ => rfl) (fun x3 hnx3 hf => ?_)
        cases hf
        exact hR _ _ dX4_match_53 rfl
      · refine g_bipush (v := -4) (pc' := 45) X dX4_match_43 rfl (by decide) ?_
        refine g_goto (tgt := 53) X dX4_match_45 (by decide) ?_
        cases hf
        exact hR _ _ dX4_match_53 rfl
    · refine g_aload_n (pc' := 28) X dX4_match_27 rfl rfl rfl ?_
      refine g_get (pc' := 31) X fl_X4_52 dX4_match_28 rfl 0 rfl rfl ?_
      refine g_iconst (v := 0) (pc' := 32) X dX4_match_31 rfl (by decide) ?_
      refine g_iald (pc' := 33) X dX4_match_32 rfl 4 rfl hf (fun x4 hf => ?_)
      cases hf
      exact hR _ _ dX4_match_33 rfl
  refine g_icmp_eq (tgt := 18) (pc' := 5) X dX4_match_2 (by decide) rfl hf (fun hf => ?_) (fun hf => ?_)
  · exact sx_weak [true, true] rfl (hjX4_match_18 v1 s_ways hf)
  · refine g_aload_n (pc' := 6) X dX4_match_5 rfl rfl rfl ?_
    refine g_get (pc' := 9) X fl_X4_19 dX4_match_6 rfl 0 rfl rfl ?_
    refine g_iload_n (pc' := 10) X dX4_match_9 rfl rfl rfl ?_
    refine g_callVi0 (pc' := 13) (As := [.int v1]) (b := (a 10)) (st := []) (w2 := fun x5 => [oX4 a s_saidOn s_saidOff s_saidCount, oX1 (a 10) (a 11) (a 12) (a 13) s_range_peaks s_range_windsTold, oX3 (a 14) (a 15), ai d (a 15) 42 s_now_cells, ai d (a 24) 64 s_ways]) X lk_X4_83 dX4_match_10 rfl rfl rfl (Nat.le_of_ble_eq_true rfl) ⟨Nat.le_of_ble_eq_true rfl, Nat.le_of_ble_eq_true rfl, Nat.le_of_ble_eq_true rfl, Nat.le_of_ble_eq_true rfl⟩ rfl [1] (by decide) rfl hf (fun l x5 h => ctX1_isPeak l d (a 10) (a 11) (a 12) (a 13) s_range_peaks s_range_windsTold v1 x5 h) (fun _ => rfl) (fun _ => rfl) (fun x5 hnx5 hf => ?_)
    refine g_if_ne (tgt := 18) (pc' := 16) X dX4_match_13 (by decide) rfl hf (fun hf => ?_) (fun hf => ?_)
    · exact sx_weak [true, true] rfl (hjX4_match_18 v1 s_ways hf)
    · refine g_iconst (v := -1) (pc' := 17) X dX4_match_16 rfl (by decide) ?_
      cases hf
      exact hR _ _ dX4_match_17 rfl
-- X4_inLowestTerms
def jX4_inLowestTerms_37 (v3 : Int32) (v4 : Int32) (v5 : Int32) : Option ((Int32 × Int32 × Int32) ⊕ (Int32)) :=
  if (v3 - v3 / (5 : Int32) * (5 : Int32)) = 0 then
    if (v4 - v4 / (5 : Int32) * (5 : Int32)) = 0 then
      sx_lt (v3 / (5 : Int32)) fun x1 =>
      sx_lt (v4 / (5 : Int32)) fun x2 =>
      some (.inl (x1, x2, v5 + (1 : Int32)))
    else
      some (.inl (v3, v4, v5 + (1 : Int32)))
  else
    some (.inl (v3, v4, v5 + (1 : Int32)))
def bX4_inLowestTerms_8 (v2 : Int32) : (Int32 × Int32 × Int32) → Option ((Int32 × Int32 × Int32) ⊕ (Int32)) := fun (v3, v4, v5) =>
  if v2 ≤ v5 then
    some (.inr v3)
  else
    if (v3 - v3 / (2 : Int32) * (2 : Int32)) = 0 then
      if (v4 - v4 / (2 : Int32) * (2 : Int32)) = 0 then
        sx_lt (v3 / (2 : Int32)) fun x3 =>
        sx_lt (v4 / (2 : Int32)) fun x4 =>
        jX4_inLowestTerms_37 x3 x4 v5
      else
        jX4_inLowestTerms_37 v3 v4 v5
    else
      jX4_inLowestTerms_37 v3 v4 v5
def fX4_inLowestTerms (v0 : Int32) (v1 : Int32) (v2 : Int32) : Option (Int32) :=
  (sx_it 1000 (bX4_inLowestTerms_8 v2) (v0, v1, (0 : Int32))).bind fun w6 =>
  some w6
set_option maxHeartbeats 4000000 in
set_option maxRecDepth 100000 in
theorem lX4_inLowestTerms_8 (d : sx_D) (κ : sx_C) (v2 : Int32) (X : sx_X d κ cX4_inLowestTerms 6 RX4 (sx_rm 0)) (y : Int32) (hE66 : ∀ (v3 : Int32), v3 = y → sx_G d κ 6 0 0 66 [none, none, none, some (.int v3), none, none] [] []) : ∀ (n : Nat) (s : Int32 × Int32 × Int32), sx_it n (bX4_inLowestTerms_8 v2) s = some y → (match s with | (v3, v4, v5) => sx_G d κ 6 0 0 8 [none, none, some (.int v2), some (.int v3), some (.int v4), some (.int v5)] [] []) := by
  refine sx_it_run (bX4_inLowestTerms_8 v2) (fun s => match s with | (v3, v4, v5) => sx_G d κ 6 0 0 8 [none, none, some (.int v2), some (.int v3), some (.int v4), some (.int v5)] [] []) y ?_
  rintro ⟨v3, v4, v5⟩ x hf hb he
  show sx_G d κ 6 0 0 8 [none, none, some (.int v2), some (.int v3), some (.int v4), some (.int v5)] [] []
  unfold bX4_inLowestTerms_8 at hf
  refine g_iload (pc' := 10) X dX4_inLowestTerms_8 rfl rfl ?_
  refine g_iload_n (pc' := 11) X dX4_inLowestTerms_10 rfl rfl rfl ?_
  refine g_icmp_ge (tgt := 66) (pc' := 14) X dX4_inLowestTerms_11 (by decide) rfl hf (fun hf => ?_) (fun hf => ?_)
  · exact sx_weak [true, true, false, true, false, false] rfl (hE66 _ (sx_ex hf he))
  · refine g_iload_n (pc' := 15) X dX4_inLowestTerms_14 rfl rfl rfl ?_
    refine g_iconst (v := 2) (pc' := 16) X dX4_inLowestTerms_15 rfl (by decide) ?_
    refine g_irem (pc' := 17) X dX4_inLowestTerms_16 rfl (by decide) ?_
    have hjX4_inLowestTerms_37 : ∀ (v3 : Int32) (v4 : Int32) (v5 : Int32), jX4_inLowestTerms_37 v3 v4 v5 = some x → sx_G d κ 6 0 0 37 [none, none, some (.int v2), some (.int v3), some (.int v4), some (.int v5)] [] [] := by
      intro v3 v4 v5 hf
      unfold jX4_inLowestTerms_37 at hf
      refine g_iload_n (pc' := 38) X dX4_inLowestTerms_37 rfl rfl rfl ?_
      refine g_iconst (v := 5) (pc' := 39) X dX4_inLowestTerms_38 rfl (by decide) ?_
      refine g_irem (pc' := 40) X dX4_inLowestTerms_39 rfl (by decide) ?_
      refine g_if_ne (tgt := 60) (pc' := 43) X dX4_inLowestTerms_40 (by decide) rfl hf (fun hf => ?_) (fun hf => ?_)
      · refine g_iinc (v := 1) (lv' := [none, none, some (.int v2), some (.int v3), some (.int v4), some (.int (v5 + (1 : Int32)))]) (pc' := 63) X dX4_inLowestTerms_60 rfl rfl (by decide) (by decide) rfl rfl ?_
        refine g_goto (tgt := 8) X dX4_inLowestTerms_63 (by decide) ?_
        have hk := sx_bk hf hb
        exact sx_weak [true, true, true, true, true, true] rfl hk
      · refine g_iload (pc' := 45) X dX4_inLowestTerms_43 rfl rfl ?_
        refine g_iconst (v := 5) (pc' := 46) X dX4_inLowestTerms_45 rfl (by decide) ?_
        refine g_irem (pc' := 47) X dX4_inLowestTerms_46 rfl (by decide) ?_
        refine g_if_ne (tgt := 60) (pc' := 50) X dX4_inLowestTerms_47 (by decide) rfl hf (fun hf => ?_) (fun hf => ?_)
        · refine g_iinc (v := 1) (lv' := [none, none, some (.int v2), some (.int v3), some (.int v4), some (.int (v5 + (1 : Int32)))]) (pc' := 63) X dX4_inLowestTerms_60 rfl rfl (by decide) (by decide) rfl rfl ?_
          refine g_goto (tgt := 8) X dX4_inLowestTerms_63 (by decide) ?_
          have hk := sx_bk hf hb
          exact sx_weak [true, true, true, true, true, true] rfl hk
        · refine g_iload_n (pc' := 51) X dX4_inLowestTerms_50 rfl rfl rfl ?_
          refine g_iconst (v := 5) (pc' := 52) X dX4_inLowestTerms_51 rfl (by decide) ?_
          refine g_idiv (pc' := 53) X dX4_inLowestTerms_52 rfl (by decide) ?_
          refine g_istore_nN (lv' := fun x1 => [none, none, some (.int v2), some (.int x1), some (.int v4), some (.int v5)]) (pc' := 54) X dX4_inLowestTerms_53 rfl rfl (by decide) rfl (fun _ => rfl) hf (fun x1 hf => ?_)
          refine g_iload (pc' := 56) X dX4_inLowestTerms_54 rfl rfl ?_
          refine g_iconst (v := 5) (pc' := 57) X dX4_inLowestTerms_56 rfl (by decide) ?_
          refine g_idiv (pc' := 58) X dX4_inLowestTerms_57 rfl (by decide) ?_
          refine g_istoreN (lv' := fun x2 => [none, none, some (.int v2), some (.int x1), some (.int x2), some (.int v5)]) (pc' := 60) X dX4_inLowestTerms_58 rfl (by decide) rfl (fun _ => rfl) hf (fun x2 hf => ?_)
          refine g_iinc (v := 1) (lv' := [none, none, some (.int v2), some (.int x1), some (.int x2), some (.int (v5 + (1 : Int32)))]) (pc' := 63) X dX4_inLowestTerms_60 rfl rfl (by decide) (by decide) rfl rfl ?_
          refine g_goto (tgt := 8) X dX4_inLowestTerms_63 (by decide) ?_
          have hk := sx_bk hf hb
          exact sx_weak [true, true, true, true, true, true] rfl hk
    refine g_if_ne (tgt := 37) (pc' := 20) X dX4_inLowestTerms_17 (by decide) rfl hf (fun hf => ?_) (fun hf => ?_)
    · exact sx_weak [true, true, true, true, true, true] rfl (hjX4_inLowestTerms_37 v3 v4 v5 hf)
    · refine g_iload (pc' := 22) X dX4_inLowestTerms_20 rfl rfl ?_
      refine g_iconst (v := 2) (pc' := 23) X dX4_inLowestTerms_22 rfl (by decide) ?_
      refine g_irem (pc' := 24) X dX4_inLowestTerms_23 rfl (by decide) ?_
      refine g_if_ne (tgt := 37) (pc' := 27) X dX4_inLowestTerms_24 (by decide) rfl hf (fun hf => ?_) (fun hf => ?_)
      · exact sx_weak [true, true, true, true, true, true] rfl (hjX4_inLowestTerms_37 v3 v4 v5 hf)
      · refine g_iload_n (pc' := 28) X dX4_inLowestTerms_27 rfl rfl rfl ?_
        refine g_iconst (v := 2) (pc' := 29) X dX4_inLowestTerms_28 rfl (by decide) ?_
        refine g_idiv (pc' := 30) X dX4_inLowestTerms_29 rfl (by decide) ?_
        refine g_istore_nN (lv' := fun x3 => [none, none, some (.int v2), some (.int x3), some (.int v4), some (.int v5)]) (pc' := 31) X dX4_inLowestTerms_30 rfl rfl (by decide) rfl (fun _ => rfl) hf (fun x3 hf => ?_)
        refine g_iload (pc' := 33) X dX4_inLowestTerms_31 rfl rfl ?_
        refine g_iconst (v := 2) (pc' := 34) X dX4_inLowestTerms_33 rfl (by decide) ?_
        refine g_idiv (pc' := 35) X dX4_inLowestTerms_34 rfl (by decide) ?_
        refine g_istoreN (lv' := fun x4 => [none, none, some (.int v2), some (.int x3), some (.int x4), some (.int v5)]) (pc' := 37) X dX4_inLowestTerms_35 rfl (by decide) rfl (fun _ => rfl) hf (fun x4 hf => ?_)
        exact sx_weak [true, true, true, true, true, true] rfl (hjX4_inLowestTerms_37 x3 x4 v5 hf)
set_option maxHeartbeats 4000000 in
set_option maxRecDepth 100000 in
theorem ctX4_inLowestTerms (l : Launch) (d : sx_D) (v0 : Int32) (v1 : Int32) (v2 : Int32) (r : Int32) (hf : fX4_inLowestTerms v0 v1 v2 = some r) : sx_I l d yX4_inLowestTerms cX4_inLowestTerms 6 .int 0 [.int v0, .int v1, .int v2] [] [] r := by
  refine sx_I.intro (lv0 := [some (.int v0), some (.int v1), some (.int v2), none, none, none]) (by decide +kernel) (Nat.le_of_ble_eq_true rfl) rfl ?_
  intro κ X hR
  have X : sx_X d κ cX4_inLowestTerms 6 RX4 (sx_rm 0) := X
  unfold fX4_inLowestTerms at hf
  refine g_iload_n (pc' := 1) X dX4_inLowestTerms_0 rfl rfl rfl ?_
  refine g_istore_n (lv' := [some (.int v0), some (.int v1), some (.int v2), some (.int v0), none, none]) (pc' := 2) X dX4_inLowestTerms_1 rfl rfl (by decide) rfl rfl ?_
  refine g_iload_n (pc' := 3) X dX4_inLowestTerms_2 rfl rfl rfl ?_
  refine g_istore (lv' := [some (.int v0), some (.int v1), some (.int v2), some (.int v0), some (.int v1), none]) (pc' := 5) X dX4_inLowestTerms_3 rfl (by decide) rfl rfl ?_
  refine g_iconst (v := 0) (pc' := 6) X dX4_inLowestTerms_5 rfl (by decide) ?_
  refine g_istore (lv' := [some (.int v0), some (.int v1), some (.int v2), some (.int v0), some (.int v1), some (.int (0 : Int32))]) (pc' := 8) X dX4_inLowestTerms_6 rfl (by decide) rfl rfl ?_
  obtain ⟨y5, hy5, hf⟩ := sx_bd hf
  refine sx_weak [false, false, true, true, true, true] rfl (lX4_inLowestTerms_8 d κ v2 X y5 ?_ 1000 (v0, v1, (0 : Int32)) hy5)
  rintro w6 rfl
  refine g_iload_n (pc' := 67) X dX4_inLowestTerms_66 rfl rfl rfl ?_
  cases hf
  exact hR _ _ dX4_inLowestTerms_67 rfl
-- X4_blowGust
def fX4_blowGust (s_range_peaks : Int32) (s_range_kinds : Nat → Int32) (s_gusts : Nat → Int32) (v1 : Int32) (v2 : Int32) (v3 : Int32) : Option (Int32 × (Nat → Int32)) :=
  if v1 < 0 then
    some ((0 : Int32), s_gusts)
  else
    if v1 < (8 : Int32) then
      sx_lt ((v1 + (1 : Int32)) * (5 : Int32)) fun x1 =>
      sx_cp s_gusts s_gusts 45 45 (v1 * (5 : Int32)) x1 (5 : Int32) fun g2 =>
      (fX1_forceAt s_range_peaks s_range_kinds v2 v3).bind fun x3 =>
      (fX1_hasGoats s_range_peaks s_range_kinds v2).bind fun x4 =>
      (fX4_weather 45 g2 x1 x3 x4).bind fun o5 =>
      some ((1 : Int32), o5)
    else
      some ((0 : Int32), s_gusts)
set_option maxHeartbeats 4000000 in
set_option maxRecDepth 100000 in
theorem ctX4_blowGust (l : Launch) (d : sx_D) (a : Nat → Nat) (s_saidOn : Int32) (s_saidOff : Int32) (s_saidCount : Int32) (s_range_peaks : Int32) (s_range_windsTold : Int32) (s_range_kinds : Nat → Int32) (s_gusts : Nat → Int32) (v1 : Int32) (v2 : Int32) (v3 : Int32) (r : Int32) (ro1 : Nat → Int32) (hf : fX4_blowGust s_range_peaks s_range_kinds s_gusts v1 v2 v3 = some (r, ro1)) : sx_I l d yX4_blowGust cX4_blowGust 5 .boolean 3 [.ref (a 0), .int v1, .int v2, .int v3] [oX4 a s_saidOn s_saidOff s_saidCount, oX1 (a 10) (a 11) (a 12) (a 13) s_range_peaks s_range_windsTold, ai d (a 11) 6 s_range_kinds, ai d (a 25) 45 s_gusts] [oX4 a s_saidOn s_saidOff s_saidCount, oX1 (a 10) (a 11) (a 12) (a 13) s_range_peaks s_range_windsTold, ai d (a 11) 6 s_range_kinds, ai d (a 25) 45 ro1] r := by
  refine sx_I.intro (lv0 := [some (.ref (a 0)), some (.int v1), some (.int v2), some (.int v3), none]) (by decide +kernel) (Nat.le_of_ble_eq_true rfl) rfl ?_
  intro κ X hR
  have X : sx_X d κ cX4_blowGust 5 RX4 (sx_rm 3) := X
  unfold fX4_blowGust at hf
  refine g_iload_n (pc' := 1) X dX4_blowGust_0 rfl rfl rfl ?_
  refine g_if_lt (tgt := 10) (pc' := 4) X dX4_blowGust_1 (by decide) rfl hf (fun hf => ?_) (fun hf => ?_)
  · refine g_iconst (v := 0) (pc' := 11) X dX4_blowGust_10 rfl (by decide) ?_
    cases hf
    exact hR _ _ dX4_blowGust_11 rfl
  · refine g_iload_n (pc' := 5) X dX4_blowGust_4 rfl rfl rfl ?_
    refine g_bipush (v := 8) (pc' := 7) X dX4_blowGust_5 rfl (by decide) ?_
    refine g_icmp_lt (tgt := 12) (pc' := 10) X dX4_blowGust_7 (by decide) rfl hf (fun hf => ?_) (fun hf => ?_)
    · refine g_iload_n (pc' := 13) X dX4_blowGust_12 rfl rfl rfl ?_
      refine g_iconst (v := 1) (pc' := 14) X dX4_blowGust_13 rfl (by decide) ?_
      refine g_iadd (pc' := 15) X dX4_blowGust_14 rfl ?_
      refine g_iconst (v := 5) (pc' := 16) X dX4_blowGust_15 rfl (by decide) ?_
      refine g_imul (pc' := 17) X dX4_blowGust_16 rfl ?_
      refine g_istoreN (lv' := fun x1 => [some (.ref (a 0)), some (.int v1), some (.int v2), some (.int v3), some (.int x1)]) (pc' := 19) X dX4_blowGust_17 rfl (by decide) rfl (fun _ => rfl) hf (fun x1 hf => ?_)
      refine g_aload_n (pc' := 20) X dX4_blowGust_19 rfl rfl rfl ?_
      refine g_get (pc' := 23) X fl_X4_55 dX4_blowGust_20 rfl 0 rfl rfl ?_
      refine g_iload_n (pc' := 24) X dX4_blowGust_23 rfl rfl rfl ?_
      refine g_iconst (v := 5) (pc' := 25) X dX4_blowGust_24 rfl (by decide) ?_
      refine g_imul (pc' := 26) X dX4_blowGust_25 rfl ?_
      refine g_aload_n (pc' := 27) X dX4_blowGust_26 rfl rfl rfl ?_
      refine g_get (pc' := 30) X fl_X4_55 dX4_blowGust_27 rfl 0 rfl rfl ?_
      refine g_iload (pc' := 32) X dX4_blowGust_30 rfl rfl ?_
      refine g_iconst (v := 5) (pc' := 33) X dX4_blowGust_32 rfl (by decide) ?_
      refine g_copy (pc' := 36) (w2 := fun g2 => [oX4 a s_saidOn s_saidOff s_saidCount, oX1 (a 10) (a 11) (a 12) (a 13) s_range_peaks s_range_windsTold, ai d (a 11) 6 s_range_kinds, ai d (a 25) 45 g2]) X nv_X4_301 dX4_blowGust_33 rfl 3 3 rfl rfl ⟨Nat.le_of_ble_eq_true rfl, Nat.le_of_ble_eq_true rfl⟩ hf (fun _ => rfl) (fun g2 hf => ?_)
      refine g_aload_n (pc' := 37) X dX4_blowGust_36 rfl rfl rfl ?_
      refine g_get (pc' := 40) X fl_X4_55 dX4_blowGust_37 rfl 0 rfl rfl ?_
      refine g_iload (pc' := 42) X dX4_blowGust_40 rfl rfl ?_
      refine g_aload_n (pc' := 43) X dX4_blowGust_42 rfl rfl rfl ?_
      refine g_get (pc' := 46) X fl_X4_19 dX4_blowGust_43 rfl 0 rfl rfl ?_
      refine g_iload_n (pc' := 47) X dX4_blowGust_46 rfl rfl rfl ?_
      refine g_iload_n (pc' := 48) X dX4_blowGust_47 rfl rfl rfl ?_
      refine g_callVi0 (pc' := 51) (As := [.int v2, .int v3]) (b := (a 10)) (st := [.int x1, .ref (a 25)]) (w2 := fun x3 => [oX4 a s_saidOn s_saidOff s_saidCount, oX1 (a 10) (a 11) (a 12) (a 13) s_range_peaks s_range_windsTold, ai d (a 11) 6 s_range_kinds, ai d (a 25) 45 g2]) X lk_X4_106 dX4_blowGust_48 rfl rfl rfl (Nat.le_of_ble_eq_true rfl) ⟨Nat.le_of_ble_eq_true rfl, Nat.le_of_ble_eq_true rfl, Nat.le_of_ble_eq_true rfl, Nat.le_of_ble_eq_true rfl⟩ rfl [1, 2] (by decide) rfl hf (fun l x3 h => ctX1_forceAt l d (a 10) (a 11) (a 12) (a 13) s_range_peaks s_range_windsTold s_range_kinds v2 v3 x3 h) (fun _ => rfl) (fun _ => rfl) (fun x3 hnx3 hf => ?_)
      refine g_aload_n (pc' := 52) X dX4_blowGust_51 rfl rfl rfl ?_
      refine g_get (pc' := 55) X fl_X4_19 dX4_blowGust_52 rfl 0 rfl rfl ?_
      refine g_iload_n (pc' := 56) X dX4_blowGust_55 rfl rfl rfl ?_
      refine g_callVi0 (pc' := 59) (As := [.int v2]) (b := (a 10)) (st := [.int x3, .int x1, .ref (a 25)]) (w2 := fun x4 => [oX4 a s_saidOn s_saidOff s_saidCount, oX1 (a 10) (a 11) (a 12) (a 13) s_range_peaks s_range_windsTold, ai d (a 11) 6 s_range_kinds, ai d (a 25) 45 g2]) X lk_X4_262 dX4_blowGust_56 rfl rfl rfl (Nat.le_of_ble_eq_true rfl) ⟨Nat.le_of_ble_eq_true rfl, Nat.le_of_ble_eq_true rfl, Nat.le_of_ble_eq_true rfl, Nat.le_of_ble_eq_true rfl⟩ rfl [1, 2] (by decide) rfl hf (fun l x4 h => ctX1_hasGoats l d (a 10) (a 11) (a 12) (a 13) s_range_peaks s_range_windsTold s_range_kinds v2 x4 h) (fun _ => rfl) (fun _ => rfl) (fun x4 hnx4 hf => ?_)
      refine g_callSv1 (pc' := 62) (As := [.ref (a 25), .int x1, .int x3, .int x4]) (st := []) (w2 := fun o5 => [oX4 a s_saidOn s_saidOff s_saidCount, oX1 (a 10) (a 11) (a 12) (a 13) s_range_peaks s_range_windsTold, ai d (a 11) 6 s_range_kinds, ai d (a 25) 45 o5]) X lk_X4_307 dX4_blowGust_59 rfl rfl rfl (Nat.le_of_ble_eq_true rfl) ⟨Nat.le_of_ble_eq_true rfl, Nat.le_of_ble_eq_true rfl, Nat.le_of_ble_eq_true rfl, Nat.le_of_ble_eq_true rfl⟩ [3] (by decide) rfl hf (fun l o5 h => ctX4_weather l d (a 25) 45 g2 x1 x3 x4 o5 h) (fun _ => rfl) (fun _ => rfl) (fun o5 hf => ?_)
      refine g_iconst (v := 1) (pc' := 63) X dX4_blowGust_62 rfl (by decide) ?_
      cases hf
      exact hR _ _ dX4_blowGust_63 rfl
    · refine g_iconst (v := 0) (pc' := 11) X dX4_blowGust_10 rfl (by decide) ?_
      cases hf
      exact hR _ _ dX4_blowGust_11 rfl
-- X4_drawOf
def fX4_drawOf (v0 : Int32) (v1 : Int32) : Option (Int32) :=
  sx_lt ((((7919 : Int64) * v0.toInt64) + ((6151 : Int64) * v1.toInt64)) + (1 : Int64)) fun x1 =>
  some (((x1 * x1) - (x1 * x1) / (65521 : Int64) * (65521 : Int64)).toInt32)
set_option maxHeartbeats 4000000 in
set_option maxRecDepth 100000 in
theorem ctX4_drawOf (l : Launch) (d : sx_D) (v0 : Int32) (v1 : Int32) (r : Int32) (hf : fX4_drawOf v0 v1 = some r) : sx_I l d yX4_drawOf cX4_drawOf 4 .int 0 [.int v0, .int v1] [] [] r := by
  refine sx_I.intro (lv0 := [some (.int v0), some (.int v1), none, none]) (by decide +kernel) (Nat.le_of_ble_eq_true rfl) rfl ?_
  intro κ X hR
  have X : sx_X d κ cX4_drawOf 4 RX4 (sx_rm 0) := X
  unfold fX4_drawOf at hf
  refine g_ldc2 (v := 7919) (pc' := 3) X dX4_drawOf_0 rfl cs_X4_311 ?_
  refine g_iload_n (pc' := 4) X dX4_drawOf_3 rfl rfl rfl ?_
  refine g_i2l (pc' := 5) X dX4_drawOf_4 rfl ?_
  refine g_lmul (pc' := 6) X dX4_drawOf_5 rfl ?_
  refine g_ldc2 (v := 6151) (pc' := 9) X dX4_drawOf_6 rfl cs_X4_313 ?_
  refine g_iload_n (pc' := 10) X dX4_drawOf_9 rfl rfl rfl ?_
  refine g_i2l (pc' := 11) X dX4_drawOf_10 rfl ?_
  refine g_lmul (pc' := 12) X dX4_drawOf_11 rfl ?_
  refine g_ladd (pc' := 13) X dX4_drawOf_12 rfl ?_
  refine g_lconst (v := 1) (pc' := 14) X dX4_drawOf_13 rfl (by decide) ?_
  refine g_ladd (pc' := 15) X dX4_drawOf_14 rfl ?_
  refine g_lstore_nN (lv' := fun x1 => [some (.int v0), some (.int v1), some (.long x1), none]) (pc' := 16) X dX4_drawOf_15 rfl rfl (by decide) rfl (fun _ => rfl) hf (fun x1 hf => ?_)
  refine g_lload_n (pc' := 17) X dX4_drawOf_16 rfl rfl rfl ?_
  refine g_lload_n (pc' := 18) X dX4_drawOf_17 rfl rfl rfl ?_
  refine g_lmul (pc' := 19) X dX4_drawOf_18 rfl ?_
  refine g_ldc2 (v := 65521) (pc' := 22) X dX4_drawOf_19 rfl cs_X4_315 ?_
  refine g_lrem (pc' := 23) X dX4_drawOf_22 rfl (by decide) ?_
  refine g_l2i (pc' := 24) X dX4_drawOf_23 rfl ?_
  cases hf
  exact hR _ _ dX4_drawOf_24 rfl
-- X4_trimByDraw
def jX4_trimByDraw_107 (s_p1_cells : Nat → Int32) (v3 : Int32) (v4 : Int32) (v5 : Int32) (v6 : Int32) : Option ((Nat → Int32)) :=
  if v3 = (4 : Int32) then
    (fX3_isOn s_p1_cells v4 v5).bind fun x5 =>
    if x5 = 0 then
      some s_p1_cells
    else
      (fX3_setPins s_p1_cells v4 v5 v6).bind fun o6 =>
      some o6
  else
    some s_p1_cells
def jX4_trimByDraw_80 (s_p1_cells : Nat → Int32) (v3 : Int32) (v4 : Int32) (v5 : Int32) (v6 : Int32) : Option ((Nat → Int32)) :=
  if v3 = (3 : Int32) then
    (fX3_isOn s_p1_cells v4 v5).bind fun x7 =>
    if x7 = 0 then
      jX4_trimByDraw_107 s_p1_cells v3 v4 v5 v6
    else
      (fX3_takeOff s_p1_cells v4 v5).bind fun o8 =>
      some o8
  else
    jX4_trimByDraw_107 s_p1_cells v3 v4 v5 v6
def fX4_trimByDraw (s_range_peaks : Int32) (s_p1_cells : Nat → Int32) (v2 : Int32) : Option ((Nat → Int32)) :=
  if (1 : Int32) ≤ s_range_peaks then
    sx_lt (v2 - v2 / (8 : Int32) * (8 : Int32)) fun x1 =>
    sx_nz s_range_peaks <|
    sx_lt ((v2 / (8 : Int32)) - (v2 / (8 : Int32)) / s_range_peaks * s_range_peaks) fun x2 =>
    sx_lt ((v2 / (64 : Int32)) - (v2 / (64 : Int32)) / (5 : Int32) * (5 : Int32)) fun x3 =>
    sx_lt (((v2 / (512 : Int32)) - (v2 / (512 : Int32)) / (9 : Int32) * (9 : Int32)) + (1 : Int32)) fun x4 =>
    if (2 : Int32) < x1 then
      jX4_trimByDraw_80 s_p1_cells x1 x2 x3 x4
    else
      (fX3_canPut s_p1_cells x2 x3).bind fun x9 =>
      if x9 = 0 then
        jX4_trimByDraw_80 s_p1_cells x1 x2 x3 x4
      else
        (fX3_putOn s_p1_cells x2 x3 x4).bind fun o10 =>
        some o10
  else
    some s_p1_cells
set_option maxHeartbeats 4000000 in
set_option maxRecDepth 100000 in
theorem ctX4_trimByDraw (l : Launch) (d : sx_D) (a : Nat → Nat) (q1 : Nat) (q1_cells : Nat) (s_saidOn : Int32) (s_saidOff : Int32) (s_saidCount : Int32) (s_range_peaks : Int32) (s_range_windsTold : Int32) (s_p1_cells : Nat → Int32) (v2 : Int32) (ro1 : Nat → Int32) (hf : fX4_trimByDraw s_range_peaks s_p1_cells v2 = some ro1) : sx_V l d yX4_trimByDraw cX4_trimByDraw 7 3 [.ref (a 0), .ref q1, .int v2] [oX4 a s_saidOn s_saidOff s_saidCount, oX1 (a 10) (a 11) (a 12) (a 13) s_range_peaks s_range_windsTold, oX3 q1 q1_cells, ai d q1_cells 42 s_p1_cells] [oX4 a s_saidOn s_saidOff s_saidCount, oX1 (a 10) (a 11) (a 12) (a 13) s_range_peaks s_range_windsTold, oX3 q1 q1_cells, ai d q1_cells 42 ro1] := by
  refine sx_V.intro (lv0 := [some (.ref (a 0)), some (.ref q1), some (.int v2), none, none, none, none]) (by decide +kernel) (Nat.le_of_ble_eq_true rfl) rfl ?_
  intro κ X hR
  have X : sx_X d κ cX4_trimByDraw 7 RX4 (sx_rm 3) := X
  unfold fX4_trimByDraw at hf
  refine g_aload_n (pc' := 1) X dX4_trimByDraw_0 rfl rfl rfl ?_
  refine g_get (pc' := 4) X fl_X4_19 dX4_trimByDraw_1 rfl 0 rfl rfl ?_
  refine g_get (pc' := 7) X fl_X4_80 dX4_trimByDraw_4 rfl 1 rfl rfl ?_
  refine g_iconst (v := 1) (pc' := 8) X dX4_trimByDraw_7 rfl (by decide) ?_
  refine g_icmp_ge (tgt := 12) (pc' := 11) X dX4_trimByDraw_8 (by decide) rfl hf (fun hf => ?_) (fun hf => ?_)
  · refine g_iload_n (pc' := 13) X dX4_trimByDraw_12 rfl rfl rfl ?_
    refine g_bipush (v := 8) (pc' := 15) X dX4_trimByDraw_13 rfl (by decide) ?_
    refine g_irem (pc' := 16) X dX4_trimByDraw_15 rfl (by decide) ?_
    refine g_istore_nN (lv' := fun x1 => [some (.ref (a 0)), some (.ref q1), some (.int v2), some (.int x1), none, none, none]) (pc' := 17) X dX4_trimByDraw_16 rfl rfl (by decide) rfl (fun _ => rfl) hf (fun x1 hf => ?_)
    refine g_iload_n (pc' := 18) X dX4_trimByDraw_17 rfl rfl rfl ?_
    refine g_bipush (v := 8) (pc' := 20) X dX4_trimByDraw_18 rfl (by decide) ?_
    refine g_idiv (pc' := 21) X dX4_trimByDraw_20 rfl (by decide) ?_
    refine g_aload_n (pc' := 22) X dX4_trimByDraw_21 rfl rfl rfl ?_
    refine g_get (pc' := 25) X fl_X4_19 dX4_trimByDraw_22 rfl 0 rfl rfl ?_
    refine g_get (pc' := 28) X fl_X4_80 dX4_trimByDraw_25 rfl 1 rfl rfl ?_
    refine g_iremZ (pc' := 29) X dX4_trimByDraw_28 rfl hf (fun hf => ?_)
    refine g_istoreN (lv' := fun x2 => [some (.ref (a 0)), some (.ref q1), some (.int v2), some (.int x1), some (.int x2), none, none]) (pc' := 31) X dX4_trimByDraw_29 rfl (by decide) rfl (fun _ => rfl) hf (fun x2 hf => ?_)
    refine g_iload_n (pc' := 32) X dX4_trimByDraw_31 rfl rfl rfl ?_
    refine g_bipush (v := 64) (pc' := 34) X dX4_trimByDraw_32 rfl (by decide) ?_
    refine g_idiv (pc' := 35) X dX4_trimByDraw_34 rfl (by decide) ?_
    refine g_iconst (v := 5) (pc' := 36) X dX4_trimByDraw_35 rfl (by decide) ?_
    refine g_irem (pc' := 37) X dX4_trimByDraw_36 rfl (by decide) ?_
    refine g_istoreN (lv' := fun x3 => [some (.ref (a 0)), some (.ref q1), some (.int v2), some (.int x1), some (.int x2), some (.int x3), none]) (pc' := 39) X dX4_trimByDraw_37 rfl (by decide) rfl (fun _ => rfl) hf (fun x3 hf => ?_)
    refine g_iload_n (pc' := 40) X dX4_trimByDraw_39 rfl rfl rfl ?_
    refine g_sipush (v := 512) (pc' := 43) X dX4_trimByDraw_40 rfl (by decide) ?_
    refine g_idiv (pc' := 44) X dX4_trimByDraw_43 rfl (by decide) ?_
    refine g_bipush (v := 9) (pc' := 46) X dX4_trimByDraw_44 rfl (by decide) ?_
    refine g_irem (pc' := 47) X dX4_trimByDraw_46 rfl (by decide) ?_
    refine g_iconst (v := 1) (pc' := 48) X dX4_trimByDraw_47 rfl (by decide) ?_
    refine g_iadd (pc' := 49) X dX4_trimByDraw_48 rfl ?_
    refine g_istoreN (lv' := fun x4 => [some (.ref (a 0)), some (.ref q1), some (.int v2), some (.int x1), some (.int x2), some (.int x3), some (.int x4)]) (pc' := 51) X dX4_trimByDraw_49 rfl (by decide) rfl (fun _ => rfl) hf (fun x4 hf => ?_)
    refine g_iload_n (pc' := 52) X dX4_trimByDraw_51 rfl rfl rfl ?_
    refine g_iconst (v := 2) (pc' := 53) X dX4_trimByDraw_52 rfl (by decide) ?_
    have hjX4_trimByDraw_80 : ∀ (v3 : Int32) (v4 : Int32) (v5 : Int32) (v6 : Int32) (s_p1_cells : Nat → Int32), jX4_trimByDraw_80 s_p1_cells v3 v4 v5 v6 = some ro1 → sx_G d κ 7 0 0 80 [none, some (.ref q1), none, some (.int v3), some (.int v4), some (.int v5), some (.int v6)] [] [oX4 a s_saidOn s_saidOff s_saidCount, oX1 (a 10) (a 11) (a 12) (a 13) s_range_peaks s_range_windsTold, oX3 q1 q1_cells, ai d q1_cells 42 s_p1_cells] := by
      intro v3 v4 v5 v6 s_p1_cells hf
      unfold jX4_trimByDraw_80 at hf
      refine g_iload_n (pc' := 81) X dX4_trimByDraw_80 rfl rfl rfl ?_
      refine g_iconst (v := 3) (pc' := 82) X dX4_trimByDraw_81 rfl (by decide) ?_
      have hjX4_trimByDraw_107 : ∀ (v3 : Int32) (v4 : Int32) (v5 : Int32) (v6 : Int32) (s_p1_cells : Nat → Int32), jX4_trimByDraw_107 s_p1_cells v3 v4 v5 v6 = some ro1 → sx_G d κ 7 0 0 107 [none, some (.ref q1), none, some (.int v3), some (.int v4), some (.int v5), some (.int v6)] [] [oX4 a s_saidOn s_saidOff s_saidCount, oX1 (a 10) (a 11) (a 12) (a 13) s_range_peaks s_range_windsTold, oX3 q1 q1_cells, ai d q1_cells 42 s_p1_cells] := by
        intro v3 v4 v5 v6 s_p1_cells hf
        unfold jX4_trimByDraw_107 at hf
        refine g_iload_n (pc' := 108) X dX4_trimByDraw_107 rfl rfl rfl ?_
        refine g_iconst (v := 4) (pc' := 109) X dX4_trimByDraw_108 rfl (by decide) ?_
        refine g_icmp_ne (tgt := 133) (pc' := 112) X dX4_trimByDraw_109 (by decide) rfl hf (fun hf => ?_) (fun hf => ?_)
        · cases hf
          exact hR _ _ dX4_trimByDraw_133
        · refine g_aload_n (pc' := 113) X dX4_trimByDraw_112 rfl rfl rfl ?_
          refine g_iload (pc' := 115) X dX4_trimByDraw_113 rfl rfl ?_
          refine g_iload (pc' := 117) X dX4_trimByDraw_115 rfl rfl ?_
          refine g_callVi0 (pc' := 120) (As := [.int v4, .int v5]) (b := q1) (st := []) (w2 := fun x5 => [oX4 a s_saidOn s_saidOff s_saidCount, oX1 (a 10) (a 11) (a 12) (a 13) s_range_peaks s_range_windsTold, oX3 q1 q1_cells, ai d q1_cells 42 s_p1_cells]) X lk_X4_140 dX4_trimByDraw_117 rfl rfl rfl (Nat.le_of_ble_eq_true rfl) ⟨Nat.le_of_ble_eq_true rfl, Nat.le_of_ble_eq_true rfl, Nat.le_of_ble_eq_true rfl, Nat.le_of_ble_eq_true rfl⟩ rfl [2, 3] (by decide) rfl hf (fun l x5 h => ctX3_isOn l d q1 q1_cells s_p1_cells v4 v5 x5 h) (fun _ => rfl) (fun _ => rfl) (fun x5 hnx5 hf => ?_)
          refine g_if_eq (tgt := 133) (pc' := 123) X dX4_trimByDraw_120 (by decide) rfl hf (fun hf => ?_) (fun hf => ?_)
          · cases hf
            exact hR _ _ dX4_trimByDraw_133
          · refine g_aload_n (pc' := 124) X dX4_trimByDraw_123 rfl rfl rfl ?_
            refine g_iload (pc' := 126) X dX4_trimByDraw_124 rfl rfl ?_
            refine g_iload (pc' := 128) X dX4_trimByDraw_126 rfl rfl ?_
            refine g_iload (pc' := 130) X dX4_trimByDraw_128 rfl rfl ?_
            refine g_callVv1 (pc' := 133) (As := [.int v4, .int v5, .int v6]) (b := q1) (st := []) (w2 := fun o6 => [oX4 a s_saidOn s_saidOff s_saidCount, oX1 (a 10) (a 11) (a 12) (a 13) s_range_peaks s_range_windsTold, oX3 q1 q1_cells, ai d q1_cells 42 o6]) X lk_X4_147 dX4_trimByDraw_130 rfl rfl rfl (Nat.le_of_ble_eq_true rfl) ⟨Nat.le_of_ble_eq_true rfl, Nat.le_of_ble_eq_true rfl, Nat.le_of_ble_eq_true rfl, Nat.le_of_ble_eq_true rfl⟩ rfl [2, 3] (by decide) rfl hf (fun l o6 h => ctX3_setPins l d q1 q1_cells s_p1_cells v4 v5 v6 o6 h) (fun _ => rfl) (fun _ => rfl) (fun o6 hf => ?_)
            cases hf
            exact hR _ _ dX4_trimByDraw_133
      refine g_icmp_ne (tgt := 107) (pc' := 85) X dX4_trimByDraw_82 (by decide) rfl hf (fun hf => ?_) (fun hf => ?_)
      · exact sx_weak [true, true, true, true, true, true, true] rfl (hjX4_trimByDraw_107 v3 v4 v5 v6 s_p1_cells hf)
      · refine g_aload_n (pc' := 86) X dX4_trimByDraw_85 rfl rfl rfl ?_
        refine g_iload (pc' := 88) X dX4_trimByDraw_86 rfl rfl ?_
        refine g_iload (pc' := 90) X dX4_trimByDraw_88 rfl rfl ?_
        refine g_callVi0 (pc' := 93) (As := [.int v4, .int v5]) (b := q1) (st := []) (w2 := fun x7 => [oX4 a s_saidOn s_saidOff s_saidCount, oX1 (a 10) (a 11) (a 12) (a 13) s_range_peaks s_range_windsTold, oX3 q1 q1_cells, ai d q1_cells 42 s_p1_cells]) X lk_X4_140 dX4_trimByDraw_90 rfl rfl rfl (Nat.le_of_ble_eq_true rfl) ⟨Nat.le_of_ble_eq_true rfl, Nat.le_of_ble_eq_true rfl, Nat.le_of_ble_eq_true rfl, Nat.le_of_ble_eq_true rfl⟩ rfl [2, 3] (by decide) rfl hf (fun l x7 h => ctX3_isOn l d q1 q1_cells s_p1_cells v4 v5 x7 h) (fun _ => rfl) (fun _ => rfl) (fun x7 hnx7 hf => ?_)
        refine g_if_eq (tgt := 107) (pc' := 96) X dX4_trimByDraw_93 (by decide) rfl hf (fun hf => ?_) (fun hf => ?_)
        · exact sx_weak [true, true, true, true, true, true, true] rfl (hjX4_trimByDraw_107 v3 v4 v5 v6 s_p1_cells hf)
        · refine g_aload_n (pc' := 97) X dX4_trimByDraw_96 rfl rfl rfl ?_
          refine g_iload (pc' := 99) X dX4_trimByDraw_97 rfl rfl ?_
          refine g_iload (pc' := 101) X dX4_trimByDraw_99 rfl rfl ?_
          refine g_callVv1 (pc' := 104) (As := [.int v4, .int v5]) (b := q1) (st := []) (w2 := fun o8 => [oX4 a s_saidOn s_saidOff s_saidCount, oX1 (a 10) (a 11) (a 12) (a 13) s_range_peaks s_range_windsTold, oX3 q1 q1_cells, ai d q1_cells 42 o8]) X lk_X4_143 dX4_trimByDraw_101 rfl rfl rfl (Nat.le_of_ble_eq_true rfl) ⟨Nat.le_of_ble_eq_true rfl, Nat.le_of_ble_eq_true rfl, Nat.le_of_ble_eq_true rfl, Nat.le_of_ble_eq_true rfl⟩ rfl [2, 3] (by decide) rfl hf (fun l o8 h => ctX3_takeOff l d q1 q1_cells s_p1_cells v4 v5 o8 h) (fun _ => rfl) (fun _ => rfl) (fun o8 hf => ?_)
          refine g_goto (tgt := 133) X dX4_trimByDraw_104 (by decide) ?_
          cases hf
          exact hR _ _ dX4_trimByDraw_133
    refine g_icmp_gt (tgt := 80) (pc' := 56) X dX4_trimByDraw_53 (by decide) rfl hf (fun hf => ?_) (fun hf => ?_)
    · exact sx_weak [false, true, false, true, true, true, true] rfl (hjX4_trimByDraw_80 x1 x2 x3 x4 s_p1_cells hf)
    · refine g_aload_n (pc' := 57) X dX4_trimByDraw_56 rfl rfl rfl ?_
      refine g_iload (pc' := 59) X dX4_trimByDraw_57 rfl rfl ?_
      refine g_iload (pc' := 61) X dX4_trimByDraw_59 rfl rfl ?_
      refine g_callVi0 (pc' := 64) (As := [.int x2, .int x3]) (b := q1) (st := []) (w2 := fun x9 => [oX4 a s_saidOn s_saidOff s_saidCount, oX1 (a 10) (a 11) (a 12) (a 13) s_range_peaks s_range_windsTold, oX3 q1 q1_cells, ai d q1_cells 42 s_p1_cells]) X lk_X4_129 dX4_trimByDraw_61 rfl rfl rfl (Nat.le_of_ble_eq_true rfl) ⟨Nat.le_of_ble_eq_true rfl, Nat.le_of_ble_eq_true rfl, Nat.le_of_ble_eq_true rfl, Nat.le_of_ble_eq_true rfl⟩ rfl [2, 3] (by decide) rfl hf (fun l x9 h => ctX3_canPut l d q1 q1_cells s_p1_cells x2 x3 x9 h) (fun _ => rfl) (fun _ => rfl) (fun x9 hnx9 hf => ?_)
      refine g_if_eq (tgt := 80) (pc' := 67) X dX4_trimByDraw_64 (by decide) rfl hf (fun hf => ?_) (fun hf => ?_)
      · exact sx_weak [false, true, false, true, true, true, true] rfl (hjX4_trimByDraw_80 x1 x2 x3 x4 s_p1_cells hf)
      · refine g_aload_n (pc' := 68) X dX4_trimByDraw_67 rfl rfl rfl ?_
        refine g_iload (pc' := 70) X dX4_trimByDraw_68 rfl rfl ?_
        refine g_iload (pc' := 72) X dX4_trimByDraw_70 rfl rfl ?_
        refine g_iload (pc' := 74) X dX4_trimByDraw_72 rfl rfl ?_
        refine g_callVv1 (pc' := 77) (As := [.int x2, .int x3, .int x4]) (b := q1) (st := []) (w2 := fun o10 => [oX4 a s_saidOn s_saidOff s_saidCount, oX1 (a 10) (a 11) (a 12) (a 13) s_range_peaks s_range_windsTold, oX3 q1 q1_cells, ai d q1_cells 42 o10]) X lk_X4_136 dX4_trimByDraw_74 rfl rfl rfl (Nat.le_of_ble_eq_true rfl) ⟨Nat.le_of_ble_eq_true rfl, Nat.le_of_ble_eq_true rfl, Nat.le_of_ble_eq_true rfl, Nat.le_of_ble_eq_true rfl⟩ rfl [2, 3] (by decide) rfl hf (fun l o10 h => ctX3_putOn l d q1 q1_cells s_p1_cells x2 x3 x4 o10 h) (fun _ => rfl) (fun _ => rfl) (fun o10 hf => ?_)
        refine g_goto (tgt := 133) X dX4_trimByDraw_77 (by decide) ?_
        cases hf
        exact hR _ _ dX4_trimByDraw_133
  · cases hf
    exact hR _ _ dX4_trimByDraw_11
-- X4_century
def bX4_century_45 (s_range_peaks : Int32) (s_range_windsTold : Int32) (s_range_kinds : Nat → Int32) (s_range_winds : Nat → Int32) (v1 : Int32) (v2 : Int32) : (Int32 × (Nat → Int32)) → Option ((Int32 × (Nat → Int32)) ⊕ ((Nat → Int32))) := fun (v4, s_trial_cells) =>
  if v2 ≤ v4 then
    some (.inr s_trial_cells)
  else
    (fX4_drawOf v1 v4).bind fun x3 =>
    (fX4_trimByDraw s_range_peaks s_trial_cells x3).bind fun o4 =>
    (fX3_letYearGoBy o4 s_range_peaks s_range_windsTold s_range_kinds s_range_winds).bind fun o5 =>
    some (.inl (v4 + (1 : Int32), o5))
def fX4_century (s_range_peaks : Int32) (s_range_windsTold : Int32) (s_range_kinds : Nat → Int32) (s_range_winds : Nat → Int32) (s_now_cells : Nat → Int32) (s_trial_cells : Nat → Int32) (s_faces : Nat → Int32) (v1 : Int32) (v2 : Int32) (v3 : Int32) : Option (Int32 × (Nat → Int32) × (Nat → Int32)) :=
  if v1 < 0 then
    some ((-1 : Int32), s_trial_cells, s_faces)
  else
    if (9999 : Int32) < v1 then
      some ((-1 : Int32), s_trial_cells, s_faces)
    else
      if v2 < (1 : Int32) then
        some ((-1 : Int32), s_trial_cells, s_faces)
      else
        if (60 : Int32) < v2 then
          some ((-1 : Int32), s_trial_cells, s_faces)
        else
          (fX4_isZeroOrOne v3).bind fun x1 =>
          if x1 = 0 then
            some ((-1 : Int32), s_trial_cells, s_faces)
          else
            (fX3_become s_trial_cells s_now_cells).bind fun o2 =>
            (sx_it 1000 (bX4_century_45 s_range_peaks s_range_windsTold s_range_kinds s_range_winds v1 v2) ((0 : Int32), o2)).bind fun w7 =>
            (fX4_lookAt s_faces w7).bind fun o8 =>
            if v3 = 0 then
              (fX3_trimmingsOn w7).bind fun x10 =>
              some (x10, w7, o8)
            else
              (fX4_pairsAlike s_range_peaks o8 (31 : Int32)).bind fun x9 =>
              some (x9, w7, o8)
set_option maxHeartbeats 4000000 in
set_option maxRecDepth 100000 in
theorem lX4_century_45 (d : sx_D) (κ : sx_C) (a : Nat → Nat) (s_saidOn : Int32) (s_saidOff : Int32) (s_saidCount : Int32) (s_range_peaks : Int32) (s_range_windsTold : Int32) (s_range_kinds : Nat → Int32) (s_range_winds : Nat → Int32) (s_now_cells : Nat → Int32) (s_faces : Nat → Int32) (v1 : Int32) (v2 : Int32) (v3 : Int32) (X : sx_X d κ cX4_century 5 RX4 (sx_rm 5)) (y : (Nat → Int32)) (hE82 : ∀ (s_trial_cells : Nat → Int32), s_trial_cells = y → sx_G d κ 5 0 0 82 [some (.ref (a 0)), none, none, some (.int v3), none] [] [oX4 a s_saidOn s_saidOff s_saidCount, oX1 (a 10) (a 11) (a 12) (a 13) s_range_peaks s_range_windsTold, ai d (a 11) 6 s_range_kinds, ai d (a 13) 12 s_range_winds, oX3 (a 14) (a 15), ai d (a 15) 42 s_now_cells, oX3 (a 16) (a 17), ai d (a 17) 42 s_trial_cells, ai d (a 22) 6 s_faces]) : ∀ (n : Nat) (s : Int32 × (Nat → Int32)), sx_it n (bX4_century_45 s_range_peaks s_range_windsTold s_range_kinds s_range_winds v1 v2) s = some y → (match s with | (v4, s_trial_cells) => sx_G d κ 5 0 0 45 [some (.ref (a 0)), some (.int v1), some (.int v2), some (.int v3), some (.int v4)] [] [oX4 a s_saidOn s_saidOff s_saidCount, oX1 (a 10) (a 11) (a 12) (a 13) s_range_peaks s_range_windsTold, ai d (a 11) 6 s_range_kinds, ai d (a 13) 12 s_range_winds, oX3 (a 14) (a 15), ai d (a 15) 42 s_now_cells, oX3 (a 16) (a 17), ai d (a 17) 42 s_trial_cells, ai d (a 22) 6 s_faces]) := by
  refine sx_it_run (bX4_century_45 s_range_peaks s_range_windsTold s_range_kinds s_range_winds v1 v2) (fun s => match s with | (v4, s_trial_cells) => sx_G d κ 5 0 0 45 [some (.ref (a 0)), some (.int v1), some (.int v2), some (.int v3), some (.int v4)] [] [oX4 a s_saidOn s_saidOff s_saidCount, oX1 (a 10) (a 11) (a 12) (a 13) s_range_peaks s_range_windsTold, ai d (a 11) 6 s_range_kinds, ai d (a 13) 12 s_range_winds, oX3 (a 14) (a 15), ai d (a 15) 42 s_now_cells, oX3 (a 16) (a 17), ai d (a 17) 42 s_trial_cells, ai d (a 22) 6 s_faces]) y ?_
  rintro ⟨v4, s_trial_cells⟩ x hf hb he
  show sx_G d κ 5 0 0 45 [some (.ref (a 0)), some (.int v1), some (.int v2), some (.int v3), some (.int v4)] [] [oX4 a s_saidOn s_saidOff s_saidCount, oX1 (a 10) (a 11) (a 12) (a 13) s_range_peaks s_range_windsTold, ai d (a 11) 6 s_range_kinds, ai d (a 13) 12 s_range_winds, oX3 (a 14) (a 15), ai d (a 15) 42 s_now_cells, oX3 (a 16) (a 17), ai d (a 17) 42 s_trial_cells, ai d (a 22) 6 s_faces]
  unfold bX4_century_45 at hf
  refine g_iload (pc' := 47) X dX4_century_45 rfl rfl ?_
  refine g_iload_n (pc' := 48) X dX4_century_47 rfl rfl rfl ?_
  refine g_icmp_ge (tgt := 82) (pc' := 51) X dX4_century_48 (by decide) rfl hf (fun hf => ?_) (fun hf => ?_)
  · exact sx_weak [true, false, false, true, false] rfl (hE82 _ (sx_ex hf he))
  · refine g_aload_n (pc' := 52) X dX4_century_51 rfl rfl rfl ?_
    refine g_aload_n (pc' := 53) X dX4_century_52 rfl rfl rfl ?_
    refine g_get (pc' := 56) X fl_X4_30 dX4_century_53 rfl 0 rfl rfl ?_
    refine g_iload_n (pc' := 57) X dX4_century_56 rfl rfl rfl ?_
    refine g_iload (pc' := 59) X dX4_century_57 rfl rfl ?_
    refine g_callSi0 (pc' := 62) (As := [.int v1, .int v4]) (st := [.ref (a 16), .ref (a 0)]) (w2 := fun x3 => [oX4 a s_saidOn s_saidOff s_saidCount, oX1 (a 10) (a 11) (a 12) (a 13) s_range_peaks s_range_windsTold, ai d (a 11) 6 s_range_kinds, ai d (a 13) 12 s_range_winds, oX3 (a 14) (a 15), ai d (a 15) 42 s_now_cells, oX3 (a 16) (a 17), ai d (a 17) 42 s_trial_cells, ai d (a 22) 6 s_faces]) X lk_X4_232 dX4_century_59 rfl rfl rfl (Nat.le_of_ble_eq_true rfl) ⟨Nat.le_of_ble_eq_true rfl, Nat.le_of_ble_eq_true rfl, Nat.le_of_ble_eq_true rfl, Nat.le_of_ble_eq_true rfl⟩ [] (by decide) rfl hf (fun l x3 h => ctX4_drawOf l d v1 v4 x3 h) (fun _ => rfl) (fun _ => rfl) (fun x3 hnx3 hf => ?_)
    refine g_callVv1 (pc' := 65) (As := [.ref (a 16), .int x3]) (b := (a 0)) (st := []) (w2 := fun o4 => [oX4 a s_saidOn s_saidOff s_saidCount, oX1 (a 10) (a 11) (a 12) (a 13) s_range_peaks s_range_windsTold, ai d (a 11) 6 s_range_kinds, ai d (a 13) 12 s_range_winds, oX3 (a 14) (a 15), ai d (a 15) 42 s_now_cells, oX3 (a 16) (a 17), ai d (a 17) 42 o4, ai d (a 22) 6 s_faces]) X lk_X4_235 dX4_century_62 rfl rfl rfl (Nat.le_of_ble_eq_true rfl) ⟨Nat.le_of_ble_eq_true rfl, Nat.le_of_ble_eq_true rfl, Nat.le_of_ble_eq_true rfl, Nat.le_of_ble_eq_true rfl⟩ rfl [0, 1, 6, 7] (by decide) rfl hf (fun l o4 h => ctX4_trimByDraw l d a (a 16) (a 17) s_saidOn s_saidOff s_saidCount s_range_peaks s_range_windsTold s_trial_cells x3 o4 h) (fun _ => rfl) (fun _ => rfl) (fun o4 hf => ?_)
    refine g_aload_n (pc' := 66) X dX4_century_65 rfl rfl rfl ?_
    refine g_get (pc' := 69) X fl_X4_30 dX4_century_66 rfl 0 rfl rfl ?_
    refine g_aload_n (pc' := 70) X dX4_century_69 rfl rfl rfl ?_
    refine g_get (pc' := 73) X fl_X4_19 dX4_century_70 rfl 0 rfl rfl ?_
    refine g_callVv1 (pc' := 76) (As := [.ref (a 10)]) (b := (a 16)) (st := []) (w2 := fun o5 => [oX4 a s_saidOn s_saidOff s_saidCount, oX1 (a 10) (a 11) (a 12) (a 13) s_range_peaks s_range_windsTold, ai d (a 11) 6 s_range_kinds, ai d (a 13) 12 s_range_winds, oX3 (a 14) (a 15), ai d (a 15) 42 s_now_cells, oX3 (a 16) (a 17), ai d (a 17) 42 o5, ai d (a 22) 6 s_faces]) X lk_X4_179 dX4_century_73 rfl rfl rfl (Nat.le_of_ble_eq_true rfl) ⟨Nat.le_of_ble_eq_true rfl, Nat.le_of_ble_eq_true rfl, Nat.le_of_ble_eq_true rfl, Nat.le_of_ble_eq_true rfl⟩ rfl [6, 7, 1, 2, 3] (by decide) rfl hf (fun l o5 h => ctX3_letYearGoBy l d (a 16) (a 17) (a 10) (a 11) (a 12) (a 13) o4 s_range_peaks s_range_windsTold s_range_kinds s_range_winds o5 h) (fun _ => rfl) (fun _ => rfl) (fun o5 hf => ?_)
    refine g_iinc (v := 1) (lv' := [some (.ref (a 0)), some (.int v1), some (.int v2), some (.int v3), some (.int (v4 + (1 : Int32)))]) (pc' := 79) X dX4_century_76 rfl rfl (by decide) (by decide) rfl rfl ?_
    refine g_goto (tgt := 45) X dX4_century_79 (by decide) ?_
    have hk := sx_bk hf hb
    exact sx_weak [true, true, true, true, true] rfl hk
set_option maxHeartbeats 4000000 in
set_option maxRecDepth 100000 in
theorem ctX4_century (l : Launch) (d : sx_D) (a : Nat → Nat) (s_saidOn : Int32) (s_saidOff : Int32) (s_saidCount : Int32) (s_range_peaks : Int32) (s_range_windsTold : Int32) (s_range_kinds : Nat → Int32) (s_range_winds : Nat → Int32) (s_now_cells : Nat → Int32) (s_trial_cells : Nat → Int32) (s_faces : Nat → Int32) (v1 : Int32) (v2 : Int32) (v3 : Int32) (r : Int32) (ro1 : Nat → Int32) (ro2 : Nat → Int32) (hf : fX4_century s_range_peaks s_range_windsTold s_range_kinds s_range_winds s_now_cells s_trial_cells s_faces v1 v2 v3 = some (r, ro1, ro2)) : sx_I l d yX4_century cX4_century 5 .int 5 [.ref (a 0), .int v1, .int v2, .int v3] [oX4 a s_saidOn s_saidOff s_saidCount, oX1 (a 10) (a 11) (a 12) (a 13) s_range_peaks s_range_windsTold, ai d (a 11) 6 s_range_kinds, ai d (a 13) 12 s_range_winds, oX3 (a 14) (a 15), ai d (a 15) 42 s_now_cells, oX3 (a 16) (a 17), ai d (a 17) 42 s_trial_cells, ai d (a 22) 6 s_faces] [oX4 a s_saidOn s_saidOff s_saidCount, oX1 (a 10) (a 11) (a 12) (a 13) s_range_peaks s_range_windsTold, ai d (a 11) 6 s_range_kinds, ai d (a 13) 12 s_range_winds, oX3 (a 14) (a 15), ai d (a 15) 42 s_now_cells, oX3 (a 16) (a 17), ai d (a 17) 42 ro1, ai d (a 22) 6 ro2] r := by
  refine sx_I.intro (lv0 := [some (.ref (a 0)), some (.int v1), some (.int v2), some (.int v3), none]) (by decide +kernel) (Nat.le_of_ble_eq_true rfl) rfl ?_
  intro κ X hR
  have X : sx_X d κ cX4_century 5 RX4 (sx_rm 5) := X
  unfold fX4_century at hf
  refine g_iload_n (pc' := 1) X dX4_century_0 rfl rfl rfl ?_
  refine g_if_lt (tgt := 29) (pc' := 4) X dX4_century_1 (by decide) rfl hf (fun hf => ?_) (fun hf => ?_)
  · refine g_iconst (v := -1) (pc' := 30) X dX4_century_29 rfl (by decide) ?_
    cases hf
    exact hR _ _ dX4_century_30 rfl
  · refine g_iload_n (pc' := 5) X dX4_century_4 rfl rfl rfl ?_
    refine g_sipush (v := 9999) (pc' := 8) X dX4_century_5 rfl (by decide) ?_
    refine g_icmp_gt (tgt := 29) (pc' := 11) X dX4_century_8 (by decide) rfl hf (fun hf => ?_) (fun hf => ?_)
    · refine g_iconst (v := -1) (pc' := 30) X dX4_century_29 rfl (by decide) ?_
      cases hf
      exact hR _ _ dX4_century_30 rfl
    · refine g_iload_n (pc' := 12) X dX4_century_11 rfl rfl rfl ?_
      refine g_iconst (v := 1) (pc' := 13) X dX4_century_12 rfl (by decide) ?_
      refine g_icmp_lt (tgt := 29) (pc' := 16) X dX4_century_13 (by decide) rfl hf (fun hf => ?_) (fun hf => ?_)
      · refine g_iconst (v := -1) (pc' := 30) X dX4_century_29 rfl (by decide) ?_
        cases hf
        exact hR _ _ dX4_century_30 rfl
      · refine g_iload_n (pc' := 17) X dX4_century_16 rfl rfl rfl ?_
        refine g_bipush (v := 60) (pc' := 19) X dX4_century_17 rfl (by decide) ?_
        refine g_icmp_gt (tgt := 29) (pc' := 22) X dX4_century_19 (by decide) rfl hf (fun hf => ?_) (fun hf => ?_)
        · refine g_iconst (v := -1) (pc' := 30) X dX4_century_29 rfl (by decide) ?_
          cases hf
          exact hR _ _ dX4_century_30 rfl
        · refine g_iload_n (pc' := 23) X dX4_century_22 rfl rfl rfl ?_
          refine g_callSi0 (pc' := 26) (As := [.int v3]) (st := []) (w2 := fun x1 => [oX4 a s_saidOn s_saidOff s_saidCount, oX1 (a 10) (a 11) (a 12) (a 13) s_range_peaks s_range_windsTold, ai d (a 11) 6 s_range_kinds, ai d (a 13) 12 s_range_winds, oX3 (a 14) (a 15), ai d (a 15) 42 s_now_cells, oX3 (a 16) (a 17), ai d (a 17) 42 s_trial_cells, ai d (a 22) 6 s_faces]) X lk_X4_161 dX4_century_23 rfl rfl rfl (Nat.le_of_ble_eq_true rfl) ⟨Nat.le_of_ble_eq_true rfl, Nat.le_of_ble_eq_true rfl, Nat.le_of_ble_eq_true rfl, Nat.le_of_ble_eq_true rfl⟩ [] (by decide) rfl hf (fun l x1 h => ctX4_isZeroOrOne l d v3 x1 h) (fun _ => rfl) (fun _ => rfl) (fun x1 hnx1 hf => ?_)
          refine g_if_ne (tgt := 31) (pc' := 29) X dX4_century_26 (by decide) rfl hf (fun hf => ?_) (fun hf => ?_)
          · refine g_aload_n (pc' := 32) X dX4_century_31 rfl rfl rfl ?_
            refine g_get (pc' := 35) X fl_X4_30 dX4_century_32 rfl 0 rfl rfl ?_
            refine g_aload_n (pc' := 36) X dX4_century_35 rfl rfl rfl ?_
            refine g_get (pc' := 39) X fl_X4_26 dX4_century_36 rfl 0 rfl rfl ?_
            refine g_callVv1 (pc' := 42) (As := [.ref (a 14)]) (b := (a 16)) (st := []) (w2 := fun o2 => [oX4 a s_saidOn s_saidOff s_saidCount, oX1 (a 10) (a 11) (a 12) (a 13) s_range_peaks s_range_windsTold, ai d (a 11) 6 s_range_kinds, ai d (a 13) 12 s_range_winds, oX3 (a 14) (a 15), ai d (a 15) 42 s_now_cells, oX3 (a 16) (a 17), ai d (a 17) 42 o2, ai d (a 22) 6 s_faces]) X lk_X4_176 dX4_century_39 rfl rfl rfl (Nat.le_of_ble_eq_true rfl) ⟨Nat.le_of_ble_eq_true rfl, Nat.le_of_ble_eq_true rfl, Nat.le_of_ble_eq_true rfl, Nat.le_of_ble_eq_true rfl⟩ rfl [6, 7, 4, 5] (by decide) rfl hf (fun l o2 h => ctX3_become l d (a 16) (a 17) (a 14) (a 15) s_trial_cells s_now_cells o2 h) (fun _ => rfl) (fun _ => rfl) (fun o2 hf => ?_)
            refine g_iconst (v := 0) (pc' := 43) X dX4_century_42 rfl (by decide) ?_
            refine g_istore (lv' := [some (.ref (a 0)), some (.int v1), some (.int v2), some (.int v3), some (.int (0 : Int32))]) (pc' := 45) X dX4_century_43 rfl (by decide) rfl rfl ?_
            obtain ⟨y6, hy6, hf⟩ := sx_bd hf
            refine sx_weak [true, true, true, true, true] rfl (lX4_century_45 d κ a s_saidOn s_saidOff s_saidCount s_range_peaks s_range_windsTold s_range_kinds s_range_winds s_now_cells s_faces v1 v2 v3 X y6 ?_ 1000 ((0 : Int32), o2) hy6)
            rintro w7 rfl
            refine g_aload_n (pc' := 83) X dX4_century_82 rfl rfl rfl ?_
            refine g_aload_n (pc' := 84) X dX4_century_83 rfl rfl rfl ?_
            refine g_get (pc' := 87) X fl_X4_30 dX4_century_84 rfl 0 rfl rfl ?_
            refine g_callVv1 (pc' := 90) (As := [.ref (a 16)]) (b := (a 0)) (st := []) (w2 := fun o8 => [oX4 a s_saidOn s_saidOff s_saidCount, oX1 (a 10) (a 11) (a 12) (a 13) s_range_peaks s_range_windsTold, ai d (a 11) 6 s_range_kinds, ai d (a 13) 12 s_range_winds, oX3 (a 14) (a 15), ai d (a 15) 42 s_now_cells, oX3 (a 16) (a 17), ai d (a 17) 42 w7, ai d (a 22) 6 o8]) X lk_X4_164 dX4_century_87 rfl rfl rfl (Nat.le_of_ble_eq_true rfl) ⟨Nat.le_of_ble_eq_true rfl, Nat.le_of_ble_eq_true rfl, Nat.le_of_ble_eq_true rfl, Nat.le_of_ble_eq_true rfl⟩ rfl [0, 8, 6, 7] (by decide) rfl hf (fun l o8 h => ctX4_lookAt l d a (a 16) (a 17) s_saidOn s_saidOff s_saidCount s_faces w7 o8 h) (fun _ => rfl) (fun _ => rfl) (fun o8 hf => ?_)
            refine g_iload_n (pc' := 91) X dX4_century_90 rfl rfl rfl ?_
            refine g_if_ne (tgt := 104) (pc' := 94) X dX4_century_91 (by decide) rfl hf (fun hf => ?_) (fun hf => ?_)
            · refine g_aload_n (pc' := 105) X dX4_century_104 rfl rfl rfl ?_
              refine g_bipush (v := 31) (pc' := 107) X dX4_century_105 rfl (by decide) ?_
              refine g_callVi0 (pc' := 110) (As := [.int (31 : Int32)]) (b := (a 0)) (st := []) (w2 := fun x9 => [oX4 a s_saidOn s_saidOff s_saidCount, oX1 (a 10) (a 11) (a 12) (a 13) s_range_peaks s_range_windsTold, ai d (a 11) 6 s_range_kinds, ai d (a 13) 12 s_range_winds, oX3 (a 14) (a 15), ai d (a 15) 42 s_now_cells, oX3 (a 16) (a 17), ai d (a 17) 42 w7, ai d (a 22) 6 o8]) X lk_X4_167 dX4_century_107 rfl rfl rfl (Nat.le_of_ble_eq_true rfl) ⟨Nat.le_of_ble_eq_true rfl, Nat.le_of_ble_eq_true rfl, Nat.le_of_ble_eq_true rfl, Nat.le_of_ble_eq_true rfl⟩ rfl [0, 1, 8] (by decide) rfl hf (fun l x9 h => ctX4_pairsAlike l d a s_saidOn s_saidOff s_saidCount s_range_peaks s_range_windsTold o8 (31 : Int32) x9 h) (fun _ => rfl) (fun _ => rfl) (fun x9 hnx9 hf => ?_)
              cases hf
              exact hR _ _ dX4_century_110 rfl
            · refine g_aload_n (pc' := 95) X dX4_century_94 rfl rfl rfl ?_
              refine g_get (pc' := 98) X fl_X4_30 dX4_century_95 rfl 0 rfl rfl ?_
              refine g_callVi0 (pc' := 101) (As := []) (b := (a 16)) (st := []) (w2 := fun x10 => [oX4 a s_saidOn s_saidOff s_saidCount, oX1 (a 10) (a 11) (a 12) (a 13) s_range_peaks s_range_windsTold, ai d (a 11) 6 s_range_kinds, ai d (a 13) 12 s_range_winds, oX3 (a 14) (a 15), ai d (a 15) 42 s_now_cells, oX3 (a 16) (a 17), ai d (a 17) 42 w7, ai d (a 22) 6 o8]) X lk_X4_238 dX4_century_98 rfl rfl rfl (Nat.le_of_ble_eq_true rfl) ⟨Nat.le_of_ble_eq_true rfl, Nat.le_of_ble_eq_true rfl, Nat.le_of_ble_eq_true rfl, Nat.le_of_ble_eq_true rfl⟩ rfl [6, 7] (by decide) rfl hf (fun l x10 h => ctX3_trimmingsOn l d (a 16) (a 17) w7 x10 h) (fun _ => rfl) (fun _ => rfl) (fun x10 hnx10 hf => ?_)
              refine g_goto (tgt := 110) X dX4_century_101 (by decide) ?_
              cases hf
              exact hR _ _ dX4_century_110 rfl
          · refine g_iconst (v := -1) (pc' := 30) X dX4_century_29 rfl (by decide) ?_
            cases hf
            exact hR _ _ dX4_century_30 rfl
-- X4_keep
def fX4_keep (s_now_cells : Nat → Int32) (s_kept_most : Int32) (s_kept_held : Int32) (s_kept_next : Int32) (s_kept_cells : Nat → Int32) : Option (Int32 × Int32 × Int32 × (Nat → Int32)) :=
  if s_kept_held < (2 : Int32) then
    (fX0_layBy 84 s_kept_most s_kept_held s_kept_next s_kept_cells s_now_cells).bind fun (o1, o2, o3) =>
    some (o1, o1, o2, o3)
  else
    some ((-3 : Int32), s_kept_held, s_kept_next, s_kept_cells)
set_option maxHeartbeats 4000000 in
set_option maxRecDepth 100000 in
theorem ctX4_keep (l : Launch) (d : sx_D) (a : Nat → Nat) (s_saidOn : Int32) (s_saidOff : Int32) (s_saidCount : Int32) (s_now_cells : Nat → Int32) (s_kept_most : Int32) (s_kept_held : Int32) (s_kept_next : Int32) (s_kept_cells : Nat → Int32) (r : Int32) (ro1 : Int32) (ro2 : Int32) (ro3 : Nat → Int32) (hf : fX4_keep s_now_cells s_kept_most s_kept_held s_kept_next s_kept_cells = some (r, ro1, ro2, ro3)) : sx_I l d yX4_keep cX4_keep 1 .int 2 [.ref (a 0)] [oX4 a s_saidOn s_saidOff s_saidCount, oX3 (a 14) (a 15), ai d (a 15) 42 s_now_cells, oX0 (a 20) s_kept_most (a 21) s_kept_held s_kept_next, ai d (a 21) 84 s_kept_cells] [oX4 a s_saidOn s_saidOff s_saidCount, oX3 (a 14) (a 15), ai d (a 15) 42 s_now_cells, oX0 (a 20) s_kept_most (a 21) ro1 ro2, ai d (a 21) 84 ro3] r := by
  refine sx_I.intro (lv0 := [some (.ref (a 0))]) (by decide +kernel) (Nat.le_of_ble_eq_true rfl) rfl ?_
  intro κ X hR
  have X : sx_X d κ cX4_keep 1 RX4 (sx_rm 2) := X
  unfold fX4_keep at hf
  refine g_aload_n (pc' := 1) X dX4_keep_0 rfl rfl rfl ?_
  refine g_get (pc' := 4) X fl_X4_42 dX4_keep_1 rfl 0 rfl rfl ?_
  refine g_get (pc' := 7) X fl_X4_158 dX4_keep_4 rfl 3 rfl rfl ?_
  refine g_iconst (v := 2) (pc' := 8) X dX4_keep_7 rfl (by decide) ?_
  refine g_icmp_lt (tgt := 14) (pc' := 11) X dX4_keep_8 (by decide) rfl hf (fun hf => ?_) (fun hf => ?_)
  · refine g_aload_n (pc' := 15) X dX4_keep_14 rfl rfl rfl ?_
    refine g_get (pc' := 18) X fl_X4_42 dX4_keep_15 rfl 0 rfl rfl ?_
    refine g_aload_n (pc' := 19) X dX4_keep_18 rfl rfl rfl ?_
    refine g_get (pc' := 22) X fl_X4_26 dX4_keep_19 rfl 0 rfl rfl ?_
    refine g_callVv3 (pc' := 25) (As := [.ref (a 14)]) (b := (a 20)) (st := []) (w2 := fun o1 o2 o3 => [oX4 a s_saidOn s_saidOff s_saidCount, oX3 (a 14) (a 15), ai d (a 15) 42 s_now_cells, oX0 (a 20) s_kept_most (a 21) o1 o2, ai d (a 21) 84 o3]) X lk_X4_132 dX4_keep_22 rfl rfl rfl (Nat.le_of_ble_eq_true rfl) ⟨Nat.le_of_ble_eq_true rfl, Nat.le_of_ble_eq_true rfl, Nat.le_of_ble_eq_true rfl, Nat.le_of_ble_eq_true rfl⟩ rfl [3, 4, 1, 2] (by decide) rfl hf (fun l o1 o2 o3 h => ctX0_layBy l d (a 20) (a 21) (a 14) (a 15) 84 s_kept_most s_kept_held s_kept_next s_kept_cells s_now_cells o1 o2 o3 h) (fun _ _ _ => rfl) (fun _ _ _ => rfl) (fun o1 o2 o3 hf => ?_)
    refine g_aload_n (pc' := 26) X dX4_keep_25 rfl rfl rfl ?_
    refine g_get (pc' := 29) X fl_X4_42 dX4_keep_26 rfl 0 rfl rfl ?_
    refine g_get (pc' := 32) X fl_X4_158 dX4_keep_29 rfl 3 rfl rfl ?_
    cases hf
    exact hR _ _ dX4_keep_32 rfl
  · refine g_bipush (v := -3) (pc' := 13) X dX4_keep_11 rfl (by decide) ?_
    cases hf
    exact hR _ _ dX4_keep_13 rfl
-- X4_back
def fX4_back (s_now_cells : Nat → Int32) (s_undoable_held : Int32) (s_kept_most : Int32) (s_kept_held : Int32) (s_kept_next : Int32) (s_kept_cells : Nat → Int32) : Option (Int32 × (Nat → Int32) × Int32 × Int32 × Int32) :=
  (fX0_fetch 84 s_kept_most s_kept_held s_kept_next s_kept_cells s_now_cells).bind fun (x1, o2, o3, o4) =>
  if x1 = 0 then
    some ((-2 : Int32), o4, s_undoable_held, o2, o3)
  else
    some (o2, o4, (0 : Int32), o2, o3)
set_option maxHeartbeats 4000000 in
set_option maxRecDepth 100000 in
theorem ctX4_back (l : Launch) (d : sx_D) (a : Nat → Nat) (s_saidOn : Int32) (s_saidOff : Int32) (s_saidCount : Int32) (s_now_cells : Nat → Int32) (s_undoable_most : Int32) (s_undoable_held : Int32) (s_undoable_next : Int32) (s_kept_most : Int32) (s_kept_held : Int32) (s_kept_next : Int32) (s_kept_cells : Nat → Int32) (r : Int32) (ro1 : Nat → Int32) (ro2 : Int32) (ro3 : Int32) (ro4 : Int32) (hf : fX4_back s_now_cells s_undoable_held s_kept_most s_kept_held s_kept_next s_kept_cells = some (r, ro1, ro2, ro3, ro4)) : sx_I l d yX4_back cX4_back 1 .int 2 [.ref (a 0)] [oX4 a s_saidOn s_saidOff s_saidCount, oX3 (a 14) (a 15), ai d (a 15) 42 s_now_cells, oX0 (a 18) s_undoable_most (a 19) s_undoable_held s_undoable_next, oX0 (a 20) s_kept_most (a 21) s_kept_held s_kept_next, ai d (a 21) 84 s_kept_cells] [oX4 a s_saidOn s_saidOff s_saidCount, oX3 (a 14) (a 15), ai d (a 15) 42 ro1, oX0 (a 18) s_undoable_most (a 19) ro2 s_undoable_next, oX0 (a 20) s_kept_most (a 21) ro3 ro4, ai d (a 21) 84 s_kept_cells] r := by
  refine sx_I.intro (lv0 := [some (.ref (a 0))]) (by decide +kernel) (Nat.le_of_ble_eq_true rfl) rfl ?_
  intro κ X hR
  have X : sx_X d κ cX4_back 1 RX4 (sx_rm 2) := X
  unfold fX4_back at hf
  refine g_aload_n (pc' := 1) X dX4_back_0 rfl rfl rfl ?_
  refine g_get (pc' := 4) X fl_X4_42 dX4_back_1 rfl 0 rfl rfl ?_
  refine g_aload_n (pc' := 5) X dX4_back_4 rfl rfl rfl ?_
  refine g_get (pc' := 8) X fl_X4_26 dX4_back_5 rfl 0 rfl rfl ?_
  refine g_callVi3 (pc' := 11) (As := [.ref (a 14)]) (b := (a 20)) (st := []) (w2 := fun x1 o2 o3 o4 => [oX4 a s_saidOn s_saidOff s_saidCount, oX3 (a 14) (a 15), ai d (a 15) 42 o4, oX0 (a 18) s_undoable_most (a 19) s_undoable_held s_undoable_next, oX0 (a 20) s_kept_most (a 21) o2 o3, ai d (a 21) 84 s_kept_cells]) X lk_X4_154 dX4_back_8 rfl rfl rfl (Nat.le_of_ble_eq_true rfl) ⟨Nat.le_of_ble_eq_true rfl, Nat.le_of_ble_eq_true rfl, Nat.le_of_ble_eq_true rfl, Nat.le_of_ble_eq_true rfl⟩ rfl [4, 5, 1, 2] (by decide) rfl hf (fun l x1 o2 o3 o4 h => ctX0_fetch l d (a 20) (a 21) (a 14) (a 15) 84 s_kept_most s_kept_held s_kept_next s_kept_cells s_now_cells x1 o2 o3 o4 h) (fun _ _ _ _ => rfl) (fun _ _ _ _ => rfl) (fun x1 o2 o3 o4 hnx1 hf => ?_)
  refine g_if_ne (tgt := 17) (pc' := 14) X dX4_back_11 (by decide) rfl hf (fun hf => ?_) (fun hf => ?_)
  · refine g_aload_n (pc' := 18) X dX4_back_17 rfl rfl rfl ?_
    refine g_get (pc' := 21) X fl_X4_38 dX4_back_18 rfl 0 rfl rfl ?_
    refine g_iconst (v := 0) (pc' := 22) X dX4_back_21 rfl (by decide) ?_
    refine g_put (pc' := 25) (w2 := [oX4 a s_saidOn s_saidOff s_saidCount, oX3 (a 14) (a 15), ai d (a 15) 42 o4, oX0 (a 18) s_undoable_most (a 19) (0 : Int32) s_undoable_next, oX0 (a 20) s_kept_most (a 21) o2 o3, ai d (a 21) 84 s_kept_cells]) X fl_X4_158 fw_X0 rfl dX4_back_22 rfl 3 rfl rfl rfl (Nat.le_of_ble_eq_true rfl) rfl ?_
    refine g_aload_n (pc' := 26) X dX4_back_25 rfl rfl rfl ?_
    refine g_get (pc' := 29) X fl_X4_42 dX4_back_26 rfl 0 rfl rfl ?_
    refine g_get (pc' := 32) X fl_X4_158 dX4_back_29 rfl 4 rfl rfl ?_
    cases hf
    exact hR _ _ dX4_back_32 rfl
  · refine g_bipush (v := -2) (pc' := 16) X dX4_back_14 rfl (by decide) ?_
    cases hf
    exact hR _ _ dX4_back_16 rfl
-- X4_peaksKnownAsThemselves
def bX4_peaksKnownAsThemselves_4 (s_range_peaks : Int32) (s_now_cells : Nat → Int32) : (Int32 × Int32) → Option ((Int32 × Int32) ⊕ (Int32)) := fun (v1, v2) =>
  if s_range_peaks ≤ v2 then
    some (.inr v1)
  else
    (fX3_guideOf s_now_cells v2).bind fun x1 =>
    (fX4_knownBy s_range_peaks s_now_cells x1).bind fun x2 =>
    if x2 = v2 then
      some (.inl (v1 + (1 : Int32), v2 + (1 : Int32)))
    else
      some (.inl (v1, v2 + (1 : Int32)))
def fX4_peaksKnownAsThemselves (s_range_peaks : Int32) (s_now_cells : Nat → Int32) : Option (Int32) :=
  (sx_it 1000 (bX4_peaksKnownAsThemselves_4 s_range_peaks s_now_cells) ((0 : Int32), (0 : Int32))).bind fun w4 =>
  some w4
set_option maxHeartbeats 4000000 in
set_option maxRecDepth 100000 in
theorem lX4_peaksKnownAsThemselves_4 (d : sx_D) (κ : sx_C) (a : Nat → Nat) (s_saidOn : Int32) (s_saidOff : Int32) (s_saidCount : Int32) (s_range_peaks : Int32) (s_range_windsTold : Int32) (s_now_cells : Nat → Int32) (X : sx_X d κ cX4_peaksKnownAsThemselves 3 RX4 (sx_rm 4)) (y : Int32) (hE40 : ∀ (v1 : Int32), v1 = y → sx_G d κ 3 0 0 40 [none, some (.int v1), none] [] [oX4 a s_saidOn s_saidOff s_saidCount, oX1 (a 10) (a 11) (a 12) (a 13) s_range_peaks s_range_windsTold, oX3 (a 14) (a 15), ai d (a 15) 42 s_now_cells]) : ∀ (n : Nat) (s : Int32 × Int32), sx_it n (bX4_peaksKnownAsThemselves_4 s_range_peaks s_now_cells) s = some y → (match s with | (v1, v2) => sx_G d κ 3 0 0 4 [some (.ref (a 0)), some (.int v1), some (.int v2)] [] [oX4 a s_saidOn s_saidOff s_saidCount, oX1 (a 10) (a 11) (a 12) (a 13) s_range_peaks s_range_windsTold, oX3 (a 14) (a 15), ai d (a 15) 42 s_now_cells]) := by
  refine sx_it_run (bX4_peaksKnownAsThemselves_4 s_range_peaks s_now_cells) (fun s => match s with | (v1, v2) => sx_G d κ 3 0 0 4 [some (.ref (a 0)), some (.int v1), some (.int v2)] [] [oX4 a s_saidOn s_saidOff s_saidCount, oX1 (a 10) (a 11) (a 12) (a 13) s_range_peaks s_range_windsTold, oX3 (a 14) (a 15), ai d (a 15) 42 s_now_cells]) y ?_
  rintro ⟨v1, v2⟩ x hf hb he
  show sx_G d κ 3 0 0 4 [some (.ref (a 0)), some (.int v1), some (.int v2)] [] [oX4 a s_saidOn s_saidOff s_saidCount, oX1 (a 10) (a 11) (a 12) (a 13) s_range_peaks s_range_windsTold, oX3 (a 14) (a 15), ai d (a 15) 42 s_now_cells]
  unfold bX4_peaksKnownAsThemselves_4 at hf
  refine g_iload_n (pc' := 5) X dX4_peaksKnownAsThemselves_4 rfl rfl rfl ?_
  refine g_aload_n (pc' := 6) X dX4_peaksKnownAsThemselves_5 rfl rfl rfl ?_
  refine g_get (pc' := 9) X fl_X4_19 dX4_peaksKnownAsThemselves_6 rfl 0 rfl rfl ?_
  refine g_get (pc' := 12) X fl_X4_80 dX4_peaksKnownAsThemselves_9 rfl 1 rfl rfl ?_
  refine g_icmp_ge (tgt := 40) (pc' := 15) X dX4_peaksKnownAsThemselves_12 (by decide) rfl hf (fun hf => ?_) (fun hf => ?_)
  · exact sx_weak [false, true, false] rfl (hE40 _ (sx_ex hf he))
  · refine g_aload_n (pc' := 16) X dX4_peaksKnownAsThemselves_15 rfl rfl rfl ?_
    refine g_aload_n (pc' := 17) X dX4_peaksKnownAsThemselves_16 rfl rfl rfl ?_
    refine g_get (pc' := 20) X fl_X4_26 dX4_peaksKnownAsThemselves_17 rfl 0 rfl rfl ?_
    refine g_iload_n (pc' := 21) X dX4_peaksKnownAsThemselves_20 rfl rfl rfl ?_
    refine g_callVi0 (pc' := 24) (As := [.int v2]) (b := (a 14)) (st := [.ref (a 0)]) (w2 := fun x1 => [oX4 a s_saidOn s_saidOff s_saidCount, oX1 (a 10) (a 11) (a 12) (a 13) s_range_peaks s_range_windsTold, oX3 (a 14) (a 15), ai d (a 15) 42 s_now_cells]) X lk_X4_97 dX4_peaksKnownAsThemselves_21 rfl rfl rfl (Nat.le_of_ble_eq_true rfl) ⟨Nat.le_of_ble_eq_true rfl, Nat.le_of_ble_eq_true rfl, Nat.le_of_ble_eq_true rfl, Nat.le_of_ble_eq_true rfl⟩ rfl [2, 3] (by decide) rfl hf (fun l x1 h => ctX3_guideOf l d (a 14) (a 15) s_now_cells v2 x1 h) (fun _ => rfl) (fun _ => rfl) (fun x1 hnx1 hf => ?_)
    refine g_callVi0 (pc' := 27) (As := [.int x1]) (b := (a 0)) (st := []) (w2 := fun x2 => [oX4 a s_saidOn s_saidOff s_saidCount, oX1 (a 10) (a 11) (a 12) (a 13) s_range_peaks s_range_windsTold, oX3 (a 14) (a 15), ai d (a 15) 42 s_now_cells]) X lk_X4_173 dX4_peaksKnownAsThemselves_24 rfl rfl rfl (Nat.le_of_ble_eq_true rfl) ⟨Nat.le_of_ble_eq_true rfl, Nat.le_of_ble_eq_true rfl, Nat.le_of_ble_eq_true rfl, Nat.le_of_ble_eq_true rfl⟩ rfl [0, 1, 2, 3] (by decide) rfl hf (fun l x2 h => ctX4_knownBy l d a s_saidOn s_saidOff s_saidCount s_range_peaks s_range_windsTold s_now_cells x1 x2 h) (fun _ => rfl) (fun _ => rfl) (fun x2 hnx2 hf => ?_)
    refine g_iload_n (pc' := 28) X dX4_peaksKnownAsThemselves_27 rfl rfl rfl ?_
    refine g_icmp_ne (tgt := 34) (pc' := 31) X dX4_peaksKnownAsThemselves_28 (by decide) rfl hf (fun hf => ?_) (fun hf => ?_)
    · refine g_iinc (v := 1) (lv' := [some (.ref (a 0)), some (.int v1), some (.int (v2 + (1 : Int32)))]) (pc' := 37) X dX4_peaksKnownAsThemselves_34 rfl rfl (by decide) (by decide) rfl rfl ?_
      refine g_goto (tgt := 4) X dX4_peaksKnownAsThemselves_37 (by decide) ?_
      have hk := sx_bk hf hb
      exact sx_weak [true, true, true] rfl hk
    · refine g_iinc (v := 1) (lv' := [some (.ref (a 0)), some (.int (v1 + (1 : Int32))), some (.int v2)]) (pc' := 34) X dX4_peaksKnownAsThemselves_31 rfl rfl (by decide) (by decide) rfl rfl ?_
      refine g_iinc (v := 1) (lv' := [some (.ref (a 0)), some (.int (v1 + (1 : Int32))), some (.int (v2 + (1 : Int32)))]) (pc' := 37) X dX4_peaksKnownAsThemselves_34 rfl rfl (by decide) (by decide) rfl rfl ?_
      refine g_goto (tgt := 4) X dX4_peaksKnownAsThemselves_37 (by decide) ?_
      have hk := sx_bk hf hb
      exact sx_weak [true, true, true] rfl hk
set_option maxHeartbeats 4000000 in
set_option maxRecDepth 100000 in
theorem ctX4_peaksKnownAsThemselves (l : Launch) (d : sx_D) (a : Nat → Nat) (s_saidOn : Int32) (s_saidOff : Int32) (s_saidCount : Int32) (s_range_peaks : Int32) (s_range_windsTold : Int32) (s_now_cells : Nat → Int32) (r : Int32) (hf : fX4_peaksKnownAsThemselves s_range_peaks s_now_cells = some r) : sx_I l d yX4_peaksKnownAsThemselves cX4_peaksKnownAsThemselves 3 .int 4 [.ref (a 0)] [oX4 a s_saidOn s_saidOff s_saidCount, oX1 (a 10) (a 11) (a 12) (a 13) s_range_peaks s_range_windsTold, oX3 (a 14) (a 15), ai d (a 15) 42 s_now_cells] [oX4 a s_saidOn s_saidOff s_saidCount, oX1 (a 10) (a 11) (a 12) (a 13) s_range_peaks s_range_windsTold, oX3 (a 14) (a 15), ai d (a 15) 42 s_now_cells] r := by
  refine sx_I.intro (lv0 := [some (.ref (a 0)), none, none]) (by decide +kernel) (Nat.le_of_ble_eq_true rfl) rfl ?_
  intro κ X hR
  have X : sx_X d κ cX4_peaksKnownAsThemselves 3 RX4 (sx_rm 4) := X
  unfold fX4_peaksKnownAsThemselves at hf
  refine g_iconst (v := 0) (pc' := 1) X dX4_peaksKnownAsThemselves_0 rfl (by decide) ?_
  refine g_istore_n (lv' := [some (.ref (a 0)), some (.int (0 : Int32)), none]) (pc' := 2) X dX4_peaksKnownAsThemselves_1 rfl rfl (by decide) rfl rfl ?_
  refine g_iconst (v := 0) (pc' := 3) X dX4_peaksKnownAsThemselves_2 rfl (by decide) ?_
  refine g_istore_n (lv' := [some (.ref (a 0)), some (.int (0 : Int32)), some (.int (0 : Int32))]) (pc' := 4) X dX4_peaksKnownAsThemselves_3 rfl rfl (by decide) rfl rfl ?_
  obtain ⟨y3, hy3, hf⟩ := sx_bd hf
  refine sx_weak [true, true, true] rfl (lX4_peaksKnownAsThemselves_4 d κ a s_saidOn s_saidOff s_saidCount s_range_peaks s_range_windsTold s_now_cells X y3 ?_ 1000 ((0 : Int32), (0 : Int32)) hy3)
  rintro w4 rfl
  refine g_iload_n (pc' := 41) X dX4_peaksKnownAsThemselves_40 rfl rfl rfl ?_
  cases hf
  exact hR _ _ dX4_peaksKnownAsThemselves_41 rfl
-- X4_count
def fX4_count (s_saidCount : Int32) (s_scribe_length : Int32) (s_range_peaks : Int32) (s_now_cells : Nat → Int32) (s_undoable_held : Int32) (s_kept_held : Int32) (v1 : Int32) : Option (Int32) :=
  if v1 = (0 : Int32) then
    some s_range_peaks
  else
  if v1 = (1 : Int32) then
    (fX3_yearNow s_now_cells).bind fun x1 =>
    some x1
  else
  if v1 = (2 : Int32) then
    (fX3_trimmingsOn s_now_cells).bind fun x2 =>
    some x2
  else
  if v1 = (3 : Int32) then
    (fX3_sumOf s_now_cells (30 : Int32) (5 : Int32)).bind fun x3 =>
    some x3
  else
  if v1 = (4 : Int32) then
    (fX3_sumOf s_now_cells (0 : Int32) (30 : Int32)).bind fun x4 =>
    some x4
  else
  if v1 = (5 : Int32) then
    (fX4_peaksKnownAsThemselves s_range_peaks s_now_cells).bind fun x5 =>
    some x5
  else
  if v1 = (6 : Int32) then
    some s_saidCount
  else
  if v1 = (7 : Int32) then
    some s_undoable_held
  else
  if v1 = (8 : Int32) then
    some s_kept_held
  else
  if v1 = (9 : Int32) then
    some s_scribe_length
  else
    some (-1 : Int32)
set_option maxHeartbeats 4000000 in
set_option maxRecDepth 100000 in
theorem ctX4_count (l : Launch) (d : sx_D) (a : Nat → Nat) (s_saidOn : Int32) (s_saidOff : Int32) (s_saidCount : Int32) (s_scribe_length : Int32) (s_scribe_at : Int32) (s_range_peaks : Int32) (s_range_windsTold : Int32) (s_now_cells : Nat → Int32) (s_undoable_most : Int32) (s_undoable_held : Int32) (s_undoable_next : Int32) (s_kept_most : Int32) (s_kept_held : Int32) (s_kept_next : Int32) (v1 : Int32) (r : Int32) (hf : fX4_count s_saidCount s_scribe_length s_range_peaks s_now_cells s_undoable_held s_kept_held v1 = some r) : sx_I l d yX4_count cX4_count 2 .int 5 [.ref (a 0), .int v1] [oX4 a s_saidOn s_saidOff s_saidCount, oX2 (a 1) (a 2) (a 3) (a 4) (a 8) s_scribe_length s_scribe_at, oX1 (a 10) (a 11) (a 12) (a 13) s_range_peaks s_range_windsTold, oX3 (a 14) (a 15), ai d (a 15) 42 s_now_cells, oX0 (a 18) s_undoable_most (a 19) s_undoable_held s_undoable_next, oX0 (a 20) s_kept_most (a 21) s_kept_held s_kept_next] [oX4 a s_saidOn s_saidOff s_saidCount, oX2 (a 1) (a 2) (a 3) (a 4) (a 8) s_scribe_length s_scribe_at, oX1 (a 10) (a 11) (a 12) (a 13) s_range_peaks s_range_windsTold, oX3 (a 14) (a 15), ai d (a 15) 42 s_now_cells, oX0 (a 18) s_undoable_most (a 19) s_undoable_held s_undoable_next, oX0 (a 20) s_kept_most (a 21) s_kept_held s_kept_next] r := by
  refine sx_I.intro (lv0 := [some (.ref (a 0)), some (.int v1)]) (by decide +kernel) (Nat.le_of_ble_eq_true rfl) rfl ?_
  intro κ X hR
  have X : sx_X d κ cX4_count 2 RX4 (sx_rm 5) := X
  unfold fX4_count at hf
  refine g_iload_n (pc' := 1) X dX4_count_0 rfl rfl rfl ?_
  by_cases h0 : v1 = (0 : Int32)
  · rw [if_pos h0] at hf
    refine g_tabIn (tgt := 56) X dX4_count_1 (by rw [h0]; decide) (by rw [h0]; decide) (by rw [h0]; rfl) (by decide) ?_
    refine g_aload_n (pc' := 57) X dX4_count_56 rfl rfl rfl ?_
    refine g_get (pc' := 60) X fl_X4_19 dX4_count_57 rfl 0 rfl rfl ?_
    refine g_get (pc' := 63) X fl_X4_80 dX4_count_60 rfl 2 rfl rfl ?_
    cases hf
    exact hR _ _ dX4_count_63 rfl
  rw [if_neg h0] at hf
  by_cases h1 : v1 = (1 : Int32)
  · rw [if_pos h1] at hf
    refine g_tabIn (tgt := 64) X dX4_count_1 (by rw [h1]; decide) (by rw [h1]; decide) (by rw [h1]; rfl) (by decide) ?_
    refine g_aload_n (pc' := 65) X dX4_count_64 rfl rfl rfl ?_
    refine g_get (pc' := 68) X fl_X4_26 dX4_count_65 rfl 0 rfl rfl ?_
    refine g_callVi0 (pc' := 71) (As := []) (b := (a 14)) (st := []) (w2 := fun x1 => [oX4 a s_saidOn s_saidOff s_saidCount, oX2 (a 1) (a 2) (a 3) (a 4) (a 8) s_scribe_length s_scribe_at, oX1 (a 10) (a 11) (a 12) (a 13) s_range_peaks s_range_windsTold, oX3 (a 14) (a 15), ai d (a 15) 42 s_now_cells, oX0 (a 18) s_undoable_most (a 19) s_undoable_held s_undoable_next, oX0 (a 20) s_kept_most (a 21) s_kept_held s_kept_next]) X lk_X4_100 dX4_count_68 rfl rfl rfl (Nat.le_of_ble_eq_true rfl) ⟨Nat.le_of_ble_eq_true rfl, Nat.le_of_ble_eq_true rfl, Nat.le_of_ble_eq_true rfl, Nat.le_of_ble_eq_true rfl⟩ rfl [3, 4] (by decide) rfl hf (fun l x1 h => ctX3_yearNow l d (a 14) (a 15) s_now_cells x1 h) (fun _ => rfl) (fun _ => rfl) (fun x1 hnx1 hf => ?_)
    cases hf
    exact hR _ _ dX4_count_71 rfl
  rw [if_neg h1] at hf
  by_cases h2 : v1 = (2 : Int32)
  · rw [if_pos h2] at hf
    refine g_tabIn (tgt := 72) X dX4_count_1 (by rw [h2]; decide) (by rw [h2]; decide) (by rw [h2]; rfl) (by decide) ?_
    refine g_aload_n (pc' := 73) X dX4_count_72 rfl rfl rfl ?_
    refine g_get (pc' := 76) X fl_X4_26 dX4_count_73 rfl 0 rfl rfl ?_
    refine g_callVi0 (pc' := 79) (As := []) (b := (a 14)) (st := []) (w2 := fun x2 => [oX4 a s_saidOn s_saidOff s_saidCount, oX2 (a 1) (a 2) (a 3) (a 4) (a 8) s_scribe_length s_scribe_at, oX1 (a 10) (a 11) (a 12) (a 13) s_range_peaks s_range_windsTold, oX3 (a 14) (a 15), ai d (a 15) 42 s_now_cells, oX0 (a 18) s_undoable_most (a 19) s_undoable_held s_undoable_next, oX0 (a 20) s_kept_most (a 21) s_kept_held s_kept_next]) X lk_X4_238 dX4_count_76 rfl rfl rfl (Nat.le_of_ble_eq_true rfl) ⟨Nat.le_of_ble_eq_true rfl, Nat.le_of_ble_eq_true rfl, Nat.le_of_ble_eq_true rfl, Nat.le_of_ble_eq_true rfl⟩ rfl [3, 4] (by decide) rfl hf (fun l x2 h => ctX3_trimmingsOn l d (a 14) (a 15) s_now_cells x2 h) (fun _ => rfl) (fun _ => rfl) (fun x2 hnx2 hf => ?_)
    cases hf
    exact hR _ _ dX4_count_79 rfl
  rw [if_neg h2] at hf
  by_cases h3 : v1 = (3 : Int32)
  · rw [if_pos h3] at hf
    refine g_tabIn (tgt := 80) X dX4_count_1 (by rw [h3]; decide) (by rw [h3]; decide) (by rw [h3]; rfl) (by decide) ?_
    refine g_aload_n (pc' := 81) X dX4_count_80 rfl rfl rfl ?_
    refine g_get (pc' := 84) X fl_X4_26 dX4_count_81 rfl 0 rfl rfl ?_
    refine g_bipush (v := 30) (pc' := 86) X dX4_count_84 rfl (by decide) ?_
    refine g_iconst (v := 5) (pc' := 87) X dX4_count_86 rfl (by decide) ?_
    refine g_callVi0 (pc' := 90) (As := [.int (30 : Int32), .int (5 : Int32)]) (b := (a 14)) (st := []) (w2 := fun x3 => [oX4 a s_saidOn s_saidOff s_saidCount, oX2 (a 1) (a 2) (a 3) (a 4) (a 8) s_scribe_length s_scribe_at, oX1 (a 10) (a 11) (a 12) (a 13) s_range_peaks s_range_windsTold, oX3 (a 14) (a 15), ai d (a 15) 42 s_now_cells, oX0 (a 18) s_undoable_most (a 19) s_undoable_held s_undoable_next, oX0 (a 20) s_kept_most (a 21) s_kept_held s_kept_next]) X lk_X4_241 dX4_count_87 rfl rfl rfl (Nat.le_of_ble_eq_true rfl) ⟨Nat.le_of_ble_eq_true rfl, Nat.le_of_ble_eq_true rfl, Nat.le_of_ble_eq_true rfl, Nat.le_of_ble_eq_true rfl⟩ rfl [3, 4] (by decide) rfl hf (fun l x3 h => ctX3_sumOf l d (a 14) (a 15) s_now_cells (30 : Int32) (5 : Int32) x3 h) (fun _ => rfl) (fun _ => rfl) (fun x3 hnx3 hf => ?_)
    cases hf
    exact hR _ _ dX4_count_90 rfl
  rw [if_neg h3] at hf
  by_cases h4 : v1 = (4 : Int32)
  · rw [if_pos h4] at hf
    refine g_tabIn (tgt := 91) X dX4_count_1 (by rw [h4]; decide) (by rw [h4]; decide) (by rw [h4]; rfl) (by decide) ?_
    refine g_aload_n (pc' := 92) X dX4_count_91 rfl rfl rfl ?_
    refine g_get (pc' := 95) X fl_X4_26 dX4_count_92 rfl 0 rfl rfl ?_
    refine g_iconst (v := 0) (pc' := 96) X dX4_count_95 rfl (by decide) ?_
    refine g_bipush (v := 30) (pc' := 98) X dX4_count_96 rfl (by decide) ?_
    refine g_callVi0 (pc' := 101) (As := [.int (0 : Int32), .int (30 : Int32)]) (b := (a 14)) (st := []) (w2 := fun x4 => [oX4 a s_saidOn s_saidOff s_saidCount, oX2 (a 1) (a 2) (a 3) (a 4) (a 8) s_scribe_length s_scribe_at, oX1 (a 10) (a 11) (a 12) (a 13) s_range_peaks s_range_windsTold, oX3 (a 14) (a 15), ai d (a 15) 42 s_now_cells, oX0 (a 18) s_undoable_most (a 19) s_undoable_held s_undoable_next, oX0 (a 20) s_kept_most (a 21) s_kept_held s_kept_next]) X lk_X4_241 dX4_count_98 rfl rfl rfl (Nat.le_of_ble_eq_true rfl) ⟨Nat.le_of_ble_eq_true rfl, Nat.le_of_ble_eq_true rfl, Nat.le_of_ble_eq_true rfl, Nat.le_of_ble_eq_true rfl⟩ rfl [3, 4] (by decide) rfl hf (fun l x4 h => ctX3_sumOf l d (a 14) (a 15) s_now_cells (0 : Int32) (30 : Int32) x4 h) (fun _ => rfl) (fun _ => rfl) (fun x4 hnx4 hf => ?_)
    cases hf
    exact hR _ _ dX4_count_101 rfl
  rw [if_neg h4] at hf
  by_cases h5 : v1 = (5 : Int32)
  · rw [if_pos h5] at hf
    refine g_tabIn (tgt := 102) X dX4_count_1 (by rw [h5]; decide) (by rw [h5]; decide) (by rw [h5]; rfl) (by decide) ?_
    refine g_aload_n (pc' := 103) X dX4_count_102 rfl rfl rfl ?_
    refine g_callVi0 (pc' := 106) (As := []) (b := (a 0)) (st := []) (w2 := fun x5 => [oX4 a s_saidOn s_saidOff s_saidCount, oX2 (a 1) (a 2) (a 3) (a 4) (a 8) s_scribe_length s_scribe_at, oX1 (a 10) (a 11) (a 12) (a 13) s_range_peaks s_range_windsTold, oX3 (a 14) (a 15), ai d (a 15) 42 s_now_cells, oX0 (a 18) s_undoable_most (a 19) s_undoable_held s_undoable_next, oX0 (a 20) s_kept_most (a 21) s_kept_held s_kept_next]) X lk_X4_244 dX4_count_103 rfl rfl rfl (Nat.le_of_ble_eq_true rfl) ⟨Nat.le_of_ble_eq_true rfl, Nat.le_of_ble_eq_true rfl, Nat.le_of_ble_eq_true rfl, Nat.le_of_ble_eq_true rfl⟩ rfl [0, 2, 3, 4] (by decide) rfl hf (fun l x5 h => ctX4_peaksKnownAsThemselves l d a s_saidOn s_saidOff s_saidCount s_range_peaks s_range_windsTold s_now_cells x5 h) (fun _ => rfl) (fun _ => rfl) (fun x5 hnx5 hf => ?_)
    cases hf
    exact hR _ _ dX4_count_106 rfl
  rw [if_neg h5] at hf
  by_cases h6 : v1 = (6 : Int32)
  · rw [if_pos h6] at hf
    refine g_tabIn (tgt := 107) X dX4_count_1 (by rw [h6]; decide) (by rw [h6]; decide) (by rw [h6]; rfl) (by decide) ?_
    refine g_aload_n (pc' := 108) X dX4_count_107 rfl rfl rfl ?_
    refine g_get (pc' := 111) X fl_X4_200 dX4_count_108 rfl 0 rfl rfl ?_
    cases hf
    exact hR _ _ dX4_count_111 rfl
  rw [if_neg h6] at hf
  by_cases h7 : v1 = (7 : Int32)
  · rw [if_pos h7] at hf
    refine g_tabIn (tgt := 112) X dX4_count_1 (by rw [h7]; decide) (by rw [h7]; decide) (by rw [h7]; rfl) (by decide) ?_
    refine g_aload_n (pc' := 113) X dX4_count_112 rfl rfl rfl ?_
    refine g_get (pc' := 116) X fl_X4_38 dX4_count_113 rfl 0 rfl rfl ?_
    refine g_get (pc' := 119) X fl_X4_158 dX4_count_116 rfl 5 rfl rfl ?_
    cases hf
    exact hR _ _ dX4_count_119 rfl
  rw [if_neg h7] at hf
  by_cases h8 : v1 = (8 : Int32)
  · rw [if_pos h8] at hf
    refine g_tabIn (tgt := 120) X dX4_count_1 (by rw [h8]; decide) (by rw [h8]; decide) (by rw [h8]; rfl) (by decide) ?_
    refine g_aload_n (pc' := 121) X dX4_count_120 rfl rfl rfl ?_
    refine g_get (pc' := 124) X fl_X4_42 dX4_count_121 rfl 0 rfl rfl ?_
    refine g_get (pc' := 127) X fl_X4_158 dX4_count_124 rfl 6 rfl rfl ?_
    cases hf
    exact hR _ _ dX4_count_127 rfl
  rw [if_neg h8] at hf
  by_cases h9 : v1 = (9 : Int32)
  · rw [if_pos h9] at hf
    refine g_tabIn (tgt := 128) X dX4_count_1 (by rw [h9]; decide) (by rw [h9]; decide) (by rw [h9]; rfl) (by decide) ?_
    refine g_aload_n (pc' := 129) X dX4_count_128 rfl rfl rfl ?_
    refine g_get (pc' := 132) X fl_X4_10 dX4_count_129 rfl 0 rfl rfl ?_
    refine g_get (pc' := 135) X fl_X4_68 dX4_count_132 rfl 1 rfl rfl ?_
    cases hf
    exact hR _ _ dX4_count_135 rfl
  rw [if_neg h9] at hf
  have k0 := lv_neT h0 (a := 0) (by decide)
  have k1 := lv_neT h1 (a := 1) (by decide)
  have k2 := lv_neT h2 (a := 2) (by decide)
  have k3 := lv_neT h3 (a := 3) (by decide)
  have k4 := lv_neT h4 (a := 4) (by decide)
  have k5 := lv_neT h5 (a := 5) (by decide)
  have k6 := lv_neT h6 (a := 6) (by decide)
  have k7 := lv_neT h7 (a := 7) (by decide)
  have k8 := lv_neT h8 (a := 8) (by decide)
  have k9 := lv_neT h9 (a := 9) (by decide)
  refine g_tabOut (tgt := 136) X dX4_count_1 (by omega) (by decide) ?_
  refine g_iconst (v := -1) (pc' := 137) X dX4_count_136 rfl (by decide) ?_
  cases hf
  exact hR _ _ dX4_count_137 rfl

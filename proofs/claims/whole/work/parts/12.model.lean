-- X5_in
def fX5_in (v0 : Int32) (v1 : Int32) (v2 : Int32) : Option (Int32) :=
  if v0 < v1 then
    some (0 : Int32)
  else
    if v2 < v0 then
      some (0 : Int32)
    else
      some (1 : Int32)
set_option maxHeartbeats 4000000 in
set_option maxRecDepth 100000 in
theorem ctX5_in (l : Launch) (d : sx_D) (v0 : Int32) (v1 : Int32) (v2 : Int32) (r : Int32) (hf : fX5_in v0 v1 v2 = some r) : sx_I l d yX5_in cX5_in 3 .boolean 0 [.int v0, .int v1, .int v2] [] [] r := by
  refine sx_I.intro (lv0 := [some (.int v0), some (.int v1), some (.int v2)]) (by decide +kernel) (Nat.le_of_ble_eq_true rfl) rfl ?_
  intro κ X hR
  have X : sx_X d κ cX5_in 3 RX5 (sx_rm 0) := X
  unfold fX5_in at hf
  refine g_iload_n (pc' := 1) X dX5_in_0 rfl rfl rfl ?_
  refine g_iload_n (pc' := 2) X dX5_in_1 rfl rfl rfl ?_
  refine g_icmp_lt (tgt := 14) (pc' := 5) X dX5_in_2 (by decide) rfl hf (fun hf => ?_) (fun hf => ?_)
  · refine g_iconst (v := 0) (pc' := 15) X dX5_in_14 rfl (by decide) ?_
    cases hf
    exact hR _ _ dX5_in_15 rfl
  · refine g_iload_n (pc' := 6) X dX5_in_5 rfl rfl rfl ?_
    refine g_iload_n (pc' := 7) X dX5_in_6 rfl rfl rfl ?_
    refine g_icmp_gt (tgt := 14) (pc' := 10) X dX5_in_7 (by decide) rfl hf (fun hf => ?_) (fun hf => ?_)
    · refine g_iconst (v := 0) (pc' := 15) X dX5_in_14 rfl (by decide) ?_
      cases hf
      exact hR _ _ dX5_in_15 rfl
    · refine g_iconst (v := 1) (pc' := 11) X dX5_in_10 rfl (by decide) ?_
      refine g_goto (tgt := 15) X dX5_in_11 (by decide) ?_
      cases hf
      exact hR _ _ dX5_in_15 rfl
-- X5_has
def fX5_has (v0 : Int32) (v1 : Int32) : Option (Int32) :=
  if ((v0 >>> (v1 &&& 31)) &&& (1 : Int32)) = (1 : Int32) then
    some (1 : Int32)
  else
    some (0 : Int32)
set_option maxHeartbeats 4000000 in
set_option maxRecDepth 100000 in
theorem ctX5_has (l : Launch) (d : sx_D) (v0 : Int32) (v1 : Int32) (r : Int32) (hf : fX5_has v0 v1 = some r) : sx_I l d yX5_has cX5_has 2 .boolean 0 [.int v0, .int v1] [] [] r := by
  refine sx_I.intro (lv0 := [some (.int v0), some (.int v1)]) (by decide +kernel) (Nat.le_of_ble_eq_true rfl) rfl ?_
  intro κ X hR
  have X : sx_X d κ cX5_has 2 RX5 (sx_rm 0) := X
  unfold fX5_has at hf
  refine g_iload_n (pc' := 1) X dX5_has_0 rfl rfl rfl ?_
  refine g_iload_n (pc' := 2) X dX5_has_1 rfl rfl rfl ?_
  refine g_ishr (pc' := 3) X dX5_has_2 rfl ?_
  refine g_iconst (v := 1) (pc' := 4) X dX5_has_3 rfl (by decide) ?_
  refine g_iand (pc' := 5) X dX5_has_4 rfl ?_
  refine g_iconst (v := 1) (pc' := 6) X dX5_has_5 rfl (by decide) ?_
  refine g_icmp_ne (tgt := 13) (pc' := 9) X dX5_has_6 (by decide) rfl hf (fun hf => ?_) (fun hf => ?_)
  · refine g_iconst (v := 0) (pc' := 14) X dX5_has_13 rfl (by decide) ?_
    cases hf
    exact hR _ _ dX5_has_14 rfl
  · refine g_iconst (v := 1) (pc' := 10) X dX5_has_9 rfl (by decide) ?_
    refine g_goto (tgt := 14) X dX5_has_10 (by decide) ?_
    cases hf
    exact hR _ _ dX5_has_14 rfl
-- X5_greater
def fX5_greater (v0 : Int32) (v1 : Int32) : Option (Int32) :=
  if v0 ≤ v1 then
    some v1
  else
    some v0
set_option maxHeartbeats 4000000 in
set_option maxRecDepth 100000 in
theorem ctX5_greater (l : Launch) (d : sx_D) (v0 : Int32) (v1 : Int32) (r : Int32) (hf : fX5_greater v0 v1 = some r) : sx_I l d yX5_greater cX5_greater 2 .int 0 [.int v0, .int v1] [] [] r := by
  refine sx_I.intro (lv0 := [some (.int v0), some (.int v1)]) (by decide +kernel) (Nat.le_of_ble_eq_true rfl) rfl ?_
  intro κ X hR
  have X : sx_X d κ cX5_greater 2 RX5 (sx_rm 0) := X
  unfold fX5_greater at hf
  refine g_iload_n (pc' := 1) X dX5_greater_0 rfl rfl rfl ?_
  refine g_iload_n (pc' := 2) X dX5_greater_1 rfl rfl rfl ?_
  refine g_icmp_le (tgt := 9) (pc' := 5) X dX5_greater_2 (by decide) rfl hf (fun hf => ?_) (fun hf => ?_)
  · refine g_iload_n (pc' := 10) X dX5_greater_9 rfl rfl rfl ?_
    cases hf
    exact hR _ _ dX5_greater_10 rfl
  · refine g_iload_n (pc' := 6) X dX5_greater_5 rfl rfl rfl ?_
    refine g_goto (tgt := 10) X dX5_greater_6 (by decide) ?_
    cases hf
    exact hR _ _ dX5_greater_10 rfl
-- X5_bits
def bX5_bits_4 (v0 : Int32) : (Int32 × Int32) → Option ((Int32 × Int32) ⊕ (Int32)) := fun (v1, v2) =>
  if (6 : Int32) ≤ v2 then
    some (.inr v1)
  else
    sx_lt (v1 + ((v0 >>> (v2 &&& 31)) &&& (1 : Int32))) fun x1 =>
    some (.inl (x1, v2 + (1 : Int32)))
def fX5_bits (v0 : Int32) : Option (Int32) :=
  (sx_it 1000 (bX5_bits_4 v0) ((0 : Int32), (0 : Int32))).bind fun w3 =>
  some w3
set_option maxHeartbeats 4000000 in
set_option maxRecDepth 100000 in
theorem lX5_bits_4 (d : sx_D) (κ : sx_C) (v0 : Int32) (X : sx_X d κ cX5_bits 3 RX5 (sx_rm 0)) (y : Int32) (hE24 : ∀ (v1 : Int32), v1 = y → sx_G d κ 3 0 0 24 [none, some (.int v1), none] [] []) : ∀ (n : Nat) (s : Int32 × Int32), sx_it n (bX5_bits_4 v0) s = some y → (match s with | (v1, v2) => sx_G d κ 3 0 0 4 [some (.int v0), some (.int v1), some (.int v2)] [] []) := by
  refine sx_it_run (bX5_bits_4 v0) (fun s => match s with | (v1, v2) => sx_G d κ 3 0 0 4 [some (.int v0), some (.int v1), some (.int v2)] [] []) y ?_
  rintro ⟨v1, v2⟩ x hf hb he
  show sx_G d κ 3 0 0 4 [some (.int v0), some (.int v1), some (.int v2)] [] []
  unfold bX5_bits_4 at hf
  refine g_iload_n (pc' := 5) X dX5_bits_4 rfl rfl rfl ?_
  refine g_bipush (v := 6) (pc' := 7) X dX5_bits_5 rfl (by decide) ?_
  refine g_icmp_ge (tgt := 24) (pc' := 10) X dX5_bits_7 (by decide) rfl hf (fun hf => ?_) (fun hf => ?_)
  · exact sx_weak [false, true, false] rfl (hE24 _ (sx_ex hf he))
  · refine g_iload_n (pc' := 11) X dX5_bits_10 rfl rfl rfl ?_
    refine g_iload_n (pc' := 12) X dX5_bits_11 rfl rfl rfl ?_
    refine g_iload_n (pc' := 13) X dX5_bits_12 rfl rfl rfl ?_
    refine g_ishr (pc' := 14) X dX5_bits_13 rfl ?_
    refine g_iconst (v := 1) (pc' := 15) X dX5_bits_14 rfl (by decide) ?_
    refine g_iand (pc' := 16) X dX5_bits_15 rfl ?_
    refine g_iadd (pc' := 17) X dX5_bits_16 rfl ?_
    refine g_istore_nN (lv' := fun x1 => [some (.int v0), some (.int x1), some (.int v2)]) (pc' := 18) X dX5_bits_17 rfl rfl (by decide) rfl (fun _ => rfl) hf (fun x1 hf => ?_)
    refine g_iinc (v := 1) (lv' := [some (.int v0), some (.int x1), some (.int (v2 + (1 : Int32)))]) (pc' := 21) X dX5_bits_18 rfl rfl (by decide) (by decide) rfl rfl ?_
    refine g_goto (tgt := 4) X dX5_bits_21 (by decide) ?_
    have hk := sx_bk hf hb
    exact sx_weak [true, true, true] rfl hk
set_option maxHeartbeats 4000000 in
set_option maxRecDepth 100000 in
theorem ctX5_bits (l : Launch) (d : sx_D) (v0 : Int32) (r : Int32) (hf : fX5_bits v0 = some r) : sx_I l d yX5_bits cX5_bits 3 .int 0 [.int v0] [] [] r := by
  refine sx_I.intro (lv0 := [some (.int v0), none, none]) (by decide +kernel) (Nat.le_of_ble_eq_true rfl) rfl ?_
  intro κ X hR
  have X : sx_X d κ cX5_bits 3 RX5 (sx_rm 0) := X
  unfold fX5_bits at hf
  refine g_iconst (v := 0) (pc' := 1) X dX5_bits_0 rfl (by decide) ?_
  refine g_istore_n (lv' := [some (.int v0), some (.int (0 : Int32)), none]) (pc' := 2) X dX5_bits_1 rfl rfl (by decide) rfl rfl ?_
  refine g_iconst (v := 0) (pc' := 3) X dX5_bits_2 rfl (by decide) ?_
  refine g_istore_n (lv' := [some (.int v0), some (.int (0 : Int32)), some (.int (0 : Int32))]) (pc' := 4) X dX5_bits_3 rfl rfl (by decide) rfl rfl ?_
  obtain ⟨y2, hy2, hf⟩ := sx_bd hf
  refine sx_weak [true, true, true] rfl (lX5_bits_4 d κ v0 X y2 ?_ 1000 ((0 : Int32), (0 : Int32)) hy2)
  rintro w3 rfl
  refine g_iload_n (pc' := 25) X dX5_bits_24 rfl rfl rfl ?_
  cases hf
  exact hR _ _ dX5_bits_25 rfl
-- X5_firstPeak
def fX5_firstPeak (s_many : Int32) (s_kindOf : Nat → Int32) (s_highs : Nat → Int32) (v1 : Int32) (v2 : Int32) : Option (Int32 × (Nat → Int32) × (Nat → Int32)) :=
  sx_wr s_kindOf 6 s_many v1 fun g1 =>
  sx_wr s_highs 6 s_many v2 fun g2 =>
  sx_lt (s_many + (1 : Int32)) fun x3 =>
  some (x3, g1, g2)
set_option maxHeartbeats 4000000 in
set_option maxRecDepth 100000 in
theorem ctX5_firstPeak (l : Launch) (d : sx_D) (a : Nat → Nat) (s_many : Int32) (s_windMany : Int32) (s_year : Int32) (s_saidMany : Int32) (s_size : Int32) (s_readAt : Int32) (s_readPeaks : Int32) (s_readWinds : Int32) (s_readNumber : Int32) (s_undoMany : Int32) (s_keptMany : Int32) (s_kindOf : Nat → Int32) (s_highs : Nat → Int32) (v1 : Int32) (v2 : Int32) (ro1 : Int32) (ro2 : Nat → Int32) (ro3 : Nat → Int32) (hf : fX5_firstPeak s_many s_kindOf s_highs v1 v2 = some (ro1, ro2, ro3)) : sx_V l d yX5_firstPeak cX5_firstPeak 3 0 [.ref (a 0), .int v1, .int v2] [oX5 a s_many s_windMany s_year s_saidMany s_size s_readAt s_readPeaks s_readWinds s_readNumber s_undoMany s_keptMany, ai d (a 1) 6 s_kindOf, ai d (a 2) 6 s_highs] [oX5 a ro1 s_windMany s_year s_saidMany s_size s_readAt s_readPeaks s_readWinds s_readNumber s_undoMany s_keptMany, ai d (a 1) 6 ro2, ai d (a 2) 6 ro3] := by
  refine sx_V.intro (lv0 := [some (.ref (a 0)), some (.int v1), some (.int v2)]) (by decide +kernel) (Nat.le_of_ble_eq_true rfl) rfl ?_
  intro κ X hR
  have X : sx_X d κ cX5_firstPeak 3 RX5 (sx_rm 0) := X
  unfold fX5_firstPeak at hf
  refine g_aload_n (pc' := 1) X dX5_firstPeak_0 rfl rfl rfl ?_
  refine g_get (pc' := 4) X fl_X5_9 dX5_firstPeak_1 rfl 0 rfl rfl ?_
  refine g_aload_n (pc' := 5) X dX5_firstPeak_4 rfl rfl rfl ?_
  refine g_get (pc' := 8) X fl_X5_78 dX5_firstPeak_5 rfl 0 rfl rfl ?_
  refine g_iload_n (pc' := 9) X dX5_firstPeak_8 rfl rfl rfl ?_
  refine g_iast (pc' := 10) (w2 := fun g1 => [oX5 a s_many s_windMany s_year s_saidMany s_size s_readAt s_readPeaks s_readWinds s_readNumber s_undoMany s_keptMany, ai d (a 1) 6 g1, ai d (a 2) 6 s_highs]) X dX5_firstPeak_9 rfl 1 rfl hf (fun _ => rfl) (fun g1 hf => ?_)
  refine g_aload_n (pc' := 11) X dX5_firstPeak_10 rfl rfl rfl ?_
  refine g_get (pc' := 14) X fl_X5_13 dX5_firstPeak_11 rfl 0 rfl rfl ?_
  refine g_aload_n (pc' := 15) X dX5_firstPeak_14 rfl rfl rfl ?_
  refine g_get (pc' := 18) X fl_X5_78 dX5_firstPeak_15 rfl 0 rfl rfl ?_
  refine g_iload_n (pc' := 19) X dX5_firstPeak_18 rfl rfl rfl ?_
  refine g_iast (pc' := 20) (w2 := fun g2 => [oX5 a s_many s_windMany s_year s_saidMany s_size s_readAt s_readPeaks s_readWinds s_readNumber s_undoMany s_keptMany, ai d (a 1) 6 g1, ai d (a 2) 6 g2]) X dX5_firstPeak_19 rfl 2 rfl hf (fun _ => rfl) (fun g2 hf => ?_)
  refine g_aload_n (pc' := 21) X dX5_firstPeak_20 rfl rfl rfl ?_
  refine g_dup (pc' := 22) X dX5_firstPeak_21 rfl rfl ?_
  refine g_get (pc' := 25) X fl_X5_78 dX5_firstPeak_22 rfl 0 rfl rfl ?_
  refine g_iconst (v := 1) (pc' := 26) X dX5_firstPeak_25 rfl (by decide) ?_
  refine g_iadd (pc' := 27) X dX5_firstPeak_26 rfl ?_
  refine g_putN (pc' := 30) (w2 := fun x3 => [oX5 a x3 s_windMany s_year s_saidMany s_size s_readAt s_readPeaks s_readWinds s_readNumber s_undoMany s_keptMany, ai d (a 1) 6 g1, ai d (a 2) 6 g2]) X fl_X5_78 fw_X5 rfl dX5_firstPeak_27 rfl 0 rfl (fun _ => rfl) (fun _ => rfl) (Nat.le_of_ble_eq_true rfl) (fun _ => rfl) hf (fun x3 hf => ?_)
  cases hf
  exact hR _ _ dX5_firstPeak_30
-- X5_isPeak
def fX5_isPeak (s_many : Int32) (v1 : Int32) : Option (Int32) :=
  (fX5_in v1 (0 : Int32) (s_many - (1 : Int32))).bind fun x1 =>
  some x1
set_option maxHeartbeats 4000000 in
set_option maxRecDepth 100000 in
theorem ctX5_isPeak (l : Launch) (d : sx_D) (a : Nat → Nat) (s_many : Int32) (s_windMany : Int32) (s_year : Int32) (s_saidMany : Int32) (s_size : Int32) (s_readAt : Int32) (s_readPeaks : Int32) (s_readWinds : Int32) (s_readNumber : Int32) (s_undoMany : Int32) (s_keptMany : Int32) (v1 : Int32) (r : Int32) (hf : fX5_isPeak s_many v1 = some r) : sx_I l d yX5_isPeak cX5_isPeak 2 .boolean 1 [.ref (a 0), .int v1] [oX5 a s_many s_windMany s_year s_saidMany s_size s_readAt s_readPeaks s_readWinds s_readNumber s_undoMany s_keptMany] [oX5 a s_many s_windMany s_year s_saidMany s_size s_readAt s_readPeaks s_readWinds s_readNumber s_undoMany s_keptMany] r := by
  refine sx_I.intro (lv0 := [some (.ref (a 0)), some (.int v1)]) (by decide +kernel) (Nat.le_of_ble_eq_true rfl) rfl ?_
  intro κ X hR
  have X : sx_X d κ cX5_isPeak 2 RX5 (sx_rm 1) := X
  unfold fX5_isPeak at hf
  refine g_iload_n (pc' := 1) X dX5_isPeak_0 rfl rfl rfl ?_
  refine g_iconst (v := 0) (pc' := 2) X dX5_isPeak_1 rfl (by decide) ?_
  refine g_aload_n (pc' := 3) X dX5_isPeak_2 rfl rfl rfl ?_
  refine g_get (pc' := 6) X fl_X5_78 dX5_isPeak_3 rfl 0 rfl rfl ?_
  refine g_iconst (v := 1) (pc' := 7) X dX5_isPeak_6 rfl (by decide) ?_
  refine g_isub (pc' := 8) X dX5_isPeak_7 rfl ?_
  refine g_callSi0 (pc' := 11) (As := [.int v1, .int (0 : Int32), .int (s_many - (1 : Int32))]) (st := []) (w2 := fun x1 => [oX5 a s_many s_windMany s_year s_saidMany s_size s_readAt s_readPeaks s_readWinds s_readNumber s_undoMany s_keptMany]) X lk_X5_81 dX5_isPeak_8 rfl rfl rfl (Nat.le_of_ble_eq_true rfl) ⟨Nat.le_of_ble_eq_true rfl, Nat.le_of_ble_eq_true rfl, Nat.le_of_ble_eq_true rfl, Nat.le_of_ble_eq_true rfl⟩ [] (by decide) rfl hf (fun l x1 h => ctX5_in l d v1 (0 : Int32) (s_many - (1 : Int32)) x1 h) (fun _ => rfl) (fun _ => rfl) (fun x1 hnx1 hf => ?_)
  cases hf
  exact hR _ _ dX5_isPeak_11 hnx1
-- X5_isTrimming
def fX5_isTrimming (v0 : Int32) : Option (Int32) :=
  (fX5_in v0 (0 : Int32) (4 : Int32)).bind fun x1 =>
  some x1
set_option maxHeartbeats 4000000 in
set_option maxRecDepth 100000 in
theorem ctX5_isTrimming (l : Launch) (d : sx_D) (v0 : Int32) (r : Int32) (hf : fX5_isTrimming v0 = some r) : sx_I l d yX5_isTrimming cX5_isTrimming 1 .boolean 1 [.int v0] [] [] r := by
  refine sx_I.intro (lv0 := [some (.int v0)]) (by decide +kernel) (Nat.le_of_ble_eq_true rfl) rfl ?_
  intro κ X hR
  have X : sx_X d κ cX5_isTrimming 1 RX5 (sx_rm 1) := X
  unfold fX5_isTrimming at hf
  refine g_iload_n (pc' := 1) X dX5_isTrimming_0 rfl rfl rfl ?_
  refine g_iconst (v := 0) (pc' := 2) X dX5_isTrimming_1 rfl (by decide) ?_
  refine g_iconst (v := 4) (pc' := 3) X dX5_isTrimming_2 rfl (by decide) ?_
  refine g_callSi0 (pc' := 6) (As := [.int v0, .int (0 : Int32), .int (4 : Int32)]) (st := []) (w2 := fun x1 => []) X lk_X5_81 dX5_isTrimming_3 rfl rfl rfl (Nat.le_of_ble_eq_true rfl) ⟨Nat.le_of_ble_eq_true rfl, Nat.le_of_ble_eq_true rfl, Nat.le_of_ble_eq_true rfl, Nat.le_of_ble_eq_true rfl⟩ [] (by decide) rfl hf (fun l x1 h => ctX5_in l d v0 (0 : Int32) (4 : Int32) x1 h) (fun _ => rfl) (fun _ => rfl) (fun x1 hnx1 hf => ?_)
  cases hf
  exact hR _ _ dX5_isTrimming_6 hnx1
-- X5_looks
def bX5_looks_4 (s_pinned : Nat → Int32) (v1 : Int32) : (Int32 × Int32) → Option ((Int32 × Int32) ⊕ (Int32)) := fun (v2, v3) =>
  if (5 : Int32) ≤ v3 then
    some (.inr v2)
  else
    sx_rd s_pinned 30 (((5 : Int32) * v1) + v3) fun x1 =>
    if x1 ≤ 0 then
      sx_lt (v2 ||| (0 : Int32)) fun x2 =>
      some (.inl (x2, v3 + (1 : Int32)))
    else
      sx_lt (v2 ||| ((1 : Int32) <<< (v3 &&& 31))) fun x3 =>
      some (.inl (x3, v3 + (1 : Int32)))
def fX5_looks (s_pinned : Nat → Int32) (v1 : Int32) : Option (Int32) :=
  (sx_it 1000 (bX5_looks_4 s_pinned v1) ((0 : Int32), (0 : Int32))).bind fun w5 =>
  some w5
set_option maxHeartbeats 4000000 in
set_option maxRecDepth 100000 in
theorem lX5_looks_4 (d : sx_D) (κ : sx_C) (a : Nat → Nat) (s_many : Int32) (s_windMany : Int32) (s_year : Int32) (s_saidMany : Int32) (s_size : Int32) (s_readAt : Int32) (s_readPeaks : Int32) (s_readWinds : Int32) (s_readNumber : Int32) (s_undoMany : Int32) (s_keptMany : Int32) (s_pinned : Nat → Int32) (v1 : Int32) (X : sx_X d κ cX5_looks 4 RX5 (sx_rm 0)) (y : Int32) (hE38 : ∀ (v2 : Int32), v2 = y → sx_G d κ 4 0 0 38 [none, none, some (.int v2), none] [] [oX5 a s_many s_windMany s_year s_saidMany s_size s_readAt s_readPeaks s_readWinds s_readNumber s_undoMany s_keptMany, ai d (a 4) 30 s_pinned]) : ∀ (n : Nat) (s : Int32 × Int32), sx_it n (bX5_looks_4 s_pinned v1) s = some y → (match s with | (v2, v3) => sx_G d κ 4 0 0 4 [some (.ref (a 0)), some (.int v1), some (.int v2), some (.int v3)] [] [oX5 a s_many s_windMany s_year s_saidMany s_size s_readAt s_readPeaks s_readWinds s_readNumber s_undoMany s_keptMany, ai d (a 4) 30 s_pinned]) := by
  refine sx_it_run (bX5_looks_4 s_pinned v1) (fun s => match s with | (v2, v3) => sx_G d κ 4 0 0 4 [some (.ref (a 0)), some (.int v1), some (.int v2), some (.int v3)] [] [oX5 a s_many s_windMany s_year s_saidMany s_size s_readAt s_readPeaks s_readWinds s_readNumber s_undoMany s_keptMany, ai d (a 4) 30 s_pinned]) y ?_
  rintro ⟨v2, v3⟩ x hf hb he
  show sx_G d κ 4 0 0 4 [some (.ref (a 0)), some (.int v1), some (.int v2), some (.int v3)] [] [oX5 a s_many s_windMany s_year s_saidMany s_size s_readAt s_readPeaks s_readWinds s_readNumber s_undoMany s_keptMany, ai d (a 4) 30 s_pinned]
  unfold bX5_looks_4 at hf
  refine g_iload_n (pc' := 5) X dX5_looks_4 rfl rfl rfl ?_
  refine g_iconst (v := 5) (pc' := 6) X dX5_looks_5 rfl (by decide) ?_
  refine g_icmp_ge (tgt := 38) (pc' := 9) X dX5_looks_6 (by decide) rfl hf (fun hf => ?_) (fun hf => ?_)
  · exact sx_weak [false, false, true, false] rfl (hE38 _ (sx_ex hf he))
  · refine g_iload_n (pc' := 10) X dX5_looks_9 rfl rfl rfl ?_
    refine g_aload_n (pc' := 11) X dX5_looks_10 rfl rfl rfl ?_
    refine g_get (pc' := 14) X fl_X5_19 dX5_looks_11 rfl 0 rfl rfl ?_
    refine g_iconst (v := 5) (pc' := 15) X dX5_looks_14 rfl (by decide) ?_
    refine g_iload_n (pc' := 16) X dX5_looks_15 rfl rfl rfl ?_
    refine g_imul (pc' := 17) X dX5_looks_16 rfl ?_
    refine g_iload_n (pc' := 18) X dX5_looks_17 rfl rfl rfl ?_
    refine g_iadd (pc' := 19) X dX5_looks_18 rfl ?_
    refine g_iald (pc' := 20) X dX5_looks_19 rfl 1 rfl hf (fun x1 hf => ?_)
    refine g_if_le (tgt := 29) (pc' := 23) X dX5_looks_20 (by decide) rfl hf (fun hf => ?_) (fun hf => ?_)
    · refine g_iconst (v := 0) (pc' := 30) X dX5_looks_29 rfl (by decide) ?_
      refine g_ior (pc' := 31) X dX5_looks_30 rfl ?_
      refine g_istore_nN (lv' := fun x2 => [some (.ref (a 0)), some (.int v1), some (.int x2), some (.int v3)]) (pc' := 32) X dX5_looks_31 rfl rfl (by decide) rfl (fun _ => rfl) hf (fun x2 hf => ?_)
      refine g_iinc (v := 1) (lv' := [some (.ref (a 0)), some (.int v1), some (.int x2), some (.int (v3 + (1 : Int32)))]) (pc' := 35) X dX5_looks_32 rfl rfl (by decide) (by decide) rfl rfl ?_
      refine g_goto (tgt := 4) X dX5_looks_35 (by decide) ?_
      have hk := sx_bk hf hb
      exact sx_weak [true, true, true, true] rfl hk
    · refine g_iconst (v := 1) (pc' := 24) X dX5_looks_23 rfl (by decide) ?_
      refine g_iload_n (pc' := 25) X dX5_looks_24 rfl rfl rfl ?_
      refine g_ishl (pc' := 26) X dX5_looks_25 rfl ?_
      refine g_goto (tgt := 30) X dX5_looks_26 (by decide) ?_
      refine g_ior (pc' := 31) X dX5_looks_30 rfl ?_
      refine g_istore_nN (lv' := fun x3 => [some (.ref (a 0)), some (.int v1), some (.int x3), some (.int v3)]) (pc' := 32) X dX5_looks_31 rfl rfl (by decide) rfl (fun _ => rfl) hf (fun x3 hf => ?_)
      refine g_iinc (v := 1) (lv' := [some (.ref (a 0)), some (.int v1), some (.int x3), some (.int (v3 + (1 : Int32)))]) (pc' := 35) X dX5_looks_32 rfl rfl (by decide) (by decide) rfl rfl ?_
      refine g_goto (tgt := 4) X dX5_looks_35 (by decide) ?_
      have hk := sx_bk hf hb
      exact sx_weak [true, true, true, true] rfl hk
set_option maxHeartbeats 4000000 in
set_option maxRecDepth 100000 in
theorem ctX5_looks (l : Launch) (d : sx_D) (a : Nat → Nat) (s_many : Int32) (s_windMany : Int32) (s_year : Int32) (s_saidMany : Int32) (s_size : Int32) (s_readAt : Int32) (s_readPeaks : Int32) (s_readWinds : Int32) (s_readNumber : Int32) (s_undoMany : Int32) (s_keptMany : Int32) (s_pinned : Nat → Int32) (v1 : Int32) (r : Int32) (hf : fX5_looks s_pinned v1 = some r) : sx_I l d yX5_looks cX5_looks 4 .int 0 [.ref (a 0), .int v1] [oX5 a s_many s_windMany s_year s_saidMany s_size s_readAt s_readPeaks s_readWinds s_readNumber s_undoMany s_keptMany, ai d (a 4) 30 s_pinned] [oX5 a s_many s_windMany s_year s_saidMany s_size s_readAt s_readPeaks s_readWinds s_readNumber s_undoMany s_keptMany, ai d (a 4) 30 s_pinned] r := by
  refine sx_I.intro (lv0 := [some (.ref (a 0)), some (.int v1), none, none]) (by decide +kernel) (Nat.le_of_ble_eq_true rfl) rfl ?_
  intro κ X hR
  have X : sx_X d κ cX5_looks 4 RX5 (sx_rm 0) := X
  unfold fX5_looks at hf
  refine g_iconst (v := 0) (pc' := 1) X dX5_looks_0 rfl (by decide) ?_
  refine g_istore_n (lv' := [some (.ref (a 0)), some (.int v1), some (.int (0 : Int32)), none]) (pc' := 2) X dX5_looks_1 rfl rfl (by decide) rfl rfl ?_
  refine g_iconst (v := 0) (pc' := 3) X dX5_looks_2 rfl (by decide) ?_
  refine g_istore_n (lv' := [some (.ref (a 0)), some (.int v1), some (.int (0 : Int32)), some (.int (0 : Int32))]) (pc' := 4) X dX5_looks_3 rfl rfl (by decide) rfl rfl ?_
  obtain ⟨y4, hy4, hf⟩ := sx_bd hf
  refine sx_weak [true, true, true, true] rfl (lX5_looks_4 d κ a s_many s_windMany s_year s_saidMany s_size s_readAt s_readPeaks s_readWinds s_readNumber s_undoMany s_keptMany s_pinned v1 X y4 ?_ 1000 ((0 : Int32), (0 : Int32)) hy4)
  rintro w5 rfl
  refine g_iload_n (pc' := 39) X dX5_looks_38 rfl rfl rfl ?_
  cases hf
  exact hR _ _ dX5_looks_39 rfl
-- X5_setGuides
def bX5_setGuides_2 (s_many : Int32) (s_pinned : Nat → Int32) : (Int32 × (Nat → Int32)) → Option ((Int32 × (Nat → Int32)) ⊕ ((Nat → Int32))) := fun (v1, s_guides) =>
  if s_many ≤ v1 then
    some (.inr s_guides)
  else
    (fX5_looks s_pinned v1).bind fun x1 =>
    sx_wr s_guides 6 v1 x1 fun g2 =>
    some (.inl (v1 + (1 : Int32), g2))
def fX5_setGuides (s_many : Int32) (s_pinned : Nat → Int32) (s_guides : Nat → Int32) : Option ((Nat → Int32)) :=
  (sx_it 1000 (bX5_setGuides_2 s_many s_pinned) ((0 : Int32), s_guides)).bind fun w4 =>
  some w4
set_option maxHeartbeats 4000000 in
set_option maxRecDepth 100000 in
theorem lX5_setGuides_2 (d : sx_D) (κ : sx_C) (a : Nat → Nat) (s_many : Int32) (s_windMany : Int32) (s_year : Int32) (s_saidMany : Int32) (s_size : Int32) (s_readAt : Int32) (s_readPeaks : Int32) (s_readWinds : Int32) (s_readNumber : Int32) (s_undoMany : Int32) (s_keptMany : Int32) (s_pinned : Nat → Int32) (X : sx_X d κ cX5_setGuides 2 RX5 (sx_rm 1)) (y : (Nat → Int32)) (hE27 : ∀ (s_guides : Nat → Int32), s_guides = y → sx_G d κ 2 0 0 27 [none, none] [] [oX5 a s_many s_windMany s_year s_saidMany s_size s_readAt s_readPeaks s_readWinds s_readNumber s_undoMany s_keptMany, ai d (a 4) 30 s_pinned, ai d (a 6) 6 s_guides]) : ∀ (n : Nat) (s : Int32 × (Nat → Int32)), sx_it n (bX5_setGuides_2 s_many s_pinned) s = some y → (match s with | (v1, s_guides) => sx_G d κ 2 0 0 2 [some (.ref (a 0)), some (.int v1)] [] [oX5 a s_many s_windMany s_year s_saidMany s_size s_readAt s_readPeaks s_readWinds s_readNumber s_undoMany s_keptMany, ai d (a 4) 30 s_pinned, ai d (a 6) 6 s_guides]) := by
  refine sx_it_run (bX5_setGuides_2 s_many s_pinned) (fun s => match s with | (v1, s_guides) => sx_G d κ 2 0 0 2 [some (.ref (a 0)), some (.int v1)] [] [oX5 a s_many s_windMany s_year s_saidMany s_size s_readAt s_readPeaks s_readWinds s_readNumber s_undoMany s_keptMany, ai d (a 4) 30 s_pinned, ai d (a 6) 6 s_guides]) y ?_
  rintro ⟨v1, s_guides⟩ x hf hb he
  show sx_G d κ 2 0 0 2 [some (.ref (a 0)), some (.int v1)] [] [oX5 a s_many s_windMany s_year s_saidMany s_size s_readAt s_readPeaks s_readWinds s_readNumber s_undoMany s_keptMany, ai d (a 4) 30 s_pinned, ai d (a 6) 6 s_guides]
  unfold bX5_setGuides_2 at hf
  refine g_iload_n (pc' := 3) X dX5_setGuides_2 rfl rfl rfl ?_
  refine g_aload_n (pc' := 4) X dX5_setGuides_3 rfl rfl rfl ?_
  refine g_get (pc' := 7) X fl_X5_78 dX5_setGuides_4 rfl 0 rfl rfl ?_
  refine g_icmp_ge (tgt := 27) (pc' := 10) X dX5_setGuides_7 (by decide) rfl hf (fun hf => ?_) (fun hf => ?_)
  · exact sx_weak [false, false] rfl (hE27 _ (sx_ex hf he))
  · refine g_aload_n (pc' := 11) X dX5_setGuides_10 rfl rfl rfl ?_
    refine g_get (pc' := 14) X fl_X5_25 dX5_setGuides_11 rfl 0 rfl rfl ?_
    refine g_iload_n (pc' := 15) X dX5_setGuides_14 rfl rfl rfl ?_
    refine g_aload_n (pc' := 16) X dX5_setGuides_15 rfl rfl rfl ?_
    refine g_iload_n (pc' := 17) X dX5_setGuides_16 rfl rfl rfl ?_
    refine g_callVi0 (pc' := 20) (As := [.int v1]) (b := (a 0)) (st := [.int v1, .ref (a 6)]) (w2 := fun x1 => [oX5 a s_many s_windMany s_year s_saidMany s_size s_readAt s_readPeaks s_readWinds s_readNumber s_undoMany s_keptMany, ai d (a 4) 30 s_pinned, ai d (a 6) 6 s_guides]) X lk_X5_85 dX5_setGuides_17 rfl rfl rfl (Nat.le_of_ble_eq_true rfl) ⟨Nat.le_of_ble_eq_true rfl, Nat.le_of_ble_eq_true rfl, Nat.le_of_ble_eq_true rfl, Nat.le_of_ble_eq_true rfl⟩ rfl [0, 1] (by decide) rfl hf (fun l x1 h => ctX5_looks l d a s_many s_windMany s_year s_saidMany s_size s_readAt s_readPeaks s_readWinds s_readNumber s_undoMany s_keptMany s_pinned v1 x1 h) (fun _ => rfl) (fun _ => rfl) (fun x1 hnx1 hf => ?_)
    refine g_iast (pc' := 21) (w2 := fun g2 => [oX5 a s_many s_windMany s_year s_saidMany s_size s_readAt s_readPeaks s_readWinds s_readNumber s_undoMany s_keptMany, ai d (a 4) 30 s_pinned, ai d (a 6) 6 g2]) X dX5_setGuides_20 rfl 2 rfl hf (fun _ => rfl) (fun g2 hf => ?_)
    refine g_iinc (v := 1) (lv' := [some (.ref (a 0)), some (.int (v1 + (1 : Int32)))]) (pc' := 24) X dX5_setGuides_21 rfl rfl (by decide) (by decide) rfl rfl ?_
    refine g_goto (tgt := 2) X dX5_setGuides_24 (by decide) ?_
    have hk := sx_bk hf hb
    exact sx_weak [true, true] rfl hk
set_option maxHeartbeats 4000000 in
set_option maxRecDepth 100000 in
theorem ctX5_setGuides (l : Launch) (d : sx_D) (a : Nat → Nat) (s_many : Int32) (s_windMany : Int32) (s_year : Int32) (s_saidMany : Int32) (s_size : Int32) (s_readAt : Int32) (s_readPeaks : Int32) (s_readWinds : Int32) (s_readNumber : Int32) (s_undoMany : Int32) (s_keptMany : Int32) (s_pinned : Nat → Int32) (s_guides : Nat → Int32) (ro1 : Nat → Int32) (hf : fX5_setGuides s_many s_pinned s_guides = some ro1) : sx_V l d yX5_setGuides cX5_setGuides 2 1 [.ref (a 0)] [oX5 a s_many s_windMany s_year s_saidMany s_size s_readAt s_readPeaks s_readWinds s_readNumber s_undoMany s_keptMany, ai d (a 4) 30 s_pinned, ai d (a 6) 6 s_guides] [oX5 a s_many s_windMany s_year s_saidMany s_size s_readAt s_readPeaks s_readWinds s_readNumber s_undoMany s_keptMany, ai d (a 4) 30 s_pinned, ai d (a 6) 6 ro1] := by
  refine sx_V.intro (lv0 := [some (.ref (a 0)), none]) (by decide +kernel) (Nat.le_of_ble_eq_true rfl) rfl ?_
  intro κ X hR
  have X : sx_X d κ cX5_setGuides 2 RX5 (sx_rm 1) := X
  unfold fX5_setGuides at hf
  refine g_iconst (v := 0) (pc' := 1) X dX5_setGuides_0 rfl (by decide) ?_
  refine g_istore_n (lv' := [some (.ref (a 0)), some (.int (0 : Int32))]) (pc' := 2) X dX5_setGuides_1 rfl rfl (by decide) rfl rfl ?_
  obtain ⟨y3, hy3, hf⟩ := sx_bd hf
  refine sx_weak [true, true] rfl (lX5_setGuides_2 d κ a s_many s_windMany s_year s_saidMany s_size s_readAt s_readPeaks s_readWinds s_readNumber s_undoMany s_keptMany s_pinned X y3 ?_ 1000 ((0 : Int32), s_guides) hy3)
  rintro w4 rfl
  cases hf
  exact hR _ _ dX5_setGuides_27
-- X5_write
def fX5_write (s_size : Int32) (s_text : Nat → Int32) (v1 : Int32) : Option (Int32 × Int32 × (Nat → Int32)) :=
  (fX5_in v1 (32 : Int32) (126 : Int32)).bind fun x1 =>
  if x1 = 0 then
    some ((-1 : Int32), s_size, s_text)
  else
    if s_size = (200 : Int32) then
      some ((-3 : Int32), s_size, s_text)
    else
      sx_wr s_text 200 s_size v1 fun g2 =>
      sx_lt (s_size + (1 : Int32)) fun x3 =>
      some (x3, x3, g2)
set_option maxHeartbeats 4000000 in
set_option maxRecDepth 100000 in
theorem ctX5_write (l : Launch) (d : sx_D) (a : Nat → Nat) (s_many : Int32) (s_windMany : Int32) (s_year : Int32) (s_saidMany : Int32) (s_size : Int32) (s_readAt : Int32) (s_readPeaks : Int32) (s_readWinds : Int32) (s_readNumber : Int32) (s_undoMany : Int32) (s_keptMany : Int32) (s_text : Nat → Int32) (v1 : Int32) (r : Int32) (ro1 : Int32) (ro2 : Nat → Int32) (hf : fX5_write s_size s_text v1 = some (r, ro1, ro2)) : sx_I l d yX5_write cX5_write 2 .int 1 [.ref (a 0), .int v1] [oX5 a s_many s_windMany s_year s_saidMany s_size s_readAt s_readPeaks s_readWinds s_readNumber s_undoMany s_keptMany, ai d (a 9) 200 s_text] [oX5 a s_many s_windMany s_year s_saidMany ro1 s_readAt s_readPeaks s_readWinds s_readNumber s_undoMany s_keptMany, ai d (a 9) 200 ro2] r := by
  refine sx_I.intro (lv0 := [some (.ref (a 0)), some (.int v1)]) (by decide +kernel) (Nat.le_of_ble_eq_true rfl) rfl ?_
  intro κ X hR
  have X : sx_X d κ cX5_write 2 RX5 (sx_rm 1) := X
  unfold fX5_write at hf
  refine g_iload_n (pc' := 1) X dX5_write_0 rfl rfl rfl ?_
  refine g_bipush (v := 32) (pc' := 3) X dX5_write_1 rfl (by decide) ?_
  refine g_bipush (v := 126) (pc' := 5) X dX5_write_3 rfl (by decide) ?_
  refine g_callSi0 (pc' := 8) (As := [.int v1, .int (32 : Int32), .int (126 : Int32)]) (st := []) (w2 := fun x1 => [oX5 a s_many s_windMany s_year s_saidMany s_size s_readAt s_readPeaks s_readWinds s_readNumber s_undoMany s_keptMany, ai d (a 9) 200 s_text]) X lk_X5_81 dX5_write_5 rfl rfl rfl (Nat.le_of_ble_eq_true rfl) ⟨Nat.le_of_ble_eq_true rfl, Nat.le_of_ble_eq_true rfl, Nat.le_of_ble_eq_true rfl, Nat.le_of_ble_eq_true rfl⟩ [] (by decide) rfl hf (fun l x1 h => ctX5_in l d v1 (32 : Int32) (126 : Int32) x1 h) (fun _ => rfl) (fun _ => rfl) (fun x1 hnx1 hf => ?_)
  refine g_if_ne (tgt := 13) (pc' := 11) X dX5_write_8 (by decide) rfl hf (fun hf => ?_) (fun hf => ?_)
  · refine g_aload_n (pc' := 14) X dX5_write_13 rfl rfl rfl ?_
    refine g_get (pc' := 17) X fl_X5_89 dX5_write_14 rfl 0 rfl rfl ?_
    refine g_sipush (v := 200) (pc' := 20) X dX5_write_17 rfl (by decide) ?_
    refine g_icmp_ne (tgt := 26) (pc' := 23) X dX5_write_20 (by decide) rfl hf (fun hf => ?_) (fun hf => ?_)
    · refine g_aload_n (pc' := 27) X dX5_write_26 rfl rfl rfl ?_
      refine g_get (pc' := 30) X fl_X5_34 dX5_write_27 rfl 0 rfl rfl ?_
      refine g_aload_n (pc' := 31) X dX5_write_30 rfl rfl rfl ?_
      refine g_get (pc' := 34) X fl_X5_89 dX5_write_31 rfl 0 rfl rfl ?_
      refine g_iload_n (pc' := 35) X dX5_write_34 rfl rfl rfl ?_
      refine g_iast (pc' := 36) (w2 := fun g2 => [oX5 a s_many s_windMany s_year s_saidMany s_size s_readAt s_readPeaks s_readWinds s_readNumber s_undoMany s_keptMany, ai d (a 9) 200 g2]) X dX5_write_35 rfl 1 rfl hf (fun _ => rfl) (fun g2 hf => ?_)
      refine g_aload_n (pc' := 37) X dX5_write_36 rfl rfl rfl ?_
      refine g_dup (pc' := 38) X dX5_write_37 rfl rfl ?_
      refine g_get (pc' := 41) X fl_X5_89 dX5_write_38 rfl 0 rfl rfl ?_
      refine g_iconst (v := 1) (pc' := 42) X dX5_write_41 rfl (by decide) ?_
      refine g_iadd (pc' := 43) X dX5_write_42 rfl ?_
      refine g_putN (pc' := 46) (w2 := fun x3 => [oX5 a s_many s_windMany s_year s_saidMany x3 s_readAt s_readPeaks s_readWinds s_readNumber s_undoMany s_keptMany, ai d (a 9) 200 g2]) X fl_X5_89 fw_X5 rfl dX5_write_43 rfl 0 rfl (fun _ => rfl) (fun _ => rfl) (Nat.le_of_ble_eq_true rfl) (fun _ => rfl) hf (fun x3 hf => ?_)
      refine g_aload_n (pc' := 47) X dX5_write_46 rfl rfl rfl ?_
      refine g_get (pc' := 50) X fl_X5_89 dX5_write_47 rfl 0 rfl rfl ?_
      cases hf
      exact hR _ _ dX5_write_50 rfl
    · refine g_bipush (v := -3) (pc' := 25) X dX5_write_23 rfl (by decide) ?_
      cases hf
      exact hR _ _ dX5_write_25 rfl
  · refine g_iconst (v := -1) (pc' := 12) X dX5_write_11 rfl (by decide) ?_
    cases hf
    exact hR _ _ dX5_write_12 rfl
-- X5_wipe
def fX5_wipe (s_size : Int32) : Option (Int32 × Int32) :=
  some (s_size, (0 : Int32))
set_option maxHeartbeats 4000000 in
set_option maxRecDepth 100000 in
theorem ctX5_wipe (l : Launch) (d : sx_D) (a : Nat → Nat) (s_many : Int32) (s_windMany : Int32) (s_year : Int32) (s_saidMany : Int32) (s_size : Int32) (s_readAt : Int32) (s_readPeaks : Int32) (s_readWinds : Int32) (s_readNumber : Int32) (s_undoMany : Int32) (s_keptMany : Int32) (r : Int32) (ro1 : Int32) (hf : fX5_wipe s_size = some (r, ro1)) : sx_I l d yX5_wipe cX5_wipe 2 .int 0 [.ref (a 0)] [oX5 a s_many s_windMany s_year s_saidMany s_size s_readAt s_readPeaks s_readWinds s_readNumber s_undoMany s_keptMany] [oX5 a s_many s_windMany s_year s_saidMany ro1 s_readAt s_readPeaks s_readWinds s_readNumber s_undoMany s_keptMany] r := by
  refine sx_I.intro (lv0 := [some (.ref (a 0)), none]) (by decide +kernel) (Nat.le_of_ble_eq_true rfl) rfl ?_
  intro κ X hR
  have X : sx_X d κ cX5_wipe 2 RX5 (sx_rm 0) := X
  unfold fX5_wipe at hf
  refine g_aload_n (pc' := 1) X dX5_wipe_0 rfl rfl rfl ?_
  refine g_get (pc' := 4) X fl_X5_89 dX5_wipe_1 rfl 0 rfl rfl ?_
  refine g_istore_n (lv' := [some (.ref (a 0)), some (.int s_size)]) (pc' := 5) X dX5_wipe_4 rfl rfl (by decide) rfl rfl ?_
  refine g_aload_n (pc' := 6) X dX5_wipe_5 rfl rfl rfl ?_
  refine g_iconst (v := 0) (pc' := 7) X dX5_wipe_6 rfl (by decide) ?_
  refine g_put (pc' := 10) (w2 := [oX5 a s_many s_windMany s_year s_saidMany (0 : Int32) s_readAt s_readPeaks s_readWinds s_readNumber s_undoMany s_keptMany]) X fl_X5_89 fw_X5 rfl dX5_wipe_7 rfl 0 rfl rfl rfl (Nat.le_of_ble_eq_true rfl) rfl ?_
  refine g_iload_n (pc' := 11) X dX5_wipe_10 rfl rfl rfl ?_
  cases hf
  exact hR _ _ dX5_wipe_11 rfl
-- X5_here
def fX5_here (s_size : Int32) (s_readAt : Int32) (s_text : Nat → Int32) : Option (Int32) :=
  if s_size ≤ s_readAt then
    some (0 : Int32)
  else
    sx_rd s_text 200 s_readAt fun x1 =>
    some x1
set_option maxHeartbeats 4000000 in
set_option maxRecDepth 100000 in
theorem ctX5_here (l : Launch) (d : sx_D) (a : Nat → Nat) (s_many : Int32) (s_windMany : Int32) (s_year : Int32) (s_saidMany : Int32) (s_size : Int32) (s_readAt : Int32) (s_readPeaks : Int32) (s_readWinds : Int32) (s_readNumber : Int32) (s_undoMany : Int32) (s_keptMany : Int32) (s_text : Nat → Int32) (r : Int32) (hf : fX5_here s_size s_readAt s_text = some r) : sx_I l d yX5_here cX5_here 1 .int 0 [.ref (a 0)] [oX5 a s_many s_windMany s_year s_saidMany s_size s_readAt s_readPeaks s_readWinds s_readNumber s_undoMany s_keptMany, ai d (a 9) 200 s_text] [oX5 a s_many s_windMany s_year s_saidMany s_size s_readAt s_readPeaks s_readWinds s_readNumber s_undoMany s_keptMany, ai d (a 9) 200 s_text] r := by
  refine sx_I.intro (lv0 := [some (.ref (a 0))]) (by decide +kernel) (Nat.le_of_ble_eq_true rfl) rfl ?_
  intro κ X hR
  have X : sx_X d κ cX5_here 1 RX5 (sx_rm 0) := X
  unfold fX5_here at hf
  refine g_aload_n (pc' := 1) X dX5_here_0 rfl rfl rfl ?_
  refine g_get (pc' := 4) X fl_X5_92 dX5_here_1 rfl 0 rfl rfl ?_
  refine g_aload_n (pc' := 5) X dX5_here_4 rfl rfl rfl ?_
  refine g_get (pc' := 8) X fl_X5_89 dX5_here_5 rfl 0 rfl rfl ?_
  refine g_icmp_ge (tgt := 23) (pc' := 11) X dX5_here_8 (by decide) rfl hf (fun hf => ?_) (fun hf => ?_)
  · refine g_iconst (v := 0) (pc' := 24) X dX5_here_23 rfl (by decide) ?_
    cases hf
    exact hR _ _ dX5_here_24 rfl
  · refine g_aload_n (pc' := 12) X dX5_here_11 rfl rfl rfl ?_
    refine g_get (pc' := 15) X fl_X5_34 dX5_here_12 rfl 0 rfl rfl ?_
    refine g_aload_n (pc' := 16) X dX5_here_15 rfl rfl rfl ?_
    refine g_get (pc' := 19) X fl_X5_92 dX5_here_16 rfl 0 rfl rfl ?_
    refine g_iald (pc' := 20) X dX5_here_19 rfl 1 rfl hf (fun x1 hf => ?_)
    refine g_goto (tgt := 24) X dX5_here_20 (by decide) ?_
    cases hf
    exact hR _ _ dX5_here_24 rfl
-- X5_isFigure
def fX5_isFigure (s_size : Int32) (s_readAt : Int32) (s_text : Nat → Int32) : Option (Int32) :=
  (fX5_here s_size s_readAt s_text).bind fun x1 =>
  (fX5_in x1 (48 : Int32) (57 : Int32)).bind fun x2 =>
  some x2
set_option maxHeartbeats 4000000 in
set_option maxRecDepth 100000 in
theorem ctX5_isFigure (l : Launch) (d : sx_D) (a : Nat → Nat) (s_many : Int32) (s_windMany : Int32) (s_year : Int32) (s_saidMany : Int32) (s_size : Int32) (s_readAt : Int32) (s_readPeaks : Int32) (s_readWinds : Int32) (s_readNumber : Int32) (s_undoMany : Int32) (s_keptMany : Int32) (s_text : Nat → Int32) (r : Int32) (hf : fX5_isFigure s_size s_readAt s_text = some r) : sx_I l d yX5_isFigure cX5_isFigure 1 .boolean 1 [.ref (a 0)] [oX5 a s_many s_windMany s_year s_saidMany s_size s_readAt s_readPeaks s_readWinds s_readNumber s_undoMany s_keptMany, ai d (a 9) 200 s_text] [oX5 a s_many s_windMany s_year s_saidMany s_size s_readAt s_readPeaks s_readWinds s_readNumber s_undoMany s_keptMany, ai d (a 9) 200 s_text] r := by
  refine sx_I.intro (lv0 := [some (.ref (a 0))]) (by decide +kernel) (Nat.le_of_ble_eq_true rfl) rfl ?_
  intro κ X hR
  have X : sx_X d κ cX5_isFigure 1 RX5 (sx_rm 1) := X
  unfold fX5_isFigure at hf
  refine g_aload_n (pc' := 1) X dX5_isFigure_0 rfl rfl rfl ?_
  refine g_callVi0 (pc' := 4) (As := []) (b := (a 0)) (st := []) (w2 := fun x1 => [oX5 a s_many s_windMany s_year s_saidMany s_size s_readAt s_readPeaks s_readWinds s_readNumber s_undoMany s_keptMany, ai d (a 9) 200 s_text]) X lk_X5_95 dX5_isFigure_1 rfl rfl rfl (Nat.le_of_ble_eq_true rfl) ⟨Nat.le_of_ble_eq_true rfl, Nat.le_of_ble_eq_true rfl, Nat.le_of_ble_eq_true rfl, Nat.le_of_ble_eq_true rfl⟩ rfl [0, 1] (by decide) rfl hf (fun l x1 h => ctX5_here l d a s_many s_windMany s_year s_saidMany s_size s_readAt s_readPeaks s_readWinds s_readNumber s_undoMany s_keptMany s_text x1 h) (fun _ => rfl) (fun _ => rfl) (fun x1 hnx1 hf => ?_)
  refine g_bipush (v := 48) (pc' := 6) X dX5_isFigure_4 rfl (by decide) ?_
  refine g_bipush (v := 57) (pc' := 8) X dX5_isFigure_6 rfl (by decide) ?_
  refine g_callSi0 (pc' := 11) (As := [.int x1, .int (48 : Int32), .int (57 : Int32)]) (st := []) (w2 := fun x2 => [oX5 a s_many s_windMany s_year s_saidMany s_size s_readAt s_readPeaks s_readWinds s_readNumber s_undoMany s_keptMany, ai d (a 9) 200 s_text]) X lk_X5_81 dX5_isFigure_8 rfl rfl rfl (Nat.le_of_ble_eq_true rfl) ⟨Nat.le_of_ble_eq_true rfl, Nat.le_of_ble_eq_true rfl, Nat.le_of_ble_eq_true rfl, Nat.le_of_ble_eq_true rfl⟩ [] (by decide) rfl hf (fun l x2 h => ctX5_in l d x1 (48 : Int32) (57 : Int32) x2 h) (fun _ => rfl) (fun _ => rfl) (fun x2 hnx2 hf => ?_)
  cases hf
  exact hR _ _ dX5_isFigure_11 hnx2
-- X5_number
def jX5_number_60 (s_size : Int32) (s_readAt : Int32) (s_text : Nat → Int32) (v1 : Int32) (v2 : Int32) (v3 : Int32) (v4 : Int32) : Option (Int32 × Int32 × Int32) :=
  (fX5_here s_size s_readAt s_text).bind fun x6 =>
  if x6 = v3 then
    (fX5_in v4 v1 v2).bind fun x7 =>
    if x7 = 0 then
      some ((0 : Int32), s_readAt, v4)
    else
      sx_lt (s_readAt + (1 : Int32)) fun x8 =>
      some ((1 : Int32), x8, v4)
  else
    some ((0 : Int32), s_readAt, v4)
def fX5_number (s_size : Int32) (s_readAt : Int32) (s_readNumber : Int32) (s_text : Nat → Int32) (v1 : Int32) (v2 : Int32) (v3 : Int32) : Option (Int32 × Int32 × Int32) :=
  (fX5_isFigure s_size s_readAt s_text).bind fun x1 =>
  if x1 = 0 then
    some ((0 : Int32), s_readAt, s_readNumber)
  else
    (fX5_here s_size s_readAt s_text).bind fun x2 =>
    sx_lt (x2 - (48 : Int32)) fun x3 =>
    sx_lt (s_readAt + (1 : Int32)) fun x4 =>
    (fX5_isFigure s_size x4 s_text).bind fun x5 =>
    if x5 = 0 then
      jX5_number_60 s_size x4 s_text v1 v2 v3 x3
    else
      (fX5_here s_size x4 s_text).bind fun x9 =>
      sx_lt ((((10 : Int32) * x3) + x9) - (48 : Int32)) fun x10 =>
      sx_lt (x4 + (1 : Int32)) fun x11 =>
      jX5_number_60 s_size x11 s_text v1 v2 v3 x10
set_option maxHeartbeats 4000000 in
set_option maxRecDepth 100000 in
theorem ctX5_number (l : Launch) (d : sx_D) (a : Nat → Nat) (s_many : Int32) (s_windMany : Int32) (s_year : Int32) (s_saidMany : Int32) (s_size : Int32) (s_readAt : Int32) (s_readPeaks : Int32) (s_readWinds : Int32) (s_readNumber : Int32) (s_undoMany : Int32) (s_keptMany : Int32) (s_text : Nat → Int32) (v1 : Int32) (v2 : Int32) (v3 : Int32) (r : Int32) (ro1 : Int32) (ro2 : Int32) (hf : fX5_number s_size s_readAt s_readNumber s_text v1 v2 v3 = some (r, ro1, ro2)) : sx_I l d yX5_number cX5_number 5 .boolean 2 [.ref (a 0), .int v1, .int v2, .int v3] [oX5 a s_many s_windMany s_year s_saidMany s_size s_readAt s_readPeaks s_readWinds s_readNumber s_undoMany s_keptMany, ai d (a 9) 200 s_text] [oX5 a s_many s_windMany s_year s_saidMany s_size ro1 s_readPeaks s_readWinds ro2 s_undoMany s_keptMany, ai d (a 9) 200 s_text] r := by
  refine sx_I.intro (lv0 := [some (.ref (a 0)), some (.int v1), some (.int v2), some (.int v3), none]) (by decide +kernel) (Nat.le_of_ble_eq_true rfl) rfl ?_
  intro κ X hR
  have X : sx_X d κ cX5_number 5 RX5 (sx_rm 2) := X
  unfold fX5_number at hf
  refine g_aload_n (pc' := 1) X dX5_number_0 rfl rfl rfl ?_
  refine g_callVi0 (pc' := 4) (As := []) (b := (a 0)) (st := []) (w2 := fun x1 => [oX5 a s_many s_windMany s_year s_saidMany s_size s_readAt s_readPeaks s_readWinds s_readNumber s_undoMany s_keptMany, ai d (a 9) 200 s_text]) X lk_X5_99 dX5_number_1 rfl rfl rfl (Nat.le_of_ble_eq_true rfl) ⟨Nat.le_of_ble_eq_true rfl, Nat.le_of_ble_eq_true rfl, Nat.le_of_ble_eq_true rfl, Nat.le_of_ble_eq_true rfl⟩ rfl [0, 1] (by decide) rfl hf (fun l x1 h => ctX5_isFigure l d a s_many s_windMany s_year s_saidMany s_size s_readAt s_readPeaks s_readWinds s_readNumber s_undoMany s_keptMany s_text x1 h) (fun _ => rfl) (fun _ => rfl) (fun x1 hnx1 hf => ?_)
  refine g_if_ne (tgt := 9) (pc' := 7) X dX5_number_4 (by decide) rfl hf (fun hf => ?_) (fun hf => ?_)
  · refine g_aload_n (pc' := 10) X dX5_number_9 rfl rfl rfl ?_
    refine g_callVi0 (pc' := 13) (As := []) (b := (a 0)) (st := []) (w2 := fun x2 => [oX5 a s_many s_windMany s_year s_saidMany s_size s_readAt s_readPeaks s_readWinds s_readNumber s_undoMany s_keptMany, ai d (a 9) 200 s_text]) X lk_X5_95 dX5_number_10 rfl rfl rfl (Nat.le_of_ble_eq_true rfl) ⟨Nat.le_of_ble_eq_true rfl, Nat.le_of_ble_eq_true rfl, Nat.le_of_ble_eq_true rfl, Nat.le_of_ble_eq_true rfl⟩ rfl [0, 1] (by decide) rfl hf (fun l x2 h => ctX5_here l d a s_many s_windMany s_year s_saidMany s_size s_readAt s_readPeaks s_readWinds s_readNumber s_undoMany s_keptMany s_text x2 h) (fun _ => rfl) (fun _ => rfl) (fun x2 hnx2 hf => ?_)
    refine g_bipush (v := 48) (pc' := 15) X dX5_number_13 rfl (by decide) ?_
    refine g_isub (pc' := 16) X dX5_number_15 rfl ?_
    refine g_istoreN (lv' := fun x3 => [some (.ref (a 0)), some (.int v1), some (.int v2), some (.int v3), some (.int x3)]) (pc' := 18) X dX5_number_16 rfl (by decide) rfl (fun _ => rfl) hf (fun x3 hf => ?_)
    refine g_aload_n (pc' := 19) X dX5_number_18 rfl rfl rfl ?_
    refine g_dup (pc' := 20) X dX5_number_19 rfl rfl ?_
    refine g_get (pc' := 23) X fl_X5_92 dX5_number_20 rfl 0 rfl rfl ?_
    refine g_iconst (v := 1) (pc' := 24) X dX5_number_23 rfl (by decide) ?_
    refine g_iadd (pc' := 25) X dX5_number_24 rfl ?_
    refine g_putN (pc' := 28) (w2 := fun x4 => [oX5 a s_many s_windMany s_year s_saidMany s_size x4 s_readPeaks s_readWinds s_readNumber s_undoMany s_keptMany, ai d (a 9) 200 s_text]) X fl_X5_92 fw_X5 rfl dX5_number_25 rfl 0 rfl (fun _ => rfl) (fun _ => rfl) (Nat.le_of_ble_eq_true rfl) (fun _ => rfl) hf (fun x4 hf => ?_)
    refine g_aload_n (pc' := 29) X dX5_number_28 rfl rfl rfl ?_
    refine g_callVi0 (pc' := 32) (As := []) (b := (a 0)) (st := []) (w2 := fun x5 => [oX5 a s_many s_windMany s_year s_saidMany s_size x4 s_readPeaks s_readWinds s_readNumber s_undoMany s_keptMany, ai d (a 9) 200 s_text]) X lk_X5_99 dX5_number_29 rfl rfl rfl (Nat.le_of_ble_eq_true rfl) ⟨Nat.le_of_ble_eq_true rfl, Nat.le_of_ble_eq_true rfl, Nat.le_of_ble_eq_true rfl, Nat.le_of_ble_eq_true rfl⟩ rfl [0, 1] (by decide) rfl hf (fun l x5 h => ctX5_isFigure l d a s_many s_windMany s_year s_saidMany s_size x4 s_readPeaks s_readWinds s_readNumber s_undoMany s_keptMany s_text x5 h) (fun _ => rfl) (fun _ => rfl) (fun x5 hnx5 hf => ?_)
    have hjX5_number_60 : ∀ (v1 : Int32) (v2 : Int32) (v3 : Int32) (v4 : Int32) (s_readAt : Int32) (s_readNumber : Int32), jX5_number_60 s_size s_readAt s_text v1 v2 v3 v4 = some (r, ro1, ro2) → sx_G d κ 5 0 0 60 [some (.ref (a 0)), some (.int v1), some (.int v2), some (.int v3), some (.int v4)] [] [oX5 a s_many s_windMany s_year s_saidMany s_size s_readAt s_readPeaks s_readWinds s_readNumber s_undoMany s_keptMany, ai d (a 9) 200 s_text] := by
      intro v1 v2 v3 v4 s_readAt s_readNumber hf
      unfold jX5_number_60 at hf
      refine g_aload_n (pc' := 61) X dX5_number_60 rfl rfl rfl ?_
      refine g_iload (pc' := 63) X dX5_number_61 rfl rfl ?_
      refine g_put (pc' := 66) (w2 := [oX5 a s_many s_windMany s_year s_saidMany s_size s_readAt s_readPeaks s_readWinds v4 s_undoMany s_keptMany, ai d (a 9) 200 s_text]) X fl_X5_103 fw_X5 rfl dX5_number_63 rfl 0 rfl rfl rfl (Nat.le_of_ble_eq_true rfl) rfl ?_
      refine g_aload_n (pc' := 67) X dX5_number_66 rfl rfl rfl ?_
      refine g_callVi0 (pc' := 70) (As := []) (b := (a 0)) (st := []) (w2 := fun x6 => [oX5 a s_many s_windMany s_year s_saidMany s_size s_readAt s_readPeaks s_readWinds v4 s_undoMany s_keptMany, ai d (a 9) 200 s_text]) X lk_X5_95 dX5_number_67 rfl rfl rfl (Nat.le_of_ble_eq_true rfl) ⟨Nat.le_of_ble_eq_true rfl, Nat.le_of_ble_eq_true rfl, Nat.le_of_ble_eq_true rfl, Nat.le_of_ble_eq_true rfl⟩ rfl [0, 1] (by decide) rfl hf (fun l x6 h => ctX5_here l d a s_many s_windMany s_year s_saidMany s_size s_readAt s_readPeaks s_readWinds v4 s_undoMany s_keptMany s_text x6 h) (fun _ => rfl) (fun _ => rfl) (fun x6 hnx6 hf => ?_)
      refine g_iload_n (pc' := 71) X dX5_number_70 rfl rfl rfl ?_
      refine g_icmp_ne (tgt := 84) (pc' := 74) X dX5_number_71 (by decide) rfl hf (fun hf => ?_) (fun hf => ?_)
      · refine g_iconst (v := 0) (pc' := 85) X dX5_number_84 rfl (by decide) ?_
        cases hf
        exact hR _ _ dX5_number_85 rfl
      · refine g_iload (pc' := 76) X dX5_number_74 rfl rfl ?_
        refine g_iload_n (pc' := 77) X dX5_number_76 rfl rfl rfl ?_
        refine g_iload_n (pc' := 78) X dX5_number_77 rfl rfl rfl ?_
        refine g_callSi0 (pc' := 81) (As := [.int v4, .int v1, .int v2]) (st := []) (w2 := fun x7 => [oX5 a s_many s_windMany s_year s_saidMany s_size s_readAt s_readPeaks s_readWinds v4 s_undoMany s_keptMany, ai d (a 9) 200 s_text]) X lk_X5_81 dX5_number_78 rfl rfl rfl (Nat.le_of_ble_eq_true rfl) ⟨Nat.le_of_ble_eq_true rfl, Nat.le_of_ble_eq_true rfl, Nat.le_of_ble_eq_true rfl, Nat.le_of_ble_eq_true rfl⟩ [] (by decide) rfl hf (fun l x7 h => ctX5_in l d v4 v1 v2 x7 h) (fun _ => rfl) (fun _ => rfl) (fun x7 hnx7 hf => ?_)
        refine g_if_ne (tgt := 86) (pc' := 84) X dX5_number_81 (by decide) rfl hf (fun hf => ?_) (fun hf => ?_)
        · refine g_aload_n (pc' := 87) X dX5_number_86 rfl rfl rfl ?_
          refine g_dup (pc' := 88) X dX5_number_87 rfl rfl ?_
          refine g_get (pc' := 91) X fl_X5_92 dX5_number_88 rfl 0 rfl rfl ?_
          refine g_iconst (v := 1) (pc' := 92) X dX5_number_91 rfl (by decide) ?_
          refine g_iadd (pc' := 93) X dX5_number_92 rfl ?_
          refine g_putN (pc' := 96) (w2 := fun x8 => [oX5 a s_many s_windMany s_year s_saidMany s_size x8 s_readPeaks s_readWinds v4 s_undoMany s_keptMany, ai d (a 9) 200 s_text]) X fl_X5_92 fw_X5 rfl dX5_number_93 rfl 0 rfl (fun _ => rfl) (fun _ => rfl) (Nat.le_of_ble_eq_true rfl) (fun _ => rfl) hf (fun x8 hf => ?_)
          refine g_iconst (v := 1) (pc' := 97) X dX5_number_96 rfl (by decide) ?_
          cases hf
          exact hR _ _ dX5_number_97 rfl
        · refine g_iconst (v := 0) (pc' := 85) X dX5_number_84 rfl (by decide) ?_
          cases hf
          exact hR _ _ dX5_number_85 rfl
    refine g_if_eq (tgt := 60) (pc' := 35) X dX5_number_32 (by decide) rfl hf (fun hf => ?_) (fun hf => ?_)
    · exact sx_weak [true, true, true, true, true] rfl (hjX5_number_60 v1 v2 v3 x3 x4 s_readNumber hf)
    · refine g_bipush (v := 10) (pc' := 37) X dX5_number_35 rfl (by decide) ?_
      refine g_iload (pc' := 39) X dX5_number_37 rfl rfl ?_
      refine g_imul (pc' := 40) X dX5_number_39 rfl ?_
      refine g_aload_n (pc' := 41) X dX5_number_40 rfl rfl rfl ?_
      refine g_callVi0 (pc' := 44) (As := []) (b := (a 0)) (st := [.int ((10 : Int32) * x3)]) (w2 := fun x9 => [oX5 a s_many s_windMany s_year s_saidMany s_size x4 s_readPeaks s_readWinds s_readNumber s_undoMany s_keptMany, ai d (a 9) 200 s_text]) X lk_X5_95 dX5_number_41 rfl rfl rfl (Nat.le_of_ble_eq_true rfl) ⟨Nat.le_of_ble_eq_true rfl, Nat.le_of_ble_eq_true rfl, Nat.le_of_ble_eq_true rfl, Nat.le_of_ble_eq_true rfl⟩ rfl [0, 1] (by decide) rfl hf (fun l x9 h => ctX5_here l d a s_many s_windMany s_year s_saidMany s_size x4 s_readPeaks s_readWinds s_readNumber s_undoMany s_keptMany s_text x9 h) (fun _ => rfl) (fun _ => rfl) (fun x9 hnx9 hf => ?_)
      refine g_iadd (pc' := 45) X dX5_number_44 rfl ?_
      refine g_bipush (v := 48) (pc' := 47) X dX5_number_45 rfl (by decide) ?_
      refine g_isub (pc' := 48) X dX5_number_47 rfl ?_
      refine g_istoreN (lv' := fun x10 => [some (.ref (a 0)), some (.int v1), some (.int v2), some (.int v3), some (.int x10)]) (pc' := 50) X dX5_number_48 rfl (by decide) rfl (fun _ => rfl) hf (fun x10 hf => ?_)
      refine g_aload_n (pc' := 51) X dX5_number_50 rfl rfl rfl ?_
      refine g_dup (pc' := 52) X dX5_number_51 rfl rfl ?_
      refine g_get (pc' := 55) X fl_X5_92 dX5_number_52 rfl 0 rfl rfl ?_
      refine g_iconst (v := 1) (pc' := 56) X dX5_number_55 rfl (by decide) ?_
      refine g_iadd (pc' := 57) X dX5_number_56 rfl ?_
      refine g_putN (pc' := 60) (w2 := fun x11 => [oX5 a s_many s_windMany s_year s_saidMany s_size x11 s_readPeaks s_readWinds s_readNumber s_undoMany s_keptMany, ai d (a 9) 200 s_text]) X fl_X5_92 fw_X5 rfl dX5_number_57 rfl 0 rfl (fun _ => rfl) (fun _ => rfl) (Nat.le_of_ble_eq_true rfl) (fun _ => rfl) hf (fun x11 hf => ?_)
      exact sx_weak [true, true, true, true, true] rfl (hjX5_number_60 v1 v2 v3 x10 x11 s_readNumber hf)
  · refine g_iconst (v := 0) (pc' := 8) X dX5_number_7 rfl (by decide) ?_
    cases hf
    exact hR _ _ dX5_number_8 rfl
-- X5_readsPeak
def fX5_readsPeak (s_size : Int32) (s_readAt : Int32) (s_readPeaks : Int32) (s_readNumber : Int32) (s_text : Nat → Int32) (s_readKinds : Nat → Int32) (s_readHighs : Nat → Int32) : Option (Int32 × Int32 × Int32 × Int32 × (Nat → Int32) × (Nat → Int32)) :=
  if s_readPeaks = (6 : Int32) then
    some ((0 : Int32), s_readAt, s_readPeaks, s_readNumber, s_readKinds, s_readHighs)
  else
    (fX5_number s_size s_readAt s_readNumber s_text (0 : Int32) (3 : Int32) (44 : Int32)).bind fun (x1, o2, o3) =>
    if x1 = 0 then
      some ((0 : Int32), o2, s_readPeaks, o3, s_readKinds, s_readHighs)
    else
      (fX5_number s_size o2 o3 s_text (1 : Int32) (20 : Int32) (59 : Int32)).bind fun (x4, o5, o6) =>
      if x4 = 0 then
        some ((0 : Int32), o5, s_readPeaks, o6, s_readKinds, s_readHighs)
      else
        sx_wr s_readKinds 6 s_readPeaks o3 fun g7 =>
        sx_wr s_readHighs 6 s_readPeaks o6 fun g8 =>
        sx_lt (s_readPeaks + (1 : Int32)) fun x9 =>
        some ((1 : Int32), o5, x9, o6, g7, g8)
set_option maxHeartbeats 4000000 in
set_option maxRecDepth 100000 in
theorem ctX5_readsPeak (l : Launch) (d : sx_D) (a : Nat → Nat) (s_many : Int32) (s_windMany : Int32) (s_year : Int32) (s_saidMany : Int32) (s_size : Int32) (s_readAt : Int32) (s_readPeaks : Int32) (s_readWinds : Int32) (s_readNumber : Int32) (s_undoMany : Int32) (s_keptMany : Int32) (s_text : Nat → Int32) (s_readKinds : Nat → Int32) (s_readHighs : Nat → Int32) (r : Int32) (ro1 : Int32) (ro2 : Int32) (ro3 : Int32) (ro4 : Nat → Int32) (ro5 : Nat → Int32) (hf : fX5_readsPeak s_size s_readAt s_readPeaks s_readNumber s_text s_readKinds s_readHighs = some (r, ro1, ro2, ro3, ro4, ro5)) : sx_I l d yX5_readsPeak cX5_readsPeak 2 .boolean 3 [.ref (a 0)] [oX5 a s_many s_windMany s_year s_saidMany s_size s_readAt s_readPeaks s_readWinds s_readNumber s_undoMany s_keptMany, ai d (a 9) 200 s_text, ai d (a 10) 6 s_readKinds, ai d (a 11) 6 s_readHighs] [oX5 a s_many s_windMany s_year s_saidMany s_size ro1 ro2 s_readWinds ro3 s_undoMany s_keptMany, ai d (a 9) 200 s_text, ai d (a 10) 6 ro4, ai d (a 11) 6 ro5] r := by
  refine sx_I.intro (lv0 := [some (.ref (a 0)), none]) (by decide +kernel) (Nat.le_of_ble_eq_true rfl) rfl ?_
  intro κ X hR
  have X : sx_X d κ cX5_readsPeak 2 RX5 (sx_rm 3) := X
  unfold fX5_readsPeak at hf
  refine g_aload_n (pc' := 1) X dX5_readsPeak_0 rfl rfl rfl ?_
  refine g_get (pc' := 4) X fl_X5_106 dX5_readsPeak_1 rfl 0 rfl rfl ?_
  refine g_bipush (v := 6) (pc' := 6) X dX5_readsPeak_4 rfl (by decide) ?_
  refine g_icmp_eq (tgt := 20) (pc' := 9) X dX5_readsPeak_6 (by decide) rfl hf (fun hf => ?_) (fun hf => ?_)
  · refine g_iconst (v := 0) (pc' := 21) X dX5_readsPeak_20 rfl (by decide) ?_
    cases hf
    exact hR _ _ dX5_readsPeak_21 rfl
  · refine g_aload_n (pc' := 10) X dX5_readsPeak_9 rfl rfl rfl ?_
    refine g_iconst (v := 0) (pc' := 11) X dX5_readsPeak_10 rfl (by decide) ?_
    refine g_iconst (v := 3) (pc' := 12) X dX5_readsPeak_11 rfl (by decide) ?_
    refine g_bipush (v := 44) (pc' := 14) X dX5_readsPeak_12 rfl (by decide) ?_
    refine g_callVi2 (pc' := 17) (As := [.int (0 : Int32), .int (3 : Int32), .int (44 : Int32)]) (b := (a 0)) (st := []) (w2 := fun x1 o2 o3 => [oX5 a s_many s_windMany s_year s_saidMany s_size o2 s_readPeaks s_readWinds o3 s_undoMany s_keptMany, ai d (a 9) 200 s_text, ai d (a 10) 6 s_readKinds, ai d (a 11) 6 s_readHighs]) X lk_X5_109 dX5_readsPeak_14 rfl rfl rfl (Nat.le_of_ble_eq_true rfl) ⟨Nat.le_of_ble_eq_true rfl, Nat.le_of_ble_eq_true rfl, Nat.le_of_ble_eq_true rfl, Nat.le_of_ble_eq_true rfl⟩ rfl [0, 1] (by decide) rfl hf (fun l x1 o2 o3 h => ctX5_number l d a s_many s_windMany s_year s_saidMany s_size s_readAt s_readPeaks s_readWinds s_readNumber s_undoMany s_keptMany s_text (0 : Int32) (3 : Int32) (44 : Int32) x1 o2 o3 h) (fun _ _ _ => rfl) (fun _ _ _ => rfl) (fun x1 o2 o3 hnx1 hf => ?_)
    refine g_if_ne (tgt := 22) (pc' := 20) X dX5_readsPeak_17 (by decide) rfl hf (fun hf => ?_) (fun hf => ?_)
    · refine g_aload_n (pc' := 23) X dX5_readsPeak_22 rfl rfl rfl ?_
      refine g_get (pc' := 26) X fl_X5_103 dX5_readsPeak_23 rfl 0 rfl rfl ?_
      refine g_istore_n (lv' := [some (.ref (a 0)), some (.int o3)]) (pc' := 27) X dX5_readsPeak_26 rfl rfl (by decide) rfl rfl ?_
      refine g_aload_n (pc' := 28) X dX5_readsPeak_27 rfl rfl rfl ?_
      refine g_iconst (v := 1) (pc' := 29) X dX5_readsPeak_28 rfl (by decide) ?_
      refine g_bipush (v := 20) (pc' := 31) X dX5_readsPeak_29 rfl (by decide) ?_
      refine g_bipush (v := 59) (pc' := 33) X dX5_readsPeak_31 rfl (by decide) ?_
      refine g_callVi2 (pc' := 36) (As := [.int (1 : Int32), .int (20 : Int32), .int (59 : Int32)]) (b := (a 0)) (st := []) (w2 := fun x4 o5 o6 => [oX5 a s_many s_windMany s_year s_saidMany s_size o5 s_readPeaks s_readWinds o6 s_undoMany s_keptMany, ai d (a 9) 200 s_text, ai d (a 10) 6 s_readKinds, ai d (a 11) 6 s_readHighs]) X lk_X5_109 dX5_readsPeak_33 rfl rfl rfl (Nat.le_of_ble_eq_true rfl) ⟨Nat.le_of_ble_eq_true rfl, Nat.le_of_ble_eq_true rfl, Nat.le_of_ble_eq_true rfl, Nat.le_of_ble_eq_true rfl⟩ rfl [0, 1] (by decide) rfl hf (fun l x4 o5 o6 h => ctX5_number l d a s_many s_windMany s_year s_saidMany s_size o2 s_readPeaks s_readWinds o3 s_undoMany s_keptMany s_text (1 : Int32) (20 : Int32) (59 : Int32) x4 o5 o6 h) (fun _ _ _ => rfl) (fun _ _ _ => rfl) (fun x4 o5 o6 hnx4 hf => ?_)
      refine g_if_ne (tgt := 41) (pc' := 39) X dX5_readsPeak_36 (by decide) rfl hf (fun hf => ?_) (fun hf => ?_)
      · refine g_aload_n (pc' := 42) X dX5_readsPeak_41 rfl rfl rfl ?_
        refine g_get (pc' := 45) X fl_X5_37 dX5_readsPeak_42 rfl 0 rfl rfl ?_
        refine g_aload_n (pc' := 46) X dX5_readsPeak_45 rfl rfl rfl ?_
        refine g_get (pc' := 49) X fl_X5_106 dX5_readsPeak_46 rfl 0 rfl rfl ?_
        refine g_iload_n (pc' := 50) X dX5_readsPeak_49 rfl rfl rfl ?_
        refine g_iast (pc' := 51) (w2 := fun g7 => [oX5 a s_many s_windMany s_year s_saidMany s_size o5 s_readPeaks s_readWinds o6 s_undoMany s_keptMany, ai d (a 9) 200 s_text, ai d (a 10) 6 g7, ai d (a 11) 6 s_readHighs]) X dX5_readsPeak_50 rfl 2 rfl hf (fun _ => rfl) (fun g7 hf => ?_)
        refine g_aload_n (pc' := 52) X dX5_readsPeak_51 rfl rfl rfl ?_
        refine g_get (pc' := 55) X fl_X5_40 dX5_readsPeak_52 rfl 0 rfl rfl ?_
        refine g_aload_n (pc' := 56) X dX5_readsPeak_55 rfl rfl rfl ?_
        refine g_get (pc' := 59) X fl_X5_106 dX5_readsPeak_56 rfl 0 rfl rfl ?_
        refine g_aload_n (pc' := 60) X dX5_readsPeak_59 rfl rfl rfl ?_
        refine g_get (pc' := 63) X fl_X5_103 dX5_readsPeak_60 rfl 0 rfl rfl ?_
        refine g_iast (pc' := 64) (w2 := fun g8 => [oX5 a s_many s_windMany s_year s_saidMany s_size o5 s_readPeaks s_readWinds o6 s_undoMany s_keptMany, ai d (a 9) 200 s_text, ai d (a 10) 6 g7, ai d (a 11) 6 g8]) X dX5_readsPeak_63 rfl 3 rfl hf (fun _ => rfl) (fun g8 hf => ?_)
        refine g_aload_n (pc' := 65) X dX5_readsPeak_64 rfl rfl rfl ?_
        refine g_dup (pc' := 66) X dX5_readsPeak_65 rfl rfl ?_
        refine g_get (pc' := 69) X fl_X5_106 dX5_readsPeak_66 rfl 0 rfl rfl ?_
        refine g_iconst (v := 1) (pc' := 70) X dX5_readsPeak_69 rfl (by decide) ?_
        refine g_iadd (pc' := 71) X dX5_readsPeak_70 rfl ?_
        refine g_putN (pc' := 74) (w2 := fun x9 => [oX5 a s_many s_windMany s_year s_saidMany s_size o5 x9 s_readWinds o6 s_undoMany s_keptMany, ai d (a 9) 200 s_text, ai d (a 10) 6 g7, ai d (a 11) 6 g8]) X fl_X5_106 fw_X5 rfl dX5_readsPeak_71 rfl 0 rfl (fun _ => rfl) (fun _ => rfl) (Nat.le_of_ble_eq_true rfl) (fun _ => rfl) hf (fun x9 hf => ?_)
        refine g_iconst (v := 1) (pc' := 75) X dX5_readsPeak_74 rfl (by decide) ?_
        cases hf
        exact hR _ _ dX5_readsPeak_75 rfl
      · refine g_iconst (v := 0) (pc' := 40) X dX5_readsPeak_39 rfl (by decide) ?_
        cases hf
        exact hR _ _ dX5_readsPeak_40 rfl
    · refine g_iconst (v := 0) (pc' := 21) X dX5_readsPeak_20 rfl (by decide) ?_
      cases hf
      exact hR _ _ dX5_readsPeak_21 rfl
-- X5_readsStore
def fX5_readsStore (s_size : Int32) (s_readAt : Int32) (s_readNumber : Int32) (s_text : Nat → Int32) (s_readStore : Nat → Int32) : Option (Int32 × Int32 × Int32 × (Nat → Int32)) :=
  (fX5_number s_size s_readAt s_readNumber s_text (0 : Int32) (4 : Int32) (44 : Int32)).bind fun (x1, o2, o3) =>
  if x1 = 0 then
    some ((0 : Int32), o2, o3, s_readStore)
  else
    (fX5_number s_size o2 o3 s_text (0 : Int32) (9 : Int32) (59 : Int32)).bind fun (x4, o5, o6) =>
    if x4 = 0 then
      some ((0 : Int32), o5, o6, s_readStore)
    else
      sx_wr s_readStore 5 o3 o6 fun g7 =>
      some ((1 : Int32), o5, o6, g7)
set_option maxHeartbeats 4000000 in
set_option maxRecDepth 100000 in
theorem ctX5_readsStore (l : Launch) (d : sx_D) (a : Nat → Nat) (s_many : Int32) (s_windMany : Int32) (s_year : Int32) (s_saidMany : Int32) (s_size : Int32) (s_readAt : Int32) (s_readPeaks : Int32) (s_readWinds : Int32) (s_readNumber : Int32) (s_undoMany : Int32) (s_keptMany : Int32) (s_text : Nat → Int32) (s_readStore : Nat → Int32) (r : Int32) (ro1 : Int32) (ro2 : Int32) (ro3 : Nat → Int32) (hf : fX5_readsStore s_size s_readAt s_readNumber s_text s_readStore = some (r, ro1, ro2, ro3)) : sx_I l d yX5_readsStore cX5_readsStore 2 .boolean 3 [.ref (a 0)] [oX5 a s_many s_windMany s_year s_saidMany s_size s_readAt s_readPeaks s_readWinds s_readNumber s_undoMany s_keptMany, ai d (a 9) 200 s_text, ai d (a 13) 5 s_readStore] [oX5 a s_many s_windMany s_year s_saidMany s_size ro1 s_readPeaks s_readWinds ro2 s_undoMany s_keptMany, ai d (a 9) 200 s_text, ai d (a 13) 5 ro3] r := by
  refine sx_I.intro (lv0 := [some (.ref (a 0)), none]) (by decide +kernel) (Nat.le_of_ble_eq_true rfl) rfl ?_
  intro κ X hR
  have X : sx_X d κ cX5_readsStore 2 RX5 (sx_rm 3) := X
  unfold fX5_readsStore at hf
  refine g_aload_n (pc' := 1) X dX5_readsStore_0 rfl rfl rfl ?_
  refine g_iconst (v := 0) (pc' := 2) X dX5_readsStore_1 rfl (by decide) ?_
  refine g_iconst (v := 4) (pc' := 3) X dX5_readsStore_2 rfl (by decide) ?_
  refine g_bipush (v := 44) (pc' := 5) X dX5_readsStore_3 rfl (by decide) ?_
  refine g_callVi2 (pc' := 8) (As := [.int (0 : Int32), .int (4 : Int32), .int (44 : Int32)]) (b := (a 0)) (st := []) (w2 := fun x1 o2 o3 => [oX5 a s_many s_windMany s_year s_saidMany s_size o2 s_readPeaks s_readWinds o3 s_undoMany s_keptMany, ai d (a 9) 200 s_text, ai d (a 13) 5 s_readStore]) X lk_X5_109 dX5_readsStore_5 rfl rfl rfl (Nat.le_of_ble_eq_true rfl) ⟨Nat.le_of_ble_eq_true rfl, Nat.le_of_ble_eq_true rfl, Nat.le_of_ble_eq_true rfl, Nat.le_of_ble_eq_true rfl⟩ rfl [0, 1] (by decide) rfl hf (fun l x1 o2 o3 h => ctX5_number l d a s_many s_windMany s_year s_saidMany s_size s_readAt s_readPeaks s_readWinds s_readNumber s_undoMany s_keptMany s_text (0 : Int32) (4 : Int32) (44 : Int32) x1 o2 o3 h) (fun _ _ _ => rfl) (fun _ _ _ => rfl) (fun x1 o2 o3 hnx1 hf => ?_)
  refine g_if_ne (tgt := 13) (pc' := 11) X dX5_readsStore_8 (by decide) rfl hf (fun hf => ?_) (fun hf => ?_)
  · refine g_aload_n (pc' := 14) X dX5_readsStore_13 rfl rfl rfl ?_
    refine g_get (pc' := 17) X fl_X5_103 dX5_readsStore_14 rfl 0 rfl rfl ?_
    refine g_istore_n (lv' := [some (.ref (a 0)), some (.int o3)]) (pc' := 18) X dX5_readsStore_17 rfl rfl (by decide) rfl rfl ?_
    refine g_aload_n (pc' := 19) X dX5_readsStore_18 rfl rfl rfl ?_
    refine g_iconst (v := 0) (pc' := 20) X dX5_readsStore_19 rfl (by decide) ?_
    refine g_bipush (v := 9) (pc' := 22) X dX5_readsStore_20 rfl (by decide) ?_
    refine g_bipush (v := 59) (pc' := 24) X dX5_readsStore_22 rfl (by decide) ?_
    refine g_callVi2 (pc' := 27) (As := [.int (0 : Int32), .int (9 : Int32), .int (59 : Int32)]) (b := (a 0)) (st := []) (w2 := fun x4 o5 o6 => [oX5 a s_many s_windMany s_year s_saidMany s_size o5 s_readPeaks s_readWinds o6 s_undoMany s_keptMany, ai d (a 9) 200 s_text, ai d (a 13) 5 s_readStore]) X lk_X5_109 dX5_readsStore_24 rfl rfl rfl (Nat.le_of_ble_eq_true rfl) ⟨Nat.le_of_ble_eq_true rfl, Nat.le_of_ble_eq_true rfl, Nat.le_of_ble_eq_true rfl, Nat.le_of_ble_eq_true rfl⟩ rfl [0, 1] (by decide) rfl hf (fun l x4 o5 o6 h => ctX5_number l d a s_many s_windMany s_year s_saidMany s_size o2 s_readPeaks s_readWinds o3 s_undoMany s_keptMany s_text (0 : Int32) (9 : Int32) (59 : Int32) x4 o5 o6 h) (fun _ _ _ => rfl) (fun _ _ _ => rfl) (fun x4 o5 o6 hnx4 hf => ?_)
    refine g_if_ne (tgt := 32) (pc' := 30) X dX5_readsStore_27 (by decide) rfl hf (fun hf => ?_) (fun hf => ?_)
    · refine g_aload_n (pc' := 33) X dX5_readsStore_32 rfl rfl rfl ?_
      refine g_get (pc' := 36) X fl_X5_46 dX5_readsStore_33 rfl 0 rfl rfl ?_
      refine g_iload_n (pc' := 37) X dX5_readsStore_36 rfl rfl rfl ?_
      refine g_aload_n (pc' := 38) X dX5_readsStore_37 rfl rfl rfl ?_
      refine g_get (pc' := 41) X fl_X5_103 dX5_readsStore_38 rfl 0 rfl rfl ?_
      refine g_iast (pc' := 42) (w2 := fun g7 => [oX5 a s_many s_windMany s_year s_saidMany s_size o5 s_readPeaks s_readWinds o6 s_undoMany s_keptMany, ai d (a 9) 200 s_text, ai d (a 13) 5 g7]) X dX5_readsStore_41 rfl 2 rfl hf (fun _ => rfl) (fun g7 hf => ?_)
      refine g_iconst (v := 1) (pc' := 43) X dX5_readsStore_42 rfl (by decide) ?_
      cases hf
      exact hR _ _ dX5_readsStore_43 rfl
    · refine g_iconst (v := 0) (pc' := 31) X dX5_readsStore_30 rfl (by decide) ?_
      cases hf
      exact hR _ _ dX5_readsStore_31 rfl
  · refine g_iconst (v := 0) (pc' := 12) X dX5_readsStore_11 rfl (by decide) ?_
    cases hf
    exact hR _ _ dX5_readsStore_12 rfl
-- X5_readsOn
def fX5_readsOn (s_size : Int32) (s_readAt : Int32) (s_readPeaks : Int32) (s_readNumber : Int32) (s_text : Nat → Int32) (s_readPins : Nat → Int32) : Option (Int32 × Int32 × Int32 × (Nat → Int32)) :=
  (fX5_number s_size s_readAt s_readNumber s_text (0 : Int32) (s_readPeaks - (1 : Int32)) (44 : Int32)).bind fun (x1, o2, o3) =>
  if x1 = 0 then
    some ((0 : Int32), o2, o3, s_readPins)
  else
    (fX5_number s_size o2 o3 s_text (0 : Int32) (4 : Int32) (44 : Int32)).bind fun (x4, o5, o6) =>
    if x4 = 0 then
      some ((0 : Int32), o5, o6, s_readPins)
    else
      (fX5_number s_size o5 o6 s_text (1 : Int32) (20 : Int32) (59 : Int32)).bind fun (x7, o8, o9) =>
      if x7 = 0 then
        some ((0 : Int32), o8, o9, s_readPins)
      else
        sx_wr s_readPins 30 (((5 : Int32) * o3) + o6) o9 fun g10 =>
        some ((1 : Int32), o8, o9, g10)
set_option maxHeartbeats 4000000 in
set_option maxRecDepth 100000 in
theorem ctX5_readsOn (l : Launch) (d : sx_D) (a : Nat → Nat) (s_many : Int32) (s_windMany : Int32) (s_year : Int32) (s_saidMany : Int32) (s_size : Int32) (s_readAt : Int32) (s_readPeaks : Int32) (s_readWinds : Int32) (s_readNumber : Int32) (s_undoMany : Int32) (s_keptMany : Int32) (s_text : Nat → Int32) (s_readPins : Nat → Int32) (r : Int32) (ro1 : Int32) (ro2 : Int32) (ro3 : Nat → Int32) (hf : fX5_readsOn s_size s_readAt s_readPeaks s_readNumber s_text s_readPins = some (r, ro1, ro2, ro3)) : sx_I l d yX5_readsOn cX5_readsOn 3 .boolean 3 [.ref (a 0)] [oX5 a s_many s_windMany s_year s_saidMany s_size s_readAt s_readPeaks s_readWinds s_readNumber s_undoMany s_keptMany, ai d (a 9) 200 s_text, ai d (a 12) 30 s_readPins] [oX5 a s_many s_windMany s_year s_saidMany s_size ro1 s_readPeaks s_readWinds ro2 s_undoMany s_keptMany, ai d (a 9) 200 s_text, ai d (a 12) 30 ro3] r := by
  refine sx_I.intro (lv0 := [some (.ref (a 0)), none, none]) (by decide +kernel) (Nat.le_of_ble_eq_true rfl) rfl ?_
  intro κ X hR
  have X : sx_X d κ cX5_readsOn 3 RX5 (sx_rm 3) := X
  unfold fX5_readsOn at hf
  refine g_aload_n (pc' := 1) X dX5_readsOn_0 rfl rfl rfl ?_
  refine g_iconst (v := 0) (pc' := 2) X dX5_readsOn_1 rfl (by decide) ?_
  refine g_aload_n (pc' := 3) X dX5_readsOn_2 rfl rfl rfl ?_
  refine g_get (pc' := 6) X fl_X5_106 dX5_readsOn_3 rfl 0 rfl rfl ?_
  refine g_iconst (v := 1) (pc' := 7) X dX5_readsOn_6 rfl (by decide) ?_
  refine g_isub (pc' := 8) X dX5_readsOn_7 rfl ?_
  refine g_bipush (v := 44) (pc' := 10) X dX5_readsOn_8 rfl (by decide) ?_
  refine g_callVi2 (pc' := 13) (As := [.int (0 : Int32), .int (s_readPeaks - (1 : Int32)), .int (44 : Int32)]) (b := (a 0)) (st := []) (w2 := fun x1 o2 o3 => [oX5 a s_many s_windMany s_year s_saidMany s_size o2 s_readPeaks s_readWinds o3 s_undoMany s_keptMany, ai d (a 9) 200 s_text, ai d (a 12) 30 s_readPins]) X lk_X5_109 dX5_readsOn_10 rfl rfl rfl (Nat.le_of_ble_eq_true rfl) ⟨Nat.le_of_ble_eq_true rfl, Nat.le_of_ble_eq_true rfl, Nat.le_of_ble_eq_true rfl, Nat.le_of_ble_eq_true rfl⟩ rfl [0, 1] (by decide) rfl hf (fun l x1 o2 o3 h => ctX5_number l d a s_many s_windMany s_year s_saidMany s_size s_readAt s_readPeaks s_readWinds s_readNumber s_undoMany s_keptMany s_text (0 : Int32) (s_readPeaks - (1 : Int32)) (44 : Int32) x1 o2 o3 h) (fun _ _ _ => rfl) (fun _ _ _ => rfl) (fun x1 o2 o3 hnx1 hf => ?_)
  refine g_if_ne (tgt := 18) (pc' := 16) X dX5_readsOn_13 (by decide) rfl hf (fun hf => ?_) (fun hf => ?_)
  · refine g_aload_n (pc' := 19) X dX5_readsOn_18 rfl rfl rfl ?_
    refine g_get (pc' := 22) X fl_X5_103 dX5_readsOn_19 rfl 0 rfl rfl ?_
    refine g_istore_n (lv' := [some (.ref (a 0)), some (.int o3), none]) (pc' := 23) X dX5_readsOn_22 rfl rfl (by decide) rfl rfl ?_
    refine g_aload_n (pc' := 24) X dX5_readsOn_23 rfl rfl rfl ?_
    refine g_iconst (v := 0) (pc' := 25) X dX5_readsOn_24 rfl (by decide) ?_
    refine g_iconst (v := 4) (pc' := 26) X dX5_readsOn_25 rfl (by decide) ?_
    refine g_bipush (v := 44) (pc' := 28) X dX5_readsOn_26 rfl (by decide) ?_
    refine g_callVi2 (pc' := 31) (As := [.int (0 : Int32), .int (4 : Int32), .int (44 : Int32)]) (b := (a 0)) (st := []) (w2 := fun x4 o5 o6 => [oX5 a s_many s_windMany s_year s_saidMany s_size o5 s_readPeaks s_readWinds o6 s_undoMany s_keptMany, ai d (a 9) 200 s_text, ai d (a 12) 30 s_readPins]) X lk_X5_109 dX5_readsOn_28 rfl rfl rfl (Nat.le_of_ble_eq_true rfl) ⟨Nat.le_of_ble_eq_true rfl, Nat.le_of_ble_eq_true rfl, Nat.le_of_ble_eq_true rfl, Nat.le_of_ble_eq_true rfl⟩ rfl [0, 1] (by decide) rfl hf (fun l x4 o5 o6 h => ctX5_number l d a s_many s_windMany s_year s_saidMany s_size o2 s_readPeaks s_readWinds o3 s_undoMany s_keptMany s_text (0 : Int32) (4 : Int32) (44 : Int32) x4 o5 o6 h) (fun _ _ _ => rfl) (fun _ _ _ => rfl) (fun x4 o5 o6 hnx4 hf => ?_)
    refine g_if_ne (tgt := 36) (pc' := 34) X dX5_readsOn_31 (by decide) rfl hf (fun hf => ?_) (fun hf => ?_)
    · refine g_aload_n (pc' := 37) X dX5_readsOn_36 rfl rfl rfl ?_
      refine g_get (pc' := 40) X fl_X5_103 dX5_readsOn_37 rfl 0 rfl rfl ?_
      refine g_istore_n (lv' := [some (.ref (a 0)), some (.int o3), some (.int o6)]) (pc' := 41) X dX5_readsOn_40 rfl rfl (by decide) rfl rfl ?_
      refine g_aload_n (pc' := 42) X dX5_readsOn_41 rfl rfl rfl ?_
      refine g_iconst (v := 1) (pc' := 43) X dX5_readsOn_42 rfl (by decide) ?_
      refine g_bipush (v := 20) (pc' := 45) X dX5_readsOn_43 rfl (by decide) ?_
      refine g_bipush (v := 59) (pc' := 47) X dX5_readsOn_45 rfl (by decide) ?_
      refine g_callVi2 (pc' := 50) (As := [.int (1 : Int32), .int (20 : Int32), .int (59 : Int32)]) (b := (a 0)) (st := []) (w2 := fun x7 o8 o9 => [oX5 a s_many s_windMany s_year s_saidMany s_size o8 s_readPeaks s_readWinds o9 s_undoMany s_keptMany, ai d (a 9) 200 s_text, ai d (a 12) 30 s_readPins]) X lk_X5_109 dX5_readsOn_47 rfl rfl rfl (Nat.le_of_ble_eq_true rfl) ⟨Nat.le_of_ble_eq_true rfl, Nat.le_of_ble_eq_true rfl, Nat.le_of_ble_eq_true rfl, Nat.le_of_ble_eq_true rfl⟩ rfl [0, 1] (by decide) rfl hf (fun l x7 o8 o9 h => ctX5_number l d a s_many s_windMany s_year s_saidMany s_size o5 s_readPeaks s_readWinds o6 s_undoMany s_keptMany s_text (1 : Int32) (20 : Int32) (59 : Int32) x7 o8 o9 h) (fun _ _ _ => rfl) (fun _ _ _ => rfl) (fun x7 o8 o9 hnx7 hf => ?_)
      refine g_if_ne (tgt := 55) (pc' := 53) X dX5_readsOn_50 (by decide) rfl hf (fun hf => ?_) (fun hf => ?_)
      · refine g_aload_n (pc' := 56) X dX5_readsOn_55 rfl rfl rfl ?_
        refine g_get (pc' := 59) X fl_X5_43 dX5_readsOn_56 rfl 0 rfl rfl ?_
        refine g_iconst (v := 5) (pc' := 60) X dX5_readsOn_59 rfl (by decide) ?_
        refine g_iload_n (pc' := 61) X dX5_readsOn_60 rfl rfl rfl ?_
        refine g_imul (pc' := 62) X dX5_readsOn_61 rfl ?_
        refine g_iload_n (pc' := 63) X dX5_readsOn_62 rfl rfl rfl ?_
        refine g_iadd (pc' := 64) X dX5_readsOn_63 rfl ?_
        refine g_aload_n (pc' := 65) X dX5_readsOn_64 rfl rfl rfl ?_
        refine g_get (pc' := 68) X fl_X5_103 dX5_readsOn_65 rfl 0 rfl rfl ?_
        refine g_iast (pc' := 69) (w2 := fun g10 => [oX5 a s_many s_windMany s_year s_saidMany s_size o8 s_readPeaks s_readWinds o9 s_undoMany s_keptMany, ai d (a 9) 200 s_text, ai d (a 12) 30 g10]) X dX5_readsOn_68 rfl 2 rfl hf (fun _ => rfl) (fun g10 hf => ?_)
        refine g_iconst (v := 1) (pc' := 70) X dX5_readsOn_69 rfl (by decide) ?_
        cases hf
        exact hR _ _ dX5_readsOn_70 rfl
      · refine g_iconst (v := 0) (pc' := 54) X dX5_readsOn_53 rfl (by decide) ?_
        cases hf
        exact hR _ _ dX5_readsOn_54 rfl
    · refine g_iconst (v := 0) (pc' := 35) X dX5_readsOn_34 rfl (by decide) ?_
      cases hf
      exact hR _ _ dX5_readsOn_35 rfl
  · refine g_iconst (v := 0) (pc' := 17) X dX5_readsOn_16 rfl (by decide) ?_
    cases hf
    exact hR _ _ dX5_readsOn_17 rfl
-- X5_readsWind
def fX5_readsWind (s_size : Int32) (s_readAt : Int32) (s_readWinds : Int32) (s_readNumber : Int32) (s_text : Nat → Int32) (s_readWind : Nat → Int32) : Option (Int32 × Int32 × Int32 × Int32 × (Nat → Int32)) :=
  if s_readWinds = (12 : Int32) then
    some ((0 : Int32), s_readAt, s_readWinds, s_readNumber, s_readWind)
  else
    (fX5_number s_size s_readAt s_readNumber s_text (0 : Int32) (20 : Int32) (59 : Int32)).bind fun (x1, o2, o3) =>
    if x1 = 0 then
      some ((0 : Int32), o2, s_readWinds, o3, s_readWind)
    else
      sx_wr s_readWind 12 s_readWinds o3 fun g4 =>
      sx_lt (s_readWinds + (1 : Int32)) fun x5 =>
      some ((1 : Int32), o2, x5, o3, g4)
set_option maxHeartbeats 4000000 in
set_option maxRecDepth 100000 in
theorem ctX5_readsWind (l : Launch) (d : sx_D) (a : Nat → Nat) (s_many : Int32) (s_windMany : Int32) (s_year : Int32) (s_saidMany : Int32) (s_size : Int32) (s_readAt : Int32) (s_readPeaks : Int32) (s_readWinds : Int32) (s_readNumber : Int32) (s_undoMany : Int32) (s_keptMany : Int32) (s_text : Nat → Int32) (s_readWind : Nat → Int32) (r : Int32) (ro1 : Int32) (ro2 : Int32) (ro3 : Int32) (ro4 : Nat → Int32) (hf : fX5_readsWind s_size s_readAt s_readWinds s_readNumber s_text s_readWind = some (r, ro1, ro2, ro3, ro4)) : sx_I l d yX5_readsWind cX5_readsWind 1 .boolean 3 [.ref (a 0)] [oX5 a s_many s_windMany s_year s_saidMany s_size s_readAt s_readPeaks s_readWinds s_readNumber s_undoMany s_keptMany, ai d (a 9) 200 s_text, ai d (a 14) 12 s_readWind] [oX5 a s_many s_windMany s_year s_saidMany s_size ro1 s_readPeaks ro2 ro3 s_undoMany s_keptMany, ai d (a 9) 200 s_text, ai d (a 14) 12 ro4] r := by
  refine sx_I.intro (lv0 := [some (.ref (a 0))]) (by decide +kernel) (Nat.le_of_ble_eq_true rfl) rfl ?_
  intro κ X hR
  have X : sx_X d κ cX5_readsWind 1 RX5 (sx_rm 3) := X
  unfold fX5_readsWind at hf
  refine g_aload_n (pc' := 1) X dX5_readsWind_0 rfl rfl rfl ?_
  refine g_get (pc' := 4) X fl_X5_112 dX5_readsWind_1 rfl 0 rfl rfl ?_
  refine g_bipush (v := 12) (pc' := 6) X dX5_readsWind_4 rfl (by decide) ?_
  refine g_icmp_eq (tgt := 21) (pc' := 9) X dX5_readsWind_6 (by decide) rfl hf (fun hf => ?_) (fun hf => ?_)
  · refine g_iconst (v := 0) (pc' := 22) X dX5_readsWind_21 rfl (by decide) ?_
    cases hf
    exact hR _ _ dX5_readsWind_22 rfl
  · refine g_aload_n (pc' := 10) X dX5_readsWind_9 rfl rfl rfl ?_
    refine g_iconst (v := 0) (pc' := 11) X dX5_readsWind_10 rfl (by decide) ?_
    refine g_bipush (v := 20) (pc' := 13) X dX5_readsWind_11 rfl (by decide) ?_
    refine g_bipush (v := 59) (pc' := 15) X dX5_readsWind_13 rfl (by decide) ?_
    refine g_callVi2 (pc' := 18) (As := [.int (0 : Int32), .int (20 : Int32), .int (59 : Int32)]) (b := (a 0)) (st := []) (w2 := fun x1 o2 o3 => [oX5 a s_many s_windMany s_year s_saidMany s_size o2 s_readPeaks s_readWinds o3 s_undoMany s_keptMany, ai d (a 9) 200 s_text, ai d (a 14) 12 s_readWind]) X lk_X5_109 dX5_readsWind_15 rfl rfl rfl (Nat.le_of_ble_eq_true rfl) ⟨Nat.le_of_ble_eq_true rfl, Nat.le_of_ble_eq_true rfl, Nat.le_of_ble_eq_true rfl, Nat.le_of_ble_eq_true rfl⟩ rfl [0, 1] (by decide) rfl hf (fun l x1 o2 o3 h => ctX5_number l d a s_many s_windMany s_year s_saidMany s_size s_readAt s_readPeaks s_readWinds s_readNumber s_undoMany s_keptMany s_text (0 : Int32) (20 : Int32) (59 : Int32) x1 o2 o3 h) (fun _ _ _ => rfl) (fun _ _ _ => rfl) (fun x1 o2 o3 hnx1 hf => ?_)
    refine g_if_ne (tgt := 23) (pc' := 21) X dX5_readsWind_18 (by decide) rfl hf (fun hf => ?_) (fun hf => ?_)
    · refine g_aload_n (pc' := 24) X dX5_readsWind_23 rfl rfl rfl ?_
      refine g_get (pc' := 27) X fl_X5_49 dX5_readsWind_24 rfl 0 rfl rfl ?_
      refine g_aload_n (pc' := 28) X dX5_readsWind_27 rfl rfl rfl ?_
      refine g_get (pc' := 31) X fl_X5_112 dX5_readsWind_28 rfl 0 rfl rfl ?_
      refine g_aload_n (pc' := 32) X dX5_readsWind_31 rfl rfl rfl ?_
      refine g_get (pc' := 35) X fl_X5_103 dX5_readsWind_32 rfl 0 rfl rfl ?_
      refine g_iast (pc' := 36) (w2 := fun g4 => [oX5 a s_many s_windMany s_year s_saidMany s_size o2 s_readPeaks s_readWinds o3 s_undoMany s_keptMany, ai d (a 9) 200 s_text, ai d (a 14) 12 g4]) X dX5_readsWind_35 rfl 2 rfl hf (fun _ => rfl) (fun g4 hf => ?_)
      refine g_aload_n (pc' := 37) X dX5_readsWind_36 rfl rfl rfl ?_
      refine g_dup (pc' := 38) X dX5_readsWind_37 rfl rfl ?_
      refine g_get (pc' := 41) X fl_X5_112 dX5_readsWind_38 rfl 0 rfl rfl ?_
      refine g_iconst (v := 1) (pc' := 42) X dX5_readsWind_41 rfl (by decide) ?_
      refine g_iadd (pc' := 43) X dX5_readsWind_42 rfl ?_
      refine g_putN (pc' := 46) (w2 := fun x5 => [oX5 a s_many s_windMany s_year s_saidMany s_size o2 s_readPeaks x5 o3 s_undoMany s_keptMany, ai d (a 9) 200 s_text, ai d (a 14) 12 g4]) X fl_X5_112 fw_X5 rfl dX5_readsWind_43 rfl 0 rfl (fun _ => rfl) (fun _ => rfl) (Nat.le_of_ble_eq_true rfl) (fun _ => rfl) hf (fun x5 hf => ?_)
      refine g_iconst (v := 1) (pc' := 47) X dX5_readsWind_46 rfl (by decide) ?_
      cases hf
      exact hR _ _ dX5_readsWind_47 rfl
    · refine g_iconst (v := 0) (pc' := 22) X dX5_readsWind_21 rfl (by decide) ?_
      cases hf
      exact hR _ _ dX5_readsWind_22 rfl
-- X5_readsItem
def fX5_readsItem (s_size : Int32) (s_readAt : Int32) (s_readPeaks : Int32) (s_readWinds : Int32) (s_readNumber : Int32) (s_text : Nat → Int32) (s_readKinds : Nat → Int32) (s_readHighs : Nat → Int32) (s_readPins : Nat → Int32) (s_readStore : Nat → Int32) (s_readWind : Nat → Int32) : Option (Int32 × Int32 × Int32 × Int32 × Int32 × (Nat → Int32) × (Nat → Int32) × (Nat → Int32) × (Nat → Int32) × (Nat → Int32)) :=
  (fX5_here s_size s_readAt s_text).bind fun x1 =>
  sx_lt (s_readAt + (1 : Int32)) fun x2 =>
  if x1 = (112 : Int32) then
    (fX5_readsPeak s_size x2 s_readPeaks s_readNumber s_text s_readKinds s_readHighs).bind fun (x16, o17, o18, o19, o20, o21) =>
    some (x16, o17, o18, s_readWinds, o19, o20, o21, s_readPins, s_readStore, s_readWind)
  else
    if x1 = (115 : Int32) then
      (fX5_readsStore s_size x2 s_readNumber s_text s_readStore).bind fun (x12, o13, o14, o15) =>
      some (x12, o13, s_readPeaks, s_readWinds, o14, s_readKinds, s_readHighs, s_readPins, o15, s_readWind)
    else
      if x1 = (111 : Int32) then
        (fX5_readsOn s_size x2 s_readPeaks s_readNumber s_text s_readPins).bind fun (x8, o9, o10, o11) =>
        some (x8, o9, s_readPeaks, s_readWinds, o10, s_readKinds, s_readHighs, o11, s_readStore, s_readWind)
      else
        if x1 = (119 : Int32) then
          (fX5_readsWind s_size x2 s_readWinds s_readNumber s_text s_readWind).bind fun (x3, o4, o5, o6, o7) =>
          if x3 = 0 then
            some ((0 : Int32), o4, s_readPeaks, o5, o6, s_readKinds, s_readHighs, s_readPins, s_readStore, o7)
          else
            some ((1 : Int32), o4, s_readPeaks, o5, o6, s_readKinds, s_readHighs, s_readPins, s_readStore, o7)
        else
          some ((0 : Int32), x2, s_readPeaks, s_readWinds, s_readNumber, s_readKinds, s_readHighs, s_readPins, s_readStore, s_readWind)
set_option maxHeartbeats 4000000 in
set_option maxRecDepth 100000 in
theorem ctX5_readsItem (l : Launch) (d : sx_D) (a : Nat → Nat) (s_many : Int32) (s_windMany : Int32) (s_year : Int32) (s_saidMany : Int32) (s_size : Int32) (s_readAt : Int32) (s_readPeaks : Int32) (s_readWinds : Int32) (s_readNumber : Int32) (s_undoMany : Int32) (s_keptMany : Int32) (s_text : Nat → Int32) (s_readKinds : Nat → Int32) (s_readHighs : Nat → Int32) (s_readPins : Nat → Int32) (s_readStore : Nat → Int32) (s_readWind : Nat → Int32) (r : Int32) (ro1 : Int32) (ro2 : Int32) (ro3 : Int32) (ro4 : Int32) (ro5 : Nat → Int32) (ro6 : Nat → Int32) (ro7 : Nat → Int32) (ro8 : Nat → Int32) (ro9 : Nat → Int32) (hf : fX5_readsItem s_size s_readAt s_readPeaks s_readWinds s_readNumber s_text s_readKinds s_readHighs s_readPins s_readStore s_readWind = some (r, ro1, ro2, ro3, ro4, ro5, ro6, ro7, ro8, ro9)) : sx_I l d yX5_readsItem cX5_readsItem 2 .boolean 4 [.ref (a 0)] [oX5 a s_many s_windMany s_year s_saidMany s_size s_readAt s_readPeaks s_readWinds s_readNumber s_undoMany s_keptMany, ai d (a 9) 200 s_text, ai d (a 10) 6 s_readKinds, ai d (a 11) 6 s_readHighs, ai d (a 12) 30 s_readPins, ai d (a 13) 5 s_readStore, ai d (a 14) 12 s_readWind] [oX5 a s_many s_windMany s_year s_saidMany s_size ro1 ro2 ro3 ro4 s_undoMany s_keptMany, ai d (a 9) 200 s_text, ai d (a 10) 6 ro5, ai d (a 11) 6 ro6, ai d (a 12) 30 ro7, ai d (a 13) 5 ro8, ai d (a 14) 12 ro9] r := by
  refine sx_I.intro (lv0 := [some (.ref (a 0)), none]) (by decide +kernel) (Nat.le_of_ble_eq_true rfl) rfl ?_
  intro κ X hR
  have X : sx_X d κ cX5_readsItem 2 RX5 (sx_rm 4) := X
  unfold fX5_readsItem at hf
  refine g_aload_n (pc' := 1) X dX5_readsItem_0 rfl rfl rfl ?_
  refine g_callVi0 (pc' := 4) (As := []) (b := (a 0)) (st := []) (w2 := fun x1 => [oX5 a s_many s_windMany s_year s_saidMany s_size s_readAt s_readPeaks s_readWinds s_readNumber s_undoMany s_keptMany, ai d (a 9) 200 s_text, ai d (a 10) 6 s_readKinds, ai d (a 11) 6 s_readHighs, ai d (a 12) 30 s_readPins, ai d (a 13) 5 s_readStore, ai d (a 14) 12 s_readWind]) X lk_X5_95 dX5_readsItem_1 rfl rfl rfl (Nat.le_of_ble_eq_true rfl) ⟨Nat.le_of_ble_eq_true rfl, Nat.le_of_ble_eq_true rfl, Nat.le_of_ble_eq_true rfl, Nat.le_of_ble_eq_true rfl⟩ rfl [0, 1] (by decide) rfl hf (fun l x1 h => ctX5_here l d a s_many s_windMany s_year s_saidMany s_size s_readAt s_readPeaks s_readWinds s_readNumber s_undoMany s_keptMany s_text x1 h) (fun _ => rfl) (fun _ => rfl) (fun x1 hnx1 hf => ?_)
  refine g_istore_n (lv' := [some (.ref (a 0)), some (.int x1)]) (pc' := 5) X dX5_readsItem_4 rfl rfl (by decide) rfl rfl ?_
  refine g_aload_n (pc' := 6) X dX5_readsItem_5 rfl rfl rfl ?_
  refine g_dup (pc' := 7) X dX5_readsItem_6 rfl rfl ?_
  refine g_get (pc' := 10) X fl_X5_92 dX5_readsItem_7 rfl 0 rfl rfl ?_
  refine g_iconst (v := 1) (pc' := 11) X dX5_readsItem_10 rfl (by decide) ?_
  refine g_iadd (pc' := 12) X dX5_readsItem_11 rfl ?_
  refine g_putN (pc' := 15) (w2 := fun x2 => [oX5 a s_many s_windMany s_year s_saidMany s_size x2 s_readPeaks s_readWinds s_readNumber s_undoMany s_keptMany, ai d (a 9) 200 s_text, ai d (a 10) 6 s_readKinds, ai d (a 11) 6 s_readHighs, ai d (a 12) 30 s_readPins, ai d (a 13) 5 s_readStore, ai d (a 14) 12 s_readWind]) X fl_X5_92 fw_X5 rfl dX5_readsItem_12 rfl 0 rfl (fun _ => rfl) (fun _ => rfl) (Nat.le_of_ble_eq_true rfl) (fun _ => rfl) hf (fun x2 hf => ?_)
  refine g_iload_n (pc' := 16) X dX5_readsItem_15 rfl rfl rfl ?_
  refine g_bipush (v := 112) (pc' := 18) X dX5_readsItem_16 rfl (by decide) ?_
  refine g_icmp_ne (tgt := 28) (pc' := 21) X dX5_readsItem_18 (by decide) rfl hf (fun hf => ?_) (fun hf => ?_)
  · refine g_iload_n (pc' := 29) X dX5_readsItem_28 rfl rfl rfl ?_
    refine g_bipush (v := 115) (pc' := 31) X dX5_readsItem_29 rfl (by decide) ?_
    refine g_icmp_ne (tgt := 41) (pc' := 34) X dX5_readsItem_31 (by decide) rfl hf (fun hf => ?_) (fun hf => ?_)
    · refine g_iload_n (pc' := 42) X dX5_readsItem_41 rfl rfl rfl ?_
      refine g_bipush (v := 111) (pc' := 44) X dX5_readsItem_42 rfl (by decide) ?_
      refine g_icmp_ne (tgt := 54) (pc' := 47) X dX5_readsItem_44 (by decide) rfl hf (fun hf => ?_) (fun hf => ?_)
      · refine g_iload_n (pc' := 55) X dX5_readsItem_54 rfl rfl rfl ?_
        refine g_bipush (v := 119) (pc' := 57) X dX5_readsItem_55 rfl (by decide) ?_
        refine g_icmp_ne (tgt := 71) (pc' := 60) X dX5_readsItem_57 (by decide) rfl hf (fun hf => ?_) (fun hf => ?_)
        · refine g_iconst (v := 0) (pc' := 72) X dX5_readsItem_71 rfl (by decide) ?_
          cases hf
          exact hR _ _ dX5_readsItem_72 rfl
        · refine g_aload_n (pc' := 61) X dX5_readsItem_60 rfl rfl rfl ?_
          refine g_callVi4 (pc' := 64) (As := []) (b := (a 0)) (st := []) (w2 := fun x3 o4 o5 o6 o7 => [oX5 a s_many s_windMany s_year s_saidMany s_size o4 s_readPeaks o5 o6 s_undoMany s_keptMany, ai d (a 9) 200 s_text, ai d (a 10) 6 s_readKinds, ai d (a 11) 6 s_readHighs, ai d (a 12) 30 s_readPins, ai d (a 13) 5 s_readStore, ai d (a 14) 12 o7]) X lk_X5_124 dX5_readsItem_61 rfl rfl rfl (Nat.le_of_ble_eq_true rfl) ⟨Nat.le_of_ble_eq_true rfl, Nat.le_of_ble_eq_true rfl, Nat.le_of_ble_eq_true rfl, Nat.le_of_ble_eq_true rfl⟩ rfl [0, 1, 6] (by decide) rfl hf (fun l x3 o4 o5 o6 o7 h => ctX5_readsWind l d a s_many s_windMany s_year s_saidMany s_size x2 s_readPeaks s_readWinds s_readNumber s_undoMany s_keptMany s_text s_readWind x3 o4 o5 o6 o7 h) (fun _ _ _ _ _ => rfl) (fun _ _ _ _ _ => rfl) (fun x3 o4 o5 o6 o7 hnx3 hf => ?_)
          refine g_if_eq (tgt := 71) (pc' := 67) X dX5_readsItem_64 (by decide) rfl hf (fun hf => ?_) (fun hf => ?_)
          · refine g_iconst (v := 0) (pc' := 72) X dX5_readsItem_71 rfl (by decide) ?_
            cases hf
            exact hR _ _ dX5_readsItem_72 rfl
          · refine g_iconst (v := 1) (pc' := 68) X dX5_readsItem_67 rfl (by decide) ?_
            refine g_goto (tgt := 72) X dX5_readsItem_68 (by decide) ?_
            cases hf
            exact hR _ _ dX5_readsItem_72 rfl
      · refine g_aload_n (pc' := 48) X dX5_readsItem_47 rfl rfl rfl ?_
        refine g_callVi3 (pc' := 51) (As := []) (b := (a 0)) (st := []) (w2 := fun x8 o9 o10 o11 => [oX5 a s_many s_windMany s_year s_saidMany s_size o9 s_readPeaks s_readWinds o10 s_undoMany s_keptMany, ai d (a 9) 200 s_text, ai d (a 10) 6 s_readKinds, ai d (a 11) 6 s_readHighs, ai d (a 12) 30 o11, ai d (a 13) 5 s_readStore, ai d (a 14) 12 s_readWind]) X lk_X5_121 dX5_readsItem_48 rfl rfl rfl (Nat.le_of_ble_eq_true rfl) ⟨Nat.le_of_ble_eq_true rfl, Nat.le_of_ble_eq_true rfl, Nat.le_of_ble_eq_true rfl, Nat.le_of_ble_eq_true rfl⟩ rfl [0, 1, 4] (by decide) rfl hf (fun l x8 o9 o10 o11 h => ctX5_readsOn l d a s_many s_windMany s_year s_saidMany s_size x2 s_readPeaks s_readWinds s_readNumber s_undoMany s_keptMany s_text s_readPins x8 o9 o10 o11 h) (fun _ _ _ _ => rfl) (fun _ _ _ _ => rfl) (fun x8 o9 o10 o11 hnx8 hf => ?_)
        refine g_goto (tgt := 72) X dX5_readsItem_51 (by decide) ?_
        cases hf
        exact hR _ _ dX5_readsItem_72 hnx8
    · refine g_aload_n (pc' := 35) X dX5_readsItem_34 rfl rfl rfl ?_
      refine g_callVi3 (pc' := 38) (As := []) (b := (a 0)) (st := []) (w2 := fun x12 o13 o14 o15 => [oX5 a s_many s_windMany s_year s_saidMany s_size o13 s_readPeaks s_readWinds o14 s_undoMany s_keptMany, ai d (a 9) 200 s_text, ai d (a 10) 6 s_readKinds, ai d (a 11) 6 s_readHighs, ai d (a 12) 30 s_readPins, ai d (a 13) 5 o15, ai d (a 14) 12 s_readWind]) X lk_X5_118 dX5_readsItem_35 rfl rfl rfl (Nat.le_of_ble_eq_true rfl) ⟨Nat.le_of_ble_eq_true rfl, Nat.le_of_ble_eq_true rfl, Nat.le_of_ble_eq_true rfl, Nat.le_of_ble_eq_true rfl⟩ rfl [0, 1, 5] (by decide) rfl hf (fun l x12 o13 o14 o15 h => ctX5_readsStore l d a s_many s_windMany s_year s_saidMany s_size x2 s_readPeaks s_readWinds s_readNumber s_undoMany s_keptMany s_text s_readStore x12 o13 o14 o15 h) (fun _ _ _ _ => rfl) (fun _ _ _ _ => rfl) (fun x12 o13 o14 o15 hnx12 hf => ?_)
      refine g_goto (tgt := 72) X dX5_readsItem_38 (by decide) ?_
      cases hf
      exact hR _ _ dX5_readsItem_72 hnx12
  · refine g_aload_n (pc' := 22) X dX5_readsItem_21 rfl rfl rfl ?_
    refine g_callVi5 (pc' := 25) (As := []) (b := (a 0)) (st := []) (w2 := fun x16 o17 o18 o19 o20 o21 => [oX5 a s_many s_windMany s_year s_saidMany s_size o17 o18 s_readWinds o19 s_undoMany s_keptMany, ai d (a 9) 200 s_text, ai d (a 10) 6 o20, ai d (a 11) 6 o21, ai d (a 12) 30 s_readPins, ai d (a 13) 5 s_readStore, ai d (a 14) 12 s_readWind]) X lk_X5_115 dX5_readsItem_22 rfl rfl rfl (Nat.le_of_ble_eq_true rfl) ⟨Nat.le_of_ble_eq_true rfl, Nat.le_of_ble_eq_true rfl, Nat.le_of_ble_eq_true rfl, Nat.le_of_ble_eq_true rfl⟩ rfl [0, 1, 2, 3] (by decide) rfl hf (fun l x16 o17 o18 o19 o20 o21 h => ctX5_readsPeak l d a s_many s_windMany s_year s_saidMany s_size x2 s_readPeaks s_readWinds s_readNumber s_undoMany s_keptMany s_text s_readKinds s_readHighs x16 o17 o18 o19 o20 o21 h) (fun _ _ _ _ _ _ => rfl) (fun _ _ _ _ _ _ => rfl) (fun x16 o17 o18 o19 o20 o21 hnx16 hf => ?_)
    refine g_goto (tgt := 72) X dX5_readsItem_25 (by decide) ?_
    cases hf
    exact hR _ _ dX5_readsItem_72 hnx16
-- X5_fault
def bX5_fault_17  : (Int32 × (Nat → Int32)) → Option ((Int32 × (Nat → Int32)) ⊕ ((Nat → Int32))) := fun (v1, s_readPins) =>
  if (30 : Int32) ≤ v1 then
    some (.inr s_readPins)
  else
    sx_wr s_readPins 30 v1 (0 : Int32) fun g1 =>
    some (.inl (v1 + (1 : Int32), g1))
def bX5_fault_38  : (Int32 × (Nat → Int32)) → Option ((Int32 × (Nat → Int32)) ⊕ ((Nat → Int32))) := fun (v1, s_readStore) =>
  if (5 : Int32) ≤ v1 then
    some (.inr s_readStore)
  else
    sx_wr s_readStore 5 v1 (2 : Int32) fun g4 =>
    some (.inl (v1 + (1 : Int32), g4))
def bX5_fault_56 (s_size : Int32) (s_text : Nat → Int32) : (Int32 × Int32 × Int32 × Int32 × (Nat → Int32) × (Nat → Int32) × (Nat → Int32) × (Nat → Int32) × (Nat → Int32)) → Option ((Int32 × Int32 × Int32 × Int32 × (Nat → Int32) × (Nat → Int32) × (Nat → Int32) × (Nat → Int32) × (Nat → Int32)) ⊕ ((Int32 × Int32 × Int32 × Int32 × Int32 × (Nat → Int32) × (Nat → Int32) × (Nat → Int32) × (Nat → Int32) × (Nat → Int32)) ⊕ (Int32 × Int32 × Int32 × Int32 × (Nat → Int32) × (Nat → Int32) × (Nat → Int32) × (Nat → Int32) × (Nat → Int32)))) := fun (s_readAt, s_readPeaks, s_readWinds, s_readNumber, s_readKinds, s_readHighs, s_readPins, s_readStore, s_readWind) =>
  if s_size ≤ s_readAt then
    some (.inr (.inr (s_readAt, s_readPeaks, s_readWinds, s_readNumber, s_readKinds, s_readHighs, s_readPins, s_readStore, s_readWind)))
  else
    (fX5_readsItem s_size s_readAt s_readPeaks s_readWinds s_readNumber s_text s_readKinds s_readHighs s_readPins s_readStore s_readWind).bind fun (x7, o8, o9, o10, o11, o12, o13, o14, o15, o16) =>
    if x7 = 0 then
      some (.inr (.inl (s_readAt, o8, o9, o10, o11, o12, o13, o14, o15, o16)))
    else
      some (.inl (o8, o9, o10, o11, o12, o13, o14, o15, o16))
def fX5_fault (s_size : Int32) (s_readAt : Int32) (s_readPeaks : Int32) (s_readWinds : Int32) (s_readNumber : Int32) (s_text : Nat → Int32) (s_readKinds : Nat → Int32) (s_readHighs : Nat → Int32) (s_readPins : Nat → Int32) (s_readStore : Nat → Int32) (s_readWind : Nat → Int32) : Option (Int32 × Int32 × Int32 × Int32 × Int32 × (Nat → Int32) × (Nat → Int32) × (Nat → Int32) × (Nat → Int32) × (Nat → Int32)) :=
  (sx_it 1000 (bX5_fault_17) ((0 : Int32), s_readPins)).bind fun w3 =>
  (sx_it 1000 (bX5_fault_38) ((0 : Int32), s_readStore)).bind fun w6 =>
  (sx_it 1000 (bX5_fault_56 s_size s_text) ((0 : Int32), (0 : Int32), (0 : Int32), s_readNumber, s_readKinds, s_readHighs, w3, w6, s_readWind)).bind fun y17 => match y17 with
    | .inl (w18, w19, w20, w21, w22, w23, w24, w25, w26, w27) =>
      some (w18, w19, w20, w21, w22, w23, w24, w25, w26, w27)
    | .inr ((w28, w29, w30, w31, w32, w33, w34, w35, w36)) =>
      some ((-4 : Int32), w28, w29, w30, w31, w32, w33, w34, w35, w36)
set_option maxHeartbeats 4000000 in
set_option maxRecDepth 100000 in
theorem lX5_fault_17 (d : sx_D) (κ : sx_C) (a : Nat → Nat) (s_many : Int32) (s_windMany : Int32) (s_year : Int32) (s_saidMany : Int32) (s_size : Int32) (s_readAt : Int32) (s_readPeaks : Int32) (s_readWinds : Int32) (s_readNumber : Int32) (s_undoMany : Int32) (s_keptMany : Int32) (s_text : Nat → Int32) (s_readKinds : Nat → Int32) (s_readHighs : Nat → Int32) (s_readStore : Nat → Int32) (s_readWind : Nat → Int32) (X : sx_X d κ cX5_fault 2 RX5 (sx_rm 5)) (y : (Nat → Int32)) (hE36 : ∀ (s_readPins : Nat → Int32), s_readPins = y → sx_G d κ 2 0 0 36 [some (.ref (a 0)), none] [] [oX5 a s_many s_windMany s_year s_saidMany s_size s_readAt s_readPeaks s_readWinds s_readNumber s_undoMany s_keptMany, ai d (a 9) 200 s_text, ai d (a 10) 6 s_readKinds, ai d (a 11) 6 s_readHighs, ai d (a 12) 30 s_readPins, ai d (a 13) 5 s_readStore, ai d (a 14) 12 s_readWind]) : ∀ (n : Nat) (s : Int32 × (Nat → Int32)), sx_it n (bX5_fault_17) s = some y → (match s with | (v1, s_readPins) => sx_G d κ 2 0 0 17 [some (.ref (a 0)), some (.int v1)] [] [oX5 a s_many s_windMany s_year s_saidMany s_size s_readAt s_readPeaks s_readWinds s_readNumber s_undoMany s_keptMany, ai d (a 9) 200 s_text, ai d (a 10) 6 s_readKinds, ai d (a 11) 6 s_readHighs, ai d (a 12) 30 s_readPins, ai d (a 13) 5 s_readStore, ai d (a 14) 12 s_readWind]) := by
  refine sx_it_run (bX5_fault_17) (fun s => match s with | (v1, s_readPins) => sx_G d κ 2 0 0 17 [some (.ref (a 0)), some (.int v1)] [] [oX5 a s_many s_windMany s_year s_saidMany s_size s_readAt s_readPeaks s_readWinds s_readNumber s_undoMany s_keptMany, ai d (a 9) 200 s_text, ai d (a 10) 6 s_readKinds, ai d (a 11) 6 s_readHighs, ai d (a 12) 30 s_readPins, ai d (a 13) 5 s_readStore, ai d (a 14) 12 s_readWind]) y ?_
  rintro ⟨v1, s_readPins⟩ x hf hb he
  show sx_G d κ 2 0 0 17 [some (.ref (a 0)), some (.int v1)] [] [oX5 a s_many s_windMany s_year s_saidMany s_size s_readAt s_readPeaks s_readWinds s_readNumber s_undoMany s_keptMany, ai d (a 9) 200 s_text, ai d (a 10) 6 s_readKinds, ai d (a 11) 6 s_readHighs, ai d (a 12) 30 s_readPins, ai d (a 13) 5 s_readStore, ai d (a 14) 12 s_readWind]
  unfold bX5_fault_17 at hf
  refine g_iload_n (pc' := 18) X dX5_fault_17 rfl rfl rfl ?_
  refine g_bipush (v := 30) (pc' := 20) X dX5_fault_18 rfl (by decide) ?_
  refine g_icmp_ge (tgt := 36) (pc' := 23) X dX5_fault_20 (by decide) rfl hf (fun hf => ?_) (fun hf => ?_)
  · exact sx_weak [true, false] rfl (hE36 _ (sx_ex hf he))
  · refine g_aload_n (pc' := 24) X dX5_fault_23 rfl rfl rfl ?_
    refine g_get (pc' := 27) X fl_X5_43 dX5_fault_24 rfl 0 rfl rfl ?_
    refine g_iload_n (pc' := 28) X dX5_fault_27 rfl rfl rfl ?_
    refine g_iconst (v := 0) (pc' := 29) X dX5_fault_28 rfl (by decide) ?_
    refine g_iast (pc' := 30) (w2 := fun g1 => [oX5 a s_many s_windMany s_year s_saidMany s_size s_readAt s_readPeaks s_readWinds s_readNumber s_undoMany s_keptMany, ai d (a 9) 200 s_text, ai d (a 10) 6 s_readKinds, ai d (a 11) 6 s_readHighs, ai d (a 12) 30 g1, ai d (a 13) 5 s_readStore, ai d (a 14) 12 s_readWind]) X dX5_fault_29 rfl 4 rfl hf (fun _ => rfl) (fun g1 hf => ?_)
    refine g_iinc (v := 1) (lv' := [some (.ref (a 0)), some (.int (v1 + (1 : Int32)))]) (pc' := 33) X dX5_fault_30 rfl rfl (by decide) (by decide) rfl rfl ?_
    refine g_goto (tgt := 17) X dX5_fault_33 (by decide) ?_
    have hk := sx_bk hf hb
    exact sx_weak [true, true] rfl hk
set_option maxHeartbeats 4000000 in
set_option maxRecDepth 100000 in
theorem lX5_fault_38 (d : sx_D) (κ : sx_C) (a : Nat → Nat) (s_many : Int32) (s_windMany : Int32) (s_year : Int32) (s_saidMany : Int32) (s_size : Int32) (s_readAt : Int32) (s_readPeaks : Int32) (s_readWinds : Int32) (s_readNumber : Int32) (s_undoMany : Int32) (s_keptMany : Int32) (s_text : Nat → Int32) (s_readKinds : Nat → Int32) (s_readHighs : Nat → Int32) (s_readPins : Nat → Int32) (s_readWind : Nat → Int32) (X : sx_X d κ cX5_fault 2 RX5 (sx_rm 5)) (y : (Nat → Int32)) (hE56 : ∀ (s_readStore : Nat → Int32), s_readStore = y → sx_G d κ 2 0 0 56 [some (.ref (a 0)), none] [] [oX5 a s_many s_windMany s_year s_saidMany s_size s_readAt s_readPeaks s_readWinds s_readNumber s_undoMany s_keptMany, ai d (a 9) 200 s_text, ai d (a 10) 6 s_readKinds, ai d (a 11) 6 s_readHighs, ai d (a 12) 30 s_readPins, ai d (a 13) 5 s_readStore, ai d (a 14) 12 s_readWind]) : ∀ (n : Nat) (s : Int32 × (Nat → Int32)), sx_it n (bX5_fault_38) s = some y → (match s with | (v1, s_readStore) => sx_G d κ 2 0 0 38 [some (.ref (a 0)), some (.int v1)] [] [oX5 a s_many s_windMany s_year s_saidMany s_size s_readAt s_readPeaks s_readWinds s_readNumber s_undoMany s_keptMany, ai d (a 9) 200 s_text, ai d (a 10) 6 s_readKinds, ai d (a 11) 6 s_readHighs, ai d (a 12) 30 s_readPins, ai d (a 13) 5 s_readStore, ai d (a 14) 12 s_readWind]) := by
  refine sx_it_run (bX5_fault_38) (fun s => match s with | (v1, s_readStore) => sx_G d κ 2 0 0 38 [some (.ref (a 0)), some (.int v1)] [] [oX5 a s_many s_windMany s_year s_saidMany s_size s_readAt s_readPeaks s_readWinds s_readNumber s_undoMany s_keptMany, ai d (a 9) 200 s_text, ai d (a 10) 6 s_readKinds, ai d (a 11) 6 s_readHighs, ai d (a 12) 30 s_readPins, ai d (a 13) 5 s_readStore, ai d (a 14) 12 s_readWind]) y ?_
  rintro ⟨v1, s_readStore⟩ x hf hb he
  show sx_G d κ 2 0 0 38 [some (.ref (a 0)), some (.int v1)] [] [oX5 a s_many s_windMany s_year s_saidMany s_size s_readAt s_readPeaks s_readWinds s_readNumber s_undoMany s_keptMany, ai d (a 9) 200 s_text, ai d (a 10) 6 s_readKinds, ai d (a 11) 6 s_readHighs, ai d (a 12) 30 s_readPins, ai d (a 13) 5 s_readStore, ai d (a 14) 12 s_readWind]
  unfold bX5_fault_38 at hf
  refine g_iload_n (pc' := 39) X dX5_fault_38 rfl rfl rfl ?_
  refine g_iconst (v := 5) (pc' := 40) X dX5_fault_39 rfl (by decide) ?_
  refine g_icmp_ge (tgt := 56) (pc' := 43) X dX5_fault_40 (by decide) rfl hf (fun hf => ?_) (fun hf => ?_)
  · exact sx_weak [true, false] rfl (hE56 _ (sx_ex hf he))
  · refine g_aload_n (pc' := 44) X dX5_fault_43 rfl rfl rfl ?_
    refine g_get (pc' := 47) X fl_X5_46 dX5_fault_44 rfl 0 rfl rfl ?_
    refine g_iload_n (pc' := 48) X dX5_fault_47 rfl rfl rfl ?_
    refine g_iconst (v := 2) (pc' := 49) X dX5_fault_48 rfl (by decide) ?_
    refine g_iast (pc' := 50) (w2 := fun g4 => [oX5 a s_many s_windMany s_year s_saidMany s_size s_readAt s_readPeaks s_readWinds s_readNumber s_undoMany s_keptMany, ai d (a 9) 200 s_text, ai d (a 10) 6 s_readKinds, ai d (a 11) 6 s_readHighs, ai d (a 12) 30 s_readPins, ai d (a 13) 5 g4, ai d (a 14) 12 s_readWind]) X dX5_fault_49 rfl 5 rfl hf (fun _ => rfl) (fun g4 hf => ?_)
    refine g_iinc (v := 1) (lv' := [some (.ref (a 0)), some (.int (v1 + (1 : Int32)))]) (pc' := 53) X dX5_fault_50 rfl rfl (by decide) (by decide) rfl rfl ?_
    refine g_goto (tgt := 38) X dX5_fault_53 (by decide) ?_
    have hk := sx_bk hf hb
    exact sx_weak [true, true] rfl hk
set_option maxHeartbeats 4000000 in
set_option maxRecDepth 100000 in
theorem lX5_fault_56 (d : sx_D) (κ : sx_C) (a : Nat → Nat) (s_many : Int32) (s_windMany : Int32) (s_year : Int32) (s_saidMany : Int32) (s_size : Int32) (s_undoMany : Int32) (s_keptMany : Int32) (s_text : Nat → Int32) (X : sx_X d κ cX5_fault 2 RX5 (sx_rm 5)) (y : (Int32 × Int32 × Int32 × Int32 × Int32 × (Nat → Int32) × (Nat → Int32) × (Nat → Int32) × (Nat → Int32) × (Nat → Int32)) ⊕ (Int32 × Int32 × Int32 × Int32 × (Nat → Int32) × (Nat → Int32) × (Nat → Int32) × (Nat → Int32) × (Nat → Int32))) (hE79 : ∀ (v1 : Int32) (s_readAt : Int32) (s_readPeaks : Int32) (s_readWinds : Int32) (s_readNumber : Int32) (s_readKinds : Nat → Int32) (s_readHighs : Nat → Int32) (s_readPins : Nat → Int32) (s_readStore : Nat → Int32) (s_readWind : Nat → Int32), (.inl (v1, s_readAt, s_readPeaks, s_readWinds, s_readNumber, s_readKinds, s_readHighs, s_readPins, s_readStore, s_readWind)) = y → sx_G d κ 2 0 0 79 [none, some (.int v1)] [] [oX5 a s_many s_windMany s_year s_saidMany s_size s_readAt s_readPeaks s_readWinds s_readNumber s_undoMany s_keptMany, ai d (a 9) 200 s_text, ai d (a 10) 6 s_readKinds, ai d (a 11) 6 s_readHighs, ai d (a 12) 30 s_readPins, ai d (a 13) 5 s_readStore, ai d (a 14) 12 s_readWind]) (hE84 : ∀ (s_readAt : Int32) (s_readPeaks : Int32) (s_readWinds : Int32) (s_readNumber : Int32) (s_readKinds : Nat → Int32) (s_readHighs : Nat → Int32) (s_readPins : Nat → Int32) (s_readStore : Nat → Int32) (s_readWind : Nat → Int32), (.inr (s_readAt, s_readPeaks, s_readWinds, s_readNumber, s_readKinds, s_readHighs, s_readPins, s_readStore, s_readWind)) = y → sx_G d κ 2 0 0 84 [none, none] [] [oX5 a s_many s_windMany s_year s_saidMany s_size s_readAt s_readPeaks s_readWinds s_readNumber s_undoMany s_keptMany, ai d (a 9) 200 s_text, ai d (a 10) 6 s_readKinds, ai d (a 11) 6 s_readHighs, ai d (a 12) 30 s_readPins, ai d (a 13) 5 s_readStore, ai d (a 14) 12 s_readWind]) : ∀ (n : Nat) (s : Int32 × Int32 × Int32 × Int32 × (Nat → Int32) × (Nat → Int32) × (Nat → Int32) × (Nat → Int32) × (Nat → Int32)), sx_it n (bX5_fault_56 s_size s_text) s = some y → (match s with | (s_readAt, s_readPeaks, s_readWinds, s_readNumber, s_readKinds, s_readHighs, s_readPins, s_readStore, s_readWind) => sx_G d κ 2 0 0 56 [some (.ref (a 0)), none] [] [oX5 a s_many s_windMany s_year s_saidMany s_size s_readAt s_readPeaks s_readWinds s_readNumber s_undoMany s_keptMany, ai d (a 9) 200 s_text, ai d (a 10) 6 s_readKinds, ai d (a 11) 6 s_readHighs, ai d (a 12) 30 s_readPins, ai d (a 13) 5 s_readStore, ai d (a 14) 12 s_readWind]) := by
  refine sx_it_run (bX5_fault_56 s_size s_text) (fun s => match s with | (s_readAt, s_readPeaks, s_readWinds, s_readNumber, s_readKinds, s_readHighs, s_readPins, s_readStore, s_readWind) => sx_G d κ 2 0 0 56 [some (.ref (a 0)), none] [] [oX5 a s_many s_windMany s_year s_saidMany s_size s_readAt s_readPeaks s_readWinds s_readNumber s_undoMany s_keptMany, ai d (a 9) 200 s_text, ai d (a 10) 6 s_readKinds, ai d (a 11) 6 s_readHighs, ai d (a 12) 30 s_readPins, ai d (a 13) 5 s_readStore, ai d (a 14) 12 s_readWind]) y ?_
  rintro ⟨s_readAt, s_readPeaks, s_readWinds, s_readNumber, s_readKinds, s_readHighs, s_readPins, s_readStore, s_readWind⟩ x hf hb he
  show sx_G d κ 2 0 0 56 [some (.ref (a 0)), none] [] [oX5 a s_many s_windMany s_year s_saidMany s_size s_readAt s_readPeaks s_readWinds s_readNumber s_undoMany s_keptMany, ai d (a 9) 200 s_text, ai d (a 10) 6 s_readKinds, ai d (a 11) 6 s_readHighs, ai d (a 12) 30 s_readPins, ai d (a 13) 5 s_readStore, ai d (a 14) 12 s_readWind]
  unfold bX5_fault_56 at hf
  refine g_aload_n (pc' := 57) X dX5_fault_56 rfl rfl rfl ?_
  refine g_get (pc' := 60) X fl_X5_92 dX5_fault_57 rfl 0 rfl rfl ?_
  refine g_aload_n (pc' := 61) X dX5_fault_60 rfl rfl rfl ?_
  refine g_get (pc' := 64) X fl_X5_89 dX5_fault_61 rfl 0 rfl rfl ?_
  refine g_icmp_ge (tgt := 84) (pc' := 67) X dX5_fault_64 (by decide) rfl hf (fun hf => ?_) (fun hf => ?_)
  · exact sx_weak [false, true] rfl (hE84 _ _ _ _ _ _ _ _ _ (sx_ex hf he))
  · refine g_aload_n (pc' := 68) X dX5_fault_67 rfl rfl rfl ?_
    refine g_get (pc' := 71) X fl_X5_92 dX5_fault_68 rfl 0 rfl rfl ?_
    refine g_istore_n (lv' := [some (.ref (a 0)), some (.int s_readAt)]) (pc' := 72) X dX5_fault_71 rfl rfl (by decide) rfl rfl ?_
    refine g_aload_n (pc' := 73) X dX5_fault_72 rfl rfl rfl ?_
    refine g_callVi9 (pc' := 76) (As := []) (b := (a 0)) (st := []) (w2 := fun x7 o8 o9 o10 o11 o12 o13 o14 o15 o16 => [oX5 a s_many s_windMany s_year s_saidMany s_size o8 o9 o10 o11 s_undoMany s_keptMany, ai d (a 9) 200 s_text, ai d (a 10) 6 o12, ai d (a 11) 6 o13, ai d (a 12) 30 o14, ai d (a 13) 5 o15, ai d (a 14) 12 o16]) X lk_X5_127 dX5_fault_73 rfl rfl rfl (Nat.le_of_ble_eq_true rfl) ⟨Nat.le_of_ble_eq_true rfl, Nat.le_of_ble_eq_true rfl, Nat.le_of_ble_eq_true rfl, Nat.le_of_ble_eq_true rfl⟩ rfl [0, 1, 2, 3, 4, 5, 6] (by decide) rfl hf (fun l x7 o8 o9 o10 o11 o12 o13 o14 o15 o16 h => ctX5_readsItem l d a s_many s_windMany s_year s_saidMany s_size s_readAt s_readPeaks s_readWinds s_readNumber s_undoMany s_keptMany s_text s_readKinds s_readHighs s_readPins s_readStore s_readWind x7 o8 o9 o10 o11 o12 o13 o14 o15 o16 h) (fun _ _ _ _ _ _ _ _ _ _ => rfl) (fun _ _ _ _ _ _ _ _ _ _ => rfl) (fun x7 o8 o9 o10 o11 o12 o13 o14 o15 o16 hnx7 hf => ?_)
    refine g_if_ne (tgt := 81) (pc' := 79) X dX5_fault_76 (by decide) rfl hf (fun hf => ?_) (fun hf => ?_)
    · refine g_goto (tgt := 56) X dX5_fault_81 (by decide) ?_
      have hk := sx_bk hf hb
      exact sx_weak [true, false] rfl hk
    · exact sx_weak [false, true] rfl (hE79 _ _ _ _ _ _ _ _ _ _ (sx_ex hf he))
set_option maxHeartbeats 4000000 in
set_option maxRecDepth 100000 in
theorem ctX5_fault (l : Launch) (d : sx_D) (a : Nat → Nat) (s_many : Int32) (s_windMany : Int32) (s_year : Int32) (s_saidMany : Int32) (s_size : Int32) (s_readAt : Int32) (s_readPeaks : Int32) (s_readWinds : Int32) (s_readNumber : Int32) (s_undoMany : Int32) (s_keptMany : Int32) (s_text : Nat → Int32) (s_readKinds : Nat → Int32) (s_readHighs : Nat → Int32) (s_readPins : Nat → Int32) (s_readStore : Nat → Int32) (s_readWind : Nat → Int32) (r : Int32) (ro1 : Int32) (ro2 : Int32) (ro3 : Int32) (ro4 : Int32) (ro5 : Nat → Int32) (ro6 : Nat → Int32) (ro7 : Nat → Int32) (ro8 : Nat → Int32) (ro9 : Nat → Int32) (hf : fX5_fault s_size s_readAt s_readPeaks s_readWinds s_readNumber s_text s_readKinds s_readHighs s_readPins s_readStore s_readWind = some (r, ro1, ro2, ro3, ro4, ro5, ro6, ro7, ro8, ro9)) : sx_I l d yX5_fault cX5_fault 2 .int 5 [.ref (a 0)] [oX5 a s_many s_windMany s_year s_saidMany s_size s_readAt s_readPeaks s_readWinds s_readNumber s_undoMany s_keptMany, ai d (a 9) 200 s_text, ai d (a 10) 6 s_readKinds, ai d (a 11) 6 s_readHighs, ai d (a 12) 30 s_readPins, ai d (a 13) 5 s_readStore, ai d (a 14) 12 s_readWind] [oX5 a s_many s_windMany s_year s_saidMany s_size ro1 ro2 ro3 ro4 s_undoMany s_keptMany, ai d (a 9) 200 s_text, ai d (a 10) 6 ro5, ai d (a 11) 6 ro6, ai d (a 12) 30 ro7, ai d (a 13) 5 ro8, ai d (a 14) 12 ro9] r := by
  refine sx_I.intro (lv0 := [some (.ref (a 0)), none]) (by decide +kernel) (Nat.le_of_ble_eq_true rfl) rfl ?_
  intro κ X hR
  have X : sx_X d κ cX5_fault 2 RX5 (sx_rm 5) := X
  unfold fX5_fault at hf
  refine g_aload_n (pc' := 1) X dX5_fault_0 rfl rfl rfl ?_
  refine g_iconst (v := 0) (pc' := 2) X dX5_fault_1 rfl (by decide) ?_
  refine g_put (pc' := 5) (w2 := [oX5 a s_many s_windMany s_year s_saidMany s_size (0 : Int32) s_readPeaks s_readWinds s_readNumber s_undoMany s_keptMany, ai d (a 9) 200 s_text, ai d (a 10) 6 s_readKinds, ai d (a 11) 6 s_readHighs, ai d (a 12) 30 s_readPins, ai d (a 13) 5 s_readStore, ai d (a 14) 12 s_readWind]) X fl_X5_92 fw_X5 rfl dX5_fault_2 rfl 0 rfl rfl rfl (Nat.le_of_ble_eq_true rfl) rfl ?_
  refine g_aload_n (pc' := 6) X dX5_fault_5 rfl rfl rfl ?_
  refine g_iconst (v := 0) (pc' := 7) X dX5_fault_6 rfl (by decide) ?_
  refine g_put (pc' := 10) (w2 := [oX5 a s_many s_windMany s_year s_saidMany s_size (0 : Int32) (0 : Int32) s_readWinds s_readNumber s_undoMany s_keptMany, ai d (a 9) 200 s_text, ai d (a 10) 6 s_readKinds, ai d (a 11) 6 s_readHighs, ai d (a 12) 30 s_readPins, ai d (a 13) 5 s_readStore, ai d (a 14) 12 s_readWind]) X fl_X5_106 fw_X5 rfl dX5_fault_7 rfl 0 rfl rfl rfl (Nat.le_of_ble_eq_true rfl) rfl ?_
  refine g_aload_n (pc' := 11) X dX5_fault_10 rfl rfl rfl ?_
  refine g_iconst (v := 0) (pc' := 12) X dX5_fault_11 rfl (by decide) ?_
  refine g_put (pc' := 15) (w2 := [oX5 a s_many s_windMany s_year s_saidMany s_size (0 : Int32) (0 : Int32) (0 : Int32) s_readNumber s_undoMany s_keptMany, ai d (a 9) 200 s_text, ai d (a 10) 6 s_readKinds, ai d (a 11) 6 s_readHighs, ai d (a 12) 30 s_readPins, ai d (a 13) 5 s_readStore, ai d (a 14) 12 s_readWind]) X fl_X5_112 fw_X5 rfl dX5_fault_12 rfl 0 rfl rfl rfl (Nat.le_of_ble_eq_true rfl) rfl ?_
  refine g_iconst (v := 0) (pc' := 16) X dX5_fault_15 rfl (by decide) ?_
  refine g_istore_n (lv' := [some (.ref (a 0)), some (.int (0 : Int32))]) (pc' := 17) X dX5_fault_16 rfl rfl (by decide) rfl rfl ?_
  obtain ⟨y2, hy2, hf⟩ := sx_bd hf
  refine sx_weak [true, true] rfl (lX5_fault_17 d κ a s_many s_windMany s_year s_saidMany s_size (0 : Int32) (0 : Int32) (0 : Int32) s_readNumber s_undoMany s_keptMany s_text s_readKinds s_readHighs s_readStore s_readWind X y2 ?_ 1000 ((0 : Int32), s_readPins) hy2)
  rintro w3 rfl
  refine g_iconst (v := 0) (pc' := 37) X dX5_fault_36 rfl (by decide) ?_
  refine g_istore_n (lv' := [some (.ref (a 0)), some (.int (0 : Int32))]) (pc' := 38) X dX5_fault_37 rfl rfl (by decide) rfl rfl ?_
  obtain ⟨y5, hy5, hf⟩ := sx_bd hf
  refine sx_weak [true, true] rfl (lX5_fault_38 d κ a s_many s_windMany s_year s_saidMany s_size (0 : Int32) (0 : Int32) (0 : Int32) s_readNumber s_undoMany s_keptMany s_text s_readKinds s_readHighs w3 s_readWind X y5 ?_ 1000 ((0 : Int32), s_readStore) hy5)
  rintro w6 rfl
  obtain ⟨y17, hy17, hf⟩ := sx_bd hf
  refine sx_weak [true, true] rfl (lX5_fault_56 d κ a s_many s_windMany s_year s_saidMany s_size s_undoMany s_keptMany s_text X y17 ?_ ?_ 1000 ((0 : Int32), (0 : Int32), (0 : Int32), s_readNumber, s_readKinds, s_readHighs, w3, w6, s_readWind) hy17)
  · rintro w18 w19 w20 w21 w22 w23 w24 w25 w26 w27 rfl
    refine g_iload_n (pc' := 80) X dX5_fault_79 rfl rfl rfl ?_
    cases hf
    exact hR _ _ dX5_fault_80 rfl
  · rintro w28 w29 w30 w31 w32 w33 w34 w35 w36 rfl
    refine g_bipush (v := -4) (pc' := 86) X dX5_fault_84 rfl (by decide) ?_
    cases hf
    exact hR _ _ dX5_fault_86 rfl
-- X5_lay
def bX5_lay_37 (s_readKinds : Nat → Int32) (s_readHighs : Nat → Int32) : (Int32 × (Nat → Int32) × (Nat → Int32)) → Option ((Int32 × (Nat → Int32) × (Nat → Int32)) ⊕ ((Nat → Int32) × (Nat → Int32))) := fun (v1, s_kindOf, s_highs) =>
  if (6 : Int32) ≤ v1 then
    some (.inr (s_kindOf, s_highs))
  else
    sx_rd s_readKinds 6 v1 fun x11 =>
    sx_wr s_kindOf 6 v1 x11 fun g12 =>
    sx_rd s_readHighs 6 v1 fun x13 =>
    sx_wr s_highs 6 v1 x13 fun g14 =>
    some (.inl (v1 + (1 : Int32), g12, g14))
def bX5_lay_75 (s_readPins : Nat → Int32) : (Int32 × (Nat → Int32)) → Option ((Int32 × (Nat → Int32)) ⊕ ((Nat → Int32))) := fun (v1, s_pinned) =>
  if (30 : Int32) ≤ v1 then
    some (.inr s_pinned)
  else
    sx_rd s_readPins 30 v1 fun x18 =>
    sx_wr s_pinned 30 v1 x18 fun g19 =>
    some (.inl (v1 + (1 : Int32), g19))
def bX5_lay_101 (s_readStore : Nat → Int32) : (Int32 × (Nat → Int32)) → Option ((Int32 × (Nat → Int32)) ⊕ ((Nat → Int32))) := fun (v1, s_stored) =>
  if (5 : Int32) ≤ v1 then
    some (.inr s_stored)
  else
    sx_rd s_readStore 5 v1 fun x22 =>
    sx_wr s_stored 5 v1 x22 fun g23 =>
    some (.inl (v1 + (1 : Int32), g23))
def bX5_lay_126 (s_readWind : Nat → Int32) : (Int32 × (Nat → Int32)) → Option ((Int32 × (Nat → Int32)) ⊕ ((Nat → Int32))) := fun (v1, s_winds) =>
  if (12 : Int32) ≤ v1 then
    some (.inr s_winds)
  else
    sx_rd s_readWind 12 v1 fun x26 =>
    sx_wr s_winds 12 v1 x26 fun g27 =>
    some (.inl (v1 + (1 : Int32), g27))
def fX5_lay (s_many : Int32) (s_windMany : Int32) (s_year : Int32) (s_saidMany : Int32) (s_size : Int32) (s_readAt : Int32) (s_readPeaks : Int32) (s_readWinds : Int32) (s_readNumber : Int32) (s_undoMany : Int32) (s_keptMany : Int32) (s_kindOf : Nat → Int32) (s_highs : Nat → Int32) (s_winds : Nat → Int32) (s_pinned : Nat → Int32) (s_stored : Nat → Int32) (s_guides : Nat → Int32) (s_text : Nat → Int32) (s_readKinds : Nat → Int32) (s_readHighs : Nat → Int32) (s_readPins : Nat → Int32) (s_readStore : Nat → Int32) (s_readWind : Nat → Int32) : Option (Int32 × Int32 × Int32 × Int32 × Int32 × Int32 × Int32 × Int32 × Int32 × Int32 × Int32 × (Nat → Int32) × (Nat → Int32) × (Nat → Int32) × (Nat → Int32) × (Nat → Int32) × (Nat → Int32) × (Nat → Int32) × (Nat → Int32) × (Nat → Int32) × (Nat → Int32) × (Nat → Int32)) :=
  (fX5_fault s_size s_readAt s_readPeaks s_readWinds s_readNumber s_text s_readKinds s_readHighs s_readPins s_readStore s_readWind).bind fun (x1, o2, o3, o4, o5, o6, o7, o8, o9, o10) =>
  if x1 = (-4 : Int32) then
    if o3 = 0 then
      some ((-2 : Int32), s_many, s_windMany, s_year, s_saidMany, o2, o3, o4, o5, s_undoMany, s_keptMany, s_kindOf, s_highs, s_winds, s_pinned, s_stored, s_guides, o6, o7, o8, o9, o10)
    else
      (sx_it 1000 (bX5_lay_37 o6 o7) ((0 : Int32), s_kindOf, s_highs)).bind fun (w16, w17) =>
      (sx_it 1000 (bX5_lay_75 o8) ((0 : Int32), s_pinned)).bind fun w21 =>
      (sx_it 1000 (bX5_lay_101 o9) ((0 : Int32), s_stored)).bind fun w25 =>
      (sx_it 1000 (bX5_lay_126 o10) ((0 : Int32), s_winds)).bind fun w29 =>
      (fX5_setGuides o3 w21 s_guides).bind fun o30 =>
      some (o3, o3, o4, (0 : Int32), (0 : Int32), o2, o3, o4, o5, (0 : Int32), (0 : Int32), w16, w17, w29, w21, w25, o30, o6, o7, o8, o9, o10)
  else
    some ((-2 : Int32), s_many, s_windMany, s_year, s_saidMany, o2, o3, o4, o5, s_undoMany, s_keptMany, s_kindOf, s_highs, s_winds, s_pinned, s_stored, s_guides, o6, o7, o8, o9, o10)
set_option maxHeartbeats 4000000 in
set_option maxRecDepth 100000 in
theorem lX5_lay_37 (d : sx_D) (κ : sx_C) (a : Nat → Nat) (s_many : Int32) (s_windMany : Int32) (s_year : Int32) (s_saidMany : Int32) (s_size : Int32) (s_readAt : Int32) (s_readPeaks : Int32) (s_readWinds : Int32) (s_readNumber : Int32) (s_undoMany : Int32) (s_keptMany : Int32) (s_winds : Nat → Int32) (s_pinned : Nat → Int32) (s_stored : Nat → Int32) (s_guides : Nat → Int32) (s_text : Nat → Int32) (s_readKinds : Nat → Int32) (s_readHighs : Nat → Int32) (s_readPins : Nat → Int32) (s_readStore : Nat → Int32) (s_readWind : Nat → Int32) (X : sx_X d κ cX5_lay 2 RX5 (sx_rm 6)) (y : (Nat → Int32) × (Nat → Int32)) (hE73 : ∀ (s_kindOf : Nat → Int32) (s_highs : Nat → Int32), (s_kindOf, s_highs) = y → sx_G d κ 2 0 0 73 [some (.ref (a 0)), none] [] [oX5 a s_many s_windMany s_year s_saidMany s_size s_readAt s_readPeaks s_readWinds s_readNumber s_undoMany s_keptMany, ai d (a 1) 6 s_kindOf, ai d (a 2) 6 s_highs, ai d (a 3) 12 s_winds, ai d (a 4) 30 s_pinned, ai d (a 5) 5 s_stored, ai d (a 6) 6 s_guides, ai d (a 9) 200 s_text, ai d (a 10) 6 s_readKinds, ai d (a 11) 6 s_readHighs, ai d (a 12) 30 s_readPins, ai d (a 13) 5 s_readStore, ai d (a 14) 12 s_readWind]) : ∀ (n : Nat) (s : Int32 × (Nat → Int32) × (Nat → Int32)), sx_it n (bX5_lay_37 s_readKinds s_readHighs) s = some y → (match s with | (v1, s_kindOf, s_highs) => sx_G d κ 2 0 0 37 [some (.ref (a 0)), some (.int v1)] [] [oX5 a s_many s_windMany s_year s_saidMany s_size s_readAt s_readPeaks s_readWinds s_readNumber s_undoMany s_keptMany, ai d (a 1) 6 s_kindOf, ai d (a 2) 6 s_highs, ai d (a 3) 12 s_winds, ai d (a 4) 30 s_pinned, ai d (a 5) 5 s_stored, ai d (a 6) 6 s_guides, ai d (a 9) 200 s_text, ai d (a 10) 6 s_readKinds, ai d (a 11) 6 s_readHighs, ai d (a 12) 30 s_readPins, ai d (a 13) 5 s_readStore, ai d (a 14) 12 s_readWind]) := by
  refine sx_it_run (bX5_lay_37 s_readKinds s_readHighs) (fun s => match s with | (v1, s_kindOf, s_highs) => sx_G d κ 2 0 0 37 [some (.ref (a 0)), some (.int v1)] [] [oX5 a s_many s_windMany s_year s_saidMany s_size s_readAt s_readPeaks s_readWinds s_readNumber s_undoMany s_keptMany, ai d (a 1) 6 s_kindOf, ai d (a 2) 6 s_highs, ai d (a 3) 12 s_winds, ai d (a 4) 30 s_pinned, ai d (a 5) 5 s_stored, ai d (a 6) 6 s_guides, ai d (a 9) 200 s_text, ai d (a 10) 6 s_readKinds, ai d (a 11) 6 s_readHighs, ai d (a 12) 30 s_readPins, ai d (a 13) 5 s_readStore, ai d (a 14) 12 s_readWind]) y ?_
  rintro ⟨v1, s_kindOf, s_highs⟩ x hf hb he
  show sx_G d κ 2 0 0 37 [some (.ref (a 0)), some (.int v1)] [] [oX5 a s_many s_windMany s_year s_saidMany s_size s_readAt s_readPeaks s_readWinds s_readNumber s_undoMany s_keptMany, ai d (a 1) 6 s_kindOf, ai d (a 2) 6 s_highs, ai d (a 3) 12 s_winds, ai d (a 4) 30 s_pinned, ai d (a 5) 5 s_stored, ai d (a 6) 6 s_guides, ai d (a 9) 200 s_text, ai d (a 10) 6 s_readKinds, ai d (a 11) 6 s_readHighs, ai d (a 12) 30 s_readPins, ai d (a 13) 5 s_readStore, ai d (a 14) 12 s_readWind]
  unfold bX5_lay_37 at hf
  refine g_iload_n (pc' := 38) X dX5_lay_37 rfl rfl rfl ?_
  refine g_bipush (v := 6) (pc' := 40) X dX5_lay_38 rfl (by decide) ?_
  refine g_icmp_ge (tgt := 73) (pc' := 43) X dX5_lay_40 (by decide) rfl hf (fun hf => ?_) (fun hf => ?_)
  · exact sx_weak [true, false] rfl (hE73 _ _ (sx_ex hf he))
  · refine g_aload_n (pc' := 44) X dX5_lay_43 rfl rfl rfl ?_
    refine g_get (pc' := 47) X fl_X5_9 dX5_lay_44 rfl 0 rfl rfl ?_
    refine g_iload_n (pc' := 48) X dX5_lay_47 rfl rfl rfl ?_
    refine g_aload_n (pc' := 49) X dX5_lay_48 rfl rfl rfl ?_
    refine g_get (pc' := 52) X fl_X5_37 dX5_lay_49 rfl 0 rfl rfl ?_
    refine g_iload_n (pc' := 53) X dX5_lay_52 rfl rfl rfl ?_
    refine g_iald (pc' := 54) X dX5_lay_53 rfl 8 rfl hf (fun x11 hf => ?_)
    refine g_iast (pc' := 55) (w2 := fun g12 => [oX5 a s_many s_windMany s_year s_saidMany s_size s_readAt s_readPeaks s_readWinds s_readNumber s_undoMany s_keptMany, ai d (a 1) 6 g12, ai d (a 2) 6 s_highs, ai d (a 3) 12 s_winds, ai d (a 4) 30 s_pinned, ai d (a 5) 5 s_stored, ai d (a 6) 6 s_guides, ai d (a 9) 200 s_text, ai d (a 10) 6 s_readKinds, ai d (a 11) 6 s_readHighs, ai d (a 12) 30 s_readPins, ai d (a 13) 5 s_readStore, ai d (a 14) 12 s_readWind]) X dX5_lay_54 rfl 1 rfl hf (fun _ => rfl) (fun g12 hf => ?_)
    refine g_aload_n (pc' := 56) X dX5_lay_55 rfl rfl rfl ?_
    refine g_get (pc' := 59) X fl_X5_13 dX5_lay_56 rfl 0 rfl rfl ?_
    refine g_iload_n (pc' := 60) X dX5_lay_59 rfl rfl rfl ?_
    refine g_aload_n (pc' := 61) X dX5_lay_60 rfl rfl rfl ?_
    refine g_get (pc' := 64) X fl_X5_40 dX5_lay_61 rfl 0 rfl rfl ?_
    refine g_iload_n (pc' := 65) X dX5_lay_64 rfl rfl rfl ?_
    refine g_iald (pc' := 66) X dX5_lay_65 rfl 9 rfl hf (fun x13 hf => ?_)
    refine g_iast (pc' := 67) (w2 := fun g14 => [oX5 a s_many s_windMany s_year s_saidMany s_size s_readAt s_readPeaks s_readWinds s_readNumber s_undoMany s_keptMany, ai d (a 1) 6 g12, ai d (a 2) 6 g14, ai d (a 3) 12 s_winds, ai d (a 4) 30 s_pinned, ai d (a 5) 5 s_stored, ai d (a 6) 6 s_guides, ai d (a 9) 200 s_text, ai d (a 10) 6 s_readKinds, ai d (a 11) 6 s_readHighs, ai d (a 12) 30 s_readPins, ai d (a 13) 5 s_readStore, ai d (a 14) 12 s_readWind]) X dX5_lay_66 rfl 2 rfl hf (fun _ => rfl) (fun g14 hf => ?_)
    refine g_iinc (v := 1) (lv' := [some (.ref (a 0)), some (.int (v1 + (1 : Int32)))]) (pc' := 70) X dX5_lay_67 rfl rfl (by decide) (by decide) rfl rfl ?_
    refine g_goto (tgt := 37) X dX5_lay_70 (by decide) ?_
    have hk := sx_bk hf hb
    exact sx_weak [true, true] rfl hk
set_option maxHeartbeats 4000000 in
set_option maxRecDepth 100000 in
theorem lX5_lay_75 (d : sx_D) (κ : sx_C) (a : Nat → Nat) (s_many : Int32) (s_windMany : Int32) (s_year : Int32) (s_saidMany : Int32) (s_size : Int32) (s_readAt : Int32) (s_readPeaks : Int32) (s_readWinds : Int32) (s_readNumber : Int32) (s_undoMany : Int32) (s_keptMany : Int32) (s_kindOf : Nat → Int32) (s_highs : Nat → Int32) (s_winds : Nat → Int32) (s_stored : Nat → Int32) (s_guides : Nat → Int32) (s_text : Nat → Int32) (s_readKinds : Nat → Int32) (s_readHighs : Nat → Int32) (s_readPins : Nat → Int32) (s_readStore : Nat → Int32) (s_readWind : Nat → Int32) (X : sx_X d κ cX5_lay 2 RX5 (sx_rm 6)) (y : (Nat → Int32)) (hE99 : ∀ (s_pinned : Nat → Int32), s_pinned = y → sx_G d κ 2 0 0 99 [some (.ref (a 0)), none] [] [oX5 a s_many s_windMany s_year s_saidMany s_size s_readAt s_readPeaks s_readWinds s_readNumber s_undoMany s_keptMany, ai d (a 1) 6 s_kindOf, ai d (a 2) 6 s_highs, ai d (a 3) 12 s_winds, ai d (a 4) 30 s_pinned, ai d (a 5) 5 s_stored, ai d (a 6) 6 s_guides, ai d (a 9) 200 s_text, ai d (a 10) 6 s_readKinds, ai d (a 11) 6 s_readHighs, ai d (a 12) 30 s_readPins, ai d (a 13) 5 s_readStore, ai d (a 14) 12 s_readWind]) : ∀ (n : Nat) (s : Int32 × (Nat → Int32)), sx_it n (bX5_lay_75 s_readPins) s = some y → (match s with | (v1, s_pinned) => sx_G d κ 2 0 0 75 [some (.ref (a 0)), some (.int v1)] [] [oX5 a s_many s_windMany s_year s_saidMany s_size s_readAt s_readPeaks s_readWinds s_readNumber s_undoMany s_keptMany, ai d (a 1) 6 s_kindOf, ai d (a 2) 6 s_highs, ai d (a 3) 12 s_winds, ai d (a 4) 30 s_pinned, ai d (a 5) 5 s_stored, ai d (a 6) 6 s_guides, ai d (a 9) 200 s_text, ai d (a 10) 6 s_readKinds, ai d (a 11) 6 s_readHighs, ai d (a 12) 30 s_readPins, ai d (a 13) 5 s_readStore, ai d (a 14) 12 s_readWind]) := by
  refine sx_it_run (bX5_lay_75 s_readPins) (fun s => match s with | (v1, s_pinned) => sx_G d κ 2 0 0 75 [some (.ref (a 0)), some (.int v1)] [] [oX5 a s_many s_windMany s_year s_saidMany s_size s_readAt s_readPeaks s_readWinds s_readNumber s_undoMany s_keptMany, ai d (a 1) 6 s_kindOf, ai d (a 2) 6 s_highs, ai d (a 3) 12 s_winds, ai d (a 4) 30 s_pinned, ai d (a 5) 5 s_stored, ai d (a 6) 6 s_guides, ai d (a 9) 200 s_text, ai d (a 10) 6 s_readKinds, ai d (a 11) 6 s_readHighs, ai d (a 12) 30 s_readPins, ai d (a 13) 5 s_readStore, ai d (a 14) 12 s_readWind]) y ?_
  rintro ⟨v1, s_pinned⟩ x hf hb he
  show sx_G d κ 2 0 0 75 [some (.ref (a 0)), some (.int v1)] [] [oX5 a s_many s_windMany s_year s_saidMany s_size s_readAt s_readPeaks s_readWinds s_readNumber s_undoMany s_keptMany, ai d (a 1) 6 s_kindOf, ai d (a 2) 6 s_highs, ai d (a 3) 12 s_winds, ai d (a 4) 30 s_pinned, ai d (a 5) 5 s_stored, ai d (a 6) 6 s_guides, ai d (a 9) 200 s_text, ai d (a 10) 6 s_readKinds, ai d (a 11) 6 s_readHighs, ai d (a 12) 30 s_readPins, ai d (a 13) 5 s_readStore, ai d (a 14) 12 s_readWind]
  unfold bX5_lay_75 at hf
  refine g_iload_n (pc' := 76) X dX5_lay_75 rfl rfl rfl ?_
  refine g_bipush (v := 30) (pc' := 78) X dX5_lay_76 rfl (by decide) ?_
  refine g_icmp_ge (tgt := 99) (pc' := 81) X dX5_lay_78 (by decide) rfl hf (fun hf => ?_) (fun hf => ?_)
  · exact sx_weak [true, false] rfl (hE99 _ (sx_ex hf he))
  · refine g_aload_n (pc' := 82) X dX5_lay_81 rfl rfl rfl ?_
    refine g_get (pc' := 85) X fl_X5_19 dX5_lay_82 rfl 0 rfl rfl ?_
    refine g_iload_n (pc' := 86) X dX5_lay_85 rfl rfl rfl ?_
    refine g_aload_n (pc' := 87) X dX5_lay_86 rfl rfl rfl ?_
    refine g_get (pc' := 90) X fl_X5_43 dX5_lay_87 rfl 0 rfl rfl ?_
    refine g_iload_n (pc' := 91) X dX5_lay_90 rfl rfl rfl ?_
    refine g_iald (pc' := 92) X dX5_lay_91 rfl 10 rfl hf (fun x18 hf => ?_)
    refine g_iast (pc' := 93) (w2 := fun g19 => [oX5 a s_many s_windMany s_year s_saidMany s_size s_readAt s_readPeaks s_readWinds s_readNumber s_undoMany s_keptMany, ai d (a 1) 6 s_kindOf, ai d (a 2) 6 s_highs, ai d (a 3) 12 s_winds, ai d (a 4) 30 g19, ai d (a 5) 5 s_stored, ai d (a 6) 6 s_guides, ai d (a 9) 200 s_text, ai d (a 10) 6 s_readKinds, ai d (a 11) 6 s_readHighs, ai d (a 12) 30 s_readPins, ai d (a 13) 5 s_readStore, ai d (a 14) 12 s_readWind]) X dX5_lay_92 rfl 4 rfl hf (fun _ => rfl) (fun g19 hf => ?_)
    refine g_iinc (v := 1) (lv' := [some (.ref (a 0)), some (.int (v1 + (1 : Int32)))]) (pc' := 96) X dX5_lay_93 rfl rfl (by decide) (by decide) rfl rfl ?_
    refine g_goto (tgt := 75) X dX5_lay_96 (by decide) ?_
    have hk := sx_bk hf hb
    exact sx_weak [true, true] rfl hk
set_option maxHeartbeats 4000000 in
set_option maxRecDepth 100000 in
theorem lX5_lay_101 (d : sx_D) (κ : sx_C) (a : Nat → Nat) (s_many : Int32) (s_windMany : Int32) (s_year : Int32) (s_saidMany : Int32) (s_size : Int32) (s_readAt : Int32) (s_readPeaks : Int32) (s_readWinds : Int32) (s_readNumber : Int32) (s_undoMany : Int32) (s_keptMany : Int32) (s_kindOf : Nat → Int32) (s_highs : Nat → Int32) (s_winds : Nat → Int32) (s_pinned : Nat → Int32) (s_guides : Nat → Int32) (s_text : Nat → Int32) (s_readKinds : Nat → Int32) (s_readHighs : Nat → Int32) (s_readPins : Nat → Int32) (s_readStore : Nat → Int32) (s_readWind : Nat → Int32) (X : sx_X d κ cX5_lay 2 RX5 (sx_rm 6)) (y : (Nat → Int32)) (hE124 : ∀ (s_stored : Nat → Int32), s_stored = y → sx_G d κ 2 0 0 124 [some (.ref (a 0)), none] [] [oX5 a s_many s_windMany s_year s_saidMany s_size s_readAt s_readPeaks s_readWinds s_readNumber s_undoMany s_keptMany, ai d (a 1) 6 s_kindOf, ai d (a 2) 6 s_highs, ai d (a 3) 12 s_winds, ai d (a 4) 30 s_pinned, ai d (a 5) 5 s_stored, ai d (a 6) 6 s_guides, ai d (a 9) 200 s_text, ai d (a 10) 6 s_readKinds, ai d (a 11) 6 s_readHighs, ai d (a 12) 30 s_readPins, ai d (a 13) 5 s_readStore, ai d (a 14) 12 s_readWind]) : ∀ (n : Nat) (s : Int32 × (Nat → Int32)), sx_it n (bX5_lay_101 s_readStore) s = some y → (match s with | (v1, s_stored) => sx_G d κ 2 0 0 101 [some (.ref (a 0)), some (.int v1)] [] [oX5 a s_many s_windMany s_year s_saidMany s_size s_readAt s_readPeaks s_readWinds s_readNumber s_undoMany s_keptMany, ai d (a 1) 6 s_kindOf, ai d (a 2) 6 s_highs, ai d (a 3) 12 s_winds, ai d (a 4) 30 s_pinned, ai d (a 5) 5 s_stored, ai d (a 6) 6 s_guides, ai d (a 9) 200 s_text, ai d (a 10) 6 s_readKinds, ai d (a 11) 6 s_readHighs, ai d (a 12) 30 s_readPins, ai d (a 13) 5 s_readStore, ai d (a 14) 12 s_readWind]) := by
  refine sx_it_run (bX5_lay_101 s_readStore) (fun s => match s with | (v1, s_stored) => sx_G d κ 2 0 0 101 [some (.ref (a 0)), some (.int v1)] [] [oX5 a s_many s_windMany s_year s_saidMany s_size s_readAt s_readPeaks s_readWinds s_readNumber s_undoMany s_keptMany, ai d (a 1) 6 s_kindOf, ai d (a 2) 6 s_highs, ai d (a 3) 12 s_winds, ai d (a 4) 30 s_pinned, ai d (a 5) 5 s_stored, ai d (a 6) 6 s_guides, ai d (a 9) 200 s_text, ai d (a 10) 6 s_readKinds, ai d (a 11) 6 s_readHighs, ai d (a 12) 30 s_readPins, ai d (a 13) 5 s_readStore, ai d (a 14) 12 s_readWind]) y ?_
  rintro ⟨v1, s_stored⟩ x hf hb he
  show sx_G d κ 2 0 0 101 [some (.ref (a 0)), some (.int v1)] [] [oX5 a s_many s_windMany s_year s_saidMany s_size s_readAt s_readPeaks s_readWinds s_readNumber s_undoMany s_keptMany, ai d (a 1) 6 s_kindOf, ai d (a 2) 6 s_highs, ai d (a 3) 12 s_winds, ai d (a 4) 30 s_pinned, ai d (a 5) 5 s_stored, ai d (a 6) 6 s_guides, ai d (a 9) 200 s_text, ai d (a 10) 6 s_readKinds, ai d (a 11) 6 s_readHighs, ai d (a 12) 30 s_readPins, ai d (a 13) 5 s_readStore, ai d (a 14) 12 s_readWind]
  unfold bX5_lay_101 at hf
  refine g_iload_n (pc' := 102) X dX5_lay_101 rfl rfl rfl ?_
  refine g_iconst (v := 5) (pc' := 103) X dX5_lay_102 rfl (by decide) ?_
  refine g_icmp_ge (tgt := 124) (pc' := 106) X dX5_lay_103 (by decide) rfl hf (fun hf => ?_) (fun hf => ?_)
  · exact sx_weak [true, false] rfl (hE124 _ (sx_ex hf he))
  · refine g_aload_n (pc' := 107) X dX5_lay_106 rfl rfl rfl ?_
    refine g_get (pc' := 110) X fl_X5_22 dX5_lay_107 rfl 0 rfl rfl ?_
    refine g_iload_n (pc' := 111) X dX5_lay_110 rfl rfl rfl ?_
    refine g_aload_n (pc' := 112) X dX5_lay_111 rfl rfl rfl ?_
    refine g_get (pc' := 115) X fl_X5_46 dX5_lay_112 rfl 0 rfl rfl ?_
    refine g_iload_n (pc' := 116) X dX5_lay_115 rfl rfl rfl ?_
    refine g_iald (pc' := 117) X dX5_lay_116 rfl 11 rfl hf (fun x22 hf => ?_)
    refine g_iast (pc' := 118) (w2 := fun g23 => [oX5 a s_many s_windMany s_year s_saidMany s_size s_readAt s_readPeaks s_readWinds s_readNumber s_undoMany s_keptMany, ai d (a 1) 6 s_kindOf, ai d (a 2) 6 s_highs, ai d (a 3) 12 s_winds, ai d (a 4) 30 s_pinned, ai d (a 5) 5 g23, ai d (a 6) 6 s_guides, ai d (a 9) 200 s_text, ai d (a 10) 6 s_readKinds, ai d (a 11) 6 s_readHighs, ai d (a 12) 30 s_readPins, ai d (a 13) 5 s_readStore, ai d (a 14) 12 s_readWind]) X dX5_lay_117 rfl 5 rfl hf (fun _ => rfl) (fun g23 hf => ?_)
    refine g_iinc (v := 1) (lv' := [some (.ref (a 0)), some (.int (v1 + (1 : Int32)))]) (pc' := 121) X dX5_lay_118 rfl rfl (by decide) (by decide) rfl rfl ?_
    refine g_goto (tgt := 101) X dX5_lay_121 (by decide) ?_
    have hk := sx_bk hf hb
    exact sx_weak [true, true] rfl hk
set_option maxHeartbeats 4000000 in
set_option maxRecDepth 100000 in
theorem lX5_lay_126 (d : sx_D) (κ : sx_C) (a : Nat → Nat) (s_many : Int32) (s_windMany : Int32) (s_year : Int32) (s_saidMany : Int32) (s_size : Int32) (s_readAt : Int32) (s_readPeaks : Int32) (s_readWinds : Int32) (s_readNumber : Int32) (s_undoMany : Int32) (s_keptMany : Int32) (s_kindOf : Nat → Int32) (s_highs : Nat → Int32) (s_pinned : Nat → Int32) (s_stored : Nat → Int32) (s_guides : Nat → Int32) (s_text : Nat → Int32) (s_readKinds : Nat → Int32) (s_readHighs : Nat → Int32) (s_readPins : Nat → Int32) (s_readStore : Nat → Int32) (s_readWind : Nat → Int32) (X : sx_X d κ cX5_lay 2 RX5 (sx_rm 6)) (y : (Nat → Int32)) (hE150 : ∀ (s_winds : Nat → Int32), s_winds = y → sx_G d κ 2 0 0 150 [some (.ref (a 0)), none] [] [oX5 a s_many s_windMany s_year s_saidMany s_size s_readAt s_readPeaks s_readWinds s_readNumber s_undoMany s_keptMany, ai d (a 1) 6 s_kindOf, ai d (a 2) 6 s_highs, ai d (a 3) 12 s_winds, ai d (a 4) 30 s_pinned, ai d (a 5) 5 s_stored, ai d (a 6) 6 s_guides, ai d (a 9) 200 s_text, ai d (a 10) 6 s_readKinds, ai d (a 11) 6 s_readHighs, ai d (a 12) 30 s_readPins, ai d (a 13) 5 s_readStore, ai d (a 14) 12 s_readWind]) : ∀ (n : Nat) (s : Int32 × (Nat → Int32)), sx_it n (bX5_lay_126 s_readWind) s = some y → (match s with | (v1, s_winds) => sx_G d κ 2 0 0 126 [some (.ref (a 0)), some (.int v1)] [] [oX5 a s_many s_windMany s_year s_saidMany s_size s_readAt s_readPeaks s_readWinds s_readNumber s_undoMany s_keptMany, ai d (a 1) 6 s_kindOf, ai d (a 2) 6 s_highs, ai d (a 3) 12 s_winds, ai d (a 4) 30 s_pinned, ai d (a 5) 5 s_stored, ai d (a 6) 6 s_guides, ai d (a 9) 200 s_text, ai d (a 10) 6 s_readKinds, ai d (a 11) 6 s_readHighs, ai d (a 12) 30 s_readPins, ai d (a 13) 5 s_readStore, ai d (a 14) 12 s_readWind]) := by
  refine sx_it_run (bX5_lay_126 s_readWind) (fun s => match s with | (v1, s_winds) => sx_G d κ 2 0 0 126 [some (.ref (a 0)), some (.int v1)] [] [oX5 a s_many s_windMany s_year s_saidMany s_size s_readAt s_readPeaks s_readWinds s_readNumber s_undoMany s_keptMany, ai d (a 1) 6 s_kindOf, ai d (a 2) 6 s_highs, ai d (a 3) 12 s_winds, ai d (a 4) 30 s_pinned, ai d (a 5) 5 s_stored, ai d (a 6) 6 s_guides, ai d (a 9) 200 s_text, ai d (a 10) 6 s_readKinds, ai d (a 11) 6 s_readHighs, ai d (a 12) 30 s_readPins, ai d (a 13) 5 s_readStore, ai d (a 14) 12 s_readWind]) y ?_
  rintro ⟨v1, s_winds⟩ x hf hb he
  show sx_G d κ 2 0 0 126 [some (.ref (a 0)), some (.int v1)] [] [oX5 a s_many s_windMany s_year s_saidMany s_size s_readAt s_readPeaks s_readWinds s_readNumber s_undoMany s_keptMany, ai d (a 1) 6 s_kindOf, ai d (a 2) 6 s_highs, ai d (a 3) 12 s_winds, ai d (a 4) 30 s_pinned, ai d (a 5) 5 s_stored, ai d (a 6) 6 s_guides, ai d (a 9) 200 s_text, ai d (a 10) 6 s_readKinds, ai d (a 11) 6 s_readHighs, ai d (a 12) 30 s_readPins, ai d (a 13) 5 s_readStore, ai d (a 14) 12 s_readWind]
  unfold bX5_lay_126 at hf
  refine g_iload_n (pc' := 127) X dX5_lay_126 rfl rfl rfl ?_
  refine g_bipush (v := 12) (pc' := 129) X dX5_lay_127 rfl (by decide) ?_
  refine g_icmp_ge (tgt := 150) (pc' := 132) X dX5_lay_129 (by decide) rfl hf (fun hf => ?_) (fun hf => ?_)
  · exact sx_weak [true, false] rfl (hE150 _ (sx_ex hf he))
  · refine g_aload_n (pc' := 133) X dX5_lay_132 rfl rfl rfl ?_
    refine g_get (pc' := 136) X fl_X5_16 dX5_lay_133 rfl 0 rfl rfl ?_
    refine g_iload_n (pc' := 137) X dX5_lay_136 rfl rfl rfl ?_
    refine g_aload_n (pc' := 138) X dX5_lay_137 rfl rfl rfl ?_
    refine g_get (pc' := 141) X fl_X5_49 dX5_lay_138 rfl 0 rfl rfl ?_
    refine g_iload_n (pc' := 142) X dX5_lay_141 rfl rfl rfl ?_
    refine g_iald (pc' := 143) X dX5_lay_142 rfl 12 rfl hf (fun x26 hf => ?_)
    refine g_iast (pc' := 144) (w2 := fun g27 => [oX5 a s_many s_windMany s_year s_saidMany s_size s_readAt s_readPeaks s_readWinds s_readNumber s_undoMany s_keptMany, ai d (a 1) 6 s_kindOf, ai d (a 2) 6 s_highs, ai d (a 3) 12 g27, ai d (a 4) 30 s_pinned, ai d (a 5) 5 s_stored, ai d (a 6) 6 s_guides, ai d (a 9) 200 s_text, ai d (a 10) 6 s_readKinds, ai d (a 11) 6 s_readHighs, ai d (a 12) 30 s_readPins, ai d (a 13) 5 s_readStore, ai d (a 14) 12 s_readWind]) X dX5_lay_143 rfl 3 rfl hf (fun _ => rfl) (fun g27 hf => ?_)
    refine g_iinc (v := 1) (lv' := [some (.ref (a 0)), some (.int (v1 + (1 : Int32)))]) (pc' := 147) X dX5_lay_144 rfl rfl (by decide) (by decide) rfl rfl ?_
    refine g_goto (tgt := 126) X dX5_lay_147 (by decide) ?_
    have hk := sx_bk hf hb
    exact sx_weak [true, true] rfl hk
set_option maxHeartbeats 4000000 in
set_option maxRecDepth 100000 in
theorem ctX5_lay (l : Launch) (d : sx_D) (a : Nat → Nat) (s_many : Int32) (s_windMany : Int32) (s_year : Int32) (s_saidMany : Int32) (s_size : Int32) (s_readAt : Int32) (s_readPeaks : Int32) (s_readWinds : Int32) (s_readNumber : Int32) (s_undoMany : Int32) (s_keptMany : Int32) (s_kindOf : Nat → Int32) (s_highs : Nat → Int32) (s_winds : Nat → Int32) (s_pinned : Nat → Int32) (s_stored : Nat → Int32) (s_guides : Nat → Int32) (s_text : Nat → Int32) (s_readKinds : Nat → Int32) (s_readHighs : Nat → Int32) (s_readPins : Nat → Int32) (s_readStore : Nat → Int32) (s_readWind : Nat → Int32) (r : Int32) (ro1 : Int32) (ro2 : Int32) (ro3 : Int32) (ro4 : Int32) (ro5 : Int32) (ro6 : Int32) (ro7 : Int32) (ro8 : Int32) (ro9 : Int32) (ro10 : Int32) (ro11 : Nat → Int32) (ro12 : Nat → Int32) (ro13 : Nat → Int32) (ro14 : Nat → Int32) (ro15 : Nat → Int32) (ro16 : Nat → Int32) (ro17 : Nat → Int32) (ro18 : Nat → Int32) (ro19 : Nat → Int32) (ro20 : Nat → Int32) (ro21 : Nat → Int32) (hf : fX5_lay s_many s_windMany s_year s_saidMany s_size s_readAt s_readPeaks s_readWinds s_readNumber s_undoMany s_keptMany s_kindOf s_highs s_winds s_pinned s_stored s_guides s_text s_readKinds s_readHighs s_readPins s_readStore s_readWind = some (r, ro1, ro2, ro3, ro4, ro5, ro6, ro7, ro8, ro9, ro10, ro11, ro12, ro13, ro14, ro15, ro16, ro17, ro18, ro19, ro20, ro21)) : sx_I l d yX5_lay cX5_lay 2 .int 6 [.ref (a 0)] [oX5 a s_many s_windMany s_year s_saidMany s_size s_readAt s_readPeaks s_readWinds s_readNumber s_undoMany s_keptMany, ai d (a 1) 6 s_kindOf, ai d (a 2) 6 s_highs, ai d (a 3) 12 s_winds, ai d (a 4) 30 s_pinned, ai d (a 5) 5 s_stored, ai d (a 6) 6 s_guides, ai d (a 9) 200 s_text, ai d (a 10) 6 s_readKinds, ai d (a 11) 6 s_readHighs, ai d (a 12) 30 s_readPins, ai d (a 13) 5 s_readStore, ai d (a 14) 12 s_readWind] [oX5 a ro1 ro2 ro3 ro4 s_size ro5 ro6 ro7 ro8 ro9 ro10, ai d (a 1) 6 ro11, ai d (a 2) 6 ro12, ai d (a 3) 12 ro13, ai d (a 4) 30 ro14, ai d (a 5) 5 ro15, ai d (a 6) 6 ro16, ai d (a 9) 200 s_text, ai d (a 10) 6 ro17, ai d (a 11) 6 ro18, ai d (a 12) 30 ro19, ai d (a 13) 5 ro20, ai d (a 14) 12 ro21] r := by
  refine sx_I.intro (lv0 := [some (.ref (a 0)), none]) (by decide +kernel) (Nat.le_of_ble_eq_true rfl) rfl ?_
  intro κ X hR
  have X : sx_X d κ cX5_lay 2 RX5 (sx_rm 6) := X
  unfold fX5_lay at hf
  refine g_aload_n (pc' := 1) X dX5_lay_0 rfl rfl rfl ?_
  refine g_callVi9 (pc' := 4) (As := []) (b := (a 0)) (st := []) (w2 := fun x1 o2 o3 o4 o5 o6 o7 o8 o9 o10 => [oX5 a s_many s_windMany s_year s_saidMany s_size o2 o3 o4 o5 s_undoMany s_keptMany, ai d (a 1) 6 s_kindOf, ai d (a 2) 6 s_highs, ai d (a 3) 12 s_winds, ai d (a 4) 30 s_pinned, ai d (a 5) 5 s_stored, ai d (a 6) 6 s_guides, ai d (a 9) 200 s_text, ai d (a 10) 6 o6, ai d (a 11) 6 o7, ai d (a 12) 30 o8, ai d (a 13) 5 o9, ai d (a 14) 12 o10]) X lk_X5_130 dX5_lay_1 rfl rfl rfl (Nat.le_of_ble_eq_true rfl) ⟨Nat.le_of_ble_eq_true rfl, Nat.le_of_ble_eq_true rfl, Nat.le_of_ble_eq_true rfl, Nat.le_of_ble_eq_true rfl⟩ rfl [0, 7, 8, 9, 10, 11, 12] (by decide) rfl hf (fun l x1 o2 o3 o4 o5 o6 o7 o8 o9 o10 h => ctX5_fault l d a s_many s_windMany s_year s_saidMany s_size s_readAt s_readPeaks s_readWinds s_readNumber s_undoMany s_keptMany s_text s_readKinds s_readHighs s_readPins s_readStore s_readWind x1 o2 o3 o4 o5 o6 o7 o8 o9 o10 h) (fun _ _ _ _ _ _ _ _ _ _ => rfl) (fun _ _ _ _ _ _ _ _ _ _ => rfl) (fun x1 o2 o3 o4 o5 o6 o7 o8 o9 o10 hnx1 hf => ?_)
  refine g_bipush (v := -4) (pc' := 6) X dX5_lay_4 rfl (by decide) ?_
  refine g_icmp_ne (tgt := 16) (pc' := 9) X dX5_lay_6 (by decide) rfl hf (fun hf => ?_) (fun hf => ?_)
  · refine g_bipush (v := -2) (pc' := 18) X dX5_lay_16 rfl (by decide) ?_
    cases hf
    exact hR _ _ dX5_lay_18 rfl
  · refine g_aload_n (pc' := 10) X dX5_lay_9 rfl rfl rfl ?_
    refine g_get (pc' := 13) X fl_X5_106 dX5_lay_10 rfl 0 rfl rfl ?_
    refine g_if_ne (tgt := 19) (pc' := 16) X dX5_lay_13 (by decide) rfl hf (fun hf => ?_) (fun hf => ?_)
    · refine g_aload_n (pc' := 20) X dX5_lay_19 rfl rfl rfl ?_
      refine g_aload_n (pc' := 21) X dX5_lay_20 rfl rfl rfl ?_
      refine g_get (pc' := 24) X fl_X5_106 dX5_lay_21 rfl 0 rfl rfl ?_
      refine g_put (pc' := 27) (w2 := [oX5 a o3 s_windMany s_year s_saidMany s_size o2 o3 o4 o5 s_undoMany s_keptMany, ai d (a 1) 6 s_kindOf, ai d (a 2) 6 s_highs, ai d (a 3) 12 s_winds, ai d (a 4) 30 s_pinned, ai d (a 5) 5 s_stored, ai d (a 6) 6 s_guides, ai d (a 9) 200 s_text, ai d (a 10) 6 o6, ai d (a 11) 6 o7, ai d (a 12) 30 o8, ai d (a 13) 5 o9, ai d (a 14) 12 o10]) X fl_X5_78 fw_X5 rfl dX5_lay_24 rfl 0 rfl rfl rfl (Nat.le_of_ble_eq_true rfl) rfl ?_
      refine g_aload_n (pc' := 28) X dX5_lay_27 rfl rfl rfl ?_
      refine g_aload_n (pc' := 29) X dX5_lay_28 rfl rfl rfl ?_
      refine g_get (pc' := 32) X fl_X5_112 dX5_lay_29 rfl 0 rfl rfl ?_
      refine g_put (pc' := 35) (w2 := [oX5 a o3 o4 s_year s_saidMany s_size o2 o3 o4 o5 s_undoMany s_keptMany, ai d (a 1) 6 s_kindOf, ai d (a 2) 6 s_highs, ai d (a 3) 12 s_winds, ai d (a 4) 30 s_pinned, ai d (a 5) 5 s_stored, ai d (a 6) 6 s_guides, ai d (a 9) 200 s_text, ai d (a 10) 6 o6, ai d (a 11) 6 o7, ai d (a 12) 30 o8, ai d (a 13) 5 o9, ai d (a 14) 12 o10]) X fl_X5_71 fw_X5 rfl dX5_lay_32 rfl 0 rfl rfl rfl (Nat.le_of_ble_eq_true rfl) rfl ?_
      refine g_iconst (v := 0) (pc' := 36) X dX5_lay_35 rfl (by decide) ?_
      refine g_istore_n (lv' := [some (.ref (a 0)), some (.int (0 : Int32))]) (pc' := 37) X dX5_lay_36 rfl rfl (by decide) rfl rfl ?_
      obtain ⟨y15, hy15, hf⟩ := sx_bd hf
      refine sx_weak [true, true] rfl (lX5_lay_37 d κ a o3 o4 s_year s_saidMany s_size o2 o3 o4 o5 s_undoMany s_keptMany s_winds s_pinned s_stored s_guides s_text o6 o7 o8 o9 o10 X y15 ?_ 1000 ((0 : Int32), s_kindOf, s_highs) hy15)
      rintro w16 w17 rfl
      refine g_iconst (v := 0) (pc' := 74) X dX5_lay_73 rfl (by decide) ?_
      refine g_istore_n (lv' := [some (.ref (a 0)), some (.int (0 : Int32))]) (pc' := 75) X dX5_lay_74 rfl rfl (by decide) rfl rfl ?_
      obtain ⟨y20, hy20, hf⟩ := sx_bd hf
      refine sx_weak [true, true] rfl (lX5_lay_75 d κ a o3 o4 s_year s_saidMany s_size o2 o3 o4 o5 s_undoMany s_keptMany w16 w17 s_winds s_stored s_guides s_text o6 o7 o8 o9 o10 X y20 ?_ 1000 ((0 : Int32), s_pinned) hy20)
      rintro w21 rfl
      refine g_iconst (v := 0) (pc' := 100) X dX5_lay_99 rfl (by decide) ?_
      refine g_istore_n (lv' := [some (.ref (a 0)), some (.int (0 : Int32))]) (pc' := 101) X dX5_lay_100 rfl rfl (by decide) rfl rfl ?_
      obtain ⟨y24, hy24, hf⟩ := sx_bd hf
      refine sx_weak [true, true] rfl (lX5_lay_101 d κ a o3 o4 s_year s_saidMany s_size o2 o3 o4 o5 s_undoMany s_keptMany w16 w17 s_winds w21 s_guides s_text o6 o7 o8 o9 o10 X y24 ?_ 1000 ((0 : Int32), s_stored) hy24)
      rintro w25 rfl
      refine g_iconst (v := 0) (pc' := 125) X dX5_lay_124 rfl (by decide) ?_
      refine g_istore_n (lv' := [some (.ref (a 0)), some (.int (0 : Int32))]) (pc' := 126) X dX5_lay_125 rfl rfl (by decide) rfl rfl ?_
      obtain ⟨y28, hy28, hf⟩ := sx_bd hf
      refine sx_weak [true, true] rfl (lX5_lay_126 d κ a o3 o4 s_year s_saidMany s_size o2 o3 o4 o5 s_undoMany s_keptMany w16 w17 w21 w25 s_guides s_text o6 o7 o8 o9 o10 X y28 ?_ 1000 ((0 : Int32), s_winds) hy28)
      rintro w29 rfl
      refine g_aload_n (pc' := 151) X dX5_lay_150 rfl rfl rfl ?_
      refine g_callVv1 (pc' := 154) (As := []) (b := (a 0)) (st := []) (w2 := fun o30 => [oX5 a o3 o4 s_year s_saidMany s_size o2 o3 o4 o5 s_undoMany s_keptMany, ai d (a 1) 6 w16, ai d (a 2) 6 w17, ai d (a 3) 12 w29, ai d (a 4) 30 w21, ai d (a 5) 5 w25, ai d (a 6) 6 o30, ai d (a 9) 200 s_text, ai d (a 10) 6 o6, ai d (a 11) 6 o7, ai d (a 12) 30 o8, ai d (a 13) 5 o9, ai d (a 14) 12 o10]) X lk_X5_75 dX5_lay_151 rfl rfl rfl (Nat.le_of_ble_eq_true rfl) ⟨Nat.le_of_ble_eq_true rfl, Nat.le_of_ble_eq_true rfl, Nat.le_of_ble_eq_true rfl, Nat.le_of_ble_eq_true rfl⟩ rfl [0, 4, 6] (by decide) rfl hf (fun l o30 h => ctX5_setGuides l d a o3 o4 s_year s_saidMany s_size o2 o3 o4 o5 s_undoMany s_keptMany w21 s_guides o30 h) (fun _ => rfl) (fun _ => rfl) (fun o30 hf => ?_)
      refine g_aload_n (pc' := 155) X dX5_lay_154 rfl rfl rfl ?_
      refine g_iconst (v := 0) (pc' := 156) X dX5_lay_155 rfl (by decide) ?_
      refine g_put (pc' := 159) (w2 := [oX5 a o3 o4 (0 : Int32) s_saidMany s_size o2 o3 o4 o5 s_undoMany s_keptMany, ai d (a 1) 6 w16, ai d (a 2) 6 w17, ai d (a 3) 12 w29, ai d (a 4) 30 w21, ai d (a 5) 5 w25, ai d (a 6) 6 o30, ai d (a 9) 200 s_text, ai d (a 10) 6 o6, ai d (a 11) 6 o7, ai d (a 12) 30 o8, ai d (a 13) 5 o9, ai d (a 14) 12 o10]) X fl_X5_133 fw_X5 rfl dX5_lay_156 rfl 0 rfl rfl rfl (Nat.le_of_ble_eq_true rfl) rfl ?_
      refine g_aload_n (pc' := 160) X dX5_lay_159 rfl rfl rfl ?_
      refine g_iconst (v := 0) (pc' := 161) X dX5_lay_160 rfl (by decide) ?_
      refine g_put (pc' := 164) (w2 := [oX5 a o3 o4 (0 : Int32) (0 : Int32) s_size o2 o3 o4 o5 s_undoMany s_keptMany, ai d (a 1) 6 w16, ai d (a 2) 6 w17, ai d (a 3) 12 w29, ai d (a 4) 30 w21, ai d (a 5) 5 w25, ai d (a 6) 6 o30, ai d (a 9) 200 s_text, ai d (a 10) 6 o6, ai d (a 11) 6 o7, ai d (a 12) 30 o8, ai d (a 13) 5 o9, ai d (a 14) 12 o10]) X fl_X5_136 fw_X5 rfl dX5_lay_161 rfl 0 rfl rfl rfl (Nat.le_of_ble_eq_true rfl) rfl ?_
      refine g_aload_n (pc' := 165) X dX5_lay_164 rfl rfl rfl ?_
      refine g_iconst (v := 0) (pc' := 166) X dX5_lay_165 rfl (by decide) ?_
      refine g_put (pc' := 169) (w2 := [oX5 a o3 o4 (0 : Int32) (0 : Int32) s_size o2 o3 o4 o5 (0 : Int32) s_keptMany, ai d (a 1) 6 w16, ai d (a 2) 6 w17, ai d (a 3) 12 w29, ai d (a 4) 30 w21, ai d (a 5) 5 w25, ai d (a 6) 6 o30, ai d (a 9) 200 s_text, ai d (a 10) 6 o6, ai d (a 11) 6 o7, ai d (a 12) 30 o8, ai d (a 13) 5 o9, ai d (a 14) 12 o10]) X fl_X5_139 fw_X5 rfl dX5_lay_166 rfl 0 rfl rfl rfl (Nat.le_of_ble_eq_true rfl) rfl ?_
      refine g_aload_n (pc' := 170) X dX5_lay_169 rfl rfl rfl ?_
      refine g_iconst (v := 0) (pc' := 171) X dX5_lay_170 rfl (by decide) ?_
      refine g_put (pc' := 174) (w2 := [oX5 a o3 o4 (0 : Int32) (0 : Int32) s_size o2 o3 o4 o5 (0 : Int32) (0 : Int32), ai d (a 1) 6 w16, ai d (a 2) 6 w17, ai d (a 3) 12 w29, ai d (a 4) 30 w21, ai d (a 5) 5 w25, ai d (a 6) 6 o30, ai d (a 9) 200 s_text, ai d (a 10) 6 o6, ai d (a 11) 6 o7, ai d (a 12) 30 o8, ai d (a 13) 5 o9, ai d (a 14) 12 o10]) X fl_X5_142 fw_X5 rfl dX5_lay_171 rfl 0 rfl rfl rfl (Nat.le_of_ble_eq_true rfl) rfl ?_
      refine g_aload_n (pc' := 175) X dX5_lay_174 rfl rfl rfl ?_
      refine g_get (pc' := 178) X fl_X5_78 dX5_lay_175 rfl 0 rfl rfl ?_
      cases hf
      exact hR _ _ dX5_lay_178 rfl
    · refine g_bipush (v := -2) (pc' := 18) X dX5_lay_16 rfl (by decide) ?_
      cases hf
      exact hR _ _ dX5_lay_18 rfl
-- X5_windOf
def fX5_windOf (s_windMany : Int32) (s_winds : Nat → Int32) (v1 : Int32) : Option (Int32) :=
  if s_windMany = 0 then
    some (3 : Int32)
  else
    sx_nz s_windMany <|
    sx_rd s_winds 12 (v1 - v1 / s_windMany * s_windMany) fun x1 =>
    some x1
set_option maxHeartbeats 4000000 in
set_option maxRecDepth 100000 in
theorem ctX5_windOf (l : Launch) (d : sx_D) (a : Nat → Nat) (s_many : Int32) (s_windMany : Int32) (s_year : Int32) (s_saidMany : Int32) (s_size : Int32) (s_readAt : Int32) (s_readPeaks : Int32) (s_readWinds : Int32) (s_readNumber : Int32) (s_undoMany : Int32) (s_keptMany : Int32) (s_winds : Nat → Int32) (v1 : Int32) (r : Int32) (hf : fX5_windOf s_windMany s_winds v1 = some r) : sx_I l d yX5_windOf cX5_windOf 2 .int 0 [.ref (a 0), .int v1] [oX5 a s_many s_windMany s_year s_saidMany s_size s_readAt s_readPeaks s_readWinds s_readNumber s_undoMany s_keptMany, ai d (a 3) 12 s_winds] [oX5 a s_many s_windMany s_year s_saidMany s_size s_readAt s_readPeaks s_readWinds s_readNumber s_undoMany s_keptMany, ai d (a 3) 12 s_winds] r := by
  refine sx_I.intro (lv0 := [some (.ref (a 0)), some (.int v1)]) (by decide +kernel) (Nat.le_of_ble_eq_true rfl) rfl ?_
  intro κ X hR
  have X : sx_X d κ cX5_windOf 2 RX5 (sx_rm 0) := X
  unfold fX5_windOf at hf
  refine g_aload_n (pc' := 1) X dX5_windOf_0 rfl rfl rfl ?_
  refine g_get (pc' := 4) X fl_X5_71 dX5_windOf_1 rfl 0 rfl rfl ?_
  refine g_if_ne (tgt := 11) (pc' := 7) X dX5_windOf_4 (by decide) rfl hf (fun hf => ?_) (fun hf => ?_)
  · refine g_aload_n (pc' := 12) X dX5_windOf_11 rfl rfl rfl ?_
    refine g_get (pc' := 15) X fl_X5_16 dX5_windOf_12 rfl 0 rfl rfl ?_
    refine g_iload_n (pc' := 16) X dX5_windOf_15 rfl rfl rfl ?_
    refine g_aload_n (pc' := 17) X dX5_windOf_16 rfl rfl rfl ?_
    refine g_get (pc' := 20) X fl_X5_71 dX5_windOf_17 rfl 0 rfl rfl ?_
    refine g_iremZ (pc' := 21) X dX5_windOf_20 rfl hf (fun hf => ?_)
    refine g_iald (pc' := 22) X dX5_windOf_21 rfl 1 rfl hf (fun x1 hf => ?_)
    cases hf
    exact hR _ _ dX5_windOf_22 rfl
  · refine g_iconst (v := 3) (pc' := 8) X dX5_windOf_7 rfl (by decide) ?_
    refine g_goto (tgt := 22) X dX5_windOf_8 (by decide) ?_
    cases hf
    exact hR _ _ dX5_windOf_22 rfl
-- X5_forceBy
def fX5_forceBy (s_kindOf : Nat → Int32) (v1 : Int32) (v2 : Int32) : Option (Int32) :=
  sx_rd s_kindOf 6 v1 fun x1 =>
  if x1 = (1 : Int32) then
    some (v2 + (2 : Int32))
  else
    sx_rd s_kindOf 6 v1 fun x2 =>
    if x2 = (2 : Int32) then
      (fX5_greater (0 : Int32) (v2 - (2 : Int32))).bind fun x3 =>
      some x3
    else
      some v2
set_option maxHeartbeats 4000000 in
set_option maxRecDepth 100000 in
theorem ctX5_forceBy (l : Launch) (d : sx_D) (a : Nat → Nat) (s_many : Int32) (s_windMany : Int32) (s_year : Int32) (s_saidMany : Int32) (s_size : Int32) (s_readAt : Int32) (s_readPeaks : Int32) (s_readWinds : Int32) (s_readNumber : Int32) (s_undoMany : Int32) (s_keptMany : Int32) (s_kindOf : Nat → Int32) (v1 : Int32) (v2 : Int32) (r : Int32) (hf : fX5_forceBy s_kindOf v1 v2 = some r) : sx_I l d yX5_forceBy cX5_forceBy 3 .int 1 [.ref (a 0), .int v1, .int v2] [oX5 a s_many s_windMany s_year s_saidMany s_size s_readAt s_readPeaks s_readWinds s_readNumber s_undoMany s_keptMany, ai d (a 1) 6 s_kindOf] [oX5 a s_many s_windMany s_year s_saidMany s_size s_readAt s_readPeaks s_readWinds s_readNumber s_undoMany s_keptMany, ai d (a 1) 6 s_kindOf] r := by
  refine sx_I.intro (lv0 := [some (.ref (a 0)), some (.int v1), some (.int v2)]) (by decide +kernel) (Nat.le_of_ble_eq_true rfl) rfl ?_
  intro κ X hR
  have X : sx_X d κ cX5_forceBy 3 RX5 (sx_rm 1) := X
  unfold fX5_forceBy at hf
  refine g_aload_n (pc' := 1) X dX5_forceBy_0 rfl rfl rfl ?_
  refine g_get (pc' := 4) X fl_X5_9 dX5_forceBy_1 rfl 0 rfl rfl ?_
  refine g_iload_n (pc' := 5) X dX5_forceBy_4 rfl rfl rfl ?_
  refine g_iald (pc' := 6) X dX5_forceBy_5 rfl 1 rfl hf (fun x1 hf => ?_)
  refine g_iconst (v := 1) (pc' := 7) X dX5_forceBy_6 rfl (by decide) ?_
  refine g_icmp_ne (tgt := 16) (pc' := 10) X dX5_forceBy_7 (by decide) rfl hf (fun hf => ?_) (fun hf => ?_)
  · refine g_aload_n (pc' := 17) X dX5_forceBy_16 rfl rfl rfl ?_
    refine g_get (pc' := 20) X fl_X5_9 dX5_forceBy_17 rfl 0 rfl rfl ?_
    refine g_iload_n (pc' := 21) X dX5_forceBy_20 rfl rfl rfl ?_
    refine g_iald (pc' := 22) X dX5_forceBy_21 rfl 1 rfl hf (fun x2 hf => ?_)
    refine g_iconst (v := 2) (pc' := 23) X dX5_forceBy_22 rfl (by decide) ?_
    refine g_icmp_ne (tgt := 36) (pc' := 26) X dX5_forceBy_23 (by decide) rfl hf (fun hf => ?_) (fun hf => ?_)
    · refine g_iload_n (pc' := 37) X dX5_forceBy_36 rfl rfl rfl ?_
      cases hf
      exact hR _ _ dX5_forceBy_37 rfl
    · refine g_iconst (v := 0) (pc' := 27) X dX5_forceBy_26 rfl (by decide) ?_
      refine g_iload_n (pc' := 28) X dX5_forceBy_27 rfl rfl rfl ?_
      refine g_iconst (v := 2) (pc' := 29) X dX5_forceBy_28 rfl (by decide) ?_
      refine g_isub (pc' := 30) X dX5_forceBy_29 rfl ?_
      refine g_callSi0 (pc' := 33) (As := [.int (0 : Int32), .int (v2 - (2 : Int32))]) (st := []) (w2 := fun x3 => [oX5 a s_many s_windMany s_year s_saidMany s_size s_readAt s_readPeaks s_readWinds s_readNumber s_undoMany s_keptMany, ai d (a 1) 6 s_kindOf]) X lk_X5_145 dX5_forceBy_30 rfl rfl rfl (Nat.le_of_ble_eq_true rfl) ⟨Nat.le_of_ble_eq_true rfl, Nat.le_of_ble_eq_true rfl, Nat.le_of_ble_eq_true rfl, Nat.le_of_ble_eq_true rfl⟩ [] (by decide) rfl hf (fun l x3 h => ctX5_greater l d (0 : Int32) (v2 - (2 : Int32)) x3 h) (fun _ => rfl) (fun _ => rfl) (fun x3 hnx3 hf => ?_)
      refine g_goto (tgt := 37) X dX5_forceBy_33 (by decide) ?_
      cases hf
      exact hR _ _ dX5_forceBy_37 rfl
  · refine g_iload_n (pc' := 11) X dX5_forceBy_10 rfl rfl rfl ?_
    refine g_iconst (v := 2) (pc' := 12) X dX5_forceBy_11 rfl (by decide) ?_
    refine g_iadd (pc' := 13) X dX5_forceBy_12 rfl ?_
    refine g_goto (tgt := 37) X dX5_forceBy_13 (by decide) ?_
    cases hf
    exact hR _ _ dX5_forceBy_37 rfl
-- X5_light
def jX5_light_32 (s_highs : Nat → Int32) (s_pinned : Nat → Int32) (v1 : Int32) (v2 : Int32) (v3 : Int32) (t0 : Int32) : Option ((Int32 × Int32) ⊕ (Int32)) :=
  if t0 = 0 then
    sx_lt (v2 - (0 : Int32)) fun x1 =>
    some (.inl (x1, v3 + (1 : Int32)))
  else
    sx_rd s_highs 6 v3 fun x2 =>
    sx_rd s_highs 6 v1 fun x3 =>
    if x2 ≤ x3 then
      sx_lt (v2 - (0 : Int32)) fun x4 =>
      some (.inl (x4, v3 + (1 : Int32)))
    else
      (fX5_looks s_pinned v3).bind fun x5 =>
      (fX5_has x5 (3 : Int32)).bind fun x6 =>
      if x6 = 0 then
        sx_lt (v2 - (0 : Int32)) fun x7 =>
        some (.inl (x7, v3 + (1 : Int32)))
      else
        sx_lt (v2 - (3 : Int32)) fun x8 =>
        some (.inl (x8, v3 + (1 : Int32)))
def jX5_light_27 (s_highs : Nat → Int32) (s_pinned : Nat → Int32) (v1 : Int32) (v2 : Int32) (v3 : Int32) : Option ((Int32 × Int32) ⊕ (Int32)) :=
  jX5_light_32 s_highs s_pinned v1 v2 v3 (1 : Int32)
def bX5_light_5 (s_many : Int32) (s_highs : Nat → Int32) (s_pinned : Nat → Int32) (v1 : Int32) : (Int32 × Int32) → Option ((Int32 × Int32) ⊕ (Int32)) := fun (v2, v3) =>
  if s_many ≤ v3 then
    some (.inr v2)
  else
    if v3 = (v1 - (1 : Int32)) then
      jX5_light_27 s_highs s_pinned v1 v2 v3
    else
      if v3 = (v1 + (1 : Int32)) then
        jX5_light_27 s_highs s_pinned v1 v2 v3
      else
        jX5_light_32 s_highs s_pinned v1 v2 v3 (0 : Int32)
def fX5_light (s_many : Int32) (s_highs : Nat → Int32) (s_pinned : Nat → Int32) (v1 : Int32) : Option (Int32) :=
  (sx_it 1000 (bX5_light_5 s_many s_highs s_pinned v1) ((12 : Int32), (0 : Int32))).bind fun w10 =>
  some w10
set_option maxHeartbeats 4000000 in
set_option maxRecDepth 100000 in
theorem lX5_light_5 (d : sx_D) (κ : sx_C) (a : Nat → Nat) (s_many : Int32) (s_windMany : Int32) (s_year : Int32) (s_saidMany : Int32) (s_size : Int32) (s_readAt : Int32) (s_readPeaks : Int32) (s_readWinds : Int32) (s_readNumber : Int32) (s_undoMany : Int32) (s_keptMany : Int32) (s_highs : Nat → Int32) (s_pinned : Nat → Int32) (v1 : Int32) (X : sx_X d κ cX5_light 5 RX5 (sx_rm 1)) (y : Int32) (hE80 : ∀ (v2 : Int32), v2 = y → sx_G d κ 5 0 0 80 [none, none, some (.int v2), none, none] [] [oX5 a s_many s_windMany s_year s_saidMany s_size s_readAt s_readPeaks s_readWinds s_readNumber s_undoMany s_keptMany, ai d (a 2) 6 s_highs, ai d (a 4) 30 s_pinned]) : ∀ (n : Nat) (s : Int32 × Int32), sx_it n (bX5_light_5 s_many s_highs s_pinned v1) s = some y → (match s with | (v2, v3) => sx_G d κ 5 0 0 5 [some (.ref (a 0)), some (.int v1), some (.int v2), some (.int v3), none] [] [oX5 a s_many s_windMany s_year s_saidMany s_size s_readAt s_readPeaks s_readWinds s_readNumber s_undoMany s_keptMany, ai d (a 2) 6 s_highs, ai d (a 4) 30 s_pinned]) := by
  refine sx_it_run (bX5_light_5 s_many s_highs s_pinned v1) (fun s => match s with | (v2, v3) => sx_G d κ 5 0 0 5 [some (.ref (a 0)), some (.int v1), some (.int v2), some (.int v3), none] [] [oX5 a s_many s_windMany s_year s_saidMany s_size s_readAt s_readPeaks s_readWinds s_readNumber s_undoMany s_keptMany, ai d (a 2) 6 s_highs, ai d (a 4) 30 s_pinned]) y ?_
  rintro ⟨v2, v3⟩ x hf hb he
  show sx_G d κ 5 0 0 5 [some (.ref (a 0)), some (.int v1), some (.int v2), some (.int v3), none] [] [oX5 a s_many s_windMany s_year s_saidMany s_size s_readAt s_readPeaks s_readWinds s_readNumber s_undoMany s_keptMany, ai d (a 2) 6 s_highs, ai d (a 4) 30 s_pinned]
  unfold bX5_light_5 at hf
  refine g_iload_n (pc' := 6) X dX5_light_5 rfl rfl rfl ?_
  refine g_aload_n (pc' := 7) X dX5_light_6 rfl rfl rfl ?_
  refine g_get (pc' := 10) X fl_X5_78 dX5_light_7 rfl 0 rfl rfl ?_
  refine g_icmp_ge (tgt := 80) (pc' := 13) X dX5_light_10 (by decide) rfl hf (fun hf => ?_) (fun hf => ?_)
  · exact sx_weak [false, false, true, false, true] rfl (hE80 _ (sx_ex hf he))
  · refine g_iload_n (pc' := 14) X dX5_light_13 rfl rfl rfl ?_
    refine g_iload_n (pc' := 15) X dX5_light_14 rfl rfl rfl ?_
    refine g_iconst (v := 1) (pc' := 16) X dX5_light_15 rfl (by decide) ?_
    refine g_isub (pc' := 17) X dX5_light_16 rfl ?_
    have hjX5_light_32 : ∀ (v2 : Int32) (v3 : Int32) (t0 : Int32), jX5_light_32 s_highs s_pinned v1 v2 v3 t0 = some x → sx_G d κ 5 0 0 32 [some (.ref (a 0)), some (.int v1), some (.int v2), some (.int v3), none] [.int t0] [oX5 a s_many s_windMany s_year s_saidMany s_size s_readAt s_readPeaks s_readWinds s_readNumber s_undoMany s_keptMany, ai d (a 2) 6 s_highs, ai d (a 4) 30 s_pinned] := by
      intro v2 v3 t0 hf
      unfold jX5_light_32 at hf
      refine g_istore (lv' := [some (.ref (a 0)), some (.int v1), some (.int v2), some (.int v3), some (.int t0)]) (pc' := 34) X dX5_light_32 rfl (by decide) rfl rfl ?_
      refine g_iload_n (pc' := 35) X dX5_light_34 rfl rfl rfl ?_
      refine g_iload (pc' := 37) X dX5_light_35 rfl rfl ?_
      refine g_if_eq (tgt := 71) (pc' := 40) X dX5_light_37 (by decide) rfl hf (fun hf => ?_) (fun hf => ?_)
      · refine g_iconst (v := 0) (pc' := 72) X dX5_light_71 rfl (by decide) ?_
        refine g_isub (pc' := 73) X dX5_light_72 rfl ?_
        refine g_istore_nN (lv' := fun x1 => [some (.ref (a 0)), some (.int v1), some (.int x1), some (.int v3), some (.int t0)]) (pc' := 74) X dX5_light_73 rfl rfl (by decide) rfl (fun _ => rfl) hf (fun x1 hf => ?_)
        refine g_iinc (v := 1) (lv' := [some (.ref (a 0)), some (.int v1), some (.int x1), some (.int (v3 + (1 : Int32))), some (.int t0)]) (pc' := 77) X dX5_light_74 rfl rfl (by decide) (by decide) rfl rfl ?_
        refine g_goto (tgt := 5) X dX5_light_77 (by decide) ?_
        have hk := sx_bk hf hb
        exact sx_weak [true, true, true, true, false] rfl hk
      · refine g_aload_n (pc' := 41) X dX5_light_40 rfl rfl rfl ?_
        refine g_get (pc' := 44) X fl_X5_13 dX5_light_41 rfl 0 rfl rfl ?_
        refine g_iload_n (pc' := 45) X dX5_light_44 rfl rfl rfl ?_
        refine g_iald (pc' := 46) X dX5_light_45 rfl 1 rfl hf (fun x2 hf => ?_)
        refine g_aload_n (pc' := 47) X dX5_light_46 rfl rfl rfl ?_
        refine g_get (pc' := 50) X fl_X5_13 dX5_light_47 rfl 0 rfl rfl ?_
        refine g_iload_n (pc' := 51) X dX5_light_50 rfl rfl rfl ?_
        refine g_iald (pc' := 52) X dX5_light_51 rfl 1 rfl hf (fun x3 hf => ?_)
        refine g_icmp_le (tgt := 71) (pc' := 55) X dX5_light_52 (by decide) rfl hf (fun hf => ?_) (fun hf => ?_)
        · refine g_iconst (v := 0) (pc' := 72) X dX5_light_71 rfl (by decide) ?_
          refine g_isub (pc' := 73) X dX5_light_72 rfl ?_
          refine g_istore_nN (lv' := fun x4 => [some (.ref (a 0)), some (.int v1), some (.int x4), some (.int v3), some (.int t0)]) (pc' := 74) X dX5_light_73 rfl rfl (by decide) rfl (fun _ => rfl) hf (fun x4 hf => ?_)
          refine g_iinc (v := 1) (lv' := [some (.ref (a 0)), some (.int v1), some (.int x4), some (.int (v3 + (1 : Int32))), some (.int t0)]) (pc' := 77) X dX5_light_74 rfl rfl (by decide) (by decide) rfl rfl ?_
          refine g_goto (tgt := 5) X dX5_light_77 (by decide) ?_
          have hk := sx_bk hf hb
          exact sx_weak [true, true, true, true, false] rfl hk
        · refine g_aload_n (pc' := 56) X dX5_light_55 rfl rfl rfl ?_
          refine g_iload_n (pc' := 57) X dX5_light_56 rfl rfl rfl ?_
          refine g_callVi0 (pc' := 60) (As := [.int v3]) (b := (a 0)) (st := [.int v2]) (w2 := fun x5 => [oX5 a s_many s_windMany s_year s_saidMany s_size s_readAt s_readPeaks s_readWinds s_readNumber s_undoMany s_keptMany, ai d (a 2) 6 s_highs, ai d (a 4) 30 s_pinned]) X lk_X5_85 dX5_light_57 rfl rfl rfl (Nat.le_of_ble_eq_true rfl) ⟨Nat.le_of_ble_eq_true rfl, Nat.le_of_ble_eq_true rfl, Nat.le_of_ble_eq_true rfl, Nat.le_of_ble_eq_true rfl⟩ rfl [0, 2] (by decide) rfl hf (fun l x5 h => ctX5_looks l d a s_many s_windMany s_year s_saidMany s_size s_readAt s_readPeaks s_readWinds s_readNumber s_undoMany s_keptMany s_pinned v3 x5 h) (fun _ => rfl) (fun _ => rfl) (fun x5 hnx5 hf => ?_)
          refine g_iconst (v := 3) (pc' := 61) X dX5_light_60 rfl (by decide) ?_
          refine g_callSi0 (pc' := 64) (As := [.int x5, .int (3 : Int32)]) (st := [.int v2]) (w2 := fun x6 => [oX5 a s_many s_windMany s_year s_saidMany s_size s_readAt s_readPeaks s_readWinds s_readNumber s_undoMany s_keptMany, ai d (a 2) 6 s_highs, ai d (a 4) 30 s_pinned]) X lk_X5_149 dX5_light_61 rfl rfl rfl (Nat.le_of_ble_eq_true rfl) ⟨Nat.le_of_ble_eq_true rfl, Nat.le_of_ble_eq_true rfl, Nat.le_of_ble_eq_true rfl, Nat.le_of_ble_eq_true rfl⟩ [] (by decide) rfl hf (fun l x6 h => ctX5_has l d x5 (3 : Int32) x6 h) (fun _ => rfl) (fun _ => rfl) (fun x6 hnx6 hf => ?_)
          refine g_if_eq (tgt := 71) (pc' := 67) X dX5_light_64 (by decide) rfl hf (fun hf => ?_) (fun hf => ?_)
          · refine g_iconst (v := 0) (pc' := 72) X dX5_light_71 rfl (by decide) ?_
            refine g_isub (pc' := 73) X dX5_light_72 rfl ?_
            refine g_istore_nN (lv' := fun x7 => [some (.ref (a 0)), some (.int v1), some (.int x7), some (.int v3), some (.int t0)]) (pc' := 74) X dX5_light_73 rfl rfl (by decide) rfl (fun _ => rfl) hf (fun x7 hf => ?_)
            refine g_iinc (v := 1) (lv' := [some (.ref (a 0)), some (.int v1), some (.int x7), some (.int (v3 + (1 : Int32))), some (.int t0)]) (pc' := 77) X dX5_light_74 rfl rfl (by decide) (by decide) rfl rfl ?_
            refine g_goto (tgt := 5) X dX5_light_77 (by decide) ?_
            have hk := sx_bk hf hb
            exact sx_weak [true, true, true, true, false] rfl hk
          · refine g_iconst (v := 3) (pc' := 68) X dX5_light_67 rfl (by decide) ?_
            refine g_goto (tgt := 72) X dX5_light_68 (by decide) ?_
            refine g_isub (pc' := 73) X dX5_light_72 rfl ?_
            refine g_istore_nN (lv' := fun x8 => [some (.ref (a 0)), some (.int v1), some (.int x8), some (.int v3), some (.int t0)]) (pc' := 74) X dX5_light_73 rfl rfl (by decide) rfl (fun _ => rfl) hf (fun x8 hf => ?_)
            refine g_iinc (v := 1) (lv' := [some (.ref (a 0)), some (.int v1), some (.int x8), some (.int (v3 + (1 : Int32))), some (.int t0)]) (pc' := 77) X dX5_light_74 rfl rfl (by decide) (by decide) rfl rfl ?_
            refine g_goto (tgt := 5) X dX5_light_77 (by decide) ?_
            have hk := sx_bk hf hb
            exact sx_weak [true, true, true, true, false] rfl hk
    have hjX5_light_27 : ∀ (v2 : Int32) (v3 : Int32), jX5_light_27 s_highs s_pinned v1 v2 v3 = some x → sx_G d κ 5 0 0 27 [some (.ref (a 0)), some (.int v1), some (.int v2), some (.int v3), none] [] [oX5 a s_many s_windMany s_year s_saidMany s_size s_readAt s_readPeaks s_readWinds s_readNumber s_undoMany s_keptMany, ai d (a 2) 6 s_highs, ai d (a 4) 30 s_pinned] := by
      intro v2 v3 hf
      unfold jX5_light_27 at hf
      refine g_iconst (v := 1) (pc' := 28) X dX5_light_27 rfl (by decide) ?_
      refine g_goto (tgt := 32) X dX5_light_28 (by decide) ?_
      exact sx_weak [true, true, true, true, true] rfl (hjX5_light_32 v2 v3 (1 : Int32) hf)
    refine g_icmp_eq (tgt := 27) (pc' := 20) X dX5_light_17 (by decide) rfl hf (fun hf => ?_) (fun hf => ?_)
    · exact sx_weak [true, true, true, true, true] rfl (hjX5_light_27 v2 v3 hf)
    · refine g_iload_n (pc' := 21) X dX5_light_20 rfl rfl rfl ?_
      refine g_iload_n (pc' := 22) X dX5_light_21 rfl rfl rfl ?_
      refine g_iconst (v := 1) (pc' := 23) X dX5_light_22 rfl (by decide) ?_
      refine g_iadd (pc' := 24) X dX5_light_23 rfl ?_
      refine g_icmp_ne (tgt := 31) (pc' := 27) X dX5_light_24 (by decide) rfl hf (fun hf => ?_) (fun hf => ?_)
      · refine g_iconst (v := 0) (pc' := 32) X dX5_light_31 rfl (by decide) ?_
        exact sx_weak [true, true, true, true, true] rfl (hjX5_light_32 v2 v3 (0 : Int32) hf)
      · exact sx_weak [true, true, true, true, true] rfl (hjX5_light_27 v2 v3 hf)
set_option maxHeartbeats 4000000 in
set_option maxRecDepth 100000 in
theorem ctX5_light (l : Launch) (d : sx_D) (a : Nat → Nat) (s_many : Int32) (s_windMany : Int32) (s_year : Int32) (s_saidMany : Int32) (s_size : Int32) (s_readAt : Int32) (s_readPeaks : Int32) (s_readWinds : Int32) (s_readNumber : Int32) (s_undoMany : Int32) (s_keptMany : Int32) (s_highs : Nat → Int32) (s_pinned : Nat → Int32) (v1 : Int32) (r : Int32) (hf : fX5_light s_many s_highs s_pinned v1 = some r) : sx_I l d yX5_light cX5_light 5 .int 1 [.ref (a 0), .int v1] [oX5 a s_many s_windMany s_year s_saidMany s_size s_readAt s_readPeaks s_readWinds s_readNumber s_undoMany s_keptMany, ai d (a 2) 6 s_highs, ai d (a 4) 30 s_pinned] [oX5 a s_many s_windMany s_year s_saidMany s_size s_readAt s_readPeaks s_readWinds s_readNumber s_undoMany s_keptMany, ai d (a 2) 6 s_highs, ai d (a 4) 30 s_pinned] r := by
  refine sx_I.intro (lv0 := [some (.ref (a 0)), some (.int v1), none, none, none]) (by decide +kernel) (Nat.le_of_ble_eq_true rfl) rfl ?_
  intro κ X hR
  have X : sx_X d κ cX5_light 5 RX5 (sx_rm 1) := X
  unfold fX5_light at hf
  refine g_bipush (v := 12) (pc' := 2) X dX5_light_0 rfl (by decide) ?_
  refine g_istore_n (lv' := [some (.ref (a 0)), some (.int v1), some (.int (12 : Int32)), none, none]) (pc' := 3) X dX5_light_2 rfl rfl (by decide) rfl rfl ?_
  refine g_iconst (v := 0) (pc' := 4) X dX5_light_3 rfl (by decide) ?_
  refine g_istore_n (lv' := [some (.ref (a 0)), some (.int v1), some (.int (12 : Int32)), some (.int (0 : Int32)), none]) (pc' := 5) X dX5_light_4 rfl rfl (by decide) rfl rfl ?_
  obtain ⟨y9, hy9, hf⟩ := sx_bd hf
  refine sx_weak [true, true, true, true, true] rfl (lX5_light_5 d κ a s_many s_windMany s_year s_saidMany s_size s_readAt s_readPeaks s_readWinds s_readNumber s_undoMany s_keptMany s_highs s_pinned v1 X y9 ?_ 1000 ((12 : Int32), (0 : Int32)) hy9)
  rintro w10 rfl
  refine g_iload_n (pc' := 81) X dX5_light_80 rfl rfl rfl ?_
  cases hf
  exact hR _ _ dX5_light_81 rfl
-- X5_passesBy
def bX5_passesBy_26 (v2 : Int32) (v3 : Int32) : (Int32 × (Nat → Int32)) → Option ((Int32 × (Nat → Int32)) ⊕ ((Nat → Int32))) := fun (v4, s_pinned) =>
  if (((5 : Int32) * v2) + (5 : Int32)) ≤ v4 then
    some (.inr s_pinned)
  else
    sx_rd s_pinned 30 v4 fun x4 =>
    if v3 ≤ x4 then
      sx_rd s_pinned 30 v4 fun x5 =>
      (fX5_greater (0 : Int32) (x5 - (1 : Int32))).bind fun x6 =>
      sx_wr s_pinned 30 v4 x6 fun g7 =>
      some (.inl (v4 + (1 : Int32), g7))
    else
      sx_wr s_pinned 30 v4 (0 : Int32) fun g8 =>
      some (.inl (v4 + (1 : Int32), g8))
def bX5_passesBy_82 (s_pinned : Nat → Int32) (v2 : Int32) : Int32 → Option ((Int32) ⊕ (Int32)) := fun v4 =>
  if (((5 : Int32) * v2) + (5 : Int32)) ≤ v4 then
    some (.inr v4)
  else
    sx_rd s_pinned 30 v4 fun x12 =>
    if x12 = 0 then
      some (.inl (v4 + (1 : Int32)))
    else
      some (.inr v4)
def bX5_passesBy_6 (s_many : Int32) (s_kindOf : Nat → Int32) (v1 : Int32) : (Int32 × (Nat → Int32)) → Option ((Int32 × (Nat → Int32)) ⊕ ((Nat → Int32))) := fun (v2, s_pinned) =>
  if s_many ≤ v2 then
    some (.inr s_pinned)
  else
    (fX5_forceBy s_kindOf v2 v1).bind fun x2 =>
    sx_lt ((5 : Int32) * v2) fun x3 =>
    (sx_it 1000 (bX5_passesBy_26 v2 x2) (x3, s_pinned)).bind fun w10 =>
    sx_lt ((5 : Int32) * v2) fun x11 =>
    (sx_it 1000 (bX5_passesBy_82 w10 v2) x11).bind fun w14 =>
    sx_rd s_kindOf 6 v2 fun x15 =>
    if x15 = (3 : Int32) then
      if (((5 : Int32) * v2) + (5 : Int32)) ≤ w14 then
        some (.inl (v2 + (1 : Int32), w10))
      else
        sx_rd w10 30 w14 fun x16 =>
        sx_wr w10 30 w14 (x16 - (1 : Int32)) fun g17 =>
        some (.inl (v2 + (1 : Int32), g17))
    else
      some (.inl (v2 + (1 : Int32), w10))
def fX5_passesBy (s_many : Int32) (s_year : Int32) (s_kindOf : Nat → Int32) (s_pinned : Nat → Int32) (s_guides : Nat → Int32) (v1 : Int32) : Option (Int32 × (Nat → Int32) × (Nat → Int32)) :=
  (fX5_setGuides s_many s_pinned s_guides).bind fun o1 =>
  (sx_it 1000 (bX5_passesBy_6 s_many s_kindOf v1) ((0 : Int32), s_pinned)).bind fun w19 =>
  sx_lt (s_year + (1 : Int32)) fun x20 =>
  some (x20, w19, o1)
set_option maxHeartbeats 4000000 in
set_option maxRecDepth 100000 in
theorem lX5_passesBy_26 (d : sx_D) (κ : sx_C) (a : Nat → Nat) (s_many : Int32) (s_windMany : Int32) (s_year : Int32) (s_saidMany : Int32) (s_size : Int32) (s_readAt : Int32) (s_readPeaks : Int32) (s_readWinds : Int32) (s_readNumber : Int32) (s_undoMany : Int32) (s_keptMany : Int32) (s_kindOf : Nat → Int32) (s_guides : Nat → Int32) (v1 : Int32) (v2 : Int32) (v3 : Int32) (X : sx_X d κ cX5_passesBy 5 RX5 (sx_rm 2)) (y : (Nat → Int32)) (hE77 : ∀ (s_pinned : Nat → Int32), s_pinned = y → sx_G d κ 5 0 0 77 [some (.ref (a 0)), some (.int v1), some (.int v2), none, none] [] [oX5 a s_many s_windMany s_year s_saidMany s_size s_readAt s_readPeaks s_readWinds s_readNumber s_undoMany s_keptMany, ai d (a 1) 6 s_kindOf, ai d (a 4) 30 s_pinned, ai d (a 6) 6 s_guides]) : ∀ (n : Nat) (s : Int32 × (Nat → Int32)), sx_it n (bX5_passesBy_26 v2 v3) s = some y → (match s with | (v4, s_pinned) => sx_G d κ 5 0 0 26 [some (.ref (a 0)), some (.int v1), some (.int v2), some (.int v3), some (.int v4)] [] [oX5 a s_many s_windMany s_year s_saidMany s_size s_readAt s_readPeaks s_readWinds s_readNumber s_undoMany s_keptMany, ai d (a 1) 6 s_kindOf, ai d (a 4) 30 s_pinned, ai d (a 6) 6 s_guides]) := by
  refine sx_it_run (bX5_passesBy_26 v2 v3) (fun s => match s with | (v4, s_pinned) => sx_G d κ 5 0 0 26 [some (.ref (a 0)), some (.int v1), some (.int v2), some (.int v3), some (.int v4)] [] [oX5 a s_many s_windMany s_year s_saidMany s_size s_readAt s_readPeaks s_readWinds s_readNumber s_undoMany s_keptMany, ai d (a 1) 6 s_kindOf, ai d (a 4) 30 s_pinned, ai d (a 6) 6 s_guides]) y ?_
  rintro ⟨v4, s_pinned⟩ x hf hb he
  show sx_G d κ 5 0 0 26 [some (.ref (a 0)), some (.int v1), some (.int v2), some (.int v3), some (.int v4)] [] [oX5 a s_many s_windMany s_year s_saidMany s_size s_readAt s_readPeaks s_readWinds s_readNumber s_undoMany s_keptMany, ai d (a 1) 6 s_kindOf, ai d (a 4) 30 s_pinned, ai d (a 6) 6 s_guides]
  unfold bX5_passesBy_26 at hf
  refine g_iload (pc' := 28) X dX5_passesBy_26 rfl rfl ?_
  refine g_iconst (v := 5) (pc' := 29) X dX5_passesBy_28 rfl (by decide) ?_
  refine g_iload_n (pc' := 30) X dX5_passesBy_29 rfl rfl rfl ?_
  refine g_imul (pc' := 31) X dX5_passesBy_30 rfl ?_
  refine g_iconst (v := 5) (pc' := 32) X dX5_passesBy_31 rfl (by decide) ?_
  refine g_iadd (pc' := 33) X dX5_passesBy_32 rfl ?_
  refine g_icmp_ge (tgt := 77) (pc' := 36) X dX5_passesBy_33 (by decide) rfl hf (fun hf => ?_) (fun hf => ?_)
  · exact sx_weak [true, true, true, false, false] rfl (hE77 _ (sx_ex hf he))
  · refine g_aload_n (pc' := 37) X dX5_passesBy_36 rfl rfl rfl ?_
    refine g_get (pc' := 40) X fl_X5_19 dX5_passesBy_37 rfl 0 rfl rfl ?_
    refine g_iload (pc' := 42) X dX5_passesBy_40 rfl rfl ?_
    refine g_aload_n (pc' := 43) X dX5_passesBy_42 rfl rfl rfl ?_
    refine g_get (pc' := 46) X fl_X5_19 dX5_passesBy_43 rfl 0 rfl rfl ?_
    refine g_iload (pc' := 48) X dX5_passesBy_46 rfl rfl ?_
    refine g_iald (pc' := 49) X dX5_passesBy_48 rfl 2 rfl hf (fun x4 hf => ?_)
    refine g_iload_n (pc' := 50) X dX5_passesBy_49 rfl rfl rfl ?_
    refine g_icmp_ge (tgt := 57) (pc' := 53) X dX5_passesBy_50 (by decide) rfl hf (fun hf => ?_) (fun hf => ?_)
    · refine g_iconst (v := 0) (pc' := 58) X dX5_passesBy_57 rfl (by decide) ?_
      refine g_aload_n (pc' := 59) X dX5_passesBy_58 rfl rfl rfl ?_
      refine g_get (pc' := 62) X fl_X5_19 dX5_passesBy_59 rfl 0 rfl rfl ?_
      refine g_iload (pc' := 64) X dX5_passesBy_62 rfl rfl ?_
      refine g_iald (pc' := 65) X dX5_passesBy_64 rfl 2 rfl hf (fun x5 hf => ?_)
      refine g_iconst (v := 1) (pc' := 66) X dX5_passesBy_65 rfl (by decide) ?_
      refine g_isub (pc' := 67) X dX5_passesBy_66 rfl ?_
      refine g_callSi0 (pc' := 70) (As := [.int (0 : Int32), .int (x5 - (1 : Int32))]) (st := [.int v4, .ref (a 4)]) (w2 := fun x6 => [oX5 a s_many s_windMany s_year s_saidMany s_size s_readAt s_readPeaks s_readWinds s_readNumber s_undoMany s_keptMany, ai d (a 1) 6 s_kindOf, ai d (a 4) 30 s_pinned, ai d (a 6) 6 s_guides]) X lk_X5_145 dX5_passesBy_67 rfl rfl rfl (Nat.le_of_ble_eq_true rfl) ⟨Nat.le_of_ble_eq_true rfl, Nat.le_of_ble_eq_true rfl, Nat.le_of_ble_eq_true rfl, Nat.le_of_ble_eq_true rfl⟩ [] (by decide) rfl hf (fun l x6 h => ctX5_greater l d (0 : Int32) (x5 - (1 : Int32)) x6 h) (fun _ => rfl) (fun _ => rfl) (fun x6 hnx6 hf => ?_)
      refine g_iast (pc' := 71) (w2 := fun g7 => [oX5 a s_many s_windMany s_year s_saidMany s_size s_readAt s_readPeaks s_readWinds s_readNumber s_undoMany s_keptMany, ai d (a 1) 6 s_kindOf, ai d (a 4) 30 g7, ai d (a 6) 6 s_guides]) X dX5_passesBy_70 rfl 2 rfl hf (fun _ => rfl) (fun g7 hf => ?_)
      refine g_iinc (v := 1) (lv' := [some (.ref (a 0)), some (.int v1), some (.int v2), some (.int v3), some (.int (v4 + (1 : Int32)))]) (pc' := 74) X dX5_passesBy_71 rfl rfl (by decide) (by decide) rfl rfl ?_
      refine g_goto (tgt := 26) X dX5_passesBy_74 (by decide) ?_
      have hk := sx_bk hf hb
      exact sx_weak [true, true, true, true, true] rfl hk
    · refine g_iconst (v := 0) (pc' := 54) X dX5_passesBy_53 rfl (by decide) ?_
      refine g_goto (tgt := 70) X dX5_passesBy_54 (by decide) ?_
      refine g_iast (pc' := 71) (w2 := fun g8 => [oX5 a s_many s_windMany s_year s_saidMany s_size s_readAt s_readPeaks s_readWinds s_readNumber s_undoMany s_keptMany, ai d (a 1) 6 s_kindOf, ai d (a 4) 30 g8, ai d (a 6) 6 s_guides]) X dX5_passesBy_70 rfl 2 rfl hf (fun _ => rfl) (fun g8 hf => ?_)
      refine g_iinc (v := 1) (lv' := [some (.ref (a 0)), some (.int v1), some (.int v2), some (.int v3), some (.int (v4 + (1 : Int32)))]) (pc' := 74) X dX5_passesBy_71 rfl rfl (by decide) (by decide) rfl rfl ?_
      refine g_goto (tgt := 26) X dX5_passesBy_74 (by decide) ?_
      have hk := sx_bk hf hb
      exact sx_weak [true, true, true, true, true] rfl hk
set_option maxHeartbeats 4000000 in
set_option maxRecDepth 100000 in
theorem lX5_passesBy_82 (d : sx_D) (κ : sx_C) (a : Nat → Nat) (s_many : Int32) (s_windMany : Int32) (s_year : Int32) (s_saidMany : Int32) (s_size : Int32) (s_readAt : Int32) (s_readPeaks : Int32) (s_readWinds : Int32) (s_readNumber : Int32) (s_undoMany : Int32) (s_keptMany : Int32) (s_kindOf : Nat → Int32) (s_pinned : Nat → Int32) (s_guides : Nat → Int32) (v1 : Int32) (v2 : Int32) (X : sx_X d κ cX5_passesBy 5 RX5 (sx_rm 2)) (y : Int32) (hE108 : ∀ (v4 : Int32), v4 = y → sx_G d κ 5 0 0 108 [some (.ref (a 0)), some (.int v1), some (.int v2), none, some (.int v4)] [] [oX5 a s_many s_windMany s_year s_saidMany s_size s_readAt s_readPeaks s_readWinds s_readNumber s_undoMany s_keptMany, ai d (a 1) 6 s_kindOf, ai d (a 4) 30 s_pinned, ai d (a 6) 6 s_guides]) : ∀ (n : Nat) (v4 : Int32), sx_it n (bX5_passesBy_82 s_pinned v2) v4 = some y → sx_G d κ 5 0 0 82 [some (.ref (a 0)), some (.int v1), some (.int v2), none, some (.int v4)] [] [oX5 a s_many s_windMany s_year s_saidMany s_size s_readAt s_readPeaks s_readWinds s_readNumber s_undoMany s_keptMany, ai d (a 1) 6 s_kindOf, ai d (a 4) 30 s_pinned, ai d (a 6) 6 s_guides] := by
  refine sx_it_run (bX5_passesBy_82 s_pinned v2) (fun v4 => sx_G d κ 5 0 0 82 [some (.ref (a 0)), some (.int v1), some (.int v2), none, some (.int v4)] [] [oX5 a s_many s_windMany s_year s_saidMany s_size s_readAt s_readPeaks s_readWinds s_readNumber s_undoMany s_keptMany, ai d (a 1) 6 s_kindOf, ai d (a 4) 30 s_pinned, ai d (a 6) 6 s_guides]) y ?_
  rintro v4 x hf hb he
  show sx_G d κ 5 0 0 82 [some (.ref (a 0)), some (.int v1), some (.int v2), none, some (.int v4)] [] [oX5 a s_many s_windMany s_year s_saidMany s_size s_readAt s_readPeaks s_readWinds s_readNumber s_undoMany s_keptMany, ai d (a 1) 6 s_kindOf, ai d (a 4) 30 s_pinned, ai d (a 6) 6 s_guides]
  unfold bX5_passesBy_82 at hf
  refine g_iload (pc' := 84) X dX5_passesBy_82 rfl rfl ?_
  refine g_iconst (v := 5) (pc' := 85) X dX5_passesBy_84 rfl (by decide) ?_
  refine g_iload_n (pc' := 86) X dX5_passesBy_85 rfl rfl rfl ?_
  refine g_imul (pc' := 87) X dX5_passesBy_86 rfl ?_
  refine g_iconst (v := 5) (pc' := 88) X dX5_passesBy_87 rfl (by decide) ?_
  refine g_iadd (pc' := 89) X dX5_passesBy_88 rfl ?_
  refine g_icmp_ge (tgt := 108) (pc' := 92) X dX5_passesBy_89 (by decide) rfl hf (fun hf => ?_) (fun hf => ?_)
  · exact sx_weak [true, true, true, true, true] rfl (hE108 _ (sx_ex hf he))
  · refine g_aload_n (pc' := 93) X dX5_passesBy_92 rfl rfl rfl ?_
    refine g_get (pc' := 96) X fl_X5_19 dX5_passesBy_93 rfl 0 rfl rfl ?_
    refine g_iload (pc' := 98) X dX5_passesBy_96 rfl rfl ?_
    refine g_iald (pc' := 99) X dX5_passesBy_98 rfl 2 rfl hf (fun x12 hf => ?_)
    refine g_if_ne (tgt := 108) (pc' := 102) X dX5_passesBy_99 (by decide) rfl hf (fun hf => ?_) (fun hf => ?_)
    · exact sx_weak [true, true, true, true, true] rfl (hE108 _ (sx_ex hf he))
    · refine g_iinc (v := 1) (lv' := [some (.ref (a 0)), some (.int v1), some (.int v2), none, some (.int (v4 + (1 : Int32)))]) (pc' := 105) X dX5_passesBy_102 rfl rfl (by decide) (by decide) rfl rfl ?_
      refine g_goto (tgt := 82) X dX5_passesBy_105 (by decide) ?_
      have hk := sx_bk hf hb
      exact sx_weak [true, true, true, true, true] rfl hk
set_option maxHeartbeats 4000000 in
set_option maxRecDepth 100000 in
theorem lX5_passesBy_6 (d : sx_D) (κ : sx_C) (a : Nat → Nat) (s_many : Int32) (s_windMany : Int32) (s_year : Int32) (s_saidMany : Int32) (s_size : Int32) (s_readAt : Int32) (s_readPeaks : Int32) (s_readWinds : Int32) (s_readNumber : Int32) (s_undoMany : Int32) (s_keptMany : Int32) (s_kindOf : Nat → Int32) (s_guides : Nat → Int32) (v1 : Int32) (X : sx_X d κ cX5_passesBy 5 RX5 (sx_rm 2)) (y : (Nat → Int32)) (hE145 : ∀ (s_pinned : Nat → Int32), s_pinned = y → sx_G d κ 5 0 0 145 [some (.ref (a 0)), none, none, none, none] [] [oX5 a s_many s_windMany s_year s_saidMany s_size s_readAt s_readPeaks s_readWinds s_readNumber s_undoMany s_keptMany, ai d (a 1) 6 s_kindOf, ai d (a 4) 30 s_pinned, ai d (a 6) 6 s_guides]) : ∀ (n : Nat) (s : Int32 × (Nat → Int32)), sx_it n (bX5_passesBy_6 s_many s_kindOf v1) s = some y → (match s with | (v2, s_pinned) => sx_G d κ 5 0 0 6 [some (.ref (a 0)), some (.int v1), some (.int v2), none, none] [] [oX5 a s_many s_windMany s_year s_saidMany s_size s_readAt s_readPeaks s_readWinds s_readNumber s_undoMany s_keptMany, ai d (a 1) 6 s_kindOf, ai d (a 4) 30 s_pinned, ai d (a 6) 6 s_guides]) := by
  refine sx_it_run (bX5_passesBy_6 s_many s_kindOf v1) (fun s => match s with | (v2, s_pinned) => sx_G d κ 5 0 0 6 [some (.ref (a 0)), some (.int v1), some (.int v2), none, none] [] [oX5 a s_many s_windMany s_year s_saidMany s_size s_readAt s_readPeaks s_readWinds s_readNumber s_undoMany s_keptMany, ai d (a 1) 6 s_kindOf, ai d (a 4) 30 s_pinned, ai d (a 6) 6 s_guides]) y ?_
  rintro ⟨v2, s_pinned⟩ x hf hb he
  show sx_G d κ 5 0 0 6 [some (.ref (a 0)), some (.int v1), some (.int v2), none, none] [] [oX5 a s_many s_windMany s_year s_saidMany s_size s_readAt s_readPeaks s_readWinds s_readNumber s_undoMany s_keptMany, ai d (a 1) 6 s_kindOf, ai d (a 4) 30 s_pinned, ai d (a 6) 6 s_guides]
  unfold bX5_passesBy_6 at hf
  refine g_iload_n (pc' := 7) X dX5_passesBy_6 rfl rfl rfl ?_
  refine g_aload_n (pc' := 8) X dX5_passesBy_7 rfl rfl rfl ?_
  refine g_get (pc' := 11) X fl_X5_78 dX5_passesBy_8 rfl 0 rfl rfl ?_
  refine g_icmp_ge (tgt := 145) (pc' := 14) X dX5_passesBy_11 (by decide) rfl hf (fun hf => ?_) (fun hf => ?_)
  · exact sx_weak [true, false, false, true, true] rfl (hE145 _ (sx_ex hf he))
  · refine g_aload_n (pc' := 15) X dX5_passesBy_14 rfl rfl rfl ?_
    refine g_iload_n (pc' := 16) X dX5_passesBy_15 rfl rfl rfl ?_
    refine g_iload_n (pc' := 17) X dX5_passesBy_16 rfl rfl rfl ?_
    refine g_callVi0 (pc' := 20) (As := [.int v2, .int v1]) (b := (a 0)) (st := []) (w2 := fun x2 => [oX5 a s_many s_windMany s_year s_saidMany s_size s_readAt s_readPeaks s_readWinds s_readNumber s_undoMany s_keptMany, ai d (a 1) 6 s_kindOf, ai d (a 4) 30 s_pinned, ai d (a 6) 6 s_guides]) X lk_X5_153 dX5_passesBy_17 rfl rfl rfl (Nat.le_of_ble_eq_true rfl) ⟨Nat.le_of_ble_eq_true rfl, Nat.le_of_ble_eq_true rfl, Nat.le_of_ble_eq_true rfl, Nat.le_of_ble_eq_true rfl⟩ rfl [0, 1] (by decide) rfl hf (fun l x2 h => ctX5_forceBy l d a s_many s_windMany s_year s_saidMany s_size s_readAt s_readPeaks s_readWinds s_readNumber s_undoMany s_keptMany s_kindOf v2 v1 x2 h) (fun _ => rfl) (fun _ => rfl) (fun x2 hnx2 hf => ?_)
    refine g_istore_n (lv' := [some (.ref (a 0)), some (.int v1), some (.int v2), some (.int x2), none]) (pc' := 21) X dX5_passesBy_20 rfl rfl (by decide) rfl rfl ?_
    refine g_iconst (v := 5) (pc' := 22) X dX5_passesBy_21 rfl (by decide) ?_
    refine g_iload_n (pc' := 23) X dX5_passesBy_22 rfl rfl rfl ?_
    refine g_imul (pc' := 24) X dX5_passesBy_23 rfl ?_
    refine g_istoreN (lv' := fun x3 => [some (.ref (a 0)), some (.int v1), some (.int v2), some (.int x2), some (.int x3)]) (pc' := 26) X dX5_passesBy_24 rfl (by decide) rfl (fun _ => rfl) hf (fun x3 hf => ?_)
    obtain ⟨y9, hy9, hf⟩ := sx_bd hf
    refine sx_weak [true, true, true, true, true] rfl (lX5_passesBy_26 d κ a s_many s_windMany s_year s_saidMany s_size s_readAt s_readPeaks s_readWinds s_readNumber s_undoMany s_keptMany s_kindOf s_guides v1 v2 x2 X y9 ?_ 1000 (x3, s_pinned) hy9)
    rintro w10 rfl
    refine g_iconst (v := 5) (pc' := 78) X dX5_passesBy_77 rfl (by decide) ?_
    refine g_iload_n (pc' := 79) X dX5_passesBy_78 rfl rfl rfl ?_
    refine g_imul (pc' := 80) X dX5_passesBy_79 rfl ?_
    refine g_istoreN (lv' := fun x11 => [some (.ref (a 0)), some (.int v1), some (.int v2), none, some (.int x11)]) (pc' := 82) X dX5_passesBy_80 rfl (by decide) rfl (fun _ => rfl) hf (fun x11 hf => ?_)
    obtain ⟨y13, hy13, hf⟩ := sx_bd hf
    refine sx_weak [true, true, true, true, true] rfl (lX5_passesBy_82 d κ a s_many s_windMany s_year s_saidMany s_size s_readAt s_readPeaks s_readWinds s_readNumber s_undoMany s_keptMany s_kindOf w10 s_guides v1 v2 X y13 ?_ 1000 x11 hy13)
    rintro w14 rfl
    refine g_aload_n (pc' := 109) X dX5_passesBy_108 rfl rfl rfl ?_
    refine g_get (pc' := 112) X fl_X5_9 dX5_passesBy_109 rfl 0 rfl rfl ?_
    refine g_iload_n (pc' := 113) X dX5_passesBy_112 rfl rfl rfl ?_
    refine g_iald (pc' := 114) X dX5_passesBy_113 rfl 1 rfl hf (fun x15 hf => ?_)
    refine g_iconst (v := 3) (pc' := 115) X dX5_passesBy_114 rfl (by decide) ?_
    refine g_icmp_ne (tgt := 139) (pc' := 118) X dX5_passesBy_115 (by decide) rfl hf (fun hf => ?_) (fun hf => ?_)
    · refine g_iinc (v := 1) (lv' := [some (.ref (a 0)), some (.int v1), some (.int (v2 + (1 : Int32))), none, some (.int w14)]) (pc' := 142) X dX5_passesBy_139 rfl rfl (by decide) (by decide) rfl rfl ?_
      refine g_goto (tgt := 6) X dX5_passesBy_142 (by decide) ?_
      have hk := sx_bk hf hb
      exact sx_weak [true, true, true, true, false] rfl hk
    · refine g_iload (pc' := 120) X dX5_passesBy_118 rfl rfl ?_
      refine g_iconst (v := 5) (pc' := 121) X dX5_passesBy_120 rfl (by decide) ?_
      refine g_iload_n (pc' := 122) X dX5_passesBy_121 rfl rfl rfl ?_
      refine g_imul (pc' := 123) X dX5_passesBy_122 rfl ?_
      refine g_iconst (v := 5) (pc' := 124) X dX5_passesBy_123 rfl (by decide) ?_
      refine g_iadd (pc' := 125) X dX5_passesBy_124 rfl ?_
      refine g_icmp_ge (tgt := 139) (pc' := 128) X dX5_passesBy_125 (by decide) rfl hf (fun hf => ?_) (fun hf => ?_)
      · refine g_iinc (v := 1) (lv' := [some (.ref (a 0)), some (.int v1), some (.int (v2 + (1 : Int32))), none, some (.int w14)]) (pc' := 142) X dX5_passesBy_139 rfl rfl (by decide) (by decide) rfl rfl ?_
        refine g_goto (tgt := 6) X dX5_passesBy_142 (by decide) ?_
        have hk := sx_bk hf hb
        exact sx_weak [true, true, true, true, false] rfl hk
      · refine g_aload_n (pc' := 129) X dX5_passesBy_128 rfl rfl rfl ?_
        refine g_get (pc' := 132) X fl_X5_19 dX5_passesBy_129 rfl 0 rfl rfl ?_
        refine g_iload (pc' := 134) X dX5_passesBy_132 rfl rfl ?_
        refine g_dup2 (pc' := 135) X dX5_passesBy_134 rfl rfl rfl ?_
        refine g_iald (pc' := 136) X dX5_passesBy_135 rfl 2 rfl hf (fun x16 hf => ?_)
        refine g_iconst (v := 1) (pc' := 137) X dX5_passesBy_136 rfl (by decide) ?_
        refine g_isub (pc' := 138) X dX5_passesBy_137 rfl ?_
        refine g_iast (pc' := 139) (w2 := fun g17 => [oX5 a s_many s_windMany s_year s_saidMany s_size s_readAt s_readPeaks s_readWinds s_readNumber s_undoMany s_keptMany, ai d (a 1) 6 s_kindOf, ai d (a 4) 30 g17, ai d (a 6) 6 s_guides]) X dX5_passesBy_138 rfl 2 rfl hf (fun _ => rfl) (fun g17 hf => ?_)
        refine g_iinc (v := 1) (lv' := [some (.ref (a 0)), some (.int v1), some (.int (v2 + (1 : Int32))), none, some (.int w14)]) (pc' := 142) X dX5_passesBy_139 rfl rfl (by decide) (by decide) rfl rfl ?_
        refine g_goto (tgt := 6) X dX5_passesBy_142 (by decide) ?_
        have hk := sx_bk hf hb
        exact sx_weak [true, true, true, true, false] rfl hk
set_option maxHeartbeats 4000000 in
set_option maxRecDepth 100000 in
theorem ctX5_passesBy (l : Launch) (d : sx_D) (a : Nat → Nat) (s_many : Int32) (s_windMany : Int32) (s_year : Int32) (s_saidMany : Int32) (s_size : Int32) (s_readAt : Int32) (s_readPeaks : Int32) (s_readWinds : Int32) (s_readNumber : Int32) (s_undoMany : Int32) (s_keptMany : Int32) (s_kindOf : Nat → Int32) (s_pinned : Nat → Int32) (s_guides : Nat → Int32) (v1 : Int32) (ro1 : Int32) (ro2 : Nat → Int32) (ro3 : Nat → Int32) (hf : fX5_passesBy s_many s_year s_kindOf s_pinned s_guides v1 = some (ro1, ro2, ro3)) : sx_V l d yX5_passesBy cX5_passesBy 5 2 [.ref (a 0), .int v1] [oX5 a s_many s_windMany s_year s_saidMany s_size s_readAt s_readPeaks s_readWinds s_readNumber s_undoMany s_keptMany, ai d (a 1) 6 s_kindOf, ai d (a 4) 30 s_pinned, ai d (a 6) 6 s_guides] [oX5 a s_many s_windMany ro1 s_saidMany s_size s_readAt s_readPeaks s_readWinds s_readNumber s_undoMany s_keptMany, ai d (a 1) 6 s_kindOf, ai d (a 4) 30 ro2, ai d (a 6) 6 ro3] := by
  refine sx_V.intro (lv0 := [some (.ref (a 0)), some (.int v1), none, none, none]) (by decide +kernel) (Nat.le_of_ble_eq_true rfl) rfl ?_
  intro κ X hR
  have X : sx_X d κ cX5_passesBy 5 RX5 (sx_rm 2) := X
  unfold fX5_passesBy at hf
  refine g_aload_n (pc' := 1) X dX5_passesBy_0 rfl rfl rfl ?_
  refine g_callVv1 (pc' := 4) (As := []) (b := (a 0)) (st := []) (w2 := fun o1 => [oX5 a s_many s_windMany s_year s_saidMany s_size s_readAt s_readPeaks s_readWinds s_readNumber s_undoMany s_keptMany, ai d (a 1) 6 s_kindOf, ai d (a 4) 30 s_pinned, ai d (a 6) 6 o1]) X lk_X5_75 dX5_passesBy_1 rfl rfl rfl (Nat.le_of_ble_eq_true rfl) ⟨Nat.le_of_ble_eq_true rfl, Nat.le_of_ble_eq_true rfl, Nat.le_of_ble_eq_true rfl, Nat.le_of_ble_eq_true rfl⟩ rfl [0, 2, 3] (by decide) rfl hf (fun l o1 h => ctX5_setGuides l d a s_many s_windMany s_year s_saidMany s_size s_readAt s_readPeaks s_readWinds s_readNumber s_undoMany s_keptMany s_pinned s_guides o1 h) (fun _ => rfl) (fun _ => rfl) (fun o1 hf => ?_)
  refine g_iconst (v := 0) (pc' := 5) X dX5_passesBy_4 rfl (by decide) ?_
  refine g_istore_n (lv' := [some (.ref (a 0)), some (.int v1), some (.int (0 : Int32)), none, none]) (pc' := 6) X dX5_passesBy_5 rfl rfl (by decide) rfl rfl ?_
  obtain ⟨y18, hy18, hf⟩ := sx_bd hf
  refine sx_weak [true, true, true, true, true] rfl (lX5_passesBy_6 d κ a s_many s_windMany s_year s_saidMany s_size s_readAt s_readPeaks s_readWinds s_readNumber s_undoMany s_keptMany s_kindOf o1 v1 X y18 ?_ 1000 ((0 : Int32), s_pinned) hy18)
  rintro w19 rfl
  refine g_aload_n (pc' := 146) X dX5_passesBy_145 rfl rfl rfl ?_
  refine g_dup (pc' := 147) X dX5_passesBy_146 rfl rfl ?_
  refine g_get (pc' := 150) X fl_X5_133 dX5_passesBy_147 rfl 0 rfl rfl ?_
  refine g_iconst (v := 1) (pc' := 151) X dX5_passesBy_150 rfl (by decide) ?_
  refine g_iadd (pc' := 152) X dX5_passesBy_151 rfl ?_
  refine g_putN (pc' := 155) (w2 := fun x20 => [oX5 a s_many s_windMany x20 s_saidMany s_size s_readAt s_readPeaks s_readWinds s_readNumber s_undoMany s_keptMany, ai d (a 1) 6 s_kindOf, ai d (a 4) 30 w19, ai d (a 6) 6 o1]) X fl_X5_133 fw_X5 rfl dX5_passesBy_152 rfl 0 rfl (fun _ => rfl) (fun _ => rfl) (Nat.le_of_ble_eq_true rfl) (fun _ => rfl) hf (fun x20 hf => ?_)
  cases hf
  exact hR _ _ dX5_passesBy_155
-- X5_goesOn
def bX5_goesOn_2 (s_many : Int32) (s_windMany : Int32) (s_kindOf : Nat → Int32) (s_winds : Nat → Int32) (v1 : Int32) : (Int32 × Int32 × (Nat → Int32) × (Nat → Int32)) → Option ((Int32 × Int32 × (Nat → Int32) × (Nat → Int32)) ⊕ (Int32 × (Nat → Int32) × (Nat → Int32))) := fun (v2, s_year, s_pinned, s_guides) =>
  if v1 ≤ v2 then
    some (.inr (s_year, s_pinned, s_guides))
  else
    (fX5_windOf s_windMany s_winds s_year).bind fun x1 =>
    (fX5_passesBy s_many s_year s_kindOf s_pinned s_guides x1).bind fun (o2, o3, o4) =>
    some (.inl (v2 + (1 : Int32), o2, o3, o4))
def fX5_goesOn (s_many : Int32) (s_windMany : Int32) (s_year : Int32) (s_kindOf : Nat → Int32) (s_winds : Nat → Int32) (s_pinned : Nat → Int32) (s_guides : Nat → Int32) (v1 : Int32) : Option (Int32 × (Nat → Int32) × (Nat → Int32)) :=
  (sx_it 1000 (bX5_goesOn_2 s_many s_windMany s_kindOf s_winds v1) ((0 : Int32), s_year, s_pinned, s_guides)).bind fun (w6, w7, w8) =>
  some (w6, w7, w8)
set_option maxHeartbeats 4000000 in
set_option maxRecDepth 100000 in
theorem lX5_goesOn_2 (d : sx_D) (κ : sx_C) (a : Nat → Nat) (s_many : Int32) (s_windMany : Int32) (s_saidMany : Int32) (s_size : Int32) (s_readAt : Int32) (s_readPeaks : Int32) (s_readWinds : Int32) (s_readNumber : Int32) (s_undoMany : Int32) (s_keptMany : Int32) (s_kindOf : Nat → Int32) (s_winds : Nat → Int32) (v1 : Int32) (X : sx_X d κ cX5_goesOn 3 RX5 (sx_rm 3)) (y : Int32 × (Nat → Int32) × (Nat → Int32)) (hE25 : ∀ (s_year : Int32) (s_pinned : Nat → Int32) (s_guides : Nat → Int32), (s_year, s_pinned, s_guides) = y → sx_G d κ 3 0 0 25 [none, none, none] [] [oX5 a s_many s_windMany s_year s_saidMany s_size s_readAt s_readPeaks s_readWinds s_readNumber s_undoMany s_keptMany, ai d (a 1) 6 s_kindOf, ai d (a 3) 12 s_winds, ai d (a 4) 30 s_pinned, ai d (a 6) 6 s_guides]) : ∀ (n : Nat) (s : Int32 × Int32 × (Nat → Int32) × (Nat → Int32)), sx_it n (bX5_goesOn_2 s_many s_windMany s_kindOf s_winds v1) s = some y → (match s with | (v2, s_year, s_pinned, s_guides) => sx_G d κ 3 0 0 2 [some (.ref (a 0)), some (.int v1), some (.int v2)] [] [oX5 a s_many s_windMany s_year s_saidMany s_size s_readAt s_readPeaks s_readWinds s_readNumber s_undoMany s_keptMany, ai d (a 1) 6 s_kindOf, ai d (a 3) 12 s_winds, ai d (a 4) 30 s_pinned, ai d (a 6) 6 s_guides]) := by
  refine sx_it_run (bX5_goesOn_2 s_many s_windMany s_kindOf s_winds v1) (fun s => match s with | (v2, s_year, s_pinned, s_guides) => sx_G d κ 3 0 0 2 [some (.ref (a 0)), some (.int v1), some (.int v2)] [] [oX5 a s_many s_windMany s_year s_saidMany s_size s_readAt s_readPeaks s_readWinds s_readNumber s_undoMany s_keptMany, ai d (a 1) 6 s_kindOf, ai d (a 3) 12 s_winds, ai d (a 4) 30 s_pinned, ai d (a 6) 6 s_guides]) y ?_
  rintro ⟨v2, s_year, s_pinned, s_guides⟩ x hf hb he
  show sx_G d κ 3 0 0 2 [some (.ref (a 0)), some (.int v1), some (.int v2)] [] [oX5 a s_many s_windMany s_year s_saidMany s_size s_readAt s_readPeaks s_readWinds s_readNumber s_undoMany s_keptMany, ai d (a 1) 6 s_kindOf, ai d (a 3) 12 s_winds, ai d (a 4) 30 s_pinned, ai d (a 6) 6 s_guides]
  unfold bX5_goesOn_2 at hf
  refine g_iload_n (pc' := 3) X dX5_goesOn_2 rfl rfl rfl ?_
  refine g_iload_n (pc' := 4) X dX5_goesOn_3 rfl rfl rfl ?_
  refine g_icmp_ge (tgt := 25) (pc' := 7) X dX5_goesOn_4 (by decide) rfl hf (fun hf => ?_) (fun hf => ?_)
  · exact sx_weak [false, false, false] rfl (hE25 _ _ _ (sx_ex hf he))
  · refine g_aload_n (pc' := 8) X dX5_goesOn_7 rfl rfl rfl ?_
    refine g_aload_n (pc' := 9) X dX5_goesOn_8 rfl rfl rfl ?_
    refine g_aload_n (pc' := 10) X dX5_goesOn_9 rfl rfl rfl ?_
    refine g_get (pc' := 13) X fl_X5_133 dX5_goesOn_10 rfl 0 rfl rfl ?_
    refine g_callVi0 (pc' := 16) (As := [.int s_year]) (b := (a 0)) (st := [.ref (a 0)]) (w2 := fun x1 => [oX5 a s_many s_windMany s_year s_saidMany s_size s_readAt s_readPeaks s_readWinds s_readNumber s_undoMany s_keptMany, ai d (a 1) 6 s_kindOf, ai d (a 3) 12 s_winds, ai d (a 4) 30 s_pinned, ai d (a 6) 6 s_guides]) X lk_X5_156 dX5_goesOn_13 rfl rfl rfl (Nat.le_of_ble_eq_true rfl) ⟨Nat.le_of_ble_eq_true rfl, Nat.le_of_ble_eq_true rfl, Nat.le_of_ble_eq_true rfl, Nat.le_of_ble_eq_true rfl⟩ rfl [0, 2] (by decide) rfl hf (fun l x1 h => ctX5_windOf l d a s_many s_windMany s_year s_saidMany s_size s_readAt s_readPeaks s_readWinds s_readNumber s_undoMany s_keptMany s_winds s_year x1 h) (fun _ => rfl) (fun _ => rfl) (fun x1 hnx1 hf => ?_)
    refine g_callVv3 (pc' := 19) (As := [.int x1]) (b := (a 0)) (st := []) (w2 := fun o2 o3 o4 => [oX5 a s_many s_windMany o2 s_saidMany s_size s_readAt s_readPeaks s_readWinds s_readNumber s_undoMany s_keptMany, ai d (a 1) 6 s_kindOf, ai d (a 3) 12 s_winds, ai d (a 4) 30 o3, ai d (a 6) 6 o4]) X lk_X5_159 dX5_goesOn_16 rfl rfl rfl (Nat.le_of_ble_eq_true rfl) ⟨Nat.le_of_ble_eq_true rfl, Nat.le_of_ble_eq_true rfl, Nat.le_of_ble_eq_true rfl, Nat.le_of_ble_eq_true rfl⟩ rfl [0, 1, 3, 4] (by decide) rfl hf (fun l o2 o3 o4 h => ctX5_passesBy l d a s_many s_windMany s_year s_saidMany s_size s_readAt s_readPeaks s_readWinds s_readNumber s_undoMany s_keptMany s_kindOf s_pinned s_guides x1 o2 o3 o4 h) (fun _ _ _ => rfl) (fun _ _ _ => rfl) (fun o2 o3 o4 hf => ?_)
    refine g_iinc (v := 1) (lv' := [some (.ref (a 0)), some (.int v1), some (.int (v2 + (1 : Int32)))]) (pc' := 22) X dX5_goesOn_19 rfl rfl (by decide) (by decide) rfl rfl ?_
    refine g_goto (tgt := 2) X dX5_goesOn_22 (by decide) ?_
    have hk := sx_bk hf hb
    exact sx_weak [true, true, true] rfl hk
set_option maxHeartbeats 4000000 in
set_option maxRecDepth 100000 in
theorem ctX5_goesOn (l : Launch) (d : sx_D) (a : Nat → Nat) (s_many : Int32) (s_windMany : Int32) (s_year : Int32) (s_saidMany : Int32) (s_size : Int32) (s_readAt : Int32) (s_readPeaks : Int32) (s_readWinds : Int32) (s_readNumber : Int32) (s_undoMany : Int32) (s_keptMany : Int32) (s_kindOf : Nat → Int32) (s_winds : Nat → Int32) (s_pinned : Nat → Int32) (s_guides : Nat → Int32) (v1 : Int32) (ro1 : Int32) (ro2 : Nat → Int32) (ro3 : Nat → Int32) (hf : fX5_goesOn s_many s_windMany s_year s_kindOf s_winds s_pinned s_guides v1 = some (ro1, ro2, ro3)) : sx_V l d yX5_goesOn cX5_goesOn 3 3 [.ref (a 0), .int v1] [oX5 a s_many s_windMany s_year s_saidMany s_size s_readAt s_readPeaks s_readWinds s_readNumber s_undoMany s_keptMany, ai d (a 1) 6 s_kindOf, ai d (a 3) 12 s_winds, ai d (a 4) 30 s_pinned, ai d (a 6) 6 s_guides] [oX5 a s_many s_windMany ro1 s_saidMany s_size s_readAt s_readPeaks s_readWinds s_readNumber s_undoMany s_keptMany, ai d (a 1) 6 s_kindOf, ai d (a 3) 12 s_winds, ai d (a 4) 30 ro2, ai d (a 6) 6 ro3] := by
  refine sx_V.intro (lv0 := [some (.ref (a 0)), some (.int v1), none]) (by decide +kernel) (Nat.le_of_ble_eq_true rfl) rfl ?_
  intro κ X hR
  have X : sx_X d κ cX5_goesOn 3 RX5 (sx_rm 3) := X
  unfold fX5_goesOn at hf
  refine g_iconst (v := 0) (pc' := 1) X dX5_goesOn_0 rfl (by decide) ?_
  refine g_istore_n (lv' := [some (.ref (a 0)), some (.int v1), some (.int (0 : Int32))]) (pc' := 2) X dX5_goesOn_1 rfl rfl (by decide) rfl rfl ?_
  obtain ⟨y5, hy5, hf⟩ := sx_bd hf
  refine sx_weak [true, true, true] rfl (lX5_goesOn_2 d κ a s_many s_windMany s_saidMany s_size s_readAt s_readPeaks s_readWinds s_readNumber s_undoMany s_keptMany s_kindOf s_winds v1 X y5 ?_ 1000 ((0 : Int32), s_year, s_pinned, s_guides) hy5)
  rintro w6 w7 w8 rfl
  cases hf
  exact hR _ _ dX5_goesOn_25
-- X5_peak
def fX5_peak (s_many : Int32) (s_windMany : Int32) (s_year : Int32) (s_kindOf : Nat → Int32) (s_highs : Nat → Int32) (s_winds : Nat → Int32) (s_pinned : Nat → Int32) (s_guides : Nat → Int32) (v1 : Int32) (v2 : Int32) : Option (Int32) :=
  (fX5_isPeak s_many v1).bind fun x1 =>
  if x1 = 0 then
    some (-1 : Int32)
  else
    (fX5_in v2 (0 : Int32) (5 : Int32)).bind fun x2 =>
    if x2 = 0 then
      some (-1 : Int32)
    else
      if v2 = (0 : Int32) then
        sx_rd s_kindOf 6 v1 fun x3 =>
        some x3
      else
      if v2 = (1 : Int32) then
        sx_rd s_highs 6 v1 fun x4 =>
        some x4
      else
      if v2 = (2 : Int32) then
        (fX5_looks s_pinned v1).bind fun x5 =>
        some x5
      else
      if v2 = (3 : Int32) then
        sx_rd s_guides 6 v1 fun x6 =>
        some x6
      else
      if v2 = (4 : Int32) then
        (fX5_windOf s_windMany s_winds s_year).bind fun x7 =>
        (fX5_forceBy s_kindOf v1 x7).bind fun x8 =>
        some x8
      else
        (fX5_light s_many s_highs s_pinned v1).bind fun x9 =>
        some x9
set_option maxHeartbeats 4000000 in
set_option maxRecDepth 100000 in
theorem ctX5_peak (l : Launch) (d : sx_D) (a : Nat → Nat) (s_many : Int32) (s_windMany : Int32) (s_year : Int32) (s_saidMany : Int32) (s_size : Int32) (s_readAt : Int32) (s_readPeaks : Int32) (s_readWinds : Int32) (s_readNumber : Int32) (s_undoMany : Int32) (s_keptMany : Int32) (s_kindOf : Nat → Int32) (s_highs : Nat → Int32) (s_winds : Nat → Int32) (s_pinned : Nat → Int32) (s_guides : Nat → Int32) (v1 : Int32) (v2 : Int32) (r : Int32) (hf : fX5_peak s_many s_windMany s_year s_kindOf s_highs s_winds s_pinned s_guides v1 v2 = some r) : sx_I l d yX5_peak cX5_peak 3 .int 2 [.ref (a 0), .int v1, .int v2] [oX5 a s_many s_windMany s_year s_saidMany s_size s_readAt s_readPeaks s_readWinds s_readNumber s_undoMany s_keptMany, ai d (a 1) 6 s_kindOf, ai d (a 2) 6 s_highs, ai d (a 3) 12 s_winds, ai d (a 4) 30 s_pinned, ai d (a 6) 6 s_guides] [oX5 a s_many s_windMany s_year s_saidMany s_size s_readAt s_readPeaks s_readWinds s_readNumber s_undoMany s_keptMany, ai d (a 1) 6 s_kindOf, ai d (a 2) 6 s_highs, ai d (a 3) 12 s_winds, ai d (a 4) 30 s_pinned, ai d (a 6) 6 s_guides] r := by
  refine sx_I.intro (lv0 := [some (.ref (a 0)), some (.int v1), some (.int v2)]) (by decide +kernel) (Nat.le_of_ble_eq_true rfl) rfl ?_
  intro κ X hR
  have X : sx_X d κ cX5_peak 3 RX5 (sx_rm 2) := X
  unfold fX5_peak at hf
  refine g_aload_n (pc' := 1) X dX5_peak_0 rfl rfl rfl ?_
  refine g_iload_n (pc' := 2) X dX5_peak_1 rfl rfl rfl ?_
  refine g_callVi0 (pc' := 5) (As := [.int v1]) (b := (a 0)) (st := []) (w2 := fun x1 => [oX5 a s_many s_windMany s_year s_saidMany s_size s_readAt s_readPeaks s_readWinds s_readNumber s_undoMany s_keptMany, ai d (a 1) 6 s_kindOf, ai d (a 2) 6 s_highs, ai d (a 3) 12 s_winds, ai d (a 4) 30 s_pinned, ai d (a 6) 6 s_guides]) X lk_X5_163 dX5_peak_2 rfl rfl rfl (Nat.le_of_ble_eq_true rfl) ⟨Nat.le_of_ble_eq_true rfl, Nat.le_of_ble_eq_true rfl, Nat.le_of_ble_eq_true rfl, Nat.le_of_ble_eq_true rfl⟩ rfl [0] (by decide) rfl hf (fun l x1 h => ctX5_isPeak l d a s_many s_windMany s_year s_saidMany s_size s_readAt s_readPeaks s_readWinds s_readNumber s_undoMany s_keptMany v1 x1 h) (fun _ => rfl) (fun _ => rfl) (fun x1 hnx1 hf => ?_)
  refine g_if_eq (tgt := 17) (pc' := 8) X dX5_peak_5 (by decide) rfl hf (fun hf => ?_) (fun hf => ?_)
  · refine g_iconst (v := -1) (pc' := 18) X dX5_peak_17 rfl (by decide) ?_
    cases hf
    exact hR _ _ dX5_peak_18 rfl
  · refine g_iload_n (pc' := 9) X dX5_peak_8 rfl rfl rfl ?_
    refine g_iconst (v := 0) (pc' := 10) X dX5_peak_9 rfl (by decide) ?_
    refine g_iconst (v := 5) (pc' := 11) X dX5_peak_10 rfl (by decide) ?_
    refine g_callSi0 (pc' := 14) (As := [.int v2, .int (0 : Int32), .int (5 : Int32)]) (st := []) (w2 := fun x2 => [oX5 a s_many s_windMany s_year s_saidMany s_size s_readAt s_readPeaks s_readWinds s_readNumber s_undoMany s_keptMany, ai d (a 1) 6 s_kindOf, ai d (a 2) 6 s_highs, ai d (a 3) 12 s_winds, ai d (a 4) 30 s_pinned, ai d (a 6) 6 s_guides]) X lk_X5_81 dX5_peak_11 rfl rfl rfl (Nat.le_of_ble_eq_true rfl) ⟨Nat.le_of_ble_eq_true rfl, Nat.le_of_ble_eq_true rfl, Nat.le_of_ble_eq_true rfl, Nat.le_of_ble_eq_true rfl⟩ [] (by decide) rfl hf (fun l x2 h => ctX5_in l d v2 (0 : Int32) (5 : Int32) x2 h) (fun _ => rfl) (fun _ => rfl) (fun x2 hnx2 hf => ?_)
    refine g_if_ne (tgt := 19) (pc' := 17) X dX5_peak_14 (by decide) rfl hf (fun hf => ?_) (fun hf => ?_)
    · refine g_iload_n (pc' := 20) X dX5_peak_19 rfl rfl rfl ?_
      by_cases h0 : v2 = (0 : Int32)
      · rw [if_pos h0] at hf
        refine g_tabIn (tgt := 56) X dX5_peak_20 (by rw [h0]; decide) (by rw [h0]; decide) (by rw [h0]; rfl) (by decide) ?_
        refine g_aload_n (pc' := 57) X dX5_peak_56 rfl rfl rfl ?_
        refine g_get (pc' := 60) X fl_X5_9 dX5_peak_57 rfl 0 rfl rfl ?_
        refine g_iload_n (pc' := 61) X dX5_peak_60 rfl rfl rfl ?_
        refine g_iald (pc' := 62) X dX5_peak_61 rfl 1 rfl hf (fun x3 hf => ?_)
        cases hf
        exact hR _ _ dX5_peak_62 rfl
      rw [if_neg h0] at hf
      by_cases h1 : v2 = (1 : Int32)
      · rw [if_pos h1] at hf
        refine g_tabIn (tgt := 63) X dX5_peak_20 (by rw [h1]; decide) (by rw [h1]; decide) (by rw [h1]; rfl) (by decide) ?_
        refine g_aload_n (pc' := 64) X dX5_peak_63 rfl rfl rfl ?_
        refine g_get (pc' := 67) X fl_X5_13 dX5_peak_64 rfl 0 rfl rfl ?_
        refine g_iload_n (pc' := 68) X dX5_peak_67 rfl rfl rfl ?_
        refine g_iald (pc' := 69) X dX5_peak_68 rfl 2 rfl hf (fun x4 hf => ?_)
        cases hf
        exact hR _ _ dX5_peak_69 rfl
      rw [if_neg h1] at hf
      by_cases h2 : v2 = (2 : Int32)
      · rw [if_pos h2] at hf
        refine g_tabIn (tgt := 70) X dX5_peak_20 (by rw [h2]; decide) (by rw [h2]; decide) (by rw [h2]; rfl) (by decide) ?_
        refine g_aload_n (pc' := 71) X dX5_peak_70 rfl rfl rfl ?_
        refine g_iload_n (pc' := 72) X dX5_peak_71 rfl rfl rfl ?_
        refine g_callVi0 (pc' := 75) (As := [.int v1]) (b := (a 0)) (st := []) (w2 := fun x5 => [oX5 a s_many s_windMany s_year s_saidMany s_size s_readAt s_readPeaks s_readWinds s_readNumber s_undoMany s_keptMany, ai d (a 1) 6 s_kindOf, ai d (a 2) 6 s_highs, ai d (a 3) 12 s_winds, ai d (a 4) 30 s_pinned, ai d (a 6) 6 s_guides]) X lk_X5_85 dX5_peak_72 rfl rfl rfl (Nat.le_of_ble_eq_true rfl) ⟨Nat.le_of_ble_eq_true rfl, Nat.le_of_ble_eq_true rfl, Nat.le_of_ble_eq_true rfl, Nat.le_of_ble_eq_true rfl⟩ rfl [0, 4] (by decide) rfl hf (fun l x5 h => ctX5_looks l d a s_many s_windMany s_year s_saidMany s_size s_readAt s_readPeaks s_readWinds s_readNumber s_undoMany s_keptMany s_pinned v1 x5 h) (fun _ => rfl) (fun _ => rfl) (fun x5 hnx5 hf => ?_)
        cases hf
        exact hR _ _ dX5_peak_75 rfl
      rw [if_neg h2] at hf
      by_cases h3 : v2 = (3 : Int32)
      · rw [if_pos h3] at hf
        refine g_tabIn (tgt := 76) X dX5_peak_20 (by rw [h3]; decide) (by rw [h3]; decide) (by rw [h3]; rfl) (by decide) ?_
        refine g_aload_n (pc' := 77) X dX5_peak_76 rfl rfl rfl ?_
        refine g_get (pc' := 80) X fl_X5_25 dX5_peak_77 rfl 0 rfl rfl ?_
        refine g_iload_n (pc' := 81) X dX5_peak_80 rfl rfl rfl ?_
        refine g_iald (pc' := 82) X dX5_peak_81 rfl 5 rfl hf (fun x6 hf => ?_)
        cases hf
        exact hR _ _ dX5_peak_82 rfl
      rw [if_neg h3] at hf
      by_cases h4 : v2 = (4 : Int32)
      · rw [if_pos h4] at hf
        refine g_tabIn (tgt := 83) X dX5_peak_20 (by rw [h4]; decide) (by rw [h4]; decide) (by rw [h4]; rfl) (by decide) ?_
        refine g_aload_n (pc' := 84) X dX5_peak_83 rfl rfl rfl ?_
        refine g_iload_n (pc' := 85) X dX5_peak_84 rfl rfl rfl ?_
        refine g_aload_n (pc' := 86) X dX5_peak_85 rfl rfl rfl ?_
        refine g_aload_n (pc' := 87) X dX5_peak_86 rfl rfl rfl ?_
        refine g_get (pc' := 90) X fl_X5_133 dX5_peak_87 rfl 0 rfl rfl ?_
        refine g_callVi0 (pc' := 93) (As := [.int s_year]) (b := (a 0)) (st := [.int v1, .ref (a 0)]) (w2 := fun x7 => [oX5 a s_many s_windMany s_year s_saidMany s_size s_readAt s_readPeaks s_readWinds s_readNumber s_undoMany s_keptMany, ai d (a 1) 6 s_kindOf, ai d (a 2) 6 s_highs, ai d (a 3) 12 s_winds, ai d (a 4) 30 s_pinned, ai d (a 6) 6 s_guides]) X lk_X5_156 dX5_peak_90 rfl rfl rfl (Nat.le_of_ble_eq_true rfl) ⟨Nat.le_of_ble_eq_true rfl, Nat.le_of_ble_eq_true rfl, Nat.le_of_ble_eq_true rfl, Nat.le_of_ble_eq_true rfl⟩ rfl [0, 3] (by decide) rfl hf (fun l x7 h => ctX5_windOf l d a s_many s_windMany s_year s_saidMany s_size s_readAt s_readPeaks s_readWinds s_readNumber s_undoMany s_keptMany s_winds s_year x7 h) (fun _ => rfl) (fun _ => rfl) (fun x7 hnx7 hf => ?_)
        refine g_callVi0 (pc' := 96) (As := [.int v1, .int x7]) (b := (a 0)) (st := []) (w2 := fun x8 => [oX5 a s_many s_windMany s_year s_saidMany s_size s_readAt s_readPeaks s_readWinds s_readNumber s_undoMany s_keptMany, ai d (a 1) 6 s_kindOf, ai d (a 2) 6 s_highs, ai d (a 3) 12 s_winds, ai d (a 4) 30 s_pinned, ai d (a 6) 6 s_guides]) X lk_X5_153 dX5_peak_93 rfl rfl rfl (Nat.le_of_ble_eq_true rfl) ⟨Nat.le_of_ble_eq_true rfl, Nat.le_of_ble_eq_true rfl, Nat.le_of_ble_eq_true rfl, Nat.le_of_ble_eq_true rfl⟩ rfl [0, 1] (by decide) rfl hf (fun l x8 h => ctX5_forceBy l d a s_many s_windMany s_year s_saidMany s_size s_readAt s_readPeaks s_readWinds s_readNumber s_undoMany s_keptMany s_kindOf v1 x7 x8 h) (fun _ => rfl) (fun _ => rfl) (fun x8 hnx8 hf => ?_)
        cases hf
        exact hR _ _ dX5_peak_96 rfl
      rw [if_neg h4] at hf
      have k0 := lv_neT h0 (a := 0) (by decide)
      have k1 := lv_neT h1 (a := 1) (by decide)
      have k2 := lv_neT h2 (a := 2) (by decide)
      have k3 := lv_neT h3 (a := 3) (by decide)
      have k4 := lv_neT h4 (a := 4) (by decide)
      refine g_tabOut (tgt := 97) X dX5_peak_20 (by omega) (by decide) ?_
      refine g_aload_n (pc' := 98) X dX5_peak_97 rfl rfl rfl ?_
      refine g_iload_n (pc' := 99) X dX5_peak_98 rfl rfl rfl ?_
      refine g_callVi0 (pc' := 102) (As := [.int v1]) (b := (a 0)) (st := []) (w2 := fun x9 => [oX5 a s_many s_windMany s_year s_saidMany s_size s_readAt s_readPeaks s_readWinds s_readNumber s_undoMany s_keptMany, ai d (a 1) 6 s_kindOf, ai d (a 2) 6 s_highs, ai d (a 3) 12 s_winds, ai d (a 4) 30 s_pinned, ai d (a 6) 6 s_guides]) X lk_X5_167 dX5_peak_99 rfl rfl rfl (Nat.le_of_ble_eq_true rfl) ⟨Nat.le_of_ble_eq_true rfl, Nat.le_of_ble_eq_true rfl, Nat.le_of_ble_eq_true rfl, Nat.le_of_ble_eq_true rfl⟩ rfl [0, 2, 4] (by decide) rfl hf (fun l x9 h => ctX5_light l d a s_many s_windMany s_year s_saidMany s_size s_readAt s_readPeaks s_readWinds s_readNumber s_undoMany s_keptMany s_highs s_pinned v1 x9 h) (fun _ => rfl) (fun _ => rfl) (fun x9 hnx9 hf => ?_)
      cases hf
      exact hR _ _ dX5_peak_102 rfl
    · refine g_iconst (v := -1) (pc' := 18) X dX5_peak_17 rfl (by decide) ?_
      cases hf
      exact hR _ _ dX5_peak_18 rfl
-- X5_pins
def fX5_pins (s_many : Int32) (s_pinned : Nat → Int32) (v1 : Int32) (v2 : Int32) : Option (Int32) :=
  (fX5_isPeak s_many v1).bind fun x1 =>
  if x1 = 0 then
    some (-1 : Int32)
  else
    (fX5_isTrimming v2).bind fun x2 =>
    if x2 = 0 then
      some (-1 : Int32)
    else
      sx_rd s_pinned 30 (((5 : Int32) * v1) + v2) fun x3 =>
      some x3
set_option maxHeartbeats 4000000 in
set_option maxRecDepth 100000 in
theorem ctX5_pins (l : Launch) (d : sx_D) (a : Nat → Nat) (s_many : Int32) (s_windMany : Int32) (s_year : Int32) (s_saidMany : Int32) (s_size : Int32) (s_readAt : Int32) (s_readPeaks : Int32) (s_readWinds : Int32) (s_readNumber : Int32) (s_undoMany : Int32) (s_keptMany : Int32) (s_pinned : Nat → Int32) (v1 : Int32) (v2 : Int32) (r : Int32) (hf : fX5_pins s_many s_pinned v1 v2 = some r) : sx_I l d yX5_pins cX5_pins 3 .int 2 [.ref (a 0), .int v1, .int v2] [oX5 a s_many s_windMany s_year s_saidMany s_size s_readAt s_readPeaks s_readWinds s_readNumber s_undoMany s_keptMany, ai d (a 4) 30 s_pinned] [oX5 a s_many s_windMany s_year s_saidMany s_size s_readAt s_readPeaks s_readWinds s_readNumber s_undoMany s_keptMany, ai d (a 4) 30 s_pinned] r := by
  refine sx_I.intro (lv0 := [some (.ref (a 0)), some (.int v1), some (.int v2)]) (by decide +kernel) (Nat.le_of_ble_eq_true rfl) rfl ?_
  intro κ X hR
  have X : sx_X d κ cX5_pins 3 RX5 (sx_rm 2) := X
  unfold fX5_pins at hf
  refine g_aload_n (pc' := 1) X dX5_pins_0 rfl rfl rfl ?_
  refine g_iload_n (pc' := 2) X dX5_pins_1 rfl rfl rfl ?_
  refine g_callVi0 (pc' := 5) (As := [.int v1]) (b := (a 0)) (st := []) (w2 := fun x1 => [oX5 a s_many s_windMany s_year s_saidMany s_size s_readAt s_readPeaks s_readWinds s_readNumber s_undoMany s_keptMany, ai d (a 4) 30 s_pinned]) X lk_X5_163 dX5_pins_2 rfl rfl rfl (Nat.le_of_ble_eq_true rfl) ⟨Nat.le_of_ble_eq_true rfl, Nat.le_of_ble_eq_true rfl, Nat.le_of_ble_eq_true rfl, Nat.le_of_ble_eq_true rfl⟩ rfl [0] (by decide) rfl hf (fun l x1 h => ctX5_isPeak l d a s_many s_windMany s_year s_saidMany s_size s_readAt s_readPeaks s_readWinds s_readNumber s_undoMany s_keptMany v1 x1 h) (fun _ => rfl) (fun _ => rfl) (fun x1 hnx1 hf => ?_)
  refine g_if_eq (tgt := 28) (pc' := 8) X dX5_pins_5 (by decide) rfl hf (fun hf => ?_) (fun hf => ?_)
  · refine g_iconst (v := -1) (pc' := 29) X dX5_pins_28 rfl (by decide) ?_
    cases hf
    exact hR _ _ dX5_pins_29 rfl
  · refine g_iload_n (pc' := 9) X dX5_pins_8 rfl rfl rfl ?_
    refine g_callSi0 (pc' := 12) (As := [.int v2]) (st := []) (w2 := fun x2 => [oX5 a s_many s_windMany s_year s_saidMany s_size s_readAt s_readPeaks s_readWinds s_readNumber s_undoMany s_keptMany, ai d (a 4) 30 s_pinned]) X lk_X5_170 dX5_pins_9 rfl rfl rfl (Nat.le_of_ble_eq_true rfl) ⟨Nat.le_of_ble_eq_true rfl, Nat.le_of_ble_eq_true rfl, Nat.le_of_ble_eq_true rfl, Nat.le_of_ble_eq_true rfl⟩ [] (by decide) rfl hf (fun l x2 h => ctX5_isTrimming l d v2 x2 h) (fun _ => rfl) (fun _ => rfl) (fun x2 hnx2 hf => ?_)
    refine g_if_eq (tgt := 28) (pc' := 15) X dX5_pins_12 (by decide) rfl hf (fun hf => ?_) (fun hf => ?_)
    · refine g_iconst (v := -1) (pc' := 29) X dX5_pins_28 rfl (by decide) ?_
      cases hf
      exact hR _ _ dX5_pins_29 rfl
    · refine g_aload_n (pc' := 16) X dX5_pins_15 rfl rfl rfl ?_
      refine g_get (pc' := 19) X fl_X5_19 dX5_pins_16 rfl 0 rfl rfl ?_
      refine g_iconst (v := 5) (pc' := 20) X dX5_pins_19 rfl (by decide) ?_
      refine g_iload_n (pc' := 21) X dX5_pins_20 rfl rfl rfl ?_
      refine g_imul (pc' := 22) X dX5_pins_21 rfl ?_
      refine g_iload_n (pc' := 23) X dX5_pins_22 rfl rfl rfl ?_
      refine g_iadd (pc' := 24) X dX5_pins_23 rfl ?_
      refine g_iald (pc' := 25) X dX5_pins_24 rfl 1 rfl hf (fun x3 hf => ?_)
      refine g_goto (tgt := 29) X dX5_pins_25 (by decide) ?_
      cases hf
      exact hR _ _ dX5_pins_29 rfl
-- X5_store
def fX5_store (s_stored : Nat → Int32) (v1 : Int32) : Option (Int32) :=
  (fX5_isTrimming v1).bind fun x1 =>
  if x1 = 0 then
    some (-1 : Int32)
  else
    sx_rd s_stored 5 v1 fun x2 =>
    some x2
set_option maxHeartbeats 4000000 in
set_option maxRecDepth 100000 in
theorem ctX5_store (l : Launch) (d : sx_D) (a : Nat → Nat) (s_many : Int32) (s_windMany : Int32) (s_year : Int32) (s_saidMany : Int32) (s_size : Int32) (s_readAt : Int32) (s_readPeaks : Int32) (s_readWinds : Int32) (s_readNumber : Int32) (s_undoMany : Int32) (s_keptMany : Int32) (s_stored : Nat → Int32) (v1 : Int32) (r : Int32) (hf : fX5_store s_stored v1 = some r) : sx_I l d yX5_store cX5_store 2 .int 2 [.ref (a 0), .int v1] [oX5 a s_many s_windMany s_year s_saidMany s_size s_readAt s_readPeaks s_readWinds s_readNumber s_undoMany s_keptMany, ai d (a 5) 5 s_stored] [oX5 a s_many s_windMany s_year s_saidMany s_size s_readAt s_readPeaks s_readWinds s_readNumber s_undoMany s_keptMany, ai d (a 5) 5 s_stored] r := by
  refine sx_I.intro (lv0 := [some (.ref (a 0)), some (.int v1)]) (by decide +kernel) (Nat.le_of_ble_eq_true rfl) rfl ?_
  intro κ X hR
  have X : sx_X d κ cX5_store 2 RX5 (sx_rm 2) := X
  unfold fX5_store at hf
  refine g_iload_n (pc' := 1) X dX5_store_0 rfl rfl rfl ?_
  refine g_callSi0 (pc' := 4) (As := [.int v1]) (st := []) (w2 := fun x1 => [oX5 a s_many s_windMany s_year s_saidMany s_size s_readAt s_readPeaks s_readWinds s_readNumber s_undoMany s_keptMany, ai d (a 5) 5 s_stored]) X lk_X5_170 dX5_store_1 rfl rfl rfl (Nat.le_of_ble_eq_true rfl) ⟨Nat.le_of_ble_eq_true rfl, Nat.le_of_ble_eq_true rfl, Nat.le_of_ble_eq_true rfl, Nat.le_of_ble_eq_true rfl⟩ [] (by decide) rfl hf (fun l x1 h => ctX5_isTrimming l d v1 x1 h) (fun _ => rfl) (fun _ => rfl) (fun x1 hnx1 hf => ?_)
  refine g_if_eq (tgt := 16) (pc' := 7) X dX5_store_4 (by decide) rfl hf (fun hf => ?_) (fun hf => ?_)
  · refine g_iconst (v := -1) (pc' := 17) X dX5_store_16 rfl (by decide) ?_
    cases hf
    exact hR _ _ dX5_store_17 rfl
  · refine g_aload_n (pc' := 8) X dX5_store_7 rfl rfl rfl ?_
    refine g_get (pc' := 11) X fl_X5_22 dX5_store_8 rfl 0 rfl rfl ?_
    refine g_iload_n (pc' := 12) X dX5_store_11 rfl rfl rfl ?_
    refine g_iald (pc' := 13) X dX5_store_12 rfl 1 rfl hf (fun x2 hf => ?_)
    refine g_goto (tgt := 17) X dX5_store_13 (by decide) ?_
    cases hf
    exact hR _ _ dX5_store_17 rfl
-- X5_wind
def fX5_wind (s_windMany : Int32) (s_year : Int32) (s_winds : Nat → Int32) (v1 : Int32) : Option (Int32) :=
  (fX5_in v1 (0 : Int32) (99 : Int32)).bind fun x1 =>
  if x1 = 0 then
    some (-1 : Int32)
  else
    (fX5_windOf s_windMany s_winds (s_year + v1)).bind fun x2 =>
    some x2
set_option maxHeartbeats 4000000 in
set_option maxRecDepth 100000 in
theorem ctX5_wind (l : Launch) (d : sx_D) (a : Nat → Nat) (s_many : Int32) (s_windMany : Int32) (s_year : Int32) (s_saidMany : Int32) (s_size : Int32) (s_readAt : Int32) (s_readPeaks : Int32) (s_readWinds : Int32) (s_readNumber : Int32) (s_undoMany : Int32) (s_keptMany : Int32) (s_winds : Nat → Int32) (v1 : Int32) (r : Int32) (hf : fX5_wind s_windMany s_year s_winds v1 = some r) : sx_I l d yX5_wind cX5_wind 2 .int 1 [.ref (a 0), .int v1] [oX5 a s_many s_windMany s_year s_saidMany s_size s_readAt s_readPeaks s_readWinds s_readNumber s_undoMany s_keptMany, ai d (a 3) 12 s_winds] [oX5 a s_many s_windMany s_year s_saidMany s_size s_readAt s_readPeaks s_readWinds s_readNumber s_undoMany s_keptMany, ai d (a 3) 12 s_winds] r := by
  refine sx_I.intro (lv0 := [some (.ref (a 0)), some (.int v1)]) (by decide +kernel) (Nat.le_of_ble_eq_true rfl) rfl ?_
  intro κ X hR
  have X : sx_X d κ cX5_wind 2 RX5 (sx_rm 1) := X
  unfold fX5_wind at hf
  refine g_iload_n (pc' := 1) X dX5_wind_0 rfl rfl rfl ?_
  refine g_iconst (v := 0) (pc' := 2) X dX5_wind_1 rfl (by decide) ?_
  refine g_bipush (v := 99) (pc' := 4) X dX5_wind_2 rfl (by decide) ?_
  refine g_callSi0 (pc' := 7) (As := [.int v1, .int (0 : Int32), .int (99 : Int32)]) (st := []) (w2 := fun x1 => [oX5 a s_many s_windMany s_year s_saidMany s_size s_readAt s_readPeaks s_readWinds s_readNumber s_undoMany s_keptMany, ai d (a 3) 12 s_winds]) X lk_X5_81 dX5_wind_4 rfl rfl rfl (Nat.le_of_ble_eq_true rfl) ⟨Nat.le_of_ble_eq_true rfl, Nat.le_of_ble_eq_true rfl, Nat.le_of_ble_eq_true rfl, Nat.le_of_ble_eq_true rfl⟩ [] (by decide) rfl hf (fun l x1 h => ctX5_in l d v1 (0 : Int32) (99 : Int32) x1 h) (fun _ => rfl) (fun _ => rfl) (fun x1 hnx1 hf => ?_)
  refine g_if_eq (tgt := 23) (pc' := 10) X dX5_wind_7 (by decide) rfl hf (fun hf => ?_) (fun hf => ?_)
  · refine g_iconst (v := -1) (pc' := 24) X dX5_wind_23 rfl (by decide) ?_
    cases hf
    exact hR _ _ dX5_wind_24 rfl
  · refine g_aload_n (pc' := 11) X dX5_wind_10 rfl rfl rfl ?_
    refine g_aload_n (pc' := 12) X dX5_wind_11 rfl rfl rfl ?_
    refine g_get (pc' := 15) X fl_X5_133 dX5_wind_12 rfl 0 rfl rfl ?_
    refine g_iload_n (pc' := 16) X dX5_wind_15 rfl rfl rfl ?_
    refine g_iadd (pc' := 17) X dX5_wind_16 rfl ?_
    refine g_callVi0 (pc' := 20) (As := [.int (s_year + v1)]) (b := (a 0)) (st := []) (w2 := fun x2 => [oX5 a s_many s_windMany s_year s_saidMany s_size s_readAt s_readPeaks s_readWinds s_readNumber s_undoMany s_keptMany, ai d (a 3) 12 s_winds]) X lk_X5_156 dX5_wind_17 rfl rfl rfl (Nat.le_of_ble_eq_true rfl) ⟨Nat.le_of_ble_eq_true rfl, Nat.le_of_ble_eq_true rfl, Nat.le_of_ble_eq_true rfl, Nat.le_of_ble_eq_true rfl⟩ rfl [0, 1] (by decide) rfl hf (fun l x2 h => ctX5_windOf l d a s_many s_windMany s_year s_saidMany s_size s_readAt s_readPeaks s_readWinds s_readNumber s_undoMany s_keptMany s_winds (s_year + v1) x2 h) (fun _ => rfl) (fun _ => rfl) (fun x2 hnx2 hf => ?_)
    refine g_goto (tgt := 24) X dX5_wind_20 (by decide) ?_
    cases hf
    exact hR _ _ dX5_wind_24 rfl
-- X5_lays
def bX5_lays_9 (s_p1_n : Nat) (s_pinned : Nat → Int32) (v2 : Int32) : (Int32 × (Nat → Int32)) → Option ((Int32 × (Nat → Int32)) ⊕ ((Nat → Int32))) := fun (v3, s_p1) =>
  if (30 : Int32) ≤ v3 then
    some (.inr s_p1)
  else
    sx_rd s_pinned 30 v3 fun x2 =>
    sx_wr s_p1 s_p1_n ((v2 + (1 : Int32)) + v3) x2 fun g3 =>
    some (.inl (v3 + (1 : Int32), g3))
def bX5_lays_36 (s_p1_n : Nat) (s_stored : Nat → Int32) (v2 : Int32) : (Int32 × (Nat → Int32)) → Option ((Int32 × (Nat → Int32)) ⊕ ((Nat → Int32))) := fun (v3, s_p1) =>
  if (5 : Int32) ≤ v3 then
    some (.inr s_p1)
  else
    sx_rd s_stored 5 v3 fun x6 =>
    sx_wr s_p1 s_p1_n ((v2 + (31 : Int32)) + v3) x6 fun g7 =>
    some (.inl (v3 + (1 : Int32), g7))
def bX5_lays_63 (s_p1_n : Nat) (s_guides : Nat → Int32) (v2 : Int32) : (Int32 × (Nat → Int32)) → Option ((Int32 × (Nat → Int32)) ⊕ ((Nat → Int32))) := fun (v3, s_p1) =>
  if (6 : Int32) ≤ v3 then
    some (.inr s_p1)
  else
    sx_rd s_guides 6 v3 fun x10 =>
    sx_wr s_p1 s_p1_n ((v2 + (36 : Int32)) + v3) x10 fun g11 =>
    some (.inl (v3 + (1 : Int32), g11))
def fX5_lays (s_p1_n : Nat) (s_year : Int32) (s_pinned : Nat → Int32) (s_stored : Nat → Int32) (s_guides : Nat → Int32) (s_p1 : Nat → Int32) (v2 : Int32) : Option ((Nat → Int32)) :=
  sx_wr s_p1 s_p1_n v2 s_year fun g1 =>
  (sx_it 1000 (bX5_lays_9 s_p1_n s_pinned v2) ((0 : Int32), g1)).bind fun w5 =>
  (sx_it 1000 (bX5_lays_36 s_p1_n s_stored v2) ((0 : Int32), w5)).bind fun w9 =>
  (sx_it 1000 (bX5_lays_63 s_p1_n s_guides v2) ((0 : Int32), w9)).bind fun w13 =>
  some w13
set_option maxHeartbeats 4000000 in
set_option maxRecDepth 100000 in
theorem lX5_lays_9 (d : sx_D) (κ : sx_C) (a : Nat → Nat) (q1 : Nat) (s_p1_n : Nat) (s_many : Int32) (s_windMany : Int32) (s_year : Int32) (s_saidMany : Int32) (s_size : Int32) (s_readAt : Int32) (s_readPeaks : Int32) (s_readWinds : Int32) (s_readNumber : Int32) (s_undoMany : Int32) (s_keptMany : Int32) (s_pinned : Nat → Int32) (s_stored : Nat → Int32) (s_guides : Nat → Int32) (v2 : Int32) (X : sx_X d κ cX5_lays 4 RX5 (sx_rm 0)) (y : (Nat → Int32)) (hE34 : ∀ (s_p1 : Nat → Int32), s_p1 = y → sx_G d κ 4 0 0 34 [some (.ref (a 0)), some (.ref q1), some (.int v2), none] [] [oX5 a s_many s_windMany s_year s_saidMany s_size s_readAt s_readPeaks s_readWinds s_readNumber s_undoMany s_keptMany, ai d (a 4) 30 s_pinned, ai d (a 5) 5 s_stored, ai d (a 6) 6 s_guides, ai d q1 s_p1_n s_p1]) : ∀ (n : Nat) (s : Int32 × (Nat → Int32)), sx_it n (bX5_lays_9 s_p1_n s_pinned v2) s = some y → (match s with | (v3, s_p1) => sx_G d κ 4 0 0 9 [some (.ref (a 0)), some (.ref q1), some (.int v2), some (.int v3)] [] [oX5 a s_many s_windMany s_year s_saidMany s_size s_readAt s_readPeaks s_readWinds s_readNumber s_undoMany s_keptMany, ai d (a 4) 30 s_pinned, ai d (a 5) 5 s_stored, ai d (a 6) 6 s_guides, ai d q1 s_p1_n s_p1]) := by
  refine sx_it_run (bX5_lays_9 s_p1_n s_pinned v2) (fun s => match s with | (v3, s_p1) => sx_G d κ 4 0 0 9 [some (.ref (a 0)), some (.ref q1), some (.int v2), some (.int v3)] [] [oX5 a s_many s_windMany s_year s_saidMany s_size s_readAt s_readPeaks s_readWinds s_readNumber s_undoMany s_keptMany, ai d (a 4) 30 s_pinned, ai d (a 5) 5 s_stored, ai d (a 6) 6 s_guides, ai d q1 s_p1_n s_p1]) y ?_
  rintro ⟨v3, s_p1⟩ x hf hb he
  show sx_G d κ 4 0 0 9 [some (.ref (a 0)), some (.ref q1), some (.int v2), some (.int v3)] [] [oX5 a s_many s_windMany s_year s_saidMany s_size s_readAt s_readPeaks s_readWinds s_readNumber s_undoMany s_keptMany, ai d (a 4) 30 s_pinned, ai d (a 5) 5 s_stored, ai d (a 6) 6 s_guides, ai d q1 s_p1_n s_p1]
  unfold bX5_lays_9 at hf
  refine g_iload_n (pc' := 10) X dX5_lays_9 rfl rfl rfl ?_
  refine g_bipush (v := 30) (pc' := 12) X dX5_lays_10 rfl (by decide) ?_
  refine g_icmp_ge (tgt := 34) (pc' := 15) X dX5_lays_12 (by decide) rfl hf (fun hf => ?_) (fun hf => ?_)
  · exact sx_weak [true, true, true, false] rfl (hE34 _ (sx_ex hf he))
  · refine g_aload_n (pc' := 16) X dX5_lays_15 rfl rfl rfl ?_
    refine g_iload_n (pc' := 17) X dX5_lays_16 rfl rfl rfl ?_
    refine g_iconst (v := 1) (pc' := 18) X dX5_lays_17 rfl (by decide) ?_
    refine g_iadd (pc' := 19) X dX5_lays_18 rfl ?_
    refine g_iload_n (pc' := 20) X dX5_lays_19 rfl rfl rfl ?_
    refine g_iadd (pc' := 21) X dX5_lays_20 rfl ?_
    refine g_aload_n (pc' := 22) X dX5_lays_21 rfl rfl rfl ?_
    refine g_get (pc' := 25) X fl_X5_19 dX5_lays_22 rfl 0 rfl rfl ?_
    refine g_iload_n (pc' := 26) X dX5_lays_25 rfl rfl rfl ?_
    refine g_iald (pc' := 27) X dX5_lays_26 rfl 1 rfl hf (fun x2 hf => ?_)
    refine g_iast (pc' := 28) (w2 := fun g3 => [oX5 a s_many s_windMany s_year s_saidMany s_size s_readAt s_readPeaks s_readWinds s_readNumber s_undoMany s_keptMany, ai d (a 4) 30 s_pinned, ai d (a 5) 5 s_stored, ai d (a 6) 6 s_guides, ai d q1 s_p1_n g3]) X dX5_lays_27 rfl 4 rfl hf (fun _ => rfl) (fun g3 hf => ?_)
    refine g_iinc (v := 1) (lv' := [some (.ref (a 0)), some (.ref q1), some (.int v2), some (.int (v3 + (1 : Int32)))]) (pc' := 31) X dX5_lays_28 rfl rfl (by decide) (by decide) rfl rfl ?_
    refine g_goto (tgt := 9) X dX5_lays_31 (by decide) ?_
    have hk := sx_bk hf hb
    exact sx_weak [true, true, true, true] rfl hk
set_option maxHeartbeats 4000000 in
set_option maxRecDepth 100000 in
theorem lX5_lays_36 (d : sx_D) (κ : sx_C) (a : Nat → Nat) (q1 : Nat) (s_p1_n : Nat) (s_many : Int32) (s_windMany : Int32) (s_year : Int32) (s_saidMany : Int32) (s_size : Int32) (s_readAt : Int32) (s_readPeaks : Int32) (s_readWinds : Int32) (s_readNumber : Int32) (s_undoMany : Int32) (s_keptMany : Int32) (s_pinned : Nat → Int32) (s_stored : Nat → Int32) (s_guides : Nat → Int32) (v2 : Int32) (X : sx_X d κ cX5_lays 4 RX5 (sx_rm 0)) (y : (Nat → Int32)) (hE61 : ∀ (s_p1 : Nat → Int32), s_p1 = y → sx_G d κ 4 0 0 61 [some (.ref (a 0)), some (.ref q1), some (.int v2), none] [] [oX5 a s_many s_windMany s_year s_saidMany s_size s_readAt s_readPeaks s_readWinds s_readNumber s_undoMany s_keptMany, ai d (a 4) 30 s_pinned, ai d (a 5) 5 s_stored, ai d (a 6) 6 s_guides, ai d q1 s_p1_n s_p1]) : ∀ (n : Nat) (s : Int32 × (Nat → Int32)), sx_it n (bX5_lays_36 s_p1_n s_stored v2) s = some y → (match s with | (v3, s_p1) => sx_G d κ 4 0 0 36 [some (.ref (a 0)), some (.ref q1), some (.int v2), some (.int v3)] [] [oX5 a s_many s_windMany s_year s_saidMany s_size s_readAt s_readPeaks s_readWinds s_readNumber s_undoMany s_keptMany, ai d (a 4) 30 s_pinned, ai d (a 5) 5 s_stored, ai d (a 6) 6 s_guides, ai d q1 s_p1_n s_p1]) := by
  refine sx_it_run (bX5_lays_36 s_p1_n s_stored v2) (fun s => match s with | (v3, s_p1) => sx_G d κ 4 0 0 36 [some (.ref (a 0)), some (.ref q1), some (.int v2), some (.int v3)] [] [oX5 a s_many s_windMany s_year s_saidMany s_size s_readAt s_readPeaks s_readWinds s_readNumber s_undoMany s_keptMany, ai d (a 4) 30 s_pinned, ai d (a 5) 5 s_stored, ai d (a 6) 6 s_guides, ai d q1 s_p1_n s_p1]) y ?_
  rintro ⟨v3, s_p1⟩ x hf hb he
  show sx_G d κ 4 0 0 36 [some (.ref (a 0)), some (.ref q1), some (.int v2), some (.int v3)] [] [oX5 a s_many s_windMany s_year s_saidMany s_size s_readAt s_readPeaks s_readWinds s_readNumber s_undoMany s_keptMany, ai d (a 4) 30 s_pinned, ai d (a 5) 5 s_stored, ai d (a 6) 6 s_guides, ai d q1 s_p1_n s_p1]
  unfold bX5_lays_36 at hf
  refine g_iload_n (pc' := 37) X dX5_lays_36 rfl rfl rfl ?_
  refine g_iconst (v := 5) (pc' := 38) X dX5_lays_37 rfl (by decide) ?_
  refine g_icmp_ge (tgt := 61) (pc' := 41) X dX5_lays_38 (by decide) rfl hf (fun hf => ?_) (fun hf => ?_)
  · exact sx_weak [true, true, true, false] rfl (hE61 _ (sx_ex hf he))
  · refine g_aload_n (pc' := 42) X dX5_lays_41 rfl rfl rfl ?_
    refine g_iload_n (pc' := 43) X dX5_lays_42 rfl rfl rfl ?_
    refine g_bipush (v := 31) (pc' := 45) X dX5_lays_43 rfl (by decide) ?_
    refine g_iadd (pc' := 46) X dX5_lays_45 rfl ?_
    refine g_iload_n (pc' := 47) X dX5_lays_46 rfl rfl rfl ?_
    refine g_iadd (pc' := 48) X dX5_lays_47 rfl ?_
    refine g_aload_n (pc' := 49) X dX5_lays_48 rfl rfl rfl ?_
    refine g_get (pc' := 52) X fl_X5_22 dX5_lays_49 rfl 0 rfl rfl ?_
    refine g_iload_n (pc' := 53) X dX5_lays_52 rfl rfl rfl ?_
    refine g_iald (pc' := 54) X dX5_lays_53 rfl 2 rfl hf (fun x6 hf => ?_)
    refine g_iast (pc' := 55) (w2 := fun g7 => [oX5 a s_many s_windMany s_year s_saidMany s_size s_readAt s_readPeaks s_readWinds s_readNumber s_undoMany s_keptMany, ai d (a 4) 30 s_pinned, ai d (a 5) 5 s_stored, ai d (a 6) 6 s_guides, ai d q1 s_p1_n g7]) X dX5_lays_54 rfl 4 rfl hf (fun _ => rfl) (fun g7 hf => ?_)
    refine g_iinc (v := 1) (lv' := [some (.ref (a 0)), some (.ref q1), some (.int v2), some (.int (v3 + (1 : Int32)))]) (pc' := 58) X dX5_lays_55 rfl rfl (by decide) (by decide) rfl rfl ?_
    refine g_goto (tgt := 36) X dX5_lays_58 (by decide) ?_
    have hk := sx_bk hf hb
    exact sx_weak [true, true, true, true] rfl hk
set_option maxHeartbeats 4000000 in
set_option maxRecDepth 100000 in
theorem lX5_lays_63 (d : sx_D) (κ : sx_C) (a : Nat → Nat) (q1 : Nat) (s_p1_n : Nat) (s_many : Int32) (s_windMany : Int32) (s_year : Int32) (s_saidMany : Int32) (s_size : Int32) (s_readAt : Int32) (s_readPeaks : Int32) (s_readWinds : Int32) (s_readNumber : Int32) (s_undoMany : Int32) (s_keptMany : Int32) (s_pinned : Nat → Int32) (s_stored : Nat → Int32) (s_guides : Nat → Int32) (v2 : Int32) (X : sx_X d κ cX5_lays 4 RX5 (sx_rm 0)) (y : (Nat → Int32)) (hE89 : ∀ (s_p1 : Nat → Int32), s_p1 = y → sx_G d κ 4 0 0 89 [none, none, none, none] [] [oX5 a s_many s_windMany s_year s_saidMany s_size s_readAt s_readPeaks s_readWinds s_readNumber s_undoMany s_keptMany, ai d (a 4) 30 s_pinned, ai d (a 5) 5 s_stored, ai d (a 6) 6 s_guides, ai d q1 s_p1_n s_p1]) : ∀ (n : Nat) (s : Int32 × (Nat → Int32)), sx_it n (bX5_lays_63 s_p1_n s_guides v2) s = some y → (match s with | (v3, s_p1) => sx_G d κ 4 0 0 63 [some (.ref (a 0)), some (.ref q1), some (.int v2), some (.int v3)] [] [oX5 a s_many s_windMany s_year s_saidMany s_size s_readAt s_readPeaks s_readWinds s_readNumber s_undoMany s_keptMany, ai d (a 4) 30 s_pinned, ai d (a 5) 5 s_stored, ai d (a 6) 6 s_guides, ai d q1 s_p1_n s_p1]) := by
  refine sx_it_run (bX5_lays_63 s_p1_n s_guides v2) (fun s => match s with | (v3, s_p1) => sx_G d κ 4 0 0 63 [some (.ref (a 0)), some (.ref q1), some (.int v2), some (.int v3)] [] [oX5 a s_many s_windMany s_year s_saidMany s_size s_readAt s_readPeaks s_readWinds s_readNumber s_undoMany s_keptMany, ai d (a 4) 30 s_pinned, ai d (a 5) 5 s_stored, ai d (a 6) 6 s_guides, ai d q1 s_p1_n s_p1]) y ?_
  rintro ⟨v3, s_p1⟩ x hf hb he
  show sx_G d κ 4 0 0 63 [some (.ref (a 0)), some (.ref q1), some (.int v2), some (.int v3)] [] [oX5 a s_many s_windMany s_year s_saidMany s_size s_readAt s_readPeaks s_readWinds s_readNumber s_undoMany s_keptMany, ai d (a 4) 30 s_pinned, ai d (a 5) 5 s_stored, ai d (a 6) 6 s_guides, ai d q1 s_p1_n s_p1]
  unfold bX5_lays_63 at hf
  refine g_iload_n (pc' := 64) X dX5_lays_63 rfl rfl rfl ?_
  refine g_bipush (v := 6) (pc' := 66) X dX5_lays_64 rfl (by decide) ?_
  refine g_icmp_ge (tgt := 89) (pc' := 69) X dX5_lays_66 (by decide) rfl hf (fun hf => ?_) (fun hf => ?_)
  · exact sx_weak [false, false, false, false] rfl (hE89 _ (sx_ex hf he))
  · refine g_aload_n (pc' := 70) X dX5_lays_69 rfl rfl rfl ?_
    refine g_iload_n (pc' := 71) X dX5_lays_70 rfl rfl rfl ?_
    refine g_bipush (v := 36) (pc' := 73) X dX5_lays_71 rfl (by decide) ?_
    refine g_iadd (pc' := 74) X dX5_lays_73 rfl ?_
    refine g_iload_n (pc' := 75) X dX5_lays_74 rfl rfl rfl ?_
    refine g_iadd (pc' := 76) X dX5_lays_75 rfl ?_
    refine g_aload_n (pc' := 77) X dX5_lays_76 rfl rfl rfl ?_
    refine g_get (pc' := 80) X fl_X5_25 dX5_lays_77 rfl 0 rfl rfl ?_
    refine g_iload_n (pc' := 81) X dX5_lays_80 rfl rfl rfl ?_
    refine g_iald (pc' := 82) X dX5_lays_81 rfl 3 rfl hf (fun x10 hf => ?_)
    refine g_iast (pc' := 83) (w2 := fun g11 => [oX5 a s_many s_windMany s_year s_saidMany s_size s_readAt s_readPeaks s_readWinds s_readNumber s_undoMany s_keptMany, ai d (a 4) 30 s_pinned, ai d (a 5) 5 s_stored, ai d (a 6) 6 s_guides, ai d q1 s_p1_n g11]) X dX5_lays_82 rfl 4 rfl hf (fun _ => rfl) (fun g11 hf => ?_)
    refine g_iinc (v := 1) (lv' := [some (.ref (a 0)), some (.ref q1), some (.int v2), some (.int (v3 + (1 : Int32)))]) (pc' := 86) X dX5_lays_83 rfl rfl (by decide) (by decide) rfl rfl ?_
    refine g_goto (tgt := 63) X dX5_lays_86 (by decide) ?_
    have hk := sx_bk hf hb
    exact sx_weak [true, true, true, true] rfl hk
set_option maxHeartbeats 4000000 in
set_option maxRecDepth 100000 in
theorem ctX5_lays (l : Launch) (d : sx_D) (a : Nat → Nat) (q1 : Nat) (s_p1_n : Nat) (s_many : Int32) (s_windMany : Int32) (s_year : Int32) (s_saidMany : Int32) (s_size : Int32) (s_readAt : Int32) (s_readPeaks : Int32) (s_readWinds : Int32) (s_readNumber : Int32) (s_undoMany : Int32) (s_keptMany : Int32) (s_pinned : Nat → Int32) (s_stored : Nat → Int32) (s_guides : Nat → Int32) (s_p1 : Nat → Int32) (v2 : Int32) (ro1 : Nat → Int32) (hf : fX5_lays s_p1_n s_year s_pinned s_stored s_guides s_p1 v2 = some ro1) : sx_V l d yX5_lays cX5_lays 4 0 [.ref (a 0), .ref q1, .int v2] [oX5 a s_many s_windMany s_year s_saidMany s_size s_readAt s_readPeaks s_readWinds s_readNumber s_undoMany s_keptMany, ai d (a 4) 30 s_pinned, ai d (a 5) 5 s_stored, ai d (a 6) 6 s_guides, ai d q1 s_p1_n s_p1] [oX5 a s_many s_windMany s_year s_saidMany s_size s_readAt s_readPeaks s_readWinds s_readNumber s_undoMany s_keptMany, ai d (a 4) 30 s_pinned, ai d (a 5) 5 s_stored, ai d (a 6) 6 s_guides, ai d q1 s_p1_n ro1] := by
  refine sx_V.intro (lv0 := [some (.ref (a 0)), some (.ref q1), some (.int v2), none]) (by decide +kernel) (Nat.le_of_ble_eq_true rfl) rfl ?_
  intro κ X hR
  have X : sx_X d κ cX5_lays 4 RX5 (sx_rm 0) := X
  unfold fX5_lays at hf
  refine g_aload_n (pc' := 1) X dX5_lays_0 rfl rfl rfl ?_
  refine g_iload_n (pc' := 2) X dX5_lays_1 rfl rfl rfl ?_
  refine g_aload_n (pc' := 3) X dX5_lays_2 rfl rfl rfl ?_
  refine g_get (pc' := 6) X fl_X5_133 dX5_lays_3 rfl 0 rfl rfl ?_
  refine g_iast (pc' := 7) (w2 := fun g1 => [oX5 a s_many s_windMany s_year s_saidMany s_size s_readAt s_readPeaks s_readWinds s_readNumber s_undoMany s_keptMany, ai d (a 4) 30 s_pinned, ai d (a 5) 5 s_stored, ai d (a 6) 6 s_guides, ai d q1 s_p1_n g1]) X dX5_lays_6 rfl 4 rfl hf (fun _ => rfl) (fun g1 hf => ?_)
  refine g_iconst (v := 0) (pc' := 8) X dX5_lays_7 rfl (by decide) ?_
  refine g_istore_n (lv' := [some (.ref (a 0)), some (.ref q1), some (.int v2), some (.int (0 : Int32))]) (pc' := 9) X dX5_lays_8 rfl rfl (by decide) rfl rfl ?_
  obtain ⟨y4, hy4, hf⟩ := sx_bd hf
  refine sx_weak [true, true, true, true] rfl (lX5_lays_9 d κ a q1 s_p1_n s_many s_windMany s_year s_saidMany s_size s_readAt s_readPeaks s_readWinds s_readNumber s_undoMany s_keptMany s_pinned s_stored s_guides v2 X y4 ?_ 1000 ((0 : Int32), g1) hy4)
  rintro w5 rfl
  refine g_iconst (v := 0) (pc' := 35) X dX5_lays_34 rfl (by decide) ?_
  refine g_istore_n (lv' := [some (.ref (a 0)), some (.ref q1), some (.int v2), some (.int (0 : Int32))]) (pc' := 36) X dX5_lays_35 rfl rfl (by decide) rfl rfl ?_
  obtain ⟨y8, hy8, hf⟩ := sx_bd hf
  refine sx_weak [true, true, true, true] rfl (lX5_lays_36 d κ a q1 s_p1_n s_many s_windMany s_year s_saidMany s_size s_readAt s_readPeaks s_readWinds s_readNumber s_undoMany s_keptMany s_pinned s_stored s_guides v2 X y8 ?_ 1000 ((0 : Int32), w5) hy8)
  rintro w9 rfl
  refine g_iconst (v := 0) (pc' := 62) X dX5_lays_61 rfl (by decide) ?_
  refine g_istore_n (lv' := [some (.ref (a 0)), some (.ref q1), some (.int v2), some (.int (0 : Int32))]) (pc' := 63) X dX5_lays_62 rfl rfl (by decide) rfl rfl ?_
  obtain ⟨y12, hy12, hf⟩ := sx_bd hf
  refine sx_weak [true, true, true, true] rfl (lX5_lays_63 d κ a q1 s_p1_n s_many s_windMany s_year s_saidMany s_size s_readAt s_readPeaks s_readWinds s_readNumber s_undoMany s_keptMany s_pinned s_stored s_guides v2 X y12 ?_ 1000 ((0 : Int32), w9) hy12)
  rintro w13 rfl
  cases hf
  exact hR _ _ dX5_lays_89
-- X5_takes
def bX5_takes_9 (s_p1_n : Nat) (s_p1 : Nat → Int32) (v2 : Int32) : (Int32 × (Nat → Int32)) → Option ((Int32 × (Nat → Int32)) ⊕ ((Nat → Int32))) := fun (v3, s_pinned) =>
  if (30 : Int32) ≤ v3 then
    some (.inr s_pinned)
  else
    sx_rd s_p1 s_p1_n ((v2 + (1 : Int32)) + v3) fun x2 =>
    sx_wr s_pinned 30 v3 x2 fun g3 =>
    some (.inl (v3 + (1 : Int32), g3))
def bX5_takes_36 (s_p1_n : Nat) (s_p1 : Nat → Int32) (v2 : Int32) : (Int32 × (Nat → Int32)) → Option ((Int32 × (Nat → Int32)) ⊕ ((Nat → Int32))) := fun (v3, s_stored) =>
  if (5 : Int32) ≤ v3 then
    some (.inr s_stored)
  else
    sx_rd s_p1 s_p1_n ((v2 + (31 : Int32)) + v3) fun x6 =>
    sx_wr s_stored 5 v3 x6 fun g7 =>
    some (.inl (v3 + (1 : Int32), g7))
def bX5_takes_63 (s_p1_n : Nat) (s_p1 : Nat → Int32) (v2 : Int32) : (Int32 × (Nat → Int32)) → Option ((Int32 × (Nat → Int32)) ⊕ ((Nat → Int32))) := fun (v3, s_guides) =>
  if (6 : Int32) ≤ v3 then
    some (.inr s_guides)
  else
    sx_rd s_p1 s_p1_n ((v2 + (36 : Int32)) + v3) fun x10 =>
    sx_wr s_guides 6 v3 x10 fun g11 =>
    some (.inl (v3 + (1 : Int32), g11))
def fX5_takes (s_p1_n : Nat) (s_year : Int32) (s_pinned : Nat → Int32) (s_stored : Nat → Int32) (s_guides : Nat → Int32) (s_p1 : Nat → Int32) (v2 : Int32) : Option (Int32 × (Nat → Int32) × (Nat → Int32) × (Nat → Int32)) :=
  sx_rd s_p1 s_p1_n v2 fun x1 =>
  (sx_it 1000 (bX5_takes_9 s_p1_n s_p1 v2) ((0 : Int32), s_pinned)).bind fun w5 =>
  (sx_it 1000 (bX5_takes_36 s_p1_n s_p1 v2) ((0 : Int32), s_stored)).bind fun w9 =>
  (sx_it 1000 (bX5_takes_63 s_p1_n s_p1 v2) ((0 : Int32), s_guides)).bind fun w13 =>
  some (x1, w5, w9, w13)
set_option maxHeartbeats 4000000 in
set_option maxRecDepth 100000 in
theorem lX5_takes_9 (d : sx_D) (κ : sx_C) (a : Nat → Nat) (q1 : Nat) (s_p1_n : Nat) (s_many : Int32) (s_windMany : Int32) (s_year : Int32) (s_saidMany : Int32) (s_size : Int32) (s_readAt : Int32) (s_readPeaks : Int32) (s_readWinds : Int32) (s_readNumber : Int32) (s_undoMany : Int32) (s_keptMany : Int32) (s_stored : Nat → Int32) (s_guides : Nat → Int32) (s_p1 : Nat → Int32) (v2 : Int32) (X : sx_X d κ cX5_takes 4 RX5 (sx_rm 0)) (y : (Nat → Int32)) (hE34 : ∀ (s_pinned : Nat → Int32), s_pinned = y → sx_G d κ 4 0 0 34 [some (.ref (a 0)), some (.ref q1), some (.int v2), none] [] [oX5 a s_many s_windMany s_year s_saidMany s_size s_readAt s_readPeaks s_readWinds s_readNumber s_undoMany s_keptMany, ai d (a 4) 30 s_pinned, ai d (a 5) 5 s_stored, ai d (a 6) 6 s_guides, ai d q1 s_p1_n s_p1]) : ∀ (n : Nat) (s : Int32 × (Nat → Int32)), sx_it n (bX5_takes_9 s_p1_n s_p1 v2) s = some y → (match s with | (v3, s_pinned) => sx_G d κ 4 0 0 9 [some (.ref (a 0)), some (.ref q1), some (.int v2), some (.int v3)] [] [oX5 a s_many s_windMany s_year s_saidMany s_size s_readAt s_readPeaks s_readWinds s_readNumber s_undoMany s_keptMany, ai d (a 4) 30 s_pinned, ai d (a 5) 5 s_stored, ai d (a 6) 6 s_guides, ai d q1 s_p1_n s_p1]) := by
  refine sx_it_run (bX5_takes_9 s_p1_n s_p1 v2) (fun s => match s with | (v3, s_pinned) => sx_G d κ 4 0 0 9 [some (.ref (a 0)), some (.ref q1), some (.int v2), some (.int v3)] [] [oX5 a s_many s_windMany s_year s_saidMany s_size s_readAt s_readPeaks s_readWinds s_readNumber s_undoMany s_keptMany, ai d (a 4) 30 s_pinned, ai d (a 5) 5 s_stored, ai d (a 6) 6 s_guides, ai d q1 s_p1_n s_p1]) y ?_
  rintro ⟨v3, s_pinned⟩ x hf hb he
  show sx_G d κ 4 0 0 9 [some (.ref (a 0)), some (.ref q1), some (.int v2), some (.int v3)] [] [oX5 a s_many s_windMany s_year s_saidMany s_size s_readAt s_readPeaks s_readWinds s_readNumber s_undoMany s_keptMany, ai d (a 4) 30 s_pinned, ai d (a 5) 5 s_stored, ai d (a 6) 6 s_guides, ai d q1 s_p1_n s_p1]
  unfold bX5_takes_9 at hf
  refine g_iload_n (pc' := 10) X dX5_takes_9 rfl rfl rfl ?_
  refine g_bipush (v := 30) (pc' := 12) X dX5_takes_10 rfl (by decide) ?_
  refine g_icmp_ge (tgt := 34) (pc' := 15) X dX5_takes_12 (by decide) rfl hf (fun hf => ?_) (fun hf => ?_)
  · exact sx_weak [true, true, true, false] rfl (hE34 _ (sx_ex hf he))
  · refine g_aload_n (pc' := 16) X dX5_takes_15 rfl rfl rfl ?_
    refine g_get (pc' := 19) X fl_X5_19 dX5_takes_16 rfl 0 rfl rfl ?_
    refine g_iload_n (pc' := 20) X dX5_takes_19 rfl rfl rfl ?_
    refine g_aload_n (pc' := 21) X dX5_takes_20 rfl rfl rfl ?_
    refine g_iload_n (pc' := 22) X dX5_takes_21 rfl rfl rfl ?_
    refine g_iconst (v := 1) (pc' := 23) X dX5_takes_22 rfl (by decide) ?_
    refine g_iadd (pc' := 24) X dX5_takes_23 rfl ?_
    refine g_iload_n (pc' := 25) X dX5_takes_24 rfl rfl rfl ?_
    refine g_iadd (pc' := 26) X dX5_takes_25 rfl ?_
    refine g_iald (pc' := 27) X dX5_takes_26 rfl 4 rfl hf (fun x2 hf => ?_)
    refine g_iast (pc' := 28) (w2 := fun g3 => [oX5 a s_many s_windMany s_year s_saidMany s_size s_readAt s_readPeaks s_readWinds s_readNumber s_undoMany s_keptMany, ai d (a 4) 30 g3, ai d (a 5) 5 s_stored, ai d (a 6) 6 s_guides, ai d q1 s_p1_n s_p1]) X dX5_takes_27 rfl 1 rfl hf (fun _ => rfl) (fun g3 hf => ?_)
    refine g_iinc (v := 1) (lv' := [some (.ref (a 0)), some (.ref q1), some (.int v2), some (.int (v3 + (1 : Int32)))]) (pc' := 31) X dX5_takes_28 rfl rfl (by decide) (by decide) rfl rfl ?_
    refine g_goto (tgt := 9) X dX5_takes_31 (by decide) ?_
    have hk := sx_bk hf hb
    exact sx_weak [true, true, true, true] rfl hk
set_option maxHeartbeats 4000000 in
set_option maxRecDepth 100000 in
theorem lX5_takes_36 (d : sx_D) (κ : sx_C) (a : Nat → Nat) (q1 : Nat) (s_p1_n : Nat) (s_many : Int32) (s_windMany : Int32) (s_year : Int32) (s_saidMany : Int32) (s_size : Int32) (s_readAt : Int32) (s_readPeaks : Int32) (s_readWinds : Int32) (s_readNumber : Int32) (s_undoMany : Int32) (s_keptMany : Int32) (s_pinned : Nat → Int32) (s_guides : Nat → Int32) (s_p1 : Nat → Int32) (v2 : Int32) (X : sx_X d κ cX5_takes 4 RX5 (sx_rm 0)) (y : (Nat → Int32)) (hE61 : ∀ (s_stored : Nat → Int32), s_stored = y → sx_G d κ 4 0 0 61 [some (.ref (a 0)), some (.ref q1), some (.int v2), none] [] [oX5 a s_many s_windMany s_year s_saidMany s_size s_readAt s_readPeaks s_readWinds s_readNumber s_undoMany s_keptMany, ai d (a 4) 30 s_pinned, ai d (a 5) 5 s_stored, ai d (a 6) 6 s_guides, ai d q1 s_p1_n s_p1]) : ∀ (n : Nat) (s : Int32 × (Nat → Int32)), sx_it n (bX5_takes_36 s_p1_n s_p1 v2) s = some y → (match s with | (v3, s_stored) => sx_G d κ 4 0 0 36 [some (.ref (a 0)), some (.ref q1), some (.int v2), some (.int v3)] [] [oX5 a s_many s_windMany s_year s_saidMany s_size s_readAt s_readPeaks s_readWinds s_readNumber s_undoMany s_keptMany, ai d (a 4) 30 s_pinned, ai d (a 5) 5 s_stored, ai d (a 6) 6 s_guides, ai d q1 s_p1_n s_p1]) := by
  refine sx_it_run (bX5_takes_36 s_p1_n s_p1 v2) (fun s => match s with | (v3, s_stored) => sx_G d κ 4 0 0 36 [some (.ref (a 0)), some (.ref q1), some (.int v2), some (.int v3)] [] [oX5 a s_many s_windMany s_year s_saidMany s_size s_readAt s_readPeaks s_readWinds s_readNumber s_undoMany s_keptMany, ai d (a 4) 30 s_pinned, ai d (a 5) 5 s_stored, ai d (a 6) 6 s_guides, ai d q1 s_p1_n s_p1]) y ?_
  rintro ⟨v3, s_stored⟩ x hf hb he
  show sx_G d κ 4 0 0 36 [some (.ref (a 0)), some (.ref q1), some (.int v2), some (.int v3)] [] [oX5 a s_many s_windMany s_year s_saidMany s_size s_readAt s_readPeaks s_readWinds s_readNumber s_undoMany s_keptMany, ai d (a 4) 30 s_pinned, ai d (a 5) 5 s_stored, ai d (a 6) 6 s_guides, ai d q1 s_p1_n s_p1]
  unfold bX5_takes_36 at hf
  refine g_iload_n (pc' := 37) X dX5_takes_36 rfl rfl rfl ?_
  refine g_iconst (v := 5) (pc' := 38) X dX5_takes_37 rfl (by decide) ?_
  refine g_icmp_ge (tgt := 61) (pc' := 41) X dX5_takes_38 (by decide) rfl hf (fun hf => ?_) (fun hf => ?_)
  · exact sx_weak [true, true, true, false] rfl (hE61 _ (sx_ex hf he))
  · refine g_aload_n (pc' := 42) X dX5_takes_41 rfl rfl rfl ?_
    refine g_get (pc' := 45) X fl_X5_22 dX5_takes_42 rfl 0 rfl rfl ?_
    refine g_iload_n (pc' := 46) X dX5_takes_45 rfl rfl rfl ?_
    refine g_aload_n (pc' := 47) X dX5_takes_46 rfl rfl rfl ?_
    refine g_iload_n (pc' := 48) X dX5_takes_47 rfl rfl rfl ?_
    refine g_bipush (v := 31) (pc' := 50) X dX5_takes_48 rfl (by decide) ?_
    refine g_iadd (pc' := 51) X dX5_takes_50 rfl ?_
    refine g_iload_n (pc' := 52) X dX5_takes_51 rfl rfl rfl ?_
    refine g_iadd (pc' := 53) X dX5_takes_52 rfl ?_
    refine g_iald (pc' := 54) X dX5_takes_53 rfl 4 rfl hf (fun x6 hf => ?_)
    refine g_iast (pc' := 55) (w2 := fun g7 => [oX5 a s_many s_windMany s_year s_saidMany s_size s_readAt s_readPeaks s_readWinds s_readNumber s_undoMany s_keptMany, ai d (a 4) 30 s_pinned, ai d (a 5) 5 g7, ai d (a 6) 6 s_guides, ai d q1 s_p1_n s_p1]) X dX5_takes_54 rfl 2 rfl hf (fun _ => rfl) (fun g7 hf => ?_)
    refine g_iinc (v := 1) (lv' := [some (.ref (a 0)), some (.ref q1), some (.int v2), some (.int (v3 + (1 : Int32)))]) (pc' := 58) X dX5_takes_55 rfl rfl (by decide) (by decide) rfl rfl ?_
    refine g_goto (tgt := 36) X dX5_takes_58 (by decide) ?_
    have hk := sx_bk hf hb
    exact sx_weak [true, true, true, true] rfl hk
set_option maxHeartbeats 4000000 in
set_option maxRecDepth 100000 in
theorem lX5_takes_63 (d : sx_D) (κ : sx_C) (a : Nat → Nat) (q1 : Nat) (s_p1_n : Nat) (s_many : Int32) (s_windMany : Int32) (s_year : Int32) (s_saidMany : Int32) (s_size : Int32) (s_readAt : Int32) (s_readPeaks : Int32) (s_readWinds : Int32) (s_readNumber : Int32) (s_undoMany : Int32) (s_keptMany : Int32) (s_pinned : Nat → Int32) (s_stored : Nat → Int32) (s_p1 : Nat → Int32) (v2 : Int32) (X : sx_X d κ cX5_takes 4 RX5 (sx_rm 0)) (y : (Nat → Int32)) (hE89 : ∀ (s_guides : Nat → Int32), s_guides = y → sx_G d κ 4 0 0 89 [none, none, none, none] [] [oX5 a s_many s_windMany s_year s_saidMany s_size s_readAt s_readPeaks s_readWinds s_readNumber s_undoMany s_keptMany, ai d (a 4) 30 s_pinned, ai d (a 5) 5 s_stored, ai d (a 6) 6 s_guides, ai d q1 s_p1_n s_p1]) : ∀ (n : Nat) (s : Int32 × (Nat → Int32)), sx_it n (bX5_takes_63 s_p1_n s_p1 v2) s = some y → (match s with | (v3, s_guides) => sx_G d κ 4 0 0 63 [some (.ref (a 0)), some (.ref q1), some (.int v2), some (.int v3)] [] [oX5 a s_many s_windMany s_year s_saidMany s_size s_readAt s_readPeaks s_readWinds s_readNumber s_undoMany s_keptMany, ai d (a 4) 30 s_pinned, ai d (a 5) 5 s_stored, ai d (a 6) 6 s_guides, ai d q1 s_p1_n s_p1]) := by
  refine sx_it_run (bX5_takes_63 s_p1_n s_p1 v2) (fun s => match s with | (v3, s_guides) => sx_G d κ 4 0 0 63 [some (.ref (a 0)), some (.ref q1), some (.int v2), some (.int v3)] [] [oX5 a s_many s_windMany s_year s_saidMany s_size s_readAt s_readPeaks s_readWinds s_readNumber s_undoMany s_keptMany, ai d (a 4) 30 s_pinned, ai d (a 5) 5 s_stored, ai d (a 6) 6 s_guides, ai d q1 s_p1_n s_p1]) y ?_
  rintro ⟨v3, s_guides⟩ x hf hb he
  show sx_G d κ 4 0 0 63 [some (.ref (a 0)), some (.ref q1), some (.int v2), some (.int v3)] [] [oX5 a s_many s_windMany s_year s_saidMany s_size s_readAt s_readPeaks s_readWinds s_readNumber s_undoMany s_keptMany, ai d (a 4) 30 s_pinned, ai d (a 5) 5 s_stored, ai d (a 6) 6 s_guides, ai d q1 s_p1_n s_p1]
  unfold bX5_takes_63 at hf
  refine g_iload_n (pc' := 64) X dX5_takes_63 rfl rfl rfl ?_
  refine g_bipush (v := 6) (pc' := 66) X dX5_takes_64 rfl (by decide) ?_
  refine g_icmp_ge (tgt := 89) (pc' := 69) X dX5_takes_66 (by decide) rfl hf (fun hf => ?_) (fun hf => ?_)
  · exact sx_weak [false, false, false, false] rfl (hE89 _ (sx_ex hf he))
  · refine g_aload_n (pc' := 70) X dX5_takes_69 rfl rfl rfl ?_
    refine g_get (pc' := 73) X fl_X5_25 dX5_takes_70 rfl 0 rfl rfl ?_
    refine g_iload_n (pc' := 74) X dX5_takes_73 rfl rfl rfl ?_
    refine g_aload_n (pc' := 75) X dX5_takes_74 rfl rfl rfl ?_
    refine g_iload_n (pc' := 76) X dX5_takes_75 rfl rfl rfl ?_
    refine g_bipush (v := 36) (pc' := 78) X dX5_takes_76 rfl (by decide) ?_
    refine g_iadd (pc' := 79) X dX5_takes_78 rfl ?_
    refine g_iload_n (pc' := 80) X dX5_takes_79 rfl rfl rfl ?_
    refine g_iadd (pc' := 81) X dX5_takes_80 rfl ?_
    refine g_iald (pc' := 82) X dX5_takes_81 rfl 4 rfl hf (fun x10 hf => ?_)
    refine g_iast (pc' := 83) (w2 := fun g11 => [oX5 a s_many s_windMany s_year s_saidMany s_size s_readAt s_readPeaks s_readWinds s_readNumber s_undoMany s_keptMany, ai d (a 4) 30 s_pinned, ai d (a 5) 5 s_stored, ai d (a 6) 6 g11, ai d q1 s_p1_n s_p1]) X dX5_takes_82 rfl 3 rfl hf (fun _ => rfl) (fun g11 hf => ?_)
    refine g_iinc (v := 1) (lv' := [some (.ref (a 0)), some (.ref q1), some (.int v2), some (.int (v3 + (1 : Int32)))]) (pc' := 86) X dX5_takes_83 rfl rfl (by decide) (by decide) rfl rfl ?_
    refine g_goto (tgt := 63) X dX5_takes_86 (by decide) ?_
    have hk := sx_bk hf hb
    exact sx_weak [true, true, true, true] rfl hk
set_option maxHeartbeats 4000000 in
set_option maxRecDepth 100000 in
theorem ctX5_takes (l : Launch) (d : sx_D) (a : Nat → Nat) (q1 : Nat) (s_p1_n : Nat) (s_many : Int32) (s_windMany : Int32) (s_year : Int32) (s_saidMany : Int32) (s_size : Int32) (s_readAt : Int32) (s_readPeaks : Int32) (s_readWinds : Int32) (s_readNumber : Int32) (s_undoMany : Int32) (s_keptMany : Int32) (s_pinned : Nat → Int32) (s_stored : Nat → Int32) (s_guides : Nat → Int32) (s_p1 : Nat → Int32) (v2 : Int32) (ro1 : Int32) (ro2 : Nat → Int32) (ro3 : Nat → Int32) (ro4 : Nat → Int32) (hf : fX5_takes s_p1_n s_year s_pinned s_stored s_guides s_p1 v2 = some (ro1, ro2, ro3, ro4)) : sx_V l d yX5_takes cX5_takes 4 0 [.ref (a 0), .ref q1, .int v2] [oX5 a s_many s_windMany s_year s_saidMany s_size s_readAt s_readPeaks s_readWinds s_readNumber s_undoMany s_keptMany, ai d (a 4) 30 s_pinned, ai d (a 5) 5 s_stored, ai d (a 6) 6 s_guides, ai d q1 s_p1_n s_p1] [oX5 a s_many s_windMany ro1 s_saidMany s_size s_readAt s_readPeaks s_readWinds s_readNumber s_undoMany s_keptMany, ai d (a 4) 30 ro2, ai d (a 5) 5 ro3, ai d (a 6) 6 ro4, ai d q1 s_p1_n s_p1] := by
  refine sx_V.intro (lv0 := [some (.ref (a 0)), some (.ref q1), some (.int v2), none]) (by decide +kernel) (Nat.le_of_ble_eq_true rfl) rfl ?_
  intro κ X hR
  have X : sx_X d κ cX5_takes 4 RX5 (sx_rm 0) := X
  unfold fX5_takes at hf
  refine g_aload_n (pc' := 1) X dX5_takes_0 rfl rfl rfl ?_
  refine g_aload_n (pc' := 2) X dX5_takes_1 rfl rfl rfl ?_
  refine g_iload_n (pc' := 3) X dX5_takes_2 rfl rfl rfl ?_
  refine g_iald (pc' := 4) X dX5_takes_3 rfl 4 rfl hf (fun x1 hf => ?_)
  refine g_put (pc' := 7) (w2 := [oX5 a s_many s_windMany x1 s_saidMany s_size s_readAt s_readPeaks s_readWinds s_readNumber s_undoMany s_keptMany, ai d (a 4) 30 s_pinned, ai d (a 5) 5 s_stored, ai d (a 6) 6 s_guides, ai d q1 s_p1_n s_p1]) X fl_X5_133 fw_X5 rfl dX5_takes_4 rfl 0 rfl rfl rfl (Nat.le_of_ble_eq_true rfl) rfl ?_
  refine g_iconst (v := 0) (pc' := 8) X dX5_takes_7 rfl (by decide) ?_
  refine g_istore_n (lv' := [some (.ref (a 0)), some (.ref q1), some (.int v2), some (.int (0 : Int32))]) (pc' := 9) X dX5_takes_8 rfl rfl (by decide) rfl rfl ?_
  obtain ⟨y4, hy4, hf⟩ := sx_bd hf
  refine sx_weak [true, true, true, true] rfl (lX5_takes_9 d κ a q1 s_p1_n s_many s_windMany x1 s_saidMany s_size s_readAt s_readPeaks s_readWinds s_readNumber s_undoMany s_keptMany s_stored s_guides s_p1 v2 X y4 ?_ 1000 ((0 : Int32), s_pinned) hy4)
  rintro w5 rfl
  refine g_iconst (v := 0) (pc' := 35) X dX5_takes_34 rfl (by decide) ?_
  refine g_istore_n (lv' := [some (.ref (a 0)), some (.ref q1), some (.int v2), some (.int (0 : Int32))]) (pc' := 36) X dX5_takes_35 rfl rfl (by decide) rfl rfl ?_
  obtain ⟨y8, hy8, hf⟩ := sx_bd hf
  refine sx_weak [true, true, true, true] rfl (lX5_takes_36 d κ a q1 s_p1_n s_many s_windMany x1 s_saidMany s_size s_readAt s_readPeaks s_readWinds s_readNumber s_undoMany s_keptMany w5 s_guides s_p1 v2 X y8 ?_ 1000 ((0 : Int32), s_stored) hy8)
  rintro w9 rfl
  refine g_iconst (v := 0) (pc' := 62) X dX5_takes_61 rfl (by decide) ?_
  refine g_istore_n (lv' := [some (.ref (a 0)), some (.ref q1), some (.int v2), some (.int (0 : Int32))]) (pc' := 63) X dX5_takes_62 rfl rfl (by decide) rfl rfl ?_
  obtain ⟨y12, hy12, hf⟩ := sx_bd hf
  refine sx_weak [true, true, true, true] rfl (lX5_takes_63 d κ a q1 s_p1_n s_many s_windMany x1 s_saidMany s_size s_readAt s_readPeaks s_readWinds s_readNumber s_undoMany s_keptMany w5 w9 s_p1 v2 X y12 ?_ 1000 ((0 : Int32), s_guides) hy12)
  rintro w13 rfl
  cases hf
  exact hR _ _ dX5_takes_89
-- X5_notes
def jX5_notes_49 (s_year : Int32) (s_undoMany : Int32) (s_pinned : Nat → Int32) (s_stored : Nat → Int32) (s_guides : Nat → Int32) (s_ahead : Nat → Int32) : Option (Int32 × (Nat → Int32)) :=
  (fX5_lays 336 s_year s_pinned s_stored s_guides s_ahead ((42 : Int32) * s_undoMany)).bind fun o1 =>
  sx_lt (s_undoMany + (1 : Int32)) fun x2 =>
  some (x2, o1)
def bX5_notes_11  : (Int32 × (Nat → Int32)) → Option ((Int32 × (Nat → Int32)) ⊕ ((Nat → Int32))) := fun (v1, s_ahead) =>
  if (294 : Int32) ≤ v1 then
    some (.inr s_ahead)
  else
    sx_rd s_ahead 336 (v1 + (42 : Int32)) fun x3 =>
    sx_wr s_ahead 336 v1 x3 fun g4 =>
    some (.inl (v1 + (1 : Int32), g4))
def fX5_notes (s_year : Int32) (s_undoMany : Int32) (s_pinned : Nat → Int32) (s_stored : Nat → Int32) (s_guides : Nat → Int32) (s_ahead : Nat → Int32) : Option (Int32 × (Nat → Int32)) :=
  if s_undoMany = (8 : Int32) then
    (sx_it 1000 (bX5_notes_11) ((0 : Int32), s_ahead)).bind fun w6 =>
    sx_lt (s_undoMany - (1 : Int32)) fun x7 =>
    jX5_notes_49 s_year x7 s_pinned s_stored s_guides w6
  else
    jX5_notes_49 s_year s_undoMany s_pinned s_stored s_guides s_ahead
set_option maxHeartbeats 4000000 in
set_option maxRecDepth 100000 in
theorem lX5_notes_11 (d : sx_D) (κ : sx_C) (a : Nat → Nat) (s_many : Int32) (s_windMany : Int32) (s_year : Int32) (s_saidMany : Int32) (s_size : Int32) (s_readAt : Int32) (s_readPeaks : Int32) (s_readWinds : Int32) (s_readNumber : Int32) (s_undoMany : Int32) (s_keptMany : Int32) (s_pinned : Nat → Int32) (s_stored : Nat → Int32) (s_guides : Nat → Int32) (X : sx_X d κ cX5_notes 2 RX5 (sx_rm 1)) (y : (Nat → Int32)) (hE39 : ∀ (s_ahead : Nat → Int32), s_ahead = y → sx_G d κ 2 0 0 39 [some (.ref (a 0)), none] [] [oX5 a s_many s_windMany s_year s_saidMany s_size s_readAt s_readPeaks s_readWinds s_readNumber s_undoMany s_keptMany, ai d (a 4) 30 s_pinned, ai d (a 5) 5 s_stored, ai d (a 6) 6 s_guides, ai d (a 15) 336 s_ahead]) : ∀ (n : Nat) (s : Int32 × (Nat → Int32)), sx_it n (bX5_notes_11) s = some y → (match s with | (v1, s_ahead) => sx_G d κ 2 0 0 11 [some (.ref (a 0)), some (.int v1)] [] [oX5 a s_many s_windMany s_year s_saidMany s_size s_readAt s_readPeaks s_readWinds s_readNumber s_undoMany s_keptMany, ai d (a 4) 30 s_pinned, ai d (a 5) 5 s_stored, ai d (a 6) 6 s_guides, ai d (a 15) 336 s_ahead]) := by
  refine sx_it_run (bX5_notes_11) (fun s => match s with | (v1, s_ahead) => sx_G d κ 2 0 0 11 [some (.ref (a 0)), some (.int v1)] [] [oX5 a s_many s_windMany s_year s_saidMany s_size s_readAt s_readPeaks s_readWinds s_readNumber s_undoMany s_keptMany, ai d (a 4) 30 s_pinned, ai d (a 5) 5 s_stored, ai d (a 6) 6 s_guides, ai d (a 15) 336 s_ahead]) y ?_
  rintro ⟨v1, s_ahead⟩ x hf hb he
  show sx_G d κ 2 0 0 11 [some (.ref (a 0)), some (.int v1)] [] [oX5 a s_many s_windMany s_year s_saidMany s_size s_readAt s_readPeaks s_readWinds s_readNumber s_undoMany s_keptMany, ai d (a 4) 30 s_pinned, ai d (a 5) 5 s_stored, ai d (a 6) 6 s_guides, ai d (a 15) 336 s_ahead]
  unfold bX5_notes_11 at hf
  refine g_iload_n (pc' := 12) X dX5_notes_11 rfl rfl rfl ?_
  refine g_sipush (v := 294) (pc' := 15) X dX5_notes_12 rfl (by decide) ?_
  refine g_icmp_ge (tgt := 39) (pc' := 18) X dX5_notes_15 (by decide) rfl hf (fun hf => ?_) (fun hf => ?_)
  · exact sx_weak [true, false] rfl (hE39 _ (sx_ex hf he))
  · refine g_aload_n (pc' := 19) X dX5_notes_18 rfl rfl rfl ?_
    refine g_get (pc' := 22) X fl_X5_52 dX5_notes_19 rfl 0 rfl rfl ?_
    refine g_iload_n (pc' := 23) X dX5_notes_22 rfl rfl rfl ?_
    refine g_aload_n (pc' := 24) X dX5_notes_23 rfl rfl rfl ?_
    refine g_get (pc' := 27) X fl_X5_52 dX5_notes_24 rfl 0 rfl rfl ?_
    refine g_iload_n (pc' := 28) X dX5_notes_27 rfl rfl rfl ?_
    refine g_bipush (v := 42) (pc' := 30) X dX5_notes_28 rfl (by decide) ?_
    refine g_iadd (pc' := 31) X dX5_notes_30 rfl ?_
    refine g_iald (pc' := 32) X dX5_notes_31 rfl 4 rfl hf (fun x3 hf => ?_)
    refine g_iast (pc' := 33) (w2 := fun g4 => [oX5 a s_many s_windMany s_year s_saidMany s_size s_readAt s_readPeaks s_readWinds s_readNumber s_undoMany s_keptMany, ai d (a 4) 30 s_pinned, ai d (a 5) 5 s_stored, ai d (a 6) 6 s_guides, ai d (a 15) 336 g4]) X dX5_notes_32 rfl 4 rfl hf (fun _ => rfl) (fun g4 hf => ?_)
    refine g_iinc (v := 1) (lv' := [some (.ref (a 0)), some (.int (v1 + (1 : Int32)))]) (pc' := 36) X dX5_notes_33 rfl rfl (by decide) (by decide) rfl rfl ?_
    refine g_goto (tgt := 11) X dX5_notes_36 (by decide) ?_
    have hk := sx_bk hf hb
    exact sx_weak [true, true] rfl hk
set_option maxHeartbeats 4000000 in
set_option maxRecDepth 100000 in
theorem ctX5_notes (l : Launch) (d : sx_D) (a : Nat → Nat) (s_many : Int32) (s_windMany : Int32) (s_year : Int32) (s_saidMany : Int32) (s_size : Int32) (s_readAt : Int32) (s_readPeaks : Int32) (s_readWinds : Int32) (s_readNumber : Int32) (s_undoMany : Int32) (s_keptMany : Int32) (s_pinned : Nat → Int32) (s_stored : Nat → Int32) (s_guides : Nat → Int32) (s_ahead : Nat → Int32) (ro1 : Int32) (ro2 : Nat → Int32) (hf : fX5_notes s_year s_undoMany s_pinned s_stored s_guides s_ahead = some (ro1, ro2)) : sx_V l d yX5_notes cX5_notes 2 1 [.ref (a 0)] [oX5 a s_many s_windMany s_year s_saidMany s_size s_readAt s_readPeaks s_readWinds s_readNumber s_undoMany s_keptMany, ai d (a 4) 30 s_pinned, ai d (a 5) 5 s_stored, ai d (a 6) 6 s_guides, ai d (a 15) 336 s_ahead] [oX5 a s_many s_windMany s_year s_saidMany s_size s_readAt s_readPeaks s_readWinds s_readNumber ro1 s_keptMany, ai d (a 4) 30 s_pinned, ai d (a 5) 5 s_stored, ai d (a 6) 6 s_guides, ai d (a 15) 336 ro2] := by
  refine sx_V.intro (lv0 := [some (.ref (a 0)), none]) (by decide +kernel) (Nat.le_of_ble_eq_true rfl) rfl ?_
  intro κ X hR
  have X : sx_X d κ cX5_notes 2 RX5 (sx_rm 1) := X
  unfold fX5_notes at hf
  refine g_aload_n (pc' := 1) X dX5_notes_0 rfl rfl rfl ?_
  refine g_get (pc' := 4) X fl_X5_139 dX5_notes_1 rfl 0 rfl rfl ?_
  refine g_bipush (v := 8) (pc' := 6) X dX5_notes_4 rfl (by decide) ?_
  have hjX5_notes_49 : ∀ (s_undoMany : Int32) (s_ahead : Nat → Int32), jX5_notes_49 s_year s_undoMany s_pinned s_stored s_guides s_ahead = some (ro1, ro2) → sx_G d κ 2 0 0 49 [some (.ref (a 0)), none] [] [oX5 a s_many s_windMany s_year s_saidMany s_size s_readAt s_readPeaks s_readWinds s_readNumber s_undoMany s_keptMany, ai d (a 4) 30 s_pinned, ai d (a 5) 5 s_stored, ai d (a 6) 6 s_guides, ai d (a 15) 336 s_ahead] := by
    intro s_undoMany s_ahead hf
    unfold jX5_notes_49 at hf
    refine g_aload_n (pc' := 50) X dX5_notes_49 rfl rfl rfl ?_
    refine g_aload_n (pc' := 51) X dX5_notes_50 rfl rfl rfl ?_
    refine g_get (pc' := 54) X fl_X5_52 dX5_notes_51 rfl 0 rfl rfl ?_
    refine g_bipush (v := 42) (pc' := 56) X dX5_notes_54 rfl (by decide) ?_
    refine g_aload_n (pc' := 57) X dX5_notes_56 rfl rfl rfl ?_
    refine g_get (pc' := 60) X fl_X5_139 dX5_notes_57 rfl 0 rfl rfl ?_
    refine g_imul (pc' := 61) X dX5_notes_60 rfl ?_
    refine g_callVv1 (pc' := 64) (As := [.ref (a 15), .int ((42 : Int32) * s_undoMany)]) (b := (a 0)) (st := []) (w2 := fun o1 => [oX5 a s_many s_windMany s_year s_saidMany s_size s_readAt s_readPeaks s_readWinds s_readNumber s_undoMany s_keptMany, ai d (a 4) 30 s_pinned, ai d (a 5) 5 s_stored, ai d (a 6) 6 s_guides, ai d (a 15) 336 o1]) X lk_X5_173 dX5_notes_61 rfl rfl rfl (Nat.le_of_ble_eq_true rfl) ⟨Nat.le_of_ble_eq_true rfl, Nat.le_of_ble_eq_true rfl, Nat.le_of_ble_eq_true rfl, Nat.le_of_ble_eq_true rfl⟩ rfl [0, 1, 2, 3, 4] (by decide) rfl hf (fun l o1 h => ctX5_lays l d a (a 15) 336 s_many s_windMany s_year s_saidMany s_size s_readAt s_readPeaks s_readWinds s_readNumber s_undoMany s_keptMany s_pinned s_stored s_guides s_ahead ((42 : Int32) * s_undoMany) o1 h) (fun _ => rfl) (fun _ => rfl) (fun o1 hf => ?_)
    refine g_aload_n (pc' := 65) X dX5_notes_64 rfl rfl rfl ?_
    refine g_dup (pc' := 66) X dX5_notes_65 rfl rfl ?_
    refine g_get (pc' := 69) X fl_X5_139 dX5_notes_66 rfl 0 rfl rfl ?_
    refine g_iconst (v := 1) (pc' := 70) X dX5_notes_69 rfl (by decide) ?_
    refine g_iadd (pc' := 71) X dX5_notes_70 rfl ?_
    refine g_putN (pc' := 74) (w2 := fun x2 => [oX5 a s_many s_windMany s_year s_saidMany s_size s_readAt s_readPeaks s_readWinds s_readNumber x2 s_keptMany, ai d (a 4) 30 s_pinned, ai d (a 5) 5 s_stored, ai d (a 6) 6 s_guides, ai d (a 15) 336 o1]) X fl_X5_139 fw_X5 rfl dX5_notes_71 rfl 0 rfl (fun _ => rfl) (fun _ => rfl) (Nat.le_of_ble_eq_true rfl) (fun _ => rfl) hf (fun x2 hf => ?_)
    cases hf
    exact hR _ _ dX5_notes_74
  refine g_icmp_ne (tgt := 49) (pc' := 9) X dX5_notes_6 (by decide) rfl hf (fun hf => ?_) (fun hf => ?_)
  · exact sx_weak [true, true] rfl (hjX5_notes_49 s_undoMany s_ahead hf)
  · refine g_iconst (v := 0) (pc' := 10) X dX5_notes_9 rfl (by decide) ?_
    refine g_istore_n (lv' := [some (.ref (a 0)), some (.int (0 : Int32))]) (pc' := 11) X dX5_notes_10 rfl rfl (by decide) rfl rfl ?_
    obtain ⟨y5, hy5, hf⟩ := sx_bd hf
    refine sx_weak [true, true] rfl (lX5_notes_11 d κ a s_many s_windMany s_year s_saidMany s_size s_readAt s_readPeaks s_readWinds s_readNumber s_undoMany s_keptMany s_pinned s_stored s_guides X y5 ?_ 1000 ((0 : Int32), s_ahead) hy5)
    rintro w6 rfl
    refine g_aload_n (pc' := 40) X dX5_notes_39 rfl rfl rfl ?_
    refine g_dup (pc' := 41) X dX5_notes_40 rfl rfl ?_
    refine g_get (pc' := 44) X fl_X5_139 dX5_notes_41 rfl 0 rfl rfl ?_
    refine g_iconst (v := 1) (pc' := 45) X dX5_notes_44 rfl (by decide) ?_
    refine g_isub (pc' := 46) X dX5_notes_45 rfl ?_
    refine g_putN (pc' := 49) (w2 := fun x7 => [oX5 a s_many s_windMany s_year s_saidMany s_size s_readAt s_readPeaks s_readWinds s_readNumber x7 s_keptMany, ai d (a 4) 30 s_pinned, ai d (a 5) 5 s_stored, ai d (a 6) 6 s_guides, ai d (a 15) 336 w6]) X fl_X5_139 fw_X5 rfl dX5_notes_46 rfl 0 rfl (fun _ => rfl) (fun _ => rfl) (Nat.le_of_ble_eq_true rfl) (fun _ => rfl) hf (fun x7 hf => ?_)
    exact sx_weak [true, true] rfl (hjX5_notes_49 x7 w6 hf)
-- X5_mayPut
def fX5_mayPut (s_pinned : Nat → Int32) (s_stored : Nat → Int32) (v1 : Int32) (v2 : Int32) : Option (Int32) :=
  sx_rd s_pinned 30 (((5 : Int32) * v1) + v2) fun x1 =>
  if x1 = 0 then
    sx_rd s_stored 5 v2 fun x2 =>
    if x2 ≤ 0 then
      some (0 : Int32)
    else
      some (1 : Int32)
  else
    some (0 : Int32)
set_option maxHeartbeats 4000000 in
set_option maxRecDepth 100000 in
theorem ctX5_mayPut (l : Launch) (d : sx_D) (a : Nat → Nat) (s_many : Int32) (s_windMany : Int32) (s_year : Int32) (s_saidMany : Int32) (s_size : Int32) (s_readAt : Int32) (s_readPeaks : Int32) (s_readWinds : Int32) (s_readNumber : Int32) (s_undoMany : Int32) (s_keptMany : Int32) (s_pinned : Nat → Int32) (s_stored : Nat → Int32) (v1 : Int32) (v2 : Int32) (r : Int32) (hf : fX5_mayPut s_pinned s_stored v1 v2 = some r) : sx_I l d yX5_mayPut cX5_mayPut 3 .boolean 0 [.ref (a 0), .int v1, .int v2] [oX5 a s_many s_windMany s_year s_saidMany s_size s_readAt s_readPeaks s_readWinds s_readNumber s_undoMany s_keptMany, ai d (a 4) 30 s_pinned, ai d (a 5) 5 s_stored] [oX5 a s_many s_windMany s_year s_saidMany s_size s_readAt s_readPeaks s_readWinds s_readNumber s_undoMany s_keptMany, ai d (a 4) 30 s_pinned, ai d (a 5) 5 s_stored] r := by
  refine sx_I.intro (lv0 := [some (.ref (a 0)), some (.int v1), some (.int v2)]) (by decide +kernel) (Nat.le_of_ble_eq_true rfl) rfl ?_
  intro κ X hR
  have X : sx_X d κ cX5_mayPut 3 RX5 (sx_rm 0) := X
  unfold fX5_mayPut at hf
  refine g_aload_n (pc' := 1) X dX5_mayPut_0 rfl rfl rfl ?_
  refine g_get (pc' := 4) X fl_X5_19 dX5_mayPut_1 rfl 0 rfl rfl ?_
  refine g_iconst (v := 5) (pc' := 5) X dX5_mayPut_4 rfl (by decide) ?_
  refine g_iload_n (pc' := 6) X dX5_mayPut_5 rfl rfl rfl ?_
  refine g_imul (pc' := 7) X dX5_mayPut_6 rfl ?_
  refine g_iload_n (pc' := 8) X dX5_mayPut_7 rfl rfl rfl ?_
  refine g_iadd (pc' := 9) X dX5_mayPut_8 rfl ?_
  refine g_iald (pc' := 10) X dX5_mayPut_9 rfl 1 rfl hf (fun x1 hf => ?_)
  refine g_if_ne (tgt := 26) (pc' := 13) X dX5_mayPut_10 (by decide) rfl hf (fun hf => ?_) (fun hf => ?_)
  · refine g_iconst (v := 0) (pc' := 27) X dX5_mayPut_26 rfl (by decide) ?_
    cases hf
    exact hR _ _ dX5_mayPut_27 rfl
  · refine g_aload_n (pc' := 14) X dX5_mayPut_13 rfl rfl rfl ?_
    refine g_get (pc' := 17) X fl_X5_22 dX5_mayPut_14 rfl 0 rfl rfl ?_
    refine g_iload_n (pc' := 18) X dX5_mayPut_17 rfl rfl rfl ?_
    refine g_iald (pc' := 19) X dX5_mayPut_18 rfl 2 rfl hf (fun x2 hf => ?_)
    refine g_if_le (tgt := 26) (pc' := 22) X dX5_mayPut_19 (by decide) rfl hf (fun hf => ?_) (fun hf => ?_)
    · refine g_iconst (v := 0) (pc' := 27) X dX5_mayPut_26 rfl (by decide) ?_
      cases hf
      exact hR _ _ dX5_mayPut_27 rfl
    · refine g_iconst (v := 1) (pc' := 23) X dX5_mayPut_22 rfl (by decide) ?_
      refine g_goto (tgt := 27) X dX5_mayPut_23 (by decide) ?_
      cases hf
      exact hR _ _ dX5_mayPut_27 rfl
-- X5_puts
def fX5_puts (s_pinned : Nat → Int32) (s_stored : Nat → Int32) (v1 : Int32) (v2 : Int32) (v3 : Int32) : Option ((Nat → Int32) × (Nat → Int32)) :=
  sx_wr s_pinned 30 (((5 : Int32) * v1) + v2) v3 fun g1 =>
  sx_rd s_stored 5 v2 fun x2 =>
  sx_wr s_stored 5 v2 (x2 - (1 : Int32)) fun g3 =>
  some (g1, g3)
set_option maxHeartbeats 4000000 in
set_option maxRecDepth 100000 in
theorem ctX5_puts (l : Launch) (d : sx_D) (a : Nat → Nat) (s_many : Int32) (s_windMany : Int32) (s_year : Int32) (s_saidMany : Int32) (s_size : Int32) (s_readAt : Int32) (s_readPeaks : Int32) (s_readWinds : Int32) (s_readNumber : Int32) (s_undoMany : Int32) (s_keptMany : Int32) (s_pinned : Nat → Int32) (s_stored : Nat → Int32) (v1 : Int32) (v2 : Int32) (v3 : Int32) (ro1 : Nat → Int32) (ro2 : Nat → Int32) (hf : fX5_puts s_pinned s_stored v1 v2 v3 = some (ro1, ro2)) : sx_V l d yX5_puts cX5_puts 4 0 [.ref (a 0), .int v1, .int v2, .int v3] [oX5 a s_many s_windMany s_year s_saidMany s_size s_readAt s_readPeaks s_readWinds s_readNumber s_undoMany s_keptMany, ai d (a 4) 30 s_pinned, ai d (a 5) 5 s_stored] [oX5 a s_many s_windMany s_year s_saidMany s_size s_readAt s_readPeaks s_readWinds s_readNumber s_undoMany s_keptMany, ai d (a 4) 30 ro1, ai d (a 5) 5 ro2] := by
  refine sx_V.intro (lv0 := [some (.ref (a 0)), some (.int v1), some (.int v2), some (.int v3)]) (by decide +kernel) (Nat.le_of_ble_eq_true rfl) rfl ?_
  intro κ X hR
  have X : sx_X d κ cX5_puts 4 RX5 (sx_rm 0) := X
  unfold fX5_puts at hf
  refine g_aload_n (pc' := 1) X dX5_puts_0 rfl rfl rfl ?_
  refine g_get (pc' := 4) X fl_X5_19 dX5_puts_1 rfl 0 rfl rfl ?_
  refine g_iconst (v := 5) (pc' := 5) X dX5_puts_4 rfl (by decide) ?_
  refine g_iload_n (pc' := 6) X dX5_puts_5 rfl rfl rfl ?_
  refine g_imul (pc' := 7) X dX5_puts_6 rfl ?_
  refine g_iload_n (pc' := 8) X dX5_puts_7 rfl rfl rfl ?_
  refine g_iadd (pc' := 9) X dX5_puts_8 rfl ?_
  refine g_iload_n (pc' := 10) X dX5_puts_9 rfl rfl rfl ?_
  refine g_iast (pc' := 11) (w2 := fun g1 => [oX5 a s_many s_windMany s_year s_saidMany s_size s_readAt s_readPeaks s_readWinds s_readNumber s_undoMany s_keptMany, ai d (a 4) 30 g1, ai d (a 5) 5 s_stored]) X dX5_puts_10 rfl 1 rfl hf (fun _ => rfl) (fun g1 hf => ?_)
  refine g_aload_n (pc' := 12) X dX5_puts_11 rfl rfl rfl ?_
  refine g_get (pc' := 15) X fl_X5_22 dX5_puts_12 rfl 0 rfl rfl ?_
  refine g_iload_n (pc' := 16) X dX5_puts_15 rfl rfl rfl ?_
  refine g_dup2 (pc' := 17) X dX5_puts_16 rfl rfl rfl ?_
  refine g_iald (pc' := 18) X dX5_puts_17 rfl 2 rfl hf (fun x2 hf => ?_)
  refine g_iconst (v := 1) (pc' := 19) X dX5_puts_18 rfl (by decide) ?_
  refine g_isub (pc' := 20) X dX5_puts_19 rfl ?_
  refine g_iast (pc' := 21) (w2 := fun g3 => [oX5 a s_many s_windMany s_year s_saidMany s_size s_readAt s_readPeaks s_readWinds s_readNumber s_undoMany s_keptMany, ai d (a 4) 30 g1, ai d (a 5) 5 g3]) X dX5_puts_20 rfl 2 rfl hf (fun _ => rfl) (fun g3 hf => ?_)
  cases hf
  exact hR _ _ dX5_puts_21
-- X5_takesOff
def fX5_takesOff (s_pinned : Nat → Int32) (s_stored : Nat → Int32) (v1 : Int32) (v2 : Int32) : Option ((Nat → Int32) × (Nat → Int32)) :=
  sx_wr s_pinned 30 (((5 : Int32) * v1) + v2) (0 : Int32) fun g1 =>
  sx_rd s_stored 5 v2 fun x2 =>
  sx_wr s_stored 5 v2 (x2 + (1 : Int32)) fun g3 =>
  some (g1, g3)
set_option maxHeartbeats 4000000 in
set_option maxRecDepth 100000 in
theorem ctX5_takesOff (l : Launch) (d : sx_D) (a : Nat → Nat) (s_many : Int32) (s_windMany : Int32) (s_year : Int32) (s_saidMany : Int32) (s_size : Int32) (s_readAt : Int32) (s_readPeaks : Int32) (s_readWinds : Int32) (s_readNumber : Int32) (s_undoMany : Int32) (s_keptMany : Int32) (s_pinned : Nat → Int32) (s_stored : Nat → Int32) (v1 : Int32) (v2 : Int32) (ro1 : Nat → Int32) (ro2 : Nat → Int32) (hf : fX5_takesOff s_pinned s_stored v1 v2 = some (ro1, ro2)) : sx_V l d yX5_takesOff cX5_takesOff 3 0 [.ref (a 0), .int v1, .int v2] [oX5 a s_many s_windMany s_year s_saidMany s_size s_readAt s_readPeaks s_readWinds s_readNumber s_undoMany s_keptMany, ai d (a 4) 30 s_pinned, ai d (a 5) 5 s_stored] [oX5 a s_many s_windMany s_year s_saidMany s_size s_readAt s_readPeaks s_readWinds s_readNumber s_undoMany s_keptMany, ai d (a 4) 30 ro1, ai d (a 5) 5 ro2] := by
  refine sx_V.intro (lv0 := [some (.ref (a 0)), some (.int v1), some (.int v2)]) (by decide +kernel) (Nat.le_of_ble_eq_true rfl) rfl ?_
  intro κ X hR
  have X : sx_X d κ cX5_takesOff 3 RX5 (sx_rm 0) := X
  unfold fX5_takesOff at hf
  refine g_aload_n (pc' := 1) X dX5_takesOff_0 rfl rfl rfl ?_
  refine g_get (pc' := 4) X fl_X5_19 dX5_takesOff_1 rfl 0 rfl rfl ?_
  refine g_iconst (v := 5) (pc' := 5) X dX5_takesOff_4 rfl (by decide) ?_
  refine g_iload_n (pc' := 6) X dX5_takesOff_5 rfl rfl rfl ?_
  refine g_imul (pc' := 7) X dX5_takesOff_6 rfl ?_
  refine g_iload_n (pc' := 8) X dX5_takesOff_7 rfl rfl rfl ?_
  refine g_iadd (pc' := 9) X dX5_takesOff_8 rfl ?_
  refine g_iconst (v := 0) (pc' := 10) X dX5_takesOff_9 rfl (by decide) ?_
  refine g_iast (pc' := 11) (w2 := fun g1 => [oX5 a s_many s_windMany s_year s_saidMany s_size s_readAt s_readPeaks s_readWinds s_readNumber s_undoMany s_keptMany, ai d (a 4) 30 g1, ai d (a 5) 5 s_stored]) X dX5_takesOff_10 rfl 1 rfl hf (fun _ => rfl) (fun g1 hf => ?_)
  refine g_aload_n (pc' := 12) X dX5_takesOff_11 rfl rfl rfl ?_
  refine g_get (pc' := 15) X fl_X5_22 dX5_takesOff_12 rfl 0 rfl rfl ?_
  refine g_iload_n (pc' := 16) X dX5_takesOff_15 rfl rfl rfl ?_
  refine g_dup2 (pc' := 17) X dX5_takesOff_16 rfl rfl rfl ?_
  refine g_iald (pc' := 18) X dX5_takesOff_17 rfl 2 rfl hf (fun x2 hf => ?_)
  refine g_iconst (v := 1) (pc' := 19) X dX5_takesOff_18 rfl (by decide) ?_
  refine g_iadd (pc' := 20) X dX5_takesOff_19 rfl ?_
  refine g_iast (pc' := 21) (w2 := fun g3 => [oX5 a s_many s_windMany s_year s_saidMany s_size s_readAt s_readPeaks s_readWinds s_readNumber s_undoMany s_keptMany, ai d (a 4) 30 g1, ai d (a 5) 5 g3]) X dX5_takesOff_20 rfl 2 rfl hf (fun _ => rfl) (fun g3 hf => ?_)
  cases hf
  exact hR _ _ dX5_takesOff_21
-- X5_put
def fX5_put (s_many : Int32) (s_year : Int32) (s_undoMany : Int32) (s_pinned : Nat → Int32) (s_stored : Nat → Int32) (s_guides : Nat → Int32) (s_ahead : Nat → Int32) (v1 : Int32) (v2 : Int32) (v3 : Int32) : Option (Int32 × Int32 × (Nat → Int32) × (Nat → Int32) × (Nat → Int32)) :=
  (fX5_isPeak s_many v1).bind fun x1 =>
  if x1 = 0 then
    some ((-1 : Int32), s_undoMany, s_pinned, s_stored, s_ahead)
  else
    (fX5_isTrimming v2).bind fun x2 =>
    if x2 = 0 then
      some ((-1 : Int32), s_undoMany, s_pinned, s_stored, s_ahead)
    else
      (fX5_in v3 (1 : Int32) (20 : Int32)).bind fun x3 =>
      if x3 = 0 then
        some ((-1 : Int32), s_undoMany, s_pinned, s_stored, s_ahead)
      else
        (fX5_mayPut s_pinned s_stored v1 v2).bind fun x4 =>
        if x4 = 0 then
          some ((-2 : Int32), s_undoMany, s_pinned, s_stored, s_ahead)
        else
          (fX5_notes s_year s_undoMany s_pinned s_stored s_guides s_ahead).bind fun (o5, o6) =>
          (fX5_puts s_pinned s_stored v1 v2 v3).bind fun (o7, o8) =>
          (fX5_looks o7 v1).bind fun x9 =>
          some (x9, o5, o7, o8, o6)
set_option maxHeartbeats 4000000 in
set_option maxRecDepth 100000 in
theorem ctX5_put (l : Launch) (d : sx_D) (a : Nat → Nat) (s_many : Int32) (s_windMany : Int32) (s_year : Int32) (s_saidMany : Int32) (s_size : Int32) (s_readAt : Int32) (s_readPeaks : Int32) (s_readWinds : Int32) (s_readNumber : Int32) (s_undoMany : Int32) (s_keptMany : Int32) (s_pinned : Nat → Int32) (s_stored : Nat → Int32) (s_guides : Nat → Int32) (s_ahead : Nat → Int32) (v1 : Int32) (v2 : Int32) (v3 : Int32) (r : Int32) (ro1 : Int32) (ro2 : Nat → Int32) (ro3 : Nat → Int32) (ro4 : Nat → Int32) (hf : fX5_put s_many s_year s_undoMany s_pinned s_stored s_guides s_ahead v1 v2 v3 = some (r, ro1, ro2, ro3, ro4)) : sx_I l d yX5_put cX5_put 4 .int 2 [.ref (a 0), .int v1, .int v2, .int v3] [oX5 a s_many s_windMany s_year s_saidMany s_size s_readAt s_readPeaks s_readWinds s_readNumber s_undoMany s_keptMany, ai d (a 4) 30 s_pinned, ai d (a 5) 5 s_stored, ai d (a 6) 6 s_guides, ai d (a 15) 336 s_ahead] [oX5 a s_many s_windMany s_year s_saidMany s_size s_readAt s_readPeaks s_readWinds s_readNumber ro1 s_keptMany, ai d (a 4) 30 ro2, ai d (a 5) 5 ro3, ai d (a 6) 6 s_guides, ai d (a 15) 336 ro4] r := by
  refine sx_I.intro (lv0 := [some (.ref (a 0)), some (.int v1), some (.int v2), some (.int v3)]) (by decide +kernel) (Nat.le_of_ble_eq_true rfl) rfl ?_
  intro κ X hR
  have X : sx_X d κ cX5_put 4 RX5 (sx_rm 2) := X
  unfold fX5_put at hf
  refine g_aload_n (pc' := 1) X dX5_put_0 rfl rfl rfl ?_
  refine g_iload_n (pc' := 2) X dX5_put_1 rfl rfl rfl ?_
  refine g_callVi0 (pc' := 5) (As := [.int v1]) (b := (a 0)) (st := []) (w2 := fun x1 => [oX5 a s_many s_windMany s_year s_saidMany s_size s_readAt s_readPeaks s_readWinds s_readNumber s_undoMany s_keptMany, ai d (a 4) 30 s_pinned, ai d (a 5) 5 s_stored, ai d (a 6) 6 s_guides, ai d (a 15) 336 s_ahead]) X lk_X5_163 dX5_put_2 rfl rfl rfl (Nat.le_of_ble_eq_true rfl) ⟨Nat.le_of_ble_eq_true rfl, Nat.le_of_ble_eq_true rfl, Nat.le_of_ble_eq_true rfl, Nat.le_of_ble_eq_true rfl⟩ rfl [0] (by decide) rfl hf (fun l x1 h => ctX5_isPeak l d a s_many s_windMany s_year s_saidMany s_size s_readAt s_readPeaks s_readWinds s_readNumber s_undoMany s_keptMany v1 x1 h) (fun _ => rfl) (fun _ => rfl) (fun x1 hnx1 hf => ?_)
  refine g_if_eq (tgt := 25) (pc' := 8) X dX5_put_5 (by decide) rfl hf (fun hf => ?_) (fun hf => ?_)
  · refine g_iconst (v := -1) (pc' := 26) X dX5_put_25 rfl (by decide) ?_
    cases hf
    exact hR _ _ dX5_put_26 rfl
  · refine g_iload_n (pc' := 9) X dX5_put_8 rfl rfl rfl ?_
    refine g_callSi0 (pc' := 12) (As := [.int v2]) (st := []) (w2 := fun x2 => [oX5 a s_many s_windMany s_year s_saidMany s_size s_readAt s_readPeaks s_readWinds s_readNumber s_undoMany s_keptMany, ai d (a 4) 30 s_pinned, ai d (a 5) 5 s_stored, ai d (a 6) 6 s_guides, ai d (a 15) 336 s_ahead]) X lk_X5_170 dX5_put_9 rfl rfl rfl (Nat.le_of_ble_eq_true rfl) ⟨Nat.le_of_ble_eq_true rfl, Nat.le_of_ble_eq_true rfl, Nat.le_of_ble_eq_true rfl, Nat.le_of_ble_eq_true rfl⟩ [] (by decide) rfl hf (fun l x2 h => ctX5_isTrimming l d v2 x2 h) (fun _ => rfl) (fun _ => rfl) (fun x2 hnx2 hf => ?_)
    refine g_if_eq (tgt := 25) (pc' := 15) X dX5_put_12 (by decide) rfl hf (fun hf => ?_) (fun hf => ?_)
    · refine g_iconst (v := -1) (pc' := 26) X dX5_put_25 rfl (by decide) ?_
      cases hf
      exact hR _ _ dX5_put_26 rfl
    · refine g_iload_n (pc' := 16) X dX5_put_15 rfl rfl rfl ?_
      refine g_iconst (v := 1) (pc' := 17) X dX5_put_16 rfl (by decide) ?_
      refine g_bipush (v := 20) (pc' := 19) X dX5_put_17 rfl (by decide) ?_
      refine g_callSi0 (pc' := 22) (As := [.int v3, .int (1 : Int32), .int (20 : Int32)]) (st := []) (w2 := fun x3 => [oX5 a s_many s_windMany s_year s_saidMany s_size s_readAt s_readPeaks s_readWinds s_readNumber s_undoMany s_keptMany, ai d (a 4) 30 s_pinned, ai d (a 5) 5 s_stored, ai d (a 6) 6 s_guides, ai d (a 15) 336 s_ahead]) X lk_X5_81 dX5_put_19 rfl rfl rfl (Nat.le_of_ble_eq_true rfl) ⟨Nat.le_of_ble_eq_true rfl, Nat.le_of_ble_eq_true rfl, Nat.le_of_ble_eq_true rfl, Nat.le_of_ble_eq_true rfl⟩ [] (by decide) rfl hf (fun l x3 h => ctX5_in l d v3 (1 : Int32) (20 : Int32) x3 h) (fun _ => rfl) (fun _ => rfl) (fun x3 hnx3 hf => ?_)
      refine g_if_ne (tgt := 27) (pc' := 25) X dX5_put_22 (by decide) rfl hf (fun hf => ?_) (fun hf => ?_)
      · refine g_aload_n (pc' := 28) X dX5_put_27 rfl rfl rfl ?_
        refine g_iload_n (pc' := 29) X dX5_put_28 rfl rfl rfl ?_
        refine g_iload_n (pc' := 30) X dX5_put_29 rfl rfl rfl ?_
        refine g_callVi0 (pc' := 33) (As := [.int v1, .int v2]) (b := (a 0)) (st := []) (w2 := fun x4 => [oX5 a s_many s_windMany s_year s_saidMany s_size s_readAt s_readPeaks s_readWinds s_readNumber s_undoMany s_keptMany, ai d (a 4) 30 s_pinned, ai d (a 5) 5 s_stored, ai d (a 6) 6 s_guides, ai d (a 15) 336 s_ahead]) X lk_X5_177 dX5_put_30 rfl rfl rfl (Nat.le_of_ble_eq_true rfl) ⟨Nat.le_of_ble_eq_true rfl, Nat.le_of_ble_eq_true rfl, Nat.le_of_ble_eq_true rfl, Nat.le_of_ble_eq_true rfl⟩ rfl [0, 1, 2] (by decide) rfl hf (fun l x4 h => ctX5_mayPut l d a s_many s_windMany s_year s_saidMany s_size s_readAt s_readPeaks s_readWinds s_readNumber s_undoMany s_keptMany s_pinned s_stored v1 v2 x4 h) (fun _ => rfl) (fun _ => rfl) (fun x4 hnx4 hf => ?_)
        refine g_if_ne (tgt := 39) (pc' := 36) X dX5_put_33 (by decide) rfl hf (fun hf => ?_) (fun hf => ?_)
        · refine g_aload_n (pc' := 40) X dX5_put_39 rfl rfl rfl ?_
          refine g_callVv2 (pc' := 43) (As := []) (b := (a 0)) (st := []) (w2 := fun o5 o6 => [oX5 a s_many s_windMany s_year s_saidMany s_size s_readAt s_readPeaks s_readWinds s_readNumber o5 s_keptMany, ai d (a 4) 30 s_pinned, ai d (a 5) 5 s_stored, ai d (a 6) 6 s_guides, ai d (a 15) 336 o6]) X lk_X5_180 dX5_put_40 rfl rfl rfl (Nat.le_of_ble_eq_true rfl) ⟨Nat.le_of_ble_eq_true rfl, Nat.le_of_ble_eq_true rfl, Nat.le_of_ble_eq_true rfl, Nat.le_of_ble_eq_true rfl⟩ rfl [0, 1, 2, 3, 4] (by decide) rfl hf (fun l o5 o6 h => ctX5_notes l d a s_many s_windMany s_year s_saidMany s_size s_readAt s_readPeaks s_readWinds s_readNumber s_undoMany s_keptMany s_pinned s_stored s_guides s_ahead o5 o6 h) (fun _ _ => rfl) (fun _ _ => rfl) (fun o5 o6 hf => ?_)
          refine g_aload_n (pc' := 44) X dX5_put_43 rfl rfl rfl ?_
          refine g_iload_n (pc' := 45) X dX5_put_44 rfl rfl rfl ?_
          refine g_iload_n (pc' := 46) X dX5_put_45 rfl rfl rfl ?_
          refine g_iload_n (pc' := 47) X dX5_put_46 rfl rfl rfl ?_
          refine g_callVv2 (pc' := 50) (As := [.int v1, .int v2, .int v3]) (b := (a 0)) (st := []) (w2 := fun o7 o8 => [oX5 a s_many s_windMany s_year s_saidMany s_size s_readAt s_readPeaks s_readWinds s_readNumber o5 s_keptMany, ai d (a 4) 30 o7, ai d (a 5) 5 o8, ai d (a 6) 6 s_guides, ai d (a 15) 336 o6]) X lk_X5_183 dX5_put_47 rfl rfl rfl (Nat.le_of_ble_eq_true rfl) ⟨Nat.le_of_ble_eq_true rfl, Nat.le_of_ble_eq_true rfl, Nat.le_of_ble_eq_true rfl, Nat.le_of_ble_eq_true rfl⟩ rfl [0, 1, 2] (by decide) rfl hf (fun l o7 o8 h => ctX5_puts l d a s_many s_windMany s_year s_saidMany s_size s_readAt s_readPeaks s_readWinds s_readNumber o5 s_keptMany s_pinned s_stored v1 v2 v3 o7 o8 h) (fun _ _ => rfl) (fun _ _ => rfl) (fun o7 o8 hf => ?_)
          refine g_aload_n (pc' := 51) X dX5_put_50 rfl rfl rfl ?_
          refine g_iload_n (pc' := 52) X dX5_put_51 rfl rfl rfl ?_
          refine g_callVi0 (pc' := 55) (As := [.int v1]) (b := (a 0)) (st := []) (w2 := fun x9 => [oX5 a s_many s_windMany s_year s_saidMany s_size s_readAt s_readPeaks s_readWinds s_readNumber o5 s_keptMany, ai d (a 4) 30 o7, ai d (a 5) 5 o8, ai d (a 6) 6 s_guides, ai d (a 15) 336 o6]) X lk_X5_85 dX5_put_52 rfl rfl rfl (Nat.le_of_ble_eq_true rfl) ⟨Nat.le_of_ble_eq_true rfl, Nat.le_of_ble_eq_true rfl, Nat.le_of_ble_eq_true rfl, Nat.le_of_ble_eq_true rfl⟩ rfl [0, 1] (by decide) rfl hf (fun l x9 h => ctX5_looks l d a s_many s_windMany s_year s_saidMany s_size s_readAt s_readPeaks s_readWinds s_readNumber o5 s_keptMany o7 v1 x9 h) (fun _ => rfl) (fun _ => rfl) (fun x9 hnx9 hf => ?_)
          cases hf
          exact hR _ _ dX5_put_55 rfl
        · refine g_bipush (v := -2) (pc' := 38) X dX5_put_36 rfl (by decide) ?_
          cases hf
          exact hR _ _ dX5_put_38 rfl
      · refine g_iconst (v := -1) (pc' := 26) X dX5_put_25 rfl (by decide) ?_
        cases hf
        exact hR _ _ dX5_put_26 rfl
-- X5_take
def fX5_take (s_many : Int32) (s_year : Int32) (s_undoMany : Int32) (s_pinned : Nat → Int32) (s_stored : Nat → Int32) (s_guides : Nat → Int32) (s_ahead : Nat → Int32) (v1 : Int32) (v2 : Int32) : Option (Int32 × Int32 × (Nat → Int32) × (Nat → Int32) × (Nat → Int32)) :=
  (fX5_isPeak s_many v1).bind fun x1 =>
  if x1 = 0 then
    some ((-1 : Int32), s_undoMany, s_pinned, s_stored, s_ahead)
  else
    (fX5_isTrimming v2).bind fun x2 =>
    if x2 = 0 then
      some ((-1 : Int32), s_undoMany, s_pinned, s_stored, s_ahead)
    else
      sx_rd s_pinned 30 (((5 : Int32) * v1) + v2) fun x3 =>
      if x3 = 0 then
        some ((-2 : Int32), s_undoMany, s_pinned, s_stored, s_ahead)
      else
        (fX5_notes s_year s_undoMany s_pinned s_stored s_guides s_ahead).bind fun (o4, o5) =>
        (fX5_takesOff s_pinned s_stored v1 v2).bind fun (o6, o7) =>
        (fX5_looks o6 v1).bind fun x8 =>
        some (x8, o4, o6, o7, o5)
set_option maxHeartbeats 4000000 in
set_option maxRecDepth 100000 in
theorem ctX5_take (l : Launch) (d : sx_D) (a : Nat → Nat) (s_many : Int32) (s_windMany : Int32) (s_year : Int32) (s_saidMany : Int32) (s_size : Int32) (s_readAt : Int32) (s_readPeaks : Int32) (s_readWinds : Int32) (s_readNumber : Int32) (s_undoMany : Int32) (s_keptMany : Int32) (s_pinned : Nat → Int32) (s_stored : Nat → Int32) (s_guides : Nat → Int32) (s_ahead : Nat → Int32) (v1 : Int32) (v2 : Int32) (r : Int32) (ro1 : Int32) (ro2 : Nat → Int32) (ro3 : Nat → Int32) (ro4 : Nat → Int32) (hf : fX5_take s_many s_year s_undoMany s_pinned s_stored s_guides s_ahead v1 v2 = some (r, ro1, ro2, ro3, ro4)) : sx_I l d yX5_take cX5_take 3 .int 2 [.ref (a 0), .int v1, .int v2] [oX5 a s_many s_windMany s_year s_saidMany s_size s_readAt s_readPeaks s_readWinds s_readNumber s_undoMany s_keptMany, ai d (a 4) 30 s_pinned, ai d (a 5) 5 s_stored, ai d (a 6) 6 s_guides, ai d (a 15) 336 s_ahead] [oX5 a s_many s_windMany s_year s_saidMany s_size s_readAt s_readPeaks s_readWinds s_readNumber ro1 s_keptMany, ai d (a 4) 30 ro2, ai d (a 5) 5 ro3, ai d (a 6) 6 s_guides, ai d (a 15) 336 ro4] r := by
  refine sx_I.intro (lv0 := [some (.ref (a 0)), some (.int v1), some (.int v2)]) (by decide +kernel) (Nat.le_of_ble_eq_true rfl) rfl ?_
  intro κ X hR
  have X : sx_X d κ cX5_take 3 RX5 (sx_rm 2) := X
  unfold fX5_take at hf
  refine g_aload_n (pc' := 1) X dX5_take_0 rfl rfl rfl ?_
  refine g_iload_n (pc' := 2) X dX5_take_1 rfl rfl rfl ?_
  refine g_callVi0 (pc' := 5) (As := [.int v1]) (b := (a 0)) (st := []) (w2 := fun x1 => [oX5 a s_many s_windMany s_year s_saidMany s_size s_readAt s_readPeaks s_readWinds s_readNumber s_undoMany s_keptMany, ai d (a 4) 30 s_pinned, ai d (a 5) 5 s_stored, ai d (a 6) 6 s_guides, ai d (a 15) 336 s_ahead]) X lk_X5_163 dX5_take_2 rfl rfl rfl (Nat.le_of_ble_eq_true rfl) ⟨Nat.le_of_ble_eq_true rfl, Nat.le_of_ble_eq_true rfl, Nat.le_of_ble_eq_true rfl, Nat.le_of_ble_eq_true rfl⟩ rfl [0] (by decide) rfl hf (fun l x1 h => ctX5_isPeak l d a s_many s_windMany s_year s_saidMany s_size s_readAt s_readPeaks s_readWinds s_readNumber s_undoMany s_keptMany v1 x1 h) (fun _ => rfl) (fun _ => rfl) (fun x1 hnx1 hf => ?_)
  refine g_if_eq (tgt := 15) (pc' := 8) X dX5_take_5 (by decide) rfl hf (fun hf => ?_) (fun hf => ?_)
  · refine g_iconst (v := -1) (pc' := 16) X dX5_take_15 rfl (by decide) ?_
    cases hf
    exact hR _ _ dX5_take_16 rfl
  · refine g_iload_n (pc' := 9) X dX5_take_8 rfl rfl rfl ?_
    refine g_callSi0 (pc' := 12) (As := [.int v2]) (st := []) (w2 := fun x2 => [oX5 a s_many s_windMany s_year s_saidMany s_size s_readAt s_readPeaks s_readWinds s_readNumber s_undoMany s_keptMany, ai d (a 4) 30 s_pinned, ai d (a 5) 5 s_stored, ai d (a 6) 6 s_guides, ai d (a 15) 336 s_ahead]) X lk_X5_170 dX5_take_9 rfl rfl rfl (Nat.le_of_ble_eq_true rfl) ⟨Nat.le_of_ble_eq_true rfl, Nat.le_of_ble_eq_true rfl, Nat.le_of_ble_eq_true rfl, Nat.le_of_ble_eq_true rfl⟩ [] (by decide) rfl hf (fun l x2 h => ctX5_isTrimming l d v2 x2 h) (fun _ => rfl) (fun _ => rfl) (fun x2 hnx2 hf => ?_)
    refine g_if_ne (tgt := 17) (pc' := 15) X dX5_take_12 (by decide) rfl hf (fun hf => ?_) (fun hf => ?_)
    · refine g_aload_n (pc' := 18) X dX5_take_17 rfl rfl rfl ?_
      refine g_get (pc' := 21) X fl_X5_19 dX5_take_18 rfl 0 rfl rfl ?_
      refine g_iconst (v := 5) (pc' := 22) X dX5_take_21 rfl (by decide) ?_
      refine g_iload_n (pc' := 23) X dX5_take_22 rfl rfl rfl ?_
      refine g_imul (pc' := 24) X dX5_take_23 rfl ?_
      refine g_iload_n (pc' := 25) X dX5_take_24 rfl rfl rfl ?_
      refine g_iadd (pc' := 26) X dX5_take_25 rfl ?_
      refine g_iald (pc' := 27) X dX5_take_26 rfl 1 rfl hf (fun x3 hf => ?_)
      refine g_if_ne (tgt := 33) (pc' := 30) X dX5_take_27 (by decide) rfl hf (fun hf => ?_) (fun hf => ?_)
      · refine g_aload_n (pc' := 34) X dX5_take_33 rfl rfl rfl ?_
        refine g_callVv2 (pc' := 37) (As := []) (b := (a 0)) (st := []) (w2 := fun o4 o5 => [oX5 a s_many s_windMany s_year s_saidMany s_size s_readAt s_readPeaks s_readWinds s_readNumber o4 s_keptMany, ai d (a 4) 30 s_pinned, ai d (a 5) 5 s_stored, ai d (a 6) 6 s_guides, ai d (a 15) 336 o5]) X lk_X5_180 dX5_take_34 rfl rfl rfl (Nat.le_of_ble_eq_true rfl) ⟨Nat.le_of_ble_eq_true rfl, Nat.le_of_ble_eq_true rfl, Nat.le_of_ble_eq_true rfl, Nat.le_of_ble_eq_true rfl⟩ rfl [0, 1, 2, 3, 4] (by decide) rfl hf (fun l o4 o5 h => ctX5_notes l d a s_many s_windMany s_year s_saidMany s_size s_readAt s_readPeaks s_readWinds s_readNumber s_undoMany s_keptMany s_pinned s_stored s_guides s_ahead o4 o5 h) (fun _ _ => rfl) (fun _ _ => rfl) (fun o4 o5 hf => ?_)
        refine g_aload_n (pc' := 38) X dX5_take_37 rfl rfl rfl ?_
        refine g_iload_n (pc' := 39) X dX5_take_38 rfl rfl rfl ?_
        refine g_iload_n (pc' := 40) X dX5_take_39 rfl rfl rfl ?_
        refine g_callVv2 (pc' := 43) (As := [.int v1, .int v2]) (b := (a 0)) (st := []) (w2 := fun o6 o7 => [oX5 a s_many s_windMany s_year s_saidMany s_size s_readAt s_readPeaks s_readWinds s_readNumber o4 s_keptMany, ai d (a 4) 30 o6, ai d (a 5) 5 o7, ai d (a 6) 6 s_guides, ai d (a 15) 336 o5]) X lk_X5_187 dX5_take_40 rfl rfl rfl (Nat.le_of_ble_eq_true rfl) ⟨Nat.le_of_ble_eq_true rfl, Nat.le_of_ble_eq_true rfl, Nat.le_of_ble_eq_true rfl, Nat.le_of_ble_eq_true rfl⟩ rfl [0, 1, 2] (by decide) rfl hf (fun l o6 o7 h => ctX5_takesOff l d a s_many s_windMany s_year s_saidMany s_size s_readAt s_readPeaks s_readWinds s_readNumber o4 s_keptMany s_pinned s_stored v1 v2 o6 o7 h) (fun _ _ => rfl) (fun _ _ => rfl) (fun o6 o7 hf => ?_)
        refine g_aload_n (pc' := 44) X dX5_take_43 rfl rfl rfl ?_
        refine g_iload_n (pc' := 45) X dX5_take_44 rfl rfl rfl ?_
        refine g_callVi0 (pc' := 48) (As := [.int v1]) (b := (a 0)) (st := []) (w2 := fun x8 => [oX5 a s_many s_windMany s_year s_saidMany s_size s_readAt s_readPeaks s_readWinds s_readNumber o4 s_keptMany, ai d (a 4) 30 o6, ai d (a 5) 5 o7, ai d (a 6) 6 s_guides, ai d (a 15) 336 o5]) X lk_X5_85 dX5_take_45 rfl rfl rfl (Nat.le_of_ble_eq_true rfl) ⟨Nat.le_of_ble_eq_true rfl, Nat.le_of_ble_eq_true rfl, Nat.le_of_ble_eq_true rfl, Nat.le_of_ble_eq_true rfl⟩ rfl [0, 1] (by decide) rfl hf (fun l x8 h => ctX5_looks l d a s_many s_windMany s_year s_saidMany s_size s_readAt s_readPeaks s_readWinds s_readNumber o4 s_keptMany o6 v1 x8 h) (fun _ => rfl) (fun _ => rfl) (fun x8 hnx8 hf => ?_)
        cases hf
        exact hR _ _ dX5_take_48 rfl
      · refine g_bipush (v := -2) (pc' := 32) X dX5_take_30 rfl (by decide) ?_
        cases hf
        exact hR _ _ dX5_take_32 rfl
    · refine g_iconst (v := -1) (pc' := 16) X dX5_take_15 rfl (by decide) ?_
      cases hf
      exact hR _ _ dX5_take_16 rfl
-- X5_pin
def fX5_pin (s_many : Int32) (s_year : Int32) (s_undoMany : Int32) (s_pinned : Nat → Int32) (s_stored : Nat → Int32) (s_guides : Nat → Int32) (s_ahead : Nat → Int32) (v1 : Int32) (v2 : Int32) (v3 : Int32) : Option (Int32 × Int32 × (Nat → Int32) × (Nat → Int32)) :=
  (fX5_isPeak s_many v1).bind fun x1 =>
  if x1 = 0 then
    some ((-1 : Int32), s_undoMany, s_pinned, s_ahead)
  else
    (fX5_isTrimming v2).bind fun x2 =>
    if x2 = 0 then
      some ((-1 : Int32), s_undoMany, s_pinned, s_ahead)
    else
      (fX5_in v3 (1 : Int32) (20 : Int32)).bind fun x3 =>
      if x3 = 0 then
        some ((-1 : Int32), s_undoMany, s_pinned, s_ahead)
      else
        sx_rd s_pinned 30 (((5 : Int32) * v1) + v2) fun x4 =>
        if x4 = 0 then
          some ((-2 : Int32), s_undoMany, s_pinned, s_ahead)
        else
          (fX5_notes s_year s_undoMany s_pinned s_stored s_guides s_ahead).bind fun (o5, o6) =>
          sx_wr s_pinned 30 (((5 : Int32) * v1) + v2) v3 fun g7 =>
          some (x4, o5, g7, o6)
set_option maxHeartbeats 4000000 in
set_option maxRecDepth 100000 in
theorem ctX5_pin (l : Launch) (d : sx_D) (a : Nat → Nat) (s_many : Int32) (s_windMany : Int32) (s_year : Int32) (s_saidMany : Int32) (s_size : Int32) (s_readAt : Int32) (s_readPeaks : Int32) (s_readWinds : Int32) (s_readNumber : Int32) (s_undoMany : Int32) (s_keptMany : Int32) (s_pinned : Nat → Int32) (s_stored : Nat → Int32) (s_guides : Nat → Int32) (s_ahead : Nat → Int32) (v1 : Int32) (v2 : Int32) (v3 : Int32) (r : Int32) (ro1 : Int32) (ro2 : Nat → Int32) (ro3 : Nat → Int32) (hf : fX5_pin s_many s_year s_undoMany s_pinned s_stored s_guides s_ahead v1 v2 v3 = some (r, ro1, ro2, ro3)) : sx_I l d yX5_pin cX5_pin 5 .int 2 [.ref (a 0), .int v1, .int v2, .int v3] [oX5 a s_many s_windMany s_year s_saidMany s_size s_readAt s_readPeaks s_readWinds s_readNumber s_undoMany s_keptMany, ai d (a 4) 30 s_pinned, ai d (a 5) 5 s_stored, ai d (a 6) 6 s_guides, ai d (a 15) 336 s_ahead] [oX5 a s_many s_windMany s_year s_saidMany s_size s_readAt s_readPeaks s_readWinds s_readNumber ro1 s_keptMany, ai d (a 4) 30 ro2, ai d (a 5) 5 s_stored, ai d (a 6) 6 s_guides, ai d (a 15) 336 ro3] r := by
  refine sx_I.intro (lv0 := [some (.ref (a 0)), some (.int v1), some (.int v2), some (.int v3), none]) (by decide +kernel) (Nat.le_of_ble_eq_true rfl) rfl ?_
  intro κ X hR
  have X : sx_X d κ cX5_pin 5 RX5 (sx_rm 2) := X
  unfold fX5_pin at hf
  refine g_aload_n (pc' := 1) X dX5_pin_0 rfl rfl rfl ?_
  refine g_iload_n (pc' := 2) X dX5_pin_1 rfl rfl rfl ?_
  refine g_callVi0 (pc' := 5) (As := [.int v1]) (b := (a 0)) (st := []) (w2 := fun x1 => [oX5 a s_many s_windMany s_year s_saidMany s_size s_readAt s_readPeaks s_readWinds s_readNumber s_undoMany s_keptMany, ai d (a 4) 30 s_pinned, ai d (a 5) 5 s_stored, ai d (a 6) 6 s_guides, ai d (a 15) 336 s_ahead]) X lk_X5_163 dX5_pin_2 rfl rfl rfl (Nat.le_of_ble_eq_true rfl) ⟨Nat.le_of_ble_eq_true rfl, Nat.le_of_ble_eq_true rfl, Nat.le_of_ble_eq_true rfl, Nat.le_of_ble_eq_true rfl⟩ rfl [0] (by decide) rfl hf (fun l x1 h => ctX5_isPeak l d a s_many s_windMany s_year s_saidMany s_size s_readAt s_readPeaks s_readWinds s_readNumber s_undoMany s_keptMany v1 x1 h) (fun _ => rfl) (fun _ => rfl) (fun x1 hnx1 hf => ?_)
  refine g_if_eq (tgt := 25) (pc' := 8) X dX5_pin_5 (by decide) rfl hf (fun hf => ?_) (fun hf => ?_)
  · refine g_iconst (v := -1) (pc' := 26) X dX5_pin_25 rfl (by decide) ?_
    cases hf
    exact hR _ _ dX5_pin_26 rfl
  · refine g_iload_n (pc' := 9) X dX5_pin_8 rfl rfl rfl ?_
    refine g_callSi0 (pc' := 12) (As := [.int v2]) (st := []) (w2 := fun x2 => [oX5 a s_many s_windMany s_year s_saidMany s_size s_readAt s_readPeaks s_readWinds s_readNumber s_undoMany s_keptMany, ai d (a 4) 30 s_pinned, ai d (a 5) 5 s_stored, ai d (a 6) 6 s_guides, ai d (a 15) 336 s_ahead]) X lk_X5_170 dX5_pin_9 rfl rfl rfl (Nat.le_of_ble_eq_true rfl) ⟨Nat.le_of_ble_eq_true rfl, Nat.le_of_ble_eq_true rfl, Nat.le_of_ble_eq_true rfl, Nat.le_of_ble_eq_true rfl⟩ [] (by decide) rfl hf (fun l x2 h => ctX5_isTrimming l d v2 x2 h) (fun _ => rfl) (fun _ => rfl) (fun x2 hnx2 hf => ?_)
    refine g_if_eq (tgt := 25) (pc' := 15) X dX5_pin_12 (by decide) rfl hf (fun hf => ?_) (fun hf => ?_)
    · refine g_iconst (v := -1) (pc' := 26) X dX5_pin_25 rfl (by decide) ?_
      cases hf
      exact hR _ _ dX5_pin_26 rfl
    · refine g_iload_n (pc' := 16) X dX5_pin_15 rfl rfl rfl ?_
      refine g_iconst (v := 1) (pc' := 17) X dX5_pin_16 rfl (by decide) ?_
      refine g_bipush (v := 20) (pc' := 19) X dX5_pin_17 rfl (by decide) ?_
      refine g_callSi0 (pc' := 22) (As := [.int v3, .int (1 : Int32), .int (20 : Int32)]) (st := []) (w2 := fun x3 => [oX5 a s_many s_windMany s_year s_saidMany s_size s_readAt s_readPeaks s_readWinds s_readNumber s_undoMany s_keptMany, ai d (a 4) 30 s_pinned, ai d (a 5) 5 s_stored, ai d (a 6) 6 s_guides, ai d (a 15) 336 s_ahead]) X lk_X5_81 dX5_pin_19 rfl rfl rfl (Nat.le_of_ble_eq_true rfl) ⟨Nat.le_of_ble_eq_true rfl, Nat.le_of_ble_eq_true rfl, Nat.le_of_ble_eq_true rfl, Nat.le_of_ble_eq_true rfl⟩ [] (by decide) rfl hf (fun l x3 h => ctX5_in l d v3 (1 : Int32) (20 : Int32) x3 h) (fun _ => rfl) (fun _ => rfl) (fun x3 hnx3 hf => ?_)
      refine g_if_ne (tgt := 27) (pc' := 25) X dX5_pin_22 (by decide) rfl hf (fun hf => ?_) (fun hf => ?_)
      · refine g_aload_n (pc' := 28) X dX5_pin_27 rfl rfl rfl ?_
        refine g_get (pc' := 31) X fl_X5_19 dX5_pin_28 rfl 0 rfl rfl ?_
        refine g_iconst (v := 5) (pc' := 32) X dX5_pin_31 rfl (by decide) ?_
        refine g_iload_n (pc' := 33) X dX5_pin_32 rfl rfl rfl ?_
        refine g_imul (pc' := 34) X dX5_pin_33 rfl ?_
        refine g_iload_n (pc' := 35) X dX5_pin_34 rfl rfl rfl ?_
        refine g_iadd (pc' := 36) X dX5_pin_35 rfl ?_
        refine g_iald (pc' := 37) X dX5_pin_36 rfl 1 rfl hf (fun x4 hf => ?_)
        refine g_istore (lv' := [some (.ref (a 0)), some (.int v1), some (.int v2), some (.int v3), some (.int x4)]) (pc' := 39) X dX5_pin_37 rfl (by decide) rfl rfl ?_
        refine g_iload (pc' := 41) X dX5_pin_39 rfl rfl ?_
        refine g_if_ne (tgt := 47) (pc' := 44) X dX5_pin_41 (by decide) rfl hf (fun hf => ?_) (fun hf => ?_)
        · refine g_aload_n (pc' := 48) X dX5_pin_47 rfl rfl rfl ?_
          refine g_callVv2 (pc' := 51) (As := []) (b := (a 0)) (st := []) (w2 := fun o5 o6 => [oX5 a s_many s_windMany s_year s_saidMany s_size s_readAt s_readPeaks s_readWinds s_readNumber o5 s_keptMany, ai d (a 4) 30 s_pinned, ai d (a 5) 5 s_stored, ai d (a 6) 6 s_guides, ai d (a 15) 336 o6]) X lk_X5_180 dX5_pin_48 rfl rfl rfl (Nat.le_of_ble_eq_true rfl) ⟨Nat.le_of_ble_eq_true rfl, Nat.le_of_ble_eq_true rfl, Nat.le_of_ble_eq_true rfl, Nat.le_of_ble_eq_true rfl⟩ rfl [0, 1, 2, 3, 4] (by decide) rfl hf (fun l o5 o6 h => ctX5_notes l d a s_many s_windMany s_year s_saidMany s_size s_readAt s_readPeaks s_readWinds s_readNumber s_undoMany s_keptMany s_pinned s_stored s_guides s_ahead o5 o6 h) (fun _ _ => rfl) (fun _ _ => rfl) (fun o5 o6 hf => ?_)
          refine g_aload_n (pc' := 52) X dX5_pin_51 rfl rfl rfl ?_
          refine g_get (pc' := 55) X fl_X5_19 dX5_pin_52 rfl 0 rfl rfl ?_
          refine g_iconst (v := 5) (pc' := 56) X dX5_pin_55 rfl (by decide) ?_
          refine g_iload_n (pc' := 57) X dX5_pin_56 rfl rfl rfl ?_
          refine g_imul (pc' := 58) X dX5_pin_57 rfl ?_
          refine g_iload_n (pc' := 59) X dX5_pin_58 rfl rfl rfl ?_
          refine g_iadd (pc' := 60) X dX5_pin_59 rfl ?_
          refine g_iload_n (pc' := 61) X dX5_pin_60 rfl rfl rfl ?_
          refine g_iast (pc' := 62) (w2 := fun g7 => [oX5 a s_many s_windMany s_year s_saidMany s_size s_readAt s_readPeaks s_readWinds s_readNumber o5 s_keptMany, ai d (a 4) 30 g7, ai d (a 5) 5 s_stored, ai d (a 6) 6 s_guides, ai d (a 15) 336 o6]) X dX5_pin_61 rfl 1 rfl hf (fun _ => rfl) (fun g7 hf => ?_)
          refine g_iload (pc' := 64) X dX5_pin_62 rfl rfl ?_
          cases hf
          exact hR _ _ dX5_pin_64 rfl
        · refine g_bipush (v := -2) (pc' := 46) X dX5_pin_44 rfl (by decide) ?_
          cases hf
          exact hR _ _ dX5_pin_46 rfl
      · refine g_iconst (v := -1) (pc' := 26) X dX5_pin_25 rfl (by decide) ?_
        cases hf
        exact hR _ _ dX5_pin_26 rfl
-- X5_pass
def fX5_pass (s_many : Int32) (s_windMany : Int32) (s_year : Int32) (s_undoMany : Int32) (s_kindOf : Nat → Int32) (s_winds : Nat → Int32) (s_pinned : Nat → Int32) (s_stored : Nat → Int32) (s_guides : Nat → Int32) (s_ahead : Nat → Int32) (v1 : Int32) : Option (Int32 × Int32 × Int32 × (Nat → Int32) × (Nat → Int32) × (Nat → Int32)) :=
  (fX5_in v1 (1 : Int32) (20 : Int32)).bind fun x1 =>
  if x1 = 0 then
    some ((-1 : Int32), s_year, s_undoMany, s_pinned, s_guides, s_ahead)
  else
    if (s_year + v1) ≤ (999 : Int32) then
      (fX5_notes s_year s_undoMany s_pinned s_stored s_guides s_ahead).bind fun (o2, o3) =>
      (fX5_goesOn s_many s_windMany s_year s_kindOf s_winds s_pinned s_guides v1).bind fun (o4, o5, o6) =>
      some (o4, o4, o2, o5, o6, o3)
    else
      some ((-2 : Int32), s_year, s_undoMany, s_pinned, s_guides, s_ahead)
set_option maxHeartbeats 4000000 in
set_option maxRecDepth 100000 in
theorem ctX5_pass (l : Launch) (d : sx_D) (a : Nat → Nat) (s_many : Int32) (s_windMany : Int32) (s_year : Int32) (s_saidMany : Int32) (s_size : Int32) (s_readAt : Int32) (s_readPeaks : Int32) (s_readWinds : Int32) (s_readNumber : Int32) (s_undoMany : Int32) (s_keptMany : Int32) (s_kindOf : Nat → Int32) (s_winds : Nat → Int32) (s_pinned : Nat → Int32) (s_stored : Nat → Int32) (s_guides : Nat → Int32) (s_ahead : Nat → Int32) (v1 : Int32) (r : Int32) (ro1 : Int32) (ro2 : Int32) (ro3 : Nat → Int32) (ro4 : Nat → Int32) (ro5 : Nat → Int32) (hf : fX5_pass s_many s_windMany s_year s_undoMany s_kindOf s_winds s_pinned s_stored s_guides s_ahead v1 = some (r, ro1, ro2, ro3, ro4, ro5)) : sx_I l d yX5_pass cX5_pass 2 .int 4 [.ref (a 0), .int v1] [oX5 a s_many s_windMany s_year s_saidMany s_size s_readAt s_readPeaks s_readWinds s_readNumber s_undoMany s_keptMany, ai d (a 1) 6 s_kindOf, ai d (a 3) 12 s_winds, ai d (a 4) 30 s_pinned, ai d (a 5) 5 s_stored, ai d (a 6) 6 s_guides, ai d (a 15) 336 s_ahead] [oX5 a s_many s_windMany ro1 s_saidMany s_size s_readAt s_readPeaks s_readWinds s_readNumber ro2 s_keptMany, ai d (a 1) 6 s_kindOf, ai d (a 3) 12 s_winds, ai d (a 4) 30 ro3, ai d (a 5) 5 s_stored, ai d (a 6) 6 ro4, ai d (a 15) 336 ro5] r := by
  refine sx_I.intro (lv0 := [some (.ref (a 0)), some (.int v1)]) (by decide +kernel) (Nat.le_of_ble_eq_true rfl) rfl ?_
  intro κ X hR
  have X : sx_X d κ cX5_pass 2 RX5 (sx_rm 4) := X
  unfold fX5_pass at hf
  refine g_iload_n (pc' := 1) X dX5_pass_0 rfl rfl rfl ?_
  refine g_iconst (v := 1) (pc' := 2) X dX5_pass_1 rfl (by decide) ?_
  refine g_bipush (v := 20) (pc' := 4) X dX5_pass_2 rfl (by decide) ?_
  refine g_callSi0 (pc' := 7) (As := [.int v1, .int (1 : Int32), .int (20 : Int32)]) (st := []) (w2 := fun x1 => [oX5 a s_many s_windMany s_year s_saidMany s_size s_readAt s_readPeaks s_readWinds s_readNumber s_undoMany s_keptMany, ai d (a 1) 6 s_kindOf, ai d (a 3) 12 s_winds, ai d (a 4) 30 s_pinned, ai d (a 5) 5 s_stored, ai d (a 6) 6 s_guides, ai d (a 15) 336 s_ahead]) X lk_X5_81 dX5_pass_4 rfl rfl rfl (Nat.le_of_ble_eq_true rfl) ⟨Nat.le_of_ble_eq_true rfl, Nat.le_of_ble_eq_true rfl, Nat.le_of_ble_eq_true rfl, Nat.le_of_ble_eq_true rfl⟩ [] (by decide) rfl hf (fun l x1 h => ctX5_in l d v1 (1 : Int32) (20 : Int32) x1 h) (fun _ => rfl) (fun _ => rfl) (fun x1 hnx1 hf => ?_)
  refine g_if_ne (tgt := 12) (pc' := 10) X dX5_pass_7 (by decide) rfl hf (fun hf => ?_) (fun hf => ?_)
  · refine g_aload_n (pc' := 13) X dX5_pass_12 rfl rfl rfl ?_
    refine g_get (pc' := 16) X fl_X5_133 dX5_pass_13 rfl 0 rfl rfl ?_
    refine g_iload_n (pc' := 17) X dX5_pass_16 rfl rfl rfl ?_
    refine g_iadd (pc' := 18) X dX5_pass_17 rfl ?_
    refine g_sipush (v := 999) (pc' := 21) X dX5_pass_18 rfl (by decide) ?_
    refine g_icmp_le (tgt := 27) (pc' := 24) X dX5_pass_21 (by decide) rfl hf (fun hf => ?_) (fun hf => ?_)
    · refine g_aload_n (pc' := 28) X dX5_pass_27 rfl rfl rfl ?_
      refine g_callVv2 (pc' := 31) (As := []) (b := (a 0)) (st := []) (w2 := fun o2 o3 => [oX5 a s_many s_windMany s_year s_saidMany s_size s_readAt s_readPeaks s_readWinds s_readNumber o2 s_keptMany, ai d (a 1) 6 s_kindOf, ai d (a 3) 12 s_winds, ai d (a 4) 30 s_pinned, ai d (a 5) 5 s_stored, ai d (a 6) 6 s_guides, ai d (a 15) 336 o3]) X lk_X5_180 dX5_pass_28 rfl rfl rfl (Nat.le_of_ble_eq_true rfl) ⟨Nat.le_of_ble_eq_true rfl, Nat.le_of_ble_eq_true rfl, Nat.le_of_ble_eq_true rfl, Nat.le_of_ble_eq_true rfl⟩ rfl [0, 3, 4, 5, 6] (by decide) rfl hf (fun l o2 o3 h => ctX5_notes l d a s_many s_windMany s_year s_saidMany s_size s_readAt s_readPeaks s_readWinds s_readNumber s_undoMany s_keptMany s_pinned s_stored s_guides s_ahead o2 o3 h) (fun _ _ => rfl) (fun _ _ => rfl) (fun o2 o3 hf => ?_)
      refine g_aload_n (pc' := 32) X dX5_pass_31 rfl rfl rfl ?_
      refine g_iload_n (pc' := 33) X dX5_pass_32 rfl rfl rfl ?_
      refine g_callVv3 (pc' := 36) (As := [.int v1]) (b := (a 0)) (st := []) (w2 := fun o4 o5 o6 => [oX5 a s_many s_windMany o4 s_saidMany s_size s_readAt s_readPeaks s_readWinds s_readNumber o2 s_keptMany, ai d (a 1) 6 s_kindOf, ai d (a 3) 12 s_winds, ai d (a 4) 30 o5, ai d (a 5) 5 s_stored, ai d (a 6) 6 o6, ai d (a 15) 336 o3]) X lk_X5_190 dX5_pass_33 rfl rfl rfl (Nat.le_of_ble_eq_true rfl) ⟨Nat.le_of_ble_eq_true rfl, Nat.le_of_ble_eq_true rfl, Nat.le_of_ble_eq_true rfl, Nat.le_of_ble_eq_true rfl⟩ rfl [0, 1, 2, 3, 5] (by decide) rfl hf (fun l o4 o5 o6 h => ctX5_goesOn l d a s_many s_windMany s_year s_saidMany s_size s_readAt s_readPeaks s_readWinds s_readNumber o2 s_keptMany s_kindOf s_winds s_pinned s_guides v1 o4 o5 o6 h) (fun _ _ _ => rfl) (fun _ _ _ => rfl) (fun o4 o5 o6 hf => ?_)
      refine g_aload_n (pc' := 37) X dX5_pass_36 rfl rfl rfl ?_
      refine g_get (pc' := 40) X fl_X5_133 dX5_pass_37 rfl 0 rfl rfl ?_
      cases hf
      exact hR _ _ dX5_pass_40 rfl
    · refine g_bipush (v := -2) (pc' := 26) X dX5_pass_24 rfl (by decide) ?_
      cases hf
      exact hR _ _ dX5_pass_26 rfl
  · refine g_iconst (v := -1) (pc' := 11) X dX5_pass_10 rfl (by decide) ?_
    cases hf
    exact hR _ _ dX5_pass_11 rfl
-- X5_undo
def fX5_undo (s_year : Int32) (s_undoMany : Int32) (s_pinned : Nat → Int32) (s_stored : Nat → Int32) (s_guides : Nat → Int32) (s_ahead : Nat → Int32) : Option (Int32 × Int32 × Int32 × (Nat → Int32) × (Nat → Int32) × (Nat → Int32)) :=
  if s_undoMany = 0 then
    some ((-2 : Int32), s_year, s_undoMany, s_pinned, s_stored, s_guides)
  else
    sx_lt (s_undoMany - (1 : Int32)) fun x1 =>
    (fX5_takes 336 s_year s_pinned s_stored s_guides s_ahead ((42 : Int32) * x1)).bind fun (o2, o3, o4, o5) =>
    some (x1, o2, x1, o3, o4, o5)
set_option maxHeartbeats 4000000 in
set_option maxRecDepth 100000 in
theorem ctX5_undo (l : Launch) (d : sx_D) (a : Nat → Nat) (s_many : Int32) (s_windMany : Int32) (s_year : Int32) (s_saidMany : Int32) (s_size : Int32) (s_readAt : Int32) (s_readPeaks : Int32) (s_readWinds : Int32) (s_readNumber : Int32) (s_undoMany : Int32) (s_keptMany : Int32) (s_pinned : Nat → Int32) (s_stored : Nat → Int32) (s_guides : Nat → Int32) (s_ahead : Nat → Int32) (r : Int32) (ro1 : Int32) (ro2 : Int32) (ro3 : Nat → Int32) (ro4 : Nat → Int32) (ro5 : Nat → Int32) (hf : fX5_undo s_year s_undoMany s_pinned s_stored s_guides s_ahead = some (r, ro1, ro2, ro3, ro4, ro5)) : sx_I l d yX5_undo cX5_undo 1 .int 1 [.ref (a 0)] [oX5 a s_many s_windMany s_year s_saidMany s_size s_readAt s_readPeaks s_readWinds s_readNumber s_undoMany s_keptMany, ai d (a 4) 30 s_pinned, ai d (a 5) 5 s_stored, ai d (a 6) 6 s_guides, ai d (a 15) 336 s_ahead] [oX5 a s_many s_windMany ro1 s_saidMany s_size s_readAt s_readPeaks s_readWinds s_readNumber ro2 s_keptMany, ai d (a 4) 30 ro3, ai d (a 5) 5 ro4, ai d (a 6) 6 ro5, ai d (a 15) 336 s_ahead] r := by
  refine sx_I.intro (lv0 := [some (.ref (a 0))]) (by decide +kernel) (Nat.le_of_ble_eq_true rfl) rfl ?_
  intro κ X hR
  have X : sx_X d κ cX5_undo 1 RX5 (sx_rm 1) := X
  unfold fX5_undo at hf
  refine g_aload_n (pc' := 1) X dX5_undo_0 rfl rfl rfl ?_
  refine g_get (pc' := 4) X fl_X5_139 dX5_undo_1 rfl 0 rfl rfl ?_
  refine g_if_ne (tgt := 10) (pc' := 7) X dX5_undo_4 (by decide) rfl hf (fun hf => ?_) (fun hf => ?_)
  · refine g_aload_n (pc' := 11) X dX5_undo_10 rfl rfl rfl ?_
    refine g_dup (pc' := 12) X dX5_undo_11 rfl rfl ?_
    refine g_get (pc' := 15) X fl_X5_139 dX5_undo_12 rfl 0 rfl rfl ?_
    refine g_iconst (v := 1) (pc' := 16) X dX5_undo_15 rfl (by decide) ?_
    refine g_isub (pc' := 17) X dX5_undo_16 rfl ?_
    refine g_putN (pc' := 20) (w2 := fun x1 => [oX5 a s_many s_windMany s_year s_saidMany s_size s_readAt s_readPeaks s_readWinds s_readNumber x1 s_keptMany, ai d (a 4) 30 s_pinned, ai d (a 5) 5 s_stored, ai d (a 6) 6 s_guides, ai d (a 15) 336 s_ahead]) X fl_X5_139 fw_X5 rfl dX5_undo_17 rfl 0 rfl (fun _ => rfl) (fun _ => rfl) (Nat.le_of_ble_eq_true rfl) (fun _ => rfl) hf (fun x1 hf => ?_)
    refine g_aload_n (pc' := 21) X dX5_undo_20 rfl rfl rfl ?_
    refine g_aload_n (pc' := 22) X dX5_undo_21 rfl rfl rfl ?_
    refine g_get (pc' := 25) X fl_X5_52 dX5_undo_22 rfl 0 rfl rfl ?_
    refine g_bipush (v := 42) (pc' := 27) X dX5_undo_25 rfl (by decide) ?_
    refine g_aload_n (pc' := 28) X dX5_undo_27 rfl rfl rfl ?_
    refine g_get (pc' := 31) X fl_X5_139 dX5_undo_28 rfl 0 rfl rfl ?_
    refine g_imul (pc' := 32) X dX5_undo_31 rfl ?_
    refine g_callVv4 (pc' := 35) (As := [.ref (a 15), .int ((42 : Int32) * x1)]) (b := (a 0)) (st := []) (w2 := fun o2 o3 o4 o5 => [oX5 a s_many s_windMany o2 s_saidMany s_size s_readAt s_readPeaks s_readWinds s_readNumber x1 s_keptMany, ai d (a 4) 30 o3, ai d (a 5) 5 o4, ai d (a 6) 6 o5, ai d (a 15) 336 s_ahead]) X lk_X5_193 dX5_undo_32 rfl rfl rfl (Nat.le_of_ble_eq_true rfl) ⟨Nat.le_of_ble_eq_true rfl, Nat.le_of_ble_eq_true rfl, Nat.le_of_ble_eq_true rfl, Nat.le_of_ble_eq_true rfl⟩ rfl [0, 1, 2, 3, 4] (by decide) rfl hf (fun l o2 o3 o4 o5 h => ctX5_takes l d a (a 15) 336 s_many s_windMany s_year s_saidMany s_size s_readAt s_readPeaks s_readWinds s_readNumber x1 s_keptMany s_pinned s_stored s_guides s_ahead ((42 : Int32) * x1) o2 o3 o4 o5 h) (fun _ _ _ _ => rfl) (fun _ _ _ _ => rfl) (fun o2 o3 o4 o5 hf => ?_)
    refine g_aload_n (pc' := 36) X dX5_undo_35 rfl rfl rfl ?_
    refine g_get (pc' := 39) X fl_X5_139 dX5_undo_36 rfl 0 rfl rfl ?_
    cases hf
    exact hR _ _ dX5_undo_39 rfl
  · refine g_bipush (v := -2) (pc' := 9) X dX5_undo_7 rfl (by decide) ?_
    cases hf
    exact hR _ _ dX5_undo_9 rfl
-- X5_begin
def fX5_begin (s_year : Int32) (s_pinned : Nat → Int32) (s_stored : Nat → Int32) (s_guides : Nat → Int32) (s_aside : Nat → Int32) : Option ((Nat → Int32)) :=
  (fX5_lays 42 s_year s_pinned s_stored s_guides s_aside (0 : Int32)).bind fun o1 =>
  some o1
set_option maxHeartbeats 4000000 in
set_option maxRecDepth 100000 in
theorem ctX5_begin (l : Launch) (d : sx_D) (a : Nat → Nat) (s_many : Int32) (s_windMany : Int32) (s_year : Int32) (s_saidMany : Int32) (s_size : Int32) (s_readAt : Int32) (s_readPeaks : Int32) (s_readWinds : Int32) (s_readNumber : Int32) (s_undoMany : Int32) (s_keptMany : Int32) (s_pinned : Nat → Int32) (s_stored : Nat → Int32) (s_guides : Nat → Int32) (s_aside : Nat → Int32) (ro1 : Nat → Int32) (hf : fX5_begin s_year s_pinned s_stored s_guides s_aside = some ro1) : sx_V l d yX5_begin cX5_begin 1 1 [.ref (a 0)] [oX5 a s_many s_windMany s_year s_saidMany s_size s_readAt s_readPeaks s_readWinds s_readNumber s_undoMany s_keptMany, ai d (a 4) 30 s_pinned, ai d (a 5) 5 s_stored, ai d (a 6) 6 s_guides, ai d (a 16) 42 s_aside] [oX5 a s_many s_windMany s_year s_saidMany s_size s_readAt s_readPeaks s_readWinds s_readNumber s_undoMany s_keptMany, ai d (a 4) 30 s_pinned, ai d (a 5) 5 s_stored, ai d (a 6) 6 s_guides, ai d (a 16) 42 ro1] := by
  refine sx_V.intro (lv0 := [some (.ref (a 0))]) (by decide +kernel) (Nat.le_of_ble_eq_true rfl) rfl ?_
  intro κ X hR
  have X : sx_X d κ cX5_begin 1 RX5 (sx_rm 1) := X
  unfold fX5_begin at hf
  refine g_aload_n (pc' := 1) X dX5_begin_0 rfl rfl rfl ?_
  refine g_aload_n (pc' := 2) X dX5_begin_1 rfl rfl rfl ?_
  refine g_get (pc' := 5) X fl_X5_55 dX5_begin_2 rfl 0 rfl rfl ?_
  refine g_iconst (v := 0) (pc' := 6) X dX5_begin_5 rfl (by decide) ?_
  refine g_callVv1 (pc' := 9) (As := [.ref (a 16), .int (0 : Int32)]) (b := (a 0)) (st := []) (w2 := fun o1 => [oX5 a s_many s_windMany s_year s_saidMany s_size s_readAt s_readPeaks s_readWinds s_readNumber s_undoMany s_keptMany, ai d (a 4) 30 s_pinned, ai d (a 5) 5 s_stored, ai d (a 6) 6 s_guides, ai d (a 16) 42 o1]) X lk_X5_173 dX5_begin_6 rfl rfl rfl (Nat.le_of_ble_eq_true rfl) ⟨Nat.le_of_ble_eq_true rfl, Nat.le_of_ble_eq_true rfl, Nat.le_of_ble_eq_true rfl, Nat.le_of_ble_eq_true rfl⟩ rfl [0, 1, 2, 3, 4] (by decide) rfl hf (fun l o1 h => ctX5_lays l d a (a 16) 42 s_many s_windMany s_year s_saidMany s_size s_readAt s_readPeaks s_readWinds s_readNumber s_undoMany s_keptMany s_pinned s_stored s_guides s_aside (0 : Int32) o1 h) (fun _ => rfl) (fun _ => rfl) (fun o1 hf => ?_)
  cases hf
  exact hR _ _ dX5_begin_9
-- X5_putBack
def fX5_putBack (s_year : Int32) (s_pinned : Nat → Int32) (s_stored : Nat → Int32) (s_guides : Nat → Int32) (s_aside : Nat → Int32) : Option (Int32 × (Nat → Int32) × (Nat → Int32) × (Nat → Int32)) :=
  (fX5_takes 42 s_year s_pinned s_stored s_guides s_aside (0 : Int32)).bind fun (o1, o2, o3, o4) =>
  some (o1, o2, o3, o4)
set_option maxHeartbeats 4000000 in
set_option maxRecDepth 100000 in
theorem ctX5_putBack (l : Launch) (d : sx_D) (a : Nat → Nat) (s_many : Int32) (s_windMany : Int32) (s_year : Int32) (s_saidMany : Int32) (s_size : Int32) (s_readAt : Int32) (s_readPeaks : Int32) (s_readWinds : Int32) (s_readNumber : Int32) (s_undoMany : Int32) (s_keptMany : Int32) (s_pinned : Nat → Int32) (s_stored : Nat → Int32) (s_guides : Nat → Int32) (s_aside : Nat → Int32) (ro1 : Int32) (ro2 : Nat → Int32) (ro3 : Nat → Int32) (ro4 : Nat → Int32) (hf : fX5_putBack s_year s_pinned s_stored s_guides s_aside = some (ro1, ro2, ro3, ro4)) : sx_V l d yX5_putBack cX5_putBack 1 1 [.ref (a 0)] [oX5 a s_many s_windMany s_year s_saidMany s_size s_readAt s_readPeaks s_readWinds s_readNumber s_undoMany s_keptMany, ai d (a 4) 30 s_pinned, ai d (a 5) 5 s_stored, ai d (a 6) 6 s_guides, ai d (a 16) 42 s_aside] [oX5 a s_many s_windMany ro1 s_saidMany s_size s_readAt s_readPeaks s_readWinds s_readNumber s_undoMany s_keptMany, ai d (a 4) 30 ro2, ai d (a 5) 5 ro3, ai d (a 6) 6 ro4, ai d (a 16) 42 s_aside] := by
  refine sx_V.intro (lv0 := [some (.ref (a 0))]) (by decide +kernel) (Nat.le_of_ble_eq_true rfl) rfl ?_
  intro κ X hR
  have X : sx_X d κ cX5_putBack 1 RX5 (sx_rm 1) := X
  unfold fX5_putBack at hf
  refine g_aload_n (pc' := 1) X dX5_putBack_0 rfl rfl rfl ?_
  refine g_aload_n (pc' := 2) X dX5_putBack_1 rfl rfl rfl ?_
  refine g_get (pc' := 5) X fl_X5_55 dX5_putBack_2 rfl 0 rfl rfl ?_
  refine g_iconst (v := 0) (pc' := 6) X dX5_putBack_5 rfl (by decide) ?_
  refine g_callVv4 (pc' := 9) (As := [.ref (a 16), .int (0 : Int32)]) (b := (a 0)) (st := []) (w2 := fun o1 o2 o3 o4 => [oX5 a s_many s_windMany o1 s_saidMany s_size s_readAt s_readPeaks s_readWinds s_readNumber s_undoMany s_keptMany, ai d (a 4) 30 o2, ai d (a 5) 5 o3, ai d (a 6) 6 o4, ai d (a 16) 42 s_aside]) X lk_X5_193 dX5_putBack_6 rfl rfl rfl (Nat.le_of_ble_eq_true rfl) ⟨Nat.le_of_ble_eq_true rfl, Nat.le_of_ble_eq_true rfl, Nat.le_of_ble_eq_true rfl, Nat.le_of_ble_eq_true rfl⟩ rfl [0, 1, 2, 3, 4] (by decide) rfl hf (fun l o1 o2 o3 o4 h => ctX5_takes l d a (a 16) 42 s_many s_windMany s_year s_saidMany s_size s_readAt s_readPeaks s_readWinds s_readNumber s_undoMany s_keptMany s_pinned s_stored s_guides s_aside (0 : Int32) o1 o2 o3 o4 h) (fun _ _ _ _ => rfl) (fun _ _ _ _ => rfl) (fun o1 o2 o3 o4 hf => ?_)
  cases hf
  exact hR _ _ dX5_putBack_9
-- X5_pairsAlike
def bX5_pairsAlike_16 (s_many : Int32) (s_pinned : Nat → Int32) (v2 : Int32) : (Int32 × Int32) → Option ((Int32 × Int32) ⊕ (Int32)) := fun (v1, v3) =>
  if s_many ≤ v3 then
    some (.inr v1)
  else
    (fX5_looks s_pinned v2).bind fun x2 =>
    (fX5_looks s_pinned v3).bind fun x3 =>
    if x2 = x3 then
      sx_lt (v1 + (1 : Int32)) fun x5 =>
      some (.inl (x5, v3 + (1 : Int32)))
    else
      sx_lt (v1 + (0 : Int32)) fun x4 =>
      some (.inl (x4, v3 + (1 : Int32)))
def bX5_pairsAlike_4 (s_many : Int32) (s_pinned : Nat → Int32) : (Int32 × Int32) → Option ((Int32 × Int32) ⊕ (Int32)) := fun (v1, v2) =>
  if s_many ≤ v2 then
    some (.inr v1)
  else
    sx_lt (v2 + (1 : Int32)) fun x1 =>
    (sx_it 1000 (bX5_pairsAlike_16 s_many s_pinned v2) (v1, x1)).bind fun w7 =>
    some (.inl (w7, v2 + (1 : Int32)))
def fX5_pairsAlike (s_many : Int32) (s_pinned : Nat → Int32) : Option (Int32) :=
  (sx_it 1000 (bX5_pairsAlike_4 s_many s_pinned) ((0 : Int32), (0 : Int32))).bind fun w9 =>
  some w9
set_option maxHeartbeats 4000000 in
set_option maxRecDepth 100000 in
theorem lX5_pairsAlike_16 (d : sx_D) (κ : sx_C) (a : Nat → Nat) (s_many : Int32) (s_windMany : Int32) (s_year : Int32) (s_saidMany : Int32) (s_size : Int32) (s_readAt : Int32) (s_readPeaks : Int32) (s_readWinds : Int32) (s_readNumber : Int32) (s_undoMany : Int32) (s_keptMany : Int32) (s_pinned : Nat → Int32) (v2 : Int32) (X : sx_X d κ cX5_pairsAlike 4 RX5 (sx_rm 1)) (y : Int32) (hE51 : ∀ (v1 : Int32), v1 = y → sx_G d κ 4 0 0 51 [some (.ref (a 0)), some (.int v1), some (.int v2), none] [] [oX5 a s_many s_windMany s_year s_saidMany s_size s_readAt s_readPeaks s_readWinds s_readNumber s_undoMany s_keptMany, ai d (a 4) 30 s_pinned]) : ∀ (n : Nat) (s : Int32 × Int32), sx_it n (bX5_pairsAlike_16 s_many s_pinned v2) s = some y → (match s with | (v1, v3) => sx_G d κ 4 0 0 16 [some (.ref (a 0)), some (.int v1), some (.int v2), some (.int v3)] [] [oX5 a s_many s_windMany s_year s_saidMany s_size s_readAt s_readPeaks s_readWinds s_readNumber s_undoMany s_keptMany, ai d (a 4) 30 s_pinned]) := by
  refine sx_it_run (bX5_pairsAlike_16 s_many s_pinned v2) (fun s => match s with | (v1, v3) => sx_G d κ 4 0 0 16 [some (.ref (a 0)), some (.int v1), some (.int v2), some (.int v3)] [] [oX5 a s_many s_windMany s_year s_saidMany s_size s_readAt s_readPeaks s_readWinds s_readNumber s_undoMany s_keptMany, ai d (a 4) 30 s_pinned]) y ?_
  rintro ⟨v1, v3⟩ x hf hb he
  show sx_G d κ 4 0 0 16 [some (.ref (a 0)), some (.int v1), some (.int v2), some (.int v3)] [] [oX5 a s_many s_windMany s_year s_saidMany s_size s_readAt s_readPeaks s_readWinds s_readNumber s_undoMany s_keptMany, ai d (a 4) 30 s_pinned]
  unfold bX5_pairsAlike_16 at hf
  refine g_iload_n (pc' := 17) X dX5_pairsAlike_16 rfl rfl rfl ?_
  refine g_aload_n (pc' := 18) X dX5_pairsAlike_17 rfl rfl rfl ?_
  refine g_get (pc' := 21) X fl_X5_78 dX5_pairsAlike_18 rfl 0 rfl rfl ?_
  refine g_icmp_ge (tgt := 51) (pc' := 24) X dX5_pairsAlike_21 (by decide) rfl hf (fun hf => ?_) (fun hf => ?_)
  · exact sx_weak [true, true, true, false] rfl (hE51 _ (sx_ex hf he))
  · refine g_iload_n (pc' := 25) X dX5_pairsAlike_24 rfl rfl rfl ?_
    refine g_aload_n (pc' := 26) X dX5_pairsAlike_25 rfl rfl rfl ?_
    refine g_iload_n (pc' := 27) X dX5_pairsAlike_26 rfl rfl rfl ?_
    refine g_callVi0 (pc' := 30) (As := [.int v2]) (b := (a 0)) (st := [.int v1]) (w2 := fun x2 => [oX5 a s_many s_windMany s_year s_saidMany s_size s_readAt s_readPeaks s_readWinds s_readNumber s_undoMany s_keptMany, ai d (a 4) 30 s_pinned]) X lk_X5_85 dX5_pairsAlike_27 rfl rfl rfl (Nat.le_of_ble_eq_true rfl) ⟨Nat.le_of_ble_eq_true rfl, Nat.le_of_ble_eq_true rfl, Nat.le_of_ble_eq_true rfl, Nat.le_of_ble_eq_true rfl⟩ rfl [0, 1] (by decide) rfl hf (fun l x2 h => ctX5_looks l d a s_many s_windMany s_year s_saidMany s_size s_readAt s_readPeaks s_readWinds s_readNumber s_undoMany s_keptMany s_pinned v2 x2 h) (fun _ => rfl) (fun _ => rfl) (fun x2 hnx2 hf => ?_)
    refine g_aload_n (pc' := 31) X dX5_pairsAlike_30 rfl rfl rfl ?_
    refine g_iload_n (pc' := 32) X dX5_pairsAlike_31 rfl rfl rfl ?_
    refine g_callVi0 (pc' := 35) (As := [.int v3]) (b := (a 0)) (st := [.int x2, .int v1]) (w2 := fun x3 => [oX5 a s_many s_windMany s_year s_saidMany s_size s_readAt s_readPeaks s_readWinds s_readNumber s_undoMany s_keptMany, ai d (a 4) 30 s_pinned]) X lk_X5_85 dX5_pairsAlike_32 rfl rfl rfl (Nat.le_of_ble_eq_true rfl) ⟨Nat.le_of_ble_eq_true rfl, Nat.le_of_ble_eq_true rfl, Nat.le_of_ble_eq_true rfl, Nat.le_of_ble_eq_true rfl⟩ rfl [0, 1] (by decide) rfl hf (fun l x3 h => ctX5_looks l d a s_many s_windMany s_year s_saidMany s_size s_readAt s_readPeaks s_readWinds s_readNumber s_undoMany s_keptMany s_pinned v3 x3 h) (fun _ => rfl) (fun _ => rfl) (fun x3 hnx3 hf => ?_)
    refine g_icmp_ne (tgt := 42) (pc' := 38) X dX5_pairsAlike_35 (by decide) rfl hf (fun hf => ?_) (fun hf => ?_)
    · refine g_iconst (v := 0) (pc' := 43) X dX5_pairsAlike_42 rfl (by decide) ?_
      refine g_iadd (pc' := 44) X dX5_pairsAlike_43 rfl ?_
      refine g_istore_nN (lv' := fun x4 => [some (.ref (a 0)), some (.int x4), some (.int v2), some (.int v3)]) (pc' := 45) X dX5_pairsAlike_44 rfl rfl (by decide) rfl (fun _ => rfl) hf (fun x4 hf => ?_)
      refine g_iinc (v := 1) (lv' := [some (.ref (a 0)), some (.int x4), some (.int v2), some (.int (v3 + (1 : Int32)))]) (pc' := 48) X dX5_pairsAlike_45 rfl rfl (by decide) (by decide) rfl rfl ?_
      refine g_goto (tgt := 16) X dX5_pairsAlike_48 (by decide) ?_
      have hk := sx_bk hf hb
      exact sx_weak [true, true, true, true] rfl hk
    · refine g_iconst (v := 1) (pc' := 39) X dX5_pairsAlike_38 rfl (by decide) ?_
      refine g_goto (tgt := 43) X dX5_pairsAlike_39 (by decide) ?_
      refine g_iadd (pc' := 44) X dX5_pairsAlike_43 rfl ?_
      refine g_istore_nN (lv' := fun x5 => [some (.ref (a 0)), some (.int x5), some (.int v2), some (.int v3)]) (pc' := 45) X dX5_pairsAlike_44 rfl rfl (by decide) rfl (fun _ => rfl) hf (fun x5 hf => ?_)
      refine g_iinc (v := 1) (lv' := [some (.ref (a 0)), some (.int x5), some (.int v2), some (.int (v3 + (1 : Int32)))]) (pc' := 48) X dX5_pairsAlike_45 rfl rfl (by decide) (by decide) rfl rfl ?_
      refine g_goto (tgt := 16) X dX5_pairsAlike_48 (by decide) ?_
      have hk := sx_bk hf hb
      exact sx_weak [true, true, true, true] rfl hk
set_option maxHeartbeats 4000000 in
set_option maxRecDepth 100000 in
theorem lX5_pairsAlike_4 (d : sx_D) (κ : sx_C) (a : Nat → Nat) (s_many : Int32) (s_windMany : Int32) (s_year : Int32) (s_saidMany : Int32) (s_size : Int32) (s_readAt : Int32) (s_readPeaks : Int32) (s_readWinds : Int32) (s_readNumber : Int32) (s_undoMany : Int32) (s_keptMany : Int32) (s_pinned : Nat → Int32) (X : sx_X d κ cX5_pairsAlike 4 RX5 (sx_rm 1)) (y : Int32) (hE57 : ∀ (v1 : Int32), v1 = y → sx_G d κ 4 0 0 57 [none, some (.int v1), none, none] [] [oX5 a s_many s_windMany s_year s_saidMany s_size s_readAt s_readPeaks s_readWinds s_readNumber s_undoMany s_keptMany, ai d (a 4) 30 s_pinned]) : ∀ (n : Nat) (s : Int32 × Int32), sx_it n (bX5_pairsAlike_4 s_many s_pinned) s = some y → (match s with | (v1, v2) => sx_G d κ 4 0 0 4 [some (.ref (a 0)), some (.int v1), some (.int v2), none] [] [oX5 a s_many s_windMany s_year s_saidMany s_size s_readAt s_readPeaks s_readWinds s_readNumber s_undoMany s_keptMany, ai d (a 4) 30 s_pinned]) := by
  refine sx_it_run (bX5_pairsAlike_4 s_many s_pinned) (fun s => match s with | (v1, v2) => sx_G d κ 4 0 0 4 [some (.ref (a 0)), some (.int v1), some (.int v2), none] [] [oX5 a s_many s_windMany s_year s_saidMany s_size s_readAt s_readPeaks s_readWinds s_readNumber s_undoMany s_keptMany, ai d (a 4) 30 s_pinned]) y ?_
  rintro ⟨v1, v2⟩ x hf hb he
  show sx_G d κ 4 0 0 4 [some (.ref (a 0)), some (.int v1), some (.int v2), none] [] [oX5 a s_many s_windMany s_year s_saidMany s_size s_readAt s_readPeaks s_readWinds s_readNumber s_undoMany s_keptMany, ai d (a 4) 30 s_pinned]
  unfold bX5_pairsAlike_4 at hf
  refine g_iload_n (pc' := 5) X dX5_pairsAlike_4 rfl rfl rfl ?_
  refine g_aload_n (pc' := 6) X dX5_pairsAlike_5 rfl rfl rfl ?_
  refine g_get (pc' := 9) X fl_X5_78 dX5_pairsAlike_6 rfl 0 rfl rfl ?_
  refine g_icmp_ge (tgt := 57) (pc' := 12) X dX5_pairsAlike_9 (by decide) rfl hf (fun hf => ?_) (fun hf => ?_)
  · exact sx_weak [false, true, false, true] rfl (hE57 _ (sx_ex hf he))
  · refine g_iload_n (pc' := 13) X dX5_pairsAlike_12 rfl rfl rfl ?_
    refine g_iconst (v := 1) (pc' := 14) X dX5_pairsAlike_13 rfl (by decide) ?_
    refine g_iadd (pc' := 15) X dX5_pairsAlike_14 rfl ?_
    refine g_istore_nN (lv' := fun x1 => [some (.ref (a 0)), some (.int v1), some (.int v2), some (.int x1)]) (pc' := 16) X dX5_pairsAlike_15 rfl rfl (by decide) rfl (fun _ => rfl) hf (fun x1 hf => ?_)
    obtain ⟨y6, hy6, hf⟩ := sx_bd hf
    refine sx_weak [true, true, true, true] rfl (lX5_pairsAlike_16 d κ a s_many s_windMany s_year s_saidMany s_size s_readAt s_readPeaks s_readWinds s_readNumber s_undoMany s_keptMany s_pinned v2 X y6 ?_ 1000 (v1, x1) hy6)
    rintro w7 rfl
    refine g_iinc (v := 1) (lv' := [some (.ref (a 0)), some (.int w7), some (.int (v2 + (1 : Int32))), none]) (pc' := 54) X dX5_pairsAlike_51 rfl rfl (by decide) (by decide) rfl rfl ?_
    refine g_goto (tgt := 4) X dX5_pairsAlike_54 (by decide) ?_
    have hk := sx_bk hf hb
    exact sx_weak [true, true, true, true] rfl hk
set_option maxHeartbeats 4000000 in
set_option maxRecDepth 100000 in
theorem ctX5_pairsAlike (l : Launch) (d : sx_D) (a : Nat → Nat) (s_many : Int32) (s_windMany : Int32) (s_year : Int32) (s_saidMany : Int32) (s_size : Int32) (s_readAt : Int32) (s_readPeaks : Int32) (s_readWinds : Int32) (s_readNumber : Int32) (s_undoMany : Int32) (s_keptMany : Int32) (s_pinned : Nat → Int32) (r : Int32) (hf : fX5_pairsAlike s_many s_pinned = some r) : sx_I l d yX5_pairsAlike cX5_pairsAlike 4 .int 1 [.ref (a 0)] [oX5 a s_many s_windMany s_year s_saidMany s_size s_readAt s_readPeaks s_readWinds s_readNumber s_undoMany s_keptMany, ai d (a 4) 30 s_pinned] [oX5 a s_many s_windMany s_year s_saidMany s_size s_readAt s_readPeaks s_readWinds s_readNumber s_undoMany s_keptMany, ai d (a 4) 30 s_pinned] r := by
  refine sx_I.intro (lv0 := [some (.ref (a 0)), none, none, none]) (by decide +kernel) (Nat.le_of_ble_eq_true rfl) rfl ?_
  intro κ X hR
  have X : sx_X d κ cX5_pairsAlike 4 RX5 (sx_rm 1) := X
  unfold fX5_pairsAlike at hf
  refine g_iconst (v := 0) (pc' := 1) X dX5_pairsAlike_0 rfl (by decide) ?_
  refine g_istore_n (lv' := [some (.ref (a 0)), some (.int (0 : Int32)), none, none]) (pc' := 2) X dX5_pairsAlike_1 rfl rfl (by decide) rfl rfl ?_
  refine g_iconst (v := 0) (pc' := 3) X dX5_pairsAlike_2 rfl (by decide) ?_
  refine g_istore_n (lv' := [some (.ref (a 0)), some (.int (0 : Int32)), some (.int (0 : Int32)), none]) (pc' := 4) X dX5_pairsAlike_3 rfl rfl (by decide) rfl rfl ?_
  obtain ⟨y8, hy8, hf⟩ := sx_bd hf
  refine sx_weak [true, true, true, true] rfl (lX5_pairsAlike_4 d κ a s_many s_windMany s_year s_saidMany s_size s_readAt s_readPeaks s_readWinds s_readNumber s_undoMany s_keptMany s_pinned X y8 ?_ 1000 ((0 : Int32), (0 : Int32)) hy8)
  rintro w9 rfl
  refine g_iload_n (pc' := 58) X dX5_pairsAlike_57 rfl rfl rfl ?_
  cases hf
  exact hR _ _ dX5_pairsAlike_58 rfl
-- X5_alike
def bX5_alike_33 (s_pinned : Nat → Int32) (v3 : Int32) : (Int32 × Int32) → Option ((Int32 × Int32) ⊕ (Int32)) := fun (v2, v4) =>
  if v4 ≤ v3 then
    some (.inr v2)
  else
    (fX5_looks s_pinned v3).bind fun x4 =>
    (fX5_looks s_pinned v4).bind fun x5 =>
    if x4 = x5 then
      sx_lt (((10 : Int32) * v3) + v4) fun x6 =>
      some (.inl (x6, v4 + (-1 : Int32)))
    else
      some (.inl (v2, v4 + (-1 : Int32)))
def bX5_alike_21 (s_many : Int32) (s_pinned : Nat → Int32) : (Int32 × Int32) → Option ((Int32 × Int32) ⊕ (Int32)) := fun (v2, v3) =>
  if v3 < 0 then
    some (.inr v2)
  else
    sx_lt (s_many - (1 : Int32)) fun x3 =>
    (sx_it 1000 (bX5_alike_33 s_pinned v3) (v2, x3)).bind fun w8 =>
    some (.inl (w8, v3 + (-1 : Int32)))
def fX5_alike (s_many : Int32) (s_pinned : Nat → Int32) (v1 : Int32) : Option (Int32) :=
  (fX5_in v1 (0 : Int32) (1 : Int32)).bind fun x1 =>
  if x1 = 0 then
    some (-1 : Int32)
  else
    sx_lt (s_many - (1 : Int32)) fun x2 =>
    (sx_it 1000 (bX5_alike_21 s_many s_pinned) ((-4 : Int32), x2)).bind fun w10 =>
    if v1 = 0 then
      (fX5_pairsAlike s_many s_pinned).bind fun x11 =>
      some x11
    else
      some w10
set_option maxHeartbeats 4000000 in
set_option maxRecDepth 100000 in
theorem lX5_alike_33 (d : sx_D) (κ : sx_C) (a : Nat → Nat) (s_many : Int32) (s_windMany : Int32) (s_year : Int32) (s_saidMany : Int32) (s_size : Int32) (s_readAt : Int32) (s_readPeaks : Int32) (s_readWinds : Int32) (s_readNumber : Int32) (s_undoMany : Int32) (s_keptMany : Int32) (s_pinned : Nat → Int32) (v1 : Int32) (v3 : Int32) (X : sx_X d κ cX5_alike 5 RX5 (sx_rm 2)) (y : Int32) (hE71 : ∀ (v2 : Int32), v2 = y → sx_G d κ 5 0 0 71 [some (.ref (a 0)), some (.int v1), some (.int v2), some (.int v3), none] [] [oX5 a s_many s_windMany s_year s_saidMany s_size s_readAt s_readPeaks s_readWinds s_readNumber s_undoMany s_keptMany, ai d (a 4) 30 s_pinned]) : ∀ (n : Nat) (s : Int32 × Int32), sx_it n (bX5_alike_33 s_pinned v3) s = some y → (match s with | (v2, v4) => sx_G d κ 5 0 0 33 [some (.ref (a 0)), some (.int v1), some (.int v2), some (.int v3), some (.int v4)] [] [oX5 a s_many s_windMany s_year s_saidMany s_size s_readAt s_readPeaks s_readWinds s_readNumber s_undoMany s_keptMany, ai d (a 4) 30 s_pinned]) := by
  refine sx_it_run (bX5_alike_33 s_pinned v3) (fun s => match s with | (v2, v4) => sx_G d κ 5 0 0 33 [some (.ref (a 0)), some (.int v1), some (.int v2), some (.int v3), some (.int v4)] [] [oX5 a s_many s_windMany s_year s_saidMany s_size s_readAt s_readPeaks s_readWinds s_readNumber s_undoMany s_keptMany, ai d (a 4) 30 s_pinned]) y ?_
  rintro ⟨v2, v4⟩ x hf hb he
  show sx_G d κ 5 0 0 33 [some (.ref (a 0)), some (.int v1), some (.int v2), some (.int v3), some (.int v4)] [] [oX5 a s_many s_windMany s_year s_saidMany s_size s_readAt s_readPeaks s_readWinds s_readNumber s_undoMany s_keptMany, ai d (a 4) 30 s_pinned]
  unfold bX5_alike_33 at hf
  refine g_iload (pc' := 35) X dX5_alike_33 rfl rfl ?_
  refine g_iload_n (pc' := 36) X dX5_alike_35 rfl rfl rfl ?_
  refine g_icmp_le (tgt := 71) (pc' := 39) X dX5_alike_36 (by decide) rfl hf (fun hf => ?_) (fun hf => ?_)
  · exact sx_weak [true, true, true, true, false] rfl (hE71 _ (sx_ex hf he))
  · refine g_aload_n (pc' := 40) X dX5_alike_39 rfl rfl rfl ?_
    refine g_iload_n (pc' := 41) X dX5_alike_40 rfl rfl rfl ?_
    refine g_callVi0 (pc' := 44) (As := [.int v3]) (b := (a 0)) (st := []) (w2 := fun x4 => [oX5 a s_many s_windMany s_year s_saidMany s_size s_readAt s_readPeaks s_readWinds s_readNumber s_undoMany s_keptMany, ai d (a 4) 30 s_pinned]) X lk_X5_85 dX5_alike_41 rfl rfl rfl (Nat.le_of_ble_eq_true rfl) ⟨Nat.le_of_ble_eq_true rfl, Nat.le_of_ble_eq_true rfl, Nat.le_of_ble_eq_true rfl, Nat.le_of_ble_eq_true rfl⟩ rfl [0, 1] (by decide) rfl hf (fun l x4 h => ctX5_looks l d a s_many s_windMany s_year s_saidMany s_size s_readAt s_readPeaks s_readWinds s_readNumber s_undoMany s_keptMany s_pinned v3 x4 h) (fun _ => rfl) (fun _ => rfl) (fun x4 hnx4 hf => ?_)
    refine g_aload_n (pc' := 45) X dX5_alike_44 rfl rfl rfl ?_
    refine g_iload (pc' := 47) X dX5_alike_45 rfl rfl ?_
    refine g_callVi0 (pc' := 50) (As := [.int v4]) (b := (a 0)) (st := [.int x4]) (w2 := fun x5 => [oX5 a s_many s_windMany s_year s_saidMany s_size s_readAt s_readPeaks s_readWinds s_readNumber s_undoMany s_keptMany, ai d (a 4) 30 s_pinned]) X lk_X5_85 dX5_alike_47 rfl rfl rfl (Nat.le_of_ble_eq_true rfl) ⟨Nat.le_of_ble_eq_true rfl, Nat.le_of_ble_eq_true rfl, Nat.le_of_ble_eq_true rfl, Nat.le_of_ble_eq_true rfl⟩ rfl [0, 1] (by decide) rfl hf (fun l x5 h => ctX5_looks l d a s_many s_windMany s_year s_saidMany s_size s_readAt s_readPeaks s_readWinds s_readNumber s_undoMany s_keptMany s_pinned v4 x5 h) (fun _ => rfl) (fun _ => rfl) (fun x5 hnx5 hf => ?_)
    refine g_icmp_ne (tgt := 63) (pc' := 53) X dX5_alike_50 (by decide) rfl hf (fun hf => ?_) (fun hf => ?_)
    · refine g_iload_n (pc' := 64) X dX5_alike_63 rfl rfl rfl ?_
      refine g_istore_n (lv' := [some (.ref (a 0)), some (.int v1), some (.int v2), some (.int v3), some (.int v4)]) (pc' := 65) X dX5_alike_64 rfl rfl (by decide) rfl rfl ?_
      refine g_iinc (v := -1) (lv' := [some (.ref (a 0)), some (.int v1), some (.int v2), some (.int v3), some (.int (v4 + (-1 : Int32)))]) (pc' := 68) X dX5_alike_65 rfl rfl (by decide) (by decide) rfl rfl ?_
      refine g_goto (tgt := 33) X dX5_alike_68 (by decide) ?_
      have hk := sx_bk hf hb
      exact sx_weak [true, true, true, true, true] rfl hk
    · refine g_bipush (v := 10) (pc' := 55) X dX5_alike_53 rfl (by decide) ?_
      refine g_iload_n (pc' := 56) X dX5_alike_55 rfl rfl rfl ?_
      refine g_imul (pc' := 57) X dX5_alike_56 rfl ?_
      refine g_iload (pc' := 59) X dX5_alike_57 rfl rfl ?_
      refine g_iadd (pc' := 60) X dX5_alike_59 rfl ?_
      refine g_goto (tgt := 64) X dX5_alike_60 (by decide) ?_
      refine g_istore_nN (lv' := fun x6 => [some (.ref (a 0)), some (.int v1), some (.int x6), some (.int v3), some (.int v4)]) (pc' := 65) X dX5_alike_64 rfl rfl (by decide) rfl (fun _ => rfl) hf (fun x6 hf => ?_)
      refine g_iinc (v := -1) (lv' := [some (.ref (a 0)), some (.int v1), some (.int x6), some (.int v3), some (.int (v4 + (-1 : Int32)))]) (pc' := 68) X dX5_alike_65 rfl rfl (by decide) (by decide) rfl rfl ?_
      refine g_goto (tgt := 33) X dX5_alike_68 (by decide) ?_
      have hk := sx_bk hf hb
      exact sx_weak [true, true, true, true, true] rfl hk
set_option maxHeartbeats 4000000 in
set_option maxRecDepth 100000 in
theorem lX5_alike_21 (d : sx_D) (κ : sx_C) (a : Nat → Nat) (s_many : Int32) (s_windMany : Int32) (s_year : Int32) (s_saidMany : Int32) (s_size : Int32) (s_readAt : Int32) (s_readPeaks : Int32) (s_readWinds : Int32) (s_readNumber : Int32) (s_undoMany : Int32) (s_keptMany : Int32) (s_pinned : Nat → Int32) (v1 : Int32) (X : sx_X d κ cX5_alike 5 RX5 (sx_rm 2)) (y : Int32) (hE77 : ∀ (v2 : Int32), v2 = y → sx_G d κ 5 0 0 77 [some (.ref (a 0)), some (.int v1), some (.int v2), none, none] [] [oX5 a s_many s_windMany s_year s_saidMany s_size s_readAt s_readPeaks s_readWinds s_readNumber s_undoMany s_keptMany, ai d (a 4) 30 s_pinned]) : ∀ (n : Nat) (s : Int32 × Int32), sx_it n (bX5_alike_21 s_many s_pinned) s = some y → (match s with | (v2, v3) => sx_G d κ 5 0 0 21 [some (.ref (a 0)), some (.int v1), some (.int v2), some (.int v3), none] [] [oX5 a s_many s_windMany s_year s_saidMany s_size s_readAt s_readPeaks s_readWinds s_readNumber s_undoMany s_keptMany, ai d (a 4) 30 s_pinned]) := by
  refine sx_it_run (bX5_alike_21 s_many s_pinned) (fun s => match s with | (v2, v3) => sx_G d κ 5 0 0 21 [some (.ref (a 0)), some (.int v1), some (.int v2), some (.int v3), none] [] [oX5 a s_many s_windMany s_year s_saidMany s_size s_readAt s_readPeaks s_readWinds s_readNumber s_undoMany s_keptMany, ai d (a 4) 30 s_pinned]) y ?_
  rintro ⟨v2, v3⟩ x hf hb he
  show sx_G d κ 5 0 0 21 [some (.ref (a 0)), some (.int v1), some (.int v2), some (.int v3), none] [] [oX5 a s_many s_windMany s_year s_saidMany s_size s_readAt s_readPeaks s_readWinds s_readNumber s_undoMany s_keptMany, ai d (a 4) 30 s_pinned]
  unfold bX5_alike_21 at hf
  refine g_iload_n (pc' := 22) X dX5_alike_21 rfl rfl rfl ?_
  refine g_if_lt (tgt := 77) (pc' := 25) X dX5_alike_22 (by decide) rfl hf (fun hf => ?_) (fun hf => ?_)
  · exact sx_weak [true, true, true, false, true] rfl (hE77 _ (sx_ex hf he))
  · refine g_aload_n (pc' := 26) X dX5_alike_25 rfl rfl rfl ?_
    refine g_get (pc' := 29) X fl_X5_78 dX5_alike_26 rfl 0 rfl rfl ?_
    refine g_iconst (v := 1) (pc' := 30) X dX5_alike_29 rfl (by decide) ?_
    refine g_isub (pc' := 31) X dX5_alike_30 rfl ?_
    refine g_istoreN (lv' := fun x3 => [some (.ref (a 0)), some (.int v1), some (.int v2), some (.int v3), some (.int x3)]) (pc' := 33) X dX5_alike_31 rfl (by decide) rfl (fun _ => rfl) hf (fun x3 hf => ?_)
    obtain ⟨y7, hy7, hf⟩ := sx_bd hf
    refine sx_weak [true, true, true, true, true] rfl (lX5_alike_33 d κ a s_many s_windMany s_year s_saidMany s_size s_readAt s_readPeaks s_readWinds s_readNumber s_undoMany s_keptMany s_pinned v1 v3 X y7 ?_ 1000 (v2, x3) hy7)
    rintro w8 rfl
    refine g_iinc (v := -1) (lv' := [some (.ref (a 0)), some (.int v1), some (.int w8), some (.int (v3 + (-1 : Int32))), none]) (pc' := 74) X dX5_alike_71 rfl rfl (by decide) (by decide) rfl rfl ?_
    refine g_goto (tgt := 21) X dX5_alike_74 (by decide) ?_
    have hk := sx_bk hf hb
    exact sx_weak [true, true, true, true, true] rfl hk
set_option maxHeartbeats 4000000 in
set_option maxRecDepth 100000 in
theorem ctX5_alike (l : Launch) (d : sx_D) (a : Nat → Nat) (s_many : Int32) (s_windMany : Int32) (s_year : Int32) (s_saidMany : Int32) (s_size : Int32) (s_readAt : Int32) (s_readPeaks : Int32) (s_readWinds : Int32) (s_readNumber : Int32) (s_undoMany : Int32) (s_keptMany : Int32) (s_pinned : Nat → Int32) (v1 : Int32) (r : Int32) (hf : fX5_alike s_many s_pinned v1 = some r) : sx_I l d yX5_alike cX5_alike 5 .int 2 [.ref (a 0), .int v1] [oX5 a s_many s_windMany s_year s_saidMany s_size s_readAt s_readPeaks s_readWinds s_readNumber s_undoMany s_keptMany, ai d (a 4) 30 s_pinned] [oX5 a s_many s_windMany s_year s_saidMany s_size s_readAt s_readPeaks s_readWinds s_readNumber s_undoMany s_keptMany, ai d (a 4) 30 s_pinned] r := by
  refine sx_I.intro (lv0 := [some (.ref (a 0)), some (.int v1), none, none, none]) (by decide +kernel) (Nat.le_of_ble_eq_true rfl) rfl ?_
  intro κ X hR
  have X : sx_X d κ cX5_alike 5 RX5 (sx_rm 2) := X
  unfold fX5_alike at hf
  refine g_iload_n (pc' := 1) X dX5_alike_0 rfl rfl rfl ?_
  refine g_iconst (v := 0) (pc' := 2) X dX5_alike_1 rfl (by decide) ?_
  refine g_iconst (v := 1) (pc' := 3) X dX5_alike_2 rfl (by decide) ?_
  refine g_callSi0 (pc' := 6) (As := [.int v1, .int (0 : Int32), .int (1 : Int32)]) (st := []) (w2 := fun x1 => [oX5 a s_many s_windMany s_year s_saidMany s_size s_readAt s_readPeaks s_readWinds s_readNumber s_undoMany s_keptMany, ai d (a 4) 30 s_pinned]) X lk_X5_81 dX5_alike_3 rfl rfl rfl (Nat.le_of_ble_eq_true rfl) ⟨Nat.le_of_ble_eq_true rfl, Nat.le_of_ble_eq_true rfl, Nat.le_of_ble_eq_true rfl, Nat.le_of_ble_eq_true rfl⟩ [] (by decide) rfl hf (fun l x1 h => ctX5_in l d v1 (0 : Int32) (1 : Int32) x1 h) (fun _ => rfl) (fun _ => rfl) (fun x1 hnx1 hf => ?_)
  refine g_if_ne (tgt := 11) (pc' := 9) X dX5_alike_6 (by decide) rfl hf (fun hf => ?_) (fun hf => ?_)
  · refine g_bipush (v := -4) (pc' := 13) X dX5_alike_11 rfl (by decide) ?_
    refine g_istore_n (lv' := [some (.ref (a 0)), some (.int v1), some (.int (-4 : Int32)), none, none]) (pc' := 14) X dX5_alike_13 rfl rfl (by decide) rfl rfl ?_
    refine g_aload_n (pc' := 15) X dX5_alike_14 rfl rfl rfl ?_
    refine g_get (pc' := 18) X fl_X5_78 dX5_alike_15 rfl 0 rfl rfl ?_
    refine g_iconst (v := 1) (pc' := 19) X dX5_alike_18 rfl (by decide) ?_
    refine g_isub (pc' := 20) X dX5_alike_19 rfl ?_
    refine g_istore_nN (lv' := fun x2 => [some (.ref (a 0)), some (.int v1), some (.int (-4 : Int32)), some (.int x2), none]) (pc' := 21) X dX5_alike_20 rfl rfl (by decide) rfl (fun _ => rfl) hf (fun x2 hf => ?_)
    obtain ⟨y9, hy9, hf⟩ := sx_bd hf
    refine sx_weak [true, true, true, true, true] rfl (lX5_alike_21 d κ a s_many s_windMany s_year s_saidMany s_size s_readAt s_readPeaks s_readWinds s_readNumber s_undoMany s_keptMany s_pinned v1 X y9 ?_ 1000 ((-4 : Int32), x2) hy9)
    rintro w10 rfl
    refine g_iload_n (pc' := 78) X dX5_alike_77 rfl rfl rfl ?_
    refine g_if_ne (tgt := 88) (pc' := 81) X dX5_alike_78 (by decide) rfl hf (fun hf => ?_) (fun hf => ?_)
    · refine g_iload_n (pc' := 89) X dX5_alike_88 rfl rfl rfl ?_
      cases hf
      exact hR _ _ dX5_alike_89 rfl
    · refine g_aload_n (pc' := 82) X dX5_alike_81 rfl rfl rfl ?_
      refine g_callVi0 (pc' := 85) (As := []) (b := (a 0)) (st := []) (w2 := fun x11 => [oX5 a s_many s_windMany s_year s_saidMany s_size s_readAt s_readPeaks s_readWinds s_readNumber s_undoMany s_keptMany, ai d (a 4) 30 s_pinned]) X lk_X5_196 dX5_alike_82 rfl rfl rfl (Nat.le_of_ble_eq_true rfl) ⟨Nat.le_of_ble_eq_true rfl, Nat.le_of_ble_eq_true rfl, Nat.le_of_ble_eq_true rfl, Nat.le_of_ble_eq_true rfl⟩ rfl [0, 1] (by decide) rfl hf (fun l x11 h => ctX5_pairsAlike l d a s_many s_windMany s_year s_saidMany s_size s_readAt s_readPeaks s_readWinds s_readNumber s_undoMany s_keptMany s_pinned x11 h) (fun _ => rfl) (fun _ => rfl) (fun x11 hnx11 hf => ?_)
      refine g_goto (tgt := 89) X dX5_alike_85 (by decide) ?_
      cases hf
      exact hR _ _ dX5_alike_89 rfl
  · refine g_iconst (v := -1) (pc' := 10) X dX5_alike_9 rfl (by decide) ?_
    cases hf
    exact hR _ _ dX5_alike_10 rfl
-- X5_knownBy
def bX5_knownBy_2 (s_many : Int32) (s_pinned : Nat → Int32) (s_guides : Nat → Int32) (v1 : Int32) : Int32 → Option ((Int32) ⊕ (Int32)) := fun v2 =>
  if s_many ≤ v2 then
    some (.inr v2)
  else
    (fX5_looks s_pinned v2).bind fun x1 =>
    sx_rd s_guides 6 v1 fun x2 =>
    if x1 = x2 then
      some (.inr v2)
    else
      some (.inl (v2 + (1 : Int32)))
def fX5_knownBy (s_many : Int32) (s_pinned : Nat → Int32) (s_guides : Nat → Int32) (v1 : Int32) : Option (Int32) :=
  (sx_it 1000 (bX5_knownBy_2 s_many s_pinned s_guides v1) (0 : Int32)).bind fun w4 =>
  if s_many ≤ w4 then
    some (-4 : Int32)
  else
    some w4
set_option maxHeartbeats 4000000 in
set_option maxRecDepth 100000 in
theorem lX5_knownBy_2 (d : sx_D) (κ : sx_C) (a : Nat → Nat) (s_many : Int32) (s_windMany : Int32) (s_year : Int32) (s_saidMany : Int32) (s_size : Int32) (s_readAt : Int32) (s_readPeaks : Int32) (s_readWinds : Int32) (s_readNumber : Int32) (s_undoMany : Int32) (s_keptMany : Int32) (s_pinned : Nat → Int32) (s_guides : Nat → Int32) (v1 : Int32) (X : sx_X d κ cX5_knownBy 3 RX5 (sx_rm 1)) (y : Int32) (hE30 : ∀ (v2 : Int32), v2 = y → sx_G d κ 3 0 0 30 [some (.ref (a 0)), none, some (.int v2)] [] [oX5 a s_many s_windMany s_year s_saidMany s_size s_readAt s_readPeaks s_readWinds s_readNumber s_undoMany s_keptMany, ai d (a 4) 30 s_pinned, ai d (a 6) 6 s_guides]) : ∀ (n : Nat) (v2 : Int32), sx_it n (bX5_knownBy_2 s_many s_pinned s_guides v1) v2 = some y → sx_G d κ 3 0 0 2 [some (.ref (a 0)), some (.int v1), some (.int v2)] [] [oX5 a s_many s_windMany s_year s_saidMany s_size s_readAt s_readPeaks s_readWinds s_readNumber s_undoMany s_keptMany, ai d (a 4) 30 s_pinned, ai d (a 6) 6 s_guides] := by
  refine sx_it_run (bX5_knownBy_2 s_many s_pinned s_guides v1) (fun v2 => sx_G d κ 3 0 0 2 [some (.ref (a 0)), some (.int v1), some (.int v2)] [] [oX5 a s_many s_windMany s_year s_saidMany s_size s_readAt s_readPeaks s_readWinds s_readNumber s_undoMany s_keptMany, ai d (a 4) 30 s_pinned, ai d (a 6) 6 s_guides]) y ?_
  rintro v2 x hf hb he
  show sx_G d κ 3 0 0 2 [some (.ref (a 0)), some (.int v1), some (.int v2)] [] [oX5 a s_many s_windMany s_year s_saidMany s_size s_readAt s_readPeaks s_readWinds s_readNumber s_undoMany s_keptMany, ai d (a 4) 30 s_pinned, ai d (a 6) 6 s_guides]
  unfold bX5_knownBy_2 at hf
  refine g_iload_n (pc' := 3) X dX5_knownBy_2 rfl rfl rfl ?_
  refine g_aload_n (pc' := 4) X dX5_knownBy_3 rfl rfl rfl ?_
  refine g_get (pc' := 7) X fl_X5_78 dX5_knownBy_4 rfl 0 rfl rfl ?_
  refine g_icmp_ge (tgt := 30) (pc' := 10) X dX5_knownBy_7 (by decide) rfl hf (fun hf => ?_) (fun hf => ?_)
  · exact sx_weak [true, false, true] rfl (hE30 _ (sx_ex hf he))
  · refine g_aload_n (pc' := 11) X dX5_knownBy_10 rfl rfl rfl ?_
    refine g_iload_n (pc' := 12) X dX5_knownBy_11 rfl rfl rfl ?_
    refine g_callVi0 (pc' := 15) (As := [.int v2]) (b := (a 0)) (st := []) (w2 := fun x1 => [oX5 a s_many s_windMany s_year s_saidMany s_size s_readAt s_readPeaks s_readWinds s_readNumber s_undoMany s_keptMany, ai d (a 4) 30 s_pinned, ai d (a 6) 6 s_guides]) X lk_X5_85 dX5_knownBy_12 rfl rfl rfl (Nat.le_of_ble_eq_true rfl) ⟨Nat.le_of_ble_eq_true rfl, Nat.le_of_ble_eq_true rfl, Nat.le_of_ble_eq_true rfl, Nat.le_of_ble_eq_true rfl⟩ rfl [0, 1] (by decide) rfl hf (fun l x1 h => ctX5_looks l d a s_many s_windMany s_year s_saidMany s_size s_readAt s_readPeaks s_readWinds s_readNumber s_undoMany s_keptMany s_pinned v2 x1 h) (fun _ => rfl) (fun _ => rfl) (fun x1 hnx1 hf => ?_)
    refine g_aload_n (pc' := 16) X dX5_knownBy_15 rfl rfl rfl ?_
    refine g_get (pc' := 19) X fl_X5_25 dX5_knownBy_16 rfl 0 rfl rfl ?_
    refine g_iload_n (pc' := 20) X dX5_knownBy_19 rfl rfl rfl ?_
    refine g_iald (pc' := 21) X dX5_knownBy_20 rfl 2 rfl hf (fun x2 hf => ?_)
    refine g_icmp_eq (tgt := 30) (pc' := 24) X dX5_knownBy_21 (by decide) rfl hf (fun hf => ?_) (fun hf => ?_)
    · exact sx_weak [true, false, true] rfl (hE30 _ (sx_ex hf he))
    · refine g_iinc (v := 1) (lv' := [some (.ref (a 0)), some (.int v1), some (.int (v2 + (1 : Int32)))]) (pc' := 27) X dX5_knownBy_24 rfl rfl (by decide) (by decide) rfl rfl ?_
      refine g_goto (tgt := 2) X dX5_knownBy_27 (by decide) ?_
      have hk := sx_bk hf hb
      exact sx_weak [true, true, true] rfl hk
set_option maxHeartbeats 4000000 in
set_option maxRecDepth 100000 in
theorem ctX5_knownBy (l : Launch) (d : sx_D) (a : Nat → Nat) (s_many : Int32) (s_windMany : Int32) (s_year : Int32) (s_saidMany : Int32) (s_size : Int32) (s_readAt : Int32) (s_readPeaks : Int32) (s_readWinds : Int32) (s_readNumber : Int32) (s_undoMany : Int32) (s_keptMany : Int32) (s_pinned : Nat → Int32) (s_guides : Nat → Int32) (v1 : Int32) (r : Int32) (hf : fX5_knownBy s_many s_pinned s_guides v1 = some r) : sx_I l d yX5_knownBy cX5_knownBy 3 .int 1 [.ref (a 0), .int v1] [oX5 a s_many s_windMany s_year s_saidMany s_size s_readAt s_readPeaks s_readWinds s_readNumber s_undoMany s_keptMany, ai d (a 4) 30 s_pinned, ai d (a 6) 6 s_guides] [oX5 a s_many s_windMany s_year s_saidMany s_size s_readAt s_readPeaks s_readWinds s_readNumber s_undoMany s_keptMany, ai d (a 4) 30 s_pinned, ai d (a 6) 6 s_guides] r := by
  refine sx_I.intro (lv0 := [some (.ref (a 0)), some (.int v1), none]) (by decide +kernel) (Nat.le_of_ble_eq_true rfl) rfl ?_
  intro κ X hR
  have X : sx_X d κ cX5_knownBy 3 RX5 (sx_rm 1) := X
  unfold fX5_knownBy at hf
  refine g_iconst (v := 0) (pc' := 1) X dX5_knownBy_0 rfl (by decide) ?_
  refine g_istore_n (lv' := [some (.ref (a 0)), some (.int v1), some (.int (0 : Int32))]) (pc' := 2) X dX5_knownBy_1 rfl rfl (by decide) rfl rfl ?_
  obtain ⟨y3, hy3, hf⟩ := sx_bd hf
  refine sx_weak [true, true, true] rfl (lX5_knownBy_2 d κ a s_many s_windMany s_year s_saidMany s_size s_readAt s_readPeaks s_readWinds s_readNumber s_undoMany s_keptMany s_pinned s_guides v1 X y3 ?_ 1000 (0 : Int32) hy3)
  rintro w4 rfl
  refine g_iload_n (pc' := 31) X dX5_knownBy_30 rfl rfl rfl ?_
  refine g_aload_n (pc' := 32) X dX5_knownBy_31 rfl rfl rfl ?_
  refine g_get (pc' := 35) X fl_X5_78 dX5_knownBy_32 rfl 0 rfl rfl ?_
  refine g_icmp_ge (tgt := 42) (pc' := 38) X dX5_knownBy_35 (by decide) rfl hf (fun hf => ?_) (fun hf => ?_)
  · refine g_bipush (v := -4) (pc' := 44) X dX5_knownBy_42 rfl (by decide) ?_
    cases hf
    exact hR _ _ dX5_knownBy_44 rfl
  · refine g_iload_n (pc' := 39) X dX5_knownBy_38 rfl rfl rfl ?_
    refine g_goto (tgt := 44) X dX5_knownBy_39 (by decide) ?_
    cases hf
    exact hR _ _ dX5_knownBy_44 rfl
-- X5_known
def fX5_known (s_many : Int32) (s_pinned : Nat → Int32) (s_guides : Nat → Int32) (v1 : Int32) : Option (Int32) :=
  (fX5_isPeak s_many v1).bind fun x1 =>
  if x1 = 0 then
    some (-1 : Int32)
  else
    (fX5_knownBy s_many s_pinned s_guides v1).bind fun x2 =>
    some x2
set_option maxHeartbeats 4000000 in
set_option maxRecDepth 100000 in
theorem ctX5_known (l : Launch) (d : sx_D) (a : Nat → Nat) (s_many : Int32) (s_windMany : Int32) (s_year : Int32) (s_saidMany : Int32) (s_size : Int32) (s_readAt : Int32) (s_readPeaks : Int32) (s_readWinds : Int32) (s_readNumber : Int32) (s_undoMany : Int32) (s_keptMany : Int32) (s_pinned : Nat → Int32) (s_guides : Nat → Int32) (v1 : Int32) (r : Int32) (hf : fX5_known s_many s_pinned s_guides v1 = some r) : sx_I l d yX5_known cX5_known 2 .int 2 [.ref (a 0), .int v1] [oX5 a s_many s_windMany s_year s_saidMany s_size s_readAt s_readPeaks s_readWinds s_readNumber s_undoMany s_keptMany, ai d (a 4) 30 s_pinned, ai d (a 6) 6 s_guides] [oX5 a s_many s_windMany s_year s_saidMany s_size s_readAt s_readPeaks s_readWinds s_readNumber s_undoMany s_keptMany, ai d (a 4) 30 s_pinned, ai d (a 6) 6 s_guides] r := by
  refine sx_I.intro (lv0 := [some (.ref (a 0)), some (.int v1)]) (by decide +kernel) (Nat.le_of_ble_eq_true rfl) rfl ?_
  intro κ X hR
  have X : sx_X d κ cX5_known 2 RX5 (sx_rm 2) := X
  unfold fX5_known at hf
  refine g_aload_n (pc' := 1) X dX5_known_0 rfl rfl rfl ?_
  refine g_iload_n (pc' := 2) X dX5_known_1 rfl rfl rfl ?_
  refine g_callVi0 (pc' := 5) (As := [.int v1]) (b := (a 0)) (st := []) (w2 := fun x1 => [oX5 a s_many s_windMany s_year s_saidMany s_size s_readAt s_readPeaks s_readWinds s_readNumber s_undoMany s_keptMany, ai d (a 4) 30 s_pinned, ai d (a 6) 6 s_guides]) X lk_X5_163 dX5_known_2 rfl rfl rfl (Nat.le_of_ble_eq_true rfl) ⟨Nat.le_of_ble_eq_true rfl, Nat.le_of_ble_eq_true rfl, Nat.le_of_ble_eq_true rfl, Nat.le_of_ble_eq_true rfl⟩ rfl [0] (by decide) rfl hf (fun l x1 h => ctX5_isPeak l d a s_many s_windMany s_year s_saidMany s_size s_readAt s_readPeaks s_readWinds s_readNumber s_undoMany s_keptMany v1 x1 h) (fun _ => rfl) (fun _ => rfl) (fun x1 hnx1 hf => ?_)
  refine g_if_eq (tgt := 16) (pc' := 8) X dX5_known_5 (by decide) rfl hf (fun hf => ?_) (fun hf => ?_)
  · refine g_iconst (v := -1) (pc' := 17) X dX5_known_16 rfl (by decide) ?_
    cases hf
    exact hR _ _ dX5_known_17 rfl
  · refine g_aload_n (pc' := 9) X dX5_known_8 rfl rfl rfl ?_
    refine g_iload_n (pc' := 10) X dX5_known_9 rfl rfl rfl ?_
    refine g_callVi0 (pc' := 13) (As := [.int v1]) (b := (a 0)) (st := []) (w2 := fun x2 => [oX5 a s_many s_windMany s_year s_saidMany s_size s_readAt s_readPeaks s_readWinds s_readNumber s_undoMany s_keptMany, ai d (a 4) 30 s_pinned, ai d (a 6) 6 s_guides]) X lk_X5_199 dX5_known_10 rfl rfl rfl (Nat.le_of_ble_eq_true rfl) ⟨Nat.le_of_ble_eq_true rfl, Nat.le_of_ble_eq_true rfl, Nat.le_of_ble_eq_true rfl, Nat.le_of_ble_eq_true rfl⟩ rfl [0, 1, 2] (by decide) rfl hf (fun l x2 h => ctX5_knownBy l d a s_many s_windMany s_year s_saidMany s_size s_readAt s_readPeaks s_readWinds s_readNumber s_undoMany s_keptMany s_pinned s_guides v1 x2 h) (fun _ => rfl) (fun _ => rfl) (fun x2 hnx2 hf => ?_)
    refine g_goto (tgt := 17) X dX5_known_13 (by decide) ?_
    cases hf
    exact hR _ _ dX5_known_17 rfl
-- X5_behind
def fX5_behind (s_many : Int32) (s_windMany : Int32) (s_year : Int32) (s_kindOf : Nat → Int32) (s_winds : Nat → Int32) (s_pinned : Nat → Int32) (s_stored : Nat → Int32) (s_guides : Nat → Int32) (s_aside : Nat → Int32) (v1 : Int32) (v2 : Int32) : Option (Int32 × Int32 × (Nat → Int32) × (Nat → Int32) × (Nat → Int32) × (Nat → Int32)) :=
  (fX5_in v1 (0 : Int32) (20 : Int32)).bind fun x1 =>
  if x1 = 0 then
    some ((-1 : Int32), s_year, s_pinned, s_stored, s_guides, s_aside)
  else
    (fX5_isPeak s_many v2).bind fun x2 =>
    if x2 = 0 then
      some ((-1 : Int32), s_year, s_pinned, s_stored, s_guides, s_aside)
    else
      (fX5_begin s_year s_pinned s_stored s_guides s_aside).bind fun o3 =>
      (fX5_goesOn s_many s_windMany s_year s_kindOf s_winds s_pinned s_guides v1).bind fun (o4, o5, o6) =>
      (fX5_looks o5 v2).bind fun x7 =>
      (fX5_putBack o4 o5 s_stored o6 o3).bind fun (o8, o9, o10, o11) =>
      some (x7, o8, o9, o10, o11, o3)
set_option maxHeartbeats 4000000 in
set_option maxRecDepth 100000 in
theorem ctX5_behind (l : Launch) (d : sx_D) (a : Nat → Nat) (s_many : Int32) (s_windMany : Int32) (s_year : Int32) (s_saidMany : Int32) (s_size : Int32) (s_readAt : Int32) (s_readPeaks : Int32) (s_readWinds : Int32) (s_readNumber : Int32) (s_undoMany : Int32) (s_keptMany : Int32) (s_kindOf : Nat → Int32) (s_winds : Nat → Int32) (s_pinned : Nat → Int32) (s_stored : Nat → Int32) (s_guides : Nat → Int32) (s_aside : Nat → Int32) (v1 : Int32) (v2 : Int32) (r : Int32) (ro1 : Int32) (ro2 : Nat → Int32) (ro3 : Nat → Int32) (ro4 : Nat → Int32) (ro5 : Nat → Int32) (hf : fX5_behind s_many s_windMany s_year s_kindOf s_winds s_pinned s_stored s_guides s_aside v1 v2 = some (r, ro1, ro2, ro3, ro4, ro5)) : sx_I l d yX5_behind cX5_behind 4 .int 4 [.ref (a 0), .int v1, .int v2] [oX5 a s_many s_windMany s_year s_saidMany s_size s_readAt s_readPeaks s_readWinds s_readNumber s_undoMany s_keptMany, ai d (a 1) 6 s_kindOf, ai d (a 3) 12 s_winds, ai d (a 4) 30 s_pinned, ai d (a 5) 5 s_stored, ai d (a 6) 6 s_guides, ai d (a 16) 42 s_aside] [oX5 a s_many s_windMany ro1 s_saidMany s_size s_readAt s_readPeaks s_readWinds s_readNumber s_undoMany s_keptMany, ai d (a 1) 6 s_kindOf, ai d (a 3) 12 s_winds, ai d (a 4) 30 ro2, ai d (a 5) 5 ro3, ai d (a 6) 6 ro4, ai d (a 16) 42 ro5] r := by
  refine sx_I.intro (lv0 := [some (.ref (a 0)), some (.int v1), some (.int v2), none]) (by decide +kernel) (Nat.le_of_ble_eq_true rfl) rfl ?_
  intro κ X hR
  have X : sx_X d κ cX5_behind 4 RX5 (sx_rm 4) := X
  unfold fX5_behind at hf
  refine g_iload_n (pc' := 1) X dX5_behind_0 rfl rfl rfl ?_
  refine g_iconst (v := 0) (pc' := 2) X dX5_behind_1 rfl (by decide) ?_
  refine g_bipush (v := 20) (pc' := 4) X dX5_behind_2 rfl (by decide) ?_
  refine g_callSi0 (pc' := 7) (As := [.int v1, .int (0 : Int32), .int (20 : Int32)]) (st := []) (w2 := fun x1 => [oX5 a s_many s_windMany s_year s_saidMany s_size s_readAt s_readPeaks s_readWinds s_readNumber s_undoMany s_keptMany, ai d (a 1) 6 s_kindOf, ai d (a 3) 12 s_winds, ai d (a 4) 30 s_pinned, ai d (a 5) 5 s_stored, ai d (a 6) 6 s_guides, ai d (a 16) 42 s_aside]) X lk_X5_81 dX5_behind_4 rfl rfl rfl (Nat.le_of_ble_eq_true rfl) ⟨Nat.le_of_ble_eq_true rfl, Nat.le_of_ble_eq_true rfl, Nat.le_of_ble_eq_true rfl, Nat.le_of_ble_eq_true rfl⟩ [] (by decide) rfl hf (fun l x1 h => ctX5_in l d v1 (0 : Int32) (20 : Int32) x1 h) (fun _ => rfl) (fun _ => rfl) (fun x1 hnx1 hf => ?_)
  refine g_if_eq (tgt := 18) (pc' := 10) X dX5_behind_7 (by decide) rfl hf (fun hf => ?_) (fun hf => ?_)
  · refine g_iconst (v := -1) (pc' := 19) X dX5_behind_18 rfl (by decide) ?_
    cases hf
    exact hR _ _ dX5_behind_19 rfl
  · refine g_aload_n (pc' := 11) X dX5_behind_10 rfl rfl rfl ?_
    refine g_iload_n (pc' := 12) X dX5_behind_11 rfl rfl rfl ?_
    refine g_callVi0 (pc' := 15) (As := [.int v2]) (b := (a 0)) (st := []) (w2 := fun x2 => [oX5 a s_many s_windMany s_year s_saidMany s_size s_readAt s_readPeaks s_readWinds s_readNumber s_undoMany s_keptMany, ai d (a 1) 6 s_kindOf, ai d (a 3) 12 s_winds, ai d (a 4) 30 s_pinned, ai d (a 5) 5 s_stored, ai d (a 6) 6 s_guides, ai d (a 16) 42 s_aside]) X lk_X5_163 dX5_behind_12 rfl rfl rfl (Nat.le_of_ble_eq_true rfl) ⟨Nat.le_of_ble_eq_true rfl, Nat.le_of_ble_eq_true rfl, Nat.le_of_ble_eq_true rfl, Nat.le_of_ble_eq_true rfl⟩ rfl [0] (by decide) rfl hf (fun l x2 h => ctX5_isPeak l d a s_many s_windMany s_year s_saidMany s_size s_readAt s_readPeaks s_readWinds s_readNumber s_undoMany s_keptMany v2 x2 h) (fun _ => rfl) (fun _ => rfl) (fun x2 hnx2 hf => ?_)
    refine g_if_ne (tgt := 20) (pc' := 18) X dX5_behind_15 (by decide) rfl hf (fun hf => ?_) (fun hf => ?_)
    · refine g_aload_n (pc' := 21) X dX5_behind_20 rfl rfl rfl ?_
      refine g_callVv1 (pc' := 24) (As := []) (b := (a 0)) (st := []) (w2 := fun o3 => [oX5 a s_many s_windMany s_year s_saidMany s_size s_readAt s_readPeaks s_readWinds s_readNumber s_undoMany s_keptMany, ai d (a 1) 6 s_kindOf, ai d (a 3) 12 s_winds, ai d (a 4) 30 s_pinned, ai d (a 5) 5 s_stored, ai d (a 6) 6 s_guides, ai d (a 16) 42 o3]) X lk_X5_202 dX5_behind_21 rfl rfl rfl (Nat.le_of_ble_eq_true rfl) ⟨Nat.le_of_ble_eq_true rfl, Nat.le_of_ble_eq_true rfl, Nat.le_of_ble_eq_true rfl, Nat.le_of_ble_eq_true rfl⟩ rfl [0, 3, 4, 5, 6] (by decide) rfl hf (fun l o3 h => ctX5_begin l d a s_many s_windMany s_year s_saidMany s_size s_readAt s_readPeaks s_readWinds s_readNumber s_undoMany s_keptMany s_pinned s_stored s_guides s_aside o3 h) (fun _ => rfl) (fun _ => rfl) (fun o3 hf => ?_)
      refine g_aload_n (pc' := 25) X dX5_behind_24 rfl rfl rfl ?_
      refine g_iload_n (pc' := 26) X dX5_behind_25 rfl rfl rfl ?_
      refine g_callVv3 (pc' := 29) (As := [.int v1]) (b := (a 0)) (st := []) (w2 := fun o4 o5 o6 => [oX5 a s_many s_windMany o4 s_saidMany s_size s_readAt s_readPeaks s_readWinds s_readNumber s_undoMany s_keptMany, ai d (a 1) 6 s_kindOf, ai d (a 3) 12 s_winds, ai d (a 4) 30 o5, ai d (a 5) 5 s_stored, ai d (a 6) 6 o6, ai d (a 16) 42 o3]) X lk_X5_190 dX5_behind_26 rfl rfl rfl (Nat.le_of_ble_eq_true rfl) ⟨Nat.le_of_ble_eq_true rfl, Nat.le_of_ble_eq_true rfl, Nat.le_of_ble_eq_true rfl, Nat.le_of_ble_eq_true rfl⟩ rfl [0, 1, 2, 3, 5] (by decide) rfl hf (fun l o4 o5 o6 h => ctX5_goesOn l d a s_many s_windMany s_year s_saidMany s_size s_readAt s_readPeaks s_readWinds s_readNumber s_undoMany s_keptMany s_kindOf s_winds s_pinned s_guides v1 o4 o5 o6 h) (fun _ _ _ => rfl) (fun _ _ _ => rfl) (fun o4 o5 o6 hf => ?_)
      refine g_aload_n (pc' := 30) X dX5_behind_29 rfl rfl rfl ?_
      refine g_iload_n (pc' := 31) X dX5_behind_30 rfl rfl rfl ?_
      refine g_callVi0 (pc' := 34) (As := [.int v2]) (b := (a 0)) (st := []) (w2 := fun x7 => [oX5 a s_many s_windMany o4 s_saidMany s_size s_readAt s_readPeaks s_readWinds s_readNumber s_undoMany s_keptMany, ai d (a 1) 6 s_kindOf, ai d (a 3) 12 s_winds, ai d (a 4) 30 o5, ai d (a 5) 5 s_stored, ai d (a 6) 6 o6, ai d (a 16) 42 o3]) X lk_X5_85 dX5_behind_31 rfl rfl rfl (Nat.le_of_ble_eq_true rfl) ⟨Nat.le_of_ble_eq_true rfl, Nat.le_of_ble_eq_true rfl, Nat.le_of_ble_eq_true rfl, Nat.le_of_ble_eq_true rfl⟩ rfl [0, 3] (by decide) rfl hf (fun l x7 h => ctX5_looks l d a s_many s_windMany o4 s_saidMany s_size s_readAt s_readPeaks s_readWinds s_readNumber s_undoMany s_keptMany o5 v2 x7 h) (fun _ => rfl) (fun _ => rfl) (fun x7 hnx7 hf => ?_)
      refine g_istore_n (lv' := [some (.ref (a 0)), some (.int v1), some (.int v2), some (.int x7)]) (pc' := 35) X dX5_behind_34 rfl rfl (by decide) rfl rfl ?_
      refine g_aload_n (pc' := 36) X dX5_behind_35 rfl rfl rfl ?_
      refine g_callVv4 (pc' := 39) (As := []) (b := (a 0)) (st := []) (w2 := fun o8 o9 o10 o11 => [oX5 a s_many s_windMany o8 s_saidMany s_size s_readAt s_readPeaks s_readWinds s_readNumber s_undoMany s_keptMany, ai d (a 1) 6 s_kindOf, ai d (a 3) 12 s_winds, ai d (a 4) 30 o9, ai d (a 5) 5 o10, ai d (a 6) 6 o11, ai d (a 16) 42 o3]) X lk_X5_205 dX5_behind_36 rfl rfl rfl (Nat.le_of_ble_eq_true rfl) ⟨Nat.le_of_ble_eq_true rfl, Nat.le_of_ble_eq_true rfl, Nat.le_of_ble_eq_true rfl, Nat.le_of_ble_eq_true rfl⟩ rfl [0, 3, 4, 5, 6] (by decide) rfl hf (fun l o8 o9 o10 o11 h => ctX5_putBack l d a s_many s_windMany o4 s_saidMany s_size s_readAt s_readPeaks s_readWinds s_readNumber s_undoMany s_keptMany o5 s_stored o6 o3 o8 o9 o10 o11 h) (fun _ _ _ _ => rfl) (fun _ _ _ _ => rfl) (fun o8 o9 o10 o11 hf => ?_)
      refine g_iload_n (pc' := 40) X dX5_behind_39 rfl rfl rfl ?_
      cases hf
      exact hR _ _ dX5_behind_40 rfl
    · refine g_iconst (v := -1) (pc' := 19) X dX5_behind_18 rfl (by decide) ?_
      cases hf
      exact hR _ _ dX5_behind_19 rfl
-- X5_goes
def bX5_goes_42 (s_many : Int32) (s_windMany : Int32) (s_kindOf : Nat → Int32) (s_winds : Nat → Int32) (v3 : Int32) : (Int32 × Int32 × (Nat → Int32) × (Nat → Int32)) → Option ((Int32 × Int32 × (Nat → Int32) × (Nat → Int32)) ⊕ (Int32 × Int32 × (Nat → Int32) × (Nat → Int32))) := fun (v4, s_year, s_pinned, s_guides) =>
  if (60 : Int32) ≤ v4 then
    some (.inr (v4, s_year, s_pinned, s_guides))
  else
    sx_rd s_pinned 30 v3 fun x6 =>
    if x6 ≤ 0 then
      some (.inr (v4, s_year, s_pinned, s_guides))
    else
      (fX5_goesOn s_many s_windMany s_year s_kindOf s_winds s_pinned s_guides (1 : Int32)).bind fun (o7, o8, o9) =>
      some (.inl (v4 + (1 : Int32), o7, o8, o9))
def jX5_goes_83 (s_year : Int32) (s_pinned : Nat → Int32) (s_stored : Nat → Int32) (s_guides : Nat → Int32) (s_aside : Nat → Int32) (v4 : Int32) (t0 : Int32) : Option (Int32 × Int32 × (Nat → Int32) × (Nat → Int32) × (Nat → Int32) × (Nat → Int32)) :=
  (fX5_putBack s_year s_pinned s_stored s_guides s_aside).bind fun (o16, o17, o18, o19) =>
  if t0 = 0 then
    some ((-4 : Int32), o16, o17, o18, o19, s_aside)
  else
    some (v4, o16, o17, o18, o19, s_aside)
def fX5_goes (s_many : Int32) (s_windMany : Int32) (s_year : Int32) (s_kindOf : Nat → Int32) (s_winds : Nat → Int32) (s_pinned : Nat → Int32) (s_stored : Nat → Int32) (s_guides : Nat → Int32) (s_aside : Nat → Int32) (v1 : Int32) (v2 : Int32) : Option (Int32 × Int32 × (Nat → Int32) × (Nat → Int32) × (Nat → Int32) × (Nat → Int32)) :=
  (fX5_isPeak s_many v1).bind fun x1 =>
  if x1 = 0 then
    some ((-1 : Int32), s_year, s_pinned, s_stored, s_guides, s_aside)
  else
    (fX5_isTrimming v2).bind fun x2 =>
    if x2 = 0 then
      some ((-1 : Int32), s_year, s_pinned, s_stored, s_guides, s_aside)
    else
      sx_lt (((5 : Int32) * v1) + v2) fun x3 =>
      sx_rd s_pinned 30 x3 fun x4 =>
      if x4 = 0 then
        some ((-2 : Int32), s_year, s_pinned, s_stored, s_guides, s_aside)
      else
        (fX5_begin s_year s_pinned s_stored s_guides s_aside).bind fun o5 =>
        (sx_it 1000 (bX5_goes_42 s_many s_windMany s_kindOf s_winds x3) ((0 : Int32), s_year, s_pinned, s_guides)).bind fun (w11, w12, w13, w14) =>
        sx_rd w13 30 x3 fun x15 =>
        if x15 = 0 then
          jX5_goes_83 w12 w13 s_stored w14 o5 w11 (1 : Int32)
        else
          jX5_goes_83 w12 w13 s_stored w14 o5 w11 (0 : Int32)
set_option maxHeartbeats 4000000 in
set_option maxRecDepth 100000 in
theorem lX5_goes_42 (d : sx_D) (κ : sx_C) (a : Nat → Nat) (s_many : Int32) (s_windMany : Int32) (s_saidMany : Int32) (s_size : Int32) (s_readAt : Int32) (s_readPeaks : Int32) (s_readWinds : Int32) (s_readNumber : Int32) (s_undoMany : Int32) (s_keptMany : Int32) (s_kindOf : Nat → Int32) (s_winds : Nat → Int32) (s_stored : Nat → Int32) (s_aside : Nat → Int32) (v3 : Int32) (X : sx_X d κ cX5_goes 6 RX5 (sx_rm 4)) (y : Int32 × Int32 × (Nat → Int32) × (Nat → Int32)) (hE69 : ∀ (v4 : Int32) (s_year : Int32) (s_pinned : Nat → Int32) (s_guides : Nat → Int32), (v4, s_year, s_pinned, s_guides) = y → sx_G d κ 6 0 0 69 [some (.ref (a 0)), none, none, some (.int v3), some (.int v4), none] [] [oX5 a s_many s_windMany s_year s_saidMany s_size s_readAt s_readPeaks s_readWinds s_readNumber s_undoMany s_keptMany, ai d (a 1) 6 s_kindOf, ai d (a 3) 12 s_winds, ai d (a 4) 30 s_pinned, ai d (a 5) 5 s_stored, ai d (a 6) 6 s_guides, ai d (a 16) 42 s_aside]) : ∀ (n : Nat) (s : Int32 × Int32 × (Nat → Int32) × (Nat → Int32)), sx_it n (bX5_goes_42 s_many s_windMany s_kindOf s_winds v3) s = some y → (match s with | (v4, s_year, s_pinned, s_guides) => sx_G d κ 6 0 0 42 [some (.ref (a 0)), none, none, some (.int v3), some (.int v4), none] [] [oX5 a s_many s_windMany s_year s_saidMany s_size s_readAt s_readPeaks s_readWinds s_readNumber s_undoMany s_keptMany, ai d (a 1) 6 s_kindOf, ai d (a 3) 12 s_winds, ai d (a 4) 30 s_pinned, ai d (a 5) 5 s_stored, ai d (a 6) 6 s_guides, ai d (a 16) 42 s_aside]) := by
  refine sx_it_run (bX5_goes_42 s_many s_windMany s_kindOf s_winds v3) (fun s => match s with | (v4, s_year, s_pinned, s_guides) => sx_G d κ 6 0 0 42 [some (.ref (a 0)), none, none, some (.int v3), some (.int v4), none] [] [oX5 a s_many s_windMany s_year s_saidMany s_size s_readAt s_readPeaks s_readWinds s_readNumber s_undoMany s_keptMany, ai d (a 1) 6 s_kindOf, ai d (a 3) 12 s_winds, ai d (a 4) 30 s_pinned, ai d (a 5) 5 s_stored, ai d (a 6) 6 s_guides, ai d (a 16) 42 s_aside]) y ?_
  rintro ⟨v4, s_year, s_pinned, s_guides⟩ x hf hb he
  show sx_G d κ 6 0 0 42 [some (.ref (a 0)), none, none, some (.int v3), some (.int v4), none] [] [oX5 a s_many s_windMany s_year s_saidMany s_size s_readAt s_readPeaks s_readWinds s_readNumber s_undoMany s_keptMany, ai d (a 1) 6 s_kindOf, ai d (a 3) 12 s_winds, ai d (a 4) 30 s_pinned, ai d (a 5) 5 s_stored, ai d (a 6) 6 s_guides, ai d (a 16) 42 s_aside]
  unfold bX5_goes_42 at hf
  refine g_iload (pc' := 44) X dX5_goes_42 rfl rfl ?_
  refine g_bipush (v := 60) (pc' := 46) X dX5_goes_44 rfl (by decide) ?_
  refine g_icmp_ge (tgt := 69) (pc' := 49) X dX5_goes_46 (by decide) rfl hf (fun hf => ?_) (fun hf => ?_)
  · exact sx_weak [true, true, true, true, true, true] rfl (hE69 _ _ _ _ (sx_ex hf he))
  · refine g_aload_n (pc' := 50) X dX5_goes_49 rfl rfl rfl ?_
    refine g_get (pc' := 53) X fl_X5_19 dX5_goes_50 rfl 0 rfl rfl ?_
    refine g_iload_n (pc' := 54) X dX5_goes_53 rfl rfl rfl ?_
    refine g_iald (pc' := 55) X dX5_goes_54 rfl 3 rfl hf (fun x6 hf => ?_)
    refine g_if_le (tgt := 69) (pc' := 58) X dX5_goes_55 (by decide) rfl hf (fun hf => ?_) (fun hf => ?_)
    · exact sx_weak [true, true, true, true, true, true] rfl (hE69 _ _ _ _ (sx_ex hf he))
    · refine g_aload_n (pc' := 59) X dX5_goes_58 rfl rfl rfl ?_
      refine g_iconst (v := 1) (pc' := 60) X dX5_goes_59 rfl (by decide) ?_
      refine g_callVv3 (pc' := 63) (As := [.int (1 : Int32)]) (b := (a 0)) (st := []) (w2 := fun o7 o8 o9 => [oX5 a s_many s_windMany o7 s_saidMany s_size s_readAt s_readPeaks s_readWinds s_readNumber s_undoMany s_keptMany, ai d (a 1) 6 s_kindOf, ai d (a 3) 12 s_winds, ai d (a 4) 30 o8, ai d (a 5) 5 s_stored, ai d (a 6) 6 o9, ai d (a 16) 42 s_aside]) X lk_X5_190 dX5_goes_60 rfl rfl rfl (Nat.le_of_ble_eq_true rfl) ⟨Nat.le_of_ble_eq_true rfl, Nat.le_of_ble_eq_true rfl, Nat.le_of_ble_eq_true rfl, Nat.le_of_ble_eq_true rfl⟩ rfl [0, 1, 2, 3, 5] (by decide) rfl hf (fun l o7 o8 o9 h => ctX5_goesOn l d a s_many s_windMany s_year s_saidMany s_size s_readAt s_readPeaks s_readWinds s_readNumber s_undoMany s_keptMany s_kindOf s_winds s_pinned s_guides (1 : Int32) o7 o8 o9 h) (fun _ _ _ => rfl) (fun _ _ _ => rfl) (fun o7 o8 o9 hf => ?_)
      refine g_iinc (v := 1) (lv' := [some (.ref (a 0)), none, none, some (.int v3), some (.int (v4 + (1 : Int32))), none]) (pc' := 66) X dX5_goes_63 rfl rfl (by decide) (by decide) rfl rfl ?_
      refine g_goto (tgt := 42) X dX5_goes_66 (by decide) ?_
      have hk := sx_bk hf hb
      exact sx_weak [true, true, true, true, true, true] rfl hk
set_option maxHeartbeats 4000000 in
set_option maxRecDepth 100000 in
theorem ctX5_goes (l : Launch) (d : sx_D) (a : Nat → Nat) (s_many : Int32) (s_windMany : Int32) (s_year : Int32) (s_saidMany : Int32) (s_size : Int32) (s_readAt : Int32) (s_readPeaks : Int32) (s_readWinds : Int32) (s_readNumber : Int32) (s_undoMany : Int32) (s_keptMany : Int32) (s_kindOf : Nat → Int32) (s_winds : Nat → Int32) (s_pinned : Nat → Int32) (s_stored : Nat → Int32) (s_guides : Nat → Int32) (s_aside : Nat → Int32) (v1 : Int32) (v2 : Int32) (r : Int32) (ro1 : Int32) (ro2 : Nat → Int32) (ro3 : Nat → Int32) (ro4 : Nat → Int32) (ro5 : Nat → Int32) (hf : fX5_goes s_many s_windMany s_year s_kindOf s_winds s_pinned s_stored s_guides s_aside v1 v2 = some (r, ro1, ro2, ro3, ro4, ro5)) : sx_I l d yX5_goes cX5_goes 6 .int 4 [.ref (a 0), .int v1, .int v2] [oX5 a s_many s_windMany s_year s_saidMany s_size s_readAt s_readPeaks s_readWinds s_readNumber s_undoMany s_keptMany, ai d (a 1) 6 s_kindOf, ai d (a 3) 12 s_winds, ai d (a 4) 30 s_pinned, ai d (a 5) 5 s_stored, ai d (a 6) 6 s_guides, ai d (a 16) 42 s_aside] [oX5 a s_many s_windMany ro1 s_saidMany s_size s_readAt s_readPeaks s_readWinds s_readNumber s_undoMany s_keptMany, ai d (a 1) 6 s_kindOf, ai d (a 3) 12 s_winds, ai d (a 4) 30 ro2, ai d (a 5) 5 ro3, ai d (a 6) 6 ro4, ai d (a 16) 42 ro5] r := by
  refine sx_I.intro (lv0 := [some (.ref (a 0)), some (.int v1), some (.int v2), none, none, none]) (by decide +kernel) (Nat.le_of_ble_eq_true rfl) rfl ?_
  intro κ X hR
  have X : sx_X d κ cX5_goes 6 RX5 (sx_rm 4) := X
  unfold fX5_goes at hf
  refine g_aload_n (pc' := 1) X dX5_goes_0 rfl rfl rfl ?_
  refine g_iload_n (pc' := 2) X dX5_goes_1 rfl rfl rfl ?_
  refine g_callVi0 (pc' := 5) (As := [.int v1]) (b := (a 0)) (st := []) (w2 := fun x1 => [oX5 a s_many s_windMany s_year s_saidMany s_size s_readAt s_readPeaks s_readWinds s_readNumber s_undoMany s_keptMany, ai d (a 1) 6 s_kindOf, ai d (a 3) 12 s_winds, ai d (a 4) 30 s_pinned, ai d (a 5) 5 s_stored, ai d (a 6) 6 s_guides, ai d (a 16) 42 s_aside]) X lk_X5_163 dX5_goes_2 rfl rfl rfl (Nat.le_of_ble_eq_true rfl) ⟨Nat.le_of_ble_eq_true rfl, Nat.le_of_ble_eq_true rfl, Nat.le_of_ble_eq_true rfl, Nat.le_of_ble_eq_true rfl⟩ rfl [0] (by decide) rfl hf (fun l x1 h => ctX5_isPeak l d a s_many s_windMany s_year s_saidMany s_size s_readAt s_readPeaks s_readWinds s_readNumber s_undoMany s_keptMany v1 x1 h) (fun _ => rfl) (fun _ => rfl) (fun x1 hnx1 hf => ?_)
  refine g_if_eq (tgt := 15) (pc' := 8) X dX5_goes_5 (by decide) rfl hf (fun hf => ?_) (fun hf => ?_)
  · refine g_iconst (v := -1) (pc' := 16) X dX5_goes_15 rfl (by decide) ?_
    cases hf
    exact hR _ _ dX5_goes_16 rfl
  · refine g_iload_n (pc' := 9) X dX5_goes_8 rfl rfl rfl ?_
    refine g_callSi0 (pc' := 12) (As := [.int v2]) (st := []) (w2 := fun x2 => [oX5 a s_many s_windMany s_year s_saidMany s_size s_readAt s_readPeaks s_readWinds s_readNumber s_undoMany s_keptMany, ai d (a 1) 6 s_kindOf, ai d (a 3) 12 s_winds, ai d (a 4) 30 s_pinned, ai d (a 5) 5 s_stored, ai d (a 6) 6 s_guides, ai d (a 16) 42 s_aside]) X lk_X5_170 dX5_goes_9 rfl rfl rfl (Nat.le_of_ble_eq_true rfl) ⟨Nat.le_of_ble_eq_true rfl, Nat.le_of_ble_eq_true rfl, Nat.le_of_ble_eq_true rfl, Nat.le_of_ble_eq_true rfl⟩ [] (by decide) rfl hf (fun l x2 h => ctX5_isTrimming l d v2 x2 h) (fun _ => rfl) (fun _ => rfl) (fun x2 hnx2 hf => ?_)
    refine g_if_ne (tgt := 17) (pc' := 15) X dX5_goes_12 (by decide) rfl hf (fun hf => ?_) (fun hf => ?_)
    · refine g_iconst (v := 5) (pc' := 18) X dX5_goes_17 rfl (by decide) ?_
      refine g_iload_n (pc' := 19) X dX5_goes_18 rfl rfl rfl ?_
      refine g_imul (pc' := 20) X dX5_goes_19 rfl ?_
      refine g_iload_n (pc' := 21) X dX5_goes_20 rfl rfl rfl ?_
      refine g_iadd (pc' := 22) X dX5_goes_21 rfl ?_
      refine g_istore_nN (lv' := fun x3 => [some (.ref (a 0)), some (.int v1), some (.int v2), some (.int x3), none, none]) (pc' := 23) X dX5_goes_22 rfl rfl (by decide) rfl (fun _ => rfl) hf (fun x3 hf => ?_)
      refine g_aload_n (pc' := 24) X dX5_goes_23 rfl rfl rfl ?_
      refine g_get (pc' := 27) X fl_X5_19 dX5_goes_24 rfl 0 rfl rfl ?_
      refine g_iload_n (pc' := 28) X dX5_goes_27 rfl rfl rfl ?_
      refine g_iald (pc' := 29) X dX5_goes_28 rfl 3 rfl hf (fun x4 hf => ?_)
      refine g_if_ne (tgt := 35) (pc' := 32) X dX5_goes_29 (by decide) rfl hf (fun hf => ?_) (fun hf => ?_)
      · refine g_aload_n (pc' := 36) X dX5_goes_35 rfl rfl rfl ?_
        refine g_callVv1 (pc' := 39) (As := []) (b := (a 0)) (st := []) (w2 := fun o5 => [oX5 a s_many s_windMany s_year s_saidMany s_size s_readAt s_readPeaks s_readWinds s_readNumber s_undoMany s_keptMany, ai d (a 1) 6 s_kindOf, ai d (a 3) 12 s_winds, ai d (a 4) 30 s_pinned, ai d (a 5) 5 s_stored, ai d (a 6) 6 s_guides, ai d (a 16) 42 o5]) X lk_X5_202 dX5_goes_36 rfl rfl rfl (Nat.le_of_ble_eq_true rfl) ⟨Nat.le_of_ble_eq_true rfl, Nat.le_of_ble_eq_true rfl, Nat.le_of_ble_eq_true rfl, Nat.le_of_ble_eq_true rfl⟩ rfl [0, 3, 4, 5, 6] (by decide) rfl hf (fun l o5 h => ctX5_begin l d a s_many s_windMany s_year s_saidMany s_size s_readAt s_readPeaks s_readWinds s_readNumber s_undoMany s_keptMany s_pinned s_stored s_guides s_aside o5 h) (fun _ => rfl) (fun _ => rfl) (fun o5 hf => ?_)
        refine g_iconst (v := 0) (pc' := 40) X dX5_goes_39 rfl (by decide) ?_
        refine g_istore (lv' := [some (.ref (a 0)), some (.int v1), some (.int v2), some (.int x3), some (.int (0 : Int32)), none]) (pc' := 42) X dX5_goes_40 rfl (by decide) rfl rfl ?_
        obtain ⟨y10, hy10, hf⟩ := sx_bd hf
        refine sx_weak [true, false, false, true, true, true] rfl (lX5_goes_42 d κ a s_many s_windMany s_saidMany s_size s_readAt s_readPeaks s_readWinds s_readNumber s_undoMany s_keptMany s_kindOf s_winds s_stored o5 x3 X y10 ?_ 1000 ((0 : Int32), s_year, s_pinned, s_guides) hy10)
        rintro w11 w12 w13 w14 rfl
        refine g_aload_n (pc' := 70) X dX5_goes_69 rfl rfl rfl ?_
        refine g_get (pc' := 73) X fl_X5_19 dX5_goes_70 rfl 0 rfl rfl ?_
        refine g_iload_n (pc' := 74) X dX5_goes_73 rfl rfl rfl ?_
        refine g_iald (pc' := 75) X dX5_goes_74 rfl 3 rfl hf (fun x15 hf => ?_)
        have hjX5_goes_83 : ∀ (v4 : Int32) (t0 : Int32) (s_year : Int32) (s_pinned : Nat → Int32) (s_stored : Nat → Int32) (s_guides : Nat → Int32) (s_aside : Nat → Int32), jX5_goes_83 s_year s_pinned s_stored s_guides s_aside v4 t0 = some (r, ro1, ro2, ro3, ro4, ro5) → sx_G d κ 6 0 0 83 [some (.ref (a 0)), none, none, none, some (.int v4), none] [.int t0] [oX5 a s_many s_windMany s_year s_saidMany s_size s_readAt s_readPeaks s_readWinds s_readNumber s_undoMany s_keptMany, ai d (a 1) 6 s_kindOf, ai d (a 3) 12 s_winds, ai d (a 4) 30 s_pinned, ai d (a 5) 5 s_stored, ai d (a 6) 6 s_guides, ai d (a 16) 42 s_aside] := by
          intro v4 t0 s_year s_pinned s_stored s_guides s_aside hf
          unfold jX5_goes_83 at hf
          refine g_istore (lv' := [some (.ref (a 0)), none, none, none, some (.int v4), some (.int t0)]) (pc' := 85) X dX5_goes_83 rfl (by decide) rfl rfl ?_
          refine g_aload_n (pc' := 86) X dX5_goes_85 rfl rfl rfl ?_
          refine g_callVv4 (pc' := 89) (As := []) (b := (a 0)) (st := []) (w2 := fun o16 o17 o18 o19 => [oX5 a s_many s_windMany o16 s_saidMany s_size s_readAt s_readPeaks s_readWinds s_readNumber s_undoMany s_keptMany, ai d (a 1) 6 s_kindOf, ai d (a 3) 12 s_winds, ai d (a 4) 30 o17, ai d (a 5) 5 o18, ai d (a 6) 6 o19, ai d (a 16) 42 s_aside]) X lk_X5_205 dX5_goes_86 rfl rfl rfl (Nat.le_of_ble_eq_true rfl) ⟨Nat.le_of_ble_eq_true rfl, Nat.le_of_ble_eq_true rfl, Nat.le_of_ble_eq_true rfl, Nat.le_of_ble_eq_true rfl⟩ rfl [0, 3, 4, 5, 6] (by decide) rfl hf (fun l o16 o17 o18 o19 h => ctX5_putBack l d a s_many s_windMany s_year s_saidMany s_size s_readAt s_readPeaks s_readWinds s_readNumber s_undoMany s_keptMany s_pinned s_stored s_guides s_aside o16 o17 o18 o19 h) (fun _ _ _ _ => rfl) (fun _ _ _ _ => rfl) (fun o16 o17 o18 o19 hf => ?_)
          refine g_iload (pc' := 91) X dX5_goes_89 rfl rfl ?_
          refine g_if_eq (tgt := 99) (pc' := 94) X dX5_goes_91 (by decide) rfl hf (fun hf => ?_) (fun hf => ?_)
          · refine g_bipush (v := -4) (pc' := 101) X dX5_goes_99 rfl (by decide) ?_
            cases hf
            exact hR _ _ dX5_goes_101 rfl
          · refine g_iload (pc' := 96) X dX5_goes_94 rfl rfl ?_
            refine g_goto (tgt := 101) X dX5_goes_96 (by decide) ?_
            cases hf
            exact hR _ _ dX5_goes_101 rfl
        refine g_if_ne (tgt := 82) (pc' := 78) X dX5_goes_75 (by decide) rfl hf (fun hf => ?_) (fun hf => ?_)
        · refine g_iconst (v := 0) (pc' := 83) X dX5_goes_82 rfl (by decide) ?_
          exact sx_weak [true, true, true, false, true, true] rfl (hjX5_goes_83 w11 (0 : Int32) w12 w13 s_stored w14 o5 hf)
        · refine g_iconst (v := 1) (pc' := 79) X dX5_goes_78 rfl (by decide) ?_
          refine g_goto (tgt := 83) X dX5_goes_79 (by decide) ?_
          exact sx_weak [true, true, true, false, true, true] rfl (hjX5_goes_83 w11 (1 : Int32) w12 w13 s_stored w14 o5 hf)
      · refine g_bipush (v := -2) (pc' := 34) X dX5_goes_32 rfl (by decide) ?_
        cases hf
        exact hR _ _ dX5_goes_34 rfl
    · refine g_iconst (v := -1) (pc' := 16) X dX5_goes_15 rfl (by decide) ?_
      cases hf
      exact hR _ _ dX5_goes_16 rfl
-- X5_needed
def bX5_needed_6 (s_windMany : Int32) (s_year : Int32) (s_kindOf : Nat → Int32) (s_winds : Nat → Int32) (v1 : Int32) (v2 : Int32) (v3 : Int32) : (Int32 × Int32) → Option ((Int32 × Int32) ⊕ (Int32)) := fun (v4, v5) =>
  if v3 ≤ v5 then
    some (.inr v4)
  else
    (fX5_windOf s_windMany s_winds (s_year + v5)).bind fun x1 =>
    (fX5_forceBy s_kindOf v1 x1).bind fun x2 =>
    (fX5_greater v4 (x2 + (v2 * v5))).bind fun x3 =>
    (fX5_greater x3 (((v2 * v5) + v2) + (1 : Int32))).bind fun x4 =>
    some (.inl (x4, v5 + (1 : Int32)))
def fX5_needed (s_windMany : Int32) (s_year : Int32) (s_kindOf : Nat → Int32) (s_winds : Nat → Int32) (v1 : Int32) (v2 : Int32) (v3 : Int32) : Option (Int32) :=
  (sx_it 1000 (bX5_needed_6 s_windMany s_year s_kindOf s_winds v1 v2 v3) ((0 : Int32), (0 : Int32))).bind fun w6 =>
  some w6
set_option maxHeartbeats 4000000 in
set_option maxRecDepth 100000 in
theorem lX5_needed_6 (d : sx_D) (κ : sx_C) (a : Nat → Nat) (s_many : Int32) (s_windMany : Int32) (s_year : Int32) (s_saidMany : Int32) (s_size : Int32) (s_readAt : Int32) (s_readPeaks : Int32) (s_readWinds : Int32) (s_readNumber : Int32) (s_undoMany : Int32) (s_keptMany : Int32) (s_kindOf : Nat → Int32) (s_winds : Nat → Int32) (v1 : Int32) (v2 : Int32) (v3 : Int32) (X : sx_X d κ cX5_needed 7 RX5 (sx_rm 2)) (y : Int32) (hE65 : ∀ (v4 : Int32), v4 = y → sx_G d κ 7 0 0 65 [none, none, none, none, some (.int v4), none, none] [] [oX5 a s_many s_windMany s_year s_saidMany s_size s_readAt s_readPeaks s_readWinds s_readNumber s_undoMany s_keptMany, ai d (a 1) 6 s_kindOf, ai d (a 3) 12 s_winds]) : ∀ (n : Nat) (s : Int32 × Int32), sx_it n (bX5_needed_6 s_windMany s_year s_kindOf s_winds v1 v2 v3) s = some y → (match s with | (v4, v5) => sx_G d κ 7 0 0 6 [some (.ref (a 0)), some (.int v1), some (.int v2), some (.int v3), some (.int v4), some (.int v5), none] [] [oX5 a s_many s_windMany s_year s_saidMany s_size s_readAt s_readPeaks s_readWinds s_readNumber s_undoMany s_keptMany, ai d (a 1) 6 s_kindOf, ai d (a 3) 12 s_winds]) := by
  refine sx_it_run (bX5_needed_6 s_windMany s_year s_kindOf s_winds v1 v2 v3) (fun s => match s with | (v4, v5) => sx_G d κ 7 0 0 6 [some (.ref (a 0)), some (.int v1), some (.int v2), some (.int v3), some (.int v4), some (.int v5), none] [] [oX5 a s_many s_windMany s_year s_saidMany s_size s_readAt s_readPeaks s_readWinds s_readNumber s_undoMany s_keptMany, ai d (a 1) 6 s_kindOf, ai d (a 3) 12 s_winds]) y ?_
  rintro ⟨v4, v5⟩ x hf hb he
  show sx_G d κ 7 0 0 6 [some (.ref (a 0)), some (.int v1), some (.int v2), some (.int v3), some (.int v4), some (.int v5), none] [] [oX5 a s_many s_windMany s_year s_saidMany s_size s_readAt s_readPeaks s_readWinds s_readNumber s_undoMany s_keptMany, ai d (a 1) 6 s_kindOf, ai d (a 3) 12 s_winds]
  unfold bX5_needed_6 at hf
  refine g_iload (pc' := 8) X dX5_needed_6 rfl rfl ?_
  refine g_iload_n (pc' := 9) X dX5_needed_8 rfl rfl rfl ?_
  refine g_icmp_ge (tgt := 65) (pc' := 12) X dX5_needed_9 (by decide) rfl hf (fun hf => ?_) (fun hf => ?_)
  · exact sx_weak [false, false, false, false, true, false, true] rfl (hE65 _ (sx_ex hf he))
  · refine g_aload_n (pc' := 13) X dX5_needed_12 rfl rfl rfl ?_
    refine g_iload_n (pc' := 14) X dX5_needed_13 rfl rfl rfl ?_
    refine g_aload_n (pc' := 15) X dX5_needed_14 rfl rfl rfl ?_
    refine g_aload_n (pc' := 16) X dX5_needed_15 rfl rfl rfl ?_
    refine g_get (pc' := 19) X fl_X5_133 dX5_needed_16 rfl 0 rfl rfl ?_
    refine g_iload (pc' := 21) X dX5_needed_19 rfl rfl ?_
    refine g_iadd (pc' := 22) X dX5_needed_21 rfl ?_
    refine g_callVi0 (pc' := 25) (As := [.int (s_year + v5)]) (b := (a 0)) (st := [.int v1, .ref (a 0)]) (w2 := fun x1 => [oX5 a s_many s_windMany s_year s_saidMany s_size s_readAt s_readPeaks s_readWinds s_readNumber s_undoMany s_keptMany, ai d (a 1) 6 s_kindOf, ai d (a 3) 12 s_winds]) X lk_X5_156 dX5_needed_22 rfl rfl rfl (Nat.le_of_ble_eq_true rfl) ⟨Nat.le_of_ble_eq_true rfl, Nat.le_of_ble_eq_true rfl, Nat.le_of_ble_eq_true rfl, Nat.le_of_ble_eq_true rfl⟩ rfl [0, 2] (by decide) rfl hf (fun l x1 h => ctX5_windOf l d a s_many s_windMany s_year s_saidMany s_size s_readAt s_readPeaks s_readWinds s_readNumber s_undoMany s_keptMany s_winds (s_year + v5) x1 h) (fun _ => rfl) (fun _ => rfl) (fun x1 hnx1 hf => ?_)
    refine g_callVi0 (pc' := 28) (As := [.int v1, .int x1]) (b := (a 0)) (st := []) (w2 := fun x2 => [oX5 a s_many s_windMany s_year s_saidMany s_size s_readAt s_readPeaks s_readWinds s_readNumber s_undoMany s_keptMany, ai d (a 1) 6 s_kindOf, ai d (a 3) 12 s_winds]) X lk_X5_153 dX5_needed_25 rfl rfl rfl (Nat.le_of_ble_eq_true rfl) ⟨Nat.le_of_ble_eq_true rfl, Nat.le_of_ble_eq_true rfl, Nat.le_of_ble_eq_true rfl, Nat.le_of_ble_eq_true rfl⟩ rfl [0, 1] (by decide) rfl hf (fun l x2 h => ctX5_forceBy l d a s_many s_windMany s_year s_saidMany s_size s_readAt s_readPeaks s_readWinds s_readNumber s_undoMany s_keptMany s_kindOf v1 x1 x2 h) (fun _ => rfl) (fun _ => rfl) (fun x2 hnx2 hf => ?_)
    refine g_istore (lv' := [some (.ref (a 0)), some (.int v1), some (.int v2), some (.int v3), some (.int v4), some (.int v5), some (.int x2)]) (pc' := 30) X dX5_needed_28 rfl (by decide) rfl rfl ?_
    refine g_iload (pc' := 32) X dX5_needed_30 rfl rfl ?_
    refine g_iload (pc' := 34) X dX5_needed_32 rfl rfl ?_
    refine g_iload_n (pc' := 35) X dX5_needed_34 rfl rfl rfl ?_
    refine g_iload (pc' := 37) X dX5_needed_35 rfl rfl ?_
    refine g_imul (pc' := 38) X dX5_needed_37 rfl ?_
    refine g_iadd (pc' := 39) X dX5_needed_38 rfl ?_
    refine g_callSi0 (pc' := 42) (As := [.int v4, .int (x2 + (v2 * v5))]) (st := []) (w2 := fun x3 => [oX5 a s_many s_windMany s_year s_saidMany s_size s_readAt s_readPeaks s_readWinds s_readNumber s_undoMany s_keptMany, ai d (a 1) 6 s_kindOf, ai d (a 3) 12 s_winds]) X lk_X5_145 dX5_needed_39 rfl rfl rfl (Nat.le_of_ble_eq_true rfl) ⟨Nat.le_of_ble_eq_true rfl, Nat.le_of_ble_eq_true rfl, Nat.le_of_ble_eq_true rfl, Nat.le_of_ble_eq_true rfl⟩ [] (by decide) rfl hf (fun l x3 h => ctX5_greater l d v4 (x2 + (v2 * v5)) x3 h) (fun _ => rfl) (fun _ => rfl) (fun x3 hnx3 hf => ?_)
    refine g_istore (lv' := [some (.ref (a 0)), some (.int v1), some (.int v2), some (.int v3), some (.int x3), some (.int v5), some (.int x2)]) (pc' := 44) X dX5_needed_42 rfl (by decide) rfl rfl ?_
    refine g_iload (pc' := 46) X dX5_needed_44 rfl rfl ?_
    refine g_iload_n (pc' := 47) X dX5_needed_46 rfl rfl rfl ?_
    refine g_iload (pc' := 49) X dX5_needed_47 rfl rfl ?_
    refine g_imul (pc' := 50) X dX5_needed_49 rfl ?_
    refine g_iload_n (pc' := 51) X dX5_needed_50 rfl rfl rfl ?_
    refine g_iadd (pc' := 52) X dX5_needed_51 rfl ?_
    refine g_iconst (v := 1) (pc' := 53) X dX5_needed_52 rfl (by decide) ?_
    refine g_iadd (pc' := 54) X dX5_needed_53 rfl ?_
    refine g_callSi0 (pc' := 57) (As := [.int x3, .int (((v2 * v5) + v2) + (1 : Int32))]) (st := []) (w2 := fun x4 => [oX5 a s_many s_windMany s_year s_saidMany s_size s_readAt s_readPeaks s_readWinds s_readNumber s_undoMany s_keptMany, ai d (a 1) 6 s_kindOf, ai d (a 3) 12 s_winds]) X lk_X5_145 dX5_needed_54 rfl rfl rfl (Nat.le_of_ble_eq_true rfl) ⟨Nat.le_of_ble_eq_true rfl, Nat.le_of_ble_eq_true rfl, Nat.le_of_ble_eq_true rfl, Nat.le_of_ble_eq_true rfl⟩ [] (by decide) rfl hf (fun l x4 h => ctX5_greater l d x3 (((v2 * v5) + v2) + (1 : Int32)) x4 h) (fun _ => rfl) (fun _ => rfl) (fun x4 hnx4 hf => ?_)
    refine g_istore (lv' := [some (.ref (a 0)), some (.int v1), some (.int v2), some (.int v3), some (.int x4), some (.int v5), some (.int x2)]) (pc' := 59) X dX5_needed_57 rfl (by decide) rfl rfl ?_
    refine g_iinc (v := 1) (lv' := [some (.ref (a 0)), some (.int v1), some (.int v2), some (.int v3), some (.int x4), some (.int (v5 + (1 : Int32))), some (.int x2)]) (pc' := 62) X dX5_needed_59 rfl rfl (by decide) (by decide) rfl rfl ?_
    refine g_goto (tgt := 6) X dX5_needed_62 (by decide) ?_
    have hk := sx_bk hf hb
    exact sx_weak [true, true, true, true, true, true, false] rfl hk
set_option maxHeartbeats 4000000 in
set_option maxRecDepth 100000 in
theorem ctX5_needed (l : Launch) (d : sx_D) (a : Nat → Nat) (s_many : Int32) (s_windMany : Int32) (s_year : Int32) (s_saidMany : Int32) (s_size : Int32) (s_readAt : Int32) (s_readPeaks : Int32) (s_readWinds : Int32) (s_readNumber : Int32) (s_undoMany : Int32) (s_keptMany : Int32) (s_kindOf : Nat → Int32) (s_winds : Nat → Int32) (v1 : Int32) (v2 : Int32) (v3 : Int32) (r : Int32) (hf : fX5_needed s_windMany s_year s_kindOf s_winds v1 v2 v3 = some r) : sx_I l d yX5_needed cX5_needed 7 .int 2 [.ref (a 0), .int v1, .int v2, .int v3] [oX5 a s_many s_windMany s_year s_saidMany s_size s_readAt s_readPeaks s_readWinds s_readNumber s_undoMany s_keptMany, ai d (a 1) 6 s_kindOf, ai d (a 3) 12 s_winds] [oX5 a s_many s_windMany s_year s_saidMany s_size s_readAt s_readPeaks s_readWinds s_readNumber s_undoMany s_keptMany, ai d (a 1) 6 s_kindOf, ai d (a 3) 12 s_winds] r := by
  refine sx_I.intro (lv0 := [some (.ref (a 0)), some (.int v1), some (.int v2), some (.int v3), none, none, none]) (by decide +kernel) (Nat.le_of_ble_eq_true rfl) rfl ?_
  intro κ X hR
  have X : sx_X d κ cX5_needed 7 RX5 (sx_rm 2) := X
  unfold fX5_needed at hf
  refine g_iconst (v := 0) (pc' := 1) X dX5_needed_0 rfl (by decide) ?_
  refine g_istore (lv' := [some (.ref (a 0)), some (.int v1), some (.int v2), some (.int v3), some (.int (0 : Int32)), none, none]) (pc' := 3) X dX5_needed_1 rfl (by decide) rfl rfl ?_
  refine g_iconst (v := 0) (pc' := 4) X dX5_needed_3 rfl (by decide) ?_
  refine g_istore (lv' := [some (.ref (a 0)), some (.int v1), some (.int v2), some (.int v3), some (.int (0 : Int32)), some (.int (0 : Int32)), none]) (pc' := 6) X dX5_needed_4 rfl (by decide) rfl rfl ?_
  obtain ⟨y5, hy5, hf⟩ := sx_bd hf
  refine sx_weak [true, true, true, true, true, true, true] rfl (lX5_needed_6 d κ a s_many s_windMany s_year s_saidMany s_size s_readAt s_readPeaks s_readWinds s_readNumber s_undoMany s_keptMany s_kindOf s_winds v1 v2 v3 X y5 ?_ 1000 ((0 : Int32), (0 : Int32)) hy5)
  rintro w6 rfl
  refine g_iload (pc' := 67) X dX5_needed_65 rfl rfl ?_
  cases hf
  exact hR _ _ dX5_needed_67 rfl
-- X5_hold
def jX5_hold_74 (s_windMany : Int32) (s_year : Int32) (s_kindOf : Nat → Int32) (s_winds : Nat → Int32) (v1 : Int32) (v2 : Int32) (v3 : Int32) (v5 : Int32) (v6 : Int32) (t0 : Int32) : Option ((Int32 × Int32 × Int32) ⊕ (Int32)) :=
  (fX5_needed s_windMany s_year s_kindOf s_winds v3 t0 v1).bind fun x4 =>
  (fX5_greater (0 : Int32) (x4 - v6)).bind fun x5 =>
  sx_lt (v2 + x5) fun x6 =>
  some (.inl (x6, (0 : Int32), v5 + (1 : Int32)))
def jX5_hold_73 (s_windMany : Int32) (s_year : Int32) (s_kindOf : Nat → Int32) (s_winds : Nat → Int32) (v1 : Int32) (v2 : Int32) (v3 : Int32) (v5 : Int32) (v6 : Int32) : Option ((Int32 × Int32 × Int32) ⊕ (Int32)) :=
  jX5_hold_74 s_windMany s_year s_kindOf s_winds v1 v2 v3 v5 v6 (1 : Int32)
def bX5_hold_30 (s_windMany : Int32) (s_year : Int32) (s_kindOf : Nat → Int32) (s_winds : Nat → Int32) (s_pinned : Nat → Int32) (v1 : Int32) (v3 : Int32) : (Int32 × Int32 × Int32) → Option ((Int32 × Int32 × Int32) ⊕ (Int32)) := fun (v2, v4, v5) =>
  if (5 : Int32) ≤ v5 then
    some (.inr v2)
  else
    sx_rd s_pinned 30 (((5 : Int32) * v3) + v5) fun x2 =>
    if x2 ≤ 0 then
      some (.inl (v2, v4, v5 + (1 : Int32)))
    else
      sx_rd s_kindOf 6 v3 fun x3 =>
      if x3 = (3 : Int32) then
        if v4 = 0 then
          jX5_hold_73 s_windMany s_year s_kindOf s_winds v1 v2 v3 v5 x2
        else
          jX5_hold_74 s_windMany s_year s_kindOf s_winds v1 v2 v3 v5 x2 (2 : Int32)
      else
        jX5_hold_73 s_windMany s_year s_kindOf s_winds v1 v2 v3 v5 x2
def bX5_hold_16 (s_many : Int32) (s_windMany : Int32) (s_year : Int32) (s_kindOf : Nat → Int32) (s_winds : Nat → Int32) (s_pinned : Nat → Int32) (v1 : Int32) : (Int32 × Int32) → Option ((Int32 × Int32) ⊕ (Int32)) := fun (v2, v3) =>
  if s_many ≤ v3 then
    some (.inr v2)
  else
    (sx_it 1000 (bX5_hold_30 s_windMany s_year s_kindOf s_winds s_pinned v1 v3) (v2, (1 : Int32), (0 : Int32))).bind fun w8 =>
    some (.inl (w8, v3 + (1 : Int32)))
def fX5_hold (s_many : Int32) (s_windMany : Int32) (s_year : Int32) (s_kindOf : Nat → Int32) (s_winds : Nat → Int32) (s_pinned : Nat → Int32) (v1 : Int32) : Option (Int32) :=
  (fX5_in v1 (1 : Int32) (20 : Int32)).bind fun x1 =>
  if x1 = 0 then
    some (-1 : Int32)
  else
    (sx_it 1000 (bX5_hold_16 s_many s_windMany s_year s_kindOf s_winds s_pinned v1) ((0 : Int32), (0 : Int32))).bind fun w10 =>
    some w10
set_option maxHeartbeats 4000000 in
set_option maxRecDepth 100000 in
theorem lX5_hold_30 (d : sx_D) (κ : sx_C) (a : Nat → Nat) (s_many : Int32) (s_windMany : Int32) (s_year : Int32) (s_saidMany : Int32) (s_size : Int32) (s_readAt : Int32) (s_readPeaks : Int32) (s_readWinds : Int32) (s_readNumber : Int32) (s_undoMany : Int32) (s_keptMany : Int32) (s_kindOf : Nat → Int32) (s_winds : Nat → Int32) (s_pinned : Nat → Int32) (v1 : Int32) (v3 : Int32) (X : sx_X d κ cX5_hold 8 RX5 (sx_rm 3)) (y : Int32) (hE103 : ∀ (v2 : Int32), v2 = y → sx_G d κ 8 0 0 103 [some (.ref (a 0)), some (.int v1), some (.int v2), some (.int v3), none, none, none, none] [] [oX5 a s_many s_windMany s_year s_saidMany s_size s_readAt s_readPeaks s_readWinds s_readNumber s_undoMany s_keptMany, ai d (a 1) 6 s_kindOf, ai d (a 3) 12 s_winds, ai d (a 4) 30 s_pinned]) : ∀ (n : Nat) (s : Int32 × Int32 × Int32), sx_it n (bX5_hold_30 s_windMany s_year s_kindOf s_winds s_pinned v1 v3) s = some y → (match s with | (v2, v4, v5) => sx_G d κ 8 0 0 30 [some (.ref (a 0)), some (.int v1), some (.int v2), some (.int v3), some (.int v4), some (.int v5), none, none] [] [oX5 a s_many s_windMany s_year s_saidMany s_size s_readAt s_readPeaks s_readWinds s_readNumber s_undoMany s_keptMany, ai d (a 1) 6 s_kindOf, ai d (a 3) 12 s_winds, ai d (a 4) 30 s_pinned]) := by
  refine sx_it_run (bX5_hold_30 s_windMany s_year s_kindOf s_winds s_pinned v1 v3) (fun s => match s with | (v2, v4, v5) => sx_G d κ 8 0 0 30 [some (.ref (a 0)), some (.int v1), some (.int v2), some (.int v3), some (.int v4), some (.int v5), none, none] [] [oX5 a s_many s_windMany s_year s_saidMany s_size s_readAt s_readPeaks s_readWinds s_readNumber s_undoMany s_keptMany, ai d (a 1) 6 s_kindOf, ai d (a 3) 12 s_winds, ai d (a 4) 30 s_pinned]) y ?_
  rintro ⟨v2, v4, v5⟩ x hf hb he
  show sx_G d κ 8 0 0 30 [some (.ref (a 0)), some (.int v1), some (.int v2), some (.int v3), some (.int v4), some (.int v5), none, none] [] [oX5 a s_many s_windMany s_year s_saidMany s_size s_readAt s_readPeaks s_readWinds s_readNumber s_undoMany s_keptMany, ai d (a 1) 6 s_kindOf, ai d (a 3) 12 s_winds, ai d (a 4) 30 s_pinned]
  unfold bX5_hold_30 at hf
  refine g_iload (pc' := 32) X dX5_hold_30 rfl rfl ?_
  refine g_iconst (v := 5) (pc' := 33) X dX5_hold_32 rfl (by decide) ?_
  refine g_icmp_ge (tgt := 103) (pc' := 36) X dX5_hold_33 (by decide) rfl hf (fun hf => ?_) (fun hf => ?_)
  · exact sx_weak [true, true, true, true, false, false, true, true] rfl (hE103 _ (sx_ex hf he))
  · refine g_aload_n (pc' := 37) X dX5_hold_36 rfl rfl rfl ?_
    refine g_get (pc' := 40) X fl_X5_19 dX5_hold_37 rfl 0 rfl rfl ?_
    refine g_iconst (v := 5) (pc' := 41) X dX5_hold_40 rfl (by decide) ?_
    refine g_iload_n (pc' := 42) X dX5_hold_41 rfl rfl rfl ?_
    refine g_imul (pc' := 43) X dX5_hold_42 rfl ?_
    refine g_iload (pc' := 45) X dX5_hold_43 rfl rfl ?_
    refine g_iadd (pc' := 46) X dX5_hold_45 rfl ?_
    refine g_iald (pc' := 47) X dX5_hold_46 rfl 3 rfl hf (fun x2 hf => ?_)
    refine g_istore (lv' := [some (.ref (a 0)), some (.int v1), some (.int v2), some (.int v3), some (.int v4), some (.int v5), some (.int x2), none]) (pc' := 49) X dX5_hold_47 rfl (by decide) rfl rfl ?_
    refine g_iload (pc' := 51) X dX5_hold_49 rfl rfl ?_
    refine g_if_le (tgt := 97) (pc' := 54) X dX5_hold_51 (by decide) rfl hf (fun hf => ?_) (fun hf => ?_)
    · refine g_iinc (v := 1) (lv' := [some (.ref (a 0)), some (.int v1), some (.int v2), some (.int v3), some (.int v4), some (.int (v5 + (1 : Int32))), some (.int x2), none]) (pc' := 100) X dX5_hold_97 rfl rfl (by decide) (by decide) rfl rfl ?_
      refine g_goto (tgt := 30) X dX5_hold_100 (by decide) ?_
      have hk := sx_bk hf hb
      exact sx_weak [true, true, true, true, true, true, false, true] rfl hk
    · refine g_aload_n (pc' := 55) X dX5_hold_54 rfl rfl rfl ?_
      refine g_get (pc' := 58) X fl_X5_9 dX5_hold_55 rfl 0 rfl rfl ?_
      refine g_iload_n (pc' := 59) X dX5_hold_58 rfl rfl rfl ?_
      refine g_iald (pc' := 60) X dX5_hold_59 rfl 1 rfl hf (fun x3 hf => ?_)
      refine g_iconst (v := 3) (pc' := 61) X dX5_hold_60 rfl (by decide) ?_
      have hjX5_hold_74 : ∀ (v2 : Int32) (v5 : Int32) (v6 : Int32) (t0 : Int32), jX5_hold_74 s_windMany s_year s_kindOf s_winds v1 v2 v3 v5 v6 t0 = some x → sx_G d κ 8 0 0 74 [some (.ref (a 0)), some (.int v1), some (.int v2), some (.int v3), none, some (.int v5), some (.int v6), none] [.int t0] [oX5 a s_many s_windMany s_year s_saidMany s_size s_readAt s_readPeaks s_readWinds s_readNumber s_undoMany s_keptMany, ai d (a 1) 6 s_kindOf, ai d (a 3) 12 s_winds, ai d (a 4) 30 s_pinned] := by
        intro v2 v5 v6 t0 hf
        unfold jX5_hold_74 at hf
        refine g_istore (lv' := [some (.ref (a 0)), some (.int v1), some (.int v2), some (.int v3), none, some (.int v5), some (.int v6), some (.int t0)]) (pc' := 76) X dX5_hold_74 rfl (by decide) rfl rfl ?_
        refine g_iload_n (pc' := 77) X dX5_hold_76 rfl rfl rfl ?_
        refine g_iconst (v := 0) (pc' := 78) X dX5_hold_77 rfl (by decide) ?_
        refine g_aload_n (pc' := 79) X dX5_hold_78 rfl rfl rfl ?_
        refine g_iload_n (pc' := 80) X dX5_hold_79 rfl rfl rfl ?_
        refine g_iload (pc' := 82) X dX5_hold_80 rfl rfl ?_
        refine g_iload_n (pc' := 83) X dX5_hold_82 rfl rfl rfl ?_
        refine g_callVi0 (pc' := 86) (As := [.int v3, .int t0, .int v1]) (b := (a 0)) (st := [.int (0 : Int32), .int v2]) (w2 := fun x4 => [oX5 a s_many s_windMany s_year s_saidMany s_size s_readAt s_readPeaks s_readWinds s_readNumber s_undoMany s_keptMany, ai d (a 1) 6 s_kindOf, ai d (a 3) 12 s_winds, ai d (a 4) 30 s_pinned]) X lk_X5_208 dX5_hold_83 rfl rfl rfl (Nat.le_of_ble_eq_true rfl) ⟨Nat.le_of_ble_eq_true rfl, Nat.le_of_ble_eq_true rfl, Nat.le_of_ble_eq_true rfl, Nat.le_of_ble_eq_true rfl⟩ rfl [0, 1, 2] (by decide) rfl hf (fun l x4 h => ctX5_needed l d a s_many s_windMany s_year s_saidMany s_size s_readAt s_readPeaks s_readWinds s_readNumber s_undoMany s_keptMany s_kindOf s_winds v3 t0 v1 x4 h) (fun _ => rfl) (fun _ => rfl) (fun x4 hnx4 hf => ?_)
        refine g_iload (pc' := 88) X dX5_hold_86 rfl rfl ?_
        refine g_isub (pc' := 89) X dX5_hold_88 rfl ?_
        refine g_callSi0 (pc' := 92) (As := [.int (0 : Int32), .int (x4 - v6)]) (st := [.int v2]) (w2 := fun x5 => [oX5 a s_many s_windMany s_year s_saidMany s_size s_readAt s_readPeaks s_readWinds s_readNumber s_undoMany s_keptMany, ai d (a 1) 6 s_kindOf, ai d (a 3) 12 s_winds, ai d (a 4) 30 s_pinned]) X lk_X5_145 dX5_hold_89 rfl rfl rfl (Nat.le_of_ble_eq_true rfl) ⟨Nat.le_of_ble_eq_true rfl, Nat.le_of_ble_eq_true rfl, Nat.le_of_ble_eq_true rfl, Nat.le_of_ble_eq_true rfl⟩ [] (by decide) rfl hf (fun l x5 h => ctX5_greater l d (0 : Int32) (x4 - v6) x5 h) (fun _ => rfl) (fun _ => rfl) (fun x5 hnx5 hf => ?_)
        refine g_iadd (pc' := 93) X dX5_hold_92 rfl ?_
        refine g_istore_nN (lv' := fun x6 => [some (.ref (a 0)), some (.int v1), some (.int x6), some (.int v3), none, some (.int v5), some (.int v6), some (.int t0)]) (pc' := 94) X dX5_hold_93 rfl rfl (by decide) rfl (fun _ => rfl) hf (fun x6 hf => ?_)
        refine g_iconst (v := 0) (pc' := 95) X dX5_hold_94 rfl (by decide) ?_
        refine g_istore (lv' := [some (.ref (a 0)), some (.int v1), some (.int x6), some (.int v3), some (.int (0 : Int32)), some (.int v5), some (.int v6), some (.int t0)]) (pc' := 97) X dX5_hold_95 rfl (by decide) rfl rfl ?_
        refine g_iinc (v := 1) (lv' := [some (.ref (a 0)), some (.int v1), some (.int x6), some (.int v3), some (.int (0 : Int32)), some (.int (v5 + (1 : Int32))), some (.int v6), some (.int t0)]) (pc' := 100) X dX5_hold_97 rfl rfl (by decide) (by decide) rfl rfl ?_
        refine g_goto (tgt := 30) X dX5_hold_100 (by decide) ?_
        have hk := sx_bk hf hb
        exact sx_weak [true, true, true, true, true, true, false, false] rfl hk
      have hjX5_hold_73 : ∀ (v2 : Int32) (v5 : Int32) (v6 : Int32), jX5_hold_73 s_windMany s_year s_kindOf s_winds v1 v2 v3 v5 v6 = some x → sx_G d κ 8 0 0 73 [some (.ref (a 0)), some (.int v1), some (.int v2), some (.int v3), none, some (.int v5), some (.int v6), none] [] [oX5 a s_many s_windMany s_year s_saidMany s_size s_readAt s_readPeaks s_readWinds s_readNumber s_undoMany s_keptMany, ai d (a 1) 6 s_kindOf, ai d (a 3) 12 s_winds, ai d (a 4) 30 s_pinned] := by
        intro v2 v5 v6 hf
        unfold jX5_hold_73 at hf
        refine g_iconst (v := 1) (pc' := 74) X dX5_hold_73 rfl (by decide) ?_
        exact sx_weak [true, true, true, true, true, true, true, true] rfl (hjX5_hold_74 v2 v5 v6 (1 : Int32) hf)
      refine g_icmp_ne (tgt := 73) (pc' := 64) X dX5_hold_61 (by decide) rfl hf (fun hf => ?_) (fun hf => ?_)
      · exact sx_weak [true, true, true, true, false, true, true, true] rfl (hjX5_hold_73 v2 v5 x2 hf)
      · refine g_iload (pc' := 66) X dX5_hold_64 rfl rfl ?_
        refine g_if_eq (tgt := 73) (pc' := 69) X dX5_hold_66 (by decide) rfl hf (fun hf => ?_) (fun hf => ?_)
        · exact sx_weak [true, true, true, true, false, true, true, true] rfl (hjX5_hold_73 v2 v5 x2 hf)
        · refine g_iconst (v := 2) (pc' := 70) X dX5_hold_69 rfl (by decide) ?_
          refine g_goto (tgt := 74) X dX5_hold_70 (by decide) ?_
          exact sx_weak [true, true, true, true, false, true, true, true] rfl (hjX5_hold_74 v2 v5 x2 (2 : Int32) hf)
set_option maxHeartbeats 4000000 in
set_option maxRecDepth 100000 in
theorem lX5_hold_16 (d : sx_D) (κ : sx_C) (a : Nat → Nat) (s_many : Int32) (s_windMany : Int32) (s_year : Int32) (s_saidMany : Int32) (s_size : Int32) (s_readAt : Int32) (s_readPeaks : Int32) (s_readWinds : Int32) (s_readNumber : Int32) (s_undoMany : Int32) (s_keptMany : Int32) (s_kindOf : Nat → Int32) (s_winds : Nat → Int32) (s_pinned : Nat → Int32) (v1 : Int32) (X : sx_X d κ cX5_hold 8 RX5 (sx_rm 3)) (y : Int32) (hE109 : ∀ (v2 : Int32), v2 = y → sx_G d κ 8 0 0 109 [none, none, some (.int v2), none, none, none, none, none] [] [oX5 a s_many s_windMany s_year s_saidMany s_size s_readAt s_readPeaks s_readWinds s_readNumber s_undoMany s_keptMany, ai d (a 1) 6 s_kindOf, ai d (a 3) 12 s_winds, ai d (a 4) 30 s_pinned]) : ∀ (n : Nat) (s : Int32 × Int32), sx_it n (bX5_hold_16 s_many s_windMany s_year s_kindOf s_winds s_pinned v1) s = some y → (match s with | (v2, v3) => sx_G d κ 8 0 0 16 [some (.ref (a 0)), some (.int v1), some (.int v2), some (.int v3), none, none, none, none] [] [oX5 a s_many s_windMany s_year s_saidMany s_size s_readAt s_readPeaks s_readWinds s_readNumber s_undoMany s_keptMany, ai d (a 1) 6 s_kindOf, ai d (a 3) 12 s_winds, ai d (a 4) 30 s_pinned]) := by
  refine sx_it_run (bX5_hold_16 s_many s_windMany s_year s_kindOf s_winds s_pinned v1) (fun s => match s with | (v2, v3) => sx_G d κ 8 0 0 16 [some (.ref (a 0)), some (.int v1), some (.int v2), some (.int v3), none, none, none, none] [] [oX5 a s_many s_windMany s_year s_saidMany s_size s_readAt s_readPeaks s_readWinds s_readNumber s_undoMany s_keptMany, ai d (a 1) 6 s_kindOf, ai d (a 3) 12 s_winds, ai d (a 4) 30 s_pinned]) y ?_
  rintro ⟨v2, v3⟩ x hf hb he
  show sx_G d κ 8 0 0 16 [some (.ref (a 0)), some (.int v1), some (.int v2), some (.int v3), none, none, none, none] [] [oX5 a s_many s_windMany s_year s_saidMany s_size s_readAt s_readPeaks s_readWinds s_readNumber s_undoMany s_keptMany, ai d (a 1) 6 s_kindOf, ai d (a 3) 12 s_winds, ai d (a 4) 30 s_pinned]
  unfold bX5_hold_16 at hf
  refine g_iload_n (pc' := 17) X dX5_hold_16 rfl rfl rfl ?_
  refine g_aload_n (pc' := 18) X dX5_hold_17 rfl rfl rfl ?_
  refine g_get (pc' := 21) X fl_X5_78 dX5_hold_18 rfl 0 rfl rfl ?_
  refine g_icmp_ge (tgt := 109) (pc' := 24) X dX5_hold_21 (by decide) rfl hf (fun hf => ?_) (fun hf => ?_)
  · exact sx_weak [false, false, true, false, true, true, true, true] rfl (hE109 _ (sx_ex hf he))
  · refine g_iconst (v := 1) (pc' := 25) X dX5_hold_24 rfl (by decide) ?_
    refine g_istore (lv' := [some (.ref (a 0)), some (.int v1), some (.int v2), some (.int v3), some (.int (1 : Int32)), none, none, none]) (pc' := 27) X dX5_hold_25 rfl (by decide) rfl rfl ?_
    refine g_iconst (v := 0) (pc' := 28) X dX5_hold_27 rfl (by decide) ?_
    refine g_istore (lv' := [some (.ref (a 0)), some (.int v1), some (.int v2), some (.int v3), some (.int (1 : Int32)), some (.int (0 : Int32)), none, none]) (pc' := 30) X dX5_hold_28 rfl (by decide) rfl rfl ?_
    obtain ⟨y7, hy7, hf⟩ := sx_bd hf
    refine sx_weak [true, true, true, true, true, true, true, true] rfl (lX5_hold_30 d κ a s_many s_windMany s_year s_saidMany s_size s_readAt s_readPeaks s_readWinds s_readNumber s_undoMany s_keptMany s_kindOf s_winds s_pinned v1 v3 X y7 ?_ 1000 (v2, (1 : Int32), (0 : Int32)) hy7)
    rintro w8 rfl
    refine g_iinc (v := 1) (lv' := [some (.ref (a 0)), some (.int v1), some (.int w8), some (.int (v3 + (1 : Int32))), none, none, none, none]) (pc' := 106) X dX5_hold_103 rfl rfl (by decide) (by decide) rfl rfl ?_
    refine g_goto (tgt := 16) X dX5_hold_106 (by decide) ?_
    have hk := sx_bk hf hb
    exact sx_weak [true, true, true, true, true, true, true, true] rfl hk
set_option maxHeartbeats 4000000 in
set_option maxRecDepth 100000 in
theorem ctX5_hold (l : Launch) (d : sx_D) (a : Nat → Nat) (s_many : Int32) (s_windMany : Int32) (s_year : Int32) (s_saidMany : Int32) (s_size : Int32) (s_readAt : Int32) (s_readPeaks : Int32) (s_readWinds : Int32) (s_readNumber : Int32) (s_undoMany : Int32) (s_keptMany : Int32) (s_kindOf : Nat → Int32) (s_winds : Nat → Int32) (s_pinned : Nat → Int32) (v1 : Int32) (r : Int32) (hf : fX5_hold s_many s_windMany s_year s_kindOf s_winds s_pinned v1 = some r) : sx_I l d yX5_hold cX5_hold 8 .int 3 [.ref (a 0), .int v1] [oX5 a s_many s_windMany s_year s_saidMany s_size s_readAt s_readPeaks s_readWinds s_readNumber s_undoMany s_keptMany, ai d (a 1) 6 s_kindOf, ai d (a 3) 12 s_winds, ai d (a 4) 30 s_pinned] [oX5 a s_many s_windMany s_year s_saidMany s_size s_readAt s_readPeaks s_readWinds s_readNumber s_undoMany s_keptMany, ai d (a 1) 6 s_kindOf, ai d (a 3) 12 s_winds, ai d (a 4) 30 s_pinned] r := by
  refine sx_I.intro (lv0 := [some (.ref (a 0)), some (.int v1), none, none, none, none, none, none]) (by decide +kernel) (Nat.le_of_ble_eq_true rfl) rfl ?_
  intro κ X hR
  have X : sx_X d κ cX5_hold 8 RX5 (sx_rm 3) := X
  unfold fX5_hold at hf
  refine g_iload_n (pc' := 1) X dX5_hold_0 rfl rfl rfl ?_
  refine g_iconst (v := 1) (pc' := 2) X dX5_hold_1 rfl (by decide) ?_
  refine g_bipush (v := 20) (pc' := 4) X dX5_hold_2 rfl (by decide) ?_
  refine g_callSi0 (pc' := 7) (As := [.int v1, .int (1 : Int32), .int (20 : Int32)]) (st := []) (w2 := fun x1 => [oX5 a s_many s_windMany s_year s_saidMany s_size s_readAt s_readPeaks s_readWinds s_readNumber s_undoMany s_keptMany, ai d (a 1) 6 s_kindOf, ai d (a 3) 12 s_winds, ai d (a 4) 30 s_pinned]) X lk_X5_81 dX5_hold_4 rfl rfl rfl (Nat.le_of_ble_eq_true rfl) ⟨Nat.le_of_ble_eq_true rfl, Nat.le_of_ble_eq_true rfl, Nat.le_of_ble_eq_true rfl, Nat.le_of_ble_eq_true rfl⟩ [] (by decide) rfl hf (fun l x1 h => ctX5_in l d v1 (1 : Int32) (20 : Int32) x1 h) (fun _ => rfl) (fun _ => rfl) (fun x1 hnx1 hf => ?_)
  refine g_if_ne (tgt := 12) (pc' := 10) X dX5_hold_7 (by decide) rfl hf (fun hf => ?_) (fun hf => ?_)
  · refine g_iconst (v := 0) (pc' := 13) X dX5_hold_12 rfl (by decide) ?_
    refine g_istore_n (lv' := [some (.ref (a 0)), some (.int v1), some (.int (0 : Int32)), none, none, none, none, none]) (pc' := 14) X dX5_hold_13 rfl rfl (by decide) rfl rfl ?_
    refine g_iconst (v := 0) (pc' := 15) X dX5_hold_14 rfl (by decide) ?_
    refine g_istore_n (lv' := [some (.ref (a 0)), some (.int v1), some (.int (0 : Int32)), some (.int (0 : Int32)), none, none, none, none]) (pc' := 16) X dX5_hold_15 rfl rfl (by decide) rfl rfl ?_
    obtain ⟨y9, hy9, hf⟩ := sx_bd hf
    refine sx_weak [true, true, true, true, true, true, true, true] rfl (lX5_hold_16 d κ a s_many s_windMany s_year s_saidMany s_size s_readAt s_readPeaks s_readWinds s_readNumber s_undoMany s_keptMany s_kindOf s_winds s_pinned v1 X y9 ?_ 1000 ((0 : Int32), (0 : Int32)) hy9)
    rintro w10 rfl
    refine g_iload_n (pc' := 110) X dX5_hold_109 rfl rfl rfl ?_
    cases hf
    exact hR _ _ dX5_hold_110 rfl
  · refine g_iconst (v := -1) (pc' := 11) X dX5_hold_10 rfl (by decide) ?_
    cases hf
    exact hR _ _ dX5_hold_11 rfl
-- X5_tells
def bX5_tells_17 (s_many : Int32) (s_pinned : Nat → Int32) (v1 : Int32) (v3 : Int32) : (Int32 × Int32) → Option ((Int32 × Int32) ⊕ (Int32)) := fun (v2, v4) =>
  if s_many ≤ v4 then
    some (.inr v2)
  else
    if v2 = 0 then
      some (.inl ((0 : Int32), v4 + (1 : Int32)))
    else
      (fX5_looks s_pinned v3).bind fun x2 =>
      (fX5_looks s_pinned v4).bind fun x3 =>
      if (x2 &&& v1) = (x3 &&& v1) then
        some (.inl ((0 : Int32), v4 + (1 : Int32)))
      else
        some (.inl ((1 : Int32), v4 + (1 : Int32)))
def bX5_tells_4 (s_many : Int32) (s_pinned : Nat → Int32) (v1 : Int32) : (Int32 × Int32) → Option ((Int32 × Int32) ⊕ (Int32)) := fun (v2, v3) =>
  if s_many ≤ v3 then
    some (.inr v2)
  else
    sx_lt (v3 + (1 : Int32)) fun x1 =>
    (sx_it 1000 (bX5_tells_17 s_many s_pinned v1 v3) (v2, x1)).bind fun w5 =>
    some (.inl (w5, v3 + (1 : Int32)))
def fX5_tells (s_many : Int32) (s_pinned : Nat → Int32) (v1 : Int32) : Option (Int32) :=
  (sx_it 1000 (bX5_tells_4 s_many s_pinned v1) ((1 : Int32), (0 : Int32))).bind fun w7 =>
  sx_ok8 .boolean w7 <|
  some w7
set_option maxHeartbeats 4000000 in
set_option maxRecDepth 100000 in
theorem lX5_tells_17 (d : sx_D) (κ : sx_C) (a : Nat → Nat) (s_many : Int32) (s_windMany : Int32) (s_year : Int32) (s_saidMany : Int32) (s_size : Int32) (s_readAt : Int32) (s_readPeaks : Int32) (s_readWinds : Int32) (s_readNumber : Int32) (s_undoMany : Int32) (s_keptMany : Int32) (s_pinned : Nat → Int32) (v1 : Int32) (v3 : Int32) (X : sx_X d κ cX5_tells 5 RX5 (sx_rm 1)) (y : Int32) (hE60 : ∀ (v2 : Int32), v2 = y → sx_G d κ 5 0 0 60 [some (.ref (a 0)), some (.int v1), some (.int v2), some (.int v3), none] [] [oX5 a s_many s_windMany s_year s_saidMany s_size s_readAt s_readPeaks s_readWinds s_readNumber s_undoMany s_keptMany, ai d (a 4) 30 s_pinned]) : ∀ (n : Nat) (s : Int32 × Int32), sx_it n (bX5_tells_17 s_many s_pinned v1 v3) s = some y → (match s with | (v2, v4) => sx_G d κ 5 0 0 17 [some (.ref (a 0)), some (.int v1), some (.int v2), some (.int v3), some (.int v4)] [] [oX5 a s_many s_windMany s_year s_saidMany s_size s_readAt s_readPeaks s_readWinds s_readNumber s_undoMany s_keptMany, ai d (a 4) 30 s_pinned]) := by
  refine sx_it_run (bX5_tells_17 s_many s_pinned v1 v3) (fun s => match s with | (v2, v4) => sx_G d κ 5 0 0 17 [some (.ref (a 0)), some (.int v1), some (.int v2), some (.int v3), some (.int v4)] [] [oX5 a s_many s_windMany s_year s_saidMany s_size s_readAt s_readPeaks s_readWinds s_readNumber s_undoMany s_keptMany, ai d (a 4) 30 s_pinned]) y ?_
  rintro ⟨v2, v4⟩ x hf hb he
  show sx_G d κ 5 0 0 17 [some (.ref (a 0)), some (.int v1), some (.int v2), some (.int v3), some (.int v4)] [] [oX5 a s_many s_windMany s_year s_saidMany s_size s_readAt s_readPeaks s_readWinds s_readNumber s_undoMany s_keptMany, ai d (a 4) 30 s_pinned]
  unfold bX5_tells_17 at hf
  refine g_iload (pc' := 19) X dX5_tells_17 rfl rfl ?_
  refine g_aload_n (pc' := 20) X dX5_tells_19 rfl rfl rfl ?_
  refine g_get (pc' := 23) X fl_X5_78 dX5_tells_20 rfl 0 rfl rfl ?_
  refine g_icmp_ge (tgt := 60) (pc' := 26) X dX5_tells_23 (by decide) rfl hf (fun hf => ?_) (fun hf => ?_)
  · exact sx_weak [true, true, true, true, false] rfl (hE60 _ (sx_ex hf he))
  · refine g_iload_n (pc' := 27) X dX5_tells_26 rfl rfl rfl ?_
    refine g_if_eq (tgt := 52) (pc' := 30) X dX5_tells_27 (by decide) rfl hf (fun hf => ?_) (fun hf => ?_)
    · refine g_iconst (v := 0) (pc' := 53) X dX5_tells_52 rfl (by decide) ?_
      refine g_istore_n (lv' := [some (.ref (a 0)), some (.int v1), some (.int (0 : Int32)), some (.int v3), some (.int v4)]) (pc' := 54) X dX5_tells_53 rfl rfl (by decide) rfl rfl ?_
      refine g_iinc (v := 1) (lv' := [some (.ref (a 0)), some (.int v1), some (.int (0 : Int32)), some (.int v3), some (.int (v4 + (1 : Int32)))]) (pc' := 57) X dX5_tells_54 rfl rfl (by decide) (by decide) rfl rfl ?_
      refine g_goto (tgt := 17) X dX5_tells_57 (by decide) ?_
      have hk := sx_bk hf hb
      exact sx_weak [true, true, true, true, true] rfl hk
    · refine g_aload_n (pc' := 31) X dX5_tells_30 rfl rfl rfl ?_
      refine g_iload_n (pc' := 32) X dX5_tells_31 rfl rfl rfl ?_
      refine g_callVi0 (pc' := 35) (As := [.int v3]) (b := (a 0)) (st := []) (w2 := fun x2 => [oX5 a s_many s_windMany s_year s_saidMany s_size s_readAt s_readPeaks s_readWinds s_readNumber s_undoMany s_keptMany, ai d (a 4) 30 s_pinned]) X lk_X5_85 dX5_tells_32 rfl rfl rfl (Nat.le_of_ble_eq_true rfl) ⟨Nat.le_of_ble_eq_true rfl, Nat.le_of_ble_eq_true rfl, Nat.le_of_ble_eq_true rfl, Nat.le_of_ble_eq_true rfl⟩ rfl [0, 1] (by decide) rfl hf (fun l x2 h => ctX5_looks l d a s_many s_windMany s_year s_saidMany s_size s_readAt s_readPeaks s_readWinds s_readNumber s_undoMany s_keptMany s_pinned v3 x2 h) (fun _ => rfl) (fun _ => rfl) (fun x2 hnx2 hf => ?_)
      refine g_iload_n (pc' := 36) X dX5_tells_35 rfl rfl rfl ?_
      refine g_iand (pc' := 37) X dX5_tells_36 rfl ?_
      refine g_aload_n (pc' := 38) X dX5_tells_37 rfl rfl rfl ?_
      refine g_iload (pc' := 40) X dX5_tells_38 rfl rfl ?_
      refine g_callVi0 (pc' := 43) (As := [.int v4]) (b := (a 0)) (st := [.int (x2 &&& v1)]) (w2 := fun x3 => [oX5 a s_many s_windMany s_year s_saidMany s_size s_readAt s_readPeaks s_readWinds s_readNumber s_undoMany s_keptMany, ai d (a 4) 30 s_pinned]) X lk_X5_85 dX5_tells_40 rfl rfl rfl (Nat.le_of_ble_eq_true rfl) ⟨Nat.le_of_ble_eq_true rfl, Nat.le_of_ble_eq_true rfl, Nat.le_of_ble_eq_true rfl, Nat.le_of_ble_eq_true rfl⟩ rfl [0, 1] (by decide) rfl hf (fun l x3 h => ctX5_looks l d a s_many s_windMany s_year s_saidMany s_size s_readAt s_readPeaks s_readWinds s_readNumber s_undoMany s_keptMany s_pinned v4 x3 h) (fun _ => rfl) (fun _ => rfl) (fun x3 hnx3 hf => ?_)
      refine g_iload_n (pc' := 44) X dX5_tells_43 rfl rfl rfl ?_
      refine g_iand (pc' := 45) X dX5_tells_44 rfl ?_
      refine g_icmp_eq (tgt := 52) (pc' := 48) X dX5_tells_45 (by decide) rfl hf (fun hf => ?_) (fun hf => ?_)
      · refine g_iconst (v := 0) (pc' := 53) X dX5_tells_52 rfl (by decide) ?_
        refine g_istore_n (lv' := [some (.ref (a 0)), some (.int v1), some (.int (0 : Int32)), some (.int v3), some (.int v4)]) (pc' := 54) X dX5_tells_53 rfl rfl (by decide) rfl rfl ?_
        refine g_iinc (v := 1) (lv' := [some (.ref (a 0)), some (.int v1), some (.int (0 : Int32)), some (.int v3), some (.int (v4 + (1 : Int32)))]) (pc' := 57) X dX5_tells_54 rfl rfl (by decide) (by decide) rfl rfl ?_
        refine g_goto (tgt := 17) X dX5_tells_57 (by decide) ?_
        have hk := sx_bk hf hb
        exact sx_weak [true, true, true, true, true] rfl hk
      · refine g_iconst (v := 1) (pc' := 49) X dX5_tells_48 rfl (by decide) ?_
        refine g_goto (tgt := 53) X dX5_tells_49 (by decide) ?_
        refine g_istore_n (lv' := [some (.ref (a 0)), some (.int v1), some (.int (1 : Int32)), some (.int v3), some (.int v4)]) (pc' := 54) X dX5_tells_53 rfl rfl (by decide) rfl rfl ?_
        refine g_iinc (v := 1) (lv' := [some (.ref (a 0)), some (.int v1), some (.int (1 : Int32)), some (.int v3), some (.int (v4 + (1 : Int32)))]) (pc' := 57) X dX5_tells_54 rfl rfl (by decide) (by decide) rfl rfl ?_
        refine g_goto (tgt := 17) X dX5_tells_57 (by decide) ?_
        have hk := sx_bk hf hb
        exact sx_weak [true, true, true, true, true] rfl hk
set_option maxHeartbeats 4000000 in
set_option maxRecDepth 100000 in
theorem lX5_tells_4 (d : sx_D) (κ : sx_C) (a : Nat → Nat) (s_many : Int32) (s_windMany : Int32) (s_year : Int32) (s_saidMany : Int32) (s_size : Int32) (s_readAt : Int32) (s_readPeaks : Int32) (s_readWinds : Int32) (s_readNumber : Int32) (s_undoMany : Int32) (s_keptMany : Int32) (s_pinned : Nat → Int32) (v1 : Int32) (X : sx_X d κ cX5_tells 5 RX5 (sx_rm 1)) (y : Int32) (hE66 : ∀ (v2 : Int32), v2 = y → sx_G d κ 5 0 0 66 [none, none, some (.int v2), none, none] [] [oX5 a s_many s_windMany s_year s_saidMany s_size s_readAt s_readPeaks s_readWinds s_readNumber s_undoMany s_keptMany, ai d (a 4) 30 s_pinned]) : ∀ (n : Nat) (s : Int32 × Int32), sx_it n (bX5_tells_4 s_many s_pinned v1) s = some y → (match s with | (v2, v3) => sx_G d κ 5 0 0 4 [some (.ref (a 0)), some (.int v1), some (.int v2), some (.int v3), none] [] [oX5 a s_many s_windMany s_year s_saidMany s_size s_readAt s_readPeaks s_readWinds s_readNumber s_undoMany s_keptMany, ai d (a 4) 30 s_pinned]) := by
  refine sx_it_run (bX5_tells_4 s_many s_pinned v1) (fun s => match s with | (v2, v3) => sx_G d κ 5 0 0 4 [some (.ref (a 0)), some (.int v1), some (.int v2), some (.int v3), none] [] [oX5 a s_many s_windMany s_year s_saidMany s_size s_readAt s_readPeaks s_readWinds s_readNumber s_undoMany s_keptMany, ai d (a 4) 30 s_pinned]) y ?_
  rintro ⟨v2, v3⟩ x hf hb he
  show sx_G d κ 5 0 0 4 [some (.ref (a 0)), some (.int v1), some (.int v2), some (.int v3), none] [] [oX5 a s_many s_windMany s_year s_saidMany s_size s_readAt s_readPeaks s_readWinds s_readNumber s_undoMany s_keptMany, ai d (a 4) 30 s_pinned]
  unfold bX5_tells_4 at hf
  refine g_iload_n (pc' := 5) X dX5_tells_4 rfl rfl rfl ?_
  refine g_aload_n (pc' := 6) X dX5_tells_5 rfl rfl rfl ?_
  refine g_get (pc' := 9) X fl_X5_78 dX5_tells_6 rfl 0 rfl rfl ?_
  refine g_icmp_ge (tgt := 66) (pc' := 12) X dX5_tells_9 (by decide) rfl hf (fun hf => ?_) (fun hf => ?_)
  · exact sx_weak [false, false, true, false, true] rfl (hE66 _ (sx_ex hf he))
  · refine g_iload_n (pc' := 13) X dX5_tells_12 rfl rfl rfl ?_
    refine g_iconst (v := 1) (pc' := 14) X dX5_tells_13 rfl (by decide) ?_
    refine g_iadd (pc' := 15) X dX5_tells_14 rfl ?_
    refine g_istoreN (lv' := fun x1 => [some (.ref (a 0)), some (.int v1), some (.int v2), some (.int v3), some (.int x1)]) (pc' := 17) X dX5_tells_15 rfl (by decide) rfl (fun _ => rfl) hf (fun x1 hf => ?_)
    obtain ⟨y4, hy4, hf⟩ := sx_bd hf
    refine sx_weak [true, true, true, true, true] rfl (lX5_tells_17 d κ a s_many s_windMany s_year s_saidMany s_size s_readAt s_readPeaks s_readWinds s_readNumber s_undoMany s_keptMany s_pinned v1 v3 X y4 ?_ 1000 (v2, x1) hy4)
    rintro w5 rfl
    refine g_iinc (v := 1) (lv' := [some (.ref (a 0)), some (.int v1), some (.int w5), some (.int (v3 + (1 : Int32))), none]) (pc' := 63) X dX5_tells_60 rfl rfl (by decide) (by decide) rfl rfl ?_
    refine g_goto (tgt := 4) X dX5_tells_63 (by decide) ?_
    have hk := sx_bk hf hb
    exact sx_weak [true, true, true, true, true] rfl hk
set_option maxHeartbeats 4000000 in
set_option maxRecDepth 100000 in
theorem ctX5_tells (l : Launch) (d : sx_D) (a : Nat → Nat) (s_many : Int32) (s_windMany : Int32) (s_year : Int32) (s_saidMany : Int32) (s_size : Int32) (s_readAt : Int32) (s_readPeaks : Int32) (s_readWinds : Int32) (s_readNumber : Int32) (s_undoMany : Int32) (s_keptMany : Int32) (s_pinned : Nat → Int32) (v1 : Int32) (r : Int32) (hf : fX5_tells s_many s_pinned v1 = some r) : sx_I l d yX5_tells cX5_tells 5 .boolean 1 [.ref (a 0), .int v1] [oX5 a s_many s_windMany s_year s_saidMany s_size s_readAt s_readPeaks s_readWinds s_readNumber s_undoMany s_keptMany, ai d (a 4) 30 s_pinned] [oX5 a s_many s_windMany s_year s_saidMany s_size s_readAt s_readPeaks s_readWinds s_readNumber s_undoMany s_keptMany, ai d (a 4) 30 s_pinned] r := by
  refine sx_I.intro (lv0 := [some (.ref (a 0)), some (.int v1), none, none, none]) (by decide +kernel) (Nat.le_of_ble_eq_true rfl) rfl ?_
  intro κ X hR
  have X : sx_X d κ cX5_tells 5 RX5 (sx_rm 1) := X
  unfold fX5_tells at hf
  refine g_iconst (v := 1) (pc' := 1) X dX5_tells_0 rfl (by decide) ?_
  refine g_istore_n (lv' := [some (.ref (a 0)), some (.int v1), some (.int (1 : Int32)), none, none]) (pc' := 2) X dX5_tells_1 rfl rfl (by decide) rfl rfl ?_
  refine g_iconst (v := 0) (pc' := 3) X dX5_tells_2 rfl (by decide) ?_
  refine g_istore_n (lv' := [some (.ref (a 0)), some (.int v1), some (.int (1 : Int32)), some (.int (0 : Int32)), none]) (pc' := 4) X dX5_tells_3 rfl rfl (by decide) rfl rfl ?_
  obtain ⟨y6, hy6, hf⟩ := sx_bd hf
  refine sx_weak [true, true, true, true, true] rfl (lX5_tells_4 d κ a s_many s_windMany s_year s_saidMany s_size s_readAt s_readPeaks s_readWinds s_readNumber s_undoMany s_keptMany s_pinned v1 X y6 ?_ 1000 ((1 : Int32), (0 : Int32)) hy6)
  rintro w7 rfl
  refine g_iload_n (pc' := 67) X dX5_tells_66 rfl rfl rfl ?_
  obtain ⟨hn8, hf⟩ := sx_ok8_s (fun _ => rfl) hf
  cases hf
  exact hR _ _ dX5_tells_67 hn8
-- X5_tell
def bX5_tell_20 (s_many : Int32) (s_pinned : Nat → Int32) : (Int32 × Int32 × Int32) → Option ((Int32 × Int32 × Int32) ⊕ (Int32 × Int32)) := fun (v2, v3, v4) =>
  if (32 : Int32) ≤ v4 then
    some (.inr (v2, v3))
  else
    (fX5_bits v4).bind fun x2 =>
    if v3 ≤ x2 then
      some (.inl (v2, v3, v4 + (1 : Int32)))
    else
      (fX5_tells s_many s_pinned v4).bind fun x3 =>
      if x3 = 0 then
        some (.inl (v2, v3, v4 + (1 : Int32)))
      else
        (fX5_bits v4).bind fun x4 =>
        some (.inl (v4, x4, v4 + (1 : Int32)))
def fX5_tell (s_many : Int32) (s_pinned : Nat → Int32) (v1 : Int32) : Option (Int32) :=
  (fX5_in v1 (0 : Int32) (1 : Int32)).bind fun x1 =>
  if x1 = 0 then
    some (-1 : Int32)
  else
    (sx_it 1000 (bX5_tell_20 s_many s_pinned) ((-4 : Int32), (1048576 : Int32), (0 : Int32))).bind fun (w6, w7) =>
    if w6 = (-4 : Int32) then
      some w6
    else
      if v1 = (1 : Int32) then
        some w6
      else
        some w7
set_option maxHeartbeats 4000000 in
set_option maxRecDepth 100000 in
theorem lX5_tell_20 (d : sx_D) (κ : sx_C) (a : Nat → Nat) (s_many : Int32) (s_windMany : Int32) (s_year : Int32) (s_saidMany : Int32) (s_size : Int32) (s_readAt : Int32) (s_readPeaks : Int32) (s_readWinds : Int32) (s_readNumber : Int32) (s_undoMany : Int32) (s_keptMany : Int32) (s_pinned : Nat → Int32) (v1 : Int32) (X : sx_X d κ cX5_tell 5 RX5 (sx_rm 2)) (y : Int32 × Int32) (hE60 : ∀ (v2 : Int32) (v3 : Int32), (v2, v3) = y → sx_G d κ 5 0 0 60 [none, some (.int v1), some (.int v2), some (.int v3), none] [] [oX5 a s_many s_windMany s_year s_saidMany s_size s_readAt s_readPeaks s_readWinds s_readNumber s_undoMany s_keptMany, ai d (a 4) 30 s_pinned]) : ∀ (n : Nat) (s : Int32 × Int32 × Int32), sx_it n (bX5_tell_20 s_many s_pinned) s = some y → (match s with | (v2, v3, v4) => sx_G d κ 5 0 0 20 [some (.ref (a 0)), some (.int v1), some (.int v2), some (.int v3), some (.int v4)] [] [oX5 a s_many s_windMany s_year s_saidMany s_size s_readAt s_readPeaks s_readWinds s_readNumber s_undoMany s_keptMany, ai d (a 4) 30 s_pinned]) := by
  refine sx_it_run (bX5_tell_20 s_many s_pinned) (fun s => match s with | (v2, v3, v4) => sx_G d κ 5 0 0 20 [some (.ref (a 0)), some (.int v1), some (.int v2), some (.int v3), some (.int v4)] [] [oX5 a s_many s_windMany s_year s_saidMany s_size s_readAt s_readPeaks s_readWinds s_readNumber s_undoMany s_keptMany, ai d (a 4) 30 s_pinned]) y ?_
  rintro ⟨v2, v3, v4⟩ x hf hb he
  show sx_G d κ 5 0 0 20 [some (.ref (a 0)), some (.int v1), some (.int v2), some (.int v3), some (.int v4)] [] [oX5 a s_many s_windMany s_year s_saidMany s_size s_readAt s_readPeaks s_readWinds s_readNumber s_undoMany s_keptMany, ai d (a 4) 30 s_pinned]
  unfold bX5_tell_20 at hf
  refine g_iload (pc' := 22) X dX5_tell_20 rfl rfl ?_
  refine g_bipush (v := 32) (pc' := 24) X dX5_tell_22 rfl (by decide) ?_
  refine g_icmp_ge (tgt := 60) (pc' := 27) X dX5_tell_24 (by decide) rfl hf (fun hf => ?_) (fun hf => ?_)
  · exact sx_weak [false, true, true, true, false] rfl (hE60 _ _ (sx_ex hf he))
  · refine g_iload (pc' := 29) X dX5_tell_27 rfl rfl ?_
    refine g_callSi0 (pc' := 32) (As := [.int v4]) (st := []) (w2 := fun x2 => [oX5 a s_many s_windMany s_year s_saidMany s_size s_readAt s_readPeaks s_readWinds s_readNumber s_undoMany s_keptMany, ai d (a 4) 30 s_pinned]) X lk_X5_213 dX5_tell_29 rfl rfl rfl (Nat.le_of_ble_eq_true rfl) ⟨Nat.le_of_ble_eq_true rfl, Nat.le_of_ble_eq_true rfl, Nat.le_of_ble_eq_true rfl, Nat.le_of_ble_eq_true rfl⟩ [] (by decide) rfl hf (fun l x2 h => ctX5_bits l d v4 x2 h) (fun _ => rfl) (fun _ => rfl) (fun x2 hnx2 hf => ?_)
    refine g_iload_n (pc' := 33) X dX5_tell_32 rfl rfl rfl ?_
    refine g_icmp_ge (tgt := 54) (pc' := 36) X dX5_tell_33 (by decide) rfl hf (fun hf => ?_) (fun hf => ?_)
    · refine g_iinc (v := 1) (lv' := [some (.ref (a 0)), some (.int v1), some (.int v2), some (.int v3), some (.int (v4 + (1 : Int32)))]) (pc' := 57) X dX5_tell_54 rfl rfl (by decide) (by decide) rfl rfl ?_
      refine g_goto (tgt := 20) X dX5_tell_57 (by decide) ?_
      have hk := sx_bk hf hb
      exact sx_weak [true, true, true, true, true] rfl hk
    · refine g_aload_n (pc' := 37) X dX5_tell_36 rfl rfl rfl ?_
      refine g_iload (pc' := 39) X dX5_tell_37 rfl rfl ?_
      refine g_callVi0 (pc' := 42) (As := [.int v4]) (b := (a 0)) (st := []) (w2 := fun x3 => [oX5 a s_many s_windMany s_year s_saidMany s_size s_readAt s_readPeaks s_readWinds s_readNumber s_undoMany s_keptMany, ai d (a 4) 30 s_pinned]) X lk_X5_216 dX5_tell_39 rfl rfl rfl (Nat.le_of_ble_eq_true rfl) ⟨Nat.le_of_ble_eq_true rfl, Nat.le_of_ble_eq_true rfl, Nat.le_of_ble_eq_true rfl, Nat.le_of_ble_eq_true rfl⟩ rfl [0, 1] (by decide) rfl hf (fun l x3 h => ctX5_tells l d a s_many s_windMany s_year s_saidMany s_size s_readAt s_readPeaks s_readWinds s_readNumber s_undoMany s_keptMany s_pinned v4 x3 h) (fun _ => rfl) (fun _ => rfl) (fun x3 hnx3 hf => ?_)
      refine g_if_eq (tgt := 54) (pc' := 45) X dX5_tell_42 (by decide) rfl hf (fun hf => ?_) (fun hf => ?_)
      · refine g_iinc (v := 1) (lv' := [some (.ref (a 0)), some (.int v1), some (.int v2), some (.int v3), some (.int (v4 + (1 : Int32)))]) (pc' := 57) X dX5_tell_54 rfl rfl (by decide) (by decide) rfl rfl ?_
        refine g_goto (tgt := 20) X dX5_tell_57 (by decide) ?_
        have hk := sx_bk hf hb
        exact sx_weak [true, true, true, true, true] rfl hk
      · refine g_iload (pc' := 47) X dX5_tell_45 rfl rfl ?_
        refine g_istore_n (lv' := [some (.ref (a 0)), some (.int v1), some (.int v4), some (.int v3), some (.int v4)]) (pc' := 48) X dX5_tell_47 rfl rfl (by decide) rfl rfl ?_
        refine g_iload (pc' := 50) X dX5_tell_48 rfl rfl ?_
        refine g_callSi0 (pc' := 53) (As := [.int v4]) (st := []) (w2 := fun x4 => [oX5 a s_many s_windMany s_year s_saidMany s_size s_readAt s_readPeaks s_readWinds s_readNumber s_undoMany s_keptMany, ai d (a 4) 30 s_pinned]) X lk_X5_213 dX5_tell_50 rfl rfl rfl (Nat.le_of_ble_eq_true rfl) ⟨Nat.le_of_ble_eq_true rfl, Nat.le_of_ble_eq_true rfl, Nat.le_of_ble_eq_true rfl, Nat.le_of_ble_eq_true rfl⟩ [] (by decide) rfl hf (fun l x4 h => ctX5_bits l d v4 x4 h) (fun _ => rfl) (fun _ => rfl) (fun x4 hnx4 hf => ?_)
        refine g_istore_n (lv' := [some (.ref (a 0)), some (.int v1), some (.int v4), some (.int x4), some (.int v4)]) (pc' := 54) X dX5_tell_53 rfl rfl (by decide) rfl rfl ?_
        refine g_iinc (v := 1) (lv' := [some (.ref (a 0)), some (.int v1), some (.int v4), some (.int x4), some (.int (v4 + (1 : Int32)))]) (pc' := 57) X dX5_tell_54 rfl rfl (by decide) (by decide) rfl rfl ?_
        refine g_goto (tgt := 20) X dX5_tell_57 (by decide) ?_
        have hk := sx_bk hf hb
        exact sx_weak [true, true, true, true, true] rfl hk
set_option maxHeartbeats 4000000 in
set_option maxRecDepth 100000 in
theorem ctX5_tell (l : Launch) (d : sx_D) (a : Nat → Nat) (s_many : Int32) (s_windMany : Int32) (s_year : Int32) (s_saidMany : Int32) (s_size : Int32) (s_readAt : Int32) (s_readPeaks : Int32) (s_readWinds : Int32) (s_readNumber : Int32) (s_undoMany : Int32) (s_keptMany : Int32) (s_pinned : Nat → Int32) (v1 : Int32) (r : Int32) (hf : fX5_tell s_many s_pinned v1 = some r) : sx_I l d yX5_tell cX5_tell 5 .int 2 [.ref (a 0), .int v1] [oX5 a s_many s_windMany s_year s_saidMany s_size s_readAt s_readPeaks s_readWinds s_readNumber s_undoMany s_keptMany, ai d (a 4) 30 s_pinned] [oX5 a s_many s_windMany s_year s_saidMany s_size s_readAt s_readPeaks s_readWinds s_readNumber s_undoMany s_keptMany, ai d (a 4) 30 s_pinned] r := by
  refine sx_I.intro (lv0 := [some (.ref (a 0)), some (.int v1), none, none, none]) (by decide +kernel) (Nat.le_of_ble_eq_true rfl) rfl ?_
  intro κ X hR
  have X : sx_X d κ cX5_tell 5 RX5 (sx_rm 2) := X
  unfold fX5_tell at hf
  refine g_iload_n (pc' := 1) X dX5_tell_0 rfl rfl rfl ?_
  refine g_iconst (v := 0) (pc' := 2) X dX5_tell_1 rfl (by decide) ?_
  refine g_iconst (v := 1) (pc' := 3) X dX5_tell_2 rfl (by decide) ?_
  refine g_callSi0 (pc' := 6) (As := [.int v1, .int (0 : Int32), .int (1 : Int32)]) (st := []) (w2 := fun x1 => [oX5 a s_many s_windMany s_year s_saidMany s_size s_readAt s_readPeaks s_readWinds s_readNumber s_undoMany s_keptMany, ai d (a 4) 30 s_pinned]) X lk_X5_81 dX5_tell_3 rfl rfl rfl (Nat.le_of_ble_eq_true rfl) ⟨Nat.le_of_ble_eq_true rfl, Nat.le_of_ble_eq_true rfl, Nat.le_of_ble_eq_true rfl, Nat.le_of_ble_eq_true rfl⟩ [] (by decide) rfl hf (fun l x1 h => ctX5_in l d v1 (0 : Int32) (1 : Int32) x1 h) (fun _ => rfl) (fun _ => rfl) (fun x1 hnx1 hf => ?_)
  refine g_if_ne (tgt := 11) (pc' := 9) X dX5_tell_6 (by decide) rfl hf (fun hf => ?_) (fun hf => ?_)
  · refine g_bipush (v := -4) (pc' := 13) X dX5_tell_11 rfl (by decide) ?_
    refine g_istore_n (lv' := [some (.ref (a 0)), some (.int v1), some (.int (-4 : Int32)), none, none]) (pc' := 14) X dX5_tell_13 rfl rfl (by decide) rfl rfl ?_
    refine g_ldc (v := 1048576) (pc' := 16) X dX5_tell_14 rfl cs_X5_212 ?_
    refine g_istore_n (lv' := [some (.ref (a 0)), some (.int v1), some (.int (-4 : Int32)), some (.int (1048576 : Int32)), none]) (pc' := 17) X dX5_tell_16 rfl rfl (by decide) rfl rfl ?_
    refine g_iconst (v := 0) (pc' := 18) X dX5_tell_17 rfl (by decide) ?_
    refine g_istore (lv' := [some (.ref (a 0)), some (.int v1), some (.int (-4 : Int32)), some (.int (1048576 : Int32)), some (.int (0 : Int32))]) (pc' := 20) X dX5_tell_18 rfl (by decide) rfl rfl ?_
    obtain ⟨y5, hy5, hf⟩ := sx_bd hf
    refine sx_weak [true, true, true, true, true] rfl (lX5_tell_20 d κ a s_many s_windMany s_year s_saidMany s_size s_readAt s_readPeaks s_readWinds s_readNumber s_undoMany s_keptMany s_pinned v1 X y5 ?_ 1000 ((-4 : Int32), (1048576 : Int32), (0 : Int32)) hy5)
    rintro w6 w7 rfl
    refine g_iload_n (pc' := 61) X dX5_tell_60 rfl rfl rfl ?_
    refine g_bipush (v := -4) (pc' := 63) X dX5_tell_61 rfl (by decide) ?_
    refine g_icmp_eq (tgt := 71) (pc' := 66) X dX5_tell_63 (by decide) rfl hf (fun hf => ?_) (fun hf => ?_)
    · refine g_iload_n (pc' := 72) X dX5_tell_71 rfl rfl rfl ?_
      refine g_goto (tgt := 76) X dX5_tell_72 (by decide) ?_
      cases hf
      exact hR _ _ dX5_tell_76 rfl
    · refine g_iload_n (pc' := 67) X dX5_tell_66 rfl rfl rfl ?_
      refine g_iconst (v := 1) (pc' := 68) X dX5_tell_67 rfl (by decide) ?_
      refine g_icmp_ne (tgt := 75) (pc' := 71) X dX5_tell_68 (by decide) rfl hf (fun hf => ?_) (fun hf => ?_)
      · refine g_iload_n (pc' := 76) X dX5_tell_75 rfl rfl rfl ?_
        cases hf
        exact hR _ _ dX5_tell_76 rfl
      · refine g_iload_n (pc' := 72) X dX5_tell_71 rfl rfl rfl ?_
        refine g_goto (tgt := 76) X dX5_tell_72 (by decide) ?_
        cases hf
        exact hR _ _ dX5_tell_76 rfl
  · refine g_iconst (v := -1) (pc' := 10) X dX5_tell_9 rfl (by decide) ?_
    cases hf
    exact hR _ _ dX5_tell_10 rfl
-- X5_adds
def jX5_adds_193 (s_pinned : Nat → Int32) (s_stored : Nat → Int32) (s_added : Nat → Int32) (v1 : Int32) (v3 : Int32) : Option ((Int32 × Int32 × (Nat → Int32) × (Nat → Int32) × (Nat → Int32)) ⊕ (Int32 × (Nat → Int32) × (Nat → Int32) × (Nat → Int32))) :=
  (fX5_takesOff s_pinned s_stored (v3 / (10 : Int32)) (v3 - v3 / (10 : Int32) * (10 : Int32))).bind fun (o12, o13) =>
  some (.inl (v1, v3 + (1 : Int32), o12, o13, s_added))
def bX5_adds_113 (s_many : Int32) (v2 : Int32) : (Int32 × Int32 × (Nat → Int32) × (Nat → Int32) × (Nat → Int32)) → Option ((Int32 × Int32 × (Nat → Int32) × (Nat → Int32) × (Nat → Int32)) ⊕ (Int32 × (Nat → Int32) × (Nat → Int32) × (Nat → Int32))) := fun (v1, v3, s_pinned, s_stored, s_added) =>
  if ((10 : Int32) * s_many) ≤ v3 then
    some (.inr (v1, s_pinned, s_stored, s_added))
  else
    if v1 ≤ (2 : Int32) then
      some (.inr (v1, s_pinned, s_stored, s_added))
    else
      if (5 : Int32) ≤ (v3 - v3 / (10 : Int32) * (10 : Int32)) then
        some (.inl (v1, v3 + (1 : Int32), s_pinned, s_stored, s_added))
      else
        (fX5_mayPut s_pinned s_stored (v3 / (10 : Int32)) (v3 - v3 / (10 : Int32) * (10 : Int32))).bind fun x9 =>
        if x9 = 0 then
          some (.inl (v1, v3 + (1 : Int32), s_pinned, s_stored, s_added))
        else
          (fX5_puts s_pinned s_stored (v3 / (10 : Int32)) (v3 - v3 / (10 : Int32) * (10 : Int32)) (1 : Int32)).bind fun (o10, o11) =>
          if v1 ≤ (2 : Int32) then
            jX5_adds_193 o10 o11 s_added v1 v3
          else
            (fX5_pairsAlike s_many o10).bind fun x14 =>
            if x14 = 0 then
              sx_wr s_added 2 (0 : Int32) v2 fun g15 =>
              sx_wr g15 2 (1 : Int32) v3 fun g16 =>
              jX5_adds_193 o10 o11 g16 (2 : Int32) v3
            else
              jX5_adds_193 o10 o11 s_added v1 v3
def jX5_adds_109 (s_many : Int32) (s_pinned : Nat → Int32) (s_stored : Nat → Int32) (s_added : Nat → Int32) (v1 : Int32) (v2 : Int32) : Option ((Int32 × Int32 × (Nat → Int32) × (Nat → Int32) × (Nat → Int32)) ⊕ (Int32 × (Nat → Int32) × (Nat → Int32) × (Nat → Int32))) :=
  sx_lt (v2 + (1 : Int32)) fun x8 =>
  (sx_it 1000 (bX5_adds_113 s_many v2) (v1, x8, s_pinned, s_stored, s_added)).bind fun (w18, w19, w20, w21) =>
  (fX5_takesOff w19 w20 (v2 / (10 : Int32)) (v2 - v2 / (10 : Int32) * (10 : Int32))).bind fun (o22, o23) =>
  some (.inl (w18, v2 + (1 : Int32), o22, o23, w21))
def bX5_adds_33 (s_many : Int32) : (Int32 × Int32 × (Nat → Int32) × (Nat → Int32) × (Nat → Int32)) → Option ((Int32 × Int32 × (Nat → Int32) × (Nat → Int32) × (Nat → Int32)) ⊕ (Int32 × (Nat → Int32) × (Nat → Int32) × (Nat → Int32))) := fun (v1, v2, s_pinned, s_stored, s_added) =>
  if ((10 : Int32) * s_many) ≤ v2 then
    some (.inr (v1, s_pinned, s_stored, s_added))
  else
    if (5 : Int32) ≤ (v2 - v2 / (10 : Int32) * (10 : Int32)) then
      some (.inl (v1, v2 + (1 : Int32), s_pinned, s_stored, s_added))
    else
      (fX5_mayPut s_pinned s_stored (v2 / (10 : Int32)) (v2 - v2 / (10 : Int32) * (10 : Int32))).bind fun x5 =>
      if x5 = 0 then
        some (.inl (v1, v2 + (1 : Int32), s_pinned, s_stored, s_added))
      else
        (fX5_puts s_pinned s_stored (v2 / (10 : Int32)) (v2 - v2 / (10 : Int32) * (10 : Int32)) (1 : Int32)).bind fun (o6, o7) =>
        if v1 ≤ (1 : Int32) then
          jX5_adds_109 s_many o6 o7 s_added v1 v2
        else
          (fX5_pairsAlike s_many o6).bind fun x24 =>
          if x24 = 0 then
            sx_wr s_added 2 (0 : Int32) v2 fun g25 =>
            sx_wr g25 2 (1 : Int32) (-4 : Int32) fun g26 =>
            jX5_adds_109 s_many o6 o7 g26 (1 : Int32) v2
          else
            jX5_adds_109 s_many o6 o7 s_added v1 v2
def fX5_adds (s_many : Int32) (s_year : Int32) (s_pinned : Nat → Int32) (s_stored : Nat → Int32) (s_guides : Nat → Int32) (s_aside : Nat → Int32) (s_added : Nat → Int32) : Option (Int32 × Int32 × (Nat → Int32) × (Nat → Int32) × (Nat → Int32) × (Nat → Int32) × (Nat → Int32)) :=
  sx_wr s_added 2 (0 : Int32) (-4 : Int32) fun g1 =>
  sx_wr g1 2 (1 : Int32) (-4 : Int32) fun g2 =>
  (fX5_pairsAlike s_many s_pinned).bind fun x3 =>
  if x3 = 0 then
    some ((0 : Int32), s_year, s_pinned, s_stored, s_guides, s_aside, g2)
  else
    (fX5_begin s_year s_pinned s_stored s_guides s_aside).bind fun o4 =>
    (sx_it 1000 (bX5_adds_33 s_many) ((3 : Int32), (0 : Int32), s_pinned, s_stored, g2)).bind fun (w28, w29, w30, w31) =>
    (fX5_putBack s_year w29 w30 s_guides o4).bind fun (o32, o33, o34, o35) =>
    if (3 : Int32) ≤ w28 then
      some ((-4 : Int32), o32, o33, o34, o35, o4, w31)
    else
      some (w28, o32, o33, o34, o35, o4, w31)
set_option maxHeartbeats 4000000 in
set_option maxRecDepth 100000 in
theorem lX5_adds_113 (d : sx_D) (κ : sx_C) (a : Nat → Nat) (s_many : Int32) (s_windMany : Int32) (s_year : Int32) (s_saidMany : Int32) (s_size : Int32) (s_readAt : Int32) (s_readPeaks : Int32) (s_readWinds : Int32) (s_readNumber : Int32) (s_undoMany : Int32) (s_keptMany : Int32) (s_guides : Nat → Int32) (s_aside : Nat → Int32) (v2 : Int32) (X : sx_X d κ cX5_adds 4 RX5 (sx_rm 2)) (y : Int32 × (Nat → Int32) × (Nat → Int32) × (Nat → Int32)) (hE211 : ∀ (v1 : Int32) (s_pinned : Nat → Int32) (s_stored : Nat → Int32) (s_added : Nat → Int32), (v1, s_pinned, s_stored, s_added) = y → sx_G d κ 4 0 0 211 [some (.ref (a 0)), some (.int v1), some (.int v2), none] [] [oX5 a s_many s_windMany s_year s_saidMany s_size s_readAt s_readPeaks s_readWinds s_readNumber s_undoMany s_keptMany, ai d (a 4) 30 s_pinned, ai d (a 5) 5 s_stored, ai d (a 6) 6 s_guides, ai d (a 16) 42 s_aside, ai d (a 17) 2 s_added]) : ∀ (n : Nat) (s : Int32 × Int32 × (Nat → Int32) × (Nat → Int32) × (Nat → Int32)), sx_it n (bX5_adds_113 s_many v2) s = some y → (match s with | (v1, v3, s_pinned, s_stored, s_added) => sx_G d κ 4 0 0 113 [some (.ref (a 0)), some (.int v1), some (.int v2), some (.int v3)] [] [oX5 a s_many s_windMany s_year s_saidMany s_size s_readAt s_readPeaks s_readWinds s_readNumber s_undoMany s_keptMany, ai d (a 4) 30 s_pinned, ai d (a 5) 5 s_stored, ai d (a 6) 6 s_guides, ai d (a 16) 42 s_aside, ai d (a 17) 2 s_added]) := by
  refine sx_it_run (bX5_adds_113 s_many v2) (fun s => match s with | (v1, v3, s_pinned, s_stored, s_added) => sx_G d κ 4 0 0 113 [some (.ref (a 0)), some (.int v1), some (.int v2), some (.int v3)] [] [oX5 a s_many s_windMany s_year s_saidMany s_size s_readAt s_readPeaks s_readWinds s_readNumber s_undoMany s_keptMany, ai d (a 4) 30 s_pinned, ai d (a 5) 5 s_stored, ai d (a 6) 6 s_guides, ai d (a 16) 42 s_aside, ai d (a 17) 2 s_added]) y ?_
  rintro ⟨v1, v3, s_pinned, s_stored, s_added⟩ x hf hb he
  show sx_G d κ 4 0 0 113 [some (.ref (a 0)), some (.int v1), some (.int v2), some (.int v3)] [] [oX5 a s_many s_windMany s_year s_saidMany s_size s_readAt s_readPeaks s_readWinds s_readNumber s_undoMany s_keptMany, ai d (a 4) 30 s_pinned, ai d (a 5) 5 s_stored, ai d (a 6) 6 s_guides, ai d (a 16) 42 s_aside, ai d (a 17) 2 s_added]
  unfold bX5_adds_113 at hf
  refine g_iload_n (pc' := 114) X dX5_adds_113 rfl rfl rfl ?_
  refine g_bipush (v := 10) (pc' := 116) X dX5_adds_114 rfl (by decide) ?_
  refine g_aload_n (pc' := 117) X dX5_adds_116 rfl rfl rfl ?_
  refine g_get (pc' := 120) X fl_X5_78 dX5_adds_117 rfl 0 rfl rfl ?_
  refine g_imul (pc' := 121) X dX5_adds_120 rfl ?_
  refine g_icmp_ge (tgt := 211) (pc' := 124) X dX5_adds_121 (by decide) rfl hf (fun hf => ?_) (fun hf => ?_)
  · exact sx_weak [true, true, true, false] rfl (hE211 _ _ _ _ (sx_ex hf he))
  · refine g_iload_n (pc' := 125) X dX5_adds_124 rfl rfl rfl ?_
    refine g_iconst (v := 2) (pc' := 126) X dX5_adds_125 rfl (by decide) ?_
    refine g_icmp_le (tgt := 211) (pc' := 129) X dX5_adds_126 (by decide) rfl hf (fun hf => ?_) (fun hf => ?_)
    · exact sx_weak [true, true, true, false] rfl (hE211 _ _ _ _ (sx_ex hf he))
    · refine g_iload_n (pc' := 130) X dX5_adds_129 rfl rfl rfl ?_
      refine g_bipush (v := 10) (pc' := 132) X dX5_adds_130 rfl (by decide) ?_
      refine g_irem (pc' := 133) X dX5_adds_132 rfl (by decide) ?_
      refine g_iconst (v := 5) (pc' := 134) X dX5_adds_133 rfl (by decide) ?_
      refine g_icmp_ge (tgt := 205) (pc' := 137) X dX5_adds_134 (by decide) rfl hf (fun hf => ?_) (fun hf => ?_)
      · refine g_iinc (v := 1) (lv' := [some (.ref (a 0)), some (.int v1), some (.int v2), some (.int (v3 + (1 : Int32)))]) (pc' := 208) X dX5_adds_205 rfl rfl (by decide) (by decide) rfl rfl ?_
        refine g_goto (tgt := 113) X dX5_adds_208 (by decide) ?_
        have hk := sx_bk hf hb
        exact sx_weak [true, true, true, true] rfl hk
      · refine g_aload_n (pc' := 138) X dX5_adds_137 rfl rfl rfl ?_
        refine g_iload_n (pc' := 139) X dX5_adds_138 rfl rfl rfl ?_
        refine g_bipush (v := 10) (pc' := 141) X dX5_adds_139 rfl (by decide) ?_
        refine g_idiv (pc' := 142) X dX5_adds_141 rfl (by decide) ?_
        refine g_iload_n (pc' := 143) X dX5_adds_142 rfl rfl rfl ?_
        refine g_bipush (v := 10) (pc' := 145) X dX5_adds_143 rfl (by decide) ?_
        refine g_irem (pc' := 146) X dX5_adds_145 rfl (by decide) ?_
        refine g_callVi0 (pc' := 149) (As := [.int (v3 / (10 : Int32)), .int (v3 - v3 / (10 : Int32) * (10 : Int32))]) (b := (a 0)) (st := []) (w2 := fun x9 => [oX5 a s_many s_windMany s_year s_saidMany s_size s_readAt s_readPeaks s_readWinds s_readNumber s_undoMany s_keptMany, ai d (a 4) 30 s_pinned, ai d (a 5) 5 s_stored, ai d (a 6) 6 s_guides, ai d (a 16) 42 s_aside, ai d (a 17) 2 s_added]) X lk_X5_177 dX5_adds_146 rfl rfl rfl (Nat.le_of_ble_eq_true rfl) ⟨Nat.le_of_ble_eq_true rfl, Nat.le_of_ble_eq_true rfl, Nat.le_of_ble_eq_true rfl, Nat.le_of_ble_eq_true rfl⟩ rfl [0, 1, 2] (by decide) rfl hf (fun l x9 h => ctX5_mayPut l d a s_many s_windMany s_year s_saidMany s_size s_readAt s_readPeaks s_readWinds s_readNumber s_undoMany s_keptMany s_pinned s_stored (v3 / (10 : Int32)) (v3 - v3 / (10 : Int32) * (10 : Int32)) x9 h) (fun _ => rfl) (fun _ => rfl) (fun x9 hnx9 hf => ?_)
        refine g_if_eq (tgt := 205) (pc' := 152) X dX5_adds_149 (by decide) rfl hf (fun hf => ?_) (fun hf => ?_)
        · refine g_iinc (v := 1) (lv' := [some (.ref (a 0)), some (.int v1), some (.int v2), some (.int (v3 + (1 : Int32)))]) (pc' := 208) X dX5_adds_205 rfl rfl (by decide) (by decide) rfl rfl ?_
          refine g_goto (tgt := 113) X dX5_adds_208 (by decide) ?_
          have hk := sx_bk hf hb
          exact sx_weak [true, true, true, true] rfl hk
        · refine g_aload_n (pc' := 153) X dX5_adds_152 rfl rfl rfl ?_
          refine g_iload_n (pc' := 154) X dX5_adds_153 rfl rfl rfl ?_
          refine g_bipush (v := 10) (pc' := 156) X dX5_adds_154 rfl (by decide) ?_
          refine g_idiv (pc' := 157) X dX5_adds_156 rfl (by decide) ?_
          refine g_iload_n (pc' := 158) X dX5_adds_157 rfl rfl rfl ?_
          refine g_bipush (v := 10) (pc' := 160) X dX5_adds_158 rfl (by decide) ?_
          refine g_irem (pc' := 161) X dX5_adds_160 rfl (by decide) ?_
          refine g_iconst (v := 1) (pc' := 162) X dX5_adds_161 rfl (by decide) ?_
          refine g_callVv2 (pc' := 165) (As := [.int (v3 / (10 : Int32)), .int (v3 - v3 / (10 : Int32) * (10 : Int32)), .int (1 : Int32)]) (b := (a 0)) (st := []) (w2 := fun o10 o11 => [oX5 a s_many s_windMany s_year s_saidMany s_size s_readAt s_readPeaks s_readWinds s_readNumber s_undoMany s_keptMany, ai d (a 4) 30 o10, ai d (a 5) 5 o11, ai d (a 6) 6 s_guides, ai d (a 16) 42 s_aside, ai d (a 17) 2 s_added]) X lk_X5_183 dX5_adds_162 rfl rfl rfl (Nat.le_of_ble_eq_true rfl) ⟨Nat.le_of_ble_eq_true rfl, Nat.le_of_ble_eq_true rfl, Nat.le_of_ble_eq_true rfl, Nat.le_of_ble_eq_true rfl⟩ rfl [0, 1, 2] (by decide) rfl hf (fun l o10 o11 h => ctX5_puts l d a s_many s_windMany s_year s_saidMany s_size s_readAt s_readPeaks s_readWinds s_readNumber s_undoMany s_keptMany s_pinned s_stored (v3 / (10 : Int32)) (v3 - v3 / (10 : Int32) * (10 : Int32)) (1 : Int32) o10 o11 h) (fun _ _ => rfl) (fun _ _ => rfl) (fun o10 o11 hf => ?_)
          refine g_iload_n (pc' := 166) X dX5_adds_165 rfl rfl rfl ?_
          refine g_iconst (v := 2) (pc' := 167) X dX5_adds_166 rfl (by decide) ?_
          have hjX5_adds_193 : ∀ (v1 : Int32) (v3 : Int32) (s_pinned : Nat → Int32) (s_stored : Nat → Int32) (s_added : Nat → Int32), jX5_adds_193 s_pinned s_stored s_added v1 v3 = some x → sx_G d κ 4 0 0 193 [some (.ref (a 0)), some (.int v1), some (.int v2), some (.int v3)] [] [oX5 a s_many s_windMany s_year s_saidMany s_size s_readAt s_readPeaks s_readWinds s_readNumber s_undoMany s_keptMany, ai d (a 4) 30 s_pinned, ai d (a 5) 5 s_stored, ai d (a 6) 6 s_guides, ai d (a 16) 42 s_aside, ai d (a 17) 2 s_added] := by
            intro v1 v3 s_pinned s_stored s_added hf
            unfold jX5_adds_193 at hf
            refine g_aload_n (pc' := 194) X dX5_adds_193 rfl rfl rfl ?_
            refine g_iload_n (pc' := 195) X dX5_adds_194 rfl rfl rfl ?_
            refine g_bipush (v := 10) (pc' := 197) X dX5_adds_195 rfl (by decide) ?_
            refine g_idiv (pc' := 198) X dX5_adds_197 rfl (by decide) ?_
            refine g_iload_n (pc' := 199) X dX5_adds_198 rfl rfl rfl ?_
            refine g_bipush (v := 10) (pc' := 201) X dX5_adds_199 rfl (by decide) ?_
            refine g_irem (pc' := 202) X dX5_adds_201 rfl (by decide) ?_
            refine g_callVv2 (pc' := 205) (As := [.int (v3 / (10 : Int32)), .int (v3 - v3 / (10 : Int32) * (10 : Int32))]) (b := (a 0)) (st := []) (w2 := fun o12 o13 => [oX5 a s_many s_windMany s_year s_saidMany s_size s_readAt s_readPeaks s_readWinds s_readNumber s_undoMany s_keptMany, ai d (a 4) 30 o12, ai d (a 5) 5 o13, ai d (a 6) 6 s_guides, ai d (a 16) 42 s_aside, ai d (a 17) 2 s_added]) X lk_X5_187 dX5_adds_202 rfl rfl rfl (Nat.le_of_ble_eq_true rfl) ⟨Nat.le_of_ble_eq_true rfl, Nat.le_of_ble_eq_true rfl, Nat.le_of_ble_eq_true rfl, Nat.le_of_ble_eq_true rfl⟩ rfl [0, 1, 2] (by decide) rfl hf (fun l o12 o13 h => ctX5_takesOff l d a s_many s_windMany s_year s_saidMany s_size s_readAt s_readPeaks s_readWinds s_readNumber s_undoMany s_keptMany s_pinned s_stored (v3 / (10 : Int32)) (v3 - v3 / (10 : Int32) * (10 : Int32)) o12 o13 h) (fun _ _ => rfl) (fun _ _ => rfl) (fun o12 o13 hf => ?_)
            refine g_iinc (v := 1) (lv' := [some (.ref (a 0)), some (.int v1), some (.int v2), some (.int (v3 + (1 : Int32)))]) (pc' := 208) X dX5_adds_205 rfl rfl (by decide) (by decide) rfl rfl ?_
            refine g_goto (tgt := 113) X dX5_adds_208 (by decide) ?_
            have hk := sx_bk hf hb
            exact sx_weak [true, true, true, true] rfl hk
          refine g_icmp_le (tgt := 193) (pc' := 170) X dX5_adds_167 (by decide) rfl hf (fun hf => ?_) (fun hf => ?_)
          · exact sx_weak [true, true, true, true] rfl (hjX5_adds_193 v1 v3 o10 o11 s_added hf)
          · refine g_aload_n (pc' := 171) X dX5_adds_170 rfl rfl rfl ?_
            refine g_callVi0 (pc' := 174) (As := []) (b := (a 0)) (st := []) (w2 := fun x14 => [oX5 a s_many s_windMany s_year s_saidMany s_size s_readAt s_readPeaks s_readWinds s_readNumber s_undoMany s_keptMany, ai d (a 4) 30 o10, ai d (a 5) 5 o11, ai d (a 6) 6 s_guides, ai d (a 16) 42 s_aside, ai d (a 17) 2 s_added]) X lk_X5_196 dX5_adds_171 rfl rfl rfl (Nat.le_of_ble_eq_true rfl) ⟨Nat.le_of_ble_eq_true rfl, Nat.le_of_ble_eq_true rfl, Nat.le_of_ble_eq_true rfl, Nat.le_of_ble_eq_true rfl⟩ rfl [0, 1] (by decide) rfl hf (fun l x14 h => ctX5_pairsAlike l d a s_many s_windMany s_year s_saidMany s_size s_readAt s_readPeaks s_readWinds s_readNumber s_undoMany s_keptMany o10 x14 h) (fun _ => rfl) (fun _ => rfl) (fun x14 hnx14 hf => ?_)
            refine g_if_ne (tgt := 193) (pc' := 177) X dX5_adds_174 (by decide) rfl hf (fun hf => ?_) (fun hf => ?_)
            · exact sx_weak [true, true, true, true] rfl (hjX5_adds_193 v1 v3 o10 o11 s_added hf)
            · refine g_iconst (v := 2) (pc' := 178) X dX5_adds_177 rfl (by decide) ?_
              refine g_istore_n (lv' := [some (.ref (a 0)), some (.int (2 : Int32)), some (.int v2), some (.int v3)]) (pc' := 179) X dX5_adds_178 rfl rfl (by decide) rfl rfl ?_
              refine g_aload_n (pc' := 180) X dX5_adds_179 rfl rfl rfl ?_
              refine g_get (pc' := 183) X fl_X5_58 dX5_adds_180 rfl 0 rfl rfl ?_
              refine g_iconst (v := 0) (pc' := 184) X dX5_adds_183 rfl (by decide) ?_
              refine g_iload_n (pc' := 185) X dX5_adds_184 rfl rfl rfl ?_
              refine g_iast (pc' := 186) (w2 := fun g15 => [oX5 a s_many s_windMany s_year s_saidMany s_size s_readAt s_readPeaks s_readWinds s_readNumber s_undoMany s_keptMany, ai d (a 4) 30 o10, ai d (a 5) 5 o11, ai d (a 6) 6 s_guides, ai d (a 16) 42 s_aside, ai d (a 17) 2 g15]) X dX5_adds_185 rfl 5 rfl hf (fun _ => rfl) (fun g15 hf => ?_)
              refine g_aload_n (pc' := 187) X dX5_adds_186 rfl rfl rfl ?_
              refine g_get (pc' := 190) X fl_X5_58 dX5_adds_187 rfl 0 rfl rfl ?_
              refine g_iconst (v := 1) (pc' := 191) X dX5_adds_190 rfl (by decide) ?_
              refine g_iload_n (pc' := 192) X dX5_adds_191 rfl rfl rfl ?_
              refine g_iast (pc' := 193) (w2 := fun g16 => [oX5 a s_many s_windMany s_year s_saidMany s_size s_readAt s_readPeaks s_readWinds s_readNumber s_undoMany s_keptMany, ai d (a 4) 30 o10, ai d (a 5) 5 o11, ai d (a 6) 6 s_guides, ai d (a 16) 42 s_aside, ai d (a 17) 2 g16]) X dX5_adds_192 rfl 5 rfl hf (fun _ => rfl) (fun g16 hf => ?_)
              exact sx_weak [true, true, true, true] rfl (hjX5_adds_193 (2 : Int32) v3 o10 o11 g16 hf)
set_option maxHeartbeats 4000000 in
set_option maxRecDepth 100000 in
theorem lX5_adds_33 (d : sx_D) (κ : sx_C) (a : Nat → Nat) (s_many : Int32) (s_windMany : Int32) (s_year : Int32) (s_saidMany : Int32) (s_size : Int32) (s_readAt : Int32) (s_readPeaks : Int32) (s_readWinds : Int32) (s_readNumber : Int32) (s_undoMany : Int32) (s_keptMany : Int32) (s_guides : Nat → Int32) (s_aside : Nat → Int32) (X : sx_X d κ cX5_adds 4 RX5 (sx_rm 2)) (y : Int32 × (Nat → Int32) × (Nat → Int32) × (Nat → Int32)) (hE229 : ∀ (v1 : Int32) (s_pinned : Nat → Int32) (s_stored : Nat → Int32) (s_added : Nat → Int32), (v1, s_pinned, s_stored, s_added) = y → sx_G d κ 4 0 0 229 [some (.ref (a 0)), some (.int v1), none, none] [] [oX5 a s_many s_windMany s_year s_saidMany s_size s_readAt s_readPeaks s_readWinds s_readNumber s_undoMany s_keptMany, ai d (a 4) 30 s_pinned, ai d (a 5) 5 s_stored, ai d (a 6) 6 s_guides, ai d (a 16) 42 s_aside, ai d (a 17) 2 s_added]) : ∀ (n : Nat) (s : Int32 × Int32 × (Nat → Int32) × (Nat → Int32) × (Nat → Int32)), sx_it n (bX5_adds_33 s_many) s = some y → (match s with | (v1, v2, s_pinned, s_stored, s_added) => sx_G d κ 4 0 0 33 [some (.ref (a 0)), some (.int v1), some (.int v2), none] [] [oX5 a s_many s_windMany s_year s_saidMany s_size s_readAt s_readPeaks s_readWinds s_readNumber s_undoMany s_keptMany, ai d (a 4) 30 s_pinned, ai d (a 5) 5 s_stored, ai d (a 6) 6 s_guides, ai d (a 16) 42 s_aside, ai d (a 17) 2 s_added]) := by
  refine sx_it_run (bX5_adds_33 s_many) (fun s => match s with | (v1, v2, s_pinned, s_stored, s_added) => sx_G d κ 4 0 0 33 [some (.ref (a 0)), some (.int v1), some (.int v2), none] [] [oX5 a s_many s_windMany s_year s_saidMany s_size s_readAt s_readPeaks s_readWinds s_readNumber s_undoMany s_keptMany, ai d (a 4) 30 s_pinned, ai d (a 5) 5 s_stored, ai d (a 6) 6 s_guides, ai d (a 16) 42 s_aside, ai d (a 17) 2 s_added]) y ?_
  rintro ⟨v1, v2, s_pinned, s_stored, s_added⟩ x hf hb he
  show sx_G d κ 4 0 0 33 [some (.ref (a 0)), some (.int v1), some (.int v2), none] [] [oX5 a s_many s_windMany s_year s_saidMany s_size s_readAt s_readPeaks s_readWinds s_readNumber s_undoMany s_keptMany, ai d (a 4) 30 s_pinned, ai d (a 5) 5 s_stored, ai d (a 6) 6 s_guides, ai d (a 16) 42 s_aside, ai d (a 17) 2 s_added]
  unfold bX5_adds_33 at hf
  refine g_iload_n (pc' := 34) X dX5_adds_33 rfl rfl rfl ?_
  refine g_bipush (v := 10) (pc' := 36) X dX5_adds_34 rfl (by decide) ?_
  refine g_aload_n (pc' := 37) X dX5_adds_36 rfl rfl rfl ?_
  refine g_get (pc' := 40) X fl_X5_78 dX5_adds_37 rfl 0 rfl rfl ?_
  refine g_imul (pc' := 41) X dX5_adds_40 rfl ?_
  refine g_icmp_ge (tgt := 229) (pc' := 44) X dX5_adds_41 (by decide) rfl hf (fun hf => ?_) (fun hf => ?_)
  · exact sx_weak [true, true, false, true] rfl (hE229 _ _ _ _ (sx_ex hf he))
  · refine g_iload_n (pc' := 45) X dX5_adds_44 rfl rfl rfl ?_
    refine g_bipush (v := 10) (pc' := 47) X dX5_adds_45 rfl (by decide) ?_
    refine g_irem (pc' := 48) X dX5_adds_47 rfl (by decide) ?_
    refine g_iconst (v := 5) (pc' := 49) X dX5_adds_48 rfl (by decide) ?_
    refine g_icmp_ge (tgt := 223) (pc' := 52) X dX5_adds_49 (by decide) rfl hf (fun hf => ?_) (fun hf => ?_)
    · refine g_iinc (v := 1) (lv' := [some (.ref (a 0)), some (.int v1), some (.int (v2 + (1 : Int32))), none]) (pc' := 226) X dX5_adds_223 rfl rfl (by decide) (by decide) rfl rfl ?_
      refine g_goto (tgt := 33) X dX5_adds_226 (by decide) ?_
      have hk := sx_bk hf hb
      exact sx_weak [true, true, true, true] rfl hk
    · refine g_aload_n (pc' := 53) X dX5_adds_52 rfl rfl rfl ?_
      refine g_iload_n (pc' := 54) X dX5_adds_53 rfl rfl rfl ?_
      refine g_bipush (v := 10) (pc' := 56) X dX5_adds_54 rfl (by decide) ?_
      refine g_idiv (pc' := 57) X dX5_adds_56 rfl (by decide) ?_
      refine g_iload_n (pc' := 58) X dX5_adds_57 rfl rfl rfl ?_
      refine g_bipush (v := 10) (pc' := 60) X dX5_adds_58 rfl (by decide) ?_
      refine g_irem (pc' := 61) X dX5_adds_60 rfl (by decide) ?_
      refine g_callVi0 (pc' := 64) (As := [.int (v2 / (10 : Int32)), .int (v2 - v2 / (10 : Int32) * (10 : Int32))]) (b := (a 0)) (st := []) (w2 := fun x5 => [oX5 a s_many s_windMany s_year s_saidMany s_size s_readAt s_readPeaks s_readWinds s_readNumber s_undoMany s_keptMany, ai d (a 4) 30 s_pinned, ai d (a 5) 5 s_stored, ai d (a 6) 6 s_guides, ai d (a 16) 42 s_aside, ai d (a 17) 2 s_added]) X lk_X5_177 dX5_adds_61 rfl rfl rfl (Nat.le_of_ble_eq_true rfl) ⟨Nat.le_of_ble_eq_true rfl, Nat.le_of_ble_eq_true rfl, Nat.le_of_ble_eq_true rfl, Nat.le_of_ble_eq_true rfl⟩ rfl [0, 1, 2] (by decide) rfl hf (fun l x5 h => ctX5_mayPut l d a s_many s_windMany s_year s_saidMany s_size s_readAt s_readPeaks s_readWinds s_readNumber s_undoMany s_keptMany s_pinned s_stored (v2 / (10 : Int32)) (v2 - v2 / (10 : Int32) * (10 : Int32)) x5 h) (fun _ => rfl) (fun _ => rfl) (fun x5 hnx5 hf => ?_)
      refine g_if_eq (tgt := 223) (pc' := 67) X dX5_adds_64 (by decide) rfl hf (fun hf => ?_) (fun hf => ?_)
      · refine g_iinc (v := 1) (lv' := [some (.ref (a 0)), some (.int v1), some (.int (v2 + (1 : Int32))), none]) (pc' := 226) X dX5_adds_223 rfl rfl (by decide) (by decide) rfl rfl ?_
        refine g_goto (tgt := 33) X dX5_adds_226 (by decide) ?_
        have hk := sx_bk hf hb
        exact sx_weak [true, true, true, true] rfl hk
      · refine g_aload_n (pc' := 68) X dX5_adds_67 rfl rfl rfl ?_
        refine g_iload_n (pc' := 69) X dX5_adds_68 rfl rfl rfl ?_
        refine g_bipush (v := 10) (pc' := 71) X dX5_adds_69 rfl (by decide) ?_
        refine g_idiv (pc' := 72) X dX5_adds_71 rfl (by decide) ?_
        refine g_iload_n (pc' := 73) X dX5_adds_72 rfl rfl rfl ?_
        refine g_bipush (v := 10) (pc' := 75) X dX5_adds_73 rfl (by decide) ?_
        refine g_irem (pc' := 76) X dX5_adds_75 rfl (by decide) ?_
        refine g_iconst (v := 1) (pc' := 77) X dX5_adds_76 rfl (by decide) ?_
        refine g_callVv2 (pc' := 80) (As := [.int (v2 / (10 : Int32)), .int (v2 - v2 / (10 : Int32) * (10 : Int32)), .int (1 : Int32)]) (b := (a 0)) (st := []) (w2 := fun o6 o7 => [oX5 a s_many s_windMany s_year s_saidMany s_size s_readAt s_readPeaks s_readWinds s_readNumber s_undoMany s_keptMany, ai d (a 4) 30 o6, ai d (a 5) 5 o7, ai d (a 6) 6 s_guides, ai d (a 16) 42 s_aside, ai d (a 17) 2 s_added]) X lk_X5_183 dX5_adds_77 rfl rfl rfl (Nat.le_of_ble_eq_true rfl) ⟨Nat.le_of_ble_eq_true rfl, Nat.le_of_ble_eq_true rfl, Nat.le_of_ble_eq_true rfl, Nat.le_of_ble_eq_true rfl⟩ rfl [0, 1, 2] (by decide) rfl hf (fun l o6 o7 h => ctX5_puts l d a s_many s_windMany s_year s_saidMany s_size s_readAt s_readPeaks s_readWinds s_readNumber s_undoMany s_keptMany s_pinned s_stored (v2 / (10 : Int32)) (v2 - v2 / (10 : Int32) * (10 : Int32)) (1 : Int32) o6 o7 h) (fun _ _ => rfl) (fun _ _ => rfl) (fun o6 o7 hf => ?_)
        refine g_iload_n (pc' := 81) X dX5_adds_80 rfl rfl rfl ?_
        refine g_iconst (v := 1) (pc' := 82) X dX5_adds_81 rfl (by decide) ?_
        have hjX5_adds_109 : ∀ (v1 : Int32) (v2 : Int32) (s_pinned : Nat → Int32) (s_stored : Nat → Int32) (s_added : Nat → Int32), jX5_adds_109 s_many s_pinned s_stored s_added v1 v2 = some x → sx_G d κ 4 0 0 109 [some (.ref (a 0)), some (.int v1), some (.int v2), none] [] [oX5 a s_many s_windMany s_year s_saidMany s_size s_readAt s_readPeaks s_readWinds s_readNumber s_undoMany s_keptMany, ai d (a 4) 30 s_pinned, ai d (a 5) 5 s_stored, ai d (a 6) 6 s_guides, ai d (a 16) 42 s_aside, ai d (a 17) 2 s_added] := by
          intro v1 v2 s_pinned s_stored s_added hf
          unfold jX5_adds_109 at hf
          refine g_iload_n (pc' := 110) X dX5_adds_109 rfl rfl rfl ?_
          refine g_iconst (v := 1) (pc' := 111) X dX5_adds_110 rfl (by decide) ?_
          refine g_iadd (pc' := 112) X dX5_adds_111 rfl ?_
          refine g_istore_nN (lv' := fun x8 => [some (.ref (a 0)), some (.int v1), some (.int v2), some (.int x8)]) (pc' := 113) X dX5_adds_112 rfl rfl (by decide) rfl (fun _ => rfl) hf (fun x8 hf => ?_)
          obtain ⟨y17, hy17, hf⟩ := sx_bd hf
          refine sx_weak [true, true, true, true] rfl (lX5_adds_113 d κ a s_many s_windMany s_year s_saidMany s_size s_readAt s_readPeaks s_readWinds s_readNumber s_undoMany s_keptMany s_guides s_aside v2 X y17 ?_ 1000 (v1, x8, s_pinned, s_stored, s_added) hy17)
          rintro w18 w19 w20 w21 rfl
          refine g_aload_n (pc' := 212) X dX5_adds_211 rfl rfl rfl ?_
          refine g_iload_n (pc' := 213) X dX5_adds_212 rfl rfl rfl ?_
          refine g_bipush (v := 10) (pc' := 215) X dX5_adds_213 rfl (by decide) ?_
          refine g_idiv (pc' := 216) X dX5_adds_215 rfl (by decide) ?_
          refine g_iload_n (pc' := 217) X dX5_adds_216 rfl rfl rfl ?_
          refine g_bipush (v := 10) (pc' := 219) X dX5_adds_217 rfl (by decide) ?_
          refine g_irem (pc' := 220) X dX5_adds_219 rfl (by decide) ?_
          refine g_callVv2 (pc' := 223) (As := [.int (v2 / (10 : Int32)), .int (v2 - v2 / (10 : Int32) * (10 : Int32))]) (b := (a 0)) (st := []) (w2 := fun o22 o23 => [oX5 a s_many s_windMany s_year s_saidMany s_size s_readAt s_readPeaks s_readWinds s_readNumber s_undoMany s_keptMany, ai d (a 4) 30 o22, ai d (a 5) 5 o23, ai d (a 6) 6 s_guides, ai d (a 16) 42 s_aside, ai d (a 17) 2 w21]) X lk_X5_187 dX5_adds_220 rfl rfl rfl (Nat.le_of_ble_eq_true rfl) ⟨Nat.le_of_ble_eq_true rfl, Nat.le_of_ble_eq_true rfl, Nat.le_of_ble_eq_true rfl, Nat.le_of_ble_eq_true rfl⟩ rfl [0, 1, 2] (by decide) rfl hf (fun l o22 o23 h => ctX5_takesOff l d a s_many s_windMany s_year s_saidMany s_size s_readAt s_readPeaks s_readWinds s_readNumber s_undoMany s_keptMany w19 w20 (v2 / (10 : Int32)) (v2 - v2 / (10 : Int32) * (10 : Int32)) o22 o23 h) (fun _ _ => rfl) (fun _ _ => rfl) (fun o22 o23 hf => ?_)
          refine g_iinc (v := 1) (lv' := [some (.ref (a 0)), some (.int w18), some (.int (v2 + (1 : Int32))), none]) (pc' := 226) X dX5_adds_223 rfl rfl (by decide) (by decide) rfl rfl ?_
          refine g_goto (tgt := 33) X dX5_adds_226 (by decide) ?_
          have hk := sx_bk hf hb
          exact sx_weak [true, true, true, true] rfl hk
        refine g_icmp_le (tgt := 109) (pc' := 85) X dX5_adds_82 (by decide) rfl hf (fun hf => ?_) (fun hf => ?_)
        · exact sx_weak [true, true, true, true] rfl (hjX5_adds_109 v1 v2 o6 o7 s_added hf)
        · refine g_aload_n (pc' := 86) X dX5_adds_85 rfl rfl rfl ?_
          refine g_callVi0 (pc' := 89) (As := []) (b := (a 0)) (st := []) (w2 := fun x24 => [oX5 a s_many s_windMany s_year s_saidMany s_size s_readAt s_readPeaks s_readWinds s_readNumber s_undoMany s_keptMany, ai d (a 4) 30 o6, ai d (a 5) 5 o7, ai d (a 6) 6 s_guides, ai d (a 16) 42 s_aside, ai d (a 17) 2 s_added]) X lk_X5_196 dX5_adds_86 rfl rfl rfl (Nat.le_of_ble_eq_true rfl) ⟨Nat.le_of_ble_eq_true rfl, Nat.le_of_ble_eq_true rfl, Nat.le_of_ble_eq_true rfl, Nat.le_of_ble_eq_true rfl⟩ rfl [0, 1] (by decide) rfl hf (fun l x24 h => ctX5_pairsAlike l d a s_many s_windMany s_year s_saidMany s_size s_readAt s_readPeaks s_readWinds s_readNumber s_undoMany s_keptMany o6 x24 h) (fun _ => rfl) (fun _ => rfl) (fun x24 hnx24 hf => ?_)
          refine g_if_ne (tgt := 109) (pc' := 92) X dX5_adds_89 (by decide) rfl hf (fun hf => ?_) (fun hf => ?_)
          · exact sx_weak [true, true, true, true] rfl (hjX5_adds_109 v1 v2 o6 o7 s_added hf)
          · refine g_iconst (v := 1) (pc' := 93) X dX5_adds_92 rfl (by decide) ?_
            refine g_istore_n (lv' := [some (.ref (a 0)), some (.int (1 : Int32)), some (.int v2), none]) (pc' := 94) X dX5_adds_93 rfl rfl (by decide) rfl rfl ?_
            refine g_aload_n (pc' := 95) X dX5_adds_94 rfl rfl rfl ?_
            refine g_get (pc' := 98) X fl_X5_58 dX5_adds_95 rfl 0 rfl rfl ?_
            refine g_iconst (v := 0) (pc' := 99) X dX5_adds_98 rfl (by decide) ?_
            refine g_iload_n (pc' := 100) X dX5_adds_99 rfl rfl rfl ?_
            refine g_iast (pc' := 101) (w2 := fun g25 => [oX5 a s_many s_windMany s_year s_saidMany s_size s_readAt s_readPeaks s_readWinds s_readNumber s_undoMany s_keptMany, ai d (a 4) 30 o6, ai d (a 5) 5 o7, ai d (a 6) 6 s_guides, ai d (a 16) 42 s_aside, ai d (a 17) 2 g25]) X dX5_adds_100 rfl 5 rfl hf (fun _ => rfl) (fun g25 hf => ?_)
            refine g_aload_n (pc' := 102) X dX5_adds_101 rfl rfl rfl ?_
            refine g_get (pc' := 105) X fl_X5_58 dX5_adds_102 rfl 0 rfl rfl ?_
            refine g_iconst (v := 1) (pc' := 106) X dX5_adds_105 rfl (by decide) ?_
            refine g_bipush (v := -4) (pc' := 108) X dX5_adds_106 rfl (by decide) ?_
            refine g_iast (pc' := 109) (w2 := fun g26 => [oX5 a s_many s_windMany s_year s_saidMany s_size s_readAt s_readPeaks s_readWinds s_readNumber s_undoMany s_keptMany, ai d (a 4) 30 o6, ai d (a 5) 5 o7, ai d (a 6) 6 s_guides, ai d (a 16) 42 s_aside, ai d (a 17) 2 g26]) X dX5_adds_108 rfl 5 rfl hf (fun _ => rfl) (fun g26 hf => ?_)
            exact sx_weak [true, true, true, true] rfl (hjX5_adds_109 (1 : Int32) v2 o6 o7 g26 hf)
set_option maxHeartbeats 4000000 in
set_option maxRecDepth 100000 in
theorem ctX5_adds (l : Launch) (d : sx_D) (a : Nat → Nat) (s_many : Int32) (s_windMany : Int32) (s_year : Int32) (s_saidMany : Int32) (s_size : Int32) (s_readAt : Int32) (s_readPeaks : Int32) (s_readWinds : Int32) (s_readNumber : Int32) (s_undoMany : Int32) (s_keptMany : Int32) (s_pinned : Nat → Int32) (s_stored : Nat → Int32) (s_guides : Nat → Int32) (s_aside : Nat → Int32) (s_added : Nat → Int32) (r : Int32) (ro1 : Int32) (ro2 : Nat → Int32) (ro3 : Nat → Int32) (ro4 : Nat → Int32) (ro5 : Nat → Int32) (ro6 : Nat → Int32) (hf : fX5_adds s_many s_year s_pinned s_stored s_guides s_aside s_added = some (r, ro1, ro2, ro3, ro4, ro5, ro6)) : sx_I l d yX5_adds cX5_adds 4 .int 2 [.ref (a 0)] [oX5 a s_many s_windMany s_year s_saidMany s_size s_readAt s_readPeaks s_readWinds s_readNumber s_undoMany s_keptMany, ai d (a 4) 30 s_pinned, ai d (a 5) 5 s_stored, ai d (a 6) 6 s_guides, ai d (a 16) 42 s_aside, ai d (a 17) 2 s_added] [oX5 a s_many s_windMany ro1 s_saidMany s_size s_readAt s_readPeaks s_readWinds s_readNumber s_undoMany s_keptMany, ai d (a 4) 30 ro2, ai d (a 5) 5 ro3, ai d (a 6) 6 ro4, ai d (a 16) 42 ro5, ai d (a 17) 2 ro6] r := by
  refine sx_I.intro (lv0 := [some (.ref (a 0)), none, none, none]) (by decide +kernel) (Nat.le_of_ble_eq_true rfl) rfl ?_
  intro κ X hR
  have X : sx_X d κ cX5_adds 4 RX5 (sx_rm 2) := X
  unfold fX5_adds at hf
  refine g_aload_n (pc' := 1) X dX5_adds_0 rfl rfl rfl ?_
  refine g_get (pc' := 4) X fl_X5_58 dX5_adds_1 rfl 0 rfl rfl ?_
  refine g_iconst (v := 0) (pc' := 5) X dX5_adds_4 rfl (by decide) ?_
  refine g_bipush (v := -4) (pc' := 7) X dX5_adds_5 rfl (by decide) ?_
  refine g_iast (pc' := 8) (w2 := fun g1 => [oX5 a s_many s_windMany s_year s_saidMany s_size s_readAt s_readPeaks s_readWinds s_readNumber s_undoMany s_keptMany, ai d (a 4) 30 s_pinned, ai d (a 5) 5 s_stored, ai d (a 6) 6 s_guides, ai d (a 16) 42 s_aside, ai d (a 17) 2 g1]) X dX5_adds_7 rfl 5 rfl hf (fun _ => rfl) (fun g1 hf => ?_)
  refine g_aload_n (pc' := 9) X dX5_adds_8 rfl rfl rfl ?_
  refine g_get (pc' := 12) X fl_X5_58 dX5_adds_9 rfl 0 rfl rfl ?_
  refine g_iconst (v := 1) (pc' := 13) X dX5_adds_12 rfl (by decide) ?_
  refine g_bipush (v := -4) (pc' := 15) X dX5_adds_13 rfl (by decide) ?_
  refine g_iast (pc' := 16) (w2 := fun g2 => [oX5 a s_many s_windMany s_year s_saidMany s_size s_readAt s_readPeaks s_readWinds s_readNumber s_undoMany s_keptMany, ai d (a 4) 30 s_pinned, ai d (a 5) 5 s_stored, ai d (a 6) 6 s_guides, ai d (a 16) 42 s_aside, ai d (a 17) 2 g2]) X dX5_adds_15 rfl 5 rfl hf (fun _ => rfl) (fun g2 hf => ?_)
  refine g_aload_n (pc' := 17) X dX5_adds_16 rfl rfl rfl ?_
  refine g_callVi0 (pc' := 20) (As := []) (b := (a 0)) (st := []) (w2 := fun x3 => [oX5 a s_many s_windMany s_year s_saidMany s_size s_readAt s_readPeaks s_readWinds s_readNumber s_undoMany s_keptMany, ai d (a 4) 30 s_pinned, ai d (a 5) 5 s_stored, ai d (a 6) 6 s_guides, ai d (a 16) 42 s_aside, ai d (a 17) 2 g2]) X lk_X5_196 dX5_adds_17 rfl rfl rfl (Nat.le_of_ble_eq_true rfl) ⟨Nat.le_of_ble_eq_true rfl, Nat.le_of_ble_eq_true rfl, Nat.le_of_ble_eq_true rfl, Nat.le_of_ble_eq_true rfl⟩ rfl [0, 1] (by decide) rfl hf (fun l x3 h => ctX5_pairsAlike l d a s_many s_windMany s_year s_saidMany s_size s_readAt s_readPeaks s_readWinds s_readNumber s_undoMany s_keptMany s_pinned x3 h) (fun _ => rfl) (fun _ => rfl) (fun x3 hnx3 hf => ?_)
  refine g_if_ne (tgt := 25) (pc' := 23) X dX5_adds_20 (by decide) rfl hf (fun hf => ?_) (fun hf => ?_)
  · refine g_iconst (v := 3) (pc' := 26) X dX5_adds_25 rfl (by decide) ?_
    refine g_istore_n (lv' := [some (.ref (a 0)), some (.int (3 : Int32)), none, none]) (pc' := 27) X dX5_adds_26 rfl rfl (by decide) rfl rfl ?_
    refine g_aload_n (pc' := 28) X dX5_adds_27 rfl rfl rfl ?_
    refine g_callVv1 (pc' := 31) (As := []) (b := (a 0)) (st := []) (w2 := fun o4 => [oX5 a s_many s_windMany s_year s_saidMany s_size s_readAt s_readPeaks s_readWinds s_readNumber s_undoMany s_keptMany, ai d (a 4) 30 s_pinned, ai d (a 5) 5 s_stored, ai d (a 6) 6 s_guides, ai d (a 16) 42 o4, ai d (a 17) 2 g2]) X lk_X5_202 dX5_adds_28 rfl rfl rfl (Nat.le_of_ble_eq_true rfl) ⟨Nat.le_of_ble_eq_true rfl, Nat.le_of_ble_eq_true rfl, Nat.le_of_ble_eq_true rfl, Nat.le_of_ble_eq_true rfl⟩ rfl [0, 1, 2, 3, 4] (by decide) rfl hf (fun l o4 h => ctX5_begin l d a s_many s_windMany s_year s_saidMany s_size s_readAt s_readPeaks s_readWinds s_readNumber s_undoMany s_keptMany s_pinned s_stored s_guides s_aside o4 h) (fun _ => rfl) (fun _ => rfl) (fun o4 hf => ?_)
    refine g_iconst (v := 0) (pc' := 32) X dX5_adds_31 rfl (by decide) ?_
    refine g_istore_n (lv' := [some (.ref (a 0)), some (.int (3 : Int32)), some (.int (0 : Int32)), none]) (pc' := 33) X dX5_adds_32 rfl rfl (by decide) rfl rfl ?_
    obtain ⟨y27, hy27, hf⟩ := sx_bd hf
    refine sx_weak [true, true, true, true] rfl (lX5_adds_33 d κ a s_many s_windMany s_year s_saidMany s_size s_readAt s_readPeaks s_readWinds s_readNumber s_undoMany s_keptMany s_guides o4 X y27 ?_ 1000 ((3 : Int32), (0 : Int32), s_pinned, s_stored, g2) hy27)
    rintro w28 w29 w30 w31 rfl
    refine g_aload_n (pc' := 230) X dX5_adds_229 rfl rfl rfl ?_
    refine g_callVv4 (pc' := 233) (As := []) (b := (a 0)) (st := []) (w2 := fun o32 o33 o34 o35 => [oX5 a s_many s_windMany o32 s_saidMany s_size s_readAt s_readPeaks s_readWinds s_readNumber s_undoMany s_keptMany, ai d (a 4) 30 o33, ai d (a 5) 5 o34, ai d (a 6) 6 o35, ai d (a 16) 42 o4, ai d (a 17) 2 w31]) X lk_X5_205 dX5_adds_230 rfl rfl rfl (Nat.le_of_ble_eq_true rfl) ⟨Nat.le_of_ble_eq_true rfl, Nat.le_of_ble_eq_true rfl, Nat.le_of_ble_eq_true rfl, Nat.le_of_ble_eq_true rfl⟩ rfl [0, 1, 2, 3, 4] (by decide) rfl hf (fun l o32 o33 o34 o35 h => ctX5_putBack l d a s_many s_windMany s_year s_saidMany s_size s_readAt s_readPeaks s_readWinds s_readNumber s_undoMany s_keptMany w29 w30 s_guides o4 o32 o33 o34 o35 h) (fun _ _ _ _ => rfl) (fun _ _ _ _ => rfl) (fun o32 o33 o34 o35 hf => ?_)
    refine g_iload_n (pc' := 234) X dX5_adds_233 rfl rfl rfl ?_
    refine g_iconst (v := 3) (pc' := 235) X dX5_adds_234 rfl (by decide) ?_
    refine g_icmp_ge (tgt := 242) (pc' := 238) X dX5_adds_235 (by decide) rfl hf (fun hf => ?_) (fun hf => ?_)
    · refine g_bipush (v := -4) (pc' := 244) X dX5_adds_242 rfl (by decide) ?_
      cases hf
      exact hR _ _ dX5_adds_244 rfl
    · refine g_iload_n (pc' := 239) X dX5_adds_238 rfl rfl rfl ?_
      refine g_goto (tgt := 244) X dX5_adds_239 (by decide) ?_
      cases hf
      exact hR _ _ dX5_adds_244 rfl
  · refine g_iconst (v := 0) (pc' := 24) X dX5_adds_23 rfl (by decide) ?_
    cases hf
    exact hR _ _ dX5_adds_24 rfl
-- X5_add
def fX5_add (s_many : Int32) (s_year : Int32) (s_pinned : Nat → Int32) (s_stored : Nat → Int32) (s_guides : Nat → Int32) (s_aside : Nat → Int32) (s_added : Nat → Int32) (v1 : Int32) : Option (Int32 × Int32 × (Nat → Int32) × (Nat → Int32) × (Nat → Int32) × (Nat → Int32) × (Nat → Int32)) :=
  (fX5_in v1 (-1 : Int32) (1 : Int32)).bind fun x1 =>
  if x1 = 0 then
    some ((-1 : Int32), s_year, s_pinned, s_stored, s_guides, s_aside, s_added)
  else
    (fX5_adds s_many s_year s_pinned s_stored s_guides s_aside s_added).bind fun (x2, o3, o4, o5, o6, o7, o8) =>
    if x2 = (-4 : Int32) then
      some (x2, o3, o4, o5, o6, o7, o8)
    else
      if 0 ≤ v1 then
        sx_rd o8 2 v1 fun x9 =>
        some (x9, o3, o4, o5, o6, o7, o8)
      else
        some (x2, o3, o4, o5, o6, o7, o8)
set_option maxHeartbeats 4000000 in
set_option maxRecDepth 100000 in
theorem ctX5_add (l : Launch) (d : sx_D) (a : Nat → Nat) (s_many : Int32) (s_windMany : Int32) (s_year : Int32) (s_saidMany : Int32) (s_size : Int32) (s_readAt : Int32) (s_readPeaks : Int32) (s_readWinds : Int32) (s_readNumber : Int32) (s_undoMany : Int32) (s_keptMany : Int32) (s_pinned : Nat → Int32) (s_stored : Nat → Int32) (s_guides : Nat → Int32) (s_aside : Nat → Int32) (s_added : Nat → Int32) (v1 : Int32) (r : Int32) (ro1 : Int32) (ro2 : Nat → Int32) (ro3 : Nat → Int32) (ro4 : Nat → Int32) (ro5 : Nat → Int32) (ro6 : Nat → Int32) (hf : fX5_add s_many s_year s_pinned s_stored s_guides s_aside s_added v1 = some (r, ro1, ro2, ro3, ro4, ro5, ro6)) : sx_I l d yX5_add cX5_add 3 .int 3 [.ref (a 0), .int v1] [oX5 a s_many s_windMany s_year s_saidMany s_size s_readAt s_readPeaks s_readWinds s_readNumber s_undoMany s_keptMany, ai d (a 4) 30 s_pinned, ai d (a 5) 5 s_stored, ai d (a 6) 6 s_guides, ai d (a 16) 42 s_aside, ai d (a 17) 2 s_added] [oX5 a s_many s_windMany ro1 s_saidMany s_size s_readAt s_readPeaks s_readWinds s_readNumber s_undoMany s_keptMany, ai d (a 4) 30 ro2, ai d (a 5) 5 ro3, ai d (a 6) 6 ro4, ai d (a 16) 42 ro5, ai d (a 17) 2 ro6] r := by
  refine sx_I.intro (lv0 := [some (.ref (a 0)), some (.int v1), none]) (by decide +kernel) (Nat.le_of_ble_eq_true rfl) rfl ?_
  intro κ X hR
  have X : sx_X d κ cX5_add 3 RX5 (sx_rm 3) := X
  unfold fX5_add at hf
  refine g_iload_n (pc' := 1) X dX5_add_0 rfl rfl rfl ?_
  refine g_iconst (v := -1) (pc' := 2) X dX5_add_1 rfl (by decide) ?_
  refine g_iconst (v := 1) (pc' := 3) X dX5_add_2 rfl (by decide) ?_
  refine g_callSi0 (pc' := 6) (As := [.int v1, .int (-1 : Int32), .int (1 : Int32)]) (st := []) (w2 := fun x1 => [oX5 a s_many s_windMany s_year s_saidMany s_size s_readAt s_readPeaks s_readWinds s_readNumber s_undoMany s_keptMany, ai d (a 4) 30 s_pinned, ai d (a 5) 5 s_stored, ai d (a 6) 6 s_guides, ai d (a 16) 42 s_aside, ai d (a 17) 2 s_added]) X lk_X5_81 dX5_add_3 rfl rfl rfl (Nat.le_of_ble_eq_true rfl) ⟨Nat.le_of_ble_eq_true rfl, Nat.le_of_ble_eq_true rfl, Nat.le_of_ble_eq_true rfl, Nat.le_of_ble_eq_true rfl⟩ [] (by decide) rfl hf (fun l x1 h => ctX5_in l d v1 (-1 : Int32) (1 : Int32) x1 h) (fun _ => rfl) (fun _ => rfl) (fun x1 hnx1 hf => ?_)
  refine g_if_ne (tgt := 11) (pc' := 9) X dX5_add_6 (by decide) rfl hf (fun hf => ?_) (fun hf => ?_)
  · refine g_aload_n (pc' := 12) X dX5_add_11 rfl rfl rfl ?_
    refine g_callVi6 (pc' := 15) (As := []) (b := (a 0)) (st := []) (w2 := fun x2 o3 o4 o5 o6 o7 o8 => [oX5 a s_many s_windMany o3 s_saidMany s_size s_readAt s_readPeaks s_readWinds s_readNumber s_undoMany s_keptMany, ai d (a 4) 30 o4, ai d (a 5) 5 o5, ai d (a 6) 6 o6, ai d (a 16) 42 o7, ai d (a 17) 2 o8]) X lk_X5_219 dX5_add_12 rfl rfl rfl (Nat.le_of_ble_eq_true rfl) ⟨Nat.le_of_ble_eq_true rfl, Nat.le_of_ble_eq_true rfl, Nat.le_of_ble_eq_true rfl, Nat.le_of_ble_eq_true rfl⟩ rfl [0, 1, 2, 3, 4, 5] (by decide) rfl hf (fun l x2 o3 o4 o5 o6 o7 o8 h => ctX5_adds l d a s_many s_windMany s_year s_saidMany s_size s_readAt s_readPeaks s_readWinds s_readNumber s_undoMany s_keptMany s_pinned s_stored s_guides s_aside s_added x2 o3 o4 o5 o6 o7 o8 h) (fun _ _ _ _ _ _ _ => rfl) (fun _ _ _ _ _ _ _ => rfl) (fun x2 o3 o4 o5 o6 o7 o8 hnx2 hf => ?_)
    refine g_istore_n (lv' := [some (.ref (a 0)), some (.int v1), some (.int x2)]) (pc' := 16) X dX5_add_15 rfl rfl (by decide) rfl rfl ?_
    refine g_iload_n (pc' := 17) X dX5_add_16 rfl rfl rfl ?_
    refine g_bipush (v := -4) (pc' := 19) X dX5_add_17 rfl (by decide) ?_
    refine g_icmp_eq (tgt := 26) (pc' := 22) X dX5_add_19 (by decide) rfl hf (fun hf => ?_) (fun hf => ?_)
    · refine g_iload_n (pc' := 27) X dX5_add_26 rfl rfl rfl ?_
      refine g_goto (tgt := 36) X dX5_add_27 (by decide) ?_
      cases hf
      exact hR _ _ dX5_add_36 rfl
    · refine g_iload_n (pc' := 23) X dX5_add_22 rfl rfl rfl ?_
      refine g_if_ge (tgt := 30) (pc' := 26) X dX5_add_23 (by decide) rfl hf (fun hf => ?_) (fun hf => ?_)
      · refine g_aload_n (pc' := 31) X dX5_add_30 rfl rfl rfl ?_
        refine g_get (pc' := 34) X fl_X5_58 dX5_add_31 rfl 0 rfl rfl ?_
        refine g_iload_n (pc' := 35) X dX5_add_34 rfl rfl rfl ?_
        refine g_iald (pc' := 36) X dX5_add_35 rfl 5 rfl hf (fun x9 hf => ?_)
        cases hf
        exact hR _ _ dX5_add_36 rfl
      · refine g_iload_n (pc' := 27) X dX5_add_26 rfl rfl rfl ?_
        refine g_goto (tgt := 36) X dX5_add_27 (by decide) ?_
        cases hf
        exact hR _ _ dX5_add_36 rfl
  · refine g_iconst (v := -1) (pc' := 10) X dX5_add_9 rfl (by decide) ?_
    cases hf
    exact hR _ _ dX5_add_10 rfl
-- X5_say
def fX5_say (s_saidMany : Int32) (s_saidOf : Nat → Int32) (s_saidIs : Nat → Int32) (v1 : Int32) (v2 : Int32) : Option (Int32 × Int32 × (Nat → Int32) × (Nat → Int32)) :=
  (fX5_isTrimming v1).bind fun x1 =>
  if x1 = 0 then
    some ((-1 : Int32), s_saidMany, s_saidOf, s_saidIs)
  else
    (fX5_in v2 (0 : Int32) (1 : Int32)).bind fun x2 =>
    if x2 = 0 then
      some ((-1 : Int32), s_saidMany, s_saidOf, s_saidIs)
    else
      if s_saidMany = (6 : Int32) then
        some ((-3 : Int32), s_saidMany, s_saidOf, s_saidIs)
      else
        sx_wr s_saidOf 6 s_saidMany v1 fun g3 =>
        sx_wr s_saidIs 6 s_saidMany v2 fun g4 =>
        sx_lt (s_saidMany + (1 : Int32)) fun x5 =>
        some (x5, x5, g3, g4)
set_option maxHeartbeats 4000000 in
set_option maxRecDepth 100000 in
theorem ctX5_say (l : Launch) (d : sx_D) (a : Nat → Nat) (s_many : Int32) (s_windMany : Int32) (s_year : Int32) (s_saidMany : Int32) (s_size : Int32) (s_readAt : Int32) (s_readPeaks : Int32) (s_readWinds : Int32) (s_readNumber : Int32) (s_undoMany : Int32) (s_keptMany : Int32) (s_saidOf : Nat → Int32) (s_saidIs : Nat → Int32) (v1 : Int32) (v2 : Int32) (r : Int32) (ro1 : Int32) (ro2 : Nat → Int32) (ro3 : Nat → Int32) (hf : fX5_say s_saidMany s_saidOf s_saidIs v1 v2 = some (r, ro1, ro2, ro3)) : sx_I l d yX5_say cX5_say 3 .int 2 [.ref (a 0), .int v1, .int v2] [oX5 a s_many s_windMany s_year s_saidMany s_size s_readAt s_readPeaks s_readWinds s_readNumber s_undoMany s_keptMany, ai d (a 7) 6 s_saidOf, ai d (a 8) 6 s_saidIs] [oX5 a s_many s_windMany s_year ro1 s_size s_readAt s_readPeaks s_readWinds s_readNumber s_undoMany s_keptMany, ai d (a 7) 6 ro2, ai d (a 8) 6 ro3] r := by
  refine sx_I.intro (lv0 := [some (.ref (a 0)), some (.int v1), some (.int v2)]) (by decide +kernel) (Nat.le_of_ble_eq_true rfl) rfl ?_
  intro κ X hR
  have X : sx_X d κ cX5_say 3 RX5 (sx_rm 2) := X
  unfold fX5_say at hf
  refine g_iload_n (pc' := 1) X dX5_say_0 rfl rfl rfl ?_
  refine g_callSi0 (pc' := 4) (As := [.int v1]) (st := []) (w2 := fun x1 => [oX5 a s_many s_windMany s_year s_saidMany s_size s_readAt s_readPeaks s_readWinds s_readNumber s_undoMany s_keptMany, ai d (a 7) 6 s_saidOf, ai d (a 8) 6 s_saidIs]) X lk_X5_170 dX5_say_1 rfl rfl rfl (Nat.le_of_ble_eq_true rfl) ⟨Nat.le_of_ble_eq_true rfl, Nat.le_of_ble_eq_true rfl, Nat.le_of_ble_eq_true rfl, Nat.le_of_ble_eq_true rfl⟩ [] (by decide) rfl hf (fun l x1 h => ctX5_isTrimming l d v1 x1 h) (fun _ => rfl) (fun _ => rfl) (fun x1 hnx1 hf => ?_)
  refine g_if_eq (tgt := 16) (pc' := 7) X dX5_say_4 (by decide) rfl hf (fun hf => ?_) (fun hf => ?_)
  · refine g_iconst (v := -1) (pc' := 17) X dX5_say_16 rfl (by decide) ?_
    cases hf
    exact hR _ _ dX5_say_17 rfl
  · refine g_iload_n (pc' := 8) X dX5_say_7 rfl rfl rfl ?_
    refine g_iconst (v := 0) (pc' := 9) X dX5_say_8 rfl (by decide) ?_
    refine g_iconst (v := 1) (pc' := 10) X dX5_say_9 rfl (by decide) ?_
    refine g_callSi0 (pc' := 13) (As := [.int v2, .int (0 : Int32), .int (1 : Int32)]) (st := []) (w2 := fun x2 => [oX5 a s_many s_windMany s_year s_saidMany s_size s_readAt s_readPeaks s_readWinds s_readNumber s_undoMany s_keptMany, ai d (a 7) 6 s_saidOf, ai d (a 8) 6 s_saidIs]) X lk_X5_81 dX5_say_10 rfl rfl rfl (Nat.le_of_ble_eq_true rfl) ⟨Nat.le_of_ble_eq_true rfl, Nat.le_of_ble_eq_true rfl, Nat.le_of_ble_eq_true rfl, Nat.le_of_ble_eq_true rfl⟩ [] (by decide) rfl hf (fun l x2 h => ctX5_in l d v2 (0 : Int32) (1 : Int32) x2 h) (fun _ => rfl) (fun _ => rfl) (fun x2 hnx2 hf => ?_)
    refine g_if_ne (tgt := 18) (pc' := 16) X dX5_say_13 (by decide) rfl hf (fun hf => ?_) (fun hf => ?_)
    · refine g_aload_n (pc' := 19) X dX5_say_18 rfl rfl rfl ?_
      refine g_get (pc' := 22) X fl_X5_136 dX5_say_19 rfl 0 rfl rfl ?_
      refine g_bipush (v := 6) (pc' := 24) X dX5_say_22 rfl (by decide) ?_
      refine g_icmp_ne (tgt := 30) (pc' := 27) X dX5_say_24 (by decide) rfl hf (fun hf => ?_) (fun hf => ?_)
      · refine g_aload_n (pc' := 31) X dX5_say_30 rfl rfl rfl ?_
        refine g_get (pc' := 34) X fl_X5_28 dX5_say_31 rfl 0 rfl rfl ?_
        refine g_aload_n (pc' := 35) X dX5_say_34 rfl rfl rfl ?_
        refine g_get (pc' := 38) X fl_X5_136 dX5_say_35 rfl 0 rfl rfl ?_
        refine g_iload_n (pc' := 39) X dX5_say_38 rfl rfl rfl ?_
        refine g_iast (pc' := 40) (w2 := fun g3 => [oX5 a s_many s_windMany s_year s_saidMany s_size s_readAt s_readPeaks s_readWinds s_readNumber s_undoMany s_keptMany, ai d (a 7) 6 g3, ai d (a 8) 6 s_saidIs]) X dX5_say_39 rfl 1 rfl hf (fun _ => rfl) (fun g3 hf => ?_)
        refine g_aload_n (pc' := 41) X dX5_say_40 rfl rfl rfl ?_
        refine g_get (pc' := 44) X fl_X5_31 dX5_say_41 rfl 0 rfl rfl ?_
        refine g_aload_n (pc' := 45) X dX5_say_44 rfl rfl rfl ?_
        refine g_get (pc' := 48) X fl_X5_136 dX5_say_45 rfl 0 rfl rfl ?_
        refine g_iload_n (pc' := 49) X dX5_say_48 rfl rfl rfl ?_
        refine g_iast (pc' := 50) (w2 := fun g4 => [oX5 a s_many s_windMany s_year s_saidMany s_size s_readAt s_readPeaks s_readWinds s_readNumber s_undoMany s_keptMany, ai d (a 7) 6 g3, ai d (a 8) 6 g4]) X dX5_say_49 rfl 2 rfl hf (fun _ => rfl) (fun g4 hf => ?_)
        refine g_aload_n (pc' := 51) X dX5_say_50 rfl rfl rfl ?_
        refine g_dup (pc' := 52) X dX5_say_51 rfl rfl ?_
        refine g_get (pc' := 55) X fl_X5_136 dX5_say_52 rfl 0 rfl rfl ?_
        refine g_iconst (v := 1) (pc' := 56) X dX5_say_55 rfl (by decide) ?_
        refine g_iadd (pc' := 57) X dX5_say_56 rfl ?_
        refine g_putN (pc' := 60) (w2 := fun x5 => [oX5 a s_many s_windMany s_year x5 s_size s_readAt s_readPeaks s_readWinds s_readNumber s_undoMany s_keptMany, ai d (a 7) 6 g3, ai d (a 8) 6 g4]) X fl_X5_136 fw_X5 rfl dX5_say_57 rfl 0 rfl (fun _ => rfl) (fun _ => rfl) (Nat.le_of_ble_eq_true rfl) (fun _ => rfl) hf (fun x5 hf => ?_)
        refine g_aload_n (pc' := 61) X dX5_say_60 rfl rfl rfl ?_
        refine g_get (pc' := 64) X fl_X5_136 dX5_say_61 rfl 0 rfl rfl ?_
        cases hf
        exact hR _ _ dX5_say_64 rfl
      · refine g_bipush (v := -3) (pc' := 29) X dX5_say_27 rfl (by decide) ?_
        cases hf
        exact hR _ _ dX5_say_29 rfl
    · refine g_iconst (v := -1) (pc' := 17) X dX5_say_16 rfl (by decide) ?_
      cases hf
      exact hR _ _ dX5_say_17 rfl
-- X5_forget
def fX5_forget (s_saidMany : Int32) : Option (Int32 × Int32) :=
  some (s_saidMany, (0 : Int32))
set_option maxHeartbeats 4000000 in
set_option maxRecDepth 100000 in
theorem ctX5_forget (l : Launch) (d : sx_D) (a : Nat → Nat) (s_many : Int32) (s_windMany : Int32) (s_year : Int32) (s_saidMany : Int32) (s_size : Int32) (s_readAt : Int32) (s_readPeaks : Int32) (s_readWinds : Int32) (s_readNumber : Int32) (s_undoMany : Int32) (s_keptMany : Int32) (r : Int32) (ro1 : Int32) (hf : fX5_forget s_saidMany = some (r, ro1)) : sx_I l d yX5_forget cX5_forget 2 .int 0 [.ref (a 0)] [oX5 a s_many s_windMany s_year s_saidMany s_size s_readAt s_readPeaks s_readWinds s_readNumber s_undoMany s_keptMany] [oX5 a s_many s_windMany s_year ro1 s_size s_readAt s_readPeaks s_readWinds s_readNumber s_undoMany s_keptMany] r := by
  refine sx_I.intro (lv0 := [some (.ref (a 0)), none]) (by decide +kernel) (Nat.le_of_ble_eq_true rfl) rfl ?_
  intro κ X hR
  have X : sx_X d κ cX5_forget 2 RX5 (sx_rm 0) := X
  unfold fX5_forget at hf
  refine g_aload_n (pc' := 1) X dX5_forget_0 rfl rfl rfl ?_
  refine g_get (pc' := 4) X fl_X5_136 dX5_forget_1 rfl 0 rfl rfl ?_
  refine g_istore_n (lv' := [some (.ref (a 0)), some (.int s_saidMany)]) (pc' := 5) X dX5_forget_4 rfl rfl (by decide) rfl rfl ?_
  refine g_aload_n (pc' := 6) X dX5_forget_5 rfl rfl rfl ?_
  refine g_iconst (v := 0) (pc' := 7) X dX5_forget_6 rfl (by decide) ?_
  refine g_put (pc' := 10) (w2 := [oX5 a s_many s_windMany s_year (0 : Int32) s_size s_readAt s_readPeaks s_readWinds s_readNumber s_undoMany s_keptMany]) X fl_X5_136 fw_X5 rfl dX5_forget_7 rfl 0 rfl rfl rfl (Nat.le_of_ble_eq_true rfl) rfl ?_
  refine g_iload_n (pc' := 11) X dX5_forget_10 rfl rfl rfl ?_
  cases hf
  exact hR _ _ dX5_forget_11 rfl
-- X5_those
def bX5_those_17 (s_saidMany : Int32) (s_pinned : Nat → Int32) (s_saidOf : Nat → Int32) (s_saidIs : Nat → Int32) (v2 : Int32) : (Int32 × Int32) → Option ((Int32 × Int32) ⊕ (Int32)) := fun (v3, v4) =>
  if s_saidMany ≤ v4 then
    some (.inr v3)
  else
    if v3 = 0 then
      some (.inl ((0 : Int32), v4 + (1 : Int32)))
    else
      (fX5_looks s_pinned v2).bind fun x1 =>
      sx_rd s_saidOf 6 v4 fun x2 =>
      sx_rd s_saidIs 6 v4 fun x3 =>
      if ((x1 >>> (x2 &&& 31)) &&& (1 : Int32)) = x3 then
        some (.inl ((1 : Int32), v4 + (1 : Int32)))
      else
        some (.inl ((0 : Int32), v4 + (1 : Int32)))
def bX5_those_4 (s_many : Int32) (s_saidMany : Int32) (s_pinned : Nat → Int32) (s_saidOf : Nat → Int32) (s_saidIs : Nat → Int32) : (Int32 × Int32) → Option ((Int32 × Int32) ⊕ (Int32)) := fun (v1, v2) =>
  if s_many ≤ v2 then
    some (.inr v1)
  else
    (sx_it 1000 (bX5_those_17 s_saidMany s_pinned s_saidOf s_saidIs v2) ((1 : Int32), (0 : Int32))).bind fun w5 =>
    if w5 = 0 then
      sx_lt (v1 ||| (0 : Int32)) fun x6 =>
      some (.inl (x6, v2 + (1 : Int32)))
    else
      sx_lt (v1 ||| ((1 : Int32) <<< (v2 &&& 31))) fun x7 =>
      some (.inl (x7, v2 + (1 : Int32)))
def fX5_those (s_many : Int32) (s_saidMany : Int32) (s_pinned : Nat → Int32) (s_saidOf : Nat → Int32) (s_saidIs : Nat → Int32) : Option (Int32) :=
  (sx_it 1000 (bX5_those_4 s_many s_saidMany s_pinned s_saidOf s_saidIs) ((0 : Int32), (0 : Int32))).bind fun w9 =>
  some w9
set_option maxHeartbeats 4000000 in
set_option maxRecDepth 100000 in
theorem lX5_those_17 (d : sx_D) (κ : sx_C) (a : Nat → Nat) (s_many : Int32) (s_windMany : Int32) (s_year : Int32) (s_saidMany : Int32) (s_size : Int32) (s_readAt : Int32) (s_readPeaks : Int32) (s_readWinds : Int32) (s_readNumber : Int32) (s_undoMany : Int32) (s_keptMany : Int32) (s_pinned : Nat → Int32) (s_saidOf : Nat → Int32) (s_saidIs : Nat → Int32) (v1 : Int32) (v2 : Int32) (X : sx_X d κ cX5_those 5 RX5 (sx_rm 1)) (y : Int32) (hE67 : ∀ (v3 : Int32), v3 = y → sx_G d κ 5 0 0 67 [some (.ref (a 0)), some (.int v1), some (.int v2), some (.int v3), none] [] [oX5 a s_many s_windMany s_year s_saidMany s_size s_readAt s_readPeaks s_readWinds s_readNumber s_undoMany s_keptMany, ai d (a 4) 30 s_pinned, ai d (a 7) 6 s_saidOf, ai d (a 8) 6 s_saidIs]) : ∀ (n : Nat) (s : Int32 × Int32), sx_it n (bX5_those_17 s_saidMany s_pinned s_saidOf s_saidIs v2) s = some y → (match s with | (v3, v4) => sx_G d κ 5 0 0 17 [some (.ref (a 0)), some (.int v1), some (.int v2), some (.int v3), some (.int v4)] [] [oX5 a s_many s_windMany s_year s_saidMany s_size s_readAt s_readPeaks s_readWinds s_readNumber s_undoMany s_keptMany, ai d (a 4) 30 s_pinned, ai d (a 7) 6 s_saidOf, ai d (a 8) 6 s_saidIs]) := by
  refine sx_it_run (bX5_those_17 s_saidMany s_pinned s_saidOf s_saidIs v2) (fun s => match s with | (v3, v4) => sx_G d κ 5 0 0 17 [some (.ref (a 0)), some (.int v1), some (.int v2), some (.int v3), some (.int v4)] [] [oX5 a s_many s_windMany s_year s_saidMany s_size s_readAt s_readPeaks s_readWinds s_readNumber s_undoMany s_keptMany, ai d (a 4) 30 s_pinned, ai d (a 7) 6 s_saidOf, ai d (a 8) 6 s_saidIs]) y ?_
  rintro ⟨v3, v4⟩ x hf hb he
  show sx_G d κ 5 0 0 17 [some (.ref (a 0)), some (.int v1), some (.int v2), some (.int v3), some (.int v4)] [] [oX5 a s_many s_windMany s_year s_saidMany s_size s_readAt s_readPeaks s_readWinds s_readNumber s_undoMany s_keptMany, ai d (a 4) 30 s_pinned, ai d (a 7) 6 s_saidOf, ai d (a 8) 6 s_saidIs]
  unfold bX5_those_17 at hf
  refine g_iload (pc' := 19) X dX5_those_17 rfl rfl ?_
  refine g_aload_n (pc' := 20) X dX5_those_19 rfl rfl rfl ?_
  refine g_get (pc' := 23) X fl_X5_136 dX5_those_20 rfl 0 rfl rfl ?_
  refine g_icmp_ge (tgt := 67) (pc' := 26) X dX5_those_23 (by decide) rfl hf (fun hf => ?_) (fun hf => ?_)
  · exact sx_weak [true, true, true, true, false] rfl (hE67 _ (sx_ex hf he))
  · refine g_iload_n (pc' := 27) X dX5_those_26 rfl rfl rfl ?_
    refine g_if_eq (tgt := 59) (pc' := 30) X dX5_those_27 (by decide) rfl hf (fun hf => ?_) (fun hf => ?_)
    · refine g_iconst (v := 0) (pc' := 60) X dX5_those_59 rfl (by decide) ?_
      refine g_istore_n (lv' := [some (.ref (a 0)), some (.int v1), some (.int v2), some (.int (0 : Int32)), some (.int v4)]) (pc' := 61) X dX5_those_60 rfl rfl (by decide) rfl rfl ?_
      refine g_iinc (v := 1) (lv' := [some (.ref (a 0)), some (.int v1), some (.int v2), some (.int (0 : Int32)), some (.int (v4 + (1 : Int32)))]) (pc' := 64) X dX5_those_61 rfl rfl (by decide) (by decide) rfl rfl ?_
      refine g_goto (tgt := 17) X dX5_those_64 (by decide) ?_
      have hk := sx_bk hf hb
      exact sx_weak [true, true, true, true, true] rfl hk
    · refine g_aload_n (pc' := 31) X dX5_those_30 rfl rfl rfl ?_
      refine g_iload_n (pc' := 32) X dX5_those_31 rfl rfl rfl ?_
      refine g_callVi0 (pc' := 35) (As := [.int v2]) (b := (a 0)) (st := []) (w2 := fun x1 => [oX5 a s_many s_windMany s_year s_saidMany s_size s_readAt s_readPeaks s_readWinds s_readNumber s_undoMany s_keptMany, ai d (a 4) 30 s_pinned, ai d (a 7) 6 s_saidOf, ai d (a 8) 6 s_saidIs]) X lk_X5_85 dX5_those_32 rfl rfl rfl (Nat.le_of_ble_eq_true rfl) ⟨Nat.le_of_ble_eq_true rfl, Nat.le_of_ble_eq_true rfl, Nat.le_of_ble_eq_true rfl, Nat.le_of_ble_eq_true rfl⟩ rfl [0, 1] (by decide) rfl hf (fun l x1 h => ctX5_looks l d a s_many s_windMany s_year s_saidMany s_size s_readAt s_readPeaks s_readWinds s_readNumber s_undoMany s_keptMany s_pinned v2 x1 h) (fun _ => rfl) (fun _ => rfl) (fun x1 hnx1 hf => ?_)
      refine g_aload_n (pc' := 36) X dX5_those_35 rfl rfl rfl ?_
      refine g_get (pc' := 39) X fl_X5_28 dX5_those_36 rfl 0 rfl rfl ?_
      refine g_iload (pc' := 41) X dX5_those_39 rfl rfl ?_
      refine g_iald (pc' := 42) X dX5_those_41 rfl 2 rfl hf (fun x2 hf => ?_)
      refine g_ishr (pc' := 43) X dX5_those_42 rfl ?_
      refine g_iconst (v := 1) (pc' := 44) X dX5_those_43 rfl (by decide) ?_
      refine g_iand (pc' := 45) X dX5_those_44 rfl ?_
      refine g_aload_n (pc' := 46) X dX5_those_45 rfl rfl rfl ?_
      refine g_get (pc' := 49) X fl_X5_31 dX5_those_46 rfl 0 rfl rfl ?_
      refine g_iload (pc' := 51) X dX5_those_49 rfl rfl ?_
      refine g_iald (pc' := 52) X dX5_those_51 rfl 3 rfl hf (fun x3 hf => ?_)
      refine g_icmp_ne (tgt := 59) (pc' := 55) X dX5_those_52 (by decide) rfl hf (fun hf => ?_) (fun hf => ?_)
      · refine g_iconst (v := 0) (pc' := 60) X dX5_those_59 rfl (by decide) ?_
        refine g_istore_n (lv' := [some (.ref (a 0)), some (.int v1), some (.int v2), some (.int (0 : Int32)), some (.int v4)]) (pc' := 61) X dX5_those_60 rfl rfl (by decide) rfl rfl ?_
        refine g_iinc (v := 1) (lv' := [some (.ref (a 0)), some (.int v1), some (.int v2), some (.int (0 : Int32)), some (.int (v4 + (1 : Int32)))]) (pc' := 64) X dX5_those_61 rfl rfl (by decide) (by decide) rfl rfl ?_
        refine g_goto (tgt := 17) X dX5_those_64 (by decide) ?_
        have hk := sx_bk hf hb
        exact sx_weak [true, true, true, true, true] rfl hk
      · refine g_iconst (v := 1) (pc' := 56) X dX5_those_55 rfl (by decide) ?_
        refine g_goto (tgt := 60) X dX5_those_56 (by decide) ?_
        refine g_istore_n (lv' := [some (.ref (a 0)), some (.int v1), some (.int v2), some (.int (1 : Int32)), some (.int v4)]) (pc' := 61) X dX5_those_60 rfl rfl (by decide) rfl rfl ?_
        refine g_iinc (v := 1) (lv' := [some (.ref (a 0)), some (.int v1), some (.int v2), some (.int (1 : Int32)), some (.int (v4 + (1 : Int32)))]) (pc' := 64) X dX5_those_61 rfl rfl (by decide) (by decide) rfl rfl ?_
        refine g_goto (tgt := 17) X dX5_those_64 (by decide) ?_
        have hk := sx_bk hf hb
        exact sx_weak [true, true, true, true, true] rfl hk
set_option maxHeartbeats 4000000 in
set_option maxRecDepth 100000 in
theorem lX5_those_4 (d : sx_D) (κ : sx_C) (a : Nat → Nat) (s_many : Int32) (s_windMany : Int32) (s_year : Int32) (s_saidMany : Int32) (s_size : Int32) (s_readAt : Int32) (s_readPeaks : Int32) (s_readWinds : Int32) (s_readNumber : Int32) (s_undoMany : Int32) (s_keptMany : Int32) (s_pinned : Nat → Int32) (s_saidOf : Nat → Int32) (s_saidIs : Nat → Int32) (X : sx_X d κ cX5_those 5 RX5 (sx_rm 1)) (y : Int32) (hE87 : ∀ (v1 : Int32), v1 = y → sx_G d κ 5 0 0 87 [none, some (.int v1), none, none, none] [] [oX5 a s_many s_windMany s_year s_saidMany s_size s_readAt s_readPeaks s_readWinds s_readNumber s_undoMany s_keptMany, ai d (a 4) 30 s_pinned, ai d (a 7) 6 s_saidOf, ai d (a 8) 6 s_saidIs]) : ∀ (n : Nat) (s : Int32 × Int32), sx_it n (bX5_those_4 s_many s_saidMany s_pinned s_saidOf s_saidIs) s = some y → (match s with | (v1, v2) => sx_G d κ 5 0 0 4 [some (.ref (a 0)), some (.int v1), some (.int v2), none, none] [] [oX5 a s_many s_windMany s_year s_saidMany s_size s_readAt s_readPeaks s_readWinds s_readNumber s_undoMany s_keptMany, ai d (a 4) 30 s_pinned, ai d (a 7) 6 s_saidOf, ai d (a 8) 6 s_saidIs]) := by
  refine sx_it_run (bX5_those_4 s_many s_saidMany s_pinned s_saidOf s_saidIs) (fun s => match s with | (v1, v2) => sx_G d κ 5 0 0 4 [some (.ref (a 0)), some (.int v1), some (.int v2), none, none] [] [oX5 a s_many s_windMany s_year s_saidMany s_size s_readAt s_readPeaks s_readWinds s_readNumber s_undoMany s_keptMany, ai d (a 4) 30 s_pinned, ai d (a 7) 6 s_saidOf, ai d (a 8) 6 s_saidIs]) y ?_
  rintro ⟨v1, v2⟩ x hf hb he
  show sx_G d κ 5 0 0 4 [some (.ref (a 0)), some (.int v1), some (.int v2), none, none] [] [oX5 a s_many s_windMany s_year s_saidMany s_size s_readAt s_readPeaks s_readWinds s_readNumber s_undoMany s_keptMany, ai d (a 4) 30 s_pinned, ai d (a 7) 6 s_saidOf, ai d (a 8) 6 s_saidIs]
  unfold bX5_those_4 at hf
  refine g_iload_n (pc' := 5) X dX5_those_4 rfl rfl rfl ?_
  refine g_aload_n (pc' := 6) X dX5_those_5 rfl rfl rfl ?_
  refine g_get (pc' := 9) X fl_X5_78 dX5_those_6 rfl 0 rfl rfl ?_
  refine g_icmp_ge (tgt := 87) (pc' := 12) X dX5_those_9 (by decide) rfl hf (fun hf => ?_) (fun hf => ?_)
  · exact sx_weak [false, true, false, true, true] rfl (hE87 _ (sx_ex hf he))
  · refine g_iconst (v := 1) (pc' := 13) X dX5_those_12 rfl (by decide) ?_
    refine g_istore_n (lv' := [some (.ref (a 0)), some (.int v1), some (.int v2), some (.int (1 : Int32)), none]) (pc' := 14) X dX5_those_13 rfl rfl (by decide) rfl rfl ?_
    refine g_iconst (v := 0) (pc' := 15) X dX5_those_14 rfl (by decide) ?_
    refine g_istore (lv' := [some (.ref (a 0)), some (.int v1), some (.int v2), some (.int (1 : Int32)), some (.int (0 : Int32))]) (pc' := 17) X dX5_those_15 rfl (by decide) rfl rfl ?_
    obtain ⟨y4, hy4, hf⟩ := sx_bd hf
    refine sx_weak [true, true, true, true, true] rfl (lX5_those_17 d κ a s_many s_windMany s_year s_saidMany s_size s_readAt s_readPeaks s_readWinds s_readNumber s_undoMany s_keptMany s_pinned s_saidOf s_saidIs v1 v2 X y4 ?_ 1000 ((1 : Int32), (0 : Int32)) hy4)
    rintro w5 rfl
    refine g_iload_n (pc' := 68) X dX5_those_67 rfl rfl rfl ?_
    refine g_iload_n (pc' := 69) X dX5_those_68 rfl rfl rfl ?_
    refine g_if_eq (tgt := 78) (pc' := 72) X dX5_those_69 (by decide) rfl hf (fun hf => ?_) (fun hf => ?_)
    · refine g_iconst (v := 0) (pc' := 79) X dX5_those_78 rfl (by decide) ?_
      refine g_ior (pc' := 80) X dX5_those_79 rfl ?_
      refine g_istore_nN (lv' := fun x6 => [some (.ref (a 0)), some (.int x6), some (.int v2), some (.int w5), none]) (pc' := 81) X dX5_those_80 rfl rfl (by decide) rfl (fun _ => rfl) hf (fun x6 hf => ?_)
      refine g_iinc (v := 1) (lv' := [some (.ref (a 0)), some (.int x6), some (.int (v2 + (1 : Int32))), some (.int w5), none]) (pc' := 84) X dX5_those_81 rfl rfl (by decide) (by decide) rfl rfl ?_
      refine g_goto (tgt := 4) X dX5_those_84 (by decide) ?_
      have hk := sx_bk hf hb
      exact sx_weak [true, true, true, false, true] rfl hk
    · refine g_iconst (v := 1) (pc' := 73) X dX5_those_72 rfl (by decide) ?_
      refine g_iload_n (pc' := 74) X dX5_those_73 rfl rfl rfl ?_
      refine g_ishl (pc' := 75) X dX5_those_74 rfl ?_
      refine g_goto (tgt := 79) X dX5_those_75 (by decide) ?_
      refine g_ior (pc' := 80) X dX5_those_79 rfl ?_
      refine g_istore_nN (lv' := fun x7 => [some (.ref (a 0)), some (.int x7), some (.int v2), some (.int w5), none]) (pc' := 81) X dX5_those_80 rfl rfl (by decide) rfl (fun _ => rfl) hf (fun x7 hf => ?_)
      refine g_iinc (v := 1) (lv' := [some (.ref (a 0)), some (.int x7), some (.int (v2 + (1 : Int32))), some (.int w5), none]) (pc' := 84) X dX5_those_81 rfl rfl (by decide) (by decide) rfl rfl ?_
      refine g_goto (tgt := 4) X dX5_those_84 (by decide) ?_
      have hk := sx_bk hf hb
      exact sx_weak [true, true, true, false, true] rfl hk
set_option maxHeartbeats 4000000 in
set_option maxRecDepth 100000 in
theorem ctX5_those (l : Launch) (d : sx_D) (a : Nat → Nat) (s_many : Int32) (s_windMany : Int32) (s_year : Int32) (s_saidMany : Int32) (s_size : Int32) (s_readAt : Int32) (s_readPeaks : Int32) (s_readWinds : Int32) (s_readNumber : Int32) (s_undoMany : Int32) (s_keptMany : Int32) (s_pinned : Nat → Int32) (s_saidOf : Nat → Int32) (s_saidIs : Nat → Int32) (r : Int32) (hf : fX5_those s_many s_saidMany s_pinned s_saidOf s_saidIs = some r) : sx_I l d yX5_those cX5_those 5 .int 1 [.ref (a 0)] [oX5 a s_many s_windMany s_year s_saidMany s_size s_readAt s_readPeaks s_readWinds s_readNumber s_undoMany s_keptMany, ai d (a 4) 30 s_pinned, ai d (a 7) 6 s_saidOf, ai d (a 8) 6 s_saidIs] [oX5 a s_many s_windMany s_year s_saidMany s_size s_readAt s_readPeaks s_readWinds s_readNumber s_undoMany s_keptMany, ai d (a 4) 30 s_pinned, ai d (a 7) 6 s_saidOf, ai d (a 8) 6 s_saidIs] r := by
  refine sx_I.intro (lv0 := [some (.ref (a 0)), none, none, none, none]) (by decide +kernel) (Nat.le_of_ble_eq_true rfl) rfl ?_
  intro κ X hR
  have X : sx_X d κ cX5_those 5 RX5 (sx_rm 1) := X
  unfold fX5_those at hf
  refine g_iconst (v := 0) (pc' := 1) X dX5_those_0 rfl (by decide) ?_
  refine g_istore_n (lv' := [some (.ref (a 0)), some (.int (0 : Int32)), none, none, none]) (pc' := 2) X dX5_those_1 rfl rfl (by decide) rfl rfl ?_
  refine g_iconst (v := 0) (pc' := 3) X dX5_those_2 rfl (by decide) ?_
  refine g_istore_n (lv' := [some (.ref (a 0)), some (.int (0 : Int32)), some (.int (0 : Int32)), none, none]) (pc' := 4) X dX5_those_3 rfl rfl (by decide) rfl rfl ?_
  obtain ⟨y8, hy8, hf⟩ := sx_bd hf
  refine sx_weak [true, true, true, true, true] rfl (lX5_those_4 d κ a s_many s_windMany s_year s_saidMany s_size s_readAt s_readPeaks s_readWinds s_readNumber s_undoMany s_keptMany s_pinned s_saidOf s_saidIs X y8 ?_ 1000 ((0 : Int32), (0 : Int32)) hy8)
  rintro w9 rfl
  refine g_iload_n (pc' := 88) X dX5_those_87 rfl rfl rfl ?_
  cases hf
  exact hR _ _ dX5_those_88 rfl
-- X5_which
def fX5_which (s_many : Int32) (s_saidMany : Int32) (s_pinned : Nat → Int32) (s_saidOf : Nat → Int32) (s_saidIs : Nat → Int32) : Option (Int32) :=
  (fX5_those s_many s_saidMany s_pinned s_saidOf s_saidIs).bind fun x1 =>
  some x1
set_option maxHeartbeats 4000000 in
set_option maxRecDepth 100000 in
theorem ctX5_which (l : Launch) (d : sx_D) (a : Nat → Nat) (s_many : Int32) (s_windMany : Int32) (s_year : Int32) (s_saidMany : Int32) (s_size : Int32) (s_readAt : Int32) (s_readPeaks : Int32) (s_readWinds : Int32) (s_readNumber : Int32) (s_undoMany : Int32) (s_keptMany : Int32) (s_pinned : Nat → Int32) (s_saidOf : Nat → Int32) (s_saidIs : Nat → Int32) (r : Int32) (hf : fX5_which s_many s_saidMany s_pinned s_saidOf s_saidIs = some r) : sx_I l d yX5_which cX5_which 1 .int 2 [.ref (a 0)] [oX5 a s_many s_windMany s_year s_saidMany s_size s_readAt s_readPeaks s_readWinds s_readNumber s_undoMany s_keptMany, ai d (a 4) 30 s_pinned, ai d (a 7) 6 s_saidOf, ai d (a 8) 6 s_saidIs] [oX5 a s_many s_windMany s_year s_saidMany s_size s_readAt s_readPeaks s_readWinds s_readNumber s_undoMany s_keptMany, ai d (a 4) 30 s_pinned, ai d (a 7) 6 s_saidOf, ai d (a 8) 6 s_saidIs] r := by
  refine sx_I.intro (lv0 := [some (.ref (a 0))]) (by decide +kernel) (Nat.le_of_ble_eq_true rfl) rfl ?_
  intro κ X hR
  have X : sx_X d κ cX5_which 1 RX5 (sx_rm 2) := X
  unfold fX5_which at hf
  refine g_aload_n (pc' := 1) X dX5_which_0 rfl rfl rfl ?_
  refine g_callVi0 (pc' := 4) (As := []) (b := (a 0)) (st := []) (w2 := fun x1 => [oX5 a s_many s_windMany s_year s_saidMany s_size s_readAt s_readPeaks s_readWinds s_readNumber s_undoMany s_keptMany, ai d (a 4) 30 s_pinned, ai d (a 7) 6 s_saidOf, ai d (a 8) 6 s_saidIs]) X lk_X5_222 dX5_which_1 rfl rfl rfl (Nat.le_of_ble_eq_true rfl) ⟨Nat.le_of_ble_eq_true rfl, Nat.le_of_ble_eq_true rfl, Nat.le_of_ble_eq_true rfl, Nat.le_of_ble_eq_true rfl⟩ rfl [0, 1, 2, 3] (by decide) rfl hf (fun l x1 h => ctX5_those l d a s_many s_windMany s_year s_saidMany s_size s_readAt s_readPeaks s_readWinds s_readNumber s_undoMany s_keptMany s_pinned s_saidOf s_saidIs x1 h) (fun _ => rfl) (fun _ => rfl) (fun x1 hnx1 hf => ?_)
  cases hf
  exact hR _ _ dX5_which_4 rfl
-- X5_ask
def bX5_ask_21 (s_saidMany : Int32) (s_saidOf : Nat → Int32) : (Int32 × Int32) → Option ((Int32 × Int32) ⊕ (Int32)) := fun (v3, v4) =>
  if s_saidMany ≤ v4 then
    some (.inr v3)
  else
    sx_rd s_saidOf 6 v4 fun x3 =>
    sx_lt (v3 ||| ((1 : Int32) <<< (x3 &&& 31))) fun x4 =>
    some (.inl (x4, v4 + (1 : Int32)))
def bX5_ask_75 (s_many : Int32) (s_pinned : Nat → Int32) (v2 : Int32) (v6 : Int32) : (Int32 × Int32) → Option ((Int32 × Int32) ⊕ (Int32)) := fun (v7, v8) =>
  if s_many ≤ v8 then
    some (.inr v7)
  else
    (fX5_has v2 v8).bind fun x7 =>
    if x7 = 0 then
      sx_lt (v7 + (0 : Int32)) fun x8 =>
      some (.inl (x8, v8 + (1 : Int32)))
    else
      (fX5_looks s_pinned v8).bind fun x9 =>
      (fX5_has x9 v6).bind fun x10 =>
      if x10 = 0 then
        sx_lt (v7 + (0 : Int32)) fun x11 =>
        some (.inl (x11, v8 + (1 : Int32)))
      else
        sx_lt (v7 + (1 : Int32)) fun x12 =>
        some (.inl (x12, v8 + (1 : Int32)))
def jX5_ask_172 (v5 : Int32) (v6 : Int32) (v8 : Int32) (v9 : Int32) (t0 : Int32) : Option ((Int32 × Int32 × Int32) ⊕ (Int32 × Int32)) :=
  if v9 = 0 then
    some (.inl (t0, v5, v6 + (1 : Int32)))
  else
    some (.inl (t0, v8, v6 + (1 : Int32)))
def jX5_ask_158 (v4 : Int32) (v5 : Int32) (v6 : Int32) (v8 : Int32) (t0 : Int32) : Option ((Int32 × Int32 × Int32) ⊕ (Int32 × Int32)) :=
  if t0 = 0 then
    jX5_ask_172 v5 v6 v8 t0 v4
  else
    jX5_ask_172 v5 v6 v8 t0 v6
def jX5_ask_157 (v4 : Int32) (v5 : Int32) (v6 : Int32) (v8 : Int32) : Option ((Int32 × Int32 × Int32) ⊕ (Int32 × Int32)) :=
  jX5_ask_158 v4 v5 v6 v8 (0 : Int32)
def bX5_ask_59 (s_many : Int32) (s_pinned : Nat → Int32) (v2 : Int32) (v3 : Int32) : (Int32 × Int32 × Int32) → Option ((Int32 × Int32 × Int32) ⊕ (Int32 × Int32)) := fun (v4, v5, v6) =>
  if (5 : Int32) ≤ v6 then
    some (.inr (v4, v5))
  else
    if v2 = 0 then
      some (.inr (v4, v5))
    else
      (sx_it 1000 (bX5_ask_75 s_many s_pinned v2 v6) ((0 : Int32), (0 : Int32))).bind fun w14 =>
      (fX5_bits v2).bind fun x15 =>
      (fX5_greater w14 (x15 - w14)).bind fun x16 =>
      (fX5_has v3 v6).bind fun x17 =>
      if x17 = 0 then
        if v5 ≤ x16 then
          jX5_ask_157 v4 v5 v6 x16
        else
          jX5_ask_158 v4 v5 v6 x16 (1 : Int32)
      else
        jX5_ask_157 v4 v5 v6 x16
def fX5_ask (s_many : Int32) (s_saidMany : Int32) (s_pinned : Nat → Int32) (s_saidOf : Nat → Int32) (s_saidIs : Nat → Int32) (v1 : Int32) : Option (Int32) :=
  (fX5_in v1 (0 : Int32) (1 : Int32)).bind fun x1 =>
  if x1 = 0 then
    some (-1 : Int32)
  else
    (fX5_those s_many s_saidMany s_pinned s_saidOf s_saidIs).bind fun x2 =>
    (sx_it 1000 (bX5_ask_21 s_saidMany s_saidOf) ((0 : Int32), (0 : Int32))).bind fun w6 =>
    (sx_it 1000 (bX5_ask_59 s_many s_pinned x2 w6) ((-4 : Int32), (1048576 : Int32), (0 : Int32))).bind fun (w19, w20) =>
    if w19 = (-4 : Int32) then
      some w19
    else
      if v1 = 0 then
        some w19
      else
        some w20
set_option maxHeartbeats 4000000 in
set_option maxRecDepth 100000 in
theorem lX5_ask_21 (d : sx_D) (κ : sx_C) (a : Nat → Nat) (s_many : Int32) (s_windMany : Int32) (s_year : Int32) (s_saidMany : Int32) (s_size : Int32) (s_readAt : Int32) (s_readPeaks : Int32) (s_readWinds : Int32) (s_readNumber : Int32) (s_undoMany : Int32) (s_keptMany : Int32) (s_pinned : Nat → Int32) (s_saidOf : Nat → Int32) (s_saidIs : Nat → Int32) (v1 : Int32) (v2 : Int32) (X : sx_X d κ cX5_ask 10 RX5 (sx_rm 2)) (y : Int32) (hE48 : ∀ (v3 : Int32), v3 = y → sx_G d κ 10 0 0 48 [some (.ref (a 0)), some (.int v1), some (.int v2), some (.int v3), none, none, none, none, none, none] [] [oX5 a s_many s_windMany s_year s_saidMany s_size s_readAt s_readPeaks s_readWinds s_readNumber s_undoMany s_keptMany, ai d (a 4) 30 s_pinned, ai d (a 7) 6 s_saidOf, ai d (a 8) 6 s_saidIs]) : ∀ (n : Nat) (s : Int32 × Int32), sx_it n (bX5_ask_21 s_saidMany s_saidOf) s = some y → (match s with | (v3, v4) => sx_G d κ 10 0 0 21 [some (.ref (a 0)), some (.int v1), some (.int v2), some (.int v3), some (.int v4), none, none, none, none, none] [] [oX5 a s_many s_windMany s_year s_saidMany s_size s_readAt s_readPeaks s_readWinds s_readNumber s_undoMany s_keptMany, ai d (a 4) 30 s_pinned, ai d (a 7) 6 s_saidOf, ai d (a 8) 6 s_saidIs]) := by
  refine sx_it_run (bX5_ask_21 s_saidMany s_saidOf) (fun s => match s with | (v3, v4) => sx_G d κ 10 0 0 21 [some (.ref (a 0)), some (.int v1), some (.int v2), some (.int v3), some (.int v4), none, none, none, none, none] [] [oX5 a s_many s_windMany s_year s_saidMany s_size s_readAt s_readPeaks s_readWinds s_readNumber s_undoMany s_keptMany, ai d (a 4) 30 s_pinned, ai d (a 7) 6 s_saidOf, ai d (a 8) 6 s_saidIs]) y ?_
  rintro ⟨v3, v4⟩ x hf hb he
  show sx_G d κ 10 0 0 21 [some (.ref (a 0)), some (.int v1), some (.int v2), some (.int v3), some (.int v4), none, none, none, none, none] [] [oX5 a s_many s_windMany s_year s_saidMany s_size s_readAt s_readPeaks s_readWinds s_readNumber s_undoMany s_keptMany, ai d (a 4) 30 s_pinned, ai d (a 7) 6 s_saidOf, ai d (a 8) 6 s_saidIs]
  unfold bX5_ask_21 at hf
  refine g_iload (pc' := 23) X dX5_ask_21 rfl rfl ?_
  refine g_aload_n (pc' := 24) X dX5_ask_23 rfl rfl rfl ?_
  refine g_get (pc' := 27) X fl_X5_136 dX5_ask_24 rfl 0 rfl rfl ?_
  refine g_icmp_ge (tgt := 48) (pc' := 30) X dX5_ask_27 (by decide) rfl hf (fun hf => ?_) (fun hf => ?_)
  · exact sx_weak [true, true, true, true, false, true, true, true, true, true] rfl (hE48 _ (sx_ex hf he))
  · refine g_iload_n (pc' := 31) X dX5_ask_30 rfl rfl rfl ?_
    refine g_iconst (v := 1) (pc' := 32) X dX5_ask_31 rfl (by decide) ?_
    refine g_aload_n (pc' := 33) X dX5_ask_32 rfl rfl rfl ?_
    refine g_get (pc' := 36) X fl_X5_28 dX5_ask_33 rfl 0 rfl rfl ?_
    refine g_iload (pc' := 38) X dX5_ask_36 rfl rfl ?_
    refine g_iald (pc' := 39) X dX5_ask_38 rfl 2 rfl hf (fun x3 hf => ?_)
    refine g_ishl (pc' := 40) X dX5_ask_39 rfl ?_
    refine g_ior (pc' := 41) X dX5_ask_40 rfl ?_
    refine g_istore_nN (lv' := fun x4 => [some (.ref (a 0)), some (.int v1), some (.int v2), some (.int x4), some (.int v4), none, none, none, none, none]) (pc' := 42) X dX5_ask_41 rfl rfl (by decide) rfl (fun _ => rfl) hf (fun x4 hf => ?_)
    refine g_iinc (v := 1) (lv' := [some (.ref (a 0)), some (.int v1), some (.int v2), some (.int x4), some (.int (v4 + (1 : Int32))), none, none, none, none, none]) (pc' := 45) X dX5_ask_42 rfl rfl (by decide) (by decide) rfl rfl ?_
    refine g_goto (tgt := 21) X dX5_ask_45 (by decide) ?_
    have hk := sx_bk hf hb
    exact sx_weak [true, true, true, true, true, true, true, true, true, true] rfl hk
set_option maxHeartbeats 4000000 in
set_option maxRecDepth 100000 in
theorem lX5_ask_75 (d : sx_D) (κ : sx_C) (a : Nat → Nat) (s_many : Int32) (s_windMany : Int32) (s_year : Int32) (s_saidMany : Int32) (s_size : Int32) (s_readAt : Int32) (s_readPeaks : Int32) (s_readWinds : Int32) (s_readNumber : Int32) (s_undoMany : Int32) (s_keptMany : Int32) (s_pinned : Nat → Int32) (s_saidOf : Nat → Int32) (s_saidIs : Nat → Int32) (v1 : Int32) (v2 : Int32) (v3 : Int32) (v4 : Int32) (v5 : Int32) (v6 : Int32) (X : sx_X d κ cX5_ask 10 RX5 (sx_rm 2)) (y : Int32) (hE123 : ∀ (v7 : Int32), v7 = y → sx_G d κ 10 0 0 123 [some (.ref (a 0)), some (.int v1), some (.int v2), some (.int v3), some (.int v4), some (.int v5), some (.int v6), some (.int v7), none, none] [] [oX5 a s_many s_windMany s_year s_saidMany s_size s_readAt s_readPeaks s_readWinds s_readNumber s_undoMany s_keptMany, ai d (a 4) 30 s_pinned, ai d (a 7) 6 s_saidOf, ai d (a 8) 6 s_saidIs]) : ∀ (n : Nat) (s : Int32 × Int32), sx_it n (bX5_ask_75 s_many s_pinned v2 v6) s = some y → (match s with | (v7, v8) => sx_G d κ 10 0 0 75 [some (.ref (a 0)), some (.int v1), some (.int v2), some (.int v3), some (.int v4), some (.int v5), some (.int v6), some (.int v7), some (.int v8), none] [] [oX5 a s_many s_windMany s_year s_saidMany s_size s_readAt s_readPeaks s_readWinds s_readNumber s_undoMany s_keptMany, ai d (a 4) 30 s_pinned, ai d (a 7) 6 s_saidOf, ai d (a 8) 6 s_saidIs]) := by
  refine sx_it_run (bX5_ask_75 s_many s_pinned v2 v6) (fun s => match s with | (v7, v8) => sx_G d κ 10 0 0 75 [some (.ref (a 0)), some (.int v1), some (.int v2), some (.int v3), some (.int v4), some (.int v5), some (.int v6), some (.int v7), some (.int v8), none] [] [oX5 a s_many s_windMany s_year s_saidMany s_size s_readAt s_readPeaks s_readWinds s_readNumber s_undoMany s_keptMany, ai d (a 4) 30 s_pinned, ai d (a 7) 6 s_saidOf, ai d (a 8) 6 s_saidIs]) y ?_
  rintro ⟨v7, v8⟩ x hf hb he
  show sx_G d κ 10 0 0 75 [some (.ref (a 0)), some (.int v1), some (.int v2), some (.int v3), some (.int v4), some (.int v5), some (.int v6), some (.int v7), some (.int v8), none] [] [oX5 a s_many s_windMany s_year s_saidMany s_size s_readAt s_readPeaks s_readWinds s_readNumber s_undoMany s_keptMany, ai d (a 4) 30 s_pinned, ai d (a 7) 6 s_saidOf, ai d (a 8) 6 s_saidIs]
  unfold bX5_ask_75 at hf
  refine g_iload (pc' := 77) X dX5_ask_75 rfl rfl ?_
  refine g_aload_n (pc' := 78) X dX5_ask_77 rfl rfl rfl ?_
  refine g_get (pc' := 81) X fl_X5_78 dX5_ask_78 rfl 0 rfl rfl ?_
  refine g_icmp_ge (tgt := 123) (pc' := 84) X dX5_ask_81 (by decide) rfl hf (fun hf => ?_) (fun hf => ?_)
  · exact sx_weak [true, true, true, true, true, true, true, true, false, true] rfl (hE123 _ (sx_ex hf he))
  · refine g_iload (pc' := 86) X dX5_ask_84 rfl rfl ?_
    refine g_iload_n (pc' := 87) X dX5_ask_86 rfl rfl rfl ?_
    refine g_iload (pc' := 89) X dX5_ask_87 rfl rfl ?_
    refine g_callSi0 (pc' := 92) (As := [.int v2, .int v8]) (st := [.int v7]) (w2 := fun x7 => [oX5 a s_many s_windMany s_year s_saidMany s_size s_readAt s_readPeaks s_readWinds s_readNumber s_undoMany s_keptMany, ai d (a 4) 30 s_pinned, ai d (a 7) 6 s_saidOf, ai d (a 8) 6 s_saidIs]) X lk_X5_149 dX5_ask_89 rfl rfl rfl (Nat.le_of_ble_eq_true rfl) ⟨Nat.le_of_ble_eq_true rfl, Nat.le_of_ble_eq_true rfl, Nat.le_of_ble_eq_true rfl, Nat.le_of_ble_eq_true rfl⟩ [] (by decide) rfl hf (fun l x7 h => ctX5_has l d v2 v8 x7 h) (fun _ => rfl) (fun _ => rfl) (fun x7 hnx7 hf => ?_)
    refine g_if_eq (tgt := 113) (pc' := 95) X dX5_ask_92 (by decide) rfl hf (fun hf => ?_) (fun hf => ?_)
    · refine g_iconst (v := 0) (pc' := 114) X dX5_ask_113 rfl (by decide) ?_
      refine g_iadd (pc' := 115) X dX5_ask_114 rfl ?_
      refine g_istoreN (lv' := fun x8 => [some (.ref (a 0)), some (.int v1), some (.int v2), some (.int v3), some (.int v4), some (.int v5), some (.int v6), some (.int x8), some (.int v8), none]) (pc' := 117) X dX5_ask_115 rfl (by decide) rfl (fun _ => rfl) hf (fun x8 hf => ?_)
      refine g_iinc (v := 1) (lv' := [some (.ref (a 0)), some (.int v1), some (.int v2), some (.int v3), some (.int v4), some (.int v5), some (.int v6), some (.int x8), some (.int (v8 + (1 : Int32))), none]) (pc' := 120) X dX5_ask_117 rfl rfl (by decide) (by decide) rfl rfl ?_
      refine g_goto (tgt := 75) X dX5_ask_120 (by decide) ?_
      have hk := sx_bk hf hb
      exact sx_weak [true, true, true, true, true, true, true, true, true, true] rfl hk
    · refine g_aload_n (pc' := 96) X dX5_ask_95 rfl rfl rfl ?_
      refine g_iload (pc' := 98) X dX5_ask_96 rfl rfl ?_
      refine g_callVi0 (pc' := 101) (As := [.int v8]) (b := (a 0)) (st := [.int v7]) (w2 := fun x9 => [oX5 a s_many s_windMany s_year s_saidMany s_size s_readAt s_readPeaks s_readWinds s_readNumber s_undoMany s_keptMany, ai d (a 4) 30 s_pinned, ai d (a 7) 6 s_saidOf, ai d (a 8) 6 s_saidIs]) X lk_X5_85 dX5_ask_98 rfl rfl rfl (Nat.le_of_ble_eq_true rfl) ⟨Nat.le_of_ble_eq_true rfl, Nat.le_of_ble_eq_true rfl, Nat.le_of_ble_eq_true rfl, Nat.le_of_ble_eq_true rfl⟩ rfl [0, 1] (by decide) rfl hf (fun l x9 h => ctX5_looks l d a s_many s_windMany s_year s_saidMany s_size s_readAt s_readPeaks s_readWinds s_readNumber s_undoMany s_keptMany s_pinned v8 x9 h) (fun _ => rfl) (fun _ => rfl) (fun x9 hnx9 hf => ?_)
      refine g_iload (pc' := 103) X dX5_ask_101 rfl rfl ?_
      refine g_callSi0 (pc' := 106) (As := [.int x9, .int v6]) (st := [.int v7]) (w2 := fun x10 => [oX5 a s_many s_windMany s_year s_saidMany s_size s_readAt s_readPeaks s_readWinds s_readNumber s_undoMany s_keptMany, ai d (a 4) 30 s_pinned, ai d (a 7) 6 s_saidOf, ai d (a 8) 6 s_saidIs]) X lk_X5_149 dX5_ask_103 rfl rfl rfl (Nat.le_of_ble_eq_true rfl) ⟨Nat.le_of_ble_eq_true rfl, Nat.le_of_ble_eq_true rfl, Nat.le_of_ble_eq_true rfl, Nat.le_of_ble_eq_true rfl⟩ [] (by decide) rfl hf (fun l x10 h => ctX5_has l d x9 v6 x10 h) (fun _ => rfl) (fun _ => rfl) (fun x10 hnx10 hf => ?_)
      refine g_if_eq (tgt := 113) (pc' := 109) X dX5_ask_106 (by decide) rfl hf (fun hf => ?_) (fun hf => ?_)
      · refine g_iconst (v := 0) (pc' := 114) X dX5_ask_113 rfl (by decide) ?_
        refine g_iadd (pc' := 115) X dX5_ask_114 rfl ?_
        refine g_istoreN (lv' := fun x11 => [some (.ref (a 0)), some (.int v1), some (.int v2), some (.int v3), some (.int v4), some (.int v5), some (.int v6), some (.int x11), some (.int v8), none]) (pc' := 117) X dX5_ask_115 rfl (by decide) rfl (fun _ => rfl) hf (fun x11 hf => ?_)
        refine g_iinc (v := 1) (lv' := [some (.ref (a 0)), some (.int v1), some (.int v2), some (.int v3), some (.int v4), some (.int v5), some (.int v6), some (.int x11), some (.int (v8 + (1 : Int32))), none]) (pc' := 120) X dX5_ask_117 rfl rfl (by decide) (by decide) rfl rfl ?_
        refine g_goto (tgt := 75) X dX5_ask_120 (by decide) ?_
        have hk := sx_bk hf hb
        exact sx_weak [true, true, true, true, true, true, true, true, true, true] rfl hk
      · refine g_iconst (v := 1) (pc' := 110) X dX5_ask_109 rfl (by decide) ?_
        refine g_goto (tgt := 114) X dX5_ask_110 (by decide) ?_
        refine g_iadd (pc' := 115) X dX5_ask_114 rfl ?_
        refine g_istoreN (lv' := fun x12 => [some (.ref (a 0)), some (.int v1), some (.int v2), some (.int v3), some (.int v4), some (.int v5), some (.int v6), some (.int x12), some (.int v8), none]) (pc' := 117) X dX5_ask_115 rfl (by decide) rfl (fun _ => rfl) hf (fun x12 hf => ?_)
        refine g_iinc (v := 1) (lv' := [some (.ref (a 0)), some (.int v1), some (.int v2), some (.int v3), some (.int v4), some (.int v5), some (.int v6), some (.int x12), some (.int (v8 + (1 : Int32))), none]) (pc' := 120) X dX5_ask_117 rfl rfl (by decide) (by decide) rfl rfl ?_
        refine g_goto (tgt := 75) X dX5_ask_120 (by decide) ?_
        have hk := sx_bk hf hb
        exact sx_weak [true, true, true, true, true, true, true, true, true, true] rfl hk
set_option maxHeartbeats 4000000 in
set_option maxRecDepth 100000 in
theorem lX5_ask_59 (d : sx_D) (κ : sx_C) (a : Nat → Nat) (s_many : Int32) (s_windMany : Int32) (s_year : Int32) (s_saidMany : Int32) (s_size : Int32) (s_readAt : Int32) (s_readPeaks : Int32) (s_readWinds : Int32) (s_readNumber : Int32) (s_undoMany : Int32) (s_keptMany : Int32) (s_pinned : Nat → Int32) (s_saidOf : Nat → Int32) (s_saidIs : Nat → Int32) (v1 : Int32) (v2 : Int32) (v3 : Int32) (X : sx_X d κ cX5_ask 10 RX5 (sx_rm 2)) (y : Int32 × Int32) (hE194 : ∀ (v4 : Int32) (v5 : Int32), (v4, v5) = y → sx_G d κ 10 0 0 194 [none, some (.int v1), none, none, some (.int v4), some (.int v5), none, none, none, none] [] [oX5 a s_many s_windMany s_year s_saidMany s_size s_readAt s_readPeaks s_readWinds s_readNumber s_undoMany s_keptMany, ai d (a 4) 30 s_pinned, ai d (a 7) 6 s_saidOf, ai d (a 8) 6 s_saidIs]) : ∀ (n : Nat) (s : Int32 × Int32 × Int32), sx_it n (bX5_ask_59 s_many s_pinned v2 v3) s = some y → (match s with | (v4, v5, v6) => sx_G d κ 10 0 0 59 [some (.ref (a 0)), some (.int v1), some (.int v2), some (.int v3), some (.int v4), some (.int v5), some (.int v6), none, none, none] [] [oX5 a s_many s_windMany s_year s_saidMany s_size s_readAt s_readPeaks s_readWinds s_readNumber s_undoMany s_keptMany, ai d (a 4) 30 s_pinned, ai d (a 7) 6 s_saidOf, ai d (a 8) 6 s_saidIs]) := by
  refine sx_it_run (bX5_ask_59 s_many s_pinned v2 v3) (fun s => match s with | (v4, v5, v6) => sx_G d κ 10 0 0 59 [some (.ref (a 0)), some (.int v1), some (.int v2), some (.int v3), some (.int v4), some (.int v5), some (.int v6), none, none, none] [] [oX5 a s_many s_windMany s_year s_saidMany s_size s_readAt s_readPeaks s_readWinds s_readNumber s_undoMany s_keptMany, ai d (a 4) 30 s_pinned, ai d (a 7) 6 s_saidOf, ai d (a 8) 6 s_saidIs]) y ?_
  rintro ⟨v4, v5, v6⟩ x hf hb he
  show sx_G d κ 10 0 0 59 [some (.ref (a 0)), some (.int v1), some (.int v2), some (.int v3), some (.int v4), some (.int v5), some (.int v6), none, none, none] [] [oX5 a s_many s_windMany s_year s_saidMany s_size s_readAt s_readPeaks s_readWinds s_readNumber s_undoMany s_keptMany, ai d (a 4) 30 s_pinned, ai d (a 7) 6 s_saidOf, ai d (a 8) 6 s_saidIs]
  unfold bX5_ask_59 at hf
  refine g_iload (pc' := 61) X dX5_ask_59 rfl rfl ?_
  refine g_iconst (v := 5) (pc' := 62) X dX5_ask_61 rfl (by decide) ?_
  refine g_icmp_ge (tgt := 194) (pc' := 65) X dX5_ask_62 (by decide) rfl hf (fun hf => ?_) (fun hf => ?_)
  · exact sx_weak [false, true, false, false, true, true, false, true, true, true] rfl (hE194 _ _ (sx_ex hf he))
  · refine g_iload_n (pc' := 66) X dX5_ask_65 rfl rfl rfl ?_
    refine g_if_eq (tgt := 194) (pc' := 69) X dX5_ask_66 (by decide) rfl hf (fun hf => ?_) (fun hf => ?_)
    · exact sx_weak [false, true, false, false, true, true, false, true, true, true] rfl (hE194 _ _ (sx_ex hf he))
    · refine g_iconst (v := 0) (pc' := 70) X dX5_ask_69 rfl (by decide) ?_
      refine g_istore (lv' := [some (.ref (a 0)), some (.int v1), some (.int v2), some (.int v3), some (.int v4), some (.int v5), some (.int v6), some (.int (0 : Int32)), none, none]) (pc' := 72) X dX5_ask_70 rfl (by decide) rfl rfl ?_
      refine g_iconst (v := 0) (pc' := 73) X dX5_ask_72 rfl (by decide) ?_
      refine g_istore (lv' := [some (.ref (a 0)), some (.int v1), some (.int v2), some (.int v3), some (.int v4), some (.int v5), some (.int v6), some (.int (0 : Int32)), some (.int (0 : Int32)), none]) (pc' := 75) X dX5_ask_73 rfl (by decide) rfl rfl ?_
      obtain ⟨y13, hy13, hf⟩ := sx_bd hf
      refine sx_weak [true, true, true, true, true, true, true, true, true, true] rfl (lX5_ask_75 d κ a s_many s_windMany s_year s_saidMany s_size s_readAt s_readPeaks s_readWinds s_readNumber s_undoMany s_keptMany s_pinned s_saidOf s_saidIs v1 v2 v3 v4 v5 v6 X y13 ?_ 1000 ((0 : Int32), (0 : Int32)) hy13)
      rintro w14 rfl
      refine g_iload (pc' := 125) X dX5_ask_123 rfl rfl ?_
      refine g_iload_n (pc' := 126) X dX5_ask_125 rfl rfl rfl ?_
      refine g_callSi0 (pc' := 129) (As := [.int v2]) (st := [.int w14]) (w2 := fun x15 => [oX5 a s_many s_windMany s_year s_saidMany s_size s_readAt s_readPeaks s_readWinds s_readNumber s_undoMany s_keptMany, ai d (a 4) 30 s_pinned, ai d (a 7) 6 s_saidOf, ai d (a 8) 6 s_saidIs]) X lk_X5_213 dX5_ask_126 rfl rfl rfl (Nat.le_of_ble_eq_true rfl) ⟨Nat.le_of_ble_eq_true rfl, Nat.le_of_ble_eq_true rfl, Nat.le_of_ble_eq_true rfl, Nat.le_of_ble_eq_true rfl⟩ [] (by decide) rfl hf (fun l x15 h => ctX5_bits l d v2 x15 h) (fun _ => rfl) (fun _ => rfl) (fun x15 hnx15 hf => ?_)
      refine g_iload (pc' := 131) X dX5_ask_129 rfl rfl ?_
      refine g_isub (pc' := 132) X dX5_ask_131 rfl ?_
      refine g_callSi0 (pc' := 135) (As := [.int w14, .int (x15 - w14)]) (st := []) (w2 := fun x16 => [oX5 a s_many s_windMany s_year s_saidMany s_size s_readAt s_readPeaks s_readWinds s_readNumber s_undoMany s_keptMany, ai d (a 4) 30 s_pinned, ai d (a 7) 6 s_saidOf, ai d (a 8) 6 s_saidIs]) X lk_X5_145 dX5_ask_132 rfl rfl rfl (Nat.le_of_ble_eq_true rfl) ⟨Nat.le_of_ble_eq_true rfl, Nat.le_of_ble_eq_true rfl, Nat.le_of_ble_eq_true rfl, Nat.le_of_ble_eq_true rfl⟩ [] (by decide) rfl hf (fun l x16 h => ctX5_greater l d w14 (x15 - w14) x16 h) (fun _ => rfl) (fun _ => rfl) (fun x16 hnx16 hf => ?_)
      refine g_istore (lv' := [some (.ref (a 0)), some (.int v1), some (.int v2), some (.int v3), some (.int v4), some (.int v5), some (.int v6), some (.int w14), some (.int x16), none]) (pc' := 137) X dX5_ask_135 rfl (by decide) rfl rfl ?_
      refine g_iload_n (pc' := 138) X dX5_ask_137 rfl rfl rfl ?_
      refine g_iload (pc' := 140) X dX5_ask_138 rfl rfl ?_
      refine g_callSi0 (pc' := 143) (As := [.int v3, .int v6]) (st := []) (w2 := fun x17 => [oX5 a s_many s_windMany s_year s_saidMany s_size s_readAt s_readPeaks s_readWinds s_readNumber s_undoMany s_keptMany, ai d (a 4) 30 s_pinned, ai d (a 7) 6 s_saidOf, ai d (a 8) 6 s_saidIs]) X lk_X5_149 dX5_ask_140 rfl rfl rfl (Nat.le_of_ble_eq_true rfl) ⟨Nat.le_of_ble_eq_true rfl, Nat.le_of_ble_eq_true rfl, Nat.le_of_ble_eq_true rfl, Nat.le_of_ble_eq_true rfl⟩ [] (by decide) rfl hf (fun l x17 h => ctX5_has l d v3 v6 x17 h) (fun _ => rfl) (fun _ => rfl) (fun x17 hnx17 hf => ?_)
      have hjX5_ask_158 : ∀ (v4 : Int32) (v5 : Int32) (v6 : Int32) (v8 : Int32) (t0 : Int32), jX5_ask_158 v4 v5 v6 v8 t0 = some x → sx_G d κ 10 0 0 158 [some (.ref (a 0)), some (.int v1), some (.int v2), some (.int v3), some (.int v4), some (.int v5), some (.int v6), none, some (.int v8), none] [.int t0] [oX5 a s_many s_windMany s_year s_saidMany s_size s_readAt s_readPeaks s_readWinds s_readNumber s_undoMany s_keptMany, ai d (a 4) 30 s_pinned, ai d (a 7) 6 s_saidOf, ai d (a 8) 6 s_saidIs] := by
        intro v4 v5 v6 v8 t0 hf
        unfold jX5_ask_158 at hf
        refine g_istore (lv' := [some (.ref (a 0)), some (.int v1), some (.int v2), some (.int v3), some (.int v4), some (.int v5), some (.int v6), none, some (.int v8), some (.int t0)]) (pc' := 160) X dX5_ask_158 rfl (by decide) rfl rfl ?_
        refine g_iload (pc' := 162) X dX5_ask_160 rfl rfl ?_
        have hjX5_ask_172 : ∀ (v5 : Int32) (v6 : Int32) (v8 : Int32) (v9 : Int32) (t0 : Int32), jX5_ask_172 v5 v6 v8 v9 t0 = some x → sx_G d κ 10 0 0 172 [some (.ref (a 0)), some (.int v1), some (.int v2), some (.int v3), none, some (.int v5), some (.int v6), none, some (.int v8), some (.int v9)] [.int t0] [oX5 a s_many s_windMany s_year s_saidMany s_size s_readAt s_readPeaks s_readWinds s_readNumber s_undoMany s_keptMany, ai d (a 4) 30 s_pinned, ai d (a 7) 6 s_saidOf, ai d (a 8) 6 s_saidIs] := by
          intro v5 v6 v8 v9 t0 hf
          unfold jX5_ask_172 at hf
          refine g_istore (lv' := [some (.ref (a 0)), some (.int v1), some (.int v2), some (.int v3), some (.int t0), some (.int v5), some (.int v6), none, some (.int v8), some (.int v9)]) (pc' := 174) X dX5_ask_172 rfl (by decide) rfl rfl ?_
          refine g_iload (pc' := 176) X dX5_ask_174 rfl rfl ?_
          refine g_if_eq (tgt := 184) (pc' := 179) X dX5_ask_176 (by decide) rfl hf (fun hf => ?_) (fun hf => ?_)
          · refine g_iload (pc' := 186) X dX5_ask_184 rfl rfl ?_
            refine g_istore (lv' := [some (.ref (a 0)), some (.int v1), some (.int v2), some (.int v3), some (.int t0), some (.int v5), some (.int v6), none, some (.int v8), some (.int v9)]) (pc' := 188) X dX5_ask_186 rfl (by decide) rfl rfl ?_
            refine g_iinc (v := 1) (lv' := [some (.ref (a 0)), some (.int v1), some (.int v2), some (.int v3), some (.int t0), some (.int v5), some (.int (v6 + (1 : Int32))), none, some (.int v8), some (.int v9)]) (pc' := 191) X dX5_ask_188 rfl rfl (by decide) (by decide) rfl rfl ?_
            refine g_goto (tgt := 59) X dX5_ask_191 (by decide) ?_
            have hk := sx_bk hf hb
            exact sx_weak [true, true, true, true, true, true, true, true, false, false] rfl hk
          · refine g_iload (pc' := 181) X dX5_ask_179 rfl rfl ?_
            refine g_goto (tgt := 186) X dX5_ask_181 (by decide) ?_
            refine g_istore (lv' := [some (.ref (a 0)), some (.int v1), some (.int v2), some (.int v3), some (.int t0), some (.int v8), some (.int v6), none, some (.int v8), some (.int v9)]) (pc' := 188) X dX5_ask_186 rfl (by decide) rfl rfl ?_
            refine g_iinc (v := 1) (lv' := [some (.ref (a 0)), some (.int v1), some (.int v2), some (.int v3), some (.int t0), some (.int v8), some (.int (v6 + (1 : Int32))), none, some (.int v8), some (.int v9)]) (pc' := 191) X dX5_ask_188 rfl rfl (by decide) (by decide) rfl rfl ?_
            refine g_goto (tgt := 59) X dX5_ask_191 (by decide) ?_
            have hk := sx_bk hf hb
            exact sx_weak [true, true, true, true, true, true, true, true, false, false] rfl hk
        refine g_if_eq (tgt := 170) (pc' := 165) X dX5_ask_162 (by decide) rfl hf (fun hf => ?_) (fun hf => ?_)
        · refine g_iload (pc' := 172) X dX5_ask_170 rfl rfl ?_
          exact sx_weak [true, true, true, true, false, true, true, true, true, true] rfl (hjX5_ask_172 v5 v6 v8 t0 v4 hf)
        · refine g_iload (pc' := 167) X dX5_ask_165 rfl rfl ?_
          refine g_goto (tgt := 172) X dX5_ask_167 (by decide) ?_
          exact sx_weak [true, true, true, true, false, true, true, true, true, true] rfl (hjX5_ask_172 v5 v6 v8 t0 v6 hf)
      have hjX5_ask_157 : ∀ (v4 : Int32) (v5 : Int32) (v6 : Int32) (v8 : Int32), jX5_ask_157 v4 v5 v6 v8 = some x → sx_G d κ 10 0 0 157 [some (.ref (a 0)), some (.int v1), some (.int v2), some (.int v3), some (.int v4), some (.int v5), some (.int v6), none, some (.int v8), none] [] [oX5 a s_many s_windMany s_year s_saidMany s_size s_readAt s_readPeaks s_readWinds s_readNumber s_undoMany s_keptMany, ai d (a 4) 30 s_pinned, ai d (a 7) 6 s_saidOf, ai d (a 8) 6 s_saidIs] := by
        intro v4 v5 v6 v8 hf
        unfold jX5_ask_157 at hf
        refine g_iconst (v := 0) (pc' := 158) X dX5_ask_157 rfl (by decide) ?_
        exact sx_weak [true, true, true, true, true, true, true, true, true, true] rfl (hjX5_ask_158 v4 v5 v6 v8 (0 : Int32) hf)
      refine g_if_ne (tgt := 157) (pc' := 146) X dX5_ask_143 (by decide) rfl hf (fun hf => ?_) (fun hf => ?_)
      · exact sx_weak [true, true, true, true, true, true, true, false, true, true] rfl (hjX5_ask_157 v4 v5 v6 x16 hf)
      · refine g_iload (pc' := 148) X dX5_ask_146 rfl rfl ?_
        refine g_iload (pc' := 150) X dX5_ask_148 rfl rfl ?_
        refine g_icmp_ge (tgt := 157) (pc' := 153) X dX5_ask_150 (by decide) rfl hf (fun hf => ?_) (fun hf => ?_)
        · exact sx_weak [true, true, true, true, true, true, true, false, true, true] rfl (hjX5_ask_157 v4 v5 v6 x16 hf)
        · refine g_iconst (v := 1) (pc' := 154) X dX5_ask_153 rfl (by decide) ?_
          refine g_goto (tgt := 158) X dX5_ask_154 (by decide) ?_
          exact sx_weak [true, true, true, true, true, true, true, false, true, true] rfl (hjX5_ask_158 v4 v5 v6 x16 (1 : Int32) hf)
set_option maxHeartbeats 4000000 in
set_option maxRecDepth 100000 in
theorem ctX5_ask (l : Launch) (d : sx_D) (a : Nat → Nat) (s_many : Int32) (s_windMany : Int32) (s_year : Int32) (s_saidMany : Int32) (s_size : Int32) (s_readAt : Int32) (s_readPeaks : Int32) (s_readWinds : Int32) (s_readNumber : Int32) (s_undoMany : Int32) (s_keptMany : Int32) (s_pinned : Nat → Int32) (s_saidOf : Nat → Int32) (s_saidIs : Nat → Int32) (v1 : Int32) (r : Int32) (hf : fX5_ask s_many s_saidMany s_pinned s_saidOf s_saidIs v1 = some r) : sx_I l d yX5_ask cX5_ask 10 .int 2 [.ref (a 0), .int v1] [oX5 a s_many s_windMany s_year s_saidMany s_size s_readAt s_readPeaks s_readWinds s_readNumber s_undoMany s_keptMany, ai d (a 4) 30 s_pinned, ai d (a 7) 6 s_saidOf, ai d (a 8) 6 s_saidIs] [oX5 a s_many s_windMany s_year s_saidMany s_size s_readAt s_readPeaks s_readWinds s_readNumber s_undoMany s_keptMany, ai d (a 4) 30 s_pinned, ai d (a 7) 6 s_saidOf, ai d (a 8) 6 s_saidIs] r := by
  refine sx_I.intro (lv0 := [some (.ref (a 0)), some (.int v1), none, none, none, none, none, none, none, none]) (by decide +kernel) (Nat.le_of_ble_eq_true rfl) rfl ?_
  intro κ X hR
  have X : sx_X d κ cX5_ask 10 RX5 (sx_rm 2) := X
  unfold fX5_ask at hf
  refine g_iload_n (pc' := 1) X dX5_ask_0 rfl rfl rfl ?_
  refine g_iconst (v := 0) (pc' := 2) X dX5_ask_1 rfl (by decide) ?_
  refine g_iconst (v := 1) (pc' := 3) X dX5_ask_2 rfl (by decide) ?_
  refine g_callSi0 (pc' := 6) (As := [.int v1, .int (0 : Int32), .int (1 : Int32)]) (st := []) (w2 := fun x1 => [oX5 a s_many s_windMany s_year s_saidMany s_size s_readAt s_readPeaks s_readWinds s_readNumber s_undoMany s_keptMany, ai d (a 4) 30 s_pinned, ai d (a 7) 6 s_saidOf, ai d (a 8) 6 s_saidIs]) X lk_X5_81 dX5_ask_3 rfl rfl rfl (Nat.le_of_ble_eq_true rfl) ⟨Nat.le_of_ble_eq_true rfl, Nat.le_of_ble_eq_true rfl, Nat.le_of_ble_eq_true rfl, Nat.le_of_ble_eq_true rfl⟩ [] (by decide) rfl hf (fun l x1 h => ctX5_in l d v1 (0 : Int32) (1 : Int32) x1 h) (fun _ => rfl) (fun _ => rfl) (fun x1 hnx1 hf => ?_)
  refine g_if_ne (tgt := 11) (pc' := 9) X dX5_ask_6 (by decide) rfl hf (fun hf => ?_) (fun hf => ?_)
  · refine g_aload_n (pc' := 12) X dX5_ask_11 rfl rfl rfl ?_
    refine g_callVi0 (pc' := 15) (As := []) (b := (a 0)) (st := []) (w2 := fun x2 => [oX5 a s_many s_windMany s_year s_saidMany s_size s_readAt s_readPeaks s_readWinds s_readNumber s_undoMany s_keptMany, ai d (a 4) 30 s_pinned, ai d (a 7) 6 s_saidOf, ai d (a 8) 6 s_saidIs]) X lk_X5_222 dX5_ask_12 rfl rfl rfl (Nat.le_of_ble_eq_true rfl) ⟨Nat.le_of_ble_eq_true rfl, Nat.le_of_ble_eq_true rfl, Nat.le_of_ble_eq_true rfl, Nat.le_of_ble_eq_true rfl⟩ rfl [0, 1, 2, 3] (by decide) rfl hf (fun l x2 h => ctX5_those l d a s_many s_windMany s_year s_saidMany s_size s_readAt s_readPeaks s_readWinds s_readNumber s_undoMany s_keptMany s_pinned s_saidOf s_saidIs x2 h) (fun _ => rfl) (fun _ => rfl) (fun x2 hnx2 hf => ?_)
    refine g_istore_n (lv' := [some (.ref (a 0)), some (.int v1), some (.int x2), none, none, none, none, none, none, none]) (pc' := 16) X dX5_ask_15 rfl rfl (by decide) rfl rfl ?_
    refine g_iconst (v := 0) (pc' := 17) X dX5_ask_16 rfl (by decide) ?_
    refine g_istore_n (lv' := [some (.ref (a 0)), some (.int v1), some (.int x2), some (.int (0 : Int32)), none, none, none, none, none, none]) (pc' := 18) X dX5_ask_17 rfl rfl (by decide) rfl rfl ?_
    refine g_iconst (v := 0) (pc' := 19) X dX5_ask_18 rfl (by decide) ?_
    refine g_istore (lv' := [some (.ref (a 0)), some (.int v1), some (.int x2), some (.int (0 : Int32)), some (.int (0 : Int32)), none, none, none, none, none]) (pc' := 21) X dX5_ask_19 rfl (by decide) rfl rfl ?_
    obtain ⟨y5, hy5, hf⟩ := sx_bd hf
    refine sx_weak [true, true, true, true, true, true, true, true, true, true] rfl (lX5_ask_21 d κ a s_many s_windMany s_year s_saidMany s_size s_readAt s_readPeaks s_readWinds s_readNumber s_undoMany s_keptMany s_pinned s_saidOf s_saidIs v1 x2 X y5 ?_ 1000 ((0 : Int32), (0 : Int32)) hy5)
    rintro w6 rfl
    refine g_bipush (v := -4) (pc' := 50) X dX5_ask_48 rfl (by decide) ?_
    refine g_istore (lv' := [some (.ref (a 0)), some (.int v1), some (.int x2), some (.int w6), some (.int (-4 : Int32)), none, none, none, none, none]) (pc' := 52) X dX5_ask_50 rfl (by decide) rfl rfl ?_
    refine g_ldc (v := 1048576) (pc' := 54) X dX5_ask_52 rfl cs_X5_212 ?_
    refine g_istore (lv' := [some (.ref (a 0)), some (.int v1), some (.int x2), some (.int w6), some (.int (-4 : Int32)), some (.int (1048576 : Int32)), none, none, none, none]) (pc' := 56) X dX5_ask_54 rfl (by decide) rfl rfl ?_
    refine g_iconst (v := 0) (pc' := 57) X dX5_ask_56 rfl (by decide) ?_
    refine g_istore (lv' := [some (.ref (a 0)), some (.int v1), some (.int x2), some (.int w6), some (.int (-4 : Int32)), some (.int (1048576 : Int32)), some (.int (0 : Int32)), none, none, none]) (pc' := 59) X dX5_ask_57 rfl (by decide) rfl rfl ?_
    obtain ⟨y18, hy18, hf⟩ := sx_bd hf
    refine sx_weak [true, true, true, true, true, true, true, true, true, true] rfl (lX5_ask_59 d κ a s_many s_windMany s_year s_saidMany s_size s_readAt s_readPeaks s_readWinds s_readNumber s_undoMany s_keptMany s_pinned s_saidOf s_saidIs v1 x2 w6 X y18 ?_ 1000 ((-4 : Int32), (1048576 : Int32), (0 : Int32)) hy18)
    rintro w19 w20 rfl
    refine g_iload (pc' := 196) X dX5_ask_194 rfl rfl ?_
    refine g_bipush (v := -4) (pc' := 198) X dX5_ask_196 rfl (by decide) ?_
    refine g_icmp_eq (tgt := 205) (pc' := 201) X dX5_ask_198 (by decide) rfl hf (fun hf => ?_) (fun hf => ?_)
    · refine g_iload (pc' := 207) X dX5_ask_205 rfl rfl ?_
      refine g_goto (tgt := 212) X dX5_ask_207 (by decide) ?_
      cases hf
      exact hR _ _ dX5_ask_212 rfl
    · refine g_iload_n (pc' := 202) X dX5_ask_201 rfl rfl rfl ?_
      refine g_if_ne (tgt := 210) (pc' := 205) X dX5_ask_202 (by decide) rfl hf (fun hf => ?_) (fun hf => ?_)
      · refine g_iload (pc' := 212) X dX5_ask_210 rfl rfl ?_
        cases hf
        exact hR _ _ dX5_ask_212 rfl
      · refine g_iload (pc' := 207) X dX5_ask_205 rfl rfl ?_
        refine g_goto (tgt := 212) X dX5_ask_207 (by decide) ?_
        cases hf
        exact hR _ _ dX5_ask_212 rfl
  · refine g_iconst (v := -1) (pc' := 10) X dX5_ask_9 rfl (by decide) ?_
    cases hf
    exact hR _ _ dX5_ask_10 rfl
-- X5_mayHave
def fX5_mayHave (s_pinned : Nat → Int32) (s_guides : Nat → Int32) (v1 : Int32) (v2 : Int32) : Option (Int32) :=
  (fX5_looks s_pinned v1).bind fun x1 =>
  sx_rd s_guides 6 v2 fun x2 =>
  if (x1 &&& (x2 ^^^ (-1 : Int32))) = 0 then
    some (1 : Int32)
  else
    some (0 : Int32)
set_option maxHeartbeats 4000000 in
set_option maxRecDepth 100000 in
theorem ctX5_mayHave (l : Launch) (d : sx_D) (a : Nat → Nat) (s_many : Int32) (s_windMany : Int32) (s_year : Int32) (s_saidMany : Int32) (s_size : Int32) (s_readAt : Int32) (s_readPeaks : Int32) (s_readWinds : Int32) (s_readNumber : Int32) (s_undoMany : Int32) (s_keptMany : Int32) (s_pinned : Nat → Int32) (s_guides : Nat → Int32) (v1 : Int32) (v2 : Int32) (r : Int32) (hf : fX5_mayHave s_pinned s_guides v1 v2 = some r) : sx_I l d yX5_mayHave cX5_mayHave 3 .boolean 1 [.ref (a 0), .int v1, .int v2] [oX5 a s_many s_windMany s_year s_saidMany s_size s_readAt s_readPeaks s_readWinds s_readNumber s_undoMany s_keptMany, ai d (a 4) 30 s_pinned, ai d (a 6) 6 s_guides] [oX5 a s_many s_windMany s_year s_saidMany s_size s_readAt s_readPeaks s_readWinds s_readNumber s_undoMany s_keptMany, ai d (a 4) 30 s_pinned, ai d (a 6) 6 s_guides] r := by
  refine sx_I.intro (lv0 := [some (.ref (a 0)), some (.int v1), some (.int v2)]) (by decide +kernel) (Nat.le_of_ble_eq_true rfl) rfl ?_
  intro κ X hR
  have X : sx_X d κ cX5_mayHave 3 RX5 (sx_rm 1) := X
  unfold fX5_mayHave at hf
  refine g_aload_n (pc' := 1) X dX5_mayHave_0 rfl rfl rfl ?_
  refine g_iload_n (pc' := 2) X dX5_mayHave_1 rfl rfl rfl ?_
  refine g_callVi0 (pc' := 5) (As := [.int v1]) (b := (a 0)) (st := []) (w2 := fun x1 => [oX5 a s_many s_windMany s_year s_saidMany s_size s_readAt s_readPeaks s_readWinds s_readNumber s_undoMany s_keptMany, ai d (a 4) 30 s_pinned, ai d (a 6) 6 s_guides]) X lk_X5_85 dX5_mayHave_2 rfl rfl rfl (Nat.le_of_ble_eq_true rfl) ⟨Nat.le_of_ble_eq_true rfl, Nat.le_of_ble_eq_true rfl, Nat.le_of_ble_eq_true rfl, Nat.le_of_ble_eq_true rfl⟩ rfl [0, 1] (by decide) rfl hf (fun l x1 h => ctX5_looks l d a s_many s_windMany s_year s_saidMany s_size s_readAt s_readPeaks s_readWinds s_readNumber s_undoMany s_keptMany s_pinned v1 x1 h) (fun _ => rfl) (fun _ => rfl) (fun x1 hnx1 hf => ?_)
  refine g_aload_n (pc' := 6) X dX5_mayHave_5 rfl rfl rfl ?_
  refine g_get (pc' := 9) X fl_X5_25 dX5_mayHave_6 rfl 0 rfl rfl ?_
  refine g_iload_n (pc' := 10) X dX5_mayHave_9 rfl rfl rfl ?_
  refine g_iald (pc' := 11) X dX5_mayHave_10 rfl 2 rfl hf (fun x2 hf => ?_)
  refine g_iconst (v := -1) (pc' := 12) X dX5_mayHave_11 rfl (by decide) ?_
  refine g_ixor (pc' := 13) X dX5_mayHave_12 rfl ?_
  refine g_iand (pc' := 14) X dX5_mayHave_13 rfl ?_
  refine g_if_ne (tgt := 21) (pc' := 17) X dX5_mayHave_14 (by decide) rfl hf (fun hf => ?_) (fun hf => ?_)
  · refine g_iconst (v := 0) (pc' := 22) X dX5_mayHave_21 rfl (by decide) ?_
    cases hf
    exact hR _ _ dX5_mayHave_22 rfl
  · refine g_iconst (v := 1) (pc' := 18) X dX5_mayHave_17 rfl (by decide) ?_
    refine g_goto (tgt := 22) X dX5_mayHave_18 (by decide) ?_
    cases hf
    exact hR _ _ dX5_mayHave_22 rfl
-- X5_setWays
def bX5_setWays_39 (s_many : Int32) (s_pinned : Nat → Int32) (s_guides : Nat → Int32) (v2 : Int32) (v3 : Int32) : (Int32 × (Nat → Int32)) → Option ((Int32 × (Nat → Int32)) ⊕ ((Nat → Int32))) := fun (v4, s_ways) =>
  if s_many ≤ v4 then
    some (.inr s_ways)
  else
    sx_rd s_ways 64 v2 fun x6 =>
    (fX5_has v2 v4).bind fun x7 =>
    if x7 = 0 then
      (fX5_mayHave s_pinned s_guides v3 v4).bind fun x9 =>
      if x9 = 0 then
        sx_wr s_ways 64 v2 (x6 + (0 : Int32)) fun g10 =>
        some (.inl (v4 + (1 : Int32), g10))
      else
        sx_rd s_ways 64 (v2 ||| ((1 : Int32) <<< (v4 &&& 31))) fun x11 =>
        sx_wr s_ways 64 v2 (x6 + x11) fun g12 =>
        some (.inl (v4 + (1 : Int32), g12))
    else
      sx_wr s_ways 64 v2 (x6 + (0 : Int32)) fun g8 =>
      some (.inl (v4 + (1 : Int32), g8))
def bX5_setWays_20 (s_many : Int32) (s_pinned : Nat → Int32) (s_guides : Nat → Int32) : (Int32 × (Nat → Int32)) → Option ((Int32 × (Nat → Int32)) ⊕ ((Nat → Int32))) := fun (v2, s_ways) =>
  if v2 < 0 then
    some (.inr s_ways)
  else
    (fX5_bits v2).bind fun x4 =>
    sx_wr s_ways 64 v2 (0 : Int32) fun g5 =>
    (sx_it 1000 (bX5_setWays_39 s_many s_pinned s_guides v2 x4) ((0 : Int32), g5)).bind fun w14 =>
    some (.inl (v2 + (-1 : Int32), w14))
def fX5_setWays (s_many : Int32) (s_pinned : Nat → Int32) (s_guides : Nat → Int32) (s_ways : Nat → Int32) : Option ((Nat → Int32)) :=
  sx_lt (((1 : Int32) <<< (s_many &&& 31)) - (1 : Int32)) fun x1 =>
  sx_wr s_ways 64 x1 (1 : Int32) fun g2 =>
  sx_lt (x1 - (1 : Int32)) fun x3 =>
  (sx_it 1000 (bX5_setWays_20 s_many s_pinned s_guides) (x3, g2)).bind fun w16 =>
  some w16
set_option maxHeartbeats 4000000 in
set_option maxRecDepth 100000 in
theorem lX5_setWays_39 (d : sx_D) (κ : sx_C) (a : Nat → Nat) (s_many : Int32) (s_windMany : Int32) (s_year : Int32) (s_saidMany : Int32) (s_size : Int32) (s_readAt : Int32) (s_readPeaks : Int32) (s_readWinds : Int32) (s_readNumber : Int32) (s_undoMany : Int32) (s_keptMany : Int32) (s_pinned : Nat → Int32) (s_guides : Nat → Int32) (v2 : Int32) (v3 : Int32) (X : sx_X d κ cX5_setWays 5 RX5 (sx_rm 2)) (y : (Nat → Int32)) (hE97 : ∀ (s_ways : Nat → Int32), s_ways = y → sx_G d κ 5 0 0 97 [some (.ref (a 0)), none, some (.int v2), none, none] [] [oX5 a s_many s_windMany s_year s_saidMany s_size s_readAt s_readPeaks s_readWinds s_readNumber s_undoMany s_keptMany, ai d (a 4) 30 s_pinned, ai d (a 6) 6 s_guides, ai d (a 18) 64 s_ways]) : ∀ (n : Nat) (s : Int32 × (Nat → Int32)), sx_it n (bX5_setWays_39 s_many s_pinned s_guides v2 v3) s = some y → (match s with | (v4, s_ways) => sx_G d κ 5 0 0 39 [some (.ref (a 0)), none, some (.int v2), some (.int v3), some (.int v4)] [] [oX5 a s_many s_windMany s_year s_saidMany s_size s_readAt s_readPeaks s_readWinds s_readNumber s_undoMany s_keptMany, ai d (a 4) 30 s_pinned, ai d (a 6) 6 s_guides, ai d (a 18) 64 s_ways]) := by
  refine sx_it_run (bX5_setWays_39 s_many s_pinned s_guides v2 v3) (fun s => match s with | (v4, s_ways) => sx_G d κ 5 0 0 39 [some (.ref (a 0)), none, some (.int v2), some (.int v3), some (.int v4)] [] [oX5 a s_many s_windMany s_year s_saidMany s_size s_readAt s_readPeaks s_readWinds s_readNumber s_undoMany s_keptMany, ai d (a 4) 30 s_pinned, ai d (a 6) 6 s_guides, ai d (a 18) 64 s_ways]) y ?_
  rintro ⟨v4, s_ways⟩ x hf hb he
  show sx_G d κ 5 0 0 39 [some (.ref (a 0)), none, some (.int v2), some (.int v3), some (.int v4)] [] [oX5 a s_many s_windMany s_year s_saidMany s_size s_readAt s_readPeaks s_readWinds s_readNumber s_undoMany s_keptMany, ai d (a 4) 30 s_pinned, ai d (a 6) 6 s_guides, ai d (a 18) 64 s_ways]
  unfold bX5_setWays_39 at hf
  refine g_iload (pc' := 41) X dX5_setWays_39 rfl rfl ?_
  refine g_aload_n (pc' := 42) X dX5_setWays_41 rfl rfl rfl ?_
  refine g_get (pc' := 45) X fl_X5_78 dX5_setWays_42 rfl 0 rfl rfl ?_
  refine g_icmp_ge (tgt := 97) (pc' := 48) X dX5_setWays_45 (by decide) rfl hf (fun hf => ?_) (fun hf => ?_)
  · exact sx_weak [true, true, true, false, false] rfl (hE97 _ (sx_ex hf he))
  · refine g_aload_n (pc' := 49) X dX5_setWays_48 rfl rfl rfl ?_
    refine g_get (pc' := 52) X fl_X5_61 dX5_setWays_49 rfl 0 rfl rfl ?_
    refine g_iload_n (pc' := 53) X dX5_setWays_52 rfl rfl rfl ?_
    refine g_dup2 (pc' := 54) X dX5_setWays_53 rfl rfl rfl ?_
    refine g_iald (pc' := 55) X dX5_setWays_54 rfl 3 rfl hf (fun x6 hf => ?_)
    refine g_iload_n (pc' := 56) X dX5_setWays_55 rfl rfl rfl ?_
    refine g_iload (pc' := 58) X dX5_setWays_56 rfl rfl ?_
    refine g_callSi0 (pc' := 61) (As := [.int v2, .int v4]) (st := [.int x6, .int v2, .ref (a 18)]) (w2 := fun x7 => [oX5 a s_many s_windMany s_year s_saidMany s_size s_readAt s_readPeaks s_readWinds s_readNumber s_undoMany s_keptMany, ai d (a 4) 30 s_pinned, ai d (a 6) 6 s_guides, ai d (a 18) 64 s_ways]) X lk_X5_149 dX5_setWays_58 rfl rfl rfl (Nat.le_of_ble_eq_true rfl) ⟨Nat.le_of_ble_eq_true rfl, Nat.le_of_ble_eq_true rfl, Nat.le_of_ble_eq_true rfl, Nat.le_of_ble_eq_true rfl⟩ [] (by decide) rfl hf (fun l x7 h => ctX5_has l d v2 v4 x7 h) (fun _ => rfl) (fun _ => rfl) (fun x7 hnx7 hf => ?_)
    refine g_if_ne (tgt := 88) (pc' := 64) X dX5_setWays_61 (by decide) rfl hf (fun hf => ?_) (fun hf => ?_)
    · refine g_iconst (v := 0) (pc' := 89) X dX5_setWays_88 rfl (by decide) ?_
      refine g_iadd (pc' := 90) X dX5_setWays_89 rfl ?_
      refine g_iast (pc' := 91) (w2 := fun g8 => [oX5 a s_many s_windMany s_year s_saidMany s_size s_readAt s_readPeaks s_readWinds s_readNumber s_undoMany s_keptMany, ai d (a 4) 30 s_pinned, ai d (a 6) 6 s_guides, ai d (a 18) 64 g8]) X dX5_setWays_90 rfl 3 rfl hf (fun _ => rfl) (fun g8 hf => ?_)
      refine g_iinc (v := 1) (lv' := [some (.ref (a 0)), none, some (.int v2), some (.int v3), some (.int (v4 + (1 : Int32)))]) (pc' := 94) X dX5_setWays_91 rfl rfl (by decide) (by decide) rfl rfl ?_
      refine g_goto (tgt := 39) X dX5_setWays_94 (by decide) ?_
      have hk := sx_bk hf hb
      exact sx_weak [true, true, true, true, true] rfl hk
    · refine g_aload_n (pc' := 65) X dX5_setWays_64 rfl rfl rfl ?_
      refine g_iload_n (pc' := 66) X dX5_setWays_65 rfl rfl rfl ?_
      refine g_iload (pc' := 68) X dX5_setWays_66 rfl rfl ?_
      refine g_callVi0 (pc' := 71) (As := [.int v3, .int v4]) (b := (a 0)) (st := [.int x6, .int v2, .ref (a 18)]) (w2 := fun x9 => [oX5 a s_many s_windMany s_year s_saidMany s_size s_readAt s_readPeaks s_readWinds s_readNumber s_undoMany s_keptMany, ai d (a 4) 30 s_pinned, ai d (a 6) 6 s_guides, ai d (a 18) 64 s_ways]) X lk_X5_225 dX5_setWays_68 rfl rfl rfl (Nat.le_of_ble_eq_true rfl) ⟨Nat.le_of_ble_eq_true rfl, Nat.le_of_ble_eq_true rfl, Nat.le_of_ble_eq_true rfl, Nat.le_of_ble_eq_true rfl⟩ rfl [0, 1, 2] (by decide) rfl hf (fun l x9 h => ctX5_mayHave l d a s_many s_windMany s_year s_saidMany s_size s_readAt s_readPeaks s_readWinds s_readNumber s_undoMany s_keptMany s_pinned s_guides v3 v4 x9 h) (fun _ => rfl) (fun _ => rfl) (fun x9 hnx9 hf => ?_)
      refine g_if_eq (tgt := 88) (pc' := 74) X dX5_setWays_71 (by decide) rfl hf (fun hf => ?_) (fun hf => ?_)
      · refine g_iconst (v := 0) (pc' := 89) X dX5_setWays_88 rfl (by decide) ?_
        refine g_iadd (pc' := 90) X dX5_setWays_89 rfl ?_
        refine g_iast (pc' := 91) (w2 := fun g10 => [oX5 a s_many s_windMany s_year s_saidMany s_size s_readAt s_readPeaks s_readWinds s_readNumber s_undoMany s_keptMany, ai d (a 4) 30 s_pinned, ai d (a 6) 6 s_guides, ai d (a 18) 64 g10]) X dX5_setWays_90 rfl 3 rfl hf (fun _ => rfl) (fun g10 hf => ?_)
        refine g_iinc (v := 1) (lv' := [some (.ref (a 0)), none, some (.int v2), some (.int v3), some (.int (v4 + (1 : Int32)))]) (pc' := 94) X dX5_setWays_91 rfl rfl (by decide) (by decide) rfl rfl ?_
        refine g_goto (tgt := 39) X dX5_setWays_94 (by decide) ?_
        have hk := sx_bk hf hb
        exact sx_weak [true, true, true, true, true] rfl hk
      · refine g_aload_n (pc' := 75) X dX5_setWays_74 rfl rfl rfl ?_
        refine g_get (pc' := 78) X fl_X5_61 dX5_setWays_75 rfl 0 rfl rfl ?_
        refine g_iload_n (pc' := 79) X dX5_setWays_78 rfl rfl rfl ?_
        refine g_iconst (v := 1) (pc' := 80) X dX5_setWays_79 rfl (by decide) ?_
        refine g_iload (pc' := 82) X dX5_setWays_80 rfl rfl ?_
        refine g_ishl (pc' := 83) X dX5_setWays_82 rfl ?_
        refine g_ior (pc' := 84) X dX5_setWays_83 rfl ?_
        refine g_iald (pc' := 85) X dX5_setWays_84 rfl 3 rfl hf (fun x11 hf => ?_)
        refine g_goto (tgt := 89) X dX5_setWays_85 (by decide) ?_
        refine g_iadd (pc' := 90) X dX5_setWays_89 rfl ?_
        refine g_iast (pc' := 91) (w2 := fun g12 => [oX5 a s_many s_windMany s_year s_saidMany s_size s_readAt s_readPeaks s_readWinds s_readNumber s_undoMany s_keptMany, ai d (a 4) 30 s_pinned, ai d (a 6) 6 s_guides, ai d (a 18) 64 g12]) X dX5_setWays_90 rfl 3 rfl hf (fun _ => rfl) (fun g12 hf => ?_)
        refine g_iinc (v := 1) (lv' := [some (.ref (a 0)), none, some (.int v2), some (.int v3), some (.int (v4 + (1 : Int32)))]) (pc' := 94) X dX5_setWays_91 rfl rfl (by decide) (by decide) rfl rfl ?_
        refine g_goto (tgt := 39) X dX5_setWays_94 (by decide) ?_
        have hk := sx_bk hf hb
        exact sx_weak [true, true, true, true, true] rfl hk
set_option maxHeartbeats 4000000 in
set_option maxRecDepth 100000 in
theorem lX5_setWays_20 (d : sx_D) (κ : sx_C) (a : Nat → Nat) (s_many : Int32) (s_windMany : Int32) (s_year : Int32) (s_saidMany : Int32) (s_size : Int32) (s_readAt : Int32) (s_readPeaks : Int32) (s_readWinds : Int32) (s_readNumber : Int32) (s_undoMany : Int32) (s_keptMany : Int32) (s_pinned : Nat → Int32) (s_guides : Nat → Int32) (X : sx_X d κ cX5_setWays 5 RX5 (sx_rm 2)) (y : (Nat → Int32)) (hE103 : ∀ (s_ways : Nat → Int32), s_ways = y → sx_G d κ 5 0 0 103 [none, none, none, none, none] [] [oX5 a s_many s_windMany s_year s_saidMany s_size s_readAt s_readPeaks s_readWinds s_readNumber s_undoMany s_keptMany, ai d (a 4) 30 s_pinned, ai d (a 6) 6 s_guides, ai d (a 18) 64 s_ways]) : ∀ (n : Nat) (s : Int32 × (Nat → Int32)), sx_it n (bX5_setWays_20 s_many s_pinned s_guides) s = some y → (match s with | (v2, s_ways) => sx_G d κ 5 0 0 20 [some (.ref (a 0)), none, some (.int v2), none, none] [] [oX5 a s_many s_windMany s_year s_saidMany s_size s_readAt s_readPeaks s_readWinds s_readNumber s_undoMany s_keptMany, ai d (a 4) 30 s_pinned, ai d (a 6) 6 s_guides, ai d (a 18) 64 s_ways]) := by
  refine sx_it_run (bX5_setWays_20 s_many s_pinned s_guides) (fun s => match s with | (v2, s_ways) => sx_G d κ 5 0 0 20 [some (.ref (a 0)), none, some (.int v2), none, none] [] [oX5 a s_many s_windMany s_year s_saidMany s_size s_readAt s_readPeaks s_readWinds s_readNumber s_undoMany s_keptMany, ai d (a 4) 30 s_pinned, ai d (a 6) 6 s_guides, ai d (a 18) 64 s_ways]) y ?_
  rintro ⟨v2, s_ways⟩ x hf hb he
  show sx_G d κ 5 0 0 20 [some (.ref (a 0)), none, some (.int v2), none, none] [] [oX5 a s_many s_windMany s_year s_saidMany s_size s_readAt s_readPeaks s_readWinds s_readNumber s_undoMany s_keptMany, ai d (a 4) 30 s_pinned, ai d (a 6) 6 s_guides, ai d (a 18) 64 s_ways]
  unfold bX5_setWays_20 at hf
  refine g_iload_n (pc' := 21) X dX5_setWays_20 rfl rfl rfl ?_
  refine g_if_lt (tgt := 103) (pc' := 24) X dX5_setWays_21 (by decide) rfl hf (fun hf => ?_) (fun hf => ?_)
  · exact sx_weak [false, true, false, true, true] rfl (hE103 _ (sx_ex hf he))
  · refine g_iload_n (pc' := 25) X dX5_setWays_24 rfl rfl rfl ?_
    refine g_callSi0 (pc' := 28) (As := [.int v2]) (st := []) (w2 := fun x4 => [oX5 a s_many s_windMany s_year s_saidMany s_size s_readAt s_readPeaks s_readWinds s_readNumber s_undoMany s_keptMany, ai d (a 4) 30 s_pinned, ai d (a 6) 6 s_guides, ai d (a 18) 64 s_ways]) X lk_X5_213 dX5_setWays_25 rfl rfl rfl (Nat.le_of_ble_eq_true rfl) ⟨Nat.le_of_ble_eq_true rfl, Nat.le_of_ble_eq_true rfl, Nat.le_of_ble_eq_true rfl, Nat.le_of_ble_eq_true rfl⟩ [] (by decide) rfl hf (fun l x4 h => ctX5_bits l d v2 x4 h) (fun _ => rfl) (fun _ => rfl) (fun x4 hnx4 hf => ?_)
    refine g_istore_n (lv' := [some (.ref (a 0)), none, some (.int v2), some (.int x4), none]) (pc' := 29) X dX5_setWays_28 rfl rfl (by decide) rfl rfl ?_
    refine g_aload_n (pc' := 30) X dX5_setWays_29 rfl rfl rfl ?_
    refine g_get (pc' := 33) X fl_X5_61 dX5_setWays_30 rfl 0 rfl rfl ?_
    refine g_iload_n (pc' := 34) X dX5_setWays_33 rfl rfl rfl ?_
    refine g_iconst (v := 0) (pc' := 35) X dX5_setWays_34 rfl (by decide) ?_
    refine g_iast (pc' := 36) (w2 := fun g5 => [oX5 a s_many s_windMany s_year s_saidMany s_size s_readAt s_readPeaks s_readWinds s_readNumber s_undoMany s_keptMany, ai d (a 4) 30 s_pinned, ai d (a 6) 6 s_guides, ai d (a 18) 64 g5]) X dX5_setWays_35 rfl 3 rfl hf (fun _ => rfl) (fun g5 hf => ?_)
    refine g_iconst (v := 0) (pc' := 37) X dX5_setWays_36 rfl (by decide) ?_
    refine g_istore (lv' := [some (.ref (a 0)), none, some (.int v2), some (.int x4), some (.int (0 : Int32))]) (pc' := 39) X dX5_setWays_37 rfl (by decide) rfl rfl ?_
    obtain ⟨y13, hy13, hf⟩ := sx_bd hf
    refine sx_weak [true, true, true, true, true] rfl (lX5_setWays_39 d κ a s_many s_windMany s_year s_saidMany s_size s_readAt s_readPeaks s_readWinds s_readNumber s_undoMany s_keptMany s_pinned s_guides v2 x4 X y13 ?_ 1000 ((0 : Int32), g5) hy13)
    rintro w14 rfl
    refine g_iinc (v := -1) (lv' := [some (.ref (a 0)), none, some (.int (v2 + (-1 : Int32))), none, none]) (pc' := 100) X dX5_setWays_97 rfl rfl (by decide) (by decide) rfl rfl ?_
    refine g_goto (tgt := 20) X dX5_setWays_100 (by decide) ?_
    have hk := sx_bk hf hb
    exact sx_weak [true, true, true, true, true] rfl hk
set_option maxHeartbeats 4000000 in
set_option maxRecDepth 100000 in
theorem ctX5_setWays (l : Launch) (d : sx_D) (a : Nat → Nat) (s_many : Int32) (s_windMany : Int32) (s_year : Int32) (s_saidMany : Int32) (s_size : Int32) (s_readAt : Int32) (s_readPeaks : Int32) (s_readWinds : Int32) (s_readNumber : Int32) (s_undoMany : Int32) (s_keptMany : Int32) (s_pinned : Nat → Int32) (s_guides : Nat → Int32) (s_ways : Nat → Int32) (ro1 : Nat → Int32) (hf : fX5_setWays s_many s_pinned s_guides s_ways = some ro1) : sx_V l d yX5_setWays cX5_setWays 5 2 [.ref (a 0)] [oX5 a s_many s_windMany s_year s_saidMany s_size s_readAt s_readPeaks s_readWinds s_readNumber s_undoMany s_keptMany, ai d (a 4) 30 s_pinned, ai d (a 6) 6 s_guides, ai d (a 18) 64 s_ways] [oX5 a s_many s_windMany s_year s_saidMany s_size s_readAt s_readPeaks s_readWinds s_readNumber s_undoMany s_keptMany, ai d (a 4) 30 s_pinned, ai d (a 6) 6 s_guides, ai d (a 18) 64 ro1] := by
  refine sx_V.intro (lv0 := [some (.ref (a 0)), none, none, none, none]) (by decide +kernel) (Nat.le_of_ble_eq_true rfl) rfl ?_
  intro κ X hR
  have X : sx_X d κ cX5_setWays 5 RX5 (sx_rm 2) := X
  unfold fX5_setWays at hf
  refine g_iconst (v := 1) (pc' := 1) X dX5_setWays_0 rfl (by decide) ?_
  refine g_aload_n (pc' := 2) X dX5_setWays_1 rfl rfl rfl ?_
  refine g_get (pc' := 5) X fl_X5_78 dX5_setWays_2 rfl 0 rfl rfl ?_
  refine g_ishl (pc' := 6) X dX5_setWays_5 rfl ?_
  refine g_iconst (v := 1) (pc' := 7) X dX5_setWays_6 rfl (by decide) ?_
  refine g_isub (pc' := 8) X dX5_setWays_7 rfl ?_
  refine g_istore_nN (lv' := fun x1 => [some (.ref (a 0)), some (.int x1), none, none, none]) (pc' := 9) X dX5_setWays_8 rfl rfl (by decide) rfl (fun _ => rfl) hf (fun x1 hf => ?_)
  refine g_aload_n (pc' := 10) X dX5_setWays_9 rfl rfl rfl ?_
  refine g_get (pc' := 13) X fl_X5_61 dX5_setWays_10 rfl 0 rfl rfl ?_
  refine g_iload_n (pc' := 14) X dX5_setWays_13 rfl rfl rfl ?_
  refine g_iconst (v := 1) (pc' := 15) X dX5_setWays_14 rfl (by decide) ?_
  refine g_iast (pc' := 16) (w2 := fun g2 => [oX5 a s_many s_windMany s_year s_saidMany s_size s_readAt s_readPeaks s_readWinds s_readNumber s_undoMany s_keptMany, ai d (a 4) 30 s_pinned, ai d (a 6) 6 s_guides, ai d (a 18) 64 g2]) X dX5_setWays_15 rfl 3 rfl hf (fun _ => rfl) (fun g2 hf => ?_)
  refine g_iload_n (pc' := 17) X dX5_setWays_16 rfl rfl rfl ?_
  refine g_iconst (v := 1) (pc' := 18) X dX5_setWays_17 rfl (by decide) ?_
  refine g_isub (pc' := 19) X dX5_setWays_18 rfl ?_
  refine g_istore_nN (lv' := fun x3 => [some (.ref (a 0)), some (.int x1), some (.int x3), none, none]) (pc' := 20) X dX5_setWays_19 rfl rfl (by decide) rfl (fun _ => rfl) hf (fun x3 hf => ?_)
  obtain ⟨y15, hy15, hf⟩ := sx_bd hf
  refine sx_weak [true, false, true, true, true] rfl (lX5_setWays_20 d κ a s_many s_windMany s_year s_saidMany s_size s_readAt s_readPeaks s_readWinds s_readNumber s_undoMany s_keptMany s_pinned s_guides X y15 ?_ 1000 (x3, g2) hy15)
  rintro w16 rfl
  cases hf
  exact hR _ _ dX5_setWays_103
-- X5_match
def jX5_match_33 (s_ways : Nat → Int32) (v1 : Int32) : Option (Int32 × (Nat → Int32)) :=
  if 0 ≤ v1 then
    some ((-4 : Int32), s_ways)
  else
    sx_rd s_ways 64 (0 : Int32) fun x3 =>
    some (x3, s_ways)
def bX5_match_64 (s_pinned : Nat → Int32) (s_guides : Nat → Int32) (s_ways : Nat → Int32) (v2 : Int32) (v4 : Int32) : Int32 → Option ((Int32) ⊕ (Int32)) := fun v3 =>
  (fX5_has v2 v3).bind fun x5 =>
  if x5 = 0 then
    (fX5_mayHave s_pinned s_guides v4 v3).bind fun x6 =>
    if x6 = 0 then
      some (.inl (v3 + (1 : Int32)))
    else
      sx_rd s_ways 64 (v2 ||| ((1 : Int32) <<< (v3 &&& 31))) fun x7 =>
      if x7 = 0 then
        some (.inl (v3 + (1 : Int32)))
      else
        some (.inr v3)
  else
    some (.inl (v3 + (1 : Int32)))
def bX5_match_56 (s_pinned : Nat → Int32) (s_guides : Nat → Int32) (s_ways : Nat → Int32) (v1 : Int32) : (Int32 × Int32 × Int32) → Option ((Int32 × Int32 × Int32) ⊕ (Int32)) := fun (v2, v3, v4) =>
  if v1 < v4 then
    some (.inr v3)
  else
    (sx_it 1000 (bX5_match_64 s_pinned s_guides s_ways v2 v4) (0 : Int32)).bind fun w9 =>
    sx_lt (v2 ||| ((1 : Int32) <<< (w9 &&& 31))) fun x10 =>
    some (.inl (x10, w9, v4 + (1 : Int32)))
def fX5_match (s_many : Int32) (s_pinned : Nat → Int32) (s_guides : Nat → Int32) (s_ways : Nat → Int32) (v1 : Int32) : Option (Int32 × (Nat → Int32)) :=
  (fX5_in v1 (-1 : Int32) (s_many - (1 : Int32))).bind fun x1 =>
  if x1 = 0 then
    some ((-1 : Int32), s_ways)
  else
    (fX5_setWays s_many s_pinned s_guides s_ways).bind fun o2 =>
    if v1 < 0 then
      jX5_match_33 o2 v1
    else
      sx_rd o2 64 (0 : Int32) fun x4 =>
      if x4 = 0 then
        jX5_match_33 o2 v1
      else
        (sx_it 1000 (bX5_match_56 s_pinned s_guides o2 v1) ((0 : Int32), (0 : Int32), (0 : Int32))).bind fun w12 =>
        some (w12, o2)
set_option maxHeartbeats 4000000 in
set_option maxRecDepth 100000 in
theorem lX5_match_64 (d : sx_D) (κ : sx_C) (a : Nat → Nat) (s_many : Int32) (s_windMany : Int32) (s_year : Int32) (s_saidMany : Int32) (s_size : Int32) (s_readAt : Int32) (s_readPeaks : Int32) (s_readWinds : Int32) (s_readNumber : Int32) (s_undoMany : Int32) (s_keptMany : Int32) (s_pinned : Nat → Int32) (s_guides : Nat → Int32) (s_ways : Nat → Int32) (v1 : Int32) (v2 : Int32) (v4 : Int32) (X : sx_X d κ cX5_match 5 RX5 (sx_rm 3)) (y : Int32) (hE101 : ∀ (v3 : Int32), v3 = y → sx_G d κ 5 0 0 101 [some (.ref (a 0)), some (.int v1), some (.int v2), some (.int v3), some (.int v4)] [] [oX5 a s_many s_windMany s_year s_saidMany s_size s_readAt s_readPeaks s_readWinds s_readNumber s_undoMany s_keptMany, ai d (a 4) 30 s_pinned, ai d (a 6) 6 s_guides, ai d (a 18) 64 s_ways]) : ∀ (n : Nat) (v3 : Int32), sx_it n (bX5_match_64 s_pinned s_guides s_ways v2 v4) v3 = some y → sx_G d κ 5 0 0 64 [some (.ref (a 0)), some (.int v1), some (.int v2), some (.int v3), some (.int v4)] [] [oX5 a s_many s_windMany s_year s_saidMany s_size s_readAt s_readPeaks s_readWinds s_readNumber s_undoMany s_keptMany, ai d (a 4) 30 s_pinned, ai d (a 6) 6 s_guides, ai d (a 18) 64 s_ways] := by
  refine sx_it_run (bX5_match_64 s_pinned s_guides s_ways v2 v4) (fun v3 => sx_G d κ 5 0 0 64 [some (.ref (a 0)), some (.int v1), some (.int v2), some (.int v3), some (.int v4)] [] [oX5 a s_many s_windMany s_year s_saidMany s_size s_readAt s_readPeaks s_readWinds s_readNumber s_undoMany s_keptMany, ai d (a 4) 30 s_pinned, ai d (a 6) 6 s_guides, ai d (a 18) 64 s_ways]) y ?_
  rintro v3 x hf hb he
  show sx_G d κ 5 0 0 64 [some (.ref (a 0)), some (.int v1), some (.int v2), some (.int v3), some (.int v4)] [] [oX5 a s_many s_windMany s_year s_saidMany s_size s_readAt s_readPeaks s_readWinds s_readNumber s_undoMany s_keptMany, ai d (a 4) 30 s_pinned, ai d (a 6) 6 s_guides, ai d (a 18) 64 s_ways]
  unfold bX5_match_64 at hf
  refine g_iload_n (pc' := 65) X dX5_match_64 rfl rfl rfl ?_
  refine g_iload_n (pc' := 66) X dX5_match_65 rfl rfl rfl ?_
  refine g_callSi0 (pc' := 69) (As := [.int v2, .int v3]) (st := []) (w2 := fun x5 => [oX5 a s_many s_windMany s_year s_saidMany s_size s_readAt s_readPeaks s_readWinds s_readNumber s_undoMany s_keptMany, ai d (a 4) 30 s_pinned, ai d (a 6) 6 s_guides, ai d (a 18) 64 s_ways]) X lk_X5_149 dX5_match_66 rfl rfl rfl (Nat.le_of_ble_eq_true rfl) ⟨Nat.le_of_ble_eq_true rfl, Nat.le_of_ble_eq_true rfl, Nat.le_of_ble_eq_true rfl, Nat.le_of_ble_eq_true rfl⟩ [] (by decide) rfl hf (fun l x5 h => ctX5_has l d v2 v3 x5 h) (fun _ => rfl) (fun _ => rfl) (fun x5 hnx5 hf => ?_)
  refine g_if_ne (tgt := 95) (pc' := 72) X dX5_match_69 (by decide) rfl hf (fun hf => ?_) (fun hf => ?_)
  · refine g_iinc (v := 1) (lv' := [some (.ref (a 0)), some (.int v1), some (.int v2), some (.int (v3 + (1 : Int32))), some (.int v4)]) (pc' := 98) X dX5_match_95 rfl rfl (by decide) (by decide) rfl rfl ?_
    refine g_goto (tgt := 64) X dX5_match_98 (by decide) ?_
    have hk := sx_bk hf hb
    exact sx_weak [true, true, true, true, true] rfl hk
  · refine g_aload_n (pc' := 73) X dX5_match_72 rfl rfl rfl ?_
    refine g_iload (pc' := 75) X dX5_match_73 rfl rfl ?_
    refine g_iload_n (pc' := 76) X dX5_match_75 rfl rfl rfl ?_
    refine g_callVi0 (pc' := 79) (As := [.int v4, .int v3]) (b := (a 0)) (st := []) (w2 := fun x6 => [oX5 a s_many s_windMany s_year s_saidMany s_size s_readAt s_readPeaks s_readWinds s_readNumber s_undoMany s_keptMany, ai d (a 4) 30 s_pinned, ai d (a 6) 6 s_guides, ai d (a 18) 64 s_ways]) X lk_X5_225 dX5_match_76 rfl rfl rfl (Nat.le_of_ble_eq_true rfl) ⟨Nat.le_of_ble_eq_true rfl, Nat.le_of_ble_eq_true rfl, Nat.le_of_ble_eq_true rfl, Nat.le_of_ble_eq_true rfl⟩ rfl [0, 1, 2] (by decide) rfl hf (fun l x6 h => ctX5_mayHave l d a s_many s_windMany s_year s_saidMany s_size s_readAt s_readPeaks s_readWinds s_readNumber s_undoMany s_keptMany s_pinned s_guides v4 v3 x6 h) (fun _ => rfl) (fun _ => rfl) (fun x6 hnx6 hf => ?_)
    refine g_if_eq (tgt := 95) (pc' := 82) X dX5_match_79 (by decide) rfl hf (fun hf => ?_) (fun hf => ?_)
    · refine g_iinc (v := 1) (lv' := [some (.ref (a 0)), some (.int v1), some (.int v2), some (.int (v3 + (1 : Int32))), some (.int v4)]) (pc' := 98) X dX5_match_95 rfl rfl (by decide) (by decide) rfl rfl ?_
      refine g_goto (tgt := 64) X dX5_match_98 (by decide) ?_
      have hk := sx_bk hf hb
      exact sx_weak [true, true, true, true, true] rfl hk
    · refine g_aload_n (pc' := 83) X dX5_match_82 rfl rfl rfl ?_
      refine g_get (pc' := 86) X fl_X5_61 dX5_match_83 rfl 0 rfl rfl ?_
      refine g_iload_n (pc' := 87) X dX5_match_86 rfl rfl rfl ?_
      refine g_iconst (v := 1) (pc' := 88) X dX5_match_87 rfl (by decide) ?_
      refine g_iload_n (pc' := 89) X dX5_match_88 rfl rfl rfl ?_
      refine g_ishl (pc' := 90) X dX5_match_89 rfl ?_
      refine g_ior (pc' := 91) X dX5_match_90 rfl ?_
      refine g_iald (pc' := 92) X dX5_match_91 rfl 3 rfl hf (fun x7 hf => ?_)
      refine g_if_ne (tgt := 101) (pc' := 95) X dX5_match_92 (by decide) rfl hf (fun hf => ?_) (fun hf => ?_)
      · exact sx_weak [true, true, true, true, true] rfl (hE101 _ (sx_ex hf he))
      · refine g_iinc (v := 1) (lv' := [some (.ref (a 0)), some (.int v1), some (.int v2), some (.int (v3 + (1 : Int32))), some (.int v4)]) (pc' := 98) X dX5_match_95 rfl rfl (by decide) (by decide) rfl rfl ?_
        refine g_goto (tgt := 64) X dX5_match_98 (by decide) ?_
        have hk := sx_bk hf hb
        exact sx_weak [true, true, true, true, true] rfl hk
set_option maxHeartbeats 4000000 in
set_option maxRecDepth 100000 in
theorem lX5_match_56 (d : sx_D) (κ : sx_C) (a : Nat → Nat) (s_many : Int32) (s_windMany : Int32) (s_year : Int32) (s_saidMany : Int32) (s_size : Int32) (s_readAt : Int32) (s_readPeaks : Int32) (s_readWinds : Int32) (s_readNumber : Int32) (s_undoMany : Int32) (s_keptMany : Int32) (s_pinned : Nat → Int32) (s_guides : Nat → Int32) (s_ways : Nat → Int32) (v1 : Int32) (X : sx_X d κ cX5_match 5 RX5 (sx_rm 3)) (y : Int32) (hE113 : ∀ (v3 : Int32), v3 = y → sx_G d κ 5 0 0 113 [none, none, none, some (.int v3), none] [] [oX5 a s_many s_windMany s_year s_saidMany s_size s_readAt s_readPeaks s_readWinds s_readNumber s_undoMany s_keptMany, ai d (a 4) 30 s_pinned, ai d (a 6) 6 s_guides, ai d (a 18) 64 s_ways]) : ∀ (n : Nat) (s : Int32 × Int32 × Int32), sx_it n (bX5_match_56 s_pinned s_guides s_ways v1) s = some y → (match s with | (v2, v3, v4) => sx_G d κ 5 0 0 56 [some (.ref (a 0)), some (.int v1), some (.int v2), some (.int v3), some (.int v4)] [] [oX5 a s_many s_windMany s_year s_saidMany s_size s_readAt s_readPeaks s_readWinds s_readNumber s_undoMany s_keptMany, ai d (a 4) 30 s_pinned, ai d (a 6) 6 s_guides, ai d (a 18) 64 s_ways]) := by
  refine sx_it_run (bX5_match_56 s_pinned s_guides s_ways v1) (fun s => match s with | (v2, v3, v4) => sx_G d κ 5 0 0 56 [some (.ref (a 0)), some (.int v1), some (.int v2), some (.int v3), some (.int v4)] [] [oX5 a s_many s_windMany s_year s_saidMany s_size s_readAt s_readPeaks s_readWinds s_readNumber s_undoMany s_keptMany, ai d (a 4) 30 s_pinned, ai d (a 6) 6 s_guides, ai d (a 18) 64 s_ways]) y ?_
  rintro ⟨v2, v3, v4⟩ x hf hb he
  show sx_G d κ 5 0 0 56 [some (.ref (a 0)), some (.int v1), some (.int v2), some (.int v3), some (.int v4)] [] [oX5 a s_many s_windMany s_year s_saidMany s_size s_readAt s_readPeaks s_readWinds s_readNumber s_undoMany s_keptMany, ai d (a 4) 30 s_pinned, ai d (a 6) 6 s_guides, ai d (a 18) 64 s_ways]
  unfold bX5_match_56 at hf
  refine g_iload (pc' := 58) X dX5_match_56 rfl rfl ?_
  refine g_iload_n (pc' := 59) X dX5_match_58 rfl rfl rfl ?_
  refine g_icmp_gt (tgt := 113) (pc' := 62) X dX5_match_59 (by decide) rfl hf (fun hf => ?_) (fun hf => ?_)
  · exact sx_weak [false, false, false, true, false] rfl (hE113 _ (sx_ex hf he))
  · refine g_iconst (v := 0) (pc' := 63) X dX5_match_62 rfl (by decide) ?_
    refine g_istore_n (lv' := [some (.ref (a 0)), some (.int v1), some (.int v2), some (.int (0 : Int32)), some (.int v4)]) (pc' := 64) X dX5_match_63 rfl rfl (by decide) rfl rfl ?_
    obtain ⟨y8, hy8, hf⟩ := sx_bd hf
    refine sx_weak [true, true, true, true, true] rfl (lX5_match_64 d κ a s_many s_windMany s_year s_saidMany s_size s_readAt s_readPeaks s_readWinds s_readNumber s_undoMany s_keptMany s_pinned s_guides s_ways v1 v2 v4 X y8 ?_ 1000 (0 : Int32) hy8)
    rintro w9 rfl
    refine g_iload_n (pc' := 102) X dX5_match_101 rfl rfl rfl ?_
    refine g_iconst (v := 1) (pc' := 103) X dX5_match_102 rfl (by decide) ?_
    refine g_iload_n (pc' := 104) X dX5_match_103 rfl rfl rfl ?_
    refine g_ishl (pc' := 105) X dX5_match_104 rfl ?_
    refine g_ior (pc' := 106) X dX5_match_105 rfl ?_
    refine g_istore_nN (lv' := fun x10 => [some (.ref (a 0)), some (.int v1), some (.int x10), some (.int w9), some (.int v4)]) (pc' := 107) X dX5_match_106 rfl rfl (by decide) rfl (fun _ => rfl) hf (fun x10 hf => ?_)
    refine g_iinc (v := 1) (lv' := [some (.ref (a 0)), some (.int v1), some (.int x10), some (.int w9), some (.int (v4 + (1 : Int32)))]) (pc' := 110) X dX5_match_107 rfl rfl (by decide) (by decide) rfl rfl ?_
    refine g_goto (tgt := 56) X dX5_match_110 (by decide) ?_
    have hk := sx_bk hf hb
    exact sx_weak [true, true, true, true, true] rfl hk
set_option maxHeartbeats 4000000 in
set_option maxRecDepth 100000 in
theorem ctX5_match (l : Launch) (d : sx_D) (a : Nat → Nat) (s_many : Int32) (s_windMany : Int32) (s_year : Int32) (s_saidMany : Int32) (s_size : Int32) (s_readAt : Int32) (s_readPeaks : Int32) (s_readWinds : Int32) (s_readNumber : Int32) (s_undoMany : Int32) (s_keptMany : Int32) (s_pinned : Nat → Int32) (s_guides : Nat → Int32) (s_ways : Nat → Int32) (v1 : Int32) (r : Int32) (ro1 : Nat → Int32) (hf : fX5_match s_many s_pinned s_guides s_ways v1 = some (r, ro1)) : sx_I l d yX5_match cX5_match 5 .int 3 [.ref (a 0), .int v1] [oX5 a s_many s_windMany s_year s_saidMany s_size s_readAt s_readPeaks s_readWinds s_readNumber s_undoMany s_keptMany, ai d (a 4) 30 s_pinned, ai d (a 6) 6 s_guides, ai d (a 18) 64 s_ways] [oX5 a s_many s_windMany s_year s_saidMany s_size s_readAt s_readPeaks s_readWinds s_readNumber s_undoMany s_keptMany, ai d (a 4) 30 s_pinned, ai d (a 6) 6 s_guides, ai d (a 18) 64 ro1] r := by
  refine sx_I.intro (lv0 := [some (.ref (a 0)), some (.int v1), none, none, none]) (by decide +kernel) (Nat.le_of_ble_eq_true rfl) rfl ?_
  intro κ X hR
  have X : sx_X d κ cX5_match 5 RX5 (sx_rm 3) := X
  unfold fX5_match at hf
  refine g_iload_n (pc' := 1) X dX5_match_0 rfl rfl rfl ?_
  refine g_iconst (v := -1) (pc' := 2) X dX5_match_1 rfl (by decide) ?_
  refine g_aload_n (pc' := 3) X dX5_match_2 rfl rfl rfl ?_
  refine g_get (pc' := 6) X fl_X5_78 dX5_match_3 rfl 0 rfl rfl ?_
  refine g_iconst (v := 1) (pc' := 7) X dX5_match_6 rfl (by decide) ?_
  refine g_isub (pc' := 8) X dX5_match_7 rfl ?_
  refine g_callSi0 (pc' := 11) (As := [.int v1, .int (-1 : Int32), .int (s_many - (1 : Int32))]) (st := []) (w2 := fun x1 => [oX5 a s_many s_windMany s_year s_saidMany s_size s_readAt s_readPeaks s_readWinds s_readNumber s_undoMany s_keptMany, ai d (a 4) 30 s_pinned, ai d (a 6) 6 s_guides, ai d (a 18) 64 s_ways]) X lk_X5_81 dX5_match_8 rfl rfl rfl (Nat.le_of_ble_eq_true rfl) ⟨Nat.le_of_ble_eq_true rfl, Nat.le_of_ble_eq_true rfl, Nat.le_of_ble_eq_true rfl, Nat.le_of_ble_eq_true rfl⟩ [] (by decide) rfl hf (fun l x1 h => ctX5_in l d v1 (-1 : Int32) (s_many - (1 : Int32)) x1 h) (fun _ => rfl) (fun _ => rfl) (fun x1 hnx1 hf => ?_)
  refine g_if_ne (tgt := 16) (pc' := 14) X dX5_match_11 (by decide) rfl hf (fun hf => ?_) (fun hf => ?_)
  · refine g_aload_n (pc' := 17) X dX5_match_16 rfl rfl rfl ?_
    refine g_callVv1 (pc' := 20) (As := []) (b := (a 0)) (st := []) (w2 := fun o2 => [oX5 a s_many s_windMany s_year s_saidMany s_size s_readAt s_readPeaks s_readWinds s_readNumber s_undoMany s_keptMany, ai d (a 4) 30 s_pinned, ai d (a 6) 6 s_guides, ai d (a 18) 64 o2]) X lk_X5_228 dX5_match_17 rfl rfl rfl (Nat.le_of_ble_eq_true rfl) ⟨Nat.le_of_ble_eq_true rfl, Nat.le_of_ble_eq_true rfl, Nat.le_of_ble_eq_true rfl, Nat.le_of_ble_eq_true rfl⟩ rfl [0, 1, 2, 3] (by decide) rfl hf (fun l o2 h => ctX5_setWays l d a s_many s_windMany s_year s_saidMany s_size s_readAt s_readPeaks s_readWinds s_readNumber s_undoMany s_keptMany s_pinned s_guides s_ways o2 h) (fun _ => rfl) (fun _ => rfl) (fun o2 hf => ?_)
    refine g_iload_n (pc' := 21) X dX5_match_20 rfl rfl rfl ?_
    have hjX5_match_33 : ∀ (v1 : Int32) (s_ways : Nat → Int32), jX5_match_33 s_ways v1 = some (r, ro1) → sx_G d κ 5 0 0 33 [some (.ref (a 0)), some (.int v1), none, none, none] [] [oX5 a s_many s_windMany s_year s_saidMany s_size s_readAt s_readPeaks s_readWinds s_readNumber s_undoMany s_keptMany, ai d (a 4) 30 s_pinned, ai d (a 6) 6 s_guides, ai d (a 18) 64 s_ways] := by
      intro v1 s_ways hf
      unfold jX5_match_33 at hf
      refine g_iload_n (pc' := 34) X dX5_match_33 rfl rfl rfl ?_
      refine g_if_ge (tgt := 46) (pc' := 37) X dX5_match_34 (by decide) rfl hf (fun hf => ?_) (fun hf => ?_)
      · refine g_bipush (v := -4) (pc' := 48) X dX5_match_46 rfl (by decide) ?_
        cases hf
        exact hR _ _ dX5_match_48 rfl
      · refine g_aload_n (pc' := 38) X dX5_match_37 rfl rfl rfl ?_
        refine g_get (pc' := 41) X fl_X5_61 dX5_match_38 rfl 0 rfl rfl ?_
        refine g_iconst (v := 0) (pc' := 42) X dX5_match_41 rfl (by decide) ?_
        refine g_iald (pc' := 43) X dX5_match_42 rfl 3 rfl hf (fun x3 hf => ?_)
        refine g_goto (tgt := 48) X dX5_match_43 (by decide) ?_
        cases hf
        exact hR _ _ dX5_match_48 rfl
    refine g_if_lt (tgt := 33) (pc' := 24) X dX5_match_21 (by decide) rfl hf (fun hf => ?_) (fun hf => ?_)
    · exact sx_weak [true, true, true, true, true] rfl (hjX5_match_33 v1 o2 hf)
    · refine g_aload_n (pc' := 25) X dX5_match_24 rfl rfl rfl ?_
      refine g_get (pc' := 28) X fl_X5_61 dX5_match_25 rfl 0 rfl rfl ?_
      refine g_iconst (v := 0) (pc' := 29) X dX5_match_28 rfl (by decide) ?_
      refine g_iald (pc' := 30) X dX5_match_29 rfl 3 rfl hf (fun x4 hf => ?_)
      refine g_if_ne (tgt := 49) (pc' := 33) X dX5_match_30 (by decide) rfl hf (fun hf => ?_) (fun hf => ?_)
      · refine g_iconst (v := 0) (pc' := 50) X dX5_match_49 rfl (by decide) ?_
        refine g_istore_n (lv' := [some (.ref (a 0)), some (.int v1), some (.int (0 : Int32)), none, none]) (pc' := 51) X dX5_match_50 rfl rfl (by decide) rfl rfl ?_
        refine g_iconst (v := 0) (pc' := 52) X dX5_match_51 rfl (by decide) ?_
        refine g_istore_n (lv' := [some (.ref (a 0)), some (.int v1), some (.int (0 : Int32)), some (.int (0 : Int32)), none]) (pc' := 53) X dX5_match_52 rfl rfl (by decide) rfl rfl ?_
        refine g_iconst (v := 0) (pc' := 54) X dX5_match_53 rfl (by decide) ?_
        refine g_istore (lv' := [some (.ref (a 0)), some (.int v1), some (.int (0 : Int32)), some (.int (0 : Int32)), some (.int (0 : Int32))]) (pc' := 56) X dX5_match_54 rfl (by decide) rfl rfl ?_
        obtain ⟨y11, hy11, hf⟩ := sx_bd hf
        refine sx_weak [true, true, true, true, true] rfl (lX5_match_56 d κ a s_many s_windMany s_year s_saidMany s_size s_readAt s_readPeaks s_readWinds s_readNumber s_undoMany s_keptMany s_pinned s_guides o2 v1 X y11 ?_ 1000 ((0 : Int32), (0 : Int32), (0 : Int32)) hy11)
        rintro w12 rfl
        refine g_iload_n (pc' := 114) X dX5_match_113 rfl rfl rfl ?_
        cases hf
        exact hR _ _ dX5_match_114 rfl
      · exact sx_weak [true, true, true, true, true] rfl (hjX5_match_33 v1 o2 hf)
  · refine g_iconst (v := -1) (pc' := 15) X dX5_match_14 rfl (by decide) ?_
    cases hf
    exact hR _ _ dX5_match_15 rfl
-- X5_common
def bX5_common_6  : (Int64 × Int64) → Option ((Int64 × Int64) ⊕ (Int64)) := fun (v4, v6) =>
  if (lg_cmp v6 (0 : Int64)) = 0 then
    some (.inr v4)
  else
    sx_nzl v6 <|
    sx_lt (v4 - v4 / v6 * v6) fun x1 =>
    some (.inl (v6, x1))
def fX5_common (v0 : Int64) (v2 : Int64) : Option (Int64) :=
  (sx_it 1000 (bX5_common_6) (v0, v2)).bind fun w3 =>
  some w3
set_option maxHeartbeats 4000000 in
set_option maxRecDepth 100000 in
theorem lX5_common_6 (d : sx_D) (κ : sx_C)  (X : sx_X d κ cX5_common 10 RX5 (sx_rm 0)) (y : Int64) (hE31 : ∀ (v4 : Int64), v4 = y → sx_G d κ 10 0 0 31 [none, none, none, none, some (.long v4), none, none, none, none, none] [] []) : ∀ (n : Nat) (s : Int64 × Int64), sx_it n (bX5_common_6) s = some y → (match s with | (v4, v6) => sx_G d κ 10 0 0 6 [none, none, none, none, some (.long v4), none, some (.long v6), none, none, none] [] []) := by
  refine sx_it_run (bX5_common_6) (fun s => match s with | (v4, v6) => sx_G d κ 10 0 0 6 [none, none, none, none, some (.long v4), none, some (.long v6), none, none, none] [] []) y ?_
  rintro ⟨v4, v6⟩ x hf hb he
  show sx_G d κ 10 0 0 6 [none, none, none, none, some (.long v4), none, some (.long v6), none, none, none] [] []
  unfold bX5_common_6 at hf
  refine g_lload (pc' := 8) X dX5_common_6 rfl rfl ?_
  refine g_lconst (v := 0) (pc' := 9) X dX5_common_8 rfl (by decide) ?_
  refine g_lcmp (pc' := 10) X dX5_common_9 rfl ?_
  refine g_if_eq (tgt := 31) (pc' := 13) X dX5_common_10 (by decide) rfl hf (fun hf => ?_) (fun hf => ?_)
  · exact sx_weak [true, true, true, true, true, true, false, true, true, true] rfl (hE31 _ (sx_ex hf he))
  · refine g_lload (pc' := 15) X dX5_common_13 rfl rfl ?_
    refine g_lload (pc' := 17) X dX5_common_15 rfl rfl ?_
    refine g_lremZ (pc' := 18) X dX5_common_17 rfl hf (fun hf => ?_)
    refine g_lstoreN (lv' := fun x1 => [none, none, none, none, some (.long v4), none, some (.long v6), none, some (.long x1), none]) (pc' := 20) X dX5_common_18 rfl (by decide) rfl (fun _ => rfl) hf (fun x1 hf => ?_)
    refine g_lload (pc' := 22) X dX5_common_20 rfl rfl ?_
    refine g_lstore (lv' := [none, none, none, none, some (.long v6), none, some (.long v6), none, some (.long x1), none]) (pc' := 24) X dX5_common_22 rfl (by decide) rfl rfl ?_
    refine g_lload (pc' := 26) X dX5_common_24 rfl rfl ?_
    refine g_lstore (lv' := [none, none, none, none, some (.long v6), none, some (.long x1), none, some (.long x1), none]) (pc' := 28) X dX5_common_26 rfl (by decide) rfl rfl ?_
    refine g_goto (tgt := 6) X dX5_common_28 (by decide) ?_
    have hk := sx_bk hf hb
    exact sx_weak [true, true, true, true, true, true, true, true, false, true] rfl hk
set_option maxHeartbeats 4000000 in
set_option maxRecDepth 100000 in
theorem ctX5_common (l : Launch) (d : sx_D) (v0 : Int64) (v2 : Int64) (r : Int64) (hf : fX5_common v0 v2 = some r) : sx_L l d yX5_common cX5_common 10 0 [.long v0, .long v2] [] [] r := by
  refine sx_L.intro (lv0 := [some (.long v0), none, some (.long v2), none, none, none, none, none, none, none]) (by decide +kernel) (Nat.le_of_ble_eq_true rfl) rfl ?_
  intro κ X hR
  have X : sx_X d κ cX5_common 10 RX5 (sx_rm 0) := X
  unfold fX5_common at hf
  refine g_lload_n (pc' := 1) X dX5_common_0 rfl rfl rfl ?_
  refine g_lstore (lv' := [some (.long v0), none, some (.long v2), none, some (.long v0), none, none, none, none, none]) (pc' := 3) X dX5_common_1 rfl (by decide) rfl rfl ?_
  refine g_lload_n (pc' := 4) X dX5_common_3 rfl rfl rfl ?_
  refine g_lstore (lv' := [some (.long v0), none, some (.long v2), none, some (.long v0), none, some (.long v2), none, none, none]) (pc' := 6) X dX5_common_4 rfl (by decide) rfl rfl ?_
  obtain ⟨y2, hy2, hf⟩ := sx_bd hf
  refine sx_weak [false, true, false, true, true, true, true, true, true, true] rfl (lX5_common_6 d κ  X y2 ?_ 1000 (v0, v2) hy2)
  rintro w3 rfl
  refine g_lload (pc' := 33) X dX5_common_31 rfl rfl ?_
  cases hf
  exact hR _ _ dX5_common_33
-- X5_storms
def bX5_storms_57 (v3 : Int32) : (Int64 × Int32) → Option ((Int64 × Int32) ⊕ (Int64)) := fun (v8, v10) =>
  if v3 ≤ v10 then
    some (.inr v8)
  else
    sx_lt (v8 * (10 : Int64)) fun x6 =>
    some (.inl (x6, v10 + (1 : Int32)))
def jX5_storms_155 (s_many : Int32) (s_year : Int32) (s_kindOf : Nat → Int32) (s_pinned : Nat → Int32) (s_guides : Nat → Int32) (v11 : Int64) (v13 : Int32) (t1 : Int32) : Option ((Int64 × Int32 × Int32 × (Nat → Int32) × (Nat → Int32)) ⊕ (Int64 × Int32 × (Nat → Int32) × (Nat → Int32))) :=
  (fX5_passesBy s_many s_year s_kindOf s_pinned s_guides t1).bind fun (o13, o14, o15) =>
  some (.inl (v11, v13 + (1 : Int32), o13, o14, o15))
def jX5_storms_128 (s_many : Int32) (s_windMany : Int32) (s_year : Int32) (s_kindOf : Nat → Int32) (s_winds : Nat → Int32) (s_pinned : Nat → Int32) (s_guides : Nat → Int32) (v10 : Int32) (v13 : Int32) (t0 : Int64) (t1 : Int64) : Option ((Int64 × Int32 × Int32 × (Nat → Int32) × (Nat → Int32)) ⊕ (Int64 × Int32 × (Nat → Int32) × (Nat → Int32))) :=
  sx_lt (t0 * t1) fun x11 =>
  (fX5_has v10 v13).bind fun x12 =>
  if x12 = 0 then
    (fX5_windOf s_windMany s_winds s_year).bind fun x16 =>
    jX5_storms_155 s_many s_year s_kindOf s_pinned s_guides x11 v13 x16
  else
    jX5_storms_155 s_many s_year s_kindOf s_pinned s_guides x11 v13 (20 : Int32)
def bX5_storms_98 (s_many : Int32) (s_windMany : Int32) (s_kindOf : Nat → Int32) (s_winds : Nat → Int32) (v3 : Int32) (v4 : Int32) (v10 : Int32) : (Int64 × Int32 × Int32 × (Nat → Int32) × (Nat → Int32)) → Option ((Int64 × Int32 × Int32 × (Nat → Int32) × (Nat → Int32)) ⊕ (Int64 × Int32 × (Nat → Int32) × (Nat → Int32))) := fun (v11, v13, s_year, s_pinned, s_guides) =>
  if v3 ≤ v13 then
    some (.inr (v11, s_year, s_pinned, s_guides))
  else
    (fX5_has v10 v13).bind fun x10 =>
    if x10 = 0 then
      jX5_storms_128 s_many s_windMany s_year s_kindOf s_winds s_pinned s_guides v10 v13 v11 (((10 : Int32) - v4).toInt64)
    else
      jX5_storms_128 s_many s_windMany s_year s_kindOf s_winds s_pinned s_guides v10 v13 v11 v4.toInt64
def jX5_storms_185 (s_year : Int32) (s_pinned : Nat → Int32) (s_stored : Nat → Int32) (s_guides : Nat → Int32) (s_aside : Nat → Int32) (v10 : Int32) (t0 : Int64) (t1 : Int64) : Option ((Int64 × Int32 × Int32 × (Nat → Int32) × (Nat → Int32) × (Nat → Int32) × (Nat → Int32)) ⊕ (Int64 × Int32 × (Nat → Int32) × (Nat → Int32) × (Nat → Int32) × (Nat → Int32))) :=
  sx_lt (t0 + t1) fun x23 =>
  (fX5_putBack s_year s_pinned s_stored s_guides s_aside).bind fun (o24, o25, o26, o27) =>
  some (.inl (x23, v10 + (1 : Int32), o24, o25, o26, o27, s_aside))
def bX5_storms_80 (s_many : Int32) (s_windMany : Int32) (s_kindOf : Nat → Int32) (s_winds : Nat → Int32) (v1 : Int32) (v2 : Int32) (v3 : Int32) (v4 : Int32) : (Int64 × Int32 × Int32 × (Nat → Int32) × (Nat → Int32) × (Nat → Int32) × (Nat → Int32)) → Option ((Int64 × Int32 × Int32 × (Nat → Int32) × (Nat → Int32) × (Nat → Int32) × (Nat → Int32)) ⊕ (Int64 × Int32 × (Nat → Int32) × (Nat → Int32) × (Nat → Int32) × (Nat → Int32))) := fun (v6, v10, s_year, s_pinned, s_stored, s_guides, s_aside) =>
  if ((1 : Int32) <<< (v3 &&& 31)) ≤ v10 then
    some (.inr (v6, s_year, s_pinned, s_stored, s_guides, s_aside))
  else
    (fX5_begin s_year s_pinned s_stored s_guides s_aside).bind fun o9 =>
    (sx_it 1000 (bX5_storms_98 s_many s_windMany s_kindOf s_winds v3 v4 v10) ((1 : Int64), (0 : Int32), s_year, s_pinned, s_guides)).bind fun (w18, w19, w20, w21) =>
    sx_rd w20 30 (((5 : Int32) * v1) + v2) fun x22 =>
    if x22 ≤ 0 then
      jX5_storms_185 w19 w20 s_stored w21 o9 v10 v6 (0 : Int64)
    else
      jX5_storms_185 w19 w20 s_stored w21 o9 v10 v6 w18
def fX5_storms (s_many : Int32) (s_windMany : Int32) (s_year : Int32) (s_kindOf : Nat → Int32) (s_winds : Nat → Int32) (s_pinned : Nat → Int32) (s_stored : Nat → Int32) (s_guides : Nat → Int32) (s_aside : Nat → Int32) (v1 : Int32) (v2 : Int32) (v3 : Int32) (v4 : Int32) (v5 : Int32) : Option (Int32 × Int32 × (Nat → Int32) × (Nat → Int32) × (Nat → Int32) × (Nat → Int32)) :=
  (fX5_isPeak s_many v1).bind fun x1 =>
  if x1 = 0 then
    some ((-1 : Int32), s_year, s_pinned, s_stored, s_guides, s_aside)
  else
    (fX5_isTrimming v2).bind fun x2 =>
    if x2 = 0 then
      some ((-1 : Int32), s_year, s_pinned, s_stored, s_guides, s_aside)
    else
      (fX5_in v3 (0 : Int32) (8 : Int32)).bind fun x3 =>
      if x3 = 0 then
        some ((-1 : Int32), s_year, s_pinned, s_stored, s_guides, s_aside)
      else
        (fX5_in v4 (0 : Int32) (10 : Int32)).bind fun x4 =>
        if x4 = 0 then
          some ((-1 : Int32), s_year, s_pinned, s_stored, s_guides, s_aside)
        else
          (fX5_in v5 (0 : Int32) (1 : Int32)).bind fun x5 =>
          if x5 = 0 then
            some ((-1 : Int32), s_year, s_pinned, s_stored, s_guides, s_aside)
          else
            (sx_it 1000 (bX5_storms_57 v3) ((1 : Int64), (0 : Int32))).bind fun w8 =>
            (sx_it 1000 (bX5_storms_80 s_many s_windMany s_kindOf s_winds v1 v2 v3 v4) ((0 : Int64), (0 : Int32), s_year, s_pinned, s_stored, s_guides, s_aside)).bind fun (w29, w30, w31, w32, w33, w34) =>
            (fX5_common w29 w8).bind fun x35 =>
            if v5 = 0 then
              sx_nzl x35 <|
              some ((w29 / x35).toInt32, w30, w31, w32, w33, w34)
            else
              sx_nzl x35 <|
              some ((w8 / x35).toInt32, w30, w31, w32, w33, w34)
set_option maxHeartbeats 4000000 in
set_option maxRecDepth 100000 in
theorem lX5_storms_57 (d : sx_D) (κ : sx_C) (a : Nat → Nat) (s_many : Int32) (s_windMany : Int32) (s_year : Int32) (s_saidMany : Int32) (s_size : Int32) (s_readAt : Int32) (s_readPeaks : Int32) (s_readWinds : Int32) (s_readNumber : Int32) (s_undoMany : Int32) (s_keptMany : Int32) (s_kindOf : Nat → Int32) (s_winds : Nat → Int32) (s_pinned : Nat → Int32) (s_stored : Nat → Int32) (s_guides : Nat → Int32) (s_aside : Nat → Int32) (v1 : Int32) (v2 : Int32) (v3 : Int32) (v4 : Int32) (v5 : Int32) (v6 : Int64) (X : sx_X d κ cX5_storms 14 RX5 (sx_rm 3)) (y : Int64) (hE77 : ∀ (v8 : Int64), v8 = y → sx_G d κ 14 0 0 77 [some (.ref (a 0)), some (.int v1), some (.int v2), some (.int v3), some (.int v4), some (.int v5), some (.long v6), none, some (.long v8), none, none, none, none, none] [] [oX5 a s_many s_windMany s_year s_saidMany s_size s_readAt s_readPeaks s_readWinds s_readNumber s_undoMany s_keptMany, ai d (a 1) 6 s_kindOf, ai d (a 3) 12 s_winds, ai d (a 4) 30 s_pinned, ai d (a 5) 5 s_stored, ai d (a 6) 6 s_guides, ai d (a 16) 42 s_aside]) : ∀ (n : Nat) (s : Int64 × Int32), sx_it n (bX5_storms_57 v3) s = some y → (match s with | (v8, v10) => sx_G d κ 14 0 0 57 [some (.ref (a 0)), some (.int v1), some (.int v2), some (.int v3), some (.int v4), some (.int v5), some (.long v6), none, some (.long v8), none, some (.int v10), none, none, none] [] [oX5 a s_many s_windMany s_year s_saidMany s_size s_readAt s_readPeaks s_readWinds s_readNumber s_undoMany s_keptMany, ai d (a 1) 6 s_kindOf, ai d (a 3) 12 s_winds, ai d (a 4) 30 s_pinned, ai d (a 5) 5 s_stored, ai d (a 6) 6 s_guides, ai d (a 16) 42 s_aside]) := by
  refine sx_it_run (bX5_storms_57 v3) (fun s => match s with | (v8, v10) => sx_G d κ 14 0 0 57 [some (.ref (a 0)), some (.int v1), some (.int v2), some (.int v3), some (.int v4), some (.int v5), some (.long v6), none, some (.long v8), none, some (.int v10), none, none, none] [] [oX5 a s_many s_windMany s_year s_saidMany s_size s_readAt s_readPeaks s_readWinds s_readNumber s_undoMany s_keptMany, ai d (a 1) 6 s_kindOf, ai d (a 3) 12 s_winds, ai d (a 4) 30 s_pinned, ai d (a 5) 5 s_stored, ai d (a 6) 6 s_guides, ai d (a 16) 42 s_aside]) y ?_
  rintro ⟨v8, v10⟩ x hf hb he
  show sx_G d κ 14 0 0 57 [some (.ref (a 0)), some (.int v1), some (.int v2), some (.int v3), some (.int v4), some (.int v5), some (.long v6), none, some (.long v8), none, some (.int v10), none, none, none] [] [oX5 a s_many s_windMany s_year s_saidMany s_size s_readAt s_readPeaks s_readWinds s_readNumber s_undoMany s_keptMany, ai d (a 1) 6 s_kindOf, ai d (a 3) 12 s_winds, ai d (a 4) 30 s_pinned, ai d (a 5) 5 s_stored, ai d (a 6) 6 s_guides, ai d (a 16) 42 s_aside]
  unfold bX5_storms_57 at hf
  refine g_iload (pc' := 59) X dX5_storms_57 rfl rfl ?_
  refine g_iload_n (pc' := 60) X dX5_storms_59 rfl rfl rfl ?_
  refine g_icmp_ge (tgt := 77) (pc' := 63) X dX5_storms_60 (by decide) rfl hf (fun hf => ?_) (fun hf => ?_)
  · exact sx_weak [true, true, true, true, true, true, true, true, true, true, false, true, true, true] rfl (hE77 _ (sx_ex hf he))
  · refine g_lload (pc' := 65) X dX5_storms_63 rfl rfl ?_
    refine g_ldc2 (v := 10) (pc' := 68) X dX5_storms_65 rfl cs_X5_231 ?_
    refine g_lmul (pc' := 69) X dX5_storms_68 rfl ?_
    refine g_lstoreN (lv' := fun x6 => [some (.ref (a 0)), some (.int v1), some (.int v2), some (.int v3), some (.int v4), some (.int v5), some (.long v6), none, some (.long x6), none, some (.int v10), none, none, none]) (pc' := 71) X dX5_storms_69 rfl (by decide) rfl (fun _ => rfl) hf (fun x6 hf => ?_)
    refine g_iinc (v := 1) (lv' := [some (.ref (a 0)), some (.int v1), some (.int v2), some (.int v3), some (.int v4), some (.int v5), some (.long v6), none, some (.long x6), none, some (.int (v10 + (1 : Int32))), none, none, none]) (pc' := 74) X dX5_storms_71 rfl rfl (by decide) (by decide) rfl rfl ?_
    refine g_goto (tgt := 57) X dX5_storms_74 (by decide) ?_
    have hk := sx_bk hf hb
    exact sx_weak [true, true, true, true, true, true, true, true, true, true, true, true, true, true] rfl hk
set_option maxHeartbeats 4000000 in
set_option maxRecDepth 100000 in
theorem lX5_storms_98 (d : sx_D) (κ : sx_C) (a : Nat → Nat) (s_many : Int32) (s_windMany : Int32) (s_saidMany : Int32) (s_size : Int32) (s_readAt : Int32) (s_readPeaks : Int32) (s_readWinds : Int32) (s_readNumber : Int32) (s_undoMany : Int32) (s_keptMany : Int32) (s_kindOf : Nat → Int32) (s_winds : Nat → Int32) (s_stored : Nat → Int32) (s_aside : Nat → Int32) (v1 : Int32) (v2 : Int32) (v3 : Int32) (v4 : Int32) (v5 : Int32) (v6 : Int64) (v8 : Int64) (v10 : Int32) (X : sx_X d κ cX5_storms 14 RX5 (sx_rm 3)) (y : Int64 × Int32 × (Nat → Int32) × (Nat → Int32)) (hE164 : ∀ (v11 : Int64) (s_year : Int32) (s_pinned : Nat → Int32) (s_guides : Nat → Int32), (v11, s_year, s_pinned, s_guides) = y → sx_G d κ 14 0 0 164 [some (.ref (a 0)), some (.int v1), some (.int v2), some (.int v3), some (.int v4), some (.int v5), some (.long v6), none, some (.long v8), none, some (.int v10), some (.long v11), none, none] [] [oX5 a s_many s_windMany s_year s_saidMany s_size s_readAt s_readPeaks s_readWinds s_readNumber s_undoMany s_keptMany, ai d (a 1) 6 s_kindOf, ai d (a 3) 12 s_winds, ai d (a 4) 30 s_pinned, ai d (a 5) 5 s_stored, ai d (a 6) 6 s_guides, ai d (a 16) 42 s_aside]) : ∀ (n : Nat) (s : Int64 × Int32 × Int32 × (Nat → Int32) × (Nat → Int32)), sx_it n (bX5_storms_98 s_many s_windMany s_kindOf s_winds v3 v4 v10) s = some y → (match s with | (v11, v13, s_year, s_pinned, s_guides) => sx_G d κ 14 0 0 98 [some (.ref (a 0)), some (.int v1), some (.int v2), some (.int v3), some (.int v4), some (.int v5), some (.long v6), none, some (.long v8), none, some (.int v10), some (.long v11), none, some (.int v13)] [] [oX5 a s_many s_windMany s_year s_saidMany s_size s_readAt s_readPeaks s_readWinds s_readNumber s_undoMany s_keptMany, ai d (a 1) 6 s_kindOf, ai d (a 3) 12 s_winds, ai d (a 4) 30 s_pinned, ai d (a 5) 5 s_stored, ai d (a 6) 6 s_guides, ai d (a 16) 42 s_aside]) := by
  refine sx_it_run (bX5_storms_98 s_many s_windMany s_kindOf s_winds v3 v4 v10) (fun s => match s with | (v11, v13, s_year, s_pinned, s_guides) => sx_G d κ 14 0 0 98 [some (.ref (a 0)), some (.int v1), some (.int v2), some (.int v3), some (.int v4), some (.int v5), some (.long v6), none, some (.long v8), none, some (.int v10), some (.long v11), none, some (.int v13)] [] [oX5 a s_many s_windMany s_year s_saidMany s_size s_readAt s_readPeaks s_readWinds s_readNumber s_undoMany s_keptMany, ai d (a 1) 6 s_kindOf, ai d (a 3) 12 s_winds, ai d (a 4) 30 s_pinned, ai d (a 5) 5 s_stored, ai d (a 6) 6 s_guides, ai d (a 16) 42 s_aside]) y ?_
  rintro ⟨v11, v13, s_year, s_pinned, s_guides⟩ x hf hb he
  show sx_G d κ 14 0 0 98 [some (.ref (a 0)), some (.int v1), some (.int v2), some (.int v3), some (.int v4), some (.int v5), some (.long v6), none, some (.long v8), none, some (.int v10), some (.long v11), none, some (.int v13)] [] [oX5 a s_many s_windMany s_year s_saidMany s_size s_readAt s_readPeaks s_readWinds s_readNumber s_undoMany s_keptMany, ai d (a 1) 6 s_kindOf, ai d (a 3) 12 s_winds, ai d (a 4) 30 s_pinned, ai d (a 5) 5 s_stored, ai d (a 6) 6 s_guides, ai d (a 16) 42 s_aside]
  unfold bX5_storms_98 at hf
  refine g_iload (pc' := 100) X dX5_storms_98 rfl rfl ?_
  refine g_iload_n (pc' := 101) X dX5_storms_100 rfl rfl rfl ?_
  refine g_icmp_ge (tgt := 164) (pc' := 104) X dX5_storms_101 (by decide) rfl hf (fun hf => ?_) (fun hf => ?_)
  · exact sx_weak [true, true, true, true, true, true, true, true, true, true, true, true, true, false] rfl (hE164 _ _ _ _ (sx_ex hf he))
  · refine g_lload (pc' := 106) X dX5_storms_104 rfl rfl ?_
    refine g_iload (pc' := 108) X dX5_storms_106 rfl rfl ?_
    refine g_iload (pc' := 110) X dX5_storms_108 rfl rfl ?_
    refine g_callSi0 (pc' := 113) (As := [.int v10, .int v13]) (st := [.long v11]) (w2 := fun x10 => [oX5 a s_many s_windMany s_year s_saidMany s_size s_readAt s_readPeaks s_readWinds s_readNumber s_undoMany s_keptMany, ai d (a 1) 6 s_kindOf, ai d (a 3) 12 s_winds, ai d (a 4) 30 s_pinned, ai d (a 5) 5 s_stored, ai d (a 6) 6 s_guides, ai d (a 16) 42 s_aside]) X lk_X5_149 dX5_storms_110 rfl rfl rfl (Nat.le_of_ble_eq_true rfl) ⟨Nat.le_of_ble_eq_true rfl, Nat.le_of_ble_eq_true rfl, Nat.le_of_ble_eq_true rfl, Nat.le_of_ble_eq_true rfl⟩ [] (by decide) rfl hf (fun l x10 h => ctX5_has l d v10 v13 x10 h) (fun _ => rfl) (fun _ => rfl) (fun x10 hnx10 hf => ?_)
    have hjX5_storms_128 : ∀ (v13 : Int32) (t0 : Int64) (t1 : Int64) (s_year : Int32) (s_pinned : Nat → Int32) (s_guides : Nat → Int32), jX5_storms_128 s_many s_windMany s_year s_kindOf s_winds s_pinned s_guides v10 v13 t0 t1 = some x → sx_G d κ 14 0 0 128 [some (.ref (a 0)), some (.int v1), some (.int v2), some (.int v3), some (.int v4), some (.int v5), some (.long v6), none, some (.long v8), none, some (.int v10), none, none, some (.int v13)] [.long t1, .long t0] [oX5 a s_many s_windMany s_year s_saidMany s_size s_readAt s_readPeaks s_readWinds s_readNumber s_undoMany s_keptMany, ai d (a 1) 6 s_kindOf, ai d (a 3) 12 s_winds, ai d (a 4) 30 s_pinned, ai d (a 5) 5 s_stored, ai d (a 6) 6 s_guides, ai d (a 16) 42 s_aside] := by
      intro v13 t0 t1 s_year s_pinned s_guides hf
      unfold jX5_storms_128 at hf
      refine g_lmul (pc' := 129) X dX5_storms_128 rfl ?_
      refine g_lstoreN (lv' := fun x11 => [some (.ref (a 0)), some (.int v1), some (.int v2), some (.int v3), some (.int v4), some (.int v5), some (.long v6), none, some (.long v8), none, some (.int v10), some (.long x11), none, some (.int v13)]) (pc' := 131) X dX5_storms_129 rfl (by decide) rfl (fun _ => rfl) hf (fun x11 hf => ?_)
      refine g_aload_n (pc' := 132) X dX5_storms_131 rfl rfl rfl ?_
      refine g_iload (pc' := 134) X dX5_storms_132 rfl rfl ?_
      refine g_iload (pc' := 136) X dX5_storms_134 rfl rfl ?_
      refine g_callSi0 (pc' := 139) (As := [.int v10, .int v13]) (st := [.ref (a 0)]) (w2 := fun x12 => [oX5 a s_many s_windMany s_year s_saidMany s_size s_readAt s_readPeaks s_readWinds s_readNumber s_undoMany s_keptMany, ai d (a 1) 6 s_kindOf, ai d (a 3) 12 s_winds, ai d (a 4) 30 s_pinned, ai d (a 5) 5 s_stored, ai d (a 6) 6 s_guides, ai d (a 16) 42 s_aside]) X lk_X5_149 dX5_storms_136 rfl rfl rfl (Nat.le_of_ble_eq_true rfl) ⟨Nat.le_of_ble_eq_true rfl, Nat.le_of_ble_eq_true rfl, Nat.le_of_ble_eq_true rfl, Nat.le_of_ble_eq_true rfl⟩ [] (by decide) rfl hf (fun l x12 h => ctX5_has l d v10 v13 x12 h) (fun _ => rfl) (fun _ => rfl) (fun x12 hnx12 hf => ?_)
      have hjX5_storms_155 : ∀ (v11 : Int64) (v13 : Int32) (t1 : Int32) (s_year : Int32) (s_pinned : Nat → Int32) (s_guides : Nat → Int32), jX5_storms_155 s_many s_year s_kindOf s_pinned s_guides v11 v13 t1 = some x → sx_G d κ 14 0 0 155 [some (.ref (a 0)), some (.int v1), some (.int v2), some (.int v3), some (.int v4), some (.int v5), some (.long v6), none, some (.long v8), none, some (.int v10), some (.long v11), none, some (.int v13)] [.int t1, .ref (a 0)] [oX5 a s_many s_windMany s_year s_saidMany s_size s_readAt s_readPeaks s_readWinds s_readNumber s_undoMany s_keptMany, ai d (a 1) 6 s_kindOf, ai d (a 3) 12 s_winds, ai d (a 4) 30 s_pinned, ai d (a 5) 5 s_stored, ai d (a 6) 6 s_guides, ai d (a 16) 42 s_aside] := by
        intro v11 v13 t1 s_year s_pinned s_guides hf
        unfold jX5_storms_155 at hf
        refine g_callVv3 (pc' := 158) (As := [.int t1]) (b := (a 0)) (st := []) (w2 := fun o13 o14 o15 => [oX5 a s_many s_windMany o13 s_saidMany s_size s_readAt s_readPeaks s_readWinds s_readNumber s_undoMany s_keptMany, ai d (a 1) 6 s_kindOf, ai d (a 3) 12 s_winds, ai d (a 4) 30 o14, ai d (a 5) 5 s_stored, ai d (a 6) 6 o15, ai d (a 16) 42 s_aside]) X lk_X5_159 dX5_storms_155 rfl rfl rfl (Nat.le_of_ble_eq_true rfl) ⟨Nat.le_of_ble_eq_true rfl, Nat.le_of_ble_eq_true rfl, Nat.le_of_ble_eq_true rfl, Nat.le_of_ble_eq_true rfl⟩ rfl [0, 1, 3, 5] (by decide) rfl hf (fun l o13 o14 o15 h => ctX5_passesBy l d a s_many s_windMany s_year s_saidMany s_size s_readAt s_readPeaks s_readWinds s_readNumber s_undoMany s_keptMany s_kindOf s_pinned s_guides t1 o13 o14 o15 h) (fun _ _ _ => rfl) (fun _ _ _ => rfl) (fun o13 o14 o15 hf => ?_)
        refine g_iinc (v := 1) (lv' := [some (.ref (a 0)), some (.int v1), some (.int v2), some (.int v3), some (.int v4), some (.int v5), some (.long v6), none, some (.long v8), none, some (.int v10), some (.long v11), none, some (.int (v13 + (1 : Int32)))]) (pc' := 161) X dX5_storms_158 rfl rfl (by decide) (by decide) rfl rfl ?_
        refine g_goto (tgt := 98) X dX5_storms_161 (by decide) ?_
        have hk := sx_bk hf hb
        exact sx_weak [true, true, true, true, true, true, true, true, true, true, true, true, true, true] rfl hk
      refine g_if_eq (tgt := 147) (pc' := 142) X dX5_storms_139 (by decide) rfl hf (fun hf => ?_) (fun hf => ?_)
      · refine g_aload_n (pc' := 148) X dX5_storms_147 rfl rfl rfl ?_
        refine g_aload_n (pc' := 149) X dX5_storms_148 rfl rfl rfl ?_
        refine g_get (pc' := 152) X fl_X5_133 dX5_storms_149 rfl 0 rfl rfl ?_
        refine g_callVi0 (pc' := 155) (As := [.int s_year]) (b := (a 0)) (st := [.ref (a 0)]) (w2 := fun x16 => [oX5 a s_many s_windMany s_year s_saidMany s_size s_readAt s_readPeaks s_readWinds s_readNumber s_undoMany s_keptMany, ai d (a 1) 6 s_kindOf, ai d (a 3) 12 s_winds, ai d (a 4) 30 s_pinned, ai d (a 5) 5 s_stored, ai d (a 6) 6 s_guides, ai d (a 16) 42 s_aside]) X lk_X5_156 dX5_storms_152 rfl rfl rfl (Nat.le_of_ble_eq_true rfl) ⟨Nat.le_of_ble_eq_true rfl, Nat.le_of_ble_eq_true rfl, Nat.le_of_ble_eq_true rfl, Nat.le_of_ble_eq_true rfl⟩ rfl [0, 2] (by decide) rfl hf (fun l x16 h => ctX5_windOf l d a s_many s_windMany s_year s_saidMany s_size s_readAt s_readPeaks s_readWinds s_readNumber s_undoMany s_keptMany s_winds s_year x16 h) (fun _ => rfl) (fun _ => rfl) (fun x16 hnx16 hf => ?_)
        exact sx_weak [true, true, true, true, true, true, true, true, true, true, true, true, true, true] rfl (hjX5_storms_155 x11 v13 x16 s_year s_pinned s_guides hf)
      · refine g_bipush (v := 20) (pc' := 144) X dX5_storms_142 rfl (by decide) ?_
        refine g_goto (tgt := 155) X dX5_storms_144 (by decide) ?_
        exact sx_weak [true, true, true, true, true, true, true, true, true, true, true, true, true, true] rfl (hjX5_storms_155 x11 v13 (20 : Int32) s_year s_pinned s_guides hf)
    refine g_if_eq (tgt := 122) (pc' := 116) X dX5_storms_113 (by decide) rfl hf (fun hf => ?_) (fun hf => ?_)
    · refine g_bipush (v := 10) (pc' := 124) X dX5_storms_122 rfl (by decide) ?_
      refine g_iload (pc' := 126) X dX5_storms_124 rfl rfl ?_
      refine g_isub (pc' := 127) X dX5_storms_126 rfl ?_
      refine g_i2l (pc' := 128) X dX5_storms_127 rfl ?_
      exact sx_weak [true, true, true, true, true, true, true, true, true, true, true, false, true, true] rfl (hjX5_storms_128 v13 v11 (((10 : Int32) - v4).toInt64) s_year s_pinned s_guides hf)
    · refine g_iload (pc' := 118) X dX5_storms_116 rfl rfl ?_
      refine g_i2l (pc' := 119) X dX5_storms_118 rfl ?_
      refine g_goto (tgt := 128) X dX5_storms_119 (by decide) ?_
      exact sx_weak [true, true, true, true, true, true, true, true, true, true, true, false, true, true] rfl (hjX5_storms_128 v13 v11 v4.toInt64 s_year s_pinned s_guides hf)
set_option maxHeartbeats 4000000 in
set_option maxRecDepth 100000 in
theorem lX5_storms_80 (d : sx_D) (κ : sx_C) (a : Nat → Nat) (s_many : Int32) (s_windMany : Int32) (s_saidMany : Int32) (s_size : Int32) (s_readAt : Int32) (s_readPeaks : Int32) (s_readWinds : Int32) (s_readNumber : Int32) (s_undoMany : Int32) (s_keptMany : Int32) (s_kindOf : Nat → Int32) (s_winds : Nat → Int32) (v1 : Int32) (v2 : Int32) (v3 : Int32) (v4 : Int32) (v5 : Int32) (v8 : Int64) (X : sx_X d κ cX5_storms 14 RX5 (sx_rm 3)) (y : Int64 × Int32 × (Nat → Int32) × (Nat → Int32) × (Nat → Int32) × (Nat → Int32)) (hE198 : ∀ (v6 : Int64) (s_year : Int32) (s_pinned : Nat → Int32) (s_stored : Nat → Int32) (s_guides : Nat → Int32) (s_aside : Nat → Int32), (v6, s_year, s_pinned, s_stored, s_guides, s_aside) = y → sx_G d κ 14 0 0 198 [none, none, none, none, none, some (.int v5), some (.long v6), none, some (.long v8), none, none, none, none, none] [] [oX5 a s_many s_windMany s_year s_saidMany s_size s_readAt s_readPeaks s_readWinds s_readNumber s_undoMany s_keptMany, ai d (a 1) 6 s_kindOf, ai d (a 3) 12 s_winds, ai d (a 4) 30 s_pinned, ai d (a 5) 5 s_stored, ai d (a 6) 6 s_guides, ai d (a 16) 42 s_aside]) : ∀ (n : Nat) (s : Int64 × Int32 × Int32 × (Nat → Int32) × (Nat → Int32) × (Nat → Int32) × (Nat → Int32)), sx_it n (bX5_storms_80 s_many s_windMany s_kindOf s_winds v1 v2 v3 v4) s = some y → (match s with | (v6, v10, s_year, s_pinned, s_stored, s_guides, s_aside) => sx_G d κ 14 0 0 80 [some (.ref (a 0)), some (.int v1), some (.int v2), some (.int v3), some (.int v4), some (.int v5), some (.long v6), none, some (.long v8), none, some (.int v10), none, none, none] [] [oX5 a s_many s_windMany s_year s_saidMany s_size s_readAt s_readPeaks s_readWinds s_readNumber s_undoMany s_keptMany, ai d (a 1) 6 s_kindOf, ai d (a 3) 12 s_winds, ai d (a 4) 30 s_pinned, ai d (a 5) 5 s_stored, ai d (a 6) 6 s_guides, ai d (a 16) 42 s_aside]) := by
  refine sx_it_run (bX5_storms_80 s_many s_windMany s_kindOf s_winds v1 v2 v3 v4) (fun s => match s with | (v6, v10, s_year, s_pinned, s_stored, s_guides, s_aside) => sx_G d κ 14 0 0 80 [some (.ref (a 0)), some (.int v1), some (.int v2), some (.int v3), some (.int v4), some (.int v5), some (.long v6), none, some (.long v8), none, some (.int v10), none, none, none] [] [oX5 a s_many s_windMany s_year s_saidMany s_size s_readAt s_readPeaks s_readWinds s_readNumber s_undoMany s_keptMany, ai d (a 1) 6 s_kindOf, ai d (a 3) 12 s_winds, ai d (a 4) 30 s_pinned, ai d (a 5) 5 s_stored, ai d (a 6) 6 s_guides, ai d (a 16) 42 s_aside]) y ?_
  rintro ⟨v6, v10, s_year, s_pinned, s_stored, s_guides, s_aside⟩ x hf hb he
  show sx_G d κ 14 0 0 80 [some (.ref (a 0)), some (.int v1), some (.int v2), some (.int v3), some (.int v4), some (.int v5), some (.long v6), none, some (.long v8), none, some (.int v10), none, none, none] [] [oX5 a s_many s_windMany s_year s_saidMany s_size s_readAt s_readPeaks s_readWinds s_readNumber s_undoMany s_keptMany, ai d (a 1) 6 s_kindOf, ai d (a 3) 12 s_winds, ai d (a 4) 30 s_pinned, ai d (a 5) 5 s_stored, ai d (a 6) 6 s_guides, ai d (a 16) 42 s_aside]
  unfold bX5_storms_80 at hf
  refine g_iload (pc' := 82) X dX5_storms_80 rfl rfl ?_
  refine g_iconst (v := 1) (pc' := 83) X dX5_storms_82 rfl (by decide) ?_
  refine g_iload_n (pc' := 84) X dX5_storms_83 rfl rfl rfl ?_
  refine g_ishl (pc' := 85) X dX5_storms_84 rfl ?_
  refine g_icmp_ge (tgt := 198) (pc' := 88) X dX5_storms_85 (by decide) rfl hf (fun hf => ?_) (fun hf => ?_)
  · exact sx_weak [false, false, false, false, false, true, true, true, true, true, false, true, true, true] rfl (hE198 _ _ _ _ _ _ (sx_ex hf he))
  · refine g_lconst (v := 1) (pc' := 89) X dX5_storms_88 rfl (by decide) ?_
    refine g_lstore (lv' := [some (.ref (a 0)), some (.int v1), some (.int v2), some (.int v3), some (.int v4), some (.int v5), some (.long v6), none, some (.long v8), none, some (.int v10), some (.long (1 : Int64)), none, none]) (pc' := 91) X dX5_storms_89 rfl (by decide) rfl rfl ?_
    refine g_aload_n (pc' := 92) X dX5_storms_91 rfl rfl rfl ?_
    refine g_callVv1 (pc' := 95) (As := []) (b := (a 0)) (st := []) (w2 := fun o9 => [oX5 a s_many s_windMany s_year s_saidMany s_size s_readAt s_readPeaks s_readWinds s_readNumber s_undoMany s_keptMany, ai d (a 1) 6 s_kindOf, ai d (a 3) 12 s_winds, ai d (a 4) 30 s_pinned, ai d (a 5) 5 s_stored, ai d (a 6) 6 s_guides, ai d (a 16) 42 o9]) X lk_X5_202 dX5_storms_92 rfl rfl rfl (Nat.le_of_ble_eq_true rfl) ⟨Nat.le_of_ble_eq_true rfl, Nat.le_of_ble_eq_true rfl, Nat.le_of_ble_eq_true rfl, Nat.le_of_ble_eq_true rfl⟩ rfl [0, 3, 4, 5, 6] (by decide) rfl hf (fun l o9 h => ctX5_begin l d a s_many s_windMany s_year s_saidMany s_size s_readAt s_readPeaks s_readWinds s_readNumber s_undoMany s_keptMany s_pinned s_stored s_guides s_aside o9 h) (fun _ => rfl) (fun _ => rfl) (fun o9 hf => ?_)
    refine g_iconst (v := 0) (pc' := 96) X dX5_storms_95 rfl (by decide) ?_
    refine g_istore (lv' := [some (.ref (a 0)), some (.int v1), some (.int v2), some (.int v3), some (.int v4), some (.int v5), some (.long v6), none, some (.long v8), none, some (.int v10), some (.long (1 : Int64)), none, some (.int (0 : Int32))]) (pc' := 98) X dX5_storms_96 rfl (by decide) rfl rfl ?_
    obtain ⟨y17, hy17, hf⟩ := sx_bd hf
    refine sx_weak [true, true, true, true, true, true, true, true, true, true, true, true, true, true] rfl (lX5_storms_98 d κ a s_many s_windMany s_saidMany s_size s_readAt s_readPeaks s_readWinds s_readNumber s_undoMany s_keptMany s_kindOf s_winds s_stored o9 v1 v2 v3 v4 v5 v6 v8 v10 X y17 ?_ 1000 ((1 : Int64), (0 : Int32), s_year, s_pinned, s_guides) hy17)
    rintro w18 w19 w20 w21 rfl
    refine g_lload (pc' := 166) X dX5_storms_164 rfl rfl ?_
    refine g_aload_n (pc' := 167) X dX5_storms_166 rfl rfl rfl ?_
    refine g_get (pc' := 170) X fl_X5_19 dX5_storms_167 rfl 0 rfl rfl ?_
    refine g_iconst (v := 5) (pc' := 171) X dX5_storms_170 rfl (by decide) ?_
    refine g_iload_n (pc' := 172) X dX5_storms_171 rfl rfl rfl ?_
    refine g_imul (pc' := 173) X dX5_storms_172 rfl ?_
    refine g_iload_n (pc' := 174) X dX5_storms_173 rfl rfl rfl ?_
    refine g_iadd (pc' := 175) X dX5_storms_174 rfl ?_
    refine g_iald (pc' := 176) X dX5_storms_175 rfl 3 rfl hf (fun x22 hf => ?_)
    have hjX5_storms_185 : ∀ (v10 : Int32) (t0 : Int64) (t1 : Int64) (s_year : Int32) (s_pinned : Nat → Int32) (s_stored : Nat → Int32) (s_guides : Nat → Int32) (s_aside : Nat → Int32), jX5_storms_185 s_year s_pinned s_stored s_guides s_aside v10 t0 t1 = some x → sx_G d κ 14 0 0 185 [some (.ref (a 0)), some (.int v1), some (.int v2), some (.int v3), some (.int v4), some (.int v5), none, none, some (.long v8), none, some (.int v10), none, none, none] [.long t1, .long t0] [oX5 a s_many s_windMany s_year s_saidMany s_size s_readAt s_readPeaks s_readWinds s_readNumber s_undoMany s_keptMany, ai d (a 1) 6 s_kindOf, ai d (a 3) 12 s_winds, ai d (a 4) 30 s_pinned, ai d (a 5) 5 s_stored, ai d (a 6) 6 s_guides, ai d (a 16) 42 s_aside] := by
      intro v10 t0 t1 s_year s_pinned s_stored s_guides s_aside hf
      unfold jX5_storms_185 at hf
      refine g_ladd (pc' := 186) X dX5_storms_185 rfl ?_
      refine g_lstoreN (lv' := fun x23 => [some (.ref (a 0)), some (.int v1), some (.int v2), some (.int v3), some (.int v4), some (.int v5), some (.long x23), none, some (.long v8), none, some (.int v10), none, none, none]) (pc' := 188) X dX5_storms_186 rfl (by decide) rfl (fun _ => rfl) hf (fun x23 hf => ?_)
      refine g_aload_n (pc' := 189) X dX5_storms_188 rfl rfl rfl ?_
      refine g_callVv4 (pc' := 192) (As := []) (b := (a 0)) (st := []) (w2 := fun o24 o25 o26 o27 => [oX5 a s_many s_windMany o24 s_saidMany s_size s_readAt s_readPeaks s_readWinds s_readNumber s_undoMany s_keptMany, ai d (a 1) 6 s_kindOf, ai d (a 3) 12 s_winds, ai d (a 4) 30 o25, ai d (a 5) 5 o26, ai d (a 6) 6 o27, ai d (a 16) 42 s_aside]) X lk_X5_205 dX5_storms_189 rfl rfl rfl (Nat.le_of_ble_eq_true rfl) ⟨Nat.le_of_ble_eq_true rfl, Nat.le_of_ble_eq_true rfl, Nat.le_of_ble_eq_true rfl, Nat.le_of_ble_eq_true rfl⟩ rfl [0, 3, 4, 5, 6] (by decide) rfl hf (fun l o24 o25 o26 o27 h => ctX5_putBack l d a s_many s_windMany s_year s_saidMany s_size s_readAt s_readPeaks s_readWinds s_readNumber s_undoMany s_keptMany s_pinned s_stored s_guides s_aside o24 o25 o26 o27 h) (fun _ _ _ _ => rfl) (fun _ _ _ _ => rfl) (fun o24 o25 o26 o27 hf => ?_)
      refine g_iinc (v := 1) (lv' := [some (.ref (a 0)), some (.int v1), some (.int v2), some (.int v3), some (.int v4), some (.int v5), some (.long x23), none, some (.long v8), none, some (.int (v10 + (1 : Int32))), none, none, none]) (pc' := 195) X dX5_storms_192 rfl rfl (by decide) (by decide) rfl rfl ?_
      refine g_goto (tgt := 80) X dX5_storms_195 (by decide) ?_
      have hk := sx_bk hf hb
      exact sx_weak [true, true, true, true, true, true, true, true, true, true, true, true, true, true] rfl hk
    refine g_if_le (tgt := 184) (pc' := 179) X dX5_storms_176 (by decide) rfl hf (fun hf => ?_) (fun hf => ?_)
    · refine g_lconst (v := 0) (pc' := 185) X dX5_storms_184 rfl (by decide) ?_
      exact sx_weak [true, true, true, true, true, true, false, true, true, true, true, false, true, true] rfl (hjX5_storms_185 v10 v6 (0 : Int64) w19 w20 s_stored w21 o9 hf)
    · refine g_lload (pc' := 181) X dX5_storms_179 rfl rfl ?_
      refine g_goto (tgt := 185) X dX5_storms_181 (by decide) ?_
      exact sx_weak [true, true, true, true, true, true, false, true, true, true, true, false, true, true] rfl (hjX5_storms_185 v10 v6 w18 w19 w20 s_stored w21 o9 hf)
set_option maxHeartbeats 4000000 in
set_option maxRecDepth 100000 in
theorem ctX5_storms (l : Launch) (d : sx_D) (a : Nat → Nat) (s_many : Int32) (s_windMany : Int32) (s_year : Int32) (s_saidMany : Int32) (s_size : Int32) (s_readAt : Int32) (s_readPeaks : Int32) (s_readWinds : Int32) (s_readNumber : Int32) (s_undoMany : Int32) (s_keptMany : Int32) (s_kindOf : Nat → Int32) (s_winds : Nat → Int32) (s_pinned : Nat → Int32) (s_stored : Nat → Int32) (s_guides : Nat → Int32) (s_aside : Nat → Int32) (v1 : Int32) (v2 : Int32) (v3 : Int32) (v4 : Int32) (v5 : Int32) (r : Int32) (ro1 : Int32) (ro2 : Nat → Int32) (ro3 : Nat → Int32) (ro4 : Nat → Int32) (ro5 : Nat → Int32) (hf : fX5_storms s_many s_windMany s_year s_kindOf s_winds s_pinned s_stored s_guides s_aside v1 v2 v3 v4 v5 = some (r, ro1, ro2, ro3, ro4, ro5)) : sx_I l d yX5_storms cX5_storms 14 .int 3 [.ref (a 0), .int v1, .int v2, .int v3, .int v4, .int v5] [oX5 a s_many s_windMany s_year s_saidMany s_size s_readAt s_readPeaks s_readWinds s_readNumber s_undoMany s_keptMany, ai d (a 1) 6 s_kindOf, ai d (a 3) 12 s_winds, ai d (a 4) 30 s_pinned, ai d (a 5) 5 s_stored, ai d (a 6) 6 s_guides, ai d (a 16) 42 s_aside] [oX5 a s_many s_windMany ro1 s_saidMany s_size s_readAt s_readPeaks s_readWinds s_readNumber s_undoMany s_keptMany, ai d (a 1) 6 s_kindOf, ai d (a 3) 12 s_winds, ai d (a 4) 30 ro2, ai d (a 5) 5 ro3, ai d (a 6) 6 ro4, ai d (a 16) 42 ro5] r := by
  refine sx_I.intro (lv0 := [some (.ref (a 0)), some (.int v1), some (.int v2), some (.int v3), some (.int v4), some (.int v5), none, none, none, none, none, none, none, none]) (by decide +kernel) (Nat.le_of_ble_eq_true rfl) rfl ?_
  intro κ X hR
  have X : sx_X d κ cX5_storms 14 RX5 (sx_rm 3) := X
  unfold fX5_storms at hf
  refine g_aload_n (pc' := 1) X dX5_storms_0 rfl rfl rfl ?_
  refine g_iload_n (pc' := 2) X dX5_storms_1 rfl rfl rfl ?_
  refine g_callVi0 (pc' := 5) (As := [.int v1]) (b := (a 0)) (st := []) (w2 := fun x1 => [oX5 a s_many s_windMany s_year s_saidMany s_size s_readAt s_readPeaks s_readWinds s_readNumber s_undoMany s_keptMany, ai d (a 1) 6 s_kindOf, ai d (a 3) 12 s_winds, ai d (a 4) 30 s_pinned, ai d (a 5) 5 s_stored, ai d (a 6) 6 s_guides, ai d (a 16) 42 s_aside]) X lk_X5_163 dX5_storms_2 rfl rfl rfl (Nat.le_of_ble_eq_true rfl) ⟨Nat.le_of_ble_eq_true rfl, Nat.le_of_ble_eq_true rfl, Nat.le_of_ble_eq_true rfl, Nat.le_of_ble_eq_true rfl⟩ rfl [0] (by decide) rfl hf (fun l x1 h => ctX5_isPeak l d a s_many s_windMany s_year s_saidMany s_size s_readAt s_readPeaks s_readWinds s_readNumber s_undoMany s_keptMany v1 x1 h) (fun _ => rfl) (fun _ => rfl) (fun x1 hnx1 hf => ?_)
  refine g_if_eq (tgt := 46) (pc' := 8) X dX5_storms_5 (by decide) rfl hf (fun hf => ?_) (fun hf => ?_)
  · refine g_iconst (v := -1) (pc' := 47) X dX5_storms_46 rfl (by decide) ?_
    cases hf
    exact hR _ _ dX5_storms_47 rfl
  · refine g_iload_n (pc' := 9) X dX5_storms_8 rfl rfl rfl ?_
    refine g_callSi0 (pc' := 12) (As := [.int v2]) (st := []) (w2 := fun x2 => [oX5 a s_many s_windMany s_year s_saidMany s_size s_readAt s_readPeaks s_readWinds s_readNumber s_undoMany s_keptMany, ai d (a 1) 6 s_kindOf, ai d (a 3) 12 s_winds, ai d (a 4) 30 s_pinned, ai d (a 5) 5 s_stored, ai d (a 6) 6 s_guides, ai d (a 16) 42 s_aside]) X lk_X5_170 dX5_storms_9 rfl rfl rfl (Nat.le_of_ble_eq_true rfl) ⟨Nat.le_of_ble_eq_true rfl, Nat.le_of_ble_eq_true rfl, Nat.le_of_ble_eq_true rfl, Nat.le_of_ble_eq_true rfl⟩ [] (by decide) rfl hf (fun l x2 h => ctX5_isTrimming l d v2 x2 h) (fun _ => rfl) (fun _ => rfl) (fun x2 hnx2 hf => ?_)
    refine g_if_eq (tgt := 46) (pc' := 15) X dX5_storms_12 (by decide) rfl hf (fun hf => ?_) (fun hf => ?_)
    · refine g_iconst (v := -1) (pc' := 47) X dX5_storms_46 rfl (by decide) ?_
      cases hf
      exact hR _ _ dX5_storms_47 rfl
    · refine g_iload_n (pc' := 16) X dX5_storms_15 rfl rfl rfl ?_
      refine g_iconst (v := 0) (pc' := 17) X dX5_storms_16 rfl (by decide) ?_
      refine g_bipush (v := 8) (pc' := 19) X dX5_storms_17 rfl (by decide) ?_
      refine g_callSi0 (pc' := 22) (As := [.int v3, .int (0 : Int32), .int (8 : Int32)]) (st := []) (w2 := fun x3 => [oX5 a s_many s_windMany s_year s_saidMany s_size s_readAt s_readPeaks s_readWinds s_readNumber s_undoMany s_keptMany, ai d (a 1) 6 s_kindOf, ai d (a 3) 12 s_winds, ai d (a 4) 30 s_pinned, ai d (a 5) 5 s_stored, ai d (a 6) 6 s_guides, ai d (a 16) 42 s_aside]) X lk_X5_81 dX5_storms_19 rfl rfl rfl (Nat.le_of_ble_eq_true rfl) ⟨Nat.le_of_ble_eq_true rfl, Nat.le_of_ble_eq_true rfl, Nat.le_of_ble_eq_true rfl, Nat.le_of_ble_eq_true rfl⟩ [] (by decide) rfl hf (fun l x3 h => ctX5_in l d v3 (0 : Int32) (8 : Int32) x3 h) (fun _ => rfl) (fun _ => rfl) (fun x3 hnx3 hf => ?_)
      refine g_if_eq (tgt := 46) (pc' := 25) X dX5_storms_22 (by decide) rfl hf (fun hf => ?_) (fun hf => ?_)
      · refine g_iconst (v := -1) (pc' := 47) X dX5_storms_46 rfl (by decide) ?_
        cases hf
        exact hR _ _ dX5_storms_47 rfl
      · refine g_iload (pc' := 27) X dX5_storms_25 rfl rfl ?_
        refine g_iconst (v := 0) (pc' := 28) X dX5_storms_27 rfl (by decide) ?_
        refine g_bipush (v := 10) (pc' := 30) X dX5_storms_28 rfl (by decide) ?_
        refine g_callSi0 (pc' := 33) (As := [.int v4, .int (0 : Int32), .int (10 : Int32)]) (st := []) (w2 := fun x4 => [oX5 a s_many s_windMany s_year s_saidMany s_size s_readAt s_readPeaks s_readWinds s_readNumber s_undoMany s_keptMany, ai d (a 1) 6 s_kindOf, ai d (a 3) 12 s_winds, ai d (a 4) 30 s_pinned, ai d (a 5) 5 s_stored, ai d (a 6) 6 s_guides, ai d (a 16) 42 s_aside]) X lk_X5_81 dX5_storms_30 rfl rfl rfl (Nat.le_of_ble_eq_true rfl) ⟨Nat.le_of_ble_eq_true rfl, Nat.le_of_ble_eq_true rfl, Nat.le_of_ble_eq_true rfl, Nat.le_of_ble_eq_true rfl⟩ [] (by decide) rfl hf (fun l x4 h => ctX5_in l d v4 (0 : Int32) (10 : Int32) x4 h) (fun _ => rfl) (fun _ => rfl) (fun x4 hnx4 hf => ?_)
        refine g_if_eq (tgt := 46) (pc' := 36) X dX5_storms_33 (by decide) rfl hf (fun hf => ?_) (fun hf => ?_)
        · refine g_iconst (v := -1) (pc' := 47) X dX5_storms_46 rfl (by decide) ?_
          cases hf
          exact hR _ _ dX5_storms_47 rfl
        · refine g_iload (pc' := 38) X dX5_storms_36 rfl rfl ?_
          refine g_iconst (v := 0) (pc' := 39) X dX5_storms_38 rfl (by decide) ?_
          refine g_iconst (v := 1) (pc' := 40) X dX5_storms_39 rfl (by decide) ?_
          refine g_callSi0 (pc' := 43) (As := [.int v5, .int (0 : Int32), .int (1 : Int32)]) (st := []) (w2 := fun x5 => [oX5 a s_many s_windMany s_year s_saidMany s_size s_readAt s_readPeaks s_readWinds s_readNumber s_undoMany s_keptMany, ai d (a 1) 6 s_kindOf, ai d (a 3) 12 s_winds, ai d (a 4) 30 s_pinned, ai d (a 5) 5 s_stored, ai d (a 6) 6 s_guides, ai d (a 16) 42 s_aside]) X lk_X5_81 dX5_storms_40 rfl rfl rfl (Nat.le_of_ble_eq_true rfl) ⟨Nat.le_of_ble_eq_true rfl, Nat.le_of_ble_eq_true rfl, Nat.le_of_ble_eq_true rfl, Nat.le_of_ble_eq_true rfl⟩ [] (by decide) rfl hf (fun l x5 h => ctX5_in l d v5 (0 : Int32) (1 : Int32) x5 h) (fun _ => rfl) (fun _ => rfl) (fun x5 hnx5 hf => ?_)
          refine g_if_ne (tgt := 48) (pc' := 46) X dX5_storms_43 (by decide) rfl hf (fun hf => ?_) (fun hf => ?_)
          · refine g_lconst (v := 0) (pc' := 49) X dX5_storms_48 rfl (by decide) ?_
            refine g_lstore (lv' := [some (.ref (a 0)), some (.int v1), some (.int v2), some (.int v3), some (.int v4), some (.int v5), some (.long (0 : Int64)), none, none, none, none, none, none, none]) (pc' := 51) X dX5_storms_49 rfl (by decide) rfl rfl ?_
            refine g_lconst (v := 1) (pc' := 52) X dX5_storms_51 rfl (by decide) ?_
            refine g_lstore (lv' := [some (.ref (a 0)), some (.int v1), some (.int v2), some (.int v3), some (.int v4), some (.int v5), some (.long (0 : Int64)), none, some (.long (1 : Int64)), none, none, none, none, none]) (pc' := 54) X dX5_storms_52 rfl (by decide) rfl rfl ?_
            refine g_iconst (v := 0) (pc' := 55) X dX5_storms_54 rfl (by decide) ?_
            refine g_istore (lv' := [some (.ref (a 0)), some (.int v1), some (.int v2), some (.int v3), some (.int v4), some (.int v5), some (.long (0 : Int64)), none, some (.long (1 : Int64)), none, some (.int (0 : Int32)), none, none, none]) (pc' := 57) X dX5_storms_55 rfl (by decide) rfl rfl ?_
            obtain ⟨y7, hy7, hf⟩ := sx_bd hf
            refine sx_weak [true, true, true, true, true, true, true, true, true, true, true, true, true, true] rfl (lX5_storms_57 d κ a s_many s_windMany s_year s_saidMany s_size s_readAt s_readPeaks s_readWinds s_readNumber s_undoMany s_keptMany s_kindOf s_winds s_pinned s_stored s_guides s_aside v1 v2 v3 v4 v5 (0 : Int64) X y7 ?_ 1000 ((1 : Int64), (0 : Int32)) hy7)
            rintro w8 rfl
            refine g_iconst (v := 0) (pc' := 78) X dX5_storms_77 rfl (by decide) ?_
            refine g_istore (lv' := [some (.ref (a 0)), some (.int v1), some (.int v2), some (.int v3), some (.int v4), some (.int v5), some (.long (0 : Int64)), none, some (.long w8), none, some (.int (0 : Int32)), none, none, none]) (pc' := 80) X dX5_storms_78 rfl (by decide) rfl rfl ?_
            obtain ⟨y28, hy28, hf⟩ := sx_bd hf
            refine sx_weak [true, true, true, true, true, true, true, true, true, true, true, true, true, true] rfl (lX5_storms_80 d κ a s_many s_windMany s_saidMany s_size s_readAt s_readPeaks s_readWinds s_readNumber s_undoMany s_keptMany s_kindOf s_winds v1 v2 v3 v4 v5 w8 X y28 ?_ 1000 ((0 : Int64), (0 : Int32), s_year, s_pinned, s_stored, s_guides, s_aside) hy28)
            rintro w29 w30 w31 w32 w33 w34 rfl
            refine g_lload (pc' := 200) X dX5_storms_198 rfl rfl ?_
            refine g_lload (pc' := 202) X dX5_storms_200 rfl rfl ?_
            refine g_callSl0 (pc' := 205) (As := [.long w29, .long w8]) (st := []) (w2 := fun x35 => [oX5 a s_many s_windMany w30 s_saidMany s_size s_readAt s_readPeaks s_readWinds s_readNumber s_undoMany s_keptMany, ai d (a 1) 6 s_kindOf, ai d (a 3) 12 s_winds, ai d (a 4) 30 w31, ai d (a 5) 5 w32, ai d (a 6) 6 w33, ai d (a 16) 42 w34]) X lk_X5_233 dX5_storms_202 rfl rfl rfl (Nat.le_of_ble_eq_true rfl) ⟨Nat.le_of_ble_eq_true rfl, Nat.le_of_ble_eq_true rfl, Nat.le_of_ble_eq_true rfl, Nat.le_of_ble_eq_true rfl⟩ [] (by decide) rfl hf (fun l x35 h => ctX5_common l d w29 w8 x35 h) (fun _ => rfl) (fun _ => rfl) (fun x35 hf => ?_)
            refine g_lstore (lv' := [none, none, none, none, none, some (.int v5), some (.long w29), none, some (.long w8), none, some (.long x35), none, none, none]) (pc' := 207) X dX5_storms_205 rfl (by decide) rfl rfl ?_
            refine g_iload (pc' := 209) X dX5_storms_207 rfl rfl ?_
            refine g_if_ne (tgt := 220) (pc' := 212) X dX5_storms_209 (by decide) rfl hf (fun hf => ?_) (fun hf => ?_)
            · refine g_lload (pc' := 222) X dX5_storms_220 rfl rfl ?_
              refine g_lload (pc' := 224) X dX5_storms_222 rfl rfl ?_
              refine g_ldivZ (pc' := 225) X dX5_storms_224 rfl hf (fun hf => ?_)
              refine g_l2i (pc' := 226) X dX5_storms_225 rfl ?_
              cases hf
              exact hR _ _ dX5_storms_226 rfl
            · refine g_lload (pc' := 214) X dX5_storms_212 rfl rfl ?_
              refine g_lload (pc' := 216) X dX5_storms_214 rfl rfl ?_
              refine g_ldivZ (pc' := 217) X dX5_storms_216 rfl hf (fun hf => ?_)
              refine g_goto (tgt := 225) X dX5_storms_217 (by decide) ?_
              refine g_l2i (pc' := 226) X dX5_storms_225 rfl ?_
              cases hf
              exact hR _ _ dX5_storms_226 rfl
          · refine g_iconst (v := -1) (pc' := 47) X dX5_storms_46 rfl (by decide) ?_
            cases hf
            exact hR _ _ dX5_storms_47 rfl
-- X5_onMany
def bX5_onMany_4 (s_many : Int32) (s_pinned : Nat → Int32) : (Int32 × Int32) → Option ((Int32 × Int32) ⊕ (Int32)) := fun (v1, v2) =>
  if ((5 : Int32) * s_many) ≤ v2 then
    some (.inr v1)
  else
    sx_rd s_pinned 30 v2 fun x1 =>
    if x1 ≤ 0 then
      sx_lt (v1 + (0 : Int32)) fun x2 =>
      some (.inl (x2, v2 + (1 : Int32)))
    else
      sx_lt (v1 + (1 : Int32)) fun x3 =>
      some (.inl (x3, v2 + (1 : Int32)))
def fX5_onMany (s_many : Int32) (s_pinned : Nat → Int32) : Option (Int32) :=
  (sx_it 1000 (bX5_onMany_4 s_many s_pinned) ((0 : Int32), (0 : Int32))).bind fun w5 =>
  some w5
set_option maxHeartbeats 4000000 in
set_option maxRecDepth 100000 in
theorem lX5_onMany_4 (d : sx_D) (κ : sx_C) (a : Nat → Nat) (s_many : Int32) (s_windMany : Int32) (s_year : Int32) (s_saidMany : Int32) (s_size : Int32) (s_readAt : Int32) (s_readPeaks : Int32) (s_readWinds : Int32) (s_readNumber : Int32) (s_undoMany : Int32) (s_keptMany : Int32) (s_pinned : Nat → Int32) (X : sx_X d κ cX5_onMany 3 RX5 (sx_rm 0)) (y : Int32) (hE37 : ∀ (v1 : Int32), v1 = y → sx_G d κ 3 0 0 37 [none, some (.int v1), none] [] [oX5 a s_many s_windMany s_year s_saidMany s_size s_readAt s_readPeaks s_readWinds s_readNumber s_undoMany s_keptMany, ai d (a 4) 30 s_pinned]) : ∀ (n : Nat) (s : Int32 × Int32), sx_it n (bX5_onMany_4 s_many s_pinned) s = some y → (match s with | (v1, v2) => sx_G d κ 3 0 0 4 [some (.ref (a 0)), some (.int v1), some (.int v2)] [] [oX5 a s_many s_windMany s_year s_saidMany s_size s_readAt s_readPeaks s_readWinds s_readNumber s_undoMany s_keptMany, ai d (a 4) 30 s_pinned]) := by
  refine sx_it_run (bX5_onMany_4 s_many s_pinned) (fun s => match s with | (v1, v2) => sx_G d κ 3 0 0 4 [some (.ref (a 0)), some (.int v1), some (.int v2)] [] [oX5 a s_many s_windMany s_year s_saidMany s_size s_readAt s_readPeaks s_readWinds s_readNumber s_undoMany s_keptMany, ai d (a 4) 30 s_pinned]) y ?_
  rintro ⟨v1, v2⟩ x hf hb he
  show sx_G d κ 3 0 0 4 [some (.ref (a 0)), some (.int v1), some (.int v2)] [] [oX5 a s_many s_windMany s_year s_saidMany s_size s_readAt s_readPeaks s_readWinds s_readNumber s_undoMany s_keptMany, ai d (a 4) 30 s_pinned]
  unfold bX5_onMany_4 at hf
  refine g_iload_n (pc' := 5) X dX5_onMany_4 rfl rfl rfl ?_
  refine g_iconst (v := 5) (pc' := 6) X dX5_onMany_5 rfl (by decide) ?_
  refine g_aload_n (pc' := 7) X dX5_onMany_6 rfl rfl rfl ?_
  refine g_get (pc' := 10) X fl_X5_78 dX5_onMany_7 rfl 0 rfl rfl ?_
  refine g_imul (pc' := 11) X dX5_onMany_10 rfl ?_
  refine g_icmp_ge (tgt := 37) (pc' := 14) X dX5_onMany_11 (by decide) rfl hf (fun hf => ?_) (fun hf => ?_)
  · exact sx_weak [false, true, false] rfl (hE37 _ (sx_ex hf he))
  · refine g_iload_n (pc' := 15) X dX5_onMany_14 rfl rfl rfl ?_
    refine g_aload_n (pc' := 16) X dX5_onMany_15 rfl rfl rfl ?_
    refine g_get (pc' := 19) X fl_X5_19 dX5_onMany_16 rfl 0 rfl rfl ?_
    refine g_iload_n (pc' := 20) X dX5_onMany_19 rfl rfl rfl ?_
    refine g_iald (pc' := 21) X dX5_onMany_20 rfl 1 rfl hf (fun x1 hf => ?_)
    refine g_if_le (tgt := 28) (pc' := 24) X dX5_onMany_21 (by decide) rfl hf (fun hf => ?_) (fun hf => ?_)
    · refine g_iconst (v := 0) (pc' := 29) X dX5_onMany_28 rfl (by decide) ?_
      refine g_iadd (pc' := 30) X dX5_onMany_29 rfl ?_
      refine g_istore_nN (lv' := fun x2 => [some (.ref (a 0)), some (.int x2), some (.int v2)]) (pc' := 31) X dX5_onMany_30 rfl rfl (by decide) rfl (fun _ => rfl) hf (fun x2 hf => ?_)
      refine g_iinc (v := 1) (lv' := [some (.ref (a 0)), some (.int x2), some (.int (v2 + (1 : Int32)))]) (pc' := 34) X dX5_onMany_31 rfl rfl (by decide) (by decide) rfl rfl ?_
      refine g_goto (tgt := 4) X dX5_onMany_34 (by decide) ?_
      have hk := sx_bk hf hb
      exact sx_weak [true, true, true] rfl hk
    · refine g_iconst (v := 1) (pc' := 25) X dX5_onMany_24 rfl (by decide) ?_
      refine g_goto (tgt := 29) X dX5_onMany_25 (by decide) ?_
      refine g_iadd (pc' := 30) X dX5_onMany_29 rfl ?_
      refine g_istore_nN (lv' := fun x3 => [some (.ref (a 0)), some (.int x3), some (.int v2)]) (pc' := 31) X dX5_onMany_30 rfl rfl (by decide) rfl (fun _ => rfl) hf (fun x3 hf => ?_)
      refine g_iinc (v := 1) (lv' := [some (.ref (a 0)), some (.int x3), some (.int (v2 + (1 : Int32)))]) (pc' := 34) X dX5_onMany_31 rfl rfl (by decide) (by decide) rfl rfl ?_
      refine g_goto (tgt := 4) X dX5_onMany_34 (by decide) ?_
      have hk := sx_bk hf hb
      exact sx_weak [true, true, true] rfl hk
set_option maxHeartbeats 4000000 in
set_option maxRecDepth 100000 in
theorem ctX5_onMany (l : Launch) (d : sx_D) (a : Nat → Nat) (s_many : Int32) (s_windMany : Int32) (s_year : Int32) (s_saidMany : Int32) (s_size : Int32) (s_readAt : Int32) (s_readPeaks : Int32) (s_readWinds : Int32) (s_readNumber : Int32) (s_undoMany : Int32) (s_keptMany : Int32) (s_pinned : Nat → Int32) (r : Int32) (hf : fX5_onMany s_many s_pinned = some r) : sx_I l d yX5_onMany cX5_onMany 3 .int 0 [.ref (a 0)] [oX5 a s_many s_windMany s_year s_saidMany s_size s_readAt s_readPeaks s_readWinds s_readNumber s_undoMany s_keptMany, ai d (a 4) 30 s_pinned] [oX5 a s_many s_windMany s_year s_saidMany s_size s_readAt s_readPeaks s_readWinds s_readNumber s_undoMany s_keptMany, ai d (a 4) 30 s_pinned] r := by
  refine sx_I.intro (lv0 := [some (.ref (a 0)), none, none]) (by decide +kernel) (Nat.le_of_ble_eq_true rfl) rfl ?_
  intro κ X hR
  have X : sx_X d κ cX5_onMany 3 RX5 (sx_rm 0) := X
  unfold fX5_onMany at hf
  refine g_iconst (v := 0) (pc' := 1) X dX5_onMany_0 rfl (by decide) ?_
  refine g_istore_n (lv' := [some (.ref (a 0)), some (.int (0 : Int32)), none]) (pc' := 2) X dX5_onMany_1 rfl rfl (by decide) rfl rfl ?_
  refine g_iconst (v := 0) (pc' := 3) X dX5_onMany_2 rfl (by decide) ?_
  refine g_istore_n (lv' := [some (.ref (a 0)), some (.int (0 : Int32)), some (.int (0 : Int32))]) (pc' := 4) X dX5_onMany_3 rfl rfl (by decide) rfl rfl ?_
  obtain ⟨y4, hy4, hf⟩ := sx_bd hf
  refine sx_weak [true, true, true] rfl (lX5_onMany_4 d κ a s_many s_windMany s_year s_saidMany s_size s_readAt s_readPeaks s_readWinds s_readNumber s_undoMany s_keptMany s_pinned X y4 ?_ 1000 ((0 : Int32), (0 : Int32)) hy4)
  rintro w5 rfl
  refine g_iload_n (pc' := 38) X dX5_onMany_37 rfl rfl rfl ?_
  cases hf
  exact hR _ _ dX5_onMany_38 rfl
-- X5_century
def jX5_century_217 (s_many : Int32) (s_windMany : Int32) (s_year : Int32) (s_kindOf : Nat → Int32) (s_winds : Nat → Int32) (s_pinned : Nat → Int32) (s_stored : Nat → Int32) (s_guides : Nat → Int32) (v4 : Int32) : Option ((Int32 × Int32 × (Nat → Int32) × (Nat → Int32) × (Nat → Int32)) ⊕ (Int32 × (Nat → Int32) × (Nat → Int32) × (Nat → Int32))) :=
  (fX5_goesOn s_many s_windMany s_year s_kindOf s_winds s_pinned s_guides (1 : Int32)).bind fun (o11, o12, o13) =>
  some (.inl (v4 + (1 : Int32), o11, o12, s_stored, o13))
def jX5_century_189 (s_many : Int32) (s_windMany : Int32) (s_year : Int32) (s_kindOf : Nat → Int32) (s_winds : Nat → Int32) (s_pinned : Nat → Int32) (s_stored : Nat → Int32) (s_guides : Nat → Int32) (v4 : Int32) (v7 : Int32) (v8 : Int32) (v9 : Int32) (v10 : Int32) (v11 : Int32) : Option ((Int32 × Int32 × (Nat → Int32) × (Nat → Int32) × (Nat → Int32)) ⊕ (Int32 × (Nat → Int32) × (Nat → Int32) × (Nat → Int32))) :=
  if (v7 - v7 / (8 : Int32) * (8 : Int32)) = (4 : Int32) then
    if v11 = 0 then
      jX5_century_217 s_many s_windMany s_year s_kindOf s_winds s_pinned s_stored s_guides v4
    else
      sx_wr s_pinned 30 (((5 : Int32) * v8) + v9) v10 fun g14 =>
      jX5_century_217 s_many s_windMany s_year s_kindOf s_winds g14 s_stored s_guides v4
  else
    jX5_century_217 s_many s_windMany s_year s_kindOf s_winds s_pinned s_stored s_guides v4
def jX5_century_164 (s_many : Int32) (s_windMany : Int32) (s_year : Int32) (s_kindOf : Nat → Int32) (s_winds : Nat → Int32) (s_pinned : Nat → Int32) (s_stored : Nat → Int32) (s_guides : Nat → Int32) (v4 : Int32) (v7 : Int32) (v8 : Int32) (v9 : Int32) (v10 : Int32) (v11 : Int32) : Option ((Int32 × Int32 × (Nat → Int32) × (Nat → Int32) × (Nat → Int32)) ⊕ (Int32 × (Nat → Int32) × (Nat → Int32) × (Nat → Int32))) :=
  if (v7 - v7 / (8 : Int32) * (8 : Int32)) = (3 : Int32) then
    if v11 = 0 then
      jX5_century_189 s_many s_windMany s_year s_kindOf s_winds s_pinned s_stored s_guides v4 v7 v8 v9 v10 v11
    else
      (fX5_takesOff s_pinned s_stored v8 v9).bind fun (o15, o16) =>
      jX5_century_217 s_many s_windMany s_year s_kindOf s_winds o15 o16 s_guides v4
  else
    jX5_century_189 s_many s_windMany s_year s_kindOf s_winds s_pinned s_stored s_guides v4 v7 v8 v9 v10 v11
def jX5_century_129 (s_many : Int32) (s_windMany : Int32) (s_year : Int32) (s_kindOf : Nat → Int32) (s_winds : Nat → Int32) (s_pinned : Nat → Int32) (s_stored : Nat → Int32) (s_guides : Nat → Int32) (v4 : Int32) (v7 : Int32) (v8 : Int32) (v9 : Int32) (v10 : Int32) (t0 : Int32) : Option ((Int32 × Int32 × (Nat → Int32) × (Nat → Int32) × (Nat → Int32)) ⊕ (Int32 × (Nat → Int32) × (Nat → Int32) × (Nat → Int32))) :=
  if (3 : Int32) ≤ (v7 - v7 / (8 : Int32) * (8 : Int32)) then
    jX5_century_164 s_many s_windMany s_year s_kindOf s_winds s_pinned s_stored s_guides v4 v7 v8 v9 v10 t0
  else
    (fX5_mayPut s_pinned s_stored v8 v9).bind fun x17 =>
    if x17 = 0 then
      jX5_century_164 s_many s_windMany s_year s_kindOf s_winds s_pinned s_stored s_guides v4 v7 v8 v9 v10 t0
    else
      (fX5_puts s_pinned s_stored v8 v9 v10).bind fun (o18, o19) =>
      jX5_century_217 s_many s_windMany s_year s_kindOf s_winds o18 o19 s_guides v4
def bX5_century_39 (s_many : Int32) (s_windMany : Int32) (s_kindOf : Nat → Int32) (s_winds : Nat → Int32) (v1 : Int32) (v2 : Int32) : (Int32 × Int32 × (Nat → Int32) × (Nat → Int32) × (Nat → Int32)) → Option ((Int32 × Int32 × (Nat → Int32) × (Nat → Int32) × (Nat → Int32)) ⊕ (Int32 × (Nat → Int32) × (Nat → Int32) × (Nat → Int32))) := fun (v4, s_year, s_pinned, s_stored, s_guides) =>
  if v2 ≤ v4 then
    some (.inr (s_year, s_pinned, s_stored, s_guides))
  else
    sx_lt ((((7919 : Int64) * v1.toInt64) + ((6151 : Int64) * v4.toInt64)) + (1 : Int64)) fun x5 =>
    sx_lt (((x5 * x5) - (x5 * x5) / (65521 : Int64) * (65521 : Int64)).toInt32) fun x6 =>
    sx_nz s_many <|
    sx_lt ((x6 / (8 : Int32)) - (x6 / (8 : Int32)) / s_many * s_many) fun x7 =>
    sx_lt ((x6 / (64 : Int32)) - (x6 / (64 : Int32)) / (5 : Int32) * (5 : Int32)) fun x8 =>
    sx_lt (((x6 / (512 : Int32)) - (x6 / (512 : Int32)) / (9 : Int32) * (9 : Int32)) + (1 : Int32)) fun x9 =>
    sx_rd s_pinned 30 (((5 : Int32) * x7) + x8) fun x10 =>
    if x10 ≤ 0 then
      jX5_century_129 s_many s_windMany s_year s_kindOf s_winds s_pinned s_stored s_guides v4 x6 x7 x8 x9 (0 : Int32)
    else
      jX5_century_129 s_many s_windMany s_year s_kindOf s_winds s_pinned s_stored s_guides v4 x6 x7 x8 x9 (1 : Int32)
def jX5_century_243 (s_year : Int32) (s_pinned : Nat → Int32) (s_stored : Nat → Int32) (s_guides : Nat → Int32) (s_aside : Nat → Int32) (t0 : Int32) : Option (Int32 × Int32 × (Nat → Int32) × (Nat → Int32) × (Nat → Int32) × (Nat → Int32)) :=
  (fX5_putBack s_year s_pinned s_stored s_guides s_aside).bind fun (o25, o26, o27, o28) =>
  some (t0, o25, o26, o27, o28, s_aside)
def fX5_century (s_many : Int32) (s_windMany : Int32) (s_year : Int32) (s_kindOf : Nat → Int32) (s_winds : Nat → Int32) (s_pinned : Nat → Int32) (s_stored : Nat → Int32) (s_guides : Nat → Int32) (s_aside : Nat → Int32) (v1 : Int32) (v2 : Int32) (v3 : Int32) : Option (Int32 × Int32 × (Nat → Int32) × (Nat → Int32) × (Nat → Int32) × (Nat → Int32)) :=
  (fX5_in v1 (0 : Int32) (9999 : Int32)).bind fun x1 =>
  if x1 = 0 then
    some ((-1 : Int32), s_year, s_pinned, s_stored, s_guides, s_aside)
  else
    (fX5_in v2 (1 : Int32) (60 : Int32)).bind fun x2 =>
    if x2 = 0 then
      some ((-1 : Int32), s_year, s_pinned, s_stored, s_guides, s_aside)
    else
      (fX5_in v3 (0 : Int32) (1 : Int32)).bind fun x3 =>
      if x3 = 0 then
        some ((-1 : Int32), s_year, s_pinned, s_stored, s_guides, s_aside)
      else
        (fX5_begin s_year s_pinned s_stored s_guides s_aside).bind fun o4 =>
        (sx_it 1000 (bX5_century_39 s_many s_windMany s_kindOf s_winds v1 v2) ((0 : Int32), s_year, s_pinned, s_stored, s_guides)).bind fun (w21, w22, w23, w24) =>
        if v3 = 0 then
          (fX5_onMany s_many w22).bind fun x30 =>
          jX5_century_243 w21 w22 w23 w24 o4 x30
        else
          (fX5_pairsAlike s_many w22).bind fun x29 =>
          jX5_century_243 w21 w22 w23 w24 o4 x29
set_option maxHeartbeats 4000000 in
set_option maxRecDepth 100000 in
theorem lX5_century_39 (d : sx_D) (κ : sx_C) (a : Nat → Nat) (s_many : Int32) (s_windMany : Int32) (s_saidMany : Int32) (s_size : Int32) (s_readAt : Int32) (s_readPeaks : Int32) (s_readWinds : Int32) (s_readNumber : Int32) (s_undoMany : Int32) (s_keptMany : Int32) (s_kindOf : Nat → Int32) (s_winds : Nat → Int32) (s_aside : Nat → Int32) (v1 : Int32) (v2 : Int32) (v3 : Int32) (X : sx_X d κ cX5_century 12 RX5 (sx_rm 4)) (y : Int32 × (Nat → Int32) × (Nat → Int32) × (Nat → Int32)) (hE228 : ∀ (s_year : Int32) (s_pinned : Nat → Int32) (s_stored : Nat → Int32) (s_guides : Nat → Int32), (s_year, s_pinned, s_stored, s_guides) = y → sx_G d κ 12 0 0 228 [some (.ref (a 0)), none, none, some (.int v3), none, none, none, none, none, none, none, none] [] [oX5 a s_many s_windMany s_year s_saidMany s_size s_readAt s_readPeaks s_readWinds s_readNumber s_undoMany s_keptMany, ai d (a 1) 6 s_kindOf, ai d (a 3) 12 s_winds, ai d (a 4) 30 s_pinned, ai d (a 5) 5 s_stored, ai d (a 6) 6 s_guides, ai d (a 16) 42 s_aside]) : ∀ (n : Nat) (s : Int32 × Int32 × (Nat → Int32) × (Nat → Int32) × (Nat → Int32)), sx_it n (bX5_century_39 s_many s_windMany s_kindOf s_winds v1 v2) s = some y → (match s with | (v4, s_year, s_pinned, s_stored, s_guides) => sx_G d κ 12 0 0 39 [some (.ref (a 0)), some (.int v1), some (.int v2), some (.int v3), some (.int v4), none, none, none, none, none, none, none] [] [oX5 a s_many s_windMany s_year s_saidMany s_size s_readAt s_readPeaks s_readWinds s_readNumber s_undoMany s_keptMany, ai d (a 1) 6 s_kindOf, ai d (a 3) 12 s_winds, ai d (a 4) 30 s_pinned, ai d (a 5) 5 s_stored, ai d (a 6) 6 s_guides, ai d (a 16) 42 s_aside]) := by
  refine sx_it_run (bX5_century_39 s_many s_windMany s_kindOf s_winds v1 v2) (fun s => match s with | (v4, s_year, s_pinned, s_stored, s_guides) => sx_G d κ 12 0 0 39 [some (.ref (a 0)), some (.int v1), some (.int v2), some (.int v3), some (.int v4), none, none, none, none, none, none, none] [] [oX5 a s_many s_windMany s_year s_saidMany s_size s_readAt s_readPeaks s_readWinds s_readNumber s_undoMany s_keptMany, ai d (a 1) 6 s_kindOf, ai d (a 3) 12 s_winds, ai d (a 4) 30 s_pinned, ai d (a 5) 5 s_stored, ai d (a 6) 6 s_guides, ai d (a 16) 42 s_aside]) y ?_
  rintro ⟨v4, s_year, s_pinned, s_stored, s_guides⟩ x hf hb he
  show sx_G d κ 12 0 0 39 [some (.ref (a 0)), some (.int v1), some (.int v2), some (.int v3), some (.int v4), none, none, none, none, none, none, none] [] [oX5 a s_many s_windMany s_year s_saidMany s_size s_readAt s_readPeaks s_readWinds s_readNumber s_undoMany s_keptMany, ai d (a 1) 6 s_kindOf, ai d (a 3) 12 s_winds, ai d (a 4) 30 s_pinned, ai d (a 5) 5 s_stored, ai d (a 6) 6 s_guides, ai d (a 16) 42 s_aside]
  unfold bX5_century_39 at hf
  refine g_iload (pc' := 41) X dX5_century_39 rfl rfl ?_
  refine g_iload_n (pc' := 42) X dX5_century_41 rfl rfl rfl ?_
  refine g_icmp_ge (tgt := 228) (pc' := 45) X dX5_century_42 (by decide) rfl hf (fun hf => ?_) (fun hf => ?_)
  · exact sx_weak [true, false, false, true, false, true, true, true, true, true, true, true] rfl (hE228 _ _ _ _ (sx_ex hf he))
  · refine g_ldc2 (v := 7919) (pc' := 48) X dX5_century_45 rfl cs_X5_237 ?_
    refine g_iload_n (pc' := 49) X dX5_century_48 rfl rfl rfl ?_
    refine g_i2l (pc' := 50) X dX5_century_49 rfl ?_
    refine g_lmul (pc' := 51) X dX5_century_50 rfl ?_
    refine g_ldc2 (v := 6151) (pc' := 54) X dX5_century_51 rfl cs_X5_239 ?_
    refine g_iload (pc' := 56) X dX5_century_54 rfl rfl ?_
    refine g_i2l (pc' := 57) X dX5_century_56 rfl ?_
    refine g_lmul (pc' := 58) X dX5_century_57 rfl ?_
    refine g_ladd (pc' := 59) X dX5_century_58 rfl ?_
    refine g_lconst (v := 1) (pc' := 60) X dX5_century_59 rfl (by decide) ?_
    refine g_ladd (pc' := 61) X dX5_century_60 rfl ?_
    refine g_lstoreN (lv' := fun x5 => [some (.ref (a 0)), some (.int v1), some (.int v2), some (.int v3), some (.int v4), some (.long x5), none, none, none, none, none, none]) (pc' := 63) X dX5_century_61 rfl (by decide) rfl (fun _ => rfl) hf (fun x5 hf => ?_)
    refine g_lload (pc' := 65) X dX5_century_63 rfl rfl ?_
    refine g_lload (pc' := 67) X dX5_century_65 rfl rfl ?_
    refine g_lmul (pc' := 68) X dX5_century_67 rfl ?_
    refine g_ldc2 (v := 65521) (pc' := 71) X dX5_century_68 rfl cs_X5_241 ?_
    refine g_lrem (pc' := 72) X dX5_century_71 rfl (by decide) ?_
    refine g_l2i (pc' := 73) X dX5_century_72 rfl ?_
    refine g_istoreN (lv' := fun x6 => [some (.ref (a 0)), some (.int v1), some (.int v2), some (.int v3), some (.int v4), some (.long x5), none, some (.int x6), none, none, none, none]) (pc' := 75) X dX5_century_73 rfl (by decide) rfl (fun _ => rfl) hf (fun x6 hf => ?_)
    refine g_iload (pc' := 77) X dX5_century_75 rfl rfl ?_
    refine g_bipush (v := 8) (pc' := 79) X dX5_century_77 rfl (by decide) ?_
    refine g_idiv (pc' := 80) X dX5_century_79 rfl (by decide) ?_
    refine g_aload_n (pc' := 81) X dX5_century_80 rfl rfl rfl ?_
    refine g_get (pc' := 84) X fl_X5_78 dX5_century_81 rfl 0 rfl rfl ?_
    refine g_iremZ (pc' := 85) X dX5_century_84 rfl hf (fun hf => ?_)
    refine g_istoreN (lv' := fun x7 => [some (.ref (a 0)), some (.int v1), some (.int v2), some (.int v3), some (.int v4), some (.long x5), none, some (.int x6), some (.int x7), none, none, none]) (pc' := 87) X dX5_century_85 rfl (by decide) rfl (fun _ => rfl) hf (fun x7 hf => ?_)
    refine g_iload (pc' := 89) X dX5_century_87 rfl rfl ?_
    refine g_bipush (v := 64) (pc' := 91) X dX5_century_89 rfl (by decide) ?_
    refine g_idiv (pc' := 92) X dX5_century_91 rfl (by decide) ?_
    refine g_iconst (v := 5) (pc' := 93) X dX5_century_92 rfl (by decide) ?_
    refine g_irem (pc' := 94) X dX5_century_93 rfl (by decide) ?_
    refine g_istoreN (lv' := fun x8 => [some (.ref (a 0)), some (.int v1), some (.int v2), some (.int v3), some (.int v4), some (.long x5), none, some (.int x6), some (.int x7), some (.int x8), none, none]) (pc' := 96) X dX5_century_94 rfl (by decide) rfl (fun _ => rfl) hf (fun x8 hf => ?_)
    refine g_iload (pc' := 98) X dX5_century_96 rfl rfl ?_
    refine g_sipush (v := 512) (pc' := 101) X dX5_century_98 rfl (by decide) ?_
    refine g_idiv (pc' := 102) X dX5_century_101 rfl (by decide) ?_
    refine g_bipush (v := 9) (pc' := 104) X dX5_century_102 rfl (by decide) ?_
    refine g_irem (pc' := 105) X dX5_century_104 rfl (by decide) ?_
    refine g_iconst (v := 1) (pc' := 106) X dX5_century_105 rfl (by decide) ?_
    refine g_iadd (pc' := 107) X dX5_century_106 rfl ?_
    refine g_istoreN (lv' := fun x9 => [some (.ref (a 0)), some (.int v1), some (.int v2), some (.int v3), some (.int v4), some (.long x5), none, some (.int x6), some (.int x7), some (.int x8), some (.int x9), none]) (pc' := 109) X dX5_century_107 rfl (by decide) rfl (fun _ => rfl) hf (fun x9 hf => ?_)
    refine g_aload_n (pc' := 110) X dX5_century_109 rfl rfl rfl ?_
    refine g_get (pc' := 113) X fl_X5_19 dX5_century_110 rfl 0 rfl rfl ?_
    refine g_iconst (v := 5) (pc' := 114) X dX5_century_113 rfl (by decide) ?_
    refine g_iload (pc' := 116) X dX5_century_114 rfl rfl ?_
    refine g_imul (pc' := 117) X dX5_century_116 rfl ?_
    refine g_iload (pc' := 119) X dX5_century_117 rfl rfl ?_
    refine g_iadd (pc' := 120) X dX5_century_119 rfl ?_
    refine g_iald (pc' := 121) X dX5_century_120 rfl 3 rfl hf (fun x10 hf => ?_)
    have hjX5_century_129 : ∀ (v4 : Int32) (v7 : Int32) (v8 : Int32) (v9 : Int32) (v10 : Int32) (t0 : Int32) (s_year : Int32) (s_pinned : Nat → Int32) (s_stored : Nat → Int32) (s_guides : Nat → Int32), jX5_century_129 s_many s_windMany s_year s_kindOf s_winds s_pinned s_stored s_guides v4 v7 v8 v9 v10 t0 = some x → sx_G d κ 12 0 0 129 [some (.ref (a 0)), some (.int v1), some (.int v2), some (.int v3), some (.int v4), none, none, some (.int v7), some (.int v8), some (.int v9), some (.int v10), none] [.int t0] [oX5 a s_many s_windMany s_year s_saidMany s_size s_readAt s_readPeaks s_readWinds s_readNumber s_undoMany s_keptMany, ai d (a 1) 6 s_kindOf, ai d (a 3) 12 s_winds, ai d (a 4) 30 s_pinned, ai d (a 5) 5 s_stored, ai d (a 6) 6 s_guides, ai d (a 16) 42 s_aside] := by
      intro v4 v7 v8 v9 v10 t0 s_year s_pinned s_stored s_guides hf
      unfold jX5_century_129 at hf
      refine g_istore (lv' := [some (.ref (a 0)), some (.int v1), some (.int v2), some (.int v3), some (.int v4), none, none, some (.int v7), some (.int v8), some (.int v9), some (.int v10), some (.int t0)]) (pc' := 131) X dX5_century_129 rfl (by decide) rfl rfl ?_
      refine g_iload (pc' := 133) X dX5_century_131 rfl rfl ?_
      refine g_bipush (v := 8) (pc' := 135) X dX5_century_133 rfl (by decide) ?_
      refine g_irem (pc' := 136) X dX5_century_135 rfl (by decide) ?_
      refine g_iconst (v := 3) (pc' := 137) X dX5_century_136 rfl (by decide) ?_
      have hjX5_century_217 : ∀ (v4 : Int32) (s_year : Int32) (s_pinned : Nat → Int32) (s_stored : Nat → Int32) (s_guides : Nat → Int32), jX5_century_217 s_many s_windMany s_year s_kindOf s_winds s_pinned s_stored s_guides v4 = some x → sx_G d κ 12 0 0 217 [some (.ref (a 0)), some (.int v1), some (.int v2), some (.int v3), some (.int v4), none, none, none, none, none, none, none] [] [oX5 a s_many s_windMany s_year s_saidMany s_size s_readAt s_readPeaks s_readWinds s_readNumber s_undoMany s_keptMany, ai d (a 1) 6 s_kindOf, ai d (a 3) 12 s_winds, ai d (a 4) 30 s_pinned, ai d (a 5) 5 s_stored, ai d (a 6) 6 s_guides, ai d (a 16) 42 s_aside] := by
        intro v4 s_year s_pinned s_stored s_guides hf
        unfold jX5_century_217 at hf
        refine g_aload_n (pc' := 218) X dX5_century_217 rfl rfl rfl ?_
        refine g_iconst (v := 1) (pc' := 219) X dX5_century_218 rfl (by decide) ?_
        refine g_callVv3 (pc' := 222) (As := [.int (1 : Int32)]) (b := (a 0)) (st := []) (w2 := fun o11 o12 o13 => [oX5 a s_many s_windMany o11 s_saidMany s_size s_readAt s_readPeaks s_readWinds s_readNumber s_undoMany s_keptMany, ai d (a 1) 6 s_kindOf, ai d (a 3) 12 s_winds, ai d (a 4) 30 o12, ai d (a 5) 5 s_stored, ai d (a 6) 6 o13, ai d (a 16) 42 s_aside]) X lk_X5_190 dX5_century_219 rfl rfl rfl (Nat.le_of_ble_eq_true rfl) ⟨Nat.le_of_ble_eq_true rfl, Nat.le_of_ble_eq_true rfl, Nat.le_of_ble_eq_true rfl, Nat.le_of_ble_eq_true rfl⟩ rfl [0, 1, 2, 3, 5] (by decide) rfl hf (fun l o11 o12 o13 h => ctX5_goesOn l d a s_many s_windMany s_year s_saidMany s_size s_readAt s_readPeaks s_readWinds s_readNumber s_undoMany s_keptMany s_kindOf s_winds s_pinned s_guides (1 : Int32) o11 o12 o13 h) (fun _ _ _ => rfl) (fun _ _ _ => rfl) (fun o11 o12 o13 hf => ?_)
        refine g_iinc (v := 1) (lv' := [some (.ref (a 0)), some (.int v1), some (.int v2), some (.int v3), some (.int (v4 + (1 : Int32))), none, none, none, none, none, none, none]) (pc' := 225) X dX5_century_222 rfl rfl (by decide) (by decide) rfl rfl ?_
        refine g_goto (tgt := 39) X dX5_century_225 (by decide) ?_
        have hk := sx_bk hf hb
        exact sx_weak [true, true, true, true, true, true, true, true, true, true, true, true] rfl hk
      have hjX5_century_164 : ∀ (v4 : Int32) (v7 : Int32) (v8 : Int32) (v9 : Int32) (v10 : Int32) (v11 : Int32) (s_year : Int32) (s_pinned : Nat → Int32) (s_stored : Nat → Int32) (s_guides : Nat → Int32), jX5_century_164 s_many s_windMany s_year s_kindOf s_winds s_pinned s_stored s_guides v4 v7 v8 v9 v10 v11 = some x → sx_G d κ 12 0 0 164 [some (.ref (a 0)), some (.int v1), some (.int v2), some (.int v3), some (.int v4), none, none, some (.int v7), some (.int v8), some (.int v9), some (.int v10), some (.int v11)] [] [oX5 a s_many s_windMany s_year s_saidMany s_size s_readAt s_readPeaks s_readWinds s_readNumber s_undoMany s_keptMany, ai d (a 1) 6 s_kindOf, ai d (a 3) 12 s_winds, ai d (a 4) 30 s_pinned, ai d (a 5) 5 s_stored, ai d (a 6) 6 s_guides, ai d (a 16) 42 s_aside] := by
        intro v4 v7 v8 v9 v10 v11 s_year s_pinned s_stored s_guides hf
        unfold jX5_century_164 at hf
        refine g_iload (pc' := 166) X dX5_century_164 rfl rfl ?_
        refine g_bipush (v := 8) (pc' := 168) X dX5_century_166 rfl (by decide) ?_
        refine g_irem (pc' := 169) X dX5_century_168 rfl (by decide) ?_
        refine g_iconst (v := 3) (pc' := 170) X dX5_century_169 rfl (by decide) ?_
        have hjX5_century_189 : ∀ (v4 : Int32) (v7 : Int32) (v8 : Int32) (v9 : Int32) (v10 : Int32) (v11 : Int32) (s_year : Int32) (s_pinned : Nat → Int32) (s_stored : Nat → Int32) (s_guides : Nat → Int32), jX5_century_189 s_many s_windMany s_year s_kindOf s_winds s_pinned s_stored s_guides v4 v7 v8 v9 v10 v11 = some x → sx_G d κ 12 0 0 189 [some (.ref (a 0)), some (.int v1), some (.int v2), some (.int v3), some (.int v4), none, none, some (.int v7), some (.int v8), some (.int v9), some (.int v10), some (.int v11)] [] [oX5 a s_many s_windMany s_year s_saidMany s_size s_readAt s_readPeaks s_readWinds s_readNumber s_undoMany s_keptMany, ai d (a 1) 6 s_kindOf, ai d (a 3) 12 s_winds, ai d (a 4) 30 s_pinned, ai d (a 5) 5 s_stored, ai d (a 6) 6 s_guides, ai d (a 16) 42 s_aside] := by
          intro v4 v7 v8 v9 v10 v11 s_year s_pinned s_stored s_guides hf
          unfold jX5_century_189 at hf
          refine g_iload (pc' := 191) X dX5_century_189 rfl rfl ?_
          refine g_bipush (v := 8) (pc' := 193) X dX5_century_191 rfl (by decide) ?_
          refine g_irem (pc' := 194) X dX5_century_193 rfl (by decide) ?_
          refine g_iconst (v := 4) (pc' := 195) X dX5_century_194 rfl (by decide) ?_
          refine g_icmp_ne (tgt := 217) (pc' := 198) X dX5_century_195 (by decide) rfl hf (fun hf => ?_) (fun hf => ?_)
          · exact sx_weak [true, true, true, true, true, true, true, false, false, false, false, false] rfl (hjX5_century_217 v4 s_year s_pinned s_stored s_guides hf)
          · refine g_iload (pc' := 200) X dX5_century_198 rfl rfl ?_
            refine g_if_eq (tgt := 217) (pc' := 203) X dX5_century_200 (by decide) rfl hf (fun hf => ?_) (fun hf => ?_)
            · exact sx_weak [true, true, true, true, true, true, true, false, false, false, false, false] rfl (hjX5_century_217 v4 s_year s_pinned s_stored s_guides hf)
            · refine g_aload_n (pc' := 204) X dX5_century_203 rfl rfl rfl ?_
              refine g_get (pc' := 207) X fl_X5_19 dX5_century_204 rfl 0 rfl rfl ?_
              refine g_iconst (v := 5) (pc' := 208) X dX5_century_207 rfl (by decide) ?_
              refine g_iload (pc' := 210) X dX5_century_208 rfl rfl ?_
              refine g_imul (pc' := 211) X dX5_century_210 rfl ?_
              refine g_iload (pc' := 213) X dX5_century_211 rfl rfl ?_
              refine g_iadd (pc' := 214) X dX5_century_213 rfl ?_
              refine g_iload (pc' := 216) X dX5_century_214 rfl rfl ?_
              refine g_iast (pc' := 217) (w2 := fun g14 => [oX5 a s_many s_windMany s_year s_saidMany s_size s_readAt s_readPeaks s_readWinds s_readNumber s_undoMany s_keptMany, ai d (a 1) 6 s_kindOf, ai d (a 3) 12 s_winds, ai d (a 4) 30 g14, ai d (a 5) 5 s_stored, ai d (a 6) 6 s_guides, ai d (a 16) 42 s_aside]) X dX5_century_216 rfl 3 rfl hf (fun _ => rfl) (fun g14 hf => ?_)
              exact sx_weak [true, true, true, true, true, true, true, false, false, false, false, false] rfl (hjX5_century_217 v4 s_year g14 s_stored s_guides hf)
        refine g_icmp_ne (tgt := 189) (pc' := 173) X dX5_century_170 (by decide) rfl hf (fun hf => ?_) (fun hf => ?_)
        · exact sx_weak [true, true, true, true, true, true, true, true, true, true, true, true] rfl (hjX5_century_189 v4 v7 v8 v9 v10 v11 s_year s_pinned s_stored s_guides hf)
        · refine g_iload (pc' := 175) X dX5_century_173 rfl rfl ?_
          refine g_if_eq (tgt := 189) (pc' := 178) X dX5_century_175 (by decide) rfl hf (fun hf => ?_) (fun hf => ?_)
          · exact sx_weak [true, true, true, true, true, true, true, true, true, true, true, true] rfl (hjX5_century_189 v4 v7 v8 v9 v10 v11 s_year s_pinned s_stored s_guides hf)
          · refine g_aload_n (pc' := 179) X dX5_century_178 rfl rfl rfl ?_
            refine g_iload (pc' := 181) X dX5_century_179 rfl rfl ?_
            refine g_iload (pc' := 183) X dX5_century_181 rfl rfl ?_
            refine g_callVv2 (pc' := 186) (As := [.int v8, .int v9]) (b := (a 0)) (st := []) (w2 := fun o15 o16 => [oX5 a s_many s_windMany s_year s_saidMany s_size s_readAt s_readPeaks s_readWinds s_readNumber s_undoMany s_keptMany, ai d (a 1) 6 s_kindOf, ai d (a 3) 12 s_winds, ai d (a 4) 30 o15, ai d (a 5) 5 o16, ai d (a 6) 6 s_guides, ai d (a 16) 42 s_aside]) X lk_X5_187 dX5_century_183 rfl rfl rfl (Nat.le_of_ble_eq_true rfl) ⟨Nat.le_of_ble_eq_true rfl, Nat.le_of_ble_eq_true rfl, Nat.le_of_ble_eq_true rfl, Nat.le_of_ble_eq_true rfl⟩ rfl [0, 3, 4] (by decide) rfl hf (fun l o15 o16 h => ctX5_takesOff l d a s_many s_windMany s_year s_saidMany s_size s_readAt s_readPeaks s_readWinds s_readNumber s_undoMany s_keptMany s_pinned s_stored v8 v9 o15 o16 h) (fun _ _ => rfl) (fun _ _ => rfl) (fun o15 o16 hf => ?_)
            refine g_goto (tgt := 217) X dX5_century_186 (by decide) ?_
            exact sx_weak [true, true, true, true, true, true, true, false, false, false, false, false] rfl (hjX5_century_217 v4 s_year o15 o16 s_guides hf)
      refine g_icmp_ge (tgt := 164) (pc' := 140) X dX5_century_137 (by decide) rfl hf (fun hf => ?_) (fun hf => ?_)
      · exact sx_weak [true, true, true, true, true, true, true, true, true, true, true, true] rfl (hjX5_century_164 v4 v7 v8 v9 v10 t0 s_year s_pinned s_stored s_guides hf)
      · refine g_aload_n (pc' := 141) X dX5_century_140 rfl rfl rfl ?_
        refine g_iload (pc' := 143) X dX5_century_141 rfl rfl ?_
        refine g_iload (pc' := 145) X dX5_century_143 rfl rfl ?_
        refine g_callVi0 (pc' := 148) (As := [.int v8, .int v9]) (b := (a 0)) (st := []) (w2 := fun x17 => [oX5 a s_many s_windMany s_year s_saidMany s_size s_readAt s_readPeaks s_readWinds s_readNumber s_undoMany s_keptMany, ai d (a 1) 6 s_kindOf, ai d (a 3) 12 s_winds, ai d (a 4) 30 s_pinned, ai d (a 5) 5 s_stored, ai d (a 6) 6 s_guides, ai d (a 16) 42 s_aside]) X lk_X5_177 dX5_century_145 rfl rfl rfl (Nat.le_of_ble_eq_true rfl) ⟨Nat.le_of_ble_eq_true rfl, Nat.le_of_ble_eq_true rfl, Nat.le_of_ble_eq_true rfl, Nat.le_of_ble_eq_true rfl⟩ rfl [0, 3, 4] (by decide) rfl hf (fun l x17 h => ctX5_mayPut l d a s_many s_windMany s_year s_saidMany s_size s_readAt s_readPeaks s_readWinds s_readNumber s_undoMany s_keptMany s_pinned s_stored v8 v9 x17 h) (fun _ => rfl) (fun _ => rfl) (fun x17 hnx17 hf => ?_)
        refine g_if_eq (tgt := 164) (pc' := 151) X dX5_century_148 (by decide) rfl hf (fun hf => ?_) (fun hf => ?_)
        · exact sx_weak [true, true, true, true, true, true, true, true, true, true, true, true] rfl (hjX5_century_164 v4 v7 v8 v9 v10 t0 s_year s_pinned s_stored s_guides hf)
        · refine g_aload_n (pc' := 152) X dX5_century_151 rfl rfl rfl ?_
          refine g_iload (pc' := 154) X dX5_century_152 rfl rfl ?_
          refine g_iload (pc' := 156) X dX5_century_154 rfl rfl ?_
          refine g_iload (pc' := 158) X dX5_century_156 rfl rfl ?_
          refine g_callVv2 (pc' := 161) (As := [.int v8, .int v9, .int v10]) (b := (a 0)) (st := []) (w2 := fun o18 o19 => [oX5 a s_many s_windMany s_year s_saidMany s_size s_readAt s_readPeaks s_readWinds s_readNumber s_undoMany s_keptMany, ai d (a 1) 6 s_kindOf, ai d (a 3) 12 s_winds, ai d (a 4) 30 o18, ai d (a 5) 5 o19, ai d (a 6) 6 s_guides, ai d (a 16) 42 s_aside]) X lk_X5_183 dX5_century_158 rfl rfl rfl (Nat.le_of_ble_eq_true rfl) ⟨Nat.le_of_ble_eq_true rfl, Nat.le_of_ble_eq_true rfl, Nat.le_of_ble_eq_true rfl, Nat.le_of_ble_eq_true rfl⟩ rfl [0, 3, 4] (by decide) rfl hf (fun l o18 o19 h => ctX5_puts l d a s_many s_windMany s_year s_saidMany s_size s_readAt s_readPeaks s_readWinds s_readNumber s_undoMany s_keptMany s_pinned s_stored v8 v9 v10 o18 o19 h) (fun _ _ => rfl) (fun _ _ => rfl) (fun o18 o19 hf => ?_)
          refine g_goto (tgt := 217) X dX5_century_161 (by decide) ?_
          exact sx_weak [true, true, true, true, true, true, true, false, false, false, false, false] rfl (hjX5_century_217 v4 s_year o18 o19 s_guides hf)
    refine g_if_le (tgt := 128) (pc' := 124) X dX5_century_121 (by decide) rfl hf (fun hf => ?_) (fun hf => ?_)
    · refine g_iconst (v := 0) (pc' := 129) X dX5_century_128 rfl (by decide) ?_
      exact sx_weak [true, true, true, true, true, false, true, true, true, true, true, true] rfl (hjX5_century_129 v4 x6 x7 x8 x9 (0 : Int32) s_year s_pinned s_stored s_guides hf)
    · refine g_iconst (v := 1) (pc' := 125) X dX5_century_124 rfl (by decide) ?_
      refine g_goto (tgt := 129) X dX5_century_125 (by decide) ?_
      exact sx_weak [true, true, true, true, true, false, true, true, true, true, true, true] rfl (hjX5_century_129 v4 x6 x7 x8 x9 (1 : Int32) s_year s_pinned s_stored s_guides hf)
set_option maxHeartbeats 4000000 in
set_option maxRecDepth 100000 in
theorem ctX5_century (l : Launch) (d : sx_D) (a : Nat → Nat) (s_many : Int32) (s_windMany : Int32) (s_year : Int32) (s_saidMany : Int32) (s_size : Int32) (s_readAt : Int32) (s_readPeaks : Int32) (s_readWinds : Int32) (s_readNumber : Int32) (s_undoMany : Int32) (s_keptMany : Int32) (s_kindOf : Nat → Int32) (s_winds : Nat → Int32) (s_pinned : Nat → Int32) (s_stored : Nat → Int32) (s_guides : Nat → Int32) (s_aside : Nat → Int32) (v1 : Int32) (v2 : Int32) (v3 : Int32) (r : Int32) (ro1 : Int32) (ro2 : Nat → Int32) (ro3 : Nat → Int32) (ro4 : Nat → Int32) (ro5 : Nat → Int32) (hf : fX5_century s_many s_windMany s_year s_kindOf s_winds s_pinned s_stored s_guides s_aside v1 v2 v3 = some (r, ro1, ro2, ro3, ro4, ro5)) : sx_I l d yX5_century cX5_century 12 .int 4 [.ref (a 0), .int v1, .int v2, .int v3] [oX5 a s_many s_windMany s_year s_saidMany s_size s_readAt s_readPeaks s_readWinds s_readNumber s_undoMany s_keptMany, ai d (a 1) 6 s_kindOf, ai d (a 3) 12 s_winds, ai d (a 4) 30 s_pinned, ai d (a 5) 5 s_stored, ai d (a 6) 6 s_guides, ai d (a 16) 42 s_aside] [oX5 a s_many s_windMany ro1 s_saidMany s_size s_readAt s_readPeaks s_readWinds s_readNumber s_undoMany s_keptMany, ai d (a 1) 6 s_kindOf, ai d (a 3) 12 s_winds, ai d (a 4) 30 ro2, ai d (a 5) 5 ro3, ai d (a 6) 6 ro4, ai d (a 16) 42 ro5] r := by
  refine sx_I.intro (lv0 := [some (.ref (a 0)), some (.int v1), some (.int v2), some (.int v3), none, none, none, none, none, none, none, none]) (by decide +kernel) (Nat.le_of_ble_eq_true rfl) rfl ?_
  intro κ X hR
  have X : sx_X d κ cX5_century 12 RX5 (sx_rm 4) := X
  unfold fX5_century at hf
  refine g_iload_n (pc' := 1) X dX5_century_0 rfl rfl rfl ?_
  refine g_iconst (v := 0) (pc' := 2) X dX5_century_1 rfl (by decide) ?_
  refine g_sipush (v := 9999) (pc' := 5) X dX5_century_2 rfl (by decide) ?_
  refine g_callSi0 (pc' := 8) (As := [.int v1, .int (0 : Int32), .int (9999 : Int32)]) (st := []) (w2 := fun x1 => [oX5 a s_many s_windMany s_year s_saidMany s_size s_readAt s_readPeaks s_readWinds s_readNumber s_undoMany s_keptMany, ai d (a 1) 6 s_kindOf, ai d (a 3) 12 s_winds, ai d (a 4) 30 s_pinned, ai d (a 5) 5 s_stored, ai d (a 6) 6 s_guides, ai d (a 16) 42 s_aside]) X lk_X5_81 dX5_century_5 rfl rfl rfl (Nat.le_of_ble_eq_true rfl) ⟨Nat.le_of_ble_eq_true rfl, Nat.le_of_ble_eq_true rfl, Nat.le_of_ble_eq_true rfl, Nat.le_of_ble_eq_true rfl⟩ [] (by decide) rfl hf (fun l x1 h => ctX5_in l d v1 (0 : Int32) (9999 : Int32) x1 h) (fun _ => rfl) (fun _ => rfl) (fun x1 hnx1 hf => ?_)
  refine g_if_eq (tgt := 30) (pc' := 11) X dX5_century_8 (by decide) rfl hf (fun hf => ?_) (fun hf => ?_)
  · refine g_iconst (v := -1) (pc' := 31) X dX5_century_30 rfl (by decide) ?_
    cases hf
    exact hR _ _ dX5_century_31 rfl
  · refine g_iload_n (pc' := 12) X dX5_century_11 rfl rfl rfl ?_
    refine g_iconst (v := 1) (pc' := 13) X dX5_century_12 rfl (by decide) ?_
    refine g_bipush (v := 60) (pc' := 15) X dX5_century_13 rfl (by decide) ?_
    refine g_callSi0 (pc' := 18) (As := [.int v2, .int (1 : Int32), .int (60 : Int32)]) (st := []) (w2 := fun x2 => [oX5 a s_many s_windMany s_year s_saidMany s_size s_readAt s_readPeaks s_readWinds s_readNumber s_undoMany s_keptMany, ai d (a 1) 6 s_kindOf, ai d (a 3) 12 s_winds, ai d (a 4) 30 s_pinned, ai d (a 5) 5 s_stored, ai d (a 6) 6 s_guides, ai d (a 16) 42 s_aside]) X lk_X5_81 dX5_century_15 rfl rfl rfl (Nat.le_of_ble_eq_true rfl) ⟨Nat.le_of_ble_eq_true rfl, Nat.le_of_ble_eq_true rfl, Nat.le_of_ble_eq_true rfl, Nat.le_of_ble_eq_true rfl⟩ [] (by decide) rfl hf (fun l x2 h => ctX5_in l d v2 (1 : Int32) (60 : Int32) x2 h) (fun _ => rfl) (fun _ => rfl) (fun x2 hnx2 hf => ?_)
    refine g_if_eq (tgt := 30) (pc' := 21) X dX5_century_18 (by decide) rfl hf (fun hf => ?_) (fun hf => ?_)
    · refine g_iconst (v := -1) (pc' := 31) X dX5_century_30 rfl (by decide) ?_
      cases hf
      exact hR _ _ dX5_century_31 rfl
    · refine g_iload_n (pc' := 22) X dX5_century_21 rfl rfl rfl ?_
      refine g_iconst (v := 0) (pc' := 23) X dX5_century_22 rfl (by decide) ?_
      refine g_iconst (v := 1) (pc' := 24) X dX5_century_23 rfl (by decide) ?_
      refine g_callSi0 (pc' := 27) (As := [.int v3, .int (0 : Int32), .int (1 : Int32)]) (st := []) (w2 := fun x3 => [oX5 a s_many s_windMany s_year s_saidMany s_size s_readAt s_readPeaks s_readWinds s_readNumber s_undoMany s_keptMany, ai d (a 1) 6 s_kindOf, ai d (a 3) 12 s_winds, ai d (a 4) 30 s_pinned, ai d (a 5) 5 s_stored, ai d (a 6) 6 s_guides, ai d (a 16) 42 s_aside]) X lk_X5_81 dX5_century_24 rfl rfl rfl (Nat.le_of_ble_eq_true rfl) ⟨Nat.le_of_ble_eq_true rfl, Nat.le_of_ble_eq_true rfl, Nat.le_of_ble_eq_true rfl, Nat.le_of_ble_eq_true rfl⟩ [] (by decide) rfl hf (fun l x3 h => ctX5_in l d v3 (0 : Int32) (1 : Int32) x3 h) (fun _ => rfl) (fun _ => rfl) (fun x3 hnx3 hf => ?_)
      refine g_if_ne (tgt := 32) (pc' := 30) X dX5_century_27 (by decide) rfl hf (fun hf => ?_) (fun hf => ?_)
      · refine g_aload_n (pc' := 33) X dX5_century_32 rfl rfl rfl ?_
        refine g_callVv1 (pc' := 36) (As := []) (b := (a 0)) (st := []) (w2 := fun o4 => [oX5 a s_many s_windMany s_year s_saidMany s_size s_readAt s_readPeaks s_readWinds s_readNumber s_undoMany s_keptMany, ai d (a 1) 6 s_kindOf, ai d (a 3) 12 s_winds, ai d (a 4) 30 s_pinned, ai d (a 5) 5 s_stored, ai d (a 6) 6 s_guides, ai d (a 16) 42 o4]) X lk_X5_202 dX5_century_33 rfl rfl rfl (Nat.le_of_ble_eq_true rfl) ⟨Nat.le_of_ble_eq_true rfl, Nat.le_of_ble_eq_true rfl, Nat.le_of_ble_eq_true rfl, Nat.le_of_ble_eq_true rfl⟩ rfl [0, 3, 4, 5, 6] (by decide) rfl hf (fun l o4 h => ctX5_begin l d a s_many s_windMany s_year s_saidMany s_size s_readAt s_readPeaks s_readWinds s_readNumber s_undoMany s_keptMany s_pinned s_stored s_guides s_aside o4 h) (fun _ => rfl) (fun _ => rfl) (fun o4 hf => ?_)
        refine g_iconst (v := 0) (pc' := 37) X dX5_century_36 rfl (by decide) ?_
        refine g_istore (lv' := [some (.ref (a 0)), some (.int v1), some (.int v2), some (.int v3), some (.int (0 : Int32)), none, none, none, none, none, none, none]) (pc' := 39) X dX5_century_37 rfl (by decide) rfl rfl ?_
        obtain ⟨y20, hy20, hf⟩ := sx_bd hf
        refine sx_weak [true, true, true, true, true, true, true, true, true, true, true, true] rfl (lX5_century_39 d κ a s_many s_windMany s_saidMany s_size s_readAt s_readPeaks s_readWinds s_readNumber s_undoMany s_keptMany s_kindOf s_winds o4 v1 v2 v3 X y20 ?_ 1000 ((0 : Int32), s_year, s_pinned, s_stored, s_guides) hy20)
        rintro w21 w22 w23 w24 rfl
        refine g_iload_n (pc' := 229) X dX5_century_228 rfl rfl rfl ?_
        have hjX5_century_243 : ∀ (t0 : Int32) (s_year : Int32) (s_pinned : Nat → Int32) (s_stored : Nat → Int32) (s_guides : Nat → Int32) (s_aside : Nat → Int32), jX5_century_243 s_year s_pinned s_stored s_guides s_aside t0 = some (r, ro1, ro2, ro3, ro4, ro5) → sx_G d κ 12 0 0 243 [some (.ref (a 0)), none, none, none, none, none, none, none, none, none, none, none] [.int t0] [oX5 a s_many s_windMany s_year s_saidMany s_size s_readAt s_readPeaks s_readWinds s_readNumber s_undoMany s_keptMany, ai d (a 1) 6 s_kindOf, ai d (a 3) 12 s_winds, ai d (a 4) 30 s_pinned, ai d (a 5) 5 s_stored, ai d (a 6) 6 s_guides, ai d (a 16) 42 s_aside] := by
          intro t0 s_year s_pinned s_stored s_guides s_aside hf
          unfold jX5_century_243 at hf
          refine g_istore (lv' := [some (.ref (a 0)), none, none, none, some (.int t0), none, none, none, none, none, none, none]) (pc' := 245) X dX5_century_243 rfl (by decide) rfl rfl ?_
          refine g_aload_n (pc' := 246) X dX5_century_245 rfl rfl rfl ?_
          refine g_callVv4 (pc' := 249) (As := []) (b := (a 0)) (st := []) (w2 := fun o25 o26 o27 o28 => [oX5 a s_many s_windMany o25 s_saidMany s_size s_readAt s_readPeaks s_readWinds s_readNumber s_undoMany s_keptMany, ai d (a 1) 6 s_kindOf, ai d (a 3) 12 s_winds, ai d (a 4) 30 o26, ai d (a 5) 5 o27, ai d (a 6) 6 o28, ai d (a 16) 42 s_aside]) X lk_X5_205 dX5_century_246 rfl rfl rfl (Nat.le_of_ble_eq_true rfl) ⟨Nat.le_of_ble_eq_true rfl, Nat.le_of_ble_eq_true rfl, Nat.le_of_ble_eq_true rfl, Nat.le_of_ble_eq_true rfl⟩ rfl [0, 3, 4, 5, 6] (by decide) rfl hf (fun l o25 o26 o27 o28 h => ctX5_putBack l d a s_many s_windMany s_year s_saidMany s_size s_readAt s_readPeaks s_readWinds s_readNumber s_undoMany s_keptMany s_pinned s_stored s_guides s_aside o25 o26 o27 o28 h) (fun _ _ _ _ => rfl) (fun _ _ _ _ => rfl) (fun o25 o26 o27 o28 hf => ?_)
          refine g_iload (pc' := 251) X dX5_century_249 rfl rfl ?_
          cases hf
          exact hR _ _ dX5_century_251 rfl
        refine g_if_ne (tgt := 239) (pc' := 232) X dX5_century_229 (by decide) rfl hf (fun hf => ?_) (fun hf => ?_)
        · refine g_aload_n (pc' := 240) X dX5_century_239 rfl rfl rfl ?_
          refine g_callVi0 (pc' := 243) (As := []) (b := (a 0)) (st := []) (w2 := fun x29 => [oX5 a s_many s_windMany w21 s_saidMany s_size s_readAt s_readPeaks s_readWinds s_readNumber s_undoMany s_keptMany, ai d (a 1) 6 s_kindOf, ai d (a 3) 12 s_winds, ai d (a 4) 30 w22, ai d (a 5) 5 w23, ai d (a 6) 6 w24, ai d (a 16) 42 o4]) X lk_X5_196 dX5_century_240 rfl rfl rfl (Nat.le_of_ble_eq_true rfl) ⟨Nat.le_of_ble_eq_true rfl, Nat.le_of_ble_eq_true rfl, Nat.le_of_ble_eq_true rfl, Nat.le_of_ble_eq_true rfl⟩ rfl [0, 3] (by decide) rfl hf (fun l x29 h => ctX5_pairsAlike l d a s_many s_windMany w21 s_saidMany s_size s_readAt s_readPeaks s_readWinds s_readNumber s_undoMany s_keptMany w22 x29 h) (fun _ => rfl) (fun _ => rfl) (fun x29 hnx29 hf => ?_)
          exact sx_weak [true, true, true, false, true, true, true, true, true, true, true, true] rfl (hjX5_century_243 x29 w21 w22 w23 w24 o4 hf)
        · refine g_aload_n (pc' := 233) X dX5_century_232 rfl rfl rfl ?_
          refine g_callVi0 (pc' := 236) (As := []) (b := (a 0)) (st := []) (w2 := fun x30 => [oX5 a s_many s_windMany w21 s_saidMany s_size s_readAt s_readPeaks s_readWinds s_readNumber s_undoMany s_keptMany, ai d (a 1) 6 s_kindOf, ai d (a 3) 12 s_winds, ai d (a 4) 30 w22, ai d (a 5) 5 w23, ai d (a 6) 6 w24, ai d (a 16) 42 o4]) X lk_X5_243 dX5_century_233 rfl rfl rfl (Nat.le_of_ble_eq_true rfl) ⟨Nat.le_of_ble_eq_true rfl, Nat.le_of_ble_eq_true rfl, Nat.le_of_ble_eq_true rfl, Nat.le_of_ble_eq_true rfl⟩ rfl [0, 3] (by decide) rfl hf (fun l x30 h => ctX5_onMany l d a s_many s_windMany w21 s_saidMany s_size s_readAt s_readPeaks s_readWinds s_readNumber s_undoMany s_keptMany w22 x30 h) (fun _ => rfl) (fun _ => rfl) (fun x30 hnx30 hf => ?_)
          refine g_goto (tgt := 243) X dX5_century_236 (by decide) ?_
          exact sx_weak [true, true, true, false, true, true, true, true, true, true, true, true] rfl (hjX5_century_243 x30 w21 w22 w23 w24 o4 hf)
      · refine g_iconst (v := -1) (pc' := 31) X dX5_century_30 rfl (by decide) ?_
        cases hf
        exact hR _ _ dX5_century_31 rfl
-- X5_keep
def fX5_keep (s_year : Int32) (s_keptMany : Int32) (s_pinned : Nat → Int32) (s_stored : Nat → Int32) (s_guides : Nat → Int32) (s_kept : Nat → Int32) : Option (Int32 × Int32 × (Nat → Int32)) :=
  if s_keptMany = (2 : Int32) then
    some ((-3 : Int32), s_keptMany, s_kept)
  else
    (fX5_lays 84 s_year s_pinned s_stored s_guides s_kept ((42 : Int32) * s_keptMany)).bind fun o1 =>
    sx_lt (s_keptMany + (1 : Int32)) fun x2 =>
    some (x2, x2, o1)
set_option maxHeartbeats 4000000 in
set_option maxRecDepth 100000 in
theorem ctX5_keep (l : Launch) (d : sx_D) (a : Nat → Nat) (s_many : Int32) (s_windMany : Int32) (s_year : Int32) (s_saidMany : Int32) (s_size : Int32) (s_readAt : Int32) (s_readPeaks : Int32) (s_readWinds : Int32) (s_readNumber : Int32) (s_undoMany : Int32) (s_keptMany : Int32) (s_pinned : Nat → Int32) (s_stored : Nat → Int32) (s_guides : Nat → Int32) (s_kept : Nat → Int32) (r : Int32) (ro1 : Int32) (ro2 : Nat → Int32) (hf : fX5_keep s_year s_keptMany s_pinned s_stored s_guides s_kept = some (r, ro1, ro2)) : sx_I l d yX5_keep cX5_keep 1 .int 1 [.ref (a 0)] [oX5 a s_many s_windMany s_year s_saidMany s_size s_readAt s_readPeaks s_readWinds s_readNumber s_undoMany s_keptMany, ai d (a 4) 30 s_pinned, ai d (a 5) 5 s_stored, ai d (a 6) 6 s_guides, ai d (a 19) 84 s_kept] [oX5 a s_many s_windMany s_year s_saidMany s_size s_readAt s_readPeaks s_readWinds s_readNumber s_undoMany ro1, ai d (a 4) 30 s_pinned, ai d (a 5) 5 s_stored, ai d (a 6) 6 s_guides, ai d (a 19) 84 ro2] r := by
  refine sx_I.intro (lv0 := [some (.ref (a 0))]) (by decide +kernel) (Nat.le_of_ble_eq_true rfl) rfl ?_
  intro κ X hR
  have X : sx_X d κ cX5_keep 1 RX5 (sx_rm 1) := X
  unfold fX5_keep at hf
  refine g_aload_n (pc' := 1) X dX5_keep_0 rfl rfl rfl ?_
  refine g_get (pc' := 4) X fl_X5_142 dX5_keep_1 rfl 0 rfl rfl ?_
  refine g_iconst (v := 2) (pc' := 5) X dX5_keep_4 rfl (by decide) ?_
  refine g_icmp_ne (tgt := 11) (pc' := 8) X dX5_keep_5 (by decide) rfl hf (fun hf => ?_) (fun hf => ?_)
  · refine g_aload_n (pc' := 12) X dX5_keep_11 rfl rfl rfl ?_
    refine g_aload_n (pc' := 13) X dX5_keep_12 rfl rfl rfl ?_
    refine g_get (pc' := 16) X fl_X5_64 dX5_keep_13 rfl 0 rfl rfl ?_
    refine g_bipush (v := 42) (pc' := 18) X dX5_keep_16 rfl (by decide) ?_
    refine g_aload_n (pc' := 19) X dX5_keep_18 rfl rfl rfl ?_
    refine g_get (pc' := 22) X fl_X5_142 dX5_keep_19 rfl 0 rfl rfl ?_
    refine g_imul (pc' := 23) X dX5_keep_22 rfl ?_
    refine g_callVv1 (pc' := 26) (As := [.ref (a 19), .int ((42 : Int32) * s_keptMany)]) (b := (a 0)) (st := []) (w2 := fun o1 => [oX5 a s_many s_windMany s_year s_saidMany s_size s_readAt s_readPeaks s_readWinds s_readNumber s_undoMany s_keptMany, ai d (a 4) 30 s_pinned, ai d (a 5) 5 s_stored, ai d (a 6) 6 s_guides, ai d (a 19) 84 o1]) X lk_X5_173 dX5_keep_23 rfl rfl rfl (Nat.le_of_ble_eq_true rfl) ⟨Nat.le_of_ble_eq_true rfl, Nat.le_of_ble_eq_true rfl, Nat.le_of_ble_eq_true rfl, Nat.le_of_ble_eq_true rfl⟩ rfl [0, 1, 2, 3, 4] (by decide) rfl hf (fun l o1 h => ctX5_lays l d a (a 19) 84 s_many s_windMany s_year s_saidMany s_size s_readAt s_readPeaks s_readWinds s_readNumber s_undoMany s_keptMany s_pinned s_stored s_guides s_kept ((42 : Int32) * s_keptMany) o1 h) (fun _ => rfl) (fun _ => rfl) (fun o1 hf => ?_)
    refine g_aload_n (pc' := 27) X dX5_keep_26 rfl rfl rfl ?_
    refine g_dup (pc' := 28) X dX5_keep_27 rfl rfl ?_
    refine g_get (pc' := 31) X fl_X5_142 dX5_keep_28 rfl 0 rfl rfl ?_
    refine g_iconst (v := 1) (pc' := 32) X dX5_keep_31 rfl (by decide) ?_
    refine g_iadd (pc' := 33) X dX5_keep_32 rfl ?_
    refine g_putN (pc' := 36) (w2 := fun x2 => [oX5 a s_many s_windMany s_year s_saidMany s_size s_readAt s_readPeaks s_readWinds s_readNumber s_undoMany x2, ai d (a 4) 30 s_pinned, ai d (a 5) 5 s_stored, ai d (a 6) 6 s_guides, ai d (a 19) 84 o1]) X fl_X5_142 fw_X5 rfl dX5_keep_33 rfl 0 rfl (fun _ => rfl) (fun _ => rfl) (Nat.le_of_ble_eq_true rfl) (fun _ => rfl) hf (fun x2 hf => ?_)
    refine g_aload_n (pc' := 37) X dX5_keep_36 rfl rfl rfl ?_
    refine g_get (pc' := 40) X fl_X5_142 dX5_keep_37 rfl 0 rfl rfl ?_
    cases hf
    exact hR _ _ dX5_keep_40 rfl
  · refine g_bipush (v := -3) (pc' := 10) X dX5_keep_8 rfl (by decide) ?_
    cases hf
    exact hR _ _ dX5_keep_10 rfl
-- X5_back
def fX5_back (s_year : Int32) (s_undoMany : Int32) (s_keptMany : Int32) (s_pinned : Nat → Int32) (s_stored : Nat → Int32) (s_guides : Nat → Int32) (s_kept : Nat → Int32) : Option (Int32 × Int32 × Int32 × Int32 × (Nat → Int32) × (Nat → Int32) × (Nat → Int32)) :=
  if s_keptMany = 0 then
    some ((-2 : Int32), s_year, s_undoMany, s_keptMany, s_pinned, s_stored, s_guides)
  else
    sx_lt (s_keptMany - (1 : Int32)) fun x1 =>
    (fX5_takes 84 s_year s_pinned s_stored s_guides s_kept ((42 : Int32) * x1)).bind fun (o2, o3, o4, o5) =>
    some (x1, o2, (0 : Int32), x1, o3, o4, o5)
set_option maxHeartbeats 4000000 in
set_option maxRecDepth 100000 in
theorem ctX5_back (l : Launch) (d : sx_D) (a : Nat → Nat) (s_many : Int32) (s_windMany : Int32) (s_year : Int32) (s_saidMany : Int32) (s_size : Int32) (s_readAt : Int32) (s_readPeaks : Int32) (s_readWinds : Int32) (s_readNumber : Int32) (s_undoMany : Int32) (s_keptMany : Int32) (s_pinned : Nat → Int32) (s_stored : Nat → Int32) (s_guides : Nat → Int32) (s_kept : Nat → Int32) (r : Int32) (ro1 : Int32) (ro2 : Int32) (ro3 : Int32) (ro4 : Nat → Int32) (ro5 : Nat → Int32) (ro6 : Nat → Int32) (hf : fX5_back s_year s_undoMany s_keptMany s_pinned s_stored s_guides s_kept = some (r, ro1, ro2, ro3, ro4, ro5, ro6)) : sx_I l d yX5_back cX5_back 1 .int 1 [.ref (a 0)] [oX5 a s_many s_windMany s_year s_saidMany s_size s_readAt s_readPeaks s_readWinds s_readNumber s_undoMany s_keptMany, ai d (a 4) 30 s_pinned, ai d (a 5) 5 s_stored, ai d (a 6) 6 s_guides, ai d (a 19) 84 s_kept] [oX5 a s_many s_windMany ro1 s_saidMany s_size s_readAt s_readPeaks s_readWinds s_readNumber ro2 ro3, ai d (a 4) 30 ro4, ai d (a 5) 5 ro5, ai d (a 6) 6 ro6, ai d (a 19) 84 s_kept] r := by
  refine sx_I.intro (lv0 := [some (.ref (a 0))]) (by decide +kernel) (Nat.le_of_ble_eq_true rfl) rfl ?_
  intro κ X hR
  have X : sx_X d κ cX5_back 1 RX5 (sx_rm 1) := X
  unfold fX5_back at hf
  refine g_aload_n (pc' := 1) X dX5_back_0 rfl rfl rfl ?_
  refine g_get (pc' := 4) X fl_X5_142 dX5_back_1 rfl 0 rfl rfl ?_
  refine g_if_ne (tgt := 10) (pc' := 7) X dX5_back_4 (by decide) rfl hf (fun hf => ?_) (fun hf => ?_)
  · refine g_aload_n (pc' := 11) X dX5_back_10 rfl rfl rfl ?_
    refine g_dup (pc' := 12) X dX5_back_11 rfl rfl ?_
    refine g_get (pc' := 15) X fl_X5_142 dX5_back_12 rfl 0 rfl rfl ?_
    refine g_iconst (v := 1) (pc' := 16) X dX5_back_15 rfl (by decide) ?_
    refine g_isub (pc' := 17) X dX5_back_16 rfl ?_
    refine g_putN (pc' := 20) (w2 := fun x1 => [oX5 a s_many s_windMany s_year s_saidMany s_size s_readAt s_readPeaks s_readWinds s_readNumber s_undoMany x1, ai d (a 4) 30 s_pinned, ai d (a 5) 5 s_stored, ai d (a 6) 6 s_guides, ai d (a 19) 84 s_kept]) X fl_X5_142 fw_X5 rfl dX5_back_17 rfl 0 rfl (fun _ => rfl) (fun _ => rfl) (Nat.le_of_ble_eq_true rfl) (fun _ => rfl) hf (fun x1 hf => ?_)
    refine g_aload_n (pc' := 21) X dX5_back_20 rfl rfl rfl ?_
    refine g_aload_n (pc' := 22) X dX5_back_21 rfl rfl rfl ?_
    refine g_get (pc' := 25) X fl_X5_64 dX5_back_22 rfl 0 rfl rfl ?_
    refine g_bipush (v := 42) (pc' := 27) X dX5_back_25 rfl (by decide) ?_
    refine g_aload_n (pc' := 28) X dX5_back_27 rfl rfl rfl ?_
    refine g_get (pc' := 31) X fl_X5_142 dX5_back_28 rfl 0 rfl rfl ?_
    refine g_imul (pc' := 32) X dX5_back_31 rfl ?_
    refine g_callVv4 (pc' := 35) (As := [.ref (a 19), .int ((42 : Int32) * x1)]) (b := (a 0)) (st := []) (w2 := fun o2 o3 o4 o5 => [oX5 a s_many s_windMany o2 s_saidMany s_size s_readAt s_readPeaks s_readWinds s_readNumber s_undoMany x1, ai d (a 4) 30 o3, ai d (a 5) 5 o4, ai d (a 6) 6 o5, ai d (a 19) 84 s_kept]) X lk_X5_193 dX5_back_32 rfl rfl rfl (Nat.le_of_ble_eq_true rfl) ⟨Nat.le_of_ble_eq_true rfl, Nat.le_of_ble_eq_true rfl, Nat.le_of_ble_eq_true rfl, Nat.le_of_ble_eq_true rfl⟩ rfl [0, 1, 2, 3, 4] (by decide) rfl hf (fun l o2 o3 o4 o5 h => ctX5_takes l d a (a 19) 84 s_many s_windMany s_year s_saidMany s_size s_readAt s_readPeaks s_readWinds s_readNumber s_undoMany x1 s_pinned s_stored s_guides s_kept ((42 : Int32) * x1) o2 o3 o4 o5 h) (fun _ _ _ _ => rfl) (fun _ _ _ _ => rfl) (fun o2 o3 o4 o5 hf => ?_)
    refine g_aload_n (pc' := 36) X dX5_back_35 rfl rfl rfl ?_
    refine g_iconst (v := 0) (pc' := 37) X dX5_back_36 rfl (by decide) ?_
    refine g_put (pc' := 40) (w2 := [oX5 a s_many s_windMany o2 s_saidMany s_size s_readAt s_readPeaks s_readWinds s_readNumber (0 : Int32) x1, ai d (a 4) 30 o3, ai d (a 5) 5 o4, ai d (a 6) 6 o5, ai d (a 19) 84 s_kept]) X fl_X5_139 fw_X5 rfl dX5_back_37 rfl 0 rfl rfl rfl (Nat.le_of_ble_eq_true rfl) rfl ?_
    refine g_aload_n (pc' := 41) X dX5_back_40 rfl rfl rfl ?_
    refine g_get (pc' := 44) X fl_X5_142 dX5_back_41 rfl 0 rfl rfl ?_
    cases hf
    exact hR _ _ dX5_back_44 rfl
  · refine g_bipush (v := -2) (pc' := 9) X dX5_back_7 rfl (by decide) ?_
    cases hf
    exact hR _ _ dX5_back_9 rfl
-- X5_storedAll
def bX5_storedAll_4 (s_stored : Nat → Int32) : (Int32 × Int32) → Option ((Int32 × Int32) ⊕ (Int32)) := fun (v1, v2) =>
  if (5 : Int32) ≤ v2 then
    some (.inr v1)
  else
    sx_rd s_stored 5 v2 fun x1 =>
    sx_lt (v1 + x1) fun x2 =>
    some (.inl (x2, v2 + (1 : Int32)))
def fX5_storedAll (s_stored : Nat → Int32) : Option (Int32) :=
  (sx_it 1000 (bX5_storedAll_4 s_stored) ((0 : Int32), (0 : Int32))).bind fun w4 =>
  some w4
set_option maxHeartbeats 4000000 in
set_option maxRecDepth 100000 in
theorem lX5_storedAll_4 (d : sx_D) (κ : sx_C) (a : Nat → Nat) (s_many : Int32) (s_windMany : Int32) (s_year : Int32) (s_saidMany : Int32) (s_size : Int32) (s_readAt : Int32) (s_readPeaks : Int32) (s_readWinds : Int32) (s_readNumber : Int32) (s_undoMany : Int32) (s_keptMany : Int32) (s_stored : Nat → Int32) (X : sx_X d κ cX5_storedAll 3 RX5 (sx_rm 0)) (y : Int32) (hE24 : ∀ (v1 : Int32), v1 = y → sx_G d κ 3 0 0 24 [none, some (.int v1), none] [] [oX5 a s_many s_windMany s_year s_saidMany s_size s_readAt s_readPeaks s_readWinds s_readNumber s_undoMany s_keptMany, ai d (a 5) 5 s_stored]) : ∀ (n : Nat) (s : Int32 × Int32), sx_it n (bX5_storedAll_4 s_stored) s = some y → (match s with | (v1, v2) => sx_G d κ 3 0 0 4 [some (.ref (a 0)), some (.int v1), some (.int v2)] [] [oX5 a s_many s_windMany s_year s_saidMany s_size s_readAt s_readPeaks s_readWinds s_readNumber s_undoMany s_keptMany, ai d (a 5) 5 s_stored]) := by
  refine sx_it_run (bX5_storedAll_4 s_stored) (fun s => match s with | (v1, v2) => sx_G d κ 3 0 0 4 [some (.ref (a 0)), some (.int v1), some (.int v2)] [] [oX5 a s_many s_windMany s_year s_saidMany s_size s_readAt s_readPeaks s_readWinds s_readNumber s_undoMany s_keptMany, ai d (a 5) 5 s_stored]) y ?_
  rintro ⟨v1, v2⟩ x hf hb he
  show sx_G d κ 3 0 0 4 [some (.ref (a 0)), some (.int v1), some (.int v2)] [] [oX5 a s_many s_windMany s_year s_saidMany s_size s_readAt s_readPeaks s_readWinds s_readNumber s_undoMany s_keptMany, ai d (a 5) 5 s_stored]
  unfold bX5_storedAll_4 at hf
  refine g_iload_n (pc' := 5) X dX5_storedAll_4 rfl rfl rfl ?_
  refine g_iconst (v := 5) (pc' := 6) X dX5_storedAll_5 rfl (by decide) ?_
  refine g_icmp_ge (tgt := 24) (pc' := 9) X dX5_storedAll_6 (by decide) rfl hf (fun hf => ?_) (fun hf => ?_)
  · exact sx_weak [false, true, false] rfl (hE24 _ (sx_ex hf he))
  · refine g_iload_n (pc' := 10) X dX5_storedAll_9 rfl rfl rfl ?_
    refine g_aload_n (pc' := 11) X dX5_storedAll_10 rfl rfl rfl ?_
    refine g_get (pc' := 14) X fl_X5_22 dX5_storedAll_11 rfl 0 rfl rfl ?_
    refine g_iload_n (pc' := 15) X dX5_storedAll_14 rfl rfl rfl ?_
    refine g_iald (pc' := 16) X dX5_storedAll_15 rfl 1 rfl hf (fun x1 hf => ?_)
    refine g_iadd (pc' := 17) X dX5_storedAll_16 rfl ?_
    refine g_istore_nN (lv' := fun x2 => [some (.ref (a 0)), some (.int x2), some (.int v2)]) (pc' := 18) X dX5_storedAll_17 rfl rfl (by decide) rfl (fun _ => rfl) hf (fun x2 hf => ?_)
    refine g_iinc (v := 1) (lv' := [some (.ref (a 0)), some (.int x2), some (.int (v2 + (1 : Int32)))]) (pc' := 21) X dX5_storedAll_18 rfl rfl (by decide) (by decide) rfl rfl ?_
    refine g_goto (tgt := 4) X dX5_storedAll_21 (by decide) ?_
    have hk := sx_bk hf hb
    exact sx_weak [true, true, true] rfl hk
set_option maxHeartbeats 4000000 in
set_option maxRecDepth 100000 in
theorem ctX5_storedAll (l : Launch) (d : sx_D) (a : Nat → Nat) (s_many : Int32) (s_windMany : Int32) (s_year : Int32) (s_saidMany : Int32) (s_size : Int32) (s_readAt : Int32) (s_readPeaks : Int32) (s_readWinds : Int32) (s_readNumber : Int32) (s_undoMany : Int32) (s_keptMany : Int32) (s_stored : Nat → Int32) (r : Int32) (hf : fX5_storedAll s_stored = some r) : sx_I l d yX5_storedAll cX5_storedAll 3 .int 0 [.ref (a 0)] [oX5 a s_many s_windMany s_year s_saidMany s_size s_readAt s_readPeaks s_readWinds s_readNumber s_undoMany s_keptMany, ai d (a 5) 5 s_stored] [oX5 a s_many s_windMany s_year s_saidMany s_size s_readAt s_readPeaks s_readWinds s_readNumber s_undoMany s_keptMany, ai d (a 5) 5 s_stored] r := by
  refine sx_I.intro (lv0 := [some (.ref (a 0)), none, none]) (by decide +kernel) (Nat.le_of_ble_eq_true rfl) rfl ?_
  intro κ X hR
  have X : sx_X d κ cX5_storedAll 3 RX5 (sx_rm 0) := X
  unfold fX5_storedAll at hf
  refine g_iconst (v := 0) (pc' := 1) X dX5_storedAll_0 rfl (by decide) ?_
  refine g_istore_n (lv' := [some (.ref (a 0)), some (.int (0 : Int32)), none]) (pc' := 2) X dX5_storedAll_1 rfl rfl (by decide) rfl rfl ?_
  refine g_iconst (v := 0) (pc' := 3) X dX5_storedAll_2 rfl (by decide) ?_
  refine g_istore_n (lv' := [some (.ref (a 0)), some (.int (0 : Int32)), some (.int (0 : Int32))]) (pc' := 4) X dX5_storedAll_3 rfl rfl (by decide) rfl rfl ?_
  obtain ⟨y3, hy3, hf⟩ := sx_bd hf
  refine sx_weak [true, true, true] rfl (lX5_storedAll_4 d κ a s_many s_windMany s_year s_saidMany s_size s_readAt s_readPeaks s_readWinds s_readNumber s_undoMany s_keptMany s_stored X y3 ?_ 1000 ((0 : Int32), (0 : Int32)) hy3)
  rintro w4 rfl
  refine g_iload_n (pc' := 25) X dX5_storedAll_24 rfl rfl rfl ?_
  cases hf
  exact hR _ _ dX5_storedAll_25 rfl
-- X5_pinsAll
def bX5_pinsAll_4 (s_many : Int32) (s_pinned : Nat → Int32) : (Int32 × Int32) → Option ((Int32 × Int32) ⊕ (Int32)) := fun (v1, v2) =>
  if ((5 : Int32) * s_many) ≤ v2 then
    some (.inr v1)
  else
    sx_rd s_pinned 30 v2 fun x1 =>
    sx_lt (v1 + x1) fun x2 =>
    some (.inl (x2, v2 + (1 : Int32)))
def fX5_pinsAll (s_many : Int32) (s_pinned : Nat → Int32) : Option (Int32) :=
  (sx_it 1000 (bX5_pinsAll_4 s_many s_pinned) ((0 : Int32), (0 : Int32))).bind fun w4 =>
  some w4
set_option maxHeartbeats 4000000 in
set_option maxRecDepth 100000 in
theorem lX5_pinsAll_4 (d : sx_D) (κ : sx_C) (a : Nat → Nat) (s_many : Int32) (s_windMany : Int32) (s_year : Int32) (s_saidMany : Int32) (s_size : Int32) (s_readAt : Int32) (s_readPeaks : Int32) (s_readWinds : Int32) (s_readNumber : Int32) (s_undoMany : Int32) (s_keptMany : Int32) (s_pinned : Nat → Int32) (X : sx_X d κ cX5_pinsAll 3 RX5 (sx_rm 0)) (y : Int32) (hE29 : ∀ (v1 : Int32), v1 = y → sx_G d κ 3 0 0 29 [none, some (.int v1), none] [] [oX5 a s_many s_windMany s_year s_saidMany s_size s_readAt s_readPeaks s_readWinds s_readNumber s_undoMany s_keptMany, ai d (a 4) 30 s_pinned]) : ∀ (n : Nat) (s : Int32 × Int32), sx_it n (bX5_pinsAll_4 s_many s_pinned) s = some y → (match s with | (v1, v2) => sx_G d κ 3 0 0 4 [some (.ref (a 0)), some (.int v1), some (.int v2)] [] [oX5 a s_many s_windMany s_year s_saidMany s_size s_readAt s_readPeaks s_readWinds s_readNumber s_undoMany s_keptMany, ai d (a 4) 30 s_pinned]) := by
  refine sx_it_run (bX5_pinsAll_4 s_many s_pinned) (fun s => match s with | (v1, v2) => sx_G d κ 3 0 0 4 [some (.ref (a 0)), some (.int v1), some (.int v2)] [] [oX5 a s_many s_windMany s_year s_saidMany s_size s_readAt s_readPeaks s_readWinds s_readNumber s_undoMany s_keptMany, ai d (a 4) 30 s_pinned]) y ?_
  rintro ⟨v1, v2⟩ x hf hb he
  show sx_G d κ 3 0 0 4 [some (.ref (a 0)), some (.int v1), some (.int v2)] [] [oX5 a s_many s_windMany s_year s_saidMany s_size s_readAt s_readPeaks s_readWinds s_readNumber s_undoMany s_keptMany, ai d (a 4) 30 s_pinned]
  unfold bX5_pinsAll_4 at hf
  refine g_iload_n (pc' := 5) X dX5_pinsAll_4 rfl rfl rfl ?_
  refine g_iconst (v := 5) (pc' := 6) X dX5_pinsAll_5 rfl (by decide) ?_
  refine g_aload_n (pc' := 7) X dX5_pinsAll_6 rfl rfl rfl ?_
  refine g_get (pc' := 10) X fl_X5_78 dX5_pinsAll_7 rfl 0 rfl rfl ?_
  refine g_imul (pc' := 11) X dX5_pinsAll_10 rfl ?_
  refine g_icmp_ge (tgt := 29) (pc' := 14) X dX5_pinsAll_11 (by decide) rfl hf (fun hf => ?_) (fun hf => ?_)
  · exact sx_weak [false, true, false] rfl (hE29 _ (sx_ex hf he))
  · refine g_iload_n (pc' := 15) X dX5_pinsAll_14 rfl rfl rfl ?_
    refine g_aload_n (pc' := 16) X dX5_pinsAll_15 rfl rfl rfl ?_
    refine g_get (pc' := 19) X fl_X5_19 dX5_pinsAll_16 rfl 0 rfl rfl ?_
    refine g_iload_n (pc' := 20) X dX5_pinsAll_19 rfl rfl rfl ?_
    refine g_iald (pc' := 21) X dX5_pinsAll_20 rfl 1 rfl hf (fun x1 hf => ?_)
    refine g_iadd (pc' := 22) X dX5_pinsAll_21 rfl ?_
    refine g_istore_nN (lv' := fun x2 => [some (.ref (a 0)), some (.int x2), some (.int v2)]) (pc' := 23) X dX5_pinsAll_22 rfl rfl (by decide) rfl (fun _ => rfl) hf (fun x2 hf => ?_)
    refine g_iinc (v := 1) (lv' := [some (.ref (a 0)), some (.int x2), some (.int (v2 + (1 : Int32)))]) (pc' := 26) X dX5_pinsAll_23 rfl rfl (by decide) (by decide) rfl rfl ?_
    refine g_goto (tgt := 4) X dX5_pinsAll_26 (by decide) ?_
    have hk := sx_bk hf hb
    exact sx_weak [true, true, true] rfl hk
set_option maxHeartbeats 4000000 in
set_option maxRecDepth 100000 in
theorem ctX5_pinsAll (l : Launch) (d : sx_D) (a : Nat → Nat) (s_many : Int32) (s_windMany : Int32) (s_year : Int32) (s_saidMany : Int32) (s_size : Int32) (s_readAt : Int32) (s_readPeaks : Int32) (s_readWinds : Int32) (s_readNumber : Int32) (s_undoMany : Int32) (s_keptMany : Int32) (s_pinned : Nat → Int32) (r : Int32) (hf : fX5_pinsAll s_many s_pinned = some r) : sx_I l d yX5_pinsAll cX5_pinsAll 3 .int 0 [.ref (a 0)] [oX5 a s_many s_windMany s_year s_saidMany s_size s_readAt s_readPeaks s_readWinds s_readNumber s_undoMany s_keptMany, ai d (a 4) 30 s_pinned] [oX5 a s_many s_windMany s_year s_saidMany s_size s_readAt s_readPeaks s_readWinds s_readNumber s_undoMany s_keptMany, ai d (a 4) 30 s_pinned] r := by
  refine sx_I.intro (lv0 := [some (.ref (a 0)), none, none]) (by decide +kernel) (Nat.le_of_ble_eq_true rfl) rfl ?_
  intro κ X hR
  have X : sx_X d κ cX5_pinsAll 3 RX5 (sx_rm 0) := X
  unfold fX5_pinsAll at hf
  refine g_iconst (v := 0) (pc' := 1) X dX5_pinsAll_0 rfl (by decide) ?_
  refine g_istore_n (lv' := [some (.ref (a 0)), some (.int (0 : Int32)), none]) (pc' := 2) X dX5_pinsAll_1 rfl rfl (by decide) rfl rfl ?_
  refine g_iconst (v := 0) (pc' := 3) X dX5_pinsAll_2 rfl (by decide) ?_
  refine g_istore_n (lv' := [some (.ref (a 0)), some (.int (0 : Int32)), some (.int (0 : Int32))]) (pc' := 4) X dX5_pinsAll_3 rfl rfl (by decide) rfl rfl ?_
  obtain ⟨y3, hy3, hf⟩ := sx_bd hf
  refine sx_weak [true, true, true] rfl (lX5_pinsAll_4 d κ a s_many s_windMany s_year s_saidMany s_size s_readAt s_readPeaks s_readWinds s_readNumber s_undoMany s_keptMany s_pinned X y3 ?_ 1000 ((0 : Int32), (0 : Int32)) hy3)
  rintro w4 rfl
  refine g_iload_n (pc' := 30) X dX5_pinsAll_29 rfl rfl rfl ?_
  cases hf
  exact hR _ _ dX5_pinsAll_30 rfl
-- X5_ownKnown
def bX5_ownKnown_4 (s_many : Int32) (s_pinned : Nat → Int32) (s_guides : Nat → Int32) : (Int32 × Int32) → Option ((Int32 × Int32) ⊕ (Int32)) := fun (v1, v2) =>
  if s_many ≤ v2 then
    some (.inr v1)
  else
    (fX5_knownBy s_many s_pinned s_guides v2).bind fun x1 =>
    if x1 = v2 then
      sx_lt (v1 + (1 : Int32)) fun x3 =>
      some (.inl (x3, v2 + (1 : Int32)))
    else
      sx_lt (v1 + (0 : Int32)) fun x2 =>
      some (.inl (x2, v2 + (1 : Int32)))
def fX5_ownKnown (s_many : Int32) (s_pinned : Nat → Int32) (s_guides : Nat → Int32) : Option (Int32) :=
  (sx_it 1000 (bX5_ownKnown_4 s_many s_pinned s_guides) ((0 : Int32), (0 : Int32))).bind fun w5 =>
  some w5
set_option maxHeartbeats 4000000 in
set_option maxRecDepth 100000 in
theorem lX5_ownKnown_4 (d : sx_D) (κ : sx_C) (a : Nat → Nat) (s_many : Int32) (s_windMany : Int32) (s_year : Int32) (s_saidMany : Int32) (s_size : Int32) (s_readAt : Int32) (s_readPeaks : Int32) (s_readWinds : Int32) (s_readNumber : Int32) (s_undoMany : Int32) (s_keptMany : Int32) (s_pinned : Nat → Int32) (s_guides : Nat → Int32) (X : sx_X d κ cX5_ownKnown 3 RX5 (sx_rm 2)) (y : Int32) (hE35 : ∀ (v1 : Int32), v1 = y → sx_G d κ 3 0 0 35 [none, some (.int v1), none] [] [oX5 a s_many s_windMany s_year s_saidMany s_size s_readAt s_readPeaks s_readWinds s_readNumber s_undoMany s_keptMany, ai d (a 4) 30 s_pinned, ai d (a 6) 6 s_guides]) : ∀ (n : Nat) (s : Int32 × Int32), sx_it n (bX5_ownKnown_4 s_many s_pinned s_guides) s = some y → (match s with | (v1, v2) => sx_G d κ 3 0 0 4 [some (.ref (a 0)), some (.int v1), some (.int v2)] [] [oX5 a s_many s_windMany s_year s_saidMany s_size s_readAt s_readPeaks s_readWinds s_readNumber s_undoMany s_keptMany, ai d (a 4) 30 s_pinned, ai d (a 6) 6 s_guides]) := by
  refine sx_it_run (bX5_ownKnown_4 s_many s_pinned s_guides) (fun s => match s with | (v1, v2) => sx_G d κ 3 0 0 4 [some (.ref (a 0)), some (.int v1), some (.int v2)] [] [oX5 a s_many s_windMany s_year s_saidMany s_size s_readAt s_readPeaks s_readWinds s_readNumber s_undoMany s_keptMany, ai d (a 4) 30 s_pinned, ai d (a 6) 6 s_guides]) y ?_
  rintro ⟨v1, v2⟩ x hf hb he
  show sx_G d κ 3 0 0 4 [some (.ref (a 0)), some (.int v1), some (.int v2)] [] [oX5 a s_many s_windMany s_year s_saidMany s_size s_readAt s_readPeaks s_readWinds s_readNumber s_undoMany s_keptMany, ai d (a 4) 30 s_pinned, ai d (a 6) 6 s_guides]
  unfold bX5_ownKnown_4 at hf
  refine g_iload_n (pc' := 5) X dX5_ownKnown_4 rfl rfl rfl ?_
  refine g_aload_n (pc' := 6) X dX5_ownKnown_5 rfl rfl rfl ?_
  refine g_get (pc' := 9) X fl_X5_78 dX5_ownKnown_6 rfl 0 rfl rfl ?_
  refine g_icmp_ge (tgt := 35) (pc' := 12) X dX5_ownKnown_9 (by decide) rfl hf (fun hf => ?_) (fun hf => ?_)
  · exact sx_weak [false, true, false] rfl (hE35 _ (sx_ex hf he))
  · refine g_iload_n (pc' := 13) X dX5_ownKnown_12 rfl rfl rfl ?_
    refine g_aload_n (pc' := 14) X dX5_ownKnown_13 rfl rfl rfl ?_
    refine g_iload_n (pc' := 15) X dX5_ownKnown_14 rfl rfl rfl ?_
    refine g_callVi0 (pc' := 18) (As := [.int v2]) (b := (a 0)) (st := [.int v1]) (w2 := fun x1 => [oX5 a s_many s_windMany s_year s_saidMany s_size s_readAt s_readPeaks s_readWinds s_readNumber s_undoMany s_keptMany, ai d (a 4) 30 s_pinned, ai d (a 6) 6 s_guides]) X lk_X5_199 dX5_ownKnown_15 rfl rfl rfl (Nat.le_of_ble_eq_true rfl) ⟨Nat.le_of_ble_eq_true rfl, Nat.le_of_ble_eq_true rfl, Nat.le_of_ble_eq_true rfl, Nat.le_of_ble_eq_true rfl⟩ rfl [0, 1, 2] (by decide) rfl hf (fun l x1 h => ctX5_knownBy l d a s_many s_windMany s_year s_saidMany s_size s_readAt s_readPeaks s_readWinds s_readNumber s_undoMany s_keptMany s_pinned s_guides v2 x1 h) (fun _ => rfl) (fun _ => rfl) (fun x1 hnx1 hf => ?_)
    refine g_iload_n (pc' := 19) X dX5_ownKnown_18 rfl rfl rfl ?_
    refine g_icmp_ne (tgt := 26) (pc' := 22) X dX5_ownKnown_19 (by decide) rfl hf (fun hf => ?_) (fun hf => ?_)
    · refine g_iconst (v := 0) (pc' := 27) X dX5_ownKnown_26 rfl (by decide) ?_
      refine g_iadd (pc' := 28) X dX5_ownKnown_27 rfl ?_
      refine g_istore_nN (lv' := fun x2 => [some (.ref (a 0)), some (.int x2), some (.int v2)]) (pc' := 29) X dX5_ownKnown_28 rfl rfl (by decide) rfl (fun _ => rfl) hf (fun x2 hf => ?_)
      refine g_iinc (v := 1) (lv' := [some (.ref (a 0)), some (.int x2), some (.int (v2 + (1 : Int32)))]) (pc' := 32) X dX5_ownKnown_29 rfl rfl (by decide) (by decide) rfl rfl ?_
      refine g_goto (tgt := 4) X dX5_ownKnown_32 (by decide) ?_
      have hk := sx_bk hf hb
      exact sx_weak [true, true, true] rfl hk
    · refine g_iconst (v := 1) (pc' := 23) X dX5_ownKnown_22 rfl (by decide) ?_
      refine g_goto (tgt := 27) X dX5_ownKnown_23 (by decide) ?_
      refine g_iadd (pc' := 28) X dX5_ownKnown_27 rfl ?_
      refine g_istore_nN (lv' := fun x3 => [some (.ref (a 0)), some (.int x3), some (.int v2)]) (pc' := 29) X dX5_ownKnown_28 rfl rfl (by decide) rfl (fun _ => rfl) hf (fun x3 hf => ?_)
      refine g_iinc (v := 1) (lv' := [some (.ref (a 0)), some (.int x3), some (.int (v2 + (1 : Int32)))]) (pc' := 32) X dX5_ownKnown_29 rfl rfl (by decide) (by decide) rfl rfl ?_
      refine g_goto (tgt := 4) X dX5_ownKnown_32 (by decide) ?_
      have hk := sx_bk hf hb
      exact sx_weak [true, true, true] rfl hk
set_option maxHeartbeats 4000000 in
set_option maxRecDepth 100000 in
theorem ctX5_ownKnown (l : Launch) (d : sx_D) (a : Nat → Nat) (s_many : Int32) (s_windMany : Int32) (s_year : Int32) (s_saidMany : Int32) (s_size : Int32) (s_readAt : Int32) (s_readPeaks : Int32) (s_readWinds : Int32) (s_readNumber : Int32) (s_undoMany : Int32) (s_keptMany : Int32) (s_pinned : Nat → Int32) (s_guides : Nat → Int32) (r : Int32) (hf : fX5_ownKnown s_many s_pinned s_guides = some r) : sx_I l d yX5_ownKnown cX5_ownKnown 3 .int 2 [.ref (a 0)] [oX5 a s_many s_windMany s_year s_saidMany s_size s_readAt s_readPeaks s_readWinds s_readNumber s_undoMany s_keptMany, ai d (a 4) 30 s_pinned, ai d (a 6) 6 s_guides] [oX5 a s_many s_windMany s_year s_saidMany s_size s_readAt s_readPeaks s_readWinds s_readNumber s_undoMany s_keptMany, ai d (a 4) 30 s_pinned, ai d (a 6) 6 s_guides] r := by
  refine sx_I.intro (lv0 := [some (.ref (a 0)), none, none]) (by decide +kernel) (Nat.le_of_ble_eq_true rfl) rfl ?_
  intro κ X hR
  have X : sx_X d κ cX5_ownKnown 3 RX5 (sx_rm 2) := X
  unfold fX5_ownKnown at hf
  refine g_iconst (v := 0) (pc' := 1) X dX5_ownKnown_0 rfl (by decide) ?_
  refine g_istore_n (lv' := [some (.ref (a 0)), some (.int (0 : Int32)), none]) (pc' := 2) X dX5_ownKnown_1 rfl rfl (by decide) rfl rfl ?_
  refine g_iconst (v := 0) (pc' := 3) X dX5_ownKnown_2 rfl (by decide) ?_
  refine g_istore_n (lv' := [some (.ref (a 0)), some (.int (0 : Int32)), some (.int (0 : Int32))]) (pc' := 4) X dX5_ownKnown_3 rfl rfl (by decide) rfl rfl ?_
  obtain ⟨y4, hy4, hf⟩ := sx_bd hf
  refine sx_weak [true, true, true] rfl (lX5_ownKnown_4 d κ a s_many s_windMany s_year s_saidMany s_size s_readAt s_readPeaks s_readWinds s_readNumber s_undoMany s_keptMany s_pinned s_guides X y4 ?_ 1000 ((0 : Int32), (0 : Int32)) hy4)
  rintro w5 rfl
  refine g_iload_n (pc' := 36) X dX5_ownKnown_35 rfl rfl rfl ?_
  cases hf
  exact hR _ _ dX5_ownKnown_36 rfl
-- X5_count
def fX5_count (s_many : Int32) (s_year : Int32) (s_saidMany : Int32) (s_size : Int32) (s_undoMany : Int32) (s_keptMany : Int32) (s_pinned : Nat → Int32) (s_stored : Nat → Int32) (s_guides : Nat → Int32) (v1 : Int32) : Option (Int32) :=
  (fX5_in v1 (0 : Int32) (9 : Int32)).bind fun x1 =>
  if x1 = 0 then
    some (-1 : Int32)
  else
    if v1 = (0 : Int32) then
      some s_many
    else
    if v1 = (1 : Int32) then
      some s_year
    else
    if v1 = (2 : Int32) then
      (fX5_onMany s_many s_pinned).bind fun x2 =>
      some x2
    else
    if v1 = (3 : Int32) then
      (fX5_storedAll s_stored).bind fun x3 =>
      some x3
    else
    if v1 = (4 : Int32) then
      (fX5_pinsAll s_many s_pinned).bind fun x4 =>
      some x4
    else
    if v1 = (5 : Int32) then
      (fX5_ownKnown s_many s_pinned s_guides).bind fun x5 =>
      some x5
    else
    if v1 = (6 : Int32) then
      some s_saidMany
    else
    if v1 = (7 : Int32) then
      some s_undoMany
    else
    if v1 = (8 : Int32) then
      some s_keptMany
    else
      some s_size
set_option maxHeartbeats 4000000 in
set_option maxRecDepth 100000 in
theorem ctX5_count (l : Launch) (d : sx_D) (a : Nat → Nat) (s_many : Int32) (s_windMany : Int32) (s_year : Int32) (s_saidMany : Int32) (s_size : Int32) (s_readAt : Int32) (s_readPeaks : Int32) (s_readWinds : Int32) (s_readNumber : Int32) (s_undoMany : Int32) (s_keptMany : Int32) (s_pinned : Nat → Int32) (s_stored : Nat → Int32) (s_guides : Nat → Int32) (v1 : Int32) (r : Int32) (hf : fX5_count s_many s_year s_saidMany s_size s_undoMany s_keptMany s_pinned s_stored s_guides v1 = some r) : sx_I l d yX5_count cX5_count 2 .int 3 [.ref (a 0), .int v1] [oX5 a s_many s_windMany s_year s_saidMany s_size s_readAt s_readPeaks s_readWinds s_readNumber s_undoMany s_keptMany, ai d (a 4) 30 s_pinned, ai d (a 5) 5 s_stored, ai d (a 6) 6 s_guides] [oX5 a s_many s_windMany s_year s_saidMany s_size s_readAt s_readPeaks s_readWinds s_readNumber s_undoMany s_keptMany, ai d (a 4) 30 s_pinned, ai d (a 5) 5 s_stored, ai d (a 6) 6 s_guides] r := by
  refine sx_I.intro (lv0 := [some (.ref (a 0)), some (.int v1)]) (by decide +kernel) (Nat.le_of_ble_eq_true rfl) rfl ?_
  intro κ X hR
  have X : sx_X d κ cX5_count 2 RX5 (sx_rm 3) := X
  unfold fX5_count at hf
  refine g_iload_n (pc' := 1) X dX5_count_0 rfl rfl rfl ?_
  refine g_iconst (v := 0) (pc' := 2) X dX5_count_1 rfl (by decide) ?_
  refine g_bipush (v := 9) (pc' := 4) X dX5_count_2 rfl (by decide) ?_
  refine g_callSi0 (pc' := 7) (As := [.int v1, .int (0 : Int32), .int (9 : Int32)]) (st := []) (w2 := fun x1 => [oX5 a s_many s_windMany s_year s_saidMany s_size s_readAt s_readPeaks s_readWinds s_readNumber s_undoMany s_keptMany, ai d (a 4) 30 s_pinned, ai d (a 5) 5 s_stored, ai d (a 6) 6 s_guides]) X lk_X5_81 dX5_count_4 rfl rfl rfl (Nat.le_of_ble_eq_true rfl) ⟨Nat.le_of_ble_eq_true rfl, Nat.le_of_ble_eq_true rfl, Nat.le_of_ble_eq_true rfl, Nat.le_of_ble_eq_true rfl⟩ [] (by decide) rfl hf (fun l x1 h => ctX5_in l d v1 (0 : Int32) (9 : Int32) x1 h) (fun _ => rfl) (fun _ => rfl) (fun x1 hnx1 hf => ?_)
  refine g_if_ne (tgt := 12) (pc' := 10) X dX5_count_7 (by decide) rfl hf (fun hf => ?_) (fun hf => ?_)
  · refine g_iload_n (pc' := 13) X dX5_count_12 rfl rfl rfl ?_
    by_cases h0 : v1 = (0 : Int32)
    · rw [if_pos h0] at hf
      refine g_tabIn (tgt := 64) X dX5_count_13 (by rw [h0]; decide) (by rw [h0]; decide) (by rw [h0]; rfl) (by decide) ?_
      refine g_aload_n (pc' := 65) X dX5_count_64 rfl rfl rfl ?_
      refine g_get (pc' := 68) X fl_X5_78 dX5_count_65 rfl 0 rfl rfl ?_
      cases hf
      exact hR _ _ dX5_count_68 rfl
    rw [if_neg h0] at hf
    by_cases h1 : v1 = (1 : Int32)
    · rw [if_pos h1] at hf
      refine g_tabIn (tgt := 69) X dX5_count_13 (by rw [h1]; decide) (by rw [h1]; decide) (by rw [h1]; rfl) (by decide) ?_
      refine g_aload_n (pc' := 70) X dX5_count_69 rfl rfl rfl ?_
      refine g_get (pc' := 73) X fl_X5_133 dX5_count_70 rfl 0 rfl rfl ?_
      cases hf
      exact hR _ _ dX5_count_73 rfl
    rw [if_neg h1] at hf
    by_cases h2 : v1 = (2 : Int32)
    · rw [if_pos h2] at hf
      refine g_tabIn (tgt := 74) X dX5_count_13 (by rw [h2]; decide) (by rw [h2]; decide) (by rw [h2]; rfl) (by decide) ?_
      refine g_aload_n (pc' := 75) X dX5_count_74 rfl rfl rfl ?_
      refine g_callVi0 (pc' := 78) (As := []) (b := (a 0)) (st := []) (w2 := fun x2 => [oX5 a s_many s_windMany s_year s_saidMany s_size s_readAt s_readPeaks s_readWinds s_readNumber s_undoMany s_keptMany, ai d (a 4) 30 s_pinned, ai d (a 5) 5 s_stored, ai d (a 6) 6 s_guides]) X lk_X5_243 dX5_count_75 rfl rfl rfl (Nat.le_of_ble_eq_true rfl) ⟨Nat.le_of_ble_eq_true rfl, Nat.le_of_ble_eq_true rfl, Nat.le_of_ble_eq_true rfl, Nat.le_of_ble_eq_true rfl⟩ rfl [0, 1] (by decide) rfl hf (fun l x2 h => ctX5_onMany l d a s_many s_windMany s_year s_saidMany s_size s_readAt s_readPeaks s_readWinds s_readNumber s_undoMany s_keptMany s_pinned x2 h) (fun _ => rfl) (fun _ => rfl) (fun x2 hnx2 hf => ?_)
      cases hf
      exact hR _ _ dX5_count_78 rfl
    rw [if_neg h2] at hf
    by_cases h3 : v1 = (3 : Int32)
    · rw [if_pos h3] at hf
      refine g_tabIn (tgt := 79) X dX5_count_13 (by rw [h3]; decide) (by rw [h3]; decide) (by rw [h3]; rfl) (by decide) ?_
      refine g_aload_n (pc' := 80) X dX5_count_79 rfl rfl rfl ?_
      refine g_callVi0 (pc' := 83) (As := []) (b := (a 0)) (st := []) (w2 := fun x3 => [oX5 a s_many s_windMany s_year s_saidMany s_size s_readAt s_readPeaks s_readWinds s_readNumber s_undoMany s_keptMany, ai d (a 4) 30 s_pinned, ai d (a 5) 5 s_stored, ai d (a 6) 6 s_guides]) X lk_X5_246 dX5_count_80 rfl rfl rfl (Nat.le_of_ble_eq_true rfl) ⟨Nat.le_of_ble_eq_true rfl, Nat.le_of_ble_eq_true rfl, Nat.le_of_ble_eq_true rfl, Nat.le_of_ble_eq_true rfl⟩ rfl [0, 2] (by decide) rfl hf (fun l x3 h => ctX5_storedAll l d a s_many s_windMany s_year s_saidMany s_size s_readAt s_readPeaks s_readWinds s_readNumber s_undoMany s_keptMany s_stored x3 h) (fun _ => rfl) (fun _ => rfl) (fun x3 hnx3 hf => ?_)
      cases hf
      exact hR _ _ dX5_count_83 rfl
    rw [if_neg h3] at hf
    by_cases h4 : v1 = (4 : Int32)
    · rw [if_pos h4] at hf
      refine g_tabIn (tgt := 84) X dX5_count_13 (by rw [h4]; decide) (by rw [h4]; decide) (by rw [h4]; rfl) (by decide) ?_
      refine g_aload_n (pc' := 85) X dX5_count_84 rfl rfl rfl ?_
      refine g_callVi0 (pc' := 88) (As := []) (b := (a 0)) (st := []) (w2 := fun x4 => [oX5 a s_many s_windMany s_year s_saidMany s_size s_readAt s_readPeaks s_readWinds s_readNumber s_undoMany s_keptMany, ai d (a 4) 30 s_pinned, ai d (a 5) 5 s_stored, ai d (a 6) 6 s_guides]) X lk_X5_249 dX5_count_85 rfl rfl rfl (Nat.le_of_ble_eq_true rfl) ⟨Nat.le_of_ble_eq_true rfl, Nat.le_of_ble_eq_true rfl, Nat.le_of_ble_eq_true rfl, Nat.le_of_ble_eq_true rfl⟩ rfl [0, 1] (by decide) rfl hf (fun l x4 h => ctX5_pinsAll l d a s_many s_windMany s_year s_saidMany s_size s_readAt s_readPeaks s_readWinds s_readNumber s_undoMany s_keptMany s_pinned x4 h) (fun _ => rfl) (fun _ => rfl) (fun x4 hnx4 hf => ?_)
      cases hf
      exact hR _ _ dX5_count_88 rfl
    rw [if_neg h4] at hf
    by_cases h5 : v1 = (5 : Int32)
    · rw [if_pos h5] at hf
      refine g_tabIn (tgt := 89) X dX5_count_13 (by rw [h5]; decide) (by rw [h5]; decide) (by rw [h5]; rfl) (by decide) ?_
      refine g_aload_n (pc' := 90) X dX5_count_89 rfl rfl rfl ?_
      refine g_callVi0 (pc' := 93) (As := []) (b := (a 0)) (st := []) (w2 := fun x5 => [oX5 a s_many s_windMany s_year s_saidMany s_size s_readAt s_readPeaks s_readWinds s_readNumber s_undoMany s_keptMany, ai d (a 4) 30 s_pinned, ai d (a 5) 5 s_stored, ai d (a 6) 6 s_guides]) X lk_X5_252 dX5_count_90 rfl rfl rfl (Nat.le_of_ble_eq_true rfl) ⟨Nat.le_of_ble_eq_true rfl, Nat.le_of_ble_eq_true rfl, Nat.le_of_ble_eq_true rfl, Nat.le_of_ble_eq_true rfl⟩ rfl [0, 1, 3] (by decide) rfl hf (fun l x5 h => ctX5_ownKnown l d a s_many s_windMany s_year s_saidMany s_size s_readAt s_readPeaks s_readWinds s_readNumber s_undoMany s_keptMany s_pinned s_guides x5 h) (fun _ => rfl) (fun _ => rfl) (fun x5 hnx5 hf => ?_)
      cases hf
      exact hR _ _ dX5_count_93 rfl
    rw [if_neg h5] at hf
    by_cases h6 : v1 = (6 : Int32)
    · rw [if_pos h6] at hf
      refine g_tabIn (tgt := 94) X dX5_count_13 (by rw [h6]; decide) (by rw [h6]; decide) (by rw [h6]; rfl) (by decide) ?_
      refine g_aload_n (pc' := 95) X dX5_count_94 rfl rfl rfl ?_
      refine g_get (pc' := 98) X fl_X5_136 dX5_count_95 rfl 0 rfl rfl ?_
      cases hf
      exact hR _ _ dX5_count_98 rfl
    rw [if_neg h6] at hf
    by_cases h7 : v1 = (7 : Int32)
    · rw [if_pos h7] at hf
      refine g_tabIn (tgt := 99) X dX5_count_13 (by rw [h7]; decide) (by rw [h7]; decide) (by rw [h7]; rfl) (by decide) ?_
      refine g_aload_n (pc' := 100) X dX5_count_99 rfl rfl rfl ?_
      refine g_get (pc' := 103) X fl_X5_139 dX5_count_100 rfl 0 rfl rfl ?_
      cases hf
      exact hR _ _ dX5_count_103 rfl
    rw [if_neg h7] at hf
    by_cases h8 : v1 = (8 : Int32)
    · rw [if_pos h8] at hf
      refine g_tabIn (tgt := 104) X dX5_count_13 (by rw [h8]; decide) (by rw [h8]; decide) (by rw [h8]; rfl) (by decide) ?_
      refine g_aload_n (pc' := 105) X dX5_count_104 rfl rfl rfl ?_
      refine g_get (pc' := 108) X fl_X5_142 dX5_count_105 rfl 0 rfl rfl ?_
      cases hf
      exact hR _ _ dX5_count_108 rfl
    rw [if_neg h8] at hf
    have k0 := lv_neT h0 (a := 0) (by decide)
    have k1 := lv_neT h1 (a := 1) (by decide)
    have k2 := lv_neT h2 (a := 2) (by decide)
    have k3 := lv_neT h3 (a := 3) (by decide)
    have k4 := lv_neT h4 (a := 4) (by decide)
    have k5 := lv_neT h5 (a := 5) (by decide)
    have k6 := lv_neT h6 (a := 6) (by decide)
    have k7 := lv_neT h7 (a := 7) (by decide)
    have k8 := lv_neT h8 (a := 8) (by decide)
    refine g_tabOut (tgt := 109) X dX5_count_13 (by omega) (by decide) ?_
    refine g_aload_n (pc' := 110) X dX5_count_109 rfl rfl rfl ?_
    refine g_get (pc' := 113) X fl_X5_89 dX5_count_110 rfl 0 rfl rfl ?_
    cases hf
    exact hR _ _ dX5_count_113 rfl
  · refine g_iconst (v := -1) (pc' := 11) X dX5_count_10 rfl (by decide) ?_
    cases hf
    exact hR _ _ dX5_count_11 rfl

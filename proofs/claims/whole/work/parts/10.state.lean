def fX3_pinsOn (s_cells : Nat → Int32) (v1 : Int32) (v2 : Int32) : Option (Int32) :=
  sx_lt ((v1 * (5 : Int32)) + v2) fun x1 =>
  if x1 < 0 then
    some (0 : Int32)
  else
    if (30 : Int32) ≤ x1 then
      some (0 : Int32)
    else
      sx_rd s_cells 42 x1 fun x2 =>
      some x2
set_option maxHeartbeats 4000000 in
set_option maxRecDepth 100000 in
theorem ctX3_pinsOn (l : Launch) (d : sx_D) (q : Nat) (q_cells : Nat) (s_cells : Nat → Int32) (v1 : Int32) (v2 : Int32) (r : Int32) (hf : fX3_pinsOn s_cells v1 v2 = some r) : sx_I l d yX3_pinsOn cX3_pinsOn 4 .int 0 [.ref q, .int v1, .int v2] [oX3 q q_cells, ai d q_cells 42 s_cells] [oX3 q q_cells, ai d q_cells 42 s_cells] r := by
  refine sx_I.intro (lv0 := [some (.ref q), some (.int v1), some (.int v2), none]) (by decide +kernel) (Nat.le_of_ble_eq_true rfl) rfl ?_
  intro κ X hR
  have X : sx_X d κ cX3_pinsOn 4 RX3 (sx_rm 0) := X
  unfold fX3_pinsOn at hf
  refine g_iload_n (pc' := 1) X dX3_pinsOn_0 rfl rfl rfl ?_
  refine g_iconst (v := 5) (pc' := 2) X dX3_pinsOn_1 rfl (by decide) ?_
  refine g_imul (pc' := 3) X dX3_pinsOn_2 rfl ?_
  refine g_iload_n (pc' := 4) X dX3_pinsOn_3 rfl rfl rfl ?_
  refine g_iadd (pc' := 5) X dX3_pinsOn_4 rfl ?_
  refine g_istore_nN (lv' := fun x1 => [some (.ref q), some (.int v1), some (.int v2), some (.int x1)]) (pc' := 6) X dX3_pinsOn_5 rfl rfl (by decide) rfl (fun _ => rfl) hf (fun x1 hf => ?_)
  refine g_iload_n (pc' := 7) X dX3_pinsOn_6 rfl rfl rfl ?_
  refine g_if_lt (tgt := 25) (pc' := 10) X dX3_pinsOn_7 (by decide) rfl hf (fun hf => ?_) (fun hf => ?_)
  · refine g_iconst (v := 0) (pc' := 26) X dX3_pinsOn_25 rfl (by decide) ?_
    cases hf
    exact hR _ _ dX3_pinsOn_26 rfl
  · refine g_iload_n (pc' := 11) X dX3_pinsOn_10 rfl rfl rfl ?_
    refine g_bipush (v := 30) (pc' := 13) X dX3_pinsOn_11 rfl (by decide) ?_
    refine g_icmp_ge (tgt := 25) (pc' := 16) X dX3_pinsOn_13 (by decide) rfl hf (fun hf => ?_) (fun hf => ?_)
    · refine g_iconst (v := 0) (pc' := 26) X dX3_pinsOn_25 rfl (by decide) ?_
      cases hf
      exact hR _ _ dX3_pinsOn_26 rfl
    · refine g_aload_n (pc' := 17) X dX3_pinsOn_16 rfl rfl rfl ?_
      refine g_get (pc' := 20) X fl_X3_9 dX3_pinsOn_17 rfl 0 rfl rfl ?_
      refine g_iload_n (pc' := 21) X dX3_pinsOn_20 rfl rfl rfl ?_
      refine g_iald (pc' := 22) X dX3_pinsOn_21 rfl 1 rfl hf (fun x2 hf => ?_)
      refine g_goto (tgt := 26) X dX3_pinsOn_22 (by decide) ?_
      cases hf
      exact hR _ _ dX3_pinsOn_26 rfl
def fX3_isOn (s_cells : Nat → Int32) (v1 : Int32) (v2 : Int32) : Option (Int32) :=
  (fX3_pinsOn s_cells v1 v2).bind fun x1 =>
  if x1 ≤ 0 then
    some (0 : Int32)
  else
    some (1 : Int32)
set_option maxHeartbeats 4000000 in
set_option maxRecDepth 100000 in
theorem ctX3_isOn (l : Launch) (d : sx_D) (q : Nat) (q_cells : Nat) (s_cells : Nat → Int32) (v1 : Int32) (v2 : Int32) (r : Int32) (hf : fX3_isOn s_cells v1 v2 = some r) : sx_I l d yX3_isOn cX3_isOn 3 .boolean 1 [.ref q, .int v1, .int v2] [oX3 q q_cells, ai d q_cells 42 s_cells] [oX3 q q_cells, ai d q_cells 42 s_cells] r := by
  refine sx_I.intro (lv0 := [some (.ref q), some (.int v1), some (.int v2)]) (by decide +kernel) (Nat.le_of_ble_eq_true rfl) rfl ?_
  intro κ X hR
  have X : sx_X d κ cX3_isOn 3 RX3 (sx_rm 1) := X
  unfold fX3_isOn at hf
  refine g_aload_n (pc' := 1) X dX3_isOn_0 rfl rfl rfl ?_
  refine g_iload_n (pc' := 2) X dX3_isOn_1 rfl rfl rfl ?_
  refine g_iload_n (pc' := 3) X dX3_isOn_2 rfl rfl rfl ?_
  refine g_callVi0 (pc' := 6) (As := [.int v1, .int v2]) (b := q) (st := []) (w2 := fun x1 => [oX3 q q_cells, ai d q_cells 42 s_cells]) X lk_X3_30 dX3_isOn_3 rfl rfl rfl (by decide) (by decide) rfl [0, 1] (by decide) rfl hf (fun l x1 h => ctX3_pinsOn l d q q_cells s_cells v1 v2 x1 h) (fun _ => rfl) (fun _ => rfl) (fun x1 hnx1 hf => ?_)
  refine g_if_le (tgt := 13) (pc' := 9) X dX3_isOn_6 (by decide) rfl hf (fun hf => ?_) (fun hf => ?_)
  · refine g_iconst (v := 0) (pc' := 14) X dX3_isOn_13 rfl (by decide) ?_
    cases hf
    exact hR _ _ dX3_isOn_14 rfl
  · refine g_iconst (v := 1) (pc' := 10) X dX3_isOn_9 rfl (by decide) ?_
    refine g_goto (tgt := 14) X dX3_isOn_10 (by decide) ?_
    cases hf
    exact hR _ _ dX3_isOn_14 rfl
def bX3_looksOf_4 (s_cells : Nat → Int32) (v1 : Int32) : (Int32 × Int32) → Option ((Int32 × Int32) ⊕ (Int32)) := fun (v2, v3) =>
  if (5 : Int32) ≤ v3 then
    some (.inr v2)
  else
    (fX3_isOn s_cells v1 v3).bind fun x1 =>
    if x1 = 0 then
      some (.inl (v2, v3 + (1 : Int32)))
    else
      sx_lt (v2 ||| ((1 : Int32) <<< (v3 &&& 31))) fun x2 =>
      some (.inl (x2, v3 + (1 : Int32)))
def fX3_looksOf (s_cells : Nat → Int32) (v1 : Int32) : Option (Int32) :=
  (sx_it 1000 (bX3_looksOf_4 s_cells v1) ((0 : Int32), (0 : Int32))).bind fun w4 =>
  some w4
set_option maxHeartbeats 4000000 in
set_option maxRecDepth 100000 in
theorem lX3_looksOf_4 (d : sx_D) (κ : sx_C) (q : Nat) (q_cells : Nat) (s_cells : Nat → Int32) (v1 : Int32) (X : sx_X d κ cX3_looksOf 4 RX3 (sx_rm 2)) (y : Int32) (hE30 : ∀ (v2 : Int32), y = v2 → sx_G d κ 4 0 0 30 [none, none, some (.int v2), none] [] [oX3 q q_cells, ai d q_cells 42 s_cells]) : ∀ (n : Nat) (s : Int32 × Int32), sx_it n (bX3_looksOf_4 s_cells v1) s = some y → (match s with | (v2, v3) => sx_G d κ 4 0 0 4 [some (.ref q), some (.int v1), some (.int v2), some (.int v3)] [] [oX3 q q_cells, ai d q_cells 42 s_cells]) := by
  refine sx_it_run (bX3_looksOf_4 s_cells v1) (fun s => match s with | (v2, v3) => sx_G d κ 4 0 0 4 [some (.ref q), some (.int v1), some (.int v2), some (.int v3)] [] [oX3 q q_cells, ai d q_cells 42 s_cells]) y ?_
  rintro ⟨v2, v3⟩ x hf hb he
  show sx_G d κ 4 0 0 4 [some (.ref q), some (.int v1), some (.int v2), some (.int v3)] [] [oX3 q q_cells, ai d q_cells 42 s_cells]
  unfold bX3_looksOf_4 at hf
  refine g_iload_n (pc' := 5) X dX3_looksOf_4 rfl rfl rfl ?_
  refine g_iconst (v := 5) (pc' := 6) X dX3_looksOf_5 rfl (by decide) ?_
  refine g_icmp_ge (tgt := 30) (pc' := 9) X dX3_looksOf_6 (by decide) rfl hf (fun hf => ?_) (fun hf => ?_)
  · exact sx_weak [false, false, true, false] rfl (hE30 _ (sx_ex hf he).symm)
  · refine g_aload_n (pc' := 10) X dX3_looksOf_9 rfl rfl rfl ?_
    refine g_iload_n (pc' := 11) X dX3_looksOf_10 rfl rfl rfl ?_
    refine g_iload_n (pc' := 12) X dX3_looksOf_11 rfl rfl rfl ?_
    refine g_callVi0 (pc' := 15) (As := [.int v1, .int v3]) (b := q) (st := []) (w2 := fun x1 => [oX3 q q_cells, ai d q_cells 42 s_cells]) X lk_X3_34 dX3_looksOf_12 rfl rfl rfl (by decide) (by decide) rfl [0, 1] (by decide) rfl hf (fun l x1 h => ctX3_isOn l d q q_cells s_cells v1 v3 x1 h) (fun _ => rfl) (fun _ => rfl) (fun x1 hnx1 hf => ?_)
    refine g_if_eq (tgt := 24) (pc' := 18) X dX3_looksOf_15 (by decide) rfl hf (fun hf => ?_) (fun hf => ?_)
    · refine g_iinc (v := 1) (lv' := [some (.ref q), some (.int v1), some (.int v2), some (.int (v3 + (1 : Int32)))]) (pc' := 27) X dX3_looksOf_24 rfl rfl (by decide) (by decide) rfl rfl ?_
      refine g_goto (tgt := 4) X dX3_looksOf_27 (by decide) ?_
      have hk := sx_bk hf hb
      exact sx_weak [true, true, true, true] rfl hk
    · refine g_iload_n (pc' := 19) X dX3_looksOf_18 rfl rfl rfl ?_
      refine g_iconst (v := 1) (pc' := 20) X dX3_looksOf_19 rfl (by decide) ?_
      refine g_iload_n (pc' := 21) X dX3_looksOf_20 rfl rfl rfl ?_
      refine g_ishl (pc' := 22) X dX3_looksOf_21 rfl ?_
      refine g_ior (pc' := 23) X dX3_looksOf_22 rfl ?_
      refine g_istore_nN (lv' := fun x2 => [some (.ref q), some (.int v1), some (.int x2), some (.int v3)]) (pc' := 24) X dX3_looksOf_23 rfl rfl (by decide) rfl (fun _ => rfl) hf (fun x2 hf => ?_)
      refine g_iinc (v := 1) (lv' := [some (.ref q), some (.int v1), some (.int x2), some (.int (v3 + (1 : Int32)))]) (pc' := 27) X dX3_looksOf_24 rfl rfl (by decide) (by decide) rfl rfl ?_
      refine g_goto (tgt := 4) X dX3_looksOf_27 (by decide) ?_
      have hk := sx_bk hf hb
      exact sx_weak [true, true, true, true] rfl hk
set_option maxHeartbeats 4000000 in
set_option maxRecDepth 100000 in
theorem ctX3_looksOf (l : Launch) (d : sx_D) (q : Nat) (q_cells : Nat) (s_cells : Nat → Int32) (v1 : Int32) (r : Int32) (hf : fX3_looksOf s_cells v1 = some r) : sx_I l d yX3_looksOf cX3_looksOf 4 .int 2 [.ref q, .int v1] [oX3 q q_cells, ai d q_cells 42 s_cells] [oX3 q q_cells, ai d q_cells 42 s_cells] r := by
  refine sx_I.intro (lv0 := [some (.ref q), some (.int v1), none, none]) (by decide +kernel) (Nat.le_of_ble_eq_true rfl) rfl ?_
  intro κ X hR
  have X : sx_X d κ cX3_looksOf 4 RX3 (sx_rm 2) := X
  unfold fX3_looksOf at hf
  refine g_iconst (v := 0) (pc' := 1) X dX3_looksOf_0 rfl (by decide) ?_
  refine g_istore_n (lv' := [some (.ref q), some (.int v1), some (.int (0 : Int32)), none]) (pc' := 2) X dX3_looksOf_1 rfl rfl (by decide) rfl rfl ?_
  refine g_iconst (v := 0) (pc' := 3) X dX3_looksOf_2 rfl (by decide) ?_
  refine g_istore_n (lv' := [some (.ref q), some (.int v1), some (.int (0 : Int32)), some (.int (0 : Int32))]) (pc' := 4) X dX3_looksOf_3 rfl rfl (by decide) rfl rfl ?_
  obtain ⟨y3, hy3, hf⟩ := sx_bd hf
  refine sx_weak [true, true, true, true] rfl (lX3_looksOf_4 d κ q q_cells s_cells v1 X y3 ?_ 1000 ((0 : Int32), (0 : Int32)) hy3)
  rintro w4 rfl
  refine g_iload_n (pc' := 31) X dX3_looksOf_30 rfl rfl rfl ?_
  cases hf
  exact hR _ _ dX3_looksOf_31 rfl

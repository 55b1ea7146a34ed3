-- X4_waysToStay
def jX4_waysToStay_73 (RR : Int32 → Int32 → (Nat → Int32) → (Nat → Int32) → (Nat → Int32) → (Nat → Int32) → Int32 → Int32 → Int32 → Int32 → Int32 → Option (Int32 × (Nat → Int32))) (s_range_peaks : Int32) (s_range_windsTold : Int32) (s_range_kinds : Nat → Int32) (s_range_winds : Nat → Int32) (s_now_cells : Nat → Int32) (s_gusts : Nat → Int32) (v1 : Int32) (v2 : Int32) (v3 : Int32) (v4 : Int32) (v5 : Int32) (v6 : Int32) : Option (Int32 × (Nat → Int32)) :=
  if (10 : Int32) ≤ v5 then
    some (v6, s_gusts)
  else
    (fX3_yearNow s_now_cells).bind fun x2 =>
    (fX1_windIn s_range_windsTold s_range_winds (x2 + v1)).bind fun x3 =>
    (fX4_blowGust s_range_peaks s_range_kinds s_gusts v1 v3 x3).bind fun (x4, o5) =>
    if x4 = 0 then
      some (v6, o5)
    else
      (RR s_range_peaks s_range_windsTold s_range_kinds s_range_winds s_now_cells o5 (v1 + (1 : Int32)) v2 v3 v4 v5).bind fun (x6, o7) =>
      sx_lt (v6 + (((10 : Int32) - v5) * x6)) fun x8 =>
      some (x8, o7)
def fX4_waysToStay : Nat → Int32 → Int32 → (Nat → Int32) → (Nat → Int32) → (Nat → Int32) → (Nat → Int32) → Int32 → Int32 → Int32 → Int32 → Int32 → Option (Int32 × (Nat → Int32))
  | 0, _, _, _, _, _, _, _, _, _, _, _ => none
  | fu + 1, s_range_peaks, s_range_windsTold, s_range_kinds, s_range_winds, s_now_cells, s_gusts, v1, v2, v3, v4, v5 =>
    if v1 < 0 then
      some ((0 : Int32), s_gusts)
    else
      if (8 : Int32) < v1 then
        some ((0 : Int32), s_gusts)
      else
        sx_rd s_gusts 45 ((v1 * (5 : Int32)) + v4) fun x1 =>
        if x1 = 0 then
          some ((0 : Int32), s_gusts)
        else
          if v1 < v2 then
            if v5 ≤ 0 then
              jX4_waysToStay_73 (fX4_waysToStay fu) s_range_peaks s_range_windsTold s_range_kinds s_range_winds s_now_cells s_gusts v1 v2 v3 v4 v5 (0 : Int32)
            else
              (fX4_blowGust s_range_peaks s_range_kinds s_gusts v1 v3 (20 : Int32)).bind fun (x9, o10) =>
              if x9 = 0 then
                jX4_waysToStay_73 (fX4_waysToStay fu) s_range_peaks s_range_windsTold s_range_kinds s_range_winds s_now_cells o10 v1 v2 v3 v4 v5 (0 : Int32)
              else
                ((fX4_waysToStay fu) s_range_peaks s_range_windsTold s_range_kinds s_range_winds s_now_cells o10 (v1 + (1 : Int32)) v2 v3 v4 v5).bind fun (x11, o12) =>
                sx_lt ((0 : Int32) + (v5 * x11)) fun x13 =>
                jX4_waysToStay_73 (fX4_waysToStay fu) s_range_peaks s_range_windsTold s_range_kinds s_range_winds s_now_cells o12 v1 v2 v3 v4 v5 x13
          else
            some ((1 : Int32), s_gusts)
set_option maxHeartbeats 4000000 in
set_option maxRecDepth 100000 in
theorem ctX4_waysToStay : ∀ (fu : Nat) (l : Launch) (d : sx_D) (a : Nat → Nat) (s_saidOn : Int32) (s_saidOff : Int32) (s_saidCount : Int32) (s_range_peaks : Int32) (s_range_windsTold : Int32) (s_range_kinds : Nat → Int32) (s_range_winds : Nat → Int32) (s_now_cells : Nat → Int32) (s_gusts : Nat → Int32) (v1 : Int32) (v2 : Int32) (v3 : Int32) (v4 : Int32) (v5 : Int32) (r : Int32) (ro1 : Nat → Int32) (hf : fX4_waysToStay fu s_range_peaks s_range_windsTold s_range_kinds s_range_winds s_now_cells s_gusts v1 v2 v3 v4 v5 = some (r, ro1)), sx_I l d yX4_waysToStay cX4_waysToStay 7 .int (fu + 4) [.ref (a 0), .int v1, .int v2, .int v3, .int v4, .int v5] [oX4 a s_saidOn s_saidOff s_saidCount, oX1 (a 10) (a 11) (a 12) (a 13) s_range_peaks s_range_windsTold, ai d (a 11) 6 s_range_kinds, ai d (a 13) 12 s_range_winds, oX3 (a 14) (a 15), ai d (a 15) 42 s_now_cells, ai d (a 25) 45 s_gusts] [oX4 a s_saidOn s_saidOff s_saidCount, oX1 (a 10) (a 11) (a 12) (a 13) s_range_peaks s_range_windsTold, ai d (a 11) 6 s_range_kinds, ai d (a 13) 12 s_range_winds, oX3 (a 14) (a 15), ai d (a 15) 42 s_now_cells, ai d (a 25) 45 ro1] r
  | 0, l, d, _, _, _, _, _, _, _, _, _, _, _, _, _, _, _, _, _, hf => by cases hf
  | fu + 1, l, d, a, s_saidOn, s_saidOff, s_saidCount, s_range_peaks, s_range_windsTold, s_range_kinds, s_range_winds, s_now_cells, s_gusts, v1, v2, v3, v4, v5, r, ro1, hf => by
    refine sx_I.intro (lv0 := [some (.ref (a 0)), some (.int v1), some (.int v2), some (.int v3), some (.int v4), some (.int v5), none]) (by decide +kernel) (Nat.le_of_ble_eq_true rfl) rfl ?_
    intro κ X hR
    have X : sx_X d κ cX4_waysToStay 7 RX4 (sx_rm (fu + 1 + 4)) := X
    rw [fX4_waysToStay] at hf
    refine g_iload_n (pc' := 1) X dX4_waysToStay_0 rfl rfl rfl ?_
    refine g_if_lt (tgt := 24) (pc' := 4) X dX4_waysToStay_1 (by decide) rfl hf (fun hf => ?_) (fun hf => ?_)
    · refine g_iconst (v := 0) (pc' := 25) X dX4_waysToStay_24 rfl (by decide) ?_
      cases hf
      exact hR _ _ dX4_waysToStay_25 rfl
    · refine g_iload_n (pc' := 5) X dX4_waysToStay_4 rfl rfl rfl ?_
      refine g_bipush (v := 8) (pc' := 7) X dX4_waysToStay_5 rfl (by decide) ?_
      refine g_icmp_gt (tgt := 24) (pc' := 10) X dX4_waysToStay_7 (by decide) rfl hf (fun hf => ?_) (fun hf => ?_)
      · refine g_iconst (v := 0) (pc' := 25) X dX4_waysToStay_24 rfl (by decide) ?_
        cases hf
        exact hR _ _ dX4_waysToStay_25 rfl
      · refine g_aload_n (pc' := 11) X dX4_waysToStay_10 rfl rfl rfl ?_
        refine g_get (pc' := 14) X fl_X4_55 dX4_waysToStay_11 rfl 0 rfl rfl ?_
        refine g_iload_n (pc' := 15) X dX4_waysToStay_14 rfl rfl rfl ?_
        refine g_iconst (v := 5) (pc' := 16) X dX4_waysToStay_15 rfl (by decide) ?_
        refine g_imul (pc' := 17) X dX4_waysToStay_16 rfl ?_
        refine g_iload (pc' := 19) X dX4_waysToStay_17 rfl rfl ?_
        refine g_iadd (pc' := 20) X dX4_waysToStay_19 rfl ?_
        refine g_iald (pc' := 21) X dX4_waysToStay_20 rfl 6 rfl hf (fun x1 hf => ?_)
        refine g_if_ne (tgt := 26) (pc' := 24) X dX4_waysToStay_21 (by decide) rfl hf (fun hf => ?_) (fun hf => ?_)
        · refine g_iload_n (pc' := 27) X dX4_waysToStay_26 rfl rfl rfl ?_
          refine g_iload_n (pc' := 28) X dX4_waysToStay_27 rfl rfl rfl ?_
          refine g_icmp_lt (tgt := 33) (pc' := 31) X dX4_waysToStay_28 (by decide) rfl hf (fun hf => ?_) (fun hf => ?_)
          · refine g_iconst (v := 0) (pc' := 34) X dX4_waysToStay_33 rfl (by decide) ?_
            refine g_istore (lv' := [some (.ref (a 0)), some (.int v1), some (.int v2), some (.int v3), some (.int v4), some (.int v5), some (.int (0 : Int32))]) (pc' := 36) X dX4_waysToStay_34 rfl (by decide) rfl rfl ?_
            refine g_iload (pc' := 38) X dX4_waysToStay_36 rfl rfl ?_
            have hjX4_waysToStay_73 : ∀ (v1 : Int32) (v2 : Int32) (v3 : Int32) (v4 : Int32) (v5 : Int32) (v6 : Int32) (s_gusts : Nat → Int32), jX4_waysToStay_73 (fX4_waysToStay fu) s_range_peaks s_range_windsTold s_range_kinds s_range_winds s_now_cells s_gusts v1 v2 v3 v4 v5 v6 = some (r, ro1) → sx_G d κ 7 0 0 73 [some (.ref (a 0)), some (.int v1), some (.int v2), some (.int v3), some (.int v4), some (.int v5), some (.int v6)] [] [oX4 a s_saidOn s_saidOff s_saidCount, oX1 (a 10) (a 11) (a 12) (a 13) s_range_peaks s_range_windsTold, ai d (a 11) 6 s_range_kinds, ai d (a 13) 12 s_range_winds, oX3 (a 14) (a 15), ai d (a 15) 42 s_now_cells, ai d (a 25) 45 s_gusts] := by
              intro v1 v2 v3 v4 v5 v6 s_gusts hf
              unfold jX4_waysToStay_73 at hf
              refine g_iload (pc' := 75) X dX4_waysToStay_73 rfl rfl ?_
              refine g_bipush (v := 10) (pc' := 77) X dX4_waysToStay_75 rfl (by decide) ?_
              refine g_icmp_ge (tgt := 129) (pc' := 80) X dX4_waysToStay_77 (by decide) rfl hf (fun hf => ?_) (fun hf => ?_)
              · refine g_iload (pc' := 131) X dX4_waysToStay_129 rfl rfl ?_
                cases hf
                exact hR _ _ dX4_waysToStay_131 rfl
              · refine g_aload_n (pc' := 81) X dX4_waysToStay_80 rfl rfl rfl ?_
                refine g_iload_n (pc' := 82) X dX4_waysToStay_81 rfl rfl rfl ?_
                refine g_iload_n (pc' := 83) X dX4_waysToStay_82 rfl rfl rfl ?_
                refine g_aload_n (pc' := 84) X dX4_waysToStay_83 rfl rfl rfl ?_
                refine g_get (pc' := 87) X fl_X4_19 dX4_waysToStay_84 rfl 0 rfl rfl ?_
                refine g_aload_n (pc' := 88) X dX4_waysToStay_87 rfl rfl rfl ?_
                refine g_get (pc' := 91) X fl_X4_26 dX4_waysToStay_88 rfl 0 rfl rfl ?_
                refine g_callVi0 (pc' := 94) (As := []) (b := (a 14)) (st := [.ref (a 10), .int v3, .int v1, .ref (a 0)]) (w2 := fun x2 => [oX4 a s_saidOn s_saidOff s_saidCount, oX1 (a 10) (a 11) (a 12) (a 13) s_range_peaks s_range_windsTold, ai d (a 11) 6 s_range_kinds, ai d (a 13) 12 s_range_winds, oX3 (a 14) (a 15), ai d (a 15) 42 s_now_cells, ai d (a 25) 45 s_gusts]) X lk_X4_100 dX4_waysToStay_91 rfl rfl rfl (Nat.le_of_ble_eq_true rfl) ⟨by simp only [sx_rm]; omega, by simp only [sx_rm]; omega, Nat.zero_le _, Nat.zero_le _⟩ rfl [4, 5] (by decide) rfl hf (fun l x2 h => ctX3_yearNow l d (a 14) (a 15) s_now_cells x2 h) (fun _ => rfl) (fun _ => rfl) (fun x2 hnx2 hf => ?_)
                refine g_iload_n (pc' := 95) X dX4_waysToStay_94 rfl rfl rfl ?_
                refine g_iadd (pc' := 96) X dX4_waysToStay_95 rfl ?_
                refine g_callVi0 (pc' := 99) (As := [.int (x2 + v1)]) (b := (a 10)) (st := [.int v3, .int v1, .ref (a 0)]) (w2 := fun x3 => [oX4 a s_saidOn s_saidOff s_saidCount, oX1 (a 10) (a 11) (a 12) (a 13) s_range_peaks s_range_windsTold, ai d (a 11) 6 s_range_kinds, ai d (a 13) 12 s_range_winds, oX3 (a 14) (a 15), ai d (a 15) 42 s_now_cells, ai d (a 25) 45 s_gusts]) X lk_X4_103 dX4_waysToStay_96 rfl rfl rfl (Nat.le_of_ble_eq_true rfl) ⟨by simp only [sx_rm]; omega, by simp only [sx_rm]; omega, Nat.zero_le _, Nat.zero_le _⟩ rfl [1, 3] (by decide) rfl hf (fun l x3 h => ctX1_windIn l d (a 10) (a 11) (a 12) (a 13) s_range_peaks s_range_windsTold s_range_winds (x2 + v1) x3 h) (fun _ => rfl) (fun _ => rfl) (fun x3 hnx3 hf => ?_)
                refine g_callVi1 (pc' := 102) (As := [.int v1, .int v3, .int x3]) (b := (a 0)) (st := []) (w2 := fun x4 o5 => [oX4 a s_saidOn s_saidOff s_saidCount, oX1 (a 10) (a 11) (a 12) (a 13) s_range_peaks s_range_windsTold, ai d (a 11) 6 s_range_kinds, ai d (a 13) 12 s_range_winds, oX3 (a 14) (a 15), ai d (a 15) 42 s_now_cells, ai d (a 25) 45 o5]) X lk_X4_297 dX4_waysToStay_99 rfl rfl rfl (Nat.le_of_ble_eq_true rfl) ⟨by simp only [sx_rm]; omega, by simp only [sx_rm]; omega, Nat.zero_le _, Nat.zero_le _⟩ rfl [0, 1, 2, 6] (by decide) rfl hf (fun l x4 o5 h => ctX4_blowGust l d a s_saidOn s_saidOff s_saidCount s_range_peaks s_range_windsTold s_range_kinds s_gusts v1 v3 x3 x4 o5 h) (fun _ _ => rfl) (fun _ _ => rfl) (fun x4 o5 hnx4 hf => ?_)
                refine g_if_eq (tgt := 129) (pc' := 105) X dX4_waysToStay_102 (by decide) rfl hf (fun hf => ?_) (fun hf => ?_)
                · refine g_iload (pc' := 131) X dX4_waysToStay_129 rfl rfl ?_
                  cases hf
                  exact hR _ _ dX4_waysToStay_131 rfl
                · refine g_iload (pc' := 107) X dX4_waysToStay_105 rfl rfl ?_
                  refine g_bipush (v := 10) (pc' := 109) X dX4_waysToStay_107 rfl (by decide) ?_
                  refine g_iload (pc' := 111) X dX4_waysToStay_109 rfl rfl ?_
                  refine g_isub (pc' := 112) X dX4_waysToStay_111 rfl ?_
                  refine g_aload_n (pc' := 113) X dX4_waysToStay_112 rfl rfl rfl ?_
                  refine g_iload_n (pc' := 114) X dX4_waysToStay_113 rfl rfl rfl ?_
                  refine g_iconst (v := 1) (pc' := 115) X dX4_waysToStay_114 rfl (by decide) ?_
                  refine g_iadd (pc' := 116) X dX4_waysToStay_115 rfl ?_
                  refine g_iload_n (pc' := 117) X dX4_waysToStay_116 rfl rfl rfl ?_
                  refine g_iload_n (pc' := 118) X dX4_waysToStay_117 rfl rfl rfl ?_
                  refine g_iload (pc' := 120) X dX4_waysToStay_118 rfl rfl ?_
                  refine g_iload (pc' := 122) X dX4_waysToStay_120 rfl rfl ?_
                  refine g_callVi1 (pc' := 125) (As := [.int (v1 + (1 : Int32)), .int v2, .int v3, .int v4, .int v5]) (b := (a 0)) (st := [.int ((10 : Int32) - v5), .int v6]) (w2 := fun x6 o7 => [oX4 a s_saidOn s_saidOff s_saidCount, oX1 (a 10) (a 11) (a 12) (a 13) s_range_peaks s_range_windsTold, ai d (a 11) 6 s_range_kinds, ai d (a 13) 12 s_range_winds, oX3 (a 14) (a 15), ai d (a 15) 42 s_now_cells, ai d (a 25) 45 o7]) X lk_X4_224 dX4_waysToStay_122 rfl rfl rfl (Nat.le_of_ble_eq_true rfl) ⟨by simp only [sx_rm]; omega, by simp only [sx_rm]; omega, Nat.zero_le _, Nat.zero_le _⟩ rfl [0, 1, 2, 3, 4, 5, 6] (by decide) rfl hf (fun l x6 o7 h => ctX4_waysToStay fu l d a s_saidOn s_saidOff s_saidCount s_range_peaks s_range_windsTold s_range_kinds s_range_winds s_now_cells o5 (v1 + (1 : Int32)) v2 v3 v4 v5 x6 o7 h) (fun _ _ => rfl) (fun _ _ => rfl) (fun x6 o7 hnx6 hf => ?_)
                  refine g_imul (pc' := 126) X dX4_waysToStay_125 rfl ?_
                  refine g_iadd (pc' := 127) X dX4_waysToStay_126 rfl ?_
                  refine g_istoreN (lv' := fun x8 => [some (.ref (a 0)), some (.int v1), some (.int v2), some (.int v3), some (.int v4), some (.int v5), some (.int x8)]) (pc' := 129) X dX4_waysToStay_127 rfl (by decide) rfl (fun _ => rfl) hf (fun x8 hf => ?_)
                  refine g_iload (pc' := 131) X dX4_waysToStay_129 rfl rfl ?_
                  cases hf
                  exact hR _ _ dX4_waysToStay_131 rfl
            refine g_if_le (tgt := 73) (pc' := 41) X dX4_waysToStay_38 (by decide) rfl hf (fun hf => ?_) (fun hf => ?_)
            · exact sx_weak [true, true, true, true, true, true, true] rfl (hjX4_waysToStay_73 v1 v2 v3 v4 v5 (0 : Int32) s_gusts hf)
            · refine g_aload_n (pc' := 42) X dX4_waysToStay_41 rfl rfl rfl ?_
              refine g_iload_n (pc' := 43) X dX4_waysToStay_42 rfl rfl rfl ?_
              refine g_iload_n (pc' := 44) X dX4_waysToStay_43 rfl rfl rfl ?_
              refine g_bipush (v := 20) (pc' := 46) X dX4_waysToStay_44 rfl (by decide) ?_
              refine g_callVi1 (pc' := 49) (As := [.int v1, .int v3, .int (20 : Int32)]) (b := (a 0)) (st := []) (w2 := fun x9 o10 => [oX4 a s_saidOn s_saidOff s_saidCount, oX1 (a 10) (a 11) (a 12) (a 13) s_range_peaks s_range_windsTold, ai d (a 11) 6 s_range_kinds, ai d (a 13) 12 s_range_winds, oX3 (a 14) (a 15), ai d (a 15) 42 s_now_cells, ai d (a 25) 45 o10]) X lk_X4_297 dX4_waysToStay_46 rfl rfl rfl (Nat.le_of_ble_eq_true rfl) ⟨by simp only [sx_rm]; omega, by simp only [sx_rm]; omega, Nat.zero_le _, Nat.zero_le _⟩ rfl [0, 1, 2, 6] (by decide) rfl hf (fun l x9 o10 h => ctX4_blowGust l d a s_saidOn s_saidOff s_saidCount s_range_peaks s_range_windsTold s_range_kinds s_gusts v1 v3 (20 : Int32) x9 o10 h) (fun _ _ => rfl) (fun _ _ => rfl) (fun x9 o10 hnx9 hf => ?_)
              refine g_if_eq (tgt := 73) (pc' := 52) X dX4_waysToStay_49 (by decide) rfl hf (fun hf => ?_) (fun hf => ?_)
              · exact sx_weak [true, true, true, true, true, true, true] rfl (hjX4_waysToStay_73 v1 v2 v3 v4 v5 (0 : Int32) o10 hf)
              · refine g_iload (pc' := 54) X dX4_waysToStay_52 rfl rfl ?_
                refine g_iload (pc' := 56) X dX4_waysToStay_54 rfl rfl ?_
                refine g_aload_n (pc' := 57) X dX4_waysToStay_56 rfl rfl rfl ?_
                refine g_iload_n (pc' := 58) X dX4_waysToStay_57 rfl rfl rfl ?_
                refine g_iconst (v := 1) (pc' := 59) X dX4_waysToStay_58 rfl (by decide) ?_
                refine g_iadd (pc' := 60) X dX4_waysToStay_59 rfl ?_
                refine g_iload_n (pc' := 61) X dX4_waysToStay_60 rfl rfl rfl ?_
                refine g_iload_n (pc' := 62) X dX4_waysToStay_61 rfl rfl rfl ?_
                refine g_iload (pc' := 64) X dX4_waysToStay_62 rfl rfl ?_
                refine g_iload (pc' := 66) X dX4_waysToStay_64 rfl rfl ?_
                refine g_callVi1 (pc' := 69) (As := [.int (v1 + (1 : Int32)), .int v2, .int v3, .int v4, .int v5]) (b := (a 0)) (st := [.int v5, .int (0 : Int32)]) (w2 := fun x11 o12 => [oX4 a s_saidOn s_saidOff s_saidCount, oX1 (a 10) (a 11) (a 12) (a 13) s_range_peaks s_range_windsTold, ai d (a 11) 6 s_range_kinds, ai d (a 13) 12 s_range_winds, oX3 (a 14) (a 15), ai d (a 15) 42 s_now_cells, ai d (a 25) 45 o12]) X lk_X4_224 dX4_waysToStay_66 rfl rfl rfl (Nat.le_of_ble_eq_true rfl) ⟨by simp only [sx_rm]; omega, by simp only [sx_rm]; omega, Nat.zero_le _, Nat.zero_le _⟩ rfl [0, 1, 2, 3, 4, 5, 6] (by decide) rfl hf (fun l x11 o12 h => ctX4_waysToStay fu l d a s_saidOn s_saidOff s_saidCount s_range_peaks s_range_windsTold s_range_kinds s_range_winds s_now_cells o10 (v1 + (1 : Int32)) v2 v3 v4 v5 x11 o12 h) (fun _ _ => rfl) (fun _ _ => rfl) (fun x11 o12 hnx11 hf => ?_)
                refine g_imul (pc' := 70) X dX4_waysToStay_69 rfl ?_
                refine g_iadd (pc' := 71) X dX4_waysToStay_70 rfl ?_
                refine g_istoreN (lv' := fun x13 => [some (.ref (a 0)), some (.int v1), some (.int v2), some (.int v3), some (.int v4), some (.int v5), some (.int x13)]) (pc' := 73) X dX4_waysToStay_71 rfl (by decide) rfl (fun _ => rfl) hf (fun x13 hf => ?_)
                exact sx_weak [true, true, true, true, true, true, true] rfl (hjX4_waysToStay_73 v1 v2 v3 v4 v5 x13 o12 hf)
          · refine g_iconst (v := 1) (pc' := 32) X dX4_waysToStay_31 rfl (by decide) ?_
            cases hf
            exact hR _ _ dX4_waysToStay_32 rfl
        · refine g_iconst (v := 0) (pc' := 25) X dX4_waysToStay_24 rfl (by decide) ?_
          cases hf
          exact hR _ _ dX4_waysToStay_25 rfl
-- X4_storms
def bX4_storms_44 (s_now_cells : Nat → Int32) (v1 : Int32) : (Int32 × (Nat → Int32)) → Option ((Int32 × (Nat → Int32)) ⊕ ((Nat → Int32))) := fun (v6, s_gusts) =>
  if (5 : Int32) ≤ v6 then
    some (.inr s_gusts)
  else
    (fX3_pinsOn s_now_cells v1 v6).bind fun x3 =>
    sx_wr s_gusts 45 v6 x3 fun g4 =>
    some (.inl (v6 + (1 : Int32), g4))
def bX4_storms_91 (v3 : Int32) : (Int32 × Int32) → Option ((Int32 × Int32) ⊕ (Int32)) := fun (v7, v8) =>
  if v3 ≤ v8 then
    some (.inr v7)
  else
    sx_lt (v7 * (10 : Int32)) fun x9 =>
    some (.inl (x9, v8 + (1 : Int32)))
def fX4_storms (s_range_peaks : Int32) (s_range_windsTold : Int32) (s_range_kinds : Nat → Int32) (s_range_winds : Nat → Int32) (s_now_cells : Nat → Int32) (s_gusts : Nat → Int32) (v1 : Int32) (v2 : Int32) (v3 : Int32) (v4 : Int32) (v5 : Int32) : Option (Int32 × (Nat → Int32)) :=
  (fX4_isPlace s_range_peaks v1 v2).bind fun x1 =>
  if x1 = 0 then
    some ((-1 : Int32), s_gusts)
  else
    if v3 < 0 then
      some ((-1 : Int32), s_gusts)
    else
      if (8 : Int32) < v3 then
        some ((-1 : Int32), s_gusts)
      else
        if v4 < 0 then
          some ((-1 : Int32), s_gusts)
        else
          if (10 : Int32) < v4 then
            some ((-1 : Int32), s_gusts)
          else
            (fX4_isZeroOrOne v5).bind fun x2 =>
            if x2 = 0 then
              some ((-1 : Int32), s_gusts)
            else
              (sx_it 1000 (bX4_storms_44 s_now_cells v1) ((0 : Int32), s_gusts)).bind fun w6 =>
              (fX4_waysToStay 10 s_range_peaks s_range_windsTold s_range_kinds s_range_winds s_now_cells w6 (0 : Int32) v3 v1 v2 v4).bind fun (x7, o8) =>
              (sx_it 1000 (bX4_storms_91 v3) ((1 : Int32), (0 : Int32))).bind fun w11 =>
              if v5 = 0 then
                (fX4_inLowestTerms x7 w11 v3).bind fun x13 =>
                some (x13, o8)
              else
                (fX4_inLowestTerms w11 x7 v3).bind fun x12 =>
                some (x12, o8)
set_option maxHeartbeats 4000000 in
set_option maxRecDepth 100000 in
theorem lX4_storms_44 (d : sx_D) (κ : sx_C) (a : Nat → Nat) (s_saidOn : Int32) (s_saidOff : Int32) (s_saidCount : Int32) (s_range_peaks : Int32) (s_range_windsTold : Int32) (s_range_kinds : Nat → Int32) (s_range_winds : Nat → Int32) (s_now_cells : Nat → Int32) (v1 : Int32) (v2 : Int32) (v3 : Int32) (v4 : Int32) (v5 : Int32) (X : sx_X d κ cX4_storms 9 RX4 (sx_rm 15)) (y : (Nat → Int32)) (hE73 : ∀ (s_gusts : Nat → Int32), s_gusts = y → sx_G d κ 9 0 0 73 [some (.ref (a 0)), some (.int v1), some (.int v2), some (.int v3), some (.int v4), some (.int v5), none, none, none] [] [oX4 a s_saidOn s_saidOff s_saidCount, oX1 (a 10) (a 11) (a 12) (a 13) s_range_peaks s_range_windsTold, ai d (a 11) 6 s_range_kinds, ai d (a 13) 12 s_range_winds, oX3 (a 14) (a 15), ai d (a 15) 42 s_now_cells, ai d (a 25) 45 s_gusts]) : ∀ (n : Nat) (s : Int32 × (Nat → Int32)), sx_it n (bX4_storms_44 s_now_cells v1) s = some y → (match s with | (v6, s_gusts) => sx_G d κ 9 0 0 44 [some (.ref (a 0)), some (.int v1), some (.int v2), some (.int v3), some (.int v4), some (.int v5), some (.int v6), none, none] [] [oX4 a s_saidOn s_saidOff s_saidCount, oX1 (a 10) (a 11) (a 12) (a 13) s_range_peaks s_range_windsTold, ai d (a 11) 6 s_range_kinds, ai d (a 13) 12 s_range_winds, oX3 (a 14) (a 15), ai d (a 15) 42 s_now_cells, ai d (a 25) 45 s_gusts]) := by
  refine sx_it_run (bX4_storms_44 s_now_cells v1) (fun s => match s with | (v6, s_gusts) => sx_G d κ 9 0 0 44 [some (.ref (a 0)), some (.int v1), some (.int v2), some (.int v3), some (.int v4), some (.int v5), some (.int v6), none, none] [] [oX4 a s_saidOn s_saidOff s_saidCount, oX1 (a 10) (a 11) (a 12) (a 13) s_range_peaks s_range_windsTold, ai d (a 11) 6 s_range_kinds, ai d (a 13) 12 s_range_winds, oX3 (a 14) (a 15), ai d (a 15) 42 s_now_cells, ai d (a 25) 45 s_gusts]) y ?_
  rintro ⟨v6, s_gusts⟩ x hf hb he
  show sx_G d κ 9 0 0 44 [some (.ref (a 0)), some (.int v1), some (.int v2), some (.int v3), some (.int v4), some (.int v5), some (.int v6), none, none] [] [oX4 a s_saidOn s_saidOff s_saidCount, oX1 (a 10) (a 11) (a 12) (a 13) s_range_peaks s_range_windsTold, ai d (a 11) 6 s_range_kinds, ai d (a 13) 12 s_range_winds, oX3 (a 14) (a 15), ai d (a 15) 42 s_now_cells, ai d (a 25) 45 s_gusts]
  unfold bX4_storms_44 at hf
  refine g_iload (pc' := 46) X dX4_storms_44 rfl rfl ?_
  refine g_iconst (v := 5) (pc' := 47) X dX4_storms_46 rfl (by decide) ?_
  refine g_icmp_ge (tgt := 73) (pc' := 50) X dX4_storms_47 (by decide) rfl hf (fun hf => ?_) (fun hf => ?_)
  · exact sx_weak [true, true, true, true, true, true, false, true, true] rfl (hE73 _ (sx_ex hf he))
  · refine g_aload_n (pc' := 51) X dX4_storms_50 rfl rfl rfl ?_
    refine g_get (pc' := 54) X fl_X4_55 dX4_storms_51 rfl 0 rfl rfl ?_
    refine g_iload (pc' := 56) X dX4_storms_54 rfl rfl ?_
    refine g_aload_n (pc' := 57) X dX4_storms_56 rfl rfl rfl ?_
    refine g_get (pc' := 60) X fl_X4_26 dX4_storms_57 rfl 0 rfl rfl ?_
    refine g_iload_n (pc' := 61) X dX4_storms_60 rfl rfl rfl ?_
    refine g_iload (pc' := 63) X dX4_storms_61 rfl rfl ?_
    refine g_callVi0 (pc' := 66) (As := [.int v1, .int v6]) (b := (a 14)) (st := [.int v6, .ref (a 25)]) (w2 := fun x3 => [oX4 a s_saidOn s_saidOff s_saidCount, oX1 (a 10) (a 11) (a 12) (a 13) s_range_peaks s_range_windsTold, ai d (a 11) 6 s_range_kinds, ai d (a 13) 12 s_range_winds, oX3 (a 14) (a 15), ai d (a 15) 42 s_now_cells, ai d (a 25) 45 s_gusts]) X lk_X4_117 dX4_storms_63 rfl rfl rfl (Nat.le_of_ble_eq_true rfl) ⟨Nat.le_of_ble_eq_true rfl, Nat.le_of_ble_eq_true rfl, Nat.le_of_ble_eq_true rfl, Nat.le_of_ble_eq_true rfl⟩ rfl [4, 5] (by decide) rfl hf (fun l x3 h => ctX3_pinsOn l d (a 14) (a 15) s_now_cells v1 v6 x3 h) (fun _ => rfl) (fun _ => rfl) (fun x3 hnx3 hf => ?_)
    refine g_iast (pc' := 67) (w2 := fun g4 => [oX4 a s_saidOn s_saidOff s_saidCount, oX1 (a 10) (a 11) (a 12) (a 13) s_range_peaks s_range_windsTold, ai d (a 11) 6 s_range_kinds, ai d (a 13) 12 s_range_winds, oX3 (a 14) (a 15), ai d (a 15) 42 s_now_cells, ai d (a 25) 45 g4]) X dX4_storms_66 rfl 6 rfl hf (fun _ => rfl) (fun g4 hf => ?_)
    refine g_iinc (v := 1) (lv' := [some (.ref (a 0)), some (.int v1), some (.int v2), some (.int v3), some (.int v4), some (.int v5), some (.int (v6 + (1 : Int32))), none, none]) (pc' := 70) X dX4_storms_67 rfl rfl (by decide) (by decide) rfl rfl ?_
    refine g_goto (tgt := 44) X dX4_storms_70 (by decide) ?_
    have hk := sx_bk hf hb
    exact sx_weak [true, true, true, true, true, true, true, true, true] rfl hk
set_option maxHeartbeats 4000000 in
set_option maxRecDepth 100000 in
theorem lX4_storms_91 (d : sx_D) (κ : sx_C) (a : Nat → Nat) (s_saidOn : Int32) (s_saidOff : Int32) (s_saidCount : Int32) (s_range_peaks : Int32) (s_range_windsTold : Int32) (s_range_kinds : Nat → Int32) (s_range_winds : Nat → Int32) (s_now_cells : Nat → Int32) (s_gusts : Nat → Int32) (v3 : Int32) (v5 : Int32) (v6 : Int32) (X : sx_X d κ cX4_storms 9 RX4 (sx_rm 15)) (y : Int32) (hE110 : ∀ (v7 : Int32), v7 = y → sx_G d κ 9 0 0 110 [none, none, none, some (.int v3), none, some (.int v5), some (.int v6), some (.int v7), none] [] [oX4 a s_saidOn s_saidOff s_saidCount, oX1 (a 10) (a 11) (a 12) (a 13) s_range_peaks s_range_windsTold, ai d (a 11) 6 s_range_kinds, ai d (a 13) 12 s_range_winds, oX3 (a 14) (a 15), ai d (a 15) 42 s_now_cells, ai d (a 25) 45 s_gusts]) : ∀ (n : Nat) (s : Int32 × Int32), sx_it n (bX4_storms_91 v3) s = some y → (match s with | (v7, v8) => sx_G d κ 9 0 0 91 [none, none, none, some (.int v3), none, some (.int v5), some (.int v6), some (.int v7), some (.int v8)] [] [oX4 a s_saidOn s_saidOff s_saidCount, oX1 (a 10) (a 11) (a 12) (a 13) s_range_peaks s_range_windsTold, ai d (a 11) 6 s_range_kinds, ai d (a 13) 12 s_range_winds, oX3 (a 14) (a 15), ai d (a 15) 42 s_now_cells, ai d (a 25) 45 s_gusts]) := by
  refine sx_it_run (bX4_storms_91 v3) (fun s => match s with | (v7, v8) => sx_G d κ 9 0 0 91 [none, none, none, some (.int v3), none, some (.int v5), some (.int v6), some (.int v7), some (.int v8)] [] [oX4 a s_saidOn s_saidOff s_saidCount, oX1 (a 10) (a 11) (a 12) (a 13) s_range_peaks s_range_windsTold, ai d (a 11) 6 s_range_kinds, ai d (a 13) 12 s_range_winds, oX3 (a 14) (a 15), ai d (a 15) 42 s_now_cells, ai d (a 25) 45 s_gusts]) y ?_
  rintro ⟨v7, v8⟩ x hf hb he
  show sx_G d κ 9 0 0 91 [none, none, none, some (.int v3), none, some (.int v5), some (.int v6), some (.int v7), some (.int v8)] [] [oX4 a s_saidOn s_saidOff s_saidCount, oX1 (a 10) (a 11) (a 12) (a 13) s_range_peaks s_range_windsTold, ai d (a 11) 6 s_range_kinds, ai d (a 13) 12 s_range_winds, oX3 (a 14) (a 15), ai d (a 15) 42 s_now_cells, ai d (a 25) 45 s_gusts]
  unfold bX4_storms_91 at hf
  refine g_iload (pc' := 93) X dX4_storms_91 rfl rfl ?_
  refine g_iload_n (pc' := 94) X dX4_storms_93 rfl rfl rfl ?_
  refine g_icmp_ge (tgt := 110) (pc' := 97) X dX4_storms_94 (by decide) rfl hf (fun hf => ?_) (fun hf => ?_)
  · exact sx_weak [true, true, true, true, true, true, true, true, false] rfl (hE110 _ (sx_ex hf he))
  · refine g_iload (pc' := 99) X dX4_storms_97 rfl rfl ?_
    refine g_bipush (v := 10) (pc' := 101) X dX4_storms_99 rfl (by decide) ?_
    refine g_imul (pc' := 102) X dX4_storms_101 rfl ?_
    refine g_istoreN (lv' := fun x9 => [none, none, none, some (.int v3), none, some (.int v5), some (.int v6), some (.int x9), some (.int v8)]) (pc' := 104) X dX4_storms_102 rfl (by decide) rfl (fun _ => rfl) hf (fun x9 hf => ?_)
    refine g_iinc (v := 1) (lv' := [none, none, none, some (.int v3), none, some (.int v5), some (.int v6), some (.int x9), some (.int (v8 + (1 : Int32)))]) (pc' := 107) X dX4_storms_104 rfl rfl (by decide) (by decide) rfl rfl ?_
    refine g_goto (tgt := 91) X dX4_storms_107 (by decide) ?_
    have hk := sx_bk hf hb
    exact sx_weak [true, true, true, true, true, true, true, true, true] rfl hk
set_option maxHeartbeats 4000000 in
set_option maxRecDepth 100000 in
theorem ctX4_storms (l : Launch) (d : sx_D) (a : Nat → Nat) (s_saidOn : Int32) (s_saidOff : Int32) (s_saidCount : Int32) (s_range_peaks : Int32) (s_range_windsTold : Int32) (s_range_kinds : Nat → Int32) (s_range_winds : Nat → Int32) (s_now_cells : Nat → Int32) (s_gusts : Nat → Int32) (v1 : Int32) (v2 : Int32) (v3 : Int32) (v4 : Int32) (v5 : Int32) (r : Int32) (ro1 : Nat → Int32) (hf : fX4_storms s_range_peaks s_range_windsTold s_range_kinds s_range_winds s_now_cells s_gusts v1 v2 v3 v4 v5 = some (r, ro1)) : sx_I l d yX4_storms cX4_storms 9 .int 15 [.ref (a 0), .int v1, .int v2, .int v3, .int v4, .int v5] [oX4 a s_saidOn s_saidOff s_saidCount, oX1 (a 10) (a 11) (a 12) (a 13) s_range_peaks s_range_windsTold, ai d (a 11) 6 s_range_kinds, ai d (a 13) 12 s_range_winds, oX3 (a 14) (a 15), ai d (a 15) 42 s_now_cells, ai d (a 25) 45 s_gusts] [oX4 a s_saidOn s_saidOff s_saidCount, oX1 (a 10) (a 11) (a 12) (a 13) s_range_peaks s_range_windsTold, ai d (a 11) 6 s_range_kinds, ai d (a 13) 12 s_range_winds, oX3 (a 14) (a 15), ai d (a 15) 42 s_now_cells, ai d (a 25) 45 ro1] r := by
  refine sx_I.intro (lv0 := [some (.ref (a 0)), some (.int v1), some (.int v2), some (.int v3), some (.int v4), some (.int v5), none, none, none]) (by decide +kernel) (Nat.le_of_ble_eq_true rfl) rfl ?_
  intro κ X hR
  have X : sx_X d κ cX4_storms 9 RX4 (sx_rm 15) := X
  unfold fX4_storms at hf
  refine g_aload_n (pc' := 1) X dX4_storms_0 rfl rfl rfl ?_
  refine g_iload_n (pc' := 2) X dX4_storms_1 rfl rfl rfl ?_
  refine g_iload_n (pc' := 3) X dX4_storms_2 rfl rfl rfl ?_
  refine g_callVi0 (pc' := 6) (As := [.int v1, .int v2]) (b := (a 0)) (st := []) (w2 := fun x1 => [oX4 a s_saidOn s_saidOff s_saidCount, oX1 (a 10) (a 11) (a 12) (a 13) s_range_peaks s_range_windsTold, ai d (a 11) 6 s_range_kinds, ai d (a 13) 12 s_range_winds, oX3 (a 14) (a 15), ai d (a 15) 42 s_now_cells, ai d (a 25) 45 s_gusts]) X lk_X4_113 dX4_storms_3 rfl rfl rfl (Nat.le_of_ble_eq_true rfl) ⟨Nat.le_of_ble_eq_true rfl, Nat.le_of_ble_eq_true rfl, Nat.le_of_ble_eq_true rfl, Nat.le_of_ble_eq_true rfl⟩ rfl [0, 1] (by decide) rfl hf (fun l x1 h => ctX4_isPlace l d a s_saidOn s_saidOff s_saidCount s_range_peaks s_range_windsTold v1 v2 x1 h) (fun _ => rfl) (fun _ => rfl) (fun x1 hnx1 hf => ?_)
  refine g_if_eq (tgt := 39) (pc' := 9) X dX4_storms_6 (by decide) rfl hf (fun hf => ?_) (fun hf => ?_)
  · refine g_iconst (v := -1) (pc' := 40) X dX4_storms_39 rfl (by decide) ?_
    cases hf
    exact hR _ _ dX4_storms_40 rfl
  · refine g_iload_n (pc' := 10) X dX4_storms_9 rfl rfl rfl ?_
    refine g_if_lt (tgt := 39) (pc' := 13) X dX4_storms_10 (by decide) rfl hf (fun hf => ?_) (fun hf => ?_)
    · refine g_iconst (v := -1) (pc' := 40) X dX4_storms_39 rfl (by decide) ?_
      cases hf
      exact hR _ _ dX4_storms_40 rfl
    · refine g_iload_n (pc' := 14) X dX4_storms_13 rfl rfl rfl ?_
      refine g_bipush (v := 8) (pc' := 16) X dX4_storms_14 rfl (by decide) ?_
      refine g_icmp_gt (tgt := 39) (pc' := 19) X dX4_storms_16 (by decide) rfl hf (fun hf => ?_) (fun hf => ?_)
      · refine g_iconst (v := -1) (pc' := 40) X dX4_storms_39 rfl (by decide) ?_
        cases hf
        exact hR _ _ dX4_storms_40 rfl
      · refine g_iload (pc' := 21) X dX4_storms_19 rfl rfl ?_
        refine g_if_lt (tgt := 39) (pc' := 24) X dX4_storms_21 (by decide) rfl hf (fun hf => ?_) (fun hf => ?_)
        · refine g_iconst (v := -1) (pc' := 40) X dX4_storms_39 rfl (by decide) ?_
          cases hf
          exact hR _ _ dX4_storms_40 rfl
        · refine g_iload (pc' := 26) X dX4_storms_24 rfl rfl ?_
          refine g_bipush (v := 10) (pc' := 28) X dX4_storms_26 rfl (by decide) ?_
          refine g_icmp_gt (tgt := 39) (pc' := 31) X dX4_storms_28 (by decide) rfl hf (fun hf => ?_) (fun hf => ?_)
          · refine g_iconst (v := -1) (pc' := 40) X dX4_storms_39 rfl (by decide) ?_
            cases hf
            exact hR _ _ dX4_storms_40 rfl
          · refine g_iload (pc' := 33) X dX4_storms_31 rfl rfl ?_
            refine g_callSi0 (pc' := 36) (As := [.int v5]) (st := []) (w2 := fun x2 => [oX4 a s_saidOn s_saidOff s_saidCount, oX1 (a 10) (a 11) (a 12) (a 13) s_range_peaks s_range_windsTold, ai d (a 11) 6 s_range_kinds, ai d (a 13) 12 s_range_winds, oX3 (a 14) (a 15), ai d (a 15) 42 s_now_cells, ai d (a 25) 45 s_gusts]) X lk_X4_161 dX4_storms_33 rfl rfl rfl (Nat.le_of_ble_eq_true rfl) ⟨Nat.le_of_ble_eq_true rfl, Nat.le_of_ble_eq_true rfl, Nat.le_of_ble_eq_true rfl, Nat.le_of_ble_eq_true rfl⟩ [] (by decide) rfl hf (fun l x2 h => ctX4_isZeroOrOne l d v5 x2 h) (fun _ => rfl) (fun _ => rfl) (fun x2 hnx2 hf => ?_)
            refine g_if_ne (tgt := 41) (pc' := 39) X dX4_storms_36 (by decide) rfl hf (fun hf => ?_) (fun hf => ?_)
            · refine g_iconst (v := 0) (pc' := 42) X dX4_storms_41 rfl (by decide) ?_
              refine g_istore (lv' := [some (.ref (a 0)), some (.int v1), some (.int v2), some (.int v3), some (.int v4), some (.int v5), some (.int (0 : Int32)), none, none]) (pc' := 44) X dX4_storms_42 rfl (by decide) rfl rfl ?_
              obtain ⟨y5, hy5, hf⟩ := sx_bd hf
              refine sx_weak [true, true, true, true, true, true, true, true, true] rfl (lX4_storms_44 d κ a s_saidOn s_saidOff s_saidCount s_range_peaks s_range_windsTold s_range_kinds s_range_winds s_now_cells v1 v2 v3 v4 v5 X y5 ?_ 1000 ((0 : Int32), s_gusts) hy5)
              rintro w6 rfl
              refine g_aload_n (pc' := 74) X dX4_storms_73 rfl rfl rfl ?_
              refine g_iconst (v := 0) (pc' := 75) X dX4_storms_74 rfl (by decide) ?_
              refine g_iload_n (pc' := 76) X dX4_storms_75 rfl rfl rfl ?_
              refine g_iload_n (pc' := 77) X dX4_storms_76 rfl rfl rfl ?_
              refine g_iload_n (pc' := 78) X dX4_storms_77 rfl rfl rfl ?_
              refine g_iload (pc' := 80) X dX4_storms_78 rfl rfl ?_
              refine g_callVi1 (pc' := 83) (As := [.int (0 : Int32), .int v3, .int v1, .int v2, .int v4]) (b := (a 0)) (st := []) (w2 := fun x7 o8 => [oX4 a s_saidOn s_saidOff s_saidCount, oX1 (a 10) (a 11) (a 12) (a 13) s_range_peaks s_range_windsTold, ai d (a 11) 6 s_range_kinds, ai d (a 13) 12 s_range_winds, oX3 (a 14) (a 15), ai d (a 15) 42 s_now_cells, ai d (a 25) 45 o8]) X lk_X4_224 dX4_storms_80 rfl rfl rfl (Nat.le_of_ble_eq_true rfl) ⟨Nat.le_of_ble_eq_true rfl, Nat.le_of_ble_eq_true rfl, Nat.le_of_ble_eq_true rfl, Nat.le_of_ble_eq_true rfl⟩ rfl [0, 1, 2, 3, 4, 5, 6] (by decide) rfl hf (fun l x7 o8 h => ctX4_waysToStay 10 l d a s_saidOn s_saidOff s_saidCount s_range_peaks s_range_windsTold s_range_kinds s_range_winds s_now_cells w6 (0 : Int32) v3 v1 v2 v4 x7 o8 h) (fun _ _ => rfl) (fun _ _ => rfl) (fun x7 o8 hnx7 hf => ?_)
              refine g_istore (lv' := [some (.ref (a 0)), some (.int v1), some (.int v2), some (.int v3), some (.int v4), some (.int v5), some (.int x7), none, none]) (pc' := 85) X dX4_storms_83 rfl (by decide) rfl rfl ?_
              refine g_iconst (v := 1) (pc' := 86) X dX4_storms_85 rfl (by decide) ?_
              refine g_istore (lv' := [some (.ref (a 0)), some (.int v1), some (.int v2), some (.int v3), some (.int v4), some (.int v5), some (.int x7), some (.int (1 : Int32)), none]) (pc' := 88) X dX4_storms_86 rfl (by decide) rfl rfl ?_
              refine g_iconst (v := 0) (pc' := 89) X dX4_storms_88 rfl (by decide) ?_
              refine g_istore (lv' := [some (.ref (a 0)), some (.int v1), some (.int v2), some (.int v3), some (.int v4), some (.int v5), some (.int x7), some (.int (1 : Int32)), some (.int (0 : Int32))]) (pc' := 91) X dX4_storms_89 rfl (by decide) rfl rfl ?_
              obtain ⟨y10, hy10, hf⟩ := sx_bd hf
              refine sx_weak [false, false, false, true, false, true, true, true, true] rfl (lX4_storms_91 d κ a s_saidOn s_saidOff s_saidCount s_range_peaks s_range_windsTold s_range_kinds s_range_winds s_now_cells o8 v3 v5 x7 X y10 ?_ 1000 ((1 : Int32), (0 : Int32)) hy10)
              rintro w11 rfl
              refine g_iload (pc' := 112) X dX4_storms_110 rfl rfl ?_
              refine g_if_ne (tgt := 126) (pc' := 115) X dX4_storms_112 (by decide) rfl hf (fun hf => ?_) (fun hf => ?_)
              · refine g_iload (pc' := 128) X dX4_storms_126 rfl rfl ?_
                refine g_iload (pc' := 130) X dX4_storms_128 rfl rfl ?_
                refine g_iload_n (pc' := 131) X dX4_storms_130 rfl rfl rfl ?_
                refine g_callSi0 (pc' := 134) (As := [.int w11, .int x7, .int v3]) (st := []) (w2 := fun x12 => [oX4 a s_saidOn s_saidOff s_saidCount, oX1 (a 10) (a 11) (a 12) (a 13) s_range_peaks s_range_windsTold, ai d (a 11) 6 s_range_kinds, ai d (a 13) 12 s_range_winds, oX3 (a 14) (a 15), ai d (a 15) 42 s_now_cells, ai d (a 25) 45 o8]) X lk_X4_228 dX4_storms_131 rfl rfl rfl (Nat.le_of_ble_eq_true rfl) ⟨Nat.le_of_ble_eq_true rfl, Nat.le_of_ble_eq_true rfl, Nat.le_of_ble_eq_true rfl, Nat.le_of_ble_eq_true rfl⟩ [] (by decide) rfl hf (fun l x12 h => ctX4_inLowestTerms l d w11 x7 v3 x12 h) (fun _ => rfl) (fun _ => rfl) (fun x12 hnx12 hf => ?_)
                cases hf
                exact hR _ _ dX4_storms_134 rfl
              · refine g_iload (pc' := 117) X dX4_storms_115 rfl rfl ?_
                refine g_iload (pc' := 119) X dX4_storms_117 rfl rfl ?_
                refine g_iload_n (pc' := 120) X dX4_storms_119 rfl rfl rfl ?_
                refine g_callSi0 (pc' := 123) (As := [.int x7, .int w11, .int v3]) (st := []) (w2 := fun x13 => [oX4 a s_saidOn s_saidOff s_saidCount, oX1 (a 10) (a 11) (a 12) (a 13) s_range_peaks s_range_windsTold, ai d (a 11) 6 s_range_kinds, ai d (a 13) 12 s_range_winds, oX3 (a 14) (a 15), ai d (a 15) 42 s_now_cells, ai d (a 25) 45 o8]) X lk_X4_228 dX4_storms_120 rfl rfl rfl (Nat.le_of_ble_eq_true rfl) ⟨Nat.le_of_ble_eq_true rfl, Nat.le_of_ble_eq_true rfl, Nat.le_of_ble_eq_true rfl, Nat.le_of_ble_eq_true rfl⟩ [] (by decide) rfl hf (fun l x13 h => ctX4_inLowestTerms l d x7 w11 v3 x13 h) (fun _ => rfl) (fun _ => rfl) (fun x13 hnx13 hf => ?_)
                refine g_goto (tgt := 134) X dX4_storms_123 (by decide) ?_
                cases hf
                exact hR _ _ dX4_storms_134 rfl
            · refine g_iconst (v := -1) (pc' := 40) X dX4_storms_39 rfl (by decide) ?_
              cases hf
              exact hR _ _ dX4_storms_40 rfl

/-! length, charAt of the first text; copyDown -/
theorem zf_9 : Cond.fieldLink RJ0 9 "java/lang/String" "value" "[B" ∈ sx_gw := sx_mem 1163 (by decide +kernel) (by decide +kernel)
theorem zf_15 : Cond.fieldLink RJ0 15 "java/lang/String" "coder" "B" ∈ sx_gw := sx_mem 1164 (by decide +kernel) (by decide +kernel)
theorem zf_38 : Cond.fieldLink RJ0 38 "java/lang/String" "COMPACT_STRINGS" "Z" ∈ sx_gw := sx_mem 232 (by decide +kernel) (by decide +kernel)
theorem zf_1053 : Cond.fieldLink RJ0 1053 "jdk/internal/util/Preconditions" "SIOOBE_FORMATTER" "Ljava/util/function/BiFunction;" ∈ sx_gw := sx_mem 248 (by decide +kernel) (by decide +kernel)
theorem zl_495 : sx_lkS RJ0 495 yJ1_charAt_3b067 cJ1_charAt_3b067 2 (some .char) 2 := ⟨Or.inl (sx_mem 242 (by decide +kernel) (by decide +kernel)), sx_mem 243 (by decide +kernel) (by decide +kernel), sx_mem 112 (by decide +kernel) (by decide +kernel), sx_mem 244 (by decide +kernel) (by decide +kernel), ⟨by decide +kernel, by decide +kernel⟩, by decide +kernel⟩
theorem zl_9 : sx_lkS RJ1 9 yJ0_checkIndex_df160 cJ0_checkIndex_df160 2 none 2 := ⟨Or.inl (sx_mem 245 (by decide +kernel) (by decide +kernel)), sx_mem 246 (by decide +kernel) (by decide +kernel), sx_mem 111 (by decide +kernel) (by decide +kernel), sx_mem 247 (by decide +kernel) (by decide +kernel), ⟨by decide +kernel, by decide +kernel⟩, by decide +kernel⟩
theorem zl_1059 : sx_lkS RJ0 1059 yJ3_checkIndex_8e157 cJ3_checkIndex_8e157 3 (some .int) 3 := ⟨Or.inl (sx_mem 250 (by decide +kernel) (by decide +kernel)), sx_mem 251 (by decide +kernel) (by decide +kernel), sx_mem 113 (by decide +kernel) (by decide +kernel), sx_mem 252 (by decide +kernel) (by decide +kernel), ⟨by decide +kernel, by decide +kernel⟩, by decide +kernel⟩
theorem zl_335 : sx_lkZ RJ0 335 yJ0_coder_7d493 cJ0_coder_7d493 1 (some .byte) 0 := ⟨sx_mem 228 (by decide +kernel) (by decide +kernel), sx_mem 229 (by decide +kernel) (by decide +kernel), sx_mem 230 (by decide +kernel) (by decide +kernel), sx_mem 111 (by decide +kernel) (by decide +kernel), sx_mem 231 (by decide +kernel) (by decide +kernel), ⟨by decide +kernel, by decide +kernel⟩, by decide +kernel, rfl⟩
theorem zl_492 : sx_lkZ RJ0 492 yJ0_isLatin1_aae02 cJ0_isLatin1_aae02 1 (some .boolean) 0 := ⟨sx_mem 238 (by decide +kernel) (by decide +kernel), sx_mem 239 (by decide +kernel) (by decide +kernel), sx_mem 240 (by decide +kernel) (by decide +kernel), sx_mem 111 (by decide +kernel) (by decide +kernel), sx_mem 241 (by decide +kernel) (by decide +kernel), ⟨by decide +kernel, by decide +kernel⟩, by decide +kernel, rfl⟩
theorem zl_37 : sx_lkZ RX2 37 yJ0_length_8abf5 cJ0_length_8abf5 1 (some .int) 0 := ⟨sx_mem 224 (by decide +kernel) (by decide +kernel), sx_mem 225 (by decide +kernel) (by decide +kernel), sx_mem 226 (by decide +kernel) (by decide +kernel), sx_mem 111 (by decide +kernel) (by decide +kernel), sx_mem 227 (by decide +kernel) (by decide +kernel), ⟨by decide +kernel, by decide +kernel⟩, by decide +kernel, rfl⟩
theorem zl_42 : sx_lkZ RX2 42 yJ0_charAt_5068e cJ0_charAt_5068e 2 (some .char) 1 := ⟨sx_mem 234 (by decide +kernel) (by decide +kernel), sx_mem 235 (by decide +kernel) (by decide +kernel), sx_mem 236 (by decide +kernel) (by decide +kernel), sx_mem 111 (by decide +kernel) (by decide +kernel), sx_mem 237 (by decide +kernel) (by decide +kernel), ⟨by decide +kernel, by decide +kernel⟩, by decide +kernel, rfl⟩
theorem zl_46 : sx_lkV RX2 46 yX2_append cX2_append 2 (some .boolean) 1 2 := ⟨Or.inl (sx_mem 272 (by decide +kernel) (by decide +kernel)), lk_X4_72.2.1, lk_X4_72.2.2.1, lk_X4_72.2.2.2.1, lk_X4_72.2.2.2.2.1, ⟨by decide +kernel, by decide +kernel⟩, by decide +kernel, _, rfl, rfl⟩
theorem zl_60 : sx_lkV RX4 60 yX2_copyDown cX2_copyDown 3 none 1 2 := ⟨Or.inr ⟨"TrimmedPeaks", List.mem_of_getElem? (i := 220) (by decide +kernel)⟩, sx_mem 222 (by decide +kernel) (by decide +kernel), sx_mem 0 (by decide +kernel) (by decide +kernel), sx_mem 106 (by decide +kernel) (by decide +kernel), sx_mem 223 (by decide +kernel) (by decide +kernel), ⟨by decide +kernel, by decide +kernel⟩, by decide +kernel, _, rfl, rfl⟩
theorem zJ3 (l : Launch) (d : sx_D) (sa va : Nat) (fa : Value) (i L : Int32) (h1 : ¬ i < 0) (h2 : i < L) (hv : fa = .null ∨ ∃ n, fa = .ref n) : sx_IZ l d yJ3_checkIndex_8e157 cJ3_checkIndex_8e157 3 .int 0 [.int i, .int L, fa] i sa va fa := by
  refine sx_IZ.intro (lv0 := [some (.int i), some (.int L), some fa]) (by decide +kernel) (by rcases hv with rfl | ⟨n, rfl⟩ <;> exact Nat.le_of_ble_eq_true rfl) (by rcases hv with rfl | ⟨n, rfl⟩ <;> rfl) ?_
  intro κ X hZ hR
  have X : sx_X d κ cJ3_checkIndex_8e157 3 RJ3 (sx_rm 0) := X
  refine g_iload_n (pc' := 1) X dJ3_checkIndex_8e157_0 rfl rfl rfl ?_
  refine g_if_lt_f (tgt := 9) (pc' := 4) X dJ3_checkIndex_8e157_1 (by decide) rfl h1 ?_
  refine g_iload_n (pc' := 5) X dJ3_checkIndex_8e157_4 rfl rfl rfl ?_
  refine g_iload_n (pc' := 6) X dJ3_checkIndex_8e157_5 rfl rfl rfl ?_
  refine g_icmp_lt_t (tgt := 16) X dJ3_checkIndex_8e157_6 (by decide) h2 ?_
  refine g_iload_n (pc' := 17) X dJ3_checkIndex_8e157_16 rfl rfl rfl ?_
  exact hR _ _ dJ3_checkIndex_8e157_17 rfl
theorem zJ0c (l : Launch) (d : sx_D) (sa va : Nat) (fa : Value) (i L : Int32) (h1 : ¬ i < 0) (h2 : i < L) : sx_VZ l d yJ0_checkIndex_df160 cJ0_checkIndex_df160 2 1 [.int i, .int L] [] [] sa va fa := by
  refine sx_VZ.intro (lv0 := [some (.int i), some (.int L)]) (by decide +kernel) (Nat.le_of_ble_eq_true rfl) rfl ?_
  intro κ X hZ hR
  have X : sx_X d κ cJ0_checkIndex_df160 2 RJ0 (sx_rm 1) := X
  refine g_iload_n (pc' := 1) X dJ0_checkIndex_df160_0 rfl rfl rfl ?_
  refine g_iload_n (pc' := 2) X dJ0_checkIndex_df160_1 rfl rfl rfl ?_
  refine g_sform (pc' := 5) X hZ zf_1053 dJ0_checkIndex_df160_2 rfl ?_
  refine g_callYi (pc' := 8) (As := [.int i, .int L, fa]) (st := []) X hZ zl_1059 dJ0_checkIndex_df160_5 rfl rfl rfl (Nat.le_of_ble_eq_true rfl) ⟨Nat.le_of_ble_eq_true rfl, Nat.le_of_ble_eq_true rfl, Nat.le_of_ble_eq_true rfl, Nat.le_of_ble_eq_true rfl⟩ (fun l => zJ3 l d sa va fa i L h1 h2 hZ.isr) (fun _ => ?_)
  refine g_pop (pc' := 9) X dJ0_checkIndex_df160_8 rfl rfl ?_
  exact hR _ _ dJ0_checkIndex_df160_9
theorem nI_104 : nI 104 = (104 : Int32) := by decide +kernel
theorem zJ1 (l : Launch) (d : sx_D) (sa va : Nat) (fa : Value) (j : Nat) (hj : j < 104) : sx_IZ l d yJ1_charAt_3b067 cJ1_charAt_3b067 2 .char 2 [.ref va, .int (nI j)] (chT j) sa va fa := by
  have h1 : ¬ nI j < 0 := nI_pos (by omega)
  have h2 : nI j < (104 : Int32) := by rw [← nI_104, px_lt (by omega) (by omega)]; exact hj
  obtain ⟨e1, e2⟩ := chT_ok j hj
  refine sx_IZ.intro (lv0 := [some (.ref va), some (.int (nI j))]) (by decide +kernel) (Nat.le_of_ble_eq_true rfl) rfl ?_
  intro κ X hZ hR
  have X : sx_X d κ cJ1_charAt_3b067 2 RJ1 (sx_rm 2) := X
  refine g_iload_n (pc' := 1) X dJ1_charAt_3b067_0 rfl rfl rfl ?_
  refine g_aload_n (pc' := 2) X dJ1_charAt_3b067_1 rfl rfl rfl ?_
  refine g_slng (pc' := 3) X hZ dJ1_charAt_3b067_2 rfl ?_
  refine g_callYv (pc' := 6) (As := [.int (nI j), .int 104]) (st := []) X hZ zl_9 dJ1_charAt_3b067_3 rfl rfl rfl (Nat.le_of_ble_eq_true rfl) ⟨Nat.le_of_ble_eq_true rfl, Nat.le_of_ble_eq_true rfl, Nat.le_of_ble_eq_true rfl, Nat.le_of_ble_eq_true rfl⟩ (fun l => zJ0c l d sa va fa (nI j) 104 h1 h2) ?_
  refine g_aload_n (pc' := 7) X dJ1_charAt_3b067_6 rfl rfl rfl ?_
  refine g_iload_n (pc' := 8) X dJ1_charAt_3b067_7 rfl rfl rfl ?_
  refine g_sbyt (pc' := 9) X hZ hj dJ1_charAt_3b067_8 rfl ?_
  refine g_sipush (v := 255) (pc' := 12) X dJ1_charAt_3b067_9 rfl (by decide) ?_
  refine g_iand (pc' := 13) X dJ1_charAt_3b067_12 rfl ?_
  refine g_i2c (pc' := 14) X dJ1_charAt_3b067_13 rfl ?_
  rw [e1]
  exact hR _ _ dJ1_charAt_3b067_14 (by show Value.int (vp_nar .char (chT j)) = _; rw [e2])
theorem zJ0co (l : Launch) (d : sx_D) (sa va : Nat) (fa : Value) : sx_IZ l d yJ0_coder_7d493 cJ0_coder_7d493 1 .byte 0 [.ref sa] 0 sa va fa := by
  refine sx_IZ.intro (lv0 := [some (.ref sa)]) (by decide +kernel) (Nat.le_of_ble_eq_true rfl) rfl ?_
  intro κ X hZ hR
  have X : sx_X d κ cJ0_coder_7d493 1 RJ0 (sx_rm 0) := X
  refine g_scomp (pc' := 3) X hZ zf_38 dJ0_coder_7d493_0 rfl ?_
  refine g_if_eq_f (tgt := 13) (pc' := 6) X dJ0_coder_7d493_3 (by decide) rfl (by decide) ?_
  refine g_aload_n (pc' := 7) X dJ0_coder_7d493_6 rfl rfl rfl ?_
  refine g_scod (pc' := 10) X hZ zf_15 dJ0_coder_7d493_7 rfl ?_
  refine g_goto (tgt := 14) X dJ0_coder_7d493_10 (by decide) ?_
  exact hR _ _ dJ0_coder_7d493_14 rfl
theorem zJ0la (l : Launch) (d : sx_D) (sa va : Nat) (fa : Value) : sx_IZ l d yJ0_isLatin1_aae02 cJ0_isLatin1_aae02 1 .boolean 0 [.ref sa] 1 sa va fa := by
  refine sx_IZ.intro (lv0 := [some (.ref sa)]) (by decide +kernel) (Nat.le_of_ble_eq_true rfl) rfl ?_
  intro κ X hZ hR
  have X : sx_X d κ cJ0_isLatin1_aae02 1 RJ0 (sx_rm 0) := X
  refine g_scomp (pc' := 3) X hZ zf_38 dJ0_isLatin1_aae02_0 rfl ?_
  refine g_if_eq_f (tgt := 17) (pc' := 6) X dJ0_isLatin1_aae02_3 (by decide) rfl (by decide) ?_
  refine g_aload_n (pc' := 7) X dJ0_isLatin1_aae02_6 rfl rfl rfl ?_
  refine g_scod (pc' := 10) X hZ zf_15 dJ0_isLatin1_aae02_7 rfl ?_
  refine g_if_ne_f (tgt := 17) (pc' := 13) X dJ0_isLatin1_aae02_10 (by decide) rfl rfl ?_
  refine g_iconst (v := 1) (pc' := 14) X dJ0_isLatin1_aae02_13 rfl (by decide) ?_
  refine g_goto (tgt := 18) X dJ0_isLatin1_aae02_14 (by decide) ?_
  exact hR _ _ dJ0_isLatin1_aae02_18 rfl
theorem zJ0l (l : Launch) (d : sx_D) (sa va : Nat) (fa : Value) : sx_IZ l d yJ0_length_8abf5 cJ0_length_8abf5 1 .int 1 [.ref sa] 104 sa va fa := by
  refine sx_IZ.intro (lv0 := [some (.ref sa)]) (by decide +kernel) (Nat.le_of_ble_eq_true rfl) rfl ?_
  intro κ X hZ hR
  have X : sx_X d κ cJ0_length_8abf5 1 RJ0 (sx_rm 1) := X
  refine g_aload_n (pc' := 1) X dJ0_length_8abf5_0 rfl rfl rfl ?_
  refine g_sval (pc' := 4) X hZ zf_9 dJ0_length_8abf5_1 rfl ?_
  refine g_slng (pc' := 5) X hZ dJ0_length_8abf5_4 rfl ?_
  refine g_aload_n (pc' := 6) X dJ0_length_8abf5_5 rfl rfl rfl ?_
  refine g_callZi (pc' := 9) (As := []) (st := [.int 104]) X hZ zl_335 dJ0_length_8abf5_6 rfl rfl rfl (Nat.le_of_ble_eq_true rfl) ⟨Nat.le_of_ble_eq_true rfl, Nat.le_of_ble_eq_true rfl, Nat.le_of_ble_eq_true rfl, Nat.le_of_ble_eq_true rfl⟩ (fun l => zJ0co l d sa va fa) (fun _ => ?_)
  refine g_ishr (pc' := 10) X dJ0_length_8abf5_9 rfl ?_
  exact hR _ _ dJ0_length_8abf5_10 rfl
theorem zJ0ch (l : Launch) (d : sx_D) (sa va : Nat) (fa : Value) (j : Nat) (hj : j < 104) : sx_IZ l d yJ0_charAt_5068e cJ0_charAt_5068e 2 .char 3 [.ref sa, .int (nI j)] (chT j) sa va fa := by
  refine sx_IZ.intro (lv0 := [some (.ref sa), some (.int (nI j))]) (by decide +kernel) (Nat.le_of_ble_eq_true rfl) rfl ?_
  intro κ X hZ hR
  have X : sx_X d κ cJ0_charAt_5068e 2 RJ0 (sx_rm 3) := X
  refine g_aload_n (pc' := 1) X dJ0_charAt_5068e_0 rfl rfl rfl ?_
  refine g_callZi (pc' := 4) (As := []) (st := []) X hZ zl_492 dJ0_charAt_5068e_1 rfl rfl rfl (Nat.le_of_ble_eq_true rfl) ⟨Nat.le_of_ble_eq_true rfl, Nat.le_of_ble_eq_true rfl, Nat.le_of_ble_eq_true rfl, Nat.le_of_ble_eq_true rfl⟩ (fun l => zJ0la l d sa va fa) (fun _ => ?_)
  refine g_if_eq_f (tgt := 16) (pc' := 7) X dJ0_charAt_5068e_4 (by decide) rfl (by decide) ?_
  refine g_aload_n (pc' := 8) X dJ0_charAt_5068e_7 rfl rfl rfl ?_
  refine g_sval (pc' := 11) X hZ zf_9 dJ0_charAt_5068e_8 rfl ?_
  refine g_iload_n (pc' := 12) X dJ0_charAt_5068e_11 rfl rfl rfl ?_
  refine g_callYi (pc' := 15) (As := [.ref va, .int (nI j)]) (st := []) X hZ zl_495 dJ0_charAt_5068e_12 rfl rfl rfl (Nat.le_of_ble_eq_true rfl) ⟨Nat.le_of_ble_eq_true rfl, Nat.le_of_ble_eq_true rfl, Nat.le_of_ble_eq_true rfl, Nat.le_of_ble_eq_true rfl⟩ (fun l => zJ1 l d sa va fa j hj) (fun hn => ?_)
  exact hR _ _ dJ0_charAt_5068e_15 hn
theorem e_appT {j : Nat} (f : Nat → Int32) (hj : j < 104) : fX2_append (nI j) (pf f chT 0 j) (chT j) = some ((1 : Int32), nI (j + 1), pf f chT 0 (j + 1)) := by
  unfold fX2_append
  rw [n_200, if_pos ((px_lt (by omega) (by omega)).mpr (by omega)), (chT_ok j hj).2, px_wr (by omega) (by omega), show nI j + (1 : Int32) = nI (j + 1) from nI_1 j, px_slt, pf_succ0 f chT j]
theorem lpT {d : sx_D} {κ : sx_C} (q ql qn qr qs sa va : Nat) (fa : Value) (at_ : Int32) (f : Nat → Int32) (X : sx_X d κ cX2_copyDown 3 RX2 (sx_rm 4)) (hZ : sx_St κ sa va fa) (hR : ∀ (pc : Nat) (lv : List (Option Value)), decode cX2_copyDown pc = .ok (.return_, 1) → sx_G d κ 3 0 0 pc lv [] [oX2 q ql qn qr qs (nI 104) at_, ac d ql 200 (pf f chT 0 104)]) : ∀ (m j : Nat), j + m = 104 → sx_G d κ 3 0 0 7 [some (.ref q), some (.ref sa), some (.int (nI j))] [] [oX2 q ql qn qr qs (nI j) at_, ac d ql 200 (pf f chT 0 j)]
  | 0, j, h => by
    have h : j = 104 := by omega
    subst h
    refine g_iload_n (pc' := 8) X dX2_copyDown_7 rfl rfl rfl ?_
    refine g_aload_n (pc' := 9) X dX2_copyDown_8 rfl rfl rfl ?_
    refine g_callZi (pc' := 12) (As := []) (st := [.int (nI 104)]) X hZ zl_37 dX2_copyDown_9 rfl rfl rfl (Nat.le_of_ble_eq_true rfl) ⟨Nat.le_of_ble_eq_true rfl, Nat.le_of_ble_eq_true rfl, Nat.le_of_ble_eq_true rfl, Nat.le_of_ble_eq_true rfl⟩ (fun l => zJ0l l d sa va fa) (fun _ => ?_)
    refine g_icmp_ge_t (tgt := 31) X dX2_copyDown_12 (by decide) (by decide) ?_
    exact hR _ _ dX2_copyDown_31
  | m + 1, j, h => by
    have hj : j < 104 := by omega
    refine g_iload_n (pc' := 8) X dX2_copyDown_7 rfl rfl rfl ?_
    refine g_aload_n (pc' := 9) X dX2_copyDown_8 rfl rfl rfl ?_
    refine g_callZi (pc' := 12) (As := []) (st := [.int (nI j)]) X hZ zl_37 dX2_copyDown_9 rfl rfl rfl (Nat.le_of_ble_eq_true rfl) ⟨Nat.le_of_ble_eq_true rfl, Nat.le_of_ble_eq_true rfl, Nat.le_of_ble_eq_true rfl, Nat.le_of_ble_eq_true rfl⟩ (fun l => zJ0l l d sa va fa) (fun _ => ?_)
    refine g_icmp_ge_f (tgt := 31) (pc' := 15) X dX2_copyDown_12 (by decide) rfl (by rw [← nI_104, px_le (by omega) (by omega)]; omega) ?_
    refine g_aload_n (pc' := 16) X dX2_copyDown_15 rfl rfl rfl ?_
    refine g_aload_n (pc' := 17) X dX2_copyDown_16 rfl rfl rfl ?_
    refine g_iload_n (pc' := 18) X dX2_copyDown_17 rfl rfl rfl ?_
    refine g_callZi (pc' := 21) (As := [.int (nI j)]) (st := [.ref q]) X hZ zl_42 dX2_copyDown_18 rfl rfl rfl (Nat.le_of_ble_eq_true rfl) ⟨Nat.le_of_ble_eq_true rfl, Nat.le_of_ble_eq_true rfl, Nat.le_of_ble_eq_true rfl, Nat.le_of_ble_eq_true rfl⟩ (fun l => zJ0ch l d sa va fa j hj) (fun _ => ?_)
    refine g_cVi (pc' := 24) (As := [.int (chT j)]) (b := q) (st := []) (w2 := [oX2 q ql qn qr qs (nI (j + 1)) at_, ac d ql 200 (pf f chT 0 (j + 1))]) X zl_46 dX2_copyDown_21 rfl rfl rfl (Nat.le_of_ble_eq_true rfl) ⟨Nat.le_of_ble_eq_true rfl, Nat.le_of_ble_eq_true rfl, Nat.le_of_ble_eq_true rfl, Nat.le_of_ble_eq_true rfl⟩ rfl [0, 1] (by decide) rfl (fun l => ctX2_append l d q ql qn qr qs (nI j) at_ (pf f chT 0 j) (chT j) 1 (nI (j + 1)) (pf f chT 0 (j + 1)) (e_appT f hj)) rfl rfl ?_
    refine g_pop (pc' := 25) X dX2_copyDown_24 rfl rfl ?_
    refine g_iinc (v := 1) (pc' := 28) (lv' := [some (.ref q), some (.ref sa), some (.int (nI j + 1))]) X dX2_copyDown_25 rfl rfl (by decide) (by decide) rfl rfl ?_
    rw [show nI j + (1 : Int32) = nI (j + 1) from nI_1 j]
    refine g_goto (tgt := 7) X dX2_copyDown_28 (by decide) ?_
    exact lpT q ql qn qr qs sa va fa at_ f X hZ hR m (j + 1) (by omega)
theorem ctX2_copyDown (l : Launch) (d : sx_D) (q ql qn qr qs sa va : Nat) (fa : Value) (len at_ : Int32) (f : Nat → Int32) : sx_VZ l d yX2_copyDown cX2_copyDown 3 4 [.ref q, .ref sa] [oX2 q ql qn qr qs len at_, ac d ql 200 f] [oX2 q ql qn qr qs (nI 104) at_, ac d ql 200 (pf f chT 0 104)] sa va fa := by
  refine sx_VZ.intro (lv0 := [some (.ref q), some (.ref sa), none]) (by decide +kernel) (Nat.le_of_ble_eq_true rfl) rfl ?_
  intro κ X hZ hR
  have X : sx_X d κ cX2_copyDown 3 RX2 (sx_rm 4) := X
  refine g_aload_n (pc' := 1) X dX2_copyDown_0 rfl rfl rfl ?_
  refine g_iconst (v := 0) (pc' := 2) X dX2_copyDown_1 rfl (by decide) ?_
  refine g_put (pc' := 5) (w2 := [oX2 q ql qn qr qs 0 at_, ac d ql 200 f]) X fl_X2_33 fw_X2 rfl dX2_copyDown_2 rfl 0 rfl rfl rfl (Nat.le_of_ble_eq_true rfl) rfl ?_
  refine g_iconst (v := 0) (pc' := 6) X dX2_copyDown_5 rfl (by decide) ?_
  refine g_istore_n (lv' := [some (.ref q), some (.ref sa), some (.int 0)]) (pc' := 7) X dX2_copyDown_6 rfl rfl (by decide) rfl rfl ?_
  have h := lpT q ql qn qr qs sa va fa at_ f X hZ hR 104 0 (by omega)
  rw [pf_0] at h
  exact h

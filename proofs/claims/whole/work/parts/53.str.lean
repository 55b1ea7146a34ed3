/-! the first text: a String constant, and the methods of String that are asked -/
def fT : List Int32 := [112, 48, 44, 57, 59, 112, 49, 44, 49, 52, 59, 112, 50, 44, 54, 59, 112, 51, 44, 49, 49, 59, 112, 48, 44, 49, 55, 59, 115, 48, 44, 51, 59, 115, 49, 44, 49, 59, 115, 51, 44, 52, 59, 111, 48, 44, 48, 44, 53, 59, 111, 48, 44, 50, 44, 51, 59, 111, 49, 44, 48, 44, 57, 59, 111, 50, 44, 49, 44, 50, 59, 111, 51, 44, 48, 44, 52, 59, 111, 51, 44, 50, 44, 54, 59, 111, 52, 44, 51, 44, 56, 59, 119, 51, 59, 119, 53, 59, 119, 50, 59, 119, 55, 59]
def chT (k : Nat) : Int32 := fT.getD k 0
theorem chT_ok : ∀ k, k < 104 → ((chT k &&& 255).toUInt32 % 65536).toInt32 = chT k ∧ vp_nar .char (chT k) = chT k := by decide +kernel
def stW (sa va : Nat) (fa : Value) (A : Nat → Prop) (U : State) (H : Heap) : Prop := vk_S 1 [104] [fT] (fun _ => sa) (fun _ => va) A U H ∧ va_Z "java/lang/String" "COMPACT_STRINGS" "Z" (.int 1) A U H ∧ va_Z "jdk/internal/util/Preconditions" "SIOOBE_FORMATTER" "Ljava/util/function/BiFunction;" fa A U H ∧ fa.isRef = true
theorem stW.call {sa va : Nat} {fa : Value} {A B : Nat → Prop} {s U : State} {H : Heap} {locs : List Loc} (h : stW sa va fa A s s.heap) (hS : va_S A s.heap H locs) (hAB : ∀ q, B q → A q) (hW : s.vm.Alike U.vm) (hU : U.heap = H) : stW sa va fa B U U.heap := by
  rw [hU]
  exact ⟨((h.1.kept hS.2.1).narrow hAB).moved hW, ((h.2.1.kept hS.2.1).narrow hAB).moved hW, ((h.2.2.1.kept hS.2.1).narrow hAB).moved hW, h.2.2.2⟩
def sx_BS (d : sx_D) (wc : va_W) (sz sa va : Nat) (fa : Value) (U : State) : Prop := sx_B d wc sz U ∧ stW sa va fa (va_A wc sz) U U.heap
theorem sx_BS_blind {d : sx_D} {av : List Value} {wc : va_W} {sz sa va : Nat} {fa : Value} : FrameBlind (va_Pc av (sx_BS d wc sz sa va fa)) := fun a U g mk q => by
  obtain ⟨q0, ⟨q1, qP, qK, qD⟩, qZ⟩ := q
  exact ⟨q0, ⟨q1, qP, sx_KK.same (s := U) (U := U.calling g mk a) rfl qK, qD⟩, vk_S.moved (u := U) (U := U.calling g mk a) (Vm.Alike.refl U.vm) qZ.1, va_Z.moved (u := U) (U := U.calling g mk a) (Vm.Alike.refl U.vm) qZ.2.1, va_Z.moved (u := U) (U := U.calling g mk a) (Vm.Alike.refl U.vm) qZ.2.2.1, qZ.2.2.2⟩
def sx_St (κ : sx_C) (sa va : Nat) (fa : Value) : Prop := match κ with
  | ((_, _, _, _, s, _, _, _, _, _), A, _) => stW sa va fa A s s.heap
def sx_IZ (l : Launch) (d : sx_D) (y : MethodName) (cc : ByteArray) (mL : Nat) (ret : FieldType) (h : Nat) (av : List Value) (r : Int32) (sa va : Nat) (fa : Value) : Prop := ∀ sz : Nat, Met l y (.code y cc mL (some ret) :: sx_gw) (sx_rm h) (va_Pc av (sx_BS d [] sz sa va fa)) (va_Qi (fun x (_ : Unit) => x = r ∧ narrow ret (.int r) = .int r) (fun _ _ => True) (va_A [] sz)) 0 0 (va_A [] sz)
def sx_VZ (l : Launch) (d : sx_D) (y : MethodName) (cc : ByteArray) (mL : Nat) (h : Nat) (av : List Value) (wc w1 : va_W) (sa va : Nat) (fa : Value) : Prop := ∀ sz : Nat, Met l y (.code y cc mL none :: sx_gw) (sx_rm h) (va_Pc av (sx_BS d wc sz sa va fa)) (va_Qv (fun (_ : Unit) => True) (fun _ t => va_P d.1 vwCl w1 t.heap) (va_A wc sz)) 0 0 (va_A wc sz)
theorem sx_IZ.intro {l : Launch} {d : sx_D} {y : MethodName} {cc : ByteArray} {mL : Nat} {ret : FieldType} {h : Nat} {av : List Value} {r : Int32} {sa va : Nat} {fa : Value} {lv0 : List (Option Value)} (hy : plainFor y = true) (hlen : (lg_sl av).length ≤ mL) (hlv : lv_args 0 av = sx_al 0 lv0)
    (body : ∀ κ : sx_C, sx_X d κ cc mL y.cls (sx_rm h) → sx_St κ sa va fa → (∀ (pc : Nat) (lv : List (Option Value)), decode cc pc = .ok (.ireturn, 1) → narrow ret (.int r) = .int r → sx_G d κ mL 0 0 pc lv [.int r] []) → sx_G d κ mL 0 0 0 lv0 [] []) : sx_IZ l d y cc mL ret h av r sa va fa := by
  intro sz
  refine sx_ofW (cc := cc) (maxL := mL) (ret := some ret) hy rfl ?_
  intro p e s m args below meth c s₁ B hml hv
  obtain ⟨rfl, ⟨hsz, hP, hKK, hD0⟩, hZ⟩ := hv
  have hlocks := B.notSynchronized
  subst hsz
  have hl := lv_entry av (n := mL) hlen
  rw [lg_entry_eq]
  generalize (lg_sl av ++ List.replicate (mL - (lg_sl av).length) Slot.unset).toArray = ls at hl ⊢
  rw [hlv] at hl
  refine body ((p, l, e, (headSpec _ (sx_rm h)).room, s, m, av.toArray, below, meth, c), va_A [] s.heap.size, _) ⟨B.exec, B.bytes, hml, findClass_of_methodNamed B.named, fun w hw => atoms_spec B.pre w (List.mem_cons_of_mem _ hw), hKK, fun q h => Or.inr h, rfl⟩ hZ ?_ s.heap [] ls hP hD0.self va_S.rf hl
  intro pc lv hd hn H locs ls hP hD hS hl
  exact W.zret B.exec B.bytes B.returns hn (fun t ht hW => ⟨⟨r, (), rfl, ⟨rfl, hn⟩, trivial⟩, hS.F ht⟩) hS.2.2 hd (hlocks := hlocks)
theorem sx_VZ.intro {l : Launch} {d : sx_D} {y : MethodName} {cc : ByteArray} {mL : Nat} {h : Nat} {av : List Value} {wc w1 : va_W} {sa va : Nat} {fa : Value} {lv0 : List (Option Value)} (hy : plainFor y = true) (hlen : (lg_sl av).length ≤ mL) (hlv : lv_args 0 av = sx_al 0 lv0)
    (body : ∀ κ : sx_C, sx_X d κ cc mL y.cls (sx_rm h) → sx_St κ sa va fa → (∀ (pc : Nat) (lv : List (Option Value)), decode cc pc = .ok (.return_, 1) → sx_G d κ mL 0 0 pc lv [] w1) → sx_G d κ mL 0 0 0 lv0 [] wc) : sx_VZ l d y cc mL h av wc w1 sa va fa := by
  intro sz
  refine sx_ofW (cc := cc) (maxL := mL) (ret := none) hy rfl ?_
  intro p e s m args below meth c s₁ B hml hv
  obtain ⟨rfl, ⟨hsz, hP, hKK, hD0⟩, hZ⟩ := hv
  have hlocks := B.notSynchronized
  subst hsz
  have hl := lv_entry av (n := mL) hlen
  rw [lg_entry_eq]
  generalize (lg_sl av ++ List.replicate (mL - (lg_sl av).length) Slot.unset).toArray = ls at hl ⊢
  rw [hlv] at hl
  refine body ((p, l, e, (headSpec _ (sx_rm h)).room, s, m, av.toArray, below, meth, c), va_A wc s.heap.size, _) ⟨B.exec, B.bytes, hml, findClass_of_methodNamed B.named, fun w hw => atoms_spec B.pre w (List.mem_cons_of_mem _ hw), hKK, fun q h => Or.inr h, rfl⟩ hZ ?_ s.heap [] ls hP hD0.self va_S.rf hl
  intro pc lv hd H locs ls hP hD hS hl
  exact W.vret B.exec B.bytes B.returns (fun t ht hW => ⟨⟨(), rfl, trivial, by show va_P d.1 vwCl w1 t.heap; rw [ht]; exact hP⟩, hS.F ht⟩) hS.2.2 hd (hlocks := hlocks)
theorem sx_St.isr {κ : sx_C} {sa va : Nat} {fa : Value} (h : sx_St κ sa va fa) : fa = .null ∨ ∃ n, fa = .ref n := by
  obtain ⟨⟨p, l, e, R, s, m, args, below, meth, c⟩, A, Q⟩ := κ
  have h : stW sa va fa A s s.heap := h
  have h2 := h.2.2.2
  cases fa <;> first | (cases h2; done) | exact Or.inl rfl | exact Or.inr ⟨_, rfl⟩
/-- links to methods of String -/
def sx_lkZ (own : String) (index : Nat) (y : MethodName) (bytes : ByteArray) (mL : Nat) (ret : Option FieldType) (np : Nat) : Prop := Cond.methodLink own index y ∈ sx_gw ∧ Cond.instanceMethod y ∈ sx_gw ∧ Cond.selects y.cls y y ∈ sx_gw ∧ Cond.initialized y.cls ∈ sx_gw ∧ Cond.code y bytes mL ret ∈ sx_gw ∧ (y.cls ≠ "java/lang/invoke/MethodHandle" ∧ y.cls ≠ "java/lang/invoke/VarHandle") ∧ (parseMethodDescriptor y.desc).map (fun d => d.parameters.length) = some np ∧ y.cls = "java/lang/String"
section SXZ
variable {d : sx_D} {κ : sx_C} {cc : ByteArray} {nL k n pc pc' : Nat} {own : String} {rm : Room} {lv : List (Option Value)} {st0 st : List Value} {ws : va_W} {sa va : Nat} {fa : Value}
theorem va_P0 {D : va_G} {cl : List vw_C} {H : Heap} : va_P D cl [] H := fun k q h => by cases h
theorem va_D0 {A : Nat → Prop} : va_D A [] := ⟨fun i j p q h => (by cases h), fun k q h => (by cases h)⟩
theorem va_A0 {A : Nat → Prop} {H0 H : Heap} {locs : List Loc} (hS : va_S A H0 H locs) (hA : ∀ q, H0.size ≤ q → A q) : ∀ q, va_A [] H.size q → A q := by
  intro q h
  rcases h with ⟨k, e, h⟩ | h
  · cases h
  · exact hA q (Nat.le_trans hS.1 h)
theorem va_A0n {sz q : Nat} (h : q < sz) : ¬ va_A [] sz q := by
  rintro (⟨k, e, h1⟩ | h1)
  · cases h1
  · omega
theorem g_callZi (X : sx_X d κ cc nL own rm) (hZ : sx_St κ sa va fa) {index : Nat} {y : MethodName} {bytes : ByteArray} {mL : Nat} {ret : FieldType} {np h : Nat} {As : List Value} {r : Int32} (lk : sx_lkZ own index y bytes mL (some ret) np) (hd : decode cc pc = .ok (.invokevirtual index, 3)) (hp : pc + 3 = pc') (hst : st0 = As.reverse ++ .ref sa :: st) (hnp : As.length = np) (hsum : (st.map fun v => v.category).sum ≤ 8) (hrm : h + 1 ≤ rm.frames ∧ 8 + (mL + 11) + 40 * h ≤ rm.locals ∧ k ≤ rm.cells ∧ n ≤ rm.slots) (ct : ∀ l : Launch, sx_IZ l d y bytes mL ret h (.ref sa :: As) r sa va fa) (K : narrow ret (.int r) = .int r → sx_G d κ nL k n pc' lv (.int r :: st) ws) : sx_G d κ nL k n pc lv st0 ws := by
  obtain ⟨⟨p, l, e, R, s, m, args, below, meth, c⟩, A, Q⟩ := κ
  obtain ⟨hx, hb, hml, hown, hts, hKK, hA, hR⟩ := X
  have hZ : stW sa va fa A s s.heap := hZ
  have hc := ct l
  subst hp
  subst hst
  subst hR
  obtain ⟨hln, hin, hse, hini, hco, hy, hpn, hcl⟩ := lk
  intro H locs ls hP hD hS hl
  have hF := va_A0 hS hA
  have hpre : PreV s H y.cls sa (va_Pc (.ref sa :: As) (sx_BS d [] H.size sa va fa)) As := ⟨sx_BS_blind, by
    rw [hcl]
    exact vk_recv (i := 0) hZ.1 (by omega) hS, fun U hU hW => ⟨rfl, ⟨by rw [hU], va_P0, hKK.warm hW, va_D0⟩, hZ.call hS hF hW.alike hU⟩⟩
  refine va_calli (va_runV (C := y.cls) (Ts := sx_gw) ⟨hx, hb, hml, hown, hts⟩ (hc H.size) ⟨⟨rfl, rfl, hrm.1, hrm.2.1, sx_warm hts hco, List.mem_cons_self, hts _ hco, hts _ hini, hy, sx_np hpn, hts _ hln⟩, hts _ hin, hts _ hse⟩ hpre rfl hnp hl.1 rfl (lv_room hsum) hd ⟨hrm.2.2.1, hrm.2.2.2⟩) hS (fun q _ h => hF q h) hF (fun r u t H1 locs ht hvm hw0 hB hz1 hk1 hS => ?_)
  obtain ⟨rfl, hn⟩ := hw0
  exact K hn H1 locs ls (hP.kept (fun j x hx => hk1 x.1 (hP j x hx).lt (va_A0n (hP j x hx).lt))) hD hS hl
theorem g_callYi (X : sx_X d κ cc nL own rm) (hZ : sx_St κ sa va fa) {index : Nat} {y : MethodName} {bytes : ByteArray} {mL : Nat} {ret : FieldType} {np h : Nat} {As : List Value} {r : Int32} (lk : sx_lkS own index y bytes mL (some ret) np) (hd : decode cc pc = .ok (.invokestatic index, 3)) (hp : pc + 3 = pc') (hst : st0 = As.reverse ++ st) (hnp : As.length = np) (hsum : (st.map fun v => v.category).sum ≤ 8) (hrm : h + 1 ≤ rm.frames ∧ 8 + (mL + 11) + 40 * h ≤ rm.locals ∧ k ≤ rm.cells ∧ n ≤ rm.slots) (ct : ∀ l : Launch, sx_IZ l d y bytes mL ret h As r sa va fa) (K : narrow ret (.int r) = .int r → sx_G d κ nL k n pc' lv (.int r :: st) ws) : sx_G d κ nL k n pc lv st0 ws := by
  obtain ⟨⟨p, l, e, R, s, m, args, below, meth, c⟩, A, Q⟩ := κ
  obtain ⟨hx, hb, hml, hown, hts, hKK, hA, hR⟩ := X
  have hZ : stW sa va fa A s s.heap := hZ
  have hc := ct l
  subst hp
  subst hst
  subst hR
  obtain ⟨hln, hin, hini, hco, hy, hpn⟩ := lk
  intro H locs ls hP hD hS hl
  have hF := va_A0 hS hA
  have hpre : PreS s H (va_Pc As (sx_BS d [] H.size sa va fa)) As := ⟨sx_BS_blind, fun U hU hW => ⟨rfl, ⟨by rw [hU], va_P0, hKK.warm hW, va_D0⟩, hZ.call hS hF hW.alike hU⟩⟩
  have hrun : va_Run p l e R s m args below meth c H locs k n 0 0 (F0 m pc ls (As.reverse ++ st)) st (va_Qi (fun x (_ : Unit) => x = r ∧ narrow ret (.int r) = .int r) (fun _ _ => True) (va_A [] H.size) As.toArray) (va_A [] H.size) := by
    rcases hln with hln | ⟨host, hln⟩
    · exact va_runS (Ts := sx_gw) ⟨hx, hb, hml, hown, hts⟩ (hc H.size) ⟨⟨rfl, rfl, hrm.1, hrm.2.1, sx_warm hts hco, List.mem_cons_self, hts _ hco, hts _ hini, hy, sx_np hpn, hts _ hln⟩, hts _ hin⟩ hpre rfl hnp hl.1 rfl (lv_room hsum) hd ⟨hrm.2.2.1, hrm.2.2.2⟩
    · exact va_runSN (host := host) (Ts := sx_gw) ⟨hx, hb, hml, hown, hts⟩ (hc H.size) ⟨⟨⟨rfl, rfl, hrm.1, hrm.2.1, sx_warm hts hco, List.mem_cons_self⟩, hts _ hco, hts _ hini, hy, sx_np hpn, va_Nw.use rfl (hKK.2 _ hln rfl)⟩, hts _ hin, trivial⟩ hpre rfl hnp hl.1 rfl (lv_room hsum) hd ⟨hrm.2.2.1, hrm.2.2.2⟩
  refine va_calli hrun hS (fun q _ h => hF q h) hF (fun r u t H1 locs ht hvm hw0 hB hz1 hk1 hS => ?_)
  obtain ⟨rfl, hn⟩ := hw0
  exact K hn H1 locs ls (hP.kept (fun j x hx => hk1 x.1 (hP j x hx).lt (va_A0n (hP j x hx).lt))) hD hS hl
theorem g_callYv (X : sx_X d κ cc nL own rm) (hZ : sx_St κ sa va fa) {index : Nat} {y : MethodName} {bytes : ByteArray} {mL : Nat} {np h : Nat} {As : List Value} (lk : sx_lkS own index y bytes mL none np) (hd : decode cc pc = .ok (.invokestatic index, 3)) (hp : pc + 3 = pc') (hst : st0 = As.reverse ++ st) (hnp : As.length = np) (hsum : (st.map fun v => v.category).sum ≤ 8) (hrm : h + 1 ≤ rm.frames ∧ 8 + (mL + 11) + 40 * h ≤ rm.locals ∧ k ≤ rm.cells ∧ n ≤ rm.slots) (ct : ∀ l : Launch, sx_VZ l d y bytes mL h As [] [] sa va fa) (K : sx_G d κ nL k n pc' lv st ws) : sx_G d κ nL k n pc lv st0 ws := by
  obtain ⟨⟨p, l, e, R, s, m, args, below, meth, c⟩, A, Q⟩ := κ
  obtain ⟨hx, hb, hml, hown, hts, hKK, hA, hR⟩ := X
  have hZ : stW sa va fa A s s.heap := hZ
  have hc := ct l
  subst hp
  subst hst
  subst hR
  obtain ⟨hln, hin, hini, hco, hy, hpn⟩ := lk
  intro H locs ls hP hD hS hl
  have hF := va_A0 hS hA
  have hpre : PreS s H (va_Pc As (sx_BS d [] H.size sa va fa)) As := ⟨sx_BS_blind, fun U hU hW => ⟨rfl, ⟨by rw [hU], va_P0, hKK.warm hW, va_D0⟩, hZ.call hS hF hW.alike hU⟩⟩
  have hrun : va_Run p l e R s m args below meth c H locs k n 0 0 (F0 m pc ls (As.reverse ++ st)) st (va_Qv (fun (_ : Unit) => True) (fun _ t => va_P d.1 vwCl [] t.heap) (va_A [] H.size) As.toArray) (va_A [] H.size) := by
    rcases hln with hln | ⟨host, hln⟩
    · exact va_runS (Ts := sx_gw) ⟨hx, hb, hml, hown, hts⟩ (hc H.size) ⟨⟨rfl, rfl, hrm.1, hrm.2.1, sx_warm hts hco, List.mem_cons_self, hts _ hco, hts _ hini, hy, sx_np hpn, hts _ hln⟩, hts _ hin⟩ hpre rfl hnp hl.1 rfl (lv_room hsum) hd ⟨hrm.2.2.1, hrm.2.2.2⟩
    · exact va_runSN (host := host) (Ts := sx_gw) ⟨hx, hb, hml, hown, hts⟩ (hc H.size) ⟨⟨⟨rfl, rfl, hrm.1, hrm.2.1, sx_warm hts hco, List.mem_cons_self⟩, hts _ hco, hts _ hini, hy, sx_np hpn, va_Nw.use rfl (hKK.2 _ hln rfl)⟩, hts _ hin, trivial⟩ hpre rfl hnp hl.1 rfl (lv_room hsum) hd ⟨hrm.2.2.1, hrm.2.2.2⟩
  refine va_callv hrun hS (fun q _ h => hF q h) hF (fun u t H1 locs ht hvm hw0 hB hz1 hk1 hS => ?_)
  exact K H1 locs ls (hP.kept (fun j x hx => hk1 x.1 (hP j x hx).lt (va_A0n (hP j x hx).lt))) hD hS hl
/-- a virtual call that wants the text, on an object of ours -/
theorem g_callXv (X : sx_X d κ cc nL own rm) (hZ : sx_St κ sa va fa) {index : Nat} {y : MethodName} {bytes : ByteArray} {mL : Nat} {np h b ci : Nat} {fs As : List Value} {wc w1 w2 : va_W} (lk : sx_lkV own index y bytes mL none np ci) (hd : decode cc pc = .ok (.invokevirtual index, 3)) (hp : pc + 3 = pc') (hst : st0 = As.reverse ++ .ref b :: st) (hnp : As.length = np) (hsum : (st.map fun v => v.category).sum ≤ 8) (hrm : h + 1 ≤ rm.frames ∧ 8 + (mL + 11) + 40 * h ≤ rm.locals ∧ k ≤ rm.cells ∧ n ≤ rm.slots) (hb0 : wc[0]? = some (b, .inr (ci, fs))) (isC : List Nat) (hnd : va_nd isC = true) (hC : isC.map (fun i => ws[i]?) = wc.map some) (ct : ∀ l : Launch, sx_VZ l d y bytes mL h (.ref b :: As) wc w1 sa va fa) (hm : w1.map Prod.fst = wc.map Prod.fst) (hw : sx_put ws isC w1 = w2) (K : sx_G d κ nL k n pc' lv st w2) : sx_G d κ nL k n pc lv st0 ws := by
  obtain ⟨⟨p, l, e, R, s, m, args, below, meth, c⟩, A, Q⟩ := κ
  obtain ⟨hx, hb, hml, hown, hts, hKK, hA, hR⟩ := X
  have hZ : stW sa va fa A s s.heap := hZ
  have hc := ct l
  subst hp
  subst hst
  subst hR
  obtain ⟨hln, hin, hse, hini, hco, hy, hpn, q, hq, hqc⟩ := lk
  intro H locs ls hP hD hS hl
  have hPc : va_P d.1 vwCl wc H := by
    intro i q hq
    have h9 : (isC.map (fun i => ws[i]?))[i]? = some (some q) := by rw [hC, List.getElem?_map, hq]; rfl
    rw [List.getElem?_map] at h9
    cases hi : isC[i]? with
    | none => rw [hi] at h9; cases h9
    | some j => rw [hi] at h9; exact hP j q (Option.some.inj h9)
  have hDc : va_D A wc := hD.sub isC hnd hC
  have hFc := va_free (wc := wc) hD hS hA isC hC
  have hpre : PreV s H y.cls b (va_Pc (.ref b :: As) (sx_BS d wc H.size sa va fa)) As := ⟨sx_BS_blind, by
    obtain ⟨cell, g1, g2, g3⟩ := va_recv hKK.1 hPc hq hb0
    exact ⟨cell, g1, g2, by rw [← hqc]; exact g3⟩, fun U hU hW => ⟨rfl, ⟨by rw [hU], by rw [hU]; exact hPc, hKK.warm hW, hDc.weaken (fun _ _ _ _ => trivial)⟩, hZ.call hS hFc hW.alike hU⟩⟩
  have hrun : va_Run p l e R s m args below meth c H locs k n 0 0 (F0 m pc ls (As.reverse ++ .ref b :: st)) st (va_Qv (fun (_ : Unit) => True) (fun _ t => va_P d.1 vwCl w1 t.heap) (va_A wc H.size) (Value.ref b :: As).toArray) (va_A wc H.size) := by
    rcases hln with hln | ⟨host, hln⟩
    · exact va_runV (C := y.cls) (Ts := sx_gw) ⟨hx, hb, hml, hown, hts⟩ (hc H.size) ⟨⟨rfl, rfl, hrm.1, hrm.2.1, sx_warm hts hco, List.mem_cons_self, hts _ hco, hts _ hini, hy, sx_np hpn, hts _ hln⟩, hts _ hin, hts _ hse⟩ hpre rfl hnp hl.1 rfl (lv_room hsum) hd ⟨hrm.2.2.1, hrm.2.2.2⟩
    · exact va_runVN (C := y.cls) (host := host) (Ts := sx_gw) ⟨hx, hb, hml, hown, hts⟩ (hc H.size) ⟨⟨⟨rfl, rfl, hrm.1, hrm.2.1, sx_warm hts hco, List.mem_cons_self⟩, hts _ hco, hts _ hini, hy, sx_np hpn, va_Nw.use rfl (hKK.2 _ hln rfl)⟩, hts _ hin, hts _ hse⟩ hpre rfl hnp hl.1 rfl (lv_room hsum) hd ⟨hrm.2.2.1, hrm.2.2.2⟩
  refine va_callv hrun hS (fun q _ h => hFc q h) hFc (fun u t H1 locs ht hvm hw0 hB hz1 hk1 hS => ?_)
  rw [ht] at hB
  obtain ⟨hP2, hD2⟩ := sx_put_P hP hD isC hC hm hk1 hB
  rw [hw] at hP2 hD2
  exact K H1 locs ls hP2 hD2 hS hl
theorem g_sval (X : sx_X d κ cc nL own rm) (hZ : sx_St κ sa va fa) {index : Nat} (lk : Cond.fieldLink own index "java/lang/String" "value" "[B" ∈ sx_gw) (hd : decode cc pc = .ok (.getfield index, 3)) (hp : pc + 3 = pc') (K : sx_G d κ nL k n pc' lv (.ref va :: st) ws) : sx_G d κ nL k n pc lv (.ref sa :: st) ws := by
  obtain ⟨⟨p, l, e, R, s, m, args, below, meth, c⟩, A, Q⟩ := κ
  obtain ⟨hx, hb, hml, hown, hts, hKK, hA, hR⟩ := X
  have hZ : stW sa va fa A s s.heap := hZ
  subst hp
  exact fun H locs ls hP hD hS hl => vk_getf hx hb (hZ.1.1 0 (by omega)).2.2.1 hS hown (hts _ lk) (fun _ h9 => h9) hd (K H locs ls hP hD hS hl)
theorem g_scod (X : sx_X d κ cc nL own rm) (hZ : sx_St κ sa va fa) {index : Nat} (lk : Cond.fieldLink own index "java/lang/String" "coder" "B" ∈ sx_gw) (hd : decode cc pc = .ok (.getfield index, 3)) (hp : pc + 3 = pc') (K : sx_G d κ nL k n pc' lv (.int 0 :: st) ws) : sx_G d κ nL k n pc lv (.ref sa :: st) ws := by
  obtain ⟨⟨p, l, e, R, s, m, args, below, meth, c⟩, A, Q⟩ := κ
  obtain ⟨hx, hb, hml, hown, hts, hKK, hA, hR⟩ := X
  have hZ : stW sa va fa A s s.heap := hZ
  subst hp
  exact fun H locs ls hP hD hS hl => vk_getf hx hb (hZ.1.1 0 (by omega)).2.1 hS hown (hts _ lk) (fun _ h9 => h9) hd (K H locs ls hP hD hS hl)
theorem g_scomp (X : sx_X d κ cc nL own rm) (hZ : sx_St κ sa va fa) {index : Nat} (lk : Cond.fieldLink own index "java/lang/String" "COMPACT_STRINGS" "Z" ∈ sx_gw) (hd : decode cc pc = .ok (.getstatic index, 3)) (hp : pc + 3 = pc') (K : sx_G d κ nL k n pc' lv (.int 1 :: st) ws) : sx_G d κ nL k n pc lv st ws := by
  obtain ⟨⟨p, l, e, R, s, m, args, below, meth, c⟩, A, Q⟩ := κ
  obtain ⟨hx, hb, hml, hown, hts, hKK, hA, hR⟩ := X
  have hZ : stW sa va fa A s s.heap := hZ
  subst hp
  exact fun H locs ls hP hD hS hl => va_gets hx hb hZ.2.1 hS hown (hts _ lk) (fun _ h9 => h9) hd (K H locs ls hP hD hS hl)
theorem g_sform (X : sx_X d κ cc nL own rm) (hZ : sx_St κ sa va fa) {index : Nat} (lk : Cond.fieldLink own index "jdk/internal/util/Preconditions" "SIOOBE_FORMATTER" "Ljava/util/function/BiFunction;" ∈ sx_gw) (hd : decode cc pc = .ok (.getstatic index, 3)) (hp : pc + 3 = pc') (K : sx_G d κ nL k n pc' lv (fa :: st) ws) : sx_G d κ nL k n pc lv st ws := by
  obtain ⟨⟨p, l, e, R, s, m, args, below, meth, c⟩, A, Q⟩ := κ
  obtain ⟨hx, hb, hml, hown, hts, hKK, hA, hR⟩ := X
  have hZ : stW sa va fa A s s.heap := hZ
  subst hp
  exact fun H locs ls hP hD hS hl => va_gets hx hb hZ.2.2.1 hS hown (hts _ lk) (fun _ h9 => h9) hd (K H locs ls hP hD hS hl)
theorem g_slng (X : sx_X d κ cc nL own rm) (hZ : sx_St κ sa va fa) (hd : decode cc pc = .ok (.arraylength, 1)) (hp : pc + 1 = pc') (K : sx_G d κ nL k n pc' lv (.int 104 :: st) ws) : sx_G d κ nL k n pc lv (.ref va :: st) ws := by
  obtain ⟨⟨p, l, e, R, s, m, args, below, meth, c⟩, A, Q⟩ := κ
  obtain ⟨hx, hb, hml, hown, hts, hKK, hA, hR⟩ := X
  have hZ : stW sa va fa A s s.heap := hZ
  subst hp
  exact fun H locs ls hP hD hS hl => va_tlen hx hb (hZ.1.1 0 (by omega)).2.2.2 hS (v := 104) rfl hd (K H locs ls hP hD hS hl)
theorem g_sbyt (X : sx_X d κ cc nL own rm) (hZ : sx_St κ sa va fa) {j : Nat} (hj : j < 104) (hd : decode cc pc = .ok (.baload, 1)) (hp : pc + 1 = pc') (K : sx_G d κ nL k n pc' lv (.int (chT j) :: st) ws) : sx_G d κ nL k n pc lv (.int (nI j) :: .ref va :: st) ws := by
  obtain ⟨⟨p, l, e, R, s, m, args, below, meth, c⟩, A, Q⟩ := κ
  obtain ⟨hx, hb, hml, hown, hts, hKK, hA, hR⟩ := X
  have hZ : stW sa va fa A s s.heap := hZ
  subst hp
  exact fun H locs ls hP hD hS hl => va_tb hx hb (hZ.1.1 0 (by omega)).2.2.2 hS (i := nI j) (vp_in_nI hj (by decide)) (v := .int (chT j)) (by rw [nI_clamp (by omega)]; rfl) hd (K H locs ls hP hD hS hl)
/-- a virtual call of ours, its answer and world known -/
theorem g_cVi (X : sx_X d κ cc nL own rm) {index : Nat} {y : MethodName} {bytes : ByteArray} {mL : Nat} {ret : FieldType} {np h : Nat} {b ci : Nat} {fs : List Value} {As : List Value} {wc w1 w2 : va_W} {r : Int32} (lk : sx_lkV own index y bytes mL (some ret) np ci) (hd : decode cc pc = .ok (.invokevirtual index, 3)) (hp : pc + 3 = pc') (hst : st0 = As.reverse ++ .ref b :: st) (hnp : As.length = np) (hsum : (st.map fun v => v.category).sum ≤ 8) (hrm : h + 1 ≤ rm.frames ∧ 8 + (mL + 11) + 40 * h ≤ rm.locals ∧ k ≤ rm.cells ∧ n ≤ rm.slots) (hb0 : wc[0]? = some (b, .inr (ci, fs))) (isC : List Nat) (hnd : va_nd isC = true) (hC : isC.map (fun i => ws[i]?) = wc.map some) (ct : ∀ l : Launch, sx_I l d y bytes mL ret h (.ref b :: As) wc w1 r) (hm : w1.map Prod.fst = wc.map Prod.fst) (hw : sx_put ws isC w1 = w2) (K : sx_G d κ nL k n pc' lv (.int r :: st) w2) : sx_G d κ nL k n pc lv st0 ws :=
  g_callVi (ρ := Unit) (σ := Unit) (o := some ()) (F := fun _ => some ()) (x := ()) (w1 := fun _ => w1) (w2 := fun _ => w2) (rv := fun _ => r) X lk hd hp hst hnp hsum hrm hb0 isC hnd hC rfl (fun l _ _ => ct l) (fun _ => hm) (fun _ => hw) (fun _ _ _ => K)
end SXZ

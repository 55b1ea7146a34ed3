/-! what is made: new objects, new arrays, constructors -/
def sx_rmN (h c n : Nat) : Room := { frames := h, cells := c, slots := n, locals := 40 * h }
def sx_Ini (κ : sx_C) : Prop := match κ with
  | ((_, _, _, _, _, _, _, _, meth, _), _, _) => meth.name = "<init>"
/-- a constructor's contract: it makes mc cells of ms slots; then the world is w1 u, for some u with P u -/
def sx_N {τ : Type} (l : Launch) (d : sx_D) (y : MethodName) (cc : ByteArray) (mL h mc ms : Nat) (av : List Value) (wc : va_W) (P : τ → Prop) (w1 : τ → va_W) : Prop := ∀ sz : Nat, Met l y (.code y cc mL none :: sx_gw) (sx_rmN h mc ms) (va_Pc av (sx_B d wc sz)) (va_Qv P (fun u t => va_P d.1 vwCl (w1 u) t.heap ∧ va_D (va_A wc sz) (w1 u)) (va_A wc sz)) mc ms (va_A wc sz)
theorem sx_N.intro {τ : Type} {l : Launch} {d : sx_D} {y : MethodName} {cc : ByteArray} {mL h mc ms : Nat} {av : List Value} {wc : va_W} {P : τ → Prop} {w1 : τ → va_W} {lv0 : List (Option Value)} (hy : plainFor y = true) (hnm : y.name = "<init>") (hlen : (lg_sl av).length ≤ mL) (hlv : lv_args 0 av = sx_al 0 lv0)
    (body : ∀ κ : sx_C, sx_X d κ cc mL y.cls (sx_rmN h mc ms) → sx_Ini κ → (∀ (u : τ) (pc : Nat) (lv : List (Option Value)), P u → decode cc pc = .ok (.return_, 1) → sx_G d κ mL mc ms pc lv [] (w1 u)) → sx_G d κ mL 0 0 0 lv0 [] wc) : sx_N l d y cc mL h mc ms av wc P w1 := by
  intro sz
  refine sx_ofW (cc := cc) (maxL := mL) (ret := none) hy rfl ?_
  intro p e s m args below meth c s₁ B hml hv
  obtain ⟨rfl, hsz, hP, hKK, hD0⟩ := hv
  have hlocks := B.notSynchronized
  have hini : meth.name = "<init>" := ((name_of_methodNamed B.named B.method).1).trans hnm
  subst hsz
  have hl := lv_entry av (n := mL) hlen
  rw [lg_entry_eq]
  generalize (lg_sl av ++ List.replicate (mL - (lg_sl av).length) Slot.unset).toArray = ls at hl ⊢
  rw [hlv] at hl
  refine body ((p, l, e, (headSpec _ (sx_rmN h mc ms)).room, s, m, av.toArray, below, meth, c), va_A wc s.heap.size, _) ⟨B.exec, B.bytes, hml, findClass_of_methodNamed B.named, fun w hw => atoms_spec B.pre w (List.mem_cons_of_mem _ hw), hKK, fun q h => Or.inr h, rfl⟩ hini ?_ s.heap [] ls hP hD0.self va_S.rf hl
  intro u pc lv hPu hd H locs ls hP hD hS hl
  exact W.vret B.exec B.bytes B.returns (fun t ht hW => ⟨⟨u, rfl, hPu, by show va_P d.1 vwCl (w1 u) t.heap ∧ _; rw [ht]; exact ⟨hP, hD⟩⟩, hS.F ht⟩) hS.2.2 hd (hlocks := hlocks)
def sx_nw (own : String) (index : Nat) (C : String) (T : u_T) (N ci : Nat) (ty : Nat → FieldType) : Prop := Cond.classLink own index C ∈ sx_gw ∧ Cond.instantiable C N ∈ sx_gw ∧ Cond.initialized C ∈ sx_gw ∧ vwCl[ci]? = some (C, T, N) ∧ (∀ w ∈ u_ws C T N, w ∈ sx_gw) ∧ (∀ k, k < N → parseFieldDescriptor (T k).2.2.1 = some (ty k))
def sx_ff (own : String) (index : Nat) (C : String) (T : u_T) (N ci j : Nat) : Prop := vwCl[ci]? = some (C, T, N) ∧ j < N ∧ (∀ w ∈ u_ws C T N, w ∈ sx_gw) ∧ (T j).1 = own ∧ Cond.fieldLink own index own (T j).2.1 (T j).2.2.1 ∈ sx_gw
def sx_lkI (own : String) (index : Nat) (y : MethodName) (bytes : ByteArray) (mL np : Nat) : Prop := (Cond.methodLink own index y ∈ sx_gw ∨ ∃ host, Cond.methodLinkNest own index y host ∈ lw_tbl) ∧ y.name = "<init>" ∧ Cond.instanceMethod y ∈ sx_gw ∧ Cond.initialized y.cls ∈ sx_gw ∧ Cond.code y bytes mL none ∈ sx_gw ∧ (y.cls ≠ "java/lang/invoke/MethodHandle" ∧ y.cls ≠ "java/lang/invoke/VarHandle") ∧ (parseMethodDescriptor y.desc).map (fun d => d.parameters.length) = some np
theorem ob_1 : Cond.instanceMethod objectInit ∈ sx_gw := sx_mem 125 (by decide +kernel) (by decide +kernel)
theorem ob_2 : Cond.code objectInit ⟨#[0xb1]⟩ 1 none ∈ sx_gw := sx_mem 126 (by decide +kernel) (by decide +kernel)
theorem ar_i : Cond.arrayClass .int ∈ sx_gw := sx_mem 158 (by decide +kernel) (by decide +kernel)
theorem ar_c : Cond.arrayClass .char ∈ sx_gw := sx_mem 157 (by decide +kernel) (by decide +kernel)
section SXN
variable {d : sx_D} {κ : sx_C} {cc : ByteArray} {nL k n pc pc' : Nat} {own : String} {rm : Room} {lv : List (Option Value)} {st0 st : List Value} {ws : va_W}
theorem g_objI (X : sx_X d κ cc nL own rm) {index a : Nat} (lnk : Cond.methodLink own index objectInit ∈ sx_gw) (hd : decode cc pc = .ok (.invokespecial index, 3)) (hp : pc + 3 = pc') (hsum : (st.map fun v => v.category).sum ≤ 8) (hrm : 1 ≤ rm.frames ∧ 20 ≤ rm.locals) (K : sx_G d κ nL k n pc' lv st ws) : sx_G d κ nL k n pc lv (.ref a :: st) ws := by
  obtain ⟨⟨p, l, e, R, s, m, args, below, meth, c⟩, A, Q⟩ := κ
  obtain ⟨hx, hb, hml, hown, hts, hKK, hA, hR⟩ := X
  subst hp
  subst hR
  intro H locs ls hP hD hS hl
  refine W.objInit hx hb hown (hts _ lnk) (hts _ ob_1) (hts _ ob_2) rfl (by rw [hml]; exact hl.1) rfl hd hrm.1 ?_ ?_
  · have h8 : 2 * (F0 m pc ls (.ref a :: st)).monitorRoom + (st.map fun v => v.category).sum ≤ 8 := lv_room hsum
    omega
  · exact W.eq (g2 := F0 m (pc + 3) ls st) rfl (K H locs ls hP hD hS hl)
theorem g_new (X : sx_X d κ cc nL own rm) {index N ci : Nat} {C : String} {T : u_T} {ty : Nat → FieldType} {fs : List Value} (lnk : sx_nw own index C T N ci ty) (hfs : ∀ j, j < N → defaultValue (ty j) = vp_V fs j) (hd : decode cc pc = .ok (.new index, 3)) (hp : pc + 3 = pc') (hrm : k + 1 ≤ rm.cells ∧ n + N ≤ rm.slots) (K : ∀ q : Nat, sx_G d κ nL (k + 1) (n + N) pc' lv (.ref q :: st) (ws ++ [(q, .inr (ci, fs))])) : sx_G d κ nL k n pc lv st ws := by
  obtain ⟨⟨p, l, e, R, s, m, args, below, meth, c⟩, A, Q⟩ := κ
  obtain ⟨hx, hb, hml, hown, hts, hKK, hA, hR⟩ := X
  obtain ⟨h1, h2, h3, h4, h5, h6⟩ := lnk
  subst hp
  subst hR
  intro H locs ls hP hD hS hl
  exact va_new (ci := ci) (fs := fs) hx hb hts h5 ty h6 hown (hts _ h1) (hts _ h2) (hts _ h3) hKK.1 hP hD hS hA h4 hfs hrm.1 hrm.2 hd (fun q H hP hD hS => K q H locs ls hP hD hS hl)
theorem sx_eqI {d : sx_D} {s : State} {tys : List (ClassId × FieldType)} {cA : ClassId} (h1 : va_K d.1 vwCl (sx_ty d) s) (h2 : va_K d.1 vwCl (sx_ty d ++ [(cA, .int)]) s) : cA = d.2.1 := by
  have a1 : s.vm.findClass ("[" ++ FieldType.int.toString) = some d.2.1 := (h1.2 0 (d.2.1, .int) rfl).2
  have a2 : s.vm.findClass ("[" ++ FieldType.int.toString) = some cA := (h2.2 2 (cA, .int) rfl).2
  exact Option.some.inj (a2.symm.trans a1)
theorem sx_eqC {d : sx_D} {s : State} {tys : List (ClassId × FieldType)} {cA : ClassId} (h1 : va_K d.1 vwCl (sx_ty d) s) (h2 : va_K d.1 vwCl (sx_ty d ++ [(cA, .char)]) s) : cA = d.2.2 := by
  have a1 : s.vm.findClass ("[" ++ FieldType.char.toString) = some d.2.2 := (h1.2 1 (d.2.2, .char) rfl).2
  have a2 : s.vm.findClass ("[" ++ FieldType.char.toString) = some cA := (h2.2 2 (cA, .char) rfl).2
  exact Option.some.inj (a2.symm.trans a1)
theorem g_newi (X : sx_X d κ cc nL own rm) {N : Nat} {x : Int32} (hd : decode cc pc = .ok (.newarray .int, 2)) (hp : pc + 2 = pc') (hx0 : ¬ x < 0) (hN : x.toNatClampNeg = N) (hby : N * 4 ≤ 536870912) (hrm : k + 1 ≤ rm.cells ∧ n + N ≤ rm.slots) (K : ∀ q : Nat, sx_G d κ nL (k + 1) (n + N) pc' lv (.ref q :: st) (ws ++ [ai d q N (fun _ => (0 : Int32))])) : sx_G d κ nL k n pc lv (.int x :: st) ws := by
  obtain ⟨⟨p, l, e, R, s, m, args, below, meth, c⟩, A, Q⟩ := κ
  obtain ⟨hx, hb, hml, hown, hts, hKK, hA, hR⟩ := X
  subst hp
  subst hR
  intro H locs ls hP hD hS hl
  refine va_newa (atype := .int) (a0 := (N, .inl (fun _ => (0 : Int32)))) hx hb (hts _ ar_i) rfl hKK.1 hP hD hS hA (fun cA => rfl) hx0 hN hby hrm.1 hrm.2 hd (fun q cA H hK hP hD hS => ?_)
  have hc := sx_eqI (tys := []) hKK.1 hK
  subst hc
  exact K q H locs ls hP hD hS hl
theorem g_newc (X : sx_X d κ cc nL own rm) {N : Nat} {x : Int32} (hd : decode cc pc = .ok (.newarray .char, 2)) (hp : pc + 2 = pc') (hx0 : ¬ x < 0) (hN : x.toNatClampNeg = N) (hby : N * 2 ≤ 536870912) (hrm : k + 1 ≤ rm.cells ∧ n + N ≤ rm.slots) (K : ∀ q : Nat, sx_G d κ nL (k + 1) (n + N) pc' lv (.ref q :: st) (ws ++ [ac d q N (fun _ => (0 : Int32))])) : sx_G d κ nL k n pc lv (.int x :: st) ws := by
  obtain ⟨⟨p, l, e, R, s, m, args, below, meth, c⟩, A, Q⟩ := κ
  obtain ⟨hx, hb, hml, hown, hts, hKK, hA, hR⟩ := X
  subst hp
  subst hR
  intro H locs ls hP hD hS hl
  refine va_newa (atype := .char) (a0 := (N, .inl (fun _ => (0 : Int32)))) hx hb (hts _ ar_c) rfl hKK.1 hP hD hS hA (fun cA => rfl) hx0 hN hby hrm.1 hrm.2 hd (fun q cA H hK hP hD hS => ?_)
  have hc := sx_eqC (tys := []) hKK.1 hK
  subst hc
  exact K q H locs ls hP hD hS hl
theorem g_putF (X : sx_X d κ cc nL own rm) (hI : sx_Ini κ) {C : String} {T : u_T} {N ci j index a : Nat} {v : Value} {fs : List Value} {w2 : va_W} {ty0 : Nat → FieldType} (fl : sx_ff own index C T N ci j) (fw : sx_fw T N ty0) (hfin : (T j).2.2.2 = true) (hd : decode cc pc = .ok (.putfield index, 3)) (hp : pc + 3 = pc') (q0 : Nat) (he : ws[q0]? = some (a, .inr (ci, fs))) (hn : narrow (ty0 j) v = v) (hfit : fits (ty0 j) v = true) (hl0 : j < fs.length) (hw : ws.set q0 (a, .inr (ci, fs.set j v)) = w2) (K : sx_G d κ nL k n pc' lv st w2) : sx_G d κ nL k n pc lv (v :: .ref a :: st) ws := by
  obtain ⟨⟨p, l, e, R, s, m, args, below, meth, c⟩, A, Q⟩ := κ
  obtain ⟨hx, hb, hml, hown, hts, hKK, hA, hR⟩ := X
  subst hp
  subst hw
  obtain ⟨hc, hk, hin, ho, hln⟩ := fl
  intro H locs ls hP hD hS hl
  exact va_putF (ref := own) hx hb hts hin ty0 fw.1 fw.2 hown hKK.1 hP hD hS q0 he hc j hk (hts _ hln) (fun _ h9 => by rw [← ho]; exact h9) hfin hI ho (fw.1 j hk) hn hfit hl0 hd (fun H locs hP hD hS => K H locs ls hP hD hS hl)
theorem g_wid (k2 n2 : Nat) (h1 : k ≤ k2) (h2 : n ≤ n2) (K : sx_G d κ nL k2 n2 pc lv st ws) : sx_G d κ nL k n pc lv st ws := by
  obtain ⟨⟨p, l, e, R, s, m, args, below, meth, c⟩, A, Q⟩ := κ
  exact fun H locs ls hP hD hS hl => W.widen h1 h2 (K H locs ls hP hD hS hl)
theorem sx_runI {p : Program} {l : Launch} {e : Env} {R : Room} {s : State} {m : MethodId} {args : Array Value} {below : List Frame} {meth : Method} {c : Code} {A : Nat → Prop} {Q : State → Prop} (X : sx_X d ((p, l, e, R, s, m, args, below, meth, c), A, Q) cc nL own rm) {index : Nat} {y : MethodName} {bytes : ByteArray} {mL : Nat} {np h mc ms : Nat} {b : Nat} {As : List Value} {wc : va_W} {Qc : Array Value → State → Outcome → State → Prop} {free : Addr → Prop} {H : Heap} {locs : List Loc} {ls : Array Slot} (lk : sx_lkI own index y bytes mL np) (hd : decode cc pc = .ok (.invokespecial index, 3)) (hnp : As.length = np) (hsum : (st.map fun v => v.category).sum ≤ 8) (hrm : h + 1 ≤ rm.frames ∧ 8 + (mL + 11) + 40 * h ≤ rm.locals ∧ k + mc ≤ rm.cells ∧ n + ms ≤ rm.slots) (hM : Met l y (.code y bytes mL none :: sx_gw) (sx_rmN h mc ms) (va_Pc (.ref b :: As) (sx_B d wc H.size)) Qc mc ms free) (hP : va_P d.1 vwCl wc H) (hD : va_D (fun _ => True) wc) (hl : lv_has ls nL (sx_al 0 lv)) :
    va_Run p l e R s m args below meth c H locs k n mc ms (F0 m pc ls (As.reverse ++ .ref b :: st)) st (Qc (Value.ref b :: As).toArray) free := by
  obtain ⟨hx, hb, hml, hown, hts, hKK, hA, hR⟩ := X
  subst hR
  obtain ⟨hln, hnm, hin, hini, hco, hy, hpn⟩ := lk
  have hpre : PreS s H (va_Pc (.ref b :: As) (sx_B d wc H.size)) (.ref b :: As) := ⟨sx_B_blind, fun U hU hW => ⟨rfl, by rw [hU], by rw [hU]; exact hP, hKK.warm hW, hD⟩⟩
  rcases hln with hln | ⟨host, hln⟩
  · exact va_runI (Ts := sx_gw) ⟨hx, hb, hml, hown, hts⟩ hM ⟨⟨rfl, rfl, hrm.1, hrm.2.1, sx_warm hts hco, List.mem_cons_self, hts _ hco, hts _ hini, hy, sx_np hpn, hts _ hln⟩, hnm, hts _ hin⟩ hpre rfl hnp hl.1 rfl (lv_room hsum) hd ⟨hrm.2.2.1, hrm.2.2.2⟩
  · exact va_runIN (host := host) (Ts := sx_gw) ⟨hx, hb, hml, hown, hts⟩ hM ⟨⟨⟨rfl, rfl, hrm.1, hrm.2.1, sx_warm hts hco, List.mem_cons_self⟩, hts _ hco, hts _ hini, hy, sx_np hpn, va_Nw.use rfl (hKK.2 _ hln rfl)⟩, hnm, hts _ hin⟩ hpre rfl hnp hl.1 rfl (lv_room hsum) hd ⟨hrm.2.2.1, hrm.2.2.2⟩
theorem g_callI {τ : Type} (X : sx_X d κ cc nL own rm) {index : Nat} {y : MethodName} {bytes : ByteArray} {mL np h mc ms b : Nat} {As : List Value} {wc wr : va_W} {P : τ → Prop} {w1 : τ → va_W} (lk : sx_lkI own index y bytes mL np) (hd : decode cc pc = .ok (.invokespecial index, 3)) (hp : pc + 3 = pc') (hst : st0 = As.reverse ++ .ref b :: st) (hnp : As.length = np) (hsum : (st.map fun v => v.category).sum ≤ 8) (hrm : h + 1 ≤ rm.frames ∧ 8 + (mL + 11) + 40 * h ≤ rm.locals ∧ k + mc ≤ rm.cells ∧ n + ms ≤ rm.slots) (isC isR : List Nat) (hnd : va_nd isC = true) (hC : isC.map (fun i => ws[i]?) = wc.map some) (hR : isR.map (fun i => ws[i]?) = wr.map some) (hn : va_nd isR = true) (hdis : ∀ i ∈ isR, i ∉ isC) (ct : ∀ l : Launch, sx_N l d y bytes mL h mc ms (.ref b :: As) wc P w1) (K : ∀ u : τ, P u → sx_G d κ nL (k + mc) (n + ms) pc' lv st (wr ++ w1 u)) : sx_G d κ nL k n pc lv st0 ws := by
  obtain ⟨⟨p, l, e, R, s, m, args, below, meth, c⟩, A, Q⟩ := κ
  have hc := ct l
  subst hp
  subst hst
  intro H locs ls hP hD hS hl
  have hPc : va_P d.1 vwCl wc H := by
    intro i q hq
    have h9 : (isC.map (fun i => ws[i]?))[i]? = some (some q) := by rw [hC, List.getElem?_map, hq]; rfl
    rw [List.getElem?_map] at h9
    cases hi : isC[i]? with
    | none => rw [hi] at h9; cases h9
    | some j => rw [hi] at h9; exact hP j q (Option.some.inj h9)
  have hDc : va_D A wc := hD.sub isC hnd hC
  have hFc := va_free (wc := wc) hD hS X.2.2.2.2.2.2.1 isC hC
  refine va_callv (sx_runI X lk hd hnp hsum hrm (hc H.size) hPc (hDc.weaken (fun _ _ _ _ => trivial)) hl) hS (fun q _ h => hFc q h) hFc (fun u t H1 locs ht hvm hw0 hB hz1 hk1 hS => ?_)
  rw [ht] at hB
  obtain ⟨hP2, hD2⟩ := va_join (wr := wr) (w1 := w1 u) hP hD isC isR hC hR hn hdis hk1 hFc hB.1 hB.2
  exact K u hw0 H1 locs ls hP2 hD2 hS hl
end SXN

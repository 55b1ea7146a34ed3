/-! sx_G: the machine at pc with locals lv (none: unknown), operand stack st and cells ws, whatever heap holds them, comes to its end -/
abbrev sx_M : Type := Program × Launch × Env × Room × State × MethodId × Array Value × List Frame × Method × Code
abbrev sx_C : Type := sx_M × (Nat → Prop) × (State → Prop)
abbrev sx_D : Type := va_G × ClassId × ClassId
def sx_al : Nat → List (Option Value) → List (Nat × Value)
  | _, [] => []
  | k, none :: t => sx_al (k + 1) t
  | k, some v :: t => (k, v) :: sx_al (k + 1) t
theorem sx_al_mem : ∀ (lv : List (Option Value)) (k i : Nat) (v : Value), (i, v) ∈ sx_al k lv ↔ k ≤ i ∧ lv[i - k]? = some (some v)
  | [], k, i, v => by simp [sx_al]
  | none :: t, k, i, v => by
    rw [sx_al, sx_al_mem t (k + 1) i v]
    constructor
    · rintro ⟨h1, h2⟩
      refine ⟨by omega, ?_⟩
      rw [show i - k = (i - (k + 1)) + 1 by omega, List.getElem?_cons_succ]
      exact h2
    · rintro ⟨h1, h2⟩
      have h3 : i ≠ k := by
        rintro rfl
        rw [Nat.sub_self] at h2
        simp at h2
      refine ⟨by omega, ?_⟩
      rw [show i - k = (i - (k + 1)) + 1 by omega, List.getElem?_cons_succ] at h2
      exact h2
  | some w :: t, k, i, v => by
    rw [sx_al, List.mem_cons, sx_al_mem t (k + 1) i v]
    constructor
    · rintro (h | ⟨h1, h2⟩)
      · cases h
        refine ⟨Nat.le_refl _, ?_⟩
        rw [Nat.sub_self]; rfl
      · refine ⟨by omega, ?_⟩
        rw [show i - k = (i - (k + 1)) + 1 by omega, List.getElem?_cons_succ]
        exact h2
    · rintro ⟨h1, h2⟩
      by_cases h3 : i = k
      · subst h3
        rw [Nat.sub_self, List.getElem?_cons_zero] at h2
        cases h2
        exact Or.inl rfl
      · refine Or.inr ⟨by omega, ?_⟩
        rw [show i - k = (i - (k + 1)) + 1 by omega, List.getElem?_cons_succ] at h2
        exact h2
theorem sx_at {ls : Array Slot} {nL : Nat} {lv : List (Option Value)} (h : lv_has ls nL (sx_al 0 lv)) {i : Nat} {v : Value} (hk : lv[i]? = some (some v)) : ls[i]? = some (.val v) := h.2.2 (i, v) ((sx_al_mem lv 0 i v).mpr ⟨Nat.zero_le _, hk⟩)
/-- fewer locals -/
def sx_msk : List Bool → List (Option Value) → List (Option Value)
  | true :: m, v :: t => v :: sx_msk m t
  | false :: m, _ :: t => none :: sx_msk m t
  | _, _ => []
theorem sx_msk_at : ∀ (m : List Bool) (lv : List (Option Value)) (i : Nat) (v : Value), (sx_msk m lv)[i]? = some (some v) → lv[i]? = some (some v)
  | [], lv, i, v, h => by simp [sx_msk] at h
  | true :: m, [], i, v, h => by simp [sx_msk] at h
  | false :: m, [], i, v, h => by simp [sx_msk] at h
  | true :: m, w :: t, 0, v, h => by simpa [sx_msk] using h
  | false :: m, w :: t, 0, v, h => by simp [sx_msk] at h
  | true :: m, w :: t, i + 1, v, h => by
    rw [sx_msk, List.getElem?_cons_succ] at h
    rw [List.getElem?_cons_succ]
    exact sx_msk_at m t i v h
  | false :: m, w :: t, i + 1, v, h => by
    rw [sx_msk, List.getElem?_cons_succ] at h
    rw [List.getElem?_cons_succ]
    exact sx_msk_at m t i v h
theorem sx_has_of {ls : Array Slot} {nL : Nat} {l : List (Nat × Value)} {lv : List (Option Value)} (h : lv_has ls nL l) (hh : ∀ (i : Nat) (v : Value), lv[i]? = some (some v) → (i, v) ∈ l) : lv_has ls nL (sx_al 0 lv) := by
  refine ⟨h.1, h.2.1, fun q hq => ?_⟩
  obtain ⟨i, v⟩ := q
  have h1 := (sx_al_mem lv 0 i v).mp hq
  exact h.2.2 (i, v) (hh i v h1.2)
/-- no value of two words stands just ahead of i -/
def sx_ok (lv : List (Option Value)) (i : Nat) : Bool := match i with
  | 0 => true
  | j + 1 => match lv[j]? with
    | some (some v) => v.category == 1
    | _ => true
theorem sx_ok_spec {lv : List (Option Value)} {i j : Nat} {v : Value} (h : sx_ok lv i = true) (hj : lv[j]? = some (some v)) (e : j + 1 = i) : ¬ v.category = 2 := by
  subst e
  simp only [sx_ok, hj, beq_iff_eq] at h
  omega
theorem sx_st1 {ls : Array Slot} {nL : Nat} {lv lv' : List (Option Value)} {i : Nat} {x : Value} (hs : lv.set i (some x) = lv') (ho : sx_ok lv i = true) (h : lv_has ls nL ((i, x) :: (sx_al 0 lv).filter (fun q => !(q.1 == i) && !(q.1 + 1 == i && q.2.category == 2)))) : lv_has ls nL (sx_al 0 lv') := by
  refine sx_has_of h fun j v hj => ?_
  subst hs
  by_cases e : i = j
  · subst e
    have hl : i < lv.length := by
      have := (List.getElem?_eq_some_iff.mp hj).1
      simpa using this
    rw [List.getElem?_set_self hl] at hj
    cases hj
    exact List.mem_cons_self
  · rw [List.getElem?_set_ne e] at hj
    refine List.mem_cons_of_mem _ (List.mem_filter.mpr ⟨(sx_al_mem lv 0 j v).mpr ⟨Nat.zero_le _, hj⟩, ?_⟩)
    have h1 : ¬ j = i := fun z => e z.symm
    by_cases h2 : j + 1 = i
    · have := sx_ok_spec ho hj h2
      simp [h1, this]
    · simp [h1, h2]
theorem sx_st2 {ls : Array Slot} {nL : Nat} {lv lv' : List (Option Value)} {i : Nat} {x : Value} (hs : (lv.set (i + 1) none).set i (some x) = lv') (ho : sx_ok lv i = true) (h : lv_has ls nL ((i, x) :: (sx_al 0 lv).filter (fun q => !(q.1 == i) && (!(q.1 == i + 1) && !(q.1 + 1 == i && q.2.category == 2))))) : lv_has ls nL (sx_al 0 lv') := by
  refine sx_has_of h fun j v hj => ?_
  subst hs
  by_cases e : i = j
  · subst e
    have hl : i < (lv.set (i + 1) none).length := by
      have := (List.getElem?_eq_some_iff.mp hj).1
      simpa using this
    rw [List.getElem?_set_self hl] at hj
    cases hj
    exact List.mem_cons_self
  · rw [List.getElem?_set_ne e] at hj
    by_cases e2 : i + 1 = j
    · subst e2
      have hl : i + 1 < lv.length := by
        have := (List.getElem?_eq_some_iff.mp hj).1
        simpa using this
      rw [List.getElem?_set_self hl] at hj
      cases hj
    · rw [List.getElem?_set_ne e2] at hj
      refine List.mem_cons_of_mem _ (List.mem_filter.mpr ⟨(sx_al_mem lv 0 j v).mpr ⟨Nat.zero_le _, hj⟩, ?_⟩)
      have h1 : ¬ j = i := fun z => e z.symm
      have h3 : ¬ j = i + 1 := fun z => e2 z.symm
      by_cases h2 : j + 1 = i
      · have := sx_ok_spec ho hj h2
        simp [h1, h3, this]
      · simp [h1, h2, h3]
/-! the words, all of them -/
def sx_gw : List Cond := lw_tbl.filter goodWord
theorem sx_mem {w : Cond} (i : Nat) (h : lw_tbl[i]? = some w) (hg : goodWord w = true) : w ∈ sx_gw := List.mem_filter.mpr ⟨List.mem_of_getElem? h, hg⟩
def sx_nest (w : Cond) : Bool := match w with
  | .fieldLinkNest .. => true
  | .methodLinkNest .. => true
  | _ => false
def sx_ty (d : sx_D) : List (ClassId × FieldType) := [(d.2.1, .int), (d.2.2, .char)]
def sx_KK (d : sx_D) (U : State) : Prop := va_K d.1 vwCl (sx_ty d) U ∧ ∀ w ∈ lw_tbl, sx_nest w = true → va_Nw w U
theorem sx_nest_warm {w : Cond} {s U : State} (hn : sx_nest w = true) (hW : s.WarmedH U.vm) (h : va_Nw w s) : va_Nw w U := by
  cases w <;> first | (cases hn; done) | exact va_Nw.warmF hW h | exact va_Nw.warmM hW h
theorem sx_nest_same {w : Cond} {s U : State} (hn : sx_nest w = true) (hv : s.vm = U.vm) (h : va_Nw w s) : va_Nw w U := by
  cases w <;> first | (cases hn; done) | exact va_Nw.same rfl hv h
theorem sx_KK.warm {d : sx_D} {s U : State} (hW : s.WarmedH U.vm) (h : sx_KK d s) : sx_KK d U := ⟨va_K.moved hW.alike h.1, fun w hw hn => sx_nest_warm hn hW (h.2 w hw hn)⟩
theorem sx_KK.same {d : sx_D} {s U : State} (hv : s.vm = U.vm) (h : sx_KK d s) : sx_KK d U := ⟨va_K.moved (by rw [hv]; exact Vm.Alike.refl _) h.1, fun w hw hn => sx_nest_same hn hv (h.2 w hw hn)⟩
def sx_G (d : sx_D) (κ : sx_C) (nL k n pc : Nat) (lv : List (Option Value)) (st : List Value) (ws : va_W) : Prop :=
  match κ with
  | ((p, l, e, R, s, m, args, below, meth, c), A, Q) => ∀ (H : Heap) (locs : List Loc) (ls : Array Slot), va_P d.1 vwCl ws H → va_D A ws → va_S A s.heap H locs → lv_has ls nL (sx_al 0 lv) → W p l e R s m args below meth c H locs k n Q (F0 m pc ls st)
def sx_X (d : sx_D) (κ : sx_C) (cc : ByteArray) (nL : Nat) (own : String) (rm : Room) : Prop :=
  match κ with
  | ((p, _, _, R, s, m, args, _, _, c), A, _) => p.tables.exec = Jvm.exec ∧ c.code = cc ∧ c.maxLocals = nL ∧ s.vm.findClass own = some m.cls ∧ (∀ w ∈ sx_gw, w.before args s = true) ∧ sx_KK d s ∧ (∀ q, s.heap.size ≤ q → A q) ∧ R = rm
/-! what the pure functions are made of -/
def sx_rd {α : Type} {ρ : Type} (f : Nat → α) (n : Nat) (i : Int32) (K : α → Option ρ) : Option ρ := if i < 0 ∨ n ≤ i.toNatClampNeg then none else K (f i.toNatClampNeg)
def sx_wr {ρ : Type} (f : Nat → Int32) (n : Nat) (i x : Int32) (K : (Nat → Int32) → Option ρ) : Option ρ := if i < 0 ∨ n ≤ i.toNatClampNeg then none else K (upd f i.toNatClampNeg x)
def sx_nz {ρ : Type} (y : Int32) (K : Option ρ) : Option ρ := if y = 0 then none else K
def sx_nzl {ρ : Type} (y : Int64) (K : Option ρ) : Option ρ := if y = 0 then none else K
def sx_lt {α ρ : Type} (e : α) (K : α → Option ρ) : Option ρ := K e
def sx_ok8 {ρ : Type} (ty : FieldType) (v : Int32) (K : Option ρ) : Option ρ := if vp_nar ty v = v then K else none
def sx_cp {ρ : Type} (f g : Nat → Int32) (n0 n1 : Nat) (sp dp n : Int32) (K : (Nat → Int32) → Option ρ) : Option ρ := if sp < 0 ∨ dp < 0 ∨ n < 0 ∨ n0 < sp.toNatClampNeg + n.toNatClampNeg ∨ n1 < dp.toNatClampNeg + n.toNatClampNeg then none else K (va_cpy f g sp.toNatClampNeg dp.toNatClampNeg n.toNatClampNeg)
def sx_it {σ ρ : Type} : Nat → (σ → Option (σ ⊕ ρ)) → σ → Option ρ
  | 0, _, _ => none
  | n + 1, B, s => match B s with
    | none => none
    | some (.inl s') => sx_it n B s'
    | some (.inr r) => some r
theorem sx_it_run {σ ρ : Type} (B : σ → Option (σ ⊕ ρ)) (P : σ → Prop) (y : ρ) (step : ∀ s x, B s = some x → (∀ s', x = .inl s' → P s') → (∀ y', x = .inr y' → y' = y) → P s) : ∀ (n : Nat) (s : σ), sx_it n B s = some y → P s
  | 0, s, h => by cases h
  | n + 1, s, h => by
    unfold sx_it at h
    cases hB : B s with
    | none => rw [hB] at h; cases h
    | some x =>
      rw [hB] at h
      refine step s x hB ?_ ?_
      · rintro s' rfl
        exact sx_it_run B P y step n s' h
      · rintro y' rfl
        exact Option.some.inj h
theorem sx_bd {α ρ : Type} {x : Option α} {K : α → Option ρ} {r : ρ} (h : x.bind K = some r) : ∃ y, x = some y ∧ K y = some r := by
  cases x with
  | none => cases h
  | some y => exact ⟨y, rfl, h⟩
/-- the end of a turn of a loop: back to its head -/
theorem sx_bk {σ ρ : Type} {x : σ ⊕ ρ} {s' : σ} {P : σ → Prop} (h : some (Sum.inl s') = some x) (hb : ∀ s', x = .inl s' → P s') : P s' := hb s' (Option.some.inj h).symm
theorem sx_ex {σ ρ : Type} {x : σ ⊕ ρ} {y y' : ρ} (h : some (Sum.inr y') = some x) (he : ∀ y', x = .inr y' → y' = y) : y' = y := he y' (Option.some.inj h).symm
section SX
variable {d : sx_D} {κ : sx_C} {cc : ByteArray} {nL k n pc pc' : Nat} {own : String} {rm : Room} {lv : List (Option Value)} {st : List Value} {ws : va_W}
theorem sx_weak (m : List Bool) {lv' : List (Option Value)} (h : sx_msk m lv = lv') (K : sx_G d κ nL k n pc lv' st ws) : sx_G d κ nL k n pc lv st ws := by
  obtain ⟨⟨p, l, e, R, s, m', args, below, meth, c⟩, A, Q⟩ := κ
  exact fun H locs ls hP hD hS hl => K H locs ls hP hD hS (sx_has_of hl fun i v hv => (sx_al_mem lv 0 i v).mpr ⟨Nat.zero_le _, sx_msk_at m lv i v (by rw [h]; exact hv)⟩)
theorem g_iconst (X : sx_X d κ cc nL own rm) {z : Int} {v : Int32} (hd : decode cc pc = .ok (.iconst z, 1)) (hp : pc + 1 = pc') (hv : Int32.ofInt z = v) (K : sx_G d κ nL k n pc' lv (.int v :: st) ws) : sx_G d κ nL k n pc lv (st) ws := by
  obtain ⟨⟨p, l, e, R, s, m, args, below, meth, c⟩, A, Q⟩ := κ
  obtain ⟨hx, hb, hml, hown, hts, hKK, hA, hR⟩ := X
  subst hp
  exact fun H locs ls hP hD hS hl => lv_iconst hx hb hd hv (K H locs ls hP hD hS hl)
theorem g_bipush (X : sx_X d κ cc nL own rm) {z : Int} {v : Int32} (hd : decode cc pc = .ok (.bipush z, 2)) (hp : pc + 2 = pc') (hv : (Int8.ofInt z).toInt32 = v) (K : sx_G d κ nL k n pc' lv (.int v :: st) ws) : sx_G d κ nL k n pc lv (st) ws := by
  obtain ⟨⟨p, l, e, R, s, m, args, below, meth, c⟩, A, Q⟩ := κ
  obtain ⟨hx, hb, hml, hown, hts, hKK, hA, hR⟩ := X
  subst hp
  exact fun H locs ls hP hD hS hl => lv_bipush hx hb hd hv (K H locs ls hP hD hS hl)
theorem g_sipush (X : sx_X d κ cc nL own rm) {z : Int} {v : Int32} (hd : decode cc pc = .ok (.sipush z, 3)) (hp : pc + 3 = pc') (hv : (Int16.ofInt z).toInt32 = v) (K : sx_G d κ nL k n pc' lv (.int v :: st) ws) : sx_G d κ nL k n pc lv (st) ws := by
  obtain ⟨⟨p, l, e, R, s, m, args, below, meth, c⟩, A, Q⟩ := κ
  obtain ⟨hx, hb, hml, hown, hts, hKK, hA, hR⟩ := X
  subst hp
  exact fun H locs ls hP hD hS hl => lv_sipush hx hb hd hv (K H locs ls hP hD hS hl)
theorem g_lconst (X : sx_X d κ cc nL own rm) {z : Fin 2} {v : Int64} (hd : decode cc pc = .ok (.lconst z, 1)) (hp : pc + 1 = pc') (hv : Int64.ofNat (z : Nat) = v) (K : sx_G d κ nL k n pc' lv (.long v :: st) ws) : sx_G d κ nL k n pc lv (st) ws := by
  obtain ⟨⟨p, l, e, R, s, m, args, below, meth, c⟩, A, Q⟩ := κ
  obtain ⟨hx, hb, hml, hown, hts, hKK, hA, hR⟩ := X
  subst hp
  exact fun H locs ls hP hD hS hl => lv_lconst hx hb hd hv (K H locs ls hP hD hS hl)
theorem g_ldc (X : sx_X d κ cc nL own rm) {index : Nat} {v : Int32} (hd : decode cc pc = .ok (.ldc index, 2)) (hp : pc + 2 = pc') (hc : Jvm.Cond.constant own index v ∈ sx_gw) (K : sx_G d κ nL k n pc' lv (.int v :: st) ws) : sx_G d κ nL k n pc lv (st) ws := by
  obtain ⟨⟨p, l, e, R, s, m, args, below, meth, c⟩, A, Q⟩ := κ
  obtain ⟨hx, hb, hml, hown, hts, hKK, hA, hR⟩ := X
  subst hp
  exact fun H locs ls hP hD hS hl => lv_ldc hx hb hown (hts _ hc) hd (K H locs ls hP hD hS hl)
theorem g_ldcw (X : sx_X d κ cc nL own rm) {index : Nat} {v : Int32} (hd : decode cc pc = .ok (.ldc_w index, 3)) (hp : pc + 3 = pc') (hc : Jvm.Cond.constant own index v ∈ sx_gw) (K : sx_G d κ nL k n pc' lv (.int v :: st) ws) : sx_G d κ nL k n pc lv (st) ws := by
  obtain ⟨⟨p, l, e, R, s, m, args, below, meth, c⟩, A, Q⟩ := κ
  obtain ⟨hx, hb, hml, hown, hts, hKK, hA, hR⟩ := X
  subst hp
  exact fun H locs ls hP hD hS hl => lv_ldcw hx hb hown (hts _ hc) hd (K H locs ls hP hD hS hl)
theorem g_ldc2 (X : sx_X d κ cc nL own rm) {index : Nat} {v : Int64} (hd : decode cc pc = .ok (.ldc2_w index, 3)) (hp : pc + 3 = pc') (hc : Jvm.Cond.constantLong own index v ∈ sx_gw) (K : sx_G d κ nL k n pc' lv (.long v :: st) ws) : sx_G d κ nL k n pc lv (st) ws := by
  obtain ⟨⟨p, l, e, R, s, m, args, below, meth, c⟩, A, Q⟩ := κ
  obtain ⟨hx, hb, hml, hown, hts, hKK, hA, hR⟩ := X
  subst hp
  exact fun H locs ls hP hD hS hl => lv_ldc2 hx hb hown (hts _ hc) hd (K H locs ls hP hD hS hl)
theorem g_iload_n (X : sx_X d κ cc nL own rm) {z : Fin 4} {i : Nat} {x : Int32} (hd : decode cc pc = .ok (.iload_n z, 1)) (hp : pc + 1 = pc') (hi : (z : Nat) = i) (hv : lv[i]? = some (some (.int x))) (K : sx_G d κ nL k n pc' lv (.int x :: st) ws) : sx_G d κ nL k n pc lv (st) ws := by
  obtain ⟨⟨p, l, e, R, s, m, args, below, meth, c⟩, A, Q⟩ := κ
  obtain ⟨hx, hb, hml, hown, hts, hKK, hA, hR⟩ := X
  subst hp
  exact fun H locs ls hP hD hS hl => lv_iload_n hx hb hd hi (sx_at hl hv) (K H locs ls hP hD hS hl)
theorem g_iload (X : sx_X d κ cc nL own rm) {i : Nat} {x : Int32} (hd : decode cc pc = .ok (.iload i, 2)) (hp : pc + 2 = pc') (hv : lv[i]? = some (some (.int x))) (K : sx_G d κ nL k n pc' lv (.int x :: st) ws) : sx_G d κ nL k n pc lv (st) ws := by
  obtain ⟨⟨p, l, e, R, s, m, args, below, meth, c⟩, A, Q⟩ := κ
  obtain ⟨hx, hb, hml, hown, hts, hKK, hA, hR⟩ := X
  subst hp
  exact fun H locs ls hP hD hS hl => lv_iload hx hb hd (sx_at hl hv) (K H locs ls hP hD hS hl)
theorem g_lload_n (X : sx_X d κ cc nL own rm) {z : Fin 4} {i : Nat} {x : Int64} (hd : decode cc pc = .ok (.lload_n z, 1)) (hp : pc + 1 = pc') (hi : (z : Nat) = i) (hv : lv[i]? = some (some (.long x))) (K : sx_G d κ nL k n pc' lv (.long x :: st) ws) : sx_G d κ nL k n pc lv (st) ws := by
  obtain ⟨⟨p, l, e, R, s, m, args, below, meth, c⟩, A, Q⟩ := κ
  obtain ⟨hx, hb, hml, hown, hts, hKK, hA, hR⟩ := X
  subst hp
  exact fun H locs ls hP hD hS hl => lv_lload_n hx hb hd hi (sx_at hl hv) (K H locs ls hP hD hS hl)
theorem g_lload (X : sx_X d κ cc nL own rm) {i : Nat} {x : Int64} (hd : decode cc pc = .ok (.lload i, 2)) (hp : pc + 2 = pc') (hv : lv[i]? = some (some (.long x))) (K : sx_G d κ nL k n pc' lv (.long x :: st) ws) : sx_G d κ nL k n pc lv (st) ws := by
  obtain ⟨⟨p, l, e, R, s, m, args, below, meth, c⟩, A, Q⟩ := κ
  obtain ⟨hx, hb, hml, hown, hts, hKK, hA, hR⟩ := X
  subst hp
  exact fun H locs ls hP hD hS hl => lv_lload hx hb hd (sx_at hl hv) (K H locs ls hP hD hS hl)
theorem g_aload_n (X : sx_X d κ cc nL own rm) {z : Fin 4} {i : Nat} {x : Nat} (hd : decode cc pc = .ok (.aload_n z, 1)) (hp : pc + 1 = pc') (hi : (z : Nat) = i) (hv : lv[i]? = some (some (.ref x))) (K : sx_G d κ nL k n pc' lv (.ref x :: st) ws) : sx_G d κ nL k n pc lv (st) ws := by
  obtain ⟨⟨p, l, e, R, s, m, args, below, meth, c⟩, A, Q⟩ := κ
  obtain ⟨hx, hb, hml, hown, hts, hKK, hA, hR⟩ := X
  subst hp
  exact fun H locs ls hP hD hS hl => lv_aload_n hx hb hd hi (sx_at hl hv) (K H locs ls hP hD hS hl)
theorem g_aload (X : sx_X d κ cc nL own rm) {i : Nat} {x : Nat} (hd : decode cc pc = .ok (.aload i, 2)) (hp : pc + 2 = pc') (hv : lv[i]? = some (some (.ref x))) (K : sx_G d κ nL k n pc' lv (.ref x :: st) ws) : sx_G d κ nL k n pc lv (st) ws := by
  obtain ⟨⟨p, l, e, R, s, m, args, below, meth, c⟩, A, Q⟩ := κ
  obtain ⟨hx, hb, hml, hown, hts, hKK, hA, hR⟩ := X
  subst hp
  exact fun H locs ls hP hD hS hl => lv_aload hx hb hd (sx_at hl hv) (K H locs ls hP hD hS hl)
theorem g_istore_n (X : sx_X d κ cc nL own rm) {z : Fin 4} {i : Nat} {x : Int32} {lv' : List (Option Value)} (hd : decode cc pc = .ok (.istore_n z, 1)) (hp : pc + 1 = pc') (hi : (z : Nat) = i) (hn : i < nL) (ho : sx_ok lv i = true) (hs : lv.set i (some (.int x)) = lv') (K : sx_G d κ nL k n pc' lv' st ws) : sx_G d κ nL k n pc lv (.int x :: st) ws := by
  obtain ⟨⟨p, l, e, R, s, m, args, below, meth, c⟩, A, Q⟩ := κ
  obtain ⟨hx, hb, hml, hown, hts, hKK, hA, hR⟩ := X
  subst hp
  exact fun H locs ls hP hD hS hl => lv_istore_n hx hb hd hi hl hn rfl (fun ls hl => K H locs ls hP hD hS (sx_st1 hs ho hl))
theorem g_istore (X : sx_X d κ cc nL own rm) {i : Nat} {x : Int32} {lv' : List (Option Value)} (hd : decode cc pc = .ok (.istore i, 2)) (hp : pc + 2 = pc') (hn : i < nL) (ho : sx_ok lv i = true) (hs : lv.set i (some (.int x)) = lv') (K : sx_G d κ nL k n pc' lv' st ws) : sx_G d κ nL k n pc lv (.int x :: st) ws := by
  obtain ⟨⟨p, l, e, R, s, m, args, below, meth, c⟩, A, Q⟩ := κ
  obtain ⟨hx, hb, hml, hown, hts, hKK, hA, hR⟩ := X
  subst hp
  exact fun H locs ls hP hD hS hl => lv_istore hx hb hd hl hn rfl (fun ls hl => K H locs ls hP hD hS (sx_st1 hs ho hl))
theorem g_istore_nN (X : sx_X d κ cc nL own rm) {z : Fin 4} {i : Nat} {x : Int32} {lv' : Int32 → List (Option Value)} {ρ : Type} {F : Int32 → Option ρ} {r : ρ} (hd : decode cc pc = .ok (.istore_n z, 1)) (hp : pc + 1 = pc') (hi : (z : Nat) = i) (hn : i < nL) (ho : sx_ok lv i = true) (hs : ∀ v : Int32, lv.set i (some (.int v)) = lv' v) (hf : sx_lt x F = some r) (K : ∀ v : Int32, F v = some r → sx_G d κ nL k n pc' (lv' v) st ws) : sx_G d κ nL k n pc lv (.int x :: st) ws := g_istore_n X hd hp hi hn ho (hs x) (K x hf)
theorem g_istoreN (X : sx_X d κ cc nL own rm) {i : Nat} {x : Int32} {lv' : Int32 → List (Option Value)} {ρ : Type} {F : Int32 → Option ρ} {r : ρ} (hd : decode cc pc = .ok (.istore i, 2)) (hp : pc + 2 = pc') (hn : i < nL) (ho : sx_ok lv i = true) (hs : ∀ v : Int32, lv.set i (some (.int v)) = lv' v) (hf : sx_lt x F = some r) (K : ∀ v : Int32, F v = some r → sx_G d κ nL k n pc' (lv' v) st ws) : sx_G d κ nL k n pc lv (.int x :: st) ws := g_istore X hd hp hn ho (hs x) (K x hf)
theorem g_lstore_n (X : sx_X d κ cc nL own rm) {z : Fin 4} {i : Nat} {x : Int64} {lv' : List (Option Value)} (hd : decode cc pc = .ok (.lstore_n z, 1)) (hp : pc + 1 = pc') (hi : (z : Nat) = i) (hn : i + 1 < nL) (ho : sx_ok lv i = true) (hs : (lv.set (i + 1) none).set i (some (.long x)) = lv') (K : sx_G d κ nL k n pc' lv' st ws) : sx_G d κ nL k n pc lv (.long x :: st) ws := by
  obtain ⟨⟨p, l, e, R, s, m, args, below, meth, c⟩, A, Q⟩ := κ
  obtain ⟨hx, hb, hml, hown, hts, hKK, hA, hR⟩ := X
  subst hp
  exact fun H locs ls hP hD hS hl => lv_lstore_n hx hb hd hi hl hn rfl (fun ls hl => K H locs ls hP hD hS (sx_st2 hs ho hl))
theorem g_lstore (X : sx_X d κ cc nL own rm) {i : Nat} {x : Int64} {lv' : List (Option Value)} (hd : decode cc pc = .ok (.lstore i, 2)) (hp : pc + 2 = pc') (hn : i + 1 < nL) (ho : sx_ok lv i = true) (hs : (lv.set (i + 1) none).set i (some (.long x)) = lv') (K : sx_G d κ nL k n pc' lv' st ws) : sx_G d κ nL k n pc lv (.long x :: st) ws := by
  obtain ⟨⟨p, l, e, R, s, m, args, below, meth, c⟩, A, Q⟩ := κ
  obtain ⟨hx, hb, hml, hown, hts, hKK, hA, hR⟩ := X
  subst hp
  exact fun H locs ls hP hD hS hl => lv_lstore hx hb hd hl hn rfl (fun ls hl => K H locs ls hP hD hS (sx_st2 hs ho hl))
theorem g_lstore_nN (X : sx_X d κ cc nL own rm) {z : Fin 4} {i : Nat} {x : Int64} {lv' : Int64 → List (Option Value)} {ρ : Type} {F : Int64 → Option ρ} {r : ρ} (hd : decode cc pc = .ok (.lstore_n z, 1)) (hp : pc + 1 = pc') (hi : (z : Nat) = i) (hn : i + 1 < nL) (ho : sx_ok lv i = true) (hs : ∀ v : Int64, (lv.set (i + 1) none).set i (some (.long v)) = lv' v) (hf : sx_lt x F = some r) (K : ∀ v : Int64, F v = some r → sx_G d κ nL k n pc' (lv' v) st ws) : sx_G d κ nL k n pc lv (.long x :: st) ws := g_lstore_n X hd hp hi hn ho (hs x) (K x hf)
theorem g_lstoreN (X : sx_X d κ cc nL own rm) {i : Nat} {x : Int64} {lv' : Int64 → List (Option Value)} {ρ : Type} {F : Int64 → Option ρ} {r : ρ} (hd : decode cc pc = .ok (.lstore i, 2)) (hp : pc + 2 = pc') (hn : i + 1 < nL) (ho : sx_ok lv i = true) (hs : ∀ v : Int64, (lv.set (i + 1) none).set i (some (.long v)) = lv' v) (hf : sx_lt x F = some r) (K : ∀ v : Int64, F v = some r → sx_G d κ nL k n pc' (lv' v) st ws) : sx_G d κ nL k n pc lv (.long x :: st) ws := g_lstore X hd hp hn ho (hs x) (K x hf)
theorem g_astore_n (X : sx_X d κ cc nL own rm) {z : Fin 4} {i : Nat} {x : Nat} {lv' : List (Option Value)} (hd : decode cc pc = .ok (.astore_n z, 1)) (hp : pc + 1 = pc') (hi : (z : Nat) = i) (hn : i < nL) (ho : sx_ok lv i = true) (hs : lv.set i (some (.ref x)) = lv') (K : sx_G d κ nL k n pc' lv' st ws) : sx_G d κ nL k n pc lv (.ref x :: st) ws := by
  obtain ⟨⟨p, l, e, R, s, m, args, below, meth, c⟩, A, Q⟩ := κ
  obtain ⟨hx, hb, hml, hown, hts, hKK, hA, hR⟩ := X
  subst hp
  exact fun H locs ls hP hD hS hl => lv_astore_n hx hb hd hi hl hn rfl (fun ls hl => K H locs ls hP hD hS (sx_st1 hs ho hl))
theorem g_astore (X : sx_X d κ cc nL own rm) {i : Nat} {x : Nat} {lv' : List (Option Value)} (hd : decode cc pc = .ok (.astore i, 2)) (hp : pc + 2 = pc') (hn : i < nL) (ho : sx_ok lv i = true) (hs : lv.set i (some (.ref x)) = lv') (K : sx_G d κ nL k n pc' lv' st ws) : sx_G d κ nL k n pc lv (.ref x :: st) ws := by
  obtain ⟨⟨p, l, e, R, s, m, args, below, meth, c⟩, A, Q⟩ := κ
  obtain ⟨hx, hb, hml, hown, hts, hKK, hA, hR⟩ := X
  subst hp
  exact fun H locs ls hP hD hS hl => lv_astore hx hb hd hl hn rfl (fun ls hl => K H locs ls hP hD hS (sx_st1 hs ho hl))
theorem g_iinc (X : sx_X d κ cc nL own rm) {i : Nat} {z : Int} {x v : Int32} {lv' : List (Option Value)} (hd : decode cc pc = .ok (.iinc i z, 3)) (hp : pc + 3 = pc') (hv : lv[i]? = some (some (.int x))) (hz : Int32.ofInt z = v) (hn : i < nL) (ho : sx_ok lv i = true) (hs : lv.set i (some (.int (x + v))) = lv') (K : sx_G d κ nL k n pc' lv' st ws) : sx_G d κ nL k n pc lv st ws := by
  obtain ⟨⟨p, l, e, R, s, m, args, below, meth, c⟩, A, Q⟩ := κ
  obtain ⟨hx, hb, hml, hown, hts, hKK, hA, hR⟩ := X
  subst hp
  subst hz
  intro H locs ls hP hD hS hl
  obtain ⟨j, hj⟩ := List.getElem?_of_mem ((sx_al_mem lv 0 i (.int x)).mpr ⟨Nat.zero_le _, hv⟩)
  exact lv_iinc (k := j) hx hb hd hl hj rfl hn rfl (fun ls hl => K H locs ls hP hD hS (sx_st1 hs ho hl))
theorem g_iadd (X : sx_X d κ cc nL own rm) {x y : Int32} (hd : decode cc pc = .ok (.iadd, 1)) (hp : pc + 1 = pc') (K : sx_G d κ nL k n pc' lv (.int (x + y) :: st) ws) : sx_G d κ nL k n pc lv (.int y :: .int x :: st) ws := by
  obtain ⟨⟨p, l, e, R, s, m, args, below, meth, c⟩, A, Q⟩ := κ
  obtain ⟨hx, hb, hml, hown, hts, hKK, hA, hR⟩ := X
  subst hp
  exact fun H locs ls hP hD hS hl => lv_iadd hx hb hd (K H locs ls hP hD hS hl)
theorem g_isub (X : sx_X d κ cc nL own rm) {x y : Int32} (hd : decode cc pc = .ok (.isub, 1)) (hp : pc + 1 = pc') (K : sx_G d κ nL k n pc' lv (.int (x - y) :: st) ws) : sx_G d κ nL k n pc lv (.int y :: .int x :: st) ws := by
  obtain ⟨⟨p, l, e, R, s, m, args, below, meth, c⟩, A, Q⟩ := κ
  obtain ⟨hx, hb, hml, hown, hts, hKK, hA, hR⟩ := X
  subst hp
  exact fun H locs ls hP hD hS hl => lv_isub hx hb hd (K H locs ls hP hD hS hl)
theorem g_imul (X : sx_X d κ cc nL own rm) {x y : Int32} (hd : decode cc pc = .ok (.imul, 1)) (hp : pc + 1 = pc') (K : sx_G d κ nL k n pc' lv (.int (x * y) :: st) ws) : sx_G d κ nL k n pc lv (.int y :: .int x :: st) ws := by
  obtain ⟨⟨p, l, e, R, s, m, args, below, meth, c⟩, A, Q⟩ := κ
  obtain ⟨hx, hb, hml, hown, hts, hKK, hA, hR⟩ := X
  subst hp
  exact fun H locs ls hP hD hS hl => lv_imul hx hb hd (K H locs ls hP hD hS hl)
theorem g_iand (X : sx_X d κ cc nL own rm) {x y : Int32} (hd : decode cc pc = .ok (.iand, 1)) (hp : pc + 1 = pc') (K : sx_G d κ nL k n pc' lv (.int (x &&& y) :: st) ws) : sx_G d κ nL k n pc lv (.int y :: .int x :: st) ws := by
  obtain ⟨⟨p, l, e, R, s, m, args, below, meth, c⟩, A, Q⟩ := κ
  obtain ⟨hx, hb, hml, hown, hts, hKK, hA, hR⟩ := X
  subst hp
  exact fun H locs ls hP hD hS hl => lv_iand hx hb hd (K H locs ls hP hD hS hl)
theorem g_ior (X : sx_X d κ cc nL own rm) {x y : Int32} (hd : decode cc pc = .ok (.ior, 1)) (hp : pc + 1 = pc') (K : sx_G d κ nL k n pc' lv (.int (x ||| y) :: st) ws) : sx_G d κ nL k n pc lv (.int y :: .int x :: st) ws := by
  obtain ⟨⟨p, l, e, R, s, m, args, below, meth, c⟩, A, Q⟩ := κ
  obtain ⟨hx, hb, hml, hown, hts, hKK, hA, hR⟩ := X
  subst hp
  exact fun H locs ls hP hD hS hl => lv_ior hx hb hd (K H locs ls hP hD hS hl)
theorem g_ixor (X : sx_X d κ cc nL own rm) {x y : Int32} (hd : decode cc pc = .ok (.ixor, 1)) (hp : pc + 1 = pc') (K : sx_G d κ nL k n pc' lv (.int (x ^^^ y) :: st) ws) : sx_G d κ nL k n pc lv (.int y :: .int x :: st) ws := by
  obtain ⟨⟨p, l, e, R, s, m, args, below, meth, c⟩, A, Q⟩ := κ
  obtain ⟨hx, hb, hml, hown, hts, hKK, hA, hR⟩ := X
  subst hp
  exact fun H locs ls hP hD hS hl => lv_ixor hx hb hd (K H locs ls hP hD hS hl)
theorem g_ishl (X : sx_X d κ cc nL own rm) {x y : Int32} (hd : decode cc pc = .ok (.ishl, 1)) (hp : pc + 1 = pc') (K : sx_G d κ nL k n pc' lv (.int (x <<< (y &&& 31)) :: st) ws) : sx_G d κ nL k n pc lv (.int y :: .int x :: st) ws := by
  obtain ⟨⟨p, l, e, R, s, m, args, below, meth, c⟩, A, Q⟩ := κ
  obtain ⟨hx, hb, hml, hown, hts, hKK, hA, hR⟩ := X
  subst hp
  exact fun H locs ls hP hD hS hl => lv_ishl hx hb hd (K H locs ls hP hD hS hl)
theorem g_ishr (X : sx_X d κ cc nL own rm) {x y : Int32} (hd : decode cc pc = .ok (.ishr, 1)) (hp : pc + 1 = pc') (K : sx_G d κ nL k n pc' lv (.int (x >>> (y &&& 31)) :: st) ws) : sx_G d κ nL k n pc lv (.int y :: .int x :: st) ws := by
  obtain ⟨⟨p, l, e, R, s, m, args, below, meth, c⟩, A, Q⟩ := κ
  obtain ⟨hx, hb, hml, hown, hts, hKK, hA, hR⟩ := X
  subst hp
  exact fun H locs ls hP hD hS hl => lv_ishr hx hb hd (K H locs ls hP hD hS hl)
theorem g_iushr (X : sx_X d κ cc nL own rm) {x y : Int32} (hd : decode cc pc = .ok (.iushr, 1)) (hp : pc + 1 = pc') (K : sx_G d κ nL k n pc' lv (.int ((x.toUInt32 >>> (y.toUInt32 &&& Int32.toUInt32 31)).toInt32) :: st) ws) : sx_G d κ nL k n pc lv (.int y :: .int x :: st) ws := by
  obtain ⟨⟨p, l, e, R, s, m, args, below, meth, c⟩, A, Q⟩ := κ
  obtain ⟨hx, hb, hml, hown, hts, hKK, hA, hR⟩ := X
  subst hp
  exact fun H locs ls hP hD hS hl => lv_iushr hx hb hd rfl (K H locs ls hP hD hS hl)
theorem g_ladd (X : sx_X d κ cc nL own rm) {x y : Int64} (hd : decode cc pc = .ok (.ladd, 1)) (hp : pc + 1 = pc') (K : sx_G d κ nL k n pc' lv (.long (x + y) :: st) ws) : sx_G d κ nL k n pc lv (.long y :: .long x :: st) ws := by
  obtain ⟨⟨p, l, e, R, s, m, args, below, meth, c⟩, A, Q⟩ := κ
  obtain ⟨hx, hb, hml, hown, hts, hKK, hA, hR⟩ := X
  subst hp
  exact fun H locs ls hP hD hS hl => lv_ladd hx hb hd (K H locs ls hP hD hS hl)
theorem g_lsub (X : sx_X d κ cc nL own rm) {x y : Int64} (hd : decode cc pc = .ok (.lsub, 1)) (hp : pc + 1 = pc') (K : sx_G d κ nL k n pc' lv (.long (x - y) :: st) ws) : sx_G d κ nL k n pc lv (.long y :: .long x :: st) ws := by
  obtain ⟨⟨p, l, e, R, s, m, args, below, meth, c⟩, A, Q⟩ := κ
  obtain ⟨hx, hb, hml, hown, hts, hKK, hA, hR⟩ := X
  subst hp
  exact fun H locs ls hP hD hS hl => lv_lsub hx hb hd (K H locs ls hP hD hS hl)
theorem g_lmul (X : sx_X d κ cc nL own rm) {x y : Int64} (hd : decode cc pc = .ok (.lmul, 1)) (hp : pc + 1 = pc') (K : sx_G d κ nL k n pc' lv (.long (x * y) :: st) ws) : sx_G d κ nL k n pc lv (.long y :: .long x :: st) ws := by
  obtain ⟨⟨p, l, e, R, s, m, args, below, meth, c⟩, A, Q⟩ := κ
  obtain ⟨hx, hb, hml, hown, hts, hKK, hA, hR⟩ := X
  subst hp
  exact fun H locs ls hP hD hS hl => lv_lmul hx hb hd (K H locs ls hP hD hS hl)
theorem g_idiv (X : sx_X d κ cc nL own rm) {x y : Int32} (hd : decode cc pc = .ok (.idiv, 1)) (hp : pc + 1 = pc') (hne : ¬ y = 0) (K : sx_G d κ nL k n pc' lv (.int (x / y) :: st) ws) : sx_G d κ nL k n pc lv (.int y :: .int x :: st) ws := by
  obtain ⟨⟨p, l, e, R, s, m, args, below, meth, c⟩, A, Q⟩ := κ
  obtain ⟨hx, hb, hml, hown, hts, hKK, hA, hR⟩ := X
  subst hp
  exact fun H locs ls hP hD hS hl => lv_idiv hx hb hd hne (K H locs ls hP hD hS hl)
theorem g_idivZ (X : sx_X d κ cc nL own rm) {x y : Int32} {ρ : Type} {F : Option ρ} {r : ρ} (hd : decode cc pc = .ok (.idiv, 1)) (hp : pc + 1 = pc') (hf : sx_nz y F = some r) (K : F = some r → sx_G d κ nL k n pc' lv (.int (x / y) :: st) ws) : sx_G d κ nL k n pc lv (.int y :: .int x :: st) ws := by
  unfold sx_nz at hf
  by_cases h : y = 0
  · rw [if_pos h] at hf; cases hf
  · rw [if_neg h] at hf
    exact g_idiv X hd hp h (K hf)
theorem g_irem (X : sx_X d κ cc nL own rm) {x y : Int32} (hd : decode cc pc = .ok (.irem, 1)) (hp : pc + 1 = pc') (hne : ¬ y = 0) (K : sx_G d κ nL k n pc' lv (.int (x - x / y * y) :: st) ws) : sx_G d κ nL k n pc lv (.int y :: .int x :: st) ws := by
  obtain ⟨⟨p, l, e, R, s, m, args, below, meth, c⟩, A, Q⟩ := κ
  obtain ⟨hx, hb, hml, hown, hts, hKK, hA, hR⟩ := X
  subst hp
  exact fun H locs ls hP hD hS hl => lv_irem hx hb hd hne (K H locs ls hP hD hS hl)
theorem g_iremZ (X : sx_X d κ cc nL own rm) {x y : Int32} {ρ : Type} {F : Option ρ} {r : ρ} (hd : decode cc pc = .ok (.irem, 1)) (hp : pc + 1 = pc') (hf : sx_nz y F = some r) (K : F = some r → sx_G d κ nL k n pc' lv (.int (x - x / y * y) :: st) ws) : sx_G d κ nL k n pc lv (.int y :: .int x :: st) ws := by
  unfold sx_nz at hf
  by_cases h : y = 0
  · rw [if_pos h] at hf; cases hf
  · rw [if_neg h] at hf
    exact g_irem X hd hp h (K hf)
theorem g_ldiv (X : sx_X d κ cc nL own rm) {x y : Int64} (hd : decode cc pc = .ok (.ldiv, 1)) (hp : pc + 1 = pc') (hne : ¬ y = 0) (K : sx_G d κ nL k n pc' lv (.long (x / y) :: st) ws) : sx_G d κ nL k n pc lv (.long y :: .long x :: st) ws := by
  obtain ⟨⟨p, l, e, R, s, m, args, below, meth, c⟩, A, Q⟩ := κ
  obtain ⟨hx, hb, hml, hown, hts, hKK, hA, hR⟩ := X
  subst hp
  exact fun H locs ls hP hD hS hl => lv_ldiv hx hb hd hne (K H locs ls hP hD hS hl)
theorem g_ldivZ (X : sx_X d κ cc nL own rm) {x y : Int64} {ρ : Type} {F : Option ρ} {r : ρ} (hd : decode cc pc = .ok (.ldiv, 1)) (hp : pc + 1 = pc') (hf : sx_nzl y F = some r) (K : F = some r → sx_G d κ nL k n pc' lv (.long (x / y) :: st) ws) : sx_G d κ nL k n pc lv (.long y :: .long x :: st) ws := by
  unfold sx_nzl at hf
  by_cases h : y = 0
  · rw [if_pos h] at hf; cases hf
  · rw [if_neg h] at hf
    exact g_ldiv X hd hp h (K hf)
theorem g_lrem (X : sx_X d κ cc nL own rm) {x y : Int64} (hd : decode cc pc = .ok (.lrem, 1)) (hp : pc + 1 = pc') (hne : ¬ y = 0) (K : sx_G d κ nL k n pc' lv (.long (x - x / y * y) :: st) ws) : sx_G d κ nL k n pc lv (.long y :: .long x :: st) ws := by
  obtain ⟨⟨p, l, e, R, s, m, args, below, meth, c⟩, A, Q⟩ := κ
  obtain ⟨hx, hb, hml, hown, hts, hKK, hA, hR⟩ := X
  subst hp
  exact fun H locs ls hP hD hS hl => lv_lrem hx hb hd hne (K H locs ls hP hD hS hl)
theorem g_lremZ (X : sx_X d κ cc nL own rm) {x y : Int64} {ρ : Type} {F : Option ρ} {r : ρ} (hd : decode cc pc = .ok (.lrem, 1)) (hp : pc + 1 = pc') (hf : sx_nzl y F = some r) (K : F = some r → sx_G d κ nL k n pc' lv (.long (x - x / y * y) :: st) ws) : sx_G d κ nL k n pc lv (.long y :: .long x :: st) ws := by
  unfold sx_nzl at hf
  by_cases h : y = 0
  · rw [if_pos h] at hf; cases hf
  · rw [if_neg h] at hf
    exact g_lrem X hd hp h (K hf)
theorem g_i2l (X : sx_X d κ cc nL own rm) {x : Int32} (hd : decode cc pc = .ok (.i2l, 1)) (hp : pc + 1 = pc') (K : sx_G d κ nL k n pc' lv (.long x.toInt64 :: st) ws) : sx_G d κ nL k n pc lv (.int x :: st) ws := by
  obtain ⟨⟨p, l, e, R, s, m, args, below, meth, c⟩, A, Q⟩ := κ
  obtain ⟨hx, hb, hml, hown, hts, hKK, hA, hR⟩ := X
  subst hp
  exact fun H locs ls hP hD hS hl => lv_i2l hx hb hd rfl (K H locs ls hP hD hS hl)
theorem g_l2i (X : sx_X d κ cc nL own rm) {x : Int64} (hd : decode cc pc = .ok (.l2i, 1)) (hp : pc + 1 = pc') (K : sx_G d κ nL k n pc' lv (.int x.toInt32 :: st) ws) : sx_G d κ nL k n pc lv (.long x :: st) ws := by
  obtain ⟨⟨p, l, e, R, s, m, args, below, meth, c⟩, A, Q⟩ := κ
  obtain ⟨hx, hb, hml, hown, hts, hKK, hA, hR⟩ := X
  subst hp
  exact fun H locs ls hP hD hS hl => lv_l2i hx hb hd rfl (K H locs ls hP hD hS hl)
theorem g_i2c (X : sx_X d κ cc nL own rm) {x : Int32} (hd : decode cc pc = .ok (.i2c, 1)) (hp : pc + 1 = pc') (K : sx_G d κ nL k n pc' lv (.int (x.toUInt32 % 65536).toInt32 :: st) ws) : sx_G d κ nL k n pc lv (.int x :: st) ws := by
  obtain ⟨⟨p, l, e, R, s, m, args, below, meth, c⟩, A, Q⟩ := κ
  obtain ⟨hx, hb, hml, hown, hts, hKK, hA, hR⟩ := X
  subst hp
  exact fun H locs ls hP hD hS hl => lv_i2c hx hb hd rfl (K H locs ls hP hD hS hl)
theorem g_lcmp (X : sx_X d κ cc nL own rm) {x y : Int64} (hd : decode cc pc = .ok (.lcmp, 1)) (hp : pc + 1 = pc') (K : sx_G d κ nL k n pc' lv (.int (lg_cmp x y) :: st) ws) : sx_G d κ nL k n pc lv (.long y :: .long x :: st) ws := by
  obtain ⟨⟨p, l, e, R, s, m, args, below, meth, c⟩, A, Q⟩ := κ
  obtain ⟨hx, hb, hml, hown, hts, hKK, hA, hR⟩ := X
  subst hp
  exact fun H locs ls hP hD hS hl => W.lcmp hx hb hd (K H locs ls hP hD hS hl)
theorem g_dup (X : sx_X d κ cc nL own rm) {v : Value} (hd : decode cc pc = .ok (.dup, 1)) (hp : pc + 1 = pc') (hc : v.category = 1) (K : sx_G d κ nL k n pc' lv (v :: v :: st) ws) : sx_G d κ nL k n pc lv (v :: st) ws := by
  obtain ⟨⟨p, l, e, R, s, m, args, below, meth, c⟩, A, Q⟩ := κ
  obtain ⟨hx, hb, hml, hown, hts, hKK, hA, hR⟩ := X
  subst hp
  exact fun H locs ls hP hD hS hl => lv_dup hx hb hd hc (K H locs ls hP hD hS hl)
theorem g_dup2 (X : sx_X d κ cc nL own rm) {v w : Value} (hd : decode cc pc = .ok (.dup2, 1)) (hp : pc + 1 = pc') (hc : v.category = 1) (hc2 : w.category = 1) (K : sx_G d κ nL k n pc' lv (v :: w :: v :: w :: st) ws) : sx_G d κ nL k n pc lv (v :: w :: st) ws := by
  obtain ⟨⟨p, l, e, R, s, m, args, below, meth, c⟩, A, Q⟩ := κ
  obtain ⟨hx, hb, hml, hown, hts, hKK, hA, hR⟩ := X
  subst hp
  exact fun H locs ls hP hD hS hl => lv_dup2_11 hx hb hd hc hc2 (K H locs ls hP hD hS hl)
theorem g_pop (X : sx_X d κ cc nL own rm) {v : Value} (hd : decode cc pc = .ok (.pop, 1)) (hp : pc + 1 = pc') (hc : v.category = 1) (K : sx_G d κ nL k n pc' lv (st) ws) : sx_G d κ nL k n pc lv (v :: st) ws := by
  obtain ⟨⟨p, l, e, R, s, m, args, below, meth, c⟩, A, Q⟩ := κ
  obtain ⟨hx, hb, hml, hown, hts, hKK, hA, hR⟩ := X
  subst hp
  exact fun H locs ls hP hD hS hl => lv_pop hx hb hd hc (K H locs ls hP hD hS hl)
theorem g_if_eq (X : sx_X d κ cc nL own rm) {x : Int32} {off : Int} {tgt : Nat} {ρ : Type} {F1 F2 : Option ρ} {r : ρ} (hd : decode cc pc = .ok (.ifCond .eq off, 3)) (ht : (pc : Int) + off = (tgt : Int)) (hp : pc + 3 = pc') (hf : (if x = 0 then F1 else F2) = some r) (K1 : F1 = some r → sx_G d κ nL k n tgt lv st ws) (K2 : F2 = some r → sx_G d κ nL k n pc' lv st ws) : sx_G d κ nL k n pc lv (.int x :: st) ws := by
  obtain ⟨⟨p, l, e, R, s, m, args, below, meth, c⟩, A, Q⟩ := κ
  obtain ⟨hx, hb, hml, hown, hts, hKK, hA, hR⟩ := X
  subst hp
  exact fun H locs ls hP hD hS hl => lv_if_eq hx hb hd ht (fun q => K1 (by rw [if_pos q] at hf; exact hf) H locs ls hP hD hS hl) (fun q => K2 (by rw [if_neg q] at hf; exact hf) H locs ls hP hD hS hl)
theorem g_if_eq_t (X : sx_X d κ cc nL own rm) {x : Int32} {off : Int} {tgt : Nat} (hd : decode cc pc = .ok (.ifCond .eq off, 3)) (ht : (pc : Int) + off = (tgt : Int)) (q : x = 0) (K1 : sx_G d κ nL k n tgt lv st ws) : sx_G d κ nL k n pc lv (.int x :: st) ws := by
  obtain ⟨⟨p, l, e, R, s, m, args, below, meth, c⟩, A, Q⟩ := κ
  obtain ⟨hx, hb, hml, hown, hts, hKK, hA, hR⟩ := X
  exact fun H locs ls hP hD hS hl => lv_if_eq hx hb hd ht (fun _ => K1 H locs ls hP hD hS hl) (fun z => absurd q z)
theorem g_if_eq_f (X : sx_X d κ cc nL own rm) {x : Int32} {off : Int} {tgt : Nat} (hd : decode cc pc = .ok (.ifCond .eq off, 3)) (ht : (pc : Int) + off = (tgt : Int)) (hp : pc + 3 = pc') (q : ¬ (x = 0)) (K2 : sx_G d κ nL k n pc' lv st ws) : sx_G d κ nL k n pc lv (.int x :: st) ws := by
  obtain ⟨⟨p, l, e, R, s, m, args, below, meth, c⟩, A, Q⟩ := κ
  obtain ⟨hx, hb, hml, hown, hts, hKK, hA, hR⟩ := X
  subst hp
  exact fun H locs ls hP hD hS hl => lv_if_eq hx hb hd ht (fun z => absurd z q) (fun _ => K2 H locs ls hP hD hS hl)
theorem g_icmp_eq (X : sx_X d κ cc nL own rm) {x y : Int32} {off : Int} {tgt : Nat} {ρ : Type} {F1 F2 : Option ρ} {r : ρ} (hd : decode cc pc = .ok (.if_icmp .eq off, 3)) (ht : (pc : Int) + off = (tgt : Int)) (hp : pc + 3 = pc') (hf : (if x = y then F1 else F2) = some r) (K1 : F1 = some r → sx_G d κ nL k n tgt lv st ws) (K2 : F2 = some r → sx_G d κ nL k n pc' lv st ws) : sx_G d κ nL k n pc lv (.int y :: .int x :: st) ws := by
  obtain ⟨⟨p, l, e, R, s, m, args, below, meth, c⟩, A, Q⟩ := κ
  obtain ⟨hx, hb, hml, hown, hts, hKK, hA, hR⟩ := X
  subst hp
  exact fun H locs ls hP hD hS hl => lv_icmp_eq hx hb hd ht (fun q => K1 (by rw [if_pos q] at hf; exact hf) H locs ls hP hD hS hl) (fun q => K2 (by rw [if_neg q] at hf; exact hf) H locs ls hP hD hS hl)
theorem g_icmp_eq_t (X : sx_X d κ cc nL own rm) {x y : Int32} {off : Int} {tgt : Nat} (hd : decode cc pc = .ok (.if_icmp .eq off, 3)) (ht : (pc : Int) + off = (tgt : Int)) (q : x = y) (K1 : sx_G d κ nL k n tgt lv st ws) : sx_G d κ nL k n pc lv (.int y :: .int x :: st) ws := by
  obtain ⟨⟨p, l, e, R, s, m, args, below, meth, c⟩, A, Q⟩ := κ
  obtain ⟨hx, hb, hml, hown, hts, hKK, hA, hR⟩ := X
  exact fun H locs ls hP hD hS hl => lv_icmp_eq hx hb hd ht (fun _ => K1 H locs ls hP hD hS hl) (fun z => absurd q z)
theorem g_icmp_eq_f (X : sx_X d κ cc nL own rm) {x y : Int32} {off : Int} {tgt : Nat} (hd : decode cc pc = .ok (.if_icmp .eq off, 3)) (ht : (pc : Int) + off = (tgt : Int)) (hp : pc + 3 = pc') (q : ¬ (x = y)) (K2 : sx_G d κ nL k n pc' lv st ws) : sx_G d κ nL k n pc lv (.int y :: .int x :: st) ws := by
  obtain ⟨⟨p, l, e, R, s, m, args, below, meth, c⟩, A, Q⟩ := κ
  obtain ⟨hx, hb, hml, hown, hts, hKK, hA, hR⟩ := X
  subst hp
  exact fun H locs ls hP hD hS hl => lv_icmp_eq hx hb hd ht (fun z => absurd z q) (fun _ => K2 H locs ls hP hD hS hl)
theorem g_if_ne (X : sx_X d κ cc nL own rm) {x : Int32} {off : Int} {tgt : Nat} {ρ : Type} {F1 F2 : Option ρ} {r : ρ} (hd : decode cc pc = .ok (.ifCond .ne off, 3)) (ht : (pc : Int) + off = (tgt : Int)) (hp : pc + 3 = pc') (hf : (if x = 0 then F2 else F1) = some r) (K1 : F1 = some r → sx_G d κ nL k n tgt lv st ws) (K2 : F2 = some r → sx_G d κ nL k n pc' lv st ws) : sx_G d κ nL k n pc lv (.int x :: st) ws := by
  obtain ⟨⟨p, l, e, R, s, m, args, below, meth, c⟩, A, Q⟩ := κ
  obtain ⟨hx, hb, hml, hown, hts, hKK, hA, hR⟩ := X
  subst hp
  exact fun H locs ls hP hD hS hl => lv_if_ne hx hb hd ht (fun q => K1 (by rw [if_neg q] at hf; exact hf) H locs ls hP hD hS hl) (fun q => K2 (by rw [if_pos q] at hf; exact hf) H locs ls hP hD hS hl)
theorem g_if_ne_t (X : sx_X d κ cc nL own rm) {x : Int32} {off : Int} {tgt : Nat} (hd : decode cc pc = .ok (.ifCond .ne off, 3)) (ht : (pc : Int) + off = (tgt : Int)) (q : ¬ (x = 0)) (K1 : sx_G d κ nL k n tgt lv st ws) : sx_G d κ nL k n pc lv (.int x :: st) ws := by
  obtain ⟨⟨p, l, e, R, s, m, args, below, meth, c⟩, A, Q⟩ := κ
  obtain ⟨hx, hb, hml, hown, hts, hKK, hA, hR⟩ := X
  exact fun H locs ls hP hD hS hl => lv_if_ne hx hb hd ht (fun _ => K1 H locs ls hP hD hS hl) (fun z => absurd z q)
theorem g_if_ne_f (X : sx_X d κ cc nL own rm) {x : Int32} {off : Int} {tgt : Nat} (hd : decode cc pc = .ok (.ifCond .ne off, 3)) (ht : (pc : Int) + off = (tgt : Int)) (hp : pc + 3 = pc') (q : x = 0) (K2 : sx_G d κ nL k n pc' lv st ws) : sx_G d κ nL k n pc lv (.int x :: st) ws := by
  obtain ⟨⟨p, l, e, R, s, m, args, below, meth, c⟩, A, Q⟩ := κ
  obtain ⟨hx, hb, hml, hown, hts, hKK, hA, hR⟩ := X
  subst hp
  exact fun H locs ls hP hD hS hl => lv_if_ne hx hb hd ht (fun z => absurd q z) (fun _ => K2 H locs ls hP hD hS hl)
theorem g_icmp_ne (X : sx_X d κ cc nL own rm) {x y : Int32} {off : Int} {tgt : Nat} {ρ : Type} {F1 F2 : Option ρ} {r : ρ} (hd : decode cc pc = .ok (.if_icmp .ne off, 3)) (ht : (pc : Int) + off = (tgt : Int)) (hp : pc + 3 = pc') (hf : (if x = y then F2 else F1) = some r) (K1 : F1 = some r → sx_G d κ nL k n tgt lv st ws) (K2 : F2 = some r → sx_G d κ nL k n pc' lv st ws) : sx_G d κ nL k n pc lv (.int y :: .int x :: st) ws := by
  obtain ⟨⟨p, l, e, R, s, m, args, below, meth, c⟩, A, Q⟩ := κ
  obtain ⟨hx, hb, hml, hown, hts, hKK, hA, hR⟩ := X
  subst hp
  exact fun H locs ls hP hD hS hl => lv_icmp_ne hx hb hd ht (fun q => K1 (by rw [if_neg q] at hf; exact hf) H locs ls hP hD hS hl) (fun q => K2 (by rw [if_pos q] at hf; exact hf) H locs ls hP hD hS hl)
theorem g_icmp_ne_t (X : sx_X d κ cc nL own rm) {x y : Int32} {off : Int} {tgt : Nat} (hd : decode cc pc = .ok (.if_icmp .ne off, 3)) (ht : (pc : Int) + off = (tgt : Int)) (q : ¬ (x = y)) (K1 : sx_G d κ nL k n tgt lv st ws) : sx_G d κ nL k n pc lv (.int y :: .int x :: st) ws := by
  obtain ⟨⟨p, l, e, R, s, m, args, below, meth, c⟩, A, Q⟩ := κ
  obtain ⟨hx, hb, hml, hown, hts, hKK, hA, hR⟩ := X
  exact fun H locs ls hP hD hS hl => lv_icmp_ne hx hb hd ht (fun _ => K1 H locs ls hP hD hS hl) (fun z => absurd z q)
theorem g_icmp_ne_f (X : sx_X d κ cc nL own rm) {x y : Int32} {off : Int} {tgt : Nat} (hd : decode cc pc = .ok (.if_icmp .ne off, 3)) (ht : (pc : Int) + off = (tgt : Int)) (hp : pc + 3 = pc') (q : x = y) (K2 : sx_G d κ nL k n pc' lv st ws) : sx_G d κ nL k n pc lv (.int y :: .int x :: st) ws := by
  obtain ⟨⟨p, l, e, R, s, m, args, below, meth, c⟩, A, Q⟩ := κ
  obtain ⟨hx, hb, hml, hown, hts, hKK, hA, hR⟩ := X
  subst hp
  exact fun H locs ls hP hD hS hl => lv_icmp_ne hx hb hd ht (fun z => absurd q z) (fun _ => K2 H locs ls hP hD hS hl)
theorem g_if_lt (X : sx_X d κ cc nL own rm) {x : Int32} {off : Int} {tgt : Nat} {ρ : Type} {F1 F2 : Option ρ} {r : ρ} (hd : decode cc pc = .ok (.ifCond .lt off, 3)) (ht : (pc : Int) + off = (tgt : Int)) (hp : pc + 3 = pc') (hf : (if x < 0 then F1 else F2) = some r) (K1 : F1 = some r → sx_G d κ nL k n tgt lv st ws) (K2 : F2 = some r → sx_G d κ nL k n pc' lv st ws) : sx_G d κ nL k n pc lv (.int x :: st) ws := by
  obtain ⟨⟨p, l, e, R, s, m, args, below, meth, c⟩, A, Q⟩ := κ
  obtain ⟨hx, hb, hml, hown, hts, hKK, hA, hR⟩ := X
  subst hp
  exact fun H locs ls hP hD hS hl => lv_if_lt hx hb hd ht (fun q => K1 (by rw [if_pos q] at hf; exact hf) H locs ls hP hD hS hl) (fun q => K2 (by rw [if_neg q] at hf; exact hf) H locs ls hP hD hS hl)
theorem g_if_lt_t (X : sx_X d κ cc nL own rm) {x : Int32} {off : Int} {tgt : Nat} (hd : decode cc pc = .ok (.ifCond .lt off, 3)) (ht : (pc : Int) + off = (tgt : Int)) (q : x < 0) (K1 : sx_G d κ nL k n tgt lv st ws) : sx_G d κ nL k n pc lv (.int x :: st) ws := by
  obtain ⟨⟨p, l, e, R, s, m, args, below, meth, c⟩, A, Q⟩ := κ
  obtain ⟨hx, hb, hml, hown, hts, hKK, hA, hR⟩ := X
  exact fun H locs ls hP hD hS hl => lv_if_lt hx hb hd ht (fun _ => K1 H locs ls hP hD hS hl) (fun z => absurd q z)
theorem g_if_lt_f (X : sx_X d κ cc nL own rm) {x : Int32} {off : Int} {tgt : Nat} (hd : decode cc pc = .ok (.ifCond .lt off, 3)) (ht : (pc : Int) + off = (tgt : Int)) (hp : pc + 3 = pc') (q : ¬ (x < 0)) (K2 : sx_G d κ nL k n pc' lv st ws) : sx_G d κ nL k n pc lv (.int x :: st) ws := by
  obtain ⟨⟨p, l, e, R, s, m, args, below, meth, c⟩, A, Q⟩ := κ
  obtain ⟨hx, hb, hml, hown, hts, hKK, hA, hR⟩ := X
  subst hp
  exact fun H locs ls hP hD hS hl => lv_if_lt hx hb hd ht (fun z => absurd z q) (fun _ => K2 H locs ls hP hD hS hl)
theorem g_icmp_lt (X : sx_X d κ cc nL own rm) {x y : Int32} {off : Int} {tgt : Nat} {ρ : Type} {F1 F2 : Option ρ} {r : ρ} (hd : decode cc pc = .ok (.if_icmp .lt off, 3)) (ht : (pc : Int) + off = (tgt : Int)) (hp : pc + 3 = pc') (hf : (if x < y then F1 else F2) = some r) (K1 : F1 = some r → sx_G d κ nL k n tgt lv st ws) (K2 : F2 = some r → sx_G d κ nL k n pc' lv st ws) : sx_G d κ nL k n pc lv (.int y :: .int x :: st) ws := by
  obtain ⟨⟨p, l, e, R, s, m, args, below, meth, c⟩, A, Q⟩ := κ
  obtain ⟨hx, hb, hml, hown, hts, hKK, hA, hR⟩ := X
  subst hp
  exact fun H locs ls hP hD hS hl => lv_icmp_lt hx hb hd ht (fun q => K1 (by rw [if_pos q] at hf; exact hf) H locs ls hP hD hS hl) (fun q => K2 (by rw [if_neg q] at hf; exact hf) H locs ls hP hD hS hl)
theorem g_icmp_lt_t (X : sx_X d κ cc nL own rm) {x y : Int32} {off : Int} {tgt : Nat} (hd : decode cc pc = .ok (.if_icmp .lt off, 3)) (ht : (pc : Int) + off = (tgt : Int)) (q : x < y) (K1 : sx_G d κ nL k n tgt lv st ws) : sx_G d κ nL k n pc lv (.int y :: .int x :: st) ws := by
  obtain ⟨⟨p, l, e, R, s, m, args, below, meth, c⟩, A, Q⟩ := κ
  obtain ⟨hx, hb, hml, hown, hts, hKK, hA, hR⟩ := X
  exact fun H locs ls hP hD hS hl => lv_icmp_lt hx hb hd ht (fun _ => K1 H locs ls hP hD hS hl) (fun z => absurd q z)
theorem g_icmp_lt_f (X : sx_X d κ cc nL own rm) {x y : Int32} {off : Int} {tgt : Nat} (hd : decode cc pc = .ok (.if_icmp .lt off, 3)) (ht : (pc : Int) + off = (tgt : Int)) (hp : pc + 3 = pc') (q : ¬ (x < y)) (K2 : sx_G d κ nL k n pc' lv st ws) : sx_G d κ nL k n pc lv (.int y :: .int x :: st) ws := by
  obtain ⟨⟨p, l, e, R, s, m, args, below, meth, c⟩, A, Q⟩ := κ
  obtain ⟨hx, hb, hml, hown, hts, hKK, hA, hR⟩ := X
  subst hp
  exact fun H locs ls hP hD hS hl => lv_icmp_lt hx hb hd ht (fun z => absurd z q) (fun _ => K2 H locs ls hP hD hS hl)
theorem g_if_ge (X : sx_X d κ cc nL own rm) {x : Int32} {off : Int} {tgt : Nat} {ρ : Type} {F1 F2 : Option ρ} {r : ρ} (hd : decode cc pc = .ok (.ifCond .ge off, 3)) (ht : (pc : Int) + off = (tgt : Int)) (hp : pc + 3 = pc') (hf : (if 0 ≤ x then F1 else F2) = some r) (K1 : F1 = some r → sx_G d κ nL k n tgt lv st ws) (K2 : F2 = some r → sx_G d κ nL k n pc' lv st ws) : sx_G d κ nL k n pc lv (.int x :: st) ws := by
  obtain ⟨⟨p, l, e, R, s, m, args, below, meth, c⟩, A, Q⟩ := κ
  obtain ⟨hx, hb, hml, hown, hts, hKK, hA, hR⟩ := X
  subst hp
  exact fun H locs ls hP hD hS hl => lv_if_ge hx hb hd ht (fun q => K1 (by rw [if_pos q] at hf; exact hf) H locs ls hP hD hS hl) (fun q => K2 (by rw [if_neg q] at hf; exact hf) H locs ls hP hD hS hl)
theorem g_if_ge_t (X : sx_X d κ cc nL own rm) {x : Int32} {off : Int} {tgt : Nat} (hd : decode cc pc = .ok (.ifCond .ge off, 3)) (ht : (pc : Int) + off = (tgt : Int)) (q : 0 ≤ x) (K1 : sx_G d κ nL k n tgt lv st ws) : sx_G d κ nL k n pc lv (.int x :: st) ws := by
  obtain ⟨⟨p, l, e, R, s, m, args, below, meth, c⟩, A, Q⟩ := κ
  obtain ⟨hx, hb, hml, hown, hts, hKK, hA, hR⟩ := X
  exact fun H locs ls hP hD hS hl => lv_if_ge hx hb hd ht (fun _ => K1 H locs ls hP hD hS hl) (fun z => absurd q z)
theorem g_if_ge_f (X : sx_X d κ cc nL own rm) {x : Int32} {off : Int} {tgt : Nat} (hd : decode cc pc = .ok (.ifCond .ge off, 3)) (ht : (pc : Int) + off = (tgt : Int)) (hp : pc + 3 = pc') (q : ¬ (0 ≤ x)) (K2 : sx_G d κ nL k n pc' lv st ws) : sx_G d κ nL k n pc lv (.int x :: st) ws := by
  obtain ⟨⟨p, l, e, R, s, m, args, below, meth, c⟩, A, Q⟩ := κ
  obtain ⟨hx, hb, hml, hown, hts, hKK, hA, hR⟩ := X
  subst hp
  exact fun H locs ls hP hD hS hl => lv_if_ge hx hb hd ht (fun z => absurd z q) (fun _ => K2 H locs ls hP hD hS hl)
theorem g_icmp_ge (X : sx_X d κ cc nL own rm) {x y : Int32} {off : Int} {tgt : Nat} {ρ : Type} {F1 F2 : Option ρ} {r : ρ} (hd : decode cc pc = .ok (.if_icmp .ge off, 3)) (ht : (pc : Int) + off = (tgt : Int)) (hp : pc + 3 = pc') (hf : (if y ≤ x then F1 else F2) = some r) (K1 : F1 = some r → sx_G d κ nL k n tgt lv st ws) (K2 : F2 = some r → sx_G d κ nL k n pc' lv st ws) : sx_G d κ nL k n pc lv (.int y :: .int x :: st) ws := by
  obtain ⟨⟨p, l, e, R, s, m, args, below, meth, c⟩, A, Q⟩ := κ
  obtain ⟨hx, hb, hml, hown, hts, hKK, hA, hR⟩ := X
  subst hp
  exact fun H locs ls hP hD hS hl => lv_icmp_ge hx hb hd ht (fun q => K1 (by rw [if_pos q] at hf; exact hf) H locs ls hP hD hS hl) (fun q => K2 (by rw [if_neg q] at hf; exact hf) H locs ls hP hD hS hl)
theorem g_icmp_ge_t (X : sx_X d κ cc nL own rm) {x y : Int32} {off : Int} {tgt : Nat} (hd : decode cc pc = .ok (.if_icmp .ge off, 3)) (ht : (pc : Int) + off = (tgt : Int)) (q : y ≤ x) (K1 : sx_G d κ nL k n tgt lv st ws) : sx_G d κ nL k n pc lv (.int y :: .int x :: st) ws := by
  obtain ⟨⟨p, l, e, R, s, m, args, below, meth, c⟩, A, Q⟩ := κ
  obtain ⟨hx, hb, hml, hown, hts, hKK, hA, hR⟩ := X
  exact fun H locs ls hP hD hS hl => lv_icmp_ge hx hb hd ht (fun _ => K1 H locs ls hP hD hS hl) (fun z => absurd q z)
theorem g_icmp_ge_f (X : sx_X d κ cc nL own rm) {x y : Int32} {off : Int} {tgt : Nat} (hd : decode cc pc = .ok (.if_icmp .ge off, 3)) (ht : (pc : Int) + off = (tgt : Int)) (hp : pc + 3 = pc') (q : ¬ (y ≤ x)) (K2 : sx_G d κ nL k n pc' lv st ws) : sx_G d κ nL k n pc lv (.int y :: .int x :: st) ws := by
  obtain ⟨⟨p, l, e, R, s, m, args, below, meth, c⟩, A, Q⟩ := κ
  obtain ⟨hx, hb, hml, hown, hts, hKK, hA, hR⟩ := X
  subst hp
  exact fun H locs ls hP hD hS hl => lv_icmp_ge hx hb hd ht (fun z => absurd z q) (fun _ => K2 H locs ls hP hD hS hl)
theorem g_if_gt (X : sx_X d κ cc nL own rm) {x : Int32} {off : Int} {tgt : Nat} {ρ : Type} {F1 F2 : Option ρ} {r : ρ} (hd : decode cc pc = .ok (.ifCond .gt off, 3)) (ht : (pc : Int) + off = (tgt : Int)) (hp : pc + 3 = pc') (hf : (if 0 < x then F1 else F2) = some r) (K1 : F1 = some r → sx_G d κ nL k n tgt lv st ws) (K2 : F2 = some r → sx_G d κ nL k n pc' lv st ws) : sx_G d κ nL k n pc lv (.int x :: st) ws := by
  obtain ⟨⟨p, l, e, R, s, m, args, below, meth, c⟩, A, Q⟩ := κ
  obtain ⟨hx, hb, hml, hown, hts, hKK, hA, hR⟩ := X
  subst hp
  exact fun H locs ls hP hD hS hl => lv_if_gt hx hb hd ht (fun q => K1 (by rw [if_pos q] at hf; exact hf) H locs ls hP hD hS hl) (fun q => K2 (by rw [if_neg q] at hf; exact hf) H locs ls hP hD hS hl)
theorem g_if_gt_t (X : sx_X d κ cc nL own rm) {x : Int32} {off : Int} {tgt : Nat} (hd : decode cc pc = .ok (.ifCond .gt off, 3)) (ht : (pc : Int) + off = (tgt : Int)) (q : 0 < x) (K1 : sx_G d κ nL k n tgt lv st ws) : sx_G d κ nL k n pc lv (.int x :: st) ws := by
  obtain ⟨⟨p, l, e, R, s, m, args, below, meth, c⟩, A, Q⟩ := κ
  obtain ⟨hx, hb, hml, hown, hts, hKK, hA, hR⟩ := X
  exact fun H locs ls hP hD hS hl => lv_if_gt hx hb hd ht (fun _ => K1 H locs ls hP hD hS hl) (fun z => absurd q z)
theorem g_if_gt_f (X : sx_X d κ cc nL own rm) {x : Int32} {off : Int} {tgt : Nat} (hd : decode cc pc = .ok (.ifCond .gt off, 3)) (ht : (pc : Int) + off = (tgt : Int)) (hp : pc + 3 = pc') (q : ¬ (0 < x)) (K2 : sx_G d κ nL k n pc' lv st ws) : sx_G d κ nL k n pc lv (.int x :: st) ws := by
  obtain ⟨⟨p, l, e, R, s, m, args, below, meth, c⟩, A, Q⟩ := κ
  obtain ⟨hx, hb, hml, hown, hts, hKK, hA, hR⟩ := X
  subst hp
  exact fun H locs ls hP hD hS hl => lv_if_gt hx hb hd ht (fun z => absurd z q) (fun _ => K2 H locs ls hP hD hS hl)
theorem g_icmp_gt (X : sx_X d κ cc nL own rm) {x y : Int32} {off : Int} {tgt : Nat} {ρ : Type} {F1 F2 : Option ρ} {r : ρ} (hd : decode cc pc = .ok (.if_icmp .gt off, 3)) (ht : (pc : Int) + off = (tgt : Int)) (hp : pc + 3 = pc') (hf : (if y < x then F1 else F2) = some r) (K1 : F1 = some r → sx_G d κ nL k n tgt lv st ws) (K2 : F2 = some r → sx_G d κ nL k n pc' lv st ws) : sx_G d κ nL k n pc lv (.int y :: .int x :: st) ws := by
  obtain ⟨⟨p, l, e, R, s, m, args, below, meth, c⟩, A, Q⟩ := κ
  obtain ⟨hx, hb, hml, hown, hts, hKK, hA, hR⟩ := X
  subst hp
  exact fun H locs ls hP hD hS hl => lv_icmp_gt hx hb hd ht (fun q => K1 (by rw [if_pos q] at hf; exact hf) H locs ls hP hD hS hl) (fun q => K2 (by rw [if_neg q] at hf; exact hf) H locs ls hP hD hS hl)
theorem g_icmp_gt_t (X : sx_X d κ cc nL own rm) {x y : Int32} {off : Int} {tgt : Nat} (hd : decode cc pc = .ok (.if_icmp .gt off, 3)) (ht : (pc : Int) + off = (tgt : Int)) (q : y < x) (K1 : sx_G d κ nL k n tgt lv st ws) : sx_G d κ nL k n pc lv (.int y :: .int x :: st) ws := by
  obtain ⟨⟨p, l, e, R, s, m, args, below, meth, c⟩, A, Q⟩ := κ
  obtain ⟨hx, hb, hml, hown, hts, hKK, hA, hR⟩ := X
  exact fun H locs ls hP hD hS hl => lv_icmp_gt hx hb hd ht (fun _ => K1 H locs ls hP hD hS hl) (fun z => absurd q z)
theorem g_icmp_gt_f (X : sx_X d κ cc nL own rm) {x y : Int32} {off : Int} {tgt : Nat} (hd : decode cc pc = .ok (.if_icmp .gt off, 3)) (ht : (pc : Int) + off = (tgt : Int)) (hp : pc + 3 = pc') (q : ¬ (y < x)) (K2 : sx_G d κ nL k n pc' lv st ws) : sx_G d κ nL k n pc lv (.int y :: .int x :: st) ws := by
  obtain ⟨⟨p, l, e, R, s, m, args, below, meth, c⟩, A, Q⟩ := κ
  obtain ⟨hx, hb, hml, hown, hts, hKK, hA, hR⟩ := X
  subst hp
  exact fun H locs ls hP hD hS hl => lv_icmp_gt hx hb hd ht (fun z => absurd z q) (fun _ => K2 H locs ls hP hD hS hl)
theorem g_if_le (X : sx_X d κ cc nL own rm) {x : Int32} {off : Int} {tgt : Nat} {ρ : Type} {F1 F2 : Option ρ} {r : ρ} (hd : decode cc pc = .ok (.ifCond .le off, 3)) (ht : (pc : Int) + off = (tgt : Int)) (hp : pc + 3 = pc') (hf : (if x ≤ 0 then F1 else F2) = some r) (K1 : F1 = some r → sx_G d κ nL k n tgt lv st ws) (K2 : F2 = some r → sx_G d κ nL k n pc' lv st ws) : sx_G d κ nL k n pc lv (.int x :: st) ws := by
  obtain ⟨⟨p, l, e, R, s, m, args, below, meth, c⟩, A, Q⟩ := κ
  obtain ⟨hx, hb, hml, hown, hts, hKK, hA, hR⟩ := X
  subst hp
  exact fun H locs ls hP hD hS hl => lv_if_le hx hb hd ht (fun q => K1 (by rw [if_pos q] at hf; exact hf) H locs ls hP hD hS hl) (fun q => K2 (by rw [if_neg q] at hf; exact hf) H locs ls hP hD hS hl)
theorem g_if_le_t (X : sx_X d κ cc nL own rm) {x : Int32} {off : Int} {tgt : Nat} (hd : decode cc pc = .ok (.ifCond .le off, 3)) (ht : (pc : Int) + off = (tgt : Int)) (q : x ≤ 0) (K1 : sx_G d κ nL k n tgt lv st ws) : sx_G d κ nL k n pc lv (.int x :: st) ws := by
  obtain ⟨⟨p, l, e, R, s, m, args, below, meth, c⟩, A, Q⟩ := κ
  obtain ⟨hx, hb, hml, hown, hts, hKK, hA, hR⟩ := X
  exact fun H locs ls hP hD hS hl => lv_if_le hx hb hd ht (fun _ => K1 H locs ls hP hD hS hl) (fun z => absurd q z)
theorem g_if_le_f (X : sx_X d κ cc nL own rm) {x : Int32} {off : Int} {tgt : Nat} (hd : decode cc pc = .ok (.ifCond .le off, 3)) (ht : (pc : Int) + off = (tgt : Int)) (hp : pc + 3 = pc') (q : ¬ (x ≤ 0)) (K2 : sx_G d κ nL k n pc' lv st ws) : sx_G d κ nL k n pc lv (.int x :: st) ws := by
  obtain ⟨⟨p, l, e, R, s, m, args, below, meth, c⟩, A, Q⟩ := κ
  obtain ⟨hx, hb, hml, hown, hts, hKK, hA, hR⟩ := X
  subst hp
  exact fun H locs ls hP hD hS hl => lv_if_le hx hb hd ht (fun z => absurd z q) (fun _ => K2 H locs ls hP hD hS hl)
theorem g_icmp_le (X : sx_X d κ cc nL own rm) {x y : Int32} {off : Int} {tgt : Nat} {ρ : Type} {F1 F2 : Option ρ} {r : ρ} (hd : decode cc pc = .ok (.if_icmp .le off, 3)) (ht : (pc : Int) + off = (tgt : Int)) (hp : pc + 3 = pc') (hf : (if x ≤ y then F1 else F2) = some r) (K1 : F1 = some r → sx_G d κ nL k n tgt lv st ws) (K2 : F2 = some r → sx_G d κ nL k n pc' lv st ws) : sx_G d κ nL k n pc lv (.int y :: .int x :: st) ws := by
  obtain ⟨⟨p, l, e, R, s, m, args, below, meth, c⟩, A, Q⟩ := κ
  obtain ⟨hx, hb, hml, hown, hts, hKK, hA, hR⟩ := X
  subst hp
  exact fun H locs ls hP hD hS hl => lv_icmp_le hx hb hd ht (fun q => K1 (by rw [if_pos q] at hf; exact hf) H locs ls hP hD hS hl) (fun q => K2 (by rw [if_neg q] at hf; exact hf) H locs ls hP hD hS hl)
theorem g_icmp_le_t (X : sx_X d κ cc nL own rm) {x y : Int32} {off : Int} {tgt : Nat} (hd : decode cc pc = .ok (.if_icmp .le off, 3)) (ht : (pc : Int) + off = (tgt : Int)) (q : x ≤ y) (K1 : sx_G d κ nL k n tgt lv st ws) : sx_G d κ nL k n pc lv (.int y :: .int x :: st) ws := by
  obtain ⟨⟨p, l, e, R, s, m, args, below, meth, c⟩, A, Q⟩ := κ
  obtain ⟨hx, hb, hml, hown, hts, hKK, hA, hR⟩ := X
  exact fun H locs ls hP hD hS hl => lv_icmp_le hx hb hd ht (fun _ => K1 H locs ls hP hD hS hl) (fun z => absurd q z)
theorem g_icmp_le_f (X : sx_X d κ cc nL own rm) {x y : Int32} {off : Int} {tgt : Nat} (hd : decode cc pc = .ok (.if_icmp .le off, 3)) (ht : (pc : Int) + off = (tgt : Int)) (hp : pc + 3 = pc') (q : ¬ (x ≤ y)) (K2 : sx_G d κ nL k n pc' lv st ws) : sx_G d κ nL k n pc lv (.int y :: .int x :: st) ws := by
  obtain ⟨⟨p, l, e, R, s, m, args, below, meth, c⟩, A, Q⟩ := κ
  obtain ⟨hx, hb, hml, hown, hts, hKK, hA, hR⟩ := X
  subst hp
  exact fun H locs ls hP hD hS hl => lv_icmp_le hx hb hd ht (fun z => absurd z q) (fun _ => K2 H locs ls hP hD hS hl)
theorem g_goto (X : sx_X d κ cc nL own rm) {off : Int} {tgt : Nat} (hd : decode cc pc = .ok (.goto off, 3)) (ht : (pc : Int) + off = (tgt : Int)) (K : sx_G d κ nL k n tgt lv st ws) : sx_G d κ nL k n pc lv st ws := by
  obtain ⟨⟨p, l, e, R, s, m, args, below, meth, c⟩, A, Q⟩ := κ
  obtain ⟨hx, hb, hml, hown, hts, hKK, hA, hR⟩ := X
  exact fun H locs ls hP hD hS hl => lv_goto hx hb hd ht (K H locs ls hP hD hS hl)
theorem g_ifnull (X : sx_X d κ cc nL own rm) {x : Nat} {off : Int} (hd : decode cc pc = .ok (.ifnull off, 3)) (hp : pc + 3 = pc') (K : sx_G d κ nL k n pc' lv st ws) : sx_G d κ nL k n pc lv (.ref x :: st) ws := by
  obtain ⟨⟨p, l, e, R, s, m, args, below, meth, c⟩, A, Q⟩ := κ
  obtain ⟨hx, hb, hml, hown, hts, hKK, hA, hR⟩ := X
  subst hp
  exact fun H locs ls hP hD hS hl => lv_ifnull hx hb hd (K H locs ls hP hD hS hl)
theorem g_tabIn (X : sx_X d κ cc nL own rm) {dflt lo hi : Int} {offs : Array Int} {len : Nat} {x : Int32} {off : Int} {tgt : Nat} (hd : decode cc pc = .ok (.tableswitch dflt lo hi offs, len)) (h1 : ¬ x.toInt < lo) (h2 : ¬ hi < x.toInt) (ho : offs[(x.toInt - lo).toNat]? = some off) (ht : (pc : Int) + off = (tgt : Int)) (K : sx_G d κ nL k n tgt lv st ws) : sx_G d κ nL k n pc lv (.int x :: st) ws := by
  obtain ⟨⟨p, l, e, R, s, m, args, below, meth, c⟩, A, Q⟩ := κ
  obtain ⟨hx, hb, hml, hown, hts, hKK, hA, hR⟩ := X
  exact fun H locs ls hP hD hS hl => lv_tableIn hx hb hd h1 h2 ho ht (K H locs ls hP hD hS hl)
theorem g_tabOut (X : sx_X d κ cc nL own rm) {dflt lo hi : Int} {offs : Array Int} {len : Nat} {x : Int32} {tgt : Nat} (hd : decode cc pc = .ok (.tableswitch dflt lo hi offs, len)) (h : x.toInt < lo ∨ hi < x.toInt) (ht : (pc : Int) + dflt = (tgt : Int)) (K : sx_G d κ nL k n tgt lv st ws) : sx_G d κ nL k n pc lv (.int x :: st) ws := by
  obtain ⟨⟨p, l, e, R, s, m, args, below, meth, c⟩, A, Q⟩ := κ
  obtain ⟨hx, hb, hml, hown, hts, hKK, hA, hR⟩ := X
  exact fun H locs ls hP hD hS hl => lv_tableOut hx hb hd h ht (K H locs ls hP hD hS hl)
/-- a field's link: by the tables, or as a nest mate's -/
def sx_fl (own ref : String) (index : Nat) (C : String) (T : u_T) (N ci j : Nat) : Prop := vwCl[ci]? = some (C, T, N) ∧ j < N ∧ (∀ w ∈ u_ws C T N, w ∈ sx_gw) ∧ (T j).1 = ref ∧ (Cond.fieldLink own index ref (T j).2.1 (T j).2.2.1 ∈ sx_gw ∨ ∃ host, Cond.fieldLinkNest own index ref (T j).2.1 (T j).2.2.1 host ∈ lw_tbl)
theorem g_get (X : sx_X d κ cc nL own rm) {ref C : String} {T : u_T} {N ci j index a : Nat} {v : Value} {fs : List Value} (fl : sx_fl own ref index C T N ci j) (hd : decode cc pc = .ok (.getfield index, 3)) (hp : pc + 3 = pc') (q0 : Nat) (he : ws[q0]? = some (a, .inr (ci, fs))) (hv : fs[j]? = some v) (K : sx_G d κ nL k n pc' lv (v :: st) ws) : sx_G d κ nL k n pc lv (.ref a :: st) ws := by
  obtain ⟨⟨p, l, e, R, s, m, args, below, meth, c⟩, A, Q⟩ := κ
  obtain ⟨hx, hb, hml, hown, hts, hKK, hA, hR⟩ := X
  subst hp
  obtain ⟨hc, hk, hin, rfl, hln⟩ := fl
  intro H locs ls hP hD hS hl
  rcases hln with hln | ⟨host, hln⟩
  · exact va_get hx hb hts hin hown hKK.1 hP q0 he hc j hk (hts _ hln) (fun _ h9 => h9) hv hd (K H locs ls hP hD hS hl)
  · exact va_getN hx hb hts hin hown hKK.1 hP q0 he hc j hk (va_Nw.use rfl (hKK.2 _ hln rfl)) (fun _ h9 => h9) hv hd (K H locs ls hP hD hS hl)
/-- what a store wants of a field's table -/
def sx_fw (T : u_T) (N : Nat) (ty0 : Nat → FieldType) : Prop := (∀ k, k < N → parseFieldDescriptor (T k).2.2.1 = some (ty0 k)) ∧ (∀ a, a < N → ∀ b, b < N → a ≠ b → (T a).2.1 ≠ (T b).2.1)
theorem g_put (X : sx_X d κ cc nL own rm) {ref C : String} {T : u_T} {N ci j index a : Nat} {v : Value} {fs : List Value} {w2 : va_W} {ty0 : Nat → FieldType} (fl : sx_fl own ref index C T N ci j) (fw : sx_fw T N ty0) (hfin : (T j).2.2.2 = false) (hd : decode cc pc = .ok (.putfield index, 3)) (hp : pc + 3 = pc') (q0 : Nat) (he : ws[q0]? = some (a, .inr (ci, fs))) (hn : narrow (ty0 j) v = v) (hfit : fits (ty0 j) v = true) (hl0 : j < fs.length) (hw : ws.set q0 (a, .inr (ci, fs.set j v)) = w2) (K : sx_G d κ nL k n pc' lv st w2) : sx_G d κ nL k n pc lv (v :: .ref a :: st) ws := by
  obtain ⟨⟨p, l, e, R, s, m, args, below, meth, c⟩, A, Q⟩ := κ
  obtain ⟨hx, hb, hml, hown, hts, hKK, hA, hR⟩ := X
  subst hp
  subst hw
  obtain ⟨hc, hk, hin, rfl, hln⟩ := fl
  intro H locs ls hP hD hS hl
  rcases hln with hln | ⟨host, hln⟩
  · exact va_put hx hb hts hin ty0 fw.1 fw.2 hown hKK.1 hP hD hS q0 he hc j hk (hts _ hln) (fun _ h9 => h9) hfin (fw.1 j hk) hn hfit hl0 hd (fun H locs hP hD hS => K H locs ls hP hD hS hl)
  · exact va_putN hx hb hts hin ty0 fw.1 fw.2 hown hKK.1 hP hD hS q0 he hc j hk (va_Nw.use rfl (hKK.2 _ hln rfl)) (fun _ h9 => h9) hfin (fw.1 j hk) hn hfit hl0 hd (fun H locs hP hD hS => K H locs ls hP hD hS hl)
theorem g_iald (X : sx_X d κ cc nL own rm) {a N : Nat} {f : Nat → Int32} {i : Int32} {ρ : Type} {F : Int32 → Option ρ} {r : ρ} (hd : decode cc pc = .ok (.iaload, 1)) (hp : pc + 1 = pc') (q0 : Nat) (ha : ws[q0]? = some (a, .inl (d.2.1, N, .inl f))) (hf : sx_rd f N i F = some r) (K : ∀ v : Int32, F v = some r → sx_G d κ nL k n pc' lv (.int v :: st) ws) : sx_G d κ nL k n pc lv (.int i :: .ref a :: st) ws := by
  obtain ⟨⟨p, l, e, R, s, m, args, below, meth, c⟩, A, Q⟩ := κ
  obtain ⟨hx, hb, hml, hown, hts, hKK, hA, hR⟩ := X
  subst hp
  unfold sx_rd at hf
  intro H locs ls hP hD hS hl
  by_cases h : i < 0 ∨ N ≤ i.toNatClampNeg
  · rw [if_pos h] at hf; cases hf
  · rw [if_neg h] at hf
    exact va_iald hx hb hKK.1 hP q0 0 ha rfl h hd (K _ hf H locs ls hP hD hS hl)
theorem g_cald (X : sx_X d κ cc nL own rm) {a N : Nat} {f : Nat → Int32} {i : Int32} {ρ : Type} {F : Int32 → Option ρ} {r : ρ} (hd : decode cc pc = .ok (.caload, 1)) (hp : pc + 1 = pc') (q0 : Nat) (ha : ws[q0]? = some (a, .inl (d.2.2, N, .inl f))) (hf : sx_rd f N i F = some r) (K : ∀ v : Int32, F v = some r → sx_G d κ nL k n pc' lv (.int v :: st) ws) : sx_G d κ nL k n pc lv (.int i :: .ref a :: st) ws := by
  obtain ⟨⟨p, l, e, R, s, m, args, below, meth, c⟩, A, Q⟩ := κ
  obtain ⟨hx, hb, hml, hown, hts, hKK, hA, hR⟩ := X
  subst hp
  unfold sx_rd at hf
  intro H locs ls hP hD hS hl
  by_cases h : i < 0 ∨ N ≤ i.toNatClampNeg
  · rw [if_pos h] at hf; cases hf
  · rw [if_neg h] at hf
    exact va_cald hx hb hKK.1 hP q0 1 ha rfl h hd (K _ hf H locs ls hP hD hS hl)
theorem g_iast (X : sx_X d κ cc nL own rm) {a N : Nat} {f : Nat → Int32} {i x : Int32} {ρ : Type} {F : (Nat → Int32) → Option ρ} {r : ρ} {w2 : (Nat → Int32) → va_W} (hd : decode cc pc = .ok (.iastore, 1)) (hp : pc + 1 = pc') (q0 : Nat) (ha : ws[q0]? = some (a, .inl (d.2.1, N, .inl f))) (hf : sx_wr f N i x F = some r) (hw : ∀ g : Nat → Int32, ws.set q0 (a, .inl (d.2.1, N, .inl g)) = w2 g) (K : ∀ g : Nat → Int32, F g = some r → sx_G d κ nL k n pc' lv st (w2 g)) : sx_G d κ nL k n pc lv (.int x :: .int i :: .ref a :: st) ws := by
  obtain ⟨⟨p, l, e, R, s, m, args, below, meth, c⟩, A, Q⟩ := κ
  obtain ⟨hx, hb, hml, hown, hts, hKK, hA, hR⟩ := X
  subst hp
  unfold sx_wr at hf
  intro H locs ls hP hD hS hl
  by_cases h : i < 0 ∨ N ≤ i.toNatClampNeg
  · rw [if_pos h] at hf; cases hf
  · rw [if_neg h] at hf
    refine va_iast hx hb hKK.1 hP hD hS q0 0 ha rfl h hd (fun H locs hP hD hS => ?_)
    rw [hw] at hP hD
    exact K _ hf H locs ls hP hD hS hl
theorem g_cast (X : sx_X d κ cc nL own rm) {a N : Nat} {f : Nat → Int32} {i x : Int32} {ρ : Type} {F : (Nat → Int32) → Option ρ} {r : ρ} {w2 : (Nat → Int32) → va_W} (hd : decode cc pc = .ok (.castore, 1)) (hp : pc + 1 = pc') (q0 : Nat) (ha : ws[q0]? = some (a, .inl (d.2.2, N, .inl f))) (hf : sx_wr f N i (vp_nar .char x) F = some r) (hw : ∀ g : Nat → Int32, ws.set q0 (a, .inl (d.2.2, N, .inl g)) = w2 g) (K : ∀ g : Nat → Int32, F g = some r → sx_G d κ nL k n pc' lv st (w2 g)) : sx_G d κ nL k n pc lv (.int x :: .int i :: .ref a :: st) ws := by
  obtain ⟨⟨p, l, e, R, s, m, args, below, meth, c⟩, A, Q⟩ := κ
  obtain ⟨hx, hb, hml, hown, hts, hKK, hA, hR⟩ := X
  subst hp
  unfold sx_wr at hf
  intro H locs ls hP hD hS hl
  by_cases h : i < 0 ∨ N ≤ i.toNatClampNeg
  · rw [if_pos h] at hf; cases hf
  · rw [if_neg h] at hf
    refine va_cast hx hb hKK.1 hP hD hS q0 1 ha rfl h hd (fun H locs hP hD hS => ?_)
    rw [hw] at hP hD
    exact K _ hf H locs ls hP hD hS hl
theorem g_alen (X : sx_X d κ cc nL own rm) {a N : Nat} {f : Nat → Int32} (hd : decode cc pc = .ok (.arraylength, 1)) (hp : pc + 1 = pc') (q0 : Nat) (ha : ws[q0]? = some (a, .inl (d.2.1, N, .inl f))) (K : sx_G d κ nL k n pc' lv (.int (Int32.ofNat N) :: st) ws) : sx_G d κ nL k n pc lv (.ref a :: st) ws := by
  obtain ⟨⟨p, l, e, R, s, m, args, below, meth, c⟩, A, Q⟩ := κ
  obtain ⟨hx, hb, hml, hown, hts, hKK, hA, hR⟩ := X
  subst hp
  exact fun H locs ls hP hD hS hl => va_alen hx hb hKK.1 hP q0 0 ha (ty := .int) rfl rfl hd (K H locs ls hP hD hS hl)
/-- arraycopy among int arrays; Math.max, Math.min -/
def sx_nv (own : String) (index : Nat) : Prop := Cond.methodLink own index arraycopyName ∈ sx_gw ∧ Cond.native arraycopyName ∈ sx_gw ∧ Cond.static arraycopyName ∈ sx_gw ∧ Cond.initialized "java/lang/System" ∈ sx_gw
theorem g_copy (X : sx_X d κ cc nL own rm) {index a a0 n0 n1 : Nat} {f g : Nat → Int32} {sp dp m0 : Int32} {ρ : Type} {F : (Nat → Int32) → Option ρ} {r : ρ} {w2 : (Nat → Int32) → va_W} (nv : sx_nv own index) (hd : decode cc pc = .ok (.invokestatic index, 3)) (hp : pc + 3 = pc') (q0 q1 : Nat) (ha0 : ws[q0]? = some (a0, .inl (d.2.1, n0, .inl f))) (ha1 : ws[q1]? = some (a, .inl (d.2.1, n1, .inl g))) (hrm : 1 ≤ rm.frames ∧ (st.map fun v => v.category).sum + (nativeFrameWords "java/lang/System" "arraycopy" 5 + 11) ≤ rm.locals) (hf : sx_cp f g n0 n1 sp dp m0 F = some r) (hw : ∀ h : Nat → Int32, ws.set q1 (a, .inl (d.2.1, n1, .inl h)) = w2 h) (K : ∀ h : Nat → Int32, F h = some r → sx_G d κ nL k n pc' lv st (w2 h)) : sx_G d κ nL k n pc lv (.int m0 :: .int dp :: .ref a :: .int sp :: .ref a0 :: st) ws := by
  obtain ⟨⟨p, l, e, R, s, m, args, below, meth, c⟩, A, Q⟩ := κ
  obtain ⟨hx, hb, hml, hown, hts, hKK, hA, hR⟩ := X
  subst hp
  subst hR
  obtain ⟨n1', n2, n3, n4⟩ := nv
  unfold sx_cp at hf
  intro H locs ls hP hD hS hl
  by_cases h : sp < 0 ∨ dp < 0 ∨ m0 < 0 ∨ n0 < sp.toNatClampNeg + m0.toNatClampNeg ∨ n1 < dp.toNatClampNeg + m0.toNatClampNeg
  · rw [if_pos h] at hf; cases hf
  · rw [if_neg h] at hf
    simp only [not_or, Nat.not_lt] at h
    obtain ⟨h1, h2, h3, h4, h5⟩ := h
    refine va_copyi hx hb (by rw [hml, hl.1]) hown (hts _ n1') (hts _ n2) (hts _ n3) (hts _ n4) hKK.1 hP hD hS q0 q1 0 0 (ty := .int) ha0 ha1 rfl rfl rfl h1 h2 h3 h4 h5 (fun _ _ => rfl) hrm.1 hrm.2 hd (fun H locs hP hD hS => ?_)
    rw [hw] at hP hD
    exact K _ hf H locs ls hP hD hS hl
def sx_mx (own : String) (index : Nat) : Prop := Cond.methodLink own index Lib.Math.max.name ∈ sx_gw ∧ Cond.static Lib.Math.max.name ∈ sx_gw ∧ Cond.initialized "java/lang/Math" ∈ sx_gw ∧ Cond.code Lib.Math.max.name Lib.Math.max.code 2 (some .int) ∈ sx_gw
def sx_mn (own : String) (index : Nat) : Prop := Cond.methodLink own index Lib.Math.min.name ∈ sx_gw ∧ Cond.static Lib.Math.min.name ∈ sx_gw ∧ Cond.initialized "java/lang/Math" ∈ sx_gw ∧ Cond.code Lib.Math.min.name Lib.Math.min.code 2 (some .int) ∈ sx_gw
theorem g_max (X : sx_X d κ cc nL own rm) {index : Nat} {x y : Int32} (nv : sx_mx own index) (hd : decode cc pc = .ok (.invokestatic index, 3)) (hp : pc + 3 = pc') (hrm : 1 ≤ rm.frames ∧ (st.map fun v => v.category).sum + 13 ≤ rm.locals ∧ k ≤ rm.cells ∧ n ≤ rm.slots) (K : sx_G d κ nL k n pc' lv (.int (if x < y then y else x) :: st) ws) : sx_G d κ nL k n pc lv (.int y :: .int x :: st) ws := by
  obtain ⟨⟨p, l, e, R, s, m, args, below, meth, c⟩, A, Q⟩ := κ
  obtain ⟨hx, hb, hml, hown, hts, hKK, hA, hR⟩ := X
  subst hp
  subst hR
  exact fun H locs ls hP hD hS hl => va_mmax hx hb (by rw [hml, hl.1]) hown (hts _ nv.1) (hts _ nv.2.1) (hts _ nv.2.2.1) (hts _ nv.2.2.2) hrm.1 hrm.2.1 hrm.2.2.1 hrm.2.2.2 hd (K H locs ls hP hD hS hl)
theorem g_min (X : sx_X d κ cc nL own rm) {index : Nat} {x y : Int32} (nv : sx_mn own index) (hd : decode cc pc = .ok (.invokestatic index, 3)) (hp : pc + 3 = pc') (hrm : 1 ≤ rm.frames ∧ (st.map fun v => v.category).sum + 13 ≤ rm.locals ∧ k ≤ rm.cells ∧ n ≤ rm.slots) (K : sx_G d κ nL k n pc' lv (.int (if y < x then y else x) :: st) ws) : sx_G d κ nL k n pc lv (.int y :: .int x :: st) ws := by
  obtain ⟨⟨p, l, e, R, s, m, args, below, meth, c⟩, A, Q⟩ := κ
  obtain ⟨hx, hb, hml, hown, hts, hKK, hA, hR⟩ := X
  subst hp
  subst hR
  exact fun H locs ls hP hD hS hl => va_mmin hx hb (by rw [hml, hl.1]) hown (hts _ nv.1) (hts _ nv.2.1) (hts _ nv.2.2.1) (hts _ nv.2.2.2) hrm.1 hrm.2.1 hrm.2.2.1 hrm.2.2.2 hd (K H locs ls hP hD hS hl)
end SX

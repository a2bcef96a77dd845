/-! THE WALK'S OWN JUDGEMENT: G X kc ks Wd lv pc st: from every heap that holds the world Wd, with locals lv, at pc, with stack st -/
abbrev XL : Type := Launch × va_G × ClassId × ClassId × ClassId
abbrev xTys (L : XL) : List (ClassId × FieldType) := [(L.2.2.1, .int), (L.2.2.2.1, .long), (L.2.2.2.2, .boolean)]
def xK (L : XL) (U : State) : Prop := va_K L.2.1 vwCl (xTys L) U ∧ va_Nw (.methodLinkNest RX0 25 yX5_isId RX5) U ∧ va_Nw (.methodLinkNest RX2 57 yX5_sizeOf RX5) U ∧ va_Nw (.methodLinkNest RX2 92 yX5_isId RX5) U ∧ va_Nw (.methodLinkNest RX5 9 yX1_init RX5) U ∧ va_Nw (.methodLinkNest RX5 35 yX4_init RX5) U ∧ va_Nw (.methodLinkNest RX5 42 yX3_init RX5) U
theorem xK_warm {L : XL} {s U : State} (h : s.WarmedH U.vm) (hK : xK L s) : xK L U := ⟨va_K.moved h.alike hK.1, va_Nw.warmM h hK.2.1, va_Nw.warmM h hK.2.2.1, va_Nw.warmM h hK.2.2.2.1, va_Nw.warmM h hK.2.2.2.2.1, va_Nw.warmM h hK.2.2.2.2.2.1, va_Nw.warmM h hK.2.2.2.2.2.2⟩
theorem xK_call {L : XL} {U : State} {g : JFrame} {mk : MethodId} {a : Array Value} (hK : xK L U) : xK L (U.calling g mk a) := ⟨va_K.moved (u := U) (U := U.calling g mk a) (Vm.Alike.refl U.vm) hK.1, va_Nw.same rfl rfl hK.2.1, va_Nw.same rfl rfl hK.2.2.1, va_Nw.same rfl rfl hK.2.2.2.1, va_Nw.same rfl rfl hK.2.2.2.2.1, va_Nw.same rfl rfl hK.2.2.2.2.2.1, va_Nw.same rfl rfl hK.2.2.2.2.2.2⟩
abbrev XC : Type := XL × Program × Env × Room × State × MethodId × Array Value × List Frame × Method × Code × (Nat → Prop) × Heap × Nat × (State → Prop)
def G (X : XC) (kc ks : Nat) (Wd : va_W) (lv : List (Nat × Value)) (pc : Nat) (st : List Value) : Prop := match X with
  | (L, p, e, R, s, m, args, below, meth, c, A, H0, nL, Q) => ∀ (H : Heap) (locs : List Loc) (ls : Array Slot), va_P L.2.1 vwCl Wd H → va_D A Wd → va_S A H0 H locs → lv_has ls nL lv → W p L.1 e R s m args below meth c H locs kc ks Q (F0 m pc ls st)
def Ok (X : XC) (cc : ByteArray) (Ts : List Cond) (own : String) (rm : Room) (nl : Nat) : Prop := match X with
  | (L, p, e, R, s, m, args, below, meth, c, A, H0, nL, Q) => p.tables.exec = Jvm.exec ∧ c.code = cc ∧ c.maxLocals = nL ∧ s.vm.findClass own = some m.cls ∧ (∀ w ∈ Ts, w.before args s = true) ∧ xK L s ∧ (∀ q : Nat, H0.size ≤ q → A q) ∧ R = rm ∧ nL = nl
def Os (X : XC) (b Ln : Nat) (xs : Nat → Int32) : Prop := match X with
  | (L, p, e, R, s, m, args, below, meth, c, A, H0, nL, Q) => va_X b Ln xs s H0 ∧ b < H0.size ∧ ¬ A b
def Oi (X : XC) : Prop := match X with
  | (L, p, e, R, s, m, args, below, meth, c, A, H0, nL, Q) => meth.name = "<init>"
def xPc (L : XL) (av : List Value) (Wd : va_W) (sz : Nat) : Array Value → State → Prop := va_Pc av (fun U => U.heap.size = sz ∧ va_P L.2.1 vwCl Wd U.heap ∧ xK L U ∧ va_D (fun _ => True) Wd)
def xQc (L : XL) (Wd : va_W) (res : Option Value) {S : Type} (Wp : S → va_W) (sz : Nat) : Array Value → State → Outcome → State → Prop := fun _ st oc t => (∃ u : S, oc = .returned res ∧ va_P L.2.1 vwCl (Wp u) t.heap ∧ va_D (va_A Wd sz) (Wp u)) ∧ va_F (va_A Wd sz) st t
/-- a method's contract: from the world Wd, with the arguments av, it answers res, and its world is then Wp u for some addresses u -/
def xM (L : XL) (y : MethodName) (ws : List Cond) (rm : Room) (av : List Value) (Wd : va_W) (mc ms : Nat) (res : Option Value) {S : Type} (Wp : S → va_W) : Prop :=
  ∀ sz : Nat, Met L.1 y ws rm (xPc L av Wd sz) (xQc L Wd res Wp sz) mc ms (va_A Wd sz)
theorem xPc_blind {L : XL} {av : List Value} {Wd : va_W} {sz : Nat} : FrameBlind (xPc L av Wd sz) := fun a U g mk q => by
  obtain ⟨q0, q1, qP, qK, qD⟩ := q
  exact ⟨q0, q1, qP, xK_call qK, qD⟩
theorem g_eq {X : XC} {kc ks : Nat} {Wd Wd2 : va_W} {lv : List (Nat × Value)} {pc : Nat} {st st2 : List Value} (h : Wd2 = Wd) (h2 : st2 = st) (k : G X kc ks Wd2 lv pc st2) : G X kc ks Wd lv pc st := by subst h; subst h2; exact k
/-- fewer locals, in another order -/
theorem g_lv {X : XC} {kc ks : Nat} {Wd : va_W} {lv lv' : List (Nat × Value)} {pc : Nat} {st : List Value} (is : List Nat) (h : lv_pick lv is = lv') (k : G X kc ks Wd lv' pc st) : G X kc ks Wd lv pc st := by
  obtain ⟨L, p, e, R, s, m, args, below, meth, c, A, H0, nL, Q⟩ := X
  intro H locs ls hP hD hS hl
  exact k H locs ls hP hD hS (lv_sub hl is h)
theorem g_widen {X : XC} {kc ks kc2 ks2 : Nat} {Wd : va_W} {lv : List (Nat × Value)} {pc : Nat} {st : List Value} (h1 : kc ≤ kc2) (h2 : ks ≤ ks2) (k : G X kc2 ks2 Wd lv pc st) : G X kc ks Wd lv pc st := by
  obtain ⟨L, p, e, R, s, m, args, below, meth, c, A, H0, nL, Q⟩ := X
  intro H locs ls hP hD hS hl
  exact W.widen h1 h2 (k H locs ls hP hD hS hl)
section GCALC
variable {X : XC} {cc : ByteArray} {Ts : List Cond} {own : String} {rm : Room} {nl : Nat} {kc ks : Nat} {Wd : va_W} {lv : List (Nat × Value)} {pc : Nat} {st : List Value} {β : Type} {r : β}
theorem g_iconst (C : Ok X cc Ts own rm nl) {n : Int} {v : Int32} (d : decode cc pc = .ok (.iconst n, 1)) (hv : Int32.ofInt n = v) (k : G X kc ks Wd lv (pc + 1) (.int v :: st)) : G X kc ks Wd lv pc st := by
  obtain ⟨L, p, e, R, s, m, args, below, meth, c, A, H0, nL, Q⟩ := X
  obtain ⟨hx, hb, hml, hown, hts, hKK, hA, hR, hnl⟩ := C
  intro H locs ls hP hD hS hl
  exact lv_iconst hx hb d hv (k H locs ls hP hD hS hl)
theorem g_bipush (C : Ok X cc Ts own rm nl) {n : Int} {v : Int32} (d : decode cc pc = .ok (.bipush n, 2)) (hv : (Int8.ofInt n).toInt32 = v) (k : G X kc ks Wd lv (pc + 2) (.int v :: st)) : G X kc ks Wd lv pc st := by
  obtain ⟨L, p, e, R, s, m, args, below, meth, c, A, H0, nL, Q⟩ := X
  obtain ⟨hx, hb, hml, hown, hts, hKK, hA, hR, hnl⟩ := C
  intro H locs ls hP hD hS hl
  exact lv_bipush hx hb d hv (k H locs ls hP hD hS hl)
theorem g_sipush (C : Ok X cc Ts own rm nl) {n : Int} {v : Int32} (d : decode cc pc = .ok (.sipush n, 3)) (hv : (Int16.ofInt n).toInt32 = v) (k : G X kc ks Wd lv (pc + 3) (.int v :: st)) : G X kc ks Wd lv pc st := by
  obtain ⟨L, p, e, R, s, m, args, below, meth, c, A, H0, nL, Q⟩ := X
  obtain ⟨hx, hb, hml, hown, hts, hKK, hA, hR, hnl⟩ := C
  intro H locs ls hP hD hS hl
  exact lv_sipush hx hb d hv (k H locs ls hP hD hS hl)
theorem g_lconst (C : Ok X cc Ts own rm nl) {n : Fin 2} {v : Int64} (d : decode cc pc = .ok (.lconst n, 1)) (hv : Int64.ofNat (n : Nat) = v) (k : G X kc ks Wd lv (pc + 1) (.long v :: st)) : G X kc ks Wd lv pc st := by
  obtain ⟨L, p, e, R, s, m, args, below, meth, c, A, H0, nL, Q⟩ := X
  obtain ⟨hx, hb, hml, hown, hts, hKK, hA, hR, hnl⟩ := C
  intro H locs ls hP hD hS hl
  exact lv_lconst hx hb d hv (k H locs ls hP hD hS hl)
theorem g_ldc (C : Ok X cc Ts own rm nl) {i : Nat} {v : Int32} (d : decode cc pc = .ok (.ldc i, 2)) (hw : Cond.constant own i v ∈ Ts) (k : G X kc ks Wd lv (pc + 2) (.int v :: st)) : G X kc ks Wd lv pc st := by
  obtain ⟨L, p, e, R, s, m, args, below, meth, c, A, H0, nL, Q⟩ := X
  obtain ⟨hx, hb, hml, hown, hts, hKK, hA, hR, hnl⟩ := C
  intro H locs ls hP hD hS hl
  exact lv_ldc hx hb hown (hts _ hw) d (k H locs ls hP hD hS hl)
theorem g_ldc2 (C : Ok X cc Ts own rm nl) {i : Nat} {v : Int64} (d : decode cc pc = .ok (.ldc2_w i, 3)) (hw : Cond.constantLong own i v ∈ Ts) (k : G X kc ks Wd lv (pc + 3) (.long v :: st)) : G X kc ks Wd lv pc st := by
  obtain ⟨L, p, e, R, s, m, args, below, meth, c, A, H0, nL, Q⟩ := X
  obtain ⟨hx, hb, hml, hown, hts, hKK, hA, hR, hnl⟩ := C
  intro H locs ls hP hD hS hl
  exact lv_ldc2 hx hb hown (hts _ hw) d (k H locs ls hP hD hS hl)
theorem g_iload_n (C : Ok X cc Ts own rm nl) {k : Fin 4} {i : Nat} {x : Int32} (d : decode cc pc = .ok (.iload_n k, 1)) (hi : (k : Nat) = i) (pl : Nat) (hl0 : lv[pl]? = some (i, .int x)) (kk : G X kc ks Wd lv (pc + 1) (.int x :: st)) : G X kc ks Wd lv pc st := by
  obtain ⟨L, p, e, R, s, m, args, below, meth, c, A, H0, nL, Q⟩ := X
  obtain ⟨hx, hb, hml, hown, hts, hKK, hA, hR, hnl⟩ := C
  intro H locs ls hP hD hS hl
  exact lv_iload_n hx hb d hi (lv_at hl pl hl0) (kk H locs ls hP hD hS hl)
theorem g_iload (C : Ok X cc Ts own rm nl) {i : Nat} {x : Int32} (d : decode cc pc = .ok (.iload i, 2)) (pl : Nat) (hl0 : lv[pl]? = some (i, .int x)) (kk : G X kc ks Wd lv (pc + 2) (.int x :: st)) : G X kc ks Wd lv pc st := by
  obtain ⟨L, p, e, R, s, m, args, below, meth, c, A, H0, nL, Q⟩ := X
  obtain ⟨hx, hb, hml, hown, hts, hKK, hA, hR, hnl⟩ := C
  intro H locs ls hP hD hS hl
  exact lv_iload hx hb d (lv_at hl pl hl0) (kk H locs ls hP hD hS hl)
theorem g_lload_n (C : Ok X cc Ts own rm nl) {k : Fin 4} {i : Nat} {x : Int64} (d : decode cc pc = .ok (.lload_n k, 1)) (hi : (k : Nat) = i) (pl : Nat) (hl0 : lv[pl]? = some (i, .long x)) (kk : G X kc ks Wd lv (pc + 1) (.long x :: st)) : G X kc ks Wd lv pc st := by
  obtain ⟨L, p, e, R, s, m, args, below, meth, c, A, H0, nL, Q⟩ := X
  obtain ⟨hx, hb, hml, hown, hts, hKK, hA, hR, hnl⟩ := C
  intro H locs ls hP hD hS hl
  exact lv_lload_n hx hb d hi (lv_at hl pl hl0) (kk H locs ls hP hD hS hl)
theorem g_lload (C : Ok X cc Ts own rm nl) {i : Nat} {x : Int64} (d : decode cc pc = .ok (.lload i, 2)) (pl : Nat) (hl0 : lv[pl]? = some (i, .long x)) (kk : G X kc ks Wd lv (pc + 2) (.long x :: st)) : G X kc ks Wd lv pc st := by
  obtain ⟨L, p, e, R, s, m, args, below, meth, c, A, H0, nL, Q⟩ := X
  obtain ⟨hx, hb, hml, hown, hts, hKK, hA, hR, hnl⟩ := C
  intro H locs ls hP hD hS hl
  exact lv_lload hx hb d (lv_at hl pl hl0) (kk H locs ls hP hD hS hl)
theorem g_aload_n (C : Ok X cc Ts own rm nl) {k : Fin 4} {i : Nat} {x : Nat} (d : decode cc pc = .ok (.aload_n k, 1)) (hi : (k : Nat) = i) (pl : Nat) (hl0 : lv[pl]? = some (i, .ref x)) (kk : G X kc ks Wd lv (pc + 1) (.ref x :: st)) : G X kc ks Wd lv pc st := by
  obtain ⟨L, p, e, R, s, m, args, below, meth, c, A, H0, nL, Q⟩ := X
  obtain ⟨hx, hb, hml, hown, hts, hKK, hA, hR, hnl⟩ := C
  intro H locs ls hP hD hS hl
  exact lv_aload_n hx hb d hi (lv_at hl pl hl0) (kk H locs ls hP hD hS hl)
theorem g_aload (C : Ok X cc Ts own rm nl) {i : Nat} {x : Nat} (d : decode cc pc = .ok (.aload i, 2)) (pl : Nat) (hl0 : lv[pl]? = some (i, .ref x)) (kk : G X kc ks Wd lv (pc + 2) (.ref x :: st)) : G X kc ks Wd lv pc st := by
  obtain ⟨L, p, e, R, s, m, args, below, meth, c, A, H0, nL, Q⟩ := X
  obtain ⟨hx, hb, hml, hown, hts, hKK, hA, hR, hnl⟩ := C
  intro H locs ls hP hD hS hl
  exact lv_aload hx hb d (lv_at hl pl hl0) (kk H locs ls hP hD hS hl)
theorem g_istore_n (C : Ok X cc Ts own rm nl) {k : Fin 4} {i : Nat} {x : Int32} {lv2 : List (Nat × Value)} (d : decode cc pc = .ok (.istore_n k, 1)) (hi : (k : Nat) = i) (hn : i < nl) (hl2 : (i, Value.int x) :: lv.filter (fun q => !(q.1 == i) && !(q.1 + 1 == i && q.2.category == 2)) = lv2) (kk : G X kc ks Wd lv2 (pc + 1) st) : G X kc ks Wd lv pc (.int x :: st) := by
  obtain ⟨L, p, e, R, s, m, args, below, meth, c, A, H0, nL, Q⟩ := X
  obtain ⟨hx, hb, hml, hown, hts, hKK, hA, hR, hnl⟩ := C
  intro H locs ls hP hD hS hl
  subst hnl
  exact lv_istore_n hx hb d hi hl hn hl2 (fun ls hl => kk H locs ls hP hD hS hl)
theorem g_istore (C : Ok X cc Ts own rm nl) {i : Nat} {x : Int32} {lv2 : List (Nat × Value)} (d : decode cc pc = .ok (.istore i, 2)) (hn : i < nl) (hl2 : (i, Value.int x) :: lv.filter (fun q => !(q.1 == i) && !(q.1 + 1 == i && q.2.category == 2)) = lv2) (kk : G X kc ks Wd lv2 (pc + 2) st) : G X kc ks Wd lv pc (.int x :: st) := by
  obtain ⟨L, p, e, R, s, m, args, below, meth, c, A, H0, nL, Q⟩ := X
  obtain ⟨hx, hb, hml, hown, hts, hKK, hA, hR, hnl⟩ := C
  intro H locs ls hP hD hS hl
  subst hnl
  exact lv_istore hx hb d hl hn hl2 (fun ls hl => kk H locs ls hP hD hS hl)
theorem g_astore_n (C : Ok X cc Ts own rm nl) {k : Fin 4} {i : Nat} {x : Nat} {lv2 : List (Nat × Value)} (d : decode cc pc = .ok (.astore_n k, 1)) (hi : (k : Nat) = i) (hn : i < nl) (hl2 : (i, Value.ref x) :: lv.filter (fun q => !(q.1 == i) && !(q.1 + 1 == i && q.2.category == 2)) = lv2) (kk : G X kc ks Wd lv2 (pc + 1) st) : G X kc ks Wd lv pc (.ref x :: st) := by
  obtain ⟨L, p, e, R, s, m, args, below, meth, c, A, H0, nL, Q⟩ := X
  obtain ⟨hx, hb, hml, hown, hts, hKK, hA, hR, hnl⟩ := C
  intro H locs ls hP hD hS hl
  subst hnl
  exact lv_astore_n hx hb d hi hl hn hl2 (fun ls hl => kk H locs ls hP hD hS hl)
theorem g_astore (C : Ok X cc Ts own rm nl) {i : Nat} {x : Nat} {lv2 : List (Nat × Value)} (d : decode cc pc = .ok (.astore i, 2)) (hn : i < nl) (hl2 : (i, Value.ref x) :: lv.filter (fun q => !(q.1 == i) && !(q.1 + 1 == i && q.2.category == 2)) = lv2) (kk : G X kc ks Wd lv2 (pc + 2) st) : G X kc ks Wd lv pc (.ref x :: st) := by
  obtain ⟨L, p, e, R, s, m, args, below, meth, c, A, H0, nL, Q⟩ := X
  obtain ⟨hx, hb, hml, hown, hts, hKK, hA, hR, hnl⟩ := C
  intro H locs ls hP hD hS hl
  subst hnl
  exact lv_astore hx hb d hl hn hl2 (fun ls hl => kk H locs ls hP hD hS hl)
theorem g_lstore_n (C : Ok X cc Ts own rm nl) {k : Fin 4} {i : Nat} {x : Int64} {lv2 : List (Nat × Value)} (d : decode cc pc = .ok (.lstore_n k, 1)) (hi : (k : Nat) = i) (hn : i + 1 < nl) (hl2 : (i, Value.long x) :: lv.filter (fun q => !(q.1 == i) && (!(q.1 == i + 1) && !(q.1 + 1 == i && q.2.category == 2))) = lv2) (kk : G X kc ks Wd lv2 (pc + 1) st) : G X kc ks Wd lv pc (.long x :: st) := by
  obtain ⟨L, p, e, R, s, m, args, below, meth, c, A, H0, nL, Q⟩ := X
  obtain ⟨hx, hb, hml, hown, hts, hKK, hA, hR, hnl⟩ := C
  intro H locs ls hP hD hS hl
  subst hnl
  exact lv_lstore_n hx hb d hi hl hn hl2 (fun ls hl => kk H locs ls hP hD hS hl)
theorem g_lstore (C : Ok X cc Ts own rm nl) {i : Nat} {x : Int64} {lv2 : List (Nat × Value)} (d : decode cc pc = .ok (.lstore i, 2)) (hn : i + 1 < nl) (hl2 : (i, Value.long x) :: lv.filter (fun q => !(q.1 == i) && (!(q.1 == i + 1) && !(q.1 + 1 == i && q.2.category == 2))) = lv2) (kk : G X kc ks Wd lv2 (pc + 2) st) : G X kc ks Wd lv pc (.long x :: st) := by
  obtain ⟨L, p, e, R, s, m, args, below, meth, c, A, H0, nL, Q⟩ := X
  obtain ⟨hx, hb, hml, hown, hts, hKK, hA, hR, hnl⟩ := C
  intro H locs ls hP hD hS hl
  subst hnl
  exact lv_lstore hx hb d hl hn hl2 (fun ls hl => kk H locs ls hP hD hS hl)
theorem g_iinc (C : Ok X cc Ts own rm nl) {i : Nat} {n : Int} {x v : Int32} {lv2 : Int32 → List (Nat × Value)} (d : decode cc pc = .ok (.iinc i n, 3)) (pl : Nat) (hl0 : lv[pl]? = some (i, .int x)) (hv : Int32.ofInt n = v) (hn : i < nl) {k : Int32 → Option β} (hf : bnd (x + v) k = some r) (hl2 : ∀ z, (i, Value.int z) :: lv.filter (fun q => !(q.1 == i) && !(q.1 + 1 == i && q.2.category == 2)) = lv2 z) (kk : ∀ z, k z = some r → G X kc ks Wd (lv2 z) (pc + 3) st) : G X kc ks Wd lv pc st := by
  obtain ⟨L, p, e, R, s, m, args, below, meth, c, A, H0, nL, Q⟩ := X
  obtain ⟨hx, hb, hml, hown, hts, hKK, hA, hR, hnl⟩ := C
  intro H locs ls hP hD hS hl
  subst hnl
  subst hv
  exact lv_iinc hx hb d hl hl0 rfl hn (hl2 _) (fun ls hl => kk _ hf H locs ls hP hD hS hl)
theorem g_iadd (C : Ok X cc Ts own rm nl) {x y : Int32} (d : decode cc pc = .ok (.iadd, 1)) {k : Int32 → Option β} (hf : bnd (x + y) k = some r) (kk : ∀ z, k z = some r → G X kc ks Wd lv (pc + 1) (.int z :: st)) : G X kc ks Wd lv pc (.int y :: .int x :: st) := by
  obtain ⟨L, p, e, R, s, m, args, below, meth, c, A, H0, nL, Q⟩ := X
  obtain ⟨hx, hb, hml, hown, hts, hKK, hA, hR, hnl⟩ := C
  intro H locs ls hP hD hS hl
  exact lv_iadd hx hb d (kk _ hf H locs ls hP hD hS hl)
theorem g_isub (C : Ok X cc Ts own rm nl) {x y : Int32} (d : decode cc pc = .ok (.isub, 1)) {k : Int32 → Option β} (hf : bnd (x - y) k = some r) (kk : ∀ z, k z = some r → G X kc ks Wd lv (pc + 1) (.int z :: st)) : G X kc ks Wd lv pc (.int y :: .int x :: st) := by
  obtain ⟨L, p, e, R, s, m, args, below, meth, c, A, H0, nL, Q⟩ := X
  obtain ⟨hx, hb, hml, hown, hts, hKK, hA, hR, hnl⟩ := C
  intro H locs ls hP hD hS hl
  exact lv_isub hx hb d (kk _ hf H locs ls hP hD hS hl)
theorem g_imul (C : Ok X cc Ts own rm nl) {x y : Int32} (d : decode cc pc = .ok (.imul, 1)) {k : Int32 → Option β} (hf : bnd (x * y) k = some r) (kk : ∀ z, k z = some r → G X kc ks Wd lv (pc + 1) (.int z :: st)) : G X kc ks Wd lv pc (.int y :: .int x :: st) := by
  obtain ⟨L, p, e, R, s, m, args, below, meth, c, A, H0, nL, Q⟩ := X
  obtain ⟨hx, hb, hml, hown, hts, hKK, hA, hR, hnl⟩ := C
  intro H locs ls hP hD hS hl
  exact lv_imul hx hb d (kk _ hf H locs ls hP hD hS hl)
theorem g_iand (C : Ok X cc Ts own rm nl) {x y : Int32} (d : decode cc pc = .ok (.iand, 1)) {k : Int32 → Option β} (hf : bnd (x &&& y) k = some r) (kk : ∀ z, k z = some r → G X kc ks Wd lv (pc + 1) (.int z :: st)) : G X kc ks Wd lv pc (.int y :: .int x :: st) := by
  obtain ⟨L, p, e, R, s, m, args, below, meth, c, A, H0, nL, Q⟩ := X
  obtain ⟨hx, hb, hml, hown, hts, hKK, hA, hR, hnl⟩ := C
  intro H locs ls hP hD hS hl
  exact lv_iand hx hb d (kk _ hf H locs ls hP hD hS hl)
theorem g_ixor (C : Ok X cc Ts own rm nl) {x y : Int32} (d : decode cc pc = .ok (.ixor, 1)) {k : Int32 → Option β} (hf : bnd (x ^^^ y) k = some r) (kk : ∀ z, k z = some r → G X kc ks Wd lv (pc + 1) (.int z :: st)) : G X kc ks Wd lv pc (.int y :: .int x :: st) := by
  obtain ⟨L, p, e, R, s, m, args, below, meth, c, A, H0, nL, Q⟩ := X
  obtain ⟨hx, hb, hml, hown, hts, hKK, hA, hR, hnl⟩ := C
  intro H locs ls hP hD hS hl
  exact lv_ixor hx hb d (kk _ hf H locs ls hP hD hS hl)
theorem g_ior (C : Ok X cc Ts own rm nl) {x y : Int32} (d : decode cc pc = .ok (.ior, 1)) {k : Int32 → Option β} (hf : bnd (x ||| y) k = some r) (kk : ∀ z, k z = some r → G X kc ks Wd lv (pc + 1) (.int z :: st)) : G X kc ks Wd lv pc (.int y :: .int x :: st) := by
  obtain ⟨L, p, e, R, s, m, args, below, meth, c, A, H0, nL, Q⟩ := X
  obtain ⟨hx, hb, hml, hown, hts, hKK, hA, hR, hnl⟩ := C
  intro H locs ls hP hD hS hl
  exact lv_ior hx hb d (kk _ hf H locs ls hP hD hS hl)
theorem g_ishl (C : Ok X cc Ts own rm nl) {x y : Int32} (d : decode cc pc = .ok (.ishl, 1)) {k : Int32 → Option β} (hf : bnd (x <<< (y &&& 31)) k = some r) (kk : ∀ z, k z = some r → G X kc ks Wd lv (pc + 1) (.int z :: st)) : G X kc ks Wd lv pc (.int y :: .int x :: st) := by
  obtain ⟨L, p, e, R, s, m, args, below, meth, c, A, H0, nL, Q⟩ := X
  obtain ⟨hx, hb, hml, hown, hts, hKK, hA, hR, hnl⟩ := C
  intro H locs ls hP hD hS hl
  exact lv_ishl hx hb d (kk _ hf H locs ls hP hD hS hl)
theorem g_ishr (C : Ok X cc Ts own rm nl) {x y : Int32} (d : decode cc pc = .ok (.ishr, 1)) {k : Int32 → Option β} (hf : bnd (x >>> (y &&& 31)) k = some r) (kk : ∀ z, k z = some r → G X kc ks Wd lv (pc + 1) (.int z :: st)) : G X kc ks Wd lv pc (.int y :: .int x :: st) := by
  obtain ⟨L, p, e, R, s, m, args, below, meth, c, A, H0, nL, Q⟩ := X
  obtain ⟨hx, hb, hml, hown, hts, hKK, hA, hR, hnl⟩ := C
  intro H locs ls hP hD hS hl
  exact lv_ishr hx hb d (kk _ hf H locs ls hP hD hS hl)
theorem g_iushr (C : Ok X cc Ts own rm nl) {x y : Int32} (d : decode cc pc = .ok (.iushr, 1)) {k : Int32 → Option β} (hf : bnd ((x.toUInt32 >>> (y.toUInt32 &&& Int32.toUInt32 31)).toInt32) k = some r) (kk : ∀ z, k z = some r → G X kc ks Wd lv (pc + 1) (.int z :: st)) : G X kc ks Wd lv pc (.int y :: .int x :: st) := by
  obtain ⟨L, p, e, R, s, m, args, below, meth, c, A, H0, nL, Q⟩ := X
  obtain ⟨hx, hb, hml, hown, hts, hKK, hA, hR, hnl⟩ := C
  intro H locs ls hP hD hS hl
  exact lv_iushr hx hb d rfl (kk _ hf H locs ls hP hD hS hl)
theorem g_land (C : Ok X cc Ts own rm nl) {x y : Int64} (d : decode cc pc = .ok (.land, 1)) {k : Int64 → Option β} (hf : bnd (x &&& y) k = some r) (kk : ∀ z, k z = some r → G X kc ks Wd lv (pc + 1) (.long z :: st)) : G X kc ks Wd lv pc (.long y :: .long x :: st) := by
  obtain ⟨L, p, e, R, s, m, args, below, meth, c, A, H0, nL, Q⟩ := X
  obtain ⟨hx, hb, hml, hown, hts, hKK, hA, hR, hnl⟩ := C
  intro H locs ls hP hD hS hl
  exact lv_land hx hb d (kk _ hf H locs ls hP hD hS hl)
theorem g_lor (C : Ok X cc Ts own rm nl) {x y : Int64} (d : decode cc pc = .ok (.lor, 1)) {k : Int64 → Option β} (hf : bnd (x ||| y) k = some r) (kk : ∀ z, k z = some r → G X kc ks Wd lv (pc + 1) (.long z :: st)) : G X kc ks Wd lv pc (.long y :: .long x :: st) := by
  obtain ⟨L, p, e, R, s, m, args, below, meth, c, A, H0, nL, Q⟩ := X
  obtain ⟨hx, hb, hml, hown, hts, hKK, hA, hR, hnl⟩ := C
  intro H locs ls hP hD hS hl
  exact lv_lor hx hb d (kk _ hf H locs ls hP hD hS hl)
theorem g_ladd (C : Ok X cc Ts own rm nl) {x y : Int64} (d : decode cc pc = .ok (.ladd, 1)) {k : Int64 → Option β} (hf : bnd (x + y) k = some r) (kk : ∀ z, k z = some r → G X kc ks Wd lv (pc + 1) (.long z :: st)) : G X kc ks Wd lv pc (.long y :: .long x :: st) := by
  obtain ⟨L, p, e, R, s, m, args, below, meth, c, A, H0, nL, Q⟩ := X
  obtain ⟨hx, hb, hml, hown, hts, hKK, hA, hR, hnl⟩ := C
  intro H locs ls hP hD hS hl
  exact lv_ladd hx hb d (kk _ hf H locs ls hP hD hS hl)
theorem g_lxor (C : Ok X cc Ts own rm nl) {x y : Int64} (d : decode cc pc = .ok (.lxor, 1)) {k : Int64 → Option β} (hf : bnd (x ^^^ y) k = some r) (kk : ∀ z, k z = some r → G X kc ks Wd lv (pc + 1) (.long z :: st)) : G X kc ks Wd lv pc (.long y :: .long x :: st) := by
  obtain ⟨L, p, e, R, s, m, args, below, meth, c, A, H0, nL, Q⟩ := X
  obtain ⟨hx, hb, hml, hown, hts, hKK, hA, hR, hnl⟩ := C
  intro H locs ls hP hD hS hl
  exact lv_lxor hx hb d (kk _ hf H locs ls hP hD hS hl)
theorem g_lmul (C : Ok X cc Ts own rm nl) {x y : Int64} (d : decode cc pc = .ok (.lmul, 1)) {k : Int64 → Option β} (hf : bnd (x * y) k = some r) (kk : ∀ z, k z = some r → G X kc ks Wd lv (pc + 1) (.long z :: st)) : G X kc ks Wd lv pc (.long y :: .long x :: st) := by
  obtain ⟨L, p, e, R, s, m, args, below, meth, c, A, H0, nL, Q⟩ := X
  obtain ⟨hx, hb, hml, hown, hts, hKK, hA, hR, hnl⟩ := C
  intro H locs ls hP hD hS hl
  exact lv_lmul hx hb d (kk _ hf H locs ls hP hD hS hl)
theorem g_lushr (C : Ok X cc Ts own rm nl) {x : Int64} {y : Int32} (d : decode cc pc = .ok (.lushr, 1)) {k : Int64 → Option β} (hf : bnd ((x.toUInt64 >>> (y.toInt64.toUInt64 &&& Int64.toUInt64 63)).toInt64) k = some r) (kk : ∀ z, k z = some r → G X kc ks Wd lv (pc + 1) (.long z :: st)) : G X kc ks Wd lv pc (.int y :: .long x :: st) := by
  obtain ⟨L, p, e, R, s, m, args, below, meth, c, A, H0, nL, Q⟩ := X
  obtain ⟨hx, hb, hml, hown, hts, hKK, hA, hR, hnl⟩ := C
  intro H locs ls hP hD hS hl
  exact lv_lushr hx hb d rfl (kk _ hf H locs ls hP hD hS hl)
theorem g_lshl (C : Ok X cc Ts own rm nl) {x : Int64} {y : Int32} (d : decode cc pc = .ok (.lshl, 1)) {k : Int64 → Option β} (hf : bnd (x <<< (y.toInt64 &&& 63)) k = some r) (kk : ∀ z, k z = some r → G X kc ks Wd lv (pc + 1) (.long z :: st)) : G X kc ks Wd lv pc (.int y :: .long x :: st) := by
  obtain ⟨L, p, e, R, s, m, args, below, meth, c, A, H0, nL, Q⟩ := X
  obtain ⟨hx, hb, hml, hown, hts, hKK, hA, hR, hnl⟩ := C
  intro H locs ls hP hD hS hl
  exact lv_lshl hx hb d rfl (kk _ hf H locs ls hP hD hS hl)
theorem g_lshr (C : Ok X cc Ts own rm nl) {x : Int64} {y : Int32} (d : decode cc pc = .ok (.lshr, 1)) {k : Int64 → Option β} (hf : bnd (x >>> (y.toInt64 &&& 63)) k = some r) (kk : ∀ z, k z = some r → G X kc ks Wd lv (pc + 1) (.long z :: st)) : G X kc ks Wd lv pc (.int y :: .long x :: st) := by
  obtain ⟨L, p, e, R, s, m, args, below, meth, c, A, H0, nL, Q⟩ := X
  obtain ⟨hx, hb, hml, hown, hts, hKK, hA, hR, hnl⟩ := C
  intro H locs ls hP hD hS hl
  exact lv_lshr hx hb d rfl (kk _ hf H locs ls hP hD hS hl)
theorem g_irem (C : Ok X cc Ts own rm nl) {x y : Int32} (d : decode cc pc = .ok (.irem, 1)) {k : Int32 → Option β} (hf : rmk x y k = some r) (kk : ∀ z, k z = some r → G X kc ks Wd lv (pc + 1) (.int z :: st)) : G X kc ks Wd lv pc (.int y :: .int x :: st) := by
  obtain ⟨L, p, e, R, s, m, args, below, meth, c, A, H0, nL, Q⟩ := X
  obtain ⟨hx, hb, hml, hown, hts, hKK, hA, hR, hnl⟩ := C
  intro H locs ls hP hD hS hl
  obtain ⟨hne, hf⟩ := rmk_x hf
  exact lv_irem hx hb d hne (kk _ hf H locs ls hP hD hS hl)
theorem g_lcmp (C : Ok X cc Ts own rm nl) {x y : Int64} (d : decode cc pc = .ok (.lcmp, 1)) {k : Int32 → Option β} (hf : bnd (lg_cmp x y) k = some r) (kk : ∀ z, k z = some r → G X kc ks Wd lv (pc + 1) (.int z :: st)) : G X kc ks Wd lv pc (.long y :: .long x :: st) := by
  obtain ⟨L, p, e, R, s, m, args, below, meth, c, A, H0, nL, Q⟩ := X
  obtain ⟨hx, hb, hml, hown, hts, hKK, hA, hR, hnl⟩ := C
  intro H locs ls hP hD hS hl
  exact W.lcmp hx hb d (kk _ hf H locs ls hP hD hS hl)
theorem g_i2l (C : Ok X cc Ts own rm nl) {x : Int32} (d : decode cc pc = .ok (.i2l, 1)) {k : Int64 → Option β} (hf : bnd (x.toInt64) k = some r) (kk : ∀ z, k z = some r → G X kc ks Wd lv (pc + 1) (.long z :: st)) : G X kc ks Wd lv pc (.int x :: st) := by
  obtain ⟨L, p, e, R, s, m, args, below, meth, c, A, H0, nL, Q⟩ := X
  obtain ⟨hx, hb, hml, hown, hts, hKK, hA, hR, hnl⟩ := C
  intro H locs ls hP hD hS hl
  exact lv_i2l hx hb d rfl (kk _ hf H locs ls hP hD hS hl)
theorem g_l2i (C : Ok X cc Ts own rm nl) {x : Int64} (d : decode cc pc = .ok (.l2i, 1)) {k : Int32 → Option β} (hf : bnd (x.toInt32) k = some r) (kk : ∀ z, k z = some r → G X kc ks Wd lv (pc + 1) (.int z :: st)) : G X kc ks Wd lv pc (.long x :: st) := by
  obtain ⟨L, p, e, R, s, m, args, below, meth, c, A, H0, nL, Q⟩ := X
  obtain ⟨hx, hb, hml, hown, hts, hKK, hA, hR, hnl⟩ := C
  intro H locs ls hP hD hS hl
  exact lv_l2i hx hb d rfl (kk _ hf H locs ls hP hD hS hl)
theorem g_dup (C : Ok X cc Ts own rm nl) {v : Value} (d : decode cc pc = .ok (.dup, 1)) (hv : v.category = 1) (k : G X kc ks Wd lv (pc + 1) (v :: v :: st)) : G X kc ks Wd lv pc (v :: st) := by
  obtain ⟨L, p, e, R, s, m, args, below, meth, c, A, H0, nL, Q⟩ := X
  obtain ⟨hx, hb, hml, hown, hts, hKK, hA, hR, hnl⟩ := C
  intro H locs ls hP hD hS hl
  exact lv_dup hx hb d hv (k H locs ls hP hD hS hl)
theorem g_dup2 (C : Ok X cc Ts own rm nl) {v u : Value} (d : decode cc pc = .ok (.dup2, 1)) (hv : v.category = 1) (hu : u.category = 1) (k : G X kc ks Wd lv (pc + 1) (v :: u :: v :: u :: st)) : G X kc ks Wd lv pc (v :: u :: st) := by
  obtain ⟨L, p, e, R, s, m, args, below, meth, c, A, H0, nL, Q⟩ := X
  obtain ⟨hx, hb, hml, hown, hts, hKK, hA, hR, hnl⟩ := C
  intro H locs ls hP hD hS hl
  exact lv_dup2_11 hx hb d hv hu (k H locs ls hP hD hS hl)
theorem g_pop (C : Ok X cc Ts own rm nl) {v : Value} (d : decode cc pc = .ok (.pop, 1)) (hv : v.category = 1) (k : G X kc ks Wd lv (pc + 1) st) : G X kc ks Wd lv pc (v :: st) := by
  obtain ⟨L, p, e, R, s, m, args, below, meth, c, A, H0, nL, Q⟩ := X
  obtain ⟨hx, hb, hml, hown, hts, hKK, hA, hR, hnl⟩ := C
  intro H locs ls hP hD hS hl
  exact lv_pop hx hb d hv (k H locs ls hP hD hS hl)
theorem g_if_eq (C : Ok X cc Ts own rm nl) {x : Int32} {off : Int} {tgt : Nat} (d : decode cc pc = .ok (.ifCond .eq off, 3)) (ht : (pc : Int) + off = (tgt : Int)) {a b : Option β} (hf : (if x = 0 then a else b) = some r) (kt : a = some r → G X kc ks Wd lv tgt st) (kf : b = some r → G X kc ks Wd lv (pc + 3) st) : G X kc ks Wd lv pc (.int x :: st) := by
  obtain ⟨L, p, e, R, s, m, args, below, meth, c, A, H0, nL, Q⟩ := X
  obtain ⟨hx, hb, hml, hown, hts, hKK, hA, hR, hnl⟩ := C
  intro H locs ls hP hD hS hl
  exact lv_if_eq hx hb d ht (fun h => kt (it_t h hf) H locs ls hP hD hS hl) (fun h => kf (it_f h hf) H locs ls hP hD hS hl)
theorem g_icmp_eq (C : Ok X cc Ts own rm nl) {x y : Int32} {off : Int} {tgt : Nat} (d : decode cc pc = .ok (.if_icmp .eq off, 3)) (ht : (pc : Int) + off = (tgt : Int)) {a b : Option β} (hf : (if x = y then a else b) = some r) (kt : a = some r → G X kc ks Wd lv tgt st) (kf : b = some r → G X kc ks Wd lv (pc + 3) st) : G X kc ks Wd lv pc (.int y :: .int x :: st) := by
  obtain ⟨L, p, e, R, s, m, args, below, meth, c, A, H0, nL, Q⟩ := X
  obtain ⟨hx, hb, hml, hown, hts, hKK, hA, hR, hnl⟩ := C
  intro H locs ls hP hD hS hl
  exact lv_icmp_eq hx hb d ht (fun h => kt (it_t h hf) H locs ls hP hD hS hl) (fun h => kf (it_f h hf) H locs ls hP hD hS hl)
theorem g_if_ne (C : Ok X cc Ts own rm nl) {x : Int32} {off : Int} {tgt : Nat} (d : decode cc pc = .ok (.ifCond .ne off, 3)) (ht : (pc : Int) + off = (tgt : Int)) {a b : Option β} (hf : (if x = 0 then b else a) = some r) (kt : a = some r → G X kc ks Wd lv tgt st) (kf : b = some r → G X kc ks Wd lv (pc + 3) st) : G X kc ks Wd lv pc (.int x :: st) := by
  obtain ⟨L, p, e, R, s, m, args, below, meth, c, A, H0, nL, Q⟩ := X
  obtain ⟨hx, hb, hml, hown, hts, hKK, hA, hR, hnl⟩ := C
  intro H locs ls hP hD hS hl
  exact lv_if_ne hx hb d ht (fun h => kt (it_f h hf) H locs ls hP hD hS hl) (fun h => kf (it_t h hf) H locs ls hP hD hS hl)
theorem g_icmp_ne (C : Ok X cc Ts own rm nl) {x y : Int32} {off : Int} {tgt : Nat} (d : decode cc pc = .ok (.if_icmp .ne off, 3)) (ht : (pc : Int) + off = (tgt : Int)) {a b : Option β} (hf : (if x = y then b else a) = some r) (kt : a = some r → G X kc ks Wd lv tgt st) (kf : b = some r → G X kc ks Wd lv (pc + 3) st) : G X kc ks Wd lv pc (.int y :: .int x :: st) := by
  obtain ⟨L, p, e, R, s, m, args, below, meth, c, A, H0, nL, Q⟩ := X
  obtain ⟨hx, hb, hml, hown, hts, hKK, hA, hR, hnl⟩ := C
  intro H locs ls hP hD hS hl
  exact lv_icmp_ne hx hb d ht (fun h => kt (it_f h hf) H locs ls hP hD hS hl) (fun h => kf (it_t h hf) H locs ls hP hD hS hl)
theorem g_if_lt (C : Ok X cc Ts own rm nl) {x : Int32} {off : Int} {tgt : Nat} (d : decode cc pc = .ok (.ifCond .lt off, 3)) (ht : (pc : Int) + off = (tgt : Int)) {a b : Option β} (hf : (if x < 0 then a else b) = some r) (kt : a = some r → G X kc ks Wd lv tgt st) (kf : b = some r → G X kc ks Wd lv (pc + 3) st) : G X kc ks Wd lv pc (.int x :: st) := by
  obtain ⟨L, p, e, R, s, m, args, below, meth, c, A, H0, nL, Q⟩ := X
  obtain ⟨hx, hb, hml, hown, hts, hKK, hA, hR, hnl⟩ := C
  intro H locs ls hP hD hS hl
  exact lv_if_lt hx hb d ht (fun h => kt (it_t h hf) H locs ls hP hD hS hl) (fun h => kf (it_f h hf) H locs ls hP hD hS hl)
theorem g_icmp_lt (C : Ok X cc Ts own rm nl) {x y : Int32} {off : Int} {tgt : Nat} (d : decode cc pc = .ok (.if_icmp .lt off, 3)) (ht : (pc : Int) + off = (tgt : Int)) {a b : Option β} (hf : (if x < y then a else b) = some r) (kt : a = some r → G X kc ks Wd lv tgt st) (kf : b = some r → G X kc ks Wd lv (pc + 3) st) : G X kc ks Wd lv pc (.int y :: .int x :: st) := by
  obtain ⟨L, p, e, R, s, m, args, below, meth, c, A, H0, nL, Q⟩ := X
  obtain ⟨hx, hb, hml, hown, hts, hKK, hA, hR, hnl⟩ := C
  intro H locs ls hP hD hS hl
  exact lv_icmp_lt hx hb d ht (fun h => kt (it_t h hf) H locs ls hP hD hS hl) (fun h => kf (it_f h hf) H locs ls hP hD hS hl)
theorem g_if_ge (C : Ok X cc Ts own rm nl) {x : Int32} {off : Int} {tgt : Nat} (d : decode cc pc = .ok (.ifCond .ge off, 3)) (ht : (pc : Int) + off = (tgt : Int)) {a b : Option β} (hf : (if 0 ≤ x then a else b) = some r) (kt : a = some r → G X kc ks Wd lv tgt st) (kf : b = some r → G X kc ks Wd lv (pc + 3) st) : G X kc ks Wd lv pc (.int x :: st) := by
  obtain ⟨L, p, e, R, s, m, args, below, meth, c, A, H0, nL, Q⟩ := X
  obtain ⟨hx, hb, hml, hown, hts, hKK, hA, hR, hnl⟩ := C
  intro H locs ls hP hD hS hl
  exact lv_if_ge hx hb d ht (fun h => kt (it_t h hf) H locs ls hP hD hS hl) (fun h => kf (it_f h hf) H locs ls hP hD hS hl)
theorem g_icmp_ge (C : Ok X cc Ts own rm nl) {x y : Int32} {off : Int} {tgt : Nat} (d : decode cc pc = .ok (.if_icmp .ge off, 3)) (ht : (pc : Int) + off = (tgt : Int)) {a b : Option β} (hf : (if y ≤ x then a else b) = some r) (kt : a = some r → G X kc ks Wd lv tgt st) (kf : b = some r → G X kc ks Wd lv (pc + 3) st) : G X kc ks Wd lv pc (.int y :: .int x :: st) := by
  obtain ⟨L, p, e, R, s, m, args, below, meth, c, A, H0, nL, Q⟩ := X
  obtain ⟨hx, hb, hml, hown, hts, hKK, hA, hR, hnl⟩ := C
  intro H locs ls hP hD hS hl
  exact lv_icmp_ge hx hb d ht (fun h => kt (it_t h hf) H locs ls hP hD hS hl) (fun h => kf (it_f h hf) H locs ls hP hD hS hl)
theorem g_if_gt (C : Ok X cc Ts own rm nl) {x : Int32} {off : Int} {tgt : Nat} (d : decode cc pc = .ok (.ifCond .gt off, 3)) (ht : (pc : Int) + off = (tgt : Int)) {a b : Option β} (hf : (if 0 < x then a else b) = some r) (kt : a = some r → G X kc ks Wd lv tgt st) (kf : b = some r → G X kc ks Wd lv (pc + 3) st) : G X kc ks Wd lv pc (.int x :: st) := by
  obtain ⟨L, p, e, R, s, m, args, below, meth, c, A, H0, nL, Q⟩ := X
  obtain ⟨hx, hb, hml, hown, hts, hKK, hA, hR, hnl⟩ := C
  intro H locs ls hP hD hS hl
  exact lv_if_gt hx hb d ht (fun h => kt (it_t h hf) H locs ls hP hD hS hl) (fun h => kf (it_f h hf) H locs ls hP hD hS hl)
theorem g_icmp_gt (C : Ok X cc Ts own rm nl) {x y : Int32} {off : Int} {tgt : Nat} (d : decode cc pc = .ok (.if_icmp .gt off, 3)) (ht : (pc : Int) + off = (tgt : Int)) {a b : Option β} (hf : (if y < x then a else b) = some r) (kt : a = some r → G X kc ks Wd lv tgt st) (kf : b = some r → G X kc ks Wd lv (pc + 3) st) : G X kc ks Wd lv pc (.int y :: .int x :: st) := by
  obtain ⟨L, p, e, R, s, m, args, below, meth, c, A, H0, nL, Q⟩ := X
  obtain ⟨hx, hb, hml, hown, hts, hKK, hA, hR, hnl⟩ := C
  intro H locs ls hP hD hS hl
  exact lv_icmp_gt hx hb d ht (fun h => kt (it_t h hf) H locs ls hP hD hS hl) (fun h => kf (it_f h hf) H locs ls hP hD hS hl)
theorem g_if_le (C : Ok X cc Ts own rm nl) {x : Int32} {off : Int} {tgt : Nat} (d : decode cc pc = .ok (.ifCond .le off, 3)) (ht : (pc : Int) + off = (tgt : Int)) {a b : Option β} (hf : (if x ≤ 0 then a else b) = some r) (kt : a = some r → G X kc ks Wd lv tgt st) (kf : b = some r → G X kc ks Wd lv (pc + 3) st) : G X kc ks Wd lv pc (.int x :: st) := by
  obtain ⟨L, p, e, R, s, m, args, below, meth, c, A, H0, nL, Q⟩ := X
  obtain ⟨hx, hb, hml, hown, hts, hKK, hA, hR, hnl⟩ := C
  intro H locs ls hP hD hS hl
  exact lv_if_le hx hb d ht (fun h => kt (it_t h hf) H locs ls hP hD hS hl) (fun h => kf (it_f h hf) H locs ls hP hD hS hl)
theorem g_icmp_le (C : Ok X cc Ts own rm nl) {x y : Int32} {off : Int} {tgt : Nat} (d : decode cc pc = .ok (.if_icmp .le off, 3)) (ht : (pc : Int) + off = (tgt : Int)) {a b : Option β} (hf : (if x ≤ y then a else b) = some r) (kt : a = some r → G X kc ks Wd lv tgt st) (kf : b = some r → G X kc ks Wd lv (pc + 3) st) : G X kc ks Wd lv pc (.int y :: .int x :: st) := by
  obtain ⟨L, p, e, R, s, m, args, below, meth, c, A, H0, nL, Q⟩ := X
  obtain ⟨hx, hb, hml, hown, hts, hKK, hA, hR, hnl⟩ := C
  intro H locs ls hP hD hS hl
  exact lv_icmp_le hx hb d ht (fun h => kt (it_t h hf) H locs ls hP hD hS hl) (fun h => kf (it_f h hf) H locs ls hP hD hS hl)
theorem g_goto (C : Ok X cc Ts own rm nl) {off : Int} {tgt : Nat} (d : decode cc pc = .ok (.goto off, 3)) (ht : (pc : Int) + off = (tgt : Int)) (k : G X kc ks Wd lv tgt st) : G X kc ks Wd lv pc st := by
  obtain ⟨L, p, e, R, s, m, args, below, meth, c, A, H0, nL, Q⟩ := X
  obtain ⟨hx, hb, hml, hown, hts, hKK, hA, hR, hnl⟩ := C
  intro H locs ls hP hD hS hl
  exact lv_goto hx hb d ht (k H locs ls hP hD hS hl)
theorem g_tin (C : Ok X cc Ts own rm nl) {dflt lo hi : Int} {offs : Array Int} {len : Nat} {x v : Int32} {off : Int} {tgt : Nat} (d : decode cc pc = .ok (.tableswitch dflt lo hi offs, len)) (hv : x = v) (h1 : ¬ v.toInt < lo) (h2 : ¬ hi < v.toInt) (ho : offs[(v.toInt - lo).toNat]? = some off) (ht : (pc : Int) + off = (tgt : Int)) (k : G X kc ks Wd lv tgt st) : G X kc ks Wd lv pc (.int x :: st) := by
  obtain ⟨L, p, e, R, s, m, args, below, meth, c, A, H0, nL, Q⟩ := X
  obtain ⟨hx, hb, hml, hown, hts, hKK, hA, hR, hnl⟩ := C
  intro H locs ls hP hD hS hl
  subst hv
  exact lv_tableIn hx hb d h1 h2 ho ht (k H locs ls hP hD hS hl)
theorem g_tout (C : Ok X cc Ts own rm nl) {dflt lo hi : Int} {offs : Array Int} {len : Nat} {x : Int32} {tgt : Nat} (d : decode cc pc = .ok (.tableswitch dflt lo hi offs, len)) (h : x.toInt < lo ∨ hi < x.toInt) (ht : (pc : Int) + dflt = (tgt : Int)) (k : G X kc ks Wd lv tgt st) : G X kc ks Wd lv pc (.int x :: st) := by
  obtain ⟨L, p, e, R, s, m, args, below, meth, c, A, H0, nL, Q⟩ := X
  obtain ⟨hx, hb, hml, hown, hts, hKK, hA, hR, hnl⟩ := C
  intro H locs ls hP hD hS hl
  exact lv_tableOut hx hb d h ht (k H locs ls hP hD hS hl)
theorem g_get (C : Ok X cc Ts own rm nl) {C0 ref : String} {T : u_T} {N ci index a : Nat} (hin : ∀ w ∈ u_ws C0 T N, w ∈ Ts) (q0 : Nat) {fs : List Value} (he : Wd[q0]? = some (a, .inr (ci, fs))) (hc : vwCl[ci]? = some (C0, T, N)) (k : Nat) (hk : k < N) (hlink : Cond.fieldLink own index ref (T k).2.1 (T k).2.2.1 ∈ Ts) (href : (T k).1 = ref) {v : Value} (hv : fs[k]? = some v) (d : decode cc pc = .ok (.getfield index, 3)) (kk : G X kc ks Wd lv (pc + 3) (v :: st)) : G X kc ks Wd lv pc (.ref a :: st) := by
  obtain ⟨L, p, e, R, s, m, args, below, meth, c, A, H0, nL, Q⟩ := X
  obtain ⟨hx, hb, hml, hown, hts, hKK, hA, hR, hnl⟩ := C
  intro H locs ls hP hD hS hl
  exact va_get hx hb hts hin hown hKK.1 hP q0 he hc k hk (hts _ hlink) (fun _ h => by rw [← href]; exact h) hv d (kk H locs ls hP hD hS hl)
theorem g_put (C : Ok X cc Ts own rm nl) {C0 ref : String} {T : u_T} {N ci index a : Nat} (hin : ∀ w ∈ u_ws C0 T N, w ∈ Ts) (ty0 : Nat → FieldType) (hty : ∀ k, k < N → parseFieldDescriptor (T k).2.2.1 = some (ty0 k)) (hnm : ∀ a, a < N → ∀ b, b < N → a ≠ b → (T a).2.1 ≠ (T b).2.1) (q0 : Nat) {fs : List Value} (he : Wd[q0]? = some (a, .inr (ci, fs))) (hc : vwCl[ci]? = some (C0, T, N)) (k : Nat) (hk : k < N) (hlink : Cond.fieldLink own index ref (T k).2.1 (T k).2.2.1 ∈ Ts) (href : (T k).1 = ref) (hfin : (T k).2.2.2 = false) {v : Value} (hn : narrow (ty0 k) v = v) (hfit : fits (ty0 k) v = true) (hl0 : k < fs.length) (d : decode cc pc = .ok (.putfield index, 3)) {Wd2 : va_W} (hW : Wd.set q0 (a, .inr (ci, fs.set k v)) = Wd2) (kk : G X kc ks Wd2 lv (pc + 3) st) : G X kc ks Wd lv pc (v :: .ref a :: st) := by
  obtain ⟨L, p, e, R, s, m, args, below, meth, c, A, H0, nL, Q⟩ := X
  obtain ⟨hx, hb, hml, hown, hts, hKK, hA, hR, hnl⟩ := C
  intro H locs ls hP hD hS hl
  subst hW
  exact va_put hx hb hts hin ty0 hty hnm hown hKK.1 hP hD hS q0 he hc k hk (hts _ hlink) (fun _ h => by rw [← href]; exact h) hfin (hty k hk) hn hfit hl0 d (fun H locs hP hD hS => kk H locs ls hP hD hS hl)
theorem g_putF (C : Ok X cc Ts own rm nl) (hoi : Oi X) {C0 ref : String} {T : u_T} {N ci index a : Nat} (hin : ∀ w ∈ u_ws C0 T N, w ∈ Ts) (ty0 : Nat → FieldType) (hty : ∀ k, k < N → parseFieldDescriptor (T k).2.2.1 = some (ty0 k)) (hnm : ∀ a, a < N → ∀ b, b < N → a ≠ b → (T a).2.1 ≠ (T b).2.1) (q0 : Nat) {fs : List Value} (he : Wd[q0]? = some (a, .inr (ci, fs))) (hc : vwCl[ci]? = some (C0, T, N)) (k : Nat) (hk : k < N) (hlink : Cond.fieldLink own index ref (T k).2.1 (T k).2.2.1 ∈ Ts) (href : (T k).1 = ref) (hdecl : (T k).1 = own) (hT : (T k).2.2.2 = true) {v : Value} (hn : narrow (ty0 k) v = v) (hfit : fits (ty0 k) v = true) (hl0 : k < fs.length) (d : decode cc pc = .ok (.putfield index, 3)) {Wd2 : va_W} (hW : Wd.set q0 (a, .inr (ci, fs.set k v)) = Wd2) (kk : G X kc ks Wd2 lv (pc + 3) st) : G X kc ks Wd lv pc (v :: .ref a :: st) := by
  obtain ⟨L, p, e, R, s, m, args, below, meth, c, A, H0, nL, Q⟩ := X
  obtain ⟨hx, hb, hml, hown, hts, hKK, hA, hR, hnl⟩ := C
  intro H locs ls hP hD hS hl
  subst hW
  exact va_putF hx hb hts hin ty0 hty hnm hown hKK.1 hP hD hS q0 he hc k hk (hts _ hlink) (fun _ h => by rw [← href]; exact h) hT hoi hdecl (hty k hk) hn hfit hl0 d (fun H locs hP hD hS => kk H locs ls hP hD hS hl)
theorem g_iaload (C : Ok X cc Ts own rm nl) (q0 : Nat) {n a : Nat} {f : Nat → Int32} (ha : Wd[q0]? = some (a, .inl (X.1.2.2.1, n, .inl f))) {i : Int32} (d : decode cc pc = .ok (.iaload, 1)) {k : Int32 → Option β} (hf : rdI f n i k = some r) (kk : ∀ z, k z = some r → G X kc ks Wd lv (pc + 1) (.int z :: st)) : G X kc ks Wd lv pc (.int i :: .ref a :: st) := by
  obtain ⟨L, p, e, R, s, m, args, below, meth, c, A, H0, nL, Q⟩ := X
  obtain ⟨hx, hb, hml, hown, hts, hKK, hA, hR, hnl⟩ := C
  intro H locs ls hP hD hS hl
  obtain ⟨hi, hf⟩ := rdI_x hf
  exact va_iald hx hb hKK.1 hP q0 0 ha rfl hi d (kk _ hf H locs ls hP hD hS hl)
theorem g_laload (C : Ok X cc Ts own rm nl) (q0 : Nat) {n a : Nat} {f : Nat → Int64} (ha : Wd[q0]? = some (a, .inl (X.1.2.2.2.1, n, .inr (.inl f)))) {i : Int32} (d : decode cc pc = .ok (.laload, 1)) {k : Int64 → Option β} (hf : rdJ f n i k = some r) (kk : ∀ z, k z = some r → G X kc ks Wd lv (pc + 1) (.long z :: st)) : G X kc ks Wd lv pc (.int i :: .ref a :: st) := by
  obtain ⟨L, p, e, R, s, m, args, below, meth, c, A, H0, nL, Q⟩ := X
  obtain ⟨hx, hb, hml, hown, hts, hKK, hA, hR, hnl⟩ := C
  intro H locs ls hP hD hS hl
  obtain ⟨hi, hf⟩ := rdJ_x hf
  exact va_lald hx hb hKK.1 hP q0 1 ha rfl hi d (kk _ hf H locs ls hP hD hS hl)
theorem g_zaload (C : Ok X cc Ts own rm nl) (q0 : Nat) {n a : Nat} {f : Nat → Int32} (ha : Wd[q0]? = some (a, .inl (X.1.2.2.2.2, n, .inl f))) {i : Int32} (d : decode cc pc = .ok (.baload, 1)) {k : Int32 → Option β} (hf : rdI f n i k = some r) (kk : ∀ z, k z = some r → G X kc ks Wd lv (pc + 1) (.int z :: st)) : G X kc ks Wd lv pc (.int i :: .ref a :: st) := by
  obtain ⟨L, p, e, R, s, m, args, below, meth, c, A, H0, nL, Q⟩ := X
  obtain ⟨hx, hb, hml, hown, hts, hKK, hA, hR, hnl⟩ := C
  intro H locs ls hP hD hS hl
  obtain ⟨hi, hf⟩ := rdI_x hf
  exact va_zald hx hb hKK.1 hP q0 2 ha rfl hi d (kk _ hf H locs ls hP hD hS hl)
theorem g_iastore (C : Ok X cc Ts own rm nl) (q0 : Nat) {n a : Nat} {f : Nat → Int32} (ha : Wd[q0]? = some (a, .inl (X.1.2.2.1, n, .inl f))) {i : Int32} {x : Int32} (d : decode cc pc = .ok (.iastore, 1)) {k : (Nat → Int32) → Option β} (hf : wrI f n i x k = some r) {Wd2 : (Nat → Int32) → va_W} (hW : ∀ g : Nat → Int32, Wd.set q0 (a, .inl (X.1.2.2.1, n, .inl g)) = Wd2 g) (kk : ∀ g, k g = some r → G X kc ks (Wd2 g) lv (pc + 1) st) : G X kc ks Wd lv pc (.int x :: .int i :: .ref a :: st) := by
  obtain ⟨L, p, e, R, s, m, args, below, meth, c, A, H0, nL, Q⟩ := X
  obtain ⟨hx, hb, hml, hown, hts, hKK, hA, hR, hnl⟩ := C
  intro H locs ls hP hD hS hl
  obtain ⟨hi, hf⟩ := wrI_x hf
  exact va_iast hx hb hKK.1 hP hD hS q0 0 ha rfl hi d (fun H locs hP hD hS => kk _ hf H locs ls (by rw [← hW]; exact hP) (by rw [← hW]; exact hD) hS hl)
theorem g_lastore (C : Ok X cc Ts own rm nl) (q0 : Nat) {n a : Nat} {f : Nat → Int64} (ha : Wd[q0]? = some (a, .inl (X.1.2.2.2.1, n, .inr (.inl f)))) {i : Int32} {x : Int64} (d : decode cc pc = .ok (.lastore, 1)) {k : (Nat → Int64) → Option β} (hf : wrJ f n i x k = some r) {Wd2 : (Nat → Int64) → va_W} (hW : ∀ g : Nat → Int64, Wd.set q0 (a, .inl (X.1.2.2.2.1, n, .inr (.inl g))) = Wd2 g) (kk : ∀ g, k g = some r → G X kc ks (Wd2 g) lv (pc + 1) st) : G X kc ks Wd lv pc (.long x :: .int i :: .ref a :: st) := by
  obtain ⟨L, p, e, R, s, m, args, below, meth, c, A, H0, nL, Q⟩ := X
  obtain ⟨hx, hb, hml, hown, hts, hKK, hA, hR, hnl⟩ := C
  intro H locs ls hP hD hS hl
  obtain ⟨hi, hf⟩ := wrJ_x hf
  exact va_last hx hb hKK.1 hP hD hS q0 1 ha rfl hi d (fun H locs hP hD hS => kk _ hf H locs ls (by rw [← hW]; exact hP) (by rw [← hW]; exact hD) hS hl)
theorem g_zastore (C : Ok X cc Ts own rm nl) (q0 : Nat) {n a : Nat} {f : Nat → Int32} (ha : Wd[q0]? = some (a, .inl (X.1.2.2.2.2, n, .inl f))) {i : Int32} {x : Int32} (d : decode cc pc = .ok (.bastore, 1)) {k : (Nat → Int32) → Option β} (hf : wrZ f n i x k = some r) {Wd2 : (Nat → Int32) → va_W} (hW : ∀ g : Nat → Int32, Wd.set q0 (a, .inl (X.1.2.2.2.2, n, .inl g)) = Wd2 g) (kk : ∀ g, k g = some r → G X kc ks (Wd2 g) lv (pc + 1) st) : G X kc ks Wd lv pc (.int x :: .int i :: .ref a :: st) := by
  obtain ⟨L, p, e, R, s, m, args, below, meth, c, A, H0, nL, Q⟩ := X
  obtain ⟨hx, hb, hml, hown, hts, hKK, hA, hR, hnl⟩ := C
  intro H locs ls hP hD hS hl
  obtain ⟨hi, hf⟩ := wrZ_x hf
  exact va_zast hx hb hKK.1 hP hD hS q0 2 ha rfl hi d (fun H locs hP hD hS => kk _ hf H locs ls (by rw [← hW]; exact hP) (by rw [← hW]; exact hD) hS hl)
theorem g_mmax (C : Ok X cc Ts own rm nl) {index : Nat} {x y : Int32} (h1 : Cond.methodLink own index Lib.Math.max.name ∈ Ts) (h2 : Cond.static Lib.Math.max.name ∈ Ts) (h3 : Cond.initialized "java/lang/Math" ∈ Ts) (h4 : Cond.code Lib.Math.max.name Lib.Math.max.code 2 (some .int) ∈ Ts) (hfr : 1 ≤ rm.frames) (hlo : (st.map fun v => v.category).sum + 13 ≤ rm.locals) (hkc : kc ≤ rm.cells) (hks : ks ≤ rm.slots) (d : decode cc pc = .ok (.invokestatic index, 3)) {k : Int32 → Option β} (hf : bnd (if x < y then y else x) k = some r) (kk : ∀ z, k z = some r → G X kc ks Wd lv (pc + 3) (.int z :: st)) : G X kc ks Wd lv pc (.int y :: .int x :: st) := by
  obtain ⟨L, p, e, R, s, m, args, below, meth, c, A, H0, nL, Q⟩ := X
  obtain ⟨hx, hb, hml, hown, hts, hKK, hA, hR, hnl⟩ := C
  intro H locs ls hP hD hS hl
  subst hR
  exact va_mmax hx hb (hml.trans hl.1.symm) hown (hts _ h1) (hts _ h2) (hts _ h3) (hts _ h4) hfr hlo hkc hks d (kk _ hf H locs ls hP hD hS hl)
theorem g_mmin (C : Ok X cc Ts own rm nl) {index : Nat} {x y : Int32} (h1 : Cond.methodLink own index Lib.Math.min.name ∈ Ts) (h2 : Cond.static Lib.Math.min.name ∈ Ts) (h3 : Cond.initialized "java/lang/Math" ∈ Ts) (h4 : Cond.code Lib.Math.min.name Lib.Math.min.code 2 (some .int) ∈ Ts) (hfr : 1 ≤ rm.frames) (hlo : (st.map fun v => v.category).sum + 13 ≤ rm.locals) (hkc : kc ≤ rm.cells) (hks : ks ≤ rm.slots) (d : decode cc pc = .ok (.invokestatic index, 3)) {k : Int32 → Option β} (hf : bnd (if y < x then y else x) k = some r) (kk : ∀ z, k z = some r → G X kc ks Wd lv (pc + 3) (.int z :: st)) : G X kc ks Wd lv pc (.int y :: .int x :: st) := by
  obtain ⟨L, p, e, R, s, m, args, below, meth, c, A, H0, nL, Q⟩ := X
  obtain ⟨hx, hb, hml, hown, hts, hKK, hA, hR, hnl⟩ := C
  intro H locs ls hP hD hS hl
  subst hR
  exact va_mmin hx hb (hml.trans hl.1.symm) hown (hts _ h1) (hts _ h2) (hts _ h3) (hts _ h4) hfr hlo hkc hks d (kk _ hf H locs ls hP hD hS hl)
theorem g_objInit (C : Ok X cc Ts own rm nl) {idx a : Nat} (h1 : Cond.methodLink own idx objectInit ∈ Ts) (h2 : Cond.instanceMethod objectInit ∈ Ts) (h3 : Cond.code objectInit ⟨#[0xb1]⟩ 1 none ∈ Ts) (hfr : 1 ≤ rm.frames) (hlo : (st.map fun v => v.category).sum + 12 ≤ rm.locals) (d : decode cc pc = .ok (.invokespecial idx, 3)) (k : G X kc ks Wd lv (pc + 3) st) : G X kc ks Wd lv pc (.ref a :: st) := by
  obtain ⟨L, p, e, R, s, m, args, below, meth, c, A, H0, nL, Q⟩ := X
  obtain ⟨hx, hb, hml, hown, hts, hKK, hA, hR, hnl⟩ := C
  intro H locs ls hP hD hS hl
  subst hR
  exact W.objInit hx hb hown (hts _ h1) (hts _ h2) (hts _ h3) rfl (by rw [hml]; exact hl.1) rfl d hfr (by show 2 * 0 + _ + 12 ≤ _; omega) (W.eq (g2 := F0 m (pc + 3) ls st) rfl (k H locs ls hP hD hS hl))
theorem g_sld (C : Ok X cc Ts own rm nl) {b Ln : Nat} {xs : Nat → Int32} (hs : Os X b Ln xs) {i : Int32} (d : decode cc pc = .ok (.iaload, 1)) {k : Int32 → Option β} (hf : rdI xs Ln i k = some r) (kk : ∀ z, k z = some r → G X kc ks Wd lv (pc + 1) (.int z :: st)) : G X kc ks Wd lv pc (.int i :: .ref b :: st) := by
  obtain ⟨L, p, e, R, s, m, args, below, meth, c, A, H0, nL, Q⟩ := X
  obtain ⟨hx, hb, hml, hown, hts, hKK, hA, hR, hnl⟩ := C
  intro H locs ls hP hD hS hl
  obtain ⟨hX, hbl, hbA⟩ := hs
  obtain ⟨hi, hf⟩ := rdI_x hf
  exact va_sld hx hb hX hbl hbA hS hi d (kk _ hf H locs ls hP hD hS hl)
theorem g_slen (C : Ok X cc Ts own rm nl) {b Ln : Nat} {xs : Nat → Int32} (hs : Os X b Ln xs) (d : decode cc pc = .ok (.arraylength, 1)) (k : G X kc ks Wd lv (pc + 1) (.int (Int32.ofNat Ln) :: st)) : G X kc ks Wd lv pc (.ref b :: st) := by
  obtain ⟨L, p, e, R, s, m, args, below, meth, c, A, H0, nL, Q⟩ := X
  obtain ⟨hx, hb, hml, hown, hts, hKK, hA, hR, hnl⟩ := C
  intro H locs ls hP hD hS hl
  obtain ⟨hX, hbl, hbA⟩ := hs
  exact va_slen hx hb hX hbl hbA hS d (k H locs ls hP hD hS hl)
end GCALC

/-! calls, entries and ends over G -/
theorem fm_of_map {α : Type} {is : List Nat} {f : Nat → Option α} {l : List α} (h : is.map f = l.map some) : is.filterMap f = l := by
  have e : is.filterMap f = (is.map f).filterMap id := by rw [List.filterMap_map]; rfl
  rw [e, h, List.filterMap_map]
  induction l with
  | nil => rfl
  | cons a l ih => simp
theorem g_after {L : XL} {p : Program} {e : Env} {R : Room} {s : State} {m : MethodId} {args : Array Value} {below : List Frame} {meth : Method} {c : Code} {A : Nat → Prop} {H0 : Heap} {nL : Nat} {Q : State → Prop} {kc ks mc ms : Nat} {Wd Wc Wr : va_W} {lv : List (Nat × Value)} {pc : Nat} {st0 rest st2 : List Value} {res : Option Value} {S : Type} {Wp Wn : S → va_W} {arr : Array Value} {H : Heap} {locs : List Loc} {ls : Array Slot}
    (hr : va_Run p L.1 e R s m args below meth c H locs kc ks mc ms (F0 m pc ls st0) rest (xQc L Wc res Wp H.size arr) (va_A Wc H.size))
    (hP : va_P L.2.1 vwCl Wd H) (hD : va_D A Wd) (hS : va_S A H0 H locs) (hl : lv_has ls nL lv) (hA : ∀ q : Nat, H0.size ≤ q → A q)
    (isC : List Nat) (hC : isC.map (fun i => Wd[i]?) = Wc.map some) (isR : List Nat) (hRr : isR.map (fun i => Wd[i]?) = Wr.map some) (hn1 : va_nd isR = true) (hdis : ∀ i ∈ isR, i ∉ isC)
    (perm : List Nat) (hn2 : va_nd perm = true) (hN : ∀ u, perm.map (fun i => (Wr ++ Wp u)[i]?) = (Wn u).map some) (hst2 : res.toList ++ rest = st2)
    (kk : ∀ u, G (L, p, e, R, s, m, args, below, meth, c, A, H0, nL, Q) (kc + mc) (ks + ms) (Wn u) lv (pc + 3) st2) :
    W p L.1 e R s m args below meth c H locs kc ks Q (F0 m pc ls st0) := by
  subst hst2
  intro T hT X'
  have hFc := va_free (wc := Wc) hD hS hA isC hC
  obtain ⟨v, st₀, t, T', Lc, h0, X2, hL, e1, e2, ⟨⟨u, hv, hP1, hD1⟩, hz, hk⟩, stp⟩ := hr T hT X'
  cases hv
  rw [h0, ← e1] at hz hk
  rw [← e1] at hP1
  obtain ⟨hP2, hD2⟩ := va_join (wr := Wr) (w1 := Wp u) hP hD isC isR hC hRr hn1 hdis hk hFc hP1 hD1
  have hS2 : va_S A H0 T'.heap (locs ++ Lc) := ⟨Nat.le_trans hS.1 hz, fun q h1 h2 => by rw [hk q (Nat.lt_of_lt_of_le h1 hS.1) (fun z => h2 (hFc q z))]; exact hS.2.1 q h1 h2, fun q hq => by
    rcases List.mem_append.mp hq with h | h
    · exact hS.2.2 q h
    · exact hFc _ (hL q h)⟩
  obtain ⟨t2, a1, b1⟩ := kk u T'.heap (locs ++ Lc) ls (hP2.sub perm (fm_of_map (hN u))) (hD2.sub perm hn2 (hN u)) hS2 hl T' rfl X2
  exact ⟨t2, stp t2 a1, b1⟩
theorem g_callV {X : XC} {cc : ByteArray} {Ts : List Cond} {own : String} {rm : Room} {nl : Nat} {kc ks : Nat} {Wd : va_W} {lv : List (Nat × Value)} {pc : Nat} (C : Ok X cc Ts own rm nl) {y : MethodName} {ws ws' : List Cond} {bytes : ByteArray} {maxL : Nat} {ret : Option FieldType} {rmc : Room} {mc ms : Nat} {As rest stk st2 : List Value} {Wc : va_W} {res : Option Value} {S : Type} {Wp : S → va_W} {index n : Nat} {b : Nat} {Cn : String} (hM : xM X.1 y ws rmc (.ref b :: As) Wc mc ms res Wp) (hG : GoodIn Ts (wsV own index Cn y ws)) (hw : ws = Cond.code y bytes maxL ret :: ws') (hrc : rmc.cells = mc) (hrs : rmc.slots = ms) (hd : y.cls = Cn ∧ y.cls ≠ "java/lang/invoke/MethodHandle" ∧ y.cls ≠ "java/lang/invoke/VarHandle" ∧ (parseMethodDescriptor y.desc).map (fun d => d.parameters.length) = some n) (hRm : rmc.frames + 1 ≤ rm.frames ∧ 8 + (maxL + 11) + rmc.locals ≤ rm.locals)
    (q0 : Nat) {ci : Nat} {q : vw_C} {fs : List Value} (hcl : vwCl[ci]? = some q) (hq : q.1 = Cn) (hr0 : Wc[q0]? = some (b, .inr (ci, fs)))
    (isC : List Nat) (hn0 : va_nd isC = true) (hC : isC.map (fun i => Wd[i]?) = Wc.map some) (isR : List Nat) {Wr : va_W} (hn1 : va_nd isR = true) (hRr : isR.map (fun i => Wd[i]?) = Wr.map some) (hdis : ∀ i ∈ isR, i ∉ isC) (perm : List Nat) (hn2 : va_nd perm = true) {Wn : S → va_W} (hN : ∀ u, perm.map (fun i => (Wr ++ Wp u)[i]?) = (Wn u).map some) (hst : As.reverse ++ .ref b :: rest = stk) (hst2 : res.toList ++ rest = st2) (hn : As.length = n) (hcat : (rest.map fun v => v.category).sum ≤ 8) (d : decode cc pc = .ok (.invokevirtual index, 3)) (hroom : kc + mc ≤ rm.cells ∧ ks + ms ≤ rm.slots)
    (kk : ∀ u, G X (kc + mc) (ks + ms) (Wn u) lv (pc + 3) st2) : G X kc ks Wd lv pc stk := by
  obtain ⟨L, p, e, R, s, m, args, below, meth, c, A, H0, nL, Q⟩ := X
  obtain ⟨hx, hb, hml, hown, hts, hKK, hA, hR, hnl⟩ := C
  subst hR; subst hst
  intro H locs ls hP hD hS hl
  have hPc := hP.sub (ws' := Wc) isC (fm_of_map hC)
  have hDc := hD.sub (ws' := Wc) isC hn0 hC
  have run := va_runV (As := As) (rest := rest) (g := F0 m pc ls (As.reverse ++ .ref b :: rest)) (cells := kc) (slots := ks) (H := H) (locs := locs) (l := L.1) (e := e) (below := below) (meth := meth) (C := Cn) ⟨hx, hb, hml, hown, hts⟩ (hM H.size) (cwV n hts hG hw hrc hrs hd hRm) ⟨xPc_blind, by subst hq; exact va_recv hKK.1 hPc hcl hr0, fun U hU hW => ⟨rfl, by rw [hU], by rw [hU]; exact hPc, xK_warm hW hKK, hDc.weaken (fun _ _ _ _ => trivial)⟩⟩ rfl hn hl.1 rfl (lv_room hcat) d hroom
  exact g_after run hP hD hS hl hA isC hC isR hRr hn1 hdis perm hn2 hN hst2 kk
theorem g_callS {X : XC} {cc : ByteArray} {Ts : List Cond} {own : String} {rm : Room} {nl : Nat} {kc ks : Nat} {Wd : va_W} {lv : List (Nat × Value)} {pc : Nat} (C : Ok X cc Ts own rm nl) {y : MethodName} {ws ws' : List Cond} {bytes : ByteArray} {maxL : Nat} {ret : Option FieldType} {rmc : Room} {mc ms : Nat} {As rest stk st2 : List Value} {Wc : va_W} {res : Option Value} {S : Type} {Wp : S → va_W} {index n : Nat} (hM : xM X.1 y ws rmc As Wc mc ms res Wp) (hG : GoodIn Ts (va_wsS own index y ws)) (hw : ws = Cond.code y bytes maxL ret :: ws') (hrc : rmc.cells = mc) (hrs : rmc.slots = ms) (hd : y.cls ≠ "java/lang/invoke/MethodHandle" ∧ y.cls ≠ "java/lang/invoke/VarHandle" ∧ (parseMethodDescriptor y.desc).map (fun d => d.parameters.length) = some n) (hRm : rmc.frames + 1 ≤ rm.frames ∧ 8 + (maxL + 11) + rmc.locals ≤ rm.locals)
    (isC : List Nat) (hn0 : va_nd isC = true) (hC : isC.map (fun i => Wd[i]?) = Wc.map some) (isR : List Nat) {Wr : va_W} (hn1 : va_nd isR = true) (hRr : isR.map (fun i => Wd[i]?) = Wr.map some) (hdis : ∀ i ∈ isR, i ∉ isC) (perm : List Nat) (hn2 : va_nd perm = true) {Wn : S → va_W} (hN : ∀ u, perm.map (fun i => (Wr ++ Wp u)[i]?) = (Wn u).map some) (hst : As.reverse ++ rest = stk) (hst2 : res.toList ++ rest = st2) (hn : As.length = n) (hcat : (rest.map fun v => v.category).sum ≤ 8) (d : decode cc pc = .ok (.invokestatic index, 3)) (hroom : kc + mc ≤ rm.cells ∧ ks + ms ≤ rm.slots)
    (kk : ∀ u, G X (kc + mc) (ks + ms) (Wn u) lv (pc + 3) st2) : G X kc ks Wd lv pc stk := by
  obtain ⟨L, p, e, R, s, m, args, below, meth, c, A, H0, nL, Q⟩ := X
  obtain ⟨hx, hb, hml, hown, hts, hKK, hA, hR, hnl⟩ := C
  subst hR; subst hst
  intro H locs ls hP hD hS hl
  have hPc := hP.sub (ws' := Wc) isC (fm_of_map hC)
  have hDc := hD.sub (ws' := Wc) isC hn0 hC
  have run := va_runS (As := As) (rest := rest) (g := F0 m pc ls (As.reverse ++ rest)) (cells := kc) (slots := ks) (H := H) (locs := locs) (l := L.1) (e := e) (below := below) (meth := meth) ⟨hx, hb, hml, hown, hts⟩ (hM H.size) (va_cwS n hts hG hw hrc hrs hd hRm) ⟨xPc_blind, fun U hU hW => ⟨rfl, by rw [hU], by rw [hU]; exact hPc, xK_warm hW hKK, hDc.weaken (fun _ _ _ _ => trivial)⟩⟩ rfl hn hl.1 rfl (lv_room hcat) d hroom
  exact g_after run hP hD hS hl hA isC hC isR hRr hn1 hdis perm hn2 hN hst2 kk
theorem g_callSN {X : XC} {cc : ByteArray} {Ts : List Cond} {own : String} {rm : Room} {nl : Nat} {kc ks : Nat} {Wd : va_W} {lv : List (Nat × Value)} {pc : Nat} (C : Ok X cc Ts own rm nl) {y : MethodName} {ws ws' : List Cond} {bytes : ByteArray} {maxL : Nat} {ret : Option FieldType} {rmc : Room} {mc ms : Nat} {As rest stk st2 : List Value} {Wc : va_W} {res : Option Value} {S : Type} {Wp : S → va_W} {index n : Nat} {host : String} (hlink : ∀ U : State, xK X.1 U → va_Nw (.methodLinkNest own index y host) U) (hst0 : Cond.static y ∈ Ts) (hini : Cond.initialized y.cls ∈ Ts) (hM : xM X.1 y ws rmc As Wc mc ms res Wp) (hG : GoodIn Ts ws) (hw : ws = Cond.code y bytes maxL ret :: ws') (hrc : rmc.cells = mc) (hrs : rmc.slots = ms) (hd : y.cls ≠ "java/lang/invoke/MethodHandle" ∧ y.cls ≠ "java/lang/invoke/VarHandle" ∧ (parseMethodDescriptor y.desc).map (fun d => d.parameters.length) = some n) (hRm : rmc.frames + 1 ≤ rm.frames ∧ 8 + (maxL + 11) + rmc.locals ≤ rm.locals)
    (isC : List Nat) (hn0 : va_nd isC = true) (hC : isC.map (fun i => Wd[i]?) = Wc.map some) (isR : List Nat) {Wr : va_W} (hn1 : va_nd isR = true) (hRr : isR.map (fun i => Wd[i]?) = Wr.map some) (hdis : ∀ i ∈ isR, i ∉ isC) (perm : List Nat) (hn2 : va_nd perm = true) {Wn : S → va_W} (hN : ∀ u, perm.map (fun i => (Wr ++ Wp u)[i]?) = (Wn u).map some) (hst : As.reverse ++ rest = stk) (hst2 : res.toList ++ rest = st2) (hn : As.length = n) (hcat : (rest.map fun v => v.category).sum ≤ 8) (d : decode cc pc = .ok (.invokestatic index, 3)) (hroom : kc + mc ≤ rm.cells ∧ ks + ms ≤ rm.slots)
    (kk : ∀ u, G X (kc + mc) (ks + ms) (Wn u) lv (pc + 3) st2) : G X kc ks Wd lv pc stk := by
  obtain ⟨L, p, e, R, s, m, args, below, meth, c, A, H0, nL, Q⟩ := X
  obtain ⟨hx, hb, hml, hown, hts, hKK, hA, hR, hnl⟩ := C
  subst hR; subst hst
  intro H locs ls hP hD hS hl
  have hPc := hP.sub (ws' := Wc) isC (fm_of_map hC)
  have hDc := hD.sub (ws' := Wc) isC hn0 hC
  have run := va_runSN (As := As) (rest := rest) (g := F0 m pc ls (As.reverse ++ rest)) (cells := kc) (slots := ks) (H := H) (locs := locs) (l := L.1) (e := e) (below := below) (meth := meth) ⟨hx, hb, hml, hown, hts⟩ (hM H.size) ⟨va_cnB n hts hG hw hrc hrs (hlink s hKK) (hts _ hini) hd hRm, hts _ hst0, trivial⟩ ⟨xPc_blind, fun U hU hW => ⟨rfl, by rw [hU], by rw [hU]; exact hPc, xK_warm hW hKK, hDc.weaken (fun _ _ _ _ => trivial)⟩⟩ rfl hn hl.1 rfl (lv_room hcat) d hroom
  exact g_after run hP hD hS hl hA isC hC isR hRr hn1 hdis perm hn2 hN hst2 kk
theorem g_callI {X : XC} {cc : ByteArray} {Ts : List Cond} {own : String} {rm : Room} {nl : Nat} {kc ks : Nat} {Wd : va_W} {lv : List (Nat × Value)} {pc : Nat} (C : Ok X cc Ts own rm nl) {y : MethodName} {ws ws' : List Cond} {bytes : ByteArray} {maxL : Nat} {rmc : Room} {mc ms : Nat} {As rest stk st2 : List Value} {Wc : va_W} {res : Option Value} {S : Type} {Wp : S → va_W} {index n : Nat} {b : Nat} (hM : xM X.1 y ws rmc (.ref b :: As) Wc mc ms res Wp) (hG : GoodIn Ts ws) (hini : Cond.initialized y.cls ∈ Ts) (hml0 : Cond.methodLink own index y ∈ Ts) (him : Cond.instanceMethod y ∈ Ts) (hyn : y.name = "<init>") (hw : ws = Cond.code y bytes maxL none :: ws') (hrc : rmc.cells = mc) (hrs : rmc.slots = ms) (hd : y.cls ≠ "java/lang/invoke/MethodHandle" ∧ y.cls ≠ "java/lang/invoke/VarHandle" ∧ (parseMethodDescriptor y.desc).map (fun d => d.parameters.length) = some n) (hRm : rmc.frames + 1 ≤ rm.frames ∧ 8 + (maxL + 11) + rmc.locals ≤ rm.locals)
    (isC : List Nat) (hn0 : va_nd isC = true) (hC : isC.map (fun i => Wd[i]?) = Wc.map some) (isR : List Nat) {Wr : va_W} (hn1 : va_nd isR = true) (hRr : isR.map (fun i => Wd[i]?) = Wr.map some) (hdis : ∀ i ∈ isR, i ∉ isC) (perm : List Nat) (hn2 : va_nd perm = true) {Wn : S → va_W} (hN : ∀ u, perm.map (fun i => (Wr ++ Wp u)[i]?) = (Wn u).map some) (hst : As.reverse ++ .ref b :: rest = stk) (hst2 : res.toList ++ rest = st2) (hn : As.length = n) (hcat : (rest.map fun v => v.category).sum ≤ 8) (d : decode cc pc = .ok (.invokespecial index, 3)) (hroom : kc + mc ≤ rm.cells ∧ ks + ms ≤ rm.slots)
    (kk : ∀ u, G X (kc + mc) (ks + ms) (Wn u) lv (pc + 3) st2) : G X kc ks Wd lv pc stk := by
  obtain ⟨L, p, e, R, s, m, args, below, meth, c, A, H0, nL, Q⟩ := X
  obtain ⟨hx, hb, hml, hown, hts, hKK, hA, hR, hnl⟩ := C
  subst hR; subst hst
  intro H locs ls hP hD hS hl
  have hPc := hP.sub (ws' := Wc) isC (fm_of_map hC)
  have hDc := hD.sub (ws' := Wc) isC hn0 hC
  have run := va_runI (As := As) (rest := rest) (g := F0 m pc ls (As.reverse ++ .ref b :: rest)) (cells := kc) (slots := ks) (H := H) (locs := locs) (l := L.1) (e := e) (below := below) (meth := meth) ⟨hx, hb, hml, hown, hts⟩ (hM H.size) (cwI n hts hG hw hrc hrs (hts _ hini) (hts _ hml0) (hts _ him) hyn hd hRm) ⟨xPc_blind, fun U hU hW => ⟨rfl, by rw [hU], by rw [hU]; exact hPc, xK_warm hW hKK, hDc.weaken (fun _ _ _ _ => trivial)⟩⟩ rfl hn hl.1 rfl (lv_room hcat) d hroom
  exact g_after run hP hD hS hl hA isC hC isR hRr hn1 hdis perm hn2 hN hst2 kk
theorem g_callIN {X : XC} {cc : ByteArray} {Ts : List Cond} {own : String} {rm : Room} {nl : Nat} {kc ks : Nat} {Wd : va_W} {lv : List (Nat × Value)} {pc : Nat} (C : Ok X cc Ts own rm nl) {y : MethodName} {ws ws' : List Cond} {bytes : ByteArray} {maxL : Nat} {rmc : Room} {mc ms : Nat} {As rest stk st2 : List Value} {Wc : va_W} {res : Option Value} {S : Type} {Wp : S → va_W} {index n : Nat} {b : Nat} {host : String} (hlink : ∀ U : State, xK X.1 U → va_Nw (.methodLinkNest own index y host) U) (hM : xM X.1 y ws rmc (.ref b :: As) Wc mc ms res Wp) (hG : GoodIn Ts ws) (hini : Cond.initialized y.cls ∈ Ts) (him : Cond.instanceMethod y ∈ Ts) (hyn : y.name = "<init>") (hw : ws = Cond.code y bytes maxL none :: ws') (hrc : rmc.cells = mc) (hrs : rmc.slots = ms) (hd : y.cls ≠ "java/lang/invoke/MethodHandle" ∧ y.cls ≠ "java/lang/invoke/VarHandle" ∧ (parseMethodDescriptor y.desc).map (fun d => d.parameters.length) = some n) (hRm : rmc.frames + 1 ≤ rm.frames ∧ 8 + (maxL + 11) + rmc.locals ≤ rm.locals)
    (isC : List Nat) (hn0 : va_nd isC = true) (hC : isC.map (fun i => Wd[i]?) = Wc.map some) (isR : List Nat) {Wr : va_W} (hn1 : va_nd isR = true) (hRr : isR.map (fun i => Wd[i]?) = Wr.map some) (hdis : ∀ i ∈ isR, i ∉ isC) (perm : List Nat) (hn2 : va_nd perm = true) {Wn : S → va_W} (hN : ∀ u, perm.map (fun i => (Wr ++ Wp u)[i]?) = (Wn u).map some) (hst : As.reverse ++ .ref b :: rest = stk) (hst2 : res.toList ++ rest = st2) (hn : As.length = n) (hcat : (rest.map fun v => v.category).sum ≤ 8) (d : decode cc pc = .ok (.invokespecial index, 3)) (hroom : kc + mc ≤ rm.cells ∧ ks + ms ≤ rm.slots)
    (kk : ∀ u, G X (kc + mc) (ks + ms) (Wn u) lv (pc + 3) st2) : G X kc ks Wd lv pc stk := by
  obtain ⟨L, p, e, R, s, m, args, below, meth, c, A, H0, nL, Q⟩ := X
  obtain ⟨hx, hb, hml, hown, hts, hKK, hA, hR, hnl⟩ := C
  subst hR; subst hst
  intro H locs ls hP hD hS hl
  have hPc := hP.sub (ws' := Wc) isC (fm_of_map hC)
  have hDc := hD.sub (ws' := Wc) isC hn0 hC
  have run := va_runIN (As := As) (rest := rest) (g := F0 m pc ls (As.reverse ++ .ref b :: rest)) (cells := kc) (slots := ks) (H := H) (locs := locs) (l := L.1) (e := e) (below := below) (meth := meth) ⟨hx, hb, hml, hown, hts⟩ (hM H.size) ⟨va_cnB n hts hG hw hrc hrs (hlink s hKK) (hts _ hini) hd hRm, hyn, hts _ him⟩ ⟨xPc_blind, fun U hU hW => ⟨rfl, by rw [hU], by rw [hU]; exact hPc, xK_warm hW hKK, hDc.weaken (fun _ _ _ _ => trivial)⟩⟩ rfl hn hl.1 rfl (lv_room hcat) d hroom
  exact g_after run hP hD hS hl hA isC hC isR hRr hn1 hdis perm hn2 hN hst2 kk
theorem g_new {X : XC} {cc : ByteArray} {Ts : List Cond} {own : String} {rm : Room} {nl : Nat} {kc ks : Nat} {Wd : va_W} {lv : List (Nat × Value)} {pc : Nat} {st : List Value} (C : Ok X cc Ts own rm nl) {C0 : String} {T : u_T} {N ci index : Nat} (hin : ∀ w ∈ u_ws C0 T N, w ∈ Ts) (ty : Nat → FieldType) (hty : ∀ k, k < N → parseFieldDescriptor (T k).2.2.1 = some (ty k)) (h1 : Cond.classLink own index C0 ∈ Ts) (h2 : Cond.instantiable C0 N ∈ Ts) (h3 : Cond.initialized C0 ∈ Ts) (hc : vwCl[ci]? = some (C0, T, N)) {fs : List Value} (hfs : ∀ j, j < N → defaultValue (ty j) = vp_V fs j) (hcells : kc + 1 ≤ rm.cells) (hslots : ks + N ≤ rm.slots) (d : decode cc pc = .ok (.new index, 3)) {Wn : Nat → va_W} (hN : ∀ q : Nat, Wd ++ [(q, .inr (ci, fs))] = Wn q) (kk : ∀ q : Nat, G X (kc + 1) (ks + N) (Wn q) lv (pc + 3) (.ref q :: st)) : G X kc ks Wd lv pc st := by
  obtain ⟨L, p, e, R, s, m, args, below, meth, c, A, H0, nL, Q⟩ := X
  obtain ⟨hx, hb, hml, hown, hts, hKK, hA, hR, hnl⟩ := C
  subst hR
  intro H locs ls hP hD hS hl
  exact va_new hx hb hts hin ty hty hown (hts _ h1) (hts _ h2) (hts _ h3) hKK.1 hP hD hS hA hc hfs hcells hslots d (fun q H hP hD hS => kk q H locs ls (by rw [← hN]; exact hP) (by rw [← hN]; exact hD) hS hl)
theorem g_newI {X : XC} {cc : ByteArray} {Ts : List Cond} {own : String} {rm : Room} {nl : Nat} {kc ks : Nat} {Wd : va_W} {lv : List (Nat × Value)} {pc : Nat} {st : List Value} (C : Ok X cc Ts own rm nl) (h1 : Cond.arrayClass .int ∈ Ts) {i : Int32} {n : Nat} (hn : ¬ i < 0) (hi : i.toNatClampNeg = n) (hbytes : n * componentBytes .int ≤ 536870912) (hcells : kc + 1 ≤ rm.cells) (hslots : ks + n ≤ rm.slots) (d : decode cc pc = .ok (.newarray .int, 2)) {Wn : Nat → va_W} (hN : ∀ q : Nat, Wd ++ [(q, .inl (X.1.2.2.1, n, .inl (fun _ => 0)))] = Wn q) (kk : ∀ q : Nat, G X (kc + 1) (ks + n) (Wn q) lv (pc + 2) (.ref q :: st)) : G X kc ks Wd lv pc (.int i :: st) := by
  obtain ⟨L, p, e, R, s, m, args, below, meth, c, A, H0, nL, Q⟩ := X
  obtain ⟨hx, hb, hml, hown, hts, hKK, hA, hR, hnl⟩ := C
  subst hR
  intro H locs ls hP hD hS hl
  refine va_newa (atype := .int) (a0 := (n, .inl (fun _ => 0))) hx hb (hts _ h1) rfl hKK.1 hP hD hS hA (fun cA => rfl) hn hi hbytes hcells hslots d (fun q cA H hK hP hD hS => ?_)
  have e1 : s.vm.findClass ("[" ++ (.int : FieldType).toString) = some L.2.2.1 := (hKK.1.2 0 (L.2.2.1, .int) rfl).2
  have e2 : s.vm.findClass ("[" ++ (.int : FieldType).toString) = some cA := (hK.2 3 (cA, .int) rfl).2
  have e3 : cA = L.2.2.1 := Option.some.inj (e2.symm.trans e1)
  subst e3
  exact kk q H locs ls (by rw [← hN]; exact hP) (by rw [← hN]; exact hD) hS hl
theorem g_newJ {X : XC} {cc : ByteArray} {Ts : List Cond} {own : String} {rm : Room} {nl : Nat} {kc ks : Nat} {Wd : va_W} {lv : List (Nat × Value)} {pc : Nat} {st : List Value} (C : Ok X cc Ts own rm nl) (h1 : Cond.arrayClass .long ∈ Ts) {i : Int32} {n : Nat} (hn : ¬ i < 0) (hi : i.toNatClampNeg = n) (hbytes : n * componentBytes .long ≤ 536870912) (hcells : kc + 1 ≤ rm.cells) (hslots : ks + n ≤ rm.slots) (d : decode cc pc = .ok (.newarray .long, 2)) {Wn : Nat → va_W} (hN : ∀ q : Nat, Wd ++ [(q, .inl (X.1.2.2.2.1, n, .inr (.inl (fun _ => 0))))] = Wn q) (kk : ∀ q : Nat, G X (kc + 1) (ks + n) (Wn q) lv (pc + 2) (.ref q :: st)) : G X kc ks Wd lv pc (.int i :: st) := by
  obtain ⟨L, p, e, R, s, m, args, below, meth, c, A, H0, nL, Q⟩ := X
  obtain ⟨hx, hb, hml, hown, hts, hKK, hA, hR, hnl⟩ := C
  subst hR
  intro H locs ls hP hD hS hl
  refine va_newa (atype := .long) (a0 := (n, .inr (.inl (fun _ => 0)))) hx hb (hts _ h1) rfl hKK.1 hP hD hS hA (fun cA => rfl) hn hi hbytes hcells hslots d (fun q cA H hK hP hD hS => ?_)
  have e1 : s.vm.findClass ("[" ++ (.long : FieldType).toString) = some L.2.2.2.1 := (hKK.1.2 1 (L.2.2.2.1, .long) rfl).2
  have e2 : s.vm.findClass ("[" ++ (.long : FieldType).toString) = some cA := (hK.2 3 (cA, .long) rfl).2
  have e3 : cA = L.2.2.2.1 := Option.some.inj (e2.symm.trans e1)
  subst e3
  exact kk q H locs ls (by rw [← hN]; exact hP) (by rw [← hN]; exact hD) hS hl
theorem g_newZ {X : XC} {cc : ByteArray} {Ts : List Cond} {own : String} {rm : Room} {nl : Nat} {kc ks : Nat} {Wd : va_W} {lv : List (Nat × Value)} {pc : Nat} {st : List Value} (C : Ok X cc Ts own rm nl) (h1 : Cond.arrayClass .boolean ∈ Ts) {i : Int32} {n : Nat} (hn : ¬ i < 0) (hi : i.toNatClampNeg = n) (hbytes : n * componentBytes .boolean ≤ 536870912) (hcells : kc + 1 ≤ rm.cells) (hslots : ks + n ≤ rm.slots) (d : decode cc pc = .ok (.newarray .boolean, 2)) {Wn : Nat → va_W} (hN : ∀ q : Nat, Wd ++ [(q, .inl (X.1.2.2.2.2, n, .inl (fun _ => 0)))] = Wn q) (kk : ∀ q : Nat, G X (kc + 1) (ks + n) (Wn q) lv (pc + 2) (.ref q :: st)) : G X kc ks Wd lv pc (.int i :: st) := by
  obtain ⟨L, p, e, R, s, m, args, below, meth, c, A, H0, nL, Q⟩ := X
  obtain ⟨hx, hb, hml, hown, hts, hKK, hA, hR, hnl⟩ := C
  subst hR
  intro H locs ls hP hD hS hl
  refine va_newa (atype := .boolean) (a0 := (n, .inl (fun _ => 0))) hx hb (hts _ h1) rfl hKK.1 hP hD hS hA (fun cA => rfl) hn hi hbytes hcells hslots d (fun q cA H hK hP hD hS => ?_)
  have e1 : s.vm.findClass ("[" ++ (.boolean : FieldType).toString) = some L.2.2.2.2 := (hKK.1.2 2 (L.2.2.2.2, .boolean) rfl).2
  have e2 : s.vm.findClass ("[" ++ (.boolean : FieldType).toString) = some cA := (hK.2 3 (cA, .boolean) rfl).2
  have e3 : cA = L.2.2.2.2 := Option.some.inj (e2.symm.trans e1)
  subst e3
  exact kk q H locs ls (by rw [← hN]; exact hP) (by rw [← hN]; exact hD) hS hl
theorem enter_i {L : XL} {y : MethodName} {ws ws' : List Cond} {rm : Room} {cc : ByteArray} {maxL : Nat} {av : List Value} {Wd : va_W} {mc ms : Nat} {r : Int32} {S : Type} {Wp : S → va_W} {own : String} (hy : plainName y.cls = true) (hw : ws = Cond.code y cc maxL (some .int) :: ws') (hown : y.cls = own) (hlen : (lg_sl av).length ≤ maxL)
    (body : ∀ X : XC, X.1 = L → Ok X cc ws own rm maxL → (y.name = "<init>" → Oi X) → (∀ (u : S) (lv : List (Nat × Value)) (pc : Nat), decode cc pc = .ok (.ireturn, 1) → G X mc ms (Wp u) lv pc [.int r]) → G X 0 0 Wd (lv_args 0 av) 0 []) : xM L y ws rm av Wd mc ms (some (.int r)) Wp := by
  intro sz
  refine Met.ofW (cc := cc) (maxL := maxL) (ret := (some .int)) hy hw ?_
  intro p e s m args below meth c s₁ B hml hv
  obtain ⟨rfl, hsz, hP, hKK, hD0⟩ := hv
  have hx := B.exec
  have hb := B.bytes
  have hr := B.returns
  have hts := atoms_spec (ws := ws) B.pre
  have hown2 : s.vm.findClass y.cls = some m.cls := findClass_of_methodNamed B.named
  have hlocks := B.notSynchronized
  have hnm : meth.name = y.name := (name_of_methodNamed B.named B.method).1
  subst hsz
  have hD := hD0.self (sz := s.heap.size)
  have hl := lv_entry av (n := maxL) hlen
  rw [lg_entry_eq]
  refine body (L, p, e, (headSpec ws rm).room, s, m, av.toArray, below, meth, c, va_A Wd s.heap.size, s.heap, maxL, MQ below (xQc L Wd (some (.int r)) Wp s.heap.size) av.toArray s mc ms (va_A Wd s.heap.size)) rfl ⟨hx, hb, hml, by rw [← hown]; exact hown2, hts, hKK, fun q h => Or.inr h, rfl, rfl⟩ (fun h => hnm.trans h) (fun u lv pc d => ?_) s.heap [] _ hP hD va_S.rf hl
  intro H locs ls hP hD hS hl
  exact W.iret hx hb hr (fun t ht hW => ⟨⟨u, rfl, by rw [ht]; exact hP, hD⟩, hS.F ht⟩) hS.2.2 d
theorem enter_z {L : XL} {y : MethodName} {ws ws' : List Cond} {rm : Room} {cc : ByteArray} {maxL : Nat} {av : List Value} {Wd : va_W} {mc ms : Nat} {r : Int32} {S : Type} {Wp : S → va_W} {own : String} (hy : plainName y.cls = true) (hw : ws = Cond.code y cc maxL (some .boolean) :: ws') (hown : y.cls = own) (hlen : (lg_sl av).length ≤ maxL)
    (body : ∀ X : XC, X.1 = L → Ok X cc ws own rm maxL → (y.name = "<init>" → Oi X) → (∀ (u : S) (lv : List (Nat × Value)) (pc : Nat), narrow .boolean (.int r) = .int r → decode cc pc = .ok (.ireturn, 1) → G X mc ms (Wp u) lv pc [.int r]) → G X 0 0 Wd (lv_args 0 av) 0 []) : xM L y ws rm av Wd mc ms (some (.int r)) Wp := by
  intro sz
  refine Met.ofW (cc := cc) (maxL := maxL) (ret := (some .boolean)) hy hw ?_
  intro p e s m args below meth c s₁ B hml hv
  obtain ⟨rfl, hsz, hP, hKK, hD0⟩ := hv
  have hx := B.exec
  have hb := B.bytes
  have hr := B.returns
  have hts := atoms_spec (ws := ws) B.pre
  have hown2 : s.vm.findClass y.cls = some m.cls := findClass_of_methodNamed B.named
  have hlocks := B.notSynchronized
  have hnm : meth.name = y.name := (name_of_methodNamed B.named B.method).1
  subst hsz
  have hD := hD0.self (sz := s.heap.size)
  have hl := lv_entry av (n := maxL) hlen
  rw [lg_entry_eq]
  refine body (L, p, e, (headSpec ws rm).room, s, m, av.toArray, below, meth, c, va_A Wd s.heap.size, s.heap, maxL, MQ below (xQc L Wd (some (.int r)) Wp s.heap.size) av.toArray s mc ms (va_A Wd s.heap.size)) rfl ⟨hx, hb, hml, by rw [← hown]; exact hown2, hts, hKK, fun q h => Or.inr h, rfl, rfl⟩ (fun h => hnm.trans h) (fun u lv pc hz d => ?_) s.heap [] _ hP hD va_S.rf hl
  intro H locs ls hP hD hS hl
  exact W.zret hx hb hr hz (fun t ht hW => ⟨⟨u, rfl, by rw [ht]; exact hP, hD⟩, hS.F ht⟩) hS.2.2 d
theorem enter_l {L : XL} {y : MethodName} {ws ws' : List Cond} {rm : Room} {cc : ByteArray} {maxL : Nat} {av : List Value} {Wd : va_W} {mc ms : Nat} {r : Int64} {S : Type} {Wp : S → va_W} {own : String} (hy : plainName y.cls = true) (hw : ws = Cond.code y cc maxL (some .long) :: ws') (hown : y.cls = own) (hlen : (lg_sl av).length ≤ maxL)
    (body : ∀ X : XC, X.1 = L → Ok X cc ws own rm maxL → (y.name = "<init>" → Oi X) → (∀ (u : S) (lv : List (Nat × Value)) (pc : Nat), decode cc pc = .ok (.lreturn, 1) → G X mc ms (Wp u) lv pc [.long r]) → G X 0 0 Wd (lv_args 0 av) 0 []) : xM L y ws rm av Wd mc ms (some (.long r)) Wp := by
  intro sz
  refine Met.ofW (cc := cc) (maxL := maxL) (ret := (some .long)) hy hw ?_
  intro p e s m args below meth c s₁ B hml hv
  obtain ⟨rfl, hsz, hP, hKK, hD0⟩ := hv
  have hx := B.exec
  have hb := B.bytes
  have hr := B.returns
  have hts := atoms_spec (ws := ws) B.pre
  have hown2 : s.vm.findClass y.cls = some m.cls := findClass_of_methodNamed B.named
  have hlocks := B.notSynchronized
  have hnm : meth.name = y.name := (name_of_methodNamed B.named B.method).1
  subst hsz
  have hD := hD0.self (sz := s.heap.size)
  have hl := lv_entry av (n := maxL) hlen
  rw [lg_entry_eq]
  refine body (L, p, e, (headSpec ws rm).room, s, m, av.toArray, below, meth, c, va_A Wd s.heap.size, s.heap, maxL, MQ below (xQc L Wd (some (.long r)) Wp s.heap.size) av.toArray s mc ms (va_A Wd s.heap.size)) rfl ⟨hx, hb, hml, by rw [← hown]; exact hown2, hts, hKK, fun q h => Or.inr h, rfl, rfl⟩ (fun h => hnm.trans h) (fun u lv pc d => ?_) s.heap [] _ hP hD va_S.rf hl
  intro H locs ls hP hD hS hl
  exact W.lret hx hb hr (fun t ht hW => ⟨⟨u, rfl, by rw [ht]; exact hP, hD⟩, hS.F ht⟩) hS.2.2 d
theorem enter_v {L : XL} {y : MethodName} {ws ws' : List Cond} {rm : Room} {cc : ByteArray} {maxL : Nat} {av : List Value} {Wd : va_W} {mc ms : Nat}  {S : Type} {Wp : S → va_W} {own : String} (hy : plainName y.cls = true) (hw : ws = Cond.code y cc maxL none :: ws') (hown : y.cls = own) (hlen : (lg_sl av).length ≤ maxL)
    (body : ∀ X : XC, X.1 = L → Ok X cc ws own rm maxL → (y.name = "<init>" → Oi X) → (∀ (u : S) (lv : List (Nat × Value)) (pc : Nat), decode cc pc = .ok (.return_, 1) → G X mc ms (Wp u) lv pc []) → G X 0 0 Wd (lv_args 0 av) 0 []) : xM L y ws rm av Wd mc ms none Wp := by
  intro sz
  refine Met.ofW (cc := cc) (maxL := maxL) (ret := none) hy hw ?_
  intro p e s m args below meth c s₁ B hml hv
  obtain ⟨rfl, hsz, hP, hKK, hD0⟩ := hv
  have hx := B.exec
  have hb := B.bytes
  have hr := B.returns
  have hts := atoms_spec (ws := ws) B.pre
  have hown2 : s.vm.findClass y.cls = some m.cls := findClass_of_methodNamed B.named
  have hlocks := B.notSynchronized
  have hnm : meth.name = y.name := (name_of_methodNamed B.named B.method).1
  subst hsz
  have hD := hD0.self (sz := s.heap.size)
  have hl := lv_entry av (n := maxL) hlen
  rw [lg_entry_eq]
  refine body (L, p, e, (headSpec ws rm).room, s, m, av.toArray, below, meth, c, va_A Wd s.heap.size, s.heap, maxL, MQ below (xQc L Wd none Wp s.heap.size) av.toArray s mc ms (va_A Wd s.heap.size)) rfl ⟨hx, hb, hml, by rw [← hown]; exact hown2, hts, hKK, fun q h => Or.inr h, rfl, rfl⟩ (fun h => hnm.trans h) (fun u lv pc d => ?_) s.heap [] _ hP hD va_S.rf hl
  intro H locs ls hP hD hS hl
  exact W.vret hx hb hr (fun t ht hW => ⟨⟨u, rfl, by rw [ht]; exact hP, hD⟩, hS.F ht⟩) hS.2.2 d
def xPcS (L : XL) (av : List Value) (Wd : va_W) (b Ln : Nat) (xs : Nat → Int32) (sz : Nat) : Array Value → State → Prop := va_Pc av (fun U => U.heap.size = sz ∧ va_P L.2.1 vwCl Wd U.heap ∧ xK L U ∧ va_D (fun _ => True) Wd ∧ va_X b Ln xs U U.heap ∧ ¬ va_A Wd sz b)
def xMs (L : XL) (y : MethodName) (ws : List Cond) (rm : Room) (av : List Value) (Wd : va_W) (b Ln : Nat) (xs : Nat → Int32) (mc ms : Nat) (res : Option Value) {S : Type} (Wp : S → va_W) : Prop :=
  ∀ sz : Nat, Met L.1 y ws rm (xPcS L av Wd b Ln xs sz) (xQc L Wd res Wp sz) mc ms (va_A Wd sz)
theorem xPcS_blind {L : XL} {av : List Value} {Wd : va_W} {b Ln : Nat} {xs : Nat → Int32} {sz : Nat} : FrameBlind (xPcS L av Wd b Ln xs sz) := fun a U g mk q => by
  obtain ⟨q0, q1, qP, qK, qD, qX, qb⟩ := q
  exact ⟨q0, q1, qP, xK_call qK, qD, va_X.moved (u := U) (U := U.calling g mk a) (Vm.Alike.refl U.vm) qX, qb⟩
/-- fewer cells -/
theorem g_sub {X : XC} {kc ks : Nat} {Wd Wd' : va_W} {lv : List (Nat × Value)} {pc : Nat} {st : List Value} (is : List Nat) (hn : va_nd is = true) (h : is.map (fun i => Wd[i]?) = Wd'.map some) (k : G X kc ks Wd' lv pc st) : G X kc ks Wd lv pc st := by
  obtain ⟨L, p, e, R, s, m, args, below, meth, c, A, H0, nL, Q⟩ := X
  intro H locs ls hP hD hS hl
  exact k H locs ls (hP.sub is (fm_of_map h)) (hD.sub is hn h) hS hl
theorem g_callSs {X : XC} {cc : ByteArray} {Ts : List Cond} {own : String} {rm : Room} {nl : Nat} {kc ks : Nat} {Wd : va_W} {lv : List (Nat × Value)} {pc : Nat} (C : Ok X cc Ts own rm nl) {y : MethodName} {ws ws' : List Cond} {bytes : ByteArray} {maxL : Nat} {ret : Option FieldType} {rmc : Room} {mc ms : Nat} {As rest stk st2 : List Value} {Wc : va_W} {res : Option Value} {S : Type} {Wp : S → va_W} {index n : Nat} {b Ln : Nat} {xs : Nat → Int32} (hs : Os X b Ln xs) (hM : xMs X.1 y ws rmc As Wc b Ln xs mc ms res Wp) (hG : GoodIn Ts (va_wsS own index y ws)) (hw : ws = Cond.code y bytes maxL ret :: ws') (hrc : rmc.cells = mc) (hrs : rmc.slots = ms) (hd : y.cls ≠ "java/lang/invoke/MethodHandle" ∧ y.cls ≠ "java/lang/invoke/VarHandle" ∧ (parseMethodDescriptor y.desc).map (fun d => d.parameters.length) = some n) (hRm : rmc.frames + 1 ≤ rm.frames ∧ 8 + (maxL + 11) + rmc.locals ≤ rm.locals)
    (isC : List Nat) (hn0 : va_nd isC = true) (hC : isC.map (fun i => Wd[i]?) = Wc.map some) (isR : List Nat) {Wr : va_W} (hn1 : va_nd isR = true) (hRr : isR.map (fun i => Wd[i]?) = Wr.map some) (hdis : ∀ i ∈ isR, i ∉ isC) (perm : List Nat) (hn2 : va_nd perm = true) {Wn : S → va_W} (hN : ∀ u, perm.map (fun i => (Wr ++ Wp u)[i]?) = (Wn u).map some) (hst : As.reverse ++ rest = stk) (hst2 : res.toList ++ rest = st2) (hn : As.length = n) (hcat : (rest.map fun v => v.category).sum ≤ 8) (d : decode cc pc = .ok (.invokestatic index, 3)) (hroom : kc + mc ≤ rm.cells ∧ ks + ms ≤ rm.slots)
    (kk : ∀ u, G X (kc + mc) (ks + ms) (Wn u) lv (pc + 3) st2) : G X kc ks Wd lv pc stk := by
  obtain ⟨L, p, e, R, s, m, args, below, meth, c, A, H0, nL, Q⟩ := X
  obtain ⟨hx, hb, hml, hown, hts, hKK, hA, hR, hnl⟩ := C
  subst hR; subst hst
  intro H locs ls hP hD hS hl
  have hPc := hP.sub (ws' := Wc) isC (fm_of_map hC)
  have hDc := hD.sub (ws' := Wc) isC hn0 hC
  obtain ⟨hX0, hbl, hbA⟩ := hs
  have hXH : va_X b Ln xs s H := hX0.kept (hS.2.1 b hbl hbA)
  have hnb : ¬ va_A Wc H.size b := fun h => hbA (va_free hD hS hA isC hC b h)
  have run := va_runS (As := As) (rest := rest) (g := F0 m pc ls (As.reverse ++ rest)) (cells := kc) (slots := ks) (H := H) (locs := locs) (l := L.1) (e := e) (below := below) (meth := meth) ⟨hx, hb, hml, hown, hts⟩ (hM H.size) (va_cwS n hts hG hw hrc hrs hd hRm) ⟨xPcS_blind, fun U hU hW => ⟨rfl, by rw [hU], by rw [hU]; exact hPc, xK_warm hW hKK, hDc.weaken (fun _ _ _ _ => trivial), by rw [hU]; exact va_X.moved hW.alike hXH, hnb⟩⟩ rfl hn hl.1 rfl (lv_room hcat) d hroom
  exact g_after run hP hD hS hl hA isC hC isR hRr hn1 hdis perm hn2 hN hst2 kk
theorem enters_i {L : XL} {y : MethodName} {ws ws' : List Cond} {rm : Room} {cc : ByteArray} {maxL : Nat} {av : List Value} {Wd : va_W} {b Ln : Nat} {xs : Nat → Int32} {mc ms : Nat} {r : Int32} {S : Type} {Wp : S → va_W} {own : String} (hy : plainName y.cls = true) (hw : ws = Cond.code y cc maxL (some .int) :: ws') (hown : y.cls = own) (hlen : (lg_sl av).length ≤ maxL)
    (body : ∀ X : XC, X.1 = L → Ok X cc ws own rm maxL → Os X b Ln xs → (∀ (u : S) (lv : List (Nat × Value)) (pc : Nat), decode cc pc = .ok (.ireturn, 1) → G X mc ms (Wp u) lv pc [.int r]) → G X 0 0 Wd (lv_args 0 av) 0 []) : xMs L y ws rm av Wd b Ln xs mc ms (some (.int r)) Wp := by
  intro sz
  refine Met.ofW (cc := cc) (maxL := maxL) (ret := (some .int)) hy hw ?_
  intro p e s m args below meth c s₁ B hml hv
  obtain ⟨rfl, hsz, hP, hKK, hD0, hXs, hbA⟩ := hv
  have hx := B.exec
  have hb := B.bytes
  have hr := B.returns
  have hts := atoms_spec (ws := ws) B.pre
  have hown2 : s.vm.findClass y.cls = some m.cls := findClass_of_methodNamed B.named
  have hlocks := B.notSynchronized
  subst hsz
  have hD := hD0.self (sz := s.heap.size)
  have hl := lv_entry av (n := maxL) hlen
  rw [lg_entry_eq]
  refine body (L, p, e, (headSpec ws rm).room, s, m, av.toArray, below, meth, c, va_A Wd s.heap.size, s.heap, maxL, MQ below (xQc L Wd (some (.int r)) Wp s.heap.size) av.toArray s mc ms (va_A Wd s.heap.size)) rfl ⟨hx, hb, hml, by rw [← hown]; exact hown2, hts, hKK, fun q h => Or.inr h, rfl, rfl⟩ ⟨hXs, Nat.lt_of_not_le (fun h => hbA (Or.inr h)), hbA⟩ (fun u lv pc d => ?_) s.heap [] _ hP hD va_S.rf hl
  intro H locs ls hP hD hS hl
  exact W.iret hx hb hr (fun t ht hW => ⟨⟨u, rfl, by rw [ht]; exact hP, hD⟩, hS.F ht⟩) hS.2.2 d
theorem enters_z {L : XL} {y : MethodName} {ws ws' : List Cond} {rm : Room} {cc : ByteArray} {maxL : Nat} {av : List Value} {Wd : va_W} {b Ln : Nat} {xs : Nat → Int32} {mc ms : Nat} {r : Int32} {S : Type} {Wp : S → va_W} {own : String} (hy : plainName y.cls = true) (hw : ws = Cond.code y cc maxL (some .boolean) :: ws') (hown : y.cls = own) (hlen : (lg_sl av).length ≤ maxL)
    (body : ∀ X : XC, X.1 = L → Ok X cc ws own rm maxL → Os X b Ln xs → (∀ (u : S) (lv : List (Nat × Value)) (pc : Nat), narrow .boolean (.int r) = .int r → decode cc pc = .ok (.ireturn, 1) → G X mc ms (Wp u) lv pc [.int r]) → G X 0 0 Wd (lv_args 0 av) 0 []) : xMs L y ws rm av Wd b Ln xs mc ms (some (.int r)) Wp := by
  intro sz
  refine Met.ofW (cc := cc) (maxL := maxL) (ret := (some .boolean)) hy hw ?_
  intro p e s m args below meth c s₁ B hml hv
  obtain ⟨rfl, hsz, hP, hKK, hD0, hXs, hbA⟩ := hv
  have hx := B.exec
  have hb := B.bytes
  have hr := B.returns
  have hts := atoms_spec (ws := ws) B.pre
  have hown2 : s.vm.findClass y.cls = some m.cls := findClass_of_methodNamed B.named
  have hlocks := B.notSynchronized
  subst hsz
  have hD := hD0.self (sz := s.heap.size)
  have hl := lv_entry av (n := maxL) hlen
  rw [lg_entry_eq]
  refine body (L, p, e, (headSpec ws rm).room, s, m, av.toArray, below, meth, c, va_A Wd s.heap.size, s.heap, maxL, MQ below (xQc L Wd (some (.int r)) Wp s.heap.size) av.toArray s mc ms (va_A Wd s.heap.size)) rfl ⟨hx, hb, hml, by rw [← hown]; exact hown2, hts, hKK, fun q h => Or.inr h, rfl, rfl⟩ ⟨hXs, Nat.lt_of_not_le (fun h => hbA (Or.inr h)), hbA⟩ (fun u lv pc hz d => ?_) s.heap [] _ hP hD va_S.rf hl
  intro H locs ls hP hD hS hl
  exact W.zret hx hb hr hz (fun t ht hW => ⟨⟨u, rfl, by rw [ht]; exact hP, hD⟩, hS.F ht⟩) hS.2.2 d

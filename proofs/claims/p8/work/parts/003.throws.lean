section ZX
variable {p : Program} {l : Launch} {e : Env} {R : Room} {s : State} {m : MethodId} {args : Array Value} {below : List Frame} {meth : Method} {c : Code}
/-- the end of a method that throws an exception of class X, nothing old written, one cell of six slots made -/
def zTQ (below : List Frame) (s : State) (X : String) : State → Prop := fun t => ∃ (x : Addr) (ce : Cell), t.status = .running ∧ Ended t below (.threw x) ∧ s.WarmedH t.vm ∧ s.sameButNew ({ t with vm := s.vm } : State) [] 1 6 ∧ t.heap[x]? = some ce ∧ ce.vm = .none ∧ s.vm.findClass X = some ce.cls ∧ s.vm.assignable ce.cls ce.cls = true
theorem z_throwEnd {cc : ByteArray} {pc : Nat} {ls : Array Slot} (hx : p.tables.exec = Jvm.exec) (hb : c.code = cc) (hlt : l.stackTraces = false) (hlocks : meth.locks = false) (hemp : c.exceptionTable.isEmpty = true) (hsize : ls.size = c.maxLocals) {own cls : String} {names : List String} {ic : Nat} (hown : s.vm.findClass own = some m.cls) (hcls : Bundle.fit cls = true) (hnames : ∀ n ∈ names, Bundle.fit n = true)
    (h : ∀ a ∈ Bundle.ownAtoms own ic cls names, a.before args s = true) {cX : ClassId} {kX : Class} (h1 : s.vm.findClass cls = some cX) (h2 : s.vm.classes[cX]? = some kX) {q : Nat}
    (d6 : decode cc pc = .ok (.invokespecial ic, 3)) (d9 : decode cc (pc + 3) = .ok (.athrow, 1)) (hRf : names.length + 3 < R.frames) (hRl : 1 + (13 * (names.length + 1) + 42) ≤ R.locals) :
    W p l e R s m args below meth c (s.heap.push { cls := cX, slots := kX.instanceTypes.map defaultValue, vm := .none }) [] 1 6 (zTQ below s cls) (F0 m pc ls [.ref q, .ref s.heap.size, .ref s.heap.size]) := by
  intro T hT X
  have htr : e.platform.stackTraces = false := by rw [X.admits.platform]; exact hlt
  have hcell : T.heap[s.heap.size]? = some (freshCell cX kX) := by rw [hT]; simp
  obtain ⟨U, hst, hrun, hend, hW, hsame, ce, hce, O⟩ := X.ctorThrowS hx htr (own := own) (cls := cls) (names := names) (ic := ic) hown hcls hnames h (fun y hy => by cases hy) h1 h2 hcell (Nat.le_refl _) (msg := .ref q) rfl (g := F0 m pc ls [.ref q, .ref s.heap.size, .ref s.heap.size]) rfl hsize rfl rfl (rest := []) rfl (by rw [hb]; exact d6) (by rw [hb]; exact d9)
    (fun x hx9 => by
      have e0 : c.exceptionTable = #[] := by simpa using hemp
      rw [e0] at hx9
      cases hx9) hRf (by show 2 * 0 + 1 + _ ≤ _; omega) hlocks
  exact ⟨U, hst, s.heap.size, ce, hrun, hend, hW, hsame, hce, O.vm, O.cls, O.self⟩
end ZX
/-- the contract of a method that throws -/
def zMetT (l : Launch) (y : MethodName) (ws : List Cond) (rm : Room) (Pc : Array Value → State → Prop) (X : String) : Prop :=
  MetFree l y (headSpec ws rm) Pc (fun _ _ _ _ _ => True) (fun _ st o t => ∃ (x : Addr) (ce : Cell), o = .threw x ∧ st.WarmedH t.vm ∧ st.sameButNew ({ t with vm := st.vm } : State) [] 1 6 ∧ t.heap[x]? = some ce ∧ ce.vm = .none ∧ st.vm.findClass X = some ce.cls ∧ st.vm.assignable ce.cls ce.cls = true)
theorem zMetT.ofW {l : Launch} {y : MethodName} {ws ws' : List Cond} {rm : Room} {Pc : Array Value → State → Prop} {X : String} {cc : ByteArray} {maxL : Nat} {ret : Option FieldType}
    (hy : plainName y.cls = true) (hw : ws = Cond.code y cc maxL ret :: ws')
    (body : ∀ p e s m args below meth c s₁, BodyLoose p l y (headSpec ws rm) cc maxL ret e s m args below meth c s₁ → c.maxLocals = maxL → c.exceptionTable.isEmpty = true → Pc args s →
      W p l e (headSpec ws rm).room s m args below meth c s.heap [] 0 0 (zTQ below s X) (entryFrame m args maxL)) : zMetT l y ws rm Pc X := by
  refine MetFree.of_bodyS (code := cc) (maxLocals := maxL) (ret := ret) hy ?_ ?_
  · intro args s m h hn
    obtain ⟨meth, c, h1, h2, h3, h4, h5, h6, -, -⟩ := Cond.code_spec hn (atoms_spec (ws := ws) h _ (by rw [hw]; exact List.mem_cons_self))
    exact ⟨meth, c, h1, h2, h3, h4, h5, h6⟩
  · intro p e s m args below meth c s₁ B hml hP _
    have hh0 : s₁.heap = s.heap := by rw [B.state]; rfl
    have hts := atoms_spec (ws := ws) B.pre
    obtain ⟨meth', c', h1, h2, -, -, -, -, h7, -⟩ := Cond.code_spec B.named (hts _ (by rw [hw]; exact List.mem_cons_self))
    have em : meth' = meth := Option.some.inj (h1.symm.trans B.method)
    subst em
    have ec : c' = c := Option.some.inj (h2.symm.trans (Stand.of_body B).code)
    subst ec
    obtain ⟨t, a1, x, ce, b1, b2, b3, b4, b5, b6, b7, b8⟩ := body p e s m args below meth' c' s₁ B hml h7 hP s₁ hh0 (Stand.of_body B)
    exact ⟨t, .threw x, a1, b1, b2, x, ce, rfl, b3, b4, b5, b6, b7, b8⟩
/-! a call that throws, and the row of the caller's own table that catches it -/
section ZY
variable {Q : Handler → Pre} {E : CtlPost} {e : Env} {d : Bool} {acts : List Action} {s : State} {f : JFrame} {a : Addr}
/-- a row that covers the place: its class is linked (cold or warm), then asked -/
theorem z_goLink {x : ExceptionTableEntry} {t : List ExceptionTableEntry} {k : ClassId} {cell : Cell} (hx : covers x f.pc = true) (h0 : x.catchType ≠ 0) (hl : s.vm.ClassLinks e.platform f.method.cls x.catchType k) (hcell : s.heap[a]? = some cell) (hobj : ∀ z, cell.vm ≠ .statics z) (hk : ∃ z, s.vm.classes[cell.cls]? = some z) (hc : ∃ z, s.vm.classes[k]? = some z) :
    wp (findHandler.go f a (x :: t)) Q E e d acts s ↔ (if s.vm.assignable cell.cls k = true then Q (.found x.handlerPc) d acts (s.setVm (s.vm.noted f.method.cls x.catchType (.cls k))) else wp (findHandler.go f a t) Q E e d acts (s.setVm (s.vm.noted f.method.cls x.catchType (.cls k)))) := by
  have hx' := hx
  simp only [covers] at hx'
  obtain ⟨h1, h2⟩ := (resolveClass_links e.toSetting hl).op (op := VmOp.resolveClass f.method.cls x.catchType) rfl
  have hal : s.vm.Alike (s.vm.noted f.method.cls x.catchType (.cls k)) := (Vm.Alike.refl s.vm).noted _ _ _
  obtain ⟨z1, hz1⟩ := hk
  obtain ⟨z2, hz2⟩ := hc
  obtain ⟨z3, hz3, -⟩ := hal.2.2 _ _ hz1
  obtain ⟨z4, hz4, -⟩ := hal.2.2 _ _ hz2
  by_cases hf : s.vm.assignable cell.cls k = true
  · have hf' : (s.vm.noted f.method.cls x.catchType (.cls k)).assignable cell.cls k = true := by rw [hal.assignable]; exact hf
    simp [findHandler.go, hx', h0, h1, h2, hcell, hobj, hz3, hz4, hf, hf', VmOp.dirties, VmOp.acts]
  · have hf2 : s.vm.assignable cell.cls k = false := by simpa using hf
    have hf' : (s.vm.noted f.method.cls x.catchType (.cls k)).assignable cell.cls k = false := by rw [hal.assignable]; exact hf2
    simp [findHandler.go, hx', h0, h1, h2, hcell, hobj, hz3, hz4, hf2, hf', VmOp.dirties, VmOp.acts]
end ZY
/-- what the search finds, and the tables that it leaves -/
def zFT (e : Env) (s : State) (f : JFrame) (a : Addr) (pc : Nat) (vm' : Vm) : Prop := ∀ (Q : Handler → Pre) (E : CtlPost) (d : Bool) (acts : List Action), wp (findHandler f a) Q E e d acts s ↔ Q (.found pc) d acts (s.setVm vm')
theorem z_stepCatch {e : Env} {s : State} {a : Addr} {f : JFrame} {r : List Frame} {pc : Nat} {vm' : Vm} (h : zFT e s f a pc vm') :
    (stepThrowing e s a (.java f :: r)).Is ((s.setVm vm').setFrames (.java { f with pc := pc, stack := [.ref a] } :: r)) [] := by
  simp only [stepThrowing, searchFrame, vmDo]
  generalize hr : Sem.go _ e false [] s = res
  obtain ⟨as, rfl, ha⟩ := Sem.eq_ok_of hr (a := Handler.found pc) (s' := s.setVm vm') (acts' := []) (by simp [h _ _ _ _])
  exact ⟨rfl, ha⟩
theorem z_caughtTo {tb : Tables} {e : Env} {s target : State} {g : JFrame} {c : Code} {below : List Frame} {a : Addr} (h : At s g.method c below) {pc : Nat} {vm' : Vm}
    (hfind : zFT e ((s.setTop g).pushFrame (.throwing a)) g a pc vm') (hrest : Steps tb e below ((s.setVm vm').setTop { g with pc := pc, stack := [.ref a] }) target) :
    Steps tb e below ((s.setTop g).pushFrame (.throwing a)) target := by
  obtain ⟨hgo, hw⟩ := h.throwing a
  refine Steps.head hgo hw ?_
  rw [stepThread_throwing (frames_entered h.top _), (z_stepCatch (s := (s.setTop g).pushFrame (.throwing a)) hfind).1]
  obtain ⟨g0, hg⟩ := Option.isSome_iff_exists.mp h.top
  obtain ⟨r, hr⟩ := State.topJava?_eq_some.mp hg
  have hr' : (s.setVm vm').frames = .java g0 :: r := hr
  have e2 : ∀ (u : State) (F G : List Frame), ((u.setFrames F).setVm vm').setFrames G = (u.setVm vm').setFrames G := fun u F G => by
    have h1 : (u.setFrames F).setVm vm' = (u.setVm vm').setFrames F := rfl
    rw [h1, State.setFrames_setFrames]
  rw [State.setTop_of_frames _ hr'] at hrest
  rw [hr, List.tail_cons, State.pushFrame, e2, State.setTop_of_frames _ hr, e2]
  exact hrest
section ZV
variable {p : Program} {l : Launch} {e : Env} {R : Room} {s : State} {m : MethodId} {args : Array Value} {below : List Frame} {meth : Method} {c : Code} {T : State} {locs : List Loc} {cells slots : Nat}
/-- the first row catches -/
theorem z_catch1 (X : Stand p l e R s m args below meth c T locs cells slots) {a : Addr} {g : JFrame} (hg : g.method = m) {own name : String} (hown : s.vm.findClass own = some m.cls) {x : ExceptionTableEntry} {rest : List ExceptionTableEntry} (htab : c.exceptionTable.toList = x :: rest) (hx : covers x g.pc = true) (h0 : x.catchType ≠ 0)
    (hlink : (Cond.classLink own x.catchType name).before args s = true) {cell : Cell} (hcT : s.vm.findClass name = some cell.cls) (hcell : T.heap[a]? = some cell) (hvm : cell.vm = .none) (hfit : s.vm.assignable cell.cls cell.cls = true) :
    ∃ vm', Stand p l e R s m args below meth c (T.setVm vm') locs cells slots ∧ ∀ target, Steps p.tables e below ((T.setVm vm').setTop { g with pc := x.handlerPc, stack := [.ref a] }) target → Steps p.tables e below ((T.setTop g).pushFrame (.throwing a)) target := by
  have hpl : e.platform.magicAccessors = ({} : Platform).magicAccessors := by rw [X.admits.platform]
  obtain ⟨c', hc', hcl⟩ := Cond.classLink_spec hown hlink e.platform hpl
  cases hcT.symm.trans hc'
  obtain ⟨dk, _, _, kt, hd, _, _, _, _, hkt, _, hopen⟩ := hcl.here
  have hcl0 := X.warmed.classLinks hcl
  have hW' : s.WarmedH (T.vm.noted m.cls x.catchType (.cls cell.cls)) := X.warmed.noted hd hopen (State.rightAt_cls hcl)
  obtain ⟨kt', hkt', -⟩ := X.warmed.alike.2.2 _ _ hkt
  have hfit' : T.vm.assignable cell.cls cell.cls = true := by rw [X.warmed.alike.assignable]; exact hfit
  subst hg
  refine ⟨_, X.noted hW', fun target hrest => z_caughtTo X.here (fun Q E d acts => ?_) hrest⟩
  rw [W.findHandler_eq (s := (T.setTop g).pushFrame (.throwing a)) (show ((T.setTop g).pushFrame (.throwing a)).vm.method? g.method = some meth from X.method') X.code, htab]
  rw [z_goLink (s := (T.setTop g).pushFrame (.throwing a)) (k := cell.cls) (cell := cell) hx h0 hcl0 hcell (fun z hz => by rw [hvm] at hz; cases hz) ⟨kt', hkt'⟩ ⟨kt', hkt'⟩, if_pos (show ((T.setTop g).pushFrame (.throwing a)).vm.assignable cell.cls cell.cls = true from hfit')]
  exact Iff.rfl
/-- the second row catches, the first one covers the place too but takes another class -/
theorem z_catch2 (X : Stand p l e R s m args below meth c T locs cells slots) {a : Addr} {g : JFrame} (hg : g.method = m) {own n1 name : String} (hown : s.vm.findClass own = some m.cls) {x1 x : ExceptionTableEntry} {rest : List ExceptionTableEntry} (htab : c.exceptionTable.toList = x1 :: x :: rest) (hx1 : covers x1 g.pc = true) (h01 : x1.catchType ≠ 0) (hx : covers x g.pc = true) (h0 : x.catchType ≠ 0)
    (hlink1 : (Cond.classLink own x1.catchType n1).before args s = true) (hlink : (Cond.classLink own x.catchType name).before args s = true) {cell : Cell} {k1 : ClassId} (hk1 : s.vm.findClass n1 = some k1) (hno : s.vm.assignable cell.cls k1 = false) (hcT : s.vm.findClass name = some cell.cls) (hcell : T.heap[a]? = some cell) (hvm : cell.vm = .none) (hfit : s.vm.assignable cell.cls cell.cls = true) :
    ∃ vm', Stand p l e R s m args below meth c (T.setVm vm') locs cells slots ∧ ∀ target, Steps p.tables e below ((T.setVm vm').setTop { g with pc := x.handlerPc, stack := [.ref a] }) target → Steps p.tables e below ((T.setTop g).pushFrame (.throwing a)) target := by
  have hpl : e.platform.magicAccessors = ({} : Platform).magicAccessors := by rw [X.admits.platform]
  obtain ⟨c1, hc1, hcl1⟩ := Cond.classLink_spec hown hlink1 e.platform hpl
  cases hk1.symm.trans hc1
  obtain ⟨c', hc', hcl⟩ := Cond.classLink_spec hown hlink e.platform hpl
  cases hcT.symm.trans hc'
  obtain ⟨dk, _, _, kt, hd, _, _, _, _, hkt, _, hopen⟩ := hcl.here
  obtain ⟨dk1, _, _, kt1, hd1, _, _, _, _, hkt1, _, hopen1⟩ := hcl1.here
  subst hg
  have hW1 : s.WarmedH (T.vm.noted g.method.cls x1.catchType (.cls k1)) := X.warmed.noted hd1 hopen1 (State.rightAt_cls hcl1)
  have hW2 : s.WarmedH ((T.vm.noted g.method.cls x1.catchType (.cls k1)).noted g.method.cls x.catchType (.cls cell.cls)) := hW1.noted hd hopen (State.rightAt_cls hcl)
  have a1 := X.warmed.classLinks hcl1
  have a2 := State.WarmedH.classLinks hW1 hcl
  obtain ⟨t1, ht1, -⟩ := X.warmed.alike.2.2 _ _ hkt1
  obtain ⟨t2, ht2, -⟩ := X.warmed.alike.2.2 _ _ hkt
  obtain ⟨t3, ht3, -⟩ := hW1.alike.2.2 _ _ hkt
  have f1 : T.vm.assignable cell.cls k1 = false := by rw [X.warmed.alike.assignable]; exact hno
  have f2 : (T.vm.noted g.method.cls x1.catchType (.cls k1)).assignable cell.cls cell.cls = true := by rw [hW1.alike.assignable]; exact hfit
  have ho : ∀ z, cell.vm ≠ .statics z := fun z hz => by rw [hvm] at hz; cases hz
  refine ⟨_, X.noted hW2, fun target hrest => z_caughtTo X.here (fun Q E d acts => ?_) hrest⟩
  rw [W.findHandler_eq (s := (T.setTop g).pushFrame (.throwing a)) (show ((T.setTop g).pushFrame (.throwing a)).vm.method? g.method = some meth from X.method') X.code, htab]
  rw [z_goLink (s := (T.setTop g).pushFrame (.throwing a)) (k := k1) (cell := cell) hx1 h01 a1 hcell ho ⟨t2, ht2⟩ ⟨t1, ht1⟩, if_neg (show ¬ ((T.setTop g).pushFrame (.throwing a)).vm.assignable cell.cls k1 = true from by show ¬ T.vm.assignable cell.cls k1 = true; rw [f1]; decide)]
  show wp (findHandler.go g a (x :: rest)) Q E e d acts (((T.setTop g).pushFrame (.throwing a)).setVm (T.vm.noted g.method.cls x1.catchType (.cls k1))) ↔ _
  rw [z_goLink (s := ((T.setTop g).pushFrame (.throwing a)).setVm (T.vm.noted g.method.cls x1.catchType (.cls k1))) (k := cell.cls) (cell := cell) hx h0 a2 hcell ho ⟨t3, ht3⟩ ⟨t3, ht3⟩, if_pos (show (((T.setTop g).pushFrame (.throwing a)).setVm (T.vm.noted g.method.cls x1.catchType (.cls k1))).vm.assignable cell.cls cell.cls = true from f2)]
  exact Iff.rfl
/-- a call of a method that throws: up to the note over the caller's frame -/
theorem z_callVT (X : Stand p l e R s m args below meth c T locs cells slots) (hexec : p.tables.exec = Jvm.exec) {own C : String} {index : Nat} {y : MethodName} {bytes : ByteArray} {maxL : Nat} {ret : Option FieldType} {ws : List Cond} {rm : Room} {Pc : Array Value → State → Prop} {Xc : String}
    (hown : s.vm.findClass own = some m.cls) (hlink : (Cond.methodLink own index y).before args s = true) (hinst : (Cond.instanceMethod y).before args s = true) (hsel : (Cond.selects C y y).before args s = true)
    (hcode : (Cond.code y bytes maxL ret).before args s = true) (hy : y.cls ≠ "java/lang/invoke/MethodHandle" ∧ y.cls ≠ "java/lang/invoke/VarHandle")
    (hM : zMetT l y ws rm Pc Xc) (hblind : FrameBlind Pc) (hws : ∀ w ∈ ws, ∀ (a' : Array Value) (U : State), s.WarmedH U.vm → w.before a' U = true) (hcw : Cond.code y bytes maxL ret ∈ ws) (hinit : ∀ (a' : Array Value) (U : State), s.WarmedH U.vm → (Cond.initialized y.cls).before a' U = true)
    (hframes : rm.frames + 1 ≤ R.frames) (hlocals : 8 + (maxL + 11) + rm.locals ≤ R.locals) (hrc : cells + rm.cells ≤ R.cells) (hrs : slots + rm.slots ≤ R.slots)
    {b : Addr} {cellB : Cell} (hcell : T.heap[b]? = some cellB) (hobj : cellB.vm.isStatics = false) (hcls : s.vm.findClass C = some cellB.cls)
    {g : JFrame} (hg : g.method = m) (hsize : g.locals.size = c.maxLocals) {argsL rest : List Value} (hlen : ∀ sig, parseMethodDescriptor y.desc = some sig → argsL.length = sig.parameters.length)
    (hstack : g.stack = argsL.reverse ++ .ref b :: rest) (hW : 2 * g.monitorRoom + (rest.map fun v => v.category).sum ≤ 8) (hdg : decode c.code g.pc = .ok (.invokevirtual index, 3))
    (hpre : ∀ U : State, U.heap = T.heap → s.WarmedH U.vm → Pc (Value.ref b :: argsL).toArray U) :
    ∃ (T2 : State) (x : Addr) (ce : Cell), Stand p l e R s m args below meth c T2 locs (cells + 1) (slots + 6) ∧ T.heap.size ≤ T2.heap.size ∧ (∀ q : Nat, q < T.heap.size → T2.heap[q]? = T.heap[q]?) ∧ T2.heap[x]? = some ce ∧ ce.vm = .none ∧ s.vm.findClass Xc = some ce.cls ∧ s.vm.assignable ce.cls ce.cls = true ∧
      ∀ target, Steps p.tables e below ((T2.setTop { g with stack := rest }).pushFrame (.throwing x)) target → Steps p.tables e below (T.setTop g) target := by
  obtain ⟨mk, methM, hnamed, hmethM, hstM, habM⟩ := Cond.instanceMethod_spec hinst
  obtain ⟨methM', cM, hmethM', -, -, -, -, -, -, hsigM⟩ := Cond.code_spec hnamed hcode
  cases hmethM.symm.trans hmethM'
  obtain ⟨c2, r2, m2, q1, q2, q3, q4, kP, hkP, hkPi⟩ := Cond.selects_spec hsel
  cases hcls.symm.trans q1
  cases (State.methodFound?_of_named hnamed hy).symm.trans q2
  cases hnamed.symm.trans q3
  have hselP : selectMethod e.platform s.vm cellB.cls mk = .method mk := by rw [Launch.admits_selectMethod X.admits]; exact q4
  obtain ⟨vm1, X1, hstep1⟩ := X.invokevirtual hexec hown hlink hnamed hmethM hstM hkP hkPi hy (a := b) (cell := cellB) hcell
    (fun z h => by rw [h] at hobj; cases hobj) hselP hmethM habM hkP hkPi (g := g) hg (argsL := argsL) (rest := rest) (hlen _ hsigM) hstack hdg
  have hPc := hpre (T.setVm vm1) rfl X1.warmed
  have hn := X1.named hnamed
  have hheapU : (T.setVm vm1).heap = T.heap := rfl
  generalize (Value.ref b :: argsL).toArray = av at hPc hstep1
  generalize hgr : ({ g with stack := rest } : JFrame) = gr at hstep1 ⊢
  have hgm : gr.method = m := by rw [← hgr]; exact hg
  have hgl : gr.locals.size = c.maxLocals := by rw [← hgr]; exact hsize
  have hgd : decode c.code gr.pc = .ok (.invokevirtual index, 3) := by rw [← hgr]; exact hdg
  generalize T.setVm vm1 = U at X1 hPc hn hstep1 hheapU
  obtain ⟨methY, cY, hmY, hcY, -, hlY, -, -, -, -⟩ := Cond.code_spec hn (hws _ hcw av U X1.warmed)
  obtain ⟨kY, hkY, -⟩ := className_of_methodNamed hn
  have hinitY : kY.init = .initialized := Cond.initialized_spec (findClass_of_methodNamed hn) hkY (hinit av U X1.warmed)
  have hat : At U gr.method c below := by rw [hgm]; exact X1.here
  have hWr : 2 * gr.monitorRoom + (gr.stack.map fun v => v.category).sum ≤ 8 := by rw [← hgr]; exact hW
  have happ : (headSpec ws rm).appliesLoose y e.platform (U.calling gr mk av) = true :=
    Spec.appliesLoose_calling (g := gr) hat hgd hn hkY hinitY
      (X1.room_calling (g := gr) (R' := (headSpec ws rm).room) hgl hmY hcY hframes (by rw [hlY]; show _ + (maxL + 11) + rm.locals ≤ _; omega) hrc hrs) (atoms_intro fun w hw => hws w hw _ _ X1.warmed)
  obtain ⟨mid, hmid⟩ := hat.above
  have hfr : (U.setTop gr).frames = (.java gr :: mid) ++ below := by rw [State.frames_setTop' gr hat.top, hmid]; rfl
  obtain ⟨o, s2, hsteps, -, hend, hq⟩ := Steps.callFree hM p X1.admits X1.cas X1.clock (acts := []) hfr happ (hblind _ _ _ _ hPc) trivial
  have hq' : ∃ (x : Addr) (ce : Cell), o = .threw x ∧ (U.calling gr mk av).WarmedH s2.vm ∧ (U.calling gr mk av).sameButNew ({ s2 with vm := (U.calling gr mk av).vm } : State) [] 1 6 ∧ s2.heap[x]? = some ce ∧ ce.vm = .none ∧ (U.calling gr mk av).vm.findClass Xc = some ce.cls ∧ (U.calling gr mk av).vm.assignable ce.cls ce.cls = true := hq
  obtain ⟨x, ce, rfl, hW2, hsame, hce, hcv, hcx, hca⟩ := hq'
  rw [State.frames_setTop' gr hat.top] at hend
  obtain ⟨e2, r2, r3, r4, r5, r6⟩ := hsame
  have e3 : s2 = ({ (U.calling gr mk av).setFrames s2.frames with heap := s2.heap, slotsUsed := s2.slotsUsed } : State).setVm s2.vm := by
    have : s2 = ({ s2 with vm := (U.calling gr mk av).vm } : State).setVm s2.vm := rfl
    rw [e2] at this
    exact this
  have hW' : U.WarmedH s2.vm := hW2
  obtain ⟨g0, hg0⟩ := Option.isSome_iff_exists.mp hat.top
  obtain ⟨r, hr⟩ := State.topJava?_eq_some.mp hg0
  have hs2 : s2 = (((({ U with heap := s2.heap, slotsUsed := s2.slotsUsed } : State).setVm s2.vm).setTop gr).pushFrame (.throwing x)) := by
    have hr' : (({ U with heap := s2.heap, slotsUsed := s2.slotsUsed } : State).setVm s2.vm).frames = .java g0 :: r := hr
    have hvt : (({ U with heap := s2.heap, slotsUsed := s2.slotsUsed } : State).setVm s2.vm).topJava?.isSome = true := by rw [State.topJava?_eq_some.mpr ⟨r, hr'⟩]; rfl
    refine e3.trans ?_
    rw [show s2.frames = .throwing x :: .java gr :: U.frames.tail from hend, State.calling_eq hat.top, State.setFrames_setFrames, State.pushFrame, State.frames_setTop' gr hvt, State.setTop_of_frames _ hr', State.setFrames_setFrames, hr', hr]
    rfl
  have hsame' : U.sameButNew ({ U with heap := s2.heap, slotsUsed := s2.slotsUsed } : State) [] 1 6 := by
    refine ⟨?_, r2, r3, r4, r5, r6⟩
    obtain ⟨t, ht, -⟩ := State.frames_cons hr
    show ({ U with heap := s2.heap, slotsUsed := s2.slotsUsed } : State) = { U.setFrames U.frames with heap := s2.heap, slotsUsed := s2.slotsUsed }
    rw [State.setFrames_self ht]
  have hX2 : Stand p l e R s m args below meth c (({ U with heap := s2.heap, slotsUsed := s2.slotsUsed } : State).setVm s2.vm) (locs ++ []) (cells + 1) (slots + 6) :=
    ⟨X1.admits, X1.cas, X1.clock, X1.frames, X1.room, X1.hears, X1.method, X1.code, (X1.here.setHeapUsed s2.heap s2.slotsUsed).setVm hW'.alike, X1.tail, State.WarmedH.trans X1.warmed hW', X1.limits, X1.bytes, X1.same.trans (hsame'.setVm s.vm)⟩
  rw [List.append_nil] at hX2
  refine ⟨_, x, ce, hX2, by rw [← hheapU]; exact r2, fun q hq => ?_, hce, hcv, ?_, ?_, fun target h => hstep1 _ fun acts => by rw [doInvoke_state]; exact (by rw [hs2] at hsteps; exact hsteps.trans h)⟩
  · rw [← hheapU] at hq ⊢
    obtain ⟨c0, hc0⟩ : ∃ c0, U.heap[q]? = some c0 := ⟨_, Array.getElem?_eq_getElem hq⟩
    obtain ⟨c1, hc1, he1, hz1, hs1⟩ := r6 q c0 hc0
    show s2.heap[q]? = U.heap[q]?
    rw [hc0]
    have hc1' : s2.heap[q]? = some c1 := hc1
    rw [hc1', he1]
    have : c1.slots = c0.slots := Array.ext_getElem? (fun i => hs1 i (by simp))
    rw [this]
  · have h9 : U.vm.findClass Xc = some ce.cls := hcx
    rw [X1.warmed.alike.findClass] at h9
    exact h9
  · have h9 : U.vm.assignable ce.cls ce.cls = true := hca
    rw [X1.warmed.alike.assignable] at h9
    exact h9
end ZV
/-! the same as rows of the walk: a call that throws into the caller's own handler; a static method that has a table of handlers is called -/
abbrev zHt (h : ExceptionTableEntry) : Nat × Nat × Nat × Nat := (h.startPc, h.endPc, h.handlerPc, h.catchType)
theorem z_tab1 {t : List ExceptionTableEntry} {a : Nat × Nat × Nat × Nat} (h : t.map zHt = [a]) : ∃ x, t = [x] ∧ zHt x = a := by
  match t, h with
  | [x], h => exact ⟨x, rfl, by simpa using h⟩
theorem z_tab2 {t : List ExceptionTableEntry} {a b : Nat × Nat × Nat × Nat} (h : t.map zHt = [a, b]) : ∃ x y, t = [x, y] ∧ zHt x = a ∧ zHt y = b := by
  match t, h with
  | [x, y], h => exact ⟨x, y, rfl, by simpa using h⟩
theorem z_row {x : ExceptionTableEntry} {a b c d : Nat} (h : zHt x = (a, b, c, d)) : x.startPc = a ∧ x.endPc = b ∧ x.handlerPc = c ∧ x.catchType = d := by
  simpa [zHt] using h
theorem z_cov {x : ExceptionTableEntry} {a b pc : Nat} (h1 : x.startPc = a) (h2 : x.endPc = b) (h : (decide (a ≤ pc) && decide (pc < b)) = true) : covers x pc = true := by
  unfold covers
  rw [h1, h2]
  exact h
section ZW
variable {p : Program} {l : Launch} {e : Env} {R : Room} {s : State} {m : MethodId} {args : Array Value} {below : List Frame} {meth : Method} {c : Code} {H : Heap} {locs : List Loc} {cells slots : Nat} {Q : State → Prop}
variable {pc : Nat} {ls : Array Slot} {rest : List Value} {D : va_G} {cl : List vw_C} {tys : List (ClassId × FieldType)} {A : Nat → Prop} {ws : va_W}
/-- the world stays where only new cells came -/
theorem z_grown {H1 : Heap} (hP : va_P D cl ws H) (hS : va_S A s.heap H locs) (hz : H.size ≤ H1.size) (hk : ∀ q : Nat, q < H.size → H1[q]? = H[q]?) : va_P D cl ws H1 ∧ va_S A s.heap H1 locs :=
  ⟨hP.kept (fun k q hq => hk q.1 (hP k q hq).lt), Nat.le_trans hS.1 hz, fun q h1 h2 => (hk q (Nat.lt_of_lt_of_le h1 hS.1)).trans (hS.2.1 q h1 h2), hS.2.2⟩
/-- what a throwing call asks: the callee's contract, its words, the receiver, the room -/
def zTh (l : Launch) (R : Room) (s : State) (args : Array Value) (H : Heap) (own C : String) (index : Nat) (y : MethodName) (bytes : ByteArray) (maxL : Nat) (ret : Option FieldType) (wy : List Cond) (rm : Room) (Pc : Array Value → State → Prop) (X : String) (b : Nat) (As : List Value) : Prop :=
  zMetT l y wy rm Pc X ∧ CallB R s args own index y bytes maxL ret wy rm 1 6 As.length ∧ (Cond.instanceMethod y).before args s = true ∧ (Cond.selects C y y).before args s = true ∧ (∀ (a' : Array Value) (U : State), s.WarmedH U.vm → (Cond.initialized y.cls).before a' U = true) ∧ PreV s H C b Pc As
theorem z_wthrow {cc : ByteArray} {nL index : Nat} {own C : String} {y : MethodName} {bytes : ByteArray} {maxL : Nat} {ret : Option FieldType} {wy Ts : List Cond} {rm : Room} {Pc : Array Value → State → Prop} {Xc : String} {b : Nat} {As : List Value} (F : CallFix p m c cc nL s args Ts own) (h : zTh l R s args H own C index y bytes maxL ret wy rm Pc Xc b As)
    (hsize : ls.size = nL) (hrest : (rest.map fun v => v.category).sum ≤ 8) (hdg : decode cc pc = .ok (.invokevirtual index, 3)) (hf : cells + 1 ≤ R.cells ∧ slots + 6 ≤ R.slots)
    (kk : ∀ (T2 : State) (x : Addr) (ce : Cell), Stand p l e R s m args below meth c T2 locs (cells + 1) (slots + 6) → H.size ≤ T2.heap.size → (∀ q : Nat, q < H.size → T2.heap[q]? = H[q]?) → T2.heap[x]? = some ce → ce.vm = .none → s.vm.findClass Xc = some ce.cls → s.vm.assignable ce.cls ce.cls = true →
      ∃ t, Steps p.tables e below ((T2.setTop (F0 m pc ls rest)).pushFrame (.throwing x)) t ∧ Q t) : W p l e R s m args below meth c H locs cells slots Q (F0 m pc ls (As.reverse ++ .ref b :: rest)) := by
  obtain ⟨hx, hb, hml, ho, -⟩ := F
  obtain ⟨hM, ⟨hrc, hrs, hfr, hlo, hws, hcw, hcode, hini, hy, hlen, hlk⟩, hin, hse, hini2, hbl, ⟨cellB, hcB, hoB, hclB⟩, hPc⟩ := h
  intro T hT X
  subst hT
  obtain ⟨T2, x, ce, X2, hz, hk, h1, h2, h3, h4, st⟩ := z_callVT X hx ho hlk hin hse hcode hy hM hbl hws hcw hini2 hfr (by omega) (by rw [hrc]; exact hf.1) (by rw [hrs]; exact hf.2) hcB hoB hclB (g := F0 m pc ls (As.reverse ++ .ref b :: rest)) rfl (by rw [hml]; exact hsize) (argsL := As) (rest := rest) (fun sig hs => hlen sig hs) rfl (lv_room hrest) (by rw [hb]; exact hdg) (fun U hU hW => hPc U hU hW)
  obtain ⟨t, a1, b1⟩ := kk T2 x ce X2 hz hk h1 h2 h3 h4
  exact ⟨t, st t a1, b1⟩
/-- .. caught by the first row -/
theorem z_wcatch1 {cc : ByteArray} {nL index : Nat} {own C : String} {y : MethodName} {bytes : ByteArray} {maxL : Nat} {ret : Option FieldType} {wy Ts : List Cond} {rm : Room} {Pc : Array Value → State → Prop} {Xc : String} {b : Nat} {As : List Value} (F : CallFix p m c cc nL s args Ts own) (h : zTh l R s args H own C index y bytes maxL ret wy rm Pc Xc b As)
    (hsize : ls.size = nL) (hrest : (rest.map fun v => v.category).sum ≤ 8) (hdg : decode cc pc = .ok (.invokevirtual index, 3)) (hf : cells + 1 ≤ R.cells ∧ slots + 6 ≤ R.slots)
    {x1 : ExceptionTableEntry} {tl : List ExceptionTableEntry} (htab : c.exceptionTable.toList = x1 :: tl) (hcov : covers x1 pc = true) (h0 : x1.catchType ≠ 0) (hlink : (Cond.classLink own x1.catchType Xc).before args s = true) {hpc : Nat} (hh : x1.handlerPc = hpc)
    (hP : va_P D cl ws H) (hS : va_S A s.heap H locs)
    (kk : ∀ (x : Addr) (H1 : Heap), va_P D cl ws H1 → va_S A s.heap H1 locs → W p l e R s m args below meth c H1 locs (cells + 1) (slots + 6) Q (F0 m hpc ls [.ref x])) : W p l e R s m args below meth c H locs cells slots Q (F0 m pc ls (As.reverse ++ .ref b :: rest)) := by
  subst hh
  refine z_wthrow F h hsize hrest hdg hf (fun T2 x ce X2 hz hk h1 h2 h3 h4 => ?_)
  obtain ⟨vm', X3, st⟩ := z_catch1 X2 (a := x) (g := F0 m pc ls rest) rfl F.2.2.2.1 htab hcov h0 hlink h3 h1 h2 h4
  obtain ⟨g1, g2⟩ := z_grown hP hS hz hk
  obtain ⟨t, a1, b1⟩ := kk x T2.heap g1 g2 (T2.setVm vm') rfl X3
  exact ⟨t, st t a1, b1⟩
/-- .. caught by the second row -/
theorem z_wcatch2 {cc : ByteArray} {nL index : Nat} {own C n1 : String} {y : MethodName} {bytes : ByteArray} {maxL : Nat} {ret : Option FieldType} {wy Ts : List Cond} {rm : Room} {Pc : Array Value → State → Prop} {Xc : String} {b : Nat} {As : List Value} (F : CallFix p m c cc nL s args Ts own) (h : zTh l R s args H own C index y bytes maxL ret wy rm Pc Xc b As)
    (hsize : ls.size = nL) (hrest : (rest.map fun v => v.category).sum ≤ 8) (hdg : decode cc pc = .ok (.invokevirtual index, 3)) (hf : cells + 1 ≤ R.cells ∧ slots + 6 ≤ R.slots)
    {x1 x2 : ExceptionTableEntry} {tl : List ExceptionTableEntry} (htab : c.exceptionTable.toList = x1 :: x2 :: tl) (hcov1 : covers x1 pc = true) (h01 : x1.catchType ≠ 0) (hcov : covers x2 pc = true) (h0 : x2.catchType ≠ 0) (hlink1 : (Cond.classLink own x1.catchType n1).before args s = true) (hlink : (Cond.classLink own x2.catchType Xc).before args s = true) {hpc : Nat} (hh : x2.handlerPc = hpc)
    (hno : va_Nc Xc n1 s) (hP : va_P D cl ws H) (hS : va_S A s.heap H locs)
    (kk : ∀ (x : Addr) (H1 : Heap), va_P D cl ws H1 → va_S A s.heap H1 locs → W p l e R s m args below meth c H1 locs (cells + 1) (slots + 6) Q (F0 m hpc ls [.ref x])) : W p l e R s m args below meth c H locs cells slots Q (F0 m pc ls (As.reverse ++ .ref b :: rest)) := by
  subst hh
  refine z_wthrow F h hsize hrest hdg hf (fun T2 x ce X2 hz hk h1 h2 h3 h4 => ?_)
  have hpl : e.platform.magicAccessors = ({} : Platform).magicAccessors := by rw [X2.admits.platform]
  obtain ⟨k1, hk1, -⟩ := Cond.classLink_spec F.2.2.2.1 hlink1 e.platform hpl
  obtain ⟨c9, t9, a1, a2, a3⟩ := hno
  cases h3.symm.trans a1
  cases hk1.symm.trans a2
  obtain ⟨vm', X3, st⟩ := z_catch2 X2 (a := x) (g := F0 m pc ls rest) rfl F.2.2.2.1 htab hcov1 h01 hcov h0 hlink1 hlink hk1 a3 h3 h1 h2 h4
  obtain ⟨g1, g2⟩ := z_grown hP hS hz hk
  obtain ⟨t, a1, b1⟩ := kk x T2.heap g1 g2 (T2.setVm vm') rfl X3
  exact ⟨t, st t a1, b1⟩
/-- a static method with handlers is called -/
theorem z_runSW {y : MethodName} {bytes cc : ByteArray} {maxL nL mc ms n index : Nat} {ret : Option FieldType} {hd : List (Nat × Nat × Nat × Nat)} {wy : List Cond} {rm : Room} {Pc : Array Value → State → Prop} {Qc : Array Value → State → Outcome → State → Prop} {free : Addr → Prop} {Ts : List Cond} {own : String} {As : List Value} {g : JFrame}
    (F : CallFix p m c cc nL s args Ts own) (hM : Met l y wy rm Pc Qc mc ms free) (hrc : rm.cells = mc) (hrs : rm.slots = ms) (hR : rm.frames + 1 ≤ R.frames ∧ 8 + (maxL + 11) + rm.locals ≤ R.locals) (hws : ∀ w ∈ wy, ∀ (a' : Array Value) (U : State), s.WarmedH U.vm → w.before a' U = true) (hcw : Cond.codeWith y bytes maxL ret hd ∈ wy) (hcode : (Cond.codeWith y bytes maxL ret hd).before args s = true)
    (hini : ∀ (a' : Array Value) (U : State), s.WarmedH U.vm → (Cond.initialized y.cls).before a' U = true) (hini0 : (Cond.initialized y.cls).before args s = true) (hy : y.cls ≠ "java/lang/invoke/MethodHandle" ∧ y.cls ≠ "java/lang/invoke/VarHandle") (hlen : ∀ sig, parseMethodDescriptor y.desc = some sig → n = sig.parameters.length) (hlk : (Cond.methodLink own index y).before args s = true) (hstt : (Cond.static y).before args s = true) (hp : PreS s H Pc As)
    (hg : g.method = m) (hn : As.length = n) (hsize : g.locals.size = nL) (hstack : g.stack = As.reverse ++ rest) (hW : 2 * g.monitorRoom + (rest.map fun v => v.category).sum ≤ 8) (hdg : decode cc g.pc = .ok (.invokestatic index, 3)) (hf : cells + mc ≤ R.cells ∧ slots + ms ≤ R.slots) :
    va_Run p l e R s m args below meth c H locs cells slots mc ms g rest (Qc As.toArray) free := by
  have hK : Back l R p e below s args y 3 8 (PreOf R mc ms Pc) (PostOf Qc mc ms free) := va_backW (hh := hd) hM hp.1 hrc hrs hR.1 hR.2 hws hcw hini
  obtain ⟨hx, hb, hml, ho, -⟩ := F
  intro T hT X
  obtain ⟨mk, methM, cM, hnamed, hmethM, -, -, -, -, -, -, hsigM⟩ := Cond.codeWith_spec hcode
  have hstatic : methM.isStatic = true := Cond.static_spec hnamed hmethM hstt
  obtain ⟨kP, hkP, -⟩ := className_of_methodNamed hnamed
  have hinitP : kP.init = .initialized := Cond.initialized_spec (findClass_of_methodNamed hnamed) hkP hini0
  obtain ⟨vm1, X1, hstep1⟩ := X.invokestatic hx ho hlk hnamed hmethM hstatic hkP hinitP hy (g := g) hg (argsL := As) (rest := rest) (hn.trans (hlen _ hsigM)) hstack (by rw [hb]; exact hdg)
  obtain ⟨v, ⟨U', l2, c2, s2⟩, X', ⟨g', mk', t, L, e1, e2, hq, h1, hL, h2, h3⟩, hsteps⟩ := hK m meth c ⟨T.setVm vm1, locs, cells, slots⟩ { g with stack := rest } (.invokestatic index) mk As.toArray X1 hg (by rw [hml]; exact hsize) (by rw [hb]; exact hdg) hW (X1.named hnamed) ⟨hf.1, hf.2, hp.2 (T.setVm vm1) hT X1.warmed⟩
  dsimp only [Pt.U, Pt.locs, Pt.cells, Pt.slots] at X' e1 e2 h1 h2 h3 hsteps
  subst h1; subst h2; subst h3
  exact ⟨v, (T.setVm vm1).calling g' mk' As.toArray, t, U', L, hT, X', hL, e1, e2, hq, fun target h => hstep1 _ fun acts => by rw [doInvoke_state]; exact hsteps.trans h⟩
theorem z_runL {y : MethodName} {bytes cc : ByteArray} {maxL nL mc ms n index : Nat} {ret : Option FieldType} {hd : List (Nat × Nat × Nat × Nat)} {wy ws' : List Cond} {rm : Room} {Pc : Array Value → State → Prop} {Qc : Array Value → State → Outcome → State → Prop} {free : Addr → Prop} {Ts : List Cond} {own : String} {As : List Value} {g : JFrame}
    (F : CallFix p m c cc nL s args Ts own) (hM : Met l y wy rm Pc Qc mc ms free) (ht : ∀ w ∈ Ts, w.before args s = true) (hG : GoodIn Ts wy) (hw : wy = Cond.codeWith y bytes maxL ret hd :: ws') (hrc : rm.cells = mc) (hrs : rm.slots = ms) (hR : rm.frames + 1 ≤ R.frames ∧ 8 + (maxL + 11) + rm.locals ≤ R.locals)
    (hini : (Cond.initialized y.cls).before args s = true) (hdd : y.cls ≠ "java/lang/invoke/MethodHandle" ∧ y.cls ≠ "java/lang/invoke/VarHandle" ∧ (parseMethodDescriptor y.desc).map (fun d => d.parameters.length) = some n) (hlk : (Cond.methodLink own index y).before args s = true) (hstt : (Cond.static y).before args s = true) (hp : PreS s H Pc As)
    (hg : g.method = m) (hn : As.length = n) (hsize : g.locals.size = nL) (hstack : g.stack = As.reverse ++ rest) (hW : 2 * g.monitorRoom + (rest.map fun v => v.category).sum ≤ 8) (hdg : decode cc g.pc = .ok (.invokestatic index, 3)) (hf : cells + mc ≤ R.cells ∧ slots + ms ≤ R.slots) :
    va_Run p l e R s m args below meth c H locs cells slots mc ms g rest (Qc As.toArray) free := by
  have hc : Cond.codeWith y bytes maxL ret hd ∈ wy := by rw [hw]; exact List.mem_cons_self
  refine z_runSW F hM hrc hrs hR (pay_in ht hG) hc (ht _ (hG _ hc).1) (fun a' U h => word_at h (Or.inl rfl) hini) hini ⟨hdd.1, hdd.2.1⟩ (n := n) (fun sig h => ?_) hlk hstt hp hg hn hsize hstack hW hdg hf
  have h2 := hdd.2.2
  rw [h] at h2
  exact (Option.some.inj h2).symm
end ZW

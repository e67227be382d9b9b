/-! rows of my own over the kit: an object's contents by slots, a call in one row -/
def zu (f : Nat → Int32) (k : Nat) (x : Int32) : Nat → Int32 := fun j => bif Nat.beq j k then x else f j
def zul (f : Nat → Int64) (k : Nat) (x : Int64) : Nat → Int64 := fun j => bif Nat.beq j k then x else f j
def zra (ad : Nat → Nat) (n : Nat) : Nat → Option Nat := fun j => bif Nat.blt j n then some (ad j) else none
def zb (x : Int32) : Prop := x = 0 ∨ x = 1
def zc (x : Int32) : Prop := ∃ q : Nat, q < 65536 ∧ x = nI q
theorem zb_n {x : Int32} (h : zb x) : narrow .boolean (.int x) = .int x := by rcases h with rfl | rfl <;> decide
theorem zb_f {x : Int32} (h : zb x) : fits .boolean (.int x) = true := by rcases h with rfl | rfl <;> decide
theorem zc_n {x : Int32} (h : zc x) : narrow .char (.int x) = .int x := by obtain ⟨q, hq, rfl⟩ := h; exact (pk_charN hq).1
theorem zc_f {x : Int32} (h : zc x) : fits .char (.int x) = true := by obtain ⟨q, hq, rfl⟩ := h; exact (pk_charN hq).2
theorem z4 {j : Nat} (h : j < 4) : j = 0 ∨ j = 1 ∨ j = 2 ∨ j = 3 := by omega
def zby (x : Int32) : Prop := narrow .byte (.int x) = .int x
theorem zby_n {x : Int32} (h : zby x) : narrow .byte (.int x) = .int x := h
theorem z_ad4 (q0 q1 q2 q3 : Nat) : ∃ ad : Nat → Nat, ad 0 = q0 ∧ ad 1 = q1 ∧ ad 2 = q2 ∧ ad 3 = q3 ∧ va_up (va_up (va_up (va_up (fun _ => none) 0 (some q0)) 1 (some q1)) 2 (some q2)) 3 (some q3) = zra ad 4 := by
  refine ⟨fun j => if j = 0 then q0 else if j = 1 then q1 else if j = 2 then q2 else q3, rfl, rfl, rfl, rfl, ?_⟩
  funext j
  match j with
  | 0 => rfl
  | 1 => rfl
  | 2 => rfl
  | 3 => rfl
  | j + 4 =>
    have h : Nat.blt (j + 4) 4 = false := by
      cases hb : Nat.blt (j + 4) 4 with
      | false => rfl
      | true => exact absurd (Nat.blt_eq.mp hb) (by omega)
    simp [va_up, zra, h]
theorem z_dbl {n : Nat} (h : n * 2 ≤ 4096) : ¬ nI n * (2 : Int32) < 0 ∧ (nI n * (2 : Int32)).toNatClampNeg = n * 2 := by
  have e : nI n * (2 : Int32) = nI (n * 2) := pk_mul n 2
  rw [e]
  exact ⟨nI_pos (by omega), nI_clamp (by omega)⟩
def zmax (x y : Int32) : Int32 := if x < y then y else x
def zmin (x y : Int32) : Int32 := if y < x then y else x
def zabs (x : Int32) : Int32 := if 0 ≤ x then x else 0 - x
/-- what holds all through a method's body -/
def zC (p : Program) (s : State) (m : MethodId) (args : Array Value) (meth : Method) (c : Code) (cc : ByteArray) (ret : Option FieldType) (nL : Nat) (own : String) : Prop :=
  p.tables.exec = Jvm.exec ∧ c.code = cc ∧ meth.sig.returnType = ret ∧ c.maxLocals = nL ∧ s.vm.findClass own = some m.cls ∧ (∀ w ∈ zT, w.before args s = true) ∧ meth.locks = false
/-- a method's end: its cells, by what it leaves in them -/
def zB {S : Type} (D : va_G) (cl : List vw_C) (tys : List (ClassId × FieldType)) (A : Nat → Prop) (w1 : S → va_W) (u : S) (t : State) : Prop := va_P D cl (w1 u) t.heap ∧ va_K D cl tys t ∧ va_D A (w1 u)
/-! the environment: links between nest mates, the table of powers of ten -/
abbrev zG : Type := Nat × (Nat → Nat) × (Nat → Nat) × Option Nat
theorem zNw_warm {w : Cond} {s U : State} (hW : s.WarmedH U.vm) (hn : zIsNest w = true) (h : va_Nw w s) : va_Nw w U := by
  cases w <;> first | exact va_Nw.warmF hW h | exact va_Nw.warmM hW h | (simp [zIsNest] at hn)
theorem zNw_same {w : Cond} {u U : State} (hn : zIsNest w = true) (e : u.vm = U.vm) (h : va_Nw w u) : va_Nw w U := by
  cases w <;> first | exact va_Nw.same rfl e h | (simp [zIsNest] at hn)
def zTens (j : Nat) : Int64 := ([1, 10, 100, 1000, 10000, 100000, 1000000, 10000000, 100000000, 1000000000, 10000000000, 100000000000, 1000000000000, 10000000000000, 100000000000000, 1000000000000000, 10000000000000000, 100000000000000000, 1000000000000000000] : List Int64).getD j 0
/-! a throw out of a method of ours: the exception's constructor and athrow, by the library's law; what it asks of the tables is carried along -/
abbrev zIAE : String := "java/lang/IllegalArgumentException"
abbrev zISE : String := "java/lang/IllegalStateException"
abbrev zUp : List String := ["java/lang/RuntimeException", "java/lang/Exception"]
def zXall : List Cond := Bundle.ownAtoms "NumberDress" 52 zIAE zUp ++ Bundle.ownAtoms "NumberDress" 63 zISE zUp
def zXp (w : Cond) : Bool := w.onTables && w.keepsFace
def zXr (w : Cond) : Bool := match w with
  | .laysStatic "java/lang/Throwable" "UNASSIGNED_STACK" "[Ljava/lang/StackTraceElement;" => true
  | .laysStatic "java/lang/Throwable" "SUPPRESSED_SENTINEL" "Ljava/util/List;" => true
  | .isRef (.static "java/lang/Throwable" "UNASSIGNED_STACK" "[Ljava/lang/StackTraceElement;") => true
  | .isRef (.static "java/lang/Throwable" "SUPPRESSED_SENTINEL" "Ljava/util/List;") => true
  | _ => false
theorem zXkey : ∀ w ∈ zXall, (zXp w || zXr w) = true := by decide +kernel
theorem zZ_eval {C n d : String} {v : Value} {A : Nat → Prop} {U : State} (h : va_Z C n d v A U U.heap) (a : Array Value) : (Term.static C n d).eval a U none [] U = some v := by
  obtain ⟨cf, kf, fi, f, ad, cell, h1, h2, h3, h4, h5, h6, h7, h8⟩ := h
  have hk : cell.vm ≠ .unknown := fun e => by rw [e] at h6; cases h6
  simp [Term.eval, State.fieldNamed?, h1, h2, h4, h5, h6, h7, hk]
theorem zZ_ref {C n d : String} {o : Option Nat} {A : Nat → Prop} {U : State} (h : va_Z C n d (va_rf o) A U U.heap) (a : Array Value) : (Cond.isRef (.static C n d)).before a U = true := by
  have e := zZ_eval h a
  cases o <;> simp [Cond.before, Cond.holds, Cond.value, e, va_rf]
/-- a static field's place, whose cell nobody of ours writes -/
def zL (C n d : String) (A : Nat → Prop) (U : State) (H : Heap) : Prop := ∃ c k i f a cell, U.vm.findClass C = some c ∧ U.fieldFound? C n d = some (c, k, i, f) ∧ f.isStatic = true ∧ k.statics = some a ∧ H[a]? = some cell ∧ cell.vm.isStatics = true ∧ cell.cls = c ∧ f.slot < cell.slots.size ∧ k.staticTypes[f.slot]? = some f.type ∧ ¬ A a
theorem zL.moved {C n d : String} {A : Nat → Prop} {u U : State} {H : Heap} (hvm : u.vm.Alike U.vm) (h : zL C n d A u H) : zL C n d A U H := by
  obtain ⟨c, k, i, f, a, cell, h1, h2, h3, h4, h5, h6, h7, h8, h9, h10⟩ := h
  obtain ⟨k', hi', he⟩ := State.fieldFound?_setVm hvm h2
  exact ⟨c, k', i, f, a, cell, by rw [hvm.findClass]; exact h1, hi', h3, by rw [he]; exact h4, h5, h6, h7, h8, by rw [he]; exact h9, h10⟩
theorem zL.kept {C n d : String} {A : Nat → Prop} {U : State} {H H1 : Heap} (h : zL C n d A U H) (hq : ∀ a : Nat, a < H.size → ¬ A a → H1[a]? = H[a]?) : zL C n d A U H1 := by
  obtain ⟨c, k, i, f, a, cell, h1, h2, h3, h4, h5, h6, h7, h8, h9, h10⟩ := h
  exact ⟨c, k, i, f, a, cell, h1, h2, h3, h4, by rw [hq a (Array.getElem?_eq_some_iff.mp h5).1 h10]; exact h5, h6, h7, h8, h9, h10⟩
theorem zL.narrow {C n d : String} {A B : Nat → Prop} {U : State} {H : Heap} (h : zL C n d A U H) (hAB : ∀ q, B q → A q) : zL C n d B U H := by
  obtain ⟨c, k, i, f, a, cell, h1, h2, h3, h4, h5, h6, h7, h8, h9, h10⟩ := h
  exact ⟨c, k, i, f, a, cell, h1, h2, h3, h4, h5, h6, h7, h8, h9, fun z => h10 (hAB a z)⟩
theorem zL.word {C n d : String} {A : Nat → Prop} {U : State} (h : zL C n d A U U.heap) (a : Array Value) : (Cond.laysStatic C n d).before a U = true := by
  obtain ⟨c, k, i, f, ad, cell, h1, h2, h3, h4, h5, h6, h7, h8, h9, h10⟩ := h
  simp [Cond.before, Cond.holds, Cond.value, h1, h2, h3, h4, h5, h6, h7, h8, h9]
/-- what a throw needs of the machine -/
def zX (A : Nat → Prop) (U : State) : Prop := (∀ a : Array Value, ∀ w ∈ zXall.filter zXp, w.before a U = true) ∧ ∃ o1 o2 : Option Nat, va_Z "java/lang/Throwable" "UNASSIGNED_STACK" "[Ljava/lang/StackTraceElement;" (va_rf o1) A U U.heap ∧ va_Z "java/lang/Throwable" "SUPPRESSED_SENTINEL" "Ljava/util/List;" (va_rf o2) A U U.heap ∧ zL "java/lang/Throwable" "UNASSIGNED_STACK" "[Ljava/lang/StackTraceElement;" A U U.heap ∧ zL "java/lang/Throwable" "SUPPRESSED_SENTINEL" "Ljava/util/List;" A U U.heap ∧ va_Nc zISE zIAE U
theorem zX.nc {A : Nat → Prop} {U : State} (h : zX A U) : va_Nc zISE zIAE U := by
  obtain ⟨h1, o1, o2, h2, h3, l2, l3, nc⟩ := h
  exact nc
theorem zX.all {A : Nat → Prop} {U : State} (h : zX A U) (a : Array Value) : ∀ w ∈ zXall, w.before a U = true := by
  intro w hw
  obtain ⟨h1, o1, o2, h2, h3, l2, l3, nc⟩ := h
  have hk := zXkey w hw
  rw [Bool.or_eq_true] at hk
  rcases hk with hk | hk
  · exact h1 a w (List.mem_filter.mpr ⟨hw, hk⟩)
  · unfold zXr at hk
    split at hk
    · exact l2.word a
    · exact l3.word a
    · exact zZ_ref h2 a
    · exact zZ_ref h3 a
    · cases hk
theorem zX.calling {A : Nat → Prop} {U : State} {gg : JFrame} {mk : MethodId} {a : Array Value} (h : zX A U) : zX A (U.calling gg mk a) := by
  obtain ⟨h1, o1, o2, h2, h3, l2, l3, nc⟩ := h
  refine ⟨fun b w hw => ?_, o1, o2, va_Z.moved (u := U) (U := U.calling gg mk a) (Vm.Alike.refl U.vm) h2, va_Z.moved (u := U) (U := U.calling gg mk a) (Vm.Alike.refl U.vm) h3, zL.moved (u := U) (U := U.calling gg mk a) (Vm.Alike.refl U.vm) l2, zL.moved (u := U) (U := U.calling gg mk a) (Vm.Alike.refl U.vm) l3, va_Nc.moved (u := U) (U := U.calling gg mk a) (Vm.Alike.refl U.vm) nc⟩
  have hp := (List.mem_filter.mp hw).2
  unfold zXp at hp
  rw [Bool.and_eq_true] at hp
  exact va_tabs (A := b) hp.1 (u := U) rfl (h1 b w hw)
theorem zX.call {A A' : Nat → Prop} {s U : State} {H : Heap} {locs : List Loc} (h : zX A s) (hS : va_S A s.heap H locs) (hAA : ∀ q, A' q → A q) (hU : U.heap = H) (hW : s.WarmedH U.vm) : zX A' U := by
  subst hU
  obtain ⟨h1, o1, o2, h2, h3, l2, l3, nc⟩ := h
  refine ⟨fun b w hw => ?_, o1, o2, (va_Z.moved hW.alike (h2.kept hS.2.1)).narrow hAA, (va_Z.moved hW.alike (h3.kept hS.2.1)).narrow hAA, (zL.moved hW.alike (l2.kept hS.2.1)).narrow hAA, (zL.moved hW.alike (l3.kept hS.2.1)).narrow hAA, va_Nc.moved hW.alike nc⟩
  have hp := (List.mem_filter.mp hw).2
  unfold zXp at hp
  rw [Bool.and_eq_true] at hp
  have h4 : w.before b (s.setVm U.vm) = true := Cond.before_shiftedFace (State.Shifted.of_warmed hW) w hp.2 (h1 b w hw)
  exact va_tabs (A := b) hp.1 (u := s.setVm U.vm) rfl h4
def zsB (i : Nat) : List Int32 := (zSt.getD i ("", 0, "", [])).2.2.2
def zsn (i : Nat) : Nat := (zsB i).length
def zsb (i j : Nat) : Int32 := (zsB i).getD j 0
def zSs (g : zG) (A : Nat → Prop) (U : State) (i : Nat) : Prop := vk_R (zSt.getD i ("", 0, "", [])).1 (zSt.getD i ("", 0, "", [])).2.1 (zSt.getD i ("", 0, "", [])).2.2.1 (g.2.1 i) U ∧ va_O "java/lang/String" (g.2.1 i) A U U.heap ∧ va_OF "java/lang/String" "coder" "B" (.int 0) (g.2.1 i) A U U.heap ∧ va_OF "java/lang/String" "value" "[B" (.ref (g.2.2.1 i)) (g.2.1 i) A U U.heap ∧ va_T .byte (g.2.2.1 i) (zsn i) (fun j => .int (zsb i j)) A U U.heap
def zE (g : zG) (A : Nat → Prop) (U : State) : Prop := (∀ w ∈ zNs, va_Nw w U) ∧ (va_Z "NumberDress" "TENS" "[J" (.ref g.1) A U U.heap ∧ va_T .long g.1 19 (fun j => .long (zTens j)) A U U.heap) ∧ va_Z "java/lang/String" "COMPACT_STRINGS" "Z" (.int 1) A U U.heap ∧ va_Z "jdk/internal/util/Preconditions" "SIOOBE_FORMATTER" "Ljava/util/function/BiFunction;" (va_rf g.2.2.2) A U U.heap ∧ (∀ i, i < nZS → zSs g A U i) ∧ va_AO "NumberDress$Section" U ∧ zX A U
section ZEn
variable {g : zG} {A : Nat → Prop} {U : State}
theorem zE.nest (h : zE g A U) {w : Cond} (hw : w ∈ zNs) : va_Nw w U := h.1 w hw
theorem zE.tens (h : zE g A U) : va_Z "NumberDress" "TENS" "[J" (.ref g.1) A U U.heap ∧ va_T .long g.1 19 (fun j => .long (zTens j)) A U U.heap := h.2.1
theorem zE.compact (h : zE g A U) : va_Z "java/lang/String" "COMPACT_STRINGS" "Z" (.int 1) A U U.heap := h.2.2.1
theorem zE.form (h : zE g A U) : va_Z "jdk/internal/util/Preconditions" "SIOOBE_FORMATTER" "Ljava/util/function/BiFunction;" (va_rf g.2.2.2) A U U.heap := h.2.2.2.1
theorem zE.str (h : zE g A U) {i : Nat} (hi : i < nZS) : vk_R (zSt.getD i ("", 0, "", [])).1 (zSt.getD i ("", 0, "", [])).2.1 (zSt.getD i ("", 0, "", [])).2.2.1 (g.2.1 i) U := (h.2.2.2.2.1 i hi).1
theorem zE.sfcoder (h : zE g A U) {i : Nat} (hi : i < nZS) : va_OF "java/lang/String" "coder" "B" (.int 0) (g.2.1 i) A U U.heap := (h.2.2.2.2.1 i hi).2.2.1
theorem zE.sfvalue (h : zE g A U) {i : Nat} (hi : i < nZS) : va_OF "java/lang/String" "value" "[B" (.ref (g.2.2.1 i)) (g.2.1 i) A U U.heap := (h.2.2.2.2.1 i hi).2.2.2.1
theorem zE.sbytes (h : zE g A U) {i : Nat} (hi : i < nZS) : va_T .byte (g.2.2.1 i) (zsn i) (fun j => .int (zsb i j)) A U U.heap := (h.2.2.2.2.1 i hi).2.2.2.2
theorem zE.srecv (h : zE g A U) {i : Nat} (hi : i < nZS) {H : Heap} {locs : List Loc} (hS : va_S A U.heap H locs) : ∃ cell : Cell, H[g.2.1 i]? = some cell ∧ cell.vm.isStatics = false ∧ U.vm.findClass "java/lang/String" = some cell.cls := by
  obtain ⟨cell, h1, h2, h3, -⟩ := (h.2.2.2.2.1 i hi).2.1.kept hS.2.1
  exact ⟨cell, h1, h2, h3⟩
theorem zE.ao (h : zE g A U) : va_AO "NumberDress$Section" U := h.2.2.2.2.2.1
theorem zE.xs (h : zE g A U) : zX A U := h.2.2.2.2.2.2
theorem zE.calling {gg : JFrame} {mk : MethodId} {a : Array Value} (h : zE g A U) : zE g A (U.calling gg mk a) :=
  ⟨fun w hw => zNw_same (u := U) (zNs_nest w hw) rfl (h.1 w hw), ⟨va_Z.moved (u := U) (U := U.calling gg mk a) (Vm.Alike.refl U.vm) h.2.1.1, va_T.moved (u := U) (U := U.calling gg mk a) (Vm.Alike.refl U.vm) h.2.1.2⟩, va_Z.moved (u := U) (U := U.calling gg mk a) (Vm.Alike.refl U.vm) h.2.2.1, va_Z.moved (u := U) (U := U.calling gg mk a) (Vm.Alike.refl U.vm) h.2.2.2.1,
   fun i hi => ⟨vk_R.same (u := U) (U := U.calling gg mk a) rfl (h.2.2.2.2.1 i hi).1, va_O.moved (u := U) (U := U.calling gg mk a) (Vm.Alike.refl U.vm) (h.2.2.2.2.1 i hi).2.1, va_OF.moved (u := U) (U := U.calling gg mk a) (Vm.Alike.refl U.vm) (h.2.2.2.2.1 i hi).2.2.1, va_OF.moved (u := U) (U := U.calling gg mk a) (Vm.Alike.refl U.vm) (h.2.2.2.2.1 i hi).2.2.2.1, va_T.moved (u := U) (U := U.calling gg mk a) (Vm.Alike.refl U.vm) (h.2.2.2.2.1 i hi).2.2.2.2⟩, va_AO.moved (u := U) (U := U.calling gg mk a) (Vm.Alike.refl U.vm) h.2.2.2.2.2.1, h.2.2.2.2.2.2.calling⟩
theorem zE.call {A' : Nat → Prop} {s : State} {H : Heap} {locs : List Loc} (h : zE g A s) (hS : va_S A s.heap H locs) (hAA : ∀ q, A' q → A q) (hU : U.heap = H) (hW : s.WarmedH U.vm) : zE g A' U := by
  subst hU
  exact ⟨fun w hw => zNw_warm hW (zNs_nest w hw) (h.1 w hw), ⟨(va_Z.moved hW.alike (h.2.1.1.kept hS.2.1)).narrow hAA, (va_T.moved hW.alike (h.2.1.2.kept hS.2.1)).narrow hAA⟩, (va_Z.moved hW.alike (h.2.2.1.kept hS.2.1)).narrow hAA, (va_Z.moved hW.alike (h.2.2.2.1.kept hS.2.1)).narrow hAA,
    fun i hi => ⟨vk_R.warm hW (h.2.2.2.2.1 i hi).1, (va_O.moved hW.alike ((h.2.2.2.2.1 i hi).2.1.kept hS.2.1)).narrow hAA, (va_OF.moved hW.alike ((h.2.2.2.2.1 i hi).2.2.1.kept hS.2.1)).narrow hAA, (va_OF.moved hW.alike ((h.2.2.2.2.1 i hi).2.2.2.1.kept hS.2.1)).narrow hAA, (va_T.moved hW.alike ((h.2.2.2.2.1 i hi).2.2.2.2.kept hS.2.1)).narrow hAA⟩, va_AO.moved hW.alike h.2.2.2.2.2.1, h.2.2.2.2.2.2.call hS hAA rfl hW⟩
end ZEn
section ZL
variable {p : Program} {l : Launch} {e : Env} {R : Room} {s : State} {m : MethodId} {args : Array Value} {below : List Frame} {meth : Method} {c : Code} {H : Heap} {locs : List Loc} {cells slots : Nat} {Q : State → Prop}
variable {cc : ByteArray} {pc : Nat} {ls : Array Slot} {rest : List Value}
theorem z_lcmp_lt (hx : p.tables.exec = Jvm.exec) (hb : c.code = cc) {x y : Int64} {off : Int} {tgt : Nat} (d1 : decode cc pc = .ok (.lcmp, 1)) (d2 : decode cc (pc + 1) = .ok (.ifCond .lt off, 3)) (ht : ((pc + 1 : Nat) : Int) + off = (tgt : Int)) (kt : x < y → W p l e R s m args below meth c H locs cells slots Q (F0 m tgt ls rest)) (kf : ¬ x < y → W p l e R s m args below meth c H locs cells slots Q (F0 m (pc + 1 + 3) ls rest)) : W p l e R s m args below meth c H locs cells slots Q (F0 m pc ls (.long y :: .long x :: rest)) :=
  W.lcmp hx hb d1 (lv_if_lt hx hb d2 ht (fun h => kt ((lg_cmp_lt x y).mp h)) (fun h => kf (fun q => h ((lg_cmp_lt x y).mpr q))))
theorem z_lcmp_ge (hx : p.tables.exec = Jvm.exec) (hb : c.code = cc) {x y : Int64} {off : Int} {tgt : Nat} (d1 : decode cc pc = .ok (.lcmp, 1)) (d2 : decode cc (pc + 1) = .ok (.ifCond .ge off, 3)) (ht : ((pc + 1 : Nat) : Int) + off = (tgt : Int)) (kt : y ≤ x → W p l e R s m args below meth c H locs cells slots Q (F0 m tgt ls rest)) (kf : ¬ y ≤ x → W p l e R s m args below meth c H locs cells slots Q (F0 m (pc + 1 + 3) ls rest)) : W p l e R s m args below meth c H locs cells slots Q (F0 m pc ls (.long y :: .long x :: rest)) :=
  W.lcmp hx hb d1 (lv_if_ge hx hb d2 ht (fun h => kt ((lg_cmp_ge x y).mp h)) (fun h => kf (fun q => h ((lg_cmp_ge x y).mpr q))))
theorem z_lcmp_gt (hx : p.tables.exec = Jvm.exec) (hb : c.code = cc) {x y : Int64} {off : Int} {tgt : Nat} (d1 : decode cc pc = .ok (.lcmp, 1)) (d2 : decode cc (pc + 1) = .ok (.ifCond .gt off, 3)) (ht : ((pc + 1 : Nat) : Int) + off = (tgt : Int)) (kt : y < x → W p l e R s m args below meth c H locs cells slots Q (F0 m tgt ls rest)) (kf : ¬ y < x → W p l e R s m args below meth c H locs cells slots Q (F0 m (pc + 1 + 3) ls rest)) : W p l e R s m args below meth c H locs cells slots Q (F0 m pc ls (.long y :: .long x :: rest)) :=
  W.lcmp hx hb d1 (lv_if_gt hx hb d2 ht (fun h => kt ((lg_cmp_gt x y).mp h)) (fun h => kf (fun q => h ((lg_cmp_gt x y).mpr q))))
theorem z_lcmp_le (hx : p.tables.exec = Jvm.exec) (hb : c.code = cc) {x y : Int64} {off : Int} {tgt : Nat} (d1 : decode cc pc = .ok (.lcmp, 1)) (d2 : decode cc (pc + 1) = .ok (.ifCond .le off, 3)) (ht : ((pc + 1 : Nat) : Int) + off = (tgt : Int)) (kt : x ≤ y → W p l e R s m args below meth c H locs cells slots Q (F0 m tgt ls rest)) (kf : ¬ x ≤ y → W p l e R s m args below meth c H locs cells slots Q (F0 m (pc + 1 + 3) ls rest)) : W p l e R s m args below meth c H locs cells slots Q (F0 m pc ls (.long y :: .long x :: rest)) :=
  W.lcmp hx hb d1 (lv_if_le hx hb d2 ht (fun h => kt ((lg_cmp_le x y).mp h)) (fun h => kf (fun q => h ((lg_cmp_le x y).mpr q))))
theorem z_lcmp_eq (hx : p.tables.exec = Jvm.exec) (hb : c.code = cc) {x y : Int64} {off : Int} {tgt : Nat} (d1 : decode cc pc = .ok (.lcmp, 1)) (d2 : decode cc (pc + 1) = .ok (.ifCond .eq off, 3)) (ht : ((pc + 1 : Nat) : Int) + off = (tgt : Int)) (kt : x = y → W p l e R s m args below meth c H locs cells slots Q (F0 m tgt ls rest)) (kf : ¬ x = y → W p l e R s m args below meth c H locs cells slots Q (F0 m (pc + 1 + 3) ls rest)) : W p l e R s m args below meth c H locs cells slots Q (F0 m pc ls (.long y :: .long x :: rest)) :=
  W.lcmp hx hb d1 (lv_if_eq hx hb d2 ht (fun h => kt ((lg_cmp_eq x y).mp h)) (fun h => kf (fun q => h ((lg_cmp_eq x y).mpr q))))
theorem z_lcmp_ne (hx : p.tables.exec = Jvm.exec) (hb : c.code = cc) {x y : Int64} {off : Int} {tgt : Nat} (d1 : decode cc pc = .ok (.lcmp, 1)) (d2 : decode cc (pc + 1) = .ok (.ifCond .ne off, 3)) (ht : ((pc + 1 : Nat) : Int) + off = (tgt : Int)) (kt : ¬ x = y → W p l e R s m args below meth c H locs cells slots Q (F0 m tgt ls rest)) (kf : x = y → W p l e R s m args below meth c H locs cells slots Q (F0 m (pc + 1 + 3) ls rest)) : W p l e R s m args below meth c H locs cells slots Q (F0 m pc ls (.long y :: .long x :: rest)) :=
  W.lcmp hx hb d1 (lv_if_ne hx hb d2 ht (fun h => kt (fun q => h ((lg_cmp_eq x y).mpr q))) (fun h => kf ((lg_cmp_eq x y).mp h)))
theorem z_ldcwS (hx : p.tables.exec = Jvm.exec) (hb : c.code = cc) {own tx : String} {index q : Nat} (hown : s.vm.findClass own = some m.cls) (hZ : vk_R own index tx q s) (hdg : decode cc pc = .ok (.ldc_w index, 3))
    (k : W p l e R s m args below meth c H locs cells slots Q (F0 m (pc + 3) ls (.ref q :: rest))) : W p l e R s m args below meth c H locs cells slots Q (F0 m pc ls rest) := by
  intro T hT X
  obtain ⟨t, a1, b1⟩ := k T hT X
  exact ⟨t, X.ldcStringW hx hown (text := tx) (a := q) hZ.1 hZ.2 (g := F0 m pc ls rest) rfl (by rw [hb]; exact hdg) t a1, b1⟩
theorem z_mmax (hx : p.tables.exec = Jvm.exec) (hb : c.code = cc) (hml : c.maxLocals = ls.size) {own : String} {index : Nat} (hown : s.vm.findClass own = some m.cls) (hlink : (Cond.methodLink own index Lib.Math.max.name).before args s = true) (hstat : (Cond.static Lib.Math.max.name).before args s = true) (hini : (Cond.initialized "java/lang/Math").before args s = true) (hcode : (Cond.code Lib.Math.max.name Lib.Math.max.code 2 (some .int)).before args s = true)
    (hframes : 1 ≤ R.frames) (hlocals : (rest.map fun v => v.category).sum + 13 ≤ R.locals) (hc : cells ≤ R.cells) (hs : slots ≤ R.slots) {x y : Int32} (hdg : decode cc pc = .ok (.invokestatic index, 3))
    (kk : W p l e R s m args below meth c H locs cells slots Q (F0 m (pc + 3) ls (.int (zmax x y) :: rest))) : W p l e R s m args below meth c H locs cells slots Q (F0 m pc ls (.int y :: .int x :: rest)) := va_mmax hx hb hml hown hlink hstat hini hcode hframes hlocals hc hs hdg kk
theorem z_mmin (hx : p.tables.exec = Jvm.exec) (hb : c.code = cc) (hml : c.maxLocals = ls.size) {own : String} {index : Nat} (hown : s.vm.findClass own = some m.cls) (hlink : (Cond.methodLink own index Lib.Math.min.name).before args s = true) (hstat : (Cond.static Lib.Math.min.name).before args s = true) (hini : (Cond.initialized "java/lang/Math").before args s = true) (hcode : (Cond.code Lib.Math.min.name Lib.Math.min.code 2 (some .int)).before args s = true)
    (hframes : 1 ≤ R.frames) (hlocals : (rest.map fun v => v.category).sum + 13 ≤ R.locals) (hc : cells ≤ R.cells) (hs : slots ≤ R.slots) {x y : Int32} (hdg : decode cc pc = .ok (.invokestatic index, 3))
    (kk : W p l e R s m args below meth c H locs cells slots Q (F0 m (pc + 3) ls (.int (zmin x y) :: rest))) : W p l e R s m args below meth c H locs cells slots Q (F0 m pc ls (.int y :: .int x :: rest)) := va_mmin hx hb hml hown hlink hstat hini hcode hframes hlocals hc hs hdg kk
theorem z_mabs (hx : p.tables.exec = Jvm.exec) (hb : c.code = cc) (hml : c.maxLocals = ls.size) {own : String} {index : Nat} (hown : s.vm.findClass own = some m.cls) (hlink : (Cond.methodLink own index Lib.Math.abs.name).before args s = true) (hstat : (Cond.static Lib.Math.abs.name).before args s = true) (hini : (Cond.initialized "java/lang/Math").before args s = true) (hcode : (Cond.code Lib.Math.abs.name Lib.Math.abs.code 1 (some .int)).before args s = true)
    (hframes : 1 ≤ R.frames) (hlocals : (rest.map fun v => v.category).sum + 13 ≤ R.locals) (hc : cells ≤ R.cells) (hs : slots ≤ R.slots) {x : Int32} (hdg : decode cc pc = .ok (.invokestatic index, 3))
    (kk : W p l e R s m args below meth c H locs cells slots Q (F0 m (pc + 3) ls (.int (zabs x) :: rest))) : W p l e R s m args below meth c H locs cells slots Q (F0 m pc ls (.int x :: rest)) := va_mabs hx hb hml hown hlink hstat hini hcode hframes hlocals hc hs hdg kk
theorem z_aald (hx : p.tables.exec = Jvm.exec) (hb : c.code = cc) {D : va_G} {cl : List vw_C} {tys : List (ClassId × FieldType)} {ws : va_W} {a : Nat} (hK : va_K D cl tys s) (hP : va_P D cl ws H) (q0 t0 : Nat) {cA : ClassId} {C : String} {n : Nat} {ad : Nat → Nat} (ha : ws[q0]? = some (a, .inl (cA, n, .inr (.inr (.inr (.inr (zra ad n))))))) (ht : tys[t0]? = some (cA, .object C)) {i : Int32} (hin : vp_in i n) (hdg : decode cc pc = .ok (.aaload, 1))
    (kk : ∀ j : Nat, j = i.toNatClampNeg → W p l e R s m args below meth c H locs cells slots Q (F0 m (pc + 1) ls (.ref (ad j) :: rest))) : W p l e R s m args below meth c H locs cells slots Q (F0 m pc ls (.int i :: .ref a :: rest)) := by
  refine va_aldq hx hb hK hP q0 t0 ha ht hin hdg ?_
  have hlt : i.toNatClampNeg < n := Nat.not_le.mp fun q => hin (Or.inr q)
  have e : zra ad n i.toNatClampNeg = some (ad i.toNatClampNeg) := by simp [zra, Nat.blt_eq.mpr hlt]
  rw [e]
  exact kk _ rfl
end ZL
section ZK
variable {p : Program} {l : Launch} {e : Env} {R : Room} {s : State} {m : MethodId} {args : Array Value} {below : List Frame} {meth : Method} {c : Code} {H : Heap} {locs : List Loc} {cells slots mc ms : Nat} {Q : State → Prop}
variable {pc : Nat} {ls : Array Slot} {rest st0 : List Value} {S : Type} {D : va_G} {cl : List vw_C} {tys tysC : List (ClassId × FieldType)} {A : Nat → Prop} {ws wc : va_W} {a : Array Value}
/-- what a method of ours asks at its start -/
def zPc (g : zG) (D : va_G) (cl : List vw_C) (tys : List (ClassId × FieldType)) (av : List Value) (sz : Nat) (ws : va_W) : Array Value → State → Prop :=
  va_Pc av (fun U => U.heap.size = sz ∧ va_P D cl ws U.heap ∧ va_K D cl tys U ∧ va_D (fun _ => True) ws ∧ zE g (va_A ws sz) U)
theorem zPc_blind {g : zG} {av : List Value} {sz : Nat} : FrameBlind (zPc g D cl tys av sz ws) := fun a U gg mk q => by
  obtain ⟨q0, q1, qP, qK, qD, qE⟩ := q
  exact ⟨q0, q1, qP, va_K.moved (u := U) (U := U.calling gg mk a) (Vm.Alike.refl U.vm) qK, qD, qE.calling⟩
theorem zPc_pre {g : zG} {av : List Value} (hP : va_P D cl ws H) (hK : va_K D cl tys s) (hD : va_D A ws) (hS : va_S A s.heap H locs) (hA : ∀ q, s.heap.size ≤ q → A q) (hE : zE g A s) (isC tC : List Nat) (hC : isC.map (fun i => ws[i]?) = wc.map some) (hf : isC.filterMap (fun i => ws[i]?) = wc) (hn : va_nd isC = true) (hT : tC.filterMap (fun i => tys[i]?) = tysC) :
    ∀ U : State, U.heap = H → s.WarmedH U.vm → zPc g D cl tysC av H.size wc av.toArray U := fun U hU hW =>
  ⟨rfl, by rw [hU], by rw [hU]; exact hP.sub isC hf, va_K.moved hW.alike (hK.sub tC hT), (hD.sub isC hn hC).weaken (fun _ _ _ _ => trivial), hE.call hS (va_free hD hS hA isC hC) hU hW⟩
theorem z_calli {Z : Int32 → S → Prop} {w1 : S → va_W} {wr : va_W} (isC isR : List Nat) (hr : va_Run p l e R s m args below meth c H locs cells slots mc ms (F0 m pc ls st0) rest (va_Qi Z (zB D cl tysC (va_A wc H.size) w1) (va_A wc H.size) a) (va_A wc H.size))
    (hP : va_P D cl ws H) (hD : va_D A ws) (hS : va_S A s.heap H locs) (hA : ∀ q, s.heap.size ≤ q → A q) (hC : isC.map (fun i => ws[i]?) = wc.map some) (hR : isR.map (fun i => ws[i]?) = wr.map some) (hn : va_nd isR = true) (hdis : ∀ i ∈ isR, i ∉ isC)
    (kk : ∀ (r : Int32) (u : S) (H1 : Heap) (locs1 : List Loc), Z r u → va_P D cl (wr ++ w1 u) H1 → va_D A (wr ++ w1 u) → va_S A s.heap H1 locs1 → W p l e R s m args below meth c H1 locs1 (cells + mc) (slots + ms) Q (F0 m (pc + 3) ls (.int r :: rest))) : W p l e R s m args below meth c H locs cells slots Q (F0 m pc ls st0) := by
  have hF := va_free (wc := wc) hD hS hA isC hC
  refine va_calli hr hS (fun q _ h => hF q h) hF (fun r u t H1 locs1 ht hvm hw hB hz1 hk1 hS1 => ?_)
  obtain ⟨hP1, hK1, hD1⟩ := hB
  rw [ht] at hP1
  obtain ⟨hP2, hD2⟩ := va_join (wr := wr) (w1 := w1 u) hP hD isC isR hC hR hn hdis hk1 hF hP1 hD1
  exact kk r u H1 locs1 hw hP2 hD2 hS1
theorem z_calll {Z : Int64 → S → Prop} {w1 : S → va_W} {wr : va_W} (isC isR : List Nat) (hr : va_Run p l e R s m args below meth c H locs cells slots mc ms (F0 m pc ls st0) rest (va_Ql Z (zB D cl tysC (va_A wc H.size) w1) (va_A wc H.size) a) (va_A wc H.size))
    (hP : va_P D cl ws H) (hD : va_D A ws) (hS : va_S A s.heap H locs) (hA : ∀ q, s.heap.size ≤ q → A q) (hC : isC.map (fun i => ws[i]?) = wc.map some) (hR : isR.map (fun i => ws[i]?) = wr.map some) (hn : va_nd isR = true) (hdis : ∀ i ∈ isR, i ∉ isC)
    (kk : ∀ (r : Int64) (u : S) (H1 : Heap) (locs1 : List Loc), Z r u → va_P D cl (wr ++ w1 u) H1 → va_D A (wr ++ w1 u) → va_S A s.heap H1 locs1 → W p l e R s m args below meth c H1 locs1 (cells + mc) (slots + ms) Q (F0 m (pc + 3) ls (.long r :: rest))) : W p l e R s m args below meth c H locs cells slots Q (F0 m pc ls st0) := by
  have hF := va_free (wc := wc) hD hS hA isC hC
  refine va_calll hr hS (fun q _ h => hF q h) hF (fun r u t H1 locs1 ht hvm hw hB hz1 hk1 hS1 => ?_)
  obtain ⟨hP1, hK1, hD1⟩ := hB
  rw [ht] at hP1
  obtain ⟨hP2, hD2⟩ := va_join (wr := wr) (w1 := w1 u) hP hD isC isR hC hR hn hdis hk1 hF hP1 hD1
  exact kk r u H1 locs1 hw hP2 hD2 hS1
theorem z_callv {Z : S → Prop} {w1 : S → va_W} {wr : va_W} (isC isR : List Nat) (hr : va_Run p l e R s m args below meth c H locs cells slots mc ms (F0 m pc ls st0) rest (va_Qv Z (zB D cl tysC (va_A wc H.size) w1) (va_A wc H.size) a) (va_A wc H.size))
    (hP : va_P D cl ws H) (hD : va_D A ws) (hS : va_S A s.heap H locs) (hA : ∀ q, s.heap.size ≤ q → A q) (hC : isC.map (fun i => ws[i]?) = wc.map some) (hR : isR.map (fun i => ws[i]?) = wr.map some) (hn : va_nd isR = true) (hdis : ∀ i ∈ isR, i ∉ isC)
    (kk : ∀ (u : S) (H1 : Heap) (locs1 : List Loc), Z u → va_P D cl (wr ++ w1 u) H1 → va_D A (wr ++ w1 u) → va_S A s.heap H1 locs1 → W p l e R s m args below meth c H1 locs1 (cells + mc) (slots + ms) Q (F0 m (pc + 3) ls rest)) : W p l e R s m args below meth c H locs cells slots Q (F0 m pc ls st0) := by
  have hF := va_free (wc := wc) hD hS hA isC hC
  refine va_callv hr hS (fun q _ h => hF q h) hF (fun u t H1 locs1 ht hvm hw hB hz1 hk1 hS1 => ?_)
  obtain ⟨hP1, hK1, hD1⟩ := hB
  rw [ht] at hP1
  obtain ⟨hP2, hD2⟩ := va_join (wr := wr) (w1 := w1 u) hP hD isC isR hC hR hn hdis hk1 hF hP1 hD1
  exact kk u H1 locs1 hw hP2 hD2 hS1
theorem z_callq {Z : Option Nat → S → Prop} {ad : Nat → Nat} {w1 : S × Option Nat → va_W} {wr : va_W} (isC isR : List Nat) (hr : va_Run p l e R s m args below meth c H locs cells slots mc ms (F0 m pc ls st0) rest (va_Qq (fun r (u : S × Option Nat) => r = u.2.map ad ∧ Z u.2 u.1) (zB D cl tysC (va_A wc H.size) w1) (va_A wc H.size) a) (va_A wc H.size))
    (hP : va_P D cl ws H) (hD : va_D A ws) (hS : va_S A s.heap H locs) (hA : ∀ q, s.heap.size ≤ q → A q) (hC : isC.map (fun i => ws[i]?) = wc.map some) (hR : isR.map (fun i => ws[i]?) = wr.map some) (hn : va_nd isR = true) (hdis : ∀ i ∈ isR, i ∉ isC)
    (kk : ∀ (r : Option Nat) (u : S) (H1 : Heap) (locs1 : List Loc), Z r u → va_P D cl (wr ++ w1 (u, r)) H1 → va_D A (wr ++ w1 (u, r)) → va_S A s.heap H1 locs1 → W p l e R s m args below meth c H1 locs1 (cells + mc) (slots + ms) Q (F0 m (pc + 3) ls (va_rf (r.map ad) :: rest))) : W p l e R s m args below meth c H locs cells slots Q (F0 m pc ls st0) := by
  have hF := va_free (wc := wc) hD hS hA isC hC
  refine va_callq hr hS (fun q _ h => hF q h) hF (fun r u t H1 locs1 ht hvm hw hB hz1 hk1 hS1 => ?_)
  obtain ⟨u, j⟩ := u
  obtain ⟨rfl, hw⟩ := hw
  obtain ⟨hP1, hK1, hD1⟩ := hB
  rw [ht] at hP1
  obtain ⟨hP2, hD2⟩ := va_join (wr := wr) (w1 := w1 (u, j)) hP hD isC isR hC hR hn hdis hk1 hF hP1 hD1
  exact kk j u H1 locs1 hw hP2 hD2 hS1
theorem z_calls {gE : zG} {Z : Nat → S → Prop} {w1 : S × Nat → va_W} {wr : va_W} (isC isR : List Nat) (hr : va_Run p l e R s m args below meth c H locs cells slots mc ms (F0 m pc ls st0) rest (va_Qr (fun u : S × Nat => Z u.2 u.1) (fun (u : S × Nat) a t => a = gE.2.1 u.2 ∧ zB D cl tysC (va_A wc H.size) w1 u t) (va_A wc H.size) a) (va_A wc H.size))
    (hP : va_P D cl ws H) (hD : va_D A ws) (hS : va_S A s.heap H locs) (hA : ∀ q, s.heap.size ≤ q → A q) (hC : isC.map (fun i => ws[i]?) = wc.map some) (hR : isR.map (fun i => ws[i]?) = wr.map some) (hn : va_nd isR = true) (hdis : ∀ i ∈ isR, i ∉ isC)
    (kk : ∀ (r : Nat) (u : S) (H1 : Heap) (locs1 : List Loc), Z r u → va_P D cl (wr ++ w1 (u, r)) H1 → va_D A (wr ++ w1 (u, r)) → va_S A s.heap H1 locs1 → W p l e R s m args below meth c H1 locs1 (cells + mc) (slots + ms) Q (F0 m (pc + 3) ls (.ref (gE.2.1 r) :: rest))) : W p l e R s m args below meth c H locs cells slots Q (F0 m pc ls st0) := by
  have hF := va_free (wc := wc) hD hS hA isC hC
  refine va_callr hr hS (fun q _ h => hF q h) hF (fun u ra t H1 locs1 ht hvm hw hB hz1 hk1 hS1 => ?_)
  obtain ⟨u, j⟩ := u
  obtain ⟨rfl, hP1, hK1, hD1⟩ := hB
  rw [ht] at hP1
  obtain ⟨hP2, hD2⟩ := va_join (wr := wr) (w1 := w1 (u, j)) hP hD isC isR hC hR hn hdis hk1 hF hP1 hD1
  exact kk j u H1 locs1 hw hP2 hD2 hS1
theorem z_callr {b0 : Nat} {Z : S → Prop} {w1 : S → va_W} {wr : va_W} (isC isR : List Nat) (hr : va_Run p l e R s m args below meth c H locs cells slots mc ms (F0 m pc ls st0) rest (va_Qr Z (fun (u : S) a t => a = b0 ∧ zB D cl tysC (va_A wc H.size) w1 u t) (va_A wc H.size) a) (va_A wc H.size))
    (hP : va_P D cl ws H) (hD : va_D A ws) (hS : va_S A s.heap H locs) (hA : ∀ q, s.heap.size ≤ q → A q) (hC : isC.map (fun i => ws[i]?) = wc.map some) (hR : isR.map (fun i => ws[i]?) = wr.map some) (hn : va_nd isR = true) (hdis : ∀ i ∈ isR, i ∉ isC)
    (kk : ∀ (u : S) (H1 : Heap) (locs1 : List Loc), Z u → va_P D cl (wr ++ w1 u) H1 → va_D A (wr ++ w1 u) → va_S A s.heap H1 locs1 → W p l e R s m args below meth c H1 locs1 (cells + mc) (slots + ms) Q (F0 m (pc + 3) ls (.ref b0 :: rest))) : W p l e R s m args below meth c H locs cells slots Q (F0 m pc ls st0) := by
  have hF := va_free (wc := wc) hD hS hA isC hC
  refine va_callr hr hS (fun q _ h => hF q h) hF (fun u ra t H1 locs1 ht hvm hw hB hz1 hk1 hS1 => ?_)
  obtain ⟨rfl, hP1, hK1, hD1⟩ := hB
  rw [ht] at hP1
  obtain ⟨hP2, hD2⟩ := va_join (wr := wr) (w1 := w1 u) hP hD isC isR hC hR hn hdis hk1 hF hP1 hD1
  exact kk u H1 locs1 hw hP2 hD2 hS1
theorem z_callvx {Z : S → Prop} {w1 : S → Nat → ClassId → va_W} {ty1 : ClassId → List (ClassId × FieldType)} {wr : va_W} {tysR : List (ClassId × FieldType)} (isC isR tR : List Nat) (hr : va_Run p l e R s m args below meth c H locs cells slots mc ms (F0 m pc ls st0) rest (va_Qv Z (fun (u : S) t => ∃ (b9 : Nat) (k9 : ClassId), va_P D cl (w1 u b9 k9) t.heap ∧ va_K D cl (ty1 k9) t ∧ va_D (va_A wc H.size) (w1 u b9 k9)) (va_A wc H.size) a) (va_A wc H.size))
    (hK : va_K D cl tys s) (hP : va_P D cl ws H) (hD : va_D A ws) (hS : va_S A s.heap H locs) (hA : ∀ q, s.heap.size ≤ q → A q) (hC : isC.map (fun i => ws[i]?) = wc.map some) (hR : isR.map (fun i => ws[i]?) = wr.map some) (hT : tR.filterMap (fun i => tys[i]?) = tysR) (hn : va_nd isR = true) (hdis : ∀ i ∈ isR, i ∉ isC)
    (kk : ∀ (u : S) (b : Nat) (kb : ClassId) (H1 : Heap) (locs1 : List Loc), Z u → va_K D cl (tysR ++ ty1 kb) s → va_P D cl (wr ++ w1 u b kb) H1 → va_D A (wr ++ w1 u b kb) → va_S A s.heap H1 locs1 → W p l e R s m args below meth c H1 locs1 (cells + mc) (slots + ms) Q (F0 m (pc + 3) ls rest)) : W p l e R s m args below meth c H locs cells slots Q (F0 m pc ls st0) := by
  have hF := va_free (wc := wc) hD hS hA isC hC
  refine va_callv hr hS (fun q _ h => hF q h) hF (fun u t H1 locs1 ht hvm hw hB hz1 hk1 hS1 => ?_)
  obtain ⟨b, kb, hP1, hK1, hD1⟩ := hB
  rw [ht] at hP1
  obtain ⟨hP2, hD2⟩ := va_join (wr := wr) (w1 := w1 u b kb) hP hD isC isR hC hR hn hdis hk1 hF hP1 hD1
  exact kk u b kb H1 locs1 hw ((hK.sub tR hT).app (va_K.moved hvm.symm hK1)) hP2 hD2 hS1
theorem z_callix {Z : Int32 → S → Prop} {w1 : S → Nat → ClassId → va_W} {ty1 : ClassId → List (ClassId × FieldType)} {wr : va_W} {tysR : List (ClassId × FieldType)} (isC isR tR : List Nat) (hr : va_Run p l e R s m args below meth c H locs cells slots mc ms (F0 m pc ls st0) rest (va_Qi Z (fun (u : S) t => ∃ (b9 : Nat) (k9 : ClassId), va_P D cl (w1 u b9 k9) t.heap ∧ va_K D cl (ty1 k9) t ∧ va_D (va_A wc H.size) (w1 u b9 k9)) (va_A wc H.size) a) (va_A wc H.size))
    (hK : va_K D cl tys s) (hP : va_P D cl ws H) (hD : va_D A ws) (hS : va_S A s.heap H locs) (hA : ∀ q, s.heap.size ≤ q → A q) (hC : isC.map (fun i => ws[i]?) = wc.map some) (hR : isR.map (fun i => ws[i]?) = wr.map some) (hT : tR.filterMap (fun i => tys[i]?) = tysR) (hn : va_nd isR = true) (hdis : ∀ i ∈ isR, i ∉ isC)
    (kk : ∀ (r : Int32) (u : S) (b : Nat) (kb : ClassId) (H1 : Heap) (locs1 : List Loc), Z r u → va_K D cl (tysR ++ ty1 kb) s → va_P D cl (wr ++ w1 u b kb) H1 → va_D A (wr ++ w1 u b kb) → va_S A s.heap H1 locs1 → W p l e R s m args below meth c H1 locs1 (cells + mc) (slots + ms) Q (F0 m (pc + 3) ls (.int r :: rest))) : W p l e R s m args below meth c H locs cells slots Q (F0 m pc ls st0) := by
  have hF := va_free (wc := wc) hD hS hA isC hC
  refine va_calli hr hS (fun q _ h => hF q h) hF (fun r u t H1 locs1 ht hvm hw hB hz1 hk1 hS1 => ?_)
  obtain ⟨b, kb, hP1, hK1, hD1⟩ := hB
  rw [ht] at hP1
  obtain ⟨hP2, hD2⟩ := va_join (wr := wr) (w1 := w1 u b kb) hP hD isC isR hC hR hn hdis hk1 hF hP1 hD1
  exact kk r u b kb H1 locs1 hw ((hK.sub tR hT).app (va_K.moved hvm.symm hK1)) hP2 hD2 hS1
end ZK

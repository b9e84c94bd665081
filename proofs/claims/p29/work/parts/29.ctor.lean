-- rows of kit/laws/EXCEPTIONS.to-paste, pasted: constructors that may throw
section VXIA
variable {p : Program} {l : Launch} {e : Env} {R : Room} {s : State} {m : MethodId} {args : Array Value} {below : List Frame} {meth : Method} {c : Code} {T : State} {locs : List Loc} {cells slots : Nat}
theorem vx_callI (X : Stand p l e R s m args below meth c T locs cells slots) (hexec : p.tables.exec = Jvm.exec) {own : String} {index : Nat} {y : MethodName} {bytes : ByteArray} {maxL : Nat}
    (hown : s.vm.findClass own = some m.cls) (hy1 : y.name = "<init>") (hlink : (Cond.methodLink own index y).before args s = true) (hinst : (Cond.instanceMethod y).before args s = true)
    (hcode : (Cond.code y bytes maxL none).before args s = true) (hy : y.cls ≠ "java/lang/invoke/MethodHandle" ∧ y.cls ≠ "java/lang/invoke/VarHandle")
    {W9 : Nat} {Pre : Pt → Array Value → Prop} {Post : Pt → Array Value → Option Value → Pt → Prop} {PostX : Pt → Array Value → Addr → Pt → Prop} (hK : vx_Back l R p e below s args y 3 W9 Pre Post PostX)
    {g : JFrame} (hg : g.method = m) (hsize : g.locals.size = c.maxLocals) {a : Addr} {argsL rest : List Value} (hlen : ∀ sig, parseMethodDescriptor y.desc = some sig → argsL.length = sig.parameters.length)
    (hstack : g.stack = argsL.reverse ++ .ref a :: rest) (hW : 2 * g.monitorRoom + (rest.map fun v => v.category).sum ≤ W9) (hdg : decode c.code g.pc = .ok (.invokespecial index, 3))
    (hpre : ∀ vm₁, s.WarmedH vm₁ → Pre ⟨T.setVm vm₁, locs, cells, slots⟩ (Value.ref a :: argsL).toArray) :
    (∃ (v : Option Value) (vm₁ : Vm) (B : Pt), s.WarmedH vm₁ ∧ Stand p l e R s m args below meth c B.U B.locs B.cells B.slots ∧ Post ⟨T.setVm vm₁, locs, cells, slots⟩ (Value.ref a :: argsL).toArray v B ∧
      ∀ target, Steps p.tables e below (B.U.setTop { g with pc := g.pc + 3, stack := v.toList ++ rest }) target → Steps p.tables e below (T.setTop g) target) ∨
    (∃ (q : Addr) (vm₁ : Vm) (B : Pt), s.WarmedH vm₁ ∧ Stand p l e R s m args below meth c B.U B.locs B.cells B.slots ∧ PostX ⟨T.setVm vm₁, locs, cells, slots⟩ (Value.ref a :: argsL).toArray q B ∧
      Steps p.tables e below (T.setTop g) ((B.U.setTop { g with stack := rest }).pushFrame (.throwing q))) := by
  subst hg
  have hpl : e.platform.magicAccessors = ({} : Platform).magicAccessors := by rw [X.admits.platform]
  obtain ⟨mk, methM, cM, kP, vm₁, hnamed, hmethM, hcodeM, -, hlocalsM, -, hkP, -, hW₁, hstep₁⟩ := Steps.initColdArgs (e := e) X.here hexec X.warmed hpl hown hy1 hy hlink hinst hcode (f := g) rfl hlen hstack hdg
  have X₁ := X.noted hW₁
  rcases hK g.method meth c ⟨T.setVm vm₁, locs, cells, slots⟩ { g with stack := rest } (.invokespecial index) mk (Value.ref a :: argsL).toArray X₁ rfl hsize hdg hW (X₁.named hnamed) (hpre vm₁ X₁.warmed) with ⟨v, B, X', hpost, hsteps⟩ | ⟨q, B, X', hpost, hsteps⟩
  · exact Or.inl ⟨v, vm₁, B, X₁.warmed, X', hpost, fun target h => hstep₁ _ fun acts => by rw [doInvoke_state]; exact hsteps.trans h⟩
  · exact Or.inr ⟨q, vm₁, B, X₁.warmed, X', hpost, hstep₁ _ fun acts => by rw [doInvoke_state]; exact hsteps⟩
end VXIA
section VXIB
variable {p : Program} {l : Launch} {e : Env} {R : Room} {s : State} {m : MethodId} {args : Array Value} {below : List Frame} {meth : Method} {c : Code} {H : Heap} {locs : List Loc} {cells slots : Nat}
variable {y : MethodName} {bytes cc : ByteArray} {maxL nL mc ms n index : Nat} {ret : Option FieldType} {ws : List Cond} {rm : Room} {Pc : Array Value → State → Prop} {Qc : Array Value → State → Outcome → State → Prop} {XC : String → State → State → Prop} {free : Addr → Prop} {Ts : List Cond} {own C : String} {b : Addr} {As rest : List Value} {g : JFrame}
theorem vx_runI (S : CallFix p m c cc nL s args Ts own) (hM : vx_Met l y ws rm Pc Qc XC mc ms free) (cw : CallB R s args own index y bytes maxL none ws rm mc ms n ∧ y.name = "<init>" ∧ (Cond.instanceMethod y).before args s = true) (hp : PreS s H Pc (.ref b :: As))
    (hg : g.method = m) (hn : As.length = n) (hsize : g.locals.size = nL) (hstack : g.stack = As.reverse ++ .ref b :: rest) (hW : 2 * g.monitorRoom + (rest.map fun v => v.category).sum ≤ 8) (hdg : decode cc g.pc = .ok (.invokespecial index, 3)) (hf : cells + mc ≤ R.cells ∧ slots + ms ≤ R.slots) :
    vx_Run p l e R s m args below meth c H locs cells slots mc ms g rest (Qc (Value.ref b :: As).toArray) XC free := by
  have hK : vx_Back l R p e below s args y 3 8 (PreOf R mc ms Pc) (PostOf Qc mc ms free) (vx_Post XC mc ms free) := vx_callBack cw.1 hM hp.1
  obtain ⟨⟨-, -, -, -, -, -, hcode, -, hy, hlen, hl⟩, hy1, hin⟩ := cw
  obtain ⟨hx, hb, hml, ho, -⟩ := S
  have hPc := hp.2
  intro T hT X
  rcases vx_callI X hx (bytes := bytes) (maxL := maxL) ho hy1 hl hin hcode hy hK hg (hsize.trans hml.symm) (a := b) (argsL := As) (rest := rest) (fun sig h => hn.trans (hlen sig h)) hstack hW (by rw [hb]; exact hdg)
    (fun vm₁ hW₁ => ⟨hf.1, hf.2, hPc (T.setVm vm₁) hT hW₁⟩) with ⟨v, vm₁, ⟨U', l2, c2, s2⟩, hW₁, X', ⟨g', mk, t, L, e1, e2, hq, h1, hL, h2, h3⟩, st⟩ | ⟨q, vm₁, ⟨U', l2, c2, s2⟩, hW₁, X', ⟨g', mk, t, L, E, ce, e1, e2, hq, hce, hcv, hcl, h1, hL, h2, h3⟩, st⟩
  · dsimp only [Pt.U, Pt.locs, Pt.cells, Pt.slots] at X' e1 e2 h1 h2 h3 st
    subst h1; subst h2; subst h3
    exact Or.inl ⟨v, (T.setVm vm₁).calling g' mk (Value.ref b :: As).toArray, t, U', L, hT, X', hL, e1, e2, hq, st⟩
  · dsimp only [Pt.U, Pt.locs, Pt.cells, Pt.slots] at X' e1 e2 h1 h2 h3 st hcl
    subst h1; subst h2; subst h3
    exact Or.inr ⟨q, (T.setVm vm₁).calling g' mk (Value.ref b :: As).toArray, t, U', L, E, ce, hT, X', hL, e1, e2, hq, hce, hcv, vx_cls hW₁ hcl, st⟩
end VXIB
section VXIC
variable {p : Program} {l : Launch} {e : Env} {R : Room} {s : State} {m : MethodId} {args : Array Value} {below : List Frame} {meth : Method} {c : Code} {T : State} {locs : List Loc} {cells slots : Nat}
theorem vx_callIN (X : Stand p l e R s m args below meth c T locs cells slots) (hexec : p.tables.exec = Jvm.exec) {own : String} {index : Nat} {host : String} {y : MethodName} {bytes : ByteArray} {maxL : Nat}
    (hown : s.vm.findClass own = some m.cls) (hy1 : y.name = "<init>") (hlink : (Cond.methodLinkNest own index y host).before args s = true) (hinst : (Cond.instanceMethod y).before args s = true)
    (hcode : (Cond.code y bytes maxL none).before args s = true) (hy : y.cls ≠ "java/lang/invoke/MethodHandle" ∧ y.cls ≠ "java/lang/invoke/VarHandle")
    {W9 : Nat} {Pre : Pt → Array Value → Prop} {Post : Pt → Array Value → Option Value → Pt → Prop} {PostX : Pt → Array Value → Addr → Pt → Prop} (hK : vx_Back l R p e below s args y 3 W9 Pre Post PostX)
    {g : JFrame} (hg : g.method = m) (hsize : g.locals.size = c.maxLocals) {a : Addr} {argsL rest : List Value} (hlen : ∀ sig, parseMethodDescriptor y.desc = some sig → argsL.length = sig.parameters.length)
    (hstack : g.stack = argsL.reverse ++ .ref a :: rest) (hW : 2 * g.monitorRoom + (rest.map fun v => v.category).sum ≤ W9) (hdg : decode c.code g.pc = .ok (.invokespecial index, 3))
    (hpre : ∀ vm₁, s.WarmedH vm₁ → Pre ⟨T.setVm vm₁, locs, cells, slots⟩ (Value.ref a :: argsL).toArray) :
    (∃ (v : Option Value) (vm₁ : Vm) (B : Pt), s.WarmedH vm₁ ∧ Stand p l e R s m args below meth c B.U B.locs B.cells B.slots ∧ Post ⟨T.setVm vm₁, locs, cells, slots⟩ (Value.ref a :: argsL).toArray v B ∧
      ∀ target, Steps p.tables e below (B.U.setTop { g with pc := g.pc + 3, stack := v.toList ++ rest }) target → Steps p.tables e below (T.setTop g) target) ∨
    (∃ (q : Addr) (vm₁ : Vm) (B : Pt), s.WarmedH vm₁ ∧ Stand p l e R s m args below meth c B.U B.locs B.cells B.slots ∧ PostX ⟨T.setVm vm₁, locs, cells, slots⟩ (Value.ref a :: argsL).toArray q B ∧
      Steps p.tables e below (T.setTop g) ((B.U.setTop { g with stack := rest }).pushFrame (.throwing q))) := by
  subst hg
  have hpl : e.platform.magicAccessors = ({} : Platform).magicAccessors := by rw [X.admits.platform]
  obtain ⟨mk, methM, cM, kP, vm₁, hnamed, hmethM, hcodeM, -, hlocalsM, -, hkP, -, hW₁, hstep₁⟩ := Steps.initColdArgsNest (e := e) X.here hexec X.warmed hpl hown hy1 hy hlink hinst hcode (f := g) rfl hlen hstack hdg
  have X₁ := X.noted hW₁
  rcases hK g.method meth c ⟨T.setVm vm₁, locs, cells, slots⟩ { g with stack := rest } (.invokespecial index) mk (Value.ref a :: argsL).toArray X₁ rfl hsize hdg hW (X₁.named hnamed) (hpre vm₁ X₁.warmed) with ⟨v, B, X', hpost, hsteps⟩ | ⟨q, B, X', hpost, hsteps⟩
  · exact Or.inl ⟨v, vm₁, B, X₁.warmed, X', hpost, fun target h => hstep₁ _ fun acts => by rw [doInvoke_state]; exact hsteps.trans h⟩
  · exact Or.inr ⟨q, vm₁, B, X₁.warmed, X', hpost, hstep₁ _ fun acts => by rw [doInvoke_state]; exact hsteps⟩
end VXIC
section VXID
variable {p : Program} {l : Launch} {e : Env} {R : Room} {s : State} {m : MethodId} {args : Array Value} {below : List Frame} {meth : Method} {c : Code} {H : Heap} {locs : List Loc} {cells slots : Nat}
theorem vx_runIN {y : MethodName} {bytes cc : ByteArray} {maxL nL mc ms n index : Nat} {ws : List Cond} {rm : Room} {Pc : Array Value → State → Prop} {Qc : Array Value → State → Outcome → State → Prop} {XC : String → State → State → Prop} {free : Addr → Prop} {Ts : List Cond} {own host : String} {b : Addr} {As rest : List Value} {g : JFrame}
    (S : CallFix p m c cc nL s args Ts own) (hM : vx_Met l y ws rm Pc Qc XC mc ms free) (cw : va_CN R s args own index y host bytes maxL none ws rm mc ms n ∧ y.name = "<init>" ∧ (Cond.instanceMethod y).before args s = true) (hp : PreS s H Pc (.ref b :: As))
    (hg : g.method = m) (hn : As.length = n) (hsize : g.locals.size = nL) (hstack : g.stack = As.reverse ++ .ref b :: rest) (hW : 2 * g.monitorRoom + (rest.map fun v => v.category).sum ≤ 8) (hdg : decode cc g.pc = .ok (.invokespecial index, 3)) (hf : cells + mc ≤ R.cells ∧ slots + ms ≤ R.slots) :
    vx_Run p l e R s m args below meth c H locs cells slots mc ms g rest (Qc (Value.ref b :: As).toArray) XC free := by
  obtain ⟨⟨⟨hrc, hrs, hfr, hlo, hws, hcw⟩, hcode, hini, hy, hlen, hl⟩, hx1, hx2⟩ := cw
  have hK : vx_Back l R p e below s args y 3 8 (PreOf R mc ms Pc) (PostOf Qc mc ms free) (vx_Post XC mc ms free) := vx_back (bytes := bytes) (maxL := maxL) (ret := none) hM hp.1 hrc hrs hfr hlo hws hcw (fun a' U hW => word_at hW (Or.inl (by first | rfl | simp [Cond.onTables, Cond.keeps, Cond.steady])) hini)
  obtain ⟨hx, hb, hml, ho, -⟩ := S
  have hPc := hp.2
  intro T hT X
  rcases vx_callIN X hx (bytes := bytes) (maxL := maxL) ho hx1 hl hx2 hcode hy hK hg (hsize.trans hml.symm) (a := b) (argsL := As) (rest := rest) (fun sig h => hn.trans (hlen sig h)) hstack hW (by rw [hb]; exact hdg)
    (fun vm₁ hW₁ => ⟨hf.1, hf.2, hPc (T.setVm vm₁) hT hW₁⟩) with ⟨v, vm₁, ⟨U', l2, c2, s2⟩, hW₁, X', ⟨g', mk, t, L, e1, e2, hq, h1, hL, h2, h3⟩, st⟩ | ⟨q, vm₁, ⟨U', l2, c2, s2⟩, hW₁, X', ⟨g', mk, t, L, E, ce, e1, e2, hq, hce, hcv, hcl, h1, hL, h2, h3⟩, st⟩
  · dsimp only [Pt.U, Pt.locs, Pt.cells, Pt.slots] at X' e1 e2 h1 h2 h3 st
    subst h1; subst h2; subst h3
    exact Or.inl ⟨v, (T.setVm vm₁).calling g' mk (Value.ref b :: As).toArray, t, U', L, hT, X', hL, e1, e2, hq, st⟩
  · dsimp only [Pt.U, Pt.locs, Pt.cells, Pt.slots] at X' e1 e2 h1 h2 h3 st hcl
    subst h1; subst h2; subst h3
    exact Or.inr ⟨q, (T.setVm vm₁).calling g' mk (Value.ref b :: As).toArray, t, U', L, E, ce, hT, X', hL, e1, e2, hq, hce, hcv, vx_cls hW₁ hcl, st⟩
end VXID
section GI
variable {p : Program} {l : Launch} {e : Env} {R : Room} {s : State} {m : MethodId} {args : Array Value} {below : List Frame} {meth : Method} {c : Code} {A : Nat → Prop} {D : va_G} {nL : Nat} {Q : State → Prop} {ws ws' : va_W} {lvs lvs' : List (Nat × Value)} {k n pc : Nat} {st : List Value} {tys : List (ClassId × FieldType)} {own : String} {cc : ByteArray} {Ts : List Cond}
theorem gV_runI (C : gC p l s m args meth c A D tys nL own cc Ts) {y : MethodName} {bytes : ByteArray} {maxL mc ms nA i : Nat} {ws2 : List Cond} {rm : Room} {wc wr : va_W} {As rest : List Value} {b : Nat} {Qf : Nat → Array Value → State → Outcome → State → Prop} {px : String → va_W → Prop} (hM : gM l y ws2 rm D tys wc (.ref b :: As) mc ms Qf px) (cw : CallB R s args own i y bytes maxL none ws2 rm mc ms nA ∧ y.name = "<init>" ∧ (Cond.instanceMethod y).before args s = true) (hs : gSub ws wc wr) (hn : As.length = nA) (hst : st = As.reverse ++ .ref b :: rest) (hcat : (rest.map fun v => v.category).sum ≤ 8) (d : decode cc pc = .ok (.invokespecial i, 3)) (hf : k + mc ≤ R.cells ∧ n + ms ≤ R.slots) : gRun p l e R s m args below meth c A D nL ws lvs k n pc st rest mc ms wc (fun sz => Qf sz (Value.ref b :: As).toArray) (gXx px D tys wc) := by
  intro H locs ls hP hD hS hl0
  obtain ⟨isC, isR, hC, hR, hn1, hn2, hdis⟩ := hs
  exact vx_runI ⟨C.1, C.2.1, C.2.2.1, C.2.2.2.1, C.2.2.2.2.1⟩ (hM H.size) cw ⟨g_blind _ _ _ _ _, fun U hU hW => g_pre C hC hn1 hP hD hS _ hU hW⟩ rfl hn hl0.1 hst (lv_room hcat) d hf
theorem gV_runIN (C : gC p l s m args meth c A D tys nL own cc Ts) {y : MethodName} {bytes : ByteArray} {maxL mc ms nA i : Nat} {host : String} {ws2 : List Cond} {rm : Room} {wc wr : va_W} {As rest : List Value} {b : Nat} {Qf : Nat → Array Value → State → Outcome → State → Prop} {px : String → va_W → Prop} (hM : gM l y ws2 rm D tys wc (.ref b :: As) mc ms Qf px) (cw : va_CN R s args own i y host bytes maxL none ws2 rm mc ms nA ∧ y.name = "<init>" ∧ (Cond.instanceMethod y).before args s = true) (hs : gSub ws wc wr) (hn : As.length = nA) (hst : st = As.reverse ++ .ref b :: rest) (hcat : (rest.map fun v => v.category).sum ≤ 8) (d : decode cc pc = .ok (.invokespecial i, 3)) (hf : k + mc ≤ R.cells ∧ n + ms ≤ R.slots) : gRun p l e R s m args below meth c A D nL ws lvs k n pc st rest mc ms wc (fun sz => Qf sz (Value.ref b :: As).toArray) (gXx px D tys wc) := by
  intro H locs ls hP hD hS hl0
  obtain ⟨isC, isR, hC, hR, hn1, hn2, hdis⟩ := hs
  exact vx_runIN ⟨C.1, C.2.1, C.2.2.1, C.2.2.2.1, C.2.2.2.2.1⟩ (hM H.size) cw ⟨g_blind _ _ _ _ _, fun U hU hW => g_pre C hC hn1 hP hD hS _ hU hW⟩ rfl hn hl0.1 hst (lv_room hcat) d hf
end GI
abbrev rm_X1_init : Room := { frames := 1, cells := 2, slots := 512, locals := 12 }
theorem inw_X1_init_X1 : ∀ w ∈ wsX10, w ∈ wsX1_init := by decide +kernel
set_option maxHeartbeats 4000000 in
set_option maxRecDepth 100000 in
theorem mt_X1_init {l : Launch} (hl : l.stackTraces = false) (D : va_G) (cI cJ : ClassId) (a : Nat) : gMv l yX1_init wsX1_init rm_X1_init D [(cI, .int), (cJ, .long)] [(a, .inr (1, [.int 0, .int 0, .int 0, .null, .null]))] [.ref a] 2 512 (fun w => ∃ q8 q17 : Nat, w = [(a, .inr (1, [.int 0, .int 0, .int 0, .ref q8, .ref q17])), (q8, .inl (cI, (256, .inl (fun _ : Nat => (0 : Int32))))), (q17, .inl (cJ, (256, .inr (.inl (fun _ : Nat => (0 : Int64))))))]) (fun _ _ => False) := by
  refine gMv_of (cc := cX1_init) (maxL := 1) hl (by decide +kernel) rfl (Nat.le_of_ble_eq_true rfl) ?_
  intro p e s m args below meth c A Q C hnm ht RET OUT THR THRW
  have C : gC p l s m args meth c A D [(cI, .int), (cJ, .long)] 1 RX1 cX1_init wsX1_init := C
  have hini : meth.name = "<init>" := hnm
  refine gV_loc (lvs' := [(0, .ref a)]) [0] rfl ?_
  refine gV_aload_n C dX1_init_0 rfl 0 rfl ?_
  refine gV_objInit C (C.w 1 rfl) (C.w 2 rfl) (C.w 3 rfl) dX1_init_1 (Nat.le_of_ble_eq_true rfl) (Nat.le_of_ble_eq_true rfl) ?_
  refine gV_aload_n C dX1_init_4 rfl 0 rfl ?_
  refine gV_sipush (v := 256) C dX1_init_5 rfl ?_
  refine gV_newa (cA := cI) (N' := 256) (a0 := (256, .inl (fun _ : Nat => (0 : Int32)))) (ty := .int) C .int (fun _ h9 => nomatch h9) (C.w 4 rfl) rfl 0 rfl (fun _ => rfl) (by decide) rfl (Nat.le_of_ble_eq_true rfl) (Nat.le_of_ble_eq_true rfl) (Nat.le_of_ble_eq_true rfl) dX1_init_8 (fun q8 => ?_)
  refine gV_putF (Cn := RX1) (T := TX1) (N := 5) (ws' := [(a, .inr (1, [.int 0, .int 0, .int 0, .ref q8, .null])), (q8, .inl (cI, (256, .inl (fun _ : Nat => (0 : Int32)))))]) C inw_X1_init_X1 tyX1_ok nmX1 0 rfl rfl 3 (by decide) (C.w 5 rfl) rfl rfl hini rfl rfl rfl rfl (Nat.le_of_ble_eq_true rfl) dX1_init_10 rfl ?_
  refine gV_aload_n C dX1_init_13 rfl 0 rfl ?_
  refine gV_sipush (v := 256) C dX1_init_14 rfl ?_
  refine gV_newa (cA := cJ) (N' := 256) (a0 := (256, .inr (.inl (fun _ : Nat => (0 : Int64))))) (ty := .long) C .long (fun _ h9 => nomatch h9) (C.w 6 rfl) rfl 1 rfl (fun _ => rfl) (by decide) rfl (Nat.le_of_ble_eq_true rfl) (Nat.le_of_ble_eq_true rfl) (Nat.le_of_ble_eq_true rfl) dX1_init_17 (fun q17 => ?_)
  refine gV_putF (Cn := RX1) (T := TX1) (N := 5) (ws' := [(a, .inr (1, [.int 0, .int 0, .int 0, .ref q8, .ref q17])), (q8, .inl (cI, (256, .inl (fun _ : Nat => (0 : Int32))))), (q17, .inl (cJ, (256, .inr (.inl (fun _ : Nat => (0 : Int64))))))]) C inw_X1_init_X1 tyX1_ok nmX1 0 rfl rfl 4 (by decide) (C.w 7 rfl) rfl rfl hini rfl rfl rfl rfl (Nat.le_of_ble_eq_true rfl) dX1_init_19 rfl ?_
  exact RET _ _ _ _ _ dX1_init_22 (Nat.le_of_ble_eq_true rfl) (Nat.le_of_ble_eq_true rfl) ⟨q8, q17, rfl⟩
abbrev rm_X0_init : Room := { frames := 1, cells := 3, slots := 276, locals := 12 }
theorem inw_X0_init_X0 : ∀ w ∈ wsX00, w ∈ wsX0_init := by decide +kernel
set_option maxHeartbeats 4000000 in
set_option maxRecDepth 100000 in
theorem mt_X0_init {l : Launch} (hl : l.stackTraces = false) (D : va_G) (cI cJ : ClassId) (a : Nat) (g : Nat) : gMv l yX0_init wsX0_init rm_X0_init D [(cI, .int), (cJ, .long)] [(a, .inr (0, [.null, .int 0, .null, .null, .null]))] [.ref a, .ref g] 3 276 (fun w => ∃ q7 q15 q24 : Nat, w = [(a, .inr (0, [.ref g, .int 0, .ref q7, .ref q15, .ref q24])), (q7, .inl (cI, (10, .inl (fun _ : Nat => (0 : Int32))))), (q15, .inl (cI, (10, .inl (fun _ : Nat => (0 : Int32))))), (q24, .inl (cI, (256, .inl (fun _ : Nat => (0 : Int32)))))]) (fun _ _ => False) := by
  refine gMv_of (cc := cX0_init) (maxL := 2) hl (by decide +kernel) rfl (Nat.le_of_ble_eq_true rfl) ?_
  intro p e s m args below meth c A Q C hnm ht RET OUT THR THRW
  have C : gC p l s m args meth c A D [(cI, .int), (cJ, .long)] 2 RX0 cX0_init wsX0_init := C
  have hini : meth.name = "<init>" := hnm
  refine gV_loc (lvs' := [(0, .ref a), (1, .ref g)]) [0, 1] rfl ?_
  refine gV_aload_n C dX0_init_0 rfl 0 rfl ?_
  refine gV_objInit C (C.w 1 rfl) (C.w 2 rfl) (C.w 3 rfl) dX0_init_1 (Nat.le_of_ble_eq_true rfl) (Nat.le_of_ble_eq_true rfl) ?_
  refine gV_aload_n C dX0_init_4 rfl 0 rfl ?_
  refine gV_bipush (v := 10) C dX0_init_5 rfl ?_
  refine gV_newa (cA := cI) (N' := 10) (a0 := (10, .inl (fun _ : Nat => (0 : Int32)))) (ty := .int) C .int (fun _ h9 => nomatch h9) (C.w 4 rfl) rfl 0 rfl (fun _ => rfl) (by decide) rfl (Nat.le_of_ble_eq_true rfl) (Nat.le_of_ble_eq_true rfl) (Nat.le_of_ble_eq_true rfl) dX0_init_7 (fun q7 => ?_)
  refine gV_putF (Cn := RX0) (T := TX0) (N := 5) (ws' := [(a, .inr (0, [.null, .int 0, .ref q7, .null, .null])), (q7, .inl (cI, (10, .inl (fun _ : Nat => (0 : Int32)))))]) C inw_X0_init_X0 tyX0_ok nmX0 0 rfl rfl 2 (by decide) (C.w 5 rfl) rfl rfl hini rfl rfl rfl rfl (Nat.le_of_ble_eq_true rfl) dX0_init_9 rfl ?_
  refine gV_aload_n C dX0_init_12 rfl 0 rfl ?_
  refine gV_bipush (v := 10) C dX0_init_13 rfl ?_
  refine gV_newa (cA := cI) (N' := 10) (a0 := (10, .inl (fun _ : Nat => (0 : Int32)))) (ty := .int) C .int (fun _ h9 => nomatch h9) (C.w 4 rfl) rfl 0 rfl (fun _ => rfl) (by decide) rfl (Nat.le_of_ble_eq_true rfl) (Nat.le_of_ble_eq_true rfl) (Nat.le_of_ble_eq_true rfl) dX0_init_15 (fun q15 => ?_)
  refine gV_putF (Cn := RX0) (T := TX0) (N := 5) (ws' := [(a, .inr (0, [.null, .int 0, .ref q7, .ref q15, .null])), (q7, .inl (cI, (10, .inl (fun _ : Nat => (0 : Int32))))), (q15, .inl (cI, (10, .inl (fun _ : Nat => (0 : Int32)))))]) C inw_X0_init_X0 tyX0_ok nmX0 0 rfl rfl 3 (by decide) (C.w 6 rfl) rfl rfl hini rfl rfl rfl rfl (Nat.le_of_ble_eq_true rfl) dX0_init_17 rfl ?_
  refine gV_aload_n C dX0_init_20 rfl 0 rfl ?_
  refine gV_sipush (v := 256) C dX0_init_21 rfl ?_
  refine gV_newa (cA := cI) (N' := 256) (a0 := (256, .inl (fun _ : Nat => (0 : Int32)))) (ty := .int) C .int (fun _ h9 => nomatch h9) (C.w 4 rfl) rfl 0 rfl (fun _ => rfl) (by decide) rfl (Nat.le_of_ble_eq_true rfl) (Nat.le_of_ble_eq_true rfl) (Nat.le_of_ble_eq_true rfl) dX0_init_24 (fun q24 => ?_)
  refine gV_putF (Cn := RX0) (T := TX0) (N := 5) (ws' := [(a, .inr (0, [.null, .int 0, .ref q7, .ref q15, .ref q24])), (q7, .inl (cI, (10, .inl (fun _ : Nat => (0 : Int32))))), (q15, .inl (cI, (10, .inl (fun _ : Nat => (0 : Int32))))), (q24, .inl (cI, (256, .inl (fun _ : Nat => (0 : Int32)))))]) C inw_X0_init_X0 tyX0_ok nmX0 0 rfl rfl 4 (by decide) (C.w 7 rfl) rfl rfl hini rfl rfl rfl rfl (Nat.le_of_ble_eq_true rfl) dX0_init_26 rfl ?_
  refine gV_aload_n C dX0_init_29 rfl 0 rfl ?_
  refine gV_aload_n C dX0_init_30 rfl 1 rfl ?_
  refine gV_putF (Cn := RX0) (T := TX0) (N := 5) (ws' := [(a, .inr (0, [.ref g, .int 0, .ref q7, .ref q15, .ref q24])), (q7, .inl (cI, (10, .inl (fun _ : Nat => (0 : Int32))))), (q15, .inl (cI, (10, .inl (fun _ : Nat => (0 : Int32))))), (q24, .inl (cI, (256, .inl (fun _ : Nat => (0 : Int32)))))]) C inw_X0_init_X0 tyX0_ok nmX0 0 rfl rfl 0 (by decide) (C.w 8 rfl) rfl rfl hini rfl rfl rfl rfl (Nat.le_of_ble_eq_true rfl) dX0_init_31 rfl ?_
  exact RET _ _ _ _ _ dX0_init_34 (Nat.le_of_ble_eq_true rfl) (Nat.le_of_ble_eq_true rfl) ⟨q7, q15, q24, rfl⟩
abbrev rm_X2_init : Room := { frames := 1, cells := 2, slots := 162, locals := 12 }
theorem inw_X2_init_X2 : ∀ w ∈ wsX20, w ∈ wsX2_init := by decide +kernel
set_option maxHeartbeats 4000000 in
set_option maxRecDepth 100000 in
theorem mt_X2_init {l : Launch} (hl : l.stackTraces = false) (D : va_G) (cI cJ : ClassId) (a : Nat) : gMv l yX2_init wsX2_init rm_X2_init D [(cI, .int), (cJ, .long)] [(a, .inr (2, [.int 0, .int 0, .int 0, .null, .null]))] [.ref a] 2 162 (fun w => ∃ q7 q15 : Nat, w = [(a, .inr (2, [.int 0, .int 0, .int 0, .ref q7, .ref q15])), (q7, .inl (cI, (81, .inl (fun _ : Nat => (0 : Int32))))), (q15, .inl (cI, (81, .inl (fun _ : Nat => (0 : Int32)))))]) (fun _ _ => False) := by
  refine gMv_of (cc := cX2_init) (maxL := 1) hl (by decide +kernel) rfl (Nat.le_of_ble_eq_true rfl) ?_
  intro p e s m args below meth c A Q C hnm ht RET OUT THR THRW
  have C : gC p l s m args meth c A D [(cI, .int), (cJ, .long)] 1 RX2 cX2_init wsX2_init := C
  have hini : meth.name = "<init>" := hnm
  refine gV_loc (lvs' := [(0, .ref a)]) [0] rfl ?_
  refine gV_aload_n C dX2_init_0 rfl 0 rfl ?_
  refine gV_objInit C (C.w 1 rfl) (C.w 2 rfl) (C.w 3 rfl) dX2_init_1 (Nat.le_of_ble_eq_true rfl) (Nat.le_of_ble_eq_true rfl) ?_
  refine gV_aload_n C dX2_init_4 rfl 0 rfl ?_
  refine gV_bipush (v := 81) C dX2_init_5 rfl ?_
  refine gV_newa (cA := cI) (N' := 81) (a0 := (81, .inl (fun _ : Nat => (0 : Int32)))) (ty := .int) C .int (fun _ h9 => nomatch h9) (C.w 4 rfl) rfl 0 rfl (fun _ => rfl) (by decide) rfl (Nat.le_of_ble_eq_true rfl) (Nat.le_of_ble_eq_true rfl) (Nat.le_of_ble_eq_true rfl) dX2_init_7 (fun q7 => ?_)
  refine gV_putF (Cn := RX2) (T := TX2) (N := 5) (ws' := [(a, .inr (2, [.int 0, .int 0, .int 0, .ref q7, .null])), (q7, .inl (cI, (81, .inl (fun _ : Nat => (0 : Int32)))))]) C inw_X2_init_X2 tyX2_ok nmX2 0 rfl rfl 3 (by decide) (C.w 5 rfl) rfl rfl hini rfl rfl rfl rfl (Nat.le_of_ble_eq_true rfl) dX2_init_9 rfl ?_
  refine gV_aload_n C dX2_init_12 rfl 0 rfl ?_
  refine gV_bipush (v := 81) C dX2_init_13 rfl ?_
  refine gV_newa (cA := cI) (N' := 81) (a0 := (81, .inl (fun _ : Nat => (0 : Int32)))) (ty := .int) C .int (fun _ h9 => nomatch h9) (C.w 4 rfl) rfl 0 rfl (fun _ => rfl) (by decide) rfl (Nat.le_of_ble_eq_true rfl) (Nat.le_of_ble_eq_true rfl) (Nat.le_of_ble_eq_true rfl) dX2_init_15 (fun q15 => ?_)
  refine gV_putF (Cn := RX2) (T := TX2) (N := 5) (ws' := [(a, .inr (2, [.int 0, .int 0, .int 0, .ref q7, .ref q15])), (q7, .inl (cI, (81, .inl (fun _ : Nat => (0 : Int32))))), (q15, .inl (cI, (81, .inl (fun _ : Nat => (0 : Int32)))))]) C inw_X2_init_X2 tyX2_ok nmX2 0 rfl rfl 4 (by decide) (C.w 6 rfl) rfl rfl hini rfl rfl rfl rfl (Nat.le_of_ble_eq_true rfl) dX2_init_17 rfl ?_
  exact RET _ _ _ _ _ dX2_init_20 (Nat.le_of_ble_eq_true rfl) (Nat.le_of_ble_eq_true rfl) ⟨q7, q15, rfl⟩
def pf_X3_init : Option (Int32 × Int32 × Int32 × Int32 × Int32 × Int32 × Int32 × (Nat → Int32) × (Nat → Int32) × (Nat → Int64) × (Nat → Int32)) := ob6 (pf_X1_lay 0 0 0 (fun _ : Nat => (0 : Int32)) (fun _ : Nat => (0 : Int64)) 3 4) fun r uP_1 uC_1 uR_1 gcb_1 gpb_1 => ob6 (pf_X3_tellNothing 0 0 0 uR_1 0 (fun _ : Nat => (0 : Int32)) (fun _ : Nat => (0 : Int32))) fun lc_2 la_2 hr_2 tn_2 rl_2 tl_2 => (some (lc_2, la_2, hr_2, uP_1, uC_1, uR_1, tn_2, rl_2, gcb_1, gpb_1, tl_2))
abbrev rm_X3_init : Room := { frames := 6, cells := 12, slots := 1521, locals := 126 }
theorem inw_X3_init_X0 : ∀ w ∈ wsX00, w ∈ wsX3_init := by decide +kernel
theorem inw_X3_init_X1 : ∀ w ∈ wsX10, w ∈ wsX3_init := by decide +kernel
theorem inw_X3_init_X2 : ∀ w ∈ wsX20, w ∈ wsX3_init := by decide +kernel
theorem inw_X3_init_X3 : ∀ w ∈ wsX30, w ∈ wsX3_init := by decide +kernel
set_option maxHeartbeats 4000000 in
set_option maxRecDepth 100000 in
theorem mt_X3_init {l : Launch} (hl : l.stackTraces = false) (D : va_G) (cI cJ : ClassId) (a : Nat) (lc0 : Int32) (la0 : Int32) (hr0 : Int32) (uP0 : Int32) (uC0 : Int32) (uR0 : Int32) (tn0 : Int32) (rl0 : Nat → Int32) (gcb0 : Nat → Int32) (gpb0 : Nat → Int64) (tl0 : Nat → Int32) (hp : pf_X3_init = (some (lc0, la0, hr0, uP0, uC0, uR0, tn0, rl0, gcb0, gpb0, tl0))) : gMv l yX3_init wsX3_init rm_X3_init D [(cI, .int), (cJ, .long)] [(a, .inr (3, [.null, .null, .null, .null, .null, .int 0, .int 0, .int 0]))] [.ref a] 12 1521 (fun w => ∃ h : Nat → Nat, h 0 = a ∧ w = cW h cI cJ lc0 la0 hr0 uP0 uC0 uR0 tn0 0 0 0 rl0 (fun _ : Nat => (0 : Int32)) gcb0 gpb0 (fun _ : Nat => (0 : Int32)) (fun _ : Nat => (0 : Int32)) tl0 (fun _ : Nat => (0 : Int32)) (fun _ : Nat => (0 : Int32))) (fun _ _ => False) := by
  refine gMv_of (cc := cX3_init) (maxL := 1) hl (by decide +kernel) rfl (Nat.le_of_ble_eq_true rfl) ?_
  intro p e s m args below meth c A Q C hnm ht RET OUT THR THRW
  have C : gC p l s m args meth c A D [(cI, .int), (cJ, .long)] 1 RX3 cX3_init wsX3_init := C
  have hini : meth.name = "<init>" := hnm
  refine gV_loc (lvs' := [(0, .ref a)]) [0] rfl ?_
  refine gV_aload_n C dX3_init_0 rfl 0 rfl ?_
  refine gV_objInit C (C.w 1 rfl) (C.w 2 rfl) (C.w 3 rfl) dX3_init_1 (Nat.le_of_ble_eq_true rfl) (Nat.le_of_ble_eq_true rfl) ?_
  refine gV_aload_n C dX3_init_4 rfl 0 rfl ?_
  refine gV_new (Cn := RX1) (T := TX1) (N := 5) (ci := 1) (fs := [.int 0, .int 0, .int 0, .null, .null]) C inw_X3_init_X1 tyX1_ok (C.w 4 rfl) (C.w 5 rfl) (C.w 6 rfl) rfl (fun j hj => by rcases (show j = 0 ∨ j = 1 ∨ j = 2 ∨ j = 3 ∨ j = 4 by omega) with rfl | rfl | rfl | rfl | rfl <;> rfl) (Nat.le_of_ble_eq_true rfl) (Nat.le_of_ble_eq_true rfl) dX3_init_5 (fun q5 => ?_)
  refine gV_dup C dX3_init_8 rfl ?_
  refine gV_callv C (gSub.mk (ws := [(a, .inr (3, [.null, .null, .null, .null, .null, .int 0, .int 0, .int 0])), (q5, .inr (1, [.int 0, .int 0, .int 0, .null, .null]))]) (wc := [(q5, .inr (1, [.int 0, .int 0, .int 0, .null, .null]))]) (wr := [(a, .inr (3, [.null, .null, .null, .null, .null, .int 0, .int 0, .int 0]))]) [1] [0] rfl rfl (by decide) (by decide) (by decide)) (gV_runIN (As := []) (rest := [.ref q5, .ref a]) C (mt_X1_init hl D cI cJ q5) ⟨va_cnB 0 C.2.2.2.2.1 gX3_init_X1_init_n11 rfl rfl rfl (C.2.2.2.2.2.2.2.2.1.2.2.1.2.2.2.2.2.2.1) (C.w 6 rfl) (by decide +kernel) ⟨Nat.le_of_ble_eq_true rfl, Nat.le_of_ble_eq_true rfl⟩, rfl, (C.w 19 rfl)⟩ (gSub.mk (ws := [(a, .inr (3, [.null, .null, .null, .null, .null, .int 0, .int 0, .int 0])), (q5, .inr (1, [.int 0, .int 0, .int 0, .null, .null]))]) (wc := [(q5, .inr (1, [.int 0, .int 0, .int 0, .null, .null]))]) (wr := [(a, .inr (3, [.null, .null, .null, .null, .null, .int 0, .int 0, .int 0]))]) [1] [0] rfl rfl (by decide) (by decide) (by decide)) rfl rfl (Nat.le_of_ble_eq_true rfl) dX3_init_9 ⟨Nat.le_of_ble_eq_true rfl, Nat.le_of_ble_eq_true rfl⟩) (fun _ _ hx => False.elim hx) (fun w1 hw => ?_)
  obtain ⟨q8_9, q17_9, rfl⟩ := hw
  refine gV_putF (Cn := RX3) (T := TX3) (N := 8) (ws' := [(a, .inr (3, [.ref q5, .null, .null, .null, .null, .int 0, .int 0, .int 0])), (q5, .inr (1, [.int 0, .int 0, .int 0, .ref q8_9, .ref q17_9])), (q8_9, .inl (cI, (256, .inl (fun _ : Nat => (0 : Int32))))), (q17_9, .inl (cJ, (256, .inr (.inl (fun _ : Nat => (0 : Int64))))))]) C inw_X3_init_X3 tyX3_ok nmX3 0 rfl rfl 0 (by decide) (C.w 7 rfl) rfl rfl hini rfl rfl rfl rfl (Nat.le_of_ble_eq_true rfl) dX3_init_12 rfl ?_
  refine gV_aload_n C dX3_init_15 rfl 0 rfl ?_
  refine gV_new (Cn := RX0) (T := TX0) (N := 5) (ci := 0) (fs := [.null, .int 0, .null, .null, .null]) C inw_X3_init_X0 tyX0_ok (C.w 8 rfl) (C.w 9 rfl) (C.w 10 rfl) rfl (fun j hj => by rcases (show j = 0 ∨ j = 1 ∨ j = 2 ∨ j = 3 ∨ j = 4 by omega) with rfl | rfl | rfl | rfl | rfl <;> rfl) (Nat.le_of_ble_eq_true rfl) (Nat.le_of_ble_eq_true rfl) dX3_init_16 (fun q16 => ?_)
  refine gV_dup C dX3_init_19 rfl ?_
  refine gV_aload_n C dX3_init_20 rfl 0 rfl ?_
  refine gV_get (Cn := RX3) (T := TX3) (N := 8) C inw_X3_init_X3 0 rfl rfl 0 (by decide) (C.w 7 rfl) rfl rfl dX3_init_21 ?_
  refine gV_callv C (gSub.mk (ws := [(a, .inr (3, [.ref q5, .null, .null, .null, .null, .int 0, .int 0, .int 0])), (q5, .inr (1, [.int 0, .int 0, .int 0, .ref q8_9, .ref q17_9])), (q8_9, .inl (cI, (256, .inl (fun _ : Nat => (0 : Int32))))), (q17_9, .inl (cJ, (256, .inr (.inl (fun _ : Nat => (0 : Int64)))))), (q16, .inr (0, [.null, .int 0, .null, .null, .null]))]) (wc := [(q16, .inr (0, [.null, .int 0, .null, .null, .null]))]) (wr := [(a, .inr (3, [.ref q5, .null, .null, .null, .null, .int 0, .int 0, .int 0])), (q5, .inr (1, [.int 0, .int 0, .int 0, .ref q8_9, .ref q17_9])), (q8_9, .inl (cI, (256, .inl (fun _ : Nat => (0 : Int32))))), (q17_9, .inl (cJ, (256, .inr (.inl (fun _ : Nat => (0 : Int64))))))]) [4] [0, 1, 2, 3] rfl rfl (by decide) (by decide) (by decide)) (gV_runI (As := [.ref q5]) (rest := [.ref q16, .ref a]) C (mt_X0_init hl D cI cJ q16 q5) (cwI 1 C.2.2.2.2.1 gX3_init_X0_init rfl rfl rfl (C.w 10 rfl) (C.w 25 rfl) (C.w 26 rfl) rfl (by decide +kernel) ⟨Nat.le_of_ble_eq_true rfl, Nat.le_of_ble_eq_true rfl⟩) (gSub.mk (ws := [(a, .inr (3, [.ref q5, .null, .null, .null, .null, .int 0, .int 0, .int 0])), (q5, .inr (1, [.int 0, .int 0, .int 0, .ref q8_9, .ref q17_9])), (q8_9, .inl (cI, (256, .inl (fun _ : Nat => (0 : Int32))))), (q17_9, .inl (cJ, (256, .inr (.inl (fun _ : Nat => (0 : Int64)))))), (q16, .inr (0, [.null, .int 0, .null, .null, .null]))]) (wc := [(q16, .inr (0, [.null, .int 0, .null, .null, .null]))]) (wr := [(a, .inr (3, [.ref q5, .null, .null, .null, .null, .int 0, .int 0, .int 0])), (q5, .inr (1, [.int 0, .int 0, .int 0, .ref q8_9, .ref q17_9])), (q8_9, .inl (cI, (256, .inl (fun _ : Nat => (0 : Int32))))), (q17_9, .inl (cJ, (256, .inr (.inl (fun _ : Nat => (0 : Int64))))))]) [4] [0, 1, 2, 3] rfl rfl (by decide) (by decide) (by decide)) rfl rfl (Nat.le_of_ble_eq_true rfl) dX3_init_24 ⟨Nat.le_of_ble_eq_true rfl, Nat.le_of_ble_eq_true rfl⟩) (fun _ _ hx => False.elim hx) (fun w1 hw => ?_)
  obtain ⟨q7_24, q15_24, q24_24, rfl⟩ := hw
  refine gV_putF (Cn := RX3) (T := TX3) (N := 8) (ws' := [(a, .inr (3, [.ref q5, .ref q16, .null, .null, .null, .int 0, .int 0, .int 0])), (q5, .inr (1, [.int 0, .int 0, .int 0, .ref q8_9, .ref q17_9])), (q8_9, .inl (cI, (256, .inl (fun _ : Nat => (0 : Int32))))), (q17_9, .inl (cJ, (256, .inr (.inl (fun _ : Nat => (0 : Int64)))))), (q16, .inr (0, [.ref q5, .int 0, .ref q7_24, .ref q15_24, .ref q24_24])), (q7_24, .inl (cI, (10, .inl (fun _ : Nat => (0 : Int32))))), (q15_24, .inl (cI, (10, .inl (fun _ : Nat => (0 : Int32))))), (q24_24, .inl (cI, (256, .inl (fun _ : Nat => (0 : Int32)))))]) C inw_X3_init_X3 tyX3_ok nmX3 0 rfl rfl 1 (by decide) (C.w 11 rfl) rfl rfl hini rfl rfl rfl rfl (Nat.le_of_ble_eq_true rfl) dX3_init_27 rfl ?_
  refine gV_aload_n C dX3_init_30 rfl 0 rfl ?_
  refine gV_new (Cn := RX2) (T := TX2) (N := 5) (ci := 2) (fs := [.int 0, .int 0, .int 0, .null, .null]) C inw_X3_init_X2 tyX2_ok (C.w 12 rfl) (C.w 13 rfl) (C.w 14 rfl) rfl (fun j hj => by rcases (show j = 0 ∨ j = 1 ∨ j = 2 ∨ j = 3 ∨ j = 4 by omega) with rfl | rfl | rfl | rfl | rfl <;> rfl) (Nat.le_of_ble_eq_true rfl) (Nat.le_of_ble_eq_true rfl) dX3_init_31 (fun q31 => ?_)
  refine gV_dup C dX3_init_34 rfl ?_
  refine gV_callv C (gSub.mk (ws := [(a, .inr (3, [.ref q5, .ref q16, .null, .null, .null, .int 0, .int 0, .int 0])), (q5, .inr (1, [.int 0, .int 0, .int 0, .ref q8_9, .ref q17_9])), (q8_9, .inl (cI, (256, .inl (fun _ : Nat => (0 : Int32))))), (q17_9, .inl (cJ, (256, .inr (.inl (fun _ : Nat => (0 : Int64)))))), (q16, .inr (0, [.ref q5, .int 0, .ref q7_24, .ref q15_24, .ref q24_24])), (q7_24, .inl (cI, (10, .inl (fun _ : Nat => (0 : Int32))))), (q15_24, .inl (cI, (10, .inl (fun _ : Nat => (0 : Int32))))), (q24_24, .inl (cI, (256, .inl (fun _ : Nat => (0 : Int32))))), (q31, .inr (2, [.int 0, .int 0, .int 0, .null, .null]))]) (wc := [(q31, .inr (2, [.int 0, .int 0, .int 0, .null, .null]))]) (wr := [(a, .inr (3, [.ref q5, .ref q16, .null, .null, .null, .int 0, .int 0, .int 0])), (q5, .inr (1, [.int 0, .int 0, .int 0, .ref q8_9, .ref q17_9])), (q8_9, .inl (cI, (256, .inl (fun _ : Nat => (0 : Int32))))), (q17_9, .inl (cJ, (256, .inr (.inl (fun _ : Nat => (0 : Int64)))))), (q16, .inr (0, [.ref q5, .int 0, .ref q7_24, .ref q15_24, .ref q24_24])), (q7_24, .inl (cI, (10, .inl (fun _ : Nat => (0 : Int32))))), (q15_24, .inl (cI, (10, .inl (fun _ : Nat => (0 : Int32))))), (q24_24, .inl (cI, (256, .inl (fun _ : Nat => (0 : Int32)))))]) [8] [0, 1, 2, 3, 4, 5, 6, 7] rfl rfl (by decide) (by decide) (by decide)) (gV_runIN (As := []) (rest := [.ref q31, .ref a]) C (mt_X2_init hl D cI cJ q31) ⟨va_cnB 0 C.2.2.2.2.1 gX3_init_X2_init_n27 rfl rfl rfl (C.2.2.2.2.2.2.2.2.1.2.2.1.2.2.2.2.2.2.2) (C.w 14 rfl) (by decide +kernel) ⟨Nat.le_of_ble_eq_true rfl, Nat.le_of_ble_eq_true rfl⟩, rfl, (C.w 33 rfl)⟩ (gSub.mk (ws := [(a, .inr (3, [.ref q5, .ref q16, .null, .null, .null, .int 0, .int 0, .int 0])), (q5, .inr (1, [.int 0, .int 0, .int 0, .ref q8_9, .ref q17_9])), (q8_9, .inl (cI, (256, .inl (fun _ : Nat => (0 : Int32))))), (q17_9, .inl (cJ, (256, .inr (.inl (fun _ : Nat => (0 : Int64)))))), (q16, .inr (0, [.ref q5, .int 0, .ref q7_24, .ref q15_24, .ref q24_24])), (q7_24, .inl (cI, (10, .inl (fun _ : Nat => (0 : Int32))))), (q15_24, .inl (cI, (10, .inl (fun _ : Nat => (0 : Int32))))), (q24_24, .inl (cI, (256, .inl (fun _ : Nat => (0 : Int32))))), (q31, .inr (2, [.int 0, .int 0, .int 0, .null, .null]))]) (wc := [(q31, .inr (2, [.int 0, .int 0, .int 0, .null, .null]))]) (wr := [(a, .inr (3, [.ref q5, .ref q16, .null, .null, .null, .int 0, .int 0, .int 0])), (q5, .inr (1, [.int 0, .int 0, .int 0, .ref q8_9, .ref q17_9])), (q8_9, .inl (cI, (256, .inl (fun _ : Nat => (0 : Int32))))), (q17_9, .inl (cJ, (256, .inr (.inl (fun _ : Nat => (0 : Int64)))))), (q16, .inr (0, [.ref q5, .int 0, .ref q7_24, .ref q15_24, .ref q24_24])), (q7_24, .inl (cI, (10, .inl (fun _ : Nat => (0 : Int32))))), (q15_24, .inl (cI, (10, .inl (fun _ : Nat => (0 : Int32))))), (q24_24, .inl (cI, (256, .inl (fun _ : Nat => (0 : Int32)))))]) [8] [0, 1, 2, 3, 4, 5, 6, 7] rfl rfl (by decide) (by decide) (by decide)) rfl rfl (Nat.le_of_ble_eq_true rfl) dX3_init_35 ⟨Nat.le_of_ble_eq_true rfl, Nat.le_of_ble_eq_true rfl⟩) (fun _ _ hx => False.elim hx) (fun w1 hw => ?_)
  obtain ⟨q7_35, q15_35, rfl⟩ := hw
  refine gV_putF (Cn := RX3) (T := TX3) (N := 8) (ws' := [(a, .inr (3, [.ref q5, .ref q16, .ref q31, .null, .null, .int 0, .int 0, .int 0])), (q5, .inr (1, [.int 0, .int 0, .int 0, .ref q8_9, .ref q17_9])), (q8_9, .inl (cI, (256, .inl (fun _ : Nat => (0 : Int32))))), (q17_9, .inl (cJ, (256, .inr (.inl (fun _ : Nat => (0 : Int64)))))), (q16, .inr (0, [.ref q5, .int 0, .ref q7_24, .ref q15_24, .ref q24_24])), (q7_24, .inl (cI, (10, .inl (fun _ : Nat => (0 : Int32))))), (q15_24, .inl (cI, (10, .inl (fun _ : Nat => (0 : Int32))))), (q24_24, .inl (cI, (256, .inl (fun _ : Nat => (0 : Int32))))), (q31, .inr (2, [.int 0, .int 0, .int 0, .ref q7_35, .ref q15_35])), (q7_35, .inl (cI, (81, .inl (fun _ : Nat => (0 : Int32))))), (q15_35, .inl (cI, (81, .inl (fun _ : Nat => (0 : Int32)))))]) C inw_X3_init_X3 tyX3_ok nmX3 0 rfl rfl 2 (by decide) (C.w 15 rfl) rfl rfl hini rfl rfl rfl rfl (Nat.le_of_ble_eq_true rfl) dX3_init_38 rfl ?_
  refine gV_aload_n C dX3_init_41 rfl 0 rfl ?_
  refine gV_sipush (v := 256) C dX3_init_42 rfl ?_
  refine gV_newa (cA := cI) (N' := 256) (a0 := (256, .inl (fun _ : Nat => (0 : Int32)))) (ty := .int) C .int (fun _ h9 => nomatch h9) (C.w 16 rfl) rfl 0 rfl (fun _ => rfl) (by decide) rfl (Nat.le_of_ble_eq_true rfl) (Nat.le_of_ble_eq_true rfl) (Nat.le_of_ble_eq_true rfl) dX3_init_45 (fun q45 => ?_)
  refine gV_putF (Cn := RX3) (T := TX3) (N := 8) (ws' := [(a, .inr (3, [.ref q5, .ref q16, .ref q31, .ref q45, .null, .int 0, .int 0, .int 0])), (q5, .inr (1, [.int 0, .int 0, .int 0, .ref q8_9, .ref q17_9])), (q8_9, .inl (cI, (256, .inl (fun _ : Nat => (0 : Int32))))), (q17_9, .inl (cJ, (256, .inr (.inl (fun _ : Nat => (0 : Int64)))))), (q16, .inr (0, [.ref q5, .int 0, .ref q7_24, .ref q15_24, .ref q24_24])), (q7_24, .inl (cI, (10, .inl (fun _ : Nat => (0 : Int32))))), (q15_24, .inl (cI, (10, .inl (fun _ : Nat => (0 : Int32))))), (q24_24, .inl (cI, (256, .inl (fun _ : Nat => (0 : Int32))))), (q31, .inr (2, [.int 0, .int 0, .int 0, .ref q7_35, .ref q15_35])), (q7_35, .inl (cI, (81, .inl (fun _ : Nat => (0 : Int32))))), (q15_35, .inl (cI, (81, .inl (fun _ : Nat => (0 : Int32))))), (q45, .inl (cI, (256, .inl (fun _ : Nat => (0 : Int32)))))]) C inw_X3_init_X3 tyX3_ok nmX3 0 rfl rfl 3 (by decide) (C.w 17 rfl) rfl rfl hini rfl rfl rfl rfl (Nat.le_of_ble_eq_true rfl) dX3_init_47 rfl ?_
  refine gV_aload_n C dX3_init_50 rfl 0 rfl ?_
  refine gV_sipush (v := 300) C dX3_init_51 rfl ?_
  refine gV_newa (cA := cI) (N' := 300) (a0 := (300, .inl (fun _ : Nat => (0 : Int32)))) (ty := .int) C .int (fun _ h9 => nomatch h9) (C.w 16 rfl) rfl 0 rfl (fun _ => rfl) (by decide) rfl (Nat.le_of_ble_eq_true rfl) (Nat.le_of_ble_eq_true rfl) (Nat.le_of_ble_eq_true rfl) dX3_init_54 (fun q54 => ?_)
  refine gV_putF (Cn := RX3) (T := TX3) (N := 8) (ws' := [(a, .inr (3, [.ref q5, .ref q16, .ref q31, .ref q45, .ref q54, .int 0, .int 0, .int 0])), (q5, .inr (1, [.int 0, .int 0, .int 0, .ref q8_9, .ref q17_9])), (q8_9, .inl (cI, (256, .inl (fun _ : Nat => (0 : Int32))))), (q17_9, .inl (cJ, (256, .inr (.inl (fun _ : Nat => (0 : Int64)))))), (q16, .inr (0, [.ref q5, .int 0, .ref q7_24, .ref q15_24, .ref q24_24])), (q7_24, .inl (cI, (10, .inl (fun _ : Nat => (0 : Int32))))), (q15_24, .inl (cI, (10, .inl (fun _ : Nat => (0 : Int32))))), (q24_24, .inl (cI, (256, .inl (fun _ : Nat => (0 : Int32))))), (q31, .inr (2, [.int 0, .int 0, .int 0, .ref q7_35, .ref q15_35])), (q7_35, .inl (cI, (81, .inl (fun _ : Nat => (0 : Int32))))), (q15_35, .inl (cI, (81, .inl (fun _ : Nat => (0 : Int32))))), (q45, .inl (cI, (256, .inl (fun _ : Nat => (0 : Int32))))), (q54, .inl (cI, (300, .inl (fun _ : Nat => (0 : Int32)))))]) C inw_X3_init_X3 tyX3_ok nmX3 0 rfl rfl 4 (by decide) (C.w 18 rfl) rfl rfl hini rfl rfl rfl rfl (Nat.le_of_ble_eq_true rfl) dX3_init_56 rfl ?_
  refine gV_aload_n C dX3_init_59 rfl 0 rfl ?_
  refine gV_get (Cn := RX3) (T := TX3) (N := 8) C inw_X3_init_X3 0 rfl rfl 0 (by decide) (C.w 7 rfl) rfl rfl dX3_init_60 ?_
  refine gV_iconst (v := 3) C dX3_init_63 rfl ?_
  refine gV_iconst (v := 4) C dX3_init_64 rfl ?_
  refine gV_sub (ws' := cW (fun z : Nat => [a, q5, q16, q31, q45, q54, q8_9, q17_9, q7_24, q15_24, q24_24, q7_35, q15_35].getD z 0) cI cJ 0 0 0 0 0 0 0 0 0 0 (fun _ : Nat => (0 : Int32)) (fun _ : Nat => (0 : Int32)) (fun _ : Nat => (0 : Int32)) (fun _ : Nat => (0 : Int64)) (fun _ : Nat => (0 : Int32)) (fun _ : Nat => (0 : Int32)) (fun _ : Nat => (0 : Int32)) (fun _ : Nat => (0 : Int32)) (fun _ : Nat => (0 : Int32))) [0, 1, 4, 8, 11, 12, 2, 3, 5, 6, 7, 9, 10] (by decide) rfl rfl ?_
  unfold pf_X3_init at hp
  obtain ⟨rq, uP_1, uC_1, uR_1, gcb_1, gpb_1, hq1, hp⟩ := g_ob6 hp
  refine gV_calliS C (gV_runV (As := [.int 3, .int 4]) (rest := []) C (mt_X1_lay hl D (fun z : Nat => [a, q5, q16, q31, q45, q54, q8_9, q17_9, q7_24, q15_24, q24_24, q7_35, q15_35].getD z 0) cI cJ 0 0 0 0 0 0 0 0 0 0 (fun _ : Nat => (0 : Int32)) (fun _ : Nat => (0 : Int32)) (fun _ : Nat => (0 : Int32)) (fun _ : Nat => (0 : Int64)) (fun _ : Nat => (0 : Int32)) (fun _ : Nat => (0 : Int32)) (fun _ : Nat => (0 : Int32)) (fun _ : Nat => (0 : Int32)) (fun _ : Nat => (0 : Int32)) 3 4 rq uP_1 uC_1 uR_1 gcb_1 gpb_1 hq1) (cwV 2 C.2.2.2.2.1 gX3_init_X1_lay rfl rfl rfl hdv_X1_lay ⟨Nat.le_of_ble_eq_true rfl, Nat.le_of_ble_eq_true rfl⟩) (gSub_S _) 1 rfl rfl rfl rfl (Nat.le_of_ble_eq_true rfl) dX3_init_65 ⟨Nat.le_of_ble_eq_true rfl, Nat.le_of_ble_eq_true rfl⟩) (fun _ _ hx => False.elim hx) (fun r w1 hw => ?_)
  obtain ⟨rfl, rfl⟩ := hw
  refine gV_pop C dX3_init_68 rfl ?_
  refine gV_aload_n C dX3_init_69 rfl 0 rfl ?_
  obtain ⟨lc_2, la_2, hr_2, tn_2, rl_2, tl_2, hq2, hp⟩ := g_ob6 hp
  refine gV_callvS C (gV_runV (As := []) (rest := []) C (mt_X3_tellNothing hl D (fun z : Nat => [a, q5, q16, q31, q45, q54, q8_9, q17_9, q7_24, q15_24, q24_24, q7_35, q15_35].getD z 0) cI cJ 0 0 0 uP_1 uC_1 uR_1 0 0 0 0 (fun _ : Nat => (0 : Int32)) (fun _ : Nat => (0 : Int32)) gcb_1 gpb_1 (fun _ : Nat => (0 : Int32)) (fun _ : Nat => (0 : Int32)) (fun _ : Nat => (0 : Int32)) (fun _ : Nat => (0 : Int32)) (fun _ : Nat => (0 : Int32)) lc_2 la_2 hr_2 tn_2 rl_2 tl_2 hq2) (cwV 0 C.2.2.2.2.1 gX3_init_X3_tellNothing rfl rfl rfl hdv_X3_tellNothing ⟨Nat.le_of_ble_eq_true rfl, Nat.le_of_ble_eq_true rfl⟩) (gSub_S _) 0 rfl rfl rfl rfl (Nat.le_of_ble_eq_true rfl) dX3_init_70 ⟨Nat.le_of_ble_eq_true rfl, Nat.le_of_ble_eq_true rfl⟩) (fun _ _ hx => False.elim hx) (fun w1 hw => ?_)
  obtain rfl := hw
  obtain ⟨rfl, rfl, rfl, rfl, rfl, rfl, rfl, rfl, rfl, rfl, rfl⟩ := g_so11 hp
  exact RET _ _ _ _ _ dX3_init_73 (Nat.le_of_ble_eq_true rfl) (Nat.le_of_ble_eq_true rfl) ⟨(fun z : Nat => [a, q5, q16, q31, q45, q54, q8_9, q17_9, q7_24, q15_24, q24_24, q7_35, q15_35].getD z 0), rfl, rfl⟩

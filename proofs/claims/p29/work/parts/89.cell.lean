/-! a number of the script, or one made up: a call that reads the script, which lies outside the world -/
def gPreX (D : va_G) (tys : List (ClassId × FieldType)) (av : List Value) (b L : Nat) (xs : Nat → Int32) (sz : Nat) : Array Value → State → Prop := va_Pc av (fun U => U.heap.size = sz ∧ va_P D vwCl [] U.heap ∧ va_K D vwCl tys U ∧ va_D (fun _ => True) [] ∧ gX (va_A [] sz) U U.heap ∧ va_X b L xs U U.heap ∧ b < sz)
def gMiX (l : Launch) (y : MethodName) (ws : List Cond) (rm : Room) (D : va_G) (tys : List (ClassId × FieldType)) (b L : Nat) (xs : Nat → Int32) (av : List Value) (mc ms : Nat) (post : Int32 → va_W → Prop) : Prop := ∀ sz : Nat, vx_Met l y ws rm (gPreX D tys av b L xs sz) (gQi post D tys [] sz) (gXx (fun _ _ => False) D tys [] sz) mc ms (va_A [] sz)
theorem g_blindX (D : va_G) (tys : List (ClassId × FieldType)) (av : List Value) (b L : Nat) (xs : Nat → Int32) (sz : Nat) : FrameBlind (gPreX D tys av b L xs sz) := by
  intro a U g mk h
  obtain ⟨h1, h2, h3, h4, h5, h6, h7, h8⟩ := h
  exact ⟨h1, h2, h3, va_K.moved (u := U) (U := U.calling g mk a) (Vm.Alike.refl U.vm) h4, h5, gX.same (s := U) (U := U.calling g mk a) rfl h6, va_X.moved (u := U) (U := U.calling g mk a) (Vm.Alike.refl U.vm) h7, h8⟩
section GX
variable {p : Program} {l : Launch} {e : Env} {R : Room} {s : State} {m : MethodId} {args : Array Value} {below : List Frame} {meth : Method} {c : Code} {A : Nat → Prop} {D : va_G} {nL : Nat} {Q : State → Prop} {ws ws' : va_W} {lvs lvs' : List (Nat × Value)} {k n pc : Nat} {st : List Value} {tys : List (ClassId × FieldType)} {own : String} {cc : ByteArray} {Ts : List Cond}
theorem g_preX (C : gC p l s m args meth c A D tys nL own cc Ts) {H : Heap} {locs : List Loc} (hP : va_P D vwCl ws H) (hD : va_D A ws) (hS : va_S A s.heap H locs) {b L : Nat} {xs : Nat → Int32} (hX : va_X b L xs s s.heap) (hbl : b < s.heap.size) (hbA : ¬ A b) (av : List Value) {U : State} (hU : U.heap = H) (hW : s.WarmedH U.vm) : gPreX D tys av b L xs H.size av.toArray U := by
  have h0 := g_pre C (wc := []) (isC := []) rfl rfl hP hD hS av hU hW
  obtain ⟨h1, h2, h3, h4, h5, h6⟩ := h0
  have hXH : va_X b L xs s H := va_X.kept hX (hS.2.1 b hbl hbA)
  have hbH : b < H.size := by
    obtain ⟨scr, q1, _⟩ := hXH
    exact (Array.getElem?_eq_some_iff.mp q1).1
  exact ⟨h1, h2, h3, h4, h5, h6, by rw [hU]; exact va_X.moved hW.alike hXH, hbH⟩
theorem gV_runSC (C : gC p l s m args meth c A D tys nL own cc Ts) {b L : Nat} {xs : Nat → Int32} (hX : va_X b L xs s s.heap) (hbl : b < s.heap.size) (hbA : ¬ A b) {y : MethodName} {bytes : ByteArray} {maxL mc ms nA i : Nat} {ws2 : List Cond} {rm : Room} {As rest : List Value} {post : Int32 → va_W → Prop} {ret : Option FieldType} (hM : gMiX l y ws2 rm D tys b L xs As mc ms post) (cw : CallB R s args own i y bytes maxL ret ws2 rm mc ms nA ∧ (Cond.static y).before args s = true) (hn : As.length = nA) (hst : st = As.reverse ++ rest) (hcat : (rest.map fun v => v.category).sum ≤ 8) (d : decode cc pc = .ok (.invokestatic i, 3)) (hf : k + mc ≤ R.cells ∧ n + ms ≤ R.slots) : gRun p l e R s m args below meth c A D nL ws lvs k n pc st rest mc ms [] (fun sz => gQi post D tys [] sz As.toArray) (gXx (fun _ _ => False) D tys []) := by
  intro H locs ls hP hD hS hl0
  exact vx_runS ⟨C.1, C.2.1, C.2.2.1, C.2.2.2.1, C.2.2.2.2.1⟩ (hM H.size) cw ⟨g_blindX _ _ _ _ _ _ _, fun U hU hW => g_preX C hP hD hS hX hbl hbA _ hU hW⟩ rfl hn hl0.1 hst (lv_room hcat) d hf
theorem gMiX_of {y : MethodName} {ws ws' : List Cond} {rm : Room} {D : va_G} {tys : List (ClassId × FieldType)} {b L : Nat} {xs : Nat → Int32} {av : List Value} {mc ms : Nat} {post : Int32 → va_W → Prop} {cc : ByteArray} {maxL : Nat} {rt : FieldType} (hl : l.stackTraces = false) (hy : plainName y.cls = true) (hw : ws = Cond.code y cc maxL (some rt) :: ws') (hmax : (lg_sl av).length ≤ maxL) (body : ∀ (p : Program) (e : Env) (s : State) (m : MethodId) (args : Array Value) (below : List Frame) (meth : Method) (c : Code) (A : Nat → Prop) (Q : State → Prop), gC p l s m args meth c A D tys maxL y.cls cc ws → va_X b L xs s s.heap → b < s.heap.size → ¬ A b → gRet p l e rm s m args below meth c A D maxL Q cc rt mc ms post → gV p l e rm s m args below meth c A D maxL Q [] (lv_args 0 av) 0 0 0 []) : gMiX l y ws rm D tys b L xs av mc ms post := by
  intro sz
  refine vx_ofW (cc := cc) (maxL := maxL) (ret := (some rt)) hy hw ?_
  intro p e s m args below meth c s₁ B hml ht hv
  obtain ⟨rfl, hsz, hP, hK, hD0, hX, hXX, hbl⟩ := hv
  subst hsz
  have hts := atoms_spec (ws := ws) B.pre
  have hr := B.returns
  have hD := hD0.self (sz := s.heap.size)
  have C : gC p l s m av.toArray meth c (va_A [] s.heap.size) D tys maxL y.cls cc ws := ⟨B.exec, B.bytes, hml, findClass_of_methodNamed B.named, hts, hK, fun q h => Or.inr h, B.notSynchronized, hX, hl⟩
  have hl1 := lv_entry av hmax
  have hbA : ¬ va_A [] s.heap.size b := by
    rintro (⟨k, e, h⟩ | h)
    · simp at h
    · omega
  rw [lg_entry_eq]
  refine body p e s m av.toArray below meth c (va_A [] s.heap.size) _ C hXX hbl hbA ?_ s.heap [] _ hP hD va_S.rf hl1
  intro ws lvs k n pc r d hk hn hnar hp H locs ls hP hD hS hl0
  exact W.widen hk hn (vx_ret (W.zret C.1 C.2.1 hr hnar (fun t ht hW => ⟨⟨r, ws, rfl, hp, by rw [ht]; exact hP, va_K.moved hW.alike hK, hD⟩, hS.F ht⟩) hS.2.2 d C.2.2.2.2.2.2.2.1))
end GX
abbrev rm_L_cell : Room := { frames := 0, cells := 0, slots := 0, locals := 0 }
theorem hds_L_cell : yL_cell.cls ≠ "java/lang/invoke/MethodHandle" ∧ yL_cell.cls ≠ "java/lang/invoke/VarHandle" ∧ (parseMethodDescriptor yL_cell.desc).map (fun d => d.parameters.length) = some 2 := by decide +kernel
set_option maxHeartbeats 4000000 in
set_option maxRecDepth 100000 in
theorem mt_L_cell {l : Launch} (hl : l.stackTraces = false) (D : va_G) (cI cJ : ClassId) {b L : Nat} {xs : Nat → Int32} (v1 : Int32) (r0 : Int32) (hp : pf_L_cell L xs v1 = some r0) : gMiX l yL_cell wsL_cell rm_L_cell D [(cI, .int), (cJ, .long)] b L xs [.ref b, .int v1] 0 0 (fun r w => r = r0 ∧ w = []) := by
  refine gMiX_of (cc := cL_cell) (maxL := 2) (rt := .int) hl (by decide +kernel) rfl (Nat.le_of_ble_eq_true rfl) ?_
  intro p e s m args below meth c A Q C hX hbl hbA RET
  have C : gC p l s m args meth c A D [(cI, .int), (cJ, .long)] 2 RL cL_cell wsL_cell := C
  refine gV_loc (lvs' := [(0, .ref b), (1, .int v1)]) [0, 1] rfl ?_
  have J18 : ∀ (s0 : Int32), some s0 = some r0 → gV p l e rm_L_cell s m args below meth c A D 2 Q [] [(0, .ref b), (1, .int v1)] 0 0 18 [.int s0] := by
    intro s0 hp
    cases hp
    exact RET _ _ _ _ _ _ dL_cell_18 (Nat.le_of_ble_eq_true rfl) (Nat.le_of_ble_eq_true rfl) rfl ⟨rfl, rfl⟩
  unfold pf_L_cell at hp
  refine gV_iload_n C dL_cell_0 rfl 1 rfl ?_
  refine gV_aload_n C dL_cell_1 rfl 0 rfl ?_
  refine gV_slen C hX hbl hbA dL_cell_2 ?_
  refine gV_icmp_ge (tgt := 12) C dL_cell_3 (by decide) (fun c3 => ?_) (fun c3 => ?_)
  · replace hp := g_ift hp c3
    refine gV_ldc (v := 1580899451) C dL_cell_12 (C.w 1 rfl) ?_
    refine gV_iload_n C dL_cell_14 rfl 1 rfl ?_
    refine gV_iconst (v := 2) C dL_cell_15 rfl ?_
    refine gV_iadd C dL_cell_16 ?_
    refine gV_imul C dL_cell_17 ?_
    exact J18 _ hp
  · replace hp := g_iff hp c3
    obtain ⟨hi, hp⟩ := g_idx hp
    refine gV_aload_n C dL_cell_6 rfl 0 rfl ?_
    refine gV_iload_n C dL_cell_7 rfl 1 rfl ?_
    refine gV_sld C hX hbl hbA hi dL_cell_8 ?_
    refine gV_goto (tgt := 18) C dL_cell_9 (by decide) ?_
    exact J18 _ hp

/-! THE CLAIM OUT OF ONE WALK OF THE LAW'S BODY. Your part is whole_start (and what it stands on); all else here is the same for every law, but numbers. -/
def R_law : String := "GuessMarksLaw"
def lw_P (b : Addr) (xs : List Int32) (args : Array Value) (s : State) : Prop := args = #[.ref b] ∧ s.IntsAt b xs ∧ xs.length ≤ 260 ∧ (Jvm.Cond.and given_1 narrow_1).before args s = true
def lw_Q (_ : Array Value) (s : State) (o : Outcome) (t : State) : Prop := o = .returned (some (.int 1)) ∧ Framed s o t [] 1175942 5573356
def lw_Z (below : List Frame) (a : Array Value) (s : State) : State → Prop := fun t => ∃ o, t.status = .running ∧ Ended t below o ∧ lw_Q a s o t
/-- the law's own end, with 1 on the stack, nothing written that was there before, its room as the claim has it -/
theorem lw_ret {p : Program} {l : Launch} {e : Env} {s : State} {m : MethodId} {below : List Frame} {meth : Method} {c : Code} {b : Nat} (hx : p.tables.exec = Jvm.exec) (hb : c.code = code) (hr : meth.sig.returnType = ret) (hlocks : meth.locks = false) {pc : Nat} {H : Heap} {ls : Array Slot} (hdg : decode code pc = .ok (.ireturn, 1)) : W p l e room_1 s m #[Value.ref b] below meth c H [] 1175942 5573356 (lw_Z below #[Value.ref b] s) (F0 m pc ls [.int 1]) := by
  intro T hT X
  obtain ⟨fs, hret, hrun, hended, hW, hframe⟩ := X.leave (v := some (.int 1)) (hlocks := hlocks) (fun h => by rw [hr] at h; cases h)
  have hmeth' : T.vm.method? m = some meth := X.method'
  refine ⟨T.setFrames fs, ?_, .returned (some (.int 1)), hrun, hended, rfl, ⟨_, rfl⟩, hW, hframe⟩
  jvm_step X.here [X.here.top, hx, hb, hdg, hmeth', hr, ret, narrow_b1]
  (try refine ⟨rfl, ?_⟩); (try refine ⟨rfl, ?_⟩)
  first | (intro acts; rw [hret _ acts rfl rfl rfl]) | rw [hret _ _ rfl rfl rfl]
  exact Steps.refl _
/-- what holds at the law's entry: the machine, the code, the tables' words (any of lw_tbl by 'hts w (by decide +kernel)'), the script of L ints xs at the cell b, what the Statement gives of the start (any of its parts by flat_of_before) -/
def lw_At (p : Program) (s : State) (m : MethodId) (meth : Method) (c : Code) (b L : Nat) (xs : Nat → Int32) : Prop :=
  p.tables.exec = Jvm.exec ∧ c.code = code ∧ meth.sig.returnType = ret ∧ c.maxLocals = 11 ∧ s.vm.findClass R_law = some m.cls ∧ (∀ w ∈ lw_tbl, w.before #[Value.ref b] s = true) ∧ va_X b L xs s s.heap ∧ b < s.heap.size ∧ meth.locks = false ∧ (Jvm.Cond.and given_1 narrow_1).before #[Value.ref b] s = true
theorem inlw_X3 : ∀ w ∈ wsX30, w ∈ wsL_law := lr_wsX30
set_option maxHeartbeats 4000000 in
set_option maxRecDepth 100000 in
theorem mt_law_start {p : Program} {l : Launch} (hl : l.stackTraces = false) {e : Env} {s : State} {m : MethodId} {args : Array Value} {below : List Frame} {meth : Method} {c : Code} {A : Nat → Prop} {D : va_G} {Q : State → Prop} (cI cJ : ClassId) {b L : Nat} {xs : Nat → Int32} (C : gC p l s m args meth c A D [(cI, .int), (cJ, .long)] 11 RL cL_law wsL_law) (hX : va_X b L xs s s.heap) (hbl : b < s.heap.size) (hbA : ¬ A b) (RET : ∀ (ws : va_W) (lvs : List (Nat × Value)) (K N : Nat), K ≤ 1175942 → N ≤ 5573356 → gV p l e room_1 s m args below meth c A D 11 Q ws lvs K N 161 [.int 1]) (hp : pf_law L xs = some 1) : gV p l e room_1 s m args below meth c A D 11 Q [] [(0, .ref b)] 0 0 0 [] := by
  unfold pf_law at hp
  obtain ⟨lc, la, hr, uP, uC, uR, tn, rl, gcb, gpb, tl, hq0, hp⟩ := g_ob11 hp
  obtain ⟨yr, hq1, hp⟩ := g_ob1 hp
  refine gV_new (Cn := RX3) (T := TX3) (N := 8) (ci := 3) (fs := [.null, .null, .null, .null, .null, .int 0, .int 0, .int 0]) C inlw_X3 tyX3_ok (C.w 0 rfl) (C.w 1 rfl) (C.w 2 rfl) rfl (fun j hj => by rcases (show j = 0 ∨ j = 1 ∨ j = 2 ∨ j = 3 ∨ j = 4 ∨ j = 5 ∨ j = 6 ∨ j = 7 by omega) with rfl | rfl | rfl | rfl | rfl | rfl | rfl | rfl <;> rfl) (Nat.le_of_ble_eq_true rfl) (Nat.le_of_ble_eq_true rfl) dL_law_0 (fun q0 => ?_)
  refine gV_dup C dL_law_3 rfl ?_
  refine gV_callv (wc := [(q0, .inr (3, [.null, .null, .null, .null, .null, .int 0, .int 0, .int 0]))]) (wr := []) C (gSub.mk [0] [] rfl rfl rfl rfl (fun i h => absurd h List.not_mem_nil)) (gV_runI (As := []) (rest := [.ref q0]) C (mt_X3_init hl D cI cJ q0 lc la hr uP uC uR tn rl gcb gpb tl hq0) (cwI 0 C.2.2.2.2.1 gL_law_X3_init rfl rfl rfl (C.w 2 rfl) (C.w 5 rfl) (C.w 6 rfl) rfl (by decide +kernel) ⟨Nat.le_of_ble_eq_true rfl, Nat.le_of_ble_eq_true rfl⟩) (gSub.mk (wr := []) [0] [] rfl rfl rfl rfl (fun i h => absurd h List.not_mem_nil)) rfl rfl (Nat.le_of_ble_eq_true rfl) dL_law_4 ⟨Nat.le_of_ble_eq_true rfl, Nat.le_of_ble_eq_true rfl⟩) (fun _ _ hx => False.elim hx) (fun w1 hw => ?_)
  obtain ⟨h, rfl, rfl⟩ := hw
  refine gV_astore_n (lvs' := [(1, .ref (h 0)), (0, .ref b)]) C dL_law_7 rfl (by decide) rfl ?_
  refine gV_bipush (v := 6) C dL_law_8 rfl ?_
  refine gV_newa (cA := cI) (N' := 6) (a0 := (6, .inl (fun _ : Nat => (0 : Int32)))) (ty := .int) C .int (fun _ h9 => nomatch h9) (C.w 3 rfl) rfl 0 rfl (fun _ => rfl) (by decide) rfl (Nat.le_of_ble_eq_true rfl) (Nat.le_of_ble_eq_true rfl) (Nat.le_of_ble_eq_true rfl) dL_law_10 (fun q10 => ?_)
  refine gV_astore_n (lvs' := [(2, .ref q10), (1, .ref (h 0)), (0, .ref b)]) C dL_law_12 rfl (by decide) rfl ?_
  refine gV_bipush (v := 10) C dL_law_13 rfl ?_
  refine gV_newa (cA := cI) (N' := 10) (a0 := (10, .inl (fun _ : Nat => (0 : Int32)))) (ty := .int) C .int (fun _ h9 => nomatch h9) (C.w 3 rfl) rfl 0 rfl (fun _ => rfl) (by decide) rfl (Nat.le_of_ble_eq_true rfl) (Nat.le_of_ble_eq_true rfl) (Nat.le_of_ble_eq_true rfl) dL_law_15 (fun q15 => ?_)
  refine gV_astore_n (lvs' := [(3, .ref q15), (2, .ref q10), (1, .ref (h 0)), (0, .ref b)]) C dL_law_17 rfl (by decide) rfl ?_
  refine gV_bipush (v := 10) C dL_law_18 rfl ?_
  refine gV_newa (cA := cI) (N' := 10) (a0 := (10, .inl (fun _ : Nat => (0 : Int32)))) (ty := .int) C .int (fun _ h9 => nomatch h9) (C.w 3 rfl) rfl 0 rfl (fun _ => rfl) (by decide) rfl (Nat.le_of_ble_eq_true rfl) (Nat.le_of_ble_eq_true rfl) (Nat.le_of_ble_eq_true rfl) dL_law_20 (fun q20 => ?_)
  refine gV_astore (lvs' := [(4, .ref q20), (3, .ref q15), (2, .ref q10), (1, .ref (h 0)), (0, .ref b)]) C dL_law_22 (by decide) rfl ?_
  refine gV_bipush (v := 64) C dL_law_24 rfl ?_
  refine gV_newa (cA := cJ) (N' := 64) (a0 := (64, .inr (.inl (fun _ : Nat => (0 : Int64))))) (ty := .long) C .long (fun _ h9 => nomatch h9) (C.w 4 rfl) rfl 1 rfl (fun _ => rfl) (by decide) rfl (Nat.le_of_ble_eq_true rfl) (Nat.le_of_ble_eq_true rfl) (Nat.le_of_ble_eq_true rfl) dL_law_26 (fun q26 => ?_)
  refine gV_astore (lvs' := [(5, .ref q26), (4, .ref q20), (3, .ref q15), (2, .ref q10), (1, .ref (h 0)), (0, .ref b)]) C dL_law_28 (by decide) rfl ?_
  refine gV_bipush (v := 64) C dL_law_30 rfl ?_
  refine gV_newa (cA := cI) (N' := 64) (a0 := (64, .inl (fun _ : Nat => (0 : Int32)))) (ty := .int) C .int (fun _ h9 => nomatch h9) (C.w 3 rfl) rfl 0 rfl (fun _ => rfl) (by decide) rfl (Nat.le_of_ble_eq_true rfl) (Nat.le_of_ble_eq_true rfl) (Nat.le_of_ble_eq_true rfl) dL_law_32 (fun q32 => ?_)
  refine gV_astore (lvs' := [(6, .ref q32), (5, .ref q26), (4, .ref q20), (3, .ref q15), (2, .ref q10), (1, .ref (h 0)), (0, .ref b)]) C dL_law_34 (by decide) rfl ?_
  refine gV_bipush (v := 64) C dL_law_36 rfl ?_
  refine gV_newa (cA := cJ) (N' := 64) (a0 := (64, .inr (.inl (fun _ : Nat => (0 : Int64))))) (ty := .long) C .long (fun _ h9 => nomatch h9) (C.w 4 rfl) rfl 1 rfl (fun _ => rfl) (by decide) rfl (Nat.le_of_ble_eq_true rfl) (Nat.le_of_ble_eq_true rfl) (Nat.le_of_ble_eq_true rfl) dL_law_38 (fun q38 => ?_)
  refine gV_astore (lvs' := [(7, .ref q38), (6, .ref q32), (5, .ref q26), (4, .ref q20), (3, .ref q15), (2, .ref q10), (1, .ref (h 0)), (0, .ref b)]) C dL_law_40 (by decide) rfl ?_
  obtain ⟨k, hk⟩ : ∃ k : Nat → Nat, k = fun z => [q10, q15, q20, q26, q32, q38].getD z 0 := ⟨_, rfl⟩
  have e0 : q10 = k 0 := by rw [hk]; rfl
  have e1 : q15 = k 1 := by rw [hk]; rfl
  have e2 : q20 = k 2 := by rw [hk]; rfl
  have e3 : q26 = k 3 := by rw [hk]; rfl
  have e4 : q32 = k 4 := by rw [hk]; rfl
  have e5 : q38 = k 5 := by rw [hk]; rfl
  rw [e0, e1, e2, e3, e4, e5]
  clear hk e0 e1 e2 e3 e4 e5
  refine gV_sub (ws' := (cW h cI cJ lc la hr uP uC uR tn 0 0 0 rl (fun _ : Nat => (0 : Int32)) gcb gpb (fun _ : Nat => (0 : Int32)) (fun _ : Nat => (0 : Int32)) tl (fun _ : Nat => (0 : Int32)) (fun _ : Nat => (0 : Int32))) ++ (yW k cI cJ (fun _ : Nat => (0 : Int32)) (fun _ : Nat => (0 : Int32)) (fun _ : Nat => (0 : Int32)) (fun _ : Nat => (0 : Int64)) (fun _ : Nat => (0 : Int32)) (fun _ : Nat => (0 : Int64)))) [0, 1, 2, 3, 4, 5, 6, 7, 8, 9, 10, 11, 12, 13, 14, 15, 16, 17, 18] (by decide) rfl rfl ?_
  refine gV_aload_n C dL_law_42 rfl 5 rfl ?_
  refine gV_iconst (v := 0) C dL_law_43 rfl ?_
  refine gV_iconst (v := 3) C dL_law_44 rfl ?_
  refine gV_iast (ws' := (cW h cI cJ lc la hr uP uC uR tn 0 0 0 rl (fun _ : Nat => (0 : Int32)) gcb gpb (fun _ : Nat => (0 : Int32)) (fun _ : Nat => (0 : Int32)) tl (fun _ : Nat => (0 : Int32)) (fun _ : Nat => (0 : Int32))) ++ (yW k cI cJ (upd (fun _ : Nat => (0 : Int32)) (0 : Int32).toNatClampNeg 3) (fun _ : Nat => (0 : Int32)) (fun _ : Nat => (0 : Int32)) (fun _ : Nat => (0 : Int64)) (fun _ : Nat => (0 : Int32)) (fun _ : Nat => (0 : Int64)))) C 13 rfl 0 rfl (by unfold vp_in; decide) dL_law_45 rfl ?_
  refine gV_aload_n C dL_law_46 rfl 5 rfl ?_
  refine gV_iconst (v := 1) C dL_law_47 rfl ?_
  refine gV_iconst (v := 4) C dL_law_48 rfl ?_
  refine gV_iast (ws' := (cW h cI cJ lc la hr uP uC uR tn 0 0 0 rl (fun _ : Nat => (0 : Int32)) gcb gpb (fun _ : Nat => (0 : Int32)) (fun _ : Nat => (0 : Int32)) tl (fun _ : Nat => (0 : Int32)) (fun _ : Nat => (0 : Int32))) ++ (yW k cI cJ (upd (upd (fun _ : Nat => (0 : Int32)) (0 : Int32).toNatClampNeg 3) (1 : Int32).toNatClampNeg 4) (fun _ : Nat => (0 : Int32)) (fun _ : Nat => (0 : Int32)) (fun _ : Nat => (0 : Int64)) (fun _ : Nat => (0 : Int32)) (fun _ : Nat => (0 : Int64)))) C 13 rfl 0 rfl (by unfold vp_in; decide) dL_law_49 rfl ?_
  refine gV_aload_n C dL_law_50 rfl 5 rfl ?_
  refine gV_iconst (v := 2) C dL_law_51 rfl ?_
  refine gV_bipush (v := 64) C dL_law_52 rfl ?_
  refine gV_iast (ws' := (cW h cI cJ lc la hr uP uC uR tn 0 0 0 rl (fun _ : Nat => (0 : Int32)) gcb gpb (fun _ : Nat => (0 : Int32)) (fun _ : Nat => (0 : Int32)) tl (fun _ : Nat => (0 : Int32)) (fun _ : Nat => (0 : Int32))) ++ (yW k cI cJ (upd (upd (upd (fun _ : Nat => (0 : Int32)) (0 : Int32).toNatClampNeg 3) (1 : Int32).toNatClampNeg 4) (2 : Int32).toNatClampNeg 64) (fun _ : Nat => (0 : Int32)) (fun _ : Nat => (0 : Int32)) (fun _ : Nat => (0 : Int64)) (fun _ : Nat => (0 : Int32)) (fun _ : Nat => (0 : Int64)))) C 13 rfl 0 rfl (by unfold vp_in; decide) dL_law_54 rfl ?_
  refine gV_aload_n C dL_law_55 rfl 5 rfl ?_
  refine gV_iconst (v := 4) C dL_law_56 rfl ?_
  refine gV_iconst (v := (-1)) C dL_law_57 rfl ?_
  refine gV_iast (ws' := (cW h cI cJ lc la hr uP uC uR tn 0 0 0 rl (fun _ : Nat => (0 : Int32)) gcb gpb (fun _ : Nat => (0 : Int32)) (fun _ : Nat => (0 : Int32)) tl (fun _ : Nat => (0 : Int32)) (fun _ : Nat => (0 : Int32))) ++ (yW k cI cJ (upd (upd (upd (upd (fun _ : Nat => (0 : Int32)) (0 : Int32).toNatClampNeg 3) (1 : Int32).toNatClampNeg 4) (2 : Int32).toNatClampNeg 64) (4 : Int32).toNatClampNeg (-1)) (fun _ : Nat => (0 : Int32)) (fun _ : Nat => (0 : Int32)) (fun _ : Nat => (0 : Int64)) (fun _ : Nat => (0 : Int32)) (fun _ : Nat => (0 : Int64)))) C 13 rfl 0 rfl (by unfold vp_in; decide) dL_law_58 rfl ?_
  refine gV_aload_n C dL_law_59 rfl 5 rfl ?_
  refine gV_aload C dL_law_60 0 rfl ?_
  refine gV_callv C (gsub_cy_y _ _ rfl rfl) (gV_runS (As := [.ref (k 0), .ref (k 5)]) (rest := []) C (mt_L_lay hl D k cI cJ (upd (upd (upd (upd (fun _ : Nat => (0 : Int32)) (0 : Int32).toNatClampNeg 3) (1 : Int32).toNatClampNeg 4) (2 : Int32).toNatClampNeg 64) (4 : Int32).toNatClampNeg (-1)) (fun _ : Nat => (0 : Int32)) (fun _ : Nat => (0 : Int32)) (fun _ : Nat => (0 : Int64)) (fun _ : Nat => (0 : Int32)) (fun _ : Nat => (0 : Int64)) yr hq1) (va_cwS 2 C.2.2.2.2.1 gL_law_L_lay rfl rfl rfl hds_L_lay ⟨Nat.le_of_ble_eq_true rfl, Nat.le_of_ble_eq_true rfl⟩) (gsub_cy_y _ _ rfl rfl) rfl rfl (Nat.le_of_ble_eq_true rfl) dL_law_62 ⟨Nat.le_of_ble_eq_true rfl, Nat.le_of_ble_eq_true rfl⟩) (fun _ _ hx => False.elim hx) (fun w1 hw => ?_)
  obtain rfl := hw
  refine gV_sub (ws' := (cW h cI cJ lc la hr uP uC uR tn 0 0 0 rl (fun _ : Nat => (0 : Int32)) gcb gpb (fun _ : Nat => (0 : Int32)) (fun _ : Nat => (0 : Int32)) tl (fun _ : Nat => (0 : Int32)) (fun _ : Nat => (0 : Int32))) ++ (yW k cI cJ (upd (upd (upd (upd (fun _ : Nat => (0 : Int32)) (0 : Int32).toNatClampNeg 3) (1 : Int32).toNatClampNeg 4) (2 : Int32).toNatClampNeg 64) (4 : Int32).toNatClampNeg (-1)) (fun _ : Nat => (0 : Int32)) (fun _ : Nat => (0 : Int32)) (fun _ : Nat => (0 : Int64)) (fun _ : Nat => (0 : Int32)) yr)) [0, 1, 2, 3, 4, 5, 6, 7, 8, 9, 10, 11, 12, 13, 14, 15, 16, 17, 18] (by decide) rfl rfl ?_
  refine gV_iconst (v := 0) C dL_law_65 rfl ?_
  refine gV_istore (lvs' := [(8, .int 0), (7, .ref (k 5)), (6, .ref (k 4)), (5, .ref (k 3)), (4, .ref (k 2)), (3, .ref (k 1)), (2, .ref (k 0)), (1, .ref (h 0)), (0, .ref b)]) C dL_law_66 (by decide) rfl ?_
  refine gV_loc [8, 7, 6, 5, 4, 3, 2, 1, 0] rfl ?_
  exact mt_law_L hl h k cI cJ C hX hbl hbA RET 0 lc la hr uP uC uR tn 0 0 0 rl (fun _ : Nat => (0 : Int32)) gcb gpb (fun _ : Nat => (0 : Int32)) (fun _ : Nat => (0 : Int32)) tl (fun _ : Nat => (0 : Int32)) (fun _ : Nat => (0 : Int32)) (upd (upd (upd (upd (fun _ : Nat => (0 : Int32)) (0 : Int32).toNatClampNeg 3) (1 : Int32).toNatClampNeg 4) (2 : Int32).toNatClampNeg 64) (4 : Int32).toNatClampNeg (-1)) (fun _ : Nat => (0 : Int32)) (fun _ : Nat => (0 : Int32)) (fun _ : Nat => (0 : Int64)) (fun _ : Nat => (0 : Int32)) yr hp
theorem g_strOf {k : Nat} {tx : String} {args : Array Value} {s : State} (h1 : (Cond.stringRef RX3 k tx).before args s = true) (h2 : (Cond.exactly (Term.string RX3 k) "java/lang/String").before args s = true) : ∃ a, vk_R RX3 k tx a s := by
  obtain ⟨a, _, _, _, ha, _⟩ := Cond.exactly_spec h2
  exact ⟨a, vk_R.of h1 ha⟩
set_option maxHeartbeats 4000000 in
set_option maxRecDepth 100000 in
theorem g_start {args : Array Value} {s : State} (hts : ∀ w ∈ lw_tbl, w.before args s = true) (hgv : (Jvm.Cond.and given_1 narrow_1).before args s = true) : gX (fun q : Nat => s.heap.size ≤ q) s s.heap := by
  have hs := flat_of_before _ hgv
  have hA : ∀ a : Nat, a < s.heap.size → ¬ (fun q : Nat => s.heap.size ≤ q) a := fun a h => Nat.not_le.mpr h
  refine ⟨vx_Zqof (hts (.laysStatic Bundle.tN "UNASSIGNED_STACK" Bundle.steD) (List.mem_of_getElem? (i := 258) rfl)) (hts (.initialized Bundle.tN) (List.mem_of_getElem? (i := 25) rfl)) (hs (.isRef (.static Bundle.tN "UNASSIGNED_STACK" Bundle.steD)) (by decide +kernel)) hA, vx_Zqof (hts (.laysStatic Bundle.tN "SUPPRESSED_SENTINEL" Bundle.listD) (List.mem_of_getElem? (i := 260) rfl)) (hts (.initialized Bundle.tN) (List.mem_of_getElem? (i := 25) rfl)) (hs (.isRef (.static Bundle.tN "SUPPRESSED_SENTINEL" Bundle.listD)) (by decide +kernel)) hA, ⟨?_, ?_, ?_, ?_, ?_, ?_, ?_, ?_⟩, ⟨?_, ?_, ?_⟩, ?_⟩
  · exact va_Nw.of rfl (hts _ (List.mem_of_getElem? (i := 233) rfl))
  · exact va_Nw.of rfl (hts _ (List.mem_of_getElem? (i := 347) rfl))
  · exact va_Nw.of rfl (hts _ (List.mem_of_getElem? (i := 314) rfl))
  · exact va_Nw.of rfl (hts _ (List.mem_of_getElem? (i := 235) rfl))
  · exact va_Nw.of rfl (hts _ (List.mem_of_getElem? (i := 237) rfl))
  · exact va_Nw.of rfl (hts _ (List.mem_of_getElem? (i := 239) rfl))
  · exact va_Nw.of rfl (hts _ (List.mem_of_getElem? (i := 44) rfl))
  · exact va_Nw.of rfl (hts _ (List.mem_of_getElem? (i := 94) rfl))
  · exact va_Nc.of (hs (.not (.castable "java/lang/IllegalArgumentException" "java/lang/IndexOutOfBoundsException")) (by decide +kernel))
  · exact va_Nc.of (hs (.not (.castable "java/lang/IllegalStateException" "java/lang/IndexOutOfBoundsException")) (by decide +kernel))
  · exact va_Nc.of (hs (.not (.castable "java/lang/IllegalStateException" "java/lang/IllegalArgumentException")) (by decide +kernel))
  · exact List.forall_mem_cons.mpr ⟨g_strOf (hts (.stringRef RX3 48 "no such game") (List.mem_of_getElem? (i := 272) rfl)) (hs (.exactly (.string RX3 48) "java/lang/String") (by decide +kernel)), List.forall_mem_cons.mpr ⟨g_strOf (hts (.stringRef RX3 66 "no such row or place") (List.mem_of_getElem? (i := 539) rfl)) (hs (.exactly (.string RX3 66) "java/lang/String") (by decide +kernel)), List.forall_mem_cons.mpr ⟨g_strOf (hts (.stringRef RX3 73 "no such row") (List.mem_of_getElem? (i := 354) rfl)) (hs (.exactly (.string RX3 73) "java/lang/String") (by decide +kernel)), List.forall_mem_cons.mpr ⟨g_strOf (hts (.stringRef RX3 78 "lies out of range") (List.mem_of_getElem? (i := 311) rfl)) (hs (.exactly (.string RX3 78) "java/lang/String") (by decide +kernel)), List.forall_mem_cons.mpr ⟨g_strOf (hts (.stringRef RX3 89 "the hidden row would not be left") (List.mem_of_getElem? (i := 321) rfl)) (hs (.exactly (.string RX3 89) "java/lang/String") (by decide +kernel)), List.forall_mem_cons.mpr ⟨g_strOf (hts (.stringRef RX3 104 "the mark is not possible") (List.mem_of_getElem? (i := 416) rfl)) (hs (.exactly (.string RX3 104) "java/lang/String") (by decide +kernel)), List.forall_mem_cons.mpr ⟨g_strOf (hts (.stringRef RX3 113 "the row is not left") (List.mem_of_getElem? (i := 361) rfl)) (hs (.exactly (.string RX3 113) "java/lang/String") (by decide +kernel)), List.forall_mem_cons.mpr ⟨g_strOf (hts (.stringRef RX3 119 "no row is hidden, or all entries are told") (List.mem_of_getElem? (i := 373) rfl)) (hs (.exactly (.string RX3 119) "java/lang/String") (by decide +kernel)), List.forall_mem_cons.mpr ⟨g_strOf (hts (.stringRef RX3 131 "all entries are told, or the hidden row would not be left") (List.mem_of_getElem? (i := 421) rfl)) (hs (.exactly (.string RX3 131) "java/lang/String") (by decide +kernel)), List.forall_mem_cons.mpr ⟨g_strOf (hts (.stringRef RX3 139 "there is no entry") (List.mem_of_getElem? (i := 463) rfl)) (hs (.exactly (.string RX3 139) "java/lang/String") (by decide +kernel)), List.forall_mem_cons.mpr ⟨g_strOf (hts (.stringRef RX3 154 "no such entry") (List.mem_of_getElem? (i := 499) rfl)) (hs (.exactly (.string RX3 154) "java/lang/String") (by decide +kernel)), List.forall_mem_cons.mpr ⟨g_strOf (hts (.stringRef RX3 162 "not so many rows are left") (List.mem_of_getElem? (i := 486) rfl)) (hs (.exactly (.string RX3 162) "java/lang/String") (by decide +kernel)), List.forall_mem_cons.mpr ⟨g_strOf (hts (.stringRef RX3 169 "the guess does not make so many parts") (List.mem_of_getElem? (i := 565) rfl)) (hs (.exactly (.string RX3 169) "java/lang/String") (by decide +kernel)), List.forall_mem_cons.mpr ⟨g_strOf (hts (.stringRef RX3 181 "no such rule") (List.mem_of_getElem? (i := 594) rfl)) (hs (.exactly (.string RX3 181) "java/lang/String") (by decide +kernel)), List.forall_mem_cons.mpr ⟨g_strOf (hts (.stringRef RX3 183 "no row is left") (List.mem_of_getElem? (i := 595) rfl)) (hs (.exactly (.string RX3 183) "java/lang/String") (by decide +kernel)), List.forall_mem_cons.mpr ⟨g_strOf (hts (.stringRef RX3 189 "no row is left, or too many are") (List.mem_of_getElem? (i := 618) rfl)) (hs (.exactly (.string RX3 189) "java/lang/String") (by decide +kernel)), List.forall_mem_cons.mpr ⟨g_strOf (hts (.stringRef RX3 238 "not just one row is left") (List.mem_of_getElem? (i := 663) rfl)) (hs (.exactly (.string RX3 238) "java/lang/String") (by decide +kernel)), fun _ h => absurd h List.not_mem_nil⟩⟩⟩⟩⟩⟩⟩⟩⟩⟩⟩⟩⟩⟩⟩⟩⟩
set_option maxHeartbeats 4000000 in
set_option maxRecDepth 100000 in
theorem g_arrOf {args : Array Value} {s : State} {ty : FieldType} (hp : ∀ C, ty ≠ .object C) (h : (Cond.arrayClass ty).before args s = true) : ∃ cA : ClassId, ArrOfT s cA ty ∧ va_RA s cA ty := by
  obtain ⟨cA, kA, comp, h1, h2, h3⟩ := Cond.arrayClass_spec h
  refine ⟨cA, fun n z => ⟨fun k h => (by cases h), kA, h2, comp, h3⟩, ?_⟩
  cases ty with
  | object C => exact absurd rfl (hp C)
  | _ => exact h1
set_option maxHeartbeats 4000000 in
set_option maxRecDepth 100000 in
/-- the law, from its entry, of what pf_law says -/
theorem whole_of {p : Program} {e : Env} {s : State} {m : MethodId} {below : List Frame} {meth : Method} {c : Code} (l : Launch) (hflags : l.flags = flags0) {b L : Nat} {xs : Nat → Int32} (hp : pf_law L xs = some 1) (C0 : lw_At p s m meth c b L xs) : W p l e room_1 s m #[Value.ref b] below meth c s.heap [] 0 0 (lw_Z below #[Value.ref b] s) (entryFrame m ([Value.ref b] : List Value).toArray 11) := by
  obtain ⟨hx, hb, hr, hml, hown, hts, hX, hbl, hlocks, hgv⟩ := id C0
  obtain ⟨c0, i0, K0⟩ := u_known (C := RX0) (T := TX0) (N := 5) (n := 5) hts inX0 (hts (.instantiable RX0 5) (List.mem_of_getElem? (i := 70) rfl))
  obtain ⟨c1, i1, K1⟩ := u_known (C := RX1) (T := TX1) (N := 5) (n := 5) hts inX1 (hts (.instantiable RX1 5) (List.mem_of_getElem? (i := 43) rfl))
  obtain ⟨c2, i2, K2⟩ := u_known (C := RX2) (T := TX2) (N := 5) (n := 5) hts inX2 (hts (.instantiable RX2 5) (List.mem_of_getElem? (i := 93) rfl))
  obtain ⟨c3, i3, K3⟩ := u_known (C := RX3) (T := TX3) (N := 8) (n := 8) hts inX3 (hts (.instantiable RX3 8) (List.mem_of_getElem? (i := 35) rfl))
  obtain ⟨cI, aI, rI⟩ := g_arrOf (ty := .int) (fun _ h => nomatch h) (hts (.arrayClass .int) (List.mem_of_getElem? (i := 67) rfl))
  obtain ⟨cJ, aJ, rJ⟩ := g_arrOf (ty := .long) (fun _ h => nomatch h) (hts (.arrayClass .long) (List.mem_of_getElem? (i := 68) rfl))
  obtain ⟨D, hKc⟩ : ∃ D : va_G, ∀ (k : Nat) (q : vw_C), vwCl[k]? = some q → u_Kn s q.1 q.2.1 q.2.2 (D.1 k) (D.2 k) := by
    refine ⟨(fun k => if k = 0 then c0 else if k = 1 then c1 else if k = 2 then c2 else c3, fun k => if k = 0 then i0 else if k = 1 then i1 else if k = 2 then i2 else i3), ?_⟩
    intro k q hq
    match k, hq with
    | 0, hq => cases hq; exact K0
    | 1, hq => cases hq; exact K1
    | 2, hq => cases hq; exact K2
    | 3, hq => cases hq; exact K3
    | k + 4, hq => simp [vwCl] at hq
  have hK : va_K D vwCl [(cI, .int), (cJ, .long)] s := by
    refine ⟨hKc, fun k q h => ?_⟩
    match k, h with
    | 0, h => cases h; exact ⟨aI, rI⟩
    | 1, h => cases h; exact ⟨aJ, rJ⟩
    | k + 2, h => simp at h
  have hl : l.stackTraces = false := by
    unfold Launch.stackTraces
    rw [hflags]
    decide +kernel
  have hbA : ¬ (fun q : Nat => s.heap.size ≤ q) b := Nat.not_le.mpr hbl
  have C : gC p l s m #[Value.ref b] meth c (fun q : Nat => s.heap.size ≤ q) D [(cI, .int), (cJ, .long)] 11 RL cL_law wsL_law := ⟨hx, hb, hml, hown, fun w h => hts w (wsL_law_in w h), hK, fun _ h => h, hlocks, g_start hts hgv, hl⟩
  have hP : va_P D vwCl [] s.heap := fun k q h => by simp at h
  have hD : va_D (fun q : Nat => s.heap.size ≤ q) [] := ⟨fun i j p q h => by simp at h, fun k q h => by simp at h⟩
  have hl1 := lv_entry ([.ref b]) (n := 11) (Nat.le_of_ble_eq_true rfl)
  rw [lg_entry_eq]
  refine mt_law_start hl cI cJ C hX hbl hbA (Q := lw_Z below #[Value.ref b] s) (below := below) ?_ hp s.heap [] _ hP hD va_S.rf hl1
  intro ws lvs K N hK1 hN1 H locs ls hP hD hS hl0
  exact W.widen hK1 hN1 (va_forget hS.2.2 (lw_ret hx hb hr hlocks dL_law_161))

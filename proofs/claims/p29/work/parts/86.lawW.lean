abbrev rm_L_begin : Room := { frames := 7, cells := 1, slots := 6, locals := 148 }
theorem hdv_X3_begin : yX3_begin.cls = RX3 ∧ yX3_begin.cls ≠ "java/lang/invoke/MethodHandle" ∧ yX3_begin.cls ≠ "java/lang/invoke/VarHandle" ∧ (parseMethodDescriptor yX3_begin.desc).map (fun d => d.parameters.length) = some 2 := by decide +kernel
set_option maxHeartbeats 4000000 in
set_option maxRecDepth 100000 in
theorem mt_L_begin {l : Launch} (hl : l.stackTraces = false) (D : va_G) (h : Nat → Nat) (cI cJ : ClassId) (lc : Int32) (la : Int32) (hr : Int32) (uP : Int32) (uC : Int32) (uR : Int32) (tn : Int32) (pn : Int32) (pg : Int32) (pq : Int32) (rl : Nat → Int32) (sr : Nat → Int32) (gcb : Nat → Int32) (gpb : Nat → Int64) (tg : Nat → Int32) (tm : Nat → Int32) (tl : Nat → Int32) (pm : Nat → Int32) (ps : Nat → Int32) (v1 : Int32) (v2 : Int32) (r0 : Int32) (lc0 : Int32) (la0 : Int32) (hr0 : Int32) (uP0 : Int32) (uC0 : Int32) (uR0 : Int32) (tn0 : Int32) (rl0 : Nat → Int32) (gcb0 : Nat → Int32) (gpb0 : Nat → Int64) (tl0 : Nat → Int32) (hp : pf_L_begin lc la hr uP uC uR tn rl gcb gpb tl v1 v2 = (some (r0, lc0, la0, hr0, uP0, uC0, uR0, tn0, rl0, gcb0, gpb0, tl0))) : gMi l yL_begin wsL_begin rm_L_begin D [(cI, .int), (cJ, .long)] (cW h cI cJ lc la hr uP uC uR tn pn pg pq rl sr gcb gpb tg tm tl pm ps) [.ref (h 0), .int v1, .int v2] 1 6 (fun r w => r = r0 ∧ w = cW h cI cJ lc0 la0 hr0 uP0 uC0 uR0 tn0 pn pg pq rl0 sr gcb0 gpb0 tg tm tl0 pm ps) (fun _ _ => False) := by
  refine gMi_ofH (cc := cL_begin) (maxL := 5) (rt := .int) hl (by decide +kernel) rfl (Nat.le_of_ble_eq_true rfl) ?_
  intro p e s m args below meth c A Q C hnm ht RET
  have C : gC p l s m args meth c A D [(cI, .int), (cJ, .long)] 5 RL cL_begin wsL_begin := C
  refine gV_loc (lvs' := [(0, .ref (h 0)), (1, .int v1), (2, .int v2)]) [0, 1, 2] rfl ?_
  unfold pf_L_begin at hp
  refine gV_aload_n C dL_begin_0 rfl 0 rfl ?_
  refine gV_iload_n C dL_begin_1 rfl 1 rfl ?_
  refine gV_iload_n C dL_begin_2 rfl 2 rfl ?_
  obtain ⟨x3, r3q, lc_3, la_3, hr_3, uP_3, uC_3, uR_3, tn_3, rl_3, gcb_3, gpb_3, tl_3, hq3, hp⟩ := g_ob13 hp
  refine gV_calliS C (gV_runV (As := [.int v1, .int v2]) (rest := []) C (mt_X3_begin hl D h cI cJ lc la hr uP uC uR tn pn pg pq rl sr gcb gpb tg tm tl pm ps v1 v2 x3 r3q lc_3 la_3 hr_3 uP_3 uC_3 uR_3 tn_3 rl_3 gcb_3 gpb_3 tl_3 hq3) (cwV 2 C.2.2.2.2.1 gL_begin_X3_begin rfl rfl rfl hdv_X3_begin ⟨Nat.le_of_ble_eq_true rfl, Nat.le_of_ble_eq_true rfl⟩) (gSub_S _) 0 rfl rfl rfl rfl (Nat.le_of_ble_eq_true rfl) dL_begin_3 ⟨Nat.le_of_ble_eq_true rfl, Nat.le_of_ble_eq_true rfl⟩) (fun E w1 hx => ?_) (fun r3 w1 hw => ?_)
  · obtain ⟨hne, rfl, rfl⟩ := hx
    replace hp := g_iff hp hne
    by_cases hc1 : x3 = 1
    · replace hp := g_ift hp hc1
      subst hc1
      rw [g_exn1]
      exact g_none hp
    · replace hp := g_iff hp hc1
      by_cases hc2 : x3 = 2
      · replace hp := g_ift hp hc2
        subst hc2
        rw [g_exn2]
        refine gT_catch (E := "java/lang/IllegalArgumentException") C (Or.inl rfl) [] { startPc := 0, endPc := 7, handlerPc := 10, catchType := 14 } [] (ht.trans rfl) (fun z hz => absurd hz List.not_mem_nil) rfl (by decide) (C.w 1 rfl) (fun q9 => ?_)
        show gV p l e rm_L_begin s m args below meth c A D 5 Q (cW h cI cJ lc_3 la_3 hr_3 uP_3 uC_3 uR_3 tn_3 pn pg pq rl_3 sr gcb_3 gpb_3 tg tm tl_3 pm ps) [(0, .ref (h 0)), (1, .int v1), (2, .int v2)] _ _ 10 [.ref q9]
        refine gV_astore (lvs' := [(4, .ref q9), (0, .ref (h 0)), (1, .int v1), (2, .int v2)]) C dL_begin_10 (by decide) rfl ?_
        refine gV_bipush (v := (-72)) C dL_begin_12 rfl ?_
        obtain ⟨rfl, rfl, rfl, rfl, rfl, rfl, rfl, rfl, rfl, rfl, rfl, rfl⟩ := g_so12 hp
        exact RET _ _ _ _ _ _ dL_begin_14 (Nat.le_of_ble_eq_true rfl) (Nat.le_of_ble_eq_true rfl) rfl ⟨rfl, rfl⟩
      · replace hp := g_iff hp hc2
        rw [g_exn3 hc1 hc2]
        exact g_none hp
  · obtain ⟨hx0, rfl, rfl⟩ := hw
    replace hp := g_ift hp hx0
    refine gV_istore_n (lvs' := [(3, .int r3), (0, .ref (h 0)), (1, .int v1), (2, .int v2)]) C dL_begin_6 rfl (by decide) rfl ?_
    refine gV_goto (tgt := 15) C dL_begin_7 (by decide) ?_
    refine gV_iload_n C dL_begin_15 rfl 0 rfl ?_
    obtain ⟨rfl, rfl, rfl, rfl, rfl, rfl, rfl, rfl, rfl, rfl, rfl, rfl⟩ := g_so12 hp
    exact RET _ _ _ _ _ _ dL_begin_16 (Nat.le_of_ble_eq_true rfl) (Nat.le_of_ble_eq_true rfl) rfl ⟨rfl, rfl⟩
abbrev rm_L_colourAt : Room := { frames := 7, cells := 1, slots := 6, locals := 104 }
theorem hdv_X3_colourAt : yX3_colourAt.cls = RX3 ∧ yX3_colourAt.cls ≠ "java/lang/invoke/MethodHandle" ∧ yX3_colourAt.cls ≠ "java/lang/invoke/VarHandle" ∧ (parseMethodDescriptor yX3_colourAt.desc).map (fun d => d.parameters.length) = some 2 := by decide +kernel
set_option maxHeartbeats 4000000 in
set_option maxRecDepth 100000 in
theorem mt_L_colourAt {l : Launch} (hl : l.stackTraces = false) (D : va_G) (h : Nat → Nat) (cI cJ : ClassId) (lc : Int32) (la : Int32) (hr : Int32) (uP : Int32) (uC : Int32) (uR : Int32) (tn : Int32) (pn : Int32) (pg : Int32) (pq : Int32) (rl : Nat → Int32) (sr : Nat → Int32) (gcb : Nat → Int32) (gpb : Nat → Int64) (tg : Nat → Int32) (tm : Nat → Int32) (tl : Nat → Int32) (pm : Nat → Int32) (ps : Nat → Int32) (v1 : Int32) (v2 : Int32) (r0 : Int32) (hp : pf_L_colourAt uP uR gcb v1 v2 = (some r0)) : gMi l yL_colourAt wsL_colourAt rm_L_colourAt D [(cI, .int), (cJ, .long)] (cW h cI cJ lc la hr uP uC uR tn pn pg pq rl sr gcb gpb tg tm tl pm ps) [.ref (h 0), .int v1, .int v2] 1 6 (fun r w => r = r0 ∧ w = cW h cI cJ lc la hr uP uC uR tn pn pg pq rl sr gcb gpb tg tm tl pm ps) (fun _ _ => False) := by
  refine gMi_ofH (cc := cL_colourAt) (maxL := 5) (rt := .int) hl (by decide +kernel) rfl (Nat.le_of_ble_eq_true rfl) ?_
  intro p e s m args below meth c A Q C hnm ht RET
  have C : gC p l s m args meth c A D [(cI, .int), (cJ, .long)] 5 RL cL_colourAt wsL_colourAt := C
  refine gV_loc (lvs' := [(0, .ref (h 0)), (1, .int v1), (2, .int v2)]) [0, 1, 2] rfl ?_
  unfold pf_L_colourAt at hp
  refine gV_aload_n C dL_colourAt_0 rfl 0 rfl ?_
  refine gV_iload_n C dL_colourAt_1 rfl 1 rfl ?_
  refine gV_iload_n C dL_colourAt_2 rfl 2 rfl ?_
  obtain ⟨x3, r3q, hq3, hp⟩ := g_ob2 hp
  refine gV_calliS C (gV_runV (As := [.int v1, .int v2]) (rest := []) C (mt_X3_colourAt hl D h cI cJ lc la hr uP uC uR tn pn pg pq rl sr gcb gpb tg tm tl pm ps v1 v2 x3 r3q hq3) (cwV 2 C.2.2.2.2.1 gL_colourAt_X3_colourAt rfl rfl rfl hdv_X3_colourAt ⟨Nat.le_of_ble_eq_true rfl, Nat.le_of_ble_eq_true rfl⟩) (gSub_S _) 0 rfl rfl rfl rfl (Nat.le_of_ble_eq_true rfl) dL_colourAt_3 ⟨Nat.le_of_ble_eq_true rfl, Nat.le_of_ble_eq_true rfl⟩) (fun E w1 hx => ?_) (fun r3 w1 hw => ?_)
  · obtain ⟨hne, rfl, rfl⟩ := hx
    replace hp := g_iff hp hne
    by_cases hc1 : x3 = 1
    · replace hp := g_ift hp hc1
      subst hc1
      rw [g_exn1]
      refine gT_catch (E := "java/lang/IndexOutOfBoundsException") C (Or.inr (Or.inl rfl)) [] { startPc := 0, endPc := 7, handlerPc := 10, catchType := 19 } [] (ht.trans rfl) (fun z hz => absurd hz List.not_mem_nil) rfl (by decide) (C.w 1 rfl) (fun q9 => ?_)
      show gV p l e rm_L_colourAt s m args below meth c A D 5 Q (cW h cI cJ lc la hr uP uC uR tn pn pg pq rl sr gcb gpb tg tm tl pm ps) [(0, .ref (h 0)), (1, .int v1), (2, .int v2)] _ _ 10 [.ref q9]
      refine gV_astore (lvs' := [(4, .ref q9), (0, .ref (h 0)), (1, .int v1), (2, .int v2)]) C dL_colourAt_10 (by decide) rfl ?_
      refine gV_bipush (v := (-71)) C dL_colourAt_12 rfl ?_
      obtain rfl := g_so1 hp
      exact RET _ _ _ _ _ _ dL_colourAt_14 (Nat.le_of_ble_eq_true rfl) (Nat.le_of_ble_eq_true rfl) rfl ⟨rfl, rfl⟩
    · replace hp := g_iff hp hc1
      by_cases hc2 : x3 = 2
      · replace hp := g_ift hp hc2
        subst hc2
        rw [g_exn2]
        exact g_none hp
      · replace hp := g_iff hp hc2
        rw [g_exn3 hc1 hc2]
        exact g_none hp
  · obtain ⟨hx0, rfl, rfl⟩ := hw
    replace hp := g_ift hp hx0
    refine gV_istore_n (lvs' := [(3, .int r3), (0, .ref (h 0)), (1, .int v1), (2, .int v2)]) C dL_colourAt_6 rfl (by decide) rfl ?_
    refine gV_goto (tgt := 15) C dL_colourAt_7 (by decide) ?_
    refine gV_iload_n C dL_colourAt_15 rfl 0 rfl ?_
    obtain rfl := g_so1 hp
    exact RET _ _ _ _ _ _ dL_colourAt_16 (Nat.le_of_ble_eq_true rfl) (Nat.le_of_ble_eq_true rfl) rfl ⟨rfl, rfl⟩
abbrev rm_L_mark : Room := { frames := 7, cells := 1, slots := 6, locals := 104 }
theorem hdv_X3_mark : yX3_mark.cls = RX3 ∧ yX3_mark.cls ≠ "java/lang/invoke/MethodHandle" ∧ yX3_mark.cls ≠ "java/lang/invoke/VarHandle" ∧ (parseMethodDescriptor yX3_mark.desc).map (fun d => d.parameters.length) = some 2 := by decide +kernel
set_option maxHeartbeats 4000000 in
set_option maxRecDepth 100000 in
theorem mt_L_mark {l : Launch} (hl : l.stackTraces = false) (D : va_G) (h : Nat → Nat) (cI cJ : ClassId) (lc : Int32) (la : Int32) (hr : Int32) (uP : Int32) (uC : Int32) (uR : Int32) (tn : Int32) (pn : Int32) (pg : Int32) (pq : Int32) (rl : Nat → Int32) (sr : Nat → Int32) (gcb : Nat → Int32) (gpb : Nat → Int64) (tg : Nat → Int32) (tm : Nat → Int32) (tl : Nat → Int32) (pm : Nat → Int32) (ps : Nat → Int32) (v1 : Int32) (v2 : Int32) (r0 : Int32) (hp : pf_L_mark uP uR gcb gpb v1 v2 = (some r0)) : gMi l yL_mark wsL_mark rm_L_mark D [(cI, .int), (cJ, .long)] (cW h cI cJ lc la hr uP uC uR tn pn pg pq rl sr gcb gpb tg tm tl pm ps) [.ref (h 0), .int v1, .int v2] 1 6 (fun r w => r = r0 ∧ w = cW h cI cJ lc la hr uP uC uR tn pn pg pq rl sr gcb gpb tg tm tl pm ps) (fun _ _ => False) := by
  refine gMi_ofH (cc := cL_mark) (maxL := 5) (rt := .int) hl (by decide +kernel) rfl (Nat.le_of_ble_eq_true rfl) ?_
  intro p e s m args below meth c A Q C hnm ht RET
  have C : gC p l s m args meth c A D [(cI, .int), (cJ, .long)] 5 RL cL_mark wsL_mark := C
  refine gV_loc (lvs' := [(0, .ref (h 0)), (1, .int v1), (2, .int v2)]) [0, 1, 2] rfl ?_
  unfold pf_L_mark at hp
  refine gV_aload_n C dL_mark_0 rfl 0 rfl ?_
  refine gV_iload_n C dL_mark_1 rfl 1 rfl ?_
  refine gV_iload_n C dL_mark_2 rfl 2 rfl ?_
  obtain ⟨x3, r3q, hq3, hp⟩ := g_ob2 hp
  refine gV_calliS C (gV_runV (As := [.int v1, .int v2]) (rest := []) C (mt_X3_mark hl D h cI cJ lc la hr uP uC uR tn pn pg pq rl sr gcb gpb tg tm tl pm ps v1 v2 x3 r3q hq3) (cwV 2 C.2.2.2.2.1 gL_mark_X3_mark rfl rfl rfl hdv_X3_mark ⟨Nat.le_of_ble_eq_true rfl, Nat.le_of_ble_eq_true rfl⟩) (gSub_S _) 0 rfl rfl rfl rfl (Nat.le_of_ble_eq_true rfl) dL_mark_3 ⟨Nat.le_of_ble_eq_true rfl, Nat.le_of_ble_eq_true rfl⟩) (fun E w1 hx => ?_) (fun r3 w1 hw => ?_)
  · obtain ⟨hne, rfl, rfl⟩ := hx
    replace hp := g_iff hp hne
    by_cases hc1 : x3 = 1
    · replace hp := g_ift hp hc1
      subst hc1
      rw [g_exn1]
      refine gT_catch (E := "java/lang/IndexOutOfBoundsException") C (Or.inr (Or.inl rfl)) [] { startPc := 0, endPc := 7, handlerPc := 10, catchType := 19 } [] (ht.trans rfl) (fun z hz => absurd hz List.not_mem_nil) rfl (by decide) (C.w 1 rfl) (fun q9 => ?_)
      show gV p l e rm_L_mark s m args below meth c A D 5 Q (cW h cI cJ lc la hr uP uC uR tn pn pg pq rl sr gcb gpb tg tm tl pm ps) [(0, .ref (h 0)), (1, .int v1), (2, .int v2)] _ _ 10 [.ref q9]
      refine gV_astore (lvs' := [(4, .ref q9), (0, .ref (h 0)), (1, .int v1), (2, .int v2)]) C dL_mark_10 (by decide) rfl ?_
      refine gV_bipush (v := (-71)) C dL_mark_12 rfl ?_
      obtain rfl := g_so1 hp
      exact RET _ _ _ _ _ _ dL_mark_14 (Nat.le_of_ble_eq_true rfl) (Nat.le_of_ble_eq_true rfl) rfl ⟨rfl, rfl⟩
    · replace hp := g_iff hp hc1
      by_cases hc2 : x3 = 2
      · replace hp := g_ift hp hc2
        subst hc2
        rw [g_exn2]
        exact g_none hp
      · replace hp := g_iff hp hc2
        rw [g_exn3 hc1 hc2]
        exact g_none hp
  · obtain ⟨hx0, rfl, rfl⟩ := hw
    replace hp := g_ift hp hx0
    refine gV_istore_n (lvs' := [(3, .int r3), (0, .ref (h 0)), (1, .int v1), (2, .int v2)]) C dL_mark_6 rfl (by decide) rfl ?_
    refine gV_goto (tgt := 15) C dL_mark_7 (by decide) ?_
    refine gV_iload_n C dL_mark_15 rfl 0 rfl ?_
    obtain rfl := g_so1 hp
    exact RET _ _ _ _ _ _ dL_mark_16 (Nat.le_of_ble_eq_true rfl) (Nat.le_of_ble_eq_true rfl) rfl ⟨rfl, rfl⟩
abbrev rm_L_allowLies : Room := { frames := 7, cells := 1, slots := 6, locals := 128 }
theorem hdv_X3_allowLies : yX3_allowLies.cls = RX3 ∧ yX3_allowLies.cls ≠ "java/lang/invoke/MethodHandle" ∧ yX3_allowLies.cls ≠ "java/lang/invoke/VarHandle" ∧ (parseMethodDescriptor yX3_allowLies.desc).map (fun d => d.parameters.length) = some 1 := by decide +kernel
set_option maxHeartbeats 4000000 in
set_option maxRecDepth 100000 in
theorem mt_L_allowLies {l : Launch} (hl : l.stackTraces = false) (D : va_G) (h : Nat → Nat) (cI cJ : ClassId) (lc : Int32) (la : Int32) (hr : Int32) (uP : Int32) (uC : Int32) (uR : Int32) (tn : Int32) (pn : Int32) (pg : Int32) (pq : Int32) (rl : Nat → Int32) (sr : Nat → Int32) (gcb : Nat → Int32) (gpb : Nat → Int64) (tg : Nat → Int32) (tm : Nat → Int32) (tl : Nat → Int32) (pm : Nat → Int32) (ps : Nat → Int32) (v1 : Int32) (r0 : Int32) (lc0 : Int32) (la0 : Int32) (rl0 : Nat → Int32) (hp : pf_L_allowLies lc la hr uR tn rl tl v1 = (some (r0, lc0, la0, rl0))) : gMi l yL_allowLies wsL_allowLies rm_L_allowLies D [(cI, .int), (cJ, .long)] (cW h cI cJ lc la hr uP uC uR tn pn pg pq rl sr gcb gpb tg tm tl pm ps) [.ref (h 0), .int v1] 1 6 (fun r w => r = r0 ∧ w = cW h cI cJ lc0 la0 hr uP uC uR tn pn pg pq rl0 sr gcb gpb tg tm tl pm ps) (fun _ _ => False) := by
  refine gMi_ofH (cc := cL_allowLies) (maxL := 4) (rt := .int) hl (by decide +kernel) rfl (Nat.le_of_ble_eq_true rfl) ?_
  intro p e s m args below meth c A Q C hnm ht RET
  have C : gC p l s m args meth c A D [(cI, .int), (cJ, .long)] 4 RL cL_allowLies wsL_allowLies := C
  refine gV_loc (lvs' := [(0, .ref (h 0)), (1, .int v1)]) [0, 1] rfl ?_
  unfold pf_L_allowLies at hp
  refine gV_aload_n C dL_allowLies_0 rfl 0 rfl ?_
  refine gV_iload_n C dL_allowLies_1 rfl 1 rfl ?_
  obtain ⟨x2, r2q, lc_2, la_2, rl_2, hq2, hp⟩ := g_ob5 hp
  refine gV_calliS C (gV_runV (As := [.int v1]) (rest := []) C (mt_X3_allowLies hl D h cI cJ lc la hr uP uC uR tn pn pg pq rl sr gcb gpb tg tm tl pm ps v1 x2 r2q lc_2 la_2 rl_2 hq2) (cwV 1 C.2.2.2.2.1 gL_allowLies_X3_allowLies rfl rfl rfl hdv_X3_allowLies ⟨Nat.le_of_ble_eq_true rfl, Nat.le_of_ble_eq_true rfl⟩) (gSub_S _) 0 rfl rfl rfl rfl (Nat.le_of_ble_eq_true rfl) dL_allowLies_2 ⟨Nat.le_of_ble_eq_true rfl, Nat.le_of_ble_eq_true rfl⟩) (fun E w1 hx => ?_) (fun r2 w1 hw => ?_)
  · obtain ⟨hne, rfl, rfl⟩ := hx
    replace hp := g_iff hp hne
    by_cases hc1 : x2 = 1
    · replace hp := g_ift hp hc1
      subst hc1
      rw [g_exn1]
      exact g_none hp
    · replace hp := g_iff hp hc1
      by_cases hc2 : x2 = 2
      · replace hp := g_ift hp hc2
        subst hc2
        rw [g_exn2]
        refine gT_catch (E := "java/lang/IllegalArgumentException") C (Or.inl rfl) [] { startPc := 0, endPc := 6, handlerPc := 9, catchType := 14 } [{ startPc := 0, endPc := 6, handlerPc := 13, catchType := 28 }] (ht.trans rfl) (fun z hz => absurd hz List.not_mem_nil) rfl (by decide) (C.w 1 rfl) (fun q9 => ?_)
        show gV p l e rm_L_allowLies s m args below meth c A D 4 Q (cW h cI cJ lc_2 la_2 hr uP uC uR tn pn pg pq rl_2 sr gcb gpb tg tm tl pm ps) [(0, .ref (h 0)), (1, .int v1)] _ _ 9 [.ref q9]
        refine gV_astore_n (lvs' := [(3, .ref q9), (0, .ref (h 0)), (1, .int v1)]) C dL_allowLies_9 rfl (by decide) rfl ?_
        refine gV_bipush (v := (-72)) C dL_allowLies_10 rfl ?_
        obtain ⟨rfl, rfl, rfl, rfl⟩ := g_so4 hp
        exact RET _ _ _ _ _ _ dL_allowLies_12 (Nat.le_of_ble_eq_true rfl) (Nat.le_of_ble_eq_true rfl) rfl ⟨rfl, rfl⟩
      · replace hp := g_iff hp hc2
        rw [g_exn3 hc1 hc2]
        refine gT_catch (E := "java/lang/IllegalStateException") C (Or.inr (Or.inr rfl)) [{ startPc := 0, endPc := 6, handlerPc := 9, catchType := 14 }] { startPc := 0, endPc := 6, handlerPc := 13, catchType := 28 } [] (ht.trans rfl) (List.forall_mem_cons.mpr ⟨Or.inr ⟨by decide, _, C.w 1 rfl, C.2.2.2.2.2.2.2.2.1.2.2.2.1.2.2⟩, fun z hz => absurd hz List.not_mem_nil⟩) rfl (by decide) (C.w 2 rfl) (fun q9 => ?_)
        show gV p l e rm_L_allowLies s m args below meth c A D 4 Q (cW h cI cJ lc_2 la_2 hr uP uC uR tn pn pg pq rl_2 sr gcb gpb tg tm tl pm ps) [(0, .ref (h 0)), (1, .int v1)] _ _ 13 [.ref q9]
        refine gV_astore_n (lvs' := [(3, .ref q9), (0, .ref (h 0)), (1, .int v1)]) C dL_allowLies_13 rfl (by decide) rfl ?_
        refine gV_bipush (v := (-73)) C dL_allowLies_14 rfl ?_
        obtain ⟨rfl, rfl, rfl, rfl⟩ := g_so4 hp
        exact RET _ _ _ _ _ _ dL_allowLies_16 (Nat.le_of_ble_eq_true rfl) (Nat.le_of_ble_eq_true rfl) rfl ⟨rfl, rfl⟩
  · obtain ⟨hx0, rfl, rfl⟩ := hw
    replace hp := g_ift hp hx0
    refine gV_istore_n (lvs' := [(2, .int r2), (0, .ref (h 0)), (1, .int v1)]) C dL_allowLies_5 rfl (by decide) rfl ?_
    refine gV_goto (tgt := 17) C dL_allowLies_6 (by decide) ?_
    refine gV_iload_n C dL_allowLies_17 rfl 0 rfl ?_
    obtain ⟨rfl, rfl, rfl, rfl⟩ := g_so4 hp
    exact RET _ _ _ _ _ _ dL_allowLies_18 (Nat.le_of_ble_eq_true rfl) (Nat.le_of_ble_eq_true rfl) rfl ⟨rfl, rfl⟩
abbrev rm_L_hide : Room := { frames := 8, cells := 2, slots := 12, locals := 125 }
theorem hdv_X3_hide : yX3_hide.cls = RX3 ∧ yX3_hide.cls ≠ "java/lang/invoke/MethodHandle" ∧ yX3_hide.cls ≠ "java/lang/invoke/VarHandle" ∧ (parseMethodDescriptor yX3_hide.desc).map (fun d => d.parameters.length) = some 1 := by decide +kernel
set_option maxHeartbeats 4000000 in
set_option maxRecDepth 100000 in
theorem mt_L_hide {l : Launch} (hl : l.stackTraces = false) (D : va_G) (h : Nat → Nat) (cI cJ : ClassId) (lc : Int32) (la : Int32) (hr : Int32) (uP : Int32) (uC : Int32) (uR : Int32) (tn : Int32) (pn : Int32) (pg : Int32) (pq : Int32) (rl : Nat → Int32) (sr : Nat → Int32) (gcb : Nat → Int32) (gpb : Nat → Int64) (tg : Nat → Int32) (tm : Nat → Int32) (tl : Nat → Int32) (pm : Nat → Int32) (ps : Nat → Int32) (v1 : Int32) (r0 : Int32) (hr0 : Int32) (hp : pf_L_hide la hr uR tn tl v1 = (some (r0, hr0))) : gMi l yL_hide wsL_hide rm_L_hide D [(cI, .int), (cJ, .long)] (cW h cI cJ lc la hr uP uC uR tn pn pg pq rl sr gcb gpb tg tm tl pm ps) [.ref (h 0), .int v1] 2 12 (fun r w => r = r0 ∧ w = cW h cI cJ lc la hr0 uP uC uR tn pn pg pq rl sr gcb gpb tg tm tl pm ps) (fun _ _ => False) := by
  refine gMi_ofH (cc := cL_hide) (maxL := 4) (rt := .int) hl (by decide +kernel) rfl (Nat.le_of_ble_eq_true rfl) ?_
  intro p e s m args below meth c A Q C hnm ht RET
  have C : gC p l s m args meth c A D [(cI, .int), (cJ, .long)] 4 RL cL_hide wsL_hide := C
  refine gV_loc (lvs' := [(0, .ref (h 0)), (1, .int v1)]) [0, 1] rfl ?_
  unfold pf_L_hide at hp
  have J26 : ∀ (s0 : Int32) (hr : Int32), pf_L_hide_j26 s0 hr = (some (r0, hr0)) → gV p l e rm_L_hide s m args below meth c A D 4 Q (cW h cI cJ lc la hr uP uC uR tn pn pg pq rl sr gcb gpb tg tm tl pm ps) [(0, .ref (h 0))] 2 12 26 [.int s0] := by
    intro s0 hr hp
    unfold pf_L_hide_j26 at hp
    obtain ⟨rfl, rfl⟩ := g_so2 hp
    exact RET _ _ _ _ _ _ dL_hide_26 (Nat.le_of_ble_eq_true rfl) (Nat.le_of_ble_eq_true rfl) rfl ⟨rfl, rfl⟩
  refine gV_aload_n C dL_hide_0 rfl 0 rfl ?_
  refine gV_iload_n C dL_hide_1 rfl 1 rfl ?_
  obtain ⟨x2, r2q, hr_2, hq2, hp⟩ := g_ob3 hp
  refine gV_calliS C (gV_runV (As := [.int v1]) (rest := []) C (mt_X3_hide hl D h cI cJ lc la hr uP uC uR tn pn pg pq rl sr gcb gpb tg tm tl pm ps v1 x2 r2q hr_2 hq2) (cwV 1 C.2.2.2.2.1 gL_hide_X3_hide rfl rfl rfl hdv_X3_hide ⟨Nat.le_of_ble_eq_true rfl, Nat.le_of_ble_eq_true rfl⟩) (gSub_S _) 0 rfl rfl rfl rfl (Nat.le_of_ble_eq_true rfl) dL_hide_2 ⟨Nat.le_of_ble_eq_true rfl, Nat.le_of_ble_eq_true rfl⟩) (fun E w1 hx => ?_) (fun r2 w1 hw => ?_)
  · obtain ⟨hne, rfl, rfl⟩ := hx
    replace hp := g_iff hp hne
    by_cases hc1 : x2 = 1
    · replace hp := g_ift hp hc1
      subst hc1
      rw [g_exn1]
      refine gT_catch (E := "java/lang/IndexOutOfBoundsException") C (Or.inr (Or.inl rfl)) [] { startPc := 0, endPc := 6, handlerPc := 9, catchType := 19 } [{ startPc := 0, endPc := 6, handlerPc := 13, catchType := 28 }] (ht.trans rfl) (fun z hz => absurd hz List.not_mem_nil) rfl (by decide) (C.w 1 rfl) (fun q9 => ?_)
      show gV p l e rm_L_hide s m args below meth c A D 4 Q (cW h cI cJ lc la hr_2 uP uC uR tn pn pg pq rl sr gcb gpb tg tm tl pm ps) [(0, .ref (h 0)), (1, .int v1)] _ _ 9 [.ref q9]
      refine gV_astore_n (lvs' := [(3, .ref q9), (0, .ref (h 0)), (1, .int v1)]) C dL_hide_9 rfl (by decide) rfl ?_
      refine gV_bipush (v := (-71)) C dL_hide_10 rfl ?_
      obtain ⟨rfl, rfl⟩ := g_so2 hp
      exact RET _ _ _ _ _ _ dL_hide_12 (Nat.le_of_ble_eq_true rfl) (Nat.le_of_ble_eq_true rfl) rfl ⟨rfl, rfl⟩
    · replace hp := g_iff hp hc1
      by_cases hc2 : x2 = 2
      · replace hp := g_ift hp hc2
        subst hc2
        rw [g_exn2]
        exact g_none hp
      · replace hp := g_iff hp hc2
        rw [g_exn3 hc1 hc2]
        refine gT_catch (E := "java/lang/IllegalStateException") C (Or.inr (Or.inr rfl)) [{ startPc := 0, endPc := 6, handlerPc := 9, catchType := 19 }] { startPc := 0, endPc := 6, handlerPc := 13, catchType := 28 } [] (ht.trans rfl) (List.forall_mem_cons.mpr ⟨Or.inr ⟨by decide, _, C.w 1 rfl, C.2.2.2.2.2.2.2.2.1.2.2.2.1.2.1⟩, fun z hz => absurd hz List.not_mem_nil⟩) rfl (by decide) (C.w 2 rfl) (fun q9 => ?_)
        show gV p l e rm_L_hide s m args below meth c A D 4 Q (cW h cI cJ lc la hr_2 uP uC uR tn pn pg pq rl sr gcb gpb tg tm tl pm ps) [(0, .ref (h 0)), (1, .int v1)] _ _ 13 [.ref q9]
        refine gV_astore_n (lvs' := [(3, .ref q9), (0, .ref (h 0)), (1, .int v1)]) C dL_hide_13 rfl (by decide) rfl ?_
        refine gV_bipush (v := (-73)) C dL_hide_14 rfl ?_
        obtain ⟨rfl, rfl⟩ := g_so2 hp
        exact RET _ _ _ _ _ _ dL_hide_16 (Nat.le_of_ble_eq_true rfl) (Nat.le_of_ble_eq_true rfl) rfl ⟨rfl, rfl⟩
  · obtain ⟨hx0, rfl, rfl⟩ := hw
    replace hp := g_ift hp hx0
    refine gV_istore_n (lvs' := [(2, .int r2), (0, .ref (h 0)), (1, .int v1)]) C dL_hide_5 rfl (by decide) rfl ?_
    refine gV_goto (tgt := 17) C dL_hide_6 (by decide) ?_
    refine gV_iload_n C dL_hide_17 rfl 0 rfl ?_
    refine gV_if_eq (tgt := 25) C dL_hide_18 (by decide) (fun c18 => ?_) (fun c18 => ?_)
    · replace hp := g_ift hp c18
      refine gV_iconst (v := 0) C dL_hide_25 rfl ?_
      refine gV_loc [1] rfl ?_
      exact J26 0 hr_2 hp
    · replace hp := g_iff hp c18
      refine gV_iconst (v := 1) C dL_hide_21 rfl ?_
      refine gV_goto (tgt := 26) C dL_hide_22 (by decide) ?_
      refine gV_loc [1] rfl ?_
      exact J26 1 hr_2 hp
abbrev rm_L_guess : Room := { frames := 8, cells := 2, slots := 12, locals := 150 }
theorem hdv_X3_guess : yX3_guess.cls = RX3 ∧ yX3_guess.cls ≠ "java/lang/invoke/MethodHandle" ∧ yX3_guess.cls ≠ "java/lang/invoke/VarHandle" ∧ (parseMethodDescriptor yX3_guess.desc).map (fun d => d.parameters.length) = some 1 := by decide +kernel
set_option maxHeartbeats 4000000 in
set_option maxRecDepth 100000 in
theorem mt_L_guess {l : Launch} (hl : l.stackTraces = false) (D : va_G) (h : Nat → Nat) (cI cJ : ClassId) (lc : Int32) (la : Int32) (hr : Int32) (uP : Int32) (uC : Int32) (uR : Int32) (tn : Int32) (pn : Int32) (pg : Int32) (pq : Int32) (rl : Nat → Int32) (sr : Nat → Int32) (gcb : Nat → Int32) (gpb : Nat → Int64) (tg : Nat → Int32) (tm : Nat → Int32) (tl : Nat → Int32) (pm : Nat → Int32) (ps : Nat → Int32) (v1 : Int32) (r0 : Int32) (lc0 : Int32) (tn0 : Int32) (rl0 : Nat → Int32) (tg0 : Nat → Int32) (tm0 : Nat → Int32) (tl0 : Nat → Int32) (hp : pf_L_guess lc la hr uP uR tn rl gcb gpb tg tm tl v1 = (some (r0, lc0, tn0, rl0, tg0, tm0, tl0))) : gMi l yL_guess wsL_guess rm_L_guess D [(cI, .int), (cJ, .long)] (cW h cI cJ lc la hr uP uC uR tn pn pg pq rl sr gcb gpb tg tm tl pm ps) [.ref (h 0), .int v1] 2 12 (fun r w => r = r0 ∧ w = cW h cI cJ lc0 la hr uP uC uR tn0 pn pg pq rl0 sr gcb gpb tg0 tm0 tl0 pm ps) (fun _ _ => False) := by
  refine gMi_ofH (cc := cL_guess) (maxL := 4) (rt := .int) hl (by decide +kernel) rfl (Nat.le_of_ble_eq_true rfl) ?_
  intro p e s m args below meth c A Q C hnm ht RET
  have C : gC p l s m args meth c A D [(cI, .int), (cJ, .long)] 4 RL cL_guess wsL_guess := C
  refine gV_loc (lvs' := [(0, .ref (h 0)), (1, .int v1)]) [0, 1] rfl ?_
  unfold pf_L_guess at hp
  refine gV_aload_n C dL_guess_0 rfl 0 rfl ?_
  refine gV_iload_n C dL_guess_1 rfl 1 rfl ?_
  obtain ⟨x2, r2q, lc_2, tn_2, rl_2, tg_2, tm_2, tl_2, hq2, hp⟩ := g_ob8 hp
  refine gV_calliS C (gV_runV (As := [.int v1]) (rest := []) C (mt_X3_guess hl D h cI cJ lc la hr uP uC uR tn pn pg pq rl sr gcb gpb tg tm tl pm ps v1 x2 r2q lc_2 tn_2 rl_2 tg_2 tm_2 tl_2 hq2) (cwV 1 C.2.2.2.2.1 gL_guess_X3_guess rfl rfl rfl hdv_X3_guess ⟨Nat.le_of_ble_eq_true rfl, Nat.le_of_ble_eq_true rfl⟩) (gSub_S _) 0 rfl rfl rfl rfl (Nat.le_of_ble_eq_true rfl) dL_guess_2 ⟨Nat.le_of_ble_eq_true rfl, Nat.le_of_ble_eq_true rfl⟩) (fun E w1 hx => ?_) (fun r2 w1 hw => ?_)
  · obtain ⟨hne, rfl, rfl⟩ := hx
    replace hp := g_iff hp hne
    by_cases hc1 : x2 = 1
    · replace hp := g_ift hp hc1
      subst hc1
      rw [g_exn1]
      refine gT_catch (E := "java/lang/IndexOutOfBoundsException") C (Or.inr (Or.inl rfl)) [] { startPc := 0, endPc := 6, handlerPc := 9, catchType := 19 } [{ startPc := 0, endPc := 6, handlerPc := 13, catchType := 28 }] (ht.trans rfl) (fun z hz => absurd hz List.not_mem_nil) rfl (by decide) (C.w 1 rfl) (fun q9 => ?_)
      show gV p l e rm_L_guess s m args below meth c A D 4 Q (cW h cI cJ lc_2 la hr uP uC uR tn_2 pn pg pq rl_2 sr gcb gpb tg_2 tm_2 tl_2 pm ps) [(0, .ref (h 0)), (1, .int v1)] _ _ 9 [.ref q9]
      refine gV_astore_n (lvs' := [(3, .ref q9), (0, .ref (h 0)), (1, .int v1)]) C dL_guess_9 rfl (by decide) rfl ?_
      refine gV_bipush (v := (-71)) C dL_guess_10 rfl ?_
      obtain ⟨rfl, rfl, rfl, rfl, rfl, rfl, rfl⟩ := g_so7 hp
      exact RET _ _ _ _ _ _ dL_guess_12 (Nat.le_of_ble_eq_true rfl) (Nat.le_of_ble_eq_true rfl) rfl ⟨rfl, rfl⟩
    · replace hp := g_iff hp hc1
      by_cases hc2 : x2 = 2
      · replace hp := g_ift hp hc2
        subst hc2
        rw [g_exn2]
        exact g_none hp
      · replace hp := g_iff hp hc2
        rw [g_exn3 hc1 hc2]
        refine gT_catch (E := "java/lang/IllegalStateException") C (Or.inr (Or.inr rfl)) [{ startPc := 0, endPc := 6, handlerPc := 9, catchType := 19 }] { startPc := 0, endPc := 6, handlerPc := 13, catchType := 28 } [] (ht.trans rfl) (List.forall_mem_cons.mpr ⟨Or.inr ⟨by decide, _, C.w 1 rfl, C.2.2.2.2.2.2.2.2.1.2.2.2.1.2.1⟩, fun z hz => absurd hz List.not_mem_nil⟩) rfl (by decide) (C.w 2 rfl) (fun q9 => ?_)
        show gV p l e rm_L_guess s m args below meth c A D 4 Q (cW h cI cJ lc_2 la hr uP uC uR tn_2 pn pg pq rl_2 sr gcb gpb tg_2 tm_2 tl_2 pm ps) [(0, .ref (h 0)), (1, .int v1)] _ _ 13 [.ref q9]
        refine gV_astore_n (lvs' := [(3, .ref q9), (0, .ref (h 0)), (1, .int v1)]) C dL_guess_13 rfl (by decide) rfl ?_
        refine gV_bipush (v := (-73)) C dL_guess_14 rfl ?_
        obtain ⟨rfl, rfl, rfl, rfl, rfl, rfl, rfl⟩ := g_so7 hp
        exact RET _ _ _ _ _ _ dL_guess_16 (Nat.le_of_ble_eq_true rfl) (Nat.le_of_ble_eq_true rfl) rfl ⟨rfl, rfl⟩
  · obtain ⟨hx0, rfl, rfl⟩ := hw
    replace hp := g_ift hp hx0
    refine gV_istore_n (lvs' := [(2, .int r2), (0, .ref (h 0)), (1, .int v1)]) C dL_guess_5 rfl (by decide) rfl ?_
    refine gV_goto (tgt := 17) C dL_guess_6 (by decide) ?_
    refine gV_iload_n C dL_guess_17 rfl 0 rfl ?_
    obtain ⟨rfl, rfl, rfl, rfl, rfl, rfl, rfl⟩ := g_so7 hp
    exact RET _ _ _ _ _ _ dL_guess_18 (Nat.le_of_ble_eq_true rfl) (Nat.le_of_ble_eq_true rfl) rfl ⟨rfl, rfl⟩
abbrev rm_L_tell : Room := { frames := 8, cells := 3, slots := 18, locals := 150 }
theorem hdv_X3_tell : yX3_tell.cls = RX3 ∧ yX3_tell.cls ≠ "java/lang/invoke/MethodHandle" ∧ yX3_tell.cls ≠ "java/lang/invoke/VarHandle" ∧ (parseMethodDescriptor yX3_tell.desc).map (fun d => d.parameters.length) = some 2 := by decide +kernel
set_option maxHeartbeats 4000000 in
set_option maxRecDepth 100000 in
theorem mt_L_tell {l : Launch} (hl : l.stackTraces = false) (D : va_G) (h : Nat → Nat) (cI cJ : ClassId) (lc : Int32) (la : Int32) (hr : Int32) (uP : Int32) (uC : Int32) (uR : Int32) (tn : Int32) (pn : Int32) (pg : Int32) (pq : Int32) (rl : Nat → Int32) (sr : Nat → Int32) (gcb : Nat → Int32) (gpb : Nat → Int64) (tg : Nat → Int32) (tm : Nat → Int32) (tl : Nat → Int32) (pm : Nat → Int32) (ps : Nat → Int32) (v1 : Int32) (v2 : Int32) (r0 : Int32) (lc0 : Int32) (tn0 : Int32) (rl0 : Nat → Int32) (tg0 : Nat → Int32) (tm0 : Nat → Int32) (tl0 : Nat → Int32) (hp : pf_L_tell lc la hr uP uR tn rl gcb gpb tg tm tl v1 v2 = (some (r0, lc0, tn0, rl0, tg0, tm0, tl0))) : gMi l yL_tell wsL_tell rm_L_tell D [(cI, .int), (cJ, .long)] (cW h cI cJ lc la hr uP uC uR tn pn pg pq rl sr gcb gpb tg tm tl pm ps) [.ref (h 0), .int v1, .int v2] 3 18 (fun r w => r = r0 ∧ w = cW h cI cJ lc0 la hr uP uC uR tn0 pn pg pq rl0 sr gcb gpb tg0 tm0 tl0 pm ps) (fun _ _ => False) := by
  refine gMi_ofH (cc := cL_tell) (maxL := 5) (rt := .int) hl (by decide +kernel) rfl (Nat.le_of_ble_eq_true rfl) ?_
  intro p e s m args below meth c A Q C hnm ht RET
  have C : gC p l s m args meth c A D [(cI, .int), (cJ, .long)] 5 RL cL_tell wsL_tell := C
  refine gV_loc (lvs' := [(0, .ref (h 0)), (1, .int v1), (2, .int v2)]) [0, 1, 2] rfl ?_
  unfold pf_L_tell at hp
  refine gV_aload_n C dL_tell_0 rfl 0 rfl ?_
  refine gV_iload_n C dL_tell_1 rfl 1 rfl ?_
  refine gV_iload_n C dL_tell_2 rfl 2 rfl ?_
  obtain ⟨x3, r3q, lc_3, tn_3, rl_3, tg_3, tm_3, tl_3, hq3, hp⟩ := g_ob8 hp
  refine gV_calliS C (gV_runV (As := [.int v1, .int v2]) (rest := []) C (mt_X3_tell hl D h cI cJ lc la hr uP uC uR tn pn pg pq rl sr gcb gpb tg tm tl pm ps v1 v2 x3 r3q lc_3 tn_3 rl_3 tg_3 tm_3 tl_3 hq3) (cwV 2 C.2.2.2.2.1 gL_tell_X3_tell rfl rfl rfl hdv_X3_tell ⟨Nat.le_of_ble_eq_true rfl, Nat.le_of_ble_eq_true rfl⟩) (gSub_S _) 0 rfl rfl rfl rfl (Nat.le_of_ble_eq_true rfl) dL_tell_3 ⟨Nat.le_of_ble_eq_true rfl, Nat.le_of_ble_eq_true rfl⟩) (fun E w1 hx => ?_) (fun r3 w1 hw => ?_)
  · obtain ⟨hne, rfl, rfl⟩ := hx
    replace hp := g_iff hp hne
    by_cases hc1 : x3 = 1
    · replace hp := g_ift hp hc1
      subst hc1
      rw [g_exn1]
      refine gT_catch (E := "java/lang/IndexOutOfBoundsException") C (Or.inr (Or.inl rfl)) [] { startPc := 0, endPc := 7, handlerPc := 10, catchType := 19 } [{ startPc := 0, endPc := 7, handlerPc := 15, catchType := 14 }, { startPc := 0, endPc := 7, handlerPc := 20, catchType := 28 }] (ht.trans rfl) (fun z hz => absurd hz List.not_mem_nil) rfl (by decide) (C.w 1 rfl) (fun q9 => ?_)
      show gV p l e rm_L_tell s m args below meth c A D 5 Q (cW h cI cJ lc_3 la hr uP uC uR tn_3 pn pg pq rl_3 sr gcb gpb tg_3 tm_3 tl_3 pm ps) [(0, .ref (h 0)), (1, .int v1), (2, .int v2)] _ _ 10 [.ref q9]
      refine gV_astore (lvs' := [(4, .ref q9), (0, .ref (h 0)), (1, .int v1), (2, .int v2)]) C dL_tell_10 (by decide) rfl ?_
      refine gV_bipush (v := (-71)) C dL_tell_12 rfl ?_
      obtain ⟨rfl, rfl, rfl, rfl, rfl, rfl, rfl⟩ := g_so7 hp
      exact RET _ _ _ _ _ _ dL_tell_14 (Nat.le_of_ble_eq_true rfl) (Nat.le_of_ble_eq_true rfl) rfl ⟨rfl, rfl⟩
    · replace hp := g_iff hp hc1
      by_cases hc2 : x3 = 2
      · replace hp := g_ift hp hc2
        subst hc2
        rw [g_exn2]
        refine gT_catch (E := "java/lang/IllegalArgumentException") C (Or.inl rfl) [{ startPc := 0, endPc := 7, handlerPc := 10, catchType := 19 }] { startPc := 0, endPc := 7, handlerPc := 15, catchType := 14 } [{ startPc := 0, endPc := 7, handlerPc := 20, catchType := 28 }] (ht.trans rfl) (List.forall_mem_cons.mpr ⟨Or.inr ⟨by decide, _, C.w 1 rfl, C.2.2.2.2.2.2.2.2.1.2.2.2.1.1⟩, fun z hz => absurd hz List.not_mem_nil⟩) rfl (by decide) (C.w 2 rfl) (fun q9 => ?_)
        show gV p l e rm_L_tell s m args below meth c A D 5 Q (cW h cI cJ lc_3 la hr uP uC uR tn_3 pn pg pq rl_3 sr gcb gpb tg_3 tm_3 tl_3 pm ps) [(0, .ref (h 0)), (1, .int v1), (2, .int v2)] _ _ 15 [.ref q9]
        refine gV_astore (lvs' := [(4, .ref q9), (0, .ref (h 0)), (1, .int v1), (2, .int v2)]) C dL_tell_15 (by decide) rfl ?_
        refine gV_bipush (v := (-72)) C dL_tell_17 rfl ?_
        obtain ⟨rfl, rfl, rfl, rfl, rfl, rfl, rfl⟩ := g_so7 hp
        exact RET _ _ _ _ _ _ dL_tell_19 (Nat.le_of_ble_eq_true rfl) (Nat.le_of_ble_eq_true rfl) rfl ⟨rfl, rfl⟩
      · replace hp := g_iff hp hc2
        rw [g_exn3 hc1 hc2]
        refine gT_catch (E := "java/lang/IllegalStateException") C (Or.inr (Or.inr rfl)) [{ startPc := 0, endPc := 7, handlerPc := 10, catchType := 19 }, { startPc := 0, endPc := 7, handlerPc := 15, catchType := 14 }] { startPc := 0, endPc := 7, handlerPc := 20, catchType := 28 } [] (ht.trans rfl) (List.forall_mem_cons.mpr ⟨Or.inr ⟨by decide, _, C.w 1 rfl, C.2.2.2.2.2.2.2.2.1.2.2.2.1.2.1⟩, List.forall_mem_cons.mpr ⟨Or.inr ⟨by decide, _, C.w 2 rfl, C.2.2.2.2.2.2.2.2.1.2.2.2.1.2.2⟩, fun z hz => absurd hz List.not_mem_nil⟩⟩) rfl (by decide) (C.w 3 rfl) (fun q9 => ?_)
        show gV p l e rm_L_tell s m args below meth c A D 5 Q (cW h cI cJ lc_3 la hr uP uC uR tn_3 pn pg pq rl_3 sr gcb gpb tg_3 tm_3 tl_3 pm ps) [(0, .ref (h 0)), (1, .int v1), (2, .int v2)] _ _ 20 [.ref q9]
        refine gV_astore (lvs' := [(4, .ref q9), (0, .ref (h 0)), (1, .int v1), (2, .int v2)]) C dL_tell_20 (by decide) rfl ?_
        refine gV_bipush (v := (-73)) C dL_tell_22 rfl ?_
        obtain ⟨rfl, rfl, rfl, rfl, rfl, rfl, rfl⟩ := g_so7 hp
        exact RET _ _ _ _ _ _ dL_tell_24 (Nat.le_of_ble_eq_true rfl) (Nat.le_of_ble_eq_true rfl) rfl ⟨rfl, rfl⟩
  · obtain ⟨hx0, rfl, rfl⟩ := hw
    replace hp := g_ift hp hx0
    refine gV_istore_n (lvs' := [(3, .int r3), (0, .ref (h 0)), (1, .int v1), (2, .int v2)]) C dL_tell_6 rfl (by decide) rfl ?_
    refine gV_goto (tgt := 25) C dL_tell_7 (by decide) ?_
    refine gV_iload_n C dL_tell_25 rfl 0 rfl ?_
    obtain ⟨rfl, rfl, rfl, rfl, rfl, rfl, rfl⟩ := g_so7 hp
    exact RET _ _ _ _ _ _ dL_tell_26 (Nat.le_of_ble_eq_true rfl) (Nat.le_of_ble_eq_true rfl) rfl ⟨rfl, rfl⟩
abbrev rm_L_takeBack : Room := { frames := 7, cells := 1, slots := 6, locals := 126 }
theorem hdv_X3_takeBack : yX3_takeBack.cls = RX3 ∧ yX3_takeBack.cls ≠ "java/lang/invoke/MethodHandle" ∧ yX3_takeBack.cls ≠ "java/lang/invoke/VarHandle" ∧ (parseMethodDescriptor yX3_takeBack.desc).map (fun d => d.parameters.length) = some 0 := by decide +kernel
set_option maxHeartbeats 4000000 in
set_option maxRecDepth 100000 in
theorem mt_L_takeBack {l : Launch} (hl : l.stackTraces = false) (D : va_G) (h : Nat → Nat) (cI cJ : ClassId) (lc : Int32) (la : Int32) (hr : Int32) (uP : Int32) (uC : Int32) (uR : Int32) (tn : Int32) (pn : Int32) (pg : Int32) (pq : Int32) (rl : Nat → Int32) (sr : Nat → Int32) (gcb : Nat → Int32) (gpb : Nat → Int64) (tg : Nat → Int32) (tm : Nat → Int32) (tl : Nat → Int32) (pm : Nat → Int32) (ps : Nat → Int32)  (r0 : Int32) (lc0 : Int32) (tn0 : Int32) (rl0 : Nat → Int32) (tl0 : Nat → Int32) (hp : pf_L_takeBack lc la uR tn rl tl = (some (r0, lc0, tn0, rl0, tl0))) : gMi l yL_takeBack wsL_takeBack rm_L_takeBack D [(cI, .int), (cJ, .long)] (cW h cI cJ lc la hr uP uC uR tn pn pg pq rl sr gcb gpb tg tm tl pm ps) [.ref (h 0)] 1 6 (fun r w => r = r0 ∧ w = cW h cI cJ lc0 la hr uP uC uR tn0 pn pg pq rl0 sr gcb gpb tg tm tl0 pm ps) (fun _ _ => False) := by
  refine gMi_ofH (cc := cL_takeBack) (maxL := 3) (rt := .int) hl (by decide +kernel) rfl (Nat.le_of_ble_eq_true rfl) ?_
  intro p e s m args below meth c A Q C hnm ht RET
  have C : gC p l s m args meth c A D [(cI, .int), (cJ, .long)] 3 RL cL_takeBack wsL_takeBack := C
  refine gV_loc (lvs' := [(0, .ref (h 0))]) [0] rfl ?_
  unfold pf_L_takeBack at hp
  refine gV_aload_n C dL_takeBack_0 rfl 0 rfl ?_
  obtain ⟨x1, r1q, lc_1, tn_1, rl_1, tl_1, hq1, hp⟩ := g_ob6 hp
  refine gV_calliS C (gV_runV (As := []) (rest := []) C (mt_X3_takeBack hl D h cI cJ lc la hr uP uC uR tn pn pg pq rl sr gcb gpb tg tm tl pm ps x1 r1q lc_1 tn_1 rl_1 tl_1 hq1) (cwV 0 C.2.2.2.2.1 gL_takeBack_X3_takeBack rfl rfl rfl hdv_X3_takeBack ⟨Nat.le_of_ble_eq_true rfl, Nat.le_of_ble_eq_true rfl⟩) (gSub_S _) 0 rfl rfl rfl rfl (Nat.le_of_ble_eq_true rfl) dL_takeBack_1 ⟨Nat.le_of_ble_eq_true rfl, Nat.le_of_ble_eq_true rfl⟩) (fun E w1 hx => ?_) (fun r1 w1 hw => ?_)
  · obtain ⟨hne, rfl, rfl⟩ := hx
    replace hp := g_iff hp hne
    by_cases hc1 : x1 = 1
    · replace hp := g_ift hp hc1
      subst hc1
      rw [g_exn1]
      exact g_none hp
    · replace hp := g_iff hp hc1
      by_cases hc2 : x1 = 2
      · replace hp := g_ift hp hc2
        subst hc2
        rw [g_exn2]
        exact g_none hp
      · replace hp := g_iff hp hc2
        rw [g_exn3 hc1 hc2]
        refine gT_catch (E := "java/lang/IllegalStateException") C (Or.inr (Or.inr rfl)) [] { startPc := 0, endPc := 5, handlerPc := 8, catchType := 28 } [] (ht.trans rfl) (fun z hz => absurd hz List.not_mem_nil) rfl (by decide) (C.w 1 rfl) (fun q9 => ?_)
        show gV p l e rm_L_takeBack s m args below meth c A D 3 Q (cW h cI cJ lc_1 la hr uP uC uR tn_1 pn pg pq rl_1 sr gcb gpb tg tm tl_1 pm ps) [(0, .ref (h 0))] _ _ 8 [.ref q9]
        refine gV_astore_n (lvs' := [(2, .ref q9), (0, .ref (h 0))]) C dL_takeBack_8 rfl (by decide) rfl ?_
        refine gV_bipush (v := (-73)) C dL_takeBack_9 rfl ?_
        obtain ⟨rfl, rfl, rfl, rfl, rfl⟩ := g_so5 hp
        exact RET _ _ _ _ _ _ dL_takeBack_11 (Nat.le_of_ble_eq_true rfl) (Nat.le_of_ble_eq_true rfl) rfl ⟨rfl, rfl⟩
  · obtain ⟨hx0, rfl, rfl⟩ := hw
    replace hp := g_ift hp hx0
    refine gV_istore_n (lvs' := [(1, .int r1), (0, .ref (h 0))]) C dL_takeBack_4 rfl (by decide) rfl ?_
    refine gV_goto (tgt := 12) C dL_takeBack_5 (by decide) ?_
    refine gV_iload_n C dL_takeBack_12 rfl 0 rfl ?_
    obtain ⟨rfl, rfl, rfl, rfl, rfl⟩ := g_so5 hp
    exact RET _ _ _ _ _ _ dL_takeBack_13 (Nat.le_of_ble_eq_true rfl) (Nat.le_of_ble_eq_true rfl) rfl ⟨rfl, rfl⟩
abbrev rm_L_leftAt : Room := { frames := 7, cells := 1, slots := 6, locals := 103 }
theorem hdv_X3_leftAt : yX3_leftAt.cls = RX3 ∧ yX3_leftAt.cls ≠ "java/lang/invoke/MethodHandle" ∧ yX3_leftAt.cls ≠ "java/lang/invoke/VarHandle" ∧ (parseMethodDescriptor yX3_leftAt.desc).map (fun d => d.parameters.length) = some 1 := by decide +kernel
set_option maxHeartbeats 4000000 in
set_option maxRecDepth 100000 in
theorem mt_L_leftAt {l : Launch} (hl : l.stackTraces = false) (D : va_G) (h : Nat → Nat) (cI cJ : ClassId) (lc : Int32) (la : Int32) (hr : Int32) (uP : Int32) (uC : Int32) (uR : Int32) (tn : Int32) (pn : Int32) (pg : Int32) (pq : Int32) (rl : Nat → Int32) (sr : Nat → Int32) (gcb : Nat → Int32) (gpb : Nat → Int64) (tg : Nat → Int32) (tm : Nat → Int32) (tl : Nat → Int32) (pm : Nat → Int32) (ps : Nat → Int32) (v1 : Int32) (r0 : Int32) (hp : pf_L_leftAt lc rl v1 = (some r0)) : gMi l yL_leftAt wsL_leftAt rm_L_leftAt D [(cI, .int), (cJ, .long)] (cW h cI cJ lc la hr uP uC uR tn pn pg pq rl sr gcb gpb tg tm tl pm ps) [.ref (h 0), .int v1] 1 6 (fun r w => r = r0 ∧ w = cW h cI cJ lc la hr uP uC uR tn pn pg pq rl sr gcb gpb tg tm tl pm ps) (fun _ _ => False) := by
  refine gMi_ofH (cc := cL_leftAt) (maxL := 4) (rt := .int) hl (by decide +kernel) rfl (Nat.le_of_ble_eq_true rfl) ?_
  intro p e s m args below meth c A Q C hnm ht RET
  have C : gC p l s m args meth c A D [(cI, .int), (cJ, .long)] 4 RL cL_leftAt wsL_leftAt := C
  refine gV_loc (lvs' := [(0, .ref (h 0)), (1, .int v1)]) [0, 1] rfl ?_
  unfold pf_L_leftAt at hp
  refine gV_aload_n C dL_leftAt_0 rfl 0 rfl ?_
  refine gV_iload_n C dL_leftAt_1 rfl 1 rfl ?_
  obtain ⟨x2, r2q, hq2, hp⟩ := g_ob2 hp
  refine gV_calliS C (gV_runV (As := [.int v1]) (rest := []) C (mt_X3_leftAt hl D h cI cJ lc la hr uP uC uR tn pn pg pq rl sr gcb gpb tg tm tl pm ps v1 x2 r2q hq2) (cwV 1 C.2.2.2.2.1 gL_leftAt_X3_leftAt rfl rfl rfl hdv_X3_leftAt ⟨Nat.le_of_ble_eq_true rfl, Nat.le_of_ble_eq_true rfl⟩) (gSub_S _) 0 rfl rfl rfl rfl (Nat.le_of_ble_eq_true rfl) dL_leftAt_2 ⟨Nat.le_of_ble_eq_true rfl, Nat.le_of_ble_eq_true rfl⟩) (fun E w1 hx => ?_) (fun r2 w1 hw => ?_)
  · obtain ⟨hne, rfl, rfl⟩ := hx
    replace hp := g_iff hp hne
    by_cases hc1 : x2 = 1
    · replace hp := g_ift hp hc1
      subst hc1
      rw [g_exn1]
      refine gT_catch (E := "java/lang/IndexOutOfBoundsException") C (Or.inr (Or.inl rfl)) [] { startPc := 0, endPc := 6, handlerPc := 9, catchType := 19 } [] (ht.trans rfl) (fun z hz => absurd hz List.not_mem_nil) rfl (by decide) (C.w 1 rfl) (fun q9 => ?_)
      show gV p l e rm_L_leftAt s m args below meth c A D 4 Q (cW h cI cJ lc la hr uP uC uR tn pn pg pq rl sr gcb gpb tg tm tl pm ps) [(0, .ref (h 0)), (1, .int v1)] _ _ 9 [.ref q9]
      refine gV_astore_n (lvs' := [(3, .ref q9), (0, .ref (h 0)), (1, .int v1)]) C dL_leftAt_9 rfl (by decide) rfl ?_
      refine gV_bipush (v := (-71)) C dL_leftAt_10 rfl ?_
      obtain rfl := g_so1 hp
      exact RET _ _ _ _ _ _ dL_leftAt_12 (Nat.le_of_ble_eq_true rfl) (Nat.le_of_ble_eq_true rfl) rfl ⟨rfl, rfl⟩
    · replace hp := g_iff hp hc1
      by_cases hc2 : x2 = 2
      · replace hp := g_ift hp hc2
        subst hc2
        rw [g_exn2]
        exact g_none hp
      · replace hp := g_iff hp hc2
        rw [g_exn3 hc1 hc2]
        exact g_none hp
  · obtain ⟨hx0, rfl, rfl⟩ := hw
    replace hp := g_ift hp hx0
    refine gV_istore_n (lvs' := [(2, .int r2), (0, .ref (h 0)), (1, .int v1)]) C dL_leftAt_5 rfl (by decide) rfl ?_
    refine gV_goto (tgt := 13) C dL_leftAt_6 (by decide) ?_
    refine gV_iload_n C dL_leftAt_13 rfl 0 rfl ?_
    obtain rfl := g_so1 hp
    exact RET _ _ _ _ _ _ dL_leftAt_14 (Nat.le_of_ble_eq_true rfl) (Nat.le_of_ble_eq_true rfl) rfl ⟨rfl, rfl⟩
abbrev rm_L_markOf : Room := { frames := 8, cells := 1, slots := 6, locals := 124 }
theorem hdv_X3_markOf : yX3_markOf.cls = RX3 ∧ yX3_markOf.cls ≠ "java/lang/invoke/MethodHandle" ∧ yX3_markOf.cls ≠ "java/lang/invoke/VarHandle" ∧ (parseMethodDescriptor yX3_markOf.desc).map (fun d => d.parameters.length) = some 1 := by decide +kernel
set_option maxHeartbeats 4000000 in
set_option maxRecDepth 100000 in
theorem mt_L_markOf {l : Launch} (hl : l.stackTraces = false) (D : va_G) (h : Nat → Nat) (cI cJ : ClassId) (lc : Int32) (la : Int32) (hr : Int32) (uP : Int32) (uC : Int32) (uR : Int32) (tn : Int32) (pn : Int32) (pg : Int32) (pq : Int32) (rl : Nat → Int32) (sr : Nat → Int32) (gcb : Nat → Int32) (gpb : Nat → Int64) (tg : Nat → Int32) (tm : Nat → Int32) (tl : Nat → Int32) (pm : Nat → Int32) (ps : Nat → Int32) (v1 : Int32) (r0 : Int32) (hp : pf_L_markOf tn tm v1 = (some r0)) : gMi l yL_markOf wsL_markOf rm_L_markOf D [(cI, .int), (cJ, .long)] (cW h cI cJ lc la hr uP uC uR tn pn pg pq rl sr gcb gpb tg tm tl pm ps) [.ref (h 0), .int v1] 1 6 (fun r w => r = r0 ∧ w = cW h cI cJ lc la hr uP uC uR tn pn pg pq rl sr gcb gpb tg tm tl pm ps) (fun _ _ => False) := by
  refine gMi_ofH (cc := cL_markOf) (maxL := 4) (rt := .int) hl (by decide +kernel) rfl (Nat.le_of_ble_eq_true rfl) ?_
  intro p e s m args below meth c A Q C hnm ht RET
  have C : gC p l s m args meth c A D [(cI, .int), (cJ, .long)] 4 RL cL_markOf wsL_markOf := C
  refine gV_loc (lvs' := [(0, .ref (h 0)), (1, .int v1)]) [0, 1] rfl ?_
  unfold pf_L_markOf at hp
  refine gV_aload_n C dL_markOf_0 rfl 0 rfl ?_
  refine gV_iload_n C dL_markOf_1 rfl 1 rfl ?_
  obtain ⟨x2, r2q, hq2, hp⟩ := g_ob2 hp
  refine gV_calliS C (gV_runV (As := [.int v1]) (rest := []) C (mt_X3_markOf hl D h cI cJ lc la hr uP uC uR tn pn pg pq rl sr gcb gpb tg tm tl pm ps v1 x2 r2q hq2) (cwV 1 C.2.2.2.2.1 gL_markOf_X3_markOf rfl rfl rfl hdv_X3_markOf ⟨Nat.le_of_ble_eq_true rfl, Nat.le_of_ble_eq_true rfl⟩) (gSub_S _) 0 rfl rfl rfl rfl (Nat.le_of_ble_eq_true rfl) dL_markOf_2 ⟨Nat.le_of_ble_eq_true rfl, Nat.le_of_ble_eq_true rfl⟩) (fun E w1 hx => ?_) (fun r2 w1 hw => ?_)
  · obtain ⟨hne, rfl, rfl⟩ := hx
    replace hp := g_iff hp hne
    by_cases hc1 : x2 = 1
    · replace hp := g_ift hp hc1
      subst hc1
      rw [g_exn1]
      refine gT_catch (E := "java/lang/IndexOutOfBoundsException") C (Or.inr (Or.inl rfl)) [] { startPc := 0, endPc := 6, handlerPc := 9, catchType := 19 } [] (ht.trans rfl) (fun z hz => absurd hz List.not_mem_nil) rfl (by decide) (C.w 1 rfl) (fun q9 => ?_)
      show gV p l e rm_L_markOf s m args below meth c A D 4 Q (cW h cI cJ lc la hr uP uC uR tn pn pg pq rl sr gcb gpb tg tm tl pm ps) [(0, .ref (h 0)), (1, .int v1)] _ _ 9 [.ref q9]
      refine gV_astore_n (lvs' := [(3, .ref q9), (0, .ref (h 0)), (1, .int v1)]) C dL_markOf_9 rfl (by decide) rfl ?_
      refine gV_bipush (v := (-71)) C dL_markOf_10 rfl ?_
      obtain rfl := g_so1 hp
      exact RET _ _ _ _ _ _ dL_markOf_12 (Nat.le_of_ble_eq_true rfl) (Nat.le_of_ble_eq_true rfl) rfl ⟨rfl, rfl⟩
    · replace hp := g_iff hp hc1
      by_cases hc2 : x2 = 2
      · replace hp := g_ift hp hc2
        subst hc2
        rw [g_exn2]
        exact g_none hp
      · replace hp := g_iff hp hc2
        rw [g_exn3 hc1 hc2]
        exact g_none hp
  · obtain ⟨hx0, rfl, rfl⟩ := hw
    replace hp := g_ift hp hx0
    refine gV_istore_n (lvs' := [(2, .int r2), (0, .ref (h 0)), (1, .int v1)]) C dL_markOf_5 rfl (by decide) rfl ?_
    refine gV_goto (tgt := 13) C dL_markOf_6 (by decide) ?_
    refine gV_iload_n C dL_markOf_13 rfl 0 rfl ?_
    obtain rfl := g_so1 hp
    exact RET _ _ _ _ _ _ dL_markOf_14 (Nat.le_of_ble_eq_true rfl) (Nat.le_of_ble_eq_true rfl) rfl ⟨rfl, rfl⟩
abbrev rm_L_partMark : Room := { frames := 8, cells := 2, slots := 12, locals := 125 }
theorem hdv_X3_partMark : yX3_partMark.cls = RX3 ∧ yX3_partMark.cls ≠ "java/lang/invoke/MethodHandle" ∧ yX3_partMark.cls ≠ "java/lang/invoke/VarHandle" ∧ (parseMethodDescriptor yX3_partMark.desc).map (fun d => d.parameters.length) = some 2 := by decide +kernel
set_option maxHeartbeats 4000000 in
set_option maxRecDepth 100000 in
theorem mt_L_partMark {l : Launch} (hl : l.stackTraces = false) (D : va_G) (h : Nat → Nat) (cI cJ : ClassId) (lc : Int32) (la : Int32) (hr : Int32) (uP : Int32) (uC : Int32) (uR : Int32) (tn : Int32) (pn : Int32) (pg : Int32) (pq : Int32) (rl : Nat → Int32) (sr : Nat → Int32) (gcb : Nat → Int32) (gpb : Nat → Int64) (tg : Nat → Int32) (tm : Nat → Int32) (tl : Nat → Int32) (pm : Nat → Int32) (ps : Nat → Int32) (v1 : Int32) (v2 : Int32) (r0 : Int32) (pn0 : Int32) (pg0 : Int32) (pq0 : Int32) (pm0 : Nat → Int32) (ps0 : Nat → Int32) (hp : pf_L_partMark lc uP uR pn pg pq rl gcb gpb pm ps v1 v2 = (some (r0, pn0, pg0, pq0, pm0, ps0))) : gMi l yL_partMark wsL_partMark rm_L_partMark D [(cI, .int), (cJ, .long)] (cW h cI cJ lc la hr uP uC uR tn pn pg pq rl sr gcb gpb tg tm tl pm ps) [.ref (h 0), .int v1, .int v2] 2 12 (fun r w => r = r0 ∧ w = cW h cI cJ lc la hr uP uC uR tn pn0 pg0 pq0 rl sr gcb gpb tg tm tl pm0 ps0) (fun _ _ => False) := by
  refine gMi_ofH (cc := cL_partMark) (maxL := 5) (rt := .int) hl (by decide +kernel) rfl (Nat.le_of_ble_eq_true rfl) ?_
  intro p e s m args below meth c A Q C hnm ht RET
  have C : gC p l s m args meth c A D [(cI, .int), (cJ, .long)] 5 RL cL_partMark wsL_partMark := C
  refine gV_loc (lvs' := [(0, .ref (h 0)), (1, .int v1), (2, .int v2)]) [0, 1, 2] rfl ?_
  unfold pf_L_partMark at hp
  refine gV_aload_n C dL_partMark_0 rfl 0 rfl ?_
  refine gV_iload_n C dL_partMark_1 rfl 1 rfl ?_
  refine gV_iload_n C dL_partMark_2 rfl 2 rfl ?_
  obtain ⟨x3, r3q, pn_3, pg_3, pq_3, pm_3, ps_3, hq3, hp⟩ := g_ob7 hp
  refine gV_calliS C (gV_runV (As := [.int v1, .int v2]) (rest := []) C (mt_X3_partMark hl D h cI cJ lc la hr uP uC uR tn pn pg pq rl sr gcb gpb tg tm tl pm ps v1 v2 x3 r3q pn_3 pg_3 pq_3 pm_3 ps_3 hq3) (cwV 2 C.2.2.2.2.1 gL_partMark_X3_partMark rfl rfl rfl hdv_X3_partMark ⟨Nat.le_of_ble_eq_true rfl, Nat.le_of_ble_eq_true rfl⟩) (gSub_S _) 0 rfl rfl rfl rfl (Nat.le_of_ble_eq_true rfl) dL_partMark_3 ⟨Nat.le_of_ble_eq_true rfl, Nat.le_of_ble_eq_true rfl⟩) (fun E w1 hx => ?_) (fun r3 w1 hw => ?_)
  · obtain ⟨hne, rfl, rfl⟩ := hx
    replace hp := g_iff hp hne
    by_cases hc1 : x3 = 1
    · replace hp := g_ift hp hc1
      subst hc1
      rw [g_exn1]
      refine gT_catch (E := "java/lang/IndexOutOfBoundsException") C (Or.inr (Or.inl rfl)) [] { startPc := 0, endPc := 7, handlerPc := 10, catchType := 19 } [] (ht.trans rfl) (fun z hz => absurd hz List.not_mem_nil) rfl (by decide) (C.w 1 rfl) (fun q9 => ?_)
      show gV p l e rm_L_partMark s m args below meth c A D 5 Q (cW h cI cJ lc la hr uP uC uR tn pn_3 pg_3 pq_3 rl sr gcb gpb tg tm tl pm_3 ps_3) [(0, .ref (h 0)), (1, .int v1), (2, .int v2)] _ _ 10 [.ref q9]
      refine gV_astore (lvs' := [(4, .ref q9), (0, .ref (h 0)), (1, .int v1), (2, .int v2)]) C dL_partMark_10 (by decide) rfl ?_
      refine gV_bipush (v := (-71)) C dL_partMark_12 rfl ?_
      obtain ⟨rfl, rfl, rfl, rfl, rfl, rfl⟩ := g_so6 hp
      exact RET _ _ _ _ _ _ dL_partMark_14 (Nat.le_of_ble_eq_true rfl) (Nat.le_of_ble_eq_true rfl) rfl ⟨rfl, rfl⟩
    · replace hp := g_iff hp hc1
      by_cases hc2 : x3 = 2
      · replace hp := g_ift hp hc2
        subst hc2
        rw [g_exn2]
        exact g_none hp
      · replace hp := g_iff hp hc2
        rw [g_exn3 hc1 hc2]
        exact g_none hp
  · obtain ⟨hx0, rfl, rfl⟩ := hw
    replace hp := g_ift hp hx0
    refine gV_istore_n (lvs' := [(3, .int r3), (0, .ref (h 0)), (1, .int v1), (2, .int v2)]) C dL_partMark_6 rfl (by decide) rfl ?_
    refine gV_goto (tgt := 15) C dL_partMark_7 (by decide) ?_
    refine gV_iload_n C dL_partMark_15 rfl 0 rfl ?_
    obtain ⟨rfl, rfl, rfl, rfl, rfl, rfl⟩ := g_so6 hp
    exact RET _ _ _ _ _ _ dL_partMark_16 (Nat.le_of_ble_eq_true rfl) (Nat.le_of_ble_eq_true rfl) rfl ⟨rfl, rfl⟩
abbrev rm_L_partSize : Room := { frames := 8, cells := 2, slots := 12, locals := 125 }
theorem hdv_X3_partSize : yX3_partSize.cls = RX3 ∧ yX3_partSize.cls ≠ "java/lang/invoke/MethodHandle" ∧ yX3_partSize.cls ≠ "java/lang/invoke/VarHandle" ∧ (parseMethodDescriptor yX3_partSize.desc).map (fun d => d.parameters.length) = some 2 := by decide +kernel
set_option maxHeartbeats 4000000 in
set_option maxRecDepth 100000 in
theorem mt_L_partSize {l : Launch} (hl : l.stackTraces = false) (D : va_G) (h : Nat → Nat) (cI cJ : ClassId) (lc : Int32) (la : Int32) (hr : Int32) (uP : Int32) (uC : Int32) (uR : Int32) (tn : Int32) (pn : Int32) (pg : Int32) (pq : Int32) (rl : Nat → Int32) (sr : Nat → Int32) (gcb : Nat → Int32) (gpb : Nat → Int64) (tg : Nat → Int32) (tm : Nat → Int32) (tl : Nat → Int32) (pm : Nat → Int32) (ps : Nat → Int32) (v1 : Int32) (v2 : Int32) (r0 : Int32) (pn0 : Int32) (pg0 : Int32) (pq0 : Int32) (pm0 : Nat → Int32) (ps0 : Nat → Int32) (hp : pf_L_partSize lc uP uR pn pg pq rl gcb gpb pm ps v1 v2 = (some (r0, pn0, pg0, pq0, pm0, ps0))) : gMi l yL_partSize wsL_partSize rm_L_partSize D [(cI, .int), (cJ, .long)] (cW h cI cJ lc la hr uP uC uR tn pn pg pq rl sr gcb gpb tg tm tl pm ps) [.ref (h 0), .int v1, .int v2] 2 12 (fun r w => r = r0 ∧ w = cW h cI cJ lc la hr uP uC uR tn pn0 pg0 pq0 rl sr gcb gpb tg tm tl pm0 ps0) (fun _ _ => False) := by
  refine gMi_ofH (cc := cL_partSize) (maxL := 5) (rt := .int) hl (by decide +kernel) rfl (Nat.le_of_ble_eq_true rfl) ?_
  intro p e s m args below meth c A Q C hnm ht RET
  have C : gC p l s m args meth c A D [(cI, .int), (cJ, .long)] 5 RL cL_partSize wsL_partSize := C
  refine gV_loc (lvs' := [(0, .ref (h 0)), (1, .int v1), (2, .int v2)]) [0, 1, 2] rfl ?_
  unfold pf_L_partSize at hp
  refine gV_aload_n C dL_partSize_0 rfl 0 rfl ?_
  refine gV_iload_n C dL_partSize_1 rfl 1 rfl ?_
  refine gV_iload_n C dL_partSize_2 rfl 2 rfl ?_
  obtain ⟨x3, r3q, pn_3, pg_3, pq_3, pm_3, ps_3, hq3, hp⟩ := g_ob7 hp
  refine gV_calliS C (gV_runV (As := [.int v1, .int v2]) (rest := []) C (mt_X3_partSize hl D h cI cJ lc la hr uP uC uR tn pn pg pq rl sr gcb gpb tg tm tl pm ps v1 v2 x3 r3q pn_3 pg_3 pq_3 pm_3 ps_3 hq3) (cwV 2 C.2.2.2.2.1 gL_partSize_X3_partSize rfl rfl rfl hdv_X3_partSize ⟨Nat.le_of_ble_eq_true rfl, Nat.le_of_ble_eq_true rfl⟩) (gSub_S _) 0 rfl rfl rfl rfl (Nat.le_of_ble_eq_true rfl) dL_partSize_3 ⟨Nat.le_of_ble_eq_true rfl, Nat.le_of_ble_eq_true rfl⟩) (fun E w1 hx => ?_) (fun r3 w1 hw => ?_)
  · obtain ⟨hne, rfl, rfl⟩ := hx
    replace hp := g_iff hp hne
    by_cases hc1 : x3 = 1
    · replace hp := g_ift hp hc1
      subst hc1
      rw [g_exn1]
      refine gT_catch (E := "java/lang/IndexOutOfBoundsException") C (Or.inr (Or.inl rfl)) [] { startPc := 0, endPc := 7, handlerPc := 10, catchType := 19 } [{ startPc := 0, endPc := 7, handlerPc := 15, catchType := 14 }] (ht.trans rfl) (fun z hz => absurd hz List.not_mem_nil) rfl (by decide) (C.w 1 rfl) (fun q9 => ?_)
      show gV p l e rm_L_partSize s m args below meth c A D 5 Q (cW h cI cJ lc la hr uP uC uR tn pn_3 pg_3 pq_3 rl sr gcb gpb tg tm tl pm_3 ps_3) [(0, .ref (h 0)), (1, .int v1), (2, .int v2)] _ _ 10 [.ref q9]
      refine gV_astore (lvs' := [(4, .ref q9), (0, .ref (h 0)), (1, .int v1), (2, .int v2)]) C dL_partSize_10 (by decide) rfl ?_
      refine gV_bipush (v := (-71)) C dL_partSize_12 rfl ?_
      obtain ⟨rfl, rfl, rfl, rfl, rfl, rfl⟩ := g_so6 hp
      exact RET _ _ _ _ _ _ dL_partSize_14 (Nat.le_of_ble_eq_true rfl) (Nat.le_of_ble_eq_true rfl) rfl ⟨rfl, rfl⟩
    · replace hp := g_iff hp hc1
      by_cases hc2 : x3 = 2
      · replace hp := g_ift hp hc2
        subst hc2
        rw [g_exn2]
        refine gT_catch (E := "java/lang/IllegalArgumentException") C (Or.inl rfl) [{ startPc := 0, endPc := 7, handlerPc := 10, catchType := 19 }] { startPc := 0, endPc := 7, handlerPc := 15, catchType := 14 } [] (ht.trans rfl) (List.forall_mem_cons.mpr ⟨Or.inr ⟨by decide, _, C.w 1 rfl, C.2.2.2.2.2.2.2.2.1.2.2.2.1.1⟩, fun z hz => absurd hz List.not_mem_nil⟩) rfl (by decide) (C.w 2 rfl) (fun q9 => ?_)
        show gV p l e rm_L_partSize s m args below meth c A D 5 Q (cW h cI cJ lc la hr uP uC uR tn pn_3 pg_3 pq_3 rl sr gcb gpb tg tm tl pm_3 ps_3) [(0, .ref (h 0)), (1, .int v1), (2, .int v2)] _ _ 15 [.ref q9]
        refine gV_astore (lvs' := [(4, .ref q9), (0, .ref (h 0)), (1, .int v1), (2, .int v2)]) C dL_partSize_15 (by decide) rfl ?_
        refine gV_bipush (v := (-72)) C dL_partSize_17 rfl ?_
        obtain ⟨rfl, rfl, rfl, rfl, rfl, rfl⟩ := g_so6 hp
        exact RET _ _ _ _ _ _ dL_partSize_19 (Nat.le_of_ble_eq_true rfl) (Nat.le_of_ble_eq_true rfl) rfl ⟨rfl, rfl⟩
      · replace hp := g_iff hp hc2
        rw [g_exn3 hc1 hc2]
        exact g_none hp
  · obtain ⟨hx0, rfl, rfl⟩ := hw
    replace hp := g_ift hp hx0
    refine gV_istore_n (lvs' := [(3, .int r3), (0, .ref (h 0)), (1, .int v1), (2, .int v2)]) C dL_partSize_6 rfl (by decide) rfl ?_
    refine gV_goto (tgt := 20) C dL_partSize_7 (by decide) ?_
    refine gV_iload_n C dL_partSize_20 rfl 0 rfl ?_
    obtain ⟨rfl, rfl, rfl, rfl, rfl, rfl⟩ := g_so6 hp
    exact RET _ _ _ _ _ _ dL_partSize_21 (Nat.le_of_ble_eq_true rfl) (Nat.le_of_ble_eq_true rfl) rfl ⟨rfl, rfl⟩
abbrev rm_L_bestGuess : Room := { frames := 7, cells := 1, slots := 6, locals := 124 }
theorem hdv_X3_bestGuess : yX3_bestGuess.cls = RX3 ∧ yX3_bestGuess.cls ≠ "java/lang/invoke/MethodHandle" ∧ yX3_bestGuess.cls ≠ "java/lang/invoke/VarHandle" ∧ (parseMethodDescriptor yX3_bestGuess.desc).map (fun d => d.parameters.length) = some 1 := by decide +kernel
set_option maxHeartbeats 4000000 in
set_option maxRecDepth 100000 in
theorem mt_L_bestGuess {l : Launch} (hl : l.stackTraces = false) (D : va_G) (h : Nat → Nat) (cI cJ : ClassId) (lc : Int32) (la : Int32) (hr : Int32) (uP : Int32) (uC : Int32) (uR : Int32) (tn : Int32) (pn : Int32) (pg : Int32) (pq : Int32) (rl : Nat → Int32) (sr : Nat → Int32) (gcb : Nat → Int32) (gpb : Nat → Int64) (tg : Nat → Int32) (tm : Nat → Int32) (tl : Nat → Int32) (pm : Nat → Int32) (ps : Nat → Int32) (v1 : Int32) (r0 : Int32) (pn0 : Int32) (pg0 : Int32) (pq0 : Int32) (pm0 : Nat → Int32) (ps0 : Nat → Int32) (hp : pf_L_bestGuess lc uP uR pn pg pq rl gcb gpb pm ps v1 = (some (r0, pn0, pg0, pq0, pm0, ps0))) : gMi l yL_bestGuess wsL_bestGuess rm_L_bestGuess D [(cI, .int), (cJ, .long)] (cW h cI cJ lc la hr uP uC uR tn pn pg pq rl sr gcb gpb tg tm tl pm ps) [.ref (h 0), .int v1] 1 6 (fun r w => r = r0 ∧ w = cW h cI cJ lc la hr uP uC uR tn pn0 pg0 pq0 rl sr gcb gpb tg tm tl pm0 ps0) (fun _ _ => False) := by
  refine gMi_ofH (cc := cL_bestGuess) (maxL := 4) (rt := .int) hl (by decide +kernel) rfl (Nat.le_of_ble_eq_true rfl) ?_
  intro p e s m args below meth c A Q C hnm ht RET
  have C : gC p l s m args meth c A D [(cI, .int), (cJ, .long)] 4 RL cL_bestGuess wsL_bestGuess := C
  refine gV_loc (lvs' := [(0, .ref (h 0)), (1, .int v1)]) [0, 1] rfl ?_
  unfold pf_L_bestGuess at hp
  refine gV_aload_n C dL_bestGuess_0 rfl 0 rfl ?_
  refine gV_iload_n C dL_bestGuess_1 rfl 1 rfl ?_
  obtain ⟨x2, r2q, pn_2, pg_2, pq_2, pm_2, ps_2, hq2, hp⟩ := g_ob7 hp
  refine gV_calliS C (gV_runV (As := [.int v1]) (rest := []) C (mt_X3_bestGuess hl D h cI cJ lc la hr uP uC uR tn pn pg pq rl sr gcb gpb tg tm tl pm ps v1 x2 r2q pn_2 pg_2 pq_2 pm_2 ps_2 hq2) (cwV 1 C.2.2.2.2.1 gL_bestGuess_X3_bestGuess rfl rfl rfl hdv_X3_bestGuess ⟨Nat.le_of_ble_eq_true rfl, Nat.le_of_ble_eq_true rfl⟩) (gSub_S _) 0 rfl rfl rfl rfl (Nat.le_of_ble_eq_true rfl) dL_bestGuess_2 ⟨Nat.le_of_ble_eq_true rfl, Nat.le_of_ble_eq_true rfl⟩) (fun E w1 hx => ?_) (fun r2 w1 hw => ?_)
  · obtain ⟨hne, rfl, rfl⟩ := hx
    replace hp := g_iff hp hne
    by_cases hc1 : x2 = 1
    · replace hp := g_ift hp hc1
      subst hc1
      rw [g_exn1]
      exact g_none hp
    · replace hp := g_iff hp hc1
      by_cases hc2 : x2 = 2
      · replace hp := g_ift hp hc2
        subst hc2
        rw [g_exn2]
        refine gT_catch (E := "java/lang/IllegalArgumentException") C (Or.inl rfl) [] { startPc := 0, endPc := 6, handlerPc := 9, catchType := 14 } [{ startPc := 0, endPc := 6, handlerPc := 13, catchType := 28 }] (ht.trans rfl) (fun z hz => absurd hz List.not_mem_nil) rfl (by decide) (C.w 1 rfl) (fun q9 => ?_)
        show gV p l e rm_L_bestGuess s m args below meth c A D 4 Q (cW h cI cJ lc la hr uP uC uR tn pn_2 pg_2 pq_2 rl sr gcb gpb tg tm tl pm_2 ps_2) [(0, .ref (h 0)), (1, .int v1)] _ _ 9 [.ref q9]
        refine gV_astore_n (lvs' := [(3, .ref q9), (0, .ref (h 0)), (1, .int v1)]) C dL_bestGuess_9 rfl (by decide) rfl ?_
        refine gV_bipush (v := (-72)) C dL_bestGuess_10 rfl ?_
        obtain ⟨rfl, rfl, rfl, rfl, rfl, rfl⟩ := g_so6 hp
        exact RET _ _ _ _ _ _ dL_bestGuess_12 (Nat.le_of_ble_eq_true rfl) (Nat.le_of_ble_eq_true rfl) rfl ⟨rfl, rfl⟩
      · replace hp := g_iff hp hc2
        rw [g_exn3 hc1 hc2]
        refine gT_catch (E := "java/lang/IllegalStateException") C (Or.inr (Or.inr rfl)) [{ startPc := 0, endPc := 6, handlerPc := 9, catchType := 14 }] { startPc := 0, endPc := 6, handlerPc := 13, catchType := 28 } [] (ht.trans rfl) (List.forall_mem_cons.mpr ⟨Or.inr ⟨by decide, _, C.w 1 rfl, C.2.2.2.2.2.2.2.2.1.2.2.2.1.2.2⟩, fun z hz => absurd hz List.not_mem_nil⟩) rfl (by decide) (C.w 2 rfl) (fun q9 => ?_)
        show gV p l e rm_L_bestGuess s m args below meth c A D 4 Q (cW h cI cJ lc la hr uP uC uR tn pn_2 pg_2 pq_2 rl sr gcb gpb tg tm tl pm_2 ps_2) [(0, .ref (h 0)), (1, .int v1)] _ _ 13 [.ref q9]
        refine gV_astore_n (lvs' := [(3, .ref q9), (0, .ref (h 0)), (1, .int v1)]) C dL_bestGuess_13 rfl (by decide) rfl ?_
        refine gV_bipush (v := (-73)) C dL_bestGuess_14 rfl ?_
        obtain ⟨rfl, rfl, rfl, rfl, rfl, rfl⟩ := g_so6 hp
        exact RET _ _ _ _ _ _ dL_bestGuess_16 (Nat.le_of_ble_eq_true rfl) (Nat.le_of_ble_eq_true rfl) rfl ⟨rfl, rfl⟩
  · obtain ⟨hx0, rfl, rfl⟩ := hw
    replace hp := g_ift hp hx0
    refine gV_istore_n (lvs' := [(2, .int r2), (0, .ref (h 0)), (1, .int v1)]) C dL_bestGuess_5 rfl (by decide) rfl ?_
    refine gV_goto (tgt := 17) C dL_bestGuess_6 (by decide) ?_
    refine gV_iload_n C dL_bestGuess_17 rfl 0 rfl ?_
    obtain ⟨rfl, rfl, rfl, rfl, rfl, rfl⟩ := g_so6 hp
    exact RET _ _ _ _ _ _ dL_bestGuess_18 (Nat.le_of_ble_eq_true rfl) (Nat.le_of_ble_eq_true rfl) rfl ⟨rfl, rfl⟩
abbrev rm_L_guessesNeeded : Room := { frames := 66, cells := 1, slots := 6, locals := 3247 }
theorem hdv_X3_guessesNeeded : yX3_guessesNeeded.cls = RX3 ∧ yX3_guessesNeeded.cls ≠ "java/lang/invoke/MethodHandle" ∧ yX3_guessesNeeded.cls ≠ "java/lang/invoke/VarHandle" ∧ (parseMethodDescriptor yX3_guessesNeeded.desc).map (fun d => d.parameters.length) = some 0 := by decide +kernel
set_option maxHeartbeats 4000000 in
set_option maxRecDepth 100000 in
theorem mt_L_guessesNeeded {l : Launch} (hl : l.stackTraces = false) (D : va_G) (h : Nat → Nat) (cI cJ : ClassId) (lc : Int32) (la : Int32) (hr : Int32) (uP : Int32) (uC : Int32) (uR : Int32) (tn : Int32) (pn : Int32) (pg : Int32) (pq : Int32) (rl : Nat → Int32) (sr : Nat → Int32) (gcb : Nat → Int32) (gpb : Nat → Int64) (tg : Nat → Int32) (tm : Nat → Int32) (tl : Nat → Int32) (pm : Nat → Int32) (ps : Nat → Int32)  (r0 : Int32) (pn0 : Int32) (pg0 : Int32) (pq0 : Int32) (sr0 : Nat → Int32) (pm0 : Nat → Int32) (ps0 : Nat → Int32) (hp : pf_L_guessesNeeded lc uP uR pn pg pq rl sr gcb gpb pm ps = (some (r0, pn0, pg0, pq0, sr0, pm0, ps0))) : gMi l yL_guessesNeeded wsL_guessesNeeded rm_L_guessesNeeded D [(cI, .int), (cJ, .long)] (cW h cI cJ lc la hr uP uC uR tn pn pg pq rl sr gcb gpb tg tm tl pm ps) [.ref (h 0)] 1 6 (fun r w => r = r0 ∧ w = cW h cI cJ lc la hr uP uC uR tn pn0 pg0 pq0 rl sr0 gcb gpb tg tm tl pm0 ps0) (fun _ _ => False) := by
  refine gMi_ofH (cc := cL_guessesNeeded) (maxL := 3) (rt := .int) hl (by decide +kernel) rfl (Nat.le_of_ble_eq_true rfl) ?_
  intro p e s m args below meth c A Q C hnm ht RET
  have C : gC p l s m args meth c A D [(cI, .int), (cJ, .long)] 3 RL cL_guessesNeeded wsL_guessesNeeded := C
  refine gV_loc (lvs' := [(0, .ref (h 0))]) [0] rfl ?_
  unfold pf_L_guessesNeeded at hp
  refine gV_aload_n C dL_guessesNeeded_0 rfl 0 rfl ?_
  obtain ⟨x1, r1q, pn_1, pg_1, pq_1, sr_1, pm_1, ps_1, hq1, hp⟩ := g_ob8 hp
  refine gV_calliS C (gV_runV (As := []) (rest := []) C (mt_X3_guessesNeeded hl D h cI cJ lc la hr uP uC uR tn pn pg pq rl sr gcb gpb tg tm tl pm ps x1 r1q pn_1 pg_1 pq_1 sr_1 pm_1 ps_1 hq1) (cwV 0 C.2.2.2.2.1 gL_guessesNeeded_X3_guessesNeeded rfl rfl rfl hdv_X3_guessesNeeded ⟨Nat.le_of_ble_eq_true rfl, Nat.le_of_ble_eq_true rfl⟩) (gSub_S _) 0 rfl rfl rfl rfl (Nat.le_of_ble_eq_true rfl) dL_guessesNeeded_1 ⟨Nat.le_of_ble_eq_true rfl, Nat.le_of_ble_eq_true rfl⟩) (fun E w1 hx => ?_) (fun r1 w1 hw => ?_)
  · obtain ⟨hne, rfl, rfl⟩ := hx
    replace hp := g_iff hp hne
    by_cases hc1 : x1 = 1
    · replace hp := g_ift hp hc1
      subst hc1
      rw [g_exn1]
      exact g_none hp
    · replace hp := g_iff hp hc1
      by_cases hc2 : x1 = 2
      · replace hp := g_ift hp hc2
        subst hc2
        rw [g_exn2]
        exact g_none hp
      · replace hp := g_iff hp hc2
        rw [g_exn3 hc1 hc2]
        refine gT_catch (E := "java/lang/IllegalStateException") C (Or.inr (Or.inr rfl)) [] { startPc := 0, endPc := 5, handlerPc := 8, catchType := 28 } [] (ht.trans rfl) (fun z hz => absurd hz List.not_mem_nil) rfl (by decide) (C.w 1 rfl) (fun q9 => ?_)
        show gV p l e rm_L_guessesNeeded s m args below meth c A D 3 Q (cW h cI cJ lc la hr uP uC uR tn pn_1 pg_1 pq_1 rl sr_1 gcb gpb tg tm tl pm_1 ps_1) [(0, .ref (h 0))] _ _ 8 [.ref q9]
        refine gV_astore_n (lvs' := [(2, .ref q9), (0, .ref (h 0))]) C dL_guessesNeeded_8 rfl (by decide) rfl ?_
        refine gV_bipush (v := (-73)) C dL_guessesNeeded_9 rfl ?_
        obtain ⟨rfl, rfl, rfl, rfl, rfl, rfl, rfl⟩ := g_so7 hp
        exact RET _ _ _ _ _ _ dL_guessesNeeded_11 (Nat.le_of_ble_eq_true rfl) (Nat.le_of_ble_eq_true rfl) rfl ⟨rfl, rfl⟩
  · obtain ⟨hx0, rfl, rfl⟩ := hw
    replace hp := g_ift hp hx0
    refine gV_istore_n (lvs' := [(1, .int r1), (0, .ref (h 0))]) C dL_guessesNeeded_4 rfl (by decide) rfl ?_
    refine gV_goto (tgt := 12) C dL_guessesNeeded_5 (by decide) ?_
    refine gV_iload_n C dL_guessesNeeded_12 rfl 0 rfl ?_
    obtain ⟨rfl, rfl, rfl, rfl, rfl, rfl, rfl⟩ := g_so7 hp
    exact RET _ _ _ _ _ _ dL_guessesNeeded_13 (Nat.le_of_ble_eq_true rfl) (Nat.le_of_ble_eq_true rfl) rfl ⟨rfl, rfl⟩
abbrev rm_L_isInProof : Room := { frames := 8, cells := 2, slots := 12, locals := 124 }
theorem hdv_X3_isInProof : yX3_isInProof.cls = RX3 ∧ yX3_isInProof.cls ≠ "java/lang/invoke/MethodHandle" ∧ yX3_isInProof.cls ≠ "java/lang/invoke/VarHandle" ∧ (parseMethodDescriptor yX3_isInProof.desc).map (fun d => d.parameters.length) = some 1 := by decide +kernel
set_option maxHeartbeats 4000000 in
set_option maxRecDepth 100000 in
theorem mt_L_isInProof {l : Launch} (hl : l.stackTraces = false) (D : va_G) (h : Nat → Nat) (cI cJ : ClassId) (lc : Int32) (la : Int32) (hr : Int32) (uP : Int32) (uC : Int32) (uR : Int32) (tn : Int32) (pn : Int32) (pg : Int32) (pq : Int32) (rl : Nat → Int32) (sr : Nat → Int32) (gcb : Nat → Int32) (gpb : Nat → Int64) (tg : Nat → Int32) (tm : Nat → Int32) (tl : Nat → Int32) (pm : Nat → Int32) (ps : Nat → Int32) (v1 : Int32) (r0 : Int32) (hp : pf_L_isInProof lc la uR tn tl v1 = (some r0)) : gMi l yL_isInProof wsL_isInProof rm_L_isInProof D [(cI, .int), (cJ, .long)] (cW h cI cJ lc la hr uP uC uR tn pn pg pq rl sr gcb gpb tg tm tl pm ps) [.ref (h 0), .int v1] 2 12 (fun r w => r = r0 ∧ w = cW h cI cJ lc la hr uP uC uR tn pn pg pq rl sr gcb gpb tg tm tl pm ps) (fun _ _ => False) := by
  refine gMi_ofH (cc := cL_isInProof) (maxL := 4) (rt := .int) hl (by decide +kernel) rfl (Nat.le_of_ble_eq_true rfl) ?_
  intro p e s m args below meth c A Q C hnm ht RET
  have C : gC p l s m args meth c A D [(cI, .int), (cJ, .long)] 4 RL cL_isInProof wsL_isInProof := C
  refine gV_loc (lvs' := [(0, .ref (h 0)), (1, .int v1)]) [0, 1] rfl ?_
  unfold pf_L_isInProof at hp
  have J26 : ∀ (s0 : Int32), pf_L_isInProof_j26 s0 = (some r0) → gV p l e rm_L_isInProof s m args below meth c A D 4 Q (cW h cI cJ lc la hr uP uC uR tn pn pg pq rl sr gcb gpb tg tm tl pm ps) [(0, .ref (h 0))] 2 12 26 [.int s0] := by
    intro s0 hp
    unfold pf_L_isInProof_j26 at hp
    obtain rfl := g_so1 hp
    exact RET _ _ _ _ _ _ dL_isInProof_26 (Nat.le_of_ble_eq_true rfl) (Nat.le_of_ble_eq_true rfl) rfl ⟨rfl, rfl⟩
  refine gV_aload_n C dL_isInProof_0 rfl 0 rfl ?_
  refine gV_iload_n C dL_isInProof_1 rfl 1 rfl ?_
  obtain ⟨x2, r2q, hq2, hp⟩ := g_ob2 hp
  refine gV_calliS C (gV_runV (As := [.int v1]) (rest := []) C (mt_X3_isInProof hl D h cI cJ lc la hr uP uC uR tn pn pg pq rl sr gcb gpb tg tm tl pm ps v1 x2 r2q hq2) (cwV 1 C.2.2.2.2.1 gL_isInProof_X3_isInProof rfl rfl rfl hdv_X3_isInProof ⟨Nat.le_of_ble_eq_true rfl, Nat.le_of_ble_eq_true rfl⟩) (gSub_S _) 0 rfl rfl rfl rfl (Nat.le_of_ble_eq_true rfl) dL_isInProof_2 ⟨Nat.le_of_ble_eq_true rfl, Nat.le_of_ble_eq_true rfl⟩) (fun E w1 hx => ?_) (fun r2 w1 hw => ?_)
  · obtain ⟨hne, rfl, rfl⟩ := hx
    replace hp := g_iff hp hne
    by_cases hc1 : x2 = 1
    · replace hp := g_ift hp hc1
      subst hc1
      rw [g_exn1]
      refine gT_catch (E := "java/lang/IndexOutOfBoundsException") C (Or.inr (Or.inl rfl)) [] { startPc := 0, endPc := 6, handlerPc := 9, catchType := 19 } [{ startPc := 0, endPc := 6, handlerPc := 13, catchType := 28 }] (ht.trans rfl) (fun z hz => absurd hz List.not_mem_nil) rfl (by decide) (C.w 1 rfl) (fun q9 => ?_)
      show gV p l e rm_L_isInProof s m args below meth c A D 4 Q (cW h cI cJ lc la hr uP uC uR tn pn pg pq rl sr gcb gpb tg tm tl pm ps) [(0, .ref (h 0)), (1, .int v1)] _ _ 9 [.ref q9]
      refine gV_astore_n (lvs' := [(3, .ref q9), (0, .ref (h 0)), (1, .int v1)]) C dL_isInProof_9 rfl (by decide) rfl ?_
      refine gV_bipush (v := (-71)) C dL_isInProof_10 rfl ?_
      obtain rfl := g_so1 hp
      exact RET _ _ _ _ _ _ dL_isInProof_12 (Nat.le_of_ble_eq_true rfl) (Nat.le_of_ble_eq_true rfl) rfl ⟨rfl, rfl⟩
    · replace hp := g_iff hp hc1
      by_cases hc2 : x2 = 2
      · replace hp := g_ift hp hc2
        subst hc2
        rw [g_exn2]
        exact g_none hp
      · replace hp := g_iff hp hc2
        rw [g_exn3 hc1 hc2]
        refine gT_catch (E := "java/lang/IllegalStateException") C (Or.inr (Or.inr rfl)) [{ startPc := 0, endPc := 6, handlerPc := 9, catchType := 19 }] { startPc := 0, endPc := 6, handlerPc := 13, catchType := 28 } [] (ht.trans rfl) (List.forall_mem_cons.mpr ⟨Or.inr ⟨by decide, _, C.w 1 rfl, C.2.2.2.2.2.2.2.2.1.2.2.2.1.2.1⟩, fun z hz => absurd hz List.not_mem_nil⟩) rfl (by decide) (C.w 2 rfl) (fun q9 => ?_)
        show gV p l e rm_L_isInProof s m args below meth c A D 4 Q (cW h cI cJ lc la hr uP uC uR tn pn pg pq rl sr gcb gpb tg tm tl pm ps) [(0, .ref (h 0)), (1, .int v1)] _ _ 13 [.ref q9]
        refine gV_astore_n (lvs' := [(3, .ref q9), (0, .ref (h 0)), (1, .int v1)]) C dL_isInProof_13 rfl (by decide) rfl ?_
        refine gV_bipush (v := (-73)) C dL_isInProof_14 rfl ?_
        obtain rfl := g_so1 hp
        exact RET _ _ _ _ _ _ dL_isInProof_16 (Nat.le_of_ble_eq_true rfl) (Nat.le_of_ble_eq_true rfl) rfl ⟨rfl, rfl⟩
  · obtain ⟨hx0, rfl, rfl⟩ := hw
    replace hp := g_ift hp hx0
    refine gV_istore_n (lvs' := [(2, .int r2), (0, .ref (h 0)), (1, .int v1)]) C dL_isInProof_5 rfl (by decide) rfl ?_
    refine gV_goto (tgt := 17) C dL_isInProof_6 (by decide) ?_
    refine gV_iload_n C dL_isInProof_17 rfl 0 rfl ?_
    refine gV_if_eq (tgt := 25) C dL_isInProof_18 (by decide) (fun c18 => ?_) (fun c18 => ?_)
    · replace hp := g_ift hp c18
      refine gV_iconst (v := 0) C dL_isInProof_25 rfl ?_
      refine gV_loc [1] rfl ?_
      exact J26 0 hp
    · replace hp := g_iff hp c18
      refine gV_iconst (v := 1) C dL_isInProof_21 rfl ?_
      refine gV_goto (tgt := 26) C dL_isInProof_22 (by decide) ?_
      refine gV_loc [1] rfl ?_
      exact J26 1 hp

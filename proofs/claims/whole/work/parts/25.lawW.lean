def pf_L_begin  (lc : Int32) (la : Int32) (hr : Int32) (uP : Int32) (uC : Int32) (uR : Int32) (tn : Int32) (rl : Nat → Int32) (gcb : Nat → Int32) (gpb : Nat → Int64) (tl : Nat → Int32) (ov : Nat → Int64) (v1 : Int32) (v2 : Int32) : Option (Int32 × Int32 × Int32 × Int32 × Int32 × Int32 × Int32 × Int32 × (Nat → Int32) × (Nat → Int32) × (Nat → Int64) × (Nat → Int32) × (Nat → Int64)) := (ob13 (pf_X3_begin lc la hr uP uC uR tn rl gcb gpb tl v1 v2) fun x5 r5 lc_5 la_5 hr_5 uP_5 uC_5 uR_5 tn_5 rl_5 gcb_5 gpb_5 tl_5 => if x5 = 0 then (gi 0 1 (some (0, lc_5, la_5, hr_5, uP_5, uC_5, uR_5, tn_5, rl_5, gcb_5, gpb_5, tl_5, (vp_updL ov (0 : Int32).toNatClampNeg r5.toInt64)))) else (if x5 = 1 then none else (if x5 = 2 then (some (1, lc_5, la_5, hr_5, uP_5, uC_5, uR_5, tn_5, rl_5, gcb_5, gpb_5, tl_5, ov)) else none)))
abbrev rm_L_begin : Room := { frames := 7, cells := 1, slots := 6, locals := 148 }
theorem hdv_X3_begin : yX3_begin.cls = RX3 ∧ yX3_begin.cls ≠ "java/lang/invoke/MethodHandle" ∧ yX3_begin.cls ≠ "java/lang/invoke/VarHandle" ∧ (parseMethodDescriptor yX3_begin.desc).map (fun d => d.parameters.length) = some 2 := by decide +kernel
set_option maxHeartbeats 4000000 in
set_option maxRecDepth 100000 in
theorem mt_L_begin {l : Launch} (hl : l.stackTraces = false) (D : va_G) (h : Nat → Nat) (ho : Nat) (cI cJ : ClassId) (lc : Int32) (la : Int32) (hr : Int32) (uP : Int32) (uC : Int32) (uR : Int32) (tn : Int32) (pn : Int32) (pg : Int32) (pq : Int32) (rl : Nat → Int32) (sr : Nat → Int32) (gcb : Nat → Int32) (gpb : Nat → Int64) (tg : Nat → Int32) (tm : Nat → Int32) (tl : Nat → Int32) (pm : Nat → Int32) (ps : Nat → Int32) (ov : Nat → Int64) (v1 : Int32) (v2 : Int32) (r0 : Int32) (lc0 : Int32) (la0 : Int32) (hr0 : Int32) (uP0 : Int32) (uC0 : Int32) (uR0 : Int32) (tn0 : Int32) (rl0 : Nat → Int32) (gcb0 : Nat → Int32) (gpb0 : Nat → Int64) (tl0 : Nat → Int32) (ov0 : Nat → Int64) (hp : pf_L_begin lc la hr uP uC uR tn rl gcb gpb tl ov v1 v2 = (some (r0, lc0, la0, hr0, uP0, uC0, uR0, tn0, rl0, gcb0, gpb0, tl0, ov0))) : gMi l yL_begin wsL_begin rm_L_begin D [(cI, .int), (cJ, .long)] ((cW h cI cJ lc la hr uP uC uR tn pn pg pq rl sr gcb gpb tg tm tl pm ps) ++ (oW ho cJ ov)) [.ref (h 0), .int v1, .int v2, .ref ho] 1 6 (fun r w => r = r0 ∧ w = (cW h cI cJ lc0 la0 hr0 uP0 uC0 uR0 tn0 pn pg pq rl0 sr gcb0 gpb0 tg tm tl0 pm ps) ++ (oW ho cJ ov0)) (fun _ _ => False) := by
  refine gMi_ofH (cc := cL_begin) (maxL := 5) (rt := .int) hl (by decide +kernel) rfl (Nat.le_of_ble_eq_true rfl) ?_
  intro p e s m args below meth c A Q C hnm ht RET
  have C : gC p l s m args meth c A D [(cI, .int), (cJ, .long)] 5 RL cL_begin wsL_begin := C
  refine gV_loc (lvs' := [(0, .ref (h 0)), (1, .int v1), (2, .int v2), (3, .ref ho)]) [0, 1, 2, 3] rfl ?_
  unfold pf_L_begin at hp
  refine gV_aload_n C dL_begin_0 rfl 3 rfl ?_
  refine gV_iconst (v := 0) C dL_begin_1 rfl ?_
  refine gV_aload_n C dL_begin_2 rfl 0 rfl ?_
  refine gV_iload_n C dL_begin_3 rfl 1 rfl ?_
  refine gV_iload_n C dL_begin_4 rfl 2 rfl ?_
  obtain ⟨x5, r5q, lc_5, la_5, hr_5, uP_5, uC_5, uR_5, tn_5, rl_5, gcb_5, gpb_5, tl_5, hq5, hp⟩ := g_ob13 hp
  refine gV_calli C (gsub_co_c _ _ rfl rfl) (gV_runV (As := [.int v1, .int v2]) (rest := [.int 0, .ref ho]) C (mt_X3_begin hl D h cI cJ lc la hr uP uC uR tn pn pg pq rl sr gcb gpb tg tm tl pm ps v1 v2 x5 r5q lc_5 la_5 hr_5 uP_5 uC_5 uR_5 tn_5 rl_5 gcb_5 gpb_5 tl_5 hq5) (cwV 2 C.2.2.2.2.1 gL_begin_X3_begin rfl rfl rfl hdv_X3_begin ⟨Nat.le_of_ble_eq_true rfl, Nat.le_of_ble_eq_true rfl⟩) (gsub_co_c _ _ rfl rfl) 0 rfl rfl rfl rfl (Nat.le_of_ble_eq_true rfl) dL_begin_5 ⟨Nat.le_of_ble_eq_true rfl, Nat.le_of_ble_eq_true rfl⟩) (fun E w1 hx => ?_) (fun r5 w1 hw => ?_)
  · obtain ⟨hne, rfl, rfl⟩ := hx
    refine gT_sub (ws' := (cW h cI cJ lc_5 la_5 hr_5 uP_5 uC_5 uR_5 tn_5 pn pg pq rl_5 sr gcb_5 gpb_5 tg tm tl_5 pm ps) ++ (oW ho cJ ov)) [1, 2, 3, 4, 5, 6, 7, 8, 9, 10, 11, 12, 13, 0] (by decide) rfl rfl ?_
    replace hp := g_iff hp hne
    by_cases hc1 : x5 = 1
    · replace hp := g_ift hp hc1
      subst hc1
      rw [g_exn1]
      exact g_none hp
    · replace hp := g_iff hp hc1
      by_cases hc2 : x5 = 2
      · replace hp := g_ift hp hc2
        subst hc2
        rw [g_exn2]
        refine gT_catch (E := "java/lang/IllegalArgumentException") C (Or.inl rfl) [] { startPc := 0, endPc := 10, handlerPc := 13, catchType := 13 } [] (ht.trans rfl) (fun z hz => absurd hz List.not_mem_nil) rfl (by decide) (C.w 1 rfl) (fun q9 => ?_)
        show gV p l e rm_L_begin s m args below meth c A D 5 Q ((cW h cI cJ lc_5 la_5 hr_5 uP_5 uC_5 uR_5 tn_5 pn pg pq rl_5 sr gcb_5 gpb_5 tg tm tl_5 pm ps) ++ (oW ho cJ ov)) [(0, .ref (h 0)), (1, .int v1), (2, .int v2), (3, .ref ho)] _ _ 13 [.ref q9]
        refine gV_astore (lvs' := [(4, .ref q9), (0, .ref (h 0)), (1, .int v1), (2, .int v2), (3, .ref ho)]) C dL_begin_13 (by decide) rfl ?_
        refine gV_iconst (v := 1) C dL_begin_15 rfl ?_
        obtain ⟨rfl, rfl, rfl, rfl, rfl, rfl, rfl, rfl, rfl, rfl, rfl, rfl, rfl⟩ := g_so13 hp
        exact RET _ _ _ _ _ _ dL_begin_16 (Nat.le_of_ble_eq_true rfl) (Nat.le_of_ble_eq_true rfl) rfl ⟨rfl, rfl⟩
      · replace hp := g_iff hp hc2
        rw [g_exn3 hc1 hc2]
        exact g_none hp
  · obtain ⟨hx0, rfl, rfl⟩ := hw
    replace hp := g_ift hp hx0
    refine gV_sub (ws' := (cW h cI cJ lc_5 la_5 hr_5 uP_5 uC_5 uR_5 tn_5 pn pg pq rl_5 sr gcb_5 gpb_5 tg tm tl_5 pm ps) ++ (oW ho cJ ov)) [1, 2, 3, 4, 5, 6, 7, 8, 9, 10, 11, 12, 13, 0] (by decide) rfl rfl ?_
    refine gV_i2l C dL_begin_8 ?_
    obtain ⟨hi9, hp⟩ := g_idx hp
    refine gV_last (ws' := (cW h cI cJ lc_5 la_5 hr_5 uP_5 uC_5 uR_5 tn_5 pn pg pq rl_5 sr gcb_5 gpb_5 tg tm tl_5 pm ps) ++ (oW ho cJ (vp_updL ov (0 : Int32).toNatClampNeg r5.toInt64))) C 13 rfl 1 rfl hi9 dL_begin_9 rfl ?_
    refine gV_goto (tgt := 17) C dL_begin_10 (by decide) ?_
    refine gV_iconst (v := 0) C dL_begin_17 rfl ?_
    obtain ⟨rfl, rfl, rfl, rfl, rfl, rfl, rfl, rfl, rfl, rfl, rfl, rfl, rfl⟩ := g_so13 hp
    exact RET _ _ _ _ _ _ dL_begin_18 (Nat.le_of_ble_eq_true rfl) (Nat.le_of_ble_eq_true rfl) rfl ⟨rfl, rfl⟩
def pf_L_colourAt  (uP : Int32) (uR : Int32) (gcb : Nat → Int32) (ov : Nat → Int64) (v1 : Int32) (v2 : Int32) : Option (Int32 × (Nat → Int64)) := (ob2 (pf_X3_colourAt uP uR gcb v1 v2) fun x5 r5 => if x5 = 0 then (gi 0 1 (some (0, (vp_updL ov (0 : Int32).toNatClampNeg r5.toInt64)))) else (if x5 = 1 then (some (1, ov)) else (if x5 = 2 then none else none)))
abbrev rm_L_colourAt : Room := { frames := 7, cells := 1, slots := 6, locals := 104 }
theorem hdv_X3_colourAt : yX3_colourAt.cls = RX3 ∧ yX3_colourAt.cls ≠ "java/lang/invoke/MethodHandle" ∧ yX3_colourAt.cls ≠ "java/lang/invoke/VarHandle" ∧ (parseMethodDescriptor yX3_colourAt.desc).map (fun d => d.parameters.length) = some 2 := by decide +kernel
set_option maxHeartbeats 4000000 in
set_option maxRecDepth 100000 in
theorem mt_L_colourAt {l : Launch} (hl : l.stackTraces = false) (D : va_G) (h : Nat → Nat) (ho : Nat) (cI cJ : ClassId) (lc : Int32) (la : Int32) (hr : Int32) (uP : Int32) (uC : Int32) (uR : Int32) (tn : Int32) (pn : Int32) (pg : Int32) (pq : Int32) (rl : Nat → Int32) (sr : Nat → Int32) (gcb : Nat → Int32) (gpb : Nat → Int64) (tg : Nat → Int32) (tm : Nat → Int32) (tl : Nat → Int32) (pm : Nat → Int32) (ps : Nat → Int32) (ov : Nat → Int64) (v1 : Int32) (v2 : Int32) (r0 : Int32) (ov0 : Nat → Int64) (hp : pf_L_colourAt uP uR gcb ov v1 v2 = (some (r0, ov0))) : gMi l yL_colourAt wsL_colourAt rm_L_colourAt D [(cI, .int), (cJ, .long)] ((cW h cI cJ lc la hr uP uC uR tn pn pg pq rl sr gcb gpb tg tm tl pm ps) ++ (oW ho cJ ov)) [.ref (h 0), .int v1, .int v2, .ref ho] 1 6 (fun r w => r = r0 ∧ w = (cW h cI cJ lc la hr uP uC uR tn pn pg pq rl sr gcb gpb tg tm tl pm ps) ++ (oW ho cJ ov0)) (fun _ _ => False) := by
  refine gMi_ofH (cc := cL_colourAt) (maxL := 5) (rt := .int) hl (by decide +kernel) rfl (Nat.le_of_ble_eq_true rfl) ?_
  intro p e s m args below meth c A Q C hnm ht RET
  have C : gC p l s m args meth c A D [(cI, .int), (cJ, .long)] 5 RL cL_colourAt wsL_colourAt := C
  refine gV_loc (lvs' := [(0, .ref (h 0)), (1, .int v1), (2, .int v2), (3, .ref ho)]) [0, 1, 2, 3] rfl ?_
  unfold pf_L_colourAt at hp
  refine gV_aload_n C dL_colourAt_0 rfl 3 rfl ?_
  refine gV_iconst (v := 0) C dL_colourAt_1 rfl ?_
  refine gV_aload_n C dL_colourAt_2 rfl 0 rfl ?_
  refine gV_iload_n C dL_colourAt_3 rfl 1 rfl ?_
  refine gV_iload_n C dL_colourAt_4 rfl 2 rfl ?_
  obtain ⟨x5, r5q, hq5, hp⟩ := g_ob2 hp
  refine gV_calli C (gsub_co_c _ _ rfl rfl) (gV_runV (As := [.int v1, .int v2]) (rest := [.int 0, .ref ho]) C (mt_X3_colourAt hl D h cI cJ lc la hr uP uC uR tn pn pg pq rl sr gcb gpb tg tm tl pm ps v1 v2 x5 r5q hq5) (cwV 2 C.2.2.2.2.1 gL_colourAt_X3_colourAt rfl rfl rfl hdv_X3_colourAt ⟨Nat.le_of_ble_eq_true rfl, Nat.le_of_ble_eq_true rfl⟩) (gsub_co_c _ _ rfl rfl) 0 rfl rfl rfl rfl (Nat.le_of_ble_eq_true rfl) dL_colourAt_5 ⟨Nat.le_of_ble_eq_true rfl, Nat.le_of_ble_eq_true rfl⟩) (fun E w1 hx => ?_) (fun r5 w1 hw => ?_)
  · obtain ⟨hne, rfl, rfl⟩ := hx
    refine gT_sub (ws' := (cW h cI cJ lc la hr uP uC uR tn pn pg pq rl sr gcb gpb tg tm tl pm ps) ++ (oW ho cJ ov)) [1, 2, 3, 4, 5, 6, 7, 8, 9, 10, 11, 12, 13, 0] (by decide) rfl rfl ?_
    replace hp := g_iff hp hne
    by_cases hc1 : x5 = 1
    · replace hp := g_ift hp hc1
      subst hc1
      rw [g_exn1]
      refine gT_catch (E := "java/lang/IndexOutOfBoundsException") C (Or.inr (Or.inl rfl)) [] { startPc := 0, endPc := 10, handlerPc := 13, catchType := 18 } [] (ht.trans rfl) (fun z hz => absurd hz List.not_mem_nil) rfl (by decide) (C.w 1 rfl) (fun q9 => ?_)
      show gV p l e rm_L_colourAt s m args below meth c A D 5 Q ((cW h cI cJ lc la hr uP uC uR tn pn pg pq rl sr gcb gpb tg tm tl pm ps) ++ (oW ho cJ ov)) [(0, .ref (h 0)), (1, .int v1), (2, .int v2), (3, .ref ho)] _ _ 13 [.ref q9]
      refine gV_astore (lvs' := [(4, .ref q9), (0, .ref (h 0)), (1, .int v1), (2, .int v2), (3, .ref ho)]) C dL_colourAt_13 (by decide) rfl ?_
      refine gV_iconst (v := 1) C dL_colourAt_15 rfl ?_
      obtain ⟨rfl, rfl⟩ := g_so2 hp
      exact RET _ _ _ _ _ _ dL_colourAt_16 (Nat.le_of_ble_eq_true rfl) (Nat.le_of_ble_eq_true rfl) rfl ⟨rfl, rfl⟩
    · replace hp := g_iff hp hc1
      by_cases hc2 : x5 = 2
      · replace hp := g_ift hp hc2
        subst hc2
        rw [g_exn2]
        exact g_none hp
      · replace hp := g_iff hp hc2
        rw [g_exn3 hc1 hc2]
        exact g_none hp
  · obtain ⟨hx0, rfl, rfl⟩ := hw
    replace hp := g_ift hp hx0
    refine gV_sub (ws' := (cW h cI cJ lc la hr uP uC uR tn pn pg pq rl sr gcb gpb tg tm tl pm ps) ++ (oW ho cJ ov)) [1, 2, 3, 4, 5, 6, 7, 8, 9, 10, 11, 12, 13, 0] (by decide) rfl rfl ?_
    refine gV_i2l C dL_colourAt_8 ?_
    obtain ⟨hi9, hp⟩ := g_idx hp
    refine gV_last (ws' := (cW h cI cJ lc la hr uP uC uR tn pn pg pq rl sr gcb gpb tg tm tl pm ps) ++ (oW ho cJ (vp_updL ov (0 : Int32).toNatClampNeg r5.toInt64))) C 13 rfl 1 rfl hi9 dL_colourAt_9 rfl ?_
    refine gV_goto (tgt := 17) C dL_colourAt_10 (by decide) ?_
    refine gV_iconst (v := 0) C dL_colourAt_17 rfl ?_
    obtain ⟨rfl, rfl⟩ := g_so2 hp
    exact RET _ _ _ _ _ _ dL_colourAt_18 (Nat.le_of_ble_eq_true rfl) (Nat.le_of_ble_eq_true rfl) rfl ⟨rfl, rfl⟩
def pf_L_mark  (uP : Int32) (uR : Int32) (gcb : Nat → Int32) (gpb : Nat → Int64) (ov : Nat → Int64) (v1 : Int32) (v2 : Int32) : Option (Int32 × (Nat → Int64)) := (ob2 (pf_X3_mark uP uR gcb gpb v1 v2) fun x5 r5 => if x5 = 0 then (gi 0 1 (some (0, (vp_updL ov (0 : Int32).toNatClampNeg r5.toInt64)))) else (if x5 = 1 then (some (1, ov)) else (if x5 = 2 then none else none)))
abbrev rm_L_mark : Room := { frames := 7, cells := 1, slots := 6, locals := 104 }
theorem hdv_X3_mark : yX3_mark.cls = RX3 ∧ yX3_mark.cls ≠ "java/lang/invoke/MethodHandle" ∧ yX3_mark.cls ≠ "java/lang/invoke/VarHandle" ∧ (parseMethodDescriptor yX3_mark.desc).map (fun d => d.parameters.length) = some 2 := by decide +kernel
set_option maxHeartbeats 4000000 in
set_option maxRecDepth 100000 in
theorem mt_L_mark {l : Launch} (hl : l.stackTraces = false) (D : va_G) (h : Nat → Nat) (ho : Nat) (cI cJ : ClassId) (lc : Int32) (la : Int32) (hr : Int32) (uP : Int32) (uC : Int32) (uR : Int32) (tn : Int32) (pn : Int32) (pg : Int32) (pq : Int32) (rl : Nat → Int32) (sr : Nat → Int32) (gcb : Nat → Int32) (gpb : Nat → Int64) (tg : Nat → Int32) (tm : Nat → Int32) (tl : Nat → Int32) (pm : Nat → Int32) (ps : Nat → Int32) (ov : Nat → Int64) (v1 : Int32) (v2 : Int32) (r0 : Int32) (ov0 : Nat → Int64) (hp : pf_L_mark uP uR gcb gpb ov v1 v2 = (some (r0, ov0))) : gMi l yL_mark wsL_mark rm_L_mark D [(cI, .int), (cJ, .long)] ((cW h cI cJ lc la hr uP uC uR tn pn pg pq rl sr gcb gpb tg tm tl pm ps) ++ (oW ho cJ ov)) [.ref (h 0), .int v1, .int v2, .ref ho] 1 6 (fun r w => r = r0 ∧ w = (cW h cI cJ lc la hr uP uC uR tn pn pg pq rl sr gcb gpb tg tm tl pm ps) ++ (oW ho cJ ov0)) (fun _ _ => False) := by
  refine gMi_ofH (cc := cL_mark) (maxL := 5) (rt := .int) hl (by decide +kernel) rfl (Nat.le_of_ble_eq_true rfl) ?_
  intro p e s m args below meth c A Q C hnm ht RET
  have C : gC p l s m args meth c A D [(cI, .int), (cJ, .long)] 5 RL cL_mark wsL_mark := C
  refine gV_loc (lvs' := [(0, .ref (h 0)), (1, .int v1), (2, .int v2), (3, .ref ho)]) [0, 1, 2, 3] rfl ?_
  unfold pf_L_mark at hp
  refine gV_aload_n C dL_mark_0 rfl 3 rfl ?_
  refine gV_iconst (v := 0) C dL_mark_1 rfl ?_
  refine gV_aload_n C dL_mark_2 rfl 0 rfl ?_
  refine gV_iload_n C dL_mark_3 rfl 1 rfl ?_
  refine gV_iload_n C dL_mark_4 rfl 2 rfl ?_
  obtain ⟨x5, r5q, hq5, hp⟩ := g_ob2 hp
  refine gV_calli C (gsub_co_c _ _ rfl rfl) (gV_runV (As := [.int v1, .int v2]) (rest := [.int 0, .ref ho]) C (mt_X3_mark hl D h cI cJ lc la hr uP uC uR tn pn pg pq rl sr gcb gpb tg tm tl pm ps v1 v2 x5 r5q hq5) (cwV 2 C.2.2.2.2.1 gL_mark_X3_mark rfl rfl rfl hdv_X3_mark ⟨Nat.le_of_ble_eq_true rfl, Nat.le_of_ble_eq_true rfl⟩) (gsub_co_c _ _ rfl rfl) 0 rfl rfl rfl rfl (Nat.le_of_ble_eq_true rfl) dL_mark_5 ⟨Nat.le_of_ble_eq_true rfl, Nat.le_of_ble_eq_true rfl⟩) (fun E w1 hx => ?_) (fun r5 w1 hw => ?_)
  · obtain ⟨hne, rfl, rfl⟩ := hx
    refine gT_sub (ws' := (cW h cI cJ lc la hr uP uC uR tn pn pg pq rl sr gcb gpb tg tm tl pm ps) ++ (oW ho cJ ov)) [1, 2, 3, 4, 5, 6, 7, 8, 9, 10, 11, 12, 13, 0] (by decide) rfl rfl ?_
    replace hp := g_iff hp hne
    by_cases hc1 : x5 = 1
    · replace hp := g_ift hp hc1
      subst hc1
      rw [g_exn1]
      refine gT_catch (E := "java/lang/IndexOutOfBoundsException") C (Or.inr (Or.inl rfl)) [] { startPc := 0, endPc := 10, handlerPc := 13, catchType := 18 } [] (ht.trans rfl) (fun z hz => absurd hz List.not_mem_nil) rfl (by decide) (C.w 1 rfl) (fun q9 => ?_)
      show gV p l e rm_L_mark s m args below meth c A D 5 Q ((cW h cI cJ lc la hr uP uC uR tn pn pg pq rl sr gcb gpb tg tm tl pm ps) ++ (oW ho cJ ov)) [(0, .ref (h 0)), (1, .int v1), (2, .int v2), (3, .ref ho)] _ _ 13 [.ref q9]
      refine gV_astore (lvs' := [(4, .ref q9), (0, .ref (h 0)), (1, .int v1), (2, .int v2), (3, .ref ho)]) C dL_mark_13 (by decide) rfl ?_
      refine gV_iconst (v := 1) C dL_mark_15 rfl ?_
      obtain ⟨rfl, rfl⟩ := g_so2 hp
      exact RET _ _ _ _ _ _ dL_mark_16 (Nat.le_of_ble_eq_true rfl) (Nat.le_of_ble_eq_true rfl) rfl ⟨rfl, rfl⟩
    · replace hp := g_iff hp hc1
      by_cases hc2 : x5 = 2
      · replace hp := g_ift hp hc2
        subst hc2
        rw [g_exn2]
        exact g_none hp
      · replace hp := g_iff hp hc2
        rw [g_exn3 hc1 hc2]
        exact g_none hp
  · obtain ⟨hx0, rfl, rfl⟩ := hw
    replace hp := g_ift hp hx0
    refine gV_sub (ws' := (cW h cI cJ lc la hr uP uC uR tn pn pg pq rl sr gcb gpb tg tm tl pm ps) ++ (oW ho cJ ov)) [1, 2, 3, 4, 5, 6, 7, 8, 9, 10, 11, 12, 13, 0] (by decide) rfl rfl ?_
    refine gV_i2l C dL_mark_8 ?_
    obtain ⟨hi9, hp⟩ := g_idx hp
    refine gV_last (ws' := (cW h cI cJ lc la hr uP uC uR tn pn pg pq rl sr gcb gpb tg tm tl pm ps) ++ (oW ho cJ (vp_updL ov (0 : Int32).toNatClampNeg r5.toInt64))) C 13 rfl 1 rfl hi9 dL_mark_9 rfl ?_
    refine gV_goto (tgt := 17) C dL_mark_10 (by decide) ?_
    refine gV_iconst (v := 0) C dL_mark_17 rfl ?_
    obtain ⟨rfl, rfl⟩ := g_so2 hp
    exact RET _ _ _ _ _ _ dL_mark_18 (Nat.le_of_ble_eq_true rfl) (Nat.le_of_ble_eq_true rfl) rfl ⟨rfl, rfl⟩
def pf_L_allowLies  (lc : Int32) (la : Int32) (hr : Int32) (uR : Int32) (tn : Int32) (rl : Nat → Int32) (tl : Nat → Int32) (ov : Nat → Int64) (v1 : Int32) : Option (Int32 × Int32 × Int32 × (Nat → Int32) × (Nat → Int64)) := (ob5 (pf_X3_allowLies lc la hr uR tn rl tl v1) fun x4 r4 lc_4 la_4 rl_4 => if x4 = 0 then (gi 0 1 (some (0, lc_4, la_4, rl_4, (vp_updL ov (0 : Int32).toNatClampNeg r4.toInt64)))) else (if x4 = 1 then none else (if x4 = 2 then (some (1, lc_4, la_4, rl_4, ov)) else (some (2, lc_4, la_4, rl_4, ov)))))
abbrev rm_L_allowLies : Room := { frames := 7, cells := 1, slots := 6, locals := 128 }
theorem hdv_X3_allowLies : yX3_allowLies.cls = RX3 ∧ yX3_allowLies.cls ≠ "java/lang/invoke/MethodHandle" ∧ yX3_allowLies.cls ≠ "java/lang/invoke/VarHandle" ∧ (parseMethodDescriptor yX3_allowLies.desc).map (fun d => d.parameters.length) = some 1 := by decide +kernel
set_option maxHeartbeats 4000000 in
set_option maxRecDepth 100000 in
theorem mt_L_allowLies {l : Launch} (hl : l.stackTraces = false) (D : va_G) (h : Nat → Nat) (ho : Nat) (cI cJ : ClassId) (lc : Int32) (la : Int32) (hr : Int32) (uP : Int32) (uC : Int32) (uR : Int32) (tn : Int32) (pn : Int32) (pg : Int32) (pq : Int32) (rl : Nat → Int32) (sr : Nat → Int32) (gcb : Nat → Int32) (gpb : Nat → Int64) (tg : Nat → Int32) (tm : Nat → Int32) (tl : Nat → Int32) (pm : Nat → Int32) (ps : Nat → Int32) (ov : Nat → Int64) (v1 : Int32) (r0 : Int32) (lc0 : Int32) (la0 : Int32) (rl0 : Nat → Int32) (ov0 : Nat → Int64) (hp : pf_L_allowLies lc la hr uR tn rl tl ov v1 = (some (r0, lc0, la0, rl0, ov0))) : gMi l yL_allowLies wsL_allowLies rm_L_allowLies D [(cI, .int), (cJ, .long)] ((cW h cI cJ lc la hr uP uC uR tn pn pg pq rl sr gcb gpb tg tm tl pm ps) ++ (oW ho cJ ov)) [.ref (h 0), .int v1, .ref ho] 1 6 (fun r w => r = r0 ∧ w = (cW h cI cJ lc0 la0 hr uP uC uR tn pn pg pq rl0 sr gcb gpb tg tm tl pm ps) ++ (oW ho cJ ov0)) (fun _ _ => False) := by
  refine gMi_ofH (cc := cL_allowLies) (maxL := 4) (rt := .int) hl (by decide +kernel) rfl (Nat.le_of_ble_eq_true rfl) ?_
  intro p e s m args below meth c A Q C hnm ht RET
  have C : gC p l s m args meth c A D [(cI, .int), (cJ, .long)] 4 RL cL_allowLies wsL_allowLies := C
  refine gV_loc (lvs' := [(0, .ref (h 0)), (1, .int v1), (2, .ref ho)]) [0, 1, 2] rfl ?_
  unfold pf_L_allowLies at hp
  refine gV_aload_n C dL_allowLies_0 rfl 2 rfl ?_
  refine gV_iconst (v := 0) C dL_allowLies_1 rfl ?_
  refine gV_aload_n C dL_allowLies_2 rfl 0 rfl ?_
  refine gV_iload_n C dL_allowLies_3 rfl 1 rfl ?_
  obtain ⟨x4, r4q, lc_4, la_4, rl_4, hq4, hp⟩ := g_ob5 hp
  refine gV_calli C (gsub_co_c _ _ rfl rfl) (gV_runV (As := [.int v1]) (rest := [.int 0, .ref ho]) C (mt_X3_allowLies hl D h cI cJ lc la hr uP uC uR tn pn pg pq rl sr gcb gpb tg tm tl pm ps v1 x4 r4q lc_4 la_4 rl_4 hq4) (cwV 1 C.2.2.2.2.1 gL_allowLies_X3_allowLies rfl rfl rfl hdv_X3_allowLies ⟨Nat.le_of_ble_eq_true rfl, Nat.le_of_ble_eq_true rfl⟩) (gsub_co_c _ _ rfl rfl) 0 rfl rfl rfl rfl (Nat.le_of_ble_eq_true rfl) dL_allowLies_4 ⟨Nat.le_of_ble_eq_true rfl, Nat.le_of_ble_eq_true rfl⟩) (fun E w1 hx => ?_) (fun r4 w1 hw => ?_)
  · obtain ⟨hne, rfl, rfl⟩ := hx
    refine gT_sub (ws' := (cW h cI cJ lc_4 la_4 hr uP uC uR tn pn pg pq rl_4 sr gcb gpb tg tm tl pm ps) ++ (oW ho cJ ov)) [1, 2, 3, 4, 5, 6, 7, 8, 9, 10, 11, 12, 13, 0] (by decide) rfl rfl ?_
    replace hp := g_iff hp hne
    by_cases hc1 : x4 = 1
    · replace hp := g_ift hp hc1
      subst hc1
      rw [g_exn1]
      exact g_none hp
    · replace hp := g_iff hp hc1
      by_cases hc2 : x4 = 2
      · replace hp := g_ift hp hc2
        subst hc2
        rw [g_exn2]
        refine gT_catch (E := "java/lang/IllegalArgumentException") C (Or.inl rfl) [] { startPc := 0, endPc := 9, handlerPc := 12, catchType := 13 } [{ startPc := 0, endPc := 9, handlerPc := 15, catchType := 27 }] (ht.trans rfl) (fun z hz => absurd hz List.not_mem_nil) rfl (by decide) (C.w 1 rfl) (fun q9 => ?_)
        show gV p l e rm_L_allowLies s m args below meth c A D 4 Q ((cW h cI cJ lc_4 la_4 hr uP uC uR tn pn pg pq rl_4 sr gcb gpb tg tm tl pm ps) ++ (oW ho cJ ov)) [(0, .ref (h 0)), (1, .int v1), (2, .ref ho)] _ _ 12 [.ref q9]
        refine gV_astore_n (lvs' := [(3, .ref q9), (0, .ref (h 0)), (1, .int v1), (2, .ref ho)]) C dL_allowLies_12 rfl (by decide) rfl ?_
        refine gV_iconst (v := 1) C dL_allowLies_13 rfl ?_
        obtain ⟨rfl, rfl, rfl, rfl, rfl⟩ := g_so5 hp
        exact RET _ _ _ _ _ _ dL_allowLies_14 (Nat.le_of_ble_eq_true rfl) (Nat.le_of_ble_eq_true rfl) rfl ⟨rfl, rfl⟩
      · replace hp := g_iff hp hc2
        rw [g_exn3 hc1 hc2]
        refine gT_catch (E := "java/lang/IllegalStateException") C (Or.inr (Or.inr rfl)) [{ startPc := 0, endPc := 9, handlerPc := 12, catchType := 13 }] { startPc := 0, endPc := 9, handlerPc := 15, catchType := 27 } [] (ht.trans rfl) (List.forall_mem_cons.mpr ⟨Or.inr ⟨by decide, _, C.w 1 rfl, C.2.2.2.2.2.2.2.2.1.2.2.2.1.2.2⟩, fun z hz => absurd hz List.not_mem_nil⟩) rfl (by decide) (C.w 2 rfl) (fun q9 => ?_)
        show gV p l e rm_L_allowLies s m args below meth c A D 4 Q ((cW h cI cJ lc_4 la_4 hr uP uC uR tn pn pg pq rl_4 sr gcb gpb tg tm tl pm ps) ++ (oW ho cJ ov)) [(0, .ref (h 0)), (1, .int v1), (2, .ref ho)] _ _ 15 [.ref q9]
        refine gV_astore_n (lvs' := [(3, .ref q9), (0, .ref (h 0)), (1, .int v1), (2, .ref ho)]) C dL_allowLies_15 rfl (by decide) rfl ?_
        refine gV_iconst (v := 2) C dL_allowLies_16 rfl ?_
        obtain ⟨rfl, rfl, rfl, rfl, rfl⟩ := g_so5 hp
        exact RET _ _ _ _ _ _ dL_allowLies_17 (Nat.le_of_ble_eq_true rfl) (Nat.le_of_ble_eq_true rfl) rfl ⟨rfl, rfl⟩
  · obtain ⟨hx0, rfl, rfl⟩ := hw
    replace hp := g_ift hp hx0
    refine gV_sub (ws' := (cW h cI cJ lc_4 la_4 hr uP uC uR tn pn pg pq rl_4 sr gcb gpb tg tm tl pm ps) ++ (oW ho cJ ov)) [1, 2, 3, 4, 5, 6, 7, 8, 9, 10, 11, 12, 13, 0] (by decide) rfl rfl ?_
    refine gV_i2l C dL_allowLies_7 ?_
    obtain ⟨hi8, hp⟩ := g_idx hp
    refine gV_last (ws' := (cW h cI cJ lc_4 la_4 hr uP uC uR tn pn pg pq rl_4 sr gcb gpb tg tm tl pm ps) ++ (oW ho cJ (vp_updL ov (0 : Int32).toNatClampNeg r4.toInt64))) C 13 rfl 1 rfl hi8 dL_allowLies_8 rfl ?_
    refine gV_goto (tgt := 18) C dL_allowLies_9 (by decide) ?_
    refine gV_iconst (v := 0) C dL_allowLies_18 rfl ?_
    obtain ⟨rfl, rfl, rfl, rfl, rfl⟩ := g_so5 hp
    exact RET _ _ _ _ _ _ dL_allowLies_19 (Nat.le_of_ble_eq_true rfl) (Nat.le_of_ble_eq_true rfl) rfl ⟨rfl, rfl⟩
def pf_L_hide_j15  (s0 : Int64) (s1 : Int32) (hr : Int32) (ov : Nat → Int64) : Option (Int32 × Int32 × (Nat → Int64)) := (gi s1 1 (some (0, hr, (vp_updL ov s1.toNatClampNeg s0))))
def pf_L_hide  (la : Int32) (hr : Int32) (uR : Int32) (tn : Int32) (tl : Nat → Int32) (ov : Nat → Int64) (v1 : Int32) : Option (Int32 × Int32 × (Nat → Int64)) := (ob3 (pf_X3_hide la hr uR tn tl v1) fun x4 r4 hr_4 => if x4 = 0 then (if r4 = 0 then (pf_L_hide_j15 0 0 hr_4 ov) else (pf_L_hide_j15 1 0 hr_4 ov)) else (if x4 = 1 then (some (1, hr_4, ov)) else (if x4 = 2 then none else (some (2, hr_4, ov)))))
abbrev rm_L_hide : Room := { frames := 8, cells := 2, slots := 12, locals := 125 }
theorem hdv_X3_hide : yX3_hide.cls = RX3 ∧ yX3_hide.cls ≠ "java/lang/invoke/MethodHandle" ∧ yX3_hide.cls ≠ "java/lang/invoke/VarHandle" ∧ (parseMethodDescriptor yX3_hide.desc).map (fun d => d.parameters.length) = some 1 := by decide +kernel
set_option maxHeartbeats 4000000 in
set_option maxRecDepth 100000 in
theorem mt_L_hide {l : Launch} (hl : l.stackTraces = false) (D : va_G) (h : Nat → Nat) (ho : Nat) (cI cJ : ClassId) (lc : Int32) (la : Int32) (hr : Int32) (uP : Int32) (uC : Int32) (uR : Int32) (tn : Int32) (pn : Int32) (pg : Int32) (pq : Int32) (rl : Nat → Int32) (sr : Nat → Int32) (gcb : Nat → Int32) (gpb : Nat → Int64) (tg : Nat → Int32) (tm : Nat → Int32) (tl : Nat → Int32) (pm : Nat → Int32) (ps : Nat → Int32) (ov : Nat → Int64) (v1 : Int32) (r0 : Int32) (hr0 : Int32) (ov0 : Nat → Int64) (hp : pf_L_hide la hr uR tn tl ov v1 = (some (r0, hr0, ov0))) : gMi l yL_hide wsL_hide rm_L_hide D [(cI, .int), (cJ, .long)] ((cW h cI cJ lc la hr uP uC uR tn pn pg pq rl sr gcb gpb tg tm tl pm ps) ++ (oW ho cJ ov)) [.ref (h 0), .int v1, .ref ho] 2 12 (fun r w => r = r0 ∧ w = (cW h cI cJ lc la hr0 uP uC uR tn pn pg pq rl sr gcb gpb tg tm tl pm ps) ++ (oW ho cJ ov0)) (fun _ _ => False) := by
  refine gMi_ofH (cc := cL_hide) (maxL := 4) (rt := .int) hl (by decide +kernel) rfl (Nat.le_of_ble_eq_true rfl) ?_
  intro p e s m args below meth c A Q C hnm ht RET
  have C : gC p l s m args meth c A D [(cI, .int), (cJ, .long)] 4 RL cL_hide wsL_hide := C
  refine gV_loc (lvs' := [(0, .ref (h 0)), (1, .int v1), (2, .ref ho)]) [0, 1, 2] rfl ?_
  unfold pf_L_hide at hp
  have J15 : ∀ (s0 : Int64) (s1 : Int32) (hr : Int32) (ov : Nat → Int64), pf_L_hide_j15 s0 s1 hr ov = (some (r0, hr0, ov0)) → gV p l e rm_L_hide s m args below meth c A D 4 Q ((cW h cI cJ lc la hr uP uC uR tn pn pg pq rl sr gcb gpb tg tm tl pm ps) ++ (oW ho cJ ov)) [(0, .ref (h 0)), (2, .ref ho)] 2 12 15 [.long s0, .int s1, .ref ho] := by
    intro s0 s1 hr ov hp
    unfold pf_L_hide_j15 at hp
    obtain ⟨hi15, hp⟩ := g_idx hp
    refine gV_last (ws' := (cW h cI cJ lc la hr uP uC uR tn pn pg pq rl sr gcb gpb tg tm tl pm ps) ++ (oW ho cJ (vp_updL ov s1.toNatClampNeg s0))) C 13 rfl 1 rfl hi15 dL_hide_15 rfl ?_
    refine gV_goto (tgt := 25) C dL_hide_16 (by decide) ?_
    refine gV_iconst (v := 0) C dL_hide_25 rfl ?_
    obtain ⟨rfl, rfl, rfl⟩ := g_so3 hp
    exact RET _ _ _ _ _ _ dL_hide_26 (Nat.le_of_ble_eq_true rfl) (Nat.le_of_ble_eq_true rfl) rfl ⟨rfl, rfl⟩
  refine gV_aload_n C dL_hide_0 rfl 2 rfl ?_
  refine gV_iconst (v := 0) C dL_hide_1 rfl ?_
  refine gV_aload_n C dL_hide_2 rfl 0 rfl ?_
  refine gV_iload_n C dL_hide_3 rfl 1 rfl ?_
  obtain ⟨x4, r4q, hr_4, hq4, hp⟩ := g_ob3 hp
  refine gV_calli C (gsub_co_c _ _ rfl rfl) (gV_runV (As := [.int v1]) (rest := [.int 0, .ref ho]) C (mt_X3_hide hl D h cI cJ lc la hr uP uC uR tn pn pg pq rl sr gcb gpb tg tm tl pm ps v1 x4 r4q hr_4 hq4) (cwV 1 C.2.2.2.2.1 gL_hide_X3_hide rfl rfl rfl hdv_X3_hide ⟨Nat.le_of_ble_eq_true rfl, Nat.le_of_ble_eq_true rfl⟩) (gsub_co_c _ _ rfl rfl) 0 rfl rfl rfl rfl (Nat.le_of_ble_eq_true rfl) dL_hide_4 ⟨Nat.le_of_ble_eq_true rfl, Nat.le_of_ble_eq_true rfl⟩) (fun E w1 hx => ?_) (fun r4 w1 hw => ?_)
  · obtain ⟨hne, rfl, rfl⟩ := hx
    refine gT_sub (ws' := (cW h cI cJ lc la hr_4 uP uC uR tn pn pg pq rl sr gcb gpb tg tm tl pm ps) ++ (oW ho cJ ov)) [1, 2, 3, 4, 5, 6, 7, 8, 9, 10, 11, 12, 13, 0] (by decide) rfl rfl ?_
    replace hp := g_iff hp hne
    by_cases hc1 : x4 = 1
    · replace hp := g_ift hp hc1
      subst hc1
      rw [g_exn1]
      refine gT_catch (E := "java/lang/IndexOutOfBoundsException") C (Or.inr (Or.inl rfl)) [] { startPc := 0, endPc := 16, handlerPc := 19, catchType := 18 } [{ startPc := 0, endPc := 16, handlerPc := 22, catchType := 27 }] (ht.trans rfl) (fun z hz => absurd hz List.not_mem_nil) rfl (by decide) (C.w 1 rfl) (fun q9 => ?_)
      show gV p l e rm_L_hide s m args below meth c A D 4 Q ((cW h cI cJ lc la hr_4 uP uC uR tn pn pg pq rl sr gcb gpb tg tm tl pm ps) ++ (oW ho cJ ov)) [(0, .ref (h 0)), (1, .int v1), (2, .ref ho)] _ _ 19 [.ref q9]
      refine gV_astore_n (lvs' := [(3, .ref q9), (0, .ref (h 0)), (1, .int v1), (2, .ref ho)]) C dL_hide_19 rfl (by decide) rfl ?_
      refine gV_iconst (v := 1) C dL_hide_20 rfl ?_
      obtain ⟨rfl, rfl, rfl⟩ := g_so3 hp
      exact RET _ _ _ _ _ _ dL_hide_21 (Nat.le_of_ble_eq_true rfl) (Nat.le_of_ble_eq_true rfl) rfl ⟨rfl, rfl⟩
    · replace hp := g_iff hp hc1
      by_cases hc2 : x4 = 2
      · replace hp := g_ift hp hc2
        subst hc2
        rw [g_exn2]
        exact g_none hp
      · replace hp := g_iff hp hc2
        rw [g_exn3 hc1 hc2]
        refine gT_catch (E := "java/lang/IllegalStateException") C (Or.inr (Or.inr rfl)) [{ startPc := 0, endPc := 16, handlerPc := 19, catchType := 18 }] { startPc := 0, endPc := 16, handlerPc := 22, catchType := 27 } [] (ht.trans rfl) (List.forall_mem_cons.mpr ⟨Or.inr ⟨by decide, _, C.w 1 rfl, C.2.2.2.2.2.2.2.2.1.2.2.2.1.2.1⟩, fun z hz => absurd hz List.not_mem_nil⟩) rfl (by decide) (C.w 2 rfl) (fun q9 => ?_)
        show gV p l e rm_L_hide s m args below meth c A D 4 Q ((cW h cI cJ lc la hr_4 uP uC uR tn pn pg pq rl sr gcb gpb tg tm tl pm ps) ++ (oW ho cJ ov)) [(0, .ref (h 0)), (1, .int v1), (2, .ref ho)] _ _ 22 [.ref q9]
        refine gV_astore_n (lvs' := [(3, .ref q9), (0, .ref (h 0)), (1, .int v1), (2, .ref ho)]) C dL_hide_22 rfl (by decide) rfl ?_
        refine gV_iconst (v := 2) C dL_hide_23 rfl ?_
        obtain ⟨rfl, rfl, rfl⟩ := g_so3 hp
        exact RET _ _ _ _ _ _ dL_hide_24 (Nat.le_of_ble_eq_true rfl) (Nat.le_of_ble_eq_true rfl) rfl ⟨rfl, rfl⟩
  · obtain ⟨hx0, rfl, rfl⟩ := hw
    replace hp := g_ift hp hx0
    refine gV_sub (ws' := (cW h cI cJ lc la hr_4 uP uC uR tn pn pg pq rl sr gcb gpb tg tm tl pm ps) ++ (oW ho cJ ov)) [1, 2, 3, 4, 5, 6, 7, 8, 9, 10, 11, 12, 13, 0] (by decide) rfl rfl ?_
    refine gV_if_eq (tgt := 14) C dL_hide_7 (by decide) (fun c7 => ?_) (fun c7 => ?_)
    · replace hp := g_ift hp c7
      refine gV_lconst (v := 0) C dL_hide_14 rfl ?_
      refine gV_loc [0, 2] rfl ?_
      exact J15 0 0 hr_4 ov hp
    · replace hp := g_iff hp c7
      refine gV_lconst (v := 1) C dL_hide_10 rfl ?_
      refine gV_goto (tgt := 15) C dL_hide_11 (by decide) ?_
      refine gV_loc [0, 2] rfl ?_
      exact J15 1 0 hr_4 ov hp
def pf_L_guess  (lc : Int32) (la : Int32) (hr : Int32) (uP : Int32) (uR : Int32) (tn : Int32) (rl : Nat → Int32) (gcb : Nat → Int32) (gpb : Nat → Int64) (tg : Nat → Int32) (tm : Nat → Int32) (tl : Nat → Int32) (ov : Nat → Int64) (v1 : Int32) : Option (Int32 × Int32 × Int32 × (Nat → Int32) × (Nat → Int32) × (Nat → Int32) × (Nat → Int32) × (Nat → Int64)) := (ob8 (pf_X3_guess lc la hr uP uR tn rl gcb gpb tg tm tl v1) fun x4 r4 lc_4 tn_4 rl_4 tg_4 tm_4 tl_4 => if x4 = 0 then (gi 0 1 (some (0, lc_4, tn_4, rl_4, tg_4, tm_4, tl_4, (vp_updL ov (0 : Int32).toNatClampNeg r4.toInt64)))) else (if x4 = 1 then (some (1, lc_4, tn_4, rl_4, tg_4, tm_4, tl_4, ov)) else (if x4 = 2 then none else (some (2, lc_4, tn_4, rl_4, tg_4, tm_4, tl_4, ov)))))
abbrev rm_L_guess : Room := { frames := 8, cells := 2, slots := 12, locals := 150 }
theorem hdv_X3_guess : yX3_guess.cls = RX3 ∧ yX3_guess.cls ≠ "java/lang/invoke/MethodHandle" ∧ yX3_guess.cls ≠ "java/lang/invoke/VarHandle" ∧ (parseMethodDescriptor yX3_guess.desc).map (fun d => d.parameters.length) = some 1 := by decide +kernel
set_option maxHeartbeats 4000000 in
set_option maxRecDepth 100000 in
theorem mt_L_guess {l : Launch} (hl : l.stackTraces = false) (D : va_G) (h : Nat → Nat) (ho : Nat) (cI cJ : ClassId) (lc : Int32) (la : Int32) (hr : Int32) (uP : Int32) (uC : Int32) (uR : Int32) (tn : Int32) (pn : Int32) (pg : Int32) (pq : Int32) (rl : Nat → Int32) (sr : Nat → Int32) (gcb : Nat → Int32) (gpb : Nat → Int64) (tg : Nat → Int32) (tm : Nat → Int32) (tl : Nat → Int32) (pm : Nat → Int32) (ps : Nat → Int32) (ov : Nat → Int64) (v1 : Int32) (r0 : Int32) (lc0 : Int32) (tn0 : Int32) (rl0 : Nat → Int32) (tg0 : Nat → Int32) (tm0 : Nat → Int32) (tl0 : Nat → Int32) (ov0 : Nat → Int64) (hp : pf_L_guess lc la hr uP uR tn rl gcb gpb tg tm tl ov v1 = (some (r0, lc0, tn0, rl0, tg0, tm0, tl0, ov0))) : gMi l yL_guess wsL_guess rm_L_guess D [(cI, .int), (cJ, .long)] ((cW h cI cJ lc la hr uP uC uR tn pn pg pq rl sr gcb gpb tg tm tl pm ps) ++ (oW ho cJ ov)) [.ref (h 0), .int v1, .ref ho] 2 12 (fun r w => r = r0 ∧ w = (cW h cI cJ lc0 la hr uP uC uR tn0 pn pg pq rl0 sr gcb gpb tg0 tm0 tl0 pm ps) ++ (oW ho cJ ov0)) (fun _ _ => False) := by
  refine gMi_ofH (cc := cL_guess) (maxL := 4) (rt := .int) hl (by decide +kernel) rfl (Nat.le_of_ble_eq_true rfl) ?_
  intro p e s m args below meth c A Q C hnm ht RET
  have C : gC p l s m args meth c A D [(cI, .int), (cJ, .long)] 4 RL cL_guess wsL_guess := C
  refine gV_loc (lvs' := [(0, .ref (h 0)), (1, .int v1), (2, .ref ho)]) [0, 1, 2] rfl ?_
  unfold pf_L_guess at hp
  refine gV_aload_n C dL_guess_0 rfl 2 rfl ?_
  refine gV_iconst (v := 0) C dL_guess_1 rfl ?_
  refine gV_aload_n C dL_guess_2 rfl 0 rfl ?_
  refine gV_iload_n C dL_guess_3 rfl 1 rfl ?_
  obtain ⟨x4, r4q, lc_4, tn_4, rl_4, tg_4, tm_4, tl_4, hq4, hp⟩ := g_ob8 hp
  refine gV_calli C (gsub_co_c _ _ rfl rfl) (gV_runV (As := [.int v1]) (rest := [.int 0, .ref ho]) C (mt_X3_guess hl D h cI cJ lc la hr uP uC uR tn pn pg pq rl sr gcb gpb tg tm tl pm ps v1 x4 r4q lc_4 tn_4 rl_4 tg_4 tm_4 tl_4 hq4) (cwV 1 C.2.2.2.2.1 gL_guess_X3_guess rfl rfl rfl hdv_X3_guess ⟨Nat.le_of_ble_eq_true rfl, Nat.le_of_ble_eq_true rfl⟩) (gsub_co_c _ _ rfl rfl) 0 rfl rfl rfl rfl (Nat.le_of_ble_eq_true rfl) dL_guess_4 ⟨Nat.le_of_ble_eq_true rfl, Nat.le_of_ble_eq_true rfl⟩) (fun E w1 hx => ?_) (fun r4 w1 hw => ?_)
  · obtain ⟨hne, rfl, rfl⟩ := hx
    refine gT_sub (ws' := (cW h cI cJ lc_4 la hr uP uC uR tn_4 pn pg pq rl_4 sr gcb gpb tg_4 tm_4 tl_4 pm ps) ++ (oW ho cJ ov)) [1, 2, 3, 4, 5, 6, 7, 8, 9, 10, 11, 12, 13, 0] (by decide) rfl rfl ?_
    replace hp := g_iff hp hne
    by_cases hc1 : x4 = 1
    · replace hp := g_ift hp hc1
      subst hc1
      rw [g_exn1]
      refine gT_catch (E := "java/lang/IndexOutOfBoundsException") C (Or.inr (Or.inl rfl)) [] { startPc := 0, endPc := 9, handlerPc := 12, catchType := 18 } [{ startPc := 0, endPc := 9, handlerPc := 15, catchType := 27 }] (ht.trans rfl) (fun z hz => absurd hz List.not_mem_nil) rfl (by decide) (C.w 1 rfl) (fun q9 => ?_)
      show gV p l e rm_L_guess s m args below meth c A D 4 Q ((cW h cI cJ lc_4 la hr uP uC uR tn_4 pn pg pq rl_4 sr gcb gpb tg_4 tm_4 tl_4 pm ps) ++ (oW ho cJ ov)) [(0, .ref (h 0)), (1, .int v1), (2, .ref ho)] _ _ 12 [.ref q9]
      refine gV_astore_n (lvs' := [(3, .ref q9), (0, .ref (h 0)), (1, .int v1), (2, .ref ho)]) C dL_guess_12 rfl (by decide) rfl ?_
      refine gV_iconst (v := 1) C dL_guess_13 rfl ?_
      obtain ⟨rfl, rfl, rfl, rfl, rfl, rfl, rfl, rfl⟩ := g_so8 hp
      exact RET _ _ _ _ _ _ dL_guess_14 (Nat.le_of_ble_eq_true rfl) (Nat.le_of_ble_eq_true rfl) rfl ⟨rfl, rfl⟩
    · replace hp := g_iff hp hc1
      by_cases hc2 : x4 = 2
      · replace hp := g_ift hp hc2
        subst hc2
        rw [g_exn2]
        exact g_none hp
      · replace hp := g_iff hp hc2
        rw [g_exn3 hc1 hc2]
        refine gT_catch (E := "java/lang/IllegalStateException") C (Or.inr (Or.inr rfl)) [{ startPc := 0, endPc := 9, handlerPc := 12, catchType := 18 }] { startPc := 0, endPc := 9, handlerPc := 15, catchType := 27 } [] (ht.trans rfl) (List.forall_mem_cons.mpr ⟨Or.inr ⟨by decide, _, C.w 1 rfl, C.2.2.2.2.2.2.2.2.1.2.2.2.1.2.1⟩, fun z hz => absurd hz List.not_mem_nil⟩) rfl (by decide) (C.w 2 rfl) (fun q9 => ?_)
        show gV p l e rm_L_guess s m args below meth c A D 4 Q ((cW h cI cJ lc_4 la hr uP uC uR tn_4 pn pg pq rl_4 sr gcb gpb tg_4 tm_4 tl_4 pm ps) ++ (oW ho cJ ov)) [(0, .ref (h 0)), (1, .int v1), (2, .ref ho)] _ _ 15 [.ref q9]
        refine gV_astore_n (lvs' := [(3, .ref q9), (0, .ref (h 0)), (1, .int v1), (2, .ref ho)]) C dL_guess_15 rfl (by decide) rfl ?_
        refine gV_iconst (v := 2) C dL_guess_16 rfl ?_
        obtain ⟨rfl, rfl, rfl, rfl, rfl, rfl, rfl, rfl⟩ := g_so8 hp
        exact RET _ _ _ _ _ _ dL_guess_17 (Nat.le_of_ble_eq_true rfl) (Nat.le_of_ble_eq_true rfl) rfl ⟨rfl, rfl⟩
  · obtain ⟨hx0, rfl, rfl⟩ := hw
    replace hp := g_ift hp hx0
    refine gV_sub (ws' := (cW h cI cJ lc_4 la hr uP uC uR tn_4 pn pg pq rl_4 sr gcb gpb tg_4 tm_4 tl_4 pm ps) ++ (oW ho cJ ov)) [1, 2, 3, 4, 5, 6, 7, 8, 9, 10, 11, 12, 13, 0] (by decide) rfl rfl ?_
    refine gV_i2l C dL_guess_7 ?_
    obtain ⟨hi8, hp⟩ := g_idx hp
    refine gV_last (ws' := (cW h cI cJ lc_4 la hr uP uC uR tn_4 pn pg pq rl_4 sr gcb gpb tg_4 tm_4 tl_4 pm ps) ++ (oW ho cJ (vp_updL ov (0 : Int32).toNatClampNeg r4.toInt64))) C 13 rfl 1 rfl hi8 dL_guess_8 rfl ?_
    refine gV_goto (tgt := 18) C dL_guess_9 (by decide) ?_
    refine gV_iconst (v := 0) C dL_guess_18 rfl ?_
    obtain ⟨rfl, rfl, rfl, rfl, rfl, rfl, rfl, rfl⟩ := g_so8 hp
    exact RET _ _ _ _ _ _ dL_guess_19 (Nat.le_of_ble_eq_true rfl) (Nat.le_of_ble_eq_true rfl) rfl ⟨rfl, rfl⟩
def pf_L_tell  (lc : Int32) (la : Int32) (hr : Int32) (uP : Int32) (uR : Int32) (tn : Int32) (rl : Nat → Int32) (gcb : Nat → Int32) (gpb : Nat → Int64) (tg : Nat → Int32) (tm : Nat → Int32) (tl : Nat → Int32) (ov : Nat → Int64) (v1 : Int32) (v2 : Int32) : Option (Int32 × Int32 × Int32 × (Nat → Int32) × (Nat → Int32) × (Nat → Int32) × (Nat → Int32) × (Nat → Int64)) := (ob8 (pf_X3_tell lc la hr uP uR tn rl gcb gpb tg tm tl v1 v2) fun x5 r5 lc_5 tn_5 rl_5 tg_5 tm_5 tl_5 => if x5 = 0 then (gi 0 1 (some (0, lc_5, tn_5, rl_5, tg_5, tm_5, tl_5, (vp_updL ov (0 : Int32).toNatClampNeg r5.toInt64)))) else (if x5 = 1 then (some (1, lc_5, tn_5, rl_5, tg_5, tm_5, tl_5, ov)) else (if x5 = 2 then (some (2, lc_5, tn_5, rl_5, tg_5, tm_5, tl_5, ov)) else (some (3, lc_5, tn_5, rl_5, tg_5, tm_5, tl_5, ov)))))
abbrev rm_L_tell : Room := { frames := 8, cells := 3, slots := 18, locals := 150 }
theorem hdv_X3_tell : yX3_tell.cls = RX3 ∧ yX3_tell.cls ≠ "java/lang/invoke/MethodHandle" ∧ yX3_tell.cls ≠ "java/lang/invoke/VarHandle" ∧ (parseMethodDescriptor yX3_tell.desc).map (fun d => d.parameters.length) = some 2 := by decide +kernel
set_option maxHeartbeats 4000000 in
set_option maxRecDepth 100000 in
theorem mt_L_tell {l : Launch} (hl : l.stackTraces = false) (D : va_G) (h : Nat → Nat) (ho : Nat) (cI cJ : ClassId) (lc : Int32) (la : Int32) (hr : Int32) (uP : Int32) (uC : Int32) (uR : Int32) (tn : Int32) (pn : Int32) (pg : Int32) (pq : Int32) (rl : Nat → Int32) (sr : Nat → Int32) (gcb : Nat → Int32) (gpb : Nat → Int64) (tg : Nat → Int32) (tm : Nat → Int32) (tl : Nat → Int32) (pm : Nat → Int32) (ps : Nat → Int32) (ov : Nat → Int64) (v1 : Int32) (v2 : Int32) (r0 : Int32) (lc0 : Int32) (tn0 : Int32) (rl0 : Nat → Int32) (tg0 : Nat → Int32) (tm0 : Nat → Int32) (tl0 : Nat → Int32) (ov0 : Nat → Int64) (hp : pf_L_tell lc la hr uP uR tn rl gcb gpb tg tm tl ov v1 v2 = (some (r0, lc0, tn0, rl0, tg0, tm0, tl0, ov0))) : gMi l yL_tell wsL_tell rm_L_tell D [(cI, .int), (cJ, .long)] ((cW h cI cJ lc la hr uP uC uR tn pn pg pq rl sr gcb gpb tg tm tl pm ps) ++ (oW ho cJ ov)) [.ref (h 0), .int v1, .int v2, .ref ho] 3 18 (fun r w => r = r0 ∧ w = (cW h cI cJ lc0 la hr uP uC uR tn0 pn pg pq rl0 sr gcb gpb tg0 tm0 tl0 pm ps) ++ (oW ho cJ ov0)) (fun _ _ => False) := by
  refine gMi_ofH (cc := cL_tell) (maxL := 5) (rt := .int) hl (by decide +kernel) rfl (Nat.le_of_ble_eq_true rfl) ?_
  intro p e s m args below meth c A Q C hnm ht RET
  have C : gC p l s m args meth c A D [(cI, .int), (cJ, .long)] 5 RL cL_tell wsL_tell := C
  refine gV_loc (lvs' := [(0, .ref (h 0)), (1, .int v1), (2, .int v2), (3, .ref ho)]) [0, 1, 2, 3] rfl ?_
  unfold pf_L_tell at hp
  refine gV_aload_n C dL_tell_0 rfl 3 rfl ?_
  refine gV_iconst (v := 0) C dL_tell_1 rfl ?_
  refine gV_aload_n C dL_tell_2 rfl 0 rfl ?_
  refine gV_iload_n C dL_tell_3 rfl 1 rfl ?_
  refine gV_iload_n C dL_tell_4 rfl 2 rfl ?_
  obtain ⟨x5, r5q, lc_5, tn_5, rl_5, tg_5, tm_5, tl_5, hq5, hp⟩ := g_ob8 hp
  refine gV_calli C (gsub_co_c _ _ rfl rfl) (gV_runV (As := [.int v1, .int v2]) (rest := [.int 0, .ref ho]) C (mt_X3_tell hl D h cI cJ lc la hr uP uC uR tn pn pg pq rl sr gcb gpb tg tm tl pm ps v1 v2 x5 r5q lc_5 tn_5 rl_5 tg_5 tm_5 tl_5 hq5) (cwV 2 C.2.2.2.2.1 gL_tell_X3_tell rfl rfl rfl hdv_X3_tell ⟨Nat.le_of_ble_eq_true rfl, Nat.le_of_ble_eq_true rfl⟩) (gsub_co_c _ _ rfl rfl) 0 rfl rfl rfl rfl (Nat.le_of_ble_eq_true rfl) dL_tell_5 ⟨Nat.le_of_ble_eq_true rfl, Nat.le_of_ble_eq_true rfl⟩) (fun E w1 hx => ?_) (fun r5 w1 hw => ?_)
  · obtain ⟨hne, rfl, rfl⟩ := hx
    refine gT_sub (ws' := (cW h cI cJ lc_5 la hr uP uC uR tn_5 pn pg pq rl_5 sr gcb gpb tg_5 tm_5 tl_5 pm ps) ++ (oW ho cJ ov)) [1, 2, 3, 4, 5, 6, 7, 8, 9, 10, 11, 12, 13, 0] (by decide) rfl rfl ?_
    replace hp := g_iff hp hne
    by_cases hc1 : x5 = 1
    · replace hp := g_ift hp hc1
      subst hc1
      rw [g_exn1]
      refine gT_catch (E := "java/lang/IndexOutOfBoundsException") C (Or.inr (Or.inl rfl)) [] { startPc := 0, endPc := 10, handlerPc := 13, catchType := 18 } [{ startPc := 0, endPc := 10, handlerPc := 17, catchType := 13 }, { startPc := 0, endPc := 10, handlerPc := 21, catchType := 27 }] (ht.trans rfl) (fun z hz => absurd hz List.not_mem_nil) rfl (by decide) (C.w 1 rfl) (fun q9 => ?_)
      show gV p l e rm_L_tell s m args below meth c A D 5 Q ((cW h cI cJ lc_5 la hr uP uC uR tn_5 pn pg pq rl_5 sr gcb gpb tg_5 tm_5 tl_5 pm ps) ++ (oW ho cJ ov)) [(0, .ref (h 0)), (1, .int v1), (2, .int v2), (3, .ref ho)] _ _ 13 [.ref q9]
      refine gV_astore (lvs' := [(4, .ref q9), (0, .ref (h 0)), (1, .int v1), (2, .int v2), (3, .ref ho)]) C dL_tell_13 (by decide) rfl ?_
      refine gV_iconst (v := 1) C dL_tell_15 rfl ?_
      obtain ⟨rfl, rfl, rfl, rfl, rfl, rfl, rfl, rfl⟩ := g_so8 hp
      exact RET _ _ _ _ _ _ dL_tell_16 (Nat.le_of_ble_eq_true rfl) (Nat.le_of_ble_eq_true rfl) rfl ⟨rfl, rfl⟩
    · replace hp := g_iff hp hc1
      by_cases hc2 : x5 = 2
      · replace hp := g_ift hp hc2
        subst hc2
        rw [g_exn2]
        refine gT_catch (E := "java/lang/IllegalArgumentException") C (Or.inl rfl) [{ startPc := 0, endPc := 10, handlerPc := 13, catchType := 18 }] { startPc := 0, endPc := 10, handlerPc := 17, catchType := 13 } [{ startPc := 0, endPc := 10, handlerPc := 21, catchType := 27 }] (ht.trans rfl) (List.forall_mem_cons.mpr ⟨Or.inr ⟨by decide, _, C.w 1 rfl, C.2.2.2.2.2.2.2.2.1.2.2.2.1.1⟩, fun z hz => absurd hz List.not_mem_nil⟩) rfl (by decide) (C.w 2 rfl) (fun q9 => ?_)
        show gV p l e rm_L_tell s m args below meth c A D 5 Q ((cW h cI cJ lc_5 la hr uP uC uR tn_5 pn pg pq rl_5 sr gcb gpb tg_5 tm_5 tl_5 pm ps) ++ (oW ho cJ ov)) [(0, .ref (h 0)), (1, .int v1), (2, .int v2), (3, .ref ho)] _ _ 17 [.ref q9]
        refine gV_astore (lvs' := [(4, .ref q9), (0, .ref (h 0)), (1, .int v1), (2, .int v2), (3, .ref ho)]) C dL_tell_17 (by decide) rfl ?_
        refine gV_iconst (v := 2) C dL_tell_19 rfl ?_
        obtain ⟨rfl, rfl, rfl, rfl, rfl, rfl, rfl, rfl⟩ := g_so8 hp
        exact RET _ _ _ _ _ _ dL_tell_20 (Nat.le_of_ble_eq_true rfl) (Nat.le_of_ble_eq_true rfl) rfl ⟨rfl, rfl⟩
      · replace hp := g_iff hp hc2
        rw [g_exn3 hc1 hc2]
        refine gT_catch (E := "java/lang/IllegalStateException") C (Or.inr (Or.inr rfl)) [{ startPc := 0, endPc := 10, handlerPc := 13, catchType := 18 }, { startPc := 0, endPc := 10, handlerPc := 17, catchType := 13 }] { startPc := 0, endPc := 10, handlerPc := 21, catchType := 27 } [] (ht.trans rfl) (List.forall_mem_cons.mpr ⟨Or.inr ⟨by decide, _, C.w 1 rfl, C.2.2.2.2.2.2.2.2.1.2.2.2.1.2.1⟩, List.forall_mem_cons.mpr ⟨Or.inr ⟨by decide, _, C.w 2 rfl, C.2.2.2.2.2.2.2.2.1.2.2.2.1.2.2⟩, fun z hz => absurd hz List.not_mem_nil⟩⟩) rfl (by decide) (C.w 3 rfl) (fun q9 => ?_)
        show gV p l e rm_L_tell s m args below meth c A D 5 Q ((cW h cI cJ lc_5 la hr uP uC uR tn_5 pn pg pq rl_5 sr gcb gpb tg_5 tm_5 tl_5 pm ps) ++ (oW ho cJ ov)) [(0, .ref (h 0)), (1, .int v1), (2, .int v2), (3, .ref ho)] _ _ 21 [.ref q9]
        refine gV_astore (lvs' := [(4, .ref q9), (0, .ref (h 0)), (1, .int v1), (2, .int v2), (3, .ref ho)]) C dL_tell_21 (by decide) rfl ?_
        refine gV_iconst (v := 3) C dL_tell_23 rfl ?_
        obtain ⟨rfl, rfl, rfl, rfl, rfl, rfl, rfl, rfl⟩ := g_so8 hp
        exact RET _ _ _ _ _ _ dL_tell_24 (Nat.le_of_ble_eq_true rfl) (Nat.le_of_ble_eq_true rfl) rfl ⟨rfl, rfl⟩
  · obtain ⟨hx0, rfl, rfl⟩ := hw
    replace hp := g_ift hp hx0
    refine gV_sub (ws' := (cW h cI cJ lc_5 la hr uP uC uR tn_5 pn pg pq rl_5 sr gcb gpb tg_5 tm_5 tl_5 pm ps) ++ (oW ho cJ ov)) [1, 2, 3, 4, 5, 6, 7, 8, 9, 10, 11, 12, 13, 0] (by decide) rfl rfl ?_
    refine gV_i2l C dL_tell_8 ?_
    obtain ⟨hi9, hp⟩ := g_idx hp
    refine gV_last (ws' := (cW h cI cJ lc_5 la hr uP uC uR tn_5 pn pg pq rl_5 sr gcb gpb tg_5 tm_5 tl_5 pm ps) ++ (oW ho cJ (vp_updL ov (0 : Int32).toNatClampNeg r5.toInt64))) C 13 rfl 1 rfl hi9 dL_tell_9 rfl ?_
    refine gV_goto (tgt := 25) C dL_tell_10 (by decide) ?_
    refine gV_iconst (v := 0) C dL_tell_25 rfl ?_
    obtain ⟨rfl, rfl, rfl, rfl, rfl, rfl, rfl, rfl⟩ := g_so8 hp
    exact RET _ _ _ _ _ _ dL_tell_26 (Nat.le_of_ble_eq_true rfl) (Nat.le_of_ble_eq_true rfl) rfl ⟨rfl, rfl⟩
def pf_L_takeBack  (lc : Int32) (la : Int32) (uR : Int32) (tn : Int32) (rl : Nat → Int32) (tl : Nat → Int32) (ov : Nat → Int64)  : Option (Int32 × Int32 × Int32 × (Nat → Int32) × (Nat → Int32) × (Nat → Int64)) := (ob6 (pf_X3_takeBack lc la uR tn rl tl) fun x3 r3 lc_3 tn_3 rl_3 tl_3 => if x3 = 0 then (gi 0 1 (some (0, lc_3, tn_3, rl_3, tl_3, (vp_updL ov (0 : Int32).toNatClampNeg r3.toInt64)))) else (if x3 = 1 then none else (if x3 = 2 then none else (some (1, lc_3, tn_3, rl_3, tl_3, ov)))))
abbrev rm_L_takeBack : Room := { frames := 7, cells := 1, slots := 6, locals := 126 }
theorem hdv_X3_takeBack : yX3_takeBack.cls = RX3 ∧ yX3_takeBack.cls ≠ "java/lang/invoke/MethodHandle" ∧ yX3_takeBack.cls ≠ "java/lang/invoke/VarHandle" ∧ (parseMethodDescriptor yX3_takeBack.desc).map (fun d => d.parameters.length) = some 0 := by decide +kernel
set_option maxHeartbeats 4000000 in
set_option maxRecDepth 100000 in
theorem mt_L_takeBack {l : Launch} (hl : l.stackTraces = false) (D : va_G) (h : Nat → Nat) (ho : Nat) (cI cJ : ClassId) (lc : Int32) (la : Int32) (hr : Int32) (uP : Int32) (uC : Int32) (uR : Int32) (tn : Int32) (pn : Int32) (pg : Int32) (pq : Int32) (rl : Nat → Int32) (sr : Nat → Int32) (gcb : Nat → Int32) (gpb : Nat → Int64) (tg : Nat → Int32) (tm : Nat → Int32) (tl : Nat → Int32) (pm : Nat → Int32) (ps : Nat → Int32) (ov : Nat → Int64)  (r0 : Int32) (lc0 : Int32) (tn0 : Int32) (rl0 : Nat → Int32) (tl0 : Nat → Int32) (ov0 : Nat → Int64) (hp : pf_L_takeBack lc la uR tn rl tl ov = (some (r0, lc0, tn0, rl0, tl0, ov0))) : gMi l yL_takeBack wsL_takeBack rm_L_takeBack D [(cI, .int), (cJ, .long)] ((cW h cI cJ lc la hr uP uC uR tn pn pg pq rl sr gcb gpb tg tm tl pm ps) ++ (oW ho cJ ov)) [.ref (h 0), .ref ho] 1 6 (fun r w => r = r0 ∧ w = (cW h cI cJ lc0 la hr uP uC uR tn0 pn pg pq rl0 sr gcb gpb tg tm tl0 pm ps) ++ (oW ho cJ ov0)) (fun _ _ => False) := by
  refine gMi_ofH (cc := cL_takeBack) (maxL := 3) (rt := .int) hl (by decide +kernel) rfl (Nat.le_of_ble_eq_true rfl) ?_
  intro p e s m args below meth c A Q C hnm ht RET
  have C : gC p l s m args meth c A D [(cI, .int), (cJ, .long)] 3 RL cL_takeBack wsL_takeBack := C
  refine gV_loc (lvs' := [(0, .ref (h 0)), (1, .ref ho)]) [0, 1] rfl ?_
  unfold pf_L_takeBack at hp
  refine gV_aload_n C dL_takeBack_0 rfl 1 rfl ?_
  refine gV_iconst (v := 0) C dL_takeBack_1 rfl ?_
  refine gV_aload_n C dL_takeBack_2 rfl 0 rfl ?_
  obtain ⟨x3, r3q, lc_3, tn_3, rl_3, tl_3, hq3, hp⟩ := g_ob6 hp
  refine gV_calli C (gsub_co_c _ _ rfl rfl) (gV_runV (As := []) (rest := [.int 0, .ref ho]) C (mt_X3_takeBack hl D h cI cJ lc la hr uP uC uR tn pn pg pq rl sr gcb gpb tg tm tl pm ps x3 r3q lc_3 tn_3 rl_3 tl_3 hq3) (cwV 0 C.2.2.2.2.1 gL_takeBack_X3_takeBack rfl rfl rfl hdv_X3_takeBack ⟨Nat.le_of_ble_eq_true rfl, Nat.le_of_ble_eq_true rfl⟩) (gsub_co_c _ _ rfl rfl) 0 rfl rfl rfl rfl (Nat.le_of_ble_eq_true rfl) dL_takeBack_3 ⟨Nat.le_of_ble_eq_true rfl, Nat.le_of_ble_eq_true rfl⟩) (fun E w1 hx => ?_) (fun r3 w1 hw => ?_)
  · obtain ⟨hne, rfl, rfl⟩ := hx
    refine gT_sub (ws' := (cW h cI cJ lc_3 la hr uP uC uR tn_3 pn pg pq rl_3 sr gcb gpb tg tm tl_3 pm ps) ++ (oW ho cJ ov)) [1, 2, 3, 4, 5, 6, 7, 8, 9, 10, 11, 12, 13, 0] (by decide) rfl rfl ?_
    replace hp := g_iff hp hne
    by_cases hc1 : x3 = 1
    · replace hp := g_ift hp hc1
      subst hc1
      rw [g_exn1]
      exact g_none hp
    · replace hp := g_iff hp hc1
      by_cases hc2 : x3 = 2
      · replace hp := g_ift hp hc2
        subst hc2
        rw [g_exn2]
        exact g_none hp
      · replace hp := g_iff hp hc2
        rw [g_exn3 hc1 hc2]
        refine gT_catch (E := "java/lang/IllegalStateException") C (Or.inr (Or.inr rfl)) [] { startPc := 0, endPc := 8, handlerPc := 11, catchType := 27 } [] (ht.trans rfl) (fun z hz => absurd hz List.not_mem_nil) rfl (by decide) (C.w 1 rfl) (fun q9 => ?_)
        show gV p l e rm_L_takeBack s m args below meth c A D 3 Q ((cW h cI cJ lc_3 la hr uP uC uR tn_3 pn pg pq rl_3 sr gcb gpb tg tm tl_3 pm ps) ++ (oW ho cJ ov)) [(0, .ref (h 0)), (1, .ref ho)] _ _ 11 [.ref q9]
        refine gV_astore_n (lvs' := [(2, .ref q9), (0, .ref (h 0)), (1, .ref ho)]) C dL_takeBack_11 rfl (by decide) rfl ?_
        refine gV_iconst (v := 1) C dL_takeBack_12 rfl ?_
        obtain ⟨rfl, rfl, rfl, rfl, rfl, rfl⟩ := g_so6 hp
        exact RET _ _ _ _ _ _ dL_takeBack_13 (Nat.le_of_ble_eq_true rfl) (Nat.le_of_ble_eq_true rfl) rfl ⟨rfl, rfl⟩
  · obtain ⟨hx0, rfl, rfl⟩ := hw
    replace hp := g_ift hp hx0
    refine gV_sub (ws' := (cW h cI cJ lc_3 la hr uP uC uR tn_3 pn pg pq rl_3 sr gcb gpb tg tm tl_3 pm ps) ++ (oW ho cJ ov)) [1, 2, 3, 4, 5, 6, 7, 8, 9, 10, 11, 12, 13, 0] (by decide) rfl rfl ?_
    refine gV_i2l C dL_takeBack_6 ?_
    obtain ⟨hi7, hp⟩ := g_idx hp
    refine gV_last (ws' := (cW h cI cJ lc_3 la hr uP uC uR tn_3 pn pg pq rl_3 sr gcb gpb tg tm tl_3 pm ps) ++ (oW ho cJ (vp_updL ov (0 : Int32).toNatClampNeg r3.toInt64))) C 13 rfl 1 rfl hi7 dL_takeBack_7 rfl ?_
    refine gV_goto (tgt := 14) C dL_takeBack_8 (by decide) ?_
    refine gV_iconst (v := 0) C dL_takeBack_14 rfl ?_
    obtain ⟨rfl, rfl, rfl, rfl, rfl, rfl⟩ := g_so6 hp
    exact RET _ _ _ _ _ _ dL_takeBack_15 (Nat.le_of_ble_eq_true rfl) (Nat.le_of_ble_eq_true rfl) rfl ⟨rfl, rfl⟩
def pf_L_guessOf  (tn : Int32) (tg : Nat → Int32) (ov : Nat → Int64) (v1 : Int32) : Option (Int32 × (Nat → Int64)) := (ob2 (pf_X3_guessOf tn tg v1) fun x4 r4 => if x4 = 0 then (gi 0 1 (some (0, (vp_updL ov (0 : Int32).toNatClampNeg r4.toInt64)))) else (if x4 = 1 then (some (1, ov)) else (if x4 = 2 then none else none)))
abbrev rm_L_guessOf : Room := { frames := 8, cells := 1, slots := 6, locals := 124 }
theorem hdv_X3_guessOf : yX3_guessOf.cls = RX3 ∧ yX3_guessOf.cls ≠ "java/lang/invoke/MethodHandle" ∧ yX3_guessOf.cls ≠ "java/lang/invoke/VarHandle" ∧ (parseMethodDescriptor yX3_guessOf.desc).map (fun d => d.parameters.length) = some 1 := by decide +kernel
set_option maxHeartbeats 4000000 in
set_option maxRecDepth 100000 in
theorem mt_L_guessOf {l : Launch} (hl : l.stackTraces = false) (D : va_G) (h : Nat → Nat) (ho : Nat) (cI cJ : ClassId) (lc : Int32) (la : Int32) (hr : Int32) (uP : Int32) (uC : Int32) (uR : Int32) (tn : Int32) (pn : Int32) (pg : Int32) (pq : Int32) (rl : Nat → Int32) (sr : Nat → Int32) (gcb : Nat → Int32) (gpb : Nat → Int64) (tg : Nat → Int32) (tm : Nat → Int32) (tl : Nat → Int32) (pm : Nat → Int32) (ps : Nat → Int32) (ov : Nat → Int64) (v1 : Int32) (r0 : Int32) (ov0 : Nat → Int64) (hp : pf_L_guessOf tn tg ov v1 = (some (r0, ov0))) : gMi l yL_guessOf wsL_guessOf rm_L_guessOf D [(cI, .int), (cJ, .long)] ((cW h cI cJ lc la hr uP uC uR tn pn pg pq rl sr gcb gpb tg tm tl pm ps) ++ (oW ho cJ ov)) [.ref (h 0), .int v1, .ref ho] 1 6 (fun r w => r = r0 ∧ w = (cW h cI cJ lc la hr uP uC uR tn pn pg pq rl sr gcb gpb tg tm tl pm ps) ++ (oW ho cJ ov0)) (fun _ _ => False) := by
  refine gMi_ofH (cc := cL_guessOf) (maxL := 4) (rt := .int) hl (by decide +kernel) rfl (Nat.le_of_ble_eq_true rfl) ?_
  intro p e s m args below meth c A Q C hnm ht RET
  have C : gC p l s m args meth c A D [(cI, .int), (cJ, .long)] 4 RL cL_guessOf wsL_guessOf := C
  refine gV_loc (lvs' := [(0, .ref (h 0)), (1, .int v1), (2, .ref ho)]) [0, 1, 2] rfl ?_
  unfold pf_L_guessOf at hp
  refine gV_aload_n C dL_guessOf_0 rfl 2 rfl ?_
  refine gV_iconst (v := 0) C dL_guessOf_1 rfl ?_
  refine gV_aload_n C dL_guessOf_2 rfl 0 rfl ?_
  refine gV_iload_n C dL_guessOf_3 rfl 1 rfl ?_
  obtain ⟨x4, r4q, hq4, hp⟩ := g_ob2 hp
  refine gV_calli C (gsub_co_c _ _ rfl rfl) (gV_runV (As := [.int v1]) (rest := [.int 0, .ref ho]) C (mt_X3_guessOf hl D h cI cJ lc la hr uP uC uR tn pn pg pq rl sr gcb gpb tg tm tl pm ps v1 x4 r4q hq4) (cwV 1 C.2.2.2.2.1 gL_guessOf_X3_guessOf rfl rfl rfl hdv_X3_guessOf ⟨Nat.le_of_ble_eq_true rfl, Nat.le_of_ble_eq_true rfl⟩) (gsub_co_c _ _ rfl rfl) 0 rfl rfl rfl rfl (Nat.le_of_ble_eq_true rfl) dL_guessOf_4 ⟨Nat.le_of_ble_eq_true rfl, Nat.le_of_ble_eq_true rfl⟩) (fun E w1 hx => ?_) (fun r4 w1 hw => ?_)
  · obtain ⟨hne, rfl, rfl⟩ := hx
    refine gT_sub (ws' := (cW h cI cJ lc la hr uP uC uR tn pn pg pq rl sr gcb gpb tg tm tl pm ps) ++ (oW ho cJ ov)) [1, 2, 3, 4, 5, 6, 7, 8, 9, 10, 11, 12, 13, 0] (by decide) rfl rfl ?_
    replace hp := g_iff hp hne
    by_cases hc1 : x4 = 1
    · replace hp := g_ift hp hc1
      subst hc1
      rw [g_exn1]
      refine gT_catch (E := "java/lang/IndexOutOfBoundsException") C (Or.inr (Or.inl rfl)) [] { startPc := 0, endPc := 9, handlerPc := 12, catchType := 18 } [] (ht.trans rfl) (fun z hz => absurd hz List.not_mem_nil) rfl (by decide) (C.w 1 rfl) (fun q9 => ?_)
      show gV p l e rm_L_guessOf s m args below meth c A D 4 Q ((cW h cI cJ lc la hr uP uC uR tn pn pg pq rl sr gcb gpb tg tm tl pm ps) ++ (oW ho cJ ov)) [(0, .ref (h 0)), (1, .int v1), (2, .ref ho)] _ _ 12 [.ref q9]
      refine gV_astore_n (lvs' := [(3, .ref q9), (0, .ref (h 0)), (1, .int v1), (2, .ref ho)]) C dL_guessOf_12 rfl (by decide) rfl ?_
      refine gV_iconst (v := 1) C dL_guessOf_13 rfl ?_
      obtain ⟨rfl, rfl⟩ := g_so2 hp
      exact RET _ _ _ _ _ _ dL_guessOf_14 (Nat.le_of_ble_eq_true rfl) (Nat.le_of_ble_eq_true rfl) rfl ⟨rfl, rfl⟩
    · replace hp := g_iff hp hc1
      by_cases hc2 : x4 = 2
      · replace hp := g_ift hp hc2
        subst hc2
        rw [g_exn2]
        exact g_none hp
      · replace hp := g_iff hp hc2
        rw [g_exn3 hc1 hc2]
        exact g_none hp
  · obtain ⟨hx0, rfl, rfl⟩ := hw
    replace hp := g_ift hp hx0
    refine gV_sub (ws' := (cW h cI cJ lc la hr uP uC uR tn pn pg pq rl sr gcb gpb tg tm tl pm ps) ++ (oW ho cJ ov)) [1, 2, 3, 4, 5, 6, 7, 8, 9, 10, 11, 12, 13, 0] (by decide) rfl rfl ?_
    refine gV_i2l C dL_guessOf_7 ?_
    obtain ⟨hi8, hp⟩ := g_idx hp
    refine gV_last (ws' := (cW h cI cJ lc la hr uP uC uR tn pn pg pq rl sr gcb gpb tg tm tl pm ps) ++ (oW ho cJ (vp_updL ov (0 : Int32).toNatClampNeg r4.toInt64))) C 13 rfl 1 rfl hi8 dL_guessOf_8 rfl ?_
    refine gV_goto (tgt := 15) C dL_guessOf_9 (by decide) ?_
    refine gV_iconst (v := 0) C dL_guessOf_15 rfl ?_
    obtain ⟨rfl, rfl⟩ := g_so2 hp
    exact RET _ _ _ _ _ _ dL_guessOf_16 (Nat.le_of_ble_eq_true rfl) (Nat.le_of_ble_eq_true rfl) rfl ⟨rfl, rfl⟩
def pf_L_markOf  (tn : Int32) (tm : Nat → Int32) (ov : Nat → Int64) (v1 : Int32) : Option (Int32 × (Nat → Int64)) := (ob2 (pf_X3_markOf tn tm v1) fun x4 r4 => if x4 = 0 then (gi 0 1 (some (0, (vp_updL ov (0 : Int32).toNatClampNeg r4.toInt64)))) else (if x4 = 1 then (some (1, ov)) else (if x4 = 2 then none else none)))
abbrev rm_L_markOf : Room := { frames := 8, cells := 1, slots := 6, locals := 124 }
theorem hdv_X3_markOf : yX3_markOf.cls = RX3 ∧ yX3_markOf.cls ≠ "java/lang/invoke/MethodHandle" ∧ yX3_markOf.cls ≠ "java/lang/invoke/VarHandle" ∧ (parseMethodDescriptor yX3_markOf.desc).map (fun d => d.parameters.length) = some 1 := by decide +kernel
set_option maxHeartbeats 4000000 in
set_option maxRecDepth 100000 in
theorem mt_L_markOf {l : Launch} (hl : l.stackTraces = false) (D : va_G) (h : Nat → Nat) (ho : Nat) (cI cJ : ClassId) (lc : Int32) (la : Int32) (hr : Int32) (uP : Int32) (uC : Int32) (uR : Int32) (tn : Int32) (pn : Int32) (pg : Int32) (pq : Int32) (rl : Nat → Int32) (sr : Nat → Int32) (gcb : Nat → Int32) (gpb : Nat → Int64) (tg : Nat → Int32) (tm : Nat → Int32) (tl : Nat → Int32) (pm : Nat → Int32) (ps : Nat → Int32) (ov : Nat → Int64) (v1 : Int32) (r0 : Int32) (ov0 : Nat → Int64) (hp : pf_L_markOf tn tm ov v1 = (some (r0, ov0))) : gMi l yL_markOf wsL_markOf rm_L_markOf D [(cI, .int), (cJ, .long)] ((cW h cI cJ lc la hr uP uC uR tn pn pg pq rl sr gcb gpb tg tm tl pm ps) ++ (oW ho cJ ov)) [.ref (h 0), .int v1, .ref ho] 1 6 (fun r w => r = r0 ∧ w = (cW h cI cJ lc la hr uP uC uR tn pn pg pq rl sr gcb gpb tg tm tl pm ps) ++ (oW ho cJ ov0)) (fun _ _ => False) := by
  refine gMi_ofH (cc := cL_markOf) (maxL := 4) (rt := .int) hl (by decide +kernel) rfl (Nat.le_of_ble_eq_true rfl) ?_
  intro p e s m args below meth c A Q C hnm ht RET
  have C : gC p l s m args meth c A D [(cI, .int), (cJ, .long)] 4 RL cL_markOf wsL_markOf := C
  refine gV_loc (lvs' := [(0, .ref (h 0)), (1, .int v1), (2, .ref ho)]) [0, 1, 2] rfl ?_
  unfold pf_L_markOf at hp
  refine gV_aload_n C dL_markOf_0 rfl 2 rfl ?_
  refine gV_iconst (v := 0) C dL_markOf_1 rfl ?_
  refine gV_aload_n C dL_markOf_2 rfl 0 rfl ?_
  refine gV_iload_n C dL_markOf_3 rfl 1 rfl ?_
  obtain ⟨x4, r4q, hq4, hp⟩ := g_ob2 hp
  refine gV_calli C (gsub_co_c _ _ rfl rfl) (gV_runV (As := [.int v1]) (rest := [.int 0, .ref ho]) C (mt_X3_markOf hl D h cI cJ lc la hr uP uC uR tn pn pg pq rl sr gcb gpb tg tm tl pm ps v1 x4 r4q hq4) (cwV 1 C.2.2.2.2.1 gL_markOf_X3_markOf rfl rfl rfl hdv_X3_markOf ⟨Nat.le_of_ble_eq_true rfl, Nat.le_of_ble_eq_true rfl⟩) (gsub_co_c _ _ rfl rfl) 0 rfl rfl rfl rfl (Nat.le_of_ble_eq_true rfl) dL_markOf_4 ⟨Nat.le_of_ble_eq_true rfl, Nat.le_of_ble_eq_true rfl⟩) (fun E w1 hx => ?_) (fun r4 w1 hw => ?_)
  · obtain ⟨hne, rfl, rfl⟩ := hx
    refine gT_sub (ws' := (cW h cI cJ lc la hr uP uC uR tn pn pg pq rl sr gcb gpb tg tm tl pm ps) ++ (oW ho cJ ov)) [1, 2, 3, 4, 5, 6, 7, 8, 9, 10, 11, 12, 13, 0] (by decide) rfl rfl ?_
    replace hp := g_iff hp hne
    by_cases hc1 : x4 = 1
    · replace hp := g_ift hp hc1
      subst hc1
      rw [g_exn1]
      refine gT_catch (E := "java/lang/IndexOutOfBoundsException") C (Or.inr (Or.inl rfl)) [] { startPc := 0, endPc := 9, handlerPc := 12, catchType := 18 } [] (ht.trans rfl) (fun z hz => absurd hz List.not_mem_nil) rfl (by decide) (C.w 1 rfl) (fun q9 => ?_)
      show gV p l e rm_L_markOf s m args below meth c A D 4 Q ((cW h cI cJ lc la hr uP uC uR tn pn pg pq rl sr gcb gpb tg tm tl pm ps) ++ (oW ho cJ ov)) [(0, .ref (h 0)), (1, .int v1), (2, .ref ho)] _ _ 12 [.ref q9]
      refine gV_astore_n (lvs' := [(3, .ref q9), (0, .ref (h 0)), (1, .int v1), (2, .ref ho)]) C dL_markOf_12 rfl (by decide) rfl ?_
      refine gV_iconst (v := 1) C dL_markOf_13 rfl ?_
      obtain ⟨rfl, rfl⟩ := g_so2 hp
      exact RET _ _ _ _ _ _ dL_markOf_14 (Nat.le_of_ble_eq_true rfl) (Nat.le_of_ble_eq_true rfl) rfl ⟨rfl, rfl⟩
    · replace hp := g_iff hp hc1
      by_cases hc2 : x4 = 2
      · replace hp := g_ift hp hc2
        subst hc2
        rw [g_exn2]
        exact g_none hp
      · replace hp := g_iff hp hc2
        rw [g_exn3 hc1 hc2]
        exact g_none hp
  · obtain ⟨hx0, rfl, rfl⟩ := hw
    replace hp := g_ift hp hx0
    refine gV_sub (ws' := (cW h cI cJ lc la hr uP uC uR tn pn pg pq rl sr gcb gpb tg tm tl pm ps) ++ (oW ho cJ ov)) [1, 2, 3, 4, 5, 6, 7, 8, 9, 10, 11, 12, 13, 0] (by decide) rfl rfl ?_
    refine gV_i2l C dL_markOf_7 ?_
    obtain ⟨hi8, hp⟩ := g_idx hp
    refine gV_last (ws' := (cW h cI cJ lc la hr uP uC uR tn pn pg pq rl sr gcb gpb tg tm tl pm ps) ++ (oW ho cJ (vp_updL ov (0 : Int32).toNatClampNeg r4.toInt64))) C 13 rfl 1 rfl hi8 dL_markOf_8 rfl ?_
    refine gV_goto (tgt := 15) C dL_markOf_9 (by decide) ?_
    refine gV_iconst (v := 0) C dL_markOf_15 rfl ?_
    obtain ⟨rfl, rfl⟩ := g_so2 hp
    exact RET _ _ _ _ _ _ dL_markOf_16 (Nat.le_of_ble_eq_true rfl) (Nat.le_of_ble_eq_true rfl) rfl ⟨rfl, rfl⟩
def pf_L_liesAbout  (uR : Int32) (tn : Int32) (tl : Nat → Int32) (ov : Nat → Int64) (v1 : Int32) : Option (Int32 × (Nat → Int64)) := (ob2 (pf_X3_liesAbout uR tn tl v1) fun x4 r4 => if x4 = 0 then (gi 0 1 (some (0, (vp_updL ov (0 : Int32).toNatClampNeg r4.toInt64)))) else (if x4 = 1 then (some (1, ov)) else (if x4 = 2 then none else none)))
abbrev rm_L_liesAbout : Room := { frames := 8, cells := 1, slots := 6, locals := 124 }
theorem hdv_X3_liesAbout : yX3_liesAbout.cls = RX3 ∧ yX3_liesAbout.cls ≠ "java/lang/invoke/MethodHandle" ∧ yX3_liesAbout.cls ≠ "java/lang/invoke/VarHandle" ∧ (parseMethodDescriptor yX3_liesAbout.desc).map (fun d => d.parameters.length) = some 1 := by decide +kernel
set_option maxHeartbeats 4000000 in
set_option maxRecDepth 100000 in
theorem mt_L_liesAbout {l : Launch} (hl : l.stackTraces = false) (D : va_G) (h : Nat → Nat) (ho : Nat) (cI cJ : ClassId) (lc : Int32) (la : Int32) (hr : Int32) (uP : Int32) (uC : Int32) (uR : Int32) (tn : Int32) (pn : Int32) (pg : Int32) (pq : Int32) (rl : Nat → Int32) (sr : Nat → Int32) (gcb : Nat → Int32) (gpb : Nat → Int64) (tg : Nat → Int32) (tm : Nat → Int32) (tl : Nat → Int32) (pm : Nat → Int32) (ps : Nat → Int32) (ov : Nat → Int64) (v1 : Int32) (r0 : Int32) (ov0 : Nat → Int64) (hp : pf_L_liesAbout uR tn tl ov v1 = (some (r0, ov0))) : gMi l yL_liesAbout wsL_liesAbout rm_L_liesAbout D [(cI, .int), (cJ, .long)] ((cW h cI cJ lc la hr uP uC uR tn pn pg pq rl sr gcb gpb tg tm tl pm ps) ++ (oW ho cJ ov)) [.ref (h 0), .int v1, .ref ho] 1 6 (fun r w => r = r0 ∧ w = (cW h cI cJ lc la hr uP uC uR tn pn pg pq rl sr gcb gpb tg tm tl pm ps) ++ (oW ho cJ ov0)) (fun _ _ => False) := by
  refine gMi_ofH (cc := cL_liesAbout) (maxL := 4) (rt := .int) hl (by decide +kernel) rfl (Nat.le_of_ble_eq_true rfl) ?_
  intro p e s m args below meth c A Q C hnm ht RET
  have C : gC p l s m args meth c A D [(cI, .int), (cJ, .long)] 4 RL cL_liesAbout wsL_liesAbout := C
  refine gV_loc (lvs' := [(0, .ref (h 0)), (1, .int v1), (2, .ref ho)]) [0, 1, 2] rfl ?_
  unfold pf_L_liesAbout at hp
  refine gV_aload_n C dL_liesAbout_0 rfl 2 rfl ?_
  refine gV_iconst (v := 0) C dL_liesAbout_1 rfl ?_
  refine gV_aload_n C dL_liesAbout_2 rfl 0 rfl ?_
  refine gV_iload_n C dL_liesAbout_3 rfl 1 rfl ?_
  obtain ⟨x4, r4q, hq4, hp⟩ := g_ob2 hp
  refine gV_calli C (gsub_co_c _ _ rfl rfl) (gV_runV (As := [.int v1]) (rest := [.int 0, .ref ho]) C (mt_X3_liesAbout hl D h cI cJ lc la hr uP uC uR tn pn pg pq rl sr gcb gpb tg tm tl pm ps v1 x4 r4q hq4) (cwV 1 C.2.2.2.2.1 gL_liesAbout_X3_liesAbout rfl rfl rfl hdv_X3_liesAbout ⟨Nat.le_of_ble_eq_true rfl, Nat.le_of_ble_eq_true rfl⟩) (gsub_co_c _ _ rfl rfl) 0 rfl rfl rfl rfl (Nat.le_of_ble_eq_true rfl) dL_liesAbout_4 ⟨Nat.le_of_ble_eq_true rfl, Nat.le_of_ble_eq_true rfl⟩) (fun E w1 hx => ?_) (fun r4 w1 hw => ?_)
  · obtain ⟨hne, rfl, rfl⟩ := hx
    refine gT_sub (ws' := (cW h cI cJ lc la hr uP uC uR tn pn pg pq rl sr gcb gpb tg tm tl pm ps) ++ (oW ho cJ ov)) [1, 2, 3, 4, 5, 6, 7, 8, 9, 10, 11, 12, 13, 0] (by decide) rfl rfl ?_
    replace hp := g_iff hp hne
    by_cases hc1 : x4 = 1
    · replace hp := g_ift hp hc1
      subst hc1
      rw [g_exn1]
      refine gT_catch (E := "java/lang/IndexOutOfBoundsException") C (Or.inr (Or.inl rfl)) [] { startPc := 0, endPc := 9, handlerPc := 12, catchType := 18 } [] (ht.trans rfl) (fun z hz => absurd hz List.not_mem_nil) rfl (by decide) (C.w 1 rfl) (fun q9 => ?_)
      show gV p l e rm_L_liesAbout s m args below meth c A D 4 Q ((cW h cI cJ lc la hr uP uC uR tn pn pg pq rl sr gcb gpb tg tm tl pm ps) ++ (oW ho cJ ov)) [(0, .ref (h 0)), (1, .int v1), (2, .ref ho)] _ _ 12 [.ref q9]
      refine gV_astore_n (lvs' := [(3, .ref q9), (0, .ref (h 0)), (1, .int v1), (2, .ref ho)]) C dL_liesAbout_12 rfl (by decide) rfl ?_
      refine gV_iconst (v := 1) C dL_liesAbout_13 rfl ?_
      obtain ⟨rfl, rfl⟩ := g_so2 hp
      exact RET _ _ _ _ _ _ dL_liesAbout_14 (Nat.le_of_ble_eq_true rfl) (Nat.le_of_ble_eq_true rfl) rfl ⟨rfl, rfl⟩
    · replace hp := g_iff hp hc1
      by_cases hc2 : x4 = 2
      · replace hp := g_ift hp hc2
        subst hc2
        rw [g_exn2]
        exact g_none hp
      · replace hp := g_iff hp hc2
        rw [g_exn3 hc1 hc2]
        exact g_none hp
  · obtain ⟨hx0, rfl, rfl⟩ := hw
    replace hp := g_ift hp hx0
    refine gV_sub (ws' := (cW h cI cJ lc la hr uP uC uR tn pn pg pq rl sr gcb gpb tg tm tl pm ps) ++ (oW ho cJ ov)) [1, 2, 3, 4, 5, 6, 7, 8, 9, 10, 11, 12, 13, 0] (by decide) rfl rfl ?_
    refine gV_i2l C dL_liesAbout_7 ?_
    obtain ⟨hi8, hp⟩ := g_idx hp
    refine gV_last (ws' := (cW h cI cJ lc la hr uP uC uR tn pn pg pq rl sr gcb gpb tg tm tl pm ps) ++ (oW ho cJ (vp_updL ov (0 : Int32).toNatClampNeg r4.toInt64))) C 13 rfl 1 rfl hi8 dL_liesAbout_8 rfl ?_
    refine gV_goto (tgt := 15) C dL_liesAbout_9 (by decide) ?_
    refine gV_iconst (v := 0) C dL_liesAbout_15 rfl ?_
    obtain ⟨rfl, rfl⟩ := g_so2 hp
    exact RET _ _ _ _ _ _ dL_liesAbout_16 (Nat.le_of_ble_eq_true rfl) (Nat.le_of_ble_eq_true rfl) rfl ⟨rfl, rfl⟩
def pf_L_isLeft_j15  (s0 : Int64) (s1 : Int32) (ov : Nat → Int64) : Option (Int32 × (Nat → Int64)) := (gi s1 1 (some (0, (vp_updL ov s1.toNatClampNeg s0))))
def pf_L_isLeft  (la : Int32) (uR : Int32) (tn : Int32) (tl : Nat → Int32) (ov : Nat → Int64) (v1 : Int32) : Option (Int32 × (Nat → Int64)) := (ob2 (pf_X3_isLeft la uR tn tl v1) fun x4 r4 => if x4 = 0 then (if r4 = 0 then (pf_L_isLeft_j15 0 0 ov) else (pf_L_isLeft_j15 1 0 ov)) else (if x4 = 1 then (some (1, ov)) else (if x4 = 2 then none else none)))
abbrev rm_L_isLeft : Room := { frames := 8, cells := 1, slots := 6, locals := 124 }
theorem hdv_X3_isLeft : yX3_isLeft.cls = RX3 ∧ yX3_isLeft.cls ≠ "java/lang/invoke/MethodHandle" ∧ yX3_isLeft.cls ≠ "java/lang/invoke/VarHandle" ∧ (parseMethodDescriptor yX3_isLeft.desc).map (fun d => d.parameters.length) = some 1 := by decide +kernel
set_option maxHeartbeats 4000000 in
set_option maxRecDepth 100000 in
theorem mt_L_isLeft {l : Launch} (hl : l.stackTraces = false) (D : va_G) (h : Nat → Nat) (ho : Nat) (cI cJ : ClassId) (lc : Int32) (la : Int32) (hr : Int32) (uP : Int32) (uC : Int32) (uR : Int32) (tn : Int32) (pn : Int32) (pg : Int32) (pq : Int32) (rl : Nat → Int32) (sr : Nat → Int32) (gcb : Nat → Int32) (gpb : Nat → Int64) (tg : Nat → Int32) (tm : Nat → Int32) (tl : Nat → Int32) (pm : Nat → Int32) (ps : Nat → Int32) (ov : Nat → Int64) (v1 : Int32) (r0 : Int32) (ov0 : Nat → Int64) (hp : pf_L_isLeft la uR tn tl ov v1 = (some (r0, ov0))) : gMi l yL_isLeft wsL_isLeft rm_L_isLeft D [(cI, .int), (cJ, .long)] ((cW h cI cJ lc la hr uP uC uR tn pn pg pq rl sr gcb gpb tg tm tl pm ps) ++ (oW ho cJ ov)) [.ref (h 0), .int v1, .ref ho] 1 6 (fun r w => r = r0 ∧ w = (cW h cI cJ lc la hr uP uC uR tn pn pg pq rl sr gcb gpb tg tm tl pm ps) ++ (oW ho cJ ov0)) (fun _ _ => False) := by
  refine gMi_ofH (cc := cL_isLeft) (maxL := 4) (rt := .int) hl (by decide +kernel) rfl (Nat.le_of_ble_eq_true rfl) ?_
  intro p e s m args below meth c A Q C hnm ht RET
  have C : gC p l s m args meth c A D [(cI, .int), (cJ, .long)] 4 RL cL_isLeft wsL_isLeft := C
  refine gV_loc (lvs' := [(0, .ref (h 0)), (1, .int v1), (2, .ref ho)]) [0, 1, 2] rfl ?_
  unfold pf_L_isLeft at hp
  have J15 : ∀ (s0 : Int64) (s1 : Int32) (ov : Nat → Int64), pf_L_isLeft_j15 s0 s1 ov = (some (r0, ov0)) → gV p l e rm_L_isLeft s m args below meth c A D 4 Q ((cW h cI cJ lc la hr uP uC uR tn pn pg pq rl sr gcb gpb tg tm tl pm ps) ++ (oW ho cJ ov)) [(0, .ref (h 0)), (2, .ref ho)] 1 6 15 [.long s0, .int s1, .ref ho] := by
    intro s0 s1 ov hp
    unfold pf_L_isLeft_j15 at hp
    obtain ⟨hi15, hp⟩ := g_idx hp
    refine gV_last (ws' := (cW h cI cJ lc la hr uP uC uR tn pn pg pq rl sr gcb gpb tg tm tl pm ps) ++ (oW ho cJ (vp_updL ov s1.toNatClampNeg s0))) C 13 rfl 1 rfl hi15 dL_isLeft_15 rfl ?_
    refine gV_goto (tgt := 22) C dL_isLeft_16 (by decide) ?_
    refine gV_iconst (v := 0) C dL_isLeft_22 rfl ?_
    obtain ⟨rfl, rfl⟩ := g_so2 hp
    exact RET _ _ _ _ _ _ dL_isLeft_23 (Nat.le_of_ble_eq_true rfl) (Nat.le_of_ble_eq_true rfl) rfl ⟨rfl, rfl⟩
  refine gV_aload_n C dL_isLeft_0 rfl 2 rfl ?_
  refine gV_iconst (v := 0) C dL_isLeft_1 rfl ?_
  refine gV_aload_n C dL_isLeft_2 rfl 0 rfl ?_
  refine gV_iload_n C dL_isLeft_3 rfl 1 rfl ?_
  obtain ⟨x4, r4q, hq4, hp⟩ := g_ob2 hp
  refine gV_calli C (gsub_co_c _ _ rfl rfl) (gV_runV (As := [.int v1]) (rest := [.int 0, .ref ho]) C (mt_X3_isLeft hl D h cI cJ lc la hr uP uC uR tn pn pg pq rl sr gcb gpb tg tm tl pm ps v1 x4 r4q hq4) (cwV 1 C.2.2.2.2.1 gL_isLeft_X3_isLeft rfl rfl rfl hdv_X3_isLeft ⟨Nat.le_of_ble_eq_true rfl, Nat.le_of_ble_eq_true rfl⟩) (gsub_co_c _ _ rfl rfl) 0 rfl rfl rfl rfl (Nat.le_of_ble_eq_true rfl) dL_isLeft_4 ⟨Nat.le_of_ble_eq_true rfl, Nat.le_of_ble_eq_true rfl⟩) (fun E w1 hx => ?_) (fun r4 w1 hw => ?_)
  · obtain ⟨hne, rfl, rfl⟩ := hx
    refine gT_sub (ws' := (cW h cI cJ lc la hr uP uC uR tn pn pg pq rl sr gcb gpb tg tm tl pm ps) ++ (oW ho cJ ov)) [1, 2, 3, 4, 5, 6, 7, 8, 9, 10, 11, 12, 13, 0] (by decide) rfl rfl ?_
    replace hp := g_iff hp hne
    by_cases hc1 : x4 = 1
    · replace hp := g_ift hp hc1
      subst hc1
      rw [g_exn1]
      refine gT_catch (E := "java/lang/IndexOutOfBoundsException") C (Or.inr (Or.inl rfl)) [] { startPc := 0, endPc := 16, handlerPc := 19, catchType := 18 } [] (ht.trans rfl) (fun z hz => absurd hz List.not_mem_nil) rfl (by decide) (C.w 1 rfl) (fun q9 => ?_)
      show gV p l e rm_L_isLeft s m args below meth c A D 4 Q ((cW h cI cJ lc la hr uP uC uR tn pn pg pq rl sr gcb gpb tg tm tl pm ps) ++ (oW ho cJ ov)) [(0, .ref (h 0)), (1, .int v1), (2, .ref ho)] _ _ 19 [.ref q9]
      refine gV_astore_n (lvs' := [(3, .ref q9), (0, .ref (h 0)), (1, .int v1), (2, .ref ho)]) C dL_isLeft_19 rfl (by decide) rfl ?_
      refine gV_iconst (v := 1) C dL_isLeft_20 rfl ?_
      obtain ⟨rfl, rfl⟩ := g_so2 hp
      exact RET _ _ _ _ _ _ dL_isLeft_21 (Nat.le_of_ble_eq_true rfl) (Nat.le_of_ble_eq_true rfl) rfl ⟨rfl, rfl⟩
    · replace hp := g_iff hp hc1
      by_cases hc2 : x4 = 2
      · replace hp := g_ift hp hc2
        subst hc2
        rw [g_exn2]
        exact g_none hp
      · replace hp := g_iff hp hc2
        rw [g_exn3 hc1 hc2]
        exact g_none hp
  · obtain ⟨hx0, rfl, rfl⟩ := hw
    replace hp := g_ift hp hx0
    refine gV_sub (ws' := (cW h cI cJ lc la hr uP uC uR tn pn pg pq rl sr gcb gpb tg tm tl pm ps) ++ (oW ho cJ ov)) [1, 2, 3, 4, 5, 6, 7, 8, 9, 10, 11, 12, 13, 0] (by decide) rfl rfl ?_
    refine gV_if_eq (tgt := 14) C dL_isLeft_7 (by decide) (fun c7 => ?_) (fun c7 => ?_)
    · replace hp := g_ift hp c7
      refine gV_lconst (v := 0) C dL_isLeft_14 rfl ?_
      refine gV_loc [0, 2] rfl ?_
      exact J15 0 0 ov hp
    · replace hp := g_iff hp c7
      refine gV_lconst (v := 1) C dL_isLeft_10 rfl ?_
      refine gV_goto (tgt := 15) C dL_isLeft_11 (by decide) ?_
      refine gV_loc [0, 2] rfl ?_
      exact J15 1 0 ov hp
def pf_L_leftAt  (lc : Int32) (rl : Nat → Int32) (ov : Nat → Int64) (v1 : Int32) : Option (Int32 × (Nat → Int64)) := (ob2 (pf_X3_leftAt lc rl v1) fun x4 r4 => if x4 = 0 then (gi 0 1 (some (0, (vp_updL ov (0 : Int32).toNatClampNeg r4.toInt64)))) else (if x4 = 1 then (some (1, ov)) else (if x4 = 2 then none else none)))
abbrev rm_L_leftAt : Room := { frames := 7, cells := 1, slots := 6, locals := 103 }
theorem hdv_X3_leftAt : yX3_leftAt.cls = RX3 ∧ yX3_leftAt.cls ≠ "java/lang/invoke/MethodHandle" ∧ yX3_leftAt.cls ≠ "java/lang/invoke/VarHandle" ∧ (parseMethodDescriptor yX3_leftAt.desc).map (fun d => d.parameters.length) = some 1 := by decide +kernel
set_option maxHeartbeats 4000000 in
set_option maxRecDepth 100000 in
theorem mt_L_leftAt {l : Launch} (hl : l.stackTraces = false) (D : va_G) (h : Nat → Nat) (ho : Nat) (cI cJ : ClassId) (lc : Int32) (la : Int32) (hr : Int32) (uP : Int32) (uC : Int32) (uR : Int32) (tn : Int32) (pn : Int32) (pg : Int32) (pq : Int32) (rl : Nat → Int32) (sr : Nat → Int32) (gcb : Nat → Int32) (gpb : Nat → Int64) (tg : Nat → Int32) (tm : Nat → Int32) (tl : Nat → Int32) (pm : Nat → Int32) (ps : Nat → Int32) (ov : Nat → Int64) (v1 : Int32) (r0 : Int32) (ov0 : Nat → Int64) (hp : pf_L_leftAt lc rl ov v1 = (some (r0, ov0))) : gMi l yL_leftAt wsL_leftAt rm_L_leftAt D [(cI, .int), (cJ, .long)] ((cW h cI cJ lc la hr uP uC uR tn pn pg pq rl sr gcb gpb tg tm tl pm ps) ++ (oW ho cJ ov)) [.ref (h 0), .int v1, .ref ho] 1 6 (fun r w => r = r0 ∧ w = (cW h cI cJ lc la hr uP uC uR tn pn pg pq rl sr gcb gpb tg tm tl pm ps) ++ (oW ho cJ ov0)) (fun _ _ => False) := by
  refine gMi_ofH (cc := cL_leftAt) (maxL := 4) (rt := .int) hl (by decide +kernel) rfl (Nat.le_of_ble_eq_true rfl) ?_
  intro p e s m args below meth c A Q C hnm ht RET
  have C : gC p l s m args meth c A D [(cI, .int), (cJ, .long)] 4 RL cL_leftAt wsL_leftAt := C
  refine gV_loc (lvs' := [(0, .ref (h 0)), (1, .int v1), (2, .ref ho)]) [0, 1, 2] rfl ?_
  unfold pf_L_leftAt at hp
  refine gV_aload_n C dL_leftAt_0 rfl 2 rfl ?_
  refine gV_iconst (v := 0) C dL_leftAt_1 rfl ?_
  refine gV_aload_n C dL_leftAt_2 rfl 0 rfl ?_
  refine gV_iload_n C dL_leftAt_3 rfl 1 rfl ?_
  obtain ⟨x4, r4q, hq4, hp⟩ := g_ob2 hp
  refine gV_calli C (gsub_co_c _ _ rfl rfl) (gV_runV (As := [.int v1]) (rest := [.int 0, .ref ho]) C (mt_X3_leftAt hl D h cI cJ lc la hr uP uC uR tn pn pg pq rl sr gcb gpb tg tm tl pm ps v1 x4 r4q hq4) (cwV 1 C.2.2.2.2.1 gL_leftAt_X3_leftAt rfl rfl rfl hdv_X3_leftAt ⟨Nat.le_of_ble_eq_true rfl, Nat.le_of_ble_eq_true rfl⟩) (gsub_co_c _ _ rfl rfl) 0 rfl rfl rfl rfl (Nat.le_of_ble_eq_true rfl) dL_leftAt_4 ⟨Nat.le_of_ble_eq_true rfl, Nat.le_of_ble_eq_true rfl⟩) (fun E w1 hx => ?_) (fun r4 w1 hw => ?_)
  · obtain ⟨hne, rfl, rfl⟩ := hx
    refine gT_sub (ws' := (cW h cI cJ lc la hr uP uC uR tn pn pg pq rl sr gcb gpb tg tm tl pm ps) ++ (oW ho cJ ov)) [1, 2, 3, 4, 5, 6, 7, 8, 9, 10, 11, 12, 13, 0] (by decide) rfl rfl ?_
    replace hp := g_iff hp hne
    by_cases hc1 : x4 = 1
    · replace hp := g_ift hp hc1
      subst hc1
      rw [g_exn1]
      refine gT_catch (E := "java/lang/IndexOutOfBoundsException") C (Or.inr (Or.inl rfl)) [] { startPc := 0, endPc := 9, handlerPc := 12, catchType := 18 } [] (ht.trans rfl) (fun z hz => absurd hz List.not_mem_nil) rfl (by decide) (C.w 1 rfl) (fun q9 => ?_)
      show gV p l e rm_L_leftAt s m args below meth c A D 4 Q ((cW h cI cJ lc la hr uP uC uR tn pn pg pq rl sr gcb gpb tg tm tl pm ps) ++ (oW ho cJ ov)) [(0, .ref (h 0)), (1, .int v1), (2, .ref ho)] _ _ 12 [.ref q9]
      refine gV_astore_n (lvs' := [(3, .ref q9), (0, .ref (h 0)), (1, .int v1), (2, .ref ho)]) C dL_leftAt_12 rfl (by decide) rfl ?_
      refine gV_iconst (v := 1) C dL_leftAt_13 rfl ?_
      obtain ⟨rfl, rfl⟩ := g_so2 hp
      exact RET _ _ _ _ _ _ dL_leftAt_14 (Nat.le_of_ble_eq_true rfl) (Nat.le_of_ble_eq_true rfl) rfl ⟨rfl, rfl⟩
    · replace hp := g_iff hp hc1
      by_cases hc2 : x4 = 2
      · replace hp := g_ift hp hc2
        subst hc2
        rw [g_exn2]
        exact g_none hp
      · replace hp := g_iff hp hc2
        rw [g_exn3 hc1 hc2]
        exact g_none hp
  · obtain ⟨hx0, rfl, rfl⟩ := hw
    replace hp := g_ift hp hx0
    refine gV_sub (ws' := (cW h cI cJ lc la hr uP uC uR tn pn pg pq rl sr gcb gpb tg tm tl pm ps) ++ (oW ho cJ ov)) [1, 2, 3, 4, 5, 6, 7, 8, 9, 10, 11, 12, 13, 0] (by decide) rfl rfl ?_
    refine gV_i2l C dL_leftAt_7 ?_
    obtain ⟨hi8, hp⟩ := g_idx hp
    refine gV_last (ws' := (cW h cI cJ lc la hr uP uC uR tn pn pg pq rl sr gcb gpb tg tm tl pm ps) ++ (oW ho cJ (vp_updL ov (0 : Int32).toNatClampNeg r4.toInt64))) C 13 rfl 1 rfl hi8 dL_leftAt_8 rfl ?_
    refine gV_goto (tgt := 15) C dL_leftAt_9 (by decide) ?_
    refine gV_iconst (v := 0) C dL_leftAt_15 rfl ?_
    obtain ⟨rfl, rfl⟩ := g_so2 hp
    exact RET _ _ _ _ _ _ dL_leftAt_16 (Nat.le_of_ble_eq_true rfl) (Nat.le_of_ble_eq_true rfl) rfl ⟨rfl, rfl⟩
def pf_L_parts  (lc : Int32) (uP : Int32) (uR : Int32) (pn : Int32) (pg : Int32) (pq : Int32) (rl : Nat → Int32) (gcb : Nat → Int32) (gpb : Nat → Int64) (pm : Nat → Int32) (ps : Nat → Int32) (ov : Nat → Int64) (v1 : Int32) : Option (Int32 × Int32 × Int32 × Int32 × (Nat → Int32) × (Nat → Int32) × (Nat → Int64)) := (ob7 (pf_X3_parts lc uP uR pn pg pq rl gcb gpb pm ps v1) fun x4 r4 pn_4 pg_4 pq_4 pm_4 ps_4 => if x4 = 0 then (gi 0 1 (some (0, pn_4, pg_4, pq_4, pm_4, ps_4, (vp_updL ov (0 : Int32).toNatClampNeg r4.toInt64)))) else (if x4 = 1 then (some (1, pn_4, pg_4, pq_4, pm_4, ps_4, ov)) else (if x4 = 2 then none else none)))
abbrev rm_L_parts : Room := { frames := 8, cells := 1, slots := 6, locals := 124 }
theorem hdv_X3_parts : yX3_parts.cls = RX3 ∧ yX3_parts.cls ≠ "java/lang/invoke/MethodHandle" ∧ yX3_parts.cls ≠ "java/lang/invoke/VarHandle" ∧ (parseMethodDescriptor yX3_parts.desc).map (fun d => d.parameters.length) = some 1 := by decide +kernel
set_option maxHeartbeats 4000000 in
set_option maxRecDepth 100000 in
theorem mt_L_parts {l : Launch} (hl : l.stackTraces = false) (D : va_G) (h : Nat → Nat) (ho : Nat) (cI cJ : ClassId) (lc : Int32) (la : Int32) (hr : Int32) (uP : Int32) (uC : Int32) (uR : Int32) (tn : Int32) (pn : Int32) (pg : Int32) (pq : Int32) (rl : Nat → Int32) (sr : Nat → Int32) (gcb : Nat → Int32) (gpb : Nat → Int64) (tg : Nat → Int32) (tm : Nat → Int32) (tl : Nat → Int32) (pm : Nat → Int32) (ps : Nat → Int32) (ov : Nat → Int64) (v1 : Int32) (r0 : Int32) (pn0 : Int32) (pg0 : Int32) (pq0 : Int32) (pm0 : Nat → Int32) (ps0 : Nat → Int32) (ov0 : Nat → Int64) (hp : pf_L_parts lc uP uR pn pg pq rl gcb gpb pm ps ov v1 = (some (r0, pn0, pg0, pq0, pm0, ps0, ov0))) : gMi l yL_parts wsL_parts rm_L_parts D [(cI, .int), (cJ, .long)] ((cW h cI cJ lc la hr uP uC uR tn pn pg pq rl sr gcb gpb tg tm tl pm ps) ++ (oW ho cJ ov)) [.ref (h 0), .int v1, .ref ho] 1 6 (fun r w => r = r0 ∧ w = (cW h cI cJ lc la hr uP uC uR tn pn0 pg0 pq0 rl sr gcb gpb tg tm tl pm0 ps0) ++ (oW ho cJ ov0)) (fun _ _ => False) := by
  refine gMi_ofH (cc := cL_parts) (maxL := 4) (rt := .int) hl (by decide +kernel) rfl (Nat.le_of_ble_eq_true rfl) ?_
  intro p e s m args below meth c A Q C hnm ht RET
  have C : gC p l s m args meth c A D [(cI, .int), (cJ, .long)] 4 RL cL_parts wsL_parts := C
  refine gV_loc (lvs' := [(0, .ref (h 0)), (1, .int v1), (2, .ref ho)]) [0, 1, 2] rfl ?_
  unfold pf_L_parts at hp
  refine gV_aload_n C dL_parts_0 rfl 2 rfl ?_
  refine gV_iconst (v := 0) C dL_parts_1 rfl ?_
  refine gV_aload_n C dL_parts_2 rfl 0 rfl ?_
  refine gV_iload_n C dL_parts_3 rfl 1 rfl ?_
  obtain ⟨x4, r4q, pn_4, pg_4, pq_4, pm_4, ps_4, hq4, hp⟩ := g_ob7 hp
  refine gV_calli C (gsub_co_c _ _ rfl rfl) (gV_runV (As := [.int v1]) (rest := [.int 0, .ref ho]) C (mt_X3_parts hl D h cI cJ lc la hr uP uC uR tn pn pg pq rl sr gcb gpb tg tm tl pm ps v1 x4 r4q pn_4 pg_4 pq_4 pm_4 ps_4 hq4) (cwV 1 C.2.2.2.2.1 gL_parts_X3_parts rfl rfl rfl hdv_X3_parts ⟨Nat.le_of_ble_eq_true rfl, Nat.le_of_ble_eq_true rfl⟩) (gsub_co_c _ _ rfl rfl) 0 rfl rfl rfl rfl (Nat.le_of_ble_eq_true rfl) dL_parts_4 ⟨Nat.le_of_ble_eq_true rfl, Nat.le_of_ble_eq_true rfl⟩) (fun E w1 hx => ?_) (fun r4 w1 hw => ?_)
  · obtain ⟨hne, rfl, rfl⟩ := hx
    refine gT_sub (ws' := (cW h cI cJ lc la hr uP uC uR tn pn_4 pg_4 pq_4 rl sr gcb gpb tg tm tl pm_4 ps_4) ++ (oW ho cJ ov)) [1, 2, 3, 4, 5, 6, 7, 8, 9, 10, 11, 12, 13, 0] (by decide) rfl rfl ?_
    replace hp := g_iff hp hne
    by_cases hc1 : x4 = 1
    · replace hp := g_ift hp hc1
      subst hc1
      rw [g_exn1]
      refine gT_catch (E := "java/lang/IndexOutOfBoundsException") C (Or.inr (Or.inl rfl)) [] { startPc := 0, endPc := 9, handlerPc := 12, catchType := 18 } [] (ht.trans rfl) (fun z hz => absurd hz List.not_mem_nil) rfl (by decide) (C.w 1 rfl) (fun q9 => ?_)
      show gV p l e rm_L_parts s m args below meth c A D 4 Q ((cW h cI cJ lc la hr uP uC uR tn pn_4 pg_4 pq_4 rl sr gcb gpb tg tm tl pm_4 ps_4) ++ (oW ho cJ ov)) [(0, .ref (h 0)), (1, .int v1), (2, .ref ho)] _ _ 12 [.ref q9]
      refine gV_astore_n (lvs' := [(3, .ref q9), (0, .ref (h 0)), (1, .int v1), (2, .ref ho)]) C dL_parts_12 rfl (by decide) rfl ?_
      refine gV_iconst (v := 1) C dL_parts_13 rfl ?_
      obtain ⟨rfl, rfl, rfl, rfl, rfl, rfl, rfl⟩ := g_so7 hp
      exact RET _ _ _ _ _ _ dL_parts_14 (Nat.le_of_ble_eq_true rfl) (Nat.le_of_ble_eq_true rfl) rfl ⟨rfl, rfl⟩
    · replace hp := g_iff hp hc1
      by_cases hc2 : x4 = 2
      · replace hp := g_ift hp hc2
        subst hc2
        rw [g_exn2]
        exact g_none hp
      · replace hp := g_iff hp hc2
        rw [g_exn3 hc1 hc2]
        exact g_none hp
  · obtain ⟨hx0, rfl, rfl⟩ := hw
    replace hp := g_ift hp hx0
    refine gV_sub (ws' := (cW h cI cJ lc la hr uP uC uR tn pn_4 pg_4 pq_4 rl sr gcb gpb tg tm tl pm_4 ps_4) ++ (oW ho cJ ov)) [1, 2, 3, 4, 5, 6, 7, 8, 9, 10, 11, 12, 13, 0] (by decide) rfl rfl ?_
    refine gV_i2l C dL_parts_7 ?_
    obtain ⟨hi8, hp⟩ := g_idx hp
    refine gV_last (ws' := (cW h cI cJ lc la hr uP uC uR tn pn_4 pg_4 pq_4 rl sr gcb gpb tg tm tl pm_4 ps_4) ++ (oW ho cJ (vp_updL ov (0 : Int32).toNatClampNeg r4.toInt64))) C 13 rfl 1 rfl hi8 dL_parts_8 rfl ?_
    refine gV_goto (tgt := 15) C dL_parts_9 (by decide) ?_
    refine gV_iconst (v := 0) C dL_parts_15 rfl ?_
    obtain ⟨rfl, rfl, rfl, rfl, rfl, rfl, rfl⟩ := g_so7 hp
    exact RET _ _ _ _ _ _ dL_parts_16 (Nat.le_of_ble_eq_true rfl) (Nat.le_of_ble_eq_true rfl) rfl ⟨rfl, rfl⟩
def pf_L_partMark  (lc : Int32) (uP : Int32) (uR : Int32) (pn : Int32) (pg : Int32) (pq : Int32) (rl : Nat → Int32) (gcb : Nat → Int32) (gpb : Nat → Int64) (pm : Nat → Int32) (ps : Nat → Int32) (ov : Nat → Int64) (v1 : Int32) (v2 : Int32) : Option (Int32 × Int32 × Int32 × Int32 × (Nat → Int32) × (Nat → Int32) × (Nat → Int64)) := (ob7 (pf_X3_partMark lc uP uR pn pg pq rl gcb gpb pm ps v1 v2) fun x5 r5 pn_5 pg_5 pq_5 pm_5 ps_5 => if x5 = 0 then (gi 0 1 (some (0, pn_5, pg_5, pq_5, pm_5, ps_5, (vp_updL ov (0 : Int32).toNatClampNeg r5.toInt64)))) else (if x5 = 1 then (some (1, pn_5, pg_5, pq_5, pm_5, ps_5, ov)) else (if x5 = 2 then none else none)))
abbrev rm_L_partMark : Room := { frames := 8, cells := 2, slots := 12, locals := 125 }
theorem hdv_X3_partMark : yX3_partMark.cls = RX3 ∧ yX3_partMark.cls ≠ "java/lang/invoke/MethodHandle" ∧ yX3_partMark.cls ≠ "java/lang/invoke/VarHandle" ∧ (parseMethodDescriptor yX3_partMark.desc).map (fun d => d.parameters.length) = some 2 := by decide +kernel
set_option maxHeartbeats 4000000 in
set_option maxRecDepth 100000 in
theorem mt_L_partMark {l : Launch} (hl : l.stackTraces = false) (D : va_G) (h : Nat → Nat) (ho : Nat) (cI cJ : ClassId) (lc : Int32) (la : Int32) (hr : Int32) (uP : Int32) (uC : Int32) (uR : Int32) (tn : Int32) (pn : Int32) (pg : Int32) (pq : Int32) (rl : Nat → Int32) (sr : Nat → Int32) (gcb : Nat → Int32) (gpb : Nat → Int64) (tg : Nat → Int32) (tm : Nat → Int32) (tl : Nat → Int32) (pm : Nat → Int32) (ps : Nat → Int32) (ov : Nat → Int64) (v1 : Int32) (v2 : Int32) (r0 : Int32) (pn0 : Int32) (pg0 : Int32) (pq0 : Int32) (pm0 : Nat → Int32) (ps0 : Nat → Int32) (ov0 : Nat → Int64) (hp : pf_L_partMark lc uP uR pn pg pq rl gcb gpb pm ps ov v1 v2 = (some (r0, pn0, pg0, pq0, pm0, ps0, ov0))) : gMi l yL_partMark wsL_partMark rm_L_partMark D [(cI, .int), (cJ, .long)] ((cW h cI cJ lc la hr uP uC uR tn pn pg pq rl sr gcb gpb tg tm tl pm ps) ++ (oW ho cJ ov)) [.ref (h 0), .int v1, .int v2, .ref ho] 2 12 (fun r w => r = r0 ∧ w = (cW h cI cJ lc la hr uP uC uR tn pn0 pg0 pq0 rl sr gcb gpb tg tm tl pm0 ps0) ++ (oW ho cJ ov0)) (fun _ _ => False) := by
  refine gMi_ofH (cc := cL_partMark) (maxL := 5) (rt := .int) hl (by decide +kernel) rfl (Nat.le_of_ble_eq_true rfl) ?_
  intro p e s m args below meth c A Q C hnm ht RET
  have C : gC p l s m args meth c A D [(cI, .int), (cJ, .long)] 5 RL cL_partMark wsL_partMark := C
  refine gV_loc (lvs' := [(0, .ref (h 0)), (1, .int v1), (2, .int v2), (3, .ref ho)]) [0, 1, 2, 3] rfl ?_
  unfold pf_L_partMark at hp
  refine gV_aload_n C dL_partMark_0 rfl 3 rfl ?_
  refine gV_iconst (v := 0) C dL_partMark_1 rfl ?_
  refine gV_aload_n C dL_partMark_2 rfl 0 rfl ?_
  refine gV_iload_n C dL_partMark_3 rfl 1 rfl ?_
  refine gV_iload_n C dL_partMark_4 rfl 2 rfl ?_
  obtain ⟨x5, r5q, pn_5, pg_5, pq_5, pm_5, ps_5, hq5, hp⟩ := g_ob7 hp
  refine gV_calli C (gsub_co_c _ _ rfl rfl) (gV_runV (As := [.int v1, .int v2]) (rest := [.int 0, .ref ho]) C (mt_X3_partMark hl D h cI cJ lc la hr uP uC uR tn pn pg pq rl sr gcb gpb tg tm tl pm ps v1 v2 x5 r5q pn_5 pg_5 pq_5 pm_5 ps_5 hq5) (cwV 2 C.2.2.2.2.1 gL_partMark_X3_partMark rfl rfl rfl hdv_X3_partMark ⟨Nat.le_of_ble_eq_true rfl, Nat.le_of_ble_eq_true rfl⟩) (gsub_co_c _ _ rfl rfl) 0 rfl rfl rfl rfl (Nat.le_of_ble_eq_true rfl) dL_partMark_5 ⟨Nat.le_of_ble_eq_true rfl, Nat.le_of_ble_eq_true rfl⟩) (fun E w1 hx => ?_) (fun r5 w1 hw => ?_)
  · obtain ⟨hne, rfl, rfl⟩ := hx
    refine gT_sub (ws' := (cW h cI cJ lc la hr uP uC uR tn pn_5 pg_5 pq_5 rl sr gcb gpb tg tm tl pm_5 ps_5) ++ (oW ho cJ ov)) [1, 2, 3, 4, 5, 6, 7, 8, 9, 10, 11, 12, 13, 0] (by decide) rfl rfl ?_
    replace hp := g_iff hp hne
    by_cases hc1 : x5 = 1
    · replace hp := g_ift hp hc1
      subst hc1
      rw [g_exn1]
      refine gT_catch (E := "java/lang/IndexOutOfBoundsException") C (Or.inr (Or.inl rfl)) [] { startPc := 0, endPc := 10, handlerPc := 13, catchType := 18 } [] (ht.trans rfl) (fun z hz => absurd hz List.not_mem_nil) rfl (by decide) (C.w 1 rfl) (fun q9 => ?_)
      show gV p l e rm_L_partMark s m args below meth c A D 5 Q ((cW h cI cJ lc la hr uP uC uR tn pn_5 pg_5 pq_5 rl sr gcb gpb tg tm tl pm_5 ps_5) ++ (oW ho cJ ov)) [(0, .ref (h 0)), (1, .int v1), (2, .int v2), (3, .ref ho)] _ _ 13 [.ref q9]
      refine gV_astore (lvs' := [(4, .ref q9), (0, .ref (h 0)), (1, .int v1), (2, .int v2), (3, .ref ho)]) C dL_partMark_13 (by decide) rfl ?_
      refine gV_iconst (v := 1) C dL_partMark_15 rfl ?_
      obtain ⟨rfl, rfl, rfl, rfl, rfl, rfl, rfl⟩ := g_so7 hp
      exact RET _ _ _ _ _ _ dL_partMark_16 (Nat.le_of_ble_eq_true rfl) (Nat.le_of_ble_eq_true rfl) rfl ⟨rfl, rfl⟩
    · replace hp := g_iff hp hc1
      by_cases hc2 : x5 = 2
      · replace hp := g_ift hp hc2
        subst hc2
        rw [g_exn2]
        exact g_none hp
      · replace hp := g_iff hp hc2
        rw [g_exn3 hc1 hc2]
        exact g_none hp
  · obtain ⟨hx0, rfl, rfl⟩ := hw
    replace hp := g_ift hp hx0
    refine gV_sub (ws' := (cW h cI cJ lc la hr uP uC uR tn pn_5 pg_5 pq_5 rl sr gcb gpb tg tm tl pm_5 ps_5) ++ (oW ho cJ ov)) [1, 2, 3, 4, 5, 6, 7, 8, 9, 10, 11, 12, 13, 0] (by decide) rfl rfl ?_
    refine gV_i2l C dL_partMark_8 ?_
    obtain ⟨hi9, hp⟩ := g_idx hp
    refine gV_last (ws' := (cW h cI cJ lc la hr uP uC uR tn pn_5 pg_5 pq_5 rl sr gcb gpb tg tm tl pm_5 ps_5) ++ (oW ho cJ (vp_updL ov (0 : Int32).toNatClampNeg r5.toInt64))) C 13 rfl 1 rfl hi9 dL_partMark_9 rfl ?_
    refine gV_goto (tgt := 17) C dL_partMark_10 (by decide) ?_
    refine gV_iconst (v := 0) C dL_partMark_17 rfl ?_
    obtain ⟨rfl, rfl, rfl, rfl, rfl, rfl, rfl⟩ := g_so7 hp
    exact RET _ _ _ _ _ _ dL_partMark_18 (Nat.le_of_ble_eq_true rfl) (Nat.le_of_ble_eq_true rfl) rfl ⟨rfl, rfl⟩
def pf_L_partSize  (lc : Int32) (uP : Int32) (uR : Int32) (pn : Int32) (pg : Int32) (pq : Int32) (rl : Nat → Int32) (gcb : Nat → Int32) (gpb : Nat → Int64) (pm : Nat → Int32) (ps : Nat → Int32) (ov : Nat → Int64) (v1 : Int32) (v2 : Int32) : Option (Int32 × Int32 × Int32 × Int32 × (Nat → Int32) × (Nat → Int32) × (Nat → Int64)) := (ob7 (pf_X3_partSize lc uP uR pn pg pq rl gcb gpb pm ps v1 v2) fun x5 r5 pn_5 pg_5 pq_5 pm_5 ps_5 => if x5 = 0 then (gi 0 1 (some (0, pn_5, pg_5, pq_5, pm_5, ps_5, (vp_updL ov (0 : Int32).toNatClampNeg r5.toInt64)))) else (if x5 = 1 then (some (1, pn_5, pg_5, pq_5, pm_5, ps_5, ov)) else (if x5 = 2 then (some (2, pn_5, pg_5, pq_5, pm_5, ps_5, ov)) else none)))
abbrev rm_L_partSize : Room := { frames := 8, cells := 2, slots := 12, locals := 125 }
theorem hdv_X3_partSize : yX3_partSize.cls = RX3 ∧ yX3_partSize.cls ≠ "java/lang/invoke/MethodHandle" ∧ yX3_partSize.cls ≠ "java/lang/invoke/VarHandle" ∧ (parseMethodDescriptor yX3_partSize.desc).map (fun d => d.parameters.length) = some 2 := by decide +kernel
set_option maxHeartbeats 4000000 in
set_option maxRecDepth 100000 in
theorem mt_L_partSize {l : Launch} (hl : l.stackTraces = false) (D : va_G) (h : Nat → Nat) (ho : Nat) (cI cJ : ClassId) (lc : Int32) (la : Int32) (hr : Int32) (uP : Int32) (uC : Int32) (uR : Int32) (tn : Int32) (pn : Int32) (pg : Int32) (pq : Int32) (rl : Nat → Int32) (sr : Nat → Int32) (gcb : Nat → Int32) (gpb : Nat → Int64) (tg : Nat → Int32) (tm : Nat → Int32) (tl : Nat → Int32) (pm : Nat → Int32) (ps : Nat → Int32) (ov : Nat → Int64) (v1 : Int32) (v2 : Int32) (r0 : Int32) (pn0 : Int32) (pg0 : Int32) (pq0 : Int32) (pm0 : Nat → Int32) (ps0 : Nat → Int32) (ov0 : Nat → Int64) (hp : pf_L_partSize lc uP uR pn pg pq rl gcb gpb pm ps ov v1 v2 = (some (r0, pn0, pg0, pq0, pm0, ps0, ov0))) : gMi l yL_partSize wsL_partSize rm_L_partSize D [(cI, .int), (cJ, .long)] ((cW h cI cJ lc la hr uP uC uR tn pn pg pq rl sr gcb gpb tg tm tl pm ps) ++ (oW ho cJ ov)) [.ref (h 0), .int v1, .int v2, .ref ho] 2 12 (fun r w => r = r0 ∧ w = (cW h cI cJ lc la hr uP uC uR tn pn0 pg0 pq0 rl sr gcb gpb tg tm tl pm0 ps0) ++ (oW ho cJ ov0)) (fun _ _ => False) := by
  refine gMi_ofH (cc := cL_partSize) (maxL := 5) (rt := .int) hl (by decide +kernel) rfl (Nat.le_of_ble_eq_true rfl) ?_
  intro p e s m args below meth c A Q C hnm ht RET
  have C : gC p l s m args meth c A D [(cI, .int), (cJ, .long)] 5 RL cL_partSize wsL_partSize := C
  refine gV_loc (lvs' := [(0, .ref (h 0)), (1, .int v1), (2, .int v2), (3, .ref ho)]) [0, 1, 2, 3] rfl ?_
  unfold pf_L_partSize at hp
  refine gV_aload_n C dL_partSize_0 rfl 3 rfl ?_
  refine gV_iconst (v := 0) C dL_partSize_1 rfl ?_
  refine gV_aload_n C dL_partSize_2 rfl 0 rfl ?_
  refine gV_iload_n C dL_partSize_3 rfl 1 rfl ?_
  refine gV_iload_n C dL_partSize_4 rfl 2 rfl ?_
  obtain ⟨x5, r5q, pn_5, pg_5, pq_5, pm_5, ps_5, hq5, hp⟩ := g_ob7 hp
  refine gV_calli C (gsub_co_c _ _ rfl rfl) (gV_runV (As := [.int v1, .int v2]) (rest := [.int 0, .ref ho]) C (mt_X3_partSize hl D h cI cJ lc la hr uP uC uR tn pn pg pq rl sr gcb gpb tg tm tl pm ps v1 v2 x5 r5q pn_5 pg_5 pq_5 pm_5 ps_5 hq5) (cwV 2 C.2.2.2.2.1 gL_partSize_X3_partSize rfl rfl rfl hdv_X3_partSize ⟨Nat.le_of_ble_eq_true rfl, Nat.le_of_ble_eq_true rfl⟩) (gsub_co_c _ _ rfl rfl) 0 rfl rfl rfl rfl (Nat.le_of_ble_eq_true rfl) dL_partSize_5 ⟨Nat.le_of_ble_eq_true rfl, Nat.le_of_ble_eq_true rfl⟩) (fun E w1 hx => ?_) (fun r5 w1 hw => ?_)
  · obtain ⟨hne, rfl, rfl⟩ := hx
    refine gT_sub (ws' := (cW h cI cJ lc la hr uP uC uR tn pn_5 pg_5 pq_5 rl sr gcb gpb tg tm tl pm_5 ps_5) ++ (oW ho cJ ov)) [1, 2, 3, 4, 5, 6, 7, 8, 9, 10, 11, 12, 13, 0] (by decide) rfl rfl ?_
    replace hp := g_iff hp hne
    by_cases hc1 : x5 = 1
    · replace hp := g_ift hp hc1
      subst hc1
      rw [g_exn1]
      refine gT_catch (E := "java/lang/IndexOutOfBoundsException") C (Or.inr (Or.inl rfl)) [] { startPc := 0, endPc := 10, handlerPc := 13, catchType := 18 } [{ startPc := 0, endPc := 10, handlerPc := 17, catchType := 13 }] (ht.trans rfl) (fun z hz => absurd hz List.not_mem_nil) rfl (by decide) (C.w 1 rfl) (fun q9 => ?_)
      show gV p l e rm_L_partSize s m args below meth c A D 5 Q ((cW h cI cJ lc la hr uP uC uR tn pn_5 pg_5 pq_5 rl sr gcb gpb tg tm tl pm_5 ps_5) ++ (oW ho cJ ov)) [(0, .ref (h 0)), (1, .int v1), (2, .int v2), (3, .ref ho)] _ _ 13 [.ref q9]
      refine gV_astore (lvs' := [(4, .ref q9), (0, .ref (h 0)), (1, .int v1), (2, .int v2), (3, .ref ho)]) C dL_partSize_13 (by decide) rfl ?_
      refine gV_iconst (v := 1) C dL_partSize_15 rfl ?_
      obtain ⟨rfl, rfl, rfl, rfl, rfl, rfl, rfl⟩ := g_so7 hp
      exact RET _ _ _ _ _ _ dL_partSize_16 (Nat.le_of_ble_eq_true rfl) (Nat.le_of_ble_eq_true rfl) rfl ⟨rfl, rfl⟩
    · replace hp := g_iff hp hc1
      by_cases hc2 : x5 = 2
      · replace hp := g_ift hp hc2
        subst hc2
        rw [g_exn2]
        refine gT_catch (E := "java/lang/IllegalArgumentException") C (Or.inl rfl) [{ startPc := 0, endPc := 10, handlerPc := 13, catchType := 18 }] { startPc := 0, endPc := 10, handlerPc := 17, catchType := 13 } [] (ht.trans rfl) (List.forall_mem_cons.mpr ⟨Or.inr ⟨by decide, _, C.w 1 rfl, C.2.2.2.2.2.2.2.2.1.2.2.2.1.1⟩, fun z hz => absurd hz List.not_mem_nil⟩) rfl (by decide) (C.w 2 rfl) (fun q9 => ?_)
        show gV p l e rm_L_partSize s m args below meth c A D 5 Q ((cW h cI cJ lc la hr uP uC uR tn pn_5 pg_5 pq_5 rl sr gcb gpb tg tm tl pm_5 ps_5) ++ (oW ho cJ ov)) [(0, .ref (h 0)), (1, .int v1), (2, .int v2), (3, .ref ho)] _ _ 17 [.ref q9]
        refine gV_astore (lvs' := [(4, .ref q9), (0, .ref (h 0)), (1, .int v1), (2, .int v2), (3, .ref ho)]) C dL_partSize_17 (by decide) rfl ?_
        refine gV_iconst (v := 2) C dL_partSize_19 rfl ?_
        obtain ⟨rfl, rfl, rfl, rfl, rfl, rfl, rfl⟩ := g_so7 hp
        exact RET _ _ _ _ _ _ dL_partSize_20 (Nat.le_of_ble_eq_true rfl) (Nat.le_of_ble_eq_true rfl) rfl ⟨rfl, rfl⟩
      · replace hp := g_iff hp hc2
        rw [g_exn3 hc1 hc2]
        exact g_none hp
  · obtain ⟨hx0, rfl, rfl⟩ := hw
    replace hp := g_ift hp hx0
    refine gV_sub (ws' := (cW h cI cJ lc la hr uP uC uR tn pn_5 pg_5 pq_5 rl sr gcb gpb tg tm tl pm_5 ps_5) ++ (oW ho cJ ov)) [1, 2, 3, 4, 5, 6, 7, 8, 9, 10, 11, 12, 13, 0] (by decide) rfl rfl ?_
    refine gV_i2l C dL_partSize_8 ?_
    obtain ⟨hi9, hp⟩ := g_idx hp
    refine gV_last (ws' := (cW h cI cJ lc la hr uP uC uR tn pn_5 pg_5 pq_5 rl sr gcb gpb tg tm tl pm_5 ps_5) ++ (oW ho cJ (vp_updL ov (0 : Int32).toNatClampNeg r5.toInt64))) C 13 rfl 1 rfl hi9 dL_partSize_9 rfl ?_
    refine gV_goto (tgt := 21) C dL_partSize_10 (by decide) ?_
    refine gV_iconst (v := 0) C dL_partSize_21 rfl ?_
    obtain ⟨rfl, rfl, rfl, rfl, rfl, rfl, rfl⟩ := g_so7 hp
    exact RET _ _ _ _ _ _ dL_partSize_22 (Nat.le_of_ble_eq_true rfl) (Nat.le_of_ble_eq_true rfl) rfl ⟨rfl, rfl⟩
def pf_L_worstCase  (lc : Int32) (uP : Int32) (uR : Int32) (pn : Int32) (pg : Int32) (pq : Int32) (rl : Nat → Int32) (gcb : Nat → Int32) (gpb : Nat → Int64) (pm : Nat → Int32) (ps : Nat → Int32) (ov : Nat → Int64) (v1 : Int32) : Option (Int32 × Int32 × Int32 × Int32 × (Nat → Int32) × (Nat → Int32) × (Nat → Int64)) := (ob7 (pf_X3_worstCase lc uP uR pn pg pq rl gcb gpb pm ps v1) fun x4 r4 pn_4 pg_4 pq_4 pm_4 ps_4 => if x4 = 0 then (gi 0 1 (some (0, pn_4, pg_4, pq_4, pm_4, ps_4, (vp_updL ov (0 : Int32).toNatClampNeg r4.toInt64)))) else (if x4 = 1 then (some (1, pn_4, pg_4, pq_4, pm_4, ps_4, ov)) else (if x4 = 2 then none else none)))
abbrev rm_L_worstCase : Room := { frames := 8, cells := 1, slots := 6, locals := 124 }
theorem hdv_X3_worstCase : yX3_worstCase.cls = RX3 ∧ yX3_worstCase.cls ≠ "java/lang/invoke/MethodHandle" ∧ yX3_worstCase.cls ≠ "java/lang/invoke/VarHandle" ∧ (parseMethodDescriptor yX3_worstCase.desc).map (fun d => d.parameters.length) = some 1 := by decide +kernel
set_option maxHeartbeats 4000000 in
set_option maxRecDepth 100000 in
theorem mt_L_worstCase {l : Launch} (hl : l.stackTraces = false) (D : va_G) (h : Nat → Nat) (ho : Nat) (cI cJ : ClassId) (lc : Int32) (la : Int32) (hr : Int32) (uP : Int32) (uC : Int32) (uR : Int32) (tn : Int32) (pn : Int32) (pg : Int32) (pq : Int32) (rl : Nat → Int32) (sr : Nat → Int32) (gcb : Nat → Int32) (gpb : Nat → Int64) (tg : Nat → Int32) (tm : Nat → Int32) (tl : Nat → Int32) (pm : Nat → Int32) (ps : Nat → Int32) (ov : Nat → Int64) (v1 : Int32) (r0 : Int32) (pn0 : Int32) (pg0 : Int32) (pq0 : Int32) (pm0 : Nat → Int32) (ps0 : Nat → Int32) (ov0 : Nat → Int64) (hp : pf_L_worstCase lc uP uR pn pg pq rl gcb gpb pm ps ov v1 = (some (r0, pn0, pg0, pq0, pm0, ps0, ov0))) : gMi l yL_worstCase wsL_worstCase rm_L_worstCase D [(cI, .int), (cJ, .long)] ((cW h cI cJ lc la hr uP uC uR tn pn pg pq rl sr gcb gpb tg tm tl pm ps) ++ (oW ho cJ ov)) [.ref (h 0), .int v1, .ref ho] 1 6 (fun r w => r = r0 ∧ w = (cW h cI cJ lc la hr uP uC uR tn pn0 pg0 pq0 rl sr gcb gpb tg tm tl pm0 ps0) ++ (oW ho cJ ov0)) (fun _ _ => False) := by
  refine gMi_ofH (cc := cL_worstCase) (maxL := 4) (rt := .int) hl (by decide +kernel) rfl (Nat.le_of_ble_eq_true rfl) ?_
  intro p e s m args below meth c A Q C hnm ht RET
  have C : gC p l s m args meth c A D [(cI, .int), (cJ, .long)] 4 RL cL_worstCase wsL_worstCase := C
  refine gV_loc (lvs' := [(0, .ref (h 0)), (1, .int v1), (2, .ref ho)]) [0, 1, 2] rfl ?_
  unfold pf_L_worstCase at hp
  refine gV_aload_n C dL_worstCase_0 rfl 2 rfl ?_
  refine gV_iconst (v := 0) C dL_worstCase_1 rfl ?_
  refine gV_aload_n C dL_worstCase_2 rfl 0 rfl ?_
  refine gV_iload_n C dL_worstCase_3 rfl 1 rfl ?_
  obtain ⟨x4, r4q, pn_4, pg_4, pq_4, pm_4, ps_4, hq4, hp⟩ := g_ob7 hp
  refine gV_calli C (gsub_co_c _ _ rfl rfl) (gV_runV (As := [.int v1]) (rest := [.int 0, .ref ho]) C (mt_X3_worstCase hl D h cI cJ lc la hr uP uC uR tn pn pg pq rl sr gcb gpb tg tm tl pm ps v1 x4 r4q pn_4 pg_4 pq_4 pm_4 ps_4 hq4) (cwV 1 C.2.2.2.2.1 gL_worstCase_X3_worstCase rfl rfl rfl hdv_X3_worstCase ⟨Nat.le_of_ble_eq_true rfl, Nat.le_of_ble_eq_true rfl⟩) (gsub_co_c _ _ rfl rfl) 0 rfl rfl rfl rfl (Nat.le_of_ble_eq_true rfl) dL_worstCase_4 ⟨Nat.le_of_ble_eq_true rfl, Nat.le_of_ble_eq_true rfl⟩) (fun E w1 hx => ?_) (fun r4 w1 hw => ?_)
  · obtain ⟨hne, rfl, rfl⟩ := hx
    refine gT_sub (ws' := (cW h cI cJ lc la hr uP uC uR tn pn_4 pg_4 pq_4 rl sr gcb gpb tg tm tl pm_4 ps_4) ++ (oW ho cJ ov)) [1, 2, 3, 4, 5, 6, 7, 8, 9, 10, 11, 12, 13, 0] (by decide) rfl rfl ?_
    replace hp := g_iff hp hne
    by_cases hc1 : x4 = 1
    · replace hp := g_ift hp hc1
      subst hc1
      rw [g_exn1]
      refine gT_catch (E := "java/lang/IndexOutOfBoundsException") C (Or.inr (Or.inl rfl)) [] { startPc := 0, endPc := 9, handlerPc := 12, catchType := 18 } [] (ht.trans rfl) (fun z hz => absurd hz List.not_mem_nil) rfl (by decide) (C.w 1 rfl) (fun q9 => ?_)
      show gV p l e rm_L_worstCase s m args below meth c A D 4 Q ((cW h cI cJ lc la hr uP uC uR tn pn_4 pg_4 pq_4 rl sr gcb gpb tg tm tl pm_4 ps_4) ++ (oW ho cJ ov)) [(0, .ref (h 0)), (1, .int v1), (2, .ref ho)] _ _ 12 [.ref q9]
      refine gV_astore_n (lvs' := [(3, .ref q9), (0, .ref (h 0)), (1, .int v1), (2, .ref ho)]) C dL_worstCase_12 rfl (by decide) rfl ?_
      refine gV_iconst (v := 1) C dL_worstCase_13 rfl ?_
      obtain ⟨rfl, rfl, rfl, rfl, rfl, rfl, rfl⟩ := g_so7 hp
      exact RET _ _ _ _ _ _ dL_worstCase_14 (Nat.le_of_ble_eq_true rfl) (Nat.le_of_ble_eq_true rfl) rfl ⟨rfl, rfl⟩
    · replace hp := g_iff hp hc1
      by_cases hc2 : x4 = 2
      · replace hp := g_ift hp hc2
        subst hc2
        rw [g_exn2]
        exact g_none hp
      · replace hp := g_iff hp hc2
        rw [g_exn3 hc1 hc2]
        exact g_none hp
  · obtain ⟨hx0, rfl, rfl⟩ := hw
    replace hp := g_ift hp hx0
    refine gV_sub (ws' := (cW h cI cJ lc la hr uP uC uR tn pn_4 pg_4 pq_4 rl sr gcb gpb tg tm tl pm_4 ps_4) ++ (oW ho cJ ov)) [1, 2, 3, 4, 5, 6, 7, 8, 9, 10, 11, 12, 13, 0] (by decide) rfl rfl ?_
    refine gV_i2l C dL_worstCase_7 ?_
    obtain ⟨hi8, hp⟩ := g_idx hp
    refine gV_last (ws' := (cW h cI cJ lc la hr uP uC uR tn pn_4 pg_4 pq_4 rl sr gcb gpb tg tm tl pm_4 ps_4) ++ (oW ho cJ (vp_updL ov (0 : Int32).toNatClampNeg r4.toInt64))) C 13 rfl 1 rfl hi8 dL_worstCase_8 rfl ?_
    refine gV_goto (tgt := 15) C dL_worstCase_9 (by decide) ?_
    refine gV_iconst (v := 0) C dL_worstCase_15 rfl ?_
    obtain ⟨rfl, rfl, rfl, rfl, rfl, rfl, rfl⟩ := g_so7 hp
    exact RET _ _ _ _ _ _ dL_worstCase_16 (Nat.le_of_ble_eq_true rfl) (Nat.le_of_ble_eq_true rfl) rfl ⟨rfl, rfl⟩
def pf_L_weight  (lc : Int32) (uP : Int32) (uR : Int32) (pn : Int32) (pg : Int32) (pq : Int32) (rl : Nat → Int32) (gcb : Nat → Int32) (gpb : Nat → Int64) (pm : Nat → Int32) (ps : Nat → Int32) (ov : Nat → Int64) (v1 : Int32) : Option (Int32 × Int32 × Int32 × Int32 × (Nat → Int32) × (Nat → Int32) × (Nat → Int64)) := (ob7 (pf_X3_weight lc uP uR pn pg pq rl gcb gpb pm ps v1) fun x4 r4 pn_4 pg_4 pq_4 pm_4 ps_4 => if x4 = 0 then (gi 0 1 (some (0, pn_4, pg_4, pq_4, pm_4, ps_4, (vp_updL ov (0 : Int32).toNatClampNeg r4.toInt64)))) else (if x4 = 1 then (some (1, pn_4, pg_4, pq_4, pm_4, ps_4, ov)) else (if x4 = 2 then none else none)))
abbrev rm_L_weight : Room := { frames := 8, cells := 1, slots := 6, locals := 124 }
theorem hdv_X3_weight : yX3_weight.cls = RX3 ∧ yX3_weight.cls ≠ "java/lang/invoke/MethodHandle" ∧ yX3_weight.cls ≠ "java/lang/invoke/VarHandle" ∧ (parseMethodDescriptor yX3_weight.desc).map (fun d => d.parameters.length) = some 1 := by decide +kernel
set_option maxHeartbeats 4000000 in
set_option maxRecDepth 100000 in
theorem mt_L_weight {l : Launch} (hl : l.stackTraces = false) (D : va_G) (h : Nat → Nat) (ho : Nat) (cI cJ : ClassId) (lc : Int32) (la : Int32) (hr : Int32) (uP : Int32) (uC : Int32) (uR : Int32) (tn : Int32) (pn : Int32) (pg : Int32) (pq : Int32) (rl : Nat → Int32) (sr : Nat → Int32) (gcb : Nat → Int32) (gpb : Nat → Int64) (tg : Nat → Int32) (tm : Nat → Int32) (tl : Nat → Int32) (pm : Nat → Int32) (ps : Nat → Int32) (ov : Nat → Int64) (v1 : Int32) (r0 : Int32) (pn0 : Int32) (pg0 : Int32) (pq0 : Int32) (pm0 : Nat → Int32) (ps0 : Nat → Int32) (ov0 : Nat → Int64) (hp : pf_L_weight lc uP uR pn pg pq rl gcb gpb pm ps ov v1 = (some (r0, pn0, pg0, pq0, pm0, ps0, ov0))) : gMi l yL_weight wsL_weight rm_L_weight D [(cI, .int), (cJ, .long)] ((cW h cI cJ lc la hr uP uC uR tn pn pg pq rl sr gcb gpb tg tm tl pm ps) ++ (oW ho cJ ov)) [.ref (h 0), .int v1, .ref ho] 1 6 (fun r w => r = r0 ∧ w = (cW h cI cJ lc la hr uP uC uR tn pn0 pg0 pq0 rl sr gcb gpb tg tm tl pm0 ps0) ++ (oW ho cJ ov0)) (fun _ _ => False) := by
  refine gMi_ofH (cc := cL_weight) (maxL := 4) (rt := .int) hl (by decide +kernel) rfl (Nat.le_of_ble_eq_true rfl) ?_
  intro p e s m args below meth c A Q C hnm ht RET
  have C : gC p l s m args meth c A D [(cI, .int), (cJ, .long)] 4 RL cL_weight wsL_weight := C
  refine gV_loc (lvs' := [(0, .ref (h 0)), (1, .int v1), (2, .ref ho)]) [0, 1, 2] rfl ?_
  unfold pf_L_weight at hp
  refine gV_aload_n C dL_weight_0 rfl 2 rfl ?_
  refine gV_iconst (v := 0) C dL_weight_1 rfl ?_
  refine gV_aload_n C dL_weight_2 rfl 0 rfl ?_
  refine gV_iload_n C dL_weight_3 rfl 1 rfl ?_
  obtain ⟨x4, r4q, pn_4, pg_4, pq_4, pm_4, ps_4, hq4, hp⟩ := g_ob7 hp
  refine gV_calli C (gsub_co_c _ _ rfl rfl) (gV_runV (As := [.int v1]) (rest := [.int 0, .ref ho]) C (mt_X3_weight hl D h cI cJ lc la hr uP uC uR tn pn pg pq rl sr gcb gpb tg tm tl pm ps v1 x4 r4q pn_4 pg_4 pq_4 pm_4 ps_4 hq4) (cwV 1 C.2.2.2.2.1 gL_weight_X3_weight rfl rfl rfl hdv_X3_weight ⟨Nat.le_of_ble_eq_true rfl, Nat.le_of_ble_eq_true rfl⟩) (gsub_co_c _ _ rfl rfl) 0 rfl rfl rfl rfl (Nat.le_of_ble_eq_true rfl) dL_weight_4 ⟨Nat.le_of_ble_eq_true rfl, Nat.le_of_ble_eq_true rfl⟩) (fun E w1 hx => ?_) (fun r4 w1 hw => ?_)
  · obtain ⟨hne, rfl, rfl⟩ := hx
    refine gT_sub (ws' := (cW h cI cJ lc la hr uP uC uR tn pn_4 pg_4 pq_4 rl sr gcb gpb tg tm tl pm_4 ps_4) ++ (oW ho cJ ov)) [1, 2, 3, 4, 5, 6, 7, 8, 9, 10, 11, 12, 13, 0] (by decide) rfl rfl ?_
    replace hp := g_iff hp hne
    by_cases hc1 : x4 = 1
    · replace hp := g_ift hp hc1
      subst hc1
      rw [g_exn1]
      refine gT_catch (E := "java/lang/IndexOutOfBoundsException") C (Or.inr (Or.inl rfl)) [] { startPc := 0, endPc := 9, handlerPc := 12, catchType := 18 } [] (ht.trans rfl) (fun z hz => absurd hz List.not_mem_nil) rfl (by decide) (C.w 1 rfl) (fun q9 => ?_)
      show gV p l e rm_L_weight s m args below meth c A D 4 Q ((cW h cI cJ lc la hr uP uC uR tn pn_4 pg_4 pq_4 rl sr gcb gpb tg tm tl pm_4 ps_4) ++ (oW ho cJ ov)) [(0, .ref (h 0)), (1, .int v1), (2, .ref ho)] _ _ 12 [.ref q9]
      refine gV_astore_n (lvs' := [(3, .ref q9), (0, .ref (h 0)), (1, .int v1), (2, .ref ho)]) C dL_weight_12 rfl (by decide) rfl ?_
      refine gV_iconst (v := 1) C dL_weight_13 rfl ?_
      obtain ⟨rfl, rfl, rfl, rfl, rfl, rfl, rfl⟩ := g_so7 hp
      exact RET _ _ _ _ _ _ dL_weight_14 (Nat.le_of_ble_eq_true rfl) (Nat.le_of_ble_eq_true rfl) rfl ⟨rfl, rfl⟩
    · replace hp := g_iff hp hc1
      by_cases hc2 : x4 = 2
      · replace hp := g_ift hp hc2
        subst hc2
        rw [g_exn2]
        exact g_none hp
      · replace hp := g_iff hp hc2
        rw [g_exn3 hc1 hc2]
        exact g_none hp
  · obtain ⟨hx0, rfl, rfl⟩ := hw
    replace hp := g_ift hp hx0
    refine gV_sub (ws' := (cW h cI cJ lc la hr uP uC uR tn pn_4 pg_4 pq_4 rl sr gcb gpb tg tm tl pm_4 ps_4) ++ (oW ho cJ ov)) [1, 2, 3, 4, 5, 6, 7, 8, 9, 10, 11, 12, 13, 0] (by decide) rfl rfl ?_
    refine gV_i2l C dL_weight_7 ?_
    obtain ⟨hi8, hp⟩ := g_idx hp
    refine gV_last (ws' := (cW h cI cJ lc la hr uP uC uR tn pn_4 pg_4 pq_4 rl sr gcb gpb tg tm tl pm_4 ps_4) ++ (oW ho cJ (vp_updL ov (0 : Int32).toNatClampNeg r4.toInt64))) C 13 rfl 1 rfl hi8 dL_weight_8 rfl ?_
    refine gV_goto (tgt := 15) C dL_weight_9 (by decide) ?_
    refine gV_iconst (v := 0) C dL_weight_15 rfl ?_
    obtain ⟨rfl, rfl, rfl, rfl, rfl, rfl, rfl⟩ := g_so7 hp
    exact RET _ _ _ _ _ _ dL_weight_16 (Nat.le_of_ble_eq_true rfl) (Nat.le_of_ble_eq_true rfl) rfl ⟨rfl, rfl⟩
def pf_L_bestGuess  (lc : Int32) (uP : Int32) (uR : Int32) (pn : Int32) (pg : Int32) (pq : Int32) (rl : Nat → Int32) (gcb : Nat → Int32) (gpb : Nat → Int64) (pm : Nat → Int32) (ps : Nat → Int32) (ov : Nat → Int64) (v1 : Int32) : Option (Int32 × Int32 × Int32 × Int32 × (Nat → Int32) × (Nat → Int32) × (Nat → Int64)) := (ob7 (pf_X3_bestGuess lc uP uR pn pg pq rl gcb gpb pm ps v1) fun x4 r4 pn_4 pg_4 pq_4 pm_4 ps_4 => if x4 = 0 then (gi 0 1 (some (0, pn_4, pg_4, pq_4, pm_4, ps_4, (vp_updL ov (0 : Int32).toNatClampNeg r4.toInt64)))) else (if x4 = 1 then none else (if x4 = 2 then (some (1, pn_4, pg_4, pq_4, pm_4, ps_4, ov)) else (some (2, pn_4, pg_4, pq_4, pm_4, ps_4, ov)))))
abbrev rm_L_bestGuess : Room := { frames := 7, cells := 1, slots := 6, locals := 124 }
theorem hdv_X3_bestGuess : yX3_bestGuess.cls = RX3 ∧ yX3_bestGuess.cls ≠ "java/lang/invoke/MethodHandle" ∧ yX3_bestGuess.cls ≠ "java/lang/invoke/VarHandle" ∧ (parseMethodDescriptor yX3_bestGuess.desc).map (fun d => d.parameters.length) = some 1 := by decide +kernel
set_option maxHeartbeats 4000000 in
set_option maxRecDepth 100000 in
theorem mt_L_bestGuess {l : Launch} (hl : l.stackTraces = false) (D : va_G) (h : Nat → Nat) (ho : Nat) (cI cJ : ClassId) (lc : Int32) (la : Int32) (hr : Int32) (uP : Int32) (uC : Int32) (uR : Int32) (tn : Int32) (pn : Int32) (pg : Int32) (pq : Int32) (rl : Nat → Int32) (sr : Nat → Int32) (gcb : Nat → Int32) (gpb : Nat → Int64) (tg : Nat → Int32) (tm : Nat → Int32) (tl : Nat → Int32) (pm : Nat → Int32) (ps : Nat → Int32) (ov : Nat → Int64) (v1 : Int32) (r0 : Int32) (pn0 : Int32) (pg0 : Int32) (pq0 : Int32) (pm0 : Nat → Int32) (ps0 : Nat → Int32) (ov0 : Nat → Int64) (hp : pf_L_bestGuess lc uP uR pn pg pq rl gcb gpb pm ps ov v1 = (some (r0, pn0, pg0, pq0, pm0, ps0, ov0))) : gMi l yL_bestGuess wsL_bestGuess rm_L_bestGuess D [(cI, .int), (cJ, .long)] ((cW h cI cJ lc la hr uP uC uR tn pn pg pq rl sr gcb gpb tg tm tl pm ps) ++ (oW ho cJ ov)) [.ref (h 0), .int v1, .ref ho] 1 6 (fun r w => r = r0 ∧ w = (cW h cI cJ lc la hr uP uC uR tn pn0 pg0 pq0 rl sr gcb gpb tg tm tl pm0 ps0) ++ (oW ho cJ ov0)) (fun _ _ => False) := by
  refine gMi_ofH (cc := cL_bestGuess) (maxL := 4) (rt := .int) hl (by decide +kernel) rfl (Nat.le_of_ble_eq_true rfl) ?_
  intro p e s m args below meth c A Q C hnm ht RET
  have C : gC p l s m args meth c A D [(cI, .int), (cJ, .long)] 4 RL cL_bestGuess wsL_bestGuess := C
  refine gV_loc (lvs' := [(0, .ref (h 0)), (1, .int v1), (2, .ref ho)]) [0, 1, 2] rfl ?_
  unfold pf_L_bestGuess at hp
  refine gV_aload_n C dL_bestGuess_0 rfl 2 rfl ?_
  refine gV_iconst (v := 0) C dL_bestGuess_1 rfl ?_
  refine gV_aload_n C dL_bestGuess_2 rfl 0 rfl ?_
  refine gV_iload_n C dL_bestGuess_3 rfl 1 rfl ?_
  obtain ⟨x4, r4q, pn_4, pg_4, pq_4, pm_4, ps_4, hq4, hp⟩ := g_ob7 hp
  refine gV_calli C (gsub_co_c _ _ rfl rfl) (gV_runV (As := [.int v1]) (rest := [.int 0, .ref ho]) C (mt_X3_bestGuess hl D h cI cJ lc la hr uP uC uR tn pn pg pq rl sr gcb gpb tg tm tl pm ps v1 x4 r4q pn_4 pg_4 pq_4 pm_4 ps_4 hq4) (cwV 1 C.2.2.2.2.1 gL_bestGuess_X3_bestGuess rfl rfl rfl hdv_X3_bestGuess ⟨Nat.le_of_ble_eq_true rfl, Nat.le_of_ble_eq_true rfl⟩) (gsub_co_c _ _ rfl rfl) 0 rfl rfl rfl rfl (Nat.le_of_ble_eq_true rfl) dL_bestGuess_4 ⟨Nat.le_of_ble_eq_true rfl, Nat.le_of_ble_eq_true rfl⟩) (fun E w1 hx => ?_) (fun r4 w1 hw => ?_)
  · obtain ⟨hne, rfl, rfl⟩ := hx
    refine gT_sub (ws' := (cW h cI cJ lc la hr uP uC uR tn pn_4 pg_4 pq_4 rl sr gcb gpb tg tm tl pm_4 ps_4) ++ (oW ho cJ ov)) [1, 2, 3, 4, 5, 6, 7, 8, 9, 10, 11, 12, 13, 0] (by decide) rfl rfl ?_
    replace hp := g_iff hp hne
    by_cases hc1 : x4 = 1
    · replace hp := g_ift hp hc1
      subst hc1
      rw [g_exn1]
      exact g_none hp
    · replace hp := g_iff hp hc1
      by_cases hc2 : x4 = 2
      · replace hp := g_ift hp hc2
        subst hc2
        rw [g_exn2]
        refine gT_catch (E := "java/lang/IllegalArgumentException") C (Or.inl rfl) [] { startPc := 0, endPc := 9, handlerPc := 12, catchType := 13 } [{ startPc := 0, endPc := 9, handlerPc := 15, catchType := 27 }] (ht.trans rfl) (fun z hz => absurd hz List.not_mem_nil) rfl (by decide) (C.w 1 rfl) (fun q9 => ?_)
        show gV p l e rm_L_bestGuess s m args below meth c A D 4 Q ((cW h cI cJ lc la hr uP uC uR tn pn_4 pg_4 pq_4 rl sr gcb gpb tg tm tl pm_4 ps_4) ++ (oW ho cJ ov)) [(0, .ref (h 0)), (1, .int v1), (2, .ref ho)] _ _ 12 [.ref q9]
        refine gV_astore_n (lvs' := [(3, .ref q9), (0, .ref (h 0)), (1, .int v1), (2, .ref ho)]) C dL_bestGuess_12 rfl (by decide) rfl ?_
        refine gV_iconst (v := 1) C dL_bestGuess_13 rfl ?_
        obtain ⟨rfl, rfl, rfl, rfl, rfl, rfl, rfl⟩ := g_so7 hp
        exact RET _ _ _ _ _ _ dL_bestGuess_14 (Nat.le_of_ble_eq_true rfl) (Nat.le_of_ble_eq_true rfl) rfl ⟨rfl, rfl⟩
      · replace hp := g_iff hp hc2
        rw [g_exn3 hc1 hc2]
        refine gT_catch (E := "java/lang/IllegalStateException") C (Or.inr (Or.inr rfl)) [{ startPc := 0, endPc := 9, handlerPc := 12, catchType := 13 }] { startPc := 0, endPc := 9, handlerPc := 15, catchType := 27 } [] (ht.trans rfl) (List.forall_mem_cons.mpr ⟨Or.inr ⟨by decide, _, C.w 1 rfl, C.2.2.2.2.2.2.2.2.1.2.2.2.1.2.2⟩, fun z hz => absurd hz List.not_mem_nil⟩) rfl (by decide) (C.w 2 rfl) (fun q9 => ?_)
        show gV p l e rm_L_bestGuess s m args below meth c A D 4 Q ((cW h cI cJ lc la hr uP uC uR tn pn_4 pg_4 pq_4 rl sr gcb gpb tg tm tl pm_4 ps_4) ++ (oW ho cJ ov)) [(0, .ref (h 0)), (1, .int v1), (2, .ref ho)] _ _ 15 [.ref q9]
        refine gV_astore_n (lvs' := [(3, .ref q9), (0, .ref (h 0)), (1, .int v1), (2, .ref ho)]) C dL_bestGuess_15 rfl (by decide) rfl ?_
        refine gV_iconst (v := 2) C dL_bestGuess_16 rfl ?_
        obtain ⟨rfl, rfl, rfl, rfl, rfl, rfl, rfl⟩ := g_so7 hp
        exact RET _ _ _ _ _ _ dL_bestGuess_17 (Nat.le_of_ble_eq_true rfl) (Nat.le_of_ble_eq_true rfl) rfl ⟨rfl, rfl⟩
  · obtain ⟨hx0, rfl, rfl⟩ := hw
    replace hp := g_ift hp hx0
    refine gV_sub (ws' := (cW h cI cJ lc la hr uP uC uR tn pn_4 pg_4 pq_4 rl sr gcb gpb tg tm tl pm_4 ps_4) ++ (oW ho cJ ov)) [1, 2, 3, 4, 5, 6, 7, 8, 9, 10, 11, 12, 13, 0] (by decide) rfl rfl ?_
    refine gV_i2l C dL_bestGuess_7 ?_
    obtain ⟨hi8, hp⟩ := g_idx hp
    refine gV_last (ws' := (cW h cI cJ lc la hr uP uC uR tn pn_4 pg_4 pq_4 rl sr gcb gpb tg tm tl pm_4 ps_4) ++ (oW ho cJ (vp_updL ov (0 : Int32).toNatClampNeg r4.toInt64))) C 13 rfl 1 rfl hi8 dL_bestGuess_8 rfl ?_
    refine gV_goto (tgt := 18) C dL_bestGuess_9 (by decide) ?_
    refine gV_iconst (v := 0) C dL_bestGuess_18 rfl ?_
    obtain ⟨rfl, rfl, rfl, rfl, rfl, rfl, rfl⟩ := g_so7 hp
    exact RET _ _ _ _ _ _ dL_bestGuess_19 (Nat.le_of_ble_eq_true rfl) (Nat.le_of_ble_eq_true rfl) rfl ⟨rfl, rfl⟩
def pf_L_guessesNeeded  (lc : Int32) (uP : Int32) (uR : Int32) (pn : Int32) (pg : Int32) (pq : Int32) (rl : Nat → Int32) (sr : Nat → Int32) (gcb : Nat → Int32) (gpb : Nat → Int64) (pm : Nat → Int32) (ps : Nat → Int32) (ov : Nat → Int64)  : Option (Int32 × Int32 × Int32 × Int32 × (Nat → Int32) × (Nat → Int32) × (Nat → Int32) × (Nat → Int64)) := (ob8 (pf_X3_guessesNeeded lc uP uR pn pg pq rl sr gcb gpb pm ps) fun x3 r3 pn_3 pg_3 pq_3 sr_3 pm_3 ps_3 => if x3 = 0 then (gi 0 1 (some (0, pn_3, pg_3, pq_3, sr_3, pm_3, ps_3, (vp_updL ov (0 : Int32).toNatClampNeg r3.toInt64)))) else (if x3 = 1 then none else (if x3 = 2 then none else (some (1, pn_3, pg_3, pq_3, sr_3, pm_3, ps_3, ov)))))
abbrev rm_L_guessesNeeded : Room := { frames := 66, cells := 1, slots := 6, locals := 3247 }
theorem hdv_X3_guessesNeeded : yX3_guessesNeeded.cls = RX3 ∧ yX3_guessesNeeded.cls ≠ "java/lang/invoke/MethodHandle" ∧ yX3_guessesNeeded.cls ≠ "java/lang/invoke/VarHandle" ∧ (parseMethodDescriptor yX3_guessesNeeded.desc).map (fun d => d.parameters.length) = some 0 := by decide +kernel
set_option maxHeartbeats 4000000 in
set_option maxRecDepth 100000 in
theorem mt_L_guessesNeeded {l : Launch} (hl : l.stackTraces = false) (D : va_G) (h : Nat → Nat) (ho : Nat) (cI cJ : ClassId) (lc : Int32) (la : Int32) (hr : Int32) (uP : Int32) (uC : Int32) (uR : Int32) (tn : Int32) (pn : Int32) (pg : Int32) (pq : Int32) (rl : Nat → Int32) (sr : Nat → Int32) (gcb : Nat → Int32) (gpb : Nat → Int64) (tg : Nat → Int32) (tm : Nat → Int32) (tl : Nat → Int32) (pm : Nat → Int32) (ps : Nat → Int32) (ov : Nat → Int64)  (r0 : Int32) (pn0 : Int32) (pg0 : Int32) (pq0 : Int32) (sr0 : Nat → Int32) (pm0 : Nat → Int32) (ps0 : Nat → Int32) (ov0 : Nat → Int64) (hp : pf_L_guessesNeeded lc uP uR pn pg pq rl sr gcb gpb pm ps ov = (some (r0, pn0, pg0, pq0, sr0, pm0, ps0, ov0))) : gMi l yL_guessesNeeded wsL_guessesNeeded rm_L_guessesNeeded D [(cI, .int), (cJ, .long)] ((cW h cI cJ lc la hr uP uC uR tn pn pg pq rl sr gcb gpb tg tm tl pm ps) ++ (oW ho cJ ov)) [.ref (h 0), .ref ho] 1 6 (fun r w => r = r0 ∧ w = (cW h cI cJ lc la hr uP uC uR tn pn0 pg0 pq0 rl sr0 gcb gpb tg tm tl pm0 ps0) ++ (oW ho cJ ov0)) (fun _ _ => False) := by
  refine gMi_ofH (cc := cL_guessesNeeded) (maxL := 3) (rt := .int) hl (by decide +kernel) rfl (Nat.le_of_ble_eq_true rfl) ?_
  intro p e s m args below meth c A Q C hnm ht RET
  have C : gC p l s m args meth c A D [(cI, .int), (cJ, .long)] 3 RL cL_guessesNeeded wsL_guessesNeeded := C
  refine gV_loc (lvs' := [(0, .ref (h 0)), (1, .ref ho)]) [0, 1] rfl ?_
  unfold pf_L_guessesNeeded at hp
  refine gV_aload_n C dL_guessesNeeded_0 rfl 1 rfl ?_
  refine gV_iconst (v := 0) C dL_guessesNeeded_1 rfl ?_
  refine gV_aload_n C dL_guessesNeeded_2 rfl 0 rfl ?_
  obtain ⟨x3, r3q, pn_3, pg_3, pq_3, sr_3, pm_3, ps_3, hq3, hp⟩ := g_ob8 hp
  refine gV_calli C (gsub_co_c _ _ rfl rfl) (gV_runV (As := []) (rest := [.int 0, .ref ho]) C (mt_X3_guessesNeeded hl D h cI cJ lc la hr uP uC uR tn pn pg pq rl sr gcb gpb tg tm tl pm ps x3 r3q pn_3 pg_3 pq_3 sr_3 pm_3 ps_3 hq3) (cwV 0 C.2.2.2.2.1 gL_guessesNeeded_X3_guessesNeeded rfl rfl rfl hdv_X3_guessesNeeded ⟨Nat.le_of_ble_eq_true rfl, Nat.le_of_ble_eq_true rfl⟩) (gsub_co_c _ _ rfl rfl) 0 rfl rfl rfl rfl (Nat.le_of_ble_eq_true rfl) dL_guessesNeeded_3 ⟨Nat.le_of_ble_eq_true rfl, Nat.le_of_ble_eq_true rfl⟩) (fun E w1 hx => ?_) (fun r3 w1 hw => ?_)
  · obtain ⟨hne, rfl, rfl⟩ := hx
    refine gT_sub (ws' := (cW h cI cJ lc la hr uP uC uR tn pn_3 pg_3 pq_3 rl sr_3 gcb gpb tg tm tl pm_3 ps_3) ++ (oW ho cJ ov)) [1, 2, 3, 4, 5, 6, 7, 8, 9, 10, 11, 12, 13, 0] (by decide) rfl rfl ?_
    replace hp := g_iff hp hne
    by_cases hc1 : x3 = 1
    · replace hp := g_ift hp hc1
      subst hc1
      rw [g_exn1]
      exact g_none hp
    · replace hp := g_iff hp hc1
      by_cases hc2 : x3 = 2
      · replace hp := g_ift hp hc2
        subst hc2
        rw [g_exn2]
        exact g_none hp
      · replace hp := g_iff hp hc2
        rw [g_exn3 hc1 hc2]
        refine gT_catch (E := "java/lang/IllegalStateException") C (Or.inr (Or.inr rfl)) [] { startPc := 0, endPc := 8, handlerPc := 11, catchType := 27 } [] (ht.trans rfl) (fun z hz => absurd hz List.not_mem_nil) rfl (by decide) (C.w 1 rfl) (fun q9 => ?_)
        show gV p l e rm_L_guessesNeeded s m args below meth c A D 3 Q ((cW h cI cJ lc la hr uP uC uR tn pn_3 pg_3 pq_3 rl sr_3 gcb gpb tg tm tl pm_3 ps_3) ++ (oW ho cJ ov)) [(0, .ref (h 0)), (1, .ref ho)] _ _ 11 [.ref q9]
        refine gV_astore_n (lvs' := [(2, .ref q9), (0, .ref (h 0)), (1, .ref ho)]) C dL_guessesNeeded_11 rfl (by decide) rfl ?_
        refine gV_iconst (v := 1) C dL_guessesNeeded_12 rfl ?_
        obtain ⟨rfl, rfl, rfl, rfl, rfl, rfl, rfl, rfl⟩ := g_so8 hp
        exact RET _ _ _ _ _ _ dL_guessesNeeded_13 (Nat.le_of_ble_eq_true rfl) (Nat.le_of_ble_eq_true rfl) rfl ⟨rfl, rfl⟩
  · obtain ⟨hx0, rfl, rfl⟩ := hw
    replace hp := g_ift hp hx0
    refine gV_sub (ws' := (cW h cI cJ lc la hr uP uC uR tn pn_3 pg_3 pq_3 rl sr_3 gcb gpb tg tm tl pm_3 ps_3) ++ (oW ho cJ ov)) [1, 2, 3, 4, 5, 6, 7, 8, 9, 10, 11, 12, 13, 0] (by decide) rfl rfl ?_
    refine gV_i2l C dL_guessesNeeded_6 ?_
    obtain ⟨hi7, hp⟩ := g_idx hp
    refine gV_last (ws' := (cW h cI cJ lc la hr uP uC uR tn pn_3 pg_3 pq_3 rl sr_3 gcb gpb tg tm tl pm_3 ps_3) ++ (oW ho cJ (vp_updL ov (0 : Int32).toNatClampNeg r3.toInt64))) C 13 rfl 1 rfl hi7 dL_guessesNeeded_7 rfl ?_
    refine gV_goto (tgt := 14) C dL_guessesNeeded_8 (by decide) ?_
    refine gV_iconst (v := 0) C dL_guessesNeeded_14 rfl ?_
    obtain ⟨rfl, rfl, rfl, rfl, rfl, rfl, rfl, rfl⟩ := g_so8 hp
    exact RET _ _ _ _ _ _ dL_guessesNeeded_15 (Nat.le_of_ble_eq_true rfl) (Nat.le_of_ble_eq_true rfl) rfl ⟨rfl, rfl⟩
def pf_L_isInProof_j15  (s0 : Int64) (s1 : Int32) (ov : Nat → Int64) : Option (Int32 × (Nat → Int64)) := (gi s1 1 (some (0, (vp_updL ov s1.toNatClampNeg s0))))
def pf_L_isInProof  (lc : Int32) (la : Int32) (uR : Int32) (tn : Int32) (tl : Nat → Int32) (ov : Nat → Int64) (v1 : Int32) : Option (Int32 × (Nat → Int64)) := (ob2 (pf_X3_isInProof lc la uR tn tl v1) fun x4 r4 => if x4 = 0 then (if r4 = 0 then (pf_L_isInProof_j15 0 0 ov) else (pf_L_isInProof_j15 1 0 ov)) else (if x4 = 1 then (some (1, ov)) else (if x4 = 2 then none else (some (2, ov)))))
abbrev rm_L_isInProof : Room := { frames := 8, cells := 2, slots := 12, locals := 124 }
theorem hdv_X3_isInProof : yX3_isInProof.cls = RX3 ∧ yX3_isInProof.cls ≠ "java/lang/invoke/MethodHandle" ∧ yX3_isInProof.cls ≠ "java/lang/invoke/VarHandle" ∧ (parseMethodDescriptor yX3_isInProof.desc).map (fun d => d.parameters.length) = some 1 := by decide +kernel
set_option maxHeartbeats 4000000 in
set_option maxRecDepth 100000 in
theorem mt_L_isInProof {l : Launch} (hl : l.stackTraces = false) (D : va_G) (h : Nat → Nat) (ho : Nat) (cI cJ : ClassId) (lc : Int32) (la : Int32) (hr : Int32) (uP : Int32) (uC : Int32) (uR : Int32) (tn : Int32) (pn : Int32) (pg : Int32) (pq : Int32) (rl : Nat → Int32) (sr : Nat → Int32) (gcb : Nat → Int32) (gpb : Nat → Int64) (tg : Nat → Int32) (tm : Nat → Int32) (tl : Nat → Int32) (pm : Nat → Int32) (ps : Nat → Int32) (ov : Nat → Int64) (v1 : Int32) (r0 : Int32) (ov0 : Nat → Int64) (hp : pf_L_isInProof lc la uR tn tl ov v1 = (some (r0, ov0))) : gMi l yL_isInProof wsL_isInProof rm_L_isInProof D [(cI, .int), (cJ, .long)] ((cW h cI cJ lc la hr uP uC uR tn pn pg pq rl sr gcb gpb tg tm tl pm ps) ++ (oW ho cJ ov)) [.ref (h 0), .int v1, .ref ho] 2 12 (fun r w => r = r0 ∧ w = (cW h cI cJ lc la hr uP uC uR tn pn pg pq rl sr gcb gpb tg tm tl pm ps) ++ (oW ho cJ ov0)) (fun _ _ => False) := by
  refine gMi_ofH (cc := cL_isInProof) (maxL := 4) (rt := .int) hl (by decide +kernel) rfl (Nat.le_of_ble_eq_true rfl) ?_
  intro p e s m args below meth c A Q C hnm ht RET
  have C : gC p l s m args meth c A D [(cI, .int), (cJ, .long)] 4 RL cL_isInProof wsL_isInProof := C
  refine gV_loc (lvs' := [(0, .ref (h 0)), (1, .int v1), (2, .ref ho)]) [0, 1, 2] rfl ?_
  unfold pf_L_isInProof at hp
  have J15 : ∀ (s0 : Int64) (s1 : Int32) (ov : Nat → Int64), pf_L_isInProof_j15 s0 s1 ov = (some (r0, ov0)) → gV p l e rm_L_isInProof s m args below meth c A D 4 Q ((cW h cI cJ lc la hr uP uC uR tn pn pg pq rl sr gcb gpb tg tm tl pm ps) ++ (oW ho cJ ov)) [(0, .ref (h 0)), (2, .ref ho)] 2 12 15 [.long s0, .int s1, .ref ho] := by
    intro s0 s1 ov hp
    unfold pf_L_isInProof_j15 at hp
    obtain ⟨hi15, hp⟩ := g_idx hp
    refine gV_last (ws' := (cW h cI cJ lc la hr uP uC uR tn pn pg pq rl sr gcb gpb tg tm tl pm ps) ++ (oW ho cJ (vp_updL ov s1.toNatClampNeg s0))) C 13 rfl 1 rfl hi15 dL_isInProof_15 rfl ?_
    refine gV_goto (tgt := 25) C dL_isInProof_16 (by decide) ?_
    refine gV_iconst (v := 0) C dL_isInProof_25 rfl ?_
    obtain ⟨rfl, rfl⟩ := g_so2 hp
    exact RET _ _ _ _ _ _ dL_isInProof_26 (Nat.le_of_ble_eq_true rfl) (Nat.le_of_ble_eq_true rfl) rfl ⟨rfl, rfl⟩
  refine gV_aload_n C dL_isInProof_0 rfl 2 rfl ?_
  refine gV_iconst (v := 0) C dL_isInProof_1 rfl ?_
  refine gV_aload_n C dL_isInProof_2 rfl 0 rfl ?_
  refine gV_iload_n C dL_isInProof_3 rfl 1 rfl ?_
  obtain ⟨x4, r4q, hq4, hp⟩ := g_ob2 hp
  refine gV_calli C (gsub_co_c _ _ rfl rfl) (gV_runV (As := [.int v1]) (rest := [.int 0, .ref ho]) C (mt_X3_isInProof hl D h cI cJ lc la hr uP uC uR tn pn pg pq rl sr gcb gpb tg tm tl pm ps v1 x4 r4q hq4) (cwV 1 C.2.2.2.2.1 gL_isInProof_X3_isInProof rfl rfl rfl hdv_X3_isInProof ⟨Nat.le_of_ble_eq_true rfl, Nat.le_of_ble_eq_true rfl⟩) (gsub_co_c _ _ rfl rfl) 0 rfl rfl rfl rfl (Nat.le_of_ble_eq_true rfl) dL_isInProof_4 ⟨Nat.le_of_ble_eq_true rfl, Nat.le_of_ble_eq_true rfl⟩) (fun E w1 hx => ?_) (fun r4 w1 hw => ?_)
  · obtain ⟨hne, rfl, rfl⟩ := hx
    refine gT_sub (ws' := (cW h cI cJ lc la hr uP uC uR tn pn pg pq rl sr gcb gpb tg tm tl pm ps) ++ (oW ho cJ ov)) [1, 2, 3, 4, 5, 6, 7, 8, 9, 10, 11, 12, 13, 0] (by decide) rfl rfl ?_
    replace hp := g_iff hp hne
    by_cases hc1 : x4 = 1
    · replace hp := g_ift hp hc1
      subst hc1
      rw [g_exn1]
      refine gT_catch (E := "java/lang/IndexOutOfBoundsException") C (Or.inr (Or.inl rfl)) [] { startPc := 0, endPc := 16, handlerPc := 19, catchType := 18 } [{ startPc := 0, endPc := 16, handlerPc := 22, catchType := 27 }] (ht.trans rfl) (fun z hz => absurd hz List.not_mem_nil) rfl (by decide) (C.w 1 rfl) (fun q9 => ?_)
      show gV p l e rm_L_isInProof s m args below meth c A D 4 Q ((cW h cI cJ lc la hr uP uC uR tn pn pg pq rl sr gcb gpb tg tm tl pm ps) ++ (oW ho cJ ov)) [(0, .ref (h 0)), (1, .int v1), (2, .ref ho)] _ _ 19 [.ref q9]
      refine gV_astore_n (lvs' := [(3, .ref q9), (0, .ref (h 0)), (1, .int v1), (2, .ref ho)]) C dL_isInProof_19 rfl (by decide) rfl ?_
      refine gV_iconst (v := 1) C dL_isInProof_20 rfl ?_
      obtain ⟨rfl, rfl⟩ := g_so2 hp
      exact RET _ _ _ _ _ _ dL_isInProof_21 (Nat.le_of_ble_eq_true rfl) (Nat.le_of_ble_eq_true rfl) rfl ⟨rfl, rfl⟩
    · replace hp := g_iff hp hc1
      by_cases hc2 : x4 = 2
      · replace hp := g_ift hp hc2
        subst hc2
        rw [g_exn2]
        exact g_none hp
      · replace hp := g_iff hp hc2
        rw [g_exn3 hc1 hc2]
        refine gT_catch (E := "java/lang/IllegalStateException") C (Or.inr (Or.inr rfl)) [{ startPc := 0, endPc := 16, handlerPc := 19, catchType := 18 }] { startPc := 0, endPc := 16, handlerPc := 22, catchType := 27 } [] (ht.trans rfl) (List.forall_mem_cons.mpr ⟨Or.inr ⟨by decide, _, C.w 1 rfl, C.2.2.2.2.2.2.2.2.1.2.2.2.1.2.1⟩, fun z hz => absurd hz List.not_mem_nil⟩) rfl (by decide) (C.w 2 rfl) (fun q9 => ?_)
        show gV p l e rm_L_isInProof s m args below meth c A D 4 Q ((cW h cI cJ lc la hr uP uC uR tn pn pg pq rl sr gcb gpb tg tm tl pm ps) ++ (oW ho cJ ov)) [(0, .ref (h 0)), (1, .int v1), (2, .ref ho)] _ _ 22 [.ref q9]
        refine gV_astore_n (lvs' := [(3, .ref q9), (0, .ref (h 0)), (1, .int v1), (2, .ref ho)]) C dL_isInProof_22 rfl (by decide) rfl ?_
        refine gV_iconst (v := 2) C dL_isInProof_23 rfl ?_
        obtain ⟨rfl, rfl⟩ := g_so2 hp
        exact RET _ _ _ _ _ _ dL_isInProof_24 (Nat.le_of_ble_eq_true rfl) (Nat.le_of_ble_eq_true rfl) rfl ⟨rfl, rfl⟩
  · obtain ⟨hx0, rfl, rfl⟩ := hw
    replace hp := g_ift hp hx0
    refine gV_sub (ws' := (cW h cI cJ lc la hr uP uC uR tn pn pg pq rl sr gcb gpb tg tm tl pm ps) ++ (oW ho cJ ov)) [1, 2, 3, 4, 5, 6, 7, 8, 9, 10, 11, 12, 13, 0] (by decide) rfl rfl ?_
    refine gV_if_eq (tgt := 14) C dL_isInProof_7 (by decide) (fun c7 => ?_) (fun c7 => ?_)
    · replace hp := g_ift hp c7
      refine gV_lconst (v := 0) C dL_isInProof_14 rfl ?_
      refine gV_loc [0, 2] rfl ?_
      exact J15 0 0 ov hp
    · replace hp := g_iff hp c7
      refine gV_lconst (v := 1) C dL_isInProof_10 rfl ?_
      refine gV_goto (tgt := 15) C dL_isInProof_11 (by decide) ?_
      refine gV_loc [0, 2] rfl ?_
      exact J15 1 0 ov hp

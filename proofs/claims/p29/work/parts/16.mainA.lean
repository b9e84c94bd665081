def pf_X3_requireRow  (uR : Int32) (v1 : Int32) : Option (Nat) := (ob1 (pf_X1_has uR v1) fun r5 => (if r5 = 0 then (some 1) else (some 0)))
abbrev rm_X3_requireRow : Room := { frames := 6, cells := 1, slots := 6, locals := 82 }
theorem inw_X3_requireRow_X3 : ∀ w ∈ wsX30, w ∈ wsX3_requireRow := by decide +kernel
theorem tw_X3_requireRow_IOO : gTw wsX3_requireRow "java/lang/IndexOutOfBoundsException" 68 64 := ⟨gtw_IOO.1, List.mem_of_getElem? (i := 1) rfl, List.mem_of_getElem? (i := 2) rfl, fun w h => List.mem_cons_of_mem _ (List.mem_append_right _ h), gtw_IOO.2.1, gtw_IOO.2.2⟩
set_option maxHeartbeats 4000000 in
set_option maxRecDepth 100000 in
theorem mt_X3_requireRow {l : Launch} (hl : l.stackTraces = false) (D : va_G) (h : Nat → Nat) (cI cJ : ClassId) (lc : Int32) (la : Int32) (hr : Int32) (uP : Int32) (uC : Int32) (uR : Int32) (tn : Int32) (pn : Int32) (pg : Int32) (pq : Int32) (rl : Nat → Int32) (sr : Nat → Int32) (gcb : Nat → Int32) (gpb : Nat → Int64) (tg : Nat → Int32) (tm : Nat → Int32) (tl : Nat → Int32) (pm : Nat → Int32) (ps : Nat → Int32) (v1 : Int32) (xc0 : Nat) (hp : pf_X3_requireRow uR v1 = (some xc0)) : gMv l yX3_requireRow wsX3_requireRow rm_X3_requireRow D [(cI, .int), (cJ, .long)] (cW h cI cJ lc la hr uP uC uR tn pn pg pq rl sr gcb gpb tg tm tl pm ps) [.ref (h 0), .int v1] 1 6 (fun w => xc0 = 0 ∧ w = cW h cI cJ lc la hr uP uC uR tn pn pg pq rl sr gcb gpb tg tm tl pm ps) (fun E w => xc0 ≠ 0 ∧ E = g_exn xc0 ∧ w = cW h cI cJ lc la hr uP uC uR tn pn pg pq rl sr gcb gpb tg tm tl pm ps) := by
  refine gMv_of (cc := cX3_requireRow) (maxL := 2) hl (by decide +kernel) rfl (Nat.le_of_ble_eq_true rfl) ?_
  intro p e s m args below meth c A Q C hnm ht RET OUT THR THRW
  have C : gC p l s m args meth c A D [(cI, .int), (cJ, .long)] 2 RX3 cX3_requireRow wsX3_requireRow := C
  have THR := THR rfl
  have THRW := THRW rfl
  refine gV_loc (lvs' := [(0, .ref (h 0)), (1, .int v1)]) [0, 1] rfl ?_
  unfold pf_X3_requireRow at hp
  refine gV_aload_n C dX3_requireRow_0 rfl 0 rfl ?_
  refine gV_get (Cn := RX3) (T := TX3) (N := 8) C inw_X3_requireRow_X3 0 rfl rfl 0 (by decide) (C.w 3 rfl) rfl rfl dX3_requireRow_1 ?_
  refine gV_iload_n C dX3_requireRow_4 rfl 1 rfl ?_
  obtain ⟨r5q, hq5, hp⟩ := g_ob1 hp
  refine gV_calliS C (gV_runV (As := [.int v1]) (rest := []) C (mt_X1_has hl D h cI cJ lc la hr uP uC uR tn pn pg pq rl sr gcb gpb tg tm tl pm ps v1 r5q hq5) (cwV 1 C.2.2.2.2.1 gX3_requireRow_X1_has rfl rfl rfl hdv_X1_has ⟨Nat.le_of_ble_eq_true rfl, Nat.le_of_ble_eq_true rfl⟩) (gSub_S _) 1 rfl rfl rfl rfl (Nat.le_of_ble_eq_true rfl) dX3_requireRow_5 ⟨Nat.le_of_ble_eq_true rfl, Nat.le_of_ble_eq_true rfl⟩) (fun _ _ hx => False.elim hx) (fun r5 w1 hw => ?_)
  obtain ⟨rfl, rfl⟩ := hw
  refine gV_if_ne (tgt := 21) C dX3_requireRow_8 (by decide) (fun c8 => ?_) (fun c8 => ?_)
  · replace hp := g_iff hp c8
    obtain rfl := g_so1 hp
    exact RET _ _ _ _ _ dX3_requireRow_21 (Nat.le_of_ble_eq_true rfl) (Nat.le_of_ble_eq_true rfl) ⟨rfl, rfl⟩
  · replace hp := g_ift hp c8
    obtain rfl := g_so1 hp
    exact THR _ "no such row" 68 64 73 _ _ _ _ _ _ ⟨by decide, rfl, rfl⟩ tw_X3_requireRow_IOO (Or.inr (Or.inl rfl)) (by decide) dX3_requireRow_11 dX3_requireRow_14 dX3_requireRow_15 dX3_requireRow_17 dX3_requireRow_20 (Nat.le_of_ble_eq_true rfl) (Nat.le_of_ble_eq_true rfl) (Nat.le_of_ble_eq_true rfl) (Nat.le_of_ble_eq_true rfl) (Nat.le_of_ble_eq_true rfl) (Nat.le_of_ble_eq_true rfl)
def pf_X3_requirePossible  (uP : Int32) (v1 : Int32) : Option (Nat) := (ob1 (pf_X1_allows uP v1) fun r5 => (if r5 = 0 then (some 2) else (some 0)))
abbrev rm_X3_requirePossible : Room := { frames := 6, cells := 1, slots := 6, locals := 82 }
theorem inw_X3_requirePossible_X3 : ∀ w ∈ wsX30, w ∈ wsX3_requirePossible := by decide +kernel
theorem tw_X3_requirePossible_IAE : gTw wsX3_requirePossible "java/lang/IllegalArgumentException" 50 46 := ⟨gtw_IAE.1, List.mem_of_getElem? (i := 1) rfl, List.mem_of_getElem? (i := 2) rfl, fun w h => List.mem_cons_of_mem _ (List.mem_append_right _ h), gtw_IAE.2.1, gtw_IAE.2.2⟩
theorem hdv_X1_allows : yX1_allows.cls = RX1 ∧ yX1_allows.cls ≠ "java/lang/invoke/MethodHandle" ∧ yX1_allows.cls ≠ "java/lang/invoke/VarHandle" ∧ (parseMethodDescriptor yX1_allows.desc).map (fun d => d.parameters.length) = some 1 := by decide +kernel
set_option maxHeartbeats 4000000 in
set_option maxRecDepth 100000 in
theorem mt_X3_requirePossible {l : Launch} (hl : l.stackTraces = false) (D : va_G) (h : Nat → Nat) (cI cJ : ClassId) (lc : Int32) (la : Int32) (hr : Int32) (uP : Int32) (uC : Int32) (uR : Int32) (tn : Int32) (pn : Int32) (pg : Int32) (pq : Int32) (rl : Nat → Int32) (sr : Nat → Int32) (gcb : Nat → Int32) (gpb : Nat → Int64) (tg : Nat → Int32) (tm : Nat → Int32) (tl : Nat → Int32) (pm : Nat → Int32) (ps : Nat → Int32) (v1 : Int32) (xc0 : Nat) (hp : pf_X3_requirePossible uP v1 = (some xc0)) : gMv l yX3_requirePossible wsX3_requirePossible rm_X3_requirePossible D [(cI, .int), (cJ, .long)] (cW h cI cJ lc la hr uP uC uR tn pn pg pq rl sr gcb gpb tg tm tl pm ps) [.ref (h 0), .int v1] 1 6 (fun w => xc0 = 0 ∧ w = cW h cI cJ lc la hr uP uC uR tn pn pg pq rl sr gcb gpb tg tm tl pm ps) (fun E w => xc0 ≠ 0 ∧ E = g_exn xc0 ∧ w = cW h cI cJ lc la hr uP uC uR tn pn pg pq rl sr gcb gpb tg tm tl pm ps) := by
  refine gMv_of (cc := cX3_requirePossible) (maxL := 2) hl (by decide +kernel) rfl (Nat.le_of_ble_eq_true rfl) ?_
  intro p e s m args below meth c A Q C hnm ht RET OUT THR THRW
  have C : gC p l s m args meth c A D [(cI, .int), (cJ, .long)] 2 RX3 cX3_requirePossible wsX3_requirePossible := C
  have THR := THR rfl
  have THRW := THRW rfl
  refine gV_loc (lvs' := [(0, .ref (h 0)), (1, .int v1)]) [0, 1] rfl ?_
  unfold pf_X3_requirePossible at hp
  refine gV_aload_n C dX3_requirePossible_0 rfl 0 rfl ?_
  refine gV_get (Cn := RX3) (T := TX3) (N := 8) C inw_X3_requirePossible_X3 0 rfl rfl 0 (by decide) (C.w 3 rfl) rfl rfl dX3_requirePossible_1 ?_
  refine gV_iload_n C dX3_requirePossible_4 rfl 1 rfl ?_
  obtain ⟨r5q, hq5, hp⟩ := g_ob1 hp
  refine gV_calliS C (gV_runV (As := [.int v1]) (rest := []) C (mt_X1_allows hl D h cI cJ lc la hr uP uC uR tn pn pg pq rl sr gcb gpb tg tm tl pm ps v1 r5q hq5) (cwV 1 C.2.2.2.2.1 gX3_requirePossible_X1_allows rfl rfl rfl hdv_X1_allows ⟨Nat.le_of_ble_eq_true rfl, Nat.le_of_ble_eq_true rfl⟩) (gSub_S _) 1 rfl rfl rfl rfl (Nat.le_of_ble_eq_true rfl) dX3_requirePossible_5 ⟨Nat.le_of_ble_eq_true rfl, Nat.le_of_ble_eq_true rfl⟩) (fun _ _ hx => False.elim hx) (fun r5 w1 hw => ?_)
  obtain ⟨rfl, rfl⟩ := hw
  refine gV_if_ne (tgt := 21) C dX3_requirePossible_8 (by decide) (fun c8 => ?_) (fun c8 => ?_)
  · replace hp := g_iff hp c8
    obtain rfl := g_so1 hp
    exact RET _ _ _ _ _ dX3_requirePossible_21 (Nat.le_of_ble_eq_true rfl) (Nat.le_of_ble_eq_true rfl) ⟨rfl, rfl⟩
  · replace hp := g_ift hp c8
    obtain rfl := g_so1 hp
    exact THR _ "the mark is not possible" 50 46 104 _ _ _ _ _ _ ⟨by decide, rfl, rfl⟩ tw_X3_requirePossible_IAE (Or.inl rfl) (by decide) dX3_requirePossible_11 dX3_requirePossible_14 dX3_requirePossible_15 dX3_requirePossible_17 dX3_requirePossible_20 (Nat.le_of_ble_eq_true rfl) (Nat.le_of_ble_eq_true rfl) (Nat.le_of_ble_eq_true rfl) (Nat.le_of_ble_eq_true rfl) (Nat.le_of_ble_eq_true rfl) (Nat.le_of_ble_eq_true rfl)
def pf_X3_requireEntry  (tn : Int32) (v1 : Int32) : Option (Nat) := (ob1 (pf_X0_has tn v1) fun r5 => (if r5 = 0 then (some 1) else (some 0)))
abbrev rm_X3_requireEntry : Room := { frames := 6, cells := 1, slots := 6, locals := 82 }
theorem inw_X3_requireEntry_X3 : ∀ w ∈ wsX30, w ∈ wsX3_requireEntry := by decide +kernel
theorem tw_X3_requireEntry_IOO : gTw wsX3_requireEntry "java/lang/IndexOutOfBoundsException" 68 64 := ⟨gtw_IOO.1, List.mem_of_getElem? (i := 1) rfl, List.mem_of_getElem? (i := 2) rfl, fun w h => List.mem_cons_of_mem _ (List.mem_append_right _ h), gtw_IOO.2.1, gtw_IOO.2.2⟩
set_option maxHeartbeats 4000000 in
set_option maxRecDepth 100000 in
theorem mt_X3_requireEntry {l : Launch} (hl : l.stackTraces = false) (D : va_G) (h : Nat → Nat) (cI cJ : ClassId) (lc : Int32) (la : Int32) (hr : Int32) (uP : Int32) (uC : Int32) (uR : Int32) (tn : Int32) (pn : Int32) (pg : Int32) (pq : Int32) (rl : Nat → Int32) (sr : Nat → Int32) (gcb : Nat → Int32) (gpb : Nat → Int64) (tg : Nat → Int32) (tm : Nat → Int32) (tl : Nat → Int32) (pm : Nat → Int32) (ps : Nat → Int32) (v1 : Int32) (xc0 : Nat) (hp : pf_X3_requireEntry tn v1 = (some xc0)) : gMv l yX3_requireEntry wsX3_requireEntry rm_X3_requireEntry D [(cI, .int), (cJ, .long)] (cW h cI cJ lc la hr uP uC uR tn pn pg pq rl sr gcb gpb tg tm tl pm ps) [.ref (h 0), .int v1] 1 6 (fun w => xc0 = 0 ∧ w = cW h cI cJ lc la hr uP uC uR tn pn pg pq rl sr gcb gpb tg tm tl pm ps) (fun E w => xc0 ≠ 0 ∧ E = g_exn xc0 ∧ w = cW h cI cJ lc la hr uP uC uR tn pn pg pq rl sr gcb gpb tg tm tl pm ps) := by
  refine gMv_of (cc := cX3_requireEntry) (maxL := 2) hl (by decide +kernel) rfl (Nat.le_of_ble_eq_true rfl) ?_
  intro p e s m args below meth c A Q C hnm ht RET OUT THR THRW
  have C : gC p l s m args meth c A D [(cI, .int), (cJ, .long)] 2 RX3 cX3_requireEntry wsX3_requireEntry := C
  have THR := THR rfl
  have THRW := THRW rfl
  refine gV_loc (lvs' := [(0, .ref (h 0)), (1, .int v1)]) [0, 1] rfl ?_
  unfold pf_X3_requireEntry at hp
  refine gV_aload_n C dX3_requireEntry_0 rfl 0 rfl ?_
  refine gV_get (Cn := RX3) (T := TX3) (N := 8) C inw_X3_requireEntry_X3 0 rfl rfl 1 (by decide) (C.w 3 rfl) rfl rfl dX3_requireEntry_1 ?_
  refine gV_iload_n C dX3_requireEntry_4 rfl 1 rfl ?_
  obtain ⟨r5q, hq5, hp⟩ := g_ob1 hp
  refine gV_calliS C (gV_runV (As := [.int v1]) (rest := []) C (mt_X0_has hl D h cI cJ lc la hr uP uC uR tn pn pg pq rl sr gcb gpb tg tm tl pm ps v1 r5q hq5) (cwV 1 C.2.2.2.2.1 gX3_requireEntry_X0_has rfl rfl rfl hdv_X0_has ⟨Nat.le_of_ble_eq_true rfl, Nat.le_of_ble_eq_true rfl⟩) (gSub_S _) 2 rfl rfl rfl rfl (Nat.le_of_ble_eq_true rfl) dX3_requireEntry_5 ⟨Nat.le_of_ble_eq_true rfl, Nat.le_of_ble_eq_true rfl⟩) (fun _ _ hx => False.elim hx) (fun r5 w1 hw => ?_)
  obtain ⟨rfl, rfl⟩ := hw
  refine gV_if_ne (tgt := 21) C dX3_requireEntry_8 (by decide) (fun c8 => ?_) (fun c8 => ?_)
  · replace hp := g_iff hp c8
    obtain rfl := g_so1 hp
    exact RET _ _ _ _ _ dX3_requireEntry_21 (Nat.le_of_ble_eq_true rfl) (Nat.le_of_ble_eq_true rfl) ⟨rfl, rfl⟩
  · replace hp := g_ift hp c8
    obtain rfl := g_so1 hp
    exact THR _ "no such entry" 68 64 154 _ _ _ _ _ _ ⟨by decide, rfl, rfl⟩ tw_X3_requireEntry_IOO (Or.inr (Or.inl rfl)) (by decide) dX3_requireEntry_11 dX3_requireEntry_14 dX3_requireEntry_15 dX3_requireEntry_17 dX3_requireEntry_20 (Nat.le_of_ble_eq_true rfl) (Nat.le_of_ble_eq_true rfl) (Nat.le_of_ble_eq_true rfl) (Nat.le_of_ble_eq_true rfl) (Nat.le_of_ble_eq_true rfl) (Nat.le_of_ble_eq_true rfl)
def pf_X3_remains_j20  (s0 : Int32) : Option (Int32) := (gz s0 ((some s0)))
def pf_X3_remains  (la : Int32) (uR : Int32) (tn : Int32) (tl : Nat → Int32) (v1 : Int32) : Option (Int32) := (ob1 (pf_X0_countLies uR tn tl v1) fun r5 => (if la < r5 then (pf_X3_remains_j20 0) else (pf_X3_remains_j20 1)))
abbrev rm_X3_remains : Room := { frames := 3, cells := 0, slots := 0, locals := 64 }
theorem inw_X3_remains_X3 : ∀ w ∈ wsX30, w ∈ wsX3_remains := by decide +kernel
theorem hdv_X0_countLies : yX0_countLies.cls = RX0 ∧ yX0_countLies.cls ≠ "java/lang/invoke/MethodHandle" ∧ yX0_countLies.cls ≠ "java/lang/invoke/VarHandle" ∧ (parseMethodDescriptor yX0_countLies.desc).map (fun d => d.parameters.length) = some 1 := by decide +kernel
set_option maxHeartbeats 4000000 in
set_option maxRecDepth 100000 in
theorem mt_X3_remains {l : Launch} (hl : l.stackTraces = false) (D : va_G) (h : Nat → Nat) (cI cJ : ClassId) (lc : Int32) (la : Int32) (hr : Int32) (uP : Int32) (uC : Int32) (uR : Int32) (tn : Int32) (pn : Int32) (pg : Int32) (pq : Int32) (rl : Nat → Int32) (sr : Nat → Int32) (gcb : Nat → Int32) (gpb : Nat → Int64) (tg : Nat → Int32) (tm : Nat → Int32) (tl : Nat → Int32) (pm : Nat → Int32) (ps : Nat → Int32) (v1 : Int32) (r0 : Int32) (hp : pf_X3_remains la uR tn tl v1 = (some r0)) : gMi l yX3_remains wsX3_remains rm_X3_remains D [(cI, .int), (cJ, .long)] (cW h cI cJ lc la hr uP uC uR tn pn pg pq rl sr gcb gpb tg tm tl pm ps) [.ref (h 0), .int v1] 0 0 (fun r w => r = r0 ∧ w = cW h cI cJ lc la hr uP uC uR tn pn pg pq rl sr gcb gpb tg tm tl pm ps) (fun _ _ => False) := by
  refine gMi_of (cc := cX3_remains) (maxL := 2) (rt := .boolean) hl (by decide +kernel) rfl (Nat.le_of_ble_eq_true rfl) ?_
  intro p e s m args below meth c A Q C hnm ht RET OUT THR THRW
  have C : gC p l s m args meth c A D [(cI, .int), (cJ, .long)] 2 RX3 cX3_remains wsX3_remains := C
  refine gV_loc (lvs' := [(0, .ref (h 0)), (1, .int v1)]) [0, 1] rfl ?_
  unfold pf_X3_remains at hp
  have J20 : ∀ (s0 : Int32), pf_X3_remains_j20 s0 = (some r0) → gV p l e rm_X3_remains s m args below meth c A D 2 Q (cW h cI cJ lc la hr uP uC uR tn pn pg pq rl sr gcb gpb tg tm tl pm ps) [(0, .ref (h 0))] 0 0 20 [.int s0] := by
    intro s0 hp
    unfold pf_X3_remains_j20 at hp
    obtain ⟨hz20, hp⟩ := g_bool hp
    obtain rfl := g_so1 hp
    exact RET _ _ _ _ _ _ dX3_remains_20 (Nat.le_of_ble_eq_true rfl) (Nat.le_of_ble_eq_true rfl) (g_nz hz20) ⟨rfl, rfl⟩
  refine gV_aload_n C dX3_remains_0 rfl 0 rfl ?_
  refine gV_get (Cn := RX3) (T := TX3) (N := 8) C inw_X3_remains_X3 0 rfl rfl 1 (by decide) (C.w 1 rfl) rfl rfl dX3_remains_1 ?_
  refine gV_iload_n C dX3_remains_4 rfl 1 rfl ?_
  obtain ⟨r5q, hq5, hp⟩ := g_ob1 hp
  refine gV_calliS C (gV_runV (As := [.int v1]) (rest := []) C (mt_X0_countLies hl D h cI cJ lc la hr uP uC uR tn pn pg pq rl sr gcb gpb tg tm tl pm ps v1 r5q hq5) (cwV 1 C.2.2.2.2.1 gX3_remains_X0_countLies rfl rfl rfl hdv_X0_countLies ⟨Nat.le_of_ble_eq_true rfl, Nat.le_of_ble_eq_true rfl⟩) (gSub_S _) 2 rfl rfl rfl rfl (Nat.le_of_ble_eq_true rfl) dX3_remains_5 ⟨Nat.le_of_ble_eq_true rfl, Nat.le_of_ble_eq_true rfl⟩) (fun _ _ hx => False.elim hx) (fun r5 w1 hw => ?_)
  obtain ⟨rfl, rfl⟩ := hw
  refine gV_aload_n C dX3_remains_8 rfl 0 rfl ?_
  refine gV_get (Cn := RX3) (T := TX3) (N := 8) C inw_X3_remains_X3 0 rfl rfl 6 (by decide) (C.w 2 rfl) rfl rfl dX3_remains_9 ?_
  refine gV_icmp_gt (tgt := 19) C dX3_remains_12 (by decide) (fun c12 => ?_) (fun c12 => ?_)
  · replace hp := g_ift hp c12
    refine gV_iconst (v := 0) C dX3_remains_19 rfl ?_
    refine gV_loc [0] rfl ?_
    exact J20 0 hp
  · replace hp := g_iff hp c12
    refine gV_iconst (v := 1) C dX3_remains_15 rfl ?_
    refine gV_goto (tgt := 20) C dX3_remains_16 (by decide) ?_
    refine gV_loc [0] rfl ?_
    exact J20 1 hp
def pf_X3_listRowsLeft_j58  (kL7 : Int32 → Int32 → (Nat → Int32) → Option (Int32 × (Nat → Int32))) (v1 : Int32) (lc : Int32) (rl : Nat → Int32) : Option (Int32 × (Nat → Int32)) := (kL7 (v1 + 1) lc rl)
def pf_X3_listRowsLeft_L7 (la : Int32) (uR : Int32) (tn : Int32) (tl : Nat → Int32) : Nat → Int32 → Int32 → (Nat → Int32) → Option (Int32 × (Nat → Int32))
  | 0, _, _, _ => none
  | n7 + 1, v1, lc, rl => (if uR ≤ v1 then (some (lc, rl)) else (ob1 (pf_X3_remains la uR tn tl v1) fun r20 => (if r20 = 0 then (pf_X3_listRowsLeft_j58 (fun v1 lc rl => pf_X3_listRowsLeft_L7 la uR tn tl n7 v1 lc rl) v1 lc rl) else (if 256 ≤ lc then (pf_X3_listRowsLeft_j58 (fun v1 lc rl => pf_X3_listRowsLeft_L7 la uR tn tl n7 v1 lc rl) v1 lc rl) else (gi lc 256 (pf_X3_listRowsLeft_j58 (fun v1 lc rl => pf_X3_listRowsLeft_L7 la uR tn tl n7 v1 lc rl) v1 (lc + 1) (upd rl lc.toNatClampNeg v1)))))))
def pf_X3_listRowsLeft  (lc : Int32) (la : Int32) (uR : Int32) (tn : Int32) (rl : Nat → Int32) (tl : Nat → Int32)  : Option (Int32 × (Nat → Int32)) := (pf_X3_listRowsLeft_L7 la uR tn tl 100000 0 0 rl)
abbrev rm_X3_listRowsLeft : Room := { frames := 4, cells := 0, slots := 0, locals := 85 }
theorem inw_X3_listRowsLeft_X1 : ∀ w ∈ wsX10, w ∈ wsX3_listRowsLeft := by decide +kernel
theorem inw_X3_listRowsLeft_X3 : ∀ w ∈ wsX30, w ∈ wsX3_listRowsLeft := by decide +kernel
theorem hdv_X3_remains : yX3_remains.cls = RX3 ∧ yX3_remains.cls ≠ "java/lang/invoke/MethodHandle" ∧ yX3_remains.cls ≠ "java/lang/invoke/VarHandle" ∧ (parseMethodDescriptor yX3_remains.desc).map (fun d => d.parameters.length) = some 1 := by decide +kernel
set_option maxHeartbeats 4000000 in
set_option maxRecDepth 100000 in
theorem mt_X3_listRowsLeft {l : Launch} (hl : l.stackTraces = false) (D : va_G) (h : Nat → Nat) (cI cJ : ClassId) (lc : Int32) (la : Int32) (hr : Int32) (uP : Int32) (uC : Int32) (uR : Int32) (tn : Int32) (pn : Int32) (pg : Int32) (pq : Int32) (rl : Nat → Int32) (sr : Nat → Int32) (gcb : Nat → Int32) (gpb : Nat → Int64) (tg : Nat → Int32) (tm : Nat → Int32) (tl : Nat → Int32) (pm : Nat → Int32) (ps : Nat → Int32)  (lc0 : Int32) (rl0 : Nat → Int32) (hp : pf_X3_listRowsLeft lc la uR tn rl tl = (some (lc0, rl0))) : gMv l yX3_listRowsLeft wsX3_listRowsLeft rm_X3_listRowsLeft D [(cI, .int), (cJ, .long)] (cW h cI cJ lc la hr uP uC uR tn pn pg pq rl sr gcb gpb tg tm tl pm ps) [.ref (h 0)] 0 0 (fun w => w = cW h cI cJ lc0 la hr uP uC uR tn pn pg pq rl0 sr gcb gpb tg tm tl pm ps) (fun _ _ => False) := by
  refine gMv_of (cc := cX3_listRowsLeft) (maxL := 2) hl (by decide +kernel) rfl (Nat.le_of_ble_eq_true rfl) ?_
  intro p e s m args below meth c A Q C hnm ht RET OUT THR THRW
  have C : gC p l s m args meth c A D [(cI, .int), (cJ, .long)] 2 RX3 cX3_listRowsLeft wsX3_listRowsLeft := C
  refine gV_loc (lvs' := [(0, .ref (h 0))]) [0] rfl ?_
  unfold pf_X3_listRowsLeft at hp
  have L7 : ∀ (n7 : Nat) (v1 : Int32) (lc : Int32) (rl : Nat → Int32), pf_X3_listRowsLeft_L7 la uR tn tl n7 v1 lc rl = (some (lc0, rl0)) → gV p l e rm_X3_listRowsLeft s m args below meth c A D 2 Q (cW h cI cJ lc la hr uP uC uR tn pn pg pq rl sr gcb gpb tg tm tl pm ps) [(0, .ref (h 0)), (1, .int v1)] 0 0 7 [] := by
    intro n7
    induction n7 with
    | zero => intro v1 lc rl hp; exact g_none hp
    | succ n7 ih7 =>
      intro v1 lc rl hp
      rw [pf_X3_listRowsLeft_L7.eq_2] at hp
      have J58 : ∀ (v1 : Int32) (lc : Int32) (rl : Nat → Int32), pf_X3_listRowsLeft_j58 (fun v1 lc rl => pf_X3_listRowsLeft_L7 la uR tn tl n7 v1 lc rl) v1 lc rl = (some (lc0, rl0)) → gV p l e rm_X3_listRowsLeft s m args below meth c A D 2 Q (cW h cI cJ lc la hr uP uC uR tn pn pg pq rl sr gcb gpb tg tm tl pm ps) [(0, .ref (h 0)), (1, .int v1)] 0 0 58 [] := by
        intro v1 lc rl hp
        unfold pf_X3_listRowsLeft_j58 at hp
        refine gV_iinc (v := (v1 + 1)) (lvs' := [(1, .int (v1 + 1)), (0, .ref (h 0))]) C dX3_listRowsLeft_58 1 rfl rfl (by decide) rfl ?_
        refine gV_goto (tgt := 7) C dX3_listRowsLeft_61 (by decide) ?_
        refine gV_loc [1, 0] rfl ?_
        exact ih7 (v1 + 1) lc rl hp
      refine gV_iload_n C dX3_listRowsLeft_7 rfl 1 rfl ?_
      refine gV_aload_n C dX3_listRowsLeft_8 rfl 0 rfl ?_
      refine gV_get (Cn := RX3) (T := TX3) (N := 8) C inw_X3_listRowsLeft_X3 0 rfl rfl 0 (by decide) (C.w 2 rfl) rfl rfl dX3_listRowsLeft_9 ?_
      refine gV_get (Cn := RX1) (T := TX1) (N := 5) C inw_X3_listRowsLeft_X1 1 rfl rfl 2 (by decide) (C.w 3 rfl) rfl rfl dX3_listRowsLeft_12 ?_
      refine gV_icmp_ge (tgt := 64) C dX3_listRowsLeft_15 (by decide) (fun c15 => ?_) (fun c15 => ?_)
      · replace hp := g_ift hp c15
        obtain ⟨rfl, rfl⟩ := g_so2 hp
        exact RET _ _ _ _ _ dX3_listRowsLeft_64 (Nat.le_of_ble_eq_true rfl) (Nat.le_of_ble_eq_true rfl) rfl
      · replace hp := g_iff hp c15
        refine gV_aload_n C dX3_listRowsLeft_18 rfl 0 rfl ?_
        refine gV_iload_n C dX3_listRowsLeft_19 rfl 1 rfl ?_
        obtain ⟨r20q, hq20, hp⟩ := g_ob1 hp
        refine gV_calliS C (gV_runV (As := [.int v1]) (rest := []) C (mt_X3_remains hl D h cI cJ lc la hr uP uC uR tn pn pg pq rl sr gcb gpb tg tm tl pm ps v1 r20q hq20) (cwV 1 C.2.2.2.2.1 gX3_listRowsLeft_X3_remains rfl rfl rfl hdv_X3_remains ⟨Nat.le_of_ble_eq_true rfl, Nat.le_of_ble_eq_true rfl⟩) (gSub_S _) 0 rfl rfl rfl rfl (Nat.le_of_ble_eq_true rfl) dX3_listRowsLeft_20 ⟨Nat.le_of_ble_eq_true rfl, Nat.le_of_ble_eq_true rfl⟩) (fun _ _ hx => False.elim hx) (fun r20 w1 hw => ?_)
        obtain ⟨rfl, rfl⟩ := hw
        refine gV_if_eq (tgt := 58) C dX3_listRowsLeft_23 (by decide) (fun c23 => ?_) (fun c23 => ?_)
        · replace hp := g_ift hp c23
          exact J58 v1 lc rl hp
        · replace hp := g_iff hp c23
          refine gV_aload_n C dX3_listRowsLeft_26 rfl 0 rfl ?_
          refine gV_get (Cn := RX3) (T := TX3) (N := 8) C inw_X3_listRowsLeft_X3 0 rfl rfl 5 (by decide) (C.w 1 rfl) rfl rfl dX3_listRowsLeft_27 ?_
          refine gV_aload_n C dX3_listRowsLeft_30 rfl 0 rfl ?_
          refine gV_get (Cn := RX3) (T := TX3) (N := 8) C inw_X3_listRowsLeft_X3 0 rfl rfl 3 (by decide) (C.w 4 rfl) rfl rfl dX3_listRowsLeft_31 ?_
          refine gV_alen (v := 256) C 4 rfl 0 rfl rfl dX3_listRowsLeft_34 ?_
          refine gV_icmp_ge (tgt := 58) C dX3_listRowsLeft_35 (by decide) (fun c35 => ?_) (fun c35 => ?_)
          · replace hp := g_ift hp c35
            exact J58 v1 lc rl hp
          · replace hp := g_iff hp c35
            refine gV_aload_n C dX3_listRowsLeft_38 rfl 0 rfl ?_
            refine gV_get (Cn := RX3) (T := TX3) (N := 8) C inw_X3_listRowsLeft_X3 0 rfl rfl 3 (by decide) (C.w 4 rfl) rfl rfl dX3_listRowsLeft_39 ?_
            refine gV_aload_n C dX3_listRowsLeft_42 rfl 0 rfl ?_
            refine gV_get (Cn := RX3) (T := TX3) (N := 8) C inw_X3_listRowsLeft_X3 0 rfl rfl 5 (by decide) (C.w 1 rfl) rfl rfl dX3_listRowsLeft_43 ?_
            refine gV_iload_n C dX3_listRowsLeft_46 rfl 1 rfl ?_
            obtain ⟨hi47, hp⟩ := g_idx hp
            refine gV_iast (ws' := cW h cI cJ lc la hr uP uC uR tn pn pg pq (upd rl lc.toNatClampNeg v1) sr gcb gpb tg tm tl pm ps) C 4 rfl 0 rfl hi47 dX3_listRowsLeft_47 rfl ?_
            refine gV_aload_n C dX3_listRowsLeft_48 rfl 0 rfl ?_
            refine gV_dup C dX3_listRowsLeft_49 rfl ?_
            refine gV_get (Cn := RX3) (T := TX3) (N := 8) C inw_X3_listRowsLeft_X3 0 rfl rfl 5 (by decide) (C.w 1 rfl) rfl rfl dX3_listRowsLeft_50 ?_
            refine gV_iconst (v := 1) C dX3_listRowsLeft_53 rfl ?_
            refine gV_iadd C dX3_listRowsLeft_54 ?_
            refine gV_put (Cn := RX3) (T := TX3) (N := 8) (ws' := cW h cI cJ (lc + 1) la hr uP uC uR tn pn pg pq (upd rl lc.toNatClampNeg v1) sr gcb gpb tg tm tl pm ps) C inw_X3_listRowsLeft_X3 tyX3_ok nmX3 0 rfl rfl 5 (by decide) (C.w 1 rfl) rfl rfl rfl rfl rfl (Nat.le_of_ble_eq_true rfl) dX3_listRowsLeft_55 rfl ?_
            exact J58 v1 (lc + 1) (upd rl lc.toNatClampNeg v1) hp
  refine gV_aload_n C dX3_listRowsLeft_0 rfl 0 rfl ?_
  refine gV_iconst (v := 0) C dX3_listRowsLeft_1 rfl ?_
  refine gV_put (Cn := RX3) (T := TX3) (N := 8) (ws' := cW h cI cJ 0 la hr uP uC uR tn pn pg pq rl sr gcb gpb tg tm tl pm ps) C inw_X3_listRowsLeft_X3 tyX3_ok nmX3 0 rfl rfl 5 (by decide) (C.w 1 rfl) rfl rfl rfl rfl rfl (Nat.le_of_ble_eq_true rfl) dX3_listRowsLeft_2 rfl ?_
  refine gV_iconst (v := 0) C dX3_listRowsLeft_5 rfl ?_
  refine gV_istore_n (lvs' := [(1, .int 0), (0, .ref (h 0))]) C dX3_listRowsLeft_6 rfl (by decide) rfl ?_
  refine gV_loc [1, 0] rfl ?_
  exact L7 100000 0 0 rl hp
def pf_X3_tellNothing  (lc : Int32) (la : Int32) (hr : Int32) (uR : Int32) (tn : Int32) (rl : Nat → Int32) (tl : Nat → Int32)  : Option (Int32 × Int32 × Int32 × Int32 × (Nat → Int32) × (Nat → Int32)) := (ob2 (pf_X0_forgetAll tn tl) fun tn_4 tl_4 => (ob2 (pf_X3_listRowsLeft lc 0 uR tn_4 rl tl_4) fun lc_18 rl_18 => (some (lc_18, 0, (-1), tn_4, rl_18, tl_4))))
abbrev rm_X3_tellNothing : Room := { frames := 5, cells := 0, slots := 0, locals := 106 }
theorem inw_X3_tellNothing_X3 : ∀ w ∈ wsX30, w ∈ wsX3_tellNothing := by decide +kernel
theorem hdv_X0_forgetAll : yX0_forgetAll.cls = RX0 ∧ yX0_forgetAll.cls ≠ "java/lang/invoke/MethodHandle" ∧ yX0_forgetAll.cls ≠ "java/lang/invoke/VarHandle" ∧ (parseMethodDescriptor yX0_forgetAll.desc).map (fun d => d.parameters.length) = some 0 := by decide +kernel
theorem hdv_X3_listRowsLeft : yX3_listRowsLeft.cls = RX3 ∧ yX3_listRowsLeft.cls ≠ "java/lang/invoke/MethodHandle" ∧ yX3_listRowsLeft.cls ≠ "java/lang/invoke/VarHandle" ∧ (parseMethodDescriptor yX3_listRowsLeft.desc).map (fun d => d.parameters.length) = some 0 := by decide +kernel
set_option maxHeartbeats 4000000 in
set_option maxRecDepth 100000 in
theorem mt_X3_tellNothing {l : Launch} (hl : l.stackTraces = false) (D : va_G) (h : Nat → Nat) (cI cJ : ClassId) (lc : Int32) (la : Int32) (hr : Int32) (uP : Int32) (uC : Int32) (uR : Int32) (tn : Int32) (pn : Int32) (pg : Int32) (pq : Int32) (rl : Nat → Int32) (sr : Nat → Int32) (gcb : Nat → Int32) (gpb : Nat → Int64) (tg : Nat → Int32) (tm : Nat → Int32) (tl : Nat → Int32) (pm : Nat → Int32) (ps : Nat → Int32)  (lc0 : Int32) (la0 : Int32) (hr0 : Int32) (tn0 : Int32) (rl0 : Nat → Int32) (tl0 : Nat → Int32) (hp : pf_X3_tellNothing lc la hr uR tn rl tl = (some (lc0, la0, hr0, tn0, rl0, tl0))) : gMv l yX3_tellNothing wsX3_tellNothing rm_X3_tellNothing D [(cI, .int), (cJ, .long)] (cW h cI cJ lc la hr uP uC uR tn pn pg pq rl sr gcb gpb tg tm tl pm ps) [.ref (h 0)] 0 0 (fun w => w = cW h cI cJ lc0 la0 hr0 uP uC uR tn0 pn pg pq rl0 sr gcb gpb tg tm tl0 pm ps) (fun _ _ => False) := by
  refine gMv_of (cc := cX3_tellNothing) (maxL := 1) hl (by decide +kernel) rfl (Nat.le_of_ble_eq_true rfl) ?_
  intro p e s m args below meth c A Q C hnm ht RET OUT THR THRW
  have C : gC p l s m args meth c A D [(cI, .int), (cJ, .long)] 1 RX3 cX3_tellNothing wsX3_tellNothing := C
  refine gV_loc (lvs' := [(0, .ref (h 0))]) [0] rfl ?_
  unfold pf_X3_tellNothing at hp
  refine gV_aload_n C dX3_tellNothing_0 rfl 0 rfl ?_
  refine gV_get (Cn := RX3) (T := TX3) (N := 8) C inw_X3_tellNothing_X3 0 rfl rfl 1 (by decide) (C.w 1 rfl) rfl rfl dX3_tellNothing_1 ?_
  obtain ⟨tn_4, tl_4, hq4, hp⟩ := g_ob2 hp
  refine gV_callvS C (gV_runV (As := []) (rest := []) C (mt_X0_forgetAll hl D h cI cJ lc la hr uP uC uR tn pn pg pq rl sr gcb gpb tg tm tl pm ps tn_4 tl_4 hq4) (cwV 0 C.2.2.2.2.1 gX3_tellNothing_X0_forgetAll rfl rfl rfl hdv_X0_forgetAll ⟨Nat.le_of_ble_eq_true rfl, Nat.le_of_ble_eq_true rfl⟩) (gSub_S _) 2 rfl rfl rfl rfl (Nat.le_of_ble_eq_true rfl) dX3_tellNothing_4 ⟨Nat.le_of_ble_eq_true rfl, Nat.le_of_ble_eq_true rfl⟩) (fun _ _ hx => False.elim hx) (fun w1 hw => ?_)
  obtain rfl := hw
  refine gV_aload_n C dX3_tellNothing_7 rfl 0 rfl ?_
  refine gV_iconst (v := 0) C dX3_tellNothing_8 rfl ?_
  refine gV_put (Cn := RX3) (T := TX3) (N := 8) (ws' := cW h cI cJ lc 0 hr uP uC uR tn_4 pn pg pq rl sr gcb gpb tg tm tl_4 pm ps) C inw_X3_tellNothing_X3 tyX3_ok nmX3 0 rfl rfl 6 (by decide) (C.w 2 rfl) rfl rfl rfl rfl rfl (Nat.le_of_ble_eq_true rfl) dX3_tellNothing_9 rfl ?_
  refine gV_aload_n C dX3_tellNothing_12 rfl 0 rfl ?_
  refine gV_iconst (v := (-1)) C dX3_tellNothing_13 rfl ?_
  refine gV_put (Cn := RX3) (T := TX3) (N := 8) (ws' := cW h cI cJ lc 0 (-1) uP uC uR tn_4 pn pg pq rl sr gcb gpb tg tm tl_4 pm ps) C inw_X3_tellNothing_X3 tyX3_ok nmX3 0 rfl rfl 7 (by decide) (C.w 3 rfl) rfl rfl rfl rfl rfl (Nat.le_of_ble_eq_true rfl) dX3_tellNothing_14 rfl ?_
  refine gV_aload_n C dX3_tellNothing_17 rfl 0 rfl ?_
  obtain ⟨lc_18, rl_18, hq18, hp⟩ := g_ob2 hp
  refine gV_callvS C (gV_runV (As := []) (rest := []) C (mt_X3_listRowsLeft hl D h cI cJ lc 0 (-1) uP uC uR tn_4 pn pg pq rl sr gcb gpb tg tm tl_4 pm ps lc_18 rl_18 hq18) (cwV 0 C.2.2.2.2.1 gX3_tellNothing_X3_listRowsLeft rfl rfl rfl hdv_X3_listRowsLeft ⟨Nat.le_of_ble_eq_true rfl, Nat.le_of_ble_eq_true rfl⟩) (gSub_S _) 0 rfl rfl rfl rfl (Nat.le_of_ble_eq_true rfl) dX3_tellNothing_18 ⟨Nat.le_of_ble_eq_true rfl, Nat.le_of_ble_eq_true rfl⟩) (fun _ _ hx => False.elim hx) (fun w1 hw => ?_)
  obtain rfl := hw
  obtain ⟨rfl, rfl, rfl, rfl, rfl, rfl⟩ := g_so6 hp
  exact RET _ _ _ _ _ dX3_tellNothing_21 (Nat.le_of_ble_eq_true rfl) (Nat.le_of_ble_eq_true rfl) rfl
def pf_X3_begin  (lc : Int32) (la : Int32) (hr : Int32) (uP : Int32) (uC : Int32) (uR : Int32) (tn : Int32) (rl : Nat → Int32) (gcb : Nat → Int32) (gpb : Nat → Int64) (tl : Nat → Int32) (v1 : Int32) (v2 : Int32) : Option (Nat × Int32 × Int32 × Int32 × Int32 × Int32 × Int32 × Int32 × Int32 × (Nat → Int32) × (Nat → Int32) × (Nat → Int64) × (Nat → Int32)) := (ob6 (pf_X1_lay uP uC uR gcb gpb v1 v2) fun r6 uP_6 uC_6 uR_6 gcb_6 gpb_6 => (if r6 = 0 then (some (2, 0, lc, la, hr, uP_6, uC_6, uR_6, tn, rl, gcb_6, gpb_6, tl)) else (ob6 (pf_X3_tellNothing lc la hr uR_6 tn rl tl) fun lc_23 la_23 hr_23 tn_23 rl_23 tl_23 => (some (0, uR_6, lc_23, la_23, hr_23, uP_6, uC_6, uR_6, tn_23, rl_23, gcb_6, gpb_6, tl_23)))))
abbrev rm_X3_begin : Room := { frames := 6, cells := 1, slots := 6, locals := 126 }
theorem inw_X3_begin_X1 : ∀ w ∈ wsX10, w ∈ wsX3_begin := by decide +kernel
theorem inw_X3_begin_X3 : ∀ w ∈ wsX30, w ∈ wsX3_begin := by decide +kernel
theorem tw_X3_begin_IAE : gTw wsX3_begin "java/lang/IllegalArgumentException" 50 46 := ⟨gtw_IAE.1, List.mem_of_getElem? (i := 1) rfl, List.mem_of_getElem? (i := 2) rfl, fun w h => List.mem_cons_of_mem _ (List.mem_append_right _ h), gtw_IAE.2.1, gtw_IAE.2.2⟩
theorem hdv_X1_lay : yX1_lay.cls = RX1 ∧ yX1_lay.cls ≠ "java/lang/invoke/MethodHandle" ∧ yX1_lay.cls ≠ "java/lang/invoke/VarHandle" ∧ (parseMethodDescriptor yX1_lay.desc).map (fun d => d.parameters.length) = some 2 := by decide +kernel
theorem hdv_X3_tellNothing : yX3_tellNothing.cls = RX3 ∧ yX3_tellNothing.cls ≠ "java/lang/invoke/MethodHandle" ∧ yX3_tellNothing.cls ≠ "java/lang/invoke/VarHandle" ∧ (parseMethodDescriptor yX3_tellNothing.desc).map (fun d => d.parameters.length) = some 0 := by decide +kernel
set_option maxHeartbeats 4000000 in
set_option maxRecDepth 100000 in
theorem mt_X3_begin {l : Launch} (hl : l.stackTraces = false) (D : va_G) (h : Nat → Nat) (cI cJ : ClassId) (lc : Int32) (la : Int32) (hr : Int32) (uP : Int32) (uC : Int32) (uR : Int32) (tn : Int32) (pn : Int32) (pg : Int32) (pq : Int32) (rl : Nat → Int32) (sr : Nat → Int32) (gcb : Nat → Int32) (gpb : Nat → Int64) (tg : Nat → Int32) (tm : Nat → Int32) (tl : Nat → Int32) (pm : Nat → Int32) (ps : Nat → Int32) (v1 : Int32) (v2 : Int32) (xc0 : Nat) (r0 : Int32) (lc0 : Int32) (la0 : Int32) (hr0 : Int32) (uP0 : Int32) (uC0 : Int32) (uR0 : Int32) (tn0 : Int32) (rl0 : Nat → Int32) (gcb0 : Nat → Int32) (gpb0 : Nat → Int64) (tl0 : Nat → Int32) (hp : pf_X3_begin lc la hr uP uC uR tn rl gcb gpb tl v1 v2 = (some (xc0, r0, lc0, la0, hr0, uP0, uC0, uR0, tn0, rl0, gcb0, gpb0, tl0))) : gMi l yX3_begin wsX3_begin rm_X3_begin D [(cI, .int), (cJ, .long)] (cW h cI cJ lc la hr uP uC uR tn pn pg pq rl sr gcb gpb tg tm tl pm ps) [.ref (h 0), .int v1, .int v2] 1 6 (fun r w => xc0 = 0 ∧ r = r0 ∧ w = cW h cI cJ lc0 la0 hr0 uP0 uC0 uR0 tn0 pn pg pq rl0 sr gcb0 gpb0 tg tm tl0 pm ps) (fun E w => xc0 ≠ 0 ∧ E = g_exn xc0 ∧ w = cW h cI cJ lc0 la0 hr0 uP0 uC0 uR0 tn0 pn pg pq rl0 sr gcb0 gpb0 tg tm tl0 pm ps) := by
  refine gMi_of (cc := cX3_begin) (maxL := 3) (rt := .int) hl (by decide +kernel) rfl (Nat.le_of_ble_eq_true rfl) ?_
  intro p e s m args below meth c A Q C hnm ht RET OUT THR THRW
  have C : gC p l s m args meth c A D [(cI, .int), (cJ, .long)] 3 RX3 cX3_begin wsX3_begin := C
  have THR := THR rfl
  have THRW := THRW rfl
  refine gV_loc (lvs' := [(0, .ref (h 0)), (1, .int v1), (2, .int v2)]) [0, 1, 2] rfl ?_
  unfold pf_X3_begin at hp
  refine gV_aload_n C dX3_begin_0 rfl 0 rfl ?_
  refine gV_get (Cn := RX3) (T := TX3) (N := 8) C inw_X3_begin_X3 0 rfl rfl 0 (by decide) (C.w 3 rfl) rfl rfl dX3_begin_1 ?_
  refine gV_iload_n C dX3_begin_4 rfl 1 rfl ?_
  refine gV_iload_n C dX3_begin_5 rfl 2 rfl ?_
  obtain ⟨r6q, uP_6, uC_6, uR_6, gcb_6, gpb_6, hq6, hp⟩ := g_ob6 hp
  refine gV_calliS C (gV_runV (As := [.int v1, .int v2]) (rest := []) C (mt_X1_lay hl D h cI cJ lc la hr uP uC uR tn pn pg pq rl sr gcb gpb tg tm tl pm ps v1 v2 r6q uP_6 uC_6 uR_6 gcb_6 gpb_6 hq6) (cwV 2 C.2.2.2.2.1 gX3_begin_X1_lay rfl rfl rfl hdv_X1_lay ⟨Nat.le_of_ble_eq_true rfl, Nat.le_of_ble_eq_true rfl⟩) (gSub_S _) 1 rfl rfl rfl rfl (Nat.le_of_ble_eq_true rfl) dX3_begin_6 ⟨Nat.le_of_ble_eq_true rfl, Nat.le_of_ble_eq_true rfl⟩) (fun _ _ hx => False.elim hx) (fun r6 w1 hw => ?_)
  obtain ⟨rfl, rfl⟩ := hw
  refine gV_if_ne (tgt := 22) C dX3_begin_9 (by decide) (fun c9 => ?_) (fun c9 => ?_)
  · replace hp := g_iff hp c9
    refine gV_aload_n C dX3_begin_22 rfl 0 rfl ?_
    obtain ⟨lc_23, la_23, hr_23, tn_23, rl_23, tl_23, hq23, hp⟩ := g_ob6 hp
    refine gV_callvS C (gV_runV (As := []) (rest := []) C (mt_X3_tellNothing hl D h cI cJ lc la hr uP_6 uC_6 uR_6 tn pn pg pq rl sr gcb_6 gpb_6 tg tm tl pm ps lc_23 la_23 hr_23 tn_23 rl_23 tl_23 hq23) (cwV 0 C.2.2.2.2.1 gX3_begin_X3_tellNothing rfl rfl rfl hdv_X3_tellNothing ⟨Nat.le_of_ble_eq_true rfl, Nat.le_of_ble_eq_true rfl⟩) (gSub_S _) 0 rfl rfl rfl rfl (Nat.le_of_ble_eq_true rfl) dX3_begin_23 ⟨Nat.le_of_ble_eq_true rfl, Nat.le_of_ble_eq_true rfl⟩) (fun _ _ hx => False.elim hx) (fun w1 hw => ?_)
    obtain rfl := hw
    refine gV_aload_n C dX3_begin_26 rfl 0 rfl ?_
    refine gV_get (Cn := RX3) (T := TX3) (N := 8) C inw_X3_begin_X3 0 rfl rfl 0 (by decide) (C.w 3 rfl) rfl rfl dX3_begin_27 ?_
    refine gV_get (Cn := RX1) (T := TX1) (N := 5) C inw_X3_begin_X1 1 rfl rfl 2 (by decide) (C.w 4 rfl) rfl rfl dX3_begin_30 ?_
    obtain ⟨rfl, rfl, rfl, rfl, rfl, rfl, rfl, rfl, rfl, rfl, rfl, rfl, rfl⟩ := g_so13 hp
    exact RET _ _ _ _ _ _ dX3_begin_33 (Nat.le_of_ble_eq_true rfl) (Nat.le_of_ble_eq_true rfl) rfl ⟨rfl, rfl, rfl⟩
  · replace hp := g_ift hp c9
    obtain ⟨rfl, rfl, rfl, rfl, rfl, rfl, rfl, rfl, rfl, rfl, rfl, rfl, rfl⟩ := g_so13 hp
    exact THR _ "no such game" 50 46 48 _ _ _ _ _ _ ⟨by decide, rfl, rfl⟩ tw_X3_begin_IAE (Or.inl rfl) (by decide) dX3_begin_12 dX3_begin_15 dX3_begin_16 dX3_begin_18 dX3_begin_21 (Nat.le_of_ble_eq_true rfl) (Nat.le_of_ble_eq_true rfl) (Nat.le_of_ble_eq_true rfl) (Nat.le_of_ble_eq_true rfl) (Nat.le_of_ble_eq_true rfl) (Nat.le_of_ble_eq_true rfl)
def pf_X3_rows  (uR : Int32)  : Option (Int32) := (some uR)
abbrev rm_X3_rows : Room := { frames := 0, cells := 0, slots := 0, locals := 0 }
theorem inw_X3_rows_X1 : ∀ w ∈ wsX10, w ∈ wsX3_rows := by decide +kernel
theorem inw_X3_rows_X3 : ∀ w ∈ wsX30, w ∈ wsX3_rows := by decide +kernel
set_option maxHeartbeats 4000000 in
set_option maxRecDepth 100000 in
theorem mt_X3_rows {l : Launch} (hl : l.stackTraces = false) (D : va_G) (h : Nat → Nat) (cI cJ : ClassId) (lc : Int32) (la : Int32) (hr : Int32) (uP : Int32) (uC : Int32) (uR : Int32) (tn : Int32) (pn : Int32) (pg : Int32) (pq : Int32) (rl : Nat → Int32) (sr : Nat → Int32) (gcb : Nat → Int32) (gpb : Nat → Int64) (tg : Nat → Int32) (tm : Nat → Int32) (tl : Nat → Int32) (pm : Nat → Int32) (ps : Nat → Int32)  (r0 : Int32) (hp : pf_X3_rows uR = (some r0)) : gMi l yX3_rows wsX3_rows rm_X3_rows D [(cI, .int), (cJ, .long)] (cW h cI cJ lc la hr uP uC uR tn pn pg pq rl sr gcb gpb tg tm tl pm ps) [.ref (h 0)] 0 0 (fun r w => r = r0 ∧ w = cW h cI cJ lc la hr uP uC uR tn pn pg pq rl sr gcb gpb tg tm tl pm ps) (fun _ _ => False) := by
  refine gMi_of (cc := cX3_rows) (maxL := 1) (rt := .int) hl (by decide +kernel) rfl (Nat.le_of_ble_eq_true rfl) ?_
  intro p e s m args below meth c A Q C hnm ht RET OUT THR THRW
  have C : gC p l s m args meth c A D [(cI, .int), (cJ, .long)] 1 RX3 cX3_rows wsX3_rows := C
  refine gV_loc (lvs' := [(0, .ref (h 0))]) [0] rfl ?_
  unfold pf_X3_rows at hp
  refine gV_aload_n C dX3_rows_0 rfl 0 rfl ?_
  refine gV_get (Cn := RX3) (T := TX3) (N := 8) C inw_X3_rows_X3 0 rfl rfl 0 (by decide) (C.w 1 rfl) rfl rfl dX3_rows_1 ?_
  refine gV_get (Cn := RX1) (T := TX1) (N := 5) C inw_X3_rows_X1 1 rfl rfl 2 (by decide) (C.w 2 rfl) rfl rfl dX3_rows_4 ?_
  obtain rfl := g_so1 hp
  exact RET _ _ _ _ _ _ dX3_rows_7 (Nat.le_of_ble_eq_true rfl) (Nat.le_of_ble_eq_true rfl) rfl ⟨rfl, rfl⟩
def pf_X3_colourAt_j26  : Option (Nat × Int32) := (some (1, 0))
def pf_X3_colourAt  (uP : Int32) (uR : Int32) (gcb : Nat → Int32) (v1 : Int32) (v2 : Int32) : Option (Nat × Int32) := (ob1 (pf_X1_has uR v1) fun r5 => (if r5 = 0 then (pf_X3_colourAt_j26) else (if v2 < 0 then (pf_X3_colourAt_j26) else (if v2 < uP then (ob1 (pf_X1_colourOf uP uR gcb v1 v2) fun r42 => (some (0, r42))) else (pf_X3_colourAt_j26)))))
abbrev rm_X3_colourAt : Room := { frames := 6, cells := 1, slots := 6, locals := 82 }
theorem inw_X3_colourAt_X1 : ∀ w ∈ wsX10, w ∈ wsX3_colourAt := by decide +kernel
theorem inw_X3_colourAt_X3 : ∀ w ∈ wsX30, w ∈ wsX3_colourAt := by decide +kernel
theorem tw_X3_colourAt_IOO : gTw wsX3_colourAt "java/lang/IndexOutOfBoundsException" 68 64 := ⟨gtw_IOO.1, List.mem_of_getElem? (i := 1) rfl, List.mem_of_getElem? (i := 2) rfl, fun w h => List.mem_cons_of_mem _ (List.mem_append_right _ h), gtw_IOO.2.1, gtw_IOO.2.2⟩
theorem hdv_X1_colourOf : yX1_colourOf.cls = RX1 ∧ yX1_colourOf.cls ≠ "java/lang/invoke/MethodHandle" ∧ yX1_colourOf.cls ≠ "java/lang/invoke/VarHandle" ∧ (parseMethodDescriptor yX1_colourOf.desc).map (fun d => d.parameters.length) = some 2 := by decide +kernel
set_option maxHeartbeats 4000000 in
set_option maxRecDepth 100000 in
theorem mt_X3_colourAt {l : Launch} (hl : l.stackTraces = false) (D : va_G) (h : Nat → Nat) (cI cJ : ClassId) (lc : Int32) (la : Int32) (hr : Int32) (uP : Int32) (uC : Int32) (uR : Int32) (tn : Int32) (pn : Int32) (pg : Int32) (pq : Int32) (rl : Nat → Int32) (sr : Nat → Int32) (gcb : Nat → Int32) (gpb : Nat → Int64) (tg : Nat → Int32) (tm : Nat → Int32) (tl : Nat → Int32) (pm : Nat → Int32) (ps : Nat → Int32) (v1 : Int32) (v2 : Int32) (xc0 : Nat) (r0 : Int32) (hp : pf_X3_colourAt uP uR gcb v1 v2 = (some (xc0, r0))) : gMi l yX3_colourAt wsX3_colourAt rm_X3_colourAt D [(cI, .int), (cJ, .long)] (cW h cI cJ lc la hr uP uC uR tn pn pg pq rl sr gcb gpb tg tm tl pm ps) [.ref (h 0), .int v1, .int v2] 1 6 (fun r w => xc0 = 0 ∧ r = r0 ∧ w = cW h cI cJ lc la hr uP uC uR tn pn pg pq rl sr gcb gpb tg tm tl pm ps) (fun E w => xc0 ≠ 0 ∧ E = g_exn xc0 ∧ w = cW h cI cJ lc la hr uP uC uR tn pn pg pq rl sr gcb gpb tg tm tl pm ps) := by
  refine gMi_of (cc := cX3_colourAt) (maxL := 3) (rt := .int) hl (by decide +kernel) rfl (Nat.le_of_ble_eq_true rfl) ?_
  intro p e s m args below meth c A Q C hnm ht RET OUT THR THRW
  have C : gC p l s m args meth c A D [(cI, .int), (cJ, .long)] 3 RX3 cX3_colourAt wsX3_colourAt := C
  have THR := THR rfl
  have THRW := THRW rfl
  refine gV_loc (lvs' := [(0, .ref (h 0)), (1, .int v1), (2, .int v2)]) [0, 1, 2] rfl ?_
  unfold pf_X3_colourAt at hp
  have J26 : pf_X3_colourAt_j26 = (some (xc0, r0)) → gV p l e rm_X3_colourAt s m args below meth c A D 3 Q (cW h cI cJ lc la hr uP uC uR tn pn pg pq rl sr gcb gpb tg tm tl pm ps) [(0, .ref (h 0))] 0 0 26 [] := by
    intro hp
    unfold pf_X3_colourAt_j26 at hp
    obtain ⟨rfl, rfl⟩ := g_so2 hp
    exact THR _ "no such row or place" 68 64 66 _ _ _ _ _ _ ⟨by decide, rfl, rfl⟩ tw_X3_colourAt_IOO (Or.inr (Or.inl rfl)) (by decide) dX3_colourAt_26 dX3_colourAt_29 dX3_colourAt_30 dX3_colourAt_32 dX3_colourAt_35 (Nat.le_of_ble_eq_true rfl) (Nat.le_of_ble_eq_true rfl) (Nat.le_of_ble_eq_true rfl) (Nat.le_of_ble_eq_true rfl) (Nat.le_of_ble_eq_true rfl) (Nat.le_of_ble_eq_true rfl)
  refine gV_aload_n C dX3_colourAt_0 rfl 0 rfl ?_
  refine gV_get (Cn := RX3) (T := TX3) (N := 8) C inw_X3_colourAt_X3 0 rfl rfl 0 (by decide) (C.w 3 rfl) rfl rfl dX3_colourAt_1 ?_
  refine gV_iload_n C dX3_colourAt_4 rfl 1 rfl ?_
  obtain ⟨r5q, hq5, hp⟩ := g_ob1 hp
  refine gV_calliS C (gV_runV (As := [.int v1]) (rest := []) C (mt_X1_has hl D h cI cJ lc la hr uP uC uR tn pn pg pq rl sr gcb gpb tg tm tl pm ps v1 r5q hq5) (cwV 1 C.2.2.2.2.1 gX3_colourAt_X1_has rfl rfl rfl hdv_X1_has ⟨Nat.le_of_ble_eq_true rfl, Nat.le_of_ble_eq_true rfl⟩) (gSub_S _) 1 rfl rfl rfl rfl (Nat.le_of_ble_eq_true rfl) dX3_colourAt_5 ⟨Nat.le_of_ble_eq_true rfl, Nat.le_of_ble_eq_true rfl⟩) (fun _ _ hx => False.elim hx) (fun r5 w1 hw => ?_)
  obtain ⟨rfl, rfl⟩ := hw
  refine gV_if_eq (tgt := 26) C dX3_colourAt_8 (by decide) (fun c8 => ?_) (fun c8 => ?_)
  · replace hp := g_ift hp c8
    refine gV_loc [0] rfl ?_
    exact J26 hp
  · replace hp := g_iff hp c8
    refine gV_iload_n C dX3_colourAt_11 rfl 2 rfl ?_
    refine gV_if_lt (tgt := 26) C dX3_colourAt_12 (by decide) (fun c12 => ?_) (fun c12 => ?_)
    · replace hp := g_ift hp c12
      refine gV_loc [0] rfl ?_
      exact J26 hp
    · replace hp := g_iff hp c12
      refine gV_iload_n C dX3_colourAt_15 rfl 2 rfl ?_
      refine gV_aload_n C dX3_colourAt_16 rfl 0 rfl ?_
      refine gV_get (Cn := RX3) (T := TX3) (N := 8) C inw_X3_colourAt_X3 0 rfl rfl 0 (by decide) (C.w 3 rfl) rfl rfl dX3_colourAt_17 ?_
      refine gV_get (Cn := RX1) (T := TX1) (N := 5) C inw_X3_colourAt_X1 1 rfl rfl 0 (by decide) (C.w 4 rfl) rfl rfl dX3_colourAt_20 ?_
      refine gV_icmp_lt (tgt := 36) C dX3_colourAt_23 (by decide) (fun c23 => ?_) (fun c23 => ?_)
      · replace hp := g_ift hp c23
        refine gV_aload_n C dX3_colourAt_36 rfl 0 rfl ?_
        refine gV_get (Cn := RX3) (T := TX3) (N := 8) C inw_X3_colourAt_X3 0 rfl rfl 0 (by decide) (C.w 3 rfl) rfl rfl dX3_colourAt_37 ?_
        refine gV_iload_n C dX3_colourAt_40 rfl 1 rfl ?_
        refine gV_iload_n C dX3_colourAt_41 rfl 2 rfl ?_
        obtain ⟨r42q, hq42, hp⟩ := g_ob1 hp
        refine gV_calliS C (gV_runV (As := [.int v1, .int v2]) (rest := []) C (mt_X1_colourOf hl D h cI cJ lc la hr uP uC uR tn pn pg pq rl sr gcb gpb tg tm tl pm ps v1 v2 r42q hq42) (cwV 2 C.2.2.2.2.1 gX3_colourAt_X1_colourOf rfl rfl rfl hdv_X1_colourOf ⟨Nat.le_of_ble_eq_true rfl, Nat.le_of_ble_eq_true rfl⟩) (gSub_S _) 1 rfl rfl rfl rfl (Nat.le_of_ble_eq_true rfl) dX3_colourAt_42 ⟨Nat.le_of_ble_eq_true rfl, Nat.le_of_ble_eq_true rfl⟩) (fun _ _ hx => False.elim hx) (fun r42 w1 hw => ?_)
        obtain ⟨rfl, rfl⟩ := hw
        obtain ⟨rfl, rfl⟩ := g_so2 hp
        exact RET _ _ _ _ _ _ dX3_colourAt_45 (Nat.le_of_ble_eq_true rfl) (Nat.le_of_ble_eq_true rfl) rfl ⟨rfl, rfl, rfl⟩
      · replace hp := g_iff hp c23
        refine gV_loc [0] rfl ?_
        exact J26 hp
def pf_X3_mark_j22  : Option (Nat × Int32) := (some (1, 0))
def pf_X3_mark  (uP : Int32) (uR : Int32) (gcb : Nat → Int32) (gpb : Nat → Int64) (v1 : Int32) (v2 : Int32) : Option (Nat × Int32) := (ob1 (pf_X1_has uR v1) fun r5 => (if r5 = 0 then (pf_X3_mark_j22) else (ob1 (pf_X1_has uR v2) fun r16 => (if r16 = 0 then (pf_X3_mark_j22) else (ob1 (pf_X1_compare uP uR gcb gpb v1 v2) fun r38 => (some (0, r38)))))))
abbrev rm_X3_mark : Room := { frames := 6, cells := 1, slots := 6, locals := 82 }
theorem inw_X3_mark_X3 : ∀ w ∈ wsX30, w ∈ wsX3_mark := by decide +kernel
theorem tw_X3_mark_IOO : gTw wsX3_mark "java/lang/IndexOutOfBoundsException" 68 64 := ⟨gtw_IOO.1, List.mem_of_getElem? (i := 1) rfl, List.mem_of_getElem? (i := 2) rfl, fun w h => List.mem_cons_of_mem _ (List.mem_append_right _ h), gtw_IOO.2.1, gtw_IOO.2.2⟩
set_option maxHeartbeats 4000000 in
set_option maxRecDepth 100000 in
theorem mt_X3_mark {l : Launch} (hl : l.stackTraces = false) (D : va_G) (h : Nat → Nat) (cI cJ : ClassId) (lc : Int32) (la : Int32) (hr : Int32) (uP : Int32) (uC : Int32) (uR : Int32) (tn : Int32) (pn : Int32) (pg : Int32) (pq : Int32) (rl : Nat → Int32) (sr : Nat → Int32) (gcb : Nat → Int32) (gpb : Nat → Int64) (tg : Nat → Int32) (tm : Nat → Int32) (tl : Nat → Int32) (pm : Nat → Int32) (ps : Nat → Int32) (v1 : Int32) (v2 : Int32) (xc0 : Nat) (r0 : Int32) (hp : pf_X3_mark uP uR gcb gpb v1 v2 = (some (xc0, r0))) : gMi l yX3_mark wsX3_mark rm_X3_mark D [(cI, .int), (cJ, .long)] (cW h cI cJ lc la hr uP uC uR tn pn pg pq rl sr gcb gpb tg tm tl pm ps) [.ref (h 0), .int v1, .int v2] 1 6 (fun r w => xc0 = 0 ∧ r = r0 ∧ w = cW h cI cJ lc la hr uP uC uR tn pn pg pq rl sr gcb gpb tg tm tl pm ps) (fun E w => xc0 ≠ 0 ∧ E = g_exn xc0 ∧ w = cW h cI cJ lc la hr uP uC uR tn pn pg pq rl sr gcb gpb tg tm tl pm ps) := by
  refine gMi_of (cc := cX3_mark) (maxL := 3) (rt := .int) hl (by decide +kernel) rfl (Nat.le_of_ble_eq_true rfl) ?_
  intro p e s m args below meth c A Q C hnm ht RET OUT THR THRW
  have C : gC p l s m args meth c A D [(cI, .int), (cJ, .long)] 3 RX3 cX3_mark wsX3_mark := C
  have THR := THR rfl
  have THRW := THRW rfl
  refine gV_loc (lvs' := [(0, .ref (h 0)), (1, .int v1), (2, .int v2)]) [0, 1, 2] rfl ?_
  unfold pf_X3_mark at hp
  have J22 : pf_X3_mark_j22 = (some (xc0, r0)) → gV p l e rm_X3_mark s m args below meth c A D 3 Q (cW h cI cJ lc la hr uP uC uR tn pn pg pq rl sr gcb gpb tg tm tl pm ps) [(0, .ref (h 0))] 0 0 22 [] := by
    intro hp
    unfold pf_X3_mark_j22 at hp
    obtain ⟨rfl, rfl⟩ := g_so2 hp
    exact THR _ "no such row" 68 64 73 _ _ _ _ _ _ ⟨by decide, rfl, rfl⟩ tw_X3_mark_IOO (Or.inr (Or.inl rfl)) (by decide) dX3_mark_22 dX3_mark_25 dX3_mark_26 dX3_mark_28 dX3_mark_31 (Nat.le_of_ble_eq_true rfl) (Nat.le_of_ble_eq_true rfl) (Nat.le_of_ble_eq_true rfl) (Nat.le_of_ble_eq_true rfl) (Nat.le_of_ble_eq_true rfl) (Nat.le_of_ble_eq_true rfl)
  refine gV_aload_n C dX3_mark_0 rfl 0 rfl ?_
  refine gV_get (Cn := RX3) (T := TX3) (N := 8) C inw_X3_mark_X3 0 rfl rfl 0 (by decide) (C.w 3 rfl) rfl rfl dX3_mark_1 ?_
  refine gV_iload_n C dX3_mark_4 rfl 1 rfl ?_
  obtain ⟨r5q, hq5, hp⟩ := g_ob1 hp
  refine gV_calliS C (gV_runV (As := [.int v1]) (rest := []) C (mt_X1_has hl D h cI cJ lc la hr uP uC uR tn pn pg pq rl sr gcb gpb tg tm tl pm ps v1 r5q hq5) (cwV 1 C.2.2.2.2.1 gX3_mark_X1_has rfl rfl rfl hdv_X1_has ⟨Nat.le_of_ble_eq_true rfl, Nat.le_of_ble_eq_true rfl⟩) (gSub_S _) 1 rfl rfl rfl rfl (Nat.le_of_ble_eq_true rfl) dX3_mark_5 ⟨Nat.le_of_ble_eq_true rfl, Nat.le_of_ble_eq_true rfl⟩) (fun _ _ hx => False.elim hx) (fun r5 w1 hw => ?_)
  obtain ⟨rfl, rfl⟩ := hw
  refine gV_if_eq (tgt := 22) C dX3_mark_8 (by decide) (fun c8 => ?_) (fun c8 => ?_)
  · replace hp := g_ift hp c8
    refine gV_loc [0] rfl ?_
    exact J22 hp
  · replace hp := g_iff hp c8
    refine gV_aload_n C dX3_mark_11 rfl 0 rfl ?_
    refine gV_get (Cn := RX3) (T := TX3) (N := 8) C inw_X3_mark_X3 0 rfl rfl 0 (by decide) (C.w 3 rfl) rfl rfl dX3_mark_12 ?_
    refine gV_iload_n C dX3_mark_15 rfl 2 rfl ?_
    obtain ⟨r16q, hq16, hp⟩ := g_ob1 hp
    refine gV_calliS C (gV_runV (As := [.int v2]) (rest := []) C (mt_X1_has hl D h cI cJ lc la hr uP uC uR tn pn pg pq rl sr gcb gpb tg tm tl pm ps v2 r16q hq16) (cwV 1 C.2.2.2.2.1 gX3_mark_X1_has rfl rfl rfl hdv_X1_has ⟨Nat.le_of_ble_eq_true rfl, Nat.le_of_ble_eq_true rfl⟩) (gSub_S _) 1 rfl rfl rfl rfl (Nat.le_of_ble_eq_true rfl) dX3_mark_16 ⟨Nat.le_of_ble_eq_true rfl, Nat.le_of_ble_eq_true rfl⟩) (fun _ _ hx => False.elim hx) (fun r16 w1 hw => ?_)
    obtain ⟨rfl, rfl⟩ := hw
    refine gV_if_ne (tgt := 32) C dX3_mark_19 (by decide) (fun c19 => ?_) (fun c19 => ?_)
    · replace hp := g_iff hp c19
      refine gV_aload_n C dX3_mark_32 rfl 0 rfl ?_
      refine gV_get (Cn := RX3) (T := TX3) (N := 8) C inw_X3_mark_X3 0 rfl rfl 0 (by decide) (C.w 3 rfl) rfl rfl dX3_mark_33 ?_
      refine gV_iload_n C dX3_mark_36 rfl 1 rfl ?_
      refine gV_iload_n C dX3_mark_37 rfl 2 rfl ?_
      obtain ⟨r38q, hq38, hp⟩ := g_ob1 hp
      refine gV_calliS C (gV_runV (As := [.int v1, .int v2]) (rest := []) C (mt_X1_compare hl D h cI cJ lc la hr uP uC uR tn pn pg pq rl sr gcb gpb tg tm tl pm ps v1 v2 r38q hq38) (cwV 2 C.2.2.2.2.1 gX3_mark_X1_compare rfl rfl rfl hdv_X1_compare ⟨Nat.le_of_ble_eq_true rfl, Nat.le_of_ble_eq_true rfl⟩) (gSub_S _) 1 rfl rfl rfl rfl (Nat.le_of_ble_eq_true rfl) dX3_mark_38 ⟨Nat.le_of_ble_eq_true rfl, Nat.le_of_ble_eq_true rfl⟩) (fun _ _ hx => False.elim hx) (fun r38 w1 hw => ?_)
      obtain ⟨rfl, rfl⟩ := hw
      obtain ⟨rfl, rfl⟩ := g_so2 hp
      exact RET _ _ _ _ _ _ dX3_mark_41 (Nat.le_of_ble_eq_true rfl) (Nat.le_of_ble_eq_true rfl) rfl ⟨rfl, rfl, rfl⟩
    · replace hp := g_ift hp c19
      refine gV_loc [0] rfl ?_
      exact J22 hp
def pf_X3_allowLies_j9  (lc : Int32) (la : Int32) (rl : Nat → Int32) : Option (Nat × Int32 × Int32 × Int32 × (Nat → Int32)) := (some (2, 0, lc, la, rl))
def pf_X3_allowLies_j52 (v1 : Int32) (uR : Int32) (tn : Int32) (tl : Nat → Int32) (lc : Int32) (la : Int32) (rl : Nat → Int32) : Option (Nat × Int32 × Int32 × Int32 × (Nat → Int32)) := (ob2 (pf_X3_listRowsLeft lc v1 uR tn rl tl) fun lc_63 rl_63 => (some (0, la, lc_63, v1, rl_63)))
def pf_X3_allowLies  (lc : Int32) (la : Int32) (hr : Int32) (uR : Int32) (tn : Int32) (rl : Nat → Int32) (tl : Nat → Int32) (v1 : Int32) : Option (Nat × Int32 × Int32 × Int32 × (Nat → Int32)) := (if v1 < 0 then (pf_X3_allowLies_j9 lc la rl) else (if v1 ≤ 3 then (if hr = (-1) then (pf_X3_allowLies_j52 v1 uR tn tl lc la rl) else (ob1 (pf_X0_countLies uR tn tl hr) fun r35 => (if r35 ≤ v1 then (pf_X3_allowLies_j52 v1 uR tn tl lc la rl) else (some (3, 0, lc, la, rl))))) else (pf_X3_allowLies_j9 lc la rl)))
abbrev rm_X3_allowLies : Room := { frames := 6, cells := 1, slots := 6, locals := 106 }
theorem inw_X3_allowLies_X3 : ∀ w ∈ wsX30, w ∈ wsX3_allowLies := by decide +kernel
theorem tw_X3_allowLies_IAE : gTw wsX3_allowLies "java/lang/IllegalArgumentException" 50 46 := ⟨gtw_IAE.1, List.mem_of_getElem? (i := 1) rfl, List.mem_of_getElem? (i := 2) rfl, fun w h => List.mem_cons_of_mem _ (List.mem_append_left _ (List.mem_append_right _ h)), gtw_IAE.2.1, gtw_IAE.2.2⟩
theorem tw_X3_allowLies_ISE : gTw wsX3_allowLies "java/lang/IllegalStateException" 91 87 := ⟨gtw_ISE.1, List.mem_of_getElem? (i := 3) rfl, List.mem_of_getElem? (i := 4) rfl, fun w h => List.mem_cons_of_mem _ (List.mem_append_right _ h), gtw_ISE.2.1, gtw_ISE.2.2⟩
set_option maxHeartbeats 4000000 in
set_option maxRecDepth 100000 in
theorem mt_X3_allowLies {l : Launch} (hl : l.stackTraces = false) (D : va_G) (h : Nat → Nat) (cI cJ : ClassId) (lc : Int32) (la : Int32) (hr : Int32) (uP : Int32) (uC : Int32) (uR : Int32) (tn : Int32) (pn : Int32) (pg : Int32) (pq : Int32) (rl : Nat → Int32) (sr : Nat → Int32) (gcb : Nat → Int32) (gpb : Nat → Int64) (tg : Nat → Int32) (tm : Nat → Int32) (tl : Nat → Int32) (pm : Nat → Int32) (ps : Nat → Int32) (v1 : Int32) (xc0 : Nat) (r0 : Int32) (lc0 : Int32) (la0 : Int32) (rl0 : Nat → Int32) (hp : pf_X3_allowLies lc la hr uR tn rl tl v1 = (some (xc0, r0, lc0, la0, rl0))) : gMi l yX3_allowLies wsX3_allowLies rm_X3_allowLies D [(cI, .int), (cJ, .long)] (cW h cI cJ lc la hr uP uC uR tn pn pg pq rl sr gcb gpb tg tm tl pm ps) [.ref (h 0), .int v1] 1 6 (fun r w => xc0 = 0 ∧ r = r0 ∧ w = cW h cI cJ lc0 la0 hr uP uC uR tn pn pg pq rl0 sr gcb gpb tg tm tl pm ps) (fun E w => xc0 ≠ 0 ∧ E = g_exn xc0 ∧ w = cW h cI cJ lc0 la0 hr uP uC uR tn pn pg pq rl0 sr gcb gpb tg tm tl pm ps) := by
  refine gMi_of (cc := cX3_allowLies) (maxL := 3) (rt := .int) hl (by decide +kernel) rfl (Nat.le_of_ble_eq_true rfl) ?_
  intro p e s m args below meth c A Q C hnm ht RET OUT THR THRW
  have C : gC p l s m args meth c A D [(cI, .int), (cJ, .long)] 3 RX3 cX3_allowLies wsX3_allowLies := C
  have THR := THR rfl
  have THRW := THRW rfl
  refine gV_loc (lvs' := [(0, .ref (h 0)), (1, .int v1)]) [0, 1] rfl ?_
  unfold pf_X3_allowLies at hp
  have J52 : ∀ (lc : Int32) (la : Int32) (rl : Nat → Int32), pf_X3_allowLies_j52 v1 uR tn tl lc la rl = (some (xc0, r0, lc0, la0, rl0)) → gV p l e rm_X3_allowLies s m args below meth c A D 3 Q (cW h cI cJ lc la hr uP uC uR tn pn pg pq rl sr gcb gpb tg tm tl pm ps) [(0, .ref (h 0)), (1, .int v1)] 0 0 52 [] := by
    intro lc la rl hp
    unfold pf_X3_allowLies_j52 at hp
    refine gV_aload_n C dX3_allowLies_52 rfl 0 rfl ?_
    refine gV_get (Cn := RX3) (T := TX3) (N := 8) C inw_X3_allowLies_X3 0 rfl rfl 6 (by decide) (C.w 7 rfl) rfl rfl dX3_allowLies_53 ?_
    refine gV_istore_n (lvs' := [(2, .int la), (0, .ref (h 0)), (1, .int v1)]) C dX3_allowLies_56 rfl (by decide) rfl ?_
    refine gV_aload_n C dX3_allowLies_57 rfl 1 rfl ?_
    refine gV_iload_n C dX3_allowLies_58 rfl 2 rfl ?_
    refine gV_put (Cn := RX3) (T := TX3) (N := 8) (ws' := cW h cI cJ lc v1 hr uP uC uR tn pn pg pq rl sr gcb gpb tg tm tl pm ps) C inw_X3_allowLies_X3 tyX3_ok nmX3 0 rfl rfl 6 (by decide) (C.w 7 rfl) rfl rfl rfl rfl rfl (Nat.le_of_ble_eq_true rfl) dX3_allowLies_59 rfl ?_
    refine gV_aload_n C dX3_allowLies_62 rfl 1 rfl ?_
    obtain ⟨lc_63, rl_63, hq63, hp⟩ := g_ob2 hp
    refine gV_callvS C (gV_runV (As := []) (rest := []) C (mt_X3_listRowsLeft hl D h cI cJ lc v1 hr uP uC uR tn pn pg pq rl sr gcb gpb tg tm tl pm ps lc_63 rl_63 hq63) (cwV 0 C.2.2.2.2.1 gX3_allowLies_X3_listRowsLeft rfl rfl rfl hdv_X3_listRowsLeft ⟨Nat.le_of_ble_eq_true rfl, Nat.le_of_ble_eq_true rfl⟩) (gSub_S _) 0 rfl rfl rfl rfl (Nat.le_of_ble_eq_true rfl) dX3_allowLies_63 ⟨Nat.le_of_ble_eq_true rfl, Nat.le_of_ble_eq_true rfl⟩) (fun _ _ hx => False.elim hx) (fun w1 hw => ?_)
    obtain rfl := hw
    refine gV_iload_n C dX3_allowLies_66 rfl 0 rfl ?_
    obtain ⟨rfl, rfl, rfl, rfl, rfl⟩ := g_so5 hp
    exact RET _ _ _ _ _ _ dX3_allowLies_67 (Nat.le_of_ble_eq_true rfl) (Nat.le_of_ble_eq_true rfl) rfl ⟨rfl, rfl, rfl⟩
  have J9 : ∀ (lc : Int32) (la : Int32) (rl : Nat → Int32), pf_X3_allowLies_j9 lc la rl = (some (xc0, r0, lc0, la0, rl0)) → gV p l e rm_X3_allowLies s m args below meth c A D 3 Q (cW h cI cJ lc la hr uP uC uR tn pn pg pq rl sr gcb gpb tg tm tl pm ps) [(0, .ref (h 0))] 0 0 9 [] := by
    intro lc la rl hp
    unfold pf_X3_allowLies_j9 at hp
    obtain ⟨rfl, rfl, rfl, rfl, rfl⟩ := g_so5 hp
    exact THR _ "lies out of range" 50 46 78 _ _ _ _ _ _ ⟨by decide, rfl, rfl⟩ tw_X3_allowLies_IAE (Or.inl rfl) (by decide) dX3_allowLies_9 dX3_allowLies_12 dX3_allowLies_13 dX3_allowLies_15 dX3_allowLies_18 (Nat.le_of_ble_eq_true rfl) (Nat.le_of_ble_eq_true rfl) (Nat.le_of_ble_eq_true rfl) (Nat.le_of_ble_eq_true rfl) (Nat.le_of_ble_eq_true rfl) (Nat.le_of_ble_eq_true rfl)
  refine gV_iload_n C dX3_allowLies_0 rfl 1 rfl ?_
  refine gV_if_lt (tgt := 9) C dX3_allowLies_1 (by decide) (fun c1 => ?_) (fun c1 => ?_)
  · replace hp := g_ift hp c1
    refine gV_loc [0] rfl ?_
    exact J9 lc la rl hp
  · replace hp := g_iff hp c1
    refine gV_iload_n C dX3_allowLies_4 rfl 1 rfl ?_
    refine gV_iconst (v := 3) C dX3_allowLies_5 rfl ?_
    refine gV_icmp_le (tgt := 19) C dX3_allowLies_6 (by decide) (fun c6 => ?_) (fun c6 => ?_)
    · replace hp := g_ift hp c6
      refine gV_aload_n C dX3_allowLies_19 rfl 0 rfl ?_
      refine gV_get (Cn := RX3) (T := TX3) (N := 8) C inw_X3_allowLies_X3 0 rfl rfl 7 (by decide) (C.w 5 rfl) rfl rfl dX3_allowLies_20 ?_
      refine gV_iconst (v := (-1)) C dX3_allowLies_23 rfl ?_
      refine gV_icmp_eq (tgt := 52) C dX3_allowLies_24 (by decide) (fun c24 => ?_) (fun c24 => ?_)
      · replace hp := g_ift hp c24
        exact J52 lc la rl hp
      · replace hp := g_iff hp c24
        refine gV_aload_n C dX3_allowLies_27 rfl 0 rfl ?_
        refine gV_get (Cn := RX3) (T := TX3) (N := 8) C inw_X3_allowLies_X3 0 rfl rfl 1 (by decide) (C.w 6 rfl) rfl rfl dX3_allowLies_28 ?_
        refine gV_aload_n C dX3_allowLies_31 rfl 0 rfl ?_
        refine gV_get (Cn := RX3) (T := TX3) (N := 8) C inw_X3_allowLies_X3 0 rfl rfl 7 (by decide) (C.w 5 rfl) rfl rfl dX3_allowLies_32 ?_
        obtain ⟨r35q, hq35, hp⟩ := g_ob1 hp
        refine gV_calliS C (gV_runV (As := [.int hr]) (rest := []) C (mt_X0_countLies hl D h cI cJ lc la hr uP uC uR tn pn pg pq rl sr gcb gpb tg tm tl pm ps hr r35q hq35) (cwV 1 C.2.2.2.2.1 gX3_allowLies_X0_countLies rfl rfl rfl hdv_X0_countLies ⟨Nat.le_of_ble_eq_true rfl, Nat.le_of_ble_eq_true rfl⟩) (gSub_S _) 2 rfl rfl rfl rfl (Nat.le_of_ble_eq_true rfl) dX3_allowLies_35 ⟨Nat.le_of_ble_eq_true rfl, Nat.le_of_ble_eq_true rfl⟩) (fun _ _ hx => False.elim hx) (fun r35 w1 hw => ?_)
        obtain ⟨rfl, rfl⟩ := hw
        refine gV_iload_n C dX3_allowLies_38 rfl 1 rfl ?_
        refine gV_icmp_le (tgt := 52) C dX3_allowLies_39 (by decide) (fun c39 => ?_) (fun c39 => ?_)
        · replace hp := g_ift hp c39
          exact J52 lc la rl hp
        · replace hp := g_iff hp c39
          obtain ⟨rfl, rfl, rfl, rfl, rfl⟩ := g_so5 hp
          exact THR _ "the hidden row would not be left" 91 87 89 _ _ _ _ _ _ ⟨by decide, rfl, rfl⟩ tw_X3_allowLies_ISE (Or.inr (Or.inr rfl)) (by decide) dX3_allowLies_42 dX3_allowLies_45 dX3_allowLies_46 dX3_allowLies_48 dX3_allowLies_51 (Nat.le_of_ble_eq_true rfl) (Nat.le_of_ble_eq_true rfl) (Nat.le_of_ble_eq_true rfl) (Nat.le_of_ble_eq_true rfl) (Nat.le_of_ble_eq_true rfl) (Nat.le_of_ble_eq_true rfl)
    · replace hp := g_iff hp c6
      refine gV_loc [0] rfl ?_
      exact J9 lc la rl hp
def pf_X3_hide_j36 (v1 : Int32) (s0 : Int32) (hr : Int32) : Option (Nat × Int32 × Int32) := (gz s0 ((some (0, s0, v1))))
def pf_X3_hide  (la : Int32) (hr : Int32) (uR : Int32) (tn : Int32) (tl : Nat → Int32) (v1 : Int32) : Option (Nat × Int32 × Int32) := (ob1 (pf_X3_requireRow uR v1) fun x2 => if x2 = 0 then (ob1 (pf_X3_remains la uR tn tl v1) fun r7 => (if r7 = 0 then (some (3, 0, hr)) else (if hr = (-1) then (pf_X3_hide_j36 v1 0 hr) else (pf_X3_hide_j36 v1 1 hr)))) else (some (x2, 0, hr)))
abbrev rm_X3_hide : Room := { frames := 7, cells := 2, slots := 12, locals := 103 }
theorem inw_X3_hide_X3 : ∀ w ∈ wsX30, w ∈ wsX3_hide := by decide +kernel
theorem tw_X3_hide_ISE : gTw wsX3_hide "java/lang/IllegalStateException" 91 87 := ⟨gtw_ISE.1, List.mem_of_getElem? (i := 1) rfl, List.mem_of_getElem? (i := 2) rfl, fun w h => List.mem_cons_of_mem _ (List.mem_append_left _ (List.mem_append_right _ h)), gtw_ISE.2.1, gtw_ISE.2.2⟩
theorem hdv_X3_requireRow : yX3_requireRow.cls = RX3 ∧ yX3_requireRow.cls ≠ "java/lang/invoke/MethodHandle" ∧ yX3_requireRow.cls ≠ "java/lang/invoke/VarHandle" ∧ (parseMethodDescriptor yX3_requireRow.desc).map (fun d => d.parameters.length) = some 1 := by decide +kernel
set_option maxHeartbeats 4000000 in
set_option maxRecDepth 100000 in
theorem mt_X3_hide {l : Launch} (hl : l.stackTraces = false) (D : va_G) (h : Nat → Nat) (cI cJ : ClassId) (lc : Int32) (la : Int32) (hr : Int32) (uP : Int32) (uC : Int32) (uR : Int32) (tn : Int32) (pn : Int32) (pg : Int32) (pq : Int32) (rl : Nat → Int32) (sr : Nat → Int32) (gcb : Nat → Int32) (gpb : Nat → Int64) (tg : Nat → Int32) (tm : Nat → Int32) (tl : Nat → Int32) (pm : Nat → Int32) (ps : Nat → Int32) (v1 : Int32) (xc0 : Nat) (r0 : Int32) (hr0 : Int32) (hp : pf_X3_hide la hr uR tn tl v1 = (some (xc0, r0, hr0))) : gMi l yX3_hide wsX3_hide rm_X3_hide D [(cI, .int), (cJ, .long)] (cW h cI cJ lc la hr uP uC uR tn pn pg pq rl sr gcb gpb tg tm tl pm ps) [.ref (h 0), .int v1] 2 12 (fun r w => xc0 = 0 ∧ r = r0 ∧ w = cW h cI cJ lc la hr0 uP uC uR tn pn pg pq rl sr gcb gpb tg tm tl pm ps) (fun E w => xc0 ≠ 0 ∧ E = g_exn xc0 ∧ w = cW h cI cJ lc la hr0 uP uC uR tn pn pg pq rl sr gcb gpb tg tm tl pm ps) := by
  refine gMi_of (cc := cX3_hide) (maxL := 3) (rt := .boolean) hl (by decide +kernel) rfl (Nat.le_of_ble_eq_true rfl) ?_
  intro p e s m args below meth c A Q C hnm ht RET OUT THR THRW
  have C : gC p l s m args meth c A D [(cI, .int), (cJ, .long)] 3 RX3 cX3_hide wsX3_hide := C
  have THR := THR rfl
  have THRW := THRW rfl
  refine gV_loc (lvs' := [(0, .ref (h 0)), (1, .int v1)]) [0, 1] rfl ?_
  unfold pf_X3_hide at hp
  have J36 : ∀ (s0 : Int32) (hr : Int32), pf_X3_hide_j36 v1 s0 hr = (some (xc0, r0, hr0)) → gV p l e rm_X3_hide s m args below meth c A D 3 Q (cW h cI cJ lc la hr uP uC uR tn pn pg pq rl sr gcb gpb tg tm tl pm ps) [(0, .ref (h 0)), (1, .int v1)] 1 6 36 [.int s0] := by
    intro s0 hr hp
    unfold pf_X3_hide_j36 at hp
    refine gV_istore_n (lvs' := [(2, .int s0), (0, .ref (h 0)), (1, .int v1)]) C dX3_hide_36 rfl (by decide) rfl ?_
    refine gV_aload_n C dX3_hide_37 rfl 1 rfl ?_
    refine gV_iload_n C dX3_hide_38 rfl 2 rfl ?_
    refine gV_put (Cn := RX3) (T := TX3) (N := 8) (ws' := cW h cI cJ lc la v1 uP uC uR tn pn pg pq rl sr gcb gpb tg tm tl pm ps) C inw_X3_hide_X3 tyX3_ok nmX3 0 rfl rfl 7 (by decide) (C.w 3 rfl) rfl rfl rfl rfl rfl (Nat.le_of_ble_eq_true rfl) dX3_hide_39 rfl ?_
    refine gV_iload_n C dX3_hide_42 rfl 0 rfl ?_
    obtain ⟨hz43, hp⟩ := g_bool hp
    obtain ⟨rfl, rfl, rfl⟩ := g_so3 hp
    exact RET _ _ _ _ _ _ dX3_hide_43 (Nat.le_of_ble_eq_true rfl) (Nat.le_of_ble_eq_true rfl) (g_nz hz43) ⟨rfl, rfl, rfl⟩
  refine gV_aload_n C dX3_hide_0 rfl 0 rfl ?_
  refine gV_iload_n C dX3_hide_1 rfl 1 rfl ?_
  obtain ⟨x2, hq2, hp⟩ := g_ob1 hp
  refine gV_callvS C (gV_runV (As := [.int v1]) (rest := []) C (mt_X3_requireRow hl D h cI cJ lc la hr uP uC uR tn pn pg pq rl sr gcb gpb tg tm tl pm ps v1 x2 hq2) (cwV 1 C.2.2.2.2.1 gX3_hide_X3_requireRow rfl rfl rfl hdv_X3_requireRow ⟨Nat.le_of_ble_eq_true rfl, Nat.le_of_ble_eq_true rfl⟩) (gSub_S _) 0 rfl rfl rfl rfl (Nat.le_of_ble_eq_true rfl) dX3_hide_2 ⟨Nat.le_of_ble_eq_true rfl, Nat.le_of_ble_eq_true rfl⟩) (fun E w1 hx => ?_) (fun w1 hw => ?_)
  · obtain ⟨hne, rfl, rfl⟩ := hx
    replace hp := g_iff hp hne
    obtain ⟨rfl, rfl, rfl⟩ := g_so3 hp
    exact OUT _ _ _ _ _ _ _ ⟨hne, rfl, rfl⟩ (Nat.le_of_ble_eq_true rfl) (Nat.le_of_ble_eq_true rfl)
  · obtain ⟨hx0, rfl⟩ := hw
    replace hp := g_ift hp hx0
    refine gV_aload_n C dX3_hide_5 rfl 0 rfl ?_
    refine gV_iload_n C dX3_hide_6 rfl 1 rfl ?_
    obtain ⟨r7q, hq7, hp⟩ := g_ob1 hp
    refine gV_calliS C (gV_runV (As := [.int v1]) (rest := []) C (mt_X3_remains hl D h cI cJ lc la hr uP uC uR tn pn pg pq rl sr gcb gpb tg tm tl pm ps v1 r7q hq7) (cwV 1 C.2.2.2.2.1 gX3_hide_X3_remains rfl rfl rfl hdv_X3_remains ⟨Nat.le_of_ble_eq_true rfl, Nat.le_of_ble_eq_true rfl⟩) (gSub_S _) 0 rfl rfl rfl rfl (Nat.le_of_ble_eq_true rfl) dX3_hide_7 ⟨Nat.le_of_ble_eq_true rfl, Nat.le_of_ble_eq_true rfl⟩) (fun _ _ hx => False.elim hx) (fun r7 w1 hw => ?_)
    obtain ⟨rfl, rfl⟩ := hw
    refine gV_if_ne (tgt := 23) C dX3_hide_10 (by decide) (fun c10 => ?_) (fun c10 => ?_)
    · replace hp := g_iff hp c10
      refine gV_aload_n C dX3_hide_23 rfl 0 rfl ?_
      refine gV_get (Cn := RX3) (T := TX3) (N := 8) C inw_X3_hide_X3 0 rfl rfl 7 (by decide) (C.w 3 rfl) rfl rfl dX3_hide_24 ?_
      refine gV_iconst (v := (-1)) C dX3_hide_27 rfl ?_
      refine gV_icmp_eq (tgt := 35) C dX3_hide_28 (by decide) (fun c28 => ?_) (fun c28 => ?_)
      · replace hp := g_ift hp c28
        refine gV_iconst (v := 0) C dX3_hide_35 rfl ?_
        exact J36 0 hr hp
      · replace hp := g_iff hp c28
        refine gV_iconst (v := 1) C dX3_hide_31 rfl ?_
        refine gV_goto (tgt := 36) C dX3_hide_32 (by decide) ?_
        exact J36 1 hr hp
    · replace hp := g_ift hp c10
      obtain ⟨rfl, rfl, rfl⟩ := g_so3 hp
      exact THR _ "the row is not left" 91 87 113 _ _ _ _ _ _ ⟨by decide, rfl, rfl⟩ tw_X3_hide_ISE (Or.inr (Or.inr rfl)) (by decide) dX3_hide_13 dX3_hide_16 dX3_hide_17 dX3_hide_19 dX3_hide_22 (Nat.le_of_ble_eq_true rfl) (Nat.le_of_ble_eq_true rfl) (Nat.le_of_ble_eq_true rfl) (Nat.le_of_ble_eq_true rfl) (Nat.le_of_ble_eq_true rfl) (Nat.le_of_ble_eq_true rfl)
def pf_X3_wouldLoseHidden_j47  (s0 : Int32) : Option (Int32) := (gz s0 ((some s0)))
def pf_X3_wouldLoseHidden_j46  : Option (Int32) := (pf_X3_wouldLoseHidden_j47 0)
def pf_X3_wouldLoseHidden  (la : Int32) (hr : Int32) (uP : Int32) (uR : Int32) (tn : Int32) (gcb : Nat → Int32) (gpb : Nat → Int64) (tl : Nat → Int32) (v1 : Int32) (v2 : Int32) : Option (Int32) := (if hr = (-1) then (pf_X3_wouldLoseHidden_j46) else (ob1 (pf_X1_compare uP uR gcb gpb v1 hr) fun r17 => (if r17 = v2 then (pf_X3_wouldLoseHidden_j46) else (ob1 (pf_X0_countLies uR tn tl hr) fun r32 => (if r32 < la then (pf_X3_wouldLoseHidden_j46) else (pf_X3_wouldLoseHidden_j47 1))))))
abbrev rm_X3_wouldLoseHidden : Room := { frames := 3, cells := 0, slots := 0, locals := 64 }
theorem inw_X3_wouldLoseHidden_X3 : ∀ w ∈ wsX30, w ∈ wsX3_wouldLoseHidden := by decide +kernel
set_option maxHeartbeats 4000000 in
set_option maxRecDepth 100000 in
theorem mt_X3_wouldLoseHidden {l : Launch} (hl : l.stackTraces = false) (D : va_G) (h : Nat → Nat) (cI cJ : ClassId) (lc : Int32) (la : Int32) (hr : Int32) (uP : Int32) (uC : Int32) (uR : Int32) (tn : Int32) (pn : Int32) (pg : Int32) (pq : Int32) (rl : Nat → Int32) (sr : Nat → Int32) (gcb : Nat → Int32) (gpb : Nat → Int64) (tg : Nat → Int32) (tm : Nat → Int32) (tl : Nat → Int32) (pm : Nat → Int32) (ps : Nat → Int32) (v1 : Int32) (v2 : Int32) (r0 : Int32) (hp : pf_X3_wouldLoseHidden la hr uP uR tn gcb gpb tl v1 v2 = (some r0)) : gMi l yX3_wouldLoseHidden wsX3_wouldLoseHidden rm_X3_wouldLoseHidden D [(cI, .int), (cJ, .long)] (cW h cI cJ lc la hr uP uC uR tn pn pg pq rl sr gcb gpb tg tm tl pm ps) [.ref (h 0), .int v1, .int v2] 0 0 (fun r w => r = r0 ∧ w = cW h cI cJ lc la hr uP uC uR tn pn pg pq rl sr gcb gpb tg tm tl pm ps) (fun _ _ => False) := by
  refine gMi_of (cc := cX3_wouldLoseHidden) (maxL := 3) (rt := .boolean) hl (by decide +kernel) rfl (Nat.le_of_ble_eq_true rfl) ?_
  intro p e s m args below meth c A Q C hnm ht RET OUT THR THRW
  have C : gC p l s m args meth c A D [(cI, .int), (cJ, .long)] 3 RX3 cX3_wouldLoseHidden wsX3_wouldLoseHidden := C
  refine gV_loc (lvs' := [(0, .ref (h 0)), (1, .int v1), (2, .int v2)]) [0, 1, 2] rfl ?_
  unfold pf_X3_wouldLoseHidden at hp
  have J47 : ∀ (s0 : Int32), pf_X3_wouldLoseHidden_j47 s0 = (some r0) → gV p l e rm_X3_wouldLoseHidden s m args below meth c A D 3 Q (cW h cI cJ lc la hr uP uC uR tn pn pg pq rl sr gcb gpb tg tm tl pm ps) [(0, .ref (h 0))] 0 0 47 [.int s0] := by
    intro s0 hp
    unfold pf_X3_wouldLoseHidden_j47 at hp
    obtain ⟨hz47, hp⟩ := g_bool hp
    obtain rfl := g_so1 hp
    exact RET _ _ _ _ _ _ dX3_wouldLoseHidden_47 (Nat.le_of_ble_eq_true rfl) (Nat.le_of_ble_eq_true rfl) (g_nz hz47) ⟨rfl, rfl⟩
  have J46 : pf_X3_wouldLoseHidden_j46 = (some r0) → gV p l e rm_X3_wouldLoseHidden s m args below meth c A D 3 Q (cW h cI cJ lc la hr uP uC uR tn pn pg pq rl sr gcb gpb tg tm tl pm ps) [(0, .ref (h 0))] 0 0 46 [] := by
    intro hp
    unfold pf_X3_wouldLoseHidden_j46 at hp
    refine gV_iconst (v := 0) C dX3_wouldLoseHidden_46 rfl ?_
    exact J47 0 hp
  refine gV_aload_n C dX3_wouldLoseHidden_0 rfl 0 rfl ?_
  refine gV_get (Cn := RX3) (T := TX3) (N := 8) C inw_X3_wouldLoseHidden_X3 0 rfl rfl 7 (by decide) (C.w 1 rfl) rfl rfl dX3_wouldLoseHidden_1 ?_
  refine gV_iconst (v := (-1)) C dX3_wouldLoseHidden_4 rfl ?_
  refine gV_icmp_eq (tgt := 46) C dX3_wouldLoseHidden_5 (by decide) (fun c5 => ?_) (fun c5 => ?_)
  · replace hp := g_ift hp c5
    refine gV_loc [0] rfl ?_
    exact J46 hp
  · replace hp := g_iff hp c5
    refine gV_aload_n C dX3_wouldLoseHidden_8 rfl 0 rfl ?_
    refine gV_get (Cn := RX3) (T := TX3) (N := 8) C inw_X3_wouldLoseHidden_X3 0 rfl rfl 0 (by decide) (C.w 2 rfl) rfl rfl dX3_wouldLoseHidden_9 ?_
    refine gV_iload_n C dX3_wouldLoseHidden_12 rfl 1 rfl ?_
    refine gV_aload_n C dX3_wouldLoseHidden_13 rfl 0 rfl ?_
    refine gV_get (Cn := RX3) (T := TX3) (N := 8) C inw_X3_wouldLoseHidden_X3 0 rfl rfl 7 (by decide) (C.w 1 rfl) rfl rfl dX3_wouldLoseHidden_14 ?_
    obtain ⟨r17q, hq17, hp⟩ := g_ob1 hp
    refine gV_calliS C (gV_runV (As := [.int v1, .int hr]) (rest := []) C (mt_X1_compare hl D h cI cJ lc la hr uP uC uR tn pn pg pq rl sr gcb gpb tg tm tl pm ps v1 hr r17q hq17) (cwV 2 C.2.2.2.2.1 gX3_wouldLoseHidden_X1_compare rfl rfl rfl hdv_X1_compare ⟨Nat.le_of_ble_eq_true rfl, Nat.le_of_ble_eq_true rfl⟩) (gSub_S _) 1 rfl rfl rfl rfl (Nat.le_of_ble_eq_true rfl) dX3_wouldLoseHidden_17 ⟨Nat.le_of_ble_eq_true rfl, Nat.le_of_ble_eq_true rfl⟩) (fun _ _ hx => False.elim hx) (fun r17 w1 hw => ?_)
    obtain ⟨rfl, rfl⟩ := hw
    refine gV_iload_n C dX3_wouldLoseHidden_20 rfl 2 rfl ?_
    refine gV_icmp_eq (tgt := 46) C dX3_wouldLoseHidden_21 (by decide) (fun c21 => ?_) (fun c21 => ?_)
    · replace hp := g_ift hp c21
      refine gV_loc [0] rfl ?_
      exact J46 hp
    · replace hp := g_iff hp c21
      refine gV_aload_n C dX3_wouldLoseHidden_24 rfl 0 rfl ?_
      refine gV_get (Cn := RX3) (T := TX3) (N := 8) C inw_X3_wouldLoseHidden_X3 0 rfl rfl 1 (by decide) (C.w 3 rfl) rfl rfl dX3_wouldLoseHidden_25 ?_
      refine gV_aload_n C dX3_wouldLoseHidden_28 rfl 0 rfl ?_
      refine gV_get (Cn := RX3) (T := TX3) (N := 8) C inw_X3_wouldLoseHidden_X3 0 rfl rfl 7 (by decide) (C.w 1 rfl) rfl rfl dX3_wouldLoseHidden_29 ?_
      obtain ⟨r32q, hq32, hp⟩ := g_ob1 hp
      refine gV_calliS C (gV_runV (As := [.int hr]) (rest := []) C (mt_X0_countLies hl D h cI cJ lc la hr uP uC uR tn pn pg pq rl sr gcb gpb tg tm tl pm ps hr r32q hq32) (cwV 1 C.2.2.2.2.1 gX3_wouldLoseHidden_X0_countLies rfl rfl rfl hdv_X0_countLies ⟨Nat.le_of_ble_eq_true rfl, Nat.le_of_ble_eq_true rfl⟩) (gSub_S _) 2 rfl rfl rfl rfl (Nat.le_of_ble_eq_true rfl) dX3_wouldLoseHidden_32 ⟨Nat.le_of_ble_eq_true rfl, Nat.le_of_ble_eq_true rfl⟩) (fun _ _ hx => False.elim hx) (fun r32 w1 hw => ?_)
      obtain ⟨rfl, rfl⟩ := hw
      refine gV_aload_n C dX3_wouldLoseHidden_35 rfl 0 rfl ?_
      refine gV_get (Cn := RX3) (T := TX3) (N := 8) C inw_X3_wouldLoseHidden_X3 0 rfl rfl 6 (by decide) (C.w 4 rfl) rfl rfl dX3_wouldLoseHidden_36 ?_
      refine gV_icmp_lt (tgt := 46) C dX3_wouldLoseHidden_39 (by decide) (fun c39 => ?_) (fun c39 => ?_)
      · replace hp := g_ift hp c39
        refine gV_loc [0] rfl ?_
        exact J46 hp
      · replace hp := g_iff hp c39
        refine gV_iconst (v := 1) C dX3_wouldLoseHidden_42 rfl ?_
        refine gV_goto (tgt := 47) C dX3_wouldLoseHidden_43 (by decide) ?_
        refine gV_loc [0] rfl ?_
        exact J47 1 hp
def pf_X3_addEntry  (lc : Int32) (la : Int32) (uP : Int32) (uR : Int32) (tn : Int32) (rl : Nat → Int32) (gcb : Nat → Int32) (gpb : Nat → Int64) (tg : Nat → Int32) (tm : Nat → Int32) (tl : Nat → Int32) (v1 : Int32) (v2 : Int32) : Option (Int32 × Int32 × (Nat → Int32) × (Nat → Int32) × (Nat → Int32) × (Nat → Int32)) := (ob4 (pf_X0_add uP uR tn gcb gpb tg tm tl v1 v2) fun tn_6 tg_6 tm_6 tl_6 => (ob2 (pf_X3_listRowsLeft lc la uR tn_6 rl tl_6) fun lc_10 rl_10 => (some (lc_10, tn_6, rl_10, tg_6, tm_6, tl_6))))
abbrev rm_X3_addEntry : Room := { frames := 5, cells := 0, slots := 0, locals := 106 }
theorem inw_X3_addEntry_X3 : ∀ w ∈ wsX30, w ∈ wsX3_addEntry := by decide +kernel
theorem hdv_X0_add : yX0_add.cls = RX0 ∧ yX0_add.cls ≠ "java/lang/invoke/MethodHandle" ∧ yX0_add.cls ≠ "java/lang/invoke/VarHandle" ∧ (parseMethodDescriptor yX0_add.desc).map (fun d => d.parameters.length) = some 2 := by decide +kernel
set_option maxHeartbeats 4000000 in
set_option maxRecDepth 100000 in
theorem mt_X3_addEntry {l : Launch} (hl : l.stackTraces = false) (D : va_G) (h : Nat → Nat) (cI cJ : ClassId) (lc : Int32) (la : Int32) (hr : Int32) (uP : Int32) (uC : Int32) (uR : Int32) (tn : Int32) (pn : Int32) (pg : Int32) (pq : Int32) (rl : Nat → Int32) (sr : Nat → Int32) (gcb : Nat → Int32) (gpb : Nat → Int64) (tg : Nat → Int32) (tm : Nat → Int32) (tl : Nat → Int32) (pm : Nat → Int32) (ps : Nat → Int32) (v1 : Int32) (v2 : Int32) (lc0 : Int32) (tn0 : Int32) (rl0 : Nat → Int32) (tg0 : Nat → Int32) (tm0 : Nat → Int32) (tl0 : Nat → Int32) (hp : pf_X3_addEntry lc la uP uR tn rl gcb gpb tg tm tl v1 v2 = (some (lc0, tn0, rl0, tg0, tm0, tl0))) : gMv l yX3_addEntry wsX3_addEntry rm_X3_addEntry D [(cI, .int), (cJ, .long)] (cW h cI cJ lc la hr uP uC uR tn pn pg pq rl sr gcb gpb tg tm tl pm ps) [.ref (h 0), .int v1, .int v2] 0 0 (fun w => w = cW h cI cJ lc0 la hr uP uC uR tn0 pn pg pq rl0 sr gcb gpb tg0 tm0 tl0 pm ps) (fun _ _ => False) := by
  refine gMv_of (cc := cX3_addEntry) (maxL := 3) hl (by decide +kernel) rfl (Nat.le_of_ble_eq_true rfl) ?_
  intro p e s m args below meth c A Q C hnm ht RET OUT THR THRW
  have C : gC p l s m args meth c A D [(cI, .int), (cJ, .long)] 3 RX3 cX3_addEntry wsX3_addEntry := C
  refine gV_loc (lvs' := [(0, .ref (h 0)), (1, .int v1), (2, .int v2)]) [0, 1, 2] rfl ?_
  unfold pf_X3_addEntry at hp
  refine gV_aload_n C dX3_addEntry_0 rfl 0 rfl ?_
  refine gV_get (Cn := RX3) (T := TX3) (N := 8) C inw_X3_addEntry_X3 0 rfl rfl 1 (by decide) (C.w 1 rfl) rfl rfl dX3_addEntry_1 ?_
  refine gV_iload_n C dX3_addEntry_4 rfl 1 rfl ?_
  refine gV_iload_n C dX3_addEntry_5 rfl 2 rfl ?_
  obtain ⟨tn_6, tg_6, tm_6, tl_6, hq6, hp⟩ := g_ob4 hp
  refine gV_callvS C (gV_runV (As := [.int v1, .int v2]) (rest := []) C (mt_X0_add hl D h cI cJ lc la hr uP uC uR tn pn pg pq rl sr gcb gpb tg tm tl pm ps v1 v2 tn_6 tg_6 tm_6 tl_6 hq6) (cwV 2 C.2.2.2.2.1 gX3_addEntry_X0_add rfl rfl rfl hdv_X0_add ⟨Nat.le_of_ble_eq_true rfl, Nat.le_of_ble_eq_true rfl⟩) (gSub_S _) 2 rfl rfl rfl rfl (Nat.le_of_ble_eq_true rfl) dX3_addEntry_6 ⟨Nat.le_of_ble_eq_true rfl, Nat.le_of_ble_eq_true rfl⟩) (fun _ _ hx => False.elim hx) (fun w1 hw => ?_)
  obtain rfl := hw
  refine gV_aload_n C dX3_addEntry_9 rfl 0 rfl ?_
  obtain ⟨lc_10, rl_10, hq10, hp⟩ := g_ob2 hp
  refine gV_callvS C (gV_runV (As := []) (rest := []) C (mt_X3_listRowsLeft hl D h cI cJ lc la hr uP uC uR tn_6 pn pg pq rl sr gcb gpb tg_6 tm_6 tl_6 pm ps lc_10 rl_10 hq10) (cwV 0 C.2.2.2.2.1 gX3_addEntry_X3_listRowsLeft rfl rfl rfl hdv_X3_listRowsLeft ⟨Nat.le_of_ble_eq_true rfl, Nat.le_of_ble_eq_true rfl⟩) (gSub_S _) 0 rfl rfl rfl rfl (Nat.le_of_ble_eq_true rfl) dX3_addEntry_10 ⟨Nat.le_of_ble_eq_true rfl, Nat.le_of_ble_eq_true rfl⟩) (fun _ _ hx => False.elim hx) (fun w1 hw => ?_)
  obtain rfl := hw
  obtain ⟨rfl, rfl, rfl, rfl, rfl, rfl⟩ := g_so6 hp
  exact RET _ _ _ _ _ dX3_addEntry_13 (Nat.le_of_ble_eq_true rfl) (Nat.le_of_ble_eq_true rfl) rfl
def pf_X3_guess_j23  (lc : Int32) (tn : Int32) (rl : Nat → Int32) (tg : Nat → Int32) (tm : Nat → Int32) (tl : Nat → Int32) : Option (Nat × Int32 × Int32 × Int32 × (Nat → Int32) × (Nat → Int32) × (Nat → Int32) × (Nat → Int32)) := (some (3, 0, lc, tn, rl, tg, tm, tl))
def pf_X3_guess  (lc : Int32) (la : Int32) (hr : Int32) (uP : Int32) (uR : Int32) (tn : Int32) (rl : Nat → Int32) (gcb : Nat → Int32) (gpb : Nat → Int64) (tg : Nat → Int32) (tm : Nat → Int32) (tl : Nat → Int32) (v1 : Int32) : Option (Nat × Int32 × Int32 × Int32 × (Nat → Int32) × (Nat → Int32) × (Nat → Int32) × (Nat → Int32)) := (ob1 (pf_X3_requireRow uR v1) fun x2 => if x2 = 0 then (if hr = (-1) then (pf_X3_guess_j23 lc tn rl tg tm tl) else (ob1 (pf_X0_isFull tn) fun r17 => (if r17 = 0 then (ob1 (pf_X1_compare uP uR gcb gpb v1 hr) fun r42 => (ob6 (pf_X3_addEntry lc la uP uR tn rl gcb gpb tg tm tl v1 r42) fun lc_49 tn_49 rl_49 tg_49 tm_49 tl_49 => (some (0, r42, lc_49, tn_49, rl_49, tg_49, tm_49, tl_49)))) else (pf_X3_guess_j23 lc tn rl tg tm tl)))) else (some (x2, 0, lc, tn, rl, tg, tm, tl)))
abbrev rm_X3_guess : Room := { frames := 7, cells := 2, slots := 12, locals := 128 }
theorem inw_X3_guess_X3 : ∀ w ∈ wsX30, w ∈ wsX3_guess := by decide +kernel
theorem tw_X3_guess_ISE : gTw wsX3_guess "java/lang/IllegalStateException" 91 87 := ⟨gtw_ISE.1, List.mem_of_getElem? (i := 1) rfl, List.mem_of_getElem? (i := 2) rfl, fun w h => List.mem_cons_of_mem _ (List.mem_append_left _ (List.mem_append_right _ h)), gtw_ISE.2.1, gtw_ISE.2.2⟩
theorem hdv_X3_addEntry : yX3_addEntry.cls = RX3 ∧ yX3_addEntry.cls ≠ "java/lang/invoke/MethodHandle" ∧ yX3_addEntry.cls ≠ "java/lang/invoke/VarHandle" ∧ (parseMethodDescriptor yX3_addEntry.desc).map (fun d => d.parameters.length) = some 2 := by decide +kernel
set_option maxHeartbeats 4000000 in
set_option maxRecDepth 100000 in
theorem mt_X3_guess {l : Launch} (hl : l.stackTraces = false) (D : va_G) (h : Nat → Nat) (cI cJ : ClassId) (lc : Int32) (la : Int32) (hr : Int32) (uP : Int32) (uC : Int32) (uR : Int32) (tn : Int32) (pn : Int32) (pg : Int32) (pq : Int32) (rl : Nat → Int32) (sr : Nat → Int32) (gcb : Nat → Int32) (gpb : Nat → Int64) (tg : Nat → Int32) (tm : Nat → Int32) (tl : Nat → Int32) (pm : Nat → Int32) (ps : Nat → Int32) (v1 : Int32) (xc0 : Nat) (r0 : Int32) (lc0 : Int32) (tn0 : Int32) (rl0 : Nat → Int32) (tg0 : Nat → Int32) (tm0 : Nat → Int32) (tl0 : Nat → Int32) (hp : pf_X3_guess lc la hr uP uR tn rl gcb gpb tg tm tl v1 = (some (xc0, r0, lc0, tn0, rl0, tg0, tm0, tl0))) : gMi l yX3_guess wsX3_guess rm_X3_guess D [(cI, .int), (cJ, .long)] (cW h cI cJ lc la hr uP uC uR tn pn pg pq rl sr gcb gpb tg tm tl pm ps) [.ref (h 0), .int v1] 2 12 (fun r w => xc0 = 0 ∧ r = r0 ∧ w = cW h cI cJ lc0 la hr uP uC uR tn0 pn pg pq rl0 sr gcb gpb tg0 tm0 tl0 pm ps) (fun E w => xc0 ≠ 0 ∧ E = g_exn xc0 ∧ w = cW h cI cJ lc0 la hr uP uC uR tn0 pn pg pq rl0 sr gcb gpb tg0 tm0 tl0 pm ps) := by
  refine gMi_of (cc := cX3_guess) (maxL := 3) (rt := .int) hl (by decide +kernel) rfl (Nat.le_of_ble_eq_true rfl) ?_
  intro p e s m args below meth c A Q C hnm ht RET OUT THR THRW
  have C : gC p l s m args meth c A D [(cI, .int), (cJ, .long)] 3 RX3 cX3_guess wsX3_guess := C
  have THR := THR rfl
  have THRW := THRW rfl
  refine gV_loc (lvs' := [(0, .ref (h 0)), (1, .int v1)]) [0, 1] rfl ?_
  unfold pf_X3_guess at hp
  have J23 : ∀ (lc : Int32) (tn : Int32) (rl : Nat → Int32) (tg : Nat → Int32) (tm : Nat → Int32) (tl : Nat → Int32), pf_X3_guess_j23 lc tn rl tg tm tl = (some (xc0, r0, lc0, tn0, rl0, tg0, tm0, tl0)) → gV p l e rm_X3_guess s m args below meth c A D 3 Q (cW h cI cJ lc la hr uP uC uR tn pn pg pq rl sr gcb gpb tg tm tl pm ps) [(0, .ref (h 0))] 1 6 23 [] := by
    intro lc tn rl tg tm tl hp
    unfold pf_X3_guess_j23 at hp
    obtain ⟨rfl, rfl, rfl, rfl, rfl, rfl, rfl, rfl⟩ := g_so8 hp
    exact THR _ "no row is hidden, or all entries are told" 91 87 119 _ _ _ _ _ _ ⟨by decide, rfl, rfl⟩ tw_X3_guess_ISE (Or.inr (Or.inr rfl)) (by decide) dX3_guess_23 dX3_guess_26 dX3_guess_27 dX3_guess_29 dX3_guess_32 (Nat.le_of_ble_eq_true rfl) (Nat.le_of_ble_eq_true rfl) (Nat.le_of_ble_eq_true rfl) (Nat.le_of_ble_eq_true rfl) (Nat.le_of_ble_eq_true rfl) (Nat.le_of_ble_eq_true rfl)
  refine gV_aload_n C dX3_guess_0 rfl 0 rfl ?_
  refine gV_iload_n C dX3_guess_1 rfl 1 rfl ?_
  obtain ⟨x2, hq2, hp⟩ := g_ob1 hp
  refine gV_callvS C (gV_runV (As := [.int v1]) (rest := []) C (mt_X3_requireRow hl D h cI cJ lc la hr uP uC uR tn pn pg pq rl sr gcb gpb tg tm tl pm ps v1 x2 hq2) (cwV 1 C.2.2.2.2.1 gX3_guess_X3_requireRow rfl rfl rfl hdv_X3_requireRow ⟨Nat.le_of_ble_eq_true rfl, Nat.le_of_ble_eq_true rfl⟩) (gSub_S _) 0 rfl rfl rfl rfl (Nat.le_of_ble_eq_true rfl) dX3_guess_2 ⟨Nat.le_of_ble_eq_true rfl, Nat.le_of_ble_eq_true rfl⟩) (fun E w1 hx => ?_) (fun w1 hw => ?_)
  · obtain ⟨hne, rfl, rfl⟩ := hx
    replace hp := g_iff hp hne
    obtain ⟨rfl, rfl, rfl, rfl, rfl, rfl, rfl, rfl⟩ := g_so8 hp
    exact OUT _ _ _ _ _ _ _ ⟨hne, rfl, rfl⟩ (Nat.le_of_ble_eq_true rfl) (Nat.le_of_ble_eq_true rfl)
  · obtain ⟨hx0, rfl⟩ := hw
    replace hp := g_ift hp hx0
    refine gV_aload_n C dX3_guess_5 rfl 0 rfl ?_
    refine gV_get (Cn := RX3) (T := TX3) (N := 8) C inw_X3_guess_X3 0 rfl rfl 7 (by decide) (C.w 3 rfl) rfl rfl dX3_guess_6 ?_
    refine gV_iconst (v := (-1)) C dX3_guess_9 rfl ?_
    refine gV_icmp_eq (tgt := 23) C dX3_guess_10 (by decide) (fun c10 => ?_) (fun c10 => ?_)
    · replace hp := g_ift hp c10
      refine gV_loc [0] rfl ?_
      exact J23 lc tn rl tg tm tl hp
    · replace hp := g_iff hp c10
      refine gV_aload_n C dX3_guess_13 rfl 0 rfl ?_
      refine gV_get (Cn := RX3) (T := TX3) (N := 8) C inw_X3_guess_X3 0 rfl rfl 1 (by decide) (C.w 4 rfl) rfl rfl dX3_guess_14 ?_
      obtain ⟨r17q, hq17, hp⟩ := g_ob1 hp
      refine gV_calliS C (gV_runV (As := []) (rest := []) C (mt_X0_isFull hl D h cI cJ lc la hr uP uC uR tn pn pg pq rl sr gcb gpb tg tm tl pm ps r17q hq17) (cwV 0 C.2.2.2.2.1 gX3_guess_X0_isFull rfl rfl rfl hdv_X0_isFull ⟨Nat.le_of_ble_eq_true rfl, Nat.le_of_ble_eq_true rfl⟩) (gSub_S _) 2 rfl rfl rfl rfl (Nat.le_of_ble_eq_true rfl) dX3_guess_17 ⟨Nat.le_of_ble_eq_true rfl, Nat.le_of_ble_eq_true rfl⟩) (fun _ _ hx => False.elim hx) (fun r17 w1 hw => ?_)
      obtain ⟨rfl, rfl⟩ := hw
      refine gV_if_eq (tgt := 33) C dX3_guess_20 (by decide) (fun c20 => ?_) (fun c20 => ?_)
      · replace hp := g_ift hp c20
        refine gV_aload_n C dX3_guess_33 rfl 0 rfl ?_
        refine gV_get (Cn := RX3) (T := TX3) (N := 8) C inw_X3_guess_X3 0 rfl rfl 0 (by decide) (C.w 5 rfl) rfl rfl dX3_guess_34 ?_
        refine gV_iload_n C dX3_guess_37 rfl 1 rfl ?_
        refine gV_aload_n C dX3_guess_38 rfl 0 rfl ?_
        refine gV_get (Cn := RX3) (T := TX3) (N := 8) C inw_X3_guess_X3 0 rfl rfl 7 (by decide) (C.w 3 rfl) rfl rfl dX3_guess_39 ?_
        obtain ⟨r42q, hq42, hp⟩ := g_ob1 hp
        refine gV_calliS C (gV_runV (As := [.int v1, .int hr]) (rest := []) C (mt_X1_compare hl D h cI cJ lc la hr uP uC uR tn pn pg pq rl sr gcb gpb tg tm tl pm ps v1 hr r42q hq42) (cwV 2 C.2.2.2.2.1 gX3_guess_X1_compare rfl rfl rfl hdv_X1_compare ⟨Nat.le_of_ble_eq_true rfl, Nat.le_of_ble_eq_true rfl⟩) (gSub_S _) 1 rfl rfl rfl rfl (Nat.le_of_ble_eq_true rfl) dX3_guess_42 ⟨Nat.le_of_ble_eq_true rfl, Nat.le_of_ble_eq_true rfl⟩) (fun _ _ hx => False.elim hx) (fun r42 w1 hw => ?_)
        obtain ⟨rfl, rfl⟩ := hw
        refine gV_istore_n (lvs' := [(2, .int r42), (0, .ref (h 0)), (1, .int v1)]) C dX3_guess_45 rfl (by decide) rfl ?_
        refine gV_aload_n C dX3_guess_46 rfl 1 rfl ?_
        refine gV_iload_n C dX3_guess_47 rfl 2 rfl ?_
        refine gV_iload_n C dX3_guess_48 rfl 0 rfl ?_
        obtain ⟨lc_49, tn_49, rl_49, tg_49, tm_49, tl_49, hq49, hp⟩ := g_ob6 hp
        refine gV_callvS C (gV_runV (As := [.int v1, .int r42]) (rest := []) C (mt_X3_addEntry hl D h cI cJ lc la hr uP uC uR tn pn pg pq rl sr gcb gpb tg tm tl pm ps v1 r42 lc_49 tn_49 rl_49 tg_49 tm_49 tl_49 hq49) (cwV 2 C.2.2.2.2.1 gX3_guess_X3_addEntry rfl rfl rfl hdv_X3_addEntry ⟨Nat.le_of_ble_eq_true rfl, Nat.le_of_ble_eq_true rfl⟩) (gSub_S _) 0 rfl rfl rfl rfl (Nat.le_of_ble_eq_true rfl) dX3_guess_49 ⟨Nat.le_of_ble_eq_true rfl, Nat.le_of_ble_eq_true rfl⟩) (fun _ _ hx => False.elim hx) (fun w1 hw => ?_)
        obtain rfl := hw
        refine gV_iload_n C dX3_guess_52 rfl 0 rfl ?_
        obtain ⟨rfl, rfl, rfl, rfl, rfl, rfl, rfl, rfl⟩ := g_so8 hp
        exact RET _ _ _ _ _ _ dX3_guess_53 (Nat.le_of_ble_eq_true rfl) (Nat.le_of_ble_eq_true rfl) rfl ⟨rfl, rfl, rfl⟩
      · replace hp := g_iff hp c20
        refine gV_loc [0] rfl ?_
        exact J23 lc tn rl tg tm tl hp
def pf_X3_tell_j29  (lc : Int32) (tn : Int32) (rl : Nat → Int32) (tg : Nat → Int32) (tm : Nat → Int32) (tl : Nat → Int32) : Option (Nat × Int32 × Int32 × Int32 × (Nat → Int32) × (Nat → Int32) × (Nat → Int32) × (Nat → Int32)) := (some (3, 0, lc, tn, rl, tg, tm, tl))
def pf_X3_tell  (lc : Int32) (la : Int32) (hr : Int32) (uP : Int32) (uR : Int32) (tn : Int32) (rl : Nat → Int32) (gcb : Nat → Int32) (gpb : Nat → Int64) (tg : Nat → Int32) (tm : Nat → Int32) (tl : Nat → Int32) (v1 : Int32) (v2 : Int32) : Option (Nat × Int32 × Int32 × Int32 × (Nat → Int32) × (Nat → Int32) × (Nat → Int32) × (Nat → Int32)) := (ob1 (pf_X3_requireRow uR v1) fun x2 => if x2 = 0 then (ob1 (pf_X3_requirePossible uP v2) fun x7 => if x7 = 0 then (ob1 (pf_X0_isFull tn) fun r14 => (if r14 = 0 then (ob1 (pf_X3_wouldLoseHidden la hr uP uR tn gcb gpb tl v1 v2) fun r23 => (if r23 = 0 then (ob6 (pf_X3_addEntry lc la uP uR tn rl gcb gpb tg tm tl v1 v2) fun lc_42 tn_42 rl_42 tg_42 tm_42 tl_42 => (some (0, lc_42, lc_42, tn_42, rl_42, tg_42, tm_42, tl_42))) else (pf_X3_tell_j29 lc tn rl tg tm tl))) else (pf_X3_tell_j29 lc tn rl tg tm tl))) else (some (x7, 0, lc, tn, rl, tg, tm, tl))) else (some (x2, 0, lc, tn, rl, tg, tm, tl)))
abbrev rm_X3_tell : Room := { frames := 7, cells := 3, slots := 18, locals := 128 }
theorem inw_X3_tell_X3 : ∀ w ∈ wsX30, w ∈ wsX3_tell := by decide +kernel
theorem tw_X3_tell_ISE : gTw wsX3_tell "java/lang/IllegalStateException" 91 87 := ⟨gtw_ISE.1, List.mem_of_getElem? (i := 1) rfl, List.mem_of_getElem? (i := 2) rfl, fun w h => List.mem_cons_of_mem _ (List.mem_append_left _ (List.mem_append_left _ (List.mem_append_right _ h))), gtw_ISE.2.1, gtw_ISE.2.2⟩
theorem hdv_X3_requirePossible : yX3_requirePossible.cls = RX3 ∧ yX3_requirePossible.cls ≠ "java/lang/invoke/MethodHandle" ∧ yX3_requirePossible.cls ≠ "java/lang/invoke/VarHandle" ∧ (parseMethodDescriptor yX3_requirePossible.desc).map (fun d => d.parameters.length) = some 1 := by decide +kernel
theorem hdv_X3_wouldLoseHidden : yX3_wouldLoseHidden.cls = RX3 ∧ yX3_wouldLoseHidden.cls ≠ "java/lang/invoke/MethodHandle" ∧ yX3_wouldLoseHidden.cls ≠ "java/lang/invoke/VarHandle" ∧ (parseMethodDescriptor yX3_wouldLoseHidden.desc).map (fun d => d.parameters.length) = some 2 := by decide +kernel
set_option maxHeartbeats 4000000 in
set_option maxRecDepth 100000 in
theorem mt_X3_tell {l : Launch} (hl : l.stackTraces = false) (D : va_G) (h : Nat → Nat) (cI cJ : ClassId) (lc : Int32) (la : Int32) (hr : Int32) (uP : Int32) (uC : Int32) (uR : Int32) (tn : Int32) (pn : Int32) (pg : Int32) (pq : Int32) (rl : Nat → Int32) (sr : Nat → Int32) (gcb : Nat → Int32) (gpb : Nat → Int64) (tg : Nat → Int32) (tm : Nat → Int32) (tl : Nat → Int32) (pm : Nat → Int32) (ps : Nat → Int32) (v1 : Int32) (v2 : Int32) (xc0 : Nat) (r0 : Int32) (lc0 : Int32) (tn0 : Int32) (rl0 : Nat → Int32) (tg0 : Nat → Int32) (tm0 : Nat → Int32) (tl0 : Nat → Int32) (hp : pf_X3_tell lc la hr uP uR tn rl gcb gpb tg tm tl v1 v2 = (some (xc0, r0, lc0, tn0, rl0, tg0, tm0, tl0))) : gMi l yX3_tell wsX3_tell rm_X3_tell D [(cI, .int), (cJ, .long)] (cW h cI cJ lc la hr uP uC uR tn pn pg pq rl sr gcb gpb tg tm tl pm ps) [.ref (h 0), .int v1, .int v2] 3 18 (fun r w => xc0 = 0 ∧ r = r0 ∧ w = cW h cI cJ lc0 la hr uP uC uR tn0 pn pg pq rl0 sr gcb gpb tg0 tm0 tl0 pm ps) (fun E w => xc0 ≠ 0 ∧ E = g_exn xc0 ∧ w = cW h cI cJ lc0 la hr uP uC uR tn0 pn pg pq rl0 sr gcb gpb tg0 tm0 tl0 pm ps) := by
  refine gMi_of (cc := cX3_tell) (maxL := 3) (rt := .int) hl (by decide +kernel) rfl (Nat.le_of_ble_eq_true rfl) ?_
  intro p e s m args below meth c A Q C hnm ht RET OUT THR THRW
  have C : gC p l s m args meth c A D [(cI, .int), (cJ, .long)] 3 RX3 cX3_tell wsX3_tell := C
  have THR := THR rfl
  have THRW := THRW rfl
  refine gV_loc (lvs' := [(0, .ref (h 0)), (1, .int v1), (2, .int v2)]) [0, 1, 2] rfl ?_
  unfold pf_X3_tell at hp
  have J29 : ∀ (lc : Int32) (tn : Int32) (rl : Nat → Int32) (tg : Nat → Int32) (tm : Nat → Int32) (tl : Nat → Int32), pf_X3_tell_j29 lc tn rl tg tm tl = (some (xc0, r0, lc0, tn0, rl0, tg0, tm0, tl0)) → gV p l e rm_X3_tell s m args below meth c A D 3 Q (cW h cI cJ lc la hr uP uC uR tn pn pg pq rl sr gcb gpb tg tm tl pm ps) [(0, .ref (h 0))] 2 12 29 [] := by
    intro lc tn rl tg tm tl hp
    unfold pf_X3_tell_j29 at hp
    obtain ⟨rfl, rfl, rfl, rfl, rfl, rfl, rfl, rfl⟩ := g_so8 hp
    exact THR _ "all entries are told, or the hidden row would not be left" 91 87 131 _ _ _ _ _ _ ⟨by decide, rfl, rfl⟩ tw_X3_tell_ISE (Or.inr (Or.inr rfl)) (by decide) dX3_tell_29 dX3_tell_32 dX3_tell_33 dX3_tell_35 dX3_tell_38 (Nat.le_of_ble_eq_true rfl) (Nat.le_of_ble_eq_true rfl) (Nat.le_of_ble_eq_true rfl) (Nat.le_of_ble_eq_true rfl) (Nat.le_of_ble_eq_true rfl) (Nat.le_of_ble_eq_true rfl)
  refine gV_aload_n C dX3_tell_0 rfl 0 rfl ?_
  refine gV_iload_n C dX3_tell_1 rfl 1 rfl ?_
  obtain ⟨x2, hq2, hp⟩ := g_ob1 hp
  refine gV_callvS C (gV_runV (As := [.int v1]) (rest := []) C (mt_X3_requireRow hl D h cI cJ lc la hr uP uC uR tn pn pg pq rl sr gcb gpb tg tm tl pm ps v1 x2 hq2) (cwV 1 C.2.2.2.2.1 gX3_tell_X3_requireRow rfl rfl rfl hdv_X3_requireRow ⟨Nat.le_of_ble_eq_true rfl, Nat.le_of_ble_eq_true rfl⟩) (gSub_S _) 0 rfl rfl rfl rfl (Nat.le_of_ble_eq_true rfl) dX3_tell_2 ⟨Nat.le_of_ble_eq_true rfl, Nat.le_of_ble_eq_true rfl⟩) (fun E w1 hx => ?_) (fun w1 hw => ?_)
  · obtain ⟨hne, rfl, rfl⟩ := hx
    replace hp := g_iff hp hne
    obtain ⟨rfl, rfl, rfl, rfl, rfl, rfl, rfl, rfl⟩ := g_so8 hp
    exact OUT _ _ _ _ _ _ _ ⟨hne, rfl, rfl⟩ (Nat.le_of_ble_eq_true rfl) (Nat.le_of_ble_eq_true rfl)
  · obtain ⟨hx0, rfl⟩ := hw
    replace hp := g_ift hp hx0
    refine gV_aload_n C dX3_tell_5 rfl 0 rfl ?_
    refine gV_iload_n C dX3_tell_6 rfl 2 rfl ?_
    obtain ⟨x7, hq7, hp⟩ := g_ob1 hp
    refine gV_callvS C (gV_runV (As := [.int v2]) (rest := []) C (mt_X3_requirePossible hl D h cI cJ lc la hr uP uC uR tn pn pg pq rl sr gcb gpb tg tm tl pm ps v2 x7 hq7) (cwV 1 C.2.2.2.2.1 gX3_tell_X3_requirePossible rfl rfl rfl hdv_X3_requirePossible ⟨Nat.le_of_ble_eq_true rfl, Nat.le_of_ble_eq_true rfl⟩) (gSub_S _) 0 rfl rfl rfl rfl (Nat.le_of_ble_eq_true rfl) dX3_tell_7 ⟨Nat.le_of_ble_eq_true rfl, Nat.le_of_ble_eq_true rfl⟩) (fun E w1 hx => ?_) (fun w1 hw => ?_)
    · obtain ⟨hne, rfl, rfl⟩ := hx
      replace hp := g_iff hp hne
      obtain ⟨rfl, rfl, rfl, rfl, rfl, rfl, rfl, rfl⟩ := g_so8 hp
      exact OUT _ _ _ _ _ _ _ ⟨hne, rfl, rfl⟩ (Nat.le_of_ble_eq_true rfl) (Nat.le_of_ble_eq_true rfl)
    · obtain ⟨hx0, rfl⟩ := hw
      replace hp := g_ift hp hx0
      refine gV_aload_n C dX3_tell_10 rfl 0 rfl ?_
      refine gV_get (Cn := RX3) (T := TX3) (N := 8) C inw_X3_tell_X3 0 rfl rfl 1 (by decide) (C.w 3 rfl) rfl rfl dX3_tell_11 ?_
      obtain ⟨r14q, hq14, hp⟩ := g_ob1 hp
      refine gV_calliS C (gV_runV (As := []) (rest := []) C (mt_X0_isFull hl D h cI cJ lc la hr uP uC uR tn pn pg pq rl sr gcb gpb tg tm tl pm ps r14q hq14) (cwV 0 C.2.2.2.2.1 gX3_tell_X0_isFull rfl rfl rfl hdv_X0_isFull ⟨Nat.le_of_ble_eq_true rfl, Nat.le_of_ble_eq_true rfl⟩) (gSub_S _) 2 rfl rfl rfl rfl (Nat.le_of_ble_eq_true rfl) dX3_tell_14 ⟨Nat.le_of_ble_eq_true rfl, Nat.le_of_ble_eq_true rfl⟩) (fun _ _ hx => False.elim hx) (fun r14 w1 hw => ?_)
      obtain ⟨rfl, rfl⟩ := hw
      refine gV_if_ne (tgt := 29) C dX3_tell_17 (by decide) (fun c17 => ?_) (fun c17 => ?_)
      · replace hp := g_iff hp c17
        refine gV_loc [0] rfl ?_
        exact J29 lc tn rl tg tm tl hp
      · replace hp := g_ift hp c17
        refine gV_aload_n C dX3_tell_20 rfl 0 rfl ?_
        refine gV_iload_n C dX3_tell_21 rfl 1 rfl ?_
        refine gV_iload_n C dX3_tell_22 rfl 2 rfl ?_
        obtain ⟨r23q, hq23, hp⟩ := g_ob1 hp
        refine gV_calliS C (gV_runV (As := [.int v1, .int v2]) (rest := []) C (mt_X3_wouldLoseHidden hl D h cI cJ lc la hr uP uC uR tn pn pg pq rl sr gcb gpb tg tm tl pm ps v1 v2 r23q hq23) (cwV 2 C.2.2.2.2.1 gX3_tell_X3_wouldLoseHidden rfl rfl rfl hdv_X3_wouldLoseHidden ⟨Nat.le_of_ble_eq_true rfl, Nat.le_of_ble_eq_true rfl⟩) (gSub_S _) 0 rfl rfl rfl rfl (Nat.le_of_ble_eq_true rfl) dX3_tell_23 ⟨Nat.le_of_ble_eq_true rfl, Nat.le_of_ble_eq_true rfl⟩) (fun _ _ hx => False.elim hx) (fun r23 w1 hw => ?_)
        obtain ⟨rfl, rfl⟩ := hw
        refine gV_if_eq (tgt := 39) C dX3_tell_26 (by decide) (fun c26 => ?_) (fun c26 => ?_)
        · replace hp := g_ift hp c26
          refine gV_aload_n C dX3_tell_39 rfl 0 rfl ?_
          refine gV_iload_n C dX3_tell_40 rfl 1 rfl ?_
          refine gV_iload_n C dX3_tell_41 rfl 2 rfl ?_
          obtain ⟨lc_42, tn_42, rl_42, tg_42, tm_42, tl_42, hq42, hp⟩ := g_ob6 hp
          refine gV_callvS C (gV_runV (As := [.int v1, .int v2]) (rest := []) C (mt_X3_addEntry hl D h cI cJ lc la hr uP uC uR tn pn pg pq rl sr gcb gpb tg tm tl pm ps v1 v2 lc_42 tn_42 rl_42 tg_42 tm_42 tl_42 hq42) (cwV 2 C.2.2.2.2.1 gX3_tell_X3_addEntry rfl rfl rfl hdv_X3_addEntry ⟨Nat.le_of_ble_eq_true rfl, Nat.le_of_ble_eq_true rfl⟩) (gSub_S _) 0 rfl rfl rfl rfl (Nat.le_of_ble_eq_true rfl) dX3_tell_42 ⟨Nat.le_of_ble_eq_true rfl, Nat.le_of_ble_eq_true rfl⟩) (fun _ _ hx => False.elim hx) (fun w1 hw => ?_)
          obtain rfl := hw
          refine gV_aload_n C dX3_tell_45 rfl 0 rfl ?_
          refine gV_get (Cn := RX3) (T := TX3) (N := 8) C inw_X3_tell_X3 0 rfl rfl 5 (by decide) (C.w 4 rfl) rfl rfl dX3_tell_46 ?_
          obtain ⟨rfl, rfl, rfl, rfl, rfl, rfl, rfl, rfl⟩ := g_so8 hp
          exact RET _ _ _ _ _ _ dX3_tell_49 (Nat.le_of_ble_eq_true rfl) (Nat.le_of_ble_eq_true rfl) rfl ⟨rfl, rfl, rfl⟩
        · replace hp := g_iff hp c26
          refine gV_loc [0] rfl ?_
          exact J29 lc tn rl tg tm tl hp
def pf_X3_takeBack  (lc : Int32) (la : Int32) (uR : Int32) (tn : Int32) (rl : Nat → Int32) (tl : Nat → Int32)  : Option (Nat × Int32 × Int32 × Int32 × (Nat → Int32) × (Nat → Int32)) := (if tn = 0 then (some (3, 0, lc, tn, rl, tl)) else (ob2 (pf_X0_dropLatest uR tn tl) fun tn_24 tl_24 => (ob2 (pf_X3_listRowsLeft lc la uR tn_24 rl tl_24) fun lc_28 rl_28 => (some (0, lc_28, lc_28, tn_24, rl_28, tl_24)))))
abbrev rm_X3_takeBack : Room := { frames := 6, cells := 1, slots := 6, locals := 106 }
theorem inw_X3_takeBack_X0 : ∀ w ∈ wsX00, w ∈ wsX3_takeBack := by decide +kernel
theorem inw_X3_takeBack_X3 : ∀ w ∈ wsX30, w ∈ wsX3_takeBack := by decide +kernel
theorem tw_X3_takeBack_ISE : gTw wsX3_takeBack "java/lang/IllegalStateException" 91 87 := ⟨gtw_ISE.1, List.mem_of_getElem? (i := 1) rfl, List.mem_of_getElem? (i := 2) rfl, fun w h => List.mem_cons_of_mem _ (List.mem_append_right _ h), gtw_ISE.2.1, gtw_ISE.2.2⟩
theorem hdv_X0_dropLatest : yX0_dropLatest.cls = RX0 ∧ yX0_dropLatest.cls ≠ "java/lang/invoke/MethodHandle" ∧ yX0_dropLatest.cls ≠ "java/lang/invoke/VarHandle" ∧ (parseMethodDescriptor yX0_dropLatest.desc).map (fun d => d.parameters.length) = some 0 := by decide +kernel
set_option maxHeartbeats 4000000 in
set_option maxRecDepth 100000 in
theorem mt_X3_takeBack {l : Launch} (hl : l.stackTraces = false) (D : va_G) (h : Nat → Nat) (cI cJ : ClassId) (lc : Int32) (la : Int32) (hr : Int32) (uP : Int32) (uC : Int32) (uR : Int32) (tn : Int32) (pn : Int32) (pg : Int32) (pq : Int32) (rl : Nat → Int32) (sr : Nat → Int32) (gcb : Nat → Int32) (gpb : Nat → Int64) (tg : Nat → Int32) (tm : Nat → Int32) (tl : Nat → Int32) (pm : Nat → Int32) (ps : Nat → Int32)  (xc0 : Nat) (r0 : Int32) (lc0 : Int32) (tn0 : Int32) (rl0 : Nat → Int32) (tl0 : Nat → Int32) (hp : pf_X3_takeBack lc la uR tn rl tl = (some (xc0, r0, lc0, tn0, rl0, tl0))) : gMi l yX3_takeBack wsX3_takeBack rm_X3_takeBack D [(cI, .int), (cJ, .long)] (cW h cI cJ lc la hr uP uC uR tn pn pg pq rl sr gcb gpb tg tm tl pm ps) [.ref (h 0)] 1 6 (fun r w => xc0 = 0 ∧ r = r0 ∧ w = cW h cI cJ lc0 la hr uP uC uR tn0 pn pg pq rl0 sr gcb gpb tg tm tl0 pm ps) (fun E w => xc0 ≠ 0 ∧ E = g_exn xc0 ∧ w = cW h cI cJ lc0 la hr uP uC uR tn0 pn pg pq rl0 sr gcb gpb tg tm tl0 pm ps) := by
  refine gMi_of (cc := cX3_takeBack) (maxL := 1) (rt := .int) hl (by decide +kernel) rfl (Nat.le_of_ble_eq_true rfl) ?_
  intro p e s m args below meth c A Q C hnm ht RET OUT THR THRW
  have C : gC p l s m args meth c A D [(cI, .int), (cJ, .long)] 1 RX3 cX3_takeBack wsX3_takeBack := C
  have THR := THR rfl
  have THRW := THRW rfl
  refine gV_loc (lvs' := [(0, .ref (h 0))]) [0] rfl ?_
  unfold pf_X3_takeBack at hp
  refine gV_aload_n C dX3_takeBack_0 rfl 0 rfl ?_
  refine gV_get (Cn := RX3) (T := TX3) (N := 8) C inw_X3_takeBack_X3 0 rfl rfl 1 (by decide) (C.w 3 rfl) rfl rfl dX3_takeBack_1 ?_
  refine gV_get (Cn := RX0) (T := TX0) (N := 5) C inw_X3_takeBack_X0 2 rfl rfl 1 (by decide) (C.w 4 rfl) rfl rfl dX3_takeBack_4 ?_
  refine gV_if_ne (tgt := 20) C dX3_takeBack_7 (by decide) (fun c7 => ?_) (fun c7 => ?_)
  · replace hp := g_iff hp c7
    refine gV_aload_n C dX3_takeBack_20 rfl 0 rfl ?_
    refine gV_get (Cn := RX3) (T := TX3) (N := 8) C inw_X3_takeBack_X3 0 rfl rfl 1 (by decide) (C.w 3 rfl) rfl rfl dX3_takeBack_21 ?_
    obtain ⟨tn_24, tl_24, hq24, hp⟩ := g_ob2 hp
    refine gV_callvS C (gV_runV (As := []) (rest := []) C (mt_X0_dropLatest hl D h cI cJ lc la hr uP uC uR tn pn pg pq rl sr gcb gpb tg tm tl pm ps tn_24 tl_24 hq24) (cwV 0 C.2.2.2.2.1 gX3_takeBack_X0_dropLatest rfl rfl rfl hdv_X0_dropLatest ⟨Nat.le_of_ble_eq_true rfl, Nat.le_of_ble_eq_true rfl⟩) (gSub_S _) 2 rfl rfl rfl rfl (Nat.le_of_ble_eq_true rfl) dX3_takeBack_24 ⟨Nat.le_of_ble_eq_true rfl, Nat.le_of_ble_eq_true rfl⟩) (fun _ _ hx => False.elim hx) (fun w1 hw => ?_)
    obtain rfl := hw
    refine gV_aload_n C dX3_takeBack_27 rfl 0 rfl ?_
    obtain ⟨lc_28, rl_28, hq28, hp⟩ := g_ob2 hp
    refine gV_callvS C (gV_runV (As := []) (rest := []) C (mt_X3_listRowsLeft hl D h cI cJ lc la hr uP uC uR tn_24 pn pg pq rl sr gcb gpb tg tm tl_24 pm ps lc_28 rl_28 hq28) (cwV 0 C.2.2.2.2.1 gX3_takeBack_X3_listRowsLeft rfl rfl rfl hdv_X3_listRowsLeft ⟨Nat.le_of_ble_eq_true rfl, Nat.le_of_ble_eq_true rfl⟩) (gSub_S _) 0 rfl rfl rfl rfl (Nat.le_of_ble_eq_true rfl) dX3_takeBack_28 ⟨Nat.le_of_ble_eq_true rfl, Nat.le_of_ble_eq_true rfl⟩) (fun _ _ hx => False.elim hx) (fun w1 hw => ?_)
    obtain rfl := hw
    refine gV_aload_n C dX3_takeBack_31 rfl 0 rfl ?_
    refine gV_get (Cn := RX3) (T := TX3) (N := 8) C inw_X3_takeBack_X3 0 rfl rfl 5 (by decide) (C.w 5 rfl) rfl rfl dX3_takeBack_32 ?_
    obtain ⟨rfl, rfl, rfl, rfl, rfl, rfl⟩ := g_so6 hp
    exact RET _ _ _ _ _ _ dX3_takeBack_35 (Nat.le_of_ble_eq_true rfl) (Nat.le_of_ble_eq_true rfl) rfl ⟨rfl, rfl, rfl⟩
  · replace hp := g_ift hp c7
    obtain ⟨rfl, rfl, rfl, rfl, rfl, rfl⟩ := g_so6 hp
    exact THR _ "there is no entry" 91 87 139 _ _ _ _ _ _ ⟨by decide, rfl, rfl⟩ tw_X3_takeBack_ISE (Or.inr (Or.inr rfl)) (by decide) dX3_takeBack_10 dX3_takeBack_13 dX3_takeBack_14 dX3_takeBack_16 dX3_takeBack_19 (Nat.le_of_ble_eq_true rfl) (Nat.le_of_ble_eq_true rfl) (Nat.le_of_ble_eq_true rfl) (Nat.le_of_ble_eq_true rfl) (Nat.le_of_ble_eq_true rfl) (Nat.le_of_ble_eq_true rfl)
def pf_X3_entries  (tn : Int32)  : Option (Int32) := (some tn)
abbrev rm_X3_entries : Room := { frames := 0, cells := 0, slots := 0, locals := 0 }
theorem inw_X3_entries_X0 : ∀ w ∈ wsX00, w ∈ wsX3_entries := by decide +kernel
theorem inw_X3_entries_X3 : ∀ w ∈ wsX30, w ∈ wsX3_entries := by decide +kernel
set_option maxHeartbeats 4000000 in
set_option maxRecDepth 100000 in
theorem mt_X3_entries {l : Launch} (hl : l.stackTraces = false) (D : va_G) (h : Nat → Nat) (cI cJ : ClassId) (lc : Int32) (la : Int32) (hr : Int32) (uP : Int32) (uC : Int32) (uR : Int32) (tn : Int32) (pn : Int32) (pg : Int32) (pq : Int32) (rl : Nat → Int32) (sr : Nat → Int32) (gcb : Nat → Int32) (gpb : Nat → Int64) (tg : Nat → Int32) (tm : Nat → Int32) (tl : Nat → Int32) (pm : Nat → Int32) (ps : Nat → Int32)  (r0 : Int32) (hp : pf_X3_entries tn = (some r0)) : gMi l yX3_entries wsX3_entries rm_X3_entries D [(cI, .int), (cJ, .long)] (cW h cI cJ lc la hr uP uC uR tn pn pg pq rl sr gcb gpb tg tm tl pm ps) [.ref (h 0)] 0 0 (fun r w => r = r0 ∧ w = cW h cI cJ lc la hr uP uC uR tn pn pg pq rl sr gcb gpb tg tm tl pm ps) (fun _ _ => False) := by
  refine gMi_of (cc := cX3_entries) (maxL := 1) (rt := .int) hl (by decide +kernel) rfl (Nat.le_of_ble_eq_true rfl) ?_
  intro p e s m args below meth c A Q C hnm ht RET OUT THR THRW
  have C : gC p l s m args meth c A D [(cI, .int), (cJ, .long)] 1 RX3 cX3_entries wsX3_entries := C
  refine gV_loc (lvs' := [(0, .ref (h 0))]) [0] rfl ?_
  unfold pf_X3_entries at hp
  refine gV_aload_n C dX3_entries_0 rfl 0 rfl ?_
  refine gV_get (Cn := RX3) (T := TX3) (N := 8) C inw_X3_entries_X3 0 rfl rfl 1 (by decide) (C.w 1 rfl) rfl rfl dX3_entries_1 ?_
  refine gV_get (Cn := RX0) (T := TX0) (N := 5) C inw_X3_entries_X0 2 rfl rfl 1 (by decide) (C.w 2 rfl) rfl rfl dX3_entries_4 ?_
  obtain rfl := g_so1 hp
  exact RET _ _ _ _ _ _ dX3_entries_7 (Nat.le_of_ble_eq_true rfl) (Nat.le_of_ble_eq_true rfl) rfl ⟨rfl, rfl⟩
def pf_X3_guessOf  (tn : Int32) (tg : Nat → Int32) (v1 : Int32) : Option (Nat × Int32) := (ob1 (pf_X3_requireEntry tn v1) fun x2 => if x2 = 0 then (ob1 (pf_X0_guessAt tn tg v1) fun r10 => (some (0, r10))) else (some (x2, 0)))
abbrev rm_X3_guessOf : Room := { frames := 7, cells := 1, slots := 6, locals := 103 }
theorem inw_X3_guessOf_X3 : ∀ w ∈ wsX30, w ∈ wsX3_guessOf := by decide +kernel
theorem hdv_X0_guessAt : yX0_guessAt.cls = RX0 ∧ yX0_guessAt.cls ≠ "java/lang/invoke/MethodHandle" ∧ yX0_guessAt.cls ≠ "java/lang/invoke/VarHandle" ∧ (parseMethodDescriptor yX0_guessAt.desc).map (fun d => d.parameters.length) = some 1 := by decide +kernel
theorem hdv_X3_requireEntry : yX3_requireEntry.cls = RX3 ∧ yX3_requireEntry.cls ≠ "java/lang/invoke/MethodHandle" ∧ yX3_requireEntry.cls ≠ "java/lang/invoke/VarHandle" ∧ (parseMethodDescriptor yX3_requireEntry.desc).map (fun d => d.parameters.length) = some 1 := by decide +kernel
set_option maxHeartbeats 4000000 in
set_option maxRecDepth 100000 in
theorem mt_X3_guessOf {l : Launch} (hl : l.stackTraces = false) (D : va_G) (h : Nat → Nat) (cI cJ : ClassId) (lc : Int32) (la : Int32) (hr : Int32) (uP : Int32) (uC : Int32) (uR : Int32) (tn : Int32) (pn : Int32) (pg : Int32) (pq : Int32) (rl : Nat → Int32) (sr : Nat → Int32) (gcb : Nat → Int32) (gpb : Nat → Int64) (tg : Nat → Int32) (tm : Nat → Int32) (tl : Nat → Int32) (pm : Nat → Int32) (ps : Nat → Int32) (v1 : Int32) (xc0 : Nat) (r0 : Int32) (hp : pf_X3_guessOf tn tg v1 = (some (xc0, r0))) : gMi l yX3_guessOf wsX3_guessOf rm_X3_guessOf D [(cI, .int), (cJ, .long)] (cW h cI cJ lc la hr uP uC uR tn pn pg pq rl sr gcb gpb tg tm tl pm ps) [.ref (h 0), .int v1] 1 6 (fun r w => xc0 = 0 ∧ r = r0 ∧ w = cW h cI cJ lc la hr uP uC uR tn pn pg pq rl sr gcb gpb tg tm tl pm ps) (fun E w => xc0 ≠ 0 ∧ E = g_exn xc0 ∧ w = cW h cI cJ lc la hr uP uC uR tn pn pg pq rl sr gcb gpb tg tm tl pm ps) := by
  refine gMi_of (cc := cX3_guessOf) (maxL := 2) (rt := .int) hl (by decide +kernel) rfl (Nat.le_of_ble_eq_true rfl) ?_
  intro p e s m args below meth c A Q C hnm ht RET OUT THR THRW
  have C : gC p l s m args meth c A D [(cI, .int), (cJ, .long)] 2 RX3 cX3_guessOf wsX3_guessOf := C
  refine gV_loc (lvs' := [(0, .ref (h 0)), (1, .int v1)]) [0, 1] rfl ?_
  unfold pf_X3_guessOf at hp
  refine gV_aload_n C dX3_guessOf_0 rfl 0 rfl ?_
  refine gV_iload_n C dX3_guessOf_1 rfl 1 rfl ?_
  obtain ⟨x2, hq2, hp⟩ := g_ob1 hp
  refine gV_callvS C (gV_runV (As := [.int v1]) (rest := []) C (mt_X3_requireEntry hl D h cI cJ lc la hr uP uC uR tn pn pg pq rl sr gcb gpb tg tm tl pm ps v1 x2 hq2) (cwV 1 C.2.2.2.2.1 gX3_guessOf_X3_requireEntry rfl rfl rfl hdv_X3_requireEntry ⟨Nat.le_of_ble_eq_true rfl, Nat.le_of_ble_eq_true rfl⟩) (gSub_S _) 0 rfl rfl rfl rfl (Nat.le_of_ble_eq_true rfl) dX3_guessOf_2 ⟨Nat.le_of_ble_eq_true rfl, Nat.le_of_ble_eq_true rfl⟩) (fun E w1 hx => ?_) (fun w1 hw => ?_)
  · obtain ⟨hne, rfl, rfl⟩ := hx
    replace hp := g_iff hp hne
    obtain ⟨rfl, rfl⟩ := g_so2 hp
    exact OUT _ _ _ _ _ _ _ ⟨hne, rfl, rfl⟩ (Nat.le_of_ble_eq_true rfl) (Nat.le_of_ble_eq_true rfl)
  · obtain ⟨hx0, rfl⟩ := hw
    replace hp := g_ift hp hx0
    refine gV_aload_n C dX3_guessOf_5 rfl 0 rfl ?_
    refine gV_get (Cn := RX3) (T := TX3) (N := 8) C inw_X3_guessOf_X3 0 rfl rfl 1 (by decide) (C.w 1 rfl) rfl rfl dX3_guessOf_6 ?_
    refine gV_iload_n C dX3_guessOf_9 rfl 1 rfl ?_
    obtain ⟨r10q, hq10, hp⟩ := g_ob1 hp
    refine gV_calliS C (gV_runV (As := [.int v1]) (rest := []) C (mt_X0_guessAt hl D h cI cJ lc la hr uP uC uR tn pn pg pq rl sr gcb gpb tg tm tl pm ps v1 r10q hq10) (cwV 1 C.2.2.2.2.1 gX3_guessOf_X0_guessAt rfl rfl rfl hdv_X0_guessAt ⟨Nat.le_of_ble_eq_true rfl, Nat.le_of_ble_eq_true rfl⟩) (gSub_S _) 2 rfl rfl rfl rfl (Nat.le_of_ble_eq_true rfl) dX3_guessOf_10 ⟨Nat.le_of_ble_eq_true rfl, Nat.le_of_ble_eq_true rfl⟩) (fun _ _ hx => False.elim hx) (fun r10 w1 hw => ?_)
    obtain ⟨rfl, rfl⟩ := hw
    obtain ⟨rfl, rfl⟩ := g_so2 hp
    exact RET _ _ _ _ _ _ dX3_guessOf_13 (Nat.le_of_ble_eq_true rfl) (Nat.le_of_ble_eq_true rfl) rfl ⟨rfl, rfl, rfl⟩
def pf_X3_markOf  (tn : Int32) (tm : Nat → Int32) (v1 : Int32) : Option (Nat × Int32) := (ob1 (pf_X3_requireEntry tn v1) fun x2 => if x2 = 0 then (ob1 (pf_X0_markAt tn tm v1) fun r10 => (some (0, r10))) else (some (x2, 0)))
abbrev rm_X3_markOf : Room := { frames := 7, cells := 1, slots := 6, locals := 103 }
theorem inw_X3_markOf_X3 : ∀ w ∈ wsX30, w ∈ wsX3_markOf := by decide +kernel
theorem hdv_X0_markAt : yX0_markAt.cls = RX0 ∧ yX0_markAt.cls ≠ "java/lang/invoke/MethodHandle" ∧ yX0_markAt.cls ≠ "java/lang/invoke/VarHandle" ∧ (parseMethodDescriptor yX0_markAt.desc).map (fun d => d.parameters.length) = some 1 := by decide +kernel
set_option maxHeartbeats 4000000 in
set_option maxRecDepth 100000 in
theorem mt_X3_markOf {l : Launch} (hl : l.stackTraces = false) (D : va_G) (h : Nat → Nat) (cI cJ : ClassId) (lc : Int32) (la : Int32) (hr : Int32) (uP : Int32) (uC : Int32) (uR : Int32) (tn : Int32) (pn : Int32) (pg : Int32) (pq : Int32) (rl : Nat → Int32) (sr : Nat → Int32) (gcb : Nat → Int32) (gpb : Nat → Int64) (tg : Nat → Int32) (tm : Nat → Int32) (tl : Nat → Int32) (pm : Nat → Int32) (ps : Nat → Int32) (v1 : Int32) (xc0 : Nat) (r0 : Int32) (hp : pf_X3_markOf tn tm v1 = (some (xc0, r0))) : gMi l yX3_markOf wsX3_markOf rm_X3_markOf D [(cI, .int), (cJ, .long)] (cW h cI cJ lc la hr uP uC uR tn pn pg pq rl sr gcb gpb tg tm tl pm ps) [.ref (h 0), .int v1] 1 6 (fun r w => xc0 = 0 ∧ r = r0 ∧ w = cW h cI cJ lc la hr uP uC uR tn pn pg pq rl sr gcb gpb tg tm tl pm ps) (fun E w => xc0 ≠ 0 ∧ E = g_exn xc0 ∧ w = cW h cI cJ lc la hr uP uC uR tn pn pg pq rl sr gcb gpb tg tm tl pm ps) := by
  refine gMi_of (cc := cX3_markOf) (maxL := 2) (rt := .int) hl (by decide +kernel) rfl (Nat.le_of_ble_eq_true rfl) ?_
  intro p e s m args below meth c A Q C hnm ht RET OUT THR THRW
  have C : gC p l s m args meth c A D [(cI, .int), (cJ, .long)] 2 RX3 cX3_markOf wsX3_markOf := C
  refine gV_loc (lvs' := [(0, .ref (h 0)), (1, .int v1)]) [0, 1] rfl ?_
  unfold pf_X3_markOf at hp
  refine gV_aload_n C dX3_markOf_0 rfl 0 rfl ?_
  refine gV_iload_n C dX3_markOf_1 rfl 1 rfl ?_
  obtain ⟨x2, hq2, hp⟩ := g_ob1 hp
  refine gV_callvS C (gV_runV (As := [.int v1]) (rest := []) C (mt_X3_requireEntry hl D h cI cJ lc la hr uP uC uR tn pn pg pq rl sr gcb gpb tg tm tl pm ps v1 x2 hq2) (cwV 1 C.2.2.2.2.1 gX3_markOf_X3_requireEntry rfl rfl rfl hdv_X3_requireEntry ⟨Nat.le_of_ble_eq_true rfl, Nat.le_of_ble_eq_true rfl⟩) (gSub_S _) 0 rfl rfl rfl rfl (Nat.le_of_ble_eq_true rfl) dX3_markOf_2 ⟨Nat.le_of_ble_eq_true rfl, Nat.le_of_ble_eq_true rfl⟩) (fun E w1 hx => ?_) (fun w1 hw => ?_)
  · obtain ⟨hne, rfl, rfl⟩ := hx
    replace hp := g_iff hp hne
    obtain ⟨rfl, rfl⟩ := g_so2 hp
    exact OUT _ _ _ _ _ _ _ ⟨hne, rfl, rfl⟩ (Nat.le_of_ble_eq_true rfl) (Nat.le_of_ble_eq_true rfl)
  · obtain ⟨hx0, rfl⟩ := hw
    replace hp := g_ift hp hx0
    refine gV_aload_n C dX3_markOf_5 rfl 0 rfl ?_
    refine gV_get (Cn := RX3) (T := TX3) (N := 8) C inw_X3_markOf_X3 0 rfl rfl 1 (by decide) (C.w 1 rfl) rfl rfl dX3_markOf_6 ?_
    refine gV_iload_n C dX3_markOf_9 rfl 1 rfl ?_
    obtain ⟨r10q, hq10, hp⟩ := g_ob1 hp
    refine gV_calliS C (gV_runV (As := [.int v1]) (rest := []) C (mt_X0_markAt hl D h cI cJ lc la hr uP uC uR tn pn pg pq rl sr gcb gpb tg tm tl pm ps v1 r10q hq10) (cwV 1 C.2.2.2.2.1 gX3_markOf_X0_markAt rfl rfl rfl hdv_X0_markAt ⟨Nat.le_of_ble_eq_true rfl, Nat.le_of_ble_eq_true rfl⟩) (gSub_S _) 2 rfl rfl rfl rfl (Nat.le_of_ble_eq_true rfl) dX3_markOf_10 ⟨Nat.le_of_ble_eq_true rfl, Nat.le_of_ble_eq_true rfl⟩) (fun _ _ hx => False.elim hx) (fun r10 w1 hw => ?_)
    obtain ⟨rfl, rfl⟩ := hw
    obtain ⟨rfl, rfl⟩ := g_so2 hp
    exact RET _ _ _ _ _ _ dX3_markOf_13 (Nat.le_of_ble_eq_true rfl) (Nat.le_of_ble_eq_true rfl) rfl ⟨rfl, rfl, rfl⟩
def pf_X3_liesAbout  (uR : Int32) (tn : Int32) (tl : Nat → Int32) (v1 : Int32) : Option (Nat × Int32) := (ob1 (pf_X3_requireRow uR v1) fun x2 => if x2 = 0 then (ob1 (pf_X0_countLies uR tn tl v1) fun r10 => (some (0, r10))) else (some (x2, 0)))
abbrev rm_X3_liesAbout : Room := { frames := 7, cells := 1, slots := 6, locals := 103 }
theorem inw_X3_liesAbout_X3 : ∀ w ∈ wsX30, w ∈ wsX3_liesAbout := by decide +kernel
set_option maxHeartbeats 4000000 in
set_option maxRecDepth 100000 in
theorem mt_X3_liesAbout {l : Launch} (hl : l.stackTraces = false) (D : va_G) (h : Nat → Nat) (cI cJ : ClassId) (lc : Int32) (la : Int32) (hr : Int32) (uP : Int32) (uC : Int32) (uR : Int32) (tn : Int32) (pn : Int32) (pg : Int32) (pq : Int32) (rl : Nat → Int32) (sr : Nat → Int32) (gcb : Nat → Int32) (gpb : Nat → Int64) (tg : Nat → Int32) (tm : Nat → Int32) (tl : Nat → Int32) (pm : Nat → Int32) (ps : Nat → Int32) (v1 : Int32) (xc0 : Nat) (r0 : Int32) (hp : pf_X3_liesAbout uR tn tl v1 = (some (xc0, r0))) : gMi l yX3_liesAbout wsX3_liesAbout rm_X3_liesAbout D [(cI, .int), (cJ, .long)] (cW h cI cJ lc la hr uP uC uR tn pn pg pq rl sr gcb gpb tg tm tl pm ps) [.ref (h 0), .int v1] 1 6 (fun r w => xc0 = 0 ∧ r = r0 ∧ w = cW h cI cJ lc la hr uP uC uR tn pn pg pq rl sr gcb gpb tg tm tl pm ps) (fun E w => xc0 ≠ 0 ∧ E = g_exn xc0 ∧ w = cW h cI cJ lc la hr uP uC uR tn pn pg pq rl sr gcb gpb tg tm tl pm ps) := by
  refine gMi_of (cc := cX3_liesAbout) (maxL := 2) (rt := .int) hl (by decide +kernel) rfl (Nat.le_of_ble_eq_true rfl) ?_
  intro p e s m args below meth c A Q C hnm ht RET OUT THR THRW
  have C : gC p l s m args meth c A D [(cI, .int), (cJ, .long)] 2 RX3 cX3_liesAbout wsX3_liesAbout := C
  refine gV_loc (lvs' := [(0, .ref (h 0)), (1, .int v1)]) [0, 1] rfl ?_
  unfold pf_X3_liesAbout at hp
  refine gV_aload_n C dX3_liesAbout_0 rfl 0 rfl ?_
  refine gV_iload_n C dX3_liesAbout_1 rfl 1 rfl ?_
  obtain ⟨x2, hq2, hp⟩ := g_ob1 hp
  refine gV_callvS C (gV_runV (As := [.int v1]) (rest := []) C (mt_X3_requireRow hl D h cI cJ lc la hr uP uC uR tn pn pg pq rl sr gcb gpb tg tm tl pm ps v1 x2 hq2) (cwV 1 C.2.2.2.2.1 gX3_liesAbout_X3_requireRow rfl rfl rfl hdv_X3_requireRow ⟨Nat.le_of_ble_eq_true rfl, Nat.le_of_ble_eq_true rfl⟩) (gSub_S _) 0 rfl rfl rfl rfl (Nat.le_of_ble_eq_true rfl) dX3_liesAbout_2 ⟨Nat.le_of_ble_eq_true rfl, Nat.le_of_ble_eq_true rfl⟩) (fun E w1 hx => ?_) (fun w1 hw => ?_)
  · obtain ⟨hne, rfl, rfl⟩ := hx
    replace hp := g_iff hp hne
    obtain ⟨rfl, rfl⟩ := g_so2 hp
    exact OUT _ _ _ _ _ _ _ ⟨hne, rfl, rfl⟩ (Nat.le_of_ble_eq_true rfl) (Nat.le_of_ble_eq_true rfl)
  · obtain ⟨hx0, rfl⟩ := hw
    replace hp := g_ift hp hx0
    refine gV_aload_n C dX3_liesAbout_5 rfl 0 rfl ?_
    refine gV_get (Cn := RX3) (T := TX3) (N := 8) C inw_X3_liesAbout_X3 0 rfl rfl 1 (by decide) (C.w 1 rfl) rfl rfl dX3_liesAbout_6 ?_
    refine gV_iload_n C dX3_liesAbout_9 rfl 1 rfl ?_
    obtain ⟨r10q, hq10, hp⟩ := g_ob1 hp
    refine gV_calliS C (gV_runV (As := [.int v1]) (rest := []) C (mt_X0_countLies hl D h cI cJ lc la hr uP uC uR tn pn pg pq rl sr gcb gpb tg tm tl pm ps v1 r10q hq10) (cwV 1 C.2.2.2.2.1 gX3_liesAbout_X0_countLies rfl rfl rfl hdv_X0_countLies ⟨Nat.le_of_ble_eq_true rfl, Nat.le_of_ble_eq_true rfl⟩) (gSub_S _) 2 rfl rfl rfl rfl (Nat.le_of_ble_eq_true rfl) dX3_liesAbout_10 ⟨Nat.le_of_ble_eq_true rfl, Nat.le_of_ble_eq_true rfl⟩) (fun _ _ hx => False.elim hx) (fun r10 w1 hw => ?_)
    obtain ⟨rfl, rfl⟩ := hw
    obtain ⟨rfl, rfl⟩ := g_so2 hp
    exact RET _ _ _ _ _ _ dX3_liesAbout_13 (Nat.le_of_ble_eq_true rfl) (Nat.le_of_ble_eq_true rfl) rfl ⟨rfl, rfl, rfl⟩
def pf_X3_left  (lc : Int32)  : Option (Int32) := (some lc)
abbrev rm_X3_left : Room := { frames := 0, cells := 0, slots := 0, locals := 0 }
theorem inw_X3_left_X3 : ∀ w ∈ wsX30, w ∈ wsX3_left := by decide +kernel
set_option maxHeartbeats 4000000 in
set_option maxRecDepth 100000 in
theorem mt_X3_left {l : Launch} (hl : l.stackTraces = false) (D : va_G) (h : Nat → Nat) (cI cJ : ClassId) (lc : Int32) (la : Int32) (hr : Int32) (uP : Int32) (uC : Int32) (uR : Int32) (tn : Int32) (pn : Int32) (pg : Int32) (pq : Int32) (rl : Nat → Int32) (sr : Nat → Int32) (gcb : Nat → Int32) (gpb : Nat → Int64) (tg : Nat → Int32) (tm : Nat → Int32) (tl : Nat → Int32) (pm : Nat → Int32) (ps : Nat → Int32)  (r0 : Int32) (hp : pf_X3_left lc = (some r0)) : gMi l yX3_left wsX3_left rm_X3_left D [(cI, .int), (cJ, .long)] (cW h cI cJ lc la hr uP uC uR tn pn pg pq rl sr gcb gpb tg tm tl pm ps) [.ref (h 0)] 0 0 (fun r w => r = r0 ∧ w = cW h cI cJ lc la hr uP uC uR tn pn pg pq rl sr gcb gpb tg tm tl pm ps) (fun _ _ => False) := by
  refine gMi_of (cc := cX3_left) (maxL := 1) (rt := .int) hl (by decide +kernel) rfl (Nat.le_of_ble_eq_true rfl) ?_
  intro p e s m args below meth c A Q C hnm ht RET OUT THR THRW
  have C : gC p l s m args meth c A D [(cI, .int), (cJ, .long)] 1 RX3 cX3_left wsX3_left := C
  refine gV_loc (lvs' := [(0, .ref (h 0))]) [0] rfl ?_
  unfold pf_X3_left at hp
  refine gV_aload_n C dX3_left_0 rfl 0 rfl ?_
  refine gV_get (Cn := RX3) (T := TX3) (N := 8) C inw_X3_left_X3 0 rfl rfl 5 (by decide) (C.w 1 rfl) rfl rfl dX3_left_1 ?_
  obtain rfl := g_so1 hp
  exact RET _ _ _ _ _ _ dX3_left_4 (Nat.le_of_ble_eq_true rfl) (Nat.le_of_ble_eq_true rfl) rfl ⟨rfl, rfl⟩
def pf_X3_leftByAll_j33  (kL4 : Int32 → Int32 → Option (Int32)) (v1 : Int32) (v2 : Int32) : Option (Int32) := (kL4 v1 (v2 + 1))
def pf_X3_leftByAll_L4 (la : Int32) (uP : Int32) (uR : Int32) (tn : Int32) (gcb : Nat → Int32) (gpb : Nat → Int64) (tg : Nat → Int32) (tm : Nat → Int32) : Nat → Int32 → Int32 → Option (Int32)
  | 0, _, _ => none
  | n4 + 1, v1, v2 => (if uR ≤ v2 then (some v1) else (ob1 (pf_X0_countLiesAnew uP uR tn gcb gpb tg tm v2) fun r20 => (if la < r20 then (pf_X3_leftByAll_j33 (fun v1 v2 => pf_X3_leftByAll_L4 la uP uR tn gcb gpb tg tm n4 v1 v2) v1 v2) else (pf_X3_leftByAll_j33 (fun v1 v2 => pf_X3_leftByAll_L4 la uP uR tn gcb gpb tg tm n4 v1 v2) (v1 + 1) v2))))
def pf_X3_leftByAll  (la : Int32) (uP : Int32) (uR : Int32) (tn : Int32) (gcb : Nat → Int32) (gpb : Nat → Int64) (tg : Nat → Int32) (tm : Nat → Int32)  : Option (Int32) := (pf_X3_leftByAll_L4 la uP uR tn gcb gpb tg tm 100000 0 0)
abbrev rm_X3_leftByAll : Room := { frames := 3, cells := 0, slots := 0, locals := 70 }
theorem inw_X3_leftByAll_X1 : ∀ w ∈ wsX10, w ∈ wsX3_leftByAll := by decide +kernel
theorem inw_X3_leftByAll_X3 : ∀ w ∈ wsX30, w ∈ wsX3_leftByAll := by decide +kernel
theorem hdv_X0_countLiesAnew : yX0_countLiesAnew.cls = RX0 ∧ yX0_countLiesAnew.cls ≠ "java/lang/invoke/MethodHandle" ∧ yX0_countLiesAnew.cls ≠ "java/lang/invoke/VarHandle" ∧ (parseMethodDescriptor yX0_countLiesAnew.desc).map (fun d => d.parameters.length) = some 1 := by decide +kernel
set_option maxHeartbeats 4000000 in
set_option maxRecDepth 100000 in
theorem mt_X3_leftByAll {l : Launch} (hl : l.stackTraces = false) (D : va_G) (h : Nat → Nat) (cI cJ : ClassId) (lc : Int32) (la : Int32) (hr : Int32) (uP : Int32) (uC : Int32) (uR : Int32) (tn : Int32) (pn : Int32) (pg : Int32) (pq : Int32) (rl : Nat → Int32) (sr : Nat → Int32) (gcb : Nat → Int32) (gpb : Nat → Int64) (tg : Nat → Int32) (tm : Nat → Int32) (tl : Nat → Int32) (pm : Nat → Int32) (ps : Nat → Int32)  (r0 : Int32) (hp : pf_X3_leftByAll la uP uR tn gcb gpb tg tm = (some r0)) : gMi l yX3_leftByAll wsX3_leftByAll rm_X3_leftByAll D [(cI, .int), (cJ, .long)] (cW h cI cJ lc la hr uP uC uR tn pn pg pq rl sr gcb gpb tg tm tl pm ps) [.ref (h 0)] 0 0 (fun r w => r = r0 ∧ w = cW h cI cJ lc la hr uP uC uR tn pn pg pq rl sr gcb gpb tg tm tl pm ps) (fun _ _ => False) := by
  refine gMi_of (cc := cX3_leftByAll) (maxL := 3) (rt := .int) hl (by decide +kernel) rfl (Nat.le_of_ble_eq_true rfl) ?_
  intro p e s m args below meth c A Q C hnm ht RET OUT THR THRW
  have C : gC p l s m args meth c A D [(cI, .int), (cJ, .long)] 3 RX3 cX3_leftByAll wsX3_leftByAll := C
  refine gV_loc (lvs' := [(0, .ref (h 0))]) [0] rfl ?_
  unfold pf_X3_leftByAll at hp
  have L4 : ∀ (n4 : Nat) (v1 : Int32) (v2 : Int32), pf_X3_leftByAll_L4 la uP uR tn gcb gpb tg tm n4 v1 v2 = (some r0) → gV p l e rm_X3_leftByAll s m args below meth c A D 3 Q (cW h cI cJ lc la hr uP uC uR tn pn pg pq rl sr gcb gpb tg tm tl pm ps) [(0, .ref (h 0)), (1, .int v1), (2, .int v2)] 0 0 4 [] := by
    intro n4
    induction n4 with
    | zero => intro v1 v2 hp; exact g_none hp
    | succ n4 ih4 =>
      intro v1 v2 hp
      rw [pf_X3_leftByAll_L4.eq_2] at hp
      have J33 : ∀ (v1 : Int32) (v2 : Int32), pf_X3_leftByAll_j33 (fun v1 v2 => pf_X3_leftByAll_L4 la uP uR tn gcb gpb tg tm n4 v1 v2) v1 v2 = (some r0) → gV p l e rm_X3_leftByAll s m args below meth c A D 3 Q (cW h cI cJ lc la hr uP uC uR tn pn pg pq rl sr gcb gpb tg tm tl pm ps) [(0, .ref (h 0)), (1, .int v1), (2, .int v2)] 0 0 33 [] := by
        intro v1 v2 hp
        unfold pf_X3_leftByAll_j33 at hp
        refine gV_iinc (v := (v2 + 1)) (lvs' := [(2, .int (v2 + 1)), (0, .ref (h 0)), (1, .int v1)]) C dX3_leftByAll_33 2 rfl rfl (by decide) rfl ?_
        refine gV_goto (tgt := 4) C dX3_leftByAll_36 (by decide) ?_
        refine gV_loc [1, 2, 0] rfl ?_
        exact ih4 v1 (v2 + 1) hp
      refine gV_iload_n C dX3_leftByAll_4 rfl 2 rfl ?_
      refine gV_aload_n C dX3_leftByAll_5 rfl 0 rfl ?_
      refine gV_get (Cn := RX3) (T := TX3) (N := 8) C inw_X3_leftByAll_X3 0 rfl rfl 0 (by decide) (C.w 1 rfl) rfl rfl dX3_leftByAll_6 ?_
      refine gV_get (Cn := RX1) (T := TX1) (N := 5) C inw_X3_leftByAll_X1 1 rfl rfl 2 (by decide) (C.w 2 rfl) rfl rfl dX3_leftByAll_9 ?_
      refine gV_icmp_ge (tgt := 39) C dX3_leftByAll_12 (by decide) (fun c12 => ?_) (fun c12 => ?_)
      · replace hp := g_ift hp c12
        refine gV_iload_n C dX3_leftByAll_39 rfl 1 rfl ?_
        obtain rfl := g_so1 hp
        exact RET _ _ _ _ _ _ dX3_leftByAll_40 (Nat.le_of_ble_eq_true rfl) (Nat.le_of_ble_eq_true rfl) rfl ⟨rfl, rfl⟩
      · replace hp := g_iff hp c12
        refine gV_aload_n C dX3_leftByAll_15 rfl 0 rfl ?_
        refine gV_get (Cn := RX3) (T := TX3) (N := 8) C inw_X3_leftByAll_X3 0 rfl rfl 1 (by decide) (C.w 3 rfl) rfl rfl dX3_leftByAll_16 ?_
        refine gV_iload_n C dX3_leftByAll_19 rfl 2 rfl ?_
        obtain ⟨r20q, hq20, hp⟩ := g_ob1 hp
        refine gV_calliS C (gV_runV (As := [.int v2]) (rest := []) C (mt_X0_countLiesAnew hl D h cI cJ lc la hr uP uC uR tn pn pg pq rl sr gcb gpb tg tm tl pm ps v2 r20q hq20) (cwV 1 C.2.2.2.2.1 gX3_leftByAll_X0_countLiesAnew rfl rfl rfl hdv_X0_countLiesAnew ⟨Nat.le_of_ble_eq_true rfl, Nat.le_of_ble_eq_true rfl⟩) (gSub_S _) 2 rfl rfl rfl rfl (Nat.le_of_ble_eq_true rfl) dX3_leftByAll_20 ⟨Nat.le_of_ble_eq_true rfl, Nat.le_of_ble_eq_true rfl⟩) (fun _ _ hx => False.elim hx) (fun r20 w1 hw => ?_)
        obtain ⟨rfl, rfl⟩ := hw
        refine gV_aload_n C dX3_leftByAll_23 rfl 0 rfl ?_
        refine gV_get (Cn := RX3) (T := TX3) (N := 8) C inw_X3_leftByAll_X3 0 rfl rfl 6 (by decide) (C.w 4 rfl) rfl rfl dX3_leftByAll_24 ?_
        refine gV_icmp_gt (tgt := 33) C dX3_leftByAll_27 (by decide) (fun c27 => ?_) (fun c27 => ?_)
        · replace hp := g_ift hp c27
          exact J33 v1 v2 hp
        · replace hp := g_iff hp c27
          refine gV_iinc (v := (v1 + 1)) (lvs' := [(1, .int (v1 + 1)), (0, .ref (h 0)), (2, .int v2)]) C dX3_leftByAll_30 1 rfl rfl (by decide) rfl ?_
          refine gV_loc [1, 0, 2] rfl ?_
          exact J33 (v1 + 1) v2 hp
  refine gV_iconst (v := 0) C dX3_leftByAll_0 rfl ?_
  refine gV_istore_n (lvs' := [(1, .int 0), (0, .ref (h 0))]) C dX3_leftByAll_1 rfl (by decide) rfl ?_
  refine gV_iconst (v := 0) C dX3_leftByAll_2 rfl ?_
  refine gV_istore_n (lvs' := [(2, .int 0), (1, .int 0), (0, .ref (h 0))]) C dX3_leftByAll_3 rfl (by decide) rfl ?_
  refine gV_loc [2, 1, 0] rfl ?_
  exact L4 100000 0 0 hp
def pf_X3_isLeft  (la : Int32) (uR : Int32) (tn : Int32) (tl : Nat → Int32) (v1 : Int32) : Option (Nat × Int32) := (ob1 (pf_X3_requireRow uR v1) fun x2 => if x2 = 0 then (ob1 (pf_X3_remains la uR tn tl v1) fun r7 => (gz r7 ((some (0, r7))))) else (some (x2, 0)))
abbrev rm_X3_isLeft : Room := { frames := 7, cells := 1, slots := 6, locals := 103 }
set_option maxHeartbeats 4000000 in
set_option maxRecDepth 100000 in
theorem mt_X3_isLeft {l : Launch} (hl : l.stackTraces = false) (D : va_G) (h : Nat → Nat) (cI cJ : ClassId) (lc : Int32) (la : Int32) (hr : Int32) (uP : Int32) (uC : Int32) (uR : Int32) (tn : Int32) (pn : Int32) (pg : Int32) (pq : Int32) (rl : Nat → Int32) (sr : Nat → Int32) (gcb : Nat → Int32) (gpb : Nat → Int64) (tg : Nat → Int32) (tm : Nat → Int32) (tl : Nat → Int32) (pm : Nat → Int32) (ps : Nat → Int32) (v1 : Int32) (xc0 : Nat) (r0 : Int32) (hp : pf_X3_isLeft la uR tn tl v1 = (some (xc0, r0))) : gMi l yX3_isLeft wsX3_isLeft rm_X3_isLeft D [(cI, .int), (cJ, .long)] (cW h cI cJ lc la hr uP uC uR tn pn pg pq rl sr gcb gpb tg tm tl pm ps) [.ref (h 0), .int v1] 1 6 (fun r w => xc0 = 0 ∧ r = r0 ∧ w = cW h cI cJ lc la hr uP uC uR tn pn pg pq rl sr gcb gpb tg tm tl pm ps) (fun E w => xc0 ≠ 0 ∧ E = g_exn xc0 ∧ w = cW h cI cJ lc la hr uP uC uR tn pn pg pq rl sr gcb gpb tg tm tl pm ps) := by
  refine gMi_of (cc := cX3_isLeft) (maxL := 2) (rt := .boolean) hl (by decide +kernel) rfl (Nat.le_of_ble_eq_true rfl) ?_
  intro p e s m args below meth c A Q C hnm ht RET OUT THR THRW
  have C : gC p l s m args meth c A D [(cI, .int), (cJ, .long)] 2 RX3 cX3_isLeft wsX3_isLeft := C
  refine gV_loc (lvs' := [(0, .ref (h 0)), (1, .int v1)]) [0, 1] rfl ?_
  unfold pf_X3_isLeft at hp
  refine gV_aload_n C dX3_isLeft_0 rfl 0 rfl ?_
  refine gV_iload_n C dX3_isLeft_1 rfl 1 rfl ?_
  obtain ⟨x2, hq2, hp⟩ := g_ob1 hp
  refine gV_callvS C (gV_runV (As := [.int v1]) (rest := []) C (mt_X3_requireRow hl D h cI cJ lc la hr uP uC uR tn pn pg pq rl sr gcb gpb tg tm tl pm ps v1 x2 hq2) (cwV 1 C.2.2.2.2.1 gX3_isLeft_X3_requireRow rfl rfl rfl hdv_X3_requireRow ⟨Nat.le_of_ble_eq_true rfl, Nat.le_of_ble_eq_true rfl⟩) (gSub_S _) 0 rfl rfl rfl rfl (Nat.le_of_ble_eq_true rfl) dX3_isLeft_2 ⟨Nat.le_of_ble_eq_true rfl, Nat.le_of_ble_eq_true rfl⟩) (fun E w1 hx => ?_) (fun w1 hw => ?_)
  · obtain ⟨hne, rfl, rfl⟩ := hx
    replace hp := g_iff hp hne
    obtain ⟨rfl, rfl⟩ := g_so2 hp
    exact OUT _ _ _ _ _ _ _ ⟨hne, rfl, rfl⟩ (Nat.le_of_ble_eq_true rfl) (Nat.le_of_ble_eq_true rfl)
  · obtain ⟨hx0, rfl⟩ := hw
    replace hp := g_ift hp hx0
    refine gV_aload_n C dX3_isLeft_5 rfl 0 rfl ?_
    refine gV_iload_n C dX3_isLeft_6 rfl 1 rfl ?_
    obtain ⟨r7q, hq7, hp⟩ := g_ob1 hp
    refine gV_calliS C (gV_runV (As := [.int v1]) (rest := []) C (mt_X3_remains hl D h cI cJ lc la hr uP uC uR tn pn pg pq rl sr gcb gpb tg tm tl pm ps v1 r7q hq7) (cwV 1 C.2.2.2.2.1 gX3_isLeft_X3_remains rfl rfl rfl hdv_X3_remains ⟨Nat.le_of_ble_eq_true rfl, Nat.le_of_ble_eq_true rfl⟩) (gSub_S _) 0 rfl rfl rfl rfl (Nat.le_of_ble_eq_true rfl) dX3_isLeft_7 ⟨Nat.le_of_ble_eq_true rfl, Nat.le_of_ble_eq_true rfl⟩) (fun _ _ hx => False.elim hx) (fun r7 w1 hw => ?_)
    obtain ⟨rfl, rfl⟩ := hw
    obtain ⟨hz10, hp⟩ := g_bool hp
    obtain ⟨rfl, rfl⟩ := g_so2 hp
    exact RET _ _ _ _ _ _ dX3_isLeft_10 (Nat.le_of_ble_eq_true rfl) (Nat.le_of_ble_eq_true rfl) (g_nz hz10) ⟨rfl, rfl, rfl⟩
def pf_X3_leftAt_j21  : Option (Nat × Int32) := (some (1, 0))
def pf_X3_leftAt  (lc : Int32) (rl : Nat → Int32) (v1 : Int32) : Option (Nat × Int32) := (if v1 < 0 then (pf_X3_leftAt_j21) else (if lc ≤ v1 then (pf_X3_leftAt_j21) else (if v1 < 256 then (gi v1 256 (some (0, (rl v1.toNatClampNeg)))) else (pf_X3_leftAt_j21))))
abbrev rm_X3_leftAt : Room := { frames := 6, cells := 1, slots := 6, locals := 82 }
theorem inw_X3_leftAt_X3 : ∀ w ∈ wsX30, w ∈ wsX3_leftAt := by decide +kernel
theorem tw_X3_leftAt_IOO : gTw wsX3_leftAt "java/lang/IndexOutOfBoundsException" 68 64 := ⟨gtw_IOO.1, List.mem_of_getElem? (i := 1) rfl, List.mem_of_getElem? (i := 2) rfl, fun w h => List.mem_cons_of_mem _ (List.mem_append_right _ h), gtw_IOO.2.1, gtw_IOO.2.2⟩
set_option maxHeartbeats 4000000 in
set_option maxRecDepth 100000 in
theorem mt_X3_leftAt {l : Launch} (hl : l.stackTraces = false) (D : va_G) (h : Nat → Nat) (cI cJ : ClassId) (lc : Int32) (la : Int32) (hr : Int32) (uP : Int32) (uC : Int32) (uR : Int32) (tn : Int32) (pn : Int32) (pg : Int32) (pq : Int32) (rl : Nat → Int32) (sr : Nat → Int32) (gcb : Nat → Int32) (gpb : Nat → Int64) (tg : Nat → Int32) (tm : Nat → Int32) (tl : Nat → Int32) (pm : Nat → Int32) (ps : Nat → Int32) (v1 : Int32) (xc0 : Nat) (r0 : Int32) (hp : pf_X3_leftAt lc rl v1 = (some (xc0, r0))) : gMi l yX3_leftAt wsX3_leftAt rm_X3_leftAt D [(cI, .int), (cJ, .long)] (cW h cI cJ lc la hr uP uC uR tn pn pg pq rl sr gcb gpb tg tm tl pm ps) [.ref (h 0), .int v1] 1 6 (fun r w => xc0 = 0 ∧ r = r0 ∧ w = cW h cI cJ lc la hr uP uC uR tn pn pg pq rl sr gcb gpb tg tm tl pm ps) (fun E w => xc0 ≠ 0 ∧ E = g_exn xc0 ∧ w = cW h cI cJ lc la hr uP uC uR tn pn pg pq rl sr gcb gpb tg tm tl pm ps) := by
  refine gMi_of (cc := cX3_leftAt) (maxL := 2) (rt := .int) hl (by decide +kernel) rfl (Nat.le_of_ble_eq_true rfl) ?_
  intro p e s m args below meth c A Q C hnm ht RET OUT THR THRW
  have C : gC p l s m args meth c A D [(cI, .int), (cJ, .long)] 2 RX3 cX3_leftAt wsX3_leftAt := C
  have THR := THR rfl
  have THRW := THRW rfl
  refine gV_loc (lvs' := [(0, .ref (h 0)), (1, .int v1)]) [0, 1] rfl ?_
  unfold pf_X3_leftAt at hp
  have J21 : pf_X3_leftAt_j21 = (some (xc0, r0)) → gV p l e rm_X3_leftAt s m args below meth c A D 2 Q (cW h cI cJ lc la hr uP uC uR tn pn pg pq rl sr gcb gpb tg tm tl pm ps) [(0, .ref (h 0))] 0 0 21 [] := by
    intro hp
    unfold pf_X3_leftAt_j21 at hp
    obtain ⟨rfl, rfl⟩ := g_so2 hp
    exact THR _ "not so many rows are left" 68 64 162 _ _ _ _ _ _ ⟨by decide, rfl, rfl⟩ tw_X3_leftAt_IOO (Or.inr (Or.inl rfl)) (by decide) dX3_leftAt_21 dX3_leftAt_24 dX3_leftAt_25 dX3_leftAt_27 dX3_leftAt_30 (Nat.le_of_ble_eq_true rfl) (Nat.le_of_ble_eq_true rfl) (Nat.le_of_ble_eq_true rfl) (Nat.le_of_ble_eq_true rfl) (Nat.le_of_ble_eq_true rfl) (Nat.le_of_ble_eq_true rfl)
  refine gV_iload_n C dX3_leftAt_0 rfl 1 rfl ?_
  refine gV_if_lt (tgt := 21) C dX3_leftAt_1 (by decide) (fun c1 => ?_) (fun c1 => ?_)
  · replace hp := g_ift hp c1
    refine gV_loc [0] rfl ?_
    exact J21 hp
  · replace hp := g_iff hp c1
    refine gV_iload_n C dX3_leftAt_4 rfl 1 rfl ?_
    refine gV_aload_n C dX3_leftAt_5 rfl 0 rfl ?_
    refine gV_get (Cn := RX3) (T := TX3) (N := 8) C inw_X3_leftAt_X3 0 rfl rfl 5 (by decide) (C.w 3 rfl) rfl rfl dX3_leftAt_6 ?_
    refine gV_icmp_ge (tgt := 21) C dX3_leftAt_9 (by decide) (fun c9 => ?_) (fun c9 => ?_)
    · replace hp := g_ift hp c9
      refine gV_loc [0] rfl ?_
      exact J21 hp
    · replace hp := g_iff hp c9
      refine gV_iload_n C dX3_leftAt_12 rfl 1 rfl ?_
      refine gV_aload_n C dX3_leftAt_13 rfl 0 rfl ?_
      refine gV_get (Cn := RX3) (T := TX3) (N := 8) C inw_X3_leftAt_X3 0 rfl rfl 3 (by decide) (C.w 4 rfl) rfl rfl dX3_leftAt_14 ?_
      refine gV_alen (v := 256) C 4 rfl 0 rfl rfl dX3_leftAt_17 ?_
      refine gV_icmp_lt (tgt := 31) C dX3_leftAt_18 (by decide) (fun c18 => ?_) (fun c18 => ?_)
      · replace hp := g_ift hp c18
        refine gV_aload_n C dX3_leftAt_31 rfl 0 rfl ?_
        refine gV_get (Cn := RX3) (T := TX3) (N := 8) C inw_X3_leftAt_X3 0 rfl rfl 3 (by decide) (C.w 4 rfl) rfl rfl dX3_leftAt_32 ?_
        refine gV_iload_n C dX3_leftAt_35 rfl 1 rfl ?_
        obtain ⟨hi36, hp⟩ := g_idx hp
        refine gV_iald C 4 rfl 0 rfl hi36 dX3_leftAt_36 ?_
        obtain ⟨rfl, rfl⟩ := g_so2 hp
        exact RET _ _ _ _ _ _ dX3_leftAt_37 (Nat.le_of_ble_eq_true rfl) (Nat.le_of_ble_eq_true rfl) rfl ⟨rfl, rfl, rfl⟩
      · replace hp := g_iff hp c18
        refine gV_loc [0] rfl ?_
        exact J21 hp

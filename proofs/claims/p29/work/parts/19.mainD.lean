def pf_X3_leavesOne_j55  (s0 : Int32) : Option (Int32) := (gz s0 ((some s0)))
def pf_X3_leavesOne_j45  (v2 : Int32) : Option (Int32) := (if v2 = 1 then (pf_X3_leavesOne_j55 1) else (pf_X3_leavesOne_j55 0))
def pf_X3_leavesOne_j39  (kL4 : Int32 → Int32 → Option (Int32)) (v2 : Int32) (v3 : Int32) : Option (Int32) := (kL4 v2 (v3 + 1))
def pf_X3_leavesOne_L4 (v1 : Int32) (la : Int32) (uR : Int32) (tl : Nat → Int32) : Nat → Int32 → Int32 → Option (Int32)
  | 0, _, _ => none
  | n4 + 1, v2, v3 => (if uR ≤ v3 then (pf_X3_leavesOne_j45 v2) else (if 2 ≤ v2 then (pf_X3_leavesOne_j45 v2) else (ob1 (pf_X0_countLiesIn uR tl v1 v3) fun r26 => (if la < r26 then (pf_X3_leavesOne_j39 (fun v2 v3 => pf_X3_leavesOne_L4 v1 la uR tl n4 v2 v3) v2 v3) else (pf_X3_leavesOne_j39 (fun v2 v3 => pf_X3_leavesOne_L4 v1 la uR tl n4 v2 v3) (v2 + 1) v3)))))
def pf_X3_leavesOne  (la : Int32) (uR : Int32) (tl : Nat → Int32) (v1 : Int32) : Option (Int32) := (pf_X3_leavesOne_L4 v1 la uR tl 100000 0 0)
abbrev rm_X3_leavesOne : Room := { frames := 2, cells := 0, slots := 0, locals := 43 }
theorem inw_X3_leavesOne_X1 : ∀ w ∈ wsX10, w ∈ wsX3_leavesOne := by decide +kernel
theorem inw_X3_leavesOne_X3 : ∀ w ∈ wsX30, w ∈ wsX3_leavesOne := by decide +kernel
set_option maxHeartbeats 4000000 in
set_option maxRecDepth 100000 in
theorem mt_X3_leavesOne {l : Launch} (hl : l.stackTraces = false) (D : va_G) (h : Nat → Nat) (cI cJ : ClassId) (lc : Int32) (la : Int32) (hr : Int32) (uP : Int32) (uC : Int32) (uR : Int32) (tn : Int32) (pn : Int32) (pg : Int32) (pq : Int32) (rl : Nat → Int32) (sr : Nat → Int32) (gcb : Nat → Int32) (gpb : Nat → Int64) (tg : Nat → Int32) (tm : Nat → Int32) (tl : Nat → Int32) (pm : Nat → Int32) (ps : Nat → Int32) (v1 : Int32) (r0 : Int32) (hp : pf_X3_leavesOne la uR tl v1 = (some r0)) : gMi l yX3_leavesOne wsX3_leavesOne rm_X3_leavesOne D [(cI, .int), (cJ, .long)] (cW h cI cJ lc la hr uP uC uR tn pn pg pq rl sr gcb gpb tg tm tl pm ps) [.ref (h 0), .int v1] 0 0 (fun r w => r = r0 ∧ w = cW h cI cJ lc la hr uP uC uR tn pn pg pq rl sr gcb gpb tg tm tl pm ps) (fun _ _ => False) := by
  refine gMi_of (cc := cX3_leavesOne) (maxL := 4) (rt := .boolean) hl (by decide +kernel) rfl (Nat.le_of_ble_eq_true rfl) ?_
  intro p e s m args below meth c A Q C hnm ht RET OUT THR THRW
  have C : gC p l s m args meth c A D [(cI, .int), (cJ, .long)] 4 RX3 cX3_leavesOne wsX3_leavesOne := C
  refine gV_loc (lvs' := [(0, .ref (h 0)), (1, .int v1)]) [0, 1] rfl ?_
  unfold pf_X3_leavesOne at hp
  have J55 : ∀ (s0 : Int32), pf_X3_leavesOne_j55 s0 = (some r0) → gV p l e rm_X3_leavesOne s m args below meth c A D 4 Q (cW h cI cJ lc la hr uP uC uR tn pn pg pq rl sr gcb gpb tg tm tl pm ps) [(0, .ref (h 0))] 0 0 55 [.int s0] := by
    intro s0 hp
    unfold pf_X3_leavesOne_j55 at hp
    obtain ⟨hz55, hp⟩ := g_bool hp
    obtain rfl := g_so1 hp
    exact RET _ _ _ _ _ _ dX3_leavesOne_55 (Nat.le_of_ble_eq_true rfl) (Nat.le_of_ble_eq_true rfl) (g_nz hz55) ⟨rfl, rfl⟩
  have J45 : ∀ (v2 : Int32), pf_X3_leavesOne_j45 v2 = (some r0) → gV p l e rm_X3_leavesOne s m args below meth c A D 4 Q (cW h cI cJ lc la hr uP uC uR tn pn pg pq rl sr gcb gpb tg tm tl pm ps) [(0, .ref (h 0)), (2, .int v2)] 0 0 45 [] := by
    intro v2 hp
    unfold pf_X3_leavesOne_j45 at hp
    refine gV_iload_n C dX3_leavesOne_45 rfl 1 rfl ?_
    refine gV_iconst (v := 1) C dX3_leavesOne_46 rfl ?_
    refine gV_icmp_ne (tgt := 54) C dX3_leavesOne_47 (by decide) (fun c47 => ?_) (fun c47 => ?_)
    · replace hp := g_iff hp c47
      refine gV_iconst (v := 0) C dX3_leavesOne_54 rfl ?_
      refine gV_loc [0] rfl ?_
      exact J55 0 hp
    · replace hp := g_ift hp c47
      refine gV_iconst (v := 1) C dX3_leavesOne_50 rfl ?_
      refine gV_goto (tgt := 55) C dX3_leavesOne_51 (by decide) ?_
      refine gV_loc [0] rfl ?_
      exact J55 1 hp
  have L4 : ∀ (n4 : Nat) (v2 : Int32) (v3 : Int32), pf_X3_leavesOne_L4 v1 la uR tl n4 v2 v3 = (some r0) → gV p l e rm_X3_leavesOne s m args below meth c A D 4 Q (cW h cI cJ lc la hr uP uC uR tn pn pg pq rl sr gcb gpb tg tm tl pm ps) [(0, .ref (h 0)), (1, .int v1), (2, .int v2), (3, .int v3)] 0 0 4 [] := by
    intro n4
    induction n4 with
    | zero => intro v2 v3 hp; exact g_none hp
    | succ n4 ih4 =>
      intro v2 v3 hp
      rw [pf_X3_leavesOne_L4.eq_2] at hp
      have J39 : ∀ (v2 : Int32) (v3 : Int32), pf_X3_leavesOne_j39 (fun v2 v3 => pf_X3_leavesOne_L4 v1 la uR tl n4 v2 v3) v2 v3 = (some r0) → gV p l e rm_X3_leavesOne s m args below meth c A D 4 Q (cW h cI cJ lc la hr uP uC uR tn pn pg pq rl sr gcb gpb tg tm tl pm ps) [(0, .ref (h 0)), (1, .int v1), (2, .int v2), (3, .int v3)] 0 0 39 [] := by
        intro v2 v3 hp
        unfold pf_X3_leavesOne_j39 at hp
        refine gV_iinc (v := (v3 + 1)) (lvs' := [(3, .int (v3 + 1)), (0, .ref (h 0)), (1, .int v1), (2, .int v2)]) C dX3_leavesOne_39 3 rfl rfl (by decide) rfl ?_
        refine gV_goto (tgt := 4) C dX3_leavesOne_42 (by decide) ?_
        refine gV_loc [1, 2, 3, 0] rfl ?_
        exact ih4 v2 (v3 + 1) hp
      refine gV_iload_n C dX3_leavesOne_4 rfl 3 rfl ?_
      refine gV_aload_n C dX3_leavesOne_5 rfl 0 rfl ?_
      refine gV_get (Cn := RX3) (T := TX3) (N := 8) C inw_X3_leavesOne_X3 0 rfl rfl 0 (by decide) (C.w 1 rfl) rfl rfl dX3_leavesOne_6 ?_
      refine gV_get (Cn := RX1) (T := TX1) (N := 5) C inw_X3_leavesOne_X1 1 rfl rfl 2 (by decide) (C.w 2 rfl) rfl rfl dX3_leavesOne_9 ?_
      refine gV_icmp_ge (tgt := 45) C dX3_leavesOne_12 (by decide) (fun c12 => ?_) (fun c12 => ?_)
      · replace hp := g_ift hp c12
        refine gV_loc [0, 2] rfl ?_
        exact J45 v2 hp
      · replace hp := g_iff hp c12
        refine gV_iload_n C dX3_leavesOne_15 rfl 2 rfl ?_
        refine gV_iconst (v := 2) C dX3_leavesOne_16 rfl ?_
        refine gV_icmp_ge (tgt := 45) C dX3_leavesOne_17 (by decide) (fun c17 => ?_) (fun c17 => ?_)
        · replace hp := g_ift hp c17
          refine gV_loc [0, 2] rfl ?_
          exact J45 v2 hp
        · replace hp := g_iff hp c17
          refine gV_aload_n C dX3_leavesOne_20 rfl 0 rfl ?_
          refine gV_get (Cn := RX3) (T := TX3) (N := 8) C inw_X3_leavesOne_X3 0 rfl rfl 1 (by decide) (C.w 3 rfl) rfl rfl dX3_leavesOne_21 ?_
          refine gV_iload_n C dX3_leavesOne_24 rfl 1 rfl ?_
          refine gV_iload_n C dX3_leavesOne_25 rfl 3 rfl ?_
          obtain ⟨r26q, hq26, hp⟩ := g_ob1 hp
          refine gV_calliS C (gV_runV (As := [.int v1, .int v3]) (rest := []) C (mt_X0_countLiesIn hl D h cI cJ lc la hr uP uC uR tn pn pg pq rl sr gcb gpb tg tm tl pm ps v1 v3 r26q hq26) (cwV 2 C.2.2.2.2.1 gX3_leavesOne_X0_countLiesIn rfl rfl rfl hdv_X0_countLiesIn ⟨Nat.le_of_ble_eq_true rfl, Nat.le_of_ble_eq_true rfl⟩) (gSub_S _) 2 rfl rfl rfl rfl (Nat.le_of_ble_eq_true rfl) dX3_leavesOne_26 ⟨Nat.le_of_ble_eq_true rfl, Nat.le_of_ble_eq_true rfl⟩) (fun _ _ hx => False.elim hx) (fun r26 w1 hw => ?_)
          obtain ⟨rfl, rfl⟩ := hw
          refine gV_aload_n C dX3_leavesOne_29 rfl 0 rfl ?_
          refine gV_get (Cn := RX3) (T := TX3) (N := 8) C inw_X3_leavesOne_X3 0 rfl rfl 6 (by decide) (C.w 4 rfl) rfl rfl dX3_leavesOne_30 ?_
          refine gV_icmp_gt (tgt := 39) C dX3_leavesOne_33 (by decide) (fun c33 => ?_) (fun c33 => ?_)
          · replace hp := g_ift hp c33
            exact J39 v2 v3 hp
          · replace hp := g_iff hp c33
            refine gV_iinc (v := (v2 + 1)) (lvs' := [(2, .int (v2 + 1)), (0, .ref (h 0)), (1, .int v1), (3, .int v3)]) C dX3_leavesOne_36 2 rfl rfl (by decide) rfl ?_
            refine gV_loc [1, 2, 0, 3] rfl ?_
            exact J39 (v2 + 1) v3 hp
  refine gV_iconst (v := 0) C dX3_leavesOne_0 rfl ?_
  refine gV_istore_n (lvs' := [(2, .int 0), (0, .ref (h 0)), (1, .int v1)]) C dX3_leavesOne_1 rfl (by decide) rfl ?_
  refine gV_iconst (v := 0) C dX3_leavesOne_2 rfl ?_
  refine gV_istore_n (lvs' := [(3, .int 0), (2, .int 0), (0, .ref (h 0)), (1, .int v1)]) C dX3_leavesOne_3 rfl (by decide) rfl ?_
  refine gV_loc [2, 3, 1, 0] rfl ?_
  exact L4 100000 0 0 hp
def pf_X3_shortestProof_j43  (kL18 : Int32 → Int32 → Option (Int32)) (v1 : Int32) (v2 : Int32) : Option (Int32) := (kL18 v1 (v2 + (-1)))
def pf_X3_shortestProof_L18 (la : Int32) (uR : Int32) (tl : Nat → Int32) : Nat → Int32 → Int32 → Option (Int32)
  | 0, _, _ => none
  | n18 + 1, v1, v2 => (if v2 ≤ 0 then (some v1) else (ob1 (pf_J6_bitCount_0f7a4 v2) fun r23 => (ob1 (pf_J6_bitCount_0f7a4 v1) fun r27 => (if r27 ≤ r23 then (pf_X3_shortestProof_j43 (fun v1 v2 => pf_X3_shortestProof_L18 la uR tl n18 v1 v2) v1 v2) else (ob1 (pf_X3_leavesOne la uR tl v2) fun r35 => (if r35 = 0 then (pf_X3_shortestProof_j43 (fun v1 v2 => pf_X3_shortestProof_L18 la uR tl n18 v1 v2) v1 v2) else (pf_X3_shortestProof_j43 (fun v1 v2 => pf_X3_shortestProof_L18 la uR tl n18 v1 v2) v2 v2)))))))
def pf_X3_shortestProof  (la : Int32) (uR : Int32) (tn : Int32) (tl : Nat → Int32)  : Option (Int32) := (ob1 (pf_X0_allBits tn) fun r4 => (ob1 (pf_X0_allBits tn) fun r12 => (pf_X3_shortestProof_L18 la uR tl 100000 r4 (r12 - 1))))
abbrev rm_X3_shortestProof : Room := { frames := 3, cells := 0, slots := 0, locals := 66 }
theorem inw_X3_shortestProof_X3 : ∀ w ∈ wsX30, w ∈ wsX3_shortestProof := by decide +kernel
theorem hdv_X3_leavesOne : yX3_leavesOne.cls = RX3 ∧ yX3_leavesOne.cls ≠ "java/lang/invoke/MethodHandle" ∧ yX3_leavesOne.cls ≠ "java/lang/invoke/VarHandle" ∧ (parseMethodDescriptor yX3_leavesOne.desc).map (fun d => d.parameters.length) = some 1 := by decide +kernel
set_option maxHeartbeats 4000000 in
set_option maxRecDepth 100000 in
theorem mt_X3_shortestProof {l : Launch} (hl : l.stackTraces = false) (D : va_G) (h : Nat → Nat) (cI cJ : ClassId) (lc : Int32) (la : Int32) (hr : Int32) (uP : Int32) (uC : Int32) (uR : Int32) (tn : Int32) (pn : Int32) (pg : Int32) (pq : Int32) (rl : Nat → Int32) (sr : Nat → Int32) (gcb : Nat → Int32) (gpb : Nat → Int64) (tg : Nat → Int32) (tm : Nat → Int32) (tl : Nat → Int32) (pm : Nat → Int32) (ps : Nat → Int32)  (r0 : Int32) (hp : pf_X3_shortestProof la uR tn tl = (some r0)) : gMi l yX3_shortestProof wsX3_shortestProof rm_X3_shortestProof D [(cI, .int), (cJ, .long)] (cW h cI cJ lc la hr uP uC uR tn pn pg pq rl sr gcb gpb tg tm tl pm ps) [.ref (h 0)] 0 0 (fun r w => r = r0 ∧ w = cW h cI cJ lc la hr uP uC uR tn pn pg pq rl sr gcb gpb tg tm tl pm ps) (fun _ _ => False) := by
  refine gMi_of (cc := cX3_shortestProof) (maxL := 3) (rt := .int) hl (by decide +kernel) rfl (Nat.le_of_ble_eq_true rfl) ?_
  intro p e s m args below meth c A Q C hnm ht RET OUT THR THRW
  have C : gC p l s m args meth c A D [(cI, .int), (cJ, .long)] 3 RX3 cX3_shortestProof wsX3_shortestProof := C
  refine gV_loc (lvs' := [(0, .ref (h 0))]) [0] rfl ?_
  unfold pf_X3_shortestProof at hp
  have L18 : ∀ (n18 : Nat) (v1 : Int32) (v2 : Int32), pf_X3_shortestProof_L18 la uR tl n18 v1 v2 = (some r0) → gV p l e rm_X3_shortestProof s m args below meth c A D 3 Q (cW h cI cJ lc la hr uP uC uR tn pn pg pq rl sr gcb gpb tg tm tl pm ps) [(0, .ref (h 0)), (1, .int v1), (2, .int v2)] 0 0 18 [] := by
    intro n18
    induction n18 with
    | zero => intro v1 v2 hp; exact g_none hp
    | succ n18 ih18 =>
      intro v1 v2 hp
      rw [pf_X3_shortestProof_L18.eq_2] at hp
      have J43 : ∀ (v1 : Int32) (v2 : Int32), pf_X3_shortestProof_j43 (fun v1 v2 => pf_X3_shortestProof_L18 la uR tl n18 v1 v2) v1 v2 = (some r0) → gV p l e rm_X3_shortestProof s m args below meth c A D 3 Q (cW h cI cJ lc la hr uP uC uR tn pn pg pq rl sr gcb gpb tg tm tl pm ps) [(0, .ref (h 0)), (1, .int v1), (2, .int v2)] 0 0 43 [] := by
        intro v1 v2 hp
        unfold pf_X3_shortestProof_j43 at hp
        refine gV_iinc (v := (v2 + (-1))) (lvs' := [(2, .int (v2 + (-1))), (0, .ref (h 0)), (1, .int v1)]) C dX3_shortestProof_43 2 rfl rfl (by decide) rfl ?_
        refine gV_goto (tgt := 18) C dX3_shortestProof_46 (by decide) ?_
        refine gV_loc [1, 2, 0] rfl ?_
        exact ih18 v1 (v2 + (-1)) hp
      refine gV_iload_n C dX3_shortestProof_18 rfl 2 rfl ?_
      refine gV_if_le (tgt := 49) C dX3_shortestProof_19 (by decide) (fun c19 => ?_) (fun c19 => ?_)
      · replace hp := g_ift hp c19
        refine gV_iload_n C dX3_shortestProof_49 rfl 1 rfl ?_
        obtain rfl := g_so1 hp
        exact RET _ _ _ _ _ _ dX3_shortestProof_50 (Nat.le_of_ble_eq_true rfl) (Nat.le_of_ble_eq_true rfl) rfl ⟨rfl, rfl⟩
      · replace hp := g_iff hp c19
        refine gV_iload_n C dX3_shortestProof_22 rfl 2 rfl ?_
        obtain ⟨r23q, hq23, hp⟩ := g_ob1 hp
        refine gV_calliE C (gV_runS (As := [.int v2]) (rest := []) C (mt_J6_bitCount_0f7a4 hl D cI cJ v2 r23q hq23) (va_cwS 1 C.2.2.2.2.1 gX3_shortestProof_J6_bitCount_0f7a4 rfl rfl rfl hds_J6_bitCount_0f7a4 ⟨Nat.le_of_ble_eq_true rfl, Nat.le_of_ble_eq_true rfl⟩) (gSub_E _) rfl rfl (Nat.le_of_ble_eq_true rfl) dX3_shortestProof_23 ⟨Nat.le_of_ble_eq_true rfl, Nat.le_of_ble_eq_true rfl⟩) (fun _ _ hx => False.elim hx) (fun r23 w1 hw => ?_)
        obtain ⟨rfl, rfl⟩ := hw
        refine ⟨rfl, ?_⟩
        refine gV_iload_n C dX3_shortestProof_26 rfl 1 rfl ?_
        obtain ⟨r27q, hq27, hp⟩ := g_ob1 hp
        refine gV_calliE C (gV_runS (As := [.int v1]) (rest := [.int r23]) C (mt_J6_bitCount_0f7a4 hl D cI cJ v1 r27q hq27) (va_cwS 1 C.2.2.2.2.1 gX3_shortestProof_J6_bitCount_0f7a4 rfl rfl rfl hds_J6_bitCount_0f7a4 ⟨Nat.le_of_ble_eq_true rfl, Nat.le_of_ble_eq_true rfl⟩) (gSub_E _) rfl rfl (Nat.le_of_ble_eq_true rfl) dX3_shortestProof_27 ⟨Nat.le_of_ble_eq_true rfl, Nat.le_of_ble_eq_true rfl⟩) (fun _ _ hx => False.elim hx) (fun r27 w1 hw => ?_)
        obtain ⟨rfl, rfl⟩ := hw
        refine ⟨rfl, ?_⟩
        refine gV_icmp_ge (tgt := 43) C dX3_shortestProof_30 (by decide) (fun c30 => ?_) (fun c30 => ?_)
        · replace hp := g_ift hp c30
          exact J43 v1 v2 hp
        · replace hp := g_iff hp c30
          refine gV_aload_n C dX3_shortestProof_33 rfl 0 rfl ?_
          refine gV_iload_n C dX3_shortestProof_34 rfl 2 rfl ?_
          obtain ⟨r35q, hq35, hp⟩ := g_ob1 hp
          refine gV_calliS C (gV_runV (As := [.int v2]) (rest := []) C (mt_X3_leavesOne hl D h cI cJ lc la hr uP uC uR tn pn pg pq rl sr gcb gpb tg tm tl pm ps v2 r35q hq35) (cwV 1 C.2.2.2.2.1 gX3_shortestProof_X3_leavesOne rfl rfl rfl hdv_X3_leavesOne ⟨Nat.le_of_ble_eq_true rfl, Nat.le_of_ble_eq_true rfl⟩) (gSub_S _) 0 rfl rfl rfl rfl (Nat.le_of_ble_eq_true rfl) dX3_shortestProof_35 ⟨Nat.le_of_ble_eq_true rfl, Nat.le_of_ble_eq_true rfl⟩) (fun _ _ hx => False.elim hx) (fun r35 w1 hw => ?_)
          obtain ⟨rfl, rfl⟩ := hw
          refine gV_if_eq (tgt := 43) C dX3_shortestProof_38 (by decide) (fun c38 => ?_) (fun c38 => ?_)
          · replace hp := g_ift hp c38
            exact J43 v1 v2 hp
          · replace hp := g_iff hp c38
            refine gV_iload_n C dX3_shortestProof_41 rfl 2 rfl ?_
            refine gV_istore_n (lvs' := [(1, .int v2), (0, .ref (h 0)), (2, .int v2)]) C dX3_shortestProof_42 rfl (by decide) rfl ?_
            refine gV_loc [1, 0, 2] rfl ?_
            exact J43 v2 v2 hp
  refine gV_aload_n C dX3_shortestProof_0 rfl 0 rfl ?_
  refine gV_get (Cn := RX3) (T := TX3) (N := 8) C inw_X3_shortestProof_X3 0 rfl rfl 1 (by decide) (C.w 1 rfl) rfl rfl dX3_shortestProof_1 ?_
  obtain ⟨r4q, hq4, hp⟩ := g_ob1 hp
  refine gV_calliS C (gV_runV (As := []) (rest := []) C (mt_X0_allBits hl D h cI cJ lc la hr uP uC uR tn pn pg pq rl sr gcb gpb tg tm tl pm ps r4q hq4) (cwV 0 C.2.2.2.2.1 gX3_shortestProof_X0_allBits rfl rfl rfl hdv_X0_allBits ⟨Nat.le_of_ble_eq_true rfl, Nat.le_of_ble_eq_true rfl⟩) (gSub_S _) 2 rfl rfl rfl rfl (Nat.le_of_ble_eq_true rfl) dX3_shortestProof_4 ⟨Nat.le_of_ble_eq_true rfl, Nat.le_of_ble_eq_true rfl⟩) (fun _ _ hx => False.elim hx) (fun r4 w1 hw => ?_)
  obtain ⟨rfl, rfl⟩ := hw
  refine gV_istore_n (lvs' := [(1, .int r4), (0, .ref (h 0))]) C dX3_shortestProof_7 rfl (by decide) rfl ?_
  refine gV_aload_n C dX3_shortestProof_8 rfl 1 rfl ?_
  refine gV_get (Cn := RX3) (T := TX3) (N := 8) C inw_X3_shortestProof_X3 0 rfl rfl 1 (by decide) (C.w 1 rfl) rfl rfl dX3_shortestProof_9 ?_
  obtain ⟨r12q, hq12, hp⟩ := g_ob1 hp
  refine gV_calliS C (gV_runV (As := []) (rest := []) C (mt_X0_allBits hl D h cI cJ lc la hr uP uC uR tn pn pg pq rl sr gcb gpb tg tm tl pm ps r12q hq12) (cwV 0 C.2.2.2.2.1 gX3_shortestProof_X0_allBits rfl rfl rfl hdv_X0_allBits ⟨Nat.le_of_ble_eq_true rfl, Nat.le_of_ble_eq_true rfl⟩) (gSub_S _) 2 rfl rfl rfl rfl (Nat.le_of_ble_eq_true rfl) dX3_shortestProof_12 ⟨Nat.le_of_ble_eq_true rfl, Nat.le_of_ble_eq_true rfl⟩) (fun _ _ hx => False.elim hx) (fun r12 w1 hw => ?_)
  obtain ⟨rfl, rfl⟩ := hw
  refine gV_iconst (v := 1) C dX3_shortestProof_15 rfl ?_
  refine gV_isub C dX3_shortestProof_16 ?_
  refine gV_istore_n (lvs' := [(2, .int (r12 - 1)), (1, .int r4), (0, .ref (h 0))]) C dX3_shortestProof_17 rfl (by decide) rfl ?_
  refine gV_loc [2, 1, 0] rfl ?_
  exact L18 100000 r4 (r12 - 1) hp
def pf_X3_proofSize_j19  (s0 : Int32) : Option (Int32) := (some s0)
def pf_X3_proofSize  (lc : Int32) (la : Int32) (uR : Int32) (tn : Int32) (tl : Nat → Int32)  : Option (Int32) := (if lc = 1 then (ob1 (pf_X3_shortestProof la uR tn tl) fun r9 => (ob1 (pf_J6_bitCount_0f7a4 r9) fun r12 => (pf_X3_proofSize_j19 r12))) else (pf_X3_proofSize_j19 (-1)))
abbrev rm_X3_proofSize : Room := { frames := 4, cells := 0, slots := 0, locals := 88 }
theorem inw_X3_proofSize_X3 : ∀ w ∈ wsX30, w ∈ wsX3_proofSize := by decide +kernel
theorem hdv_X3_shortestProof : yX3_shortestProof.cls = RX3 ∧ yX3_shortestProof.cls ≠ "java/lang/invoke/MethodHandle" ∧ yX3_shortestProof.cls ≠ "java/lang/invoke/VarHandle" ∧ (parseMethodDescriptor yX3_shortestProof.desc).map (fun d => d.parameters.length) = some 0 := by decide +kernel
set_option maxHeartbeats 4000000 in
set_option maxRecDepth 100000 in
theorem mt_X3_proofSize {l : Launch} (hl : l.stackTraces = false) (D : va_G) (h : Nat → Nat) (cI cJ : ClassId) (lc : Int32) (la : Int32) (hr : Int32) (uP : Int32) (uC : Int32) (uR : Int32) (tn : Int32) (pn : Int32) (pg : Int32) (pq : Int32) (rl : Nat → Int32) (sr : Nat → Int32) (gcb : Nat → Int32) (gpb : Nat → Int64) (tg : Nat → Int32) (tm : Nat → Int32) (tl : Nat → Int32) (pm : Nat → Int32) (ps : Nat → Int32)  (r0 : Int32) (hp : pf_X3_proofSize lc la uR tn tl = (some r0)) : gMi l yX3_proofSize wsX3_proofSize rm_X3_proofSize D [(cI, .int), (cJ, .long)] (cW h cI cJ lc la hr uP uC uR tn pn pg pq rl sr gcb gpb tg tm tl pm ps) [.ref (h 0)] 0 0 (fun r w => r = r0 ∧ w = cW h cI cJ lc la hr uP uC uR tn pn pg pq rl sr gcb gpb tg tm tl pm ps) (fun _ _ => False) := by
  refine gMi_of (cc := cX3_proofSize) (maxL := 1) (rt := .int) hl (by decide +kernel) rfl (Nat.le_of_ble_eq_true rfl) ?_
  intro p e s m args below meth c A Q C hnm ht RET OUT THR THRW
  have C : gC p l s m args meth c A D [(cI, .int), (cJ, .long)] 1 RX3 cX3_proofSize wsX3_proofSize := C
  refine gV_loc (lvs' := [(0, .ref (h 0))]) [0] rfl ?_
  unfold pf_X3_proofSize at hp
  have J19 : ∀ (s0 : Int32), pf_X3_proofSize_j19 s0 = (some r0) → gV p l e rm_X3_proofSize s m args below meth c A D 1 Q (cW h cI cJ lc la hr uP uC uR tn pn pg pq rl sr gcb gpb tg tm tl pm ps) [(0, .ref (h 0))] 0 0 19 [.int s0] := by
    intro s0 hp
    unfold pf_X3_proofSize_j19 at hp
    obtain rfl := g_so1 hp
    exact RET _ _ _ _ _ _ dX3_proofSize_19 (Nat.le_of_ble_eq_true rfl) (Nat.le_of_ble_eq_true rfl) rfl ⟨rfl, rfl⟩
  refine gV_aload_n C dX3_proofSize_0 rfl 0 rfl ?_
  refine gV_get (Cn := RX3) (T := TX3) (N := 8) C inw_X3_proofSize_X3 0 rfl rfl 5 (by decide) (C.w 1 rfl) rfl rfl dX3_proofSize_1 ?_
  refine gV_iconst (v := 1) C dX3_proofSize_4 rfl ?_
  refine gV_icmp_ne (tgt := 18) C dX3_proofSize_5 (by decide) (fun c5 => ?_) (fun c5 => ?_)
  · replace hp := g_iff hp c5
    refine gV_iconst (v := (-1)) C dX3_proofSize_18 rfl ?_
    exact J19 (-1) hp
  · replace hp := g_ift hp c5
    refine gV_aload_n C dX3_proofSize_8 rfl 0 rfl ?_
    obtain ⟨r9q, hq9, hp⟩ := g_ob1 hp
    refine gV_calliS C (gV_runV (As := []) (rest := []) C (mt_X3_shortestProof hl D h cI cJ lc la hr uP uC uR tn pn pg pq rl sr gcb gpb tg tm tl pm ps r9q hq9) (cwV 0 C.2.2.2.2.1 gX3_proofSize_X3_shortestProof rfl rfl rfl hdv_X3_shortestProof ⟨Nat.le_of_ble_eq_true rfl, Nat.le_of_ble_eq_true rfl⟩) (gSub_S _) 0 rfl rfl rfl rfl (Nat.le_of_ble_eq_true rfl) dX3_proofSize_9 ⟨Nat.le_of_ble_eq_true rfl, Nat.le_of_ble_eq_true rfl⟩) (fun _ _ hx => False.elim hx) (fun r9 w1 hw => ?_)
    obtain ⟨rfl, rfl⟩ := hw
    obtain ⟨r12q, hq12, hp⟩ := g_ob1 hp
    refine gV_calliE C (gV_runS (As := [.int r9]) (rest := []) C (mt_J6_bitCount_0f7a4 hl D cI cJ r9 r12q hq12) (va_cwS 1 C.2.2.2.2.1 gX3_proofSize_J6_bitCount_0f7a4 rfl rfl rfl hds_J6_bitCount_0f7a4 ⟨Nat.le_of_ble_eq_true rfl, Nat.le_of_ble_eq_true rfl⟩) (gSub_E _) rfl rfl (Nat.le_of_ble_eq_true rfl) dX3_proofSize_12 ⟨Nat.le_of_ble_eq_true rfl, Nat.le_of_ble_eq_true rfl⟩) (fun _ _ hx => False.elim hx) (fun r12 w1 hw => ?_)
    obtain ⟨rfl, rfl⟩ := hw
    refine ⟨rfl, ?_⟩
    refine gV_goto (tgt := 19) C dX3_proofSize_15 (by decide) ?_
    exact J19 r12 hp
def pf_X3_isInProof_j44  (s0 : Int32) : Option (Nat × Int32) := (gz s0 ((some (0, s0))))
def pf_X3_isInProof  (lc : Int32) (la : Int32) (uR : Int32) (tn : Int32) (tl : Nat → Int32) (v1 : Int32) : Option (Nat × Int32) := (ob1 (pf_X3_requireEntry tn v1) fun x2 => if x2 = 0 then (if lc = 1 then (ob1 (pf_X3_shortestProof la uR tn tl) fun r24 => (ob1 (pf_X0_bitOf tn v1) fun r32 => (if (r24 &&& r32) = 0 then (pf_X3_isInProof_j44 0) else (pf_X3_isInProof_j44 1)))) else (some (3, 0))) else (some (x2, 0)))
abbrev rm_X3_isInProof : Room := { frames := 7, cells := 2, slots := 12, locals := 103 }
theorem inw_X3_isInProof_X3 : ∀ w ∈ wsX30, w ∈ wsX3_isInProof := by decide +kernel
theorem tw_X3_isInProof_ISE : gTw wsX3_isInProof "java/lang/IllegalStateException" 91 87 := ⟨gtw_ISE.1, List.mem_of_getElem? (i := 1) rfl, List.mem_of_getElem? (i := 2) rfl, fun w h => List.mem_cons_of_mem _ (List.mem_append_left _ (List.mem_append_right _ h)), gtw_ISE.2.1, gtw_ISE.2.2⟩
theorem hdv_X0_bitOf : yX0_bitOf.cls = RX0 ∧ yX0_bitOf.cls ≠ "java/lang/invoke/MethodHandle" ∧ yX0_bitOf.cls ≠ "java/lang/invoke/VarHandle" ∧ (parseMethodDescriptor yX0_bitOf.desc).map (fun d => d.parameters.length) = some 1 := by decide +kernel
set_option maxHeartbeats 4000000 in
set_option maxRecDepth 100000 in
theorem mt_X3_isInProof {l : Launch} (hl : l.stackTraces = false) (D : va_G) (h : Nat → Nat) (cI cJ : ClassId) (lc : Int32) (la : Int32) (hr : Int32) (uP : Int32) (uC : Int32) (uR : Int32) (tn : Int32) (pn : Int32) (pg : Int32) (pq : Int32) (rl : Nat → Int32) (sr : Nat → Int32) (gcb : Nat → Int32) (gpb : Nat → Int64) (tg : Nat → Int32) (tm : Nat → Int32) (tl : Nat → Int32) (pm : Nat → Int32) (ps : Nat → Int32) (v1 : Int32) (xc0 : Nat) (r0 : Int32) (hp : pf_X3_isInProof lc la uR tn tl v1 = (some (xc0, r0))) : gMi l yX3_isInProof wsX3_isInProof rm_X3_isInProof D [(cI, .int), (cJ, .long)] (cW h cI cJ lc la hr uP uC uR tn pn pg pq rl sr gcb gpb tg tm tl pm ps) [.ref (h 0), .int v1] 2 12 (fun r w => xc0 = 0 ∧ r = r0 ∧ w = cW h cI cJ lc la hr uP uC uR tn pn pg pq rl sr gcb gpb tg tm tl pm ps) (fun E w => xc0 ≠ 0 ∧ E = g_exn xc0 ∧ w = cW h cI cJ lc la hr uP uC uR tn pn pg pq rl sr gcb gpb tg tm tl pm ps) := by
  refine gMi_of (cc := cX3_isInProof) (maxL := 2) (rt := .boolean) hl (by decide +kernel) rfl (Nat.le_of_ble_eq_true rfl) ?_
  intro p e s m args below meth c A Q C hnm ht RET OUT THR THRW
  have C : gC p l s m args meth c A D [(cI, .int), (cJ, .long)] 2 RX3 cX3_isInProof wsX3_isInProof := C
  have THR := THR rfl
  have THRW := THRW rfl
  refine gV_loc (lvs' := [(0, .ref (h 0)), (1, .int v1)]) [0, 1] rfl ?_
  unfold pf_X3_isInProof at hp
  have J44 : ∀ (s0 : Int32), pf_X3_isInProof_j44 s0 = (some (xc0, r0)) → gV p l e rm_X3_isInProof s m args below meth c A D 2 Q (cW h cI cJ lc la hr uP uC uR tn pn pg pq rl sr gcb gpb tg tm tl pm ps) [(0, .ref (h 0))] 1 6 44 [.int s0] := by
    intro s0 hp
    unfold pf_X3_isInProof_j44 at hp
    obtain ⟨hz44, hp⟩ := g_bool hp
    obtain ⟨rfl, rfl⟩ := g_so2 hp
    exact RET _ _ _ _ _ _ dX3_isInProof_44 (Nat.le_of_ble_eq_true rfl) (Nat.le_of_ble_eq_true rfl) (g_nz hz44) ⟨rfl, rfl, rfl⟩
  refine gV_aload_n C dX3_isInProof_0 rfl 0 rfl ?_
  refine gV_iload_n C dX3_isInProof_1 rfl 1 rfl ?_
  obtain ⟨x2, hq2, hp⟩ := g_ob1 hp
  refine gV_callvS C (gV_runV (As := [.int v1]) (rest := []) C (mt_X3_requireEntry hl D h cI cJ lc la hr uP uC uR tn pn pg pq rl sr gcb gpb tg tm tl pm ps v1 x2 hq2) (cwV 1 C.2.2.2.2.1 gX3_isInProof_X3_requireEntry rfl rfl rfl hdv_X3_requireEntry ⟨Nat.le_of_ble_eq_true rfl, Nat.le_of_ble_eq_true rfl⟩) (gSub_S _) 0 rfl rfl rfl rfl (Nat.le_of_ble_eq_true rfl) dX3_isInProof_2 ⟨Nat.le_of_ble_eq_true rfl, Nat.le_of_ble_eq_true rfl⟩) (fun E w1 hx => ?_) (fun w1 hw => ?_)
  · obtain ⟨hne, rfl, rfl⟩ := hx
    replace hp := g_iff hp hne
    obtain ⟨rfl, rfl⟩ := g_so2 hp
    exact OUT _ _ _ _ _ _ _ ⟨hne, rfl, rfl⟩ (Nat.le_of_ble_eq_true rfl) (Nat.le_of_ble_eq_true rfl)
  · obtain ⟨hx0, rfl⟩ := hw
    replace hp := g_ift hp hx0
    refine gV_aload_n C dX3_isInProof_5 rfl 0 rfl ?_
    refine gV_get (Cn := RX3) (T := TX3) (N := 8) C inw_X3_isInProof_X3 0 rfl rfl 5 (by decide) (C.w 3 rfl) rfl rfl dX3_isInProof_6 ?_
    refine gV_iconst (v := 1) C dX3_isInProof_9 rfl ?_
    refine gV_icmp_eq (tgt := 23) C dX3_isInProof_10 (by decide) (fun c10 => ?_) (fun c10 => ?_)
    · replace hp := g_ift hp c10
      refine gV_aload_n C dX3_isInProof_23 rfl 0 rfl ?_
      obtain ⟨r24q, hq24, hp⟩ := g_ob1 hp
      refine gV_calliS C (gV_runV (As := []) (rest := []) C (mt_X3_shortestProof hl D h cI cJ lc la hr uP uC uR tn pn pg pq rl sr gcb gpb tg tm tl pm ps r24q hq24) (cwV 0 C.2.2.2.2.1 gX3_isInProof_X3_shortestProof rfl rfl rfl hdv_X3_shortestProof ⟨Nat.le_of_ble_eq_true rfl, Nat.le_of_ble_eq_true rfl⟩) (gSub_S _) 0 rfl rfl rfl rfl (Nat.le_of_ble_eq_true rfl) dX3_isInProof_24 ⟨Nat.le_of_ble_eq_true rfl, Nat.le_of_ble_eq_true rfl⟩) (fun _ _ hx => False.elim hx) (fun r24 w1 hw => ?_)
      obtain ⟨rfl, rfl⟩ := hw
      refine gV_aload_n C dX3_isInProof_27 rfl 0 rfl ?_
      refine gV_get (Cn := RX3) (T := TX3) (N := 8) C inw_X3_isInProof_X3 0 rfl rfl 1 (by decide) (C.w 4 rfl) rfl rfl dX3_isInProof_28 ?_
      refine gV_iload_n C dX3_isInProof_31 rfl 1 rfl ?_
      obtain ⟨r32q, hq32, hp⟩ := g_ob1 hp
      refine gV_calliS C (gV_runV (As := [.int v1]) (rest := [.int r24]) C (mt_X0_bitOf hl D h cI cJ lc la hr uP uC uR tn pn pg pq rl sr gcb gpb tg tm tl pm ps v1 r32q hq32) (cwV 1 C.2.2.2.2.1 gX3_isInProof_X0_bitOf rfl rfl rfl hdv_X0_bitOf ⟨Nat.le_of_ble_eq_true rfl, Nat.le_of_ble_eq_true rfl⟩) (gSub_S _) 2 rfl rfl rfl rfl (Nat.le_of_ble_eq_true rfl) dX3_isInProof_32 ⟨Nat.le_of_ble_eq_true rfl, Nat.le_of_ble_eq_true rfl⟩) (fun _ _ hx => False.elim hx) (fun r32 w1 hw => ?_)
      obtain ⟨rfl, rfl⟩ := hw
      refine gV_iand C dX3_isInProof_35 ?_
      refine gV_if_eq (tgt := 43) C dX3_isInProof_36 (by decide) (fun c36 => ?_) (fun c36 => ?_)
      · replace hp := g_ift hp c36
        refine gV_iconst (v := 0) C dX3_isInProof_43 rfl ?_
        refine gV_loc [0] rfl ?_
        exact J44 0 hp
      · replace hp := g_iff hp c36
        refine gV_iconst (v := 1) C dX3_isInProof_39 rfl ?_
        refine gV_goto (tgt := 44) C dX3_isInProof_40 (by decide) ?_
        refine gV_loc [0] rfl ?_
        exact J44 1 hp
    · replace hp := g_iff hp c10
      obtain ⟨rfl, rfl⟩ := g_so2 hp
      exact THR _ "not just one row is left" 91 87 238 _ _ _ _ _ _ ⟨by decide, rfl, rfl⟩ tw_X3_isInProof_ISE (Or.inr (Or.inr rfl)) (by decide) dX3_isInProof_13 dX3_isInProof_16 dX3_isInProof_17 dX3_isInProof_19 dX3_isInProof_22 (Nat.le_of_ble_eq_true rfl) (Nat.le_of_ble_eq_true rfl) (Nat.le_of_ble_eq_true rfl) (Nat.le_of_ble_eq_true rfl) (Nat.le_of_ble_eq_true rfl) (Nat.le_of_ble_eq_true rfl)

def pf_X3_partRows_rl_j51  (pn : Int32) (pg : Int32) (pq : Int32) (pm : Nat → Int32) (ps : Nat → Int32) : Option (Int32 × Int32 × Int32 × (Nat → Int32) × (Nat → Int32)) := (some (pn, pg, pq, pm, ps))
def pf_X3_partRows_rl_L10 (v1 : Int32) (v3 : Int32) (v4 : Int32) (uP : Int32) (uR : Int32) (rl : Nat → Int32) (gcb : Nat → Int32) (gpb : Nat → Int64) : Nat → Int32 → Int32 → Int32 → Int32 → (Nat → Int32) → (Nat → Int32) → Option (Int32 × Int32 × Int32 × (Nat → Int32) × (Nat → Int32))
  | 0, _, _, _, _, _, _ => none
  | n10 + 1, v5, pn, pg, pq, pm, ps => (if (v3 + v4) ≤ v5 then (pf_X3_partRows_rl_j51 pn pg pq pm ps) else (if 256 ≤ v5 then (pf_X3_partRows_rl_j51 pn pg pq pm ps) else (gi v5 256 (ob1 (pf_X1_compare uP uR gcb gpb v1 (rl v5.toNatClampNeg)) fun r39 => (ob5 (pf_X2_add pn pg pq pm ps r39) fun pn_42 pg_42 pq_42 pm_42 ps_42 => (pf_X3_partRows_rl_L10 v1 v3 v4 uP uR rl gcb gpb n10 (v5 + 1) pn_42 pg_42 pq_42 pm_42 ps_42))))))
def pf_X3_partRows_rl  (uP : Int32) (uR : Int32) (pn : Int32) (pg : Int32) (pq : Int32) (rl : Nat → Int32) (gcb : Nat → Int32) (gpb : Nat → Int64) (pm : Nat → Int32) (ps : Nat → Int32) (v1 : Int32) (v3 : Int32) (v4 : Int32) : Option (Int32 × Int32 × Int32 × (Nat → Int32) × (Nat → Int32)) := (ob4 (pf_X2_clear pn pg pq ps) fun pn_4 pg_4 pq_4 ps_4 => (pf_X3_partRows_rl_L10 v1 v3 v4 uP uR rl gcb gpb 100000 v3 pn_4 pg_4 pq_4 pm ps_4))
abbrev rm_X3_partRows_rl : Room := { frames := 2, cells := 0, slots := 0, locals := 47 }
theorem inw_X3_partRows_X3 : ∀ w ∈ wsX30, w ∈ wsX3_partRows := by decide +kernel
theorem hdv_X2_add : yX2_add.cls = RX2 ∧ yX2_add.cls ≠ "java/lang/invoke/MethodHandle" ∧ yX2_add.cls ≠ "java/lang/invoke/VarHandle" ∧ (parseMethodDescriptor yX2_add.desc).map (fun d => d.parameters.length) = some 1 := by decide +kernel
theorem hdv_X2_clear : yX2_clear.cls = RX2 ∧ yX2_clear.cls ≠ "java/lang/invoke/MethodHandle" ∧ yX2_clear.cls ≠ "java/lang/invoke/VarHandle" ∧ (parseMethodDescriptor yX2_clear.desc).map (fun d => d.parameters.length) = some 0 := by decide +kernel
set_option maxHeartbeats 4000000 in
set_option maxRecDepth 100000 in
theorem mt_X3_partRows_rl {l : Launch} (hl : l.stackTraces = false) (D : va_G) (h : Nat → Nat) (cI cJ : ClassId) (lc : Int32) (la : Int32) (hr : Int32) (uP : Int32) (uC : Int32) (uR : Int32) (tn : Int32) (pn : Int32) (pg : Int32) (pq : Int32) (rl : Nat → Int32) (sr : Nat → Int32) (gcb : Nat → Int32) (gpb : Nat → Int64) (tg : Nat → Int32) (tm : Nat → Int32) (tl : Nat → Int32) (pm : Nat → Int32) (ps : Nat → Int32) (v1 : Int32) (v3 : Int32) (v4 : Int32) (pn0 : Int32) (pg0 : Int32) (pq0 : Int32) (pm0 : Nat → Int32) (ps0 : Nat → Int32) (hp : pf_X3_partRows_rl uP uR pn pg pq rl gcb gpb pm ps v1 v3 v4 = (some (pn0, pg0, pq0, pm0, ps0))) : gMv l yX3_partRows wsX3_partRows rm_X3_partRows_rl D [(cI, .int), (cJ, .long)] (cW h cI cJ lc la hr uP uC uR tn pn pg pq rl sr gcb gpb tg tm tl pm ps) [.ref (h 0), .int v1, .ref (h 4), .int v3, .int v4] 0 0 (fun w => w = cW h cI cJ lc la hr uP uC uR tn pn0 pg0 pq0 rl sr gcb gpb tg tm tl pm0 ps0) (fun _ _ => False) := by
  refine gMv_of (cc := cX3_partRows) (maxL := 6) hl (by decide +kernel) rfl (Nat.le_of_ble_eq_true rfl) ?_
  intro p e s m args below meth c A Q C hnm ht RET OUT THR THRW
  have C : gC p l s m args meth c A D [(cI, .int), (cJ, .long)] 6 RX3 cX3_partRows wsX3_partRows := C
  refine gV_loc (lvs' := [(0, .ref (h 0)), (1, .int v1), (2, .ref (h 4)), (3, .int v3), (4, .int v4)]) [0, 1, 2, 3, 4] rfl ?_
  unfold pf_X3_partRows_rl at hp
  have J51 : ∀ (pn : Int32) (pg : Int32) (pq : Int32) (pm : Nat → Int32) (ps : Nat → Int32), pf_X3_partRows_rl_j51 pn pg pq pm ps = (some (pn0, pg0, pq0, pm0, ps0)) → gV p l e rm_X3_partRows_rl s m args below meth c A D 6 Q (cW h cI cJ lc la hr uP uC uR tn pn pg pq rl sr gcb gpb tg tm tl pm ps) [(0, .ref (h 0)), (2, .ref (h 4))] 0 0 51 [] := by
    intro pn pg pq pm ps hp
    unfold pf_X3_partRows_rl_j51 at hp
    obtain ⟨rfl, rfl, rfl, rfl, rfl⟩ := g_so5 hp
    exact RET _ _ _ _ _ dX3_partRows_51 (Nat.le_of_ble_eq_true rfl) (Nat.le_of_ble_eq_true rfl) rfl
  have L10 : ∀ (n10 : Nat) (v5 : Int32) (pn : Int32) (pg : Int32) (pq : Int32) (pm : Nat → Int32) (ps : Nat → Int32), pf_X3_partRows_rl_L10 v1 v3 v4 uP uR rl gcb gpb n10 v5 pn pg pq pm ps = (some (pn0, pg0, pq0, pm0, ps0)) → gV p l e rm_X3_partRows_rl s m args below meth c A D 6 Q (cW h cI cJ lc la hr uP uC uR tn pn pg pq rl sr gcb gpb tg tm tl pm ps) [(0, .ref (h 0)), (1, .int v1), (2, .ref (h 4)), (3, .int v3), (4, .int v4), (5, .int v5)] 0 0 10 [] := by
    intro n10
    induction n10 with
    | zero => intro v5 pn pg pq pm ps hp; exact g_none hp
    | succ n10 ih10 =>
      intro v5 pn pg pq pm ps hp
      rw [pf_X3_partRows_rl_L10.eq_2] at hp
      refine gV_iload C dX3_partRows_10 5 rfl ?_
      refine gV_iload_n C dX3_partRows_12 rfl 3 rfl ?_
      refine gV_iload C dX3_partRows_13 4 rfl ?_
      refine gV_iadd C dX3_partRows_15 ?_
      refine gV_icmp_ge (tgt := 51) C dX3_partRows_16 (by decide) (fun c16 => ?_) (fun c16 => ?_)
      · replace hp := g_ift hp c16
        refine gV_loc [0, 2] rfl ?_
        exact J51 pn pg pq pm ps hp
      · replace hp := g_iff hp c16
        refine gV_iload C dX3_partRows_19 5 rfl ?_
        refine gV_aload_n C dX3_partRows_21 rfl 2 rfl ?_
        refine gV_alen (v := 256) C 4 rfl 0 rfl rfl dX3_partRows_22 ?_
        refine gV_icmp_ge (tgt := 51) C dX3_partRows_23 (by decide) (fun c23 => ?_) (fun c23 => ?_)
        · replace hp := g_ift hp c23
          refine gV_loc [0, 2] rfl ?_
          exact J51 pn pg pq pm ps hp
        · replace hp := g_iff hp c23
          refine gV_aload_n C dX3_partRows_26 rfl 0 rfl ?_
          refine gV_get (Cn := RX3) (T := TX3) (N := 8) C inw_X3_partRows_X3 0 rfl rfl 2 (by decide) (C.w 1 rfl) rfl rfl dX3_partRows_27 ?_
          refine gV_aload_n C dX3_partRows_30 rfl 0 rfl ?_
          refine gV_get (Cn := RX3) (T := TX3) (N := 8) C inw_X3_partRows_X3 0 rfl rfl 0 (by decide) (C.w 2 rfl) rfl rfl dX3_partRows_31 ?_
          refine gV_iload_n C dX3_partRows_34 rfl 1 rfl ?_
          refine gV_aload_n C dX3_partRows_35 rfl 2 rfl ?_
          refine gV_iload C dX3_partRows_36 5 rfl ?_
          obtain ⟨hi38, hp⟩ := g_idx hp
          refine gV_iald C 4 rfl 0 rfl hi38 dX3_partRows_38 ?_
          obtain ⟨r39q, hq39, hp⟩ := g_ob1 hp
          refine gV_calliS C (gV_runV (As := [.int v1, .int (rl v5.toNatClampNeg)]) (rest := [.ref (h 3)]) C (mt_X1_compare hl D h cI cJ lc la hr uP uC uR tn pn pg pq rl sr gcb gpb tg tm tl pm ps v1 (rl v5.toNatClampNeg) r39q hq39) (cwV 2 C.2.2.2.2.1 gX3_partRows_X1_compare rfl rfl rfl hdv_X1_compare ⟨Nat.le_of_ble_eq_true rfl, Nat.le_of_ble_eq_true rfl⟩) (gSub_S _) 1 rfl rfl rfl rfl (Nat.le_of_ble_eq_true rfl) dX3_partRows_39 ⟨Nat.le_of_ble_eq_true rfl, Nat.le_of_ble_eq_true rfl⟩) (fun _ _ hx => False.elim hx) (fun r39 w1 hw => ?_)
          obtain ⟨rfl, rfl⟩ := hw
          obtain ⟨pn_42, pg_42, pq_42, pm_42, ps_42, hq42, hp⟩ := g_ob5 hp
          refine gV_callvS C (gV_runV (As := [.int r39]) (rest := []) C (mt_X2_add hl D h cI cJ lc la hr uP uC uR tn pn pg pq rl sr gcb gpb tg tm tl pm ps r39 pn_42 pg_42 pq_42 pm_42 ps_42 hq42) (cwV 1 C.2.2.2.2.1 gX3_partRows_X2_add rfl rfl rfl hdv_X2_add ⟨Nat.le_of_ble_eq_true rfl, Nat.le_of_ble_eq_true rfl⟩) (gSub_S _) 3 rfl rfl rfl rfl (Nat.le_of_ble_eq_true rfl) dX3_partRows_42 ⟨Nat.le_of_ble_eq_true rfl, Nat.le_of_ble_eq_true rfl⟩) (fun _ _ hx => False.elim hx) (fun w1 hw => ?_)
          obtain rfl := hw
          refine gV_iinc (v := (v5 + 1)) (lvs' := [(5, .int (v5 + 1)), (0, .ref (h 0)), (1, .int v1), (2, .ref (h 4)), (3, .int v3), (4, .int v4)]) C dX3_partRows_45 5 rfl rfl (by decide) rfl ?_
          refine gV_goto (tgt := 10) C dX3_partRows_48 (by decide) ?_
          refine gV_loc [1, 2, 3, 4, 5, 0] rfl ?_
          exact ih10 (v5 + 1) pn_42 pg_42 pq_42 pm_42 ps_42 hp
  refine gV_aload_n C dX3_partRows_0 rfl 0 rfl ?_
  refine gV_get (Cn := RX3) (T := TX3) (N := 8) C inw_X3_partRows_X3 0 rfl rfl 2 (by decide) (C.w 1 rfl) rfl rfl dX3_partRows_1 ?_
  obtain ⟨pn_4, pg_4, pq_4, ps_4, hq4, hp⟩ := g_ob4 hp
  refine gV_callvS C (gV_runV (As := []) (rest := []) C (mt_X2_clear hl D h cI cJ lc la hr uP uC uR tn pn pg pq rl sr gcb gpb tg tm tl pm ps pn_4 pg_4 pq_4 ps_4 hq4) (cwV 0 C.2.2.2.2.1 gX3_partRows_X2_clear rfl rfl rfl hdv_X2_clear ⟨Nat.le_of_ble_eq_true rfl, Nat.le_of_ble_eq_true rfl⟩) (gSub_S _) 3 rfl rfl rfl rfl (Nat.le_of_ble_eq_true rfl) dX3_partRows_4 ⟨Nat.le_of_ble_eq_true rfl, Nat.le_of_ble_eq_true rfl⟩) (fun _ _ hx => False.elim hx) (fun w1 hw => ?_)
  obtain rfl := hw
  refine gV_iload_n C dX3_partRows_7 rfl 3 rfl ?_
  refine gV_istore (lvs' := [(5, .int v3), (0, .ref (h 0)), (1, .int v1), (2, .ref (h 4)), (3, .int v3), (4, .int v4)]) C dX3_partRows_8 (by decide) rfl ?_
  refine gV_loc [1, 2, 3, 4, 5, 0] rfl ?_
  exact L10 100000 v3 pn_4 pg_4 pq_4 pm ps_4 hp
def pf_X3_partRows_sr_j51  (pn : Int32) (pg : Int32) (pq : Int32) (pm : Nat → Int32) (ps : Nat → Int32) : Option (Int32 × Int32 × Int32 × (Nat → Int32) × (Nat → Int32)) := (some (pn, pg, pq, pm, ps))
def pf_X3_partRows_sr_L10 (v1 : Int32) (v3 : Int32) (v4 : Int32) (uP : Int32) (uR : Int32) (sr : Nat → Int32) (gcb : Nat → Int32) (gpb : Nat → Int64) : Nat → Int32 → Int32 → Int32 → Int32 → (Nat → Int32) → (Nat → Int32) → Option (Int32 × Int32 × Int32 × (Nat → Int32) × (Nat → Int32))
  | 0, _, _, _, _, _, _ => none
  | n10 + 1, v5, pn, pg, pq, pm, ps => (if (v3 + v4) ≤ v5 then (pf_X3_partRows_sr_j51 pn pg pq pm ps) else (if 300 ≤ v5 then (pf_X3_partRows_sr_j51 pn pg pq pm ps) else (gi v5 300 (ob1 (pf_X1_compare uP uR gcb gpb v1 (sr v5.toNatClampNeg)) fun r39 => (ob5 (pf_X2_add pn pg pq pm ps r39) fun pn_42 pg_42 pq_42 pm_42 ps_42 => (pf_X3_partRows_sr_L10 v1 v3 v4 uP uR sr gcb gpb n10 (v5 + 1) pn_42 pg_42 pq_42 pm_42 ps_42))))))
def pf_X3_partRows_sr  (uP : Int32) (uR : Int32) (pn : Int32) (pg : Int32) (pq : Int32) (sr : Nat → Int32) (gcb : Nat → Int32) (gpb : Nat → Int64) (pm : Nat → Int32) (ps : Nat → Int32) (v1 : Int32) (v3 : Int32) (v4 : Int32) : Option (Int32 × Int32 × Int32 × (Nat → Int32) × (Nat → Int32)) := (ob4 (pf_X2_clear pn pg pq ps) fun pn_4 pg_4 pq_4 ps_4 => (pf_X3_partRows_sr_L10 v1 v3 v4 uP uR sr gcb gpb 100000 v3 pn_4 pg_4 pq_4 pm ps_4))
abbrev rm_X3_partRows_sr : Room := { frames := 2, cells := 0, slots := 0, locals := 47 }
set_option maxHeartbeats 4000000 in
set_option maxRecDepth 100000 in
theorem mt_X3_partRows_sr {l : Launch} (hl : l.stackTraces = false) (D : va_G) (h : Nat → Nat) (cI cJ : ClassId) (lc : Int32) (la : Int32) (hr : Int32) (uP : Int32) (uC : Int32) (uR : Int32) (tn : Int32) (pn : Int32) (pg : Int32) (pq : Int32) (rl : Nat → Int32) (sr : Nat → Int32) (gcb : Nat → Int32) (gpb : Nat → Int64) (tg : Nat → Int32) (tm : Nat → Int32) (tl : Nat → Int32) (pm : Nat → Int32) (ps : Nat → Int32) (v1 : Int32) (v3 : Int32) (v4 : Int32) (pn0 : Int32) (pg0 : Int32) (pq0 : Int32) (pm0 : Nat → Int32) (ps0 : Nat → Int32) (hp : pf_X3_partRows_sr uP uR pn pg pq sr gcb gpb pm ps v1 v3 v4 = (some (pn0, pg0, pq0, pm0, ps0))) : gMv l yX3_partRows wsX3_partRows rm_X3_partRows_sr D [(cI, .int), (cJ, .long)] (cW h cI cJ lc la hr uP uC uR tn pn pg pq rl sr gcb gpb tg tm tl pm ps) [.ref (h 0), .int v1, .ref (h 5), .int v3, .int v4] 0 0 (fun w => w = cW h cI cJ lc la hr uP uC uR tn pn0 pg0 pq0 rl sr gcb gpb tg tm tl pm0 ps0) (fun _ _ => False) := by
  refine gMv_of (cc := cX3_partRows) (maxL := 6) hl (by decide +kernel) rfl (Nat.le_of_ble_eq_true rfl) ?_
  intro p e s m args below meth c A Q C hnm ht RET OUT THR THRW
  have C : gC p l s m args meth c A D [(cI, .int), (cJ, .long)] 6 RX3 cX3_partRows wsX3_partRows := C
  refine gV_loc (lvs' := [(0, .ref (h 0)), (1, .int v1), (2, .ref (h 5)), (3, .int v3), (4, .int v4)]) [0, 1, 2, 3, 4] rfl ?_
  unfold pf_X3_partRows_sr at hp
  have J51 : ∀ (pn : Int32) (pg : Int32) (pq : Int32) (pm : Nat → Int32) (ps : Nat → Int32), pf_X3_partRows_sr_j51 pn pg pq pm ps = (some (pn0, pg0, pq0, pm0, ps0)) → gV p l e rm_X3_partRows_sr s m args below meth c A D 6 Q (cW h cI cJ lc la hr uP uC uR tn pn pg pq rl sr gcb gpb tg tm tl pm ps) [(0, .ref (h 0)), (2, .ref (h 5))] 0 0 51 [] := by
    intro pn pg pq pm ps hp
    unfold pf_X3_partRows_sr_j51 at hp
    obtain ⟨rfl, rfl, rfl, rfl, rfl⟩ := g_so5 hp
    exact RET _ _ _ _ _ dX3_partRows_51 (Nat.le_of_ble_eq_true rfl) (Nat.le_of_ble_eq_true rfl) rfl
  have L10 : ∀ (n10 : Nat) (v5 : Int32) (pn : Int32) (pg : Int32) (pq : Int32) (pm : Nat → Int32) (ps : Nat → Int32), pf_X3_partRows_sr_L10 v1 v3 v4 uP uR sr gcb gpb n10 v5 pn pg pq pm ps = (some (pn0, pg0, pq0, pm0, ps0)) → gV p l e rm_X3_partRows_sr s m args below meth c A D 6 Q (cW h cI cJ lc la hr uP uC uR tn pn pg pq rl sr gcb gpb tg tm tl pm ps) [(0, .ref (h 0)), (1, .int v1), (2, .ref (h 5)), (3, .int v3), (4, .int v4), (5, .int v5)] 0 0 10 [] := by
    intro n10
    induction n10 with
    | zero => intro v5 pn pg pq pm ps hp; exact g_none hp
    | succ n10 ih10 =>
      intro v5 pn pg pq pm ps hp
      rw [pf_X3_partRows_sr_L10.eq_2] at hp
      refine gV_iload C dX3_partRows_10 5 rfl ?_
      refine gV_iload_n C dX3_partRows_12 rfl 3 rfl ?_
      refine gV_iload C dX3_partRows_13 4 rfl ?_
      refine gV_iadd C dX3_partRows_15 ?_
      refine gV_icmp_ge (tgt := 51) C dX3_partRows_16 (by decide) (fun c16 => ?_) (fun c16 => ?_)
      · replace hp := g_ift hp c16
        refine gV_loc [0, 2] rfl ?_
        exact J51 pn pg pq pm ps hp
      · replace hp := g_iff hp c16
        refine gV_iload C dX3_partRows_19 5 rfl ?_
        refine gV_aload_n C dX3_partRows_21 rfl 2 rfl ?_
        refine gV_alen (v := 300) C 5 rfl 0 rfl rfl dX3_partRows_22 ?_
        refine gV_icmp_ge (tgt := 51) C dX3_partRows_23 (by decide) (fun c23 => ?_) (fun c23 => ?_)
        · replace hp := g_ift hp c23
          refine gV_loc [0, 2] rfl ?_
          exact J51 pn pg pq pm ps hp
        · replace hp := g_iff hp c23
          refine gV_aload_n C dX3_partRows_26 rfl 0 rfl ?_
          refine gV_get (Cn := RX3) (T := TX3) (N := 8) C inw_X3_partRows_X3 0 rfl rfl 2 (by decide) (C.w 1 rfl) rfl rfl dX3_partRows_27 ?_
          refine gV_aload_n C dX3_partRows_30 rfl 0 rfl ?_
          refine gV_get (Cn := RX3) (T := TX3) (N := 8) C inw_X3_partRows_X3 0 rfl rfl 0 (by decide) (C.w 2 rfl) rfl rfl dX3_partRows_31 ?_
          refine gV_iload_n C dX3_partRows_34 rfl 1 rfl ?_
          refine gV_aload_n C dX3_partRows_35 rfl 2 rfl ?_
          refine gV_iload C dX3_partRows_36 5 rfl ?_
          obtain ⟨hi38, hp⟩ := g_idx hp
          refine gV_iald C 5 rfl 0 rfl hi38 dX3_partRows_38 ?_
          obtain ⟨r39q, hq39, hp⟩ := g_ob1 hp
          refine gV_calliS C (gV_runV (As := [.int v1, .int (sr v5.toNatClampNeg)]) (rest := [.ref (h 3)]) C (mt_X1_compare hl D h cI cJ lc la hr uP uC uR tn pn pg pq rl sr gcb gpb tg tm tl pm ps v1 (sr v5.toNatClampNeg) r39q hq39) (cwV 2 C.2.2.2.2.1 gX3_partRows_X1_compare rfl rfl rfl hdv_X1_compare ⟨Nat.le_of_ble_eq_true rfl, Nat.le_of_ble_eq_true rfl⟩) (gSub_S _) 1 rfl rfl rfl rfl (Nat.le_of_ble_eq_true rfl) dX3_partRows_39 ⟨Nat.le_of_ble_eq_true rfl, Nat.le_of_ble_eq_true rfl⟩) (fun _ _ hx => False.elim hx) (fun r39 w1 hw => ?_)
          obtain ⟨rfl, rfl⟩ := hw
          obtain ⟨pn_42, pg_42, pq_42, pm_42, ps_42, hq42, hp⟩ := g_ob5 hp
          refine gV_callvS C (gV_runV (As := [.int r39]) (rest := []) C (mt_X2_add hl D h cI cJ lc la hr uP uC uR tn pn pg pq rl sr gcb gpb tg tm tl pm ps r39 pn_42 pg_42 pq_42 pm_42 ps_42 hq42) (cwV 1 C.2.2.2.2.1 gX3_partRows_X2_add rfl rfl rfl hdv_X2_add ⟨Nat.le_of_ble_eq_true rfl, Nat.le_of_ble_eq_true rfl⟩) (gSub_S _) 3 rfl rfl rfl rfl (Nat.le_of_ble_eq_true rfl) dX3_partRows_42 ⟨Nat.le_of_ble_eq_true rfl, Nat.le_of_ble_eq_true rfl⟩) (fun _ _ hx => False.elim hx) (fun w1 hw => ?_)
          obtain rfl := hw
          refine gV_iinc (v := (v5 + 1)) (lvs' := [(5, .int (v5 + 1)), (0, .ref (h 0)), (1, .int v1), (2, .ref (h 5)), (3, .int v3), (4, .int v4)]) C dX3_partRows_45 5 rfl rfl (by decide) rfl ?_
          refine gV_goto (tgt := 10) C dX3_partRows_48 (by decide) ?_
          refine gV_loc [1, 2, 3, 4, 5, 0] rfl ?_
          exact ih10 (v5 + 1) pn_42 pg_42 pq_42 pm_42 ps_42 hp
  refine gV_aload_n C dX3_partRows_0 rfl 0 rfl ?_
  refine gV_get (Cn := RX3) (T := TX3) (N := 8) C inw_X3_partRows_X3 0 rfl rfl 2 (by decide) (C.w 1 rfl) rfl rfl dX3_partRows_1 ?_
  obtain ⟨pn_4, pg_4, pq_4, ps_4, hq4, hp⟩ := g_ob4 hp
  refine gV_callvS C (gV_runV (As := []) (rest := []) C (mt_X2_clear hl D h cI cJ lc la hr uP uC uR tn pn pg pq rl sr gcb gpb tg tm tl pm ps pn_4 pg_4 pq_4 ps_4 hq4) (cwV 0 C.2.2.2.2.1 gX3_partRows_X2_clear rfl rfl rfl hdv_X2_clear ⟨Nat.le_of_ble_eq_true rfl, Nat.le_of_ble_eq_true rfl⟩) (gSub_S _) 3 rfl rfl rfl rfl (Nat.le_of_ble_eq_true rfl) dX3_partRows_4 ⟨Nat.le_of_ble_eq_true rfl, Nat.le_of_ble_eq_true rfl⟩) (fun _ _ hx => False.elim hx) (fun w1 hw => ?_)
  obtain rfl := hw
  refine gV_iload_n C dX3_partRows_7 rfl 3 rfl ?_
  refine gV_istore (lvs' := [(5, .int v3), (0, .ref (h 0)), (1, .int v1), (2, .ref (h 5)), (3, .int v3), (4, .int v4)]) C dX3_partRows_8 (by decide) rfl ?_
  refine gV_loc [1, 2, 3, 4, 5, 0] rfl ?_
  exact L10 100000 v3 pn_4 pg_4 pq_4 pm ps_4 hp
def pf_X3_partLeft  (lc : Int32) (uP : Int32) (uR : Int32) (pn : Int32) (pg : Int32) (pq : Int32) (rl : Nat → Int32) (gcb : Nat → Int32) (gpb : Nat → Int64) (pm : Nat → Int32) (ps : Nat → Int32) (v1 : Int32) : Option (Int32 × Int32 × Int32 × (Nat → Int32) × (Nat → Int32)) := (ob5 (pf_X3_partRows_rl uP uR pn pg pq rl gcb gpb pm ps v1 0 lc) fun pn_11 pg_11 pq_11 pm_11 ps_11 => (some (pn_11, pg_11, pq_11, pm_11, ps_11)))
abbrev rm_X3_partLeft : Room := { frames := 3, cells := 0, slots := 0, locals := 72 }
theorem inw_X3_partLeft_X3 : ∀ w ∈ wsX30, w ∈ wsX3_partLeft := by decide +kernel
theorem hdv_X3_partRows : yX3_partRows.cls = RX3 ∧ yX3_partRows.cls ≠ "java/lang/invoke/MethodHandle" ∧ yX3_partRows.cls ≠ "java/lang/invoke/VarHandle" ∧ (parseMethodDescriptor yX3_partRows.desc).map (fun d => d.parameters.length) = some 4 := by decide +kernel
set_option maxHeartbeats 4000000 in
set_option maxRecDepth 100000 in
theorem mt_X3_partLeft {l : Launch} (hl : l.stackTraces = false) (D : va_G) (h : Nat → Nat) (cI cJ : ClassId) (lc : Int32) (la : Int32) (hr : Int32) (uP : Int32) (uC : Int32) (uR : Int32) (tn : Int32) (pn : Int32) (pg : Int32) (pq : Int32) (rl : Nat → Int32) (sr : Nat → Int32) (gcb : Nat → Int32) (gpb : Nat → Int64) (tg : Nat → Int32) (tm : Nat → Int32) (tl : Nat → Int32) (pm : Nat → Int32) (ps : Nat → Int32) (v1 : Int32) (pn0 : Int32) (pg0 : Int32) (pq0 : Int32) (pm0 : Nat → Int32) (ps0 : Nat → Int32) (hp : pf_X3_partLeft lc uP uR pn pg pq rl gcb gpb pm ps v1 = (some (pn0, pg0, pq0, pm0, ps0))) : gMv l yX3_partLeft wsX3_partLeft rm_X3_partLeft D [(cI, .int), (cJ, .long)] (cW h cI cJ lc la hr uP uC uR tn pn pg pq rl sr gcb gpb tg tm tl pm ps) [.ref (h 0), .int v1] 0 0 (fun w => w = cW h cI cJ lc la hr uP uC uR tn pn0 pg0 pq0 rl sr gcb gpb tg tm tl pm0 ps0) (fun _ _ => False) := by
  refine gMv_of (cc := cX3_partLeft) (maxL := 2) hl (by decide +kernel) rfl (Nat.le_of_ble_eq_true rfl) ?_
  intro p e s m args below meth c A Q C hnm ht RET OUT THR THRW
  have C : gC p l s m args meth c A D [(cI, .int), (cJ, .long)] 2 RX3 cX3_partLeft wsX3_partLeft := C
  refine gV_loc (lvs' := [(0, .ref (h 0)), (1, .int v1)]) [0, 1] rfl ?_
  unfold pf_X3_partLeft at hp
  refine gV_aload_n C dX3_partLeft_0 rfl 0 rfl ?_
  refine gV_iload_n C dX3_partLeft_1 rfl 1 rfl ?_
  refine gV_aload_n C dX3_partLeft_2 rfl 0 rfl ?_
  refine gV_get (Cn := RX3) (T := TX3) (N := 8) C inw_X3_partLeft_X3 0 rfl rfl 3 (by decide) (C.w 1 rfl) rfl rfl dX3_partLeft_3 ?_
  refine gV_iconst (v := 0) C dX3_partLeft_6 rfl ?_
  refine gV_aload_n C dX3_partLeft_7 rfl 0 rfl ?_
  refine gV_get (Cn := RX3) (T := TX3) (N := 8) C inw_X3_partLeft_X3 0 rfl rfl 5 (by decide) (C.w 2 rfl) rfl rfl dX3_partLeft_8 ?_
  obtain ⟨pn_11, pg_11, pq_11, pm_11, ps_11, hq11, hp⟩ := g_ob5 hp
  refine gV_callvS C (gV_runV (As := [.int v1, .ref (h 4), .int 0, .int lc]) (rest := []) C (mt_X3_partRows_rl hl D h cI cJ lc la hr uP uC uR tn pn pg pq rl sr gcb gpb tg tm tl pm ps v1 0 lc pn_11 pg_11 pq_11 pm_11 ps_11 hq11) (cwV 4 C.2.2.2.2.1 gX3_partLeft_X3_partRows rfl rfl rfl hdv_X3_partRows ⟨Nat.le_of_ble_eq_true rfl, Nat.le_of_ble_eq_true rfl⟩) (gSub_S _) 0 rfl rfl rfl rfl (Nat.le_of_ble_eq_true rfl) dX3_partLeft_11 ⟨Nat.le_of_ble_eq_true rfl, Nat.le_of_ble_eq_true rfl⟩) (fun _ _ hx => False.elim hx) (fun w1 hw => ?_)
  obtain rfl := hw
  obtain ⟨rfl, rfl, rfl, rfl, rfl⟩ := g_so5 hp
  exact RET _ _ _ _ _ dX3_partLeft_14 (Nat.le_of_ble_eq_true rfl) (Nat.le_of_ble_eq_true rfl) rfl
def pf_X3_parts  (lc : Int32) (uP : Int32) (uR : Int32) (pn : Int32) (pg : Int32) (pq : Int32) (rl : Nat → Int32) (gcb : Nat → Int32) (gpb : Nat → Int64) (pm : Nat → Int32) (ps : Nat → Int32) (v1 : Int32) : Option (Nat × Int32 × Int32 × Int32 × Int32 × (Nat → Int32) × (Nat → Int32)) := (ob1 (pf_X3_requireRow uR v1) fun x2 => if x2 = 0 then (ob5 (pf_X3_partLeft lc uP uR pn pg pq rl gcb gpb pm ps v1) fun pn_7 pg_7 pq_7 pm_7 ps_7 => (some (0, pn_7, pn_7, pg_7, pq_7, pm_7, ps_7))) else (some (x2, 0, pn, pg, pq, pm, ps)))
abbrev rm_X3_parts : Room := { frames := 7, cells := 1, slots := 6, locals := 103 }
theorem inw_X3_parts_X2 : ∀ w ∈ wsX20, w ∈ wsX3_parts := by decide +kernel
theorem inw_X3_parts_X3 : ∀ w ∈ wsX30, w ∈ wsX3_parts := by decide +kernel
theorem hdv_X3_partLeft : yX3_partLeft.cls = RX3 ∧ yX3_partLeft.cls ≠ "java/lang/invoke/MethodHandle" ∧ yX3_partLeft.cls ≠ "java/lang/invoke/VarHandle" ∧ (parseMethodDescriptor yX3_partLeft.desc).map (fun d => d.parameters.length) = some 1 := by decide +kernel
set_option maxHeartbeats 4000000 in
set_option maxRecDepth 100000 in
theorem mt_X3_parts {l : Launch} (hl : l.stackTraces = false) (D : va_G) (h : Nat → Nat) (cI cJ : ClassId) (lc : Int32) (la : Int32) (hr : Int32) (uP : Int32) (uC : Int32) (uR : Int32) (tn : Int32) (pn : Int32) (pg : Int32) (pq : Int32) (rl : Nat → Int32) (sr : Nat → Int32) (gcb : Nat → Int32) (gpb : Nat → Int64) (tg : Nat → Int32) (tm : Nat → Int32) (tl : Nat → Int32) (pm : Nat → Int32) (ps : Nat → Int32) (v1 : Int32) (xc0 : Nat) (r0 : Int32) (pn0 : Int32) (pg0 : Int32) (pq0 : Int32) (pm0 : Nat → Int32) (ps0 : Nat → Int32) (hp : pf_X3_parts lc uP uR pn pg pq rl gcb gpb pm ps v1 = (some (xc0, r0, pn0, pg0, pq0, pm0, ps0))) : gMi l yX3_parts wsX3_parts rm_X3_parts D [(cI, .int), (cJ, .long)] (cW h cI cJ lc la hr uP uC uR tn pn pg pq rl sr gcb gpb tg tm tl pm ps) [.ref (h 0), .int v1] 1 6 (fun r w => xc0 = 0 ∧ r = r0 ∧ w = cW h cI cJ lc la hr uP uC uR tn pn0 pg0 pq0 rl sr gcb gpb tg tm tl pm0 ps0) (fun E w => xc0 ≠ 0 ∧ E = g_exn xc0 ∧ w = cW h cI cJ lc la hr uP uC uR tn pn0 pg0 pq0 rl sr gcb gpb tg tm tl pm0 ps0) := by
  refine gMi_of (cc := cX3_parts) (maxL := 2) (rt := .int) hl (by decide +kernel) rfl (Nat.le_of_ble_eq_true rfl) ?_
  intro p e s m args below meth c A Q C hnm ht RET OUT THR THRW
  have C : gC p l s m args meth c A D [(cI, .int), (cJ, .long)] 2 RX3 cX3_parts wsX3_parts := C
  refine gV_loc (lvs' := [(0, .ref (h 0)), (1, .int v1)]) [0, 1] rfl ?_
  unfold pf_X3_parts at hp
  refine gV_aload_n C dX3_parts_0 rfl 0 rfl ?_
  refine gV_iload_n C dX3_parts_1 rfl 1 rfl ?_
  obtain ⟨x2, hq2, hp⟩ := g_ob1 hp
  refine gV_callvS C (gV_runV (As := [.int v1]) (rest := []) C (mt_X3_requireRow hl D h cI cJ lc la hr uP uC uR tn pn pg pq rl sr gcb gpb tg tm tl pm ps v1 x2 hq2) (cwV 1 C.2.2.2.2.1 gX3_parts_X3_requireRow rfl rfl rfl hdv_X3_requireRow ⟨Nat.le_of_ble_eq_true rfl, Nat.le_of_ble_eq_true rfl⟩) (gSub_S _) 0 rfl rfl rfl rfl (Nat.le_of_ble_eq_true rfl) dX3_parts_2 ⟨Nat.le_of_ble_eq_true rfl, Nat.le_of_ble_eq_true rfl⟩) (fun E w1 hx => ?_) (fun w1 hw => ?_)
  · obtain ⟨hne, rfl, rfl⟩ := hx
    replace hp := g_iff hp hne
    obtain ⟨rfl, rfl, rfl, rfl, rfl, rfl, rfl⟩ := g_so7 hp
    exact OUT _ _ _ _ _ _ _ ⟨hne, rfl, rfl⟩ (Nat.le_of_ble_eq_true rfl) (Nat.le_of_ble_eq_true rfl)
  · obtain ⟨hx0, rfl⟩ := hw
    replace hp := g_ift hp hx0
    refine gV_aload_n C dX3_parts_5 rfl 0 rfl ?_
    refine gV_iload_n C dX3_parts_6 rfl 1 rfl ?_
    obtain ⟨pn_7, pg_7, pq_7, pm_7, ps_7, hq7, hp⟩ := g_ob5 hp
    refine gV_callvS C (gV_runV (As := [.int v1]) (rest := []) C (mt_X3_partLeft hl D h cI cJ lc la hr uP uC uR tn pn pg pq rl sr gcb gpb tg tm tl pm ps v1 pn_7 pg_7 pq_7 pm_7 ps_7 hq7) (cwV 1 C.2.2.2.2.1 gX3_parts_X3_partLeft rfl rfl rfl hdv_X3_partLeft ⟨Nat.le_of_ble_eq_true rfl, Nat.le_of_ble_eq_true rfl⟩) (gSub_S _) 0 rfl rfl rfl rfl (Nat.le_of_ble_eq_true rfl) dX3_parts_7 ⟨Nat.le_of_ble_eq_true rfl, Nat.le_of_ble_eq_true rfl⟩) (fun _ _ hx => False.elim hx) (fun w1 hw => ?_)
    obtain rfl := hw
    refine gV_aload_n C dX3_parts_10 rfl 0 rfl ?_
    refine gV_get (Cn := RX3) (T := TX3) (N := 8) C inw_X3_parts_X3 0 rfl rfl 2 (by decide) (C.w 1 rfl) rfl rfl dX3_parts_11 ?_
    refine gV_get (Cn := RX2) (T := TX2) (N := 5) C inw_X3_parts_X2 3 rfl rfl 0 (by decide) (C.w 2 rfl) rfl rfl dX3_parts_14 ?_
    obtain ⟨rfl, rfl, rfl, rfl, rfl, rfl, rfl⟩ := g_so7 hp
    exact RET _ _ _ _ _ _ dX3_parts_17 (Nat.le_of_ble_eq_true rfl) (Nat.le_of_ble_eq_true rfl) rfl ⟨rfl, rfl, rfl⟩
def pf_X3_partMark  (lc : Int32) (uP : Int32) (uR : Int32) (pn : Int32) (pg : Int32) (pq : Int32) (rl : Nat → Int32) (gcb : Nat → Int32) (gpb : Nat → Int64) (pm : Nat → Int32) (ps : Nat → Int32) (v1 : Int32) (v2 : Int32) : Option (Nat × Int32 × Int32 × Int32 × Int32 × (Nat → Int32) × (Nat → Int32)) := (ob1 (pf_X3_requireRow uR v1) fun x2 => if x2 = 0 then (ob5 (pf_X3_partLeft lc uP uR pn pg pq rl gcb gpb pm ps v1) fun pn_7 pg_7 pq_7 pm_7 ps_7 => (ob1 (pf_X2_has pn_7 v2) fun r15 => (if r15 = 0 then (some (1, 0, pn_7, pg_7, pq_7, pm_7, ps_7)) else (ob1 (pf_X2_markAt pn_7 pm_7 v2) fun r36 => (some (0, r36, pn_7, pg_7, pq_7, pm_7, ps_7)))))) else (some (x2, 0, pn, pg, pq, pm, ps)))
abbrev rm_X3_partMark : Room := { frames := 7, cells := 2, slots := 12, locals := 103 }
theorem inw_X3_partMark_X3 : ∀ w ∈ wsX30, w ∈ wsX3_partMark := by decide +kernel
theorem tw_X3_partMark_IOO : gTw wsX3_partMark "java/lang/IndexOutOfBoundsException" 68 64 := ⟨gtw_IOO.1, List.mem_of_getElem? (i := 1) rfl, List.mem_of_getElem? (i := 2) rfl, fun w h => List.mem_cons_of_mem _ (List.mem_append_right _ h), gtw_IOO.2.1, gtw_IOO.2.2⟩
theorem hdv_X2_markAt : yX2_markAt.cls = RX2 ∧ yX2_markAt.cls ≠ "java/lang/invoke/MethodHandle" ∧ yX2_markAt.cls ≠ "java/lang/invoke/VarHandle" ∧ (parseMethodDescriptor yX2_markAt.desc).map (fun d => d.parameters.length) = some 1 := by decide +kernel
set_option maxHeartbeats 4000000 in
set_option maxRecDepth 100000 in
theorem mt_X3_partMark {l : Launch} (hl : l.stackTraces = false) (D : va_G) (h : Nat → Nat) (cI cJ : ClassId) (lc : Int32) (la : Int32) (hr : Int32) (uP : Int32) (uC : Int32) (uR : Int32) (tn : Int32) (pn : Int32) (pg : Int32) (pq : Int32) (rl : Nat → Int32) (sr : Nat → Int32) (gcb : Nat → Int32) (gpb : Nat → Int64) (tg : Nat → Int32) (tm : Nat → Int32) (tl : Nat → Int32) (pm : Nat → Int32) (ps : Nat → Int32) (v1 : Int32) (v2 : Int32) (xc0 : Nat) (r0 : Int32) (pn0 : Int32) (pg0 : Int32) (pq0 : Int32) (pm0 : Nat → Int32) (ps0 : Nat → Int32) (hp : pf_X3_partMark lc uP uR pn pg pq rl gcb gpb pm ps v1 v2 = (some (xc0, r0, pn0, pg0, pq0, pm0, ps0))) : gMi l yX3_partMark wsX3_partMark rm_X3_partMark D [(cI, .int), (cJ, .long)] (cW h cI cJ lc la hr uP uC uR tn pn pg pq rl sr gcb gpb tg tm tl pm ps) [.ref (h 0), .int v1, .int v2] 2 12 (fun r w => xc0 = 0 ∧ r = r0 ∧ w = cW h cI cJ lc la hr uP uC uR tn pn0 pg0 pq0 rl sr gcb gpb tg tm tl pm0 ps0) (fun E w => xc0 ≠ 0 ∧ E = g_exn xc0 ∧ w = cW h cI cJ lc la hr uP uC uR tn pn0 pg0 pq0 rl sr gcb gpb tg tm tl pm0 ps0) := by
  refine gMi_of (cc := cX3_partMark) (maxL := 3) (rt := .int) hl (by decide +kernel) rfl (Nat.le_of_ble_eq_true rfl) ?_
  intro p e s m args below meth c A Q C hnm ht RET OUT THR THRW
  have C : gC p l s m args meth c A D [(cI, .int), (cJ, .long)] 3 RX3 cX3_partMark wsX3_partMark := C
  have THR := THR rfl
  have THRW := THRW rfl
  refine gV_loc (lvs' := [(0, .ref (h 0)), (1, .int v1), (2, .int v2)]) [0, 1, 2] rfl ?_
  unfold pf_X3_partMark at hp
  refine gV_aload_n C dX3_partMark_0 rfl 0 rfl ?_
  refine gV_iload_n C dX3_partMark_1 rfl 1 rfl ?_
  obtain ⟨x2, hq2, hp⟩ := g_ob1 hp
  refine gV_callvS C (gV_runV (As := [.int v1]) (rest := []) C (mt_X3_requireRow hl D h cI cJ lc la hr uP uC uR tn pn pg pq rl sr gcb gpb tg tm tl pm ps v1 x2 hq2) (cwV 1 C.2.2.2.2.1 gX3_partMark_X3_requireRow rfl rfl rfl hdv_X3_requireRow ⟨Nat.le_of_ble_eq_true rfl, Nat.le_of_ble_eq_true rfl⟩) (gSub_S _) 0 rfl rfl rfl rfl (Nat.le_of_ble_eq_true rfl) dX3_partMark_2 ⟨Nat.le_of_ble_eq_true rfl, Nat.le_of_ble_eq_true rfl⟩) (fun E w1 hx => ?_) (fun w1 hw => ?_)
  · obtain ⟨hne, rfl, rfl⟩ := hx
    replace hp := g_iff hp hne
    obtain ⟨rfl, rfl, rfl, rfl, rfl, rfl, rfl⟩ := g_so7 hp
    exact OUT _ _ _ _ _ _ _ ⟨hne, rfl, rfl⟩ (Nat.le_of_ble_eq_true rfl) (Nat.le_of_ble_eq_true rfl)
  · obtain ⟨hx0, rfl⟩ := hw
    replace hp := g_ift hp hx0
    refine gV_aload_n C dX3_partMark_5 rfl 0 rfl ?_
    refine gV_iload_n C dX3_partMark_6 rfl 1 rfl ?_
    obtain ⟨pn_7, pg_7, pq_7, pm_7, ps_7, hq7, hp⟩ := g_ob5 hp
    refine gV_callvS C (gV_runV (As := [.int v1]) (rest := []) C (mt_X3_partLeft hl D h cI cJ lc la hr uP uC uR tn pn pg pq rl sr gcb gpb tg tm tl pm ps v1 pn_7 pg_7 pq_7 pm_7 ps_7 hq7) (cwV 1 C.2.2.2.2.1 gX3_partMark_X3_partLeft rfl rfl rfl hdv_X3_partLeft ⟨Nat.le_of_ble_eq_true rfl, Nat.le_of_ble_eq_true rfl⟩) (gSub_S _) 0 rfl rfl rfl rfl (Nat.le_of_ble_eq_true rfl) dX3_partMark_7 ⟨Nat.le_of_ble_eq_true rfl, Nat.le_of_ble_eq_true rfl⟩) (fun _ _ hx => False.elim hx) (fun w1 hw => ?_)
    obtain rfl := hw
    refine gV_aload_n C dX3_partMark_10 rfl 0 rfl ?_
    refine gV_get (Cn := RX3) (T := TX3) (N := 8) C inw_X3_partMark_X3 0 rfl rfl 2 (by decide) (C.w 3 rfl) rfl rfl dX3_partMark_11 ?_
    refine gV_iload_n C dX3_partMark_14 rfl 2 rfl ?_
    obtain ⟨r15q, hq15, hp⟩ := g_ob1 hp
    refine gV_calliS C (gV_runV (As := [.int v2]) (rest := []) C (mt_X2_has hl D h cI cJ lc la hr uP uC uR tn pn_7 pg_7 pq_7 rl sr gcb gpb tg tm tl pm_7 ps_7 v2 r15q hq15) (cwV 1 C.2.2.2.2.1 gX3_partMark_X2_has rfl rfl rfl hdv_X2_has ⟨Nat.le_of_ble_eq_true rfl, Nat.le_of_ble_eq_true rfl⟩) (gSub_S _) 3 rfl rfl rfl rfl (Nat.le_of_ble_eq_true rfl) dX3_partMark_15 ⟨Nat.le_of_ble_eq_true rfl, Nat.le_of_ble_eq_true rfl⟩) (fun _ _ hx => False.elim hx) (fun r15 w1 hw => ?_)
    obtain ⟨rfl, rfl⟩ := hw
    refine gV_if_ne (tgt := 31) C dX3_partMark_18 (by decide) (fun c18 => ?_) (fun c18 => ?_)
    · replace hp := g_iff hp c18
      refine gV_aload_n C dX3_partMark_31 rfl 0 rfl ?_
      refine gV_get (Cn := RX3) (T := TX3) (N := 8) C inw_X3_partMark_X3 0 rfl rfl 2 (by decide) (C.w 3 rfl) rfl rfl dX3_partMark_32 ?_
      refine gV_iload_n C dX3_partMark_35 rfl 2 rfl ?_
      obtain ⟨r36q, hq36, hp⟩ := g_ob1 hp
      refine gV_calliS C (gV_runV (As := [.int v2]) (rest := []) C (mt_X2_markAt hl D h cI cJ lc la hr uP uC uR tn pn_7 pg_7 pq_7 rl sr gcb gpb tg tm tl pm_7 ps_7 v2 r36q hq36) (cwV 1 C.2.2.2.2.1 gX3_partMark_X2_markAt rfl rfl rfl hdv_X2_markAt ⟨Nat.le_of_ble_eq_true rfl, Nat.le_of_ble_eq_true rfl⟩) (gSub_S _) 3 rfl rfl rfl rfl (Nat.le_of_ble_eq_true rfl) dX3_partMark_36 ⟨Nat.le_of_ble_eq_true rfl, Nat.le_of_ble_eq_true rfl⟩) (fun _ _ hx => False.elim hx) (fun r36 w1 hw => ?_)
      obtain ⟨rfl, rfl⟩ := hw
      obtain ⟨rfl, rfl, rfl, rfl, rfl, rfl, rfl⟩ := g_so7 hp
      exact RET _ _ _ _ _ _ dX3_partMark_39 (Nat.le_of_ble_eq_true rfl) (Nat.le_of_ble_eq_true rfl) rfl ⟨rfl, rfl, rfl⟩
    · replace hp := g_ift hp c18
      obtain ⟨rfl, rfl, rfl, rfl, rfl, rfl, rfl⟩ := g_so7 hp
      exact THR _ "the guess does not make so many parts" 68 64 169 _ _ _ _ _ _ ⟨by decide, rfl, rfl⟩ tw_X3_partMark_IOO (Or.inr (Or.inl rfl)) (by decide) dX3_partMark_21 dX3_partMark_24 dX3_partMark_25 dX3_partMark_27 dX3_partMark_30 (Nat.le_of_ble_eq_true rfl) (Nat.le_of_ble_eq_true rfl) (Nat.le_of_ble_eq_true rfl) (Nat.le_of_ble_eq_true rfl) (Nat.le_of_ble_eq_true rfl) (Nat.le_of_ble_eq_true rfl)
def pf_X3_partSize  (lc : Int32) (uP : Int32) (uR : Int32) (pn : Int32) (pg : Int32) (pq : Int32) (rl : Nat → Int32) (gcb : Nat → Int32) (gpb : Nat → Int64) (pm : Nat → Int32) (ps : Nat → Int32) (v1 : Int32) (v2 : Int32) : Option (Nat × Int32 × Int32 × Int32 × Int32 × (Nat → Int32) × (Nat → Int32)) := (ob1 (pf_X3_requireRow uR v1) fun x2 => if x2 = 0 then (ob1 (pf_X3_requirePossible uP v2) fun x7 => if x7 = 0 then (ob5 (pf_X3_partLeft lc uP uR pn pg pq rl gcb gpb pm ps v1) fun pn_12 pg_12 pq_12 pm_12 ps_12 => (ob1 (pf_X2_sizeWith ps_12 v2) fun r20 => (some (0, r20, pn_12, pg_12, pq_12, pm_12, ps_12)))) else (some (x7, 0, pn, pg, pq, pm, ps))) else (some (x2, 0, pn, pg, pq, pm, ps)))
abbrev rm_X3_partSize : Room := { frames := 7, cells := 2, slots := 12, locals := 103 }
theorem inw_X3_partSize_X3 : ∀ w ∈ wsX30, w ∈ wsX3_partSize := by decide +kernel
theorem hdv_X2_sizeWith : yX2_sizeWith.cls = RX2 ∧ yX2_sizeWith.cls ≠ "java/lang/invoke/MethodHandle" ∧ yX2_sizeWith.cls ≠ "java/lang/invoke/VarHandle" ∧ (parseMethodDescriptor yX2_sizeWith.desc).map (fun d => d.parameters.length) = some 1 := by decide +kernel
set_option maxHeartbeats 4000000 in
set_option maxRecDepth 100000 in
theorem mt_X3_partSize {l : Launch} (hl : l.stackTraces = false) (D : va_G) (h : Nat → Nat) (cI cJ : ClassId) (lc : Int32) (la : Int32) (hr : Int32) (uP : Int32) (uC : Int32) (uR : Int32) (tn : Int32) (pn : Int32) (pg : Int32) (pq : Int32) (rl : Nat → Int32) (sr : Nat → Int32) (gcb : Nat → Int32) (gpb : Nat → Int64) (tg : Nat → Int32) (tm : Nat → Int32) (tl : Nat → Int32) (pm : Nat → Int32) (ps : Nat → Int32) (v1 : Int32) (v2 : Int32) (xc0 : Nat) (r0 : Int32) (pn0 : Int32) (pg0 : Int32) (pq0 : Int32) (pm0 : Nat → Int32) (ps0 : Nat → Int32) (hp : pf_X3_partSize lc uP uR pn pg pq rl gcb gpb pm ps v1 v2 = (some (xc0, r0, pn0, pg0, pq0, pm0, ps0))) : gMi l yX3_partSize wsX3_partSize rm_X3_partSize D [(cI, .int), (cJ, .long)] (cW h cI cJ lc la hr uP uC uR tn pn pg pq rl sr gcb gpb tg tm tl pm ps) [.ref (h 0), .int v1, .int v2] 2 12 (fun r w => xc0 = 0 ∧ r = r0 ∧ w = cW h cI cJ lc la hr uP uC uR tn pn0 pg0 pq0 rl sr gcb gpb tg tm tl pm0 ps0) (fun E w => xc0 ≠ 0 ∧ E = g_exn xc0 ∧ w = cW h cI cJ lc la hr uP uC uR tn pn0 pg0 pq0 rl sr gcb gpb tg tm tl pm0 ps0) := by
  refine gMi_of (cc := cX3_partSize) (maxL := 3) (rt := .int) hl (by decide +kernel) rfl (Nat.le_of_ble_eq_true rfl) ?_
  intro p e s m args below meth c A Q C hnm ht RET OUT THR THRW
  have C : gC p l s m args meth c A D [(cI, .int), (cJ, .long)] 3 RX3 cX3_partSize wsX3_partSize := C
  refine gV_loc (lvs' := [(0, .ref (h 0)), (1, .int v1), (2, .int v2)]) [0, 1, 2] rfl ?_
  unfold pf_X3_partSize at hp
  refine gV_aload_n C dX3_partSize_0 rfl 0 rfl ?_
  refine gV_iload_n C dX3_partSize_1 rfl 1 rfl ?_
  obtain ⟨x2, hq2, hp⟩ := g_ob1 hp
  refine gV_callvS C (gV_runV (As := [.int v1]) (rest := []) C (mt_X3_requireRow hl D h cI cJ lc la hr uP uC uR tn pn pg pq rl sr gcb gpb tg tm tl pm ps v1 x2 hq2) (cwV 1 C.2.2.2.2.1 gX3_partSize_X3_requireRow rfl rfl rfl hdv_X3_requireRow ⟨Nat.le_of_ble_eq_true rfl, Nat.le_of_ble_eq_true rfl⟩) (gSub_S _) 0 rfl rfl rfl rfl (Nat.le_of_ble_eq_true rfl) dX3_partSize_2 ⟨Nat.le_of_ble_eq_true rfl, Nat.le_of_ble_eq_true rfl⟩) (fun E w1 hx => ?_) (fun w1 hw => ?_)
  · obtain ⟨hne, rfl, rfl⟩ := hx
    replace hp := g_iff hp hne
    obtain ⟨rfl, rfl, rfl, rfl, rfl, rfl, rfl⟩ := g_so7 hp
    exact OUT _ _ _ _ _ _ _ ⟨hne, rfl, rfl⟩ (Nat.le_of_ble_eq_true rfl) (Nat.le_of_ble_eq_true rfl)
  · obtain ⟨hx0, rfl⟩ := hw
    replace hp := g_ift hp hx0
    refine gV_aload_n C dX3_partSize_5 rfl 0 rfl ?_
    refine gV_iload_n C dX3_partSize_6 rfl 2 rfl ?_
    obtain ⟨x7, hq7, hp⟩ := g_ob1 hp
    refine gV_callvS C (gV_runV (As := [.int v2]) (rest := []) C (mt_X3_requirePossible hl D h cI cJ lc la hr uP uC uR tn pn pg pq rl sr gcb gpb tg tm tl pm ps v2 x7 hq7) (cwV 1 C.2.2.2.2.1 gX3_partSize_X3_requirePossible rfl rfl rfl hdv_X3_requirePossible ⟨Nat.le_of_ble_eq_true rfl, Nat.le_of_ble_eq_true rfl⟩) (gSub_S _) 0 rfl rfl rfl rfl (Nat.le_of_ble_eq_true rfl) dX3_partSize_7 ⟨Nat.le_of_ble_eq_true rfl, Nat.le_of_ble_eq_true rfl⟩) (fun E w1 hx => ?_) (fun w1 hw => ?_)
    · obtain ⟨hne, rfl, rfl⟩ := hx
      replace hp := g_iff hp hne
      obtain ⟨rfl, rfl, rfl, rfl, rfl, rfl, rfl⟩ := g_so7 hp
      exact OUT _ _ _ _ _ _ _ ⟨hne, rfl, rfl⟩ (Nat.le_of_ble_eq_true rfl) (Nat.le_of_ble_eq_true rfl)
    · obtain ⟨hx0, rfl⟩ := hw
      replace hp := g_ift hp hx0
      refine gV_aload_n C dX3_partSize_10 rfl 0 rfl ?_
      refine gV_iload_n C dX3_partSize_11 rfl 1 rfl ?_
      obtain ⟨pn_12, pg_12, pq_12, pm_12, ps_12, hq12, hp⟩ := g_ob5 hp
      refine gV_callvS C (gV_runV (As := [.int v1]) (rest := []) C (mt_X3_partLeft hl D h cI cJ lc la hr uP uC uR tn pn pg pq rl sr gcb gpb tg tm tl pm ps v1 pn_12 pg_12 pq_12 pm_12 ps_12 hq12) (cwV 1 C.2.2.2.2.1 gX3_partSize_X3_partLeft rfl rfl rfl hdv_X3_partLeft ⟨Nat.le_of_ble_eq_true rfl, Nat.le_of_ble_eq_true rfl⟩) (gSub_S _) 0 rfl rfl rfl rfl (Nat.le_of_ble_eq_true rfl) dX3_partSize_12 ⟨Nat.le_of_ble_eq_true rfl, Nat.le_of_ble_eq_true rfl⟩) (fun _ _ hx => False.elim hx) (fun w1 hw => ?_)
      obtain rfl := hw
      refine gV_aload_n C dX3_partSize_15 rfl 0 rfl ?_
      refine gV_get (Cn := RX3) (T := TX3) (N := 8) C inw_X3_partSize_X3 0 rfl rfl 2 (by decide) (C.w 1 rfl) rfl rfl dX3_partSize_16 ?_
      refine gV_iload_n C dX3_partSize_19 rfl 2 rfl ?_
      obtain ⟨r20q, hq20, hp⟩ := g_ob1 hp
      refine gV_calliS C (gV_runV (As := [.int v2]) (rest := []) C (mt_X2_sizeWith hl D h cI cJ lc la hr uP uC uR tn pn_12 pg_12 pq_12 rl sr gcb gpb tg tm tl pm_12 ps_12 v2 r20q hq20) (cwV 1 C.2.2.2.2.1 gX3_partSize_X2_sizeWith rfl rfl rfl hdv_X2_sizeWith ⟨Nat.le_of_ble_eq_true rfl, Nat.le_of_ble_eq_true rfl⟩) (gSub_S _) 3 rfl rfl rfl rfl (Nat.le_of_ble_eq_true rfl) dX3_partSize_20 ⟨Nat.le_of_ble_eq_true rfl, Nat.le_of_ble_eq_true rfl⟩) (fun _ _ hx => False.elim hx) (fun r20 w1 hw => ?_)
      obtain ⟨rfl, rfl⟩ := hw
      obtain ⟨rfl, rfl, rfl, rfl, rfl, rfl, rfl⟩ := g_so7 hp
      exact RET _ _ _ _ _ _ dX3_partSize_23 (Nat.le_of_ble_eq_true rfl) (Nat.le_of_ble_eq_true rfl) rfl ⟨rfl, rfl, rfl⟩
def pf_X3_worstCase  (lc : Int32) (uP : Int32) (uR : Int32) (pn : Int32) (pg : Int32) (pq : Int32) (rl : Nat → Int32) (gcb : Nat → Int32) (gpb : Nat → Int64) (pm : Nat → Int32) (ps : Nat → Int32) (v1 : Int32) : Option (Nat × Int32 × Int32 × Int32 × Int32 × (Nat → Int32) × (Nat → Int32)) := (ob1 (pf_X3_requireRow uR v1) fun x2 => if x2 = 0 then (ob5 (pf_X3_partLeft lc uP uR pn pg pq rl gcb gpb pm ps v1) fun pn_7 pg_7 pq_7 pm_7 ps_7 => (some (0, pg_7, pn_7, pg_7, pq_7, pm_7, ps_7))) else (some (x2, 0, pn, pg, pq, pm, ps)))
abbrev rm_X3_worstCase : Room := { frames := 7, cells := 1, slots := 6, locals := 103 }
theorem inw_X3_worstCase_X2 : ∀ w ∈ wsX20, w ∈ wsX3_worstCase := by decide +kernel
theorem inw_X3_worstCase_X3 : ∀ w ∈ wsX30, w ∈ wsX3_worstCase := by decide +kernel
set_option maxHeartbeats 4000000 in
set_option maxRecDepth 100000 in
theorem mt_X3_worstCase {l : Launch} (hl : l.stackTraces = false) (D : va_G) (h : Nat → Nat) (cI cJ : ClassId) (lc : Int32) (la : Int32) (hr : Int32) (uP : Int32) (uC : Int32) (uR : Int32) (tn : Int32) (pn : Int32) (pg : Int32) (pq : Int32) (rl : Nat → Int32) (sr : Nat → Int32) (gcb : Nat → Int32) (gpb : Nat → Int64) (tg : Nat → Int32) (tm : Nat → Int32) (tl : Nat → Int32) (pm : Nat → Int32) (ps : Nat → Int32) (v1 : Int32) (xc0 : Nat) (r0 : Int32) (pn0 : Int32) (pg0 : Int32) (pq0 : Int32) (pm0 : Nat → Int32) (ps0 : Nat → Int32) (hp : pf_X3_worstCase lc uP uR pn pg pq rl gcb gpb pm ps v1 = (some (xc0, r0, pn0, pg0, pq0, pm0, ps0))) : gMi l yX3_worstCase wsX3_worstCase rm_X3_worstCase D [(cI, .int), (cJ, .long)] (cW h cI cJ lc la hr uP uC uR tn pn pg pq rl sr gcb gpb tg tm tl pm ps) [.ref (h 0), .int v1] 1 6 (fun r w => xc0 = 0 ∧ r = r0 ∧ w = cW h cI cJ lc la hr uP uC uR tn pn0 pg0 pq0 rl sr gcb gpb tg tm tl pm0 ps0) (fun E w => xc0 ≠ 0 ∧ E = g_exn xc0 ∧ w = cW h cI cJ lc la hr uP uC uR tn pn0 pg0 pq0 rl sr gcb gpb tg tm tl pm0 ps0) := by
  refine gMi_of (cc := cX3_worstCase) (maxL := 2) (rt := .int) hl (by decide +kernel) rfl (Nat.le_of_ble_eq_true rfl) ?_
  intro p e s m args below meth c A Q C hnm ht RET OUT THR THRW
  have C : gC p l s m args meth c A D [(cI, .int), (cJ, .long)] 2 RX3 cX3_worstCase wsX3_worstCase := C
  refine gV_loc (lvs' := [(0, .ref (h 0)), (1, .int v1)]) [0, 1] rfl ?_
  unfold pf_X3_worstCase at hp
  refine gV_aload_n C dX3_worstCase_0 rfl 0 rfl ?_
  refine gV_iload_n C dX3_worstCase_1 rfl 1 rfl ?_
  obtain ⟨x2, hq2, hp⟩ := g_ob1 hp
  refine gV_callvS C (gV_runV (As := [.int v1]) (rest := []) C (mt_X3_requireRow hl D h cI cJ lc la hr uP uC uR tn pn pg pq rl sr gcb gpb tg tm tl pm ps v1 x2 hq2) (cwV 1 C.2.2.2.2.1 gX3_worstCase_X3_requireRow rfl rfl rfl hdv_X3_requireRow ⟨Nat.le_of_ble_eq_true rfl, Nat.le_of_ble_eq_true rfl⟩) (gSub_S _) 0 rfl rfl rfl rfl (Nat.le_of_ble_eq_true rfl) dX3_worstCase_2 ⟨Nat.le_of_ble_eq_true rfl, Nat.le_of_ble_eq_true rfl⟩) (fun E w1 hx => ?_) (fun w1 hw => ?_)
  · obtain ⟨hne, rfl, rfl⟩ := hx
    replace hp := g_iff hp hne
    obtain ⟨rfl, rfl, rfl, rfl, rfl, rfl, rfl⟩ := g_so7 hp
    exact OUT _ _ _ _ _ _ _ ⟨hne, rfl, rfl⟩ (Nat.le_of_ble_eq_true rfl) (Nat.le_of_ble_eq_true rfl)
  · obtain ⟨hx0, rfl⟩ := hw
    replace hp := g_ift hp hx0
    refine gV_aload_n C dX3_worstCase_5 rfl 0 rfl ?_
    refine gV_iload_n C dX3_worstCase_6 rfl 1 rfl ?_
    obtain ⟨pn_7, pg_7, pq_7, pm_7, ps_7, hq7, hp⟩ := g_ob5 hp
    refine gV_callvS C (gV_runV (As := [.int v1]) (rest := []) C (mt_X3_partLeft hl D h cI cJ lc la hr uP uC uR tn pn pg pq rl sr gcb gpb tg tm tl pm ps v1 pn_7 pg_7 pq_7 pm_7 ps_7 hq7) (cwV 1 C.2.2.2.2.1 gX3_worstCase_X3_partLeft rfl rfl rfl hdv_X3_partLeft ⟨Nat.le_of_ble_eq_true rfl, Nat.le_of_ble_eq_true rfl⟩) (gSub_S _) 0 rfl rfl rfl rfl (Nat.le_of_ble_eq_true rfl) dX3_worstCase_7 ⟨Nat.le_of_ble_eq_true rfl, Nat.le_of_ble_eq_true rfl⟩) (fun _ _ hx => False.elim hx) (fun w1 hw => ?_)
    obtain rfl := hw
    refine gV_aload_n C dX3_worstCase_10 rfl 0 rfl ?_
    refine gV_get (Cn := RX3) (T := TX3) (N := 8) C inw_X3_worstCase_X3 0 rfl rfl 2 (by decide) (C.w 1 rfl) rfl rfl dX3_worstCase_11 ?_
    refine gV_get (Cn := RX2) (T := TX2) (N := 5) C inw_X3_worstCase_X2 3 rfl rfl 1 (by decide) (C.w 2 rfl) rfl rfl dX3_worstCase_14 ?_
    obtain ⟨rfl, rfl, rfl, rfl, rfl, rfl, rfl⟩ := g_so7 hp
    exact RET _ _ _ _ _ _ dX3_worstCase_17 (Nat.le_of_ble_eq_true rfl) (Nat.le_of_ble_eq_true rfl) rfl ⟨rfl, rfl, rfl⟩
def pf_X3_weight  (lc : Int32) (uP : Int32) (uR : Int32) (pn : Int32) (pg : Int32) (pq : Int32) (rl : Nat → Int32) (gcb : Nat → Int32) (gpb : Nat → Int64) (pm : Nat → Int32) (ps : Nat → Int32) (v1 : Int32) : Option (Nat × Int32 × Int32 × Int32 × Int32 × (Nat → Int32) × (Nat → Int32)) := (ob1 (pf_X3_requireRow uR v1) fun x2 => if x2 = 0 then (ob5 (pf_X3_partLeft lc uP uR pn pg pq rl gcb gpb pm ps v1) fun pn_7 pg_7 pq_7 pm_7 ps_7 => (some (0, pq_7, pn_7, pg_7, pq_7, pm_7, ps_7))) else (some (x2, 0, pn, pg, pq, pm, ps)))
abbrev rm_X3_weight : Room := { frames := 7, cells := 1, slots := 6, locals := 103 }
theorem inw_X3_weight_X2 : ∀ w ∈ wsX20, w ∈ wsX3_weight := by decide +kernel
theorem inw_X3_weight_X3 : ∀ w ∈ wsX30, w ∈ wsX3_weight := by decide +kernel
set_option maxHeartbeats 4000000 in
set_option maxRecDepth 100000 in
theorem mt_X3_weight {l : Launch} (hl : l.stackTraces = false) (D : va_G) (h : Nat → Nat) (cI cJ : ClassId) (lc : Int32) (la : Int32) (hr : Int32) (uP : Int32) (uC : Int32) (uR : Int32) (tn : Int32) (pn : Int32) (pg : Int32) (pq : Int32) (rl : Nat → Int32) (sr : Nat → Int32) (gcb : Nat → Int32) (gpb : Nat → Int64) (tg : Nat → Int32) (tm : Nat → Int32) (tl : Nat → Int32) (pm : Nat → Int32) (ps : Nat → Int32) (v1 : Int32) (xc0 : Nat) (r0 : Int32) (pn0 : Int32) (pg0 : Int32) (pq0 : Int32) (pm0 : Nat → Int32) (ps0 : Nat → Int32) (hp : pf_X3_weight lc uP uR pn pg pq rl gcb gpb pm ps v1 = (some (xc0, r0, pn0, pg0, pq0, pm0, ps0))) : gMi l yX3_weight wsX3_weight rm_X3_weight D [(cI, .int), (cJ, .long)] (cW h cI cJ lc la hr uP uC uR tn pn pg pq rl sr gcb gpb tg tm tl pm ps) [.ref (h 0), .int v1] 1 6 (fun r w => xc0 = 0 ∧ r = r0 ∧ w = cW h cI cJ lc la hr uP uC uR tn pn0 pg0 pq0 rl sr gcb gpb tg tm tl pm0 ps0) (fun E w => xc0 ≠ 0 ∧ E = g_exn xc0 ∧ w = cW h cI cJ lc la hr uP uC uR tn pn0 pg0 pq0 rl sr gcb gpb tg tm tl pm0 ps0) := by
  refine gMi_of (cc := cX3_weight) (maxL := 2) (rt := .int) hl (by decide +kernel) rfl (Nat.le_of_ble_eq_true rfl) ?_
  intro p e s m args below meth c A Q C hnm ht RET OUT THR THRW
  have C : gC p l s m args meth c A D [(cI, .int), (cJ, .long)] 2 RX3 cX3_weight wsX3_weight := C
  refine gV_loc (lvs' := [(0, .ref (h 0)), (1, .int v1)]) [0, 1] rfl ?_
  unfold pf_X3_weight at hp
  refine gV_aload_n C dX3_weight_0 rfl 0 rfl ?_
  refine gV_iload_n C dX3_weight_1 rfl 1 rfl ?_
  obtain ⟨x2, hq2, hp⟩ := g_ob1 hp
  refine gV_callvS C (gV_runV (As := [.int v1]) (rest := []) C (mt_X3_requireRow hl D h cI cJ lc la hr uP uC uR tn pn pg pq rl sr gcb gpb tg tm tl pm ps v1 x2 hq2) (cwV 1 C.2.2.2.2.1 gX3_weight_X3_requireRow rfl rfl rfl hdv_X3_requireRow ⟨Nat.le_of_ble_eq_true rfl, Nat.le_of_ble_eq_true rfl⟩) (gSub_S _) 0 rfl rfl rfl rfl (Nat.le_of_ble_eq_true rfl) dX3_weight_2 ⟨Nat.le_of_ble_eq_true rfl, Nat.le_of_ble_eq_true rfl⟩) (fun E w1 hx => ?_) (fun w1 hw => ?_)
  · obtain ⟨hne, rfl, rfl⟩ := hx
    replace hp := g_iff hp hne
    obtain ⟨rfl, rfl, rfl, rfl, rfl, rfl, rfl⟩ := g_so7 hp
    exact OUT _ _ _ _ _ _ _ ⟨hne, rfl, rfl⟩ (Nat.le_of_ble_eq_true rfl) (Nat.le_of_ble_eq_true rfl)
  · obtain ⟨hx0, rfl⟩ := hw
    replace hp := g_ift hp hx0
    refine gV_aload_n C dX3_weight_5 rfl 0 rfl ?_
    refine gV_iload_n C dX3_weight_6 rfl 1 rfl ?_
    obtain ⟨pn_7, pg_7, pq_7, pm_7, ps_7, hq7, hp⟩ := g_ob5 hp
    refine gV_callvS C (gV_runV (As := [.int v1]) (rest := []) C (mt_X3_partLeft hl D h cI cJ lc la hr uP uC uR tn pn pg pq rl sr gcb gpb tg tm tl pm ps v1 pn_7 pg_7 pq_7 pm_7 ps_7 hq7) (cwV 1 C.2.2.2.2.1 gX3_weight_X3_partLeft rfl rfl rfl hdv_X3_partLeft ⟨Nat.le_of_ble_eq_true rfl, Nat.le_of_ble_eq_true rfl⟩) (gSub_S _) 0 rfl rfl rfl rfl (Nat.le_of_ble_eq_true rfl) dX3_weight_7 ⟨Nat.le_of_ble_eq_true rfl, Nat.le_of_ble_eq_true rfl⟩) (fun _ _ hx => False.elim hx) (fun w1 hw => ?_)
    obtain rfl := hw
    refine gV_aload_n C dX3_weight_10 rfl 0 rfl ?_
    refine gV_get (Cn := RX3) (T := TX3) (N := 8) C inw_X3_weight_X3 0 rfl rfl 2 (by decide) (C.w 1 rfl) rfl rfl dX3_weight_11 ?_
    refine gV_get (Cn := RX2) (T := TX2) (N := 5) C inw_X3_weight_X2 3 rfl rfl 2 (by decide) (C.w 2 rfl) rfl rfl dX3_weight_14 ?_
    obtain ⟨rfl, rfl, rfl, rfl, rfl, rfl, rfl⟩ := g_so7 hp
    exact RET _ _ _ _ _ _ dX3_weight_17 (Nat.le_of_ble_eq_true rfl) (Nat.le_of_ble_eq_true rfl) rfl ⟨rfl, rfl, rfl⟩
def pf_X3_bestFor_rl_j122  (kL12 : Int32 → Int32 → Int32 → Int32 → Int32 → Int32 → Int32 → (Nat → Int32) → (Nat → Int32) → Option (Int32 × Int32 × Int32 × Int32 × (Nat → Int32) × (Nat → Int32))) (v5 : Int32) (v6 : Int32) (v7 : Int32) (v8 : Int32) (pn : Int32) (pg : Int32) (pq : Int32) (pm : Nat → Int32) (ps : Nat → Int32) : Option (Int32 × Int32 × Int32 × Int32 × (Nat → Int32) × (Nat → Int32)) := (kL12 v5 v6 v7 (v8 + 1) pn pg pq pm ps)
def pf_X3_bestFor_rl_j110  (kL12 : Int32 → Int32 → Int32 → Int32 → Int32 → Int32 → Int32 → (Nat → Int32) → (Nat → Int32) → Option (Int32 × Int32 × Int32 × Int32 × (Nat → Int32) × (Nat → Int32))) (v8 : Int32) (v9 : Int32) (v10 : Int32) (pn : Int32) (pg : Int32) (pq : Int32) (pm : Nat → Int32) (ps : Nat → Int32) : Option (Int32 × Int32 × Int32 × Int32 × (Nat → Int32) × (Nat → Int32)) := (pf_X3_bestFor_rl_j122 kL12 v8 v9 v10 v8 pn pg pq pm ps)
def pf_X3_bestFor_rl_j90  (kL12 : Int32 → Int32 → Int32 → Int32 → Int32 → Int32 → Int32 → (Nat → Int32) → (Nat → Int32) → Option (Int32 × Int32 × Int32 × Int32 × (Nat → Int32) × (Nat → Int32))) (v5 : Int32) (v6 : Int32) (v7 : Int32) (v8 : Int32) (v9 : Int32) (v10 : Int32) (s0 : Int32) (pn : Int32) (pg : Int32) (pq : Int32) (pm : Nat → Int32) (ps : Nat → Int32) : Option (Int32 × Int32 × Int32 × Int32 × (Nat → Int32) × (Nat → Int32)) := (if v5 = (-1) then (pf_X3_bestFor_rl_j110 kL12 v8 v9 v10 pn pg pq pm ps) else (if v9 < v6 then (pf_X3_bestFor_rl_j110 kL12 v8 v9 v10 pn pg pq pm ps) else (if s0 = 0 then (pf_X3_bestFor_rl_j122 kL12 v5 v6 v7 v8 pn pg pq pm ps) else (pf_X3_bestFor_rl_j110 kL12 v8 v9 v10 pn pg pq pm ps))))
def pf_X3_bestFor_rl_j89  (kL12 : Int32 → Int32 → Int32 → Int32 → Int32 → Int32 → Int32 → (Nat → Int32) → (Nat → Int32) → Option (Int32 × Int32 × Int32 × Int32 × (Nat → Int32) × (Nat → Int32))) (v5 : Int32) (v6 : Int32) (v7 : Int32) (v8 : Int32) (v9 : Int32) (v10 : Int32) (pn : Int32) (pg : Int32) (pq : Int32) (pm : Nat → Int32) (ps : Nat → Int32) : Option (Int32 × Int32 × Int32 × Int32 × (Nat → Int32) × (Nat → Int32)) := (pf_X3_bestFor_rl_j90 kL12 v5 v6 v7 v8 v9 v10 0 pn pg pq pm ps)
def pf_X3_bestFor_rl_j66  (kL12 : Int32 → Int32 → Int32 → Int32 → Int32 → Int32 → Int32 → (Nat → Int32) → (Nat → Int32) → Option (Int32 × Int32 × Int32 × Int32 × (Nat → Int32) × (Nat → Int32))) (v5 : Int32) (v6 : Int32) (v7 : Int32) (v8 : Int32) (v9 : Int32) (s0 : Int32) (pn : Int32) (pg : Int32) (pq : Int32) (pm : Nat → Int32) (ps : Nat → Int32) : Option (Int32 × Int32 × Int32 × Int32 × (Nat → Int32) × (Nat → Int32)) := (if v9 = v6 then (if s0 = 0 then (pf_X3_bestFor_rl_j89 kL12 v5 v6 v7 v8 v9 s0 pn pg pq pm ps) else (if v7 = 0 then (pf_X3_bestFor_rl_j90 kL12 v5 v6 v7 v8 v9 s0 1 pn pg pq pm ps) else (pf_X3_bestFor_rl_j89 kL12 v5 v6 v7 v8 v9 s0 pn pg pq pm ps))) else (pf_X3_bestFor_rl_j89 kL12 v5 v6 v7 v8 v9 s0 pn pg pq pm ps))
def pf_X3_bestFor_rl_L12 (v1 : Int32) (v3 : Int32) (v4 : Int32) (uP : Int32) (uR : Int32) (rl : Nat → Int32) (gcb : Nat → Int32) (gpb : Nat → Int64) : Nat → Int32 → Int32 → Int32 → Int32 → Int32 → Int32 → Int32 → (Nat → Int32) → (Nat → Int32) → Option (Int32 × Int32 × Int32 × Int32 × (Nat → Int32) × (Nat → Int32))
  | 0, _, _, _, _, _, _, _, _, _ => none
  | n12 + 1, v5, v6, v7, v8, pn, pg, pq, pm, ps => (if uR ≤ v8 then (some (v5, pn, pg, pq, pm, ps)) else (ob5 (pf_X3_partRows_rl uP uR pn pg pq rl gcb gpb pm ps v8 v3 v4) fun pn_31 pg_31 pq_31 pm_31 ps_31 => (ob1 (pf_X2_score pn_31 pg_31 pq_31 v1) fun r39 => (ob1 (pf_X1_allBlack uP) fun r52 => (ob1 (pf_X2_sizeWith ps_31 r52) fun r55 => (if r55 ≤ 0 then (pf_X3_bestFor_rl_j66 (fun v5 v6 v7 v8 pn pg pq pm ps => pf_X3_bestFor_rl_L12 v1 v3 v4 uP uR rl gcb gpb n12 v5 v6 v7 v8 pn pg pq pm ps) v5 v6 v7 v8 r39 0 pn_31 pg_31 pq_31 pm_31 ps_31) else (pf_X3_bestFor_rl_j66 (fun v5 v6 v7 v8 pn pg pq pm ps => pf_X3_bestFor_rl_L12 v1 v3 v4 uP uR rl gcb gpb n12 v5 v6 v7 v8 pn pg pq pm ps) v5 v6 v7 v8 r39 1 pn_31 pg_31 pq_31 pm_31 ps_31)))))))
def pf_X3_bestFor_rl  (uP : Int32) (uR : Int32) (pn : Int32) (pg : Int32) (pq : Int32) (rl : Nat → Int32) (gcb : Nat → Int32) (gpb : Nat → Int64) (pm : Nat → Int32) (ps : Nat → Int32) (v1 : Int32) (v3 : Int32) (v4 : Int32) : Option (Int32 × Int32 × Int32 × Int32 × (Nat → Int32) × (Nat → Int32)) := (pf_X3_bestFor_rl_L12 v1 v3 v4 uP uR rl gcb gpb 100000 (-1) 0 0 0 pn pg pq pm ps)
abbrev rm_X3_bestFor_rl : Room := { frames := 3, cells := 0, slots := 0, locals := 72 }
theorem inw_X3_bestFor_X1 : ∀ w ∈ wsX10, w ∈ wsX3_bestFor := by decide +kernel
theorem inw_X3_bestFor_X3 : ∀ w ∈ wsX30, w ∈ wsX3_bestFor := by decide +kernel
theorem hdv_X1_allBlack : yX1_allBlack.cls = RX1 ∧ yX1_allBlack.cls ≠ "java/lang/invoke/MethodHandle" ∧ yX1_allBlack.cls ≠ "java/lang/invoke/VarHandle" ∧ (parseMethodDescriptor yX1_allBlack.desc).map (fun d => d.parameters.length) = some 0 := by decide +kernel
theorem hdv_X2_score : yX2_score.cls = RX2 ∧ yX2_score.cls ≠ "java/lang/invoke/MethodHandle" ∧ yX2_score.cls ≠ "java/lang/invoke/VarHandle" ∧ (parseMethodDescriptor yX2_score.desc).map (fun d => d.parameters.length) = some 1 := by decide +kernel
set_option maxHeartbeats 4000000 in
set_option maxRecDepth 100000 in
theorem mt_X3_bestFor_rl {l : Launch} (hl : l.stackTraces = false) (D : va_G) (h : Nat → Nat) (cI cJ : ClassId) (lc : Int32) (la : Int32) (hr : Int32) (uP : Int32) (uC : Int32) (uR : Int32) (tn : Int32) (pn : Int32) (pg : Int32) (pq : Int32) (rl : Nat → Int32) (sr : Nat → Int32) (gcb : Nat → Int32) (gpb : Nat → Int64) (tg : Nat → Int32) (tm : Nat → Int32) (tl : Nat → Int32) (pm : Nat → Int32) (ps : Nat → Int32) (v1 : Int32) (v3 : Int32) (v4 : Int32) (r0 : Int32) (pn0 : Int32) (pg0 : Int32) (pq0 : Int32) (pm0 : Nat → Int32) (ps0 : Nat → Int32) (hp : pf_X3_bestFor_rl uP uR pn pg pq rl gcb gpb pm ps v1 v3 v4 = (some (r0, pn0, pg0, pq0, pm0, ps0))) : gMi l yX3_bestFor wsX3_bestFor rm_X3_bestFor_rl D [(cI, .int), (cJ, .long)] (cW h cI cJ lc la hr uP uC uR tn pn pg pq rl sr gcb gpb tg tm tl pm ps) [.ref (h 0), .int v1, .ref (h 4), .int v3, .int v4] 0 0 (fun r w => r = r0 ∧ w = cW h cI cJ lc la hr uP uC uR tn pn0 pg0 pq0 rl sr gcb gpb tg tm tl pm0 ps0) (fun _ _ => False) := by
  refine gMi_of (cc := cX3_bestFor) (maxL := 12) (rt := .int) hl (by decide +kernel) rfl (Nat.le_of_ble_eq_true rfl) ?_
  intro p e s m args below meth c A Q C hnm ht RET OUT THR THRW
  have C : gC p l s m args meth c A D [(cI, .int), (cJ, .long)] 12 RX3 cX3_bestFor wsX3_bestFor := C
  refine gV_loc (lvs' := [(0, .ref (h 0)), (1, .int v1), (2, .ref (h 4)), (3, .int v3), (4, .int v4)]) [0, 1, 2, 3, 4] rfl ?_
  unfold pf_X3_bestFor_rl at hp
  have L12 : ∀ (n12 : Nat) (v5 : Int32) (v6 : Int32) (v7 : Int32) (v8 : Int32) (pn : Int32) (pg : Int32) (pq : Int32) (pm : Nat → Int32) (ps : Nat → Int32), pf_X3_bestFor_rl_L12 v1 v3 v4 uP uR rl gcb gpb n12 v5 v6 v7 v8 pn pg pq pm ps = (some (r0, pn0, pg0, pq0, pm0, ps0)) → gV p l e rm_X3_bestFor_rl s m args below meth c A D 12 Q (cW h cI cJ lc la hr uP uC uR tn pn pg pq rl sr gcb gpb tg tm tl pm ps) [(0, .ref (h 0)), (1, .int v1), (2, .ref (h 4)), (3, .int v3), (4, .int v4), (5, .int v5), (6, .int v6), (7, .int v7), (8, .int v8)] 0 0 12 [] := by
    intro n12
    induction n12 with
    | zero => intro v5 v6 v7 v8 pn pg pq pm ps hp; exact g_none hp
    | succ n12 ih12 =>
      intro v5 v6 v7 v8 pn pg pq pm ps hp
      rw [pf_X3_bestFor_rl_L12.eq_2] at hp
      have J122 : ∀ (v5 : Int32) (v6 : Int32) (v7 : Int32) (v8 : Int32) (pn : Int32) (pg : Int32) (pq : Int32) (pm : Nat → Int32) (ps : Nat → Int32), pf_X3_bestFor_rl_j122 (fun v5 v6 v7 v8 pn pg pq pm ps => pf_X3_bestFor_rl_L12 v1 v3 v4 uP uR rl gcb gpb n12 v5 v6 v7 v8 pn pg pq pm ps) v5 v6 v7 v8 pn pg pq pm ps = (some (r0, pn0, pg0, pq0, pm0, ps0)) → gV p l e rm_X3_bestFor_rl s m args below meth c A D 12 Q (cW h cI cJ lc la hr uP uC uR tn pn pg pq rl sr gcb gpb tg tm tl pm ps) [(0, .ref (h 0)), (1, .int v1), (2, .ref (h 4)), (3, .int v3), (4, .int v4), (5, .int v5), (6, .int v6), (7, .int v7), (8, .int v8)] 0 0 122 [] := by
        intro v5 v6 v7 v8 pn pg pq pm ps hp
        unfold pf_X3_bestFor_rl_j122 at hp
        refine gV_iinc (v := (v8 + 1)) (lvs' := [(8, .int (v8 + 1)), (0, .ref (h 0)), (1, .int v1), (2, .ref (h 4)), (3, .int v3), (4, .int v4), (5, .int v5), (6, .int v6), (7, .int v7)]) C dX3_bestFor_122 8 rfl rfl (by decide) rfl ?_
        refine gV_goto (tgt := 12) C dX3_bestFor_125 (by decide) ?_
        refine gV_loc [1, 2, 3, 4, 5, 6, 7, 8, 0] rfl ?_
        exact ih12 v5 v6 v7 (v8 + 1) pn pg pq pm ps hp
      have J110 : ∀ (v8 : Int32) (v9 : Int32) (v10 : Int32) (pn : Int32) (pg : Int32) (pq : Int32) (pm : Nat → Int32) (ps : Nat → Int32), pf_X3_bestFor_rl_j110 (fun v5 v6 v7 v8 pn pg pq pm ps => pf_X3_bestFor_rl_L12 v1 v3 v4 uP uR rl gcb gpb n12 v5 v6 v7 v8 pn pg pq pm ps) v8 v9 v10 pn pg pq pm ps = (some (r0, pn0, pg0, pq0, pm0, ps0)) → gV p l e rm_X3_bestFor_rl s m args below meth c A D 12 Q (cW h cI cJ lc la hr uP uC uR tn pn pg pq rl sr gcb gpb tg tm tl pm ps) [(0, .ref (h 0)), (1, .int v1), (2, .ref (h 4)), (3, .int v3), (4, .int v4), (8, .int v8), (9, .int v9), (10, .int v10)] 0 0 110 [] := by
        intro v8 v9 v10 pn pg pq pm ps hp
        unfold pf_X3_bestFor_rl_j110 at hp
        refine gV_iload C dX3_bestFor_110 5 rfl ?_
        refine gV_istore (lvs' := [(5, .int v8), (0, .ref (h 0)), (1, .int v1), (2, .ref (h 4)), (3, .int v3), (4, .int v4), (8, .int v8), (9, .int v9), (10, .int v10)]) C dX3_bestFor_112 (by decide) rfl ?_
        refine gV_iload C dX3_bestFor_114 7 rfl ?_
        refine gV_istore (lvs' := [(6, .int v9), (5, .int v8), (0, .ref (h 0)), (1, .int v1), (2, .ref (h 4)), (3, .int v3), (4, .int v4), (8, .int v8), (9, .int v9), (10, .int v10)]) C dX3_bestFor_116 (by decide) rfl ?_
        refine gV_iload C dX3_bestFor_118 9 rfl ?_
        refine gV_istore (lvs' := [(7, .int v10), (6, .int v9), (5, .int v8), (0, .ref (h 0)), (1, .int v1), (2, .ref (h 4)), (3, .int v3), (4, .int v4), (8, .int v8), (9, .int v9), (10, .int v10)]) C dX3_bestFor_120 (by decide) rfl ?_
        refine gV_loc [3, 4, 5, 6, 7, 2, 1, 0, 8] rfl ?_
        exact J122 v8 v9 v10 v8 pn pg pq pm ps hp
      have J90 : ∀ (v5 : Int32) (v6 : Int32) (v7 : Int32) (v8 : Int32) (v9 : Int32) (v10 : Int32) (s0 : Int32) (pn : Int32) (pg : Int32) (pq : Int32) (pm : Nat → Int32) (ps : Nat → Int32), pf_X3_bestFor_rl_j90 (fun v5 v6 v7 v8 pn pg pq pm ps => pf_X3_bestFor_rl_L12 v1 v3 v4 uP uR rl gcb gpb n12 v5 v6 v7 v8 pn pg pq pm ps) v5 v6 v7 v8 v9 v10 s0 pn pg pq pm ps = (some (r0, pn0, pg0, pq0, pm0, ps0)) → gV p l e rm_X3_bestFor_rl s m args below meth c A D 12 Q (cW h cI cJ lc la hr uP uC uR tn pn pg pq rl sr gcb gpb tg tm tl pm ps) [(0, .ref (h 0)), (1, .int v1), (2, .ref (h 4)), (3, .int v3), (4, .int v4), (5, .int v5), (6, .int v6), (7, .int v7), (8, .int v8), (9, .int v9), (10, .int v10)] 0 0 90 [.int s0] := by
        intro v5 v6 v7 v8 v9 v10 s0 pn pg pq pm ps hp
        unfold pf_X3_bestFor_rl_j90 at hp
        refine gV_istore (lvs' := [(11, .int s0), (0, .ref (h 0)), (1, .int v1), (2, .ref (h 4)), (3, .int v3), (4, .int v4), (5, .int v5), (6, .int v6), (7, .int v7), (8, .int v8), (9, .int v9), (10, .int v10)]) C dX3_bestFor_90 (by decide) rfl ?_
        refine gV_iload C dX3_bestFor_92 6 rfl ?_
        refine gV_iconst (v := (-1)) C dX3_bestFor_94 rfl ?_
        refine gV_icmp_eq (tgt := 110) C dX3_bestFor_95 (by decide) (fun c95 => ?_) (fun c95 => ?_)
        · replace hp := g_ift hp c95
          refine gV_loc [1, 2, 3, 4, 5, 9, 10, 11] rfl ?_
          exact J110 v8 v9 v10 pn pg pq pm ps hp
        · replace hp := g_iff hp c95
          refine gV_iload C dX3_bestFor_98 10 rfl ?_
          refine gV_iload C dX3_bestFor_100 7 rfl ?_
          refine gV_icmp_lt (tgt := 110) C dX3_bestFor_102 (by decide) (fun c102 => ?_) (fun c102 => ?_)
          · replace hp := g_ift hp c102
            refine gV_loc [1, 2, 3, 4, 5, 9, 10, 11] rfl ?_
            exact J110 v8 v9 v10 pn pg pq pm ps hp
          · replace hp := g_iff hp c102
            refine gV_iload C dX3_bestFor_105 0 rfl ?_
            refine gV_if_eq (tgt := 122) C dX3_bestFor_107 (by decide) (fun c107 => ?_) (fun c107 => ?_)
            · replace hp := g_ift hp c107
              refine gV_loc [1, 2, 3, 4, 5, 6, 7, 8, 9] rfl ?_
              exact J122 v5 v6 v7 v8 pn pg pq pm ps hp
            · replace hp := g_iff hp c107
              refine gV_loc [1, 2, 3, 4, 5, 9, 10, 11] rfl ?_
              exact J110 v8 v9 v10 pn pg pq pm ps hp
      have J89 : ∀ (v5 : Int32) (v6 : Int32) (v7 : Int32) (v8 : Int32) (v9 : Int32) (v10 : Int32) (pn : Int32) (pg : Int32) (pq : Int32) (pm : Nat → Int32) (ps : Nat → Int32), pf_X3_bestFor_rl_j89 (fun v5 v6 v7 v8 pn pg pq pm ps => pf_X3_bestFor_rl_L12 v1 v3 v4 uP uR rl gcb gpb n12 v5 v6 v7 v8 pn pg pq pm ps) v5 v6 v7 v8 v9 v10 pn pg pq pm ps = (some (r0, pn0, pg0, pq0, pm0, ps0)) → gV p l e rm_X3_bestFor_rl s m args below meth c A D 12 Q (cW h cI cJ lc la hr uP uC uR tn pn pg pq rl sr gcb gpb tg tm tl pm ps) [(0, .ref (h 0)), (1, .int v1), (2, .ref (h 4)), (3, .int v3), (4, .int v4), (5, .int v5), (6, .int v6), (7, .int v7), (8, .int v8), (9, .int v9), (10, .int v10)] 0 0 89 [] := by
        intro v5 v6 v7 v8 v9 v10 pn pg pq pm ps hp
        unfold pf_X3_bestFor_rl_j89 at hp
        refine gV_iconst (v := 0) C dX3_bestFor_89 rfl ?_
        exact J90 v5 v6 v7 v8 v9 v10 0 pn pg pq pm ps hp
      have J66 : ∀ (v5 : Int32) (v6 : Int32) (v7 : Int32) (v8 : Int32) (v9 : Int32) (s0 : Int32) (pn : Int32) (pg : Int32) (pq : Int32) (pm : Nat → Int32) (ps : Nat → Int32), pf_X3_bestFor_rl_j66 (fun v5 v6 v7 v8 pn pg pq pm ps => pf_X3_bestFor_rl_L12 v1 v3 v4 uP uR rl gcb gpb n12 v5 v6 v7 v8 pn pg pq pm ps) v5 v6 v7 v8 v9 s0 pn pg pq pm ps = (some (r0, pn0, pg0, pq0, pm0, ps0)) → gV p l e rm_X3_bestFor_rl s m args below meth c A D 12 Q (cW h cI cJ lc la hr uP uC uR tn pn pg pq rl sr gcb gpb tg tm tl pm ps) [(0, .ref (h 0)), (1, .int v1), (2, .ref (h 4)), (3, .int v3), (4, .int v4), (5, .int v5), (6, .int v6), (7, .int v7), (8, .int v8), (9, .int v9)] 0 0 66 [.int s0] := by
        intro v5 v6 v7 v8 v9 s0 pn pg pq pm ps hp
        unfold pf_X3_bestFor_rl_j66 at hp
        refine gV_istore (lvs' := [(10, .int s0), (0, .ref (h 0)), (1, .int v1), (2, .ref (h 4)), (3, .int v3), (4, .int v4), (5, .int v5), (6, .int v6), (7, .int v7), (8, .int v8), (9, .int v9)]) C dX3_bestFor_66 (by decide) rfl ?_
        refine gV_iload C dX3_bestFor_68 10 rfl ?_
        refine gV_iload C dX3_bestFor_70 7 rfl ?_
        refine gV_icmp_ne (tgt := 89) C dX3_bestFor_72 (by decide) (fun c72 => ?_) (fun c72 => ?_)
        · replace hp := g_iff hp c72
          refine gV_loc [1, 2, 3, 4, 5, 6, 7, 8, 9, 10, 0] rfl ?_
          exact J89 v5 v6 v7 v8 v9 s0 pn pg pq pm ps hp
        · replace hp := g_ift hp c72
          refine gV_iload C dX3_bestFor_75 0 rfl ?_
          refine gV_if_eq (tgt := 89) C dX3_bestFor_77 (by decide) (fun c77 => ?_) (fun c77 => ?_)
          · replace hp := g_ift hp c77
            refine gV_loc [1, 2, 3, 4, 5, 6, 7, 8, 9, 10, 0] rfl ?_
            exact J89 v5 v6 v7 v8 v9 s0 pn pg pq pm ps hp
          · replace hp := g_iff hp c77
            refine gV_iload C dX3_bestFor_80 8 rfl ?_
            refine gV_if_ne (tgt := 89) C dX3_bestFor_82 (by decide) (fun c82 => ?_) (fun c82 => ?_)
            · replace hp := g_iff hp c82
              refine gV_loc [1, 2, 3, 4, 5, 6, 7, 8, 9, 10, 0] rfl ?_
              exact J89 v5 v6 v7 v8 v9 s0 pn pg pq pm ps hp
            · replace hp := g_ift hp c82
              refine gV_iconst (v := 1) C dX3_bestFor_85 rfl ?_
              refine gV_goto (tgt := 90) C dX3_bestFor_86 (by decide) ?_
              refine gV_loc [1, 2, 3, 4, 5, 6, 7, 8, 9, 10, 0] rfl ?_
              exact J90 v5 v6 v7 v8 v9 s0 1 pn pg pq pm ps hp
      refine gV_iload C dX3_bestFor_12 8 rfl ?_
      refine gV_aload_n C dX3_bestFor_14 rfl 0 rfl ?_
      refine gV_get (Cn := RX3) (T := TX3) (N := 8) C inw_X3_bestFor_X3 0 rfl rfl 0 (by decide) (C.w 1 rfl) rfl rfl dX3_bestFor_15 ?_
      refine gV_get (Cn := RX1) (T := TX1) (N := 5) C inw_X3_bestFor_X1 1 rfl rfl 2 (by decide) (C.w 2 rfl) rfl rfl dX3_bestFor_18 ?_
      refine gV_icmp_ge (tgt := 128) C dX3_bestFor_21 (by decide) (fun c21 => ?_) (fun c21 => ?_)
      · replace hp := g_ift hp c21
        refine gV_iload C dX3_bestFor_128 5 rfl ?_
        obtain ⟨rfl, rfl, rfl, rfl, rfl, rfl⟩ := g_so6 hp
        exact RET _ _ _ _ _ _ dX3_bestFor_130 (Nat.le_of_ble_eq_true rfl) (Nat.le_of_ble_eq_true rfl) rfl ⟨rfl, rfl⟩
      · replace hp := g_iff hp c21
        refine gV_aload_n C dX3_bestFor_24 rfl 0 rfl ?_
        refine gV_iload C dX3_bestFor_25 8 rfl ?_
        refine gV_aload_n C dX3_bestFor_27 rfl 2 rfl ?_
        refine gV_iload_n C dX3_bestFor_28 rfl 3 rfl ?_
        refine gV_iload C dX3_bestFor_29 4 rfl ?_
        obtain ⟨pn_31, pg_31, pq_31, pm_31, ps_31, hq31, hp⟩ := g_ob5 hp
        refine gV_callvS C (gV_runV (As := [.int v8, .ref (h 4), .int v3, .int v4]) (rest := []) C (mt_X3_partRows_rl hl D h cI cJ lc la hr uP uC uR tn pn pg pq rl sr gcb gpb tg tm tl pm ps v8 v3 v4 pn_31 pg_31 pq_31 pm_31 ps_31 hq31) (cwV 4 C.2.2.2.2.1 gX3_bestFor_X3_partRows rfl rfl rfl hdv_X3_partRows ⟨Nat.le_of_ble_eq_true rfl, Nat.le_of_ble_eq_true rfl⟩) (gSub_S _) 0 rfl rfl rfl rfl (Nat.le_of_ble_eq_true rfl) dX3_bestFor_31 ⟨Nat.le_of_ble_eq_true rfl, Nat.le_of_ble_eq_true rfl⟩) (fun _ _ hx => False.elim hx) (fun w1 hw => ?_)
        obtain rfl := hw
        refine gV_aload_n C dX3_bestFor_34 rfl 0 rfl ?_
        refine gV_get (Cn := RX3) (T := TX3) (N := 8) C inw_X3_bestFor_X3 0 rfl rfl 2 (by decide) (C.w 3 rfl) rfl rfl dX3_bestFor_35 ?_
        refine gV_iload_n C dX3_bestFor_38 rfl 1 rfl ?_
        obtain ⟨r39q, hq39, hp⟩ := g_ob1 hp
        refine gV_calliS C (gV_runV (As := [.int v1]) (rest := []) C (mt_X2_score hl D h cI cJ lc la hr uP uC uR tn pn_31 pg_31 pq_31 rl sr gcb gpb tg tm tl pm_31 ps_31 v1 r39q hq39) (cwV 1 C.2.2.2.2.1 gX3_bestFor_X2_score rfl rfl rfl hdv_X2_score ⟨Nat.le_of_ble_eq_true rfl, Nat.le_of_ble_eq_true rfl⟩) (gSub_S _) 3 rfl rfl rfl rfl (Nat.le_of_ble_eq_true rfl) dX3_bestFor_39 ⟨Nat.le_of_ble_eq_true rfl, Nat.le_of_ble_eq_true rfl⟩) (fun _ _ hx => False.elim hx) (fun r39 w1 hw => ?_)
        obtain ⟨rfl, rfl⟩ := hw
        refine gV_istore (lvs' := [(9, .int r39), (0, .ref (h 0)), (1, .int v1), (2, .ref (h 4)), (3, .int v3), (4, .int v4), (5, .int v5), (6, .int v6), (7, .int v7), (8, .int v8)]) C dX3_bestFor_42 (by decide) rfl ?_
        refine gV_aload_n C dX3_bestFor_44 rfl 1 rfl ?_
        refine gV_get (Cn := RX3) (T := TX3) (N := 8) C inw_X3_bestFor_X3 0 rfl rfl 2 (by decide) (C.w 3 rfl) rfl rfl dX3_bestFor_45 ?_
        refine gV_aload_n C dX3_bestFor_48 rfl 1 rfl ?_
        refine gV_get (Cn := RX3) (T := TX3) (N := 8) C inw_X3_bestFor_X3 0 rfl rfl 0 (by decide) (C.w 1 rfl) rfl rfl dX3_bestFor_49 ?_
        obtain ⟨r52q, hq52, hp⟩ := g_ob1 hp
        refine gV_calliS C (gV_runV (As := []) (rest := [.ref (h 3)]) C (mt_X1_allBlack hl D h cI cJ lc la hr uP uC uR tn pn_31 pg_31 pq_31 rl sr gcb gpb tg tm tl pm_31 ps_31 r52q hq52) (cwV 0 C.2.2.2.2.1 gX3_bestFor_X1_allBlack rfl rfl rfl hdv_X1_allBlack ⟨Nat.le_of_ble_eq_true rfl, Nat.le_of_ble_eq_true rfl⟩) (gSub_S _) 1 rfl rfl rfl rfl (Nat.le_of_ble_eq_true rfl) dX3_bestFor_52 ⟨Nat.le_of_ble_eq_true rfl, Nat.le_of_ble_eq_true rfl⟩) (fun _ _ hx => False.elim hx) (fun r52 w1 hw => ?_)
        obtain ⟨rfl, rfl⟩ := hw
        obtain ⟨r55q, hq55, hp⟩ := g_ob1 hp
        refine gV_calliS C (gV_runV (As := [.int r52]) (rest := []) C (mt_X2_sizeWith hl D h cI cJ lc la hr uP uC uR tn pn_31 pg_31 pq_31 rl sr gcb gpb tg tm tl pm_31 ps_31 r52 r55q hq55) (cwV 1 C.2.2.2.2.1 gX3_bestFor_X2_sizeWith rfl rfl rfl hdv_X2_sizeWith ⟨Nat.le_of_ble_eq_true rfl, Nat.le_of_ble_eq_true rfl⟩) (gSub_S _) 3 rfl rfl rfl rfl (Nat.le_of_ble_eq_true rfl) dX3_bestFor_55 ⟨Nat.le_of_ble_eq_true rfl, Nat.le_of_ble_eq_true rfl⟩) (fun _ _ hx => False.elim hx) (fun r55 w1 hw => ?_)
        obtain ⟨rfl, rfl⟩ := hw
        refine gV_if_le (tgt := 65) C dX3_bestFor_58 (by decide) (fun c58 => ?_) (fun c58 => ?_)
        · replace hp := g_ift hp c58
          refine gV_iconst (v := 0) C dX3_bestFor_65 rfl ?_
          refine gV_loc [1, 2, 3, 4, 5, 6, 7, 8, 9, 0] rfl ?_
          exact J66 v5 v6 v7 v8 r39 0 pn_31 pg_31 pq_31 pm_31 ps_31 hp
        · replace hp := g_iff hp c58
          refine gV_iconst (v := 1) C dX3_bestFor_61 rfl ?_
          refine gV_goto (tgt := 66) C dX3_bestFor_62 (by decide) ?_
          refine gV_loc [1, 2, 3, 4, 5, 6, 7, 8, 9, 0] rfl ?_
          exact J66 v5 v6 v7 v8 r39 1 pn_31 pg_31 pq_31 pm_31 ps_31 hp
  refine gV_iconst (v := (-1)) C dX3_bestFor_0 rfl ?_
  refine gV_istore (lvs' := [(5, .int (-1)), (0, .ref (h 0)), (1, .int v1), (2, .ref (h 4)), (3, .int v3), (4, .int v4)]) C dX3_bestFor_1 (by decide) rfl ?_
  refine gV_iconst (v := 0) C dX3_bestFor_3 rfl ?_
  refine gV_istore (lvs' := [(6, .int 0), (5, .int (-1)), (0, .ref (h 0)), (1, .int v1), (2, .ref (h 4)), (3, .int v3), (4, .int v4)]) C dX3_bestFor_4 (by decide) rfl ?_
  refine gV_iconst (v := 0) C dX3_bestFor_6 rfl ?_
  refine gV_istore (lvs' := [(7, .int 0), (6, .int 0), (5, .int (-1)), (0, .ref (h 0)), (1, .int v1), (2, .ref (h 4)), (3, .int v3), (4, .int v4)]) C dX3_bestFor_7 (by decide) rfl ?_
  refine gV_iconst (v := 0) C dX3_bestFor_9 rfl ?_
  refine gV_istore (lvs' := [(8, .int 0), (7, .int 0), (6, .int 0), (5, .int (-1)), (0, .ref (h 0)), (1, .int v1), (2, .ref (h 4)), (3, .int v3), (4, .int v4)]) C dX3_bestFor_10 (by decide) rfl ?_
  refine gV_loc [4, 5, 6, 7, 8, 3, 2, 1, 0] rfl ?_
  exact L12 100000 (-1) 0 0 0 pn pg pq pm ps hp
def pf_X3_bestFor_sr_j122  (kL12 : Int32 → Int32 → Int32 → Int32 → Int32 → Int32 → Int32 → (Nat → Int32) → (Nat → Int32) → Option (Int32 × Int32 × Int32 × Int32 × (Nat → Int32) × (Nat → Int32))) (v5 : Int32) (v6 : Int32) (v7 : Int32) (v8 : Int32) (pn : Int32) (pg : Int32) (pq : Int32) (pm : Nat → Int32) (ps : Nat → Int32) : Option (Int32 × Int32 × Int32 × Int32 × (Nat → Int32) × (Nat → Int32)) := (kL12 v5 v6 v7 (v8 + 1) pn pg pq pm ps)
def pf_X3_bestFor_sr_j110  (kL12 : Int32 → Int32 → Int32 → Int32 → Int32 → Int32 → Int32 → (Nat → Int32) → (Nat → Int32) → Option (Int32 × Int32 × Int32 × Int32 × (Nat → Int32) × (Nat → Int32))) (v8 : Int32) (v9 : Int32) (v10 : Int32) (pn : Int32) (pg : Int32) (pq : Int32) (pm : Nat → Int32) (ps : Nat → Int32) : Option (Int32 × Int32 × Int32 × Int32 × (Nat → Int32) × (Nat → Int32)) := (pf_X3_bestFor_sr_j122 kL12 v8 v9 v10 v8 pn pg pq pm ps)
def pf_X3_bestFor_sr_j90  (kL12 : Int32 → Int32 → Int32 → Int32 → Int32 → Int32 → Int32 → (Nat → Int32) → (Nat → Int32) → Option (Int32 × Int32 × Int32 × Int32 × (Nat → Int32) × (Nat → Int32))) (v5 : Int32) (v6 : Int32) (v7 : Int32) (v8 : Int32) (v9 : Int32) (v10 : Int32) (s0 : Int32) (pn : Int32) (pg : Int32) (pq : Int32) (pm : Nat → Int32) (ps : Nat → Int32) : Option (Int32 × Int32 × Int32 × Int32 × (Nat → Int32) × (Nat → Int32)) := (if v5 = (-1) then (pf_X3_bestFor_sr_j110 kL12 v8 v9 v10 pn pg pq pm ps) else (if v9 < v6 then (pf_X3_bestFor_sr_j110 kL12 v8 v9 v10 pn pg pq pm ps) else (if s0 = 0 then (pf_X3_bestFor_sr_j122 kL12 v5 v6 v7 v8 pn pg pq pm ps) else (pf_X3_bestFor_sr_j110 kL12 v8 v9 v10 pn pg pq pm ps))))
def pf_X3_bestFor_sr_j89  (kL12 : Int32 → Int32 → Int32 → Int32 → Int32 → Int32 → Int32 → (Nat → Int32) → (Nat → Int32) → Option (Int32 × Int32 × Int32 × Int32 × (Nat → Int32) × (Nat → Int32))) (v5 : Int32) (v6 : Int32) (v7 : Int32) (v8 : Int32) (v9 : Int32) (v10 : Int32) (pn : Int32) (pg : Int32) (pq : Int32) (pm : Nat → Int32) (ps : Nat → Int32) : Option (Int32 × Int32 × Int32 × Int32 × (Nat → Int32) × (Nat → Int32)) := (pf_X3_bestFor_sr_j90 kL12 v5 v6 v7 v8 v9 v10 0 pn pg pq pm ps)
def pf_X3_bestFor_sr_j66  (kL12 : Int32 → Int32 → Int32 → Int32 → Int32 → Int32 → Int32 → (Nat → Int32) → (Nat → Int32) → Option (Int32 × Int32 × Int32 × Int32 × (Nat → Int32) × (Nat → Int32))) (v5 : Int32) (v6 : Int32) (v7 : Int32) (v8 : Int32) (v9 : Int32) (s0 : Int32) (pn : Int32) (pg : Int32) (pq : Int32) (pm : Nat → Int32) (ps : Nat → Int32) : Option (Int32 × Int32 × Int32 × Int32 × (Nat → Int32) × (Nat → Int32)) := (if v9 = v6 then (if s0 = 0 then (pf_X3_bestFor_sr_j89 kL12 v5 v6 v7 v8 v9 s0 pn pg pq pm ps) else (if v7 = 0 then (pf_X3_bestFor_sr_j90 kL12 v5 v6 v7 v8 v9 s0 1 pn pg pq pm ps) else (pf_X3_bestFor_sr_j89 kL12 v5 v6 v7 v8 v9 s0 pn pg pq pm ps))) else (pf_X3_bestFor_sr_j89 kL12 v5 v6 v7 v8 v9 s0 pn pg pq pm ps))
def pf_X3_bestFor_sr_L12 (v1 : Int32) (v3 : Int32) (v4 : Int32) (uP : Int32) (uR : Int32) (sr : Nat → Int32) (gcb : Nat → Int32) (gpb : Nat → Int64) : Nat → Int32 → Int32 → Int32 → Int32 → Int32 → Int32 → Int32 → (Nat → Int32) → (Nat → Int32) → Option (Int32 × Int32 × Int32 × Int32 × (Nat → Int32) × (Nat → Int32))
  | 0, _, _, _, _, _, _, _, _, _ => none
  | n12 + 1, v5, v6, v7, v8, pn, pg, pq, pm, ps => (if uR ≤ v8 then (some (v5, pn, pg, pq, pm, ps)) else (ob5 (pf_X3_partRows_sr uP uR pn pg pq sr gcb gpb pm ps v8 v3 v4) fun pn_31 pg_31 pq_31 pm_31 ps_31 => (ob1 (pf_X2_score pn_31 pg_31 pq_31 v1) fun r39 => (ob1 (pf_X1_allBlack uP) fun r52 => (ob1 (pf_X2_sizeWith ps_31 r52) fun r55 => (if r55 ≤ 0 then (pf_X3_bestFor_sr_j66 (fun v5 v6 v7 v8 pn pg pq pm ps => pf_X3_bestFor_sr_L12 v1 v3 v4 uP uR sr gcb gpb n12 v5 v6 v7 v8 pn pg pq pm ps) v5 v6 v7 v8 r39 0 pn_31 pg_31 pq_31 pm_31 ps_31) else (pf_X3_bestFor_sr_j66 (fun v5 v6 v7 v8 pn pg pq pm ps => pf_X3_bestFor_sr_L12 v1 v3 v4 uP uR sr gcb gpb n12 v5 v6 v7 v8 pn pg pq pm ps) v5 v6 v7 v8 r39 1 pn_31 pg_31 pq_31 pm_31 ps_31)))))))
def pf_X3_bestFor_sr  (uP : Int32) (uR : Int32) (pn : Int32) (pg : Int32) (pq : Int32) (sr : Nat → Int32) (gcb : Nat → Int32) (gpb : Nat → Int64) (pm : Nat → Int32) (ps : Nat → Int32) (v1 : Int32) (v3 : Int32) (v4 : Int32) : Option (Int32 × Int32 × Int32 × Int32 × (Nat → Int32) × (Nat → Int32)) := (pf_X3_bestFor_sr_L12 v1 v3 v4 uP uR sr gcb gpb 100000 (-1) 0 0 0 pn pg pq pm ps)
abbrev rm_X3_bestFor_sr : Room := { frames := 3, cells := 0, slots := 0, locals := 72 }
set_option maxHeartbeats 4000000 in
set_option maxRecDepth 100000 in
theorem mt_X3_bestFor_sr {l : Launch} (hl : l.stackTraces = false) (D : va_G) (h : Nat → Nat) (cI cJ : ClassId) (lc : Int32) (la : Int32) (hr : Int32) (uP : Int32) (uC : Int32) (uR : Int32) (tn : Int32) (pn : Int32) (pg : Int32) (pq : Int32) (rl : Nat → Int32) (sr : Nat → Int32) (gcb : Nat → Int32) (gpb : Nat → Int64) (tg : Nat → Int32) (tm : Nat → Int32) (tl : Nat → Int32) (pm : Nat → Int32) (ps : Nat → Int32) (v1 : Int32) (v3 : Int32) (v4 : Int32) (r0 : Int32) (pn0 : Int32) (pg0 : Int32) (pq0 : Int32) (pm0 : Nat → Int32) (ps0 : Nat → Int32) (hp : pf_X3_bestFor_sr uP uR pn pg pq sr gcb gpb pm ps v1 v3 v4 = (some (r0, pn0, pg0, pq0, pm0, ps0))) : gMi l yX3_bestFor wsX3_bestFor rm_X3_bestFor_sr D [(cI, .int), (cJ, .long)] (cW h cI cJ lc la hr uP uC uR tn pn pg pq rl sr gcb gpb tg tm tl pm ps) [.ref (h 0), .int v1, .ref (h 5), .int v3, .int v4] 0 0 (fun r w => r = r0 ∧ w = cW h cI cJ lc la hr uP uC uR tn pn0 pg0 pq0 rl sr gcb gpb tg tm tl pm0 ps0) (fun _ _ => False) := by
  refine gMi_of (cc := cX3_bestFor) (maxL := 12) (rt := .int) hl (by decide +kernel) rfl (Nat.le_of_ble_eq_true rfl) ?_
  intro p e s m args below meth c A Q C hnm ht RET OUT THR THRW
  have C : gC p l s m args meth c A D [(cI, .int), (cJ, .long)] 12 RX3 cX3_bestFor wsX3_bestFor := C
  refine gV_loc (lvs' := [(0, .ref (h 0)), (1, .int v1), (2, .ref (h 5)), (3, .int v3), (4, .int v4)]) [0, 1, 2, 3, 4] rfl ?_
  unfold pf_X3_bestFor_sr at hp
  have L12 : ∀ (n12 : Nat) (v5 : Int32) (v6 : Int32) (v7 : Int32) (v8 : Int32) (pn : Int32) (pg : Int32) (pq : Int32) (pm : Nat → Int32) (ps : Nat → Int32), pf_X3_bestFor_sr_L12 v1 v3 v4 uP uR sr gcb gpb n12 v5 v6 v7 v8 pn pg pq pm ps = (some (r0, pn0, pg0, pq0, pm0, ps0)) → gV p l e rm_X3_bestFor_sr s m args below meth c A D 12 Q (cW h cI cJ lc la hr uP uC uR tn pn pg pq rl sr gcb gpb tg tm tl pm ps) [(0, .ref (h 0)), (1, .int v1), (2, .ref (h 5)), (3, .int v3), (4, .int v4), (5, .int v5), (6, .int v6), (7, .int v7), (8, .int v8)] 0 0 12 [] := by
    intro n12
    induction n12 with
    | zero => intro v5 v6 v7 v8 pn pg pq pm ps hp; exact g_none hp
    | succ n12 ih12 =>
      intro v5 v6 v7 v8 pn pg pq pm ps hp
      rw [pf_X3_bestFor_sr_L12.eq_2] at hp
      have J122 : ∀ (v5 : Int32) (v6 : Int32) (v7 : Int32) (v8 : Int32) (pn : Int32) (pg : Int32) (pq : Int32) (pm : Nat → Int32) (ps : Nat → Int32), pf_X3_bestFor_sr_j122 (fun v5 v6 v7 v8 pn pg pq pm ps => pf_X3_bestFor_sr_L12 v1 v3 v4 uP uR sr gcb gpb n12 v5 v6 v7 v8 pn pg pq pm ps) v5 v6 v7 v8 pn pg pq pm ps = (some (r0, pn0, pg0, pq0, pm0, ps0)) → gV p l e rm_X3_bestFor_sr s m args below meth c A D 12 Q (cW h cI cJ lc la hr uP uC uR tn pn pg pq rl sr gcb gpb tg tm tl pm ps) [(0, .ref (h 0)), (1, .int v1), (2, .ref (h 5)), (3, .int v3), (4, .int v4), (5, .int v5), (6, .int v6), (7, .int v7), (8, .int v8)] 0 0 122 [] := by
        intro v5 v6 v7 v8 pn pg pq pm ps hp
        unfold pf_X3_bestFor_sr_j122 at hp
        refine gV_iinc (v := (v8 + 1)) (lvs' := [(8, .int (v8 + 1)), (0, .ref (h 0)), (1, .int v1), (2, .ref (h 5)), (3, .int v3), (4, .int v4), (5, .int v5), (6, .int v6), (7, .int v7)]) C dX3_bestFor_122 8 rfl rfl (by decide) rfl ?_
        refine gV_goto (tgt := 12) C dX3_bestFor_125 (by decide) ?_
        refine gV_loc [1, 2, 3, 4, 5, 6, 7, 8, 0] rfl ?_
        exact ih12 v5 v6 v7 (v8 + 1) pn pg pq pm ps hp
      have J110 : ∀ (v8 : Int32) (v9 : Int32) (v10 : Int32) (pn : Int32) (pg : Int32) (pq : Int32) (pm : Nat → Int32) (ps : Nat → Int32), pf_X3_bestFor_sr_j110 (fun v5 v6 v7 v8 pn pg pq pm ps => pf_X3_bestFor_sr_L12 v1 v3 v4 uP uR sr gcb gpb n12 v5 v6 v7 v8 pn pg pq pm ps) v8 v9 v10 pn pg pq pm ps = (some (r0, pn0, pg0, pq0, pm0, ps0)) → gV p l e rm_X3_bestFor_sr s m args below meth c A D 12 Q (cW h cI cJ lc la hr uP uC uR tn pn pg pq rl sr gcb gpb tg tm tl pm ps) [(0, .ref (h 0)), (1, .int v1), (2, .ref (h 5)), (3, .int v3), (4, .int v4), (8, .int v8), (9, .int v9), (10, .int v10)] 0 0 110 [] := by
        intro v8 v9 v10 pn pg pq pm ps hp
        unfold pf_X3_bestFor_sr_j110 at hp
        refine gV_iload C dX3_bestFor_110 5 rfl ?_
        refine gV_istore (lvs' := [(5, .int v8), (0, .ref (h 0)), (1, .int v1), (2, .ref (h 5)), (3, .int v3), (4, .int v4), (8, .int v8), (9, .int v9), (10, .int v10)]) C dX3_bestFor_112 (by decide) rfl ?_
        refine gV_iload C dX3_bestFor_114 7 rfl ?_
        refine gV_istore (lvs' := [(6, .int v9), (5, .int v8), (0, .ref (h 0)), (1, .int v1), (2, .ref (h 5)), (3, .int v3), (4, .int v4), (8, .int v8), (9, .int v9), (10, .int v10)]) C dX3_bestFor_116 (by decide) rfl ?_
        refine gV_iload C dX3_bestFor_118 9 rfl ?_
        refine gV_istore (lvs' := [(7, .int v10), (6, .int v9), (5, .int v8), (0, .ref (h 0)), (1, .int v1), (2, .ref (h 5)), (3, .int v3), (4, .int v4), (8, .int v8), (9, .int v9), (10, .int v10)]) C dX3_bestFor_120 (by decide) rfl ?_
        refine gV_loc [3, 4, 5, 6, 7, 2, 1, 0, 8] rfl ?_
        exact J122 v8 v9 v10 v8 pn pg pq pm ps hp
      have J90 : ∀ (v5 : Int32) (v6 : Int32) (v7 : Int32) (v8 : Int32) (v9 : Int32) (v10 : Int32) (s0 : Int32) (pn : Int32) (pg : Int32) (pq : Int32) (pm : Nat → Int32) (ps : Nat → Int32), pf_X3_bestFor_sr_j90 (fun v5 v6 v7 v8 pn pg pq pm ps => pf_X3_bestFor_sr_L12 v1 v3 v4 uP uR sr gcb gpb n12 v5 v6 v7 v8 pn pg pq pm ps) v5 v6 v7 v8 v9 v10 s0 pn pg pq pm ps = (some (r0, pn0, pg0, pq0, pm0, ps0)) → gV p l e rm_X3_bestFor_sr s m args below meth c A D 12 Q (cW h cI cJ lc la hr uP uC uR tn pn pg pq rl sr gcb gpb tg tm tl pm ps) [(0, .ref (h 0)), (1, .int v1), (2, .ref (h 5)), (3, .int v3), (4, .int v4), (5, .int v5), (6, .int v6), (7, .int v7), (8, .int v8), (9, .int v9), (10, .int v10)] 0 0 90 [.int s0] := by
        intro v5 v6 v7 v8 v9 v10 s0 pn pg pq pm ps hp
        unfold pf_X3_bestFor_sr_j90 at hp
        refine gV_istore (lvs' := [(11, .int s0), (0, .ref (h 0)), (1, .int v1), (2, .ref (h 5)), (3, .int v3), (4, .int v4), (5, .int v5), (6, .int v6), (7, .int v7), (8, .int v8), (9, .int v9), (10, .int v10)]) C dX3_bestFor_90 (by decide) rfl ?_
        refine gV_iload C dX3_bestFor_92 6 rfl ?_
        refine gV_iconst (v := (-1)) C dX3_bestFor_94 rfl ?_
        refine gV_icmp_eq (tgt := 110) C dX3_bestFor_95 (by decide) (fun c95 => ?_) (fun c95 => ?_)
        · replace hp := g_ift hp c95
          refine gV_loc [1, 2, 3, 4, 5, 9, 10, 11] rfl ?_
          exact J110 v8 v9 v10 pn pg pq pm ps hp
        · replace hp := g_iff hp c95
          refine gV_iload C dX3_bestFor_98 10 rfl ?_
          refine gV_iload C dX3_bestFor_100 7 rfl ?_
          refine gV_icmp_lt (tgt := 110) C dX3_bestFor_102 (by decide) (fun c102 => ?_) (fun c102 => ?_)
          · replace hp := g_ift hp c102
            refine gV_loc [1, 2, 3, 4, 5, 9, 10, 11] rfl ?_
            exact J110 v8 v9 v10 pn pg pq pm ps hp
          · replace hp := g_iff hp c102
            refine gV_iload C dX3_bestFor_105 0 rfl ?_
            refine gV_if_eq (tgt := 122) C dX3_bestFor_107 (by decide) (fun c107 => ?_) (fun c107 => ?_)
            · replace hp := g_ift hp c107
              refine gV_loc [1, 2, 3, 4, 5, 6, 7, 8, 9] rfl ?_
              exact J122 v5 v6 v7 v8 pn pg pq pm ps hp
            · replace hp := g_iff hp c107
              refine gV_loc [1, 2, 3, 4, 5, 9, 10, 11] rfl ?_
              exact J110 v8 v9 v10 pn pg pq pm ps hp
      have J89 : ∀ (v5 : Int32) (v6 : Int32) (v7 : Int32) (v8 : Int32) (v9 : Int32) (v10 : Int32) (pn : Int32) (pg : Int32) (pq : Int32) (pm : Nat → Int32) (ps : Nat → Int32), pf_X3_bestFor_sr_j89 (fun v5 v6 v7 v8 pn pg pq pm ps => pf_X3_bestFor_sr_L12 v1 v3 v4 uP uR sr gcb gpb n12 v5 v6 v7 v8 pn pg pq pm ps) v5 v6 v7 v8 v9 v10 pn pg pq pm ps = (some (r0, pn0, pg0, pq0, pm0, ps0)) → gV p l e rm_X3_bestFor_sr s m args below meth c A D 12 Q (cW h cI cJ lc la hr uP uC uR tn pn pg pq rl sr gcb gpb tg tm tl pm ps) [(0, .ref (h 0)), (1, .int v1), (2, .ref (h 5)), (3, .int v3), (4, .int v4), (5, .int v5), (6, .int v6), (7, .int v7), (8, .int v8), (9, .int v9), (10, .int v10)] 0 0 89 [] := by
        intro v5 v6 v7 v8 v9 v10 pn pg pq pm ps hp
        unfold pf_X3_bestFor_sr_j89 at hp
        refine gV_iconst (v := 0) C dX3_bestFor_89 rfl ?_
        exact J90 v5 v6 v7 v8 v9 v10 0 pn pg pq pm ps hp
      have J66 : ∀ (v5 : Int32) (v6 : Int32) (v7 : Int32) (v8 : Int32) (v9 : Int32) (s0 : Int32) (pn : Int32) (pg : Int32) (pq : Int32) (pm : Nat → Int32) (ps : Nat → Int32), pf_X3_bestFor_sr_j66 (fun v5 v6 v7 v8 pn pg pq pm ps => pf_X3_bestFor_sr_L12 v1 v3 v4 uP uR sr gcb gpb n12 v5 v6 v7 v8 pn pg pq pm ps) v5 v6 v7 v8 v9 s0 pn pg pq pm ps = (some (r0, pn0, pg0, pq0, pm0, ps0)) → gV p l e rm_X3_bestFor_sr s m args below meth c A D 12 Q (cW h cI cJ lc la hr uP uC uR tn pn pg pq rl sr gcb gpb tg tm tl pm ps) [(0, .ref (h 0)), (1, .int v1), (2, .ref (h 5)), (3, .int v3), (4, .int v4), (5, .int v5), (6, .int v6), (7, .int v7), (8, .int v8), (9, .int v9)] 0 0 66 [.int s0] := by
        intro v5 v6 v7 v8 v9 s0 pn pg pq pm ps hp
        unfold pf_X3_bestFor_sr_j66 at hp
        refine gV_istore (lvs' := [(10, .int s0), (0, .ref (h 0)), (1, .int v1), (2, .ref (h 5)), (3, .int v3), (4, .int v4), (5, .int v5), (6, .int v6), (7, .int v7), (8, .int v8), (9, .int v9)]) C dX3_bestFor_66 (by decide) rfl ?_
        refine gV_iload C dX3_bestFor_68 10 rfl ?_
        refine gV_iload C dX3_bestFor_70 7 rfl ?_
        refine gV_icmp_ne (tgt := 89) C dX3_bestFor_72 (by decide) (fun c72 => ?_) (fun c72 => ?_)
        · replace hp := g_iff hp c72
          refine gV_loc [1, 2, 3, 4, 5, 6, 7, 8, 9, 10, 0] rfl ?_
          exact J89 v5 v6 v7 v8 v9 s0 pn pg pq pm ps hp
        · replace hp := g_ift hp c72
          refine gV_iload C dX3_bestFor_75 0 rfl ?_
          refine gV_if_eq (tgt := 89) C dX3_bestFor_77 (by decide) (fun c77 => ?_) (fun c77 => ?_)
          · replace hp := g_ift hp c77
            refine gV_loc [1, 2, 3, 4, 5, 6, 7, 8, 9, 10, 0] rfl ?_
            exact J89 v5 v6 v7 v8 v9 s0 pn pg pq pm ps hp
          · replace hp := g_iff hp c77
            refine gV_iload C dX3_bestFor_80 8 rfl ?_
            refine gV_if_ne (tgt := 89) C dX3_bestFor_82 (by decide) (fun c82 => ?_) (fun c82 => ?_)
            · replace hp := g_iff hp c82
              refine gV_loc [1, 2, 3, 4, 5, 6, 7, 8, 9, 10, 0] rfl ?_
              exact J89 v5 v6 v7 v8 v9 s0 pn pg pq pm ps hp
            · replace hp := g_ift hp c82
              refine gV_iconst (v := 1) C dX3_bestFor_85 rfl ?_
              refine gV_goto (tgt := 90) C dX3_bestFor_86 (by decide) ?_
              refine gV_loc [1, 2, 3, 4, 5, 6, 7, 8, 9, 10, 0] rfl ?_
              exact J90 v5 v6 v7 v8 v9 s0 1 pn pg pq pm ps hp
      refine gV_iload C dX3_bestFor_12 8 rfl ?_
      refine gV_aload_n C dX3_bestFor_14 rfl 0 rfl ?_
      refine gV_get (Cn := RX3) (T := TX3) (N := 8) C inw_X3_bestFor_X3 0 rfl rfl 0 (by decide) (C.w 1 rfl) rfl rfl dX3_bestFor_15 ?_
      refine gV_get (Cn := RX1) (T := TX1) (N := 5) C inw_X3_bestFor_X1 1 rfl rfl 2 (by decide) (C.w 2 rfl) rfl rfl dX3_bestFor_18 ?_
      refine gV_icmp_ge (tgt := 128) C dX3_bestFor_21 (by decide) (fun c21 => ?_) (fun c21 => ?_)
      · replace hp := g_ift hp c21
        refine gV_iload C dX3_bestFor_128 5 rfl ?_
        obtain ⟨rfl, rfl, rfl, rfl, rfl, rfl⟩ := g_so6 hp
        exact RET _ _ _ _ _ _ dX3_bestFor_130 (Nat.le_of_ble_eq_true rfl) (Nat.le_of_ble_eq_true rfl) rfl ⟨rfl, rfl⟩
      · replace hp := g_iff hp c21
        refine gV_aload_n C dX3_bestFor_24 rfl 0 rfl ?_
        refine gV_iload C dX3_bestFor_25 8 rfl ?_
        refine gV_aload_n C dX3_bestFor_27 rfl 2 rfl ?_
        refine gV_iload_n C dX3_bestFor_28 rfl 3 rfl ?_
        refine gV_iload C dX3_bestFor_29 4 rfl ?_
        obtain ⟨pn_31, pg_31, pq_31, pm_31, ps_31, hq31, hp⟩ := g_ob5 hp
        refine gV_callvS C (gV_runV (As := [.int v8, .ref (h 5), .int v3, .int v4]) (rest := []) C (mt_X3_partRows_sr hl D h cI cJ lc la hr uP uC uR tn pn pg pq rl sr gcb gpb tg tm tl pm ps v8 v3 v4 pn_31 pg_31 pq_31 pm_31 ps_31 hq31) (cwV 4 C.2.2.2.2.1 gX3_bestFor_X3_partRows rfl rfl rfl hdv_X3_partRows ⟨Nat.le_of_ble_eq_true rfl, Nat.le_of_ble_eq_true rfl⟩) (gSub_S _) 0 rfl rfl rfl rfl (Nat.le_of_ble_eq_true rfl) dX3_bestFor_31 ⟨Nat.le_of_ble_eq_true rfl, Nat.le_of_ble_eq_true rfl⟩) (fun _ _ hx => False.elim hx) (fun w1 hw => ?_)
        obtain rfl := hw
        refine gV_aload_n C dX3_bestFor_34 rfl 0 rfl ?_
        refine gV_get (Cn := RX3) (T := TX3) (N := 8) C inw_X3_bestFor_X3 0 rfl rfl 2 (by decide) (C.w 3 rfl) rfl rfl dX3_bestFor_35 ?_
        refine gV_iload_n C dX3_bestFor_38 rfl 1 rfl ?_
        obtain ⟨r39q, hq39, hp⟩ := g_ob1 hp
        refine gV_calliS C (gV_runV (As := [.int v1]) (rest := []) C (mt_X2_score hl D h cI cJ lc la hr uP uC uR tn pn_31 pg_31 pq_31 rl sr gcb gpb tg tm tl pm_31 ps_31 v1 r39q hq39) (cwV 1 C.2.2.2.2.1 gX3_bestFor_X2_score rfl rfl rfl hdv_X2_score ⟨Nat.le_of_ble_eq_true rfl, Nat.le_of_ble_eq_true rfl⟩) (gSub_S _) 3 rfl rfl rfl rfl (Nat.le_of_ble_eq_true rfl) dX3_bestFor_39 ⟨Nat.le_of_ble_eq_true rfl, Nat.le_of_ble_eq_true rfl⟩) (fun _ _ hx => False.elim hx) (fun r39 w1 hw => ?_)
        obtain ⟨rfl, rfl⟩ := hw
        refine gV_istore (lvs' := [(9, .int r39), (0, .ref (h 0)), (1, .int v1), (2, .ref (h 5)), (3, .int v3), (4, .int v4), (5, .int v5), (6, .int v6), (7, .int v7), (8, .int v8)]) C dX3_bestFor_42 (by decide) rfl ?_
        refine gV_aload_n C dX3_bestFor_44 rfl 1 rfl ?_
        refine gV_get (Cn := RX3) (T := TX3) (N := 8) C inw_X3_bestFor_X3 0 rfl rfl 2 (by decide) (C.w 3 rfl) rfl rfl dX3_bestFor_45 ?_
        refine gV_aload_n C dX3_bestFor_48 rfl 1 rfl ?_
        refine gV_get (Cn := RX3) (T := TX3) (N := 8) C inw_X3_bestFor_X3 0 rfl rfl 0 (by decide) (C.w 1 rfl) rfl rfl dX3_bestFor_49 ?_
        obtain ⟨r52q, hq52, hp⟩ := g_ob1 hp
        refine gV_calliS C (gV_runV (As := []) (rest := [.ref (h 3)]) C (mt_X1_allBlack hl D h cI cJ lc la hr uP uC uR tn pn_31 pg_31 pq_31 rl sr gcb gpb tg tm tl pm_31 ps_31 r52q hq52) (cwV 0 C.2.2.2.2.1 gX3_bestFor_X1_allBlack rfl rfl rfl hdv_X1_allBlack ⟨Nat.le_of_ble_eq_true rfl, Nat.le_of_ble_eq_true rfl⟩) (gSub_S _) 1 rfl rfl rfl rfl (Nat.le_of_ble_eq_true rfl) dX3_bestFor_52 ⟨Nat.le_of_ble_eq_true rfl, Nat.le_of_ble_eq_true rfl⟩) (fun _ _ hx => False.elim hx) (fun r52 w1 hw => ?_)
        obtain ⟨rfl, rfl⟩ := hw
        obtain ⟨r55q, hq55, hp⟩ := g_ob1 hp
        refine gV_calliS C (gV_runV (As := [.int r52]) (rest := []) C (mt_X2_sizeWith hl D h cI cJ lc la hr uP uC uR tn pn_31 pg_31 pq_31 rl sr gcb gpb tg tm tl pm_31 ps_31 r52 r55q hq55) (cwV 1 C.2.2.2.2.1 gX3_bestFor_X2_sizeWith rfl rfl rfl hdv_X2_sizeWith ⟨Nat.le_of_ble_eq_true rfl, Nat.le_of_ble_eq_true rfl⟩) (gSub_S _) 3 rfl rfl rfl rfl (Nat.le_of_ble_eq_true rfl) dX3_bestFor_55 ⟨Nat.le_of_ble_eq_true rfl, Nat.le_of_ble_eq_true rfl⟩) (fun _ _ hx => False.elim hx) (fun r55 w1 hw => ?_)
        obtain ⟨rfl, rfl⟩ := hw
        refine gV_if_le (tgt := 65) C dX3_bestFor_58 (by decide) (fun c58 => ?_) (fun c58 => ?_)
        · replace hp := g_ift hp c58
          refine gV_iconst (v := 0) C dX3_bestFor_65 rfl ?_
          refine gV_loc [1, 2, 3, 4, 5, 6, 7, 8, 9, 0] rfl ?_
          exact J66 v5 v6 v7 v8 r39 0 pn_31 pg_31 pq_31 pm_31 ps_31 hp
        · replace hp := g_iff hp c58
          refine gV_iconst (v := 1) C dX3_bestFor_61 rfl ?_
          refine gV_goto (tgt := 66) C dX3_bestFor_62 (by decide) ?_
          refine gV_loc [1, 2, 3, 4, 5, 6, 7, 8, 9, 0] rfl ?_
          exact J66 v5 v6 v7 v8 r39 1 pn_31 pg_31 pq_31 pm_31 ps_31 hp
  refine gV_iconst (v := (-1)) C dX3_bestFor_0 rfl ?_
  refine gV_istore (lvs' := [(5, .int (-1)), (0, .ref (h 0)), (1, .int v1), (2, .ref (h 5)), (3, .int v3), (4, .int v4)]) C dX3_bestFor_1 (by decide) rfl ?_
  refine gV_iconst (v := 0) C dX3_bestFor_3 rfl ?_
  refine gV_istore (lvs' := [(6, .int 0), (5, .int (-1)), (0, .ref (h 0)), (1, .int v1), (2, .ref (h 5)), (3, .int v3), (4, .int v4)]) C dX3_bestFor_4 (by decide) rfl ?_
  refine gV_iconst (v := 0) C dX3_bestFor_6 rfl ?_
  refine gV_istore (lvs' := [(7, .int 0), (6, .int 0), (5, .int (-1)), (0, .ref (h 0)), (1, .int v1), (2, .ref (h 5)), (3, .int v3), (4, .int v4)]) C dX3_bestFor_7 (by decide) rfl ?_
  refine gV_iconst (v := 0) C dX3_bestFor_9 rfl ?_
  refine gV_istore (lvs' := [(8, .int 0), (7, .int 0), (6, .int 0), (5, .int (-1)), (0, .ref (h 0)), (1, .int v1), (2, .ref (h 5)), (3, .int v3), (4, .int v4)]) C dX3_bestFor_10 (by decide) rfl ?_
  refine gV_loc [4, 5, 6, 7, 8, 3, 2, 1, 0] rfl ?_
  exact L12 100000 (-1) 0 0 0 pn pg pq pm ps hp
def pf_X3_bestGuess_j9  (pn : Int32) (pg : Int32) (pq : Int32) (pm : Nat → Int32) (ps : Nat → Int32) : Option (Nat × Int32 × Int32 × Int32 × Int32 × (Nat → Int32) × (Nat → Int32)) := (some (2, 0, pn, pg, pq, pm, ps))
def pf_X3_bestGuess  (lc : Int32) (uP : Int32) (uR : Int32) (pn : Int32) (pg : Int32) (pq : Int32) (rl : Nat → Int32) (gcb : Nat → Int32) (gpb : Nat → Int64) (pm : Nat → Int32) (ps : Nat → Int32) (v1 : Int32) : Option (Nat × Int32 × Int32 × Int32 × Int32 × (Nat → Int32) × (Nat → Int32)) := (if v1 < 0 then (pf_X3_bestGuess_j9 pn pg pq pm ps) else (if v1 ≤ 2 then (if lc = 0 then (some (3, 0, pn, pg, pq, pm, ps)) else (ob6 (pf_X3_bestFor_rl uP uR pn pg pq rl gcb gpb pm ps v1 0 lc) fun r47 pn_47 pg_47 pq_47 pm_47 ps_47 => (some (0, r47, pn_47, pg_47, pq_47, pm_47, ps_47)))) else (pf_X3_bestGuess_j9 pn pg pq pm ps)))
abbrev rm_X3_bestGuess : Room := { frames := 6, cells := 1, slots := 6, locals := 103 }
theorem inw_X3_bestGuess_X3 : ∀ w ∈ wsX30, w ∈ wsX3_bestGuess := by decide +kernel
theorem tw_X3_bestGuess_IAE : gTw wsX3_bestGuess "java/lang/IllegalArgumentException" 50 46 := ⟨gtw_IAE.1, List.mem_of_getElem? (i := 1) rfl, List.mem_of_getElem? (i := 2) rfl, fun w h => List.mem_cons_of_mem _ (List.mem_append_left _ (List.mem_append_right _ h)), gtw_IAE.2.1, gtw_IAE.2.2⟩
theorem tw_X3_bestGuess_ISE : gTw wsX3_bestGuess "java/lang/IllegalStateException" 91 87 := ⟨gtw_ISE.1, List.mem_of_getElem? (i := 3) rfl, List.mem_of_getElem? (i := 4) rfl, fun w h => List.mem_cons_of_mem _ (List.mem_append_right _ h), gtw_ISE.2.1, gtw_ISE.2.2⟩
theorem hdv_X3_bestFor : yX3_bestFor.cls = RX3 ∧ yX3_bestFor.cls ≠ "java/lang/invoke/MethodHandle" ∧ yX3_bestFor.cls ≠ "java/lang/invoke/VarHandle" ∧ (parseMethodDescriptor yX3_bestFor.desc).map (fun d => d.parameters.length) = some 4 := by decide +kernel
set_option maxHeartbeats 4000000 in
set_option maxRecDepth 100000 in
theorem mt_X3_bestGuess {l : Launch} (hl : l.stackTraces = false) (D : va_G) (h : Nat → Nat) (cI cJ : ClassId) (lc : Int32) (la : Int32) (hr : Int32) (uP : Int32) (uC : Int32) (uR : Int32) (tn : Int32) (pn : Int32) (pg : Int32) (pq : Int32) (rl : Nat → Int32) (sr : Nat → Int32) (gcb : Nat → Int32) (gpb : Nat → Int64) (tg : Nat → Int32) (tm : Nat → Int32) (tl : Nat → Int32) (pm : Nat → Int32) (ps : Nat → Int32) (v1 : Int32) (xc0 : Nat) (r0 : Int32) (pn0 : Int32) (pg0 : Int32) (pq0 : Int32) (pm0 : Nat → Int32) (ps0 : Nat → Int32) (hp : pf_X3_bestGuess lc uP uR pn pg pq rl gcb gpb pm ps v1 = (some (xc0, r0, pn0, pg0, pq0, pm0, ps0))) : gMi l yX3_bestGuess wsX3_bestGuess rm_X3_bestGuess D [(cI, .int), (cJ, .long)] (cW h cI cJ lc la hr uP uC uR tn pn pg pq rl sr gcb gpb tg tm tl pm ps) [.ref (h 0), .int v1] 1 6 (fun r w => xc0 = 0 ∧ r = r0 ∧ w = cW h cI cJ lc la hr uP uC uR tn pn0 pg0 pq0 rl sr gcb gpb tg tm tl pm0 ps0) (fun E w => xc0 ≠ 0 ∧ E = g_exn xc0 ∧ w = cW h cI cJ lc la hr uP uC uR tn pn0 pg0 pq0 rl sr gcb gpb tg tm tl pm0 ps0) := by
  refine gMi_of (cc := cX3_bestGuess) (maxL := 2) (rt := .int) hl (by decide +kernel) rfl (Nat.le_of_ble_eq_true rfl) ?_
  intro p e s m args below meth c A Q C hnm ht RET OUT THR THRW
  have C : gC p l s m args meth c A D [(cI, .int), (cJ, .long)] 2 RX3 cX3_bestGuess wsX3_bestGuess := C
  have THR := THR rfl
  have THRW := THRW rfl
  refine gV_loc (lvs' := [(0, .ref (h 0)), (1, .int v1)]) [0, 1] rfl ?_
  unfold pf_X3_bestGuess at hp
  have J9 : ∀ (pn : Int32) (pg : Int32) (pq : Int32) (pm : Nat → Int32) (ps : Nat → Int32), pf_X3_bestGuess_j9 pn pg pq pm ps = (some (xc0, r0, pn0, pg0, pq0, pm0, ps0)) → gV p l e rm_X3_bestGuess s m args below meth c A D 2 Q (cW h cI cJ lc la hr uP uC uR tn pn pg pq rl sr gcb gpb tg tm tl pm ps) [(0, .ref (h 0))] 0 0 9 [] := by
    intro pn pg pq pm ps hp
    unfold pf_X3_bestGuess_j9 at hp
    obtain ⟨rfl, rfl, rfl, rfl, rfl, rfl, rfl⟩ := g_so7 hp
    exact THR _ "no such rule" 50 46 181 _ _ _ _ _ _ ⟨by decide, rfl, rfl⟩ tw_X3_bestGuess_IAE (Or.inl rfl) (by decide) dX3_bestGuess_9 dX3_bestGuess_12 dX3_bestGuess_13 dX3_bestGuess_15 dX3_bestGuess_18 (Nat.le_of_ble_eq_true rfl) (Nat.le_of_ble_eq_true rfl) (Nat.le_of_ble_eq_true rfl) (Nat.le_of_ble_eq_true rfl) (Nat.le_of_ble_eq_true rfl) (Nat.le_of_ble_eq_true rfl)
  refine gV_iload_n C dX3_bestGuess_0 rfl 1 rfl ?_
  refine gV_if_lt (tgt := 9) C dX3_bestGuess_1 (by decide) (fun c1 => ?_) (fun c1 => ?_)
  · replace hp := g_ift hp c1
    refine gV_loc [0] rfl ?_
    exact J9 pn pg pq pm ps hp
  · replace hp := g_iff hp c1
    refine gV_iload_n C dX3_bestGuess_4 rfl 1 rfl ?_
    refine gV_iconst (v := 2) C dX3_bestGuess_5 rfl ?_
    refine gV_icmp_le (tgt := 19) C dX3_bestGuess_6 (by decide) (fun c6 => ?_) (fun c6 => ?_)
    · replace hp := g_ift hp c6
      refine gV_aload_n C dX3_bestGuess_19 rfl 0 rfl ?_
      refine gV_get (Cn := RX3) (T := TX3) (N := 8) C inw_X3_bestGuess_X3 0 rfl rfl 5 (by decide) (C.w 5 rfl) rfl rfl dX3_bestGuess_20 ?_
      refine gV_if_ne (tgt := 36) C dX3_bestGuess_23 (by decide) (fun c23 => ?_) (fun c23 => ?_)
      · replace hp := g_iff hp c23
        refine gV_aload_n C dX3_bestGuess_36 rfl 0 rfl ?_
        refine gV_iload_n C dX3_bestGuess_37 rfl 1 rfl ?_
        refine gV_aload_n C dX3_bestGuess_38 rfl 0 rfl ?_
        refine gV_get (Cn := RX3) (T := TX3) (N := 8) C inw_X3_bestGuess_X3 0 rfl rfl 3 (by decide) (C.w 6 rfl) rfl rfl dX3_bestGuess_39 ?_
        refine gV_iconst (v := 0) C dX3_bestGuess_42 rfl ?_
        refine gV_aload_n C dX3_bestGuess_43 rfl 0 rfl ?_
        refine gV_get (Cn := RX3) (T := TX3) (N := 8) C inw_X3_bestGuess_X3 0 rfl rfl 5 (by decide) (C.w 5 rfl) rfl rfl dX3_bestGuess_44 ?_
        obtain ⟨r47q, pn_47, pg_47, pq_47, pm_47, ps_47, hq47, hp⟩ := g_ob6 hp
        refine gV_calliS C (gV_runV (As := [.int v1, .ref (h 4), .int 0, .int lc]) (rest := []) C (mt_X3_bestFor_rl hl D h cI cJ lc la hr uP uC uR tn pn pg pq rl sr gcb gpb tg tm tl pm ps v1 0 lc r47q pn_47 pg_47 pq_47 pm_47 ps_47 hq47) (cwV 4 C.2.2.2.2.1 gX3_bestGuess_X3_bestFor rfl rfl rfl hdv_X3_bestFor ⟨Nat.le_of_ble_eq_true rfl, Nat.le_of_ble_eq_true rfl⟩) (gSub_S _) 0 rfl rfl rfl rfl (Nat.le_of_ble_eq_true rfl) dX3_bestGuess_47 ⟨Nat.le_of_ble_eq_true rfl, Nat.le_of_ble_eq_true rfl⟩) (fun _ _ hx => False.elim hx) (fun r47 w1 hw => ?_)
        obtain ⟨rfl, rfl⟩ := hw
        obtain ⟨rfl, rfl, rfl, rfl, rfl, rfl, rfl⟩ := g_so7 hp
        exact RET _ _ _ _ _ _ dX3_bestGuess_50 (Nat.le_of_ble_eq_true rfl) (Nat.le_of_ble_eq_true rfl) rfl ⟨rfl, rfl, rfl⟩
      · replace hp := g_ift hp c23
        obtain ⟨rfl, rfl, rfl, rfl, rfl, rfl, rfl⟩ := g_so7 hp
        exact THR _ "no row is left" 91 87 183 _ _ _ _ _ _ ⟨by decide, rfl, rfl⟩ tw_X3_bestGuess_ISE (Or.inr (Or.inr rfl)) (by decide) dX3_bestGuess_26 dX3_bestGuess_29 dX3_bestGuess_30 dX3_bestGuess_32 dX3_bestGuess_35 (Nat.le_of_ble_eq_true rfl) (Nat.le_of_ble_eq_true rfl) (Nat.le_of_ble_eq_true rfl) (Nat.le_of_ble_eq_true rfl) (Nat.le_of_ble_eq_true rfl) (Nat.le_of_ble_eq_true rfl)
    · replace hp := g_iff hp c6
      refine gV_loc [0] rfl ?_
      exact J9 pn pg pq pm ps hp
def pf_X3_opensPart_L19 (v1 : Int32) (v3 : Int32) (uP : Int32) (uR : Int32) (sr : Nat → Int32) (gcb : Nat → Int32) (gpb : Nat → Int64) (v4 : Int32) : Nat → Int32 → Option (Int32)
  | 0, _ => none
  | n19 + 1, v5 => (if v3 ≤ v5 then (some 1) else (gi v5 300 (ob1 (pf_X1_compare uP uR gcb gpb v1 (sr v5.toNatClampNeg)) fun r37 => (if r37 = v4 then (some 0) else (pf_X3_opensPart_L19 v1 v3 uP uR sr gcb gpb v4 n19 (v5 + 1))))))
def pf_X3_opensPart  (uP : Int32) (uR : Int32) (sr : Nat → Int32) (gcb : Nat → Int32) (gpb : Nat → Int64) (v1 : Int32) (v2 : Int32) (v3 : Int32) : Option (Int32) := (gi v3 300 (ob1 (pf_X1_compare uP uR gcb gpb v1 (sr v3.toNatClampNeg)) fun r11 => (pf_X3_opensPart_L19 v1 v3 uP uR sr gcb gpb r11 100000 v2)))
abbrev rm_X3_opensPart : Room := { frames := 2, cells := 0, slots := 0, locals := 47 }
theorem inw_X3_opensPart_X3 : ∀ w ∈ wsX30, w ∈ wsX3_opensPart := by decide +kernel
set_option maxHeartbeats 4000000 in
set_option maxRecDepth 100000 in
theorem mt_X3_opensPart {l : Launch} (hl : l.stackTraces = false) (D : va_G) (h : Nat → Nat) (cI cJ : ClassId) (lc : Int32) (la : Int32) (hr : Int32) (uP : Int32) (uC : Int32) (uR : Int32) (tn : Int32) (pn : Int32) (pg : Int32) (pq : Int32) (rl : Nat → Int32) (sr : Nat → Int32) (gcb : Nat → Int32) (gpb : Nat → Int64) (tg : Nat → Int32) (tm : Nat → Int32) (tl : Nat → Int32) (pm : Nat → Int32) (ps : Nat → Int32) (v1 : Int32) (v2 : Int32) (v3 : Int32) (r0 : Int32) (hp : pf_X3_opensPart uP uR sr gcb gpb v1 v2 v3 = (some r0)) : gMi l yX3_opensPart wsX3_opensPart rm_X3_opensPart D [(cI, .int), (cJ, .long)] (cW h cI cJ lc la hr uP uC uR tn pn pg pq rl sr gcb gpb tg tm tl pm ps) [.ref (h 0), .int v1, .int v2, .int v3] 0 0 (fun r w => r = r0 ∧ w = cW h cI cJ lc la hr uP uC uR tn pn pg pq rl sr gcb gpb tg tm tl pm ps) (fun _ _ => False) := by
  refine gMi_of (cc := cX3_opensPart) (maxL := 6) (rt := .boolean) hl (by decide +kernel) rfl (Nat.le_of_ble_eq_true rfl) ?_
  intro p e s m args below meth c A Q C hnm ht RET OUT THR THRW
  have C : gC p l s m args meth c A D [(cI, .int), (cJ, .long)] 6 RX3 cX3_opensPart wsX3_opensPart := C
  refine gV_loc (lvs' := [(0, .ref (h 0)), (1, .int v1), (2, .int v2), (3, .int v3)]) [0, 1, 2, 3] rfl ?_
  unfold pf_X3_opensPart at hp
  have L19 : ∀ (v4 : Int32) (n19 : Nat) (v5 : Int32), pf_X3_opensPart_L19 v1 v3 uP uR sr gcb gpb v4 n19 v5 = (some r0) → gV p l e rm_X3_opensPart s m args below meth c A D 6 Q (cW h cI cJ lc la hr uP uC uR tn pn pg pq rl sr gcb gpb tg tm tl pm ps) [(0, .ref (h 0)), (1, .int v1), (3, .int v3), (4, .int v4), (5, .int v5)] 0 0 19 [] := by
    intro v4 n19
    induction n19 with
    | zero => intro v5 hp; exact g_none hp
    | succ n19 ih19 =>
      intro v5 hp
      rw [pf_X3_opensPart_L19.eq_2] at hp
      refine gV_iload C dX3_opensPart_19 4 rfl ?_
      refine gV_iload_n C dX3_opensPart_21 rfl 2 rfl ?_
      refine gV_icmp_ge (tgt := 53) C dX3_opensPart_22 (by decide) (fun c22 => ?_) (fun c22 => ?_)
      · replace hp := g_ift hp c22
        refine gV_iconst (v := 1) C dX3_opensPart_53 rfl ?_
        obtain rfl := g_so1 hp
        exact RET _ _ _ _ _ _ dX3_opensPart_54 (Nat.le_of_ble_eq_true rfl) (Nat.le_of_ble_eq_true rfl) rfl ⟨rfl, rfl⟩
      · replace hp := g_iff hp c22
        refine gV_aload_n C dX3_opensPart_25 rfl 0 rfl ?_
        refine gV_get (Cn := RX3) (T := TX3) (N := 8) C inw_X3_opensPart_X3 0 rfl rfl 0 (by decide) (C.w 1 rfl) rfl rfl dX3_opensPart_26 ?_
        refine gV_iload_n C dX3_opensPart_29 rfl 1 rfl ?_
        refine gV_aload_n C dX3_opensPart_30 rfl 0 rfl ?_
        refine gV_get (Cn := RX3) (T := TX3) (N := 8) C inw_X3_opensPart_X3 0 rfl rfl 4 (by decide) (C.w 2 rfl) rfl rfl dX3_opensPart_31 ?_
        refine gV_iload C dX3_opensPart_34 4 rfl ?_
        obtain ⟨hi36, hp⟩ := g_idx hp
        refine gV_iald C 5 rfl 0 rfl hi36 dX3_opensPart_36 ?_
        obtain ⟨r37q, hq37, hp⟩ := g_ob1 hp
        refine gV_calliS C (gV_runV (As := [.int v1, .int (sr v5.toNatClampNeg)]) (rest := []) C (mt_X1_compare hl D h cI cJ lc la hr uP uC uR tn pn pg pq rl sr gcb gpb tg tm tl pm ps v1 (sr v5.toNatClampNeg) r37q hq37) (cwV 2 C.2.2.2.2.1 gX3_opensPart_X1_compare rfl rfl rfl hdv_X1_compare ⟨Nat.le_of_ble_eq_true rfl, Nat.le_of_ble_eq_true rfl⟩) (gSub_S _) 1 rfl rfl rfl rfl (Nat.le_of_ble_eq_true rfl) dX3_opensPart_37 ⟨Nat.le_of_ble_eq_true rfl, Nat.le_of_ble_eq_true rfl⟩) (fun _ _ hx => False.elim hx) (fun r37 w1 hw => ?_)
        obtain ⟨rfl, rfl⟩ := hw
        refine gV_iload C dX3_opensPart_40 3 rfl ?_
        refine gV_icmp_ne (tgt := 47) C dX3_opensPart_42 (by decide) (fun c42 => ?_) (fun c42 => ?_)
        · replace hp := g_iff hp c42
          refine gV_iinc (v := (v5 + 1)) (lvs' := [(5, .int (v5 + 1)), (0, .ref (h 0)), (1, .int v1), (3, .int v3), (4, .int v4)]) C dX3_opensPart_47 4 rfl rfl (by decide) rfl ?_
          refine gV_goto (tgt := 19) C dX3_opensPart_50 (by decide) ?_
          refine gV_loc [1, 2, 3, 4, 0] rfl ?_
          exact ih19 (v5 + 1) hp
        · replace hp := g_ift hp c42
          refine gV_iconst (v := 0) C dX3_opensPart_45 rfl ?_
          obtain rfl := g_so1 hp
          exact RET _ _ _ _ _ _ dX3_opensPart_46 (Nat.le_of_ble_eq_true rfl) (Nat.le_of_ble_eq_true rfl) rfl ⟨rfl, rfl⟩
  refine gV_aload_n C dX3_opensPart_0 rfl 0 rfl ?_
  refine gV_get (Cn := RX3) (T := TX3) (N := 8) C inw_X3_opensPart_X3 0 rfl rfl 0 (by decide) (C.w 1 rfl) rfl rfl dX3_opensPart_1 ?_
  refine gV_iload_n C dX3_opensPart_4 rfl 1 rfl ?_
  refine gV_aload_n C dX3_opensPart_5 rfl 0 rfl ?_
  refine gV_get (Cn := RX3) (T := TX3) (N := 8) C inw_X3_opensPart_X3 0 rfl rfl 4 (by decide) (C.w 2 rfl) rfl rfl dX3_opensPart_6 ?_
  refine gV_iload_n C dX3_opensPart_9 rfl 3 rfl ?_
  obtain ⟨hi10, hp⟩ := g_idx hp
  refine gV_iald C 5 rfl 0 rfl hi10 dX3_opensPart_10 ?_
  obtain ⟨r11q, hq11, hp⟩ := g_ob1 hp
  refine gV_calliS C (gV_runV (As := [.int v1, .int (sr v3.toNatClampNeg)]) (rest := []) C (mt_X1_compare hl D h cI cJ lc la hr uP uC uR tn pn pg pq rl sr gcb gpb tg tm tl pm ps v1 (sr v3.toNatClampNeg) r11q hq11) (cwV 2 C.2.2.2.2.1 gX3_opensPart_X1_compare rfl rfl rfl hdv_X1_compare ⟨Nat.le_of_ble_eq_true rfl, Nat.le_of_ble_eq_true rfl⟩) (gSub_S _) 1 rfl rfl rfl rfl (Nat.le_of_ble_eq_true rfl) dX3_opensPart_11 ⟨Nat.le_of_ble_eq_true rfl, Nat.le_of_ble_eq_true rfl⟩) (fun _ _ hx => False.elim hx) (fun r11 w1 hw => ?_)
  obtain ⟨rfl, rfl⟩ := hw
  refine gV_istore (lvs' := [(4, .int r11), (0, .ref (h 0)), (1, .int v1), (2, .int v2), (3, .int v3)]) C dX3_opensPart_14 (by decide) rfl ?_
  refine gV_iload_n C dX3_opensPart_16 rfl 3 rfl ?_
  refine gV_istore (lvs' := [(5, .int v2), (4, .int r11), (0, .ref (h 0)), (1, .int v1), (2, .int v2), (3, .int v3)]) C dX3_opensPart_17 (by decide) rfl ?_
  refine gV_loc [2, 3, 5, 1, 0] rfl ?_
  exact L19 r11 100000 v2 hp

def pf_X1_withPin   (v0 : Int64) (v2 : Int32) : Option (Int64) := (gl ((g_lsr v0 (8 * v2)) &&& 255) fun v4_12 => (some (v0 ||| (g_lsl ((g_lsl v4_12 1) ||| 1) (8 * v2)))))
abbrev rm_X1_withPin : Room := { frames := 0, cells := 0, slots := 0, locals := 0 }
set_option maxHeartbeats 4000000 in
set_option maxRecDepth 100000 in
theorem mt_X1_withPin {l : Launch} (hl : l.stackTraces = false) (D : va_G)  (cI cJ : ClassId)  (v0 : Int64) (v2 : Int32) (r0 : Int64) (hp : pf_X1_withPin v0 v2 = (some r0)) : gMl l yX1_withPin wsX1_withPin rm_X1_withPin D [(cI, .int), (cJ, .long)] [] [.long v0, .int v2] 0 0 (fun r w => r = r0 ∧ w = []) (fun _ _ => False) := by
  refine gMl_of (cc := cX1_withPin) (maxL := 6) hl (by decide +kernel) rfl (Nat.le_of_ble_eq_true rfl) ?_
  intro p e s m args below meth c A Q C hnm ht RET OUT THR THRW
  have C : gC p l s m args meth c A D [(cI, .int), (cJ, .long)] 6 RX1 cX1_withPin wsX1_withPin := C
  refine gV_loc (lvs' := [(0, .long v0), (2, .int v2)]) [0, 1] rfl ?_
  unfold pf_X1_withPin at hp
  refine gV_bipush (v := 8) C dX1_withPin_0 rfl ?_
  refine gV_iload_n C dX1_withPin_2 rfl 1 rfl ?_
  refine gV_imul C dX1_withPin_3 ?_
  refine gV_istore_n (lvs' := [(3, .int (8 * v2)), (0, .long v0), (2, .int v2)]) C dX1_withPin_4 rfl (by decide) rfl ?_
  refine gV_lload_n C dX1_withPin_5 rfl 1 rfl ?_
  refine gV_iload_n C dX1_withPin_6 rfl 0 rfl ?_
  refine gV_lshr C dX1_withPin_7 ?_
  refine gV_ldc2 (v := 255) C dX1_withPin_8 (C.w 1 rfl) ?_
  refine gV_land C dX1_withPin_11 ?_
  refine gV_topJ (fun v4_12 he12 => ?_)
  replace hp := g_let hp he12
  refine gV_lstore (lvs' := [(4, .long v4_12), (3, .int (8 * v2)), (0, .long v0), (2, .int v2)]) C dX1_withPin_12 (by decide) rfl ?_
  refine gV_lload_n C dX1_withPin_14 rfl 2 rfl ?_
  refine gV_lload C dX1_withPin_15 0 rfl ?_
  refine gV_iconst (v := 1) C dX1_withPin_17 rfl ?_
  refine gV_lshl C dX1_withPin_18 ?_
  refine gV_lconst (v := 1) C dX1_withPin_19 rfl ?_
  refine gV_lor C dX1_withPin_20 ?_
  refine gV_iload_n C dX1_withPin_21 rfl 1 rfl ?_
  refine gV_lshl C dX1_withPin_22 ?_
  refine gV_lor C dX1_withPin_23 ?_
  obtain rfl := g_so1 hp
  exact RET _ _ _ _ _ _ dX1_withPin_24 (Nat.le_of_ble_eq_true rfl) (Nat.le_of_ble_eq_true rfl) ⟨rfl, rfl⟩
def pf_X1_has_j24  (s0 : Int32) : Option (Int32) := (gz s0 ((some s0)))
def pf_X1_has_j23  : Option (Int32) := (pf_X1_has_j24 0)
def pf_X1_has  (uR : Int32) (v1 : Int32) : Option (Int32) := (if v1 < 0 then (pf_X1_has_j23) else (if uR ≤ v1 then (pf_X1_has_j23) else (if 256 ≤ v1 then (pf_X1_has_j23) else (pf_X1_has_j24 1))))
abbrev rm_X1_has : Room := { frames := 0, cells := 0, slots := 0, locals := 0 }
theorem inw_X1_has_X1 : ∀ w ∈ wsX10, w ∈ wsX1_has := by decide +kernel
set_option maxHeartbeats 4000000 in
set_option maxRecDepth 100000 in
theorem mt_X1_has {l : Launch} (hl : l.stackTraces = false) (D : va_G) (h : Nat → Nat) (cI cJ : ClassId) (lc : Int32) (la : Int32) (hr : Int32) (uP : Int32) (uC : Int32) (uR : Int32) (tn : Int32) (pn : Int32) (pg : Int32) (pq : Int32) (rl : Nat → Int32) (sr : Nat → Int32) (gcb : Nat → Int32) (gpb : Nat → Int64) (tg : Nat → Int32) (tm : Nat → Int32) (tl : Nat → Int32) (pm : Nat → Int32) (ps : Nat → Int32) (v1 : Int32) (r0 : Int32) (hp : pf_X1_has uR v1 = (some r0)) : gMi l yX1_has wsX1_has rm_X1_has D [(cI, .int), (cJ, .long)] (cW h cI cJ lc la hr uP uC uR tn pn pg pq rl sr gcb gpb tg tm tl pm ps) [.ref (h 1), .int v1] 0 0 (fun r w => r = r0 ∧ w = cW h cI cJ lc la hr uP uC uR tn pn pg pq rl sr gcb gpb tg tm tl pm ps) (fun _ _ => False) := by
  refine gMi_of (cc := cX1_has) (maxL := 2) (rt := .boolean) hl (by decide +kernel) rfl (Nat.le_of_ble_eq_true rfl) ?_
  intro p e s m args below meth c A Q C hnm ht RET OUT THR THRW
  have C : gC p l s m args meth c A D [(cI, .int), (cJ, .long)] 2 RX1 cX1_has wsX1_has := C
  refine gV_loc (lvs' := [(0, .ref (h 1)), (1, .int v1)]) [0, 1] rfl ?_
  unfold pf_X1_has at hp
  have J24 : ∀ (s0 : Int32), pf_X1_has_j24 s0 = (some r0) → gV p l e rm_X1_has s m args below meth c A D 2 Q (cW h cI cJ lc la hr uP uC uR tn pn pg pq rl sr gcb gpb tg tm tl pm ps) [(0, .ref (h 1))] 0 0 24 [.int s0] := by
    intro s0 hp
    unfold pf_X1_has_j24 at hp
    obtain ⟨hz24, hp⟩ := g_bool hp
    obtain rfl := g_so1 hp
    exact RET _ _ _ _ _ _ dX1_has_24 (Nat.le_of_ble_eq_true rfl) (Nat.le_of_ble_eq_true rfl) (g_nz hz24) ⟨rfl, rfl⟩
  have J23 : pf_X1_has_j23 = (some r0) → gV p l e rm_X1_has s m args below meth c A D 2 Q (cW h cI cJ lc la hr uP uC uR tn pn pg pq rl sr gcb gpb tg tm tl pm ps) [(0, .ref (h 1))] 0 0 23 [] := by
    intro hp
    unfold pf_X1_has_j23 at hp
    refine gV_iconst (v := 0) C dX1_has_23 rfl ?_
    exact J24 0 hp
  refine gV_iload_n C dX1_has_0 rfl 1 rfl ?_
  refine gV_if_lt (tgt := 23) C dX1_has_1 (by decide) (fun c1 => ?_) (fun c1 => ?_)
  · replace hp := g_ift hp c1
    refine gV_loc [0] rfl ?_
    exact J23 hp
  · replace hp := g_iff hp c1
    refine gV_iload_n C dX1_has_4 rfl 1 rfl ?_
    refine gV_aload_n C dX1_has_5 rfl 0 rfl ?_
    refine gV_get (Cn := RX1) (T := TX1) (N := 5) C inw_X1_has_X1 1 rfl rfl 2 (by decide) (C.w 1 rfl) rfl rfl dX1_has_6 ?_
    refine gV_icmp_ge (tgt := 23) C dX1_has_9 (by decide) (fun c9 => ?_) (fun c9 => ?_)
    · replace hp := g_ift hp c9
      refine gV_loc [0] rfl ?_
      exact J23 hp
    · replace hp := g_iff hp c9
      refine gV_iload_n C dX1_has_12 rfl 1 rfl ?_
      refine gV_sipush (v := 256) C dX1_has_13 rfl ?_
      refine gV_icmp_ge (tgt := 23) C dX1_has_16 (by decide) (fun c16 => ?_) (fun c16 => ?_)
      · replace hp := g_ift hp c16
        refine gV_loc [0] rfl ?_
        exact J23 hp
      · replace hp := g_iff hp c16
        refine gV_iconst (v := 1) C dX1_has_19 rfl ?_
        refine gV_goto (tgt := 24) C dX1_has_20 (by decide) ?_
        refine gV_loc [0] rfl ?_
        exact J24 1 hp
def pf_X1_layRow_j89  (gcb : Nat → Int32) (gpb : Nat → Int64) : Option ((Nat → Int32) × (Nat → Int64)) := (some (gcb, gpb))
def pf_X1_layRow_j67 (v1 : Int32) (uR : Int32) (v2 : Int32) (v3 : Int64) (gcb : Nat → Int32) (gpb : Nat → Int64) : Option ((Nat → Int32) × (Nat → Int64)) := (ob1 (pf_X1_has uR v1) fun r69 => (if r69 = 0 then (pf_X1_layRow_j89 gcb gpb) else (gi v1 256 (gi v1 256 (pf_X1_layRow_j89 (upd gcb v1.toNatClampNeg v2) (vp_updL gpb v1.toNatClampNeg v3))))))
def pf_X1_layRow_L10 (v1 : Int32) (uP : Int32) (uC : Int32) (uR : Int32) (gcb : Nat → Int32) (gpb : Nat → Int64) : Nat → Int32 → Int64 → Int32 → Int32 → Option ((Nat → Int32) × (Nat → Int64))
  | 0, _, _, _, _ => none
  | n10 + 1, v2, v3, v5, v6 => (if uP ≤ v6 then (pf_X1_layRow_j67 v1 uR v2 v3 gcb gpb) else (if uC ≤ 0 then (pf_X1_layRow_j67 v1 uR v2 v3 gcb gpb) else (gd uC (gd uC (gl (v2 ||| ((v5 - v5 / uC * uC) <<< ((3 * v6) &&& 31))) fun v2_53 => (ob1 (pf_X1_withPin v3 (v5 - v5 / uC * uC)) fun r57 => (pf_X1_layRow_L10 v1 uP uC uR gcb gpb n10 v2_53 r57 (v5 / uC) (v6 + 1))))))))
def pf_X1_layRow  (uP : Int32) (uC : Int32) (uR : Int32) (gcb : Nat → Int32) (gpb : Nat → Int64) (v1 : Int32) : Option ((Nat → Int32) × (Nat → Int64)) := (pf_X1_layRow_L10 v1 uP uC uR gcb gpb 100000 0 0 v1 0)
abbrev rm_X1_layRow : Room := { frames := 1, cells := 0, slots := 0, locals := 25 }
theorem inw_X1_layRow_X1 : ∀ w ∈ wsX10, w ∈ wsX1_layRow := by decide +kernel
theorem hdv_X1_has : yX1_has.cls = RX1 ∧ yX1_has.cls ≠ "java/lang/invoke/MethodHandle" ∧ yX1_has.cls ≠ "java/lang/invoke/VarHandle" ∧ (parseMethodDescriptor yX1_has.desc).map (fun d => d.parameters.length) = some 1 := by decide +kernel
theorem hds_X1_withPin : yX1_withPin.cls ≠ "java/lang/invoke/MethodHandle" ∧ yX1_withPin.cls ≠ "java/lang/invoke/VarHandle" ∧ (parseMethodDescriptor yX1_withPin.desc).map (fun d => d.parameters.length) = some 2 := by decide +kernel
set_option maxHeartbeats 4000000 in
set_option maxRecDepth 100000 in
theorem mt_X1_layRow {l : Launch} (hl : l.stackTraces = false) (D : va_G) (h : Nat → Nat) (cI cJ : ClassId) (lc : Int32) (la : Int32) (hr : Int32) (uP : Int32) (uC : Int32) (uR : Int32) (tn : Int32) (pn : Int32) (pg : Int32) (pq : Int32) (rl : Nat → Int32) (sr : Nat → Int32) (gcb : Nat → Int32) (gpb : Nat → Int64) (tg : Nat → Int32) (tm : Nat → Int32) (tl : Nat → Int32) (pm : Nat → Int32) (ps : Nat → Int32) (v1 : Int32) (gcb0 : Nat → Int32) (gpb0 : Nat → Int64) (hp : pf_X1_layRow uP uC uR gcb gpb v1 = (some (gcb0, gpb0))) : gMv l yX1_layRow wsX1_layRow rm_X1_layRow D [(cI, .int), (cJ, .long)] (cW h cI cJ lc la hr uP uC uR tn pn pg pq rl sr gcb gpb tg tm tl pm ps) [.ref (h 1), .int v1] 0 0 (fun w => w = cW h cI cJ lc la hr uP uC uR tn pn pg pq rl sr gcb0 gpb0 tg tm tl pm ps) (fun _ _ => False) := by
  refine gMv_of (cc := cX1_layRow) (maxL := 8) hl (by decide +kernel) rfl (Nat.le_of_ble_eq_true rfl) ?_
  intro p e s m args below meth c A Q C hnm ht RET OUT THR THRW
  have C : gC p l s m args meth c A D [(cI, .int), (cJ, .long)] 8 RX1 cX1_layRow wsX1_layRow := C
  refine gV_loc (lvs' := [(0, .ref (h 1)), (1, .int v1)]) [0, 1] rfl ?_
  unfold pf_X1_layRow at hp
  have J89 : ∀ (gcb : Nat → Int32) (gpb : Nat → Int64), pf_X1_layRow_j89 gcb gpb = (some (gcb0, gpb0)) → gV p l e rm_X1_layRow s m args below meth c A D 8 Q (cW h cI cJ lc la hr uP uC uR tn pn pg pq rl sr gcb gpb tg tm tl pm ps) [(0, .ref (h 1))] 0 0 89 [] := by
    intro gcb gpb hp
    unfold pf_X1_layRow_j89 at hp
    obtain ⟨rfl, rfl⟩ := g_so2 hp
    exact RET _ _ _ _ _ dX1_layRow_89 (Nat.le_of_ble_eq_true rfl) (Nat.le_of_ble_eq_true rfl) rfl
  have J67 : ∀ (v2 : Int32) (v3 : Int64) (gcb : Nat → Int32) (gpb : Nat → Int64), pf_X1_layRow_j67 v1 uR v2 v3 gcb gpb = (some (gcb0, gpb0)) → gV p l e rm_X1_layRow s m args below meth c A D 8 Q (cW h cI cJ lc la hr uP uC uR tn pn pg pq rl sr gcb gpb tg tm tl pm ps) [(0, .ref (h 1)), (1, .int v1), (2, .int v2), (3, .long v3)] 0 0 67 [] := by
    intro v2 v3 gcb gpb hp
    unfold pf_X1_layRow_j67 at hp
    refine gV_aload_n C dX1_layRow_67 rfl 0 rfl ?_
    refine gV_iload_n C dX1_layRow_68 rfl 1 rfl ?_
    obtain ⟨r69q, hq69, hp⟩ := g_ob1 hp
    refine gV_calliS C (gV_runV (As := [.int v1]) (rest := []) C (mt_X1_has hl D h cI cJ lc la hr uP uC uR tn pn pg pq rl sr gcb gpb tg tm tl pm ps v1 r69q hq69) (cwV 1 C.2.2.2.2.1 gX1_layRow_X1_has rfl rfl rfl hdv_X1_has ⟨Nat.le_of_ble_eq_true rfl, Nat.le_of_ble_eq_true rfl⟩) (gSub_S _) 1 rfl rfl rfl rfl (Nat.le_of_ble_eq_true rfl) dX1_layRow_69 ⟨Nat.le_of_ble_eq_true rfl, Nat.le_of_ble_eq_true rfl⟩) (fun _ _ hx => False.elim hx) (fun r69 w1 hw => ?_)
    obtain ⟨rfl, rfl⟩ := hw
    refine gV_if_eq (tgt := 89) C dX1_layRow_72 (by decide) (fun c72 => ?_) (fun c72 => ?_)
    · replace hp := g_ift hp c72
      refine gV_loc [0] rfl ?_
      exact J89 gcb gpb hp
    · replace hp := g_iff hp c72
      refine gV_aload_n C dX1_layRow_75 rfl 0 rfl ?_
      refine gV_get (Cn := RX1) (T := TX1) (N := 5) C inw_X1_layRow_X1 1 rfl rfl 3 (by decide) (C.w 3 rfl) rfl rfl dX1_layRow_76 ?_
      refine gV_iload_n C dX1_layRow_79 rfl 1 rfl ?_
      refine gV_iload_n C dX1_layRow_80 rfl 2 rfl ?_
      obtain ⟨hi81, hp⟩ := g_idx hp
      refine gV_iast (ws' := cW h cI cJ lc la hr uP uC uR tn pn pg pq rl sr (upd gcb v1.toNatClampNeg v2) gpb tg tm tl pm ps) C 6 rfl 0 rfl hi81 dX1_layRow_81 rfl ?_
      refine gV_aload_n C dX1_layRow_82 rfl 0 rfl ?_
      refine gV_get (Cn := RX1) (T := TX1) (N := 5) C inw_X1_layRow_X1 1 rfl rfl 4 (by decide) (C.w 4 rfl) rfl rfl dX1_layRow_83 ?_
      refine gV_iload_n C dX1_layRow_86 rfl 1 rfl ?_
      refine gV_lload_n C dX1_layRow_87 rfl 3 rfl ?_
      obtain ⟨hi88, hp⟩ := g_idx hp
      refine gV_last (ws' := cW h cI cJ lc la hr uP uC uR tn pn pg pq rl sr (upd gcb v1.toNatClampNeg v2) (vp_updL gpb v1.toNatClampNeg v3) tg tm tl pm ps) C 7 rfl 1 rfl hi88 dX1_layRow_88 rfl ?_
      refine gV_loc [0] rfl ?_
      exact J89 (upd gcb v1.toNatClampNeg v2) (vp_updL gpb v1.toNatClampNeg v3) hp
  have L10 : ∀ (gcb : Nat → Int32) (gpb : Nat → Int64) (n10 : Nat) (v2 : Int32) (v3 : Int64) (v5 : Int32) (v6 : Int32), pf_X1_layRow_L10 v1 uP uC uR gcb gpb n10 v2 v3 v5 v6 = (some (gcb0, gpb0)) → gV p l e rm_X1_layRow s m args below meth c A D 8 Q (cW h cI cJ lc la hr uP uC uR tn pn pg pq rl sr gcb gpb tg tm tl pm ps) [(0, .ref (h 1)), (1, .int v1), (2, .int v2), (3, .long v3), (5, .int v5), (6, .int v6)] 0 0 10 [] := by
    intro gcb gpb n10
    induction n10 with
    | zero => intro v2 v3 v5 v6 hp; exact g_none hp
    | succ n10 ih10 =>
      intro v2 v3 v5 v6 hp
      rw [pf_X1_layRow_L10.eq_2] at hp
      refine gV_iload C dX1_layRow_10 5 rfl ?_
      refine gV_aload_n C dX1_layRow_12 rfl 0 rfl ?_
      refine gV_get (Cn := RX1) (T := TX1) (N := 5) C inw_X1_layRow_X1 1 rfl rfl 0 (by decide) (C.w 1 rfl) rfl rfl dX1_layRow_13 ?_
      refine gV_icmp_ge (tgt := 67) C dX1_layRow_16 (by decide) (fun c16 => ?_) (fun c16 => ?_)
      · replace hp := g_ift hp c16
        refine gV_loc [0, 1, 2, 3] rfl ?_
        exact J67 v2 v3 gcb gpb hp
      · replace hp := g_iff hp c16
        refine gV_aload_n C dX1_layRow_19 rfl 0 rfl ?_
        refine gV_get (Cn := RX1) (T := TX1) (N := 5) C inw_X1_layRow_X1 1 rfl rfl 1 (by decide) (C.w 2 rfl) rfl rfl dX1_layRow_20 ?_
        refine gV_if_le (tgt := 67) C dX1_layRow_23 (by decide) (fun c23 => ?_) (fun c23 => ?_)
        · replace hp := g_ift hp c23
          refine gV_loc [0, 1, 2, 3] rfl ?_
          exact J67 v2 v3 gcb gpb hp
        · replace hp := g_iff hp c23
          refine gV_iload C dX1_layRow_26 4 rfl ?_
          refine gV_aload_n C dX1_layRow_28 rfl 0 rfl ?_
          refine gV_get (Cn := RX1) (T := TX1) (N := 5) C inw_X1_layRow_X1 1 rfl rfl 1 (by decide) (C.w 2 rfl) rfl rfl dX1_layRow_29 ?_
          obtain ⟨hd32, hp⟩ := g_div hp
          refine gV_irem C dX1_layRow_32 hd32 ?_
          refine gV_istore (lvs' := [(7, .int (v5 - v5 / uC * uC)), (0, .ref (h 1)), (1, .int v1), (2, .int v2), (3, .long v3), (5, .int v5), (6, .int v6)]) C dX1_layRow_33 (by decide) rfl ?_
          refine gV_iload C dX1_layRow_35 5 rfl ?_
          refine gV_aload_n C dX1_layRow_37 rfl 1 rfl ?_
          refine gV_get (Cn := RX1) (T := TX1) (N := 5) C inw_X1_layRow_X1 1 rfl rfl 1 (by decide) (C.w 2 rfl) rfl rfl dX1_layRow_38 ?_
          obtain ⟨hd41, hp⟩ := g_div hp
          refine gV_idiv C dX1_layRow_41 hd41 ?_
          refine gV_istore (lvs' := [(5, .int (v5 / uC)), (7, .int (v5 - v5 / uC * uC)), (0, .ref (h 1)), (1, .int v1), (2, .int v2), (3, .long v3), (6, .int v6)]) C dX1_layRow_42 (by decide) rfl ?_
          refine gV_iload_n C dX1_layRow_44 rfl 4 rfl ?_
          refine gV_iload C dX1_layRow_45 1 rfl ?_
          refine gV_iconst (v := 3) C dX1_layRow_47 rfl ?_
          refine gV_iload C dX1_layRow_48 6 rfl ?_
          refine gV_imul C dX1_layRow_50 ?_
          refine gV_ishl C dX1_layRow_51 ?_
          refine gV_ior C dX1_layRow_52 ?_
          refine gV_topI (fun v2_53 he53 => ?_)
          replace hp := g_let hp he53
          refine gV_istore_n (lvs' := [(2, .int v2_53), (5, .int (v5 / uC)), (7, .int (v5 - v5 / uC * uC)), (0, .ref (h 1)), (1, .int v1), (3, .long v3), (6, .int v6)]) C dX1_layRow_53 rfl (by decide) rfl ?_
          refine gV_lload_n C dX1_layRow_54 rfl 5 rfl ?_
          refine gV_iload C dX1_layRow_55 2 rfl ?_
          obtain ⟨r57q, hq57, hp⟩ := g_ob1 hp
          refine gV_calllE C (gV_runS (As := [.long v3, .int (v5 - v5 / uC * uC)]) (rest := []) C (mt_X1_withPin hl D cI cJ v3 (v5 - v5 / uC * uC) r57q hq57) (va_cwS 2 C.2.2.2.2.1 gX1_layRow_X1_withPin rfl rfl rfl hds_X1_withPin ⟨Nat.le_of_ble_eq_true rfl, Nat.le_of_ble_eq_true rfl⟩) (gSub_E _) rfl rfl (Nat.le_of_ble_eq_true rfl) dX1_layRow_57 ⟨Nat.le_of_ble_eq_true rfl, Nat.le_of_ble_eq_true rfl⟩) (fun _ _ hx => False.elim hx) (fun r57 w1 hw => ?_)
          obtain ⟨rfl, rfl⟩ := hw
          refine ⟨rfl, ?_⟩
          refine gV_lstore_n (lvs' := [(3, .long r57), (2, .int v2_53), (5, .int (v5 / uC)), (7, .int (v5 - v5 / uC * uC)), (0, .ref (h 1)), (1, .int v1), (6, .int v6)]) C dX1_layRow_60 rfl (by decide) rfl ?_
          refine gV_iinc (v := (v6 + 1)) (lvs' := [(6, .int (v6 + 1)), (3, .long r57), (2, .int v2_53), (5, .int (v5 / uC)), (7, .int (v5 - v5 / uC * uC)), (0, .ref (h 1)), (1, .int v1)]) C dX1_layRow_61 6 rfl rfl (by decide) rfl ?_
          refine gV_goto (tgt := 10) C dX1_layRow_64 (by decide) ?_
          refine gV_loc [5, 6, 2, 1, 3, 0] rfl ?_
          exact ih10 v2_53 r57 (v5 / uC) (v6 + 1) hp
  refine gV_iconst (v := 0) C dX1_layRow_0 rfl ?_
  refine gV_istore_n (lvs' := [(2, .int 0), (0, .ref (h 1)), (1, .int v1)]) C dX1_layRow_1 rfl (by decide) rfl ?_
  refine gV_lconst (v := 0) C dX1_layRow_2 rfl ?_
  refine gV_lstore_n (lvs' := [(3, .long 0), (2, .int 0), (0, .ref (h 1)), (1, .int v1)]) C dX1_layRow_3 rfl (by decide) rfl ?_
  refine gV_iload_n C dX1_layRow_4 rfl 3 rfl ?_
  refine gV_istore (lvs' := [(5, .int v1), (3, .long 0), (2, .int 0), (0, .ref (h 1)), (1, .int v1)]) C dX1_layRow_5 (by decide) rfl ?_
  refine gV_iconst (v := 0) C dX1_layRow_7 rfl ?_
  refine gV_istore (lvs' := [(6, .int 0), (5, .int v1), (3, .long 0), (2, .int 0), (0, .ref (h 1)), (1, .int v1)]) C dX1_layRow_8 (by decide) rfl ?_
  refine gV_loc [4, 5, 3, 2, 1, 0] rfl ?_
  exact L10 gcb gpb 100000 0 0 v1 0 hp
def pf_X1_lay_j22  (uP : Int32) (uC : Int32) (uR : Int32) (gcb : Nat → Int32) (gpb : Nat → Int64) : Option (Int32 × Int32 × Int32 × Int32 × (Nat → Int32) × (Nat → Int64)) := (some (0, uP, uC, uR, gcb, gpb))
def pf_X1_lay_L72  (v3 : Int32) (uP : Int32) (uC : Int32) (uR : Int32) : Nat → Int32 → (Nat → Int32) → (Nat → Int64) → Option (Int32 × Int32 × Int32 × Int32 × (Nat → Int32) × (Nat → Int64))
  | 0, _, _, _ => none
  | n72 + 1, v4, gcb, gpb => (if v3 ≤ v4 then (some (1, uP, uC, uR, gcb, gpb)) else (ob2 (pf_X1_layRow uP uC uR gcb gpb v4) fun gcb_81 gpb_81 => (pf_X1_lay_L72 v3 uP uC uR n72 (v4 + 1) gcb_81 gpb_81)))
def pf_X1_lay_L29 (v1 : Int32) (v2 : Int32) (uP : Int32) (uC : Int32) (uR : Int32) (gcb : Nat → Int32) (gpb : Nat → Int64) : Nat → Int32 → Int32 → Option (Int32 × Int32 × Int32 × Int32 × (Nat → Int32) × (Nat → Int64))
  | 0, _, _ => none
  | n29 + 1, v3, v4 => (if v1 ≤ v4 then (if v3 ≤ 256 then (pf_X1_lay_L72 v3 v1 v2 v3 100000 0 gcb gpb) else (some (0, uP, uC, uR, gcb, gpb))) else (pf_X1_lay_L29 v1 v2 uP uC uR gcb gpb n29 (v3 * v2) (v4 + 1)))
def pf_X1_lay  (uP : Int32) (uC : Int32) (uR : Int32) (gcb : Nat → Int32) (gpb : Nat → Int64) (v1 : Int32) (v2 : Int32) : Option (Int32 × Int32 × Int32 × Int32 × (Nat → Int32) × (Nat → Int64)) := (if v1 < 1 then (pf_X1_lay_j22 uP uC uR gcb gpb) else (if 8 < v1 then (pf_X1_lay_j22 uP uC uR gcb gpb) else (if v2 < 2 then (pf_X1_lay_j22 uP uC uR gcb gpb) else (if v2 ≤ 6 then (pf_X1_lay_L29 v1 v2 uP uC uR gcb gpb 100000 1 0) else (pf_X1_lay_j22 uP uC uR gcb gpb)))))
abbrev rm_X1_lay : Room := { frames := 2, cells := 0, slots := 0, locals := 52 }
theorem inw_X1_lay_X1 : ∀ w ∈ wsX10, w ∈ wsX1_lay := by decide +kernel
theorem hdv_X1_layRow : yX1_layRow.cls = RX1 ∧ yX1_layRow.cls ≠ "java/lang/invoke/MethodHandle" ∧ yX1_layRow.cls ≠ "java/lang/invoke/VarHandle" ∧ (parseMethodDescriptor yX1_layRow.desc).map (fun d => d.parameters.length) = some 1 := by decide +kernel
set_option maxHeartbeats 4000000 in
set_option maxRecDepth 100000 in
theorem mt_X1_lay {l : Launch} (hl : l.stackTraces = false) (D : va_G) (h : Nat → Nat) (cI cJ : ClassId) (lc : Int32) (la : Int32) (hr : Int32) (uP : Int32) (uC : Int32) (uR : Int32) (tn : Int32) (pn : Int32) (pg : Int32) (pq : Int32) (rl : Nat → Int32) (sr : Nat → Int32) (gcb : Nat → Int32) (gpb : Nat → Int64) (tg : Nat → Int32) (tm : Nat → Int32) (tl : Nat → Int32) (pm : Nat → Int32) (ps : Nat → Int32) (v1 : Int32) (v2 : Int32) (r0 : Int32) (uP0 : Int32) (uC0 : Int32) (uR0 : Int32) (gcb0 : Nat → Int32) (gpb0 : Nat → Int64) (hp : pf_X1_lay uP uC uR gcb gpb v1 v2 = (some (r0, uP0, uC0, uR0, gcb0, gpb0))) : gMi l yX1_lay wsX1_lay rm_X1_lay D [(cI, .int), (cJ, .long)] (cW h cI cJ lc la hr uP uC uR tn pn pg pq rl sr gcb gpb tg tm tl pm ps) [.ref (h 1), .int v1, .int v2] 0 0 (fun r w => r = r0 ∧ w = cW h cI cJ lc la hr uP0 uC0 uR0 tn pn pg pq rl sr gcb0 gpb0 tg tm tl pm ps) (fun _ _ => False) := by
  refine gMi_of (cc := cX1_lay) (maxL := 5) (rt := .boolean) hl (by decide +kernel) rfl (Nat.le_of_ble_eq_true rfl) ?_
  intro p e s m args below meth c A Q C hnm ht RET OUT THR THRW
  have C : gC p l s m args meth c A D [(cI, .int), (cJ, .long)] 5 RX1 cX1_lay wsX1_lay := C
  refine gV_loc (lvs' := [(0, .ref (h 1)), (1, .int v1), (2, .int v2)]) [0, 1, 2] rfl ?_
  unfold pf_X1_lay at hp
  have L72 : ∀ (v3 : Int32) (uP : Int32) (uC : Int32) (uR : Int32) (n72 : Nat) (v4 : Int32) (gcb : Nat → Int32) (gpb : Nat → Int64), pf_X1_lay_L72 v3 uP uC uR n72 v4 gcb gpb = (some (r0, uP0, uC0, uR0, gcb0, gpb0)) → gV p l e rm_X1_lay s m args below meth c A D 5 Q (cW h cI cJ lc la hr uP uC uR tn pn pg pq rl sr gcb gpb tg tm tl pm ps) [(0, .ref (h 1)), (3, .int v3), (4, .int v4)] 0 0 72 [] := by
    intro v3 uP uC uR n72
    induction n72 with
    | zero => intro v4 gcb gpb hp; exact g_none hp
    | succ n72 ih72 =>
      intro v4 gcb gpb hp
      rw [pf_X1_lay_L72.eq_2] at hp
      refine gV_iload C dX1_lay_72 2 rfl ?_
      refine gV_iload_n C dX1_lay_74 rfl 1 rfl ?_
      refine gV_icmp_ge (tgt := 90) C dX1_lay_75 (by decide) (fun c75 => ?_) (fun c75 => ?_)
      · replace hp := g_ift hp c75
        refine gV_iconst (v := 1) C dX1_lay_90 rfl ?_
        obtain ⟨rfl, rfl, rfl, rfl, rfl, rfl⟩ := g_so6 hp
        exact RET _ _ _ _ _ _ dX1_lay_91 (Nat.le_of_ble_eq_true rfl) (Nat.le_of_ble_eq_true rfl) rfl ⟨rfl, rfl⟩
      · replace hp := g_iff hp c75
        refine gV_aload_n C dX1_lay_78 rfl 0 rfl ?_
        refine gV_iload C dX1_lay_79 2 rfl ?_
        obtain ⟨gcb_81, gpb_81, hq81, hp⟩ := g_ob2 hp
        refine gV_callvS C (gV_runV (As := [.int v4]) (rest := []) C (mt_X1_layRow hl D h cI cJ lc la hr uP uC uR tn pn pg pq rl sr gcb gpb tg tm tl pm ps v4 gcb_81 gpb_81 hq81) (cwV 1 C.2.2.2.2.1 gX1_lay_X1_layRow rfl rfl rfl hdv_X1_layRow ⟨Nat.le_of_ble_eq_true rfl, Nat.le_of_ble_eq_true rfl⟩) (gSub_S _) 1 rfl rfl rfl rfl (Nat.le_of_ble_eq_true rfl) dX1_lay_81 ⟨Nat.le_of_ble_eq_true rfl, Nat.le_of_ble_eq_true rfl⟩) (fun _ _ hx => False.elim hx) (fun w1 hw => ?_)
        obtain rfl := hw
        refine gV_iinc (v := (v4 + 1)) (lvs' := [(4, .int (v4 + 1)), (0, .ref (h 1)), (3, .int v3)]) C dX1_lay_84 2 rfl rfl (by decide) rfl ?_
        refine gV_goto (tgt := 72) C dX1_lay_87 (by decide) ?_
        refine gV_loc [1, 2, 0] rfl ?_
        exact ih72 (v4 + 1) gcb_81 gpb_81 hp
  have L29 : ∀ (uP : Int32) (uC : Int32) (uR : Int32) (gcb : Nat → Int32) (gpb : Nat → Int64) (n29 : Nat) (v3 : Int32) (v4 : Int32), pf_X1_lay_L29 v1 v2 uP uC uR gcb gpb n29 v3 v4 = (some (r0, uP0, uC0, uR0, gcb0, gpb0)) → gV p l e rm_X1_lay s m args below meth c A D 5 Q (cW h cI cJ lc la hr uP uC uR tn pn pg pq rl sr gcb gpb tg tm tl pm ps) [(0, .ref (h 1)), (1, .int v1), (2, .int v2), (3, .int v3), (4, .int v4)] 0 0 29 [] := by
    intro uP uC uR gcb gpb n29
    induction n29 with
    | zero => intro v3 v4 hp; exact g_none hp
    | succ n29 ih29 =>
      intro v3 v4 hp
      rw [pf_X1_lay_L29.eq_2] at hp
      refine gV_iload C dX1_lay_29 4 rfl ?_
      refine gV_iload_n C dX1_lay_31 rfl 1 rfl ?_
      refine gV_icmp_ge (tgt := 45) C dX1_lay_32 (by decide) (fun c32 => ?_) (fun c32 => ?_)
      · replace hp := g_ift hp c32
        refine gV_iload_n C dX1_lay_45 rfl 3 rfl ?_
        refine gV_sipush (v := 256) C dX1_lay_46 rfl ?_
        refine gV_icmp_le (tgt := 54) C dX1_lay_49 (by decide) (fun c49 => ?_) (fun c49 => ?_)
        · replace hp := g_ift hp c49
          refine gV_aload_n C dX1_lay_54 rfl 0 rfl ?_
          refine gV_iload_n C dX1_lay_55 rfl 1 rfl ?_
          refine gV_put (Cn := RX1) (T := TX1) (N := 5) (ws' := cW h cI cJ lc la hr v1 uC uR tn pn pg pq rl sr gcb gpb tg tm tl pm ps) C inw_X1_lay_X1 tyX1_ok nmX1 1 rfl rfl 0 (by decide) (C.w 1 rfl) rfl rfl rfl rfl rfl (Nat.le_of_ble_eq_true rfl) dX1_lay_56 rfl ?_
          refine gV_aload_n C dX1_lay_59 rfl 0 rfl ?_
          refine gV_iload_n C dX1_lay_60 rfl 2 rfl ?_
          refine gV_put (Cn := RX1) (T := TX1) (N := 5) (ws' := cW h cI cJ lc la hr v1 v2 uR tn pn pg pq rl sr gcb gpb tg tm tl pm ps) C inw_X1_lay_X1 tyX1_ok nmX1 1 rfl rfl 1 (by decide) (C.w 2 rfl) rfl rfl rfl rfl rfl (Nat.le_of_ble_eq_true rfl) dX1_lay_61 rfl ?_
          refine gV_aload_n C dX1_lay_64 rfl 0 rfl ?_
          refine gV_iload_n C dX1_lay_65 rfl 3 rfl ?_
          refine gV_put (Cn := RX1) (T := TX1) (N := 5) (ws' := cW h cI cJ lc la hr v1 v2 v3 tn pn pg pq rl sr gcb gpb tg tm tl pm ps) C inw_X1_lay_X1 tyX1_ok nmX1 1 rfl rfl 2 (by decide) (C.w 3 rfl) rfl rfl rfl rfl rfl (Nat.le_of_ble_eq_true rfl) dX1_lay_66 rfl ?_
          refine gV_iconst (v := 0) C dX1_lay_69 rfl ?_
          refine gV_istore (lvs' := [(4, .int 0), (0, .ref (h 1)), (1, .int v1), (2, .int v2), (3, .int v3)]) C dX1_lay_70 (by decide) rfl ?_
          refine gV_loc [1, 4, 0] rfl ?_
          exact L72 v3 v1 v2 v3 100000 0 gcb gpb hp
        · replace hp := g_iff hp c49
          refine gV_iconst (v := 0) C dX1_lay_52 rfl ?_
          obtain ⟨rfl, rfl, rfl, rfl, rfl, rfl⟩ := g_so6 hp
          exact RET _ _ _ _ _ _ dX1_lay_53 (Nat.le_of_ble_eq_true rfl) (Nat.le_of_ble_eq_true rfl) rfl ⟨rfl, rfl⟩
      · replace hp := g_iff hp c32
        refine gV_iload_n C dX1_lay_35 rfl 3 rfl ?_
        refine gV_iload_n C dX1_lay_36 rfl 2 rfl ?_
        refine gV_imul C dX1_lay_37 ?_
        refine gV_istore_n (lvs' := [(3, .int (v3 * v2)), (0, .ref (h 1)), (1, .int v1), (2, .int v2), (4, .int v4)]) C dX1_lay_38 rfl (by decide) rfl ?_
        refine gV_iinc (v := (v4 + 1)) (lvs' := [(4, .int (v4 + 1)), (3, .int (v3 * v2)), (0, .ref (h 1)), (1, .int v1), (2, .int v2)]) C dX1_lay_39 4 rfl rfl (by decide) rfl ?_
        refine gV_goto (tgt := 29) C dX1_lay_42 (by decide) ?_
        refine gV_loc [2, 3, 4, 1, 0] rfl ?_
        exact ih29 (v3 * v2) (v4 + 1) hp
  have J22 : ∀ (uP : Int32) (uC : Int32) (uR : Int32) (gcb : Nat → Int32) (gpb : Nat → Int64), pf_X1_lay_j22 uP uC uR gcb gpb = (some (r0, uP0, uC0, uR0, gcb0, gpb0)) → gV p l e rm_X1_lay s m args below meth c A D 5 Q (cW h cI cJ lc la hr uP uC uR tn pn pg pq rl sr gcb gpb tg tm tl pm ps) [(0, .ref (h 1))] 0 0 22 [] := by
    intro uP uC uR gcb gpb hp
    unfold pf_X1_lay_j22 at hp
    refine gV_iconst (v := 0) C dX1_lay_22 rfl ?_
    obtain ⟨rfl, rfl, rfl, rfl, rfl, rfl⟩ := g_so6 hp
    exact RET _ _ _ _ _ _ dX1_lay_23 (Nat.le_of_ble_eq_true rfl) (Nat.le_of_ble_eq_true rfl) rfl ⟨rfl, rfl⟩
  refine gV_iload_n C dX1_lay_0 rfl 1 rfl ?_
  refine gV_iconst (v := 1) C dX1_lay_1 rfl ?_
  refine gV_icmp_lt (tgt := 22) C dX1_lay_2 (by decide) (fun c2 => ?_) (fun c2 => ?_)
  · replace hp := g_ift hp c2
    refine gV_loc [0] rfl ?_
    exact J22 uP uC uR gcb gpb hp
  · replace hp := g_iff hp c2
    refine gV_iload_n C dX1_lay_5 rfl 1 rfl ?_
    refine gV_bipush (v := 8) C dX1_lay_6 rfl ?_
    refine gV_icmp_gt (tgt := 22) C dX1_lay_8 (by decide) (fun c8 => ?_) (fun c8 => ?_)
    · replace hp := g_ift hp c8
      refine gV_loc [0] rfl ?_
      exact J22 uP uC uR gcb gpb hp
    · replace hp := g_iff hp c8
      refine gV_iload_n C dX1_lay_11 rfl 2 rfl ?_
      refine gV_iconst (v := 2) C dX1_lay_12 rfl ?_
      refine gV_icmp_lt (tgt := 22) C dX1_lay_13 (by decide) (fun c13 => ?_) (fun c13 => ?_)
      · replace hp := g_ift hp c13
        refine gV_loc [0] rfl ?_
        exact J22 uP uC uR gcb gpb hp
      · replace hp := g_iff hp c13
        refine gV_iload_n C dX1_lay_16 rfl 2 rfl ?_
        refine gV_bipush (v := 6) C dX1_lay_17 rfl ?_
        refine gV_icmp_le (tgt := 24) C dX1_lay_19 (by decide) (fun c19 => ?_) (fun c19 => ?_)
        · replace hp := g_ift hp c19
          refine gV_iconst (v := 1) C dX1_lay_24 rfl ?_
          refine gV_istore_n (lvs' := [(3, .int 1), (0, .ref (h 1)), (1, .int v1), (2, .int v2)]) C dX1_lay_25 rfl (by decide) rfl ?_
          refine gV_iconst (v := 0) C dX1_lay_26 rfl ?_
          refine gV_istore (lvs' := [(4, .int 0), (3, .int 1), (0, .ref (h 1)), (1, .int v1), (2, .int v2)]) C dX1_lay_27 (by decide) rfl ?_
          refine gV_loc [2, 3, 4, 1, 0] rfl ?_
          exact L29 uP uC uR gcb gpb 100000 1 0 hp
        · replace hp := g_iff hp c19
          refine gV_loc [0] rfl ?_
          exact J22 uP uC uR gcb gpb hp
def pf_X1_colourOf  (uP : Int32) (uR : Int32) (gcb : Nat → Int32) (v1 : Int32) (v2 : Int32) : Option (Int32) := (ob1 (pf_X1_has uR v1) fun r2 => (if r2 = 0 then (some 0) else (gi v1 256 (some (((gcb v1.toNatClampNeg) >>> ((3 * ((uP - 1) - v2)) &&& 31)) &&& 7)))))
abbrev rm_X1_colourOf : Room := { frames := 1, cells := 0, slots := 0, locals := 21 }
theorem inw_X1_colourOf_X1 : ∀ w ∈ wsX10, w ∈ wsX1_colourOf := by decide +kernel
set_option maxHeartbeats 4000000 in
set_option maxRecDepth 100000 in
theorem mt_X1_colourOf {l : Launch} (hl : l.stackTraces = false) (D : va_G) (h : Nat → Nat) (cI cJ : ClassId) (lc : Int32) (la : Int32) (hr : Int32) (uP : Int32) (uC : Int32) (uR : Int32) (tn : Int32) (pn : Int32) (pg : Int32) (pq : Int32) (rl : Nat → Int32) (sr : Nat → Int32) (gcb : Nat → Int32) (gpb : Nat → Int64) (tg : Nat → Int32) (tm : Nat → Int32) (tl : Nat → Int32) (pm : Nat → Int32) (ps : Nat → Int32) (v1 : Int32) (v2 : Int32) (r0 : Int32) (hp : pf_X1_colourOf uP uR gcb v1 v2 = (some r0)) : gMi l yX1_colourOf wsX1_colourOf rm_X1_colourOf D [(cI, .int), (cJ, .long)] (cW h cI cJ lc la hr uP uC uR tn pn pg pq rl sr gcb gpb tg tm tl pm ps) [.ref (h 1), .int v1, .int v2] 0 0 (fun r w => r = r0 ∧ w = cW h cI cJ lc la hr uP uC uR tn pn pg pq rl sr gcb gpb tg tm tl pm ps) (fun _ _ => False) := by
  refine gMi_of (cc := cX1_colourOf) (maxL := 3) (rt := .int) hl (by decide +kernel) rfl (Nat.le_of_ble_eq_true rfl) ?_
  intro p e s m args below meth c A Q C hnm ht RET OUT THR THRW
  have C : gC p l s m args meth c A D [(cI, .int), (cJ, .long)] 3 RX1 cX1_colourOf wsX1_colourOf := C
  refine gV_loc (lvs' := [(0, .ref (h 1)), (1, .int v1), (2, .int v2)]) [0, 1, 2] rfl ?_
  unfold pf_X1_colourOf at hp
  refine gV_aload_n C dX1_colourOf_0 rfl 0 rfl ?_
  refine gV_iload_n C dX1_colourOf_1 rfl 1 rfl ?_
  obtain ⟨r2q, hq2, hp⟩ := g_ob1 hp
  refine gV_calliS C (gV_runV (As := [.int v1]) (rest := []) C (mt_X1_has hl D h cI cJ lc la hr uP uC uR tn pn pg pq rl sr gcb gpb tg tm tl pm ps v1 r2q hq2) (cwV 1 C.2.2.2.2.1 gX1_colourOf_X1_has rfl rfl rfl hdv_X1_has ⟨Nat.le_of_ble_eq_true rfl, Nat.le_of_ble_eq_true rfl⟩) (gSub_S _) 1 rfl rfl rfl rfl (Nat.le_of_ble_eq_true rfl) dX1_colourOf_2 ⟨Nat.le_of_ble_eq_true rfl, Nat.le_of_ble_eq_true rfl⟩) (fun _ _ hx => False.elim hx) (fun r2 w1 hw => ?_)
  obtain ⟨rfl, rfl⟩ := hw
  refine gV_if_ne (tgt := 10) C dX1_colourOf_5 (by decide) (fun c5 => ?_) (fun c5 => ?_)
  · replace hp := g_iff hp c5
    refine gV_aload_n C dX1_colourOf_10 rfl 0 rfl ?_
    refine gV_get (Cn := RX1) (T := TX1) (N := 5) C inw_X1_colourOf_X1 1 rfl rfl 3 (by decide) (C.w 1 rfl) rfl rfl dX1_colourOf_11 ?_
    refine gV_iload_n C dX1_colourOf_14 rfl 1 rfl ?_
    obtain ⟨hi15, hp⟩ := g_idx hp
    refine gV_iald C 6 rfl 0 rfl hi15 dX1_colourOf_15 ?_
    refine gV_iconst (v := 3) C dX1_colourOf_16 rfl ?_
    refine gV_aload_n C dX1_colourOf_17 rfl 0 rfl ?_
    refine gV_get (Cn := RX1) (T := TX1) (N := 5) C inw_X1_colourOf_X1 1 rfl rfl 0 (by decide) (C.w 2 rfl) rfl rfl dX1_colourOf_18 ?_
    refine gV_iconst (v := 1) C dX1_colourOf_21 rfl ?_
    refine gV_isub C dX1_colourOf_22 ?_
    refine gV_iload_n C dX1_colourOf_23 rfl 2 rfl ?_
    refine gV_isub C dX1_colourOf_24 ?_
    refine gV_imul C dX1_colourOf_25 ?_
    refine gV_ishr C dX1_colourOf_26 ?_
    refine gV_bipush (v := 7) C dX1_colourOf_27 rfl ?_
    refine gV_iand C dX1_colourOf_29 ?_
    obtain rfl := g_so1 hp
    exact RET _ _ _ _ _ _ dX1_colourOf_30 (Nat.le_of_ble_eq_true rfl) (Nat.le_of_ble_eq_true rfl) rfl ⟨rfl, rfl⟩
  · replace hp := g_ift hp c5
    refine gV_iconst (v := 0) C dX1_colourOf_8 rfl ?_
    obtain rfl := g_so1 hp
    exact RET _ _ _ _ _ _ dX1_colourOf_9 (Nat.le_of_ble_eq_true rfl) (Nat.le_of_ble_eq_true rfl) rfl ⟨rfl, rfl⟩
def pf_X1_allBlack  (uP : Int32)  : Option (Int32) := (some (10 * uP))
abbrev rm_X1_allBlack : Room := { frames := 0, cells := 0, slots := 0, locals := 0 }
theorem inw_X1_allBlack_X1 : ∀ w ∈ wsX10, w ∈ wsX1_allBlack := by decide +kernel
set_option maxHeartbeats 4000000 in
set_option maxRecDepth 100000 in
theorem mt_X1_allBlack {l : Launch} (hl : l.stackTraces = false) (D : va_G) (h : Nat → Nat) (cI cJ : ClassId) (lc : Int32) (la : Int32) (hr : Int32) (uP : Int32) (uC : Int32) (uR : Int32) (tn : Int32) (pn : Int32) (pg : Int32) (pq : Int32) (rl : Nat → Int32) (sr : Nat → Int32) (gcb : Nat → Int32) (gpb : Nat → Int64) (tg : Nat → Int32) (tm : Nat → Int32) (tl : Nat → Int32) (pm : Nat → Int32) (ps : Nat → Int32)  (r0 : Int32) (hp : pf_X1_allBlack uP = (some r0)) : gMi l yX1_allBlack wsX1_allBlack rm_X1_allBlack D [(cI, .int), (cJ, .long)] (cW h cI cJ lc la hr uP uC uR tn pn pg pq rl sr gcb gpb tg tm tl pm ps) [.ref (h 1)] 0 0 (fun r w => r = r0 ∧ w = cW h cI cJ lc la hr uP uC uR tn pn pg pq rl sr gcb gpb tg tm tl pm ps) (fun _ _ => False) := by
  refine gMi_of (cc := cX1_allBlack) (maxL := 1) (rt := .int) hl (by decide +kernel) rfl (Nat.le_of_ble_eq_true rfl) ?_
  intro p e s m args below meth c A Q C hnm ht RET OUT THR THRW
  have C : gC p l s m args meth c A D [(cI, .int), (cJ, .long)] 1 RX1 cX1_allBlack wsX1_allBlack := C
  refine gV_loc (lvs' := [(0, .ref (h 1))]) [0] rfl ?_
  unfold pf_X1_allBlack at hp
  refine gV_bipush (v := 10) C dX1_allBlack_0 rfl ?_
  refine gV_aload_n C dX1_allBlack_2 rfl 0 rfl ?_
  refine gV_get (Cn := RX1) (T := TX1) (N := 5) C inw_X1_allBlack_X1 1 rfl rfl 0 (by decide) (C.w 1 rfl) rfl rfl dX1_allBlack_3 ?_
  refine gV_imul C dX1_allBlack_6 ?_
  obtain rfl := g_so1 hp
  exact RET _ _ _ _ _ _ dX1_allBlack_7 (Nat.le_of_ble_eq_true rfl) (Nat.le_of_ble_eq_true rfl) rfl ⟨rfl, rfl⟩
def pf_X1_allows_j58  (s0 : Int32) : Option (Int32) := (gz s0 ((some s0)))
def pf_X1_allows_j57  : Option (Int32) := (pf_X1_allows_j58 0)
def pf_X1_allows_j36 (uP : Int32) (v2 : Int32) (v3 : Int32) (s0 : Int32) : Option (Int32) := (if uP < (v2 + v3) then (pf_X1_allows_j57) else (if s0 = 0 then (pf_X1_allows_j58 1) else (pf_X1_allows_j57)))
def pf_X1_allows_j35 (uP : Int32) (v2 : Int32) (v3 : Int32) : Option (Int32) := (pf_X1_allows_j36 uP v2 v3 0)
def pf_X1_allows  (uP : Int32) (v1 : Int32) : Option (Int32) := (if 0 ≤ v1 then (if (v1 - v1 / 10 * 10) = 1 then (if (v1 / 10) = (uP - 1) then (pf_X1_allows_j36 uP (v1 / 10) (v1 - v1 / 10 * 10) 1) else (pf_X1_allows_j35 uP (v1 / 10) (v1 - v1 / 10 * 10))) else (pf_X1_allows_j35 uP (v1 / 10) (v1 - v1 / 10 * 10))) else (some 0))
abbrev rm_X1_allows : Room := { frames := 0, cells := 0, slots := 0, locals := 0 }
theorem inw_X1_allows_X1 : ∀ w ∈ wsX10, w ∈ wsX1_allows := by decide +kernel
set_option maxHeartbeats 4000000 in
set_option maxRecDepth 100000 in
theorem mt_X1_allows {l : Launch} (hl : l.stackTraces = false) (D : va_G) (h : Nat → Nat) (cI cJ : ClassId) (lc : Int32) (la : Int32) (hr : Int32) (uP : Int32) (uC : Int32) (uR : Int32) (tn : Int32) (pn : Int32) (pg : Int32) (pq : Int32) (rl : Nat → Int32) (sr : Nat → Int32) (gcb : Nat → Int32) (gpb : Nat → Int64) (tg : Nat → Int32) (tm : Nat → Int32) (tl : Nat → Int32) (pm : Nat → Int32) (ps : Nat → Int32) (v1 : Int32) (r0 : Int32) (hp : pf_X1_allows uP v1 = (some r0)) : gMi l yX1_allows wsX1_allows rm_X1_allows D [(cI, .int), (cJ, .long)] (cW h cI cJ lc la hr uP uC uR tn pn pg pq rl sr gcb gpb tg tm tl pm ps) [.ref (h 1), .int v1] 0 0 (fun r w => r = r0 ∧ w = cW h cI cJ lc la hr uP uC uR tn pn pg pq rl sr gcb gpb tg tm tl pm ps) (fun _ _ => False) := by
  refine gMi_of (cc := cX1_allows) (maxL := 5) (rt := .boolean) hl (by decide +kernel) rfl (Nat.le_of_ble_eq_true rfl) ?_
  intro p e s m args below meth c A Q C hnm ht RET OUT THR THRW
  have C : gC p l s m args meth c A D [(cI, .int), (cJ, .long)] 5 RX1 cX1_allows wsX1_allows := C
  refine gV_loc (lvs' := [(0, .ref (h 1)), (1, .int v1)]) [0, 1] rfl ?_
  unfold pf_X1_allows at hp
  have J58 : ∀ (s0 : Int32), pf_X1_allows_j58 s0 = (some r0) → gV p l e rm_X1_allows s m args below meth c A D 5 Q (cW h cI cJ lc la hr uP uC uR tn pn pg pq rl sr gcb gpb tg tm tl pm ps) [(0, .ref (h 1))] 0 0 58 [.int s0] := by
    intro s0 hp
    unfold pf_X1_allows_j58 at hp
    obtain ⟨hz58, hp⟩ := g_bool hp
    obtain rfl := g_so1 hp
    exact RET _ _ _ _ _ _ dX1_allows_58 (Nat.le_of_ble_eq_true rfl) (Nat.le_of_ble_eq_true rfl) (g_nz hz58) ⟨rfl, rfl⟩
  have J57 : pf_X1_allows_j57 = (some r0) → gV p l e rm_X1_allows s m args below meth c A D 5 Q (cW h cI cJ lc la hr uP uC uR tn pn pg pq rl sr gcb gpb tg tm tl pm ps) [(0, .ref (h 1))] 0 0 57 [] := by
    intro hp
    unfold pf_X1_allows_j57 at hp
    refine gV_iconst (v := 0) C dX1_allows_57 rfl ?_
    exact J58 0 hp
  have J36 : ∀ (v2 : Int32) (v3 : Int32) (s0 : Int32), pf_X1_allows_j36 uP v2 v3 s0 = (some r0) → gV p l e rm_X1_allows s m args below meth c A D 5 Q (cW h cI cJ lc la hr uP uC uR tn pn pg pq rl sr gcb gpb tg tm tl pm ps) [(0, .ref (h 1)), (2, .int v2), (3, .int v3)] 0 0 36 [.int s0] := by
    intro v2 v3 s0 hp
    unfold pf_X1_allows_j36 at hp
    refine gV_istore (lvs' := [(4, .int s0), (0, .ref (h 1)), (2, .int v2), (3, .int v3)]) C dX1_allows_36 (by decide) rfl ?_
    refine gV_iload_n C dX1_allows_38 rfl 2 rfl ?_
    refine gV_iload_n C dX1_allows_39 rfl 3 rfl ?_
    refine gV_iadd C dX1_allows_40 ?_
    refine gV_aload_n C dX1_allows_41 rfl 1 rfl ?_
    refine gV_get (Cn := RX1) (T := TX1) (N := 5) C inw_X1_allows_X1 1 rfl rfl 0 (by decide) (C.w 1 rfl) rfl rfl dX1_allows_42 ?_
    refine gV_icmp_gt (tgt := 57) C dX1_allows_45 (by decide) (fun c45 => ?_) (fun c45 => ?_)
    · replace hp := g_ift hp c45
      refine gV_loc [1] rfl ?_
      exact J57 hp
    · replace hp := g_iff hp c45
      refine gV_iload C dX1_allows_48 0 rfl ?_
      refine gV_if_ne (tgt := 57) C dX1_allows_50 (by decide) (fun c50 => ?_) (fun c50 => ?_)
      · replace hp := g_iff hp c50
        refine gV_loc [1] rfl ?_
        exact J57 hp
      · replace hp := g_ift hp c50
        refine gV_iconst (v := 1) C dX1_allows_53 rfl ?_
        refine gV_goto (tgt := 58) C dX1_allows_54 (by decide) ?_
        refine gV_loc [1] rfl ?_
        exact J58 1 hp
  have J35 : ∀ (v2 : Int32) (v3 : Int32), pf_X1_allows_j35 uP v2 v3 = (some r0) → gV p l e rm_X1_allows s m args below meth c A D 5 Q (cW h cI cJ lc la hr uP uC uR tn pn pg pq rl sr gcb gpb tg tm tl pm ps) [(0, .ref (h 1)), (2, .int v2), (3, .int v3)] 0 0 35 [] := by
    intro v2 v3 hp
    unfold pf_X1_allows_j35 at hp
    refine gV_iconst (v := 0) C dX1_allows_35 rfl ?_
    exact J36 v2 v3 0 hp
  refine gV_iload_n C dX1_allows_0 rfl 1 rfl ?_
  refine gV_if_ge (tgt := 6) C dX1_allows_1 (by decide) (fun c1 => ?_) (fun c1 => ?_)
  · replace hp := g_ift hp c1
    refine gV_iload_n C dX1_allows_6 rfl 1 rfl ?_
    refine gV_bipush (v := 10) C dX1_allows_7 rfl ?_
    refine gV_idiv C dX1_allows_9 (by decide) ?_
    refine gV_istore_n (lvs' := [(2, .int (v1 / 10)), (0, .ref (h 1)), (1, .int v1)]) C dX1_allows_10 rfl (by decide) rfl ?_
    refine gV_iload_n C dX1_allows_11 rfl 2 rfl ?_
    refine gV_bipush (v := 10) C dX1_allows_12 rfl ?_
    refine gV_irem C dX1_allows_14 (by decide) ?_
    refine gV_istore_n (lvs' := [(3, .int (v1 - v1 / 10 * 10)), (2, .int (v1 / 10)), (0, .ref (h 1)), (1, .int v1)]) C dX1_allows_15 rfl (by decide) rfl ?_
    refine gV_iload_n C dX1_allows_16 rfl 0 rfl ?_
    refine gV_iconst (v := 1) C dX1_allows_17 rfl ?_
    refine gV_icmp_ne (tgt := 35) C dX1_allows_18 (by decide) (fun c18 => ?_) (fun c18 => ?_)
    · replace hp := g_iff hp c18
      refine gV_loc [2, 1, 0] rfl ?_
      exact J35 (v1 / 10) (v1 - v1 / 10 * 10) hp
    · replace hp := g_ift hp c18
      refine gV_iload_n C dX1_allows_21 rfl 1 rfl ?_
      refine gV_aload_n C dX1_allows_22 rfl 2 rfl ?_
      refine gV_get (Cn := RX1) (T := TX1) (N := 5) C inw_X1_allows_X1 1 rfl rfl 0 (by decide) (C.w 1 rfl) rfl rfl dX1_allows_23 ?_
      refine gV_iconst (v := 1) C dX1_allows_26 rfl ?_
      refine gV_isub C dX1_allows_27 ?_
      refine gV_icmp_ne (tgt := 35) C dX1_allows_28 (by decide) (fun c28 => ?_) (fun c28 => ?_)
      · replace hp := g_iff hp c28
        refine gV_loc [2, 1, 0] rfl ?_
        exact J35 (v1 / 10) (v1 - v1 / 10 * 10) hp
      · replace hp := g_ift hp c28
        refine gV_iconst (v := 1) C dX1_allows_31 rfl ?_
        refine gV_goto (tgt := 36) C dX1_allows_32 (by decide) ?_
        refine gV_loc [2, 1, 0] rfl ?_
        exact J36 (v1 / 10) (v1 - v1 / 10 * 10) 1 hp
  · replace hp := g_iff hp c1
    refine gV_iconst (v := 0) C dX1_allows_4 rfl ?_
    obtain rfl := g_so1 hp
    exact RET _ _ _ _ _ _ dX1_allows_5 (Nat.le_of_ble_eq_true rfl) (Nat.le_of_ble_eq_true rfl) rfl ⟨rfl, rfl⟩
def pf_X1_compare_j16  : Option (Int32) := (some 0)
def pf_X1_compare  (uP : Int32) (uR : Int32) (gcb : Nat → Int32) (gpb : Nat → Int64) (v1 : Int32) (v2 : Int32) : Option (Int32) := (ob1 (pf_X1_has uR v1) fun r2 => (if r2 = 0 then (pf_X1_compare_j16) else (ob1 (pf_X1_has uR v2) fun r10 => (if r10 = 0 then (pf_X1_compare_j16) else (gi v1 256 (gi v2 256 (gl ((gcb v1.toNatClampNeg) ^^^ (gcb v2.toNatClampNeg)) fun v3_31 => (gl (((v3_31 ||| (v3_31 >>> (1 &&& 31))) ||| (v3_31 >>> (2 &&& 31))) &&& 2396745) fun v4_44 => (ob1 (pf_J6_bitCount_0f7a4 v4_44) fun r52 => (gi v1 256 (gi v2 256 (ob1 (pf_J13_bitCount_95d88 ((gpb v1.toNatClampNeg) &&& (gpb v2.toNatClampNeg))) fun r71 => (some ((10 * (uP - r52)) + (r71 - (uP - r52))))))))))))))))
abbrev rm_X1_compare : Room := { frames := 1, cells := 0, slots := 0, locals := 21 }
theorem inw_X1_compare_X1 : ∀ w ∈ wsX10, w ∈ wsX1_compare := by decide +kernel
theorem hds_J13_bitCount_95d88 : yJ13_bitCount_95d88.cls ≠ "java/lang/invoke/MethodHandle" ∧ yJ13_bitCount_95d88.cls ≠ "java/lang/invoke/VarHandle" ∧ (parseMethodDescriptor yJ13_bitCount_95d88.desc).map (fun d => d.parameters.length) = some 1 := by decide +kernel
theorem hds_J6_bitCount_0f7a4 : yJ6_bitCount_0f7a4.cls ≠ "java/lang/invoke/MethodHandle" ∧ yJ6_bitCount_0f7a4.cls ≠ "java/lang/invoke/VarHandle" ∧ (parseMethodDescriptor yJ6_bitCount_0f7a4.desc).map (fun d => d.parameters.length) = some 1 := by decide +kernel
set_option maxHeartbeats 4000000 in
set_option maxRecDepth 100000 in
theorem mt_X1_compare {l : Launch} (hl : l.stackTraces = false) (D : va_G) (h : Nat → Nat) (cI cJ : ClassId) (lc : Int32) (la : Int32) (hr : Int32) (uP : Int32) (uC : Int32) (uR : Int32) (tn : Int32) (pn : Int32) (pg : Int32) (pq : Int32) (rl : Nat → Int32) (sr : Nat → Int32) (gcb : Nat → Int32) (gpb : Nat → Int64) (tg : Nat → Int32) (tm : Nat → Int32) (tl : Nat → Int32) (pm : Nat → Int32) (ps : Nat → Int32) (v1 : Int32) (v2 : Int32) (r0 : Int32) (hp : pf_X1_compare uP uR gcb gpb v1 v2 = (some r0)) : gMi l yX1_compare wsX1_compare rm_X1_compare D [(cI, .int), (cJ, .long)] (cW h cI cJ lc la hr uP uC uR tn pn pg pq rl sr gcb gpb tg tm tl pm ps) [.ref (h 1), .int v1, .int v2] 0 0 (fun r w => r = r0 ∧ w = cW h cI cJ lc la hr uP uC uR tn pn pg pq rl sr gcb gpb tg tm tl pm ps) (fun _ _ => False) := by
  refine gMi_of (cc := cX1_compare) (maxL := 7) (rt := .int) hl (by decide +kernel) rfl (Nat.le_of_ble_eq_true rfl) ?_
  intro p e s m args below meth c A Q C hnm ht RET OUT THR THRW
  have C : gC p l s m args meth c A D [(cI, .int), (cJ, .long)] 7 RX1 cX1_compare wsX1_compare := C
  refine gV_loc (lvs' := [(0, .ref (h 1)), (1, .int v1), (2, .int v2)]) [0, 1, 2] rfl ?_
  unfold pf_X1_compare at hp
  have J16 : pf_X1_compare_j16 = (some r0) → gV p l e rm_X1_compare s m args below meth c A D 7 Q (cW h cI cJ lc la hr uP uC uR tn pn pg pq rl sr gcb gpb tg tm tl pm ps) [(0, .ref (h 1))] 0 0 16 [] := by
    intro hp
    unfold pf_X1_compare_j16 at hp
    refine gV_iconst (v := 0) C dX1_compare_16 rfl ?_
    obtain rfl := g_so1 hp
    exact RET _ _ _ _ _ _ dX1_compare_17 (Nat.le_of_ble_eq_true rfl) (Nat.le_of_ble_eq_true rfl) rfl ⟨rfl, rfl⟩
  refine gV_aload_n C dX1_compare_0 rfl 0 rfl ?_
  refine gV_iload_n C dX1_compare_1 rfl 1 rfl ?_
  obtain ⟨r2q, hq2, hp⟩ := g_ob1 hp
  refine gV_calliS C (gV_runV (As := [.int v1]) (rest := []) C (mt_X1_has hl D h cI cJ lc la hr uP uC uR tn pn pg pq rl sr gcb gpb tg tm tl pm ps v1 r2q hq2) (cwV 1 C.2.2.2.2.1 gX1_compare_X1_has rfl rfl rfl hdv_X1_has ⟨Nat.le_of_ble_eq_true rfl, Nat.le_of_ble_eq_true rfl⟩) (gSub_S _) 1 rfl rfl rfl rfl (Nat.le_of_ble_eq_true rfl) dX1_compare_2 ⟨Nat.le_of_ble_eq_true rfl, Nat.le_of_ble_eq_true rfl⟩) (fun _ _ hx => False.elim hx) (fun r2 w1 hw => ?_)
  obtain ⟨rfl, rfl⟩ := hw
  refine gV_if_eq (tgt := 16) C dX1_compare_5 (by decide) (fun c5 => ?_) (fun c5 => ?_)
  · replace hp := g_ift hp c5
    refine gV_loc [0] rfl ?_
    exact J16 hp
  · replace hp := g_iff hp c5
    refine gV_aload_n C dX1_compare_8 rfl 0 rfl ?_
    refine gV_iload_n C dX1_compare_9 rfl 2 rfl ?_
    obtain ⟨r10q, hq10, hp⟩ := g_ob1 hp
    refine gV_calliS C (gV_runV (As := [.int v2]) (rest := []) C (mt_X1_has hl D h cI cJ lc la hr uP uC uR tn pn pg pq rl sr gcb gpb tg tm tl pm ps v2 r10q hq10) (cwV 1 C.2.2.2.2.1 gX1_compare_X1_has rfl rfl rfl hdv_X1_has ⟨Nat.le_of_ble_eq_true rfl, Nat.le_of_ble_eq_true rfl⟩) (gSub_S _) 1 rfl rfl rfl rfl (Nat.le_of_ble_eq_true rfl) dX1_compare_10 ⟨Nat.le_of_ble_eq_true rfl, Nat.le_of_ble_eq_true rfl⟩) (fun _ _ hx => False.elim hx) (fun r10 w1 hw => ?_)
    obtain ⟨rfl, rfl⟩ := hw
    refine gV_if_ne (tgt := 18) C dX1_compare_13 (by decide) (fun c13 => ?_) (fun c13 => ?_)
    · replace hp := g_iff hp c13
      refine gV_aload_n C dX1_compare_18 rfl 0 rfl ?_
      refine gV_get (Cn := RX1) (T := TX1) (N := 5) C inw_X1_compare_X1 1 rfl rfl 3 (by decide) (C.w 1 rfl) rfl rfl dX1_compare_19 ?_
      refine gV_iload_n C dX1_compare_22 rfl 1 rfl ?_
      obtain ⟨hi23, hp⟩ := g_idx hp
      refine gV_iald C 6 rfl 0 rfl hi23 dX1_compare_23 ?_
      refine gV_aload_n C dX1_compare_24 rfl 0 rfl ?_
      refine gV_get (Cn := RX1) (T := TX1) (N := 5) C inw_X1_compare_X1 1 rfl rfl 3 (by decide) (C.w 1 rfl) rfl rfl dX1_compare_25 ?_
      refine gV_iload_n C dX1_compare_28 rfl 2 rfl ?_
      obtain ⟨hi29, hp⟩ := g_idx hp
      refine gV_iald C 6 rfl 0 rfl hi29 dX1_compare_29 ?_
      refine gV_ixor C dX1_compare_30 ?_
      refine gV_topI (fun v3_31 he31 => ?_)
      replace hp := g_let hp he31
      refine gV_istore_n (lvs' := [(3, .int v3_31), (0, .ref (h 1)), (1, .int v1), (2, .int v2)]) C dX1_compare_31 rfl (by decide) rfl ?_
      refine gV_iload_n C dX1_compare_32 rfl 0 rfl ?_
      refine gV_iload_n C dX1_compare_33 rfl 0 rfl ?_
      refine gV_iconst (v := 1) C dX1_compare_34 rfl ?_
      refine gV_ishr C dX1_compare_35 ?_
      refine gV_ior C dX1_compare_36 ?_
      refine gV_iload_n C dX1_compare_37 rfl 0 rfl ?_
      refine gV_iconst (v := 2) C dX1_compare_38 rfl ?_
      refine gV_ishr C dX1_compare_39 ?_
      refine gV_ior C dX1_compare_40 ?_
      refine gV_ldc (v := 2396745) C dX1_compare_41 (C.w 2 rfl) ?_
      refine gV_iand C dX1_compare_43 ?_
      refine gV_topI (fun v4_44 he44 => ?_)
      replace hp := g_let hp he44
      refine gV_istore (lvs' := [(4, .int v4_44), (3, .int v3_31), (0, .ref (h 1)), (1, .int v1), (2, .int v2)]) C dX1_compare_44 (by decide) rfl ?_
      refine gV_aload_n C dX1_compare_46 rfl 2 rfl ?_
      refine gV_get (Cn := RX1) (T := TX1) (N := 5) C inw_X1_compare_X1 1 rfl rfl 0 (by decide) (C.w 3 rfl) rfl rfl dX1_compare_47 ?_
      refine gV_iload C dX1_compare_50 0 rfl ?_
      obtain ⟨r52q, hq52, hp⟩ := g_ob1 hp
      refine gV_calliE C (gV_runS (As := [.int v4_44]) (rest := [.int uP]) C (mt_J6_bitCount_0f7a4 hl D cI cJ v4_44 r52q hq52) (va_cwS 1 C.2.2.2.2.1 gX1_compare_J6_bitCount_0f7a4 rfl rfl rfl hds_J6_bitCount_0f7a4 ⟨Nat.le_of_ble_eq_true rfl, Nat.le_of_ble_eq_true rfl⟩) (gSub_E _) rfl rfl (Nat.le_of_ble_eq_true rfl) dX1_compare_52 ⟨Nat.le_of_ble_eq_true rfl, Nat.le_of_ble_eq_true rfl⟩) (fun _ _ hx => False.elim hx) (fun r52 w1 hw => ?_)
      obtain ⟨rfl, rfl⟩ := hw
      refine ⟨rfl, ?_⟩
      refine gV_isub C dX1_compare_55 ?_
      refine gV_istore (lvs' := [(5, .int (uP - r52)), (4, .int v4_44), (3, .int v3_31), (0, .ref (h 1)), (1, .int v1), (2, .int v2)]) C dX1_compare_56 (by decide) rfl ?_
      refine gV_aload_n C dX1_compare_58 rfl 3 rfl ?_
      refine gV_get (Cn := RX1) (T := TX1) (N := 5) C inw_X1_compare_X1 1 rfl rfl 4 (by decide) (C.w 4 rfl) rfl rfl dX1_compare_59 ?_
      refine gV_iload_n C dX1_compare_62 rfl 4 rfl ?_
      obtain ⟨hi63, hp⟩ := g_idx hp
      refine gV_lald C 7 rfl 1 rfl hi63 dX1_compare_63 ?_
      refine gV_aload_n C dX1_compare_64 rfl 3 rfl ?_
      refine gV_get (Cn := RX1) (T := TX1) (N := 5) C inw_X1_compare_X1 1 rfl rfl 4 (by decide) (C.w 4 rfl) rfl rfl dX1_compare_65 ?_
      refine gV_iload_n C dX1_compare_68 rfl 5 rfl ?_
      obtain ⟨hi69, hp⟩ := g_idx hp
      refine gV_lald C 7 rfl 1 rfl hi69 dX1_compare_69 ?_
      refine gV_land C dX1_compare_70 ?_
      obtain ⟨r71q, hq71, hp⟩ := g_ob1 hp
      refine gV_calliE C (gV_runS (As := [.long ((gpb v1.toNatClampNeg) &&& (gpb v2.toNatClampNeg))]) (rest := []) C (mt_J13_bitCount_95d88 hl D cI cJ ((gpb v1.toNatClampNeg) &&& (gpb v2.toNatClampNeg)) r71q hq71) (va_cwS 1 C.2.2.2.2.1 gX1_compare_J13_bitCount_95d88 rfl rfl rfl hds_J13_bitCount_95d88 ⟨Nat.le_of_ble_eq_true rfl, Nat.le_of_ble_eq_true rfl⟩) (gSub_E _) rfl rfl (Nat.le_of_ble_eq_true rfl) dX1_compare_71 ⟨Nat.le_of_ble_eq_true rfl, Nat.le_of_ble_eq_true rfl⟩) (fun _ _ hx => False.elim hx) (fun r71 w1 hw => ?_)
      obtain ⟨rfl, rfl⟩ := hw
      refine ⟨rfl, ?_⟩
      refine gV_istore (lvs' := [(6, .int r71), (5, .int (uP - r52)), (4, .int v4_44), (3, .int v3_31), (0, .ref (h 1)), (1, .int v1), (2, .int v2)]) C dX1_compare_74 (by decide) rfl ?_
      refine gV_bipush (v := 10) C dX1_compare_76 rfl ?_
      refine gV_iload C dX1_compare_78 1 rfl ?_
      refine gV_imul C dX1_compare_80 ?_
      refine gV_iload C dX1_compare_81 0 rfl ?_
      refine gV_iload C dX1_compare_83 1 rfl ?_
      refine gV_isub C dX1_compare_85 ?_
      refine gV_iadd C dX1_compare_86 ?_
      obtain rfl := g_so1 hp
      exact RET _ _ _ _ _ _ dX1_compare_87 (Nat.le_of_ble_eq_true rfl) (Nat.le_of_ble_eq_true rfl) rfl ⟨rfl, rfl⟩
    · replace hp := g_ift hp c13
      refine gV_loc [0] rfl ?_
      exact J16 hp

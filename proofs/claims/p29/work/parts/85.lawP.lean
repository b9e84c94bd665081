abbrev rm_L_low : Room := { frames := 0, cells := 0, slots := 0, locals := 0 }
set_option maxHeartbeats 4000000 in
set_option maxRecDepth 100000 in
theorem mt_L_low {l : Launch} (hl : l.stackTraces = false) (D : va_G)  (cI cJ : ClassId)  (v0 : Int32) (v1 : Int32) (r0 : Int32) (hp : pf_L_low v0 v1 = (some r0)) : gMi l yL_low wsL_low rm_L_low D [(cI, .int), (cJ, .long)] [] [.int v0, .int v1] 0 0 (fun r w => r = r0 ∧ w = []) (fun _ _ => False) := by
  refine gMi_of (cc := cL_low) (maxL := 2) (rt := .int) hl (by decide +kernel) rfl (Nat.le_of_ble_eq_true rfl) ?_
  intro p e s m args below meth c A Q C hnm ht RET OUT THR THRW
  have C : gC p l s m args meth c A D [(cI, .int), (cJ, .long)] 2 RL cL_low wsL_low := C
  refine gV_loc (lvs' := [(0, .int v0), (1, .int v1)]) [0, 1] rfl ?_
  unfold pf_L_low at hp
  refine gV_iload_n C dL_low_0 rfl 0 rfl ?_
  refine gV_iconst (v := 1) C dL_low_1 rfl ?_
  refine gV_iushr C dL_low_2 ?_
  refine gV_iload_n C dL_low_3 rfl 1 rfl ?_
  obtain ⟨hd4, hp⟩ := g_div hp
  refine gV_irem C dL_low_4 hd4 ?_
  obtain rfl := g_so1 hp
  exact RET _ _ _ _ _ _ dL_low_5 (Nat.le_of_ble_eq_true rfl) (Nat.le_of_ble_eq_true rfl) rfl ⟨rfl, rfl⟩
abbrev rm_L_digit : Room := { frames := 0, cells := 0, slots := 0, locals := 0 }
set_option maxHeartbeats 4000000 in
set_option maxRecDepth 100000 in
theorem mt_L_digit {l : Launch} (hl : l.stackTraces = false) (D : va_G) (k : Nat → Nat) (cI cJ : ClassId) (yg : Nat → Int32) (yq : Nat → Int32) (ym : Nat → Int32) (yw : Nat → Int64) (yh : Nat → Int32) (yr : Nat → Int64) (v1 : Int32) (v2 : Int32) (r0 : Int32) (hp : pf_L_digit yg v1 v2 = (some r0)) : gMi l yL_digit wsL_digit rm_L_digit D [(cI, .int), (cJ, .long)] (yW k cI cJ yg yq ym yw yh yr) [.ref (k 0), .int v1, .int v2] 0 0 (fun r w => r = r0 ∧ w = yW k cI cJ yg yq ym yw yh yr) (fun _ _ => False) := by
  refine gMi_of (cc := cL_digit) (maxL := 5) (rt := .int) hl (by decide +kernel) rfl (Nat.le_of_ble_eq_true rfl) ?_
  intro p e s m args below meth c A Q C hnm ht RET OUT THR THRW
  have C : gC p l s m args meth c A D [(cI, .int), (cJ, .long)] 5 RL cL_digit wsL_digit := C
  refine gV_loc (lvs' := [(0, .ref (k 0)), (1, .int v1), (2, .int v2)]) [0, 1, 2] rfl ?_
  unfold pf_L_digit at hp
  have L9 : ∀ (n9 : Nat) (v3 : Int32) (v4 : Int32), pf_L_digit_L9 v2 yg n9 v3 v4 = (some r0) → gV p l e rm_L_digit s m args below meth c A D 5 Q (yW k cI cJ yg yq ym yw yh yr) [(0, .ref (k 0)), (2, .int v2), (3, .int v3), (4, .int v4)] 0 0 9 [] := by
    intro n9
    induction n9 with
    | zero => intro v3 v4 hp; exact g_none hp
    | succ n9 ih9 =>
      intro v3 v4 hp
      rw [pf_L_digit_L9.eq_2] at hp
      refine gV_iload C dL_digit_9 3 rfl ?_
      refine gV_iload_n C dL_digit_11 rfl 1 rfl ?_
      refine gV_icmp_le (tgt := 27) C dL_digit_12 (by decide) (fun c12 => ?_) (fun c12 => ?_)
      · replace hp := g_ift hp c12
        refine gV_iload_n C dL_digit_27 rfl 2 rfl ?_
        refine gV_aload_n C dL_digit_28 rfl 0 rfl ?_
        refine gV_iconst (v := 1) C dL_digit_29 rfl ?_
        obtain ⟨hi30, hp⟩ := g_idx hp
        refine gV_iald C 0 rfl 0 rfl hi30 dL_digit_30 ?_
        obtain ⟨hd31, hp⟩ := g_div hp
        refine gV_irem C dL_digit_31 hd31 ?_
        obtain rfl := g_so1 hp
        exact RET _ _ _ _ _ _ dL_digit_32 (Nat.le_of_ble_eq_true rfl) (Nat.le_of_ble_eq_true rfl) rfl ⟨rfl, rfl⟩
      · replace hp := g_iff hp c12
        refine gV_iload_n C dL_digit_15 rfl 2 rfl ?_
        refine gV_aload_n C dL_digit_16 rfl 0 rfl ?_
        refine gV_iconst (v := 1) C dL_digit_17 rfl ?_
        obtain ⟨hi18, hp⟩ := g_idx hp
        refine gV_iald C 0 rfl 0 rfl hi18 dL_digit_18 ?_
        obtain ⟨hd19, hp⟩ := g_div hp
        refine gV_idiv C dL_digit_19 hd19 ?_
        refine gV_topI (fun v3_20 he20 => ?_)
        replace hp := g_let hp he20
        refine gV_istore_n (lvs' := [(3, .int v3_20), (0, .ref (k 0)), (2, .int v2), (4, .int v4)]) C dL_digit_20 rfl (by decide) rfl ?_
        refine gV_iinc (v := (v4 + (-1))) (lvs' := [(4, .int (v4 + (-1))), (3, .int v3_20), (0, .ref (k 0)), (2, .int v2)]) C dL_digit_21 3 rfl rfl (by decide) rfl ?_
        refine gV_goto (tgt := 9) C dL_digit_24 (by decide) ?_
        refine gV_loc [2, 3, 1, 0] rfl ?_
        exact ih9 v3_20 (v4 + (-1)) hp
  refine gV_iload_n C dL_digit_0 rfl 1 rfl ?_
  refine gV_istore_n (lvs' := [(3, .int v1), (0, .ref (k 0)), (1, .int v1), (2, .int v2)]) C dL_digit_1 rfl (by decide) rfl ?_
  refine gV_aload_n C dL_digit_2 rfl 1 rfl ?_
  refine gV_iconst (v := 0) C dL_digit_3 rfl ?_
  obtain ⟨hi4, hp⟩ := g_idx hp
  refine gV_iald C 0 rfl 0 rfl hi4 dL_digit_4 ?_
  refine gV_iconst (v := 1) C dL_digit_5 rfl ?_
  refine gV_isub C dL_digit_6 ?_
  refine gV_topI (fun v4_7 he7 => ?_)
  replace hp := g_let hp he7
  refine gV_istore (lvs' := [(4, .int v4_7), (3, .int v1), (0, .ref (k 0)), (1, .int v1), (2, .int v2)]) C dL_digit_7 (by decide) rfl ?_
  refine gV_loc [2, 4, 1, 0] rfl ?_
  exact L9 100000 v1 v4_7 hp
abbrev rm_L_lay : Room := { frames := 1, cells := 0, slots := 0, locals := 32 }
theorem hds_L_digit : yL_digit.cls ≠ "java/lang/invoke/MethodHandle" ∧ yL_digit.cls ≠ "java/lang/invoke/VarHandle" ∧ (parseMethodDescriptor yL_digit.desc).map (fun d => d.parameters.length) = some 3 := by decide +kernel
set_option maxHeartbeats 4000000 in
set_option maxRecDepth 100000 in
theorem mt_L_lay {l : Launch} (hl : l.stackTraces = false) (D : va_G) (k : Nat → Nat) (cI cJ : ClassId) (yg : Nat → Int32) (yq : Nat → Int32) (ym : Nat → Int32) (yw : Nat → Int64) (yh : Nat → Int32) (yr : Nat → Int64)  (yr0 : Nat → Int64) (hp : pf_L_lay yg yr = (some yr0)) : gMv l yL_lay wsL_lay rm_L_lay D [(cI, .int), (cJ, .long)] (yW k cI cJ yg yq ym yw yh yr) [.ref (k 0), .ref (k 5)] 0 0 (fun w => w = yW k cI cJ yg yq ym yw yh yr0) (fun _ _ => False) := by
  refine gMv_of (cc := cL_lay) (maxL := 4) hl (by decide +kernel) rfl (Nat.le_of_ble_eq_true rfl) ?_
  intro p e s m args below meth c A Q C hnm ht RET OUT THR THRW
  have C : gC p l s m args meth c A D [(cI, .int), (cJ, .long)] 4 RL cL_lay wsL_lay := C
  refine gV_loc (lvs' := [(0, .ref (k 0)), (1, .ref (k 5))]) [0, 1] rfl ?_
  unfold pf_L_lay at hp
  have L2 : ∀ (n2 : Nat) (v2 : Int32) (yr : Nat → Int64), pf_L_lay_L2 yg n2 v2 yr = (some yr0) → gV p l e rm_L_lay s m args below meth c A D 4 Q (yW k cI cJ yg yq ym yw yh yr) [(0, .ref (k 0)), (1, .ref (k 5)), (2, .int v2)] 0 0 2 [] := by
    intro n2
    induction n2 with
    | zero => intro v2 yr hp; exact g_none hp
    | succ n2 ih2 =>
      intro v2 yr hp
      rw [pf_L_lay_L2.eq_2] at hp
      have L15 : ∀ (v2 : Int32) (n15 : Nat) (v3 : Int32) (yr : Nat → Int64), pf_L_lay_L15 yg (fun v2 yr => pf_L_lay_L2 yg n2 v2 yr) v2 n15 v3 yr = (some yr0) → gV p l e rm_L_lay s m args below meth c A D 4 Q (yW k cI cJ yg yq ym yw yh yr) [(0, .ref (k 0)), (1, .ref (k 5)), (2, .int v2), (3, .int v3)] 0 0 15 [] := by
        intro v2 n15
        induction n15 with
        | zero => intro v3 yr hp; exact g_none hp
        | succ n15 ih15 =>
          intro v3 yr hp
          rw [pf_L_lay_L15.eq_2] at hp
          refine gV_iload_n C dL_lay_15 rfl 3 rfl ?_
          refine gV_aload_n C dL_lay_16 rfl 0 rfl ?_
          refine gV_iconst (v := 0) C dL_lay_17 rfl ?_
          obtain ⟨hi18, hp⟩ := g_idx hp
          refine gV_iald C 0 rfl 0 rfl hi18 dL_lay_18 ?_
          refine gV_icmp_ge (tgt := 59) C dL_lay_19 (by decide) (fun c19 => ?_) (fun c19 => ?_)
          · replace hp := g_ift hp c19
            refine gV_iinc (v := (v2 + 1)) (lvs' := [(2, .int (v2 + 1)), (0, .ref (k 0)), (1, .ref (k 5)), (3, .int v3)]) C dL_lay_59 2 rfl rfl (by decide) rfl ?_
            refine gV_goto (tgt := 2) C dL_lay_62 (by decide) ?_
            refine gV_loc [1, 2, 0] rfl ?_
            exact ih2 (v2 + 1) yr hp
          · replace hp := g_iff hp c19
            refine gV_aload_n C dL_lay_22 rfl 1 rfl ?_
            refine gV_iload_n C dL_lay_23 rfl 2 rfl ?_
            refine gV_dup2 C dL_lay_24 rfl rfl ?_
            obtain ⟨hi25, hp⟩ := g_idx hp
            refine gV_lald C 5 rfl 1 rfl hi25 dL_lay_25 ?_
            refine gV_aload_n C dL_lay_26 rfl 0 rfl ?_
            refine gV_iload_n C dL_lay_27 rfl 2 rfl ?_
            refine gV_iload_n C dL_lay_28 rfl 3 rfl ?_
            obtain ⟨r29q, hq29, hp⟩ := g_ob1 hp
            refine gV_calliS C (gV_runS (As := [.ref (k 0), .int v2, .int v3]) (rest := [.long (yr v2.toNatClampNeg), .int v2, .ref (k 5)]) C (mt_L_digit hl D k cI cJ yg yq ym yw yh yr v2 v3 r29q hq29) (va_cwS 3 C.2.2.2.2.1 gL_lay_L_digit rfl rfl rfl hds_L_digit ⟨Nat.le_of_ble_eq_true rfl, Nat.le_of_ble_eq_true rfl⟩) (gSub_S _) rfl rfl (Nat.le_of_ble_eq_true rfl) dL_lay_29 ⟨Nat.le_of_ble_eq_true rfl, Nat.le_of_ble_eq_true rfl⟩) (fun _ _ hx => False.elim hx) (fun r29 w1 hw => ?_)
            obtain ⟨rfl, rfl⟩ := hw
            refine gV_i2l C dL_lay_32 ?_
            refine gV_iconst (v := 3) C dL_lay_33 rfl ?_
            refine gV_iload_n C dL_lay_34 rfl 3 rfl ?_
            refine gV_imul C dL_lay_35 ?_
            refine gV_lshl C dL_lay_36 ?_
            refine gV_lconst (v := 1) C dL_lay_37 rfl ?_
            refine gV_bipush (v := 24) C dL_lay_38 rfl ?_
            refine gV_iconst (v := 4) C dL_lay_40 rfl ?_
            refine gV_aload_n C dL_lay_41 rfl 0 rfl ?_
            refine gV_iload_n C dL_lay_42 rfl 2 rfl ?_
            refine gV_iload_n C dL_lay_43 rfl 3 rfl ?_
            obtain ⟨r44q, hq44, hp⟩ := g_ob1 hp
            refine gV_calliS C (gV_runST (As := [.ref (k 0), .int v2, .int v3]) (rest := [.int 4, .int 24, .long 1, .long (g_lsl r29.toInt64 (3 * v3)), .long (yr v2.toNatClampNeg), .int v2, .ref (k 5)]) C (mt_L_digit hl D k cI cJ yg yq ym yw yh yr v2 v3 r44q hq44) (va_cwS 3 C.2.2.2.2.1 gL_lay_L_digit rfl rfl rfl hds_L_digit ⟨Nat.le_of_ble_eq_true rfl, Nat.le_of_ble_eq_true rfl⟩) (Nat.le_of_ble_eq_true rfl) (gSub_S _) rfl rfl (Nat.le_of_ble_eq_true rfl) dL_lay_44 ⟨Nat.le_of_ble_eq_true rfl, Nat.le_of_ble_eq_true rfl⟩) (fun _ _ hx => False.elim hx) (fun r44 w1 hw => ?_)
            obtain ⟨rfl, rfl⟩ := hw
            refine gV_imul C dL_lay_47 ?_
            refine gV_iadd C dL_lay_48 ?_
            refine gV_lshl C dL_lay_49 ?_
            refine gV_ladd C dL_lay_50 ?_
            refine gV_ladd C dL_lay_51 ?_
            obtain ⟨hi52, hp⟩ := g_idx hp
            refine gV_last (ws' := yW k cI cJ yg yq ym yw yh (vp_updL yr v2.toNatClampNeg ((yr v2.toNatClampNeg) + ((g_lsl r29.toInt64 (3 * v3)) + (g_lsl 1 (24 + (4 * r44))))))) C 5 rfl 1 rfl hi52 dL_lay_52 rfl ?_
            refine gV_iinc (v := (v3 + 1)) (lvs' := [(3, .int (v3 + 1)), (0, .ref (k 0)), (1, .ref (k 5)), (2, .int v2)]) C dL_lay_53 3 rfl rfl (by decide) rfl ?_
            refine gV_goto (tgt := 15) C dL_lay_56 (by decide) ?_
            refine gV_loc [1, 2, 3, 0] rfl ?_
            exact ih15 (v3 + 1) (vp_updL yr v2.toNatClampNeg ((yr v2.toNatClampNeg) + ((g_lsl r29.toInt64 (3 * v3)) + (g_lsl 1 (24 + (4 * r44)))))) hp
      refine gV_iload_n C dL_lay_2 rfl 2 rfl ?_
      refine gV_aload_n C dL_lay_3 rfl 0 rfl ?_
      refine gV_iconst (v := 2) C dL_lay_4 rfl ?_
      obtain ⟨hi5, hp⟩ := g_idx hp
      refine gV_iald C 0 rfl 0 rfl hi5 dL_lay_5 ?_
      refine gV_icmp_ge (tgt := 65) C dL_lay_6 (by decide) (fun c6 => ?_) (fun c6 => ?_)
      · replace hp := g_ift hp c6
        obtain rfl := g_so1 hp
        exact RET _ _ _ _ _ dL_lay_65 (Nat.le_of_ble_eq_true rfl) (Nat.le_of_ble_eq_true rfl) rfl
      · replace hp := g_iff hp c6
        refine gV_aload_n C dL_lay_9 rfl 1 rfl ?_
        refine gV_iload_n C dL_lay_10 rfl 2 rfl ?_
        refine gV_lconst (v := 0) C dL_lay_11 rfl ?_
        obtain ⟨hi12, hp⟩ := g_idx hp
        refine gV_last (ws' := yW k cI cJ yg yq ym yw yh (vp_updL yr v2.toNatClampNeg 0)) C 5 rfl 1 rfl hi12 dL_lay_12 rfl ?_
        refine gV_iconst (v := 0) C dL_lay_13 rfl ?_
        refine gV_istore_n (lvs' := [(3, .int 0), (0, .ref (k 0)), (1, .ref (k 5)), (2, .int v2)]) C dL_lay_14 rfl (by decide) rfl ?_
        refine gV_loc [1, 2, 3, 0] rfl ?_
        exact L15 v2 100000 0 (vp_updL yr v2.toNatClampNeg 0) hp
  refine gV_iconst (v := 0) C dL_lay_0 rfl ?_
  refine gV_istore_n (lvs' := [(2, .int 0), (0, .ref (k 0)), (1, .ref (k 5))]) C dL_lay_1 rfl (by decide) rfl ?_
  refine gV_loc [1, 2, 0] rfl ?_
  exact L2 100000 0 yr hp
abbrev rm_L_pins : Room := { frames := 0, cells := 0, slots := 0, locals := 0 }
set_option maxHeartbeats 4000000 in
set_option maxRecDepth 100000 in
theorem mt_L_pins {l : Launch} (hl : l.stackTraces = false) (D : va_G) (k : Nat → Nat) (cI cJ : ClassId) (yg : Nat → Int32) (yq : Nat → Int32) (ym : Nat → Int32) (yw : Nat → Int64) (yh : Nat → Int32) (yr : Nat → Int64) (v2 : Int32) (v3 : Int32) (r0 : Int32) (hp : pf_L_pins yg yr v2 v3 = (some r0)) : gMi l yL_pins wsL_pins rm_L_pins D [(cI, .int), (cJ, .long)] (yW k cI cJ yg yq ym yw yh yr) [.ref (k 0), .ref (k 5), .int v2, .int v3] 0 0 (fun r w => r = r0 ∧ w = yW k cI cJ yg yq ym yw yh yr) (fun _ _ => False) := by
  refine gMi_of (cc := cL_pins) (maxL := 9) (rt := .int) hl (by decide +kernel) rfl (Nat.le_of_ble_eq_true rfl) ?_
  intro p e s m args below meth c A Q C hnm ht RET OUT THR THRW
  have C : gC p l s m args meth c A D [(cI, .int), (cJ, .long)] 9 RL cL_pins wsL_pins := C
  refine gV_loc (lvs' := [(0, .ref (k 0)), (1, .ref (k 5)), (2, .int v2), (3, .int v3)]) [0, 1, 2, 3] rfl ?_
  unfold pf_L_pins at hp
  have L58 : ∀ (v4 : Int32) (n58 : Nat) (v5 : Int32) (v6 : Int32), pf_L_pins_L58 v2 v3 yg yr v4 n58 v5 v6 = (some r0) → gV p l e rm_L_pins s m args below meth c A D 9 Q (yW k cI cJ yg yq ym yw yh yr) [(0, .ref (k 0)), (1, .ref (k 5)), (2, .int v2), (3, .int v3), (4, .int v4), (5, .int v5), (6, .int v6)] 0 0 58 [] := by
    intro v4 n58
    induction n58 with
    | zero => intro v5 v6 hp; exact g_none hp
    | succ n58 ih58 =>
      intro v5 v6 hp
      rw [pf_L_pins_L58.eq_2] at hp
      have J113 : ∀ (v6 : Int32) (s0 : Int32) (s1 : Int32), pf_L_pins_j113 (fun v5 v6 => pf_L_pins_L58 v2 v3 yg yr v4 n58 v5 v6) v6 s0 s1 = (some r0) → gV p l e rm_L_pins s m args below meth c A D 9 Q (yW k cI cJ yg yq ym yw yh yr) [(0, .ref (k 0)), (1, .ref (k 5)), (2, .int v2), (3, .int v3), (4, .int v4), (6, .int v6)] 0 0 113 [.int s0, .int s1] := by
        intro v6 s0 s1 hp
        unfold pf_L_pins_j113 at hp
        refine gV_iadd C dL_pins_113 ?_
        refine gV_istore (lvs' := [(5, .int (s1 + s0)), (0, .ref (k 0)), (1, .ref (k 5)), (2, .int v2), (3, .int v3), (4, .int v4), (6, .int v6)]) C dL_pins_114 (by decide) rfl ?_
        refine gV_iinc (v := (v6 + 4)) (lvs' := [(6, .int (v6 + 4)), (5, .int (s1 + s0)), (0, .ref (k 0)), (1, .ref (k 5)), (2, .int v2), (3, .int v3), (4, .int v4)]) C dL_pins_116 6 rfl rfl (by decide) rfl ?_
        refine gV_goto (tgt := 58) C dL_pins_119 (by decide) ?_
        refine gV_loc [2, 3, 4, 5, 6, 1, 0] rfl ?_
        exact ih58 (s1 + s0) (v6 + 4) hp
      refine gV_iload C dL_pins_58 6 rfl ?_
      refine gV_bipush (v := 24) C dL_pins_60 rfl ?_
      refine gV_iconst (v := 4) C dL_pins_62 rfl ?_
      refine gV_aload_n C dL_pins_63 rfl 0 rfl ?_
      refine gV_iconst (v := 1) C dL_pins_64 rfl ?_
      obtain ⟨hi65, hp⟩ := g_idx hp
      refine gV_iald C 0 rfl 0 rfl hi65 dL_pins_65 ?_
      refine gV_imul C dL_pins_66 ?_
      refine gV_iadd C dL_pins_67 ?_
      refine gV_icmp_ge (tgt := 122) C dL_pins_68 (by decide) (fun c68 => ?_) (fun c68 => ?_)
      · replace hp := g_ift hp c68
        refine gV_bipush (v := 9) C dL_pins_122 rfl ?_
        refine gV_iload C dL_pins_124 4 rfl ?_
        refine gV_imul C dL_pins_126 ?_
        refine gV_iload C dL_pins_127 5 rfl ?_
        refine gV_iadd C dL_pins_129 ?_
        obtain rfl := g_so1 hp
        exact RET _ _ _ _ _ _ dL_pins_130 (Nat.le_of_ble_eq_true rfl) (Nat.le_of_ble_eq_true rfl) rfl ⟨rfl, rfl⟩
      · replace hp := g_iff hp c68
        refine gV_aload_n C dL_pins_71 rfl 1 rfl ?_
        refine gV_iload_n C dL_pins_72 rfl 2 rfl ?_
        obtain ⟨hi73, hp⟩ := g_idx hp
        refine gV_lald C 5 rfl 1 rfl hi73 dL_pins_73 ?_
        refine gV_iload C dL_pins_74 6 rfl ?_
        refine gV_lshr C dL_pins_76 ?_
        refine gV_ldc2 (v := 15) C dL_pins_77 (C.w 2 rfl) ?_
        refine gV_land C dL_pins_80 ?_
        refine gV_l2i C dL_pins_81 ?_
        refine gV_topI (fun v7_82 he82 => ?_)
        replace hp := g_let hp he82
        refine gV_istore (lvs' := [(7, .int v7_82), (0, .ref (k 0)), (1, .ref (k 5)), (2, .int v2), (3, .int v3), (4, .int v4), (5, .int v5), (6, .int v6)]) C dL_pins_82 (by decide) rfl ?_
        refine gV_aload_n C dL_pins_84 rfl 2 rfl ?_
        refine gV_iload_n C dL_pins_85 rfl 4 rfl ?_
        obtain ⟨hi86, hp⟩ := g_idx hp
        refine gV_lald C 5 rfl 1 rfl hi86 dL_pins_86 ?_
        refine gV_iload C dL_pins_87 7 rfl ?_
        refine gV_lshr C dL_pins_89 ?_
        refine gV_ldc2 (v := 15) C dL_pins_90 (C.w 2 rfl) ?_
        refine gV_land C dL_pins_93 ?_
        refine gV_l2i C dL_pins_94 ?_
        refine gV_topI (fun v8_95 he95 => ?_)
        replace hp := g_let hp he95
        refine gV_istore (lvs' := [(8, .int v8_95), (7, .int v7_82), (0, .ref (k 0)), (1, .ref (k 5)), (2, .int v2), (3, .int v3), (4, .int v4), (5, .int v5), (6, .int v6)]) C dL_pins_95 (by decide) rfl ?_
        refine gV_iload C dL_pins_97 7 rfl ?_
        refine gV_iload C dL_pins_99 1 rfl ?_
        refine gV_iload C dL_pins_101 0 rfl ?_
        refine gV_icmp_ge (tgt := 111) C dL_pins_103 (by decide) (fun c103 => ?_) (fun c103 => ?_)
        · replace hp := g_ift hp c103
          refine gV_iload C dL_pins_111 0 rfl ?_
          refine gV_loc [2, 3, 4, 5, 6, 8] rfl ?_
          exact J113 v6 v8_95 v5 hp
        · replace hp := g_iff hp c103
          refine gV_iload C dL_pins_106 1 rfl ?_
          refine gV_goto (tgt := 113) C dL_pins_108 (by decide) ?_
          refine gV_loc [2, 3, 4, 5, 6, 8] rfl ?_
          exact J113 v6 v7_82 v5 hp
  have L9 : ∀ (v5 : Int32) (n9 : Nat) (v4 : Int32) (v6 : Int32), pf_L_pins_L9 v2 v3 yg yr v5 n9 v4 v6 = (some r0) → gV p l e rm_L_pins s m args below meth c A D 9 Q (yW k cI cJ yg yq ym yw yh yr) [(0, .ref (k 0)), (1, .ref (k 5)), (2, .int v2), (3, .int v3), (4, .int v4), (5, .int v5), (6, .int v6)] 0 0 9 [] := by
    intro v5 n9
    induction n9 with
    | zero => intro v4 v6 hp; exact g_none hp
    | succ n9 ih9 =>
      intro v4 v6 hp
      rw [pf_L_pins_L9.eq_2] at hp
      have J45 : ∀ (v6 : Int32) (s0 : Int32) (s1 : Int32), pf_L_pins_j45 (fun v4 v6 => pf_L_pins_L9 v2 v3 yg yr v5 n9 v4 v6) v6 s0 s1 = (some r0) → gV p l e rm_L_pins s m args below meth c A D 9 Q (yW k cI cJ yg yq ym yw yh yr) [(0, .ref (k 0)), (1, .ref (k 5)), (2, .int v2), (3, .int v3), (5, .int v5), (6, .int v6)] 0 0 45 [.int s0, .int s1] := by
        intro v6 s0 s1 hp
        unfold pf_L_pins_j45 at hp
        refine gV_iadd C dL_pins_45 ?_
        refine gV_istore (lvs' := [(4, .int (s1 + s0)), (0, .ref (k 0)), (1, .ref (k 5)), (2, .int v2), (3, .int v3), (5, .int v5), (6, .int v6)]) C dL_pins_46 (by decide) rfl ?_
        refine gV_iinc (v := (v6 + 3)) (lvs' := [(6, .int (v6 + 3)), (4, .int (s1 + s0)), (0, .ref (k 0)), (1, .ref (k 5)), (2, .int v2), (3, .int v3), (5, .int v5)]) C dL_pins_48 6 rfl rfl (by decide) rfl ?_
        refine gV_goto (tgt := 9) C dL_pins_51 (by decide) ?_
        refine gV_loc [2, 3, 4, 5, 1, 6, 0] rfl ?_
        exact ih9 (s1 + s0) (v6 + 3) hp
      refine gV_iload C dL_pins_9 6 rfl ?_
      refine gV_iconst (v := 3) C dL_pins_11 rfl ?_
      refine gV_aload_n C dL_pins_12 rfl 0 rfl ?_
      refine gV_iconst (v := 0) C dL_pins_13 rfl ?_
      obtain ⟨hi14, hp⟩ := g_idx hp
      refine gV_iald C 0 rfl 0 rfl hi14 dL_pins_14 ?_
      refine gV_imul C dL_pins_15 ?_
      refine gV_icmp_ge (tgt := 54) C dL_pins_16 (by decide) (fun c16 => ?_) (fun c16 => ?_)
      · replace hp := g_ift hp c16
        refine gV_bipush (v := 24) C dL_pins_54 rfl ?_
        refine gV_istore (lvs' := [(6, .int 24), (0, .ref (k 0)), (1, .ref (k 5)), (2, .int v2), (3, .int v3), (4, .int v4), (5, .int v5)]) C dL_pins_56 (by decide) rfl ?_
        refine gV_loc [1, 2, 3, 4, 5, 6, 0] rfl ?_
        exact L58 v4 100000 v5 24 hp
      · replace hp := g_iff hp c16
        refine gV_iload C dL_pins_19 4 rfl ?_
        refine gV_aload_n C dL_pins_21 rfl 1 rfl ?_
        refine gV_iload_n C dL_pins_22 rfl 2 rfl ?_
        obtain ⟨hi23, hp⟩ := g_idx hp
        refine gV_lald C 5 rfl 1 rfl hi23 dL_pins_23 ?_
        refine gV_aload_n C dL_pins_24 rfl 1 rfl ?_
        refine gV_iload_n C dL_pins_25 rfl 3 rfl ?_
        obtain ⟨hi26, hp⟩ := g_idx hp
        refine gV_lald C 5 rfl 1 rfl hi26 dL_pins_26 ?_
        refine gV_lxor C dL_pins_27 ?_
        refine gV_iload C dL_pins_28 6 rfl ?_
        refine gV_lshr C dL_pins_30 ?_
        refine gV_ldc2 (v := 7) C dL_pins_31 (C.w 1 rfl) ?_
        refine gV_land C dL_pins_34 ?_
        refine gV_lconst (v := 0) C dL_pins_35 rfl ?_
        refine gV_lcmp C dL_pins_36 ?_
        refine gV_if_ne (tgt := 44) C dL_pins_37 (by decide) (fun c37 => ?_) (fun c37 => ?_)
        · replace hp := g_iff hp c37
          refine gV_iconst (v := 0) C dL_pins_44 rfl ?_
          refine gV_loc [0, 1, 2, 3, 5, 6] rfl ?_
          exact J45 v6 0 v4 hp
        · replace hp := g_ift hp c37
          refine gV_iconst (v := 1) C dL_pins_40 rfl ?_
          refine gV_goto (tgt := 45) C dL_pins_41 (by decide) ?_
          refine gV_loc [0, 1, 2, 3, 5, 6] rfl ?_
          exact J45 v6 1 v4 hp
  refine gV_iconst (v := 0) C dL_pins_0 rfl ?_
  refine gV_istore (lvs' := [(4, .int 0), (0, .ref (k 0)), (1, .ref (k 5)), (2, .int v2), (3, .int v3)]) C dL_pins_1 (by decide) rfl ?_
  refine gV_iconst (v := 0) C dL_pins_3 rfl ?_
  refine gV_istore (lvs' := [(5, .int 0), (4, .int 0), (0, .ref (k 0)), (1, .ref (k 5)), (2, .int v2), (3, .int v3)]) C dL_pins_4 (by decide) rfl ?_
  refine gV_iconst (v := 0) C dL_pins_6 rfl ?_
  refine gV_istore (lvs' := [(6, .int 0), (5, .int 0), (4, .int 0), (0, .ref (k 0)), (1, .ref (k 5)), (2, .int v2), (3, .int v3)]) C dL_pins_7 (by decide) rfl ?_
  refine gV_loc [3, 4, 5, 6, 2, 1, 0] rfl ?_
  exact L9 0 100000 0 0 hp
abbrev rm_L_isPossible : Room := { frames := 0, cells := 0, slots := 0, locals := 0 }
set_option maxHeartbeats 4000000 in
set_option maxRecDepth 100000 in
theorem mt_L_isPossible {l : Launch} (hl : l.stackTraces = false) (D : va_G) (k : Nat → Nat) (cI cJ : ClassId) (yg : Nat → Int32) (yq : Nat → Int32) (ym : Nat → Int32) (yw : Nat → Int64) (yh : Nat → Int32) (yr : Nat → Int64) (v1 : Int32) (r0 : Int32) (hp : pf_L_isPossible yg v1 = (some r0)) : gMi l yL_isPossible wsL_isPossible rm_L_isPossible D [(cI, .int), (cJ, .long)] (yW k cI cJ yg yq ym yw yh yr) [.ref (k 0), .int v1] 0 0 (fun r w => r = r0 ∧ w = yW k cI cJ yg yq ym yw yh yr) (fun _ _ => False) := by
  refine gMi_of (cc := cL_isPossible) (maxL := 4) (rt := .boolean) hl (by decide +kernel) rfl (Nat.le_of_ble_eq_true rfl) ?_
  intro p e s m args below meth c A Q C hnm ht RET OUT THR THRW
  have C : gC p l s m args meth c A D [(cI, .int), (cJ, .long)] 4 RL cL_isPossible wsL_isPossible := C
  refine gV_loc (lvs' := [(0, .ref (k 0)), (1, .int v1)]) [0, 1] rfl ?_
  unfold pf_L_isPossible at hp
  have J49 : ∀ (s0 : Int32), pf_L_isPossible_j49 s0 = (some r0) → gV p l e rm_L_isPossible s m args below meth c A D 4 Q (yW k cI cJ yg yq ym yw yh yr) [(0, .ref (k 0))] 0 0 49 [.int s0] := by
    intro s0 hp
    unfold pf_L_isPossible_j49 at hp
    obtain ⟨hz49, hp⟩ := g_bool hp
    obtain rfl := g_so1 hp
    exact RET _ _ _ _ _ _ dL_isPossible_49 (Nat.le_of_ble_eq_true rfl) (Nat.le_of_ble_eq_true rfl) (g_nz hz49) ⟨rfl, rfl⟩
  have J44 : pf_L_isPossible_j44 = (some r0) → gV p l e rm_L_isPossible s m args below meth c A D 4 Q (yW k cI cJ yg yq ym yw yh yr) [(0, .ref (k 0))] 0 0 44 [] := by
    intro hp
    unfold pf_L_isPossible_j44 at hp
    refine gV_iconst (v := 1) C dL_isPossible_44 rfl ?_
    refine gV_goto (tgt := 49) C dL_isPossible_45 (by decide) ?_
    exact J49 1 hp
  have L2 : ∀ (n2 : Nat) (v2 : Int32), pf_L_isPossible_L2 v1 yg n2 v2 = (some r0) → gV p l e rm_L_isPossible s m args below meth c A D 4 Q (yW k cI cJ yg yq ym yw yh yr) [(0, .ref (k 0)), (1, .int v1), (2, .int v2)] 0 0 2 [] := by
    intro n2
    induction n2 with
    | zero => intro v2 hp; exact g_none hp
    | succ n2 ih2 =>
      intro v2 hp
      rw [pf_L_isPossible_L2.eq_2] at hp
      have L11 : ∀ (v2 : Int32) (n11 : Nat) (v3 : Int32), pf_L_isPossible_L11 v1 yg (fun v2 => pf_L_isPossible_L2 v1 yg n2 v2) v2 n11 v3 = (some r0) → gV p l e rm_L_isPossible s m args below meth c A D 4 Q (yW k cI cJ yg yq ym yw yh yr) [(0, .ref (k 0)), (1, .int v1), (2, .int v2), (3, .int v3)] 0 0 11 [] := by
        intro v2 n11
        induction n11 with
        | zero => intro v3 hp; exact g_none hp
        | succ n11 ih11 =>
          intro v3 hp
          rw [pf_L_isPossible_L11.eq_2] at hp
          refine gV_iload_n C dL_isPossible_11 rfl 3 rfl ?_
          refine gV_aload_n C dL_isPossible_12 rfl 0 rfl ?_
          refine gV_iconst (v := 0) C dL_isPossible_13 rfl ?_
          obtain ⟨hi14, hp⟩ := g_idx hp
          refine gV_iald C 0 rfl 0 rfl hi14 dL_isPossible_14 ?_
          refine gV_iload_n C dL_isPossible_15 rfl 2 rfl ?_
          refine gV_isub C dL_isPossible_16 ?_
          refine gV_icmp_gt (tgt := 56) C dL_isPossible_17 (by decide) (fun c17 => ?_) (fun c17 => ?_)
          · replace hp := g_ift hp c17
            refine gV_iinc (v := (v2 + 1)) (lvs' := [(2, .int (v2 + 1)), (0, .ref (k 0)), (1, .int v1), (3, .int v3)]) C dL_isPossible_56 2 rfl rfl (by decide) rfl ?_
            refine gV_goto (tgt := 2) C dL_isPossible_59 (by decide) ?_
            refine gV_loc [1, 2, 0] rfl ?_
            exact ih2 (v2 + 1) hp
          · replace hp := g_iff hp c17
            refine gV_iload_n C dL_isPossible_20 rfl 1 rfl ?_
            refine gV_bipush (v := 10) C dL_isPossible_21 rfl ?_
            refine gV_iload_n C dL_isPossible_23 rfl 2 rfl ?_
            refine gV_imul C dL_isPossible_24 ?_
            refine gV_iload_n C dL_isPossible_25 rfl 3 rfl ?_
            refine gV_iadd C dL_isPossible_26 ?_
            refine gV_icmp_ne (tgt := 50) C dL_isPossible_27 (by decide) (fun c27 => ?_) (fun c27 => ?_)
            · replace hp := g_iff hp c27
              refine gV_iinc (v := (v3 + 1)) (lvs' := [(3, .int (v3 + 1)), (0, .ref (k 0)), (1, .int v1), (2, .int v2)]) C dL_isPossible_50 3 rfl rfl (by decide) rfl ?_
              refine gV_goto (tgt := 11) C dL_isPossible_53 (by decide) ?_
              refine gV_loc [1, 2, 3, 0] rfl ?_
              exact ih11 (v3 + 1) hp
            · replace hp := g_ift hp c27
              refine gV_iload_n C dL_isPossible_30 rfl 3 rfl ?_
              refine gV_iconst (v := 1) C dL_isPossible_31 rfl ?_
              refine gV_icmp_ne (tgt := 44) C dL_isPossible_32 (by decide) (fun c32 => ?_) (fun c32 => ?_)
              · replace hp := g_iff hp c32
                refine gV_loc [0] rfl ?_
                exact J44 hp
              · replace hp := g_ift hp c32
                refine gV_iload_n C dL_isPossible_35 rfl 2 rfl ?_
                refine gV_aload_n C dL_isPossible_36 rfl 0 rfl ?_
                refine gV_iconst (v := 0) C dL_isPossible_37 rfl ?_
                obtain ⟨hi38, hp⟩ := g_idx hp
                refine gV_iald C 0 rfl 0 rfl hi38 dL_isPossible_38 ?_
                refine gV_iconst (v := 1) C dL_isPossible_39 rfl ?_
                refine gV_isub C dL_isPossible_40 ?_
                refine gV_icmp_eq (tgt := 48) C dL_isPossible_41 (by decide) (fun c41 => ?_) (fun c41 => ?_)
                · replace hp := g_ift hp c41
                  refine gV_iconst (v := 0) C dL_isPossible_48 rfl ?_
                  refine gV_loc [0] rfl ?_
                  exact J49 0 hp
                · replace hp := g_iff hp c41
                  refine gV_loc [0] rfl ?_
                  exact J44 hp
      refine gV_iload_n C dL_isPossible_2 rfl 2 rfl ?_
      refine gV_aload_n C dL_isPossible_3 rfl 0 rfl ?_
      refine gV_iconst (v := 0) C dL_isPossible_4 rfl ?_
      obtain ⟨hi5, hp⟩ := g_idx hp
      refine gV_iald C 0 rfl 0 rfl hi5 dL_isPossible_5 ?_
      refine gV_icmp_gt (tgt := 62) C dL_isPossible_6 (by decide) (fun c6 => ?_) (fun c6 => ?_)
      · replace hp := g_ift hp c6
        refine gV_iconst (v := 0) C dL_isPossible_62 rfl ?_
        obtain rfl := g_so1 hp
        exact RET _ _ _ _ _ _ dL_isPossible_63 (Nat.le_of_ble_eq_true rfl) (Nat.le_of_ble_eq_true rfl) rfl ⟨rfl, rfl⟩
      · replace hp := g_iff hp c6
        refine gV_iconst (v := 0) C dL_isPossible_9 rfl ?_
        refine gV_istore_n (lvs' := [(3, .int 0), (0, .ref (k 0)), (1, .int v1), (2, .int v2)]) C dL_isPossible_10 rfl (by decide) rfl ?_
        refine gV_loc [1, 2, 3, 0] rfl ?_
        exact L11 v2 100000 0 hp
  refine gV_iconst (v := 0) C dL_isPossible_0 rfl ?_
  refine gV_istore_n (lvs' := [(2, .int 0), (0, .ref (k 0)), (1, .int v1)]) C dL_isPossible_1 rfl (by decide) rfl ?_
  refine gV_loc [1, 2, 0] rfl ?_
  exact L2 100000 0 hp
abbrev rm_L_lies : Room := { frames := 1, cells := 0, slots := 0, locals := 28 }
theorem hds_L_pins : yL_pins.cls ≠ "java/lang/invoke/MethodHandle" ∧ yL_pins.cls ≠ "java/lang/invoke/VarHandle" ∧ (parseMethodDescriptor yL_pins.desc).map (fun d => d.parameters.length) = some 4 := by decide +kernel
set_option maxHeartbeats 4000000 in
set_option maxRecDepth 100000 in
theorem mt_L_lies {l : Launch} (hl : l.stackTraces = false) (D : va_G) (k : Nat → Nat) (cI cJ : ClassId) (yg : Nat → Int32) (yq : Nat → Int32) (ym : Nat → Int32) (yw : Nat → Int64) (yh : Nat → Int32) (yr : Nat → Int64) (v4 : Int32) (r0 : Int32) (hp : pf_L_lies yg yq ym yr v4 = (some r0)) : gMi l yL_lies wsL_lies rm_L_lies D [(cI, .int), (cJ, .long)] (yW k cI cJ yg yq ym yw yh yr) [.ref (k 0), .ref (k 5), .ref (k 1), .ref (k 2), .int v4] 0 0 (fun r w => r = r0 ∧ w = yW k cI cJ yg yq ym yw yh yr) (fun _ _ => False) := by
  refine gMi_of (cc := cL_lies) (maxL := 7) (rt := .int) hl (by decide +kernel) rfl (Nat.le_of_ble_eq_true rfl) ?_
  intro p e s m args below meth c A Q C hnm ht RET OUT THR THRW
  have C : gC p l s m args meth c A D [(cI, .int), (cJ, .long)] 7 RL cL_lies wsL_lies := C
  refine gV_loc (lvs' := [(0, .ref (k 0)), (1, .ref (k 5)), (2, .ref (k 1)), (3, .ref (k 2)), (4, .int v4)]) [0, 1, 2, 3, 4] rfl ?_
  unfold pf_L_lies at hp
  have L6 : ∀ (n6 : Nat) (v5 : Int32) (v6 : Int32), pf_L_lies_L6 v4 yg yq ym yr n6 v5 v6 = (some r0) → gV p l e rm_L_lies s m args below meth c A D 7 Q (yW k cI cJ yg yq ym yw yh yr) [(0, .ref (k 0)), (1, .ref (k 5)), (2, .ref (k 1)), (3, .ref (k 2)), (4, .int v4), (5, .int v5), (6, .int v6)] 0 0 6 [] := by
    intro n6
    induction n6 with
    | zero => intro v5 v6 hp; exact g_none hp
    | succ n6 ih6 =>
      intro v5 v6 hp
      rw [pf_L_lies_L6.eq_2] at hp
      have J39 : ∀ (v6 : Int32) (s0 : Int32) (s1 : Int32), pf_L_lies_j39 (fun v5 v6 => pf_L_lies_L6 v4 yg yq ym yr n6 v5 v6) v6 s0 s1 = (some r0) → gV p l e rm_L_lies s m args below meth c A D 7 Q (yW k cI cJ yg yq ym yw yh yr) [(0, .ref (k 0)), (1, .ref (k 5)), (2, .ref (k 1)), (3, .ref (k 2)), (4, .int v4), (6, .int v6)] 0 0 39 [.int s0, .int s1] := by
        intro v6 s0 s1 hp
        unfold pf_L_lies_j39 at hp
        refine gV_iadd C dL_lies_39 ?_
        refine gV_istore (lvs' := [(5, .int (s1 + s0)), (0, .ref (k 0)), (1, .ref (k 5)), (2, .ref (k 1)), (3, .ref (k 2)), (4, .int v4), (6, .int v6)]) C dL_lies_40 (by decide) rfl ?_
        refine gV_iinc (v := (v6 + 1)) (lvs' := [(6, .int (v6 + 1)), (5, .int (s1 + s0)), (0, .ref (k 0)), (1, .ref (k 5)), (2, .ref (k 1)), (3, .ref (k 2)), (4, .int v4)]) C dL_lies_42 6 rfl rfl (by decide) rfl ?_
        refine gV_goto (tgt := 6) C dL_lies_45 (by decide) ?_
        refine gV_loc [2, 3, 4, 5, 6, 1, 0] rfl ?_
        exact ih6 (s1 + s0) (v6 + 1) hp
      refine gV_iload C dL_lies_6 6 rfl ?_
      refine gV_aload_n C dL_lies_8 rfl 0 rfl ?_
      refine gV_iconst (v := 5) C dL_lies_9 rfl ?_
      obtain ⟨hi10, hp⟩ := g_idx hp
      refine gV_iald C 0 rfl 0 rfl hi10 dL_lies_10 ?_
      refine gV_icmp_ge (tgt := 48) C dL_lies_11 (by decide) (fun c11 => ?_) (fun c11 => ?_)
      · replace hp := g_ift hp c11
        refine gV_iload C dL_lies_48 5 rfl ?_
        obtain rfl := g_so1 hp
        exact RET _ _ _ _ _ _ dL_lies_50 (Nat.le_of_ble_eq_true rfl) (Nat.le_of_ble_eq_true rfl) rfl ⟨rfl, rfl⟩
      · replace hp := g_iff hp c11
        refine gV_iload C dL_lies_14 5 rfl ?_
        refine gV_aload_n C dL_lies_16 rfl 0 rfl ?_
        refine gV_aload_n C dL_lies_17 rfl 1 rfl ?_
        refine gV_aload_n C dL_lies_18 rfl 2 rfl ?_
        refine gV_iload C dL_lies_19 6 rfl ?_
        obtain ⟨hi21, hp⟩ := g_idx hp
        refine gV_iald C 1 rfl 0 rfl hi21 dL_lies_21 ?_
        refine gV_iload C dL_lies_22 4 rfl ?_
        obtain ⟨r24q, hq24, hp⟩ := g_ob1 hp
        refine gV_calliS C (gV_runS (As := [.ref (k 0), .ref (k 5), .int (yq v6.toNatClampNeg), .int v4]) (rest := [.int v5]) C (mt_L_pins hl D k cI cJ yg yq ym yw yh yr (yq v6.toNatClampNeg) v4 r24q hq24) (va_cwS 4 C.2.2.2.2.1 gL_lies_L_pins rfl rfl rfl hds_L_pins ⟨Nat.le_of_ble_eq_true rfl, Nat.le_of_ble_eq_true rfl⟩) (gSub_S _) rfl rfl (Nat.le_of_ble_eq_true rfl) dL_lies_24 ⟨Nat.le_of_ble_eq_true rfl, Nat.le_of_ble_eq_true rfl⟩) (fun _ _ hx => False.elim hx) (fun r24 w1 hw => ?_)
        obtain ⟨rfl, rfl⟩ := hw
        refine gV_aload_n C dL_lies_27 rfl 3 rfl ?_
        refine gV_iload C dL_lies_28 6 rfl ?_
        obtain ⟨hi30, hp⟩ := g_idx hp
        refine gV_iald C 2 rfl 0 rfl hi30 dL_lies_30 ?_
        refine gV_icmp_eq (tgt := 38) C dL_lies_31 (by decide) (fun c31 => ?_) (fun c31 => ?_)
        · replace hp := g_ift hp c31
          refine gV_iconst (v := 0) C dL_lies_38 rfl ?_
          refine gV_loc [0, 1, 2, 3, 4, 6] rfl ?_
          exact J39 v6 0 v5 hp
        · replace hp := g_iff hp c31
          refine gV_iconst (v := 1) C dL_lies_34 rfl ?_
          refine gV_goto (tgt := 39) C dL_lies_35 (by decide) ?_
          refine gV_loc [0, 1, 2, 3, 4, 6] rfl ?_
          exact J39 v6 1 v5 hp
  refine gV_iconst (v := 0) C dL_lies_0 rfl ?_
  refine gV_istore (lvs' := [(5, .int 0), (0, .ref (k 0)), (1, .ref (k 5)), (2, .ref (k 1)), (3, .ref (k 2)), (4, .int v4)]) C dL_lies_1 (by decide) rfl ?_
  refine gV_iconst (v := 0) C dL_lies_3 rfl ?_
  refine gV_istore (lvs' := [(6, .int 0), (5, .int 0), (0, .ref (k 0)), (1, .ref (k 5)), (2, .ref (k 1)), (3, .ref (k 2)), (4, .int v4)]) C dL_lies_4 (by decide) rfl ?_
  refine gV_loc [2, 3, 4, 5, 6, 1, 0] rfl ?_
  exact L6 100000 0 0 hp
abbrev rm_L_left : Room := { frames := 2, cells := 0, slots := 0, locals := 54 }
theorem hds_L_lies : yL_lies.cls ≠ "java/lang/invoke/MethodHandle" ∧ yL_lies.cls ≠ "java/lang/invoke/VarHandle" ∧ (parseMethodDescriptor yL_lies.desc).map (fun d => d.parameters.length) = some 5 := by decide +kernel
set_option maxHeartbeats 4000000 in
set_option maxRecDepth 100000 in
theorem mt_L_left {l : Launch} (hl : l.stackTraces = false) (D : va_G) (k : Nat → Nat) (cI cJ : ClassId) (yg : Nat → Int32) (yq : Nat → Int32) (ym : Nat → Int32) (yw : Nat → Int64) (yh : Nat → Int32) (yr : Nat → Int64)  (r0 : Int64) (hp : pf_L_left yg yq ym yr = (some r0)) : gMl l yL_left wsL_left rm_L_left D [(cI, .int), (cJ, .long)] (yW k cI cJ yg yq ym yw yh yr) [.ref (k 0), .ref (k 5), .ref (k 1), .ref (k 2)] 0 0 (fun r w => r = r0 ∧ w = yW k cI cJ yg yq ym yw yh yr) (fun _ _ => False) := by
  refine gMl_of (cc := cL_left) (maxL := 7) hl (by decide +kernel) rfl (Nat.le_of_ble_eq_true rfl) ?_
  intro p e s m args below meth c A Q C hnm ht RET OUT THR THRW
  have C : gC p l s m args meth c A D [(cI, .int), (cJ, .long)] 7 RL cL_left wsL_left := C
  refine gV_loc (lvs' := [(0, .ref (k 0)), (1, .ref (k 5)), (2, .ref (k 1)), (3, .ref (k 2))]) [0, 1, 2, 3] rfl ?_
  unfold pf_L_left at hp
  have L6 : ∀ (n6 : Nat) (v4 : Int64) (v6 : Int32), pf_L_left_L6 yg yq ym yr n6 v4 v6 = (some r0) → gV p l e rm_L_left s m args below meth c A D 7 Q (yW k cI cJ yg yq ym yw yh yr) [(0, .ref (k 0)), (1, .ref (k 5)), (2, .ref (k 1)), (3, .ref (k 2)), (4, .long v4), (6, .int v6)] 0 0 6 [] := by
    intro n6
    induction n6 with
    | zero => intro v4 v6 hp; exact g_none hp
    | succ n6 ih6 =>
      intro v4 v6 hp
      rw [pf_L_left_L6.eq_2] at hp
      have J39 : ∀ (v6 : Int32) (s0 : Int64) (s1 : Int64), pf_L_left_j39 (fun v4 v6 => pf_L_left_L6 yg yq ym yr n6 v4 v6) v6 s0 s1 = (some r0) → gV p l e rm_L_left s m args below meth c A D 7 Q (yW k cI cJ yg yq ym yw yh yr) [(0, .ref (k 0)), (1, .ref (k 5)), (2, .ref (k 1)), (3, .ref (k 2)), (6, .int v6)] 0 0 39 [.long s0, .long s1] := by
        intro v6 s0 s1 hp
        unfold pf_L_left_j39 at hp
        refine gV_lor C dL_left_39 ?_
        refine gV_lstore (lvs' := [(4, .long (s1 ||| s0)), (0, .ref (k 0)), (1, .ref (k 5)), (2, .ref (k 1)), (3, .ref (k 2)), (6, .int v6)]) C dL_left_40 (by decide) rfl ?_
        refine gV_iinc (v := (v6 + 1)) (lvs' := [(6, .int (v6 + 1)), (4, .long (s1 ||| s0)), (0, .ref (k 0)), (1, .ref (k 5)), (2, .ref (k 1)), (3, .ref (k 2))]) C dL_left_42 5 rfl rfl (by decide) rfl ?_
        refine gV_goto (tgt := 6) C dL_left_45 (by decide) ?_
        refine gV_loc [2, 3, 4, 5, 1, 0] rfl ?_
        exact ih6 (s1 ||| s0) (v6 + 1) hp
      refine gV_iload C dL_left_6 5 rfl ?_
      refine gV_aload_n C dL_left_8 rfl 0 rfl ?_
      refine gV_iconst (v := 2) C dL_left_9 rfl ?_
      obtain ⟨hi10, hp⟩ := g_idx hp
      refine gV_iald C 0 rfl 0 rfl hi10 dL_left_10 ?_
      refine gV_icmp_ge (tgt := 48) C dL_left_11 (by decide) (fun c11 => ?_) (fun c11 => ?_)
      · replace hp := g_ift hp c11
        refine gV_lload C dL_left_48 4 rfl ?_
        obtain rfl := g_so1 hp
        exact RET _ _ _ _ _ _ dL_left_50 (Nat.le_of_ble_eq_true rfl) (Nat.le_of_ble_eq_true rfl) ⟨rfl, rfl⟩
      · replace hp := g_iff hp c11
        refine gV_lload C dL_left_14 4 rfl ?_
        refine gV_aload_n C dL_left_16 rfl 0 rfl ?_
        refine gV_aload_n C dL_left_17 rfl 1 rfl ?_
        refine gV_aload_n C dL_left_18 rfl 2 rfl ?_
        refine gV_aload_n C dL_left_19 rfl 3 rfl ?_
        refine gV_iload C dL_left_20 5 rfl ?_
        obtain ⟨r22q, hq22, hp⟩ := g_ob1 hp
        refine gV_calliS C (gV_runS (As := [.ref (k 0), .ref (k 5), .ref (k 1), .ref (k 2), .int v6]) (rest := [.long v4]) C (mt_L_lies hl D k cI cJ yg yq ym yw yh yr v6 r22q hq22) (va_cwS 5 C.2.2.2.2.1 gL_left_L_lies rfl rfl rfl hds_L_lies ⟨Nat.le_of_ble_eq_true rfl, Nat.le_of_ble_eq_true rfl⟩) (gSub_S _) rfl rfl (Nat.le_of_ble_eq_true rfl) dL_left_22 ⟨Nat.le_of_ble_eq_true rfl, Nat.le_of_ble_eq_true rfl⟩) (fun _ _ hx => False.elim hx) (fun r22 w1 hw => ?_)
        obtain ⟨rfl, rfl⟩ := hw
        refine gV_aload_n C dL_left_25 rfl 0 rfl ?_
        refine gV_iconst (v := 3) C dL_left_26 rfl ?_
        obtain ⟨hi27, hp⟩ := g_idx hp
        refine gV_iald C 0 rfl 0 rfl hi27 dL_left_27 ?_
        refine gV_icmp_le (tgt := 35) C dL_left_28 (by decide) (fun c28 => ?_) (fun c28 => ?_)
        · replace hp := g_ift hp c28
          refine gV_lconst (v := 1) C dL_left_35 rfl ?_
          refine gV_iload C dL_left_36 5 rfl ?_
          refine gV_lshl C dL_left_38 ?_
          refine gV_loc [0, 1, 2, 3, 5] rfl ?_
          exact J39 v6 (g_lsl 1 v6) v4 hp
        · replace hp := g_iff hp c28
          refine gV_lconst (v := 0) C dL_left_31 rfl ?_
          refine gV_goto (tgt := 39) C dL_left_32 (by decide) ?_
          refine gV_loc [0, 1, 2, 3, 5] rfl ?_
          exact J39 v6 0 v4 hp
  refine gV_lconst (v := 0) C dL_left_0 rfl ?_
  refine gV_lstore (lvs' := [(4, .long 0), (0, .ref (k 0)), (1, .ref (k 5)), (2, .ref (k 1)), (3, .ref (k 2))]) C dL_left_1 (by decide) rfl ?_
  refine gV_iconst (v := 0) C dL_left_3 rfl ?_
  refine gV_istore (lvs' := [(6, .int 0), (4, .long 0), (0, .ref (k 0)), (1, .ref (k 5)), (2, .ref (k 1)), (3, .ref (k 2))]) C dL_left_4 (by decide) rfl ?_
  refine gV_loc [2, 3, 4, 5, 1, 0] rfl ?_
  exact L6 100000 0 0 hp
abbrev rm_L_many : Room := { frames := 0, cells := 0, slots := 0, locals := 0 }
set_option maxHeartbeats 4000000 in
set_option maxRecDepth 100000 in
theorem mt_L_many {l : Launch} (hl : l.stackTraces = false) (D : va_G)  (cI cJ : ClassId)  (v0 : Int64) (r0 : Int32) (hp : pf_L_many v0 = (some r0)) : gMi l yL_many wsL_many rm_L_many D [(cI, .int), (cJ, .long)] [] [.long v0] 0 0 (fun r w => r = r0 ∧ w = []) (fun _ _ => False) := by
  refine gMi_of (cc := cL_many) (maxL := 5) (rt := .int) hl (by decide +kernel) rfl (Nat.le_of_ble_eq_true rfl) ?_
  intro p e s m args below meth c A Q C hnm ht RET OUT THR THRW
  have C : gC p l s m args meth c A D [(cI, .int), (cJ, .long)] 5 RL cL_many wsL_many := C
  refine gV_loc (lvs' := [(0, .long v0)]) [0] rfl ?_
  unfold pf_L_many at hp
  have L4 : ∀ (n4 : Nat) (v2 : Int32) (v3 : Int64), pf_L_many_L4 n4 v2 v3 = (some r0) → gV p l e rm_L_many s m args below meth c A D 5 Q [] [(2, .int v2), (3, .long v3)] 0 0 4 [] := by
    intro n4
    induction n4 with
    | zero => intro v2 v3 hp; exact g_none hp
    | succ n4 ih4 =>
      intro v2 v3 hp
      rw [pf_L_many_L4.eq_2] at hp
      refine gV_lload_n C dL_many_4 rfl 1 rfl ?_
      refine gV_lconst (v := 0) C dL_many_5 rfl ?_
      refine gV_lcmp C dL_many_6 ?_
      refine gV_if_eq (tgt := 22) C dL_many_7 (by decide) (fun c7 => ?_) (fun c7 => ?_)
      · replace hp := g_ift hp c7
        refine gV_iload_n C dL_many_22 rfl 0 rfl ?_
        obtain rfl := g_so1 hp
        exact RET _ _ _ _ _ _ dL_many_23 (Nat.le_of_ble_eq_true rfl) (Nat.le_of_ble_eq_true rfl) rfl ⟨rfl, rfl⟩
      · replace hp := g_iff hp c7
        refine gV_iinc (v := (v2 + 1)) (lvs' := [(2, .int (v2 + 1)), (3, .long v3)]) C dL_many_10 0 rfl rfl (by decide) rfl ?_
        refine gV_lload_n C dL_many_13 rfl 1 rfl ?_
        refine gV_lload_n C dL_many_14 rfl 1 rfl ?_
        refine gV_lconst (v := 1) C dL_many_15 rfl ?_
        refine gV_lsub C dL_many_16 ?_
        refine gV_land C dL_many_17 ?_
        refine gV_lstore_n (lvs' := [(3, .long (v3 &&& (v3 - 1))), (2, .int (v2 + 1))]) C dL_many_18 rfl (by decide) rfl ?_
        refine gV_goto (tgt := 4) C dL_many_19 (by decide) ?_
        refine gV_loc [1, 0] rfl ?_
        exact ih4 (v2 + 1) (v3 &&& (v3 - 1)) hp
  refine gV_iconst (v := 0) C dL_many_0 rfl ?_
  refine gV_istore_n (lvs' := [(2, .int 0), (0, .long v0)]) C dL_many_1 rfl (by decide) rfl ?_
  refine gV_lload_n C dL_many_2 rfl 1 rfl ?_
  refine gV_lstore_n (lvs' := [(3, .long v0), (2, .int 0), (0, .long v0)]) C dL_many_3 rfl (by decide) rfl ?_
  refine gV_loc [1, 0] rfl ?_
  exact L4 100000 0 v0 hp
abbrev rm_L_has : Room := { frames := 0, cells := 0, slots := 0, locals := 0 }
set_option maxHeartbeats 4000000 in
set_option maxRecDepth 100000 in
theorem mt_L_has {l : Launch} (hl : l.stackTraces = false) (D : va_G)  (cI cJ : ClassId)  (v0 : Int64) (v2 : Int32) (r0 : Int32) (hp : pf_L_has v0 v2 = (some r0)) : gMi l yL_has wsL_has rm_L_has D [(cI, .int), (cJ, .long)] [] [.long v0, .int v2] 0 0 (fun r w => r = r0 ∧ w = []) (fun _ _ => False) := by
  refine gMi_of (cc := cL_has) (maxL := 3) (rt := .boolean) hl (by decide +kernel) rfl (Nat.le_of_ble_eq_true rfl) ?_
  intro p e s m args below meth c A Q C hnm ht RET OUT THR THRW
  have C : gC p l s m args meth c A D [(cI, .int), (cJ, .long)] 3 RL cL_has wsL_has := C
  refine gV_loc (lvs' := [(0, .long v0), (2, .int v2)]) [0, 1] rfl ?_
  unfold pf_L_has at hp
  have J15 : ∀ (s0 : Int32), pf_L_has_j15 s0 = (some r0) → gV p l e rm_L_has s m args below meth c A D 3 Q [] [] 0 0 15 [.int s0] := by
    intro s0 hp
    unfold pf_L_has_j15 at hp
    obtain ⟨hz15, hp⟩ := g_bool hp
    obtain rfl := g_so1 hp
    exact RET _ _ _ _ _ _ dL_has_15 (Nat.le_of_ble_eq_true rfl) (Nat.le_of_ble_eq_true rfl) (g_nz hz15) ⟨rfl, rfl⟩
  refine gV_lload_n C dL_has_0 rfl 0 rfl ?_
  refine gV_iload_n C dL_has_1 rfl 1 rfl ?_
  refine gV_lshr C dL_has_2 ?_
  refine gV_lconst (v := 1) C dL_has_3 rfl ?_
  refine gV_land C dL_has_4 ?_
  refine gV_lconst (v := 1) C dL_has_5 rfl ?_
  refine gV_lcmp C dL_has_6 ?_
  refine gV_if_ne (tgt := 14) C dL_has_7 (by decide) (fun c7 => ?_) (fun c7 => ?_)
  · replace hp := g_iff hp c7
    refine gV_iconst (v := 0) C dL_has_14 rfl ?_
    refine gV_loc [] rfl ?_
    exact J15 0 hp
  · replace hp := g_ift hp c7
    refine gV_iconst (v := 1) C dL_has_10 rfl ?_
    refine gV_goto (tgt := 15) C dL_has_11 (by decide) ?_
    refine gV_loc [] rfl ?_
    exact J15 1 hp
abbrev rm_L_part : Room := { frames := 1, cells := 0, slots := 0, locals := 28 }
theorem hds_L_has : yL_has.cls ≠ "java/lang/invoke/MethodHandle" ∧ yL_has.cls ≠ "java/lang/invoke/VarHandle" ∧ (parseMethodDescriptor yL_has.desc).map (fun d => d.parameters.length) = some 2 := by decide +kernel
set_option maxHeartbeats 4000000 in
set_option maxRecDepth 100000 in
theorem mt_L_part {l : Launch} (hl : l.stackTraces = false) (D : va_G) (k : Nat → Nat) (cI cJ : ClassId) (yg : Nat → Int32) (yq : Nat → Int32) (ym : Nat → Int32) (yw : Nat → Int64) (yh : Nat → Int32) (yr : Nat → Int64) (v2 : Int64) (v4 : Int32) (v5 : Int32) (r0 : Int64) (hp : pf_L_part yg yr v2 v4 v5 = (some r0)) : gMl l yL_part wsL_part rm_L_part D [(cI, .int), (cJ, .long)] (yW k cI cJ yg yq ym yw yh yr) [.ref (k 0), .ref (k 5), .long v2, .int v4, .int v5] 0 0 (fun r w => r = r0 ∧ w = yW k cI cJ yg yq ym yw yh yr) (fun _ _ => False) := by
  refine gMl_of (cc := cL_part) (maxL := 9) hl (by decide +kernel) rfl (Nat.le_of_ble_eq_true rfl) ?_
  intro p e s m args below meth c A Q C hnm ht RET OUT THR THRW
  have C : gC p l s m args meth c A D [(cI, .int), (cJ, .long)] 9 RL cL_part wsL_part := C
  refine gV_loc (lvs' := [(0, .ref (k 0)), (1, .ref (k 5)), (2, .long v2), (4, .int v4), (5, .int v5)]) [0, 1, 2, 3, 4] rfl ?_
  unfold pf_L_part at hp
  have L6 : ∀ (n6 : Nat) (v6 : Int64) (v8 : Int32), pf_L_part_L6 v2 v4 v5 yg yr n6 v6 v8 = (some r0) → gV p l e rm_L_part s m args below meth c A D 9 Q (yW k cI cJ yg yq ym yw yh yr) [(0, .ref (k 0)), (1, .ref (k 5)), (2, .long v2), (4, .int v4), (5, .int v5), (6, .long v6), (8, .int v8)] 0 0 6 [] := by
    intro n6
    induction n6 with
    | zero => intro v6 v8 hp; exact g_none hp
    | succ n6 ih6 =>
      intro v6 v8 hp
      rw [pf_L_part_L6.eq_2] at hp
      have J46 : ∀ (v6 : Int64) (v8 : Int32), pf_L_part_j46 (fun v6 v8 => pf_L_part_L6 v2 v4 v5 yg yr n6 v6 v8) v6 v8 = (some r0) → gV p l e rm_L_part s m args below meth c A D 9 Q (yW k cI cJ yg yq ym yw yh yr) [(0, .ref (k 0)), (1, .ref (k 5)), (2, .long v2), (4, .int v4), (5, .int v5), (6, .long v6), (8, .int v8)] 0 0 46 [] := by
        intro v6 v8 hp
        unfold pf_L_part_j46 at hp
        refine gV_iinc (v := (v8 + 1)) (lvs' := [(8, .int (v8 + 1)), (0, .ref (k 0)), (1, .ref (k 5)), (2, .long v2), (4, .int v4), (5, .int v5), (6, .long v6)]) C dL_part_46 6 rfl rfl (by decide) rfl ?_
        refine gV_goto (tgt := 6) C dL_part_49 (by decide) ?_
        refine gV_loc [1, 2, 3, 4, 5, 6, 0] rfl ?_
        exact ih6 v6 (v8 + 1) hp
      refine gV_iload C dL_part_6 6 rfl ?_
      refine gV_aload_n C dL_part_8 rfl 0 rfl ?_
      refine gV_iconst (v := 2) C dL_part_9 rfl ?_
      obtain ⟨hi10, hp⟩ := g_idx hp
      refine gV_iald C 0 rfl 0 rfl hi10 dL_part_10 ?_
      refine gV_icmp_ge (tgt := 52) C dL_part_11 (by decide) (fun c11 => ?_) (fun c11 => ?_)
      · replace hp := g_ift hp c11
        refine gV_lload C dL_part_52 5 rfl ?_
        obtain rfl := g_so1 hp
        exact RET _ _ _ _ _ _ dL_part_54 (Nat.le_of_ble_eq_true rfl) (Nat.le_of_ble_eq_true rfl) ⟨rfl, rfl⟩
      · replace hp := g_iff hp c11
        refine gV_lload_n C dL_part_14 rfl 2 rfl ?_
        refine gV_iload C dL_part_15 6 rfl ?_
        obtain ⟨r17q, hq17, hp⟩ := g_ob1 hp
        refine gV_calliE C (gV_runS (As := [.long v2, .int v8]) (rest := []) C (mt_L_has hl D cI cJ v2 v8 r17q hq17) (va_cwS 2 C.2.2.2.2.1 gL_part_L_has rfl rfl rfl hds_L_has ⟨Nat.le_of_ble_eq_true rfl, Nat.le_of_ble_eq_true rfl⟩) (gSub_E _) rfl rfl (Nat.le_of_ble_eq_true rfl) dL_part_17 ⟨Nat.le_of_ble_eq_true rfl, Nat.le_of_ble_eq_true rfl⟩) (fun _ _ hx => False.elim hx) (fun r17 w1 hw => ?_)
        obtain ⟨rfl, rfl⟩ := hw
        refine ⟨rfl, ?_⟩
        refine gV_if_eq (tgt := 46) C dL_part_20 (by decide) (fun c20 => ?_) (fun c20 => ?_)
        · replace hp := g_ift hp c20
          exact J46 v6 v8 hp
        · replace hp := g_iff hp c20
          refine gV_aload_n C dL_part_23 rfl 0 rfl ?_
          refine gV_aload_n C dL_part_24 rfl 1 rfl ?_
          refine gV_iload C dL_part_25 3 rfl ?_
          refine gV_iload C dL_part_27 6 rfl ?_
          obtain ⟨r29q, hq29, hp⟩ := g_ob1 hp
          refine gV_calliS C (gV_runS (As := [.ref (k 0), .ref (k 5), .int v4, .int v8]) (rest := []) C (mt_L_pins hl D k cI cJ yg yq ym yw yh yr v4 v8 r29q hq29) (va_cwS 4 C.2.2.2.2.1 gL_part_L_pins rfl rfl rfl hds_L_pins ⟨Nat.le_of_ble_eq_true rfl, Nat.le_of_ble_eq_true rfl⟩) (gSub_S _) rfl rfl (Nat.le_of_ble_eq_true rfl) dL_part_29 ⟨Nat.le_of_ble_eq_true rfl, Nat.le_of_ble_eq_true rfl⟩) (fun _ _ hx => False.elim hx) (fun r29 w1 hw => ?_)
          obtain ⟨rfl, rfl⟩ := hw
          refine gV_iload C dL_part_32 4 rfl ?_
          refine gV_icmp_ne (tgt := 46) C dL_part_34 (by decide) (fun c34 => ?_) (fun c34 => ?_)
          · replace hp := g_iff hp c34
            exact J46 v6 v8 hp
          · replace hp := g_ift hp c34
            refine gV_lload C dL_part_37 5 rfl ?_
            refine gV_lconst (v := 1) C dL_part_39 rfl ?_
            refine gV_iload C dL_part_40 6 rfl ?_
            refine gV_lshl C dL_part_42 ?_
            refine gV_lor C dL_part_43 ?_
            refine gV_lstore (lvs' := [(6, .long (v6 ||| (g_lsl 1 v8))), (0, .ref (k 0)), (1, .ref (k 5)), (2, .long v2), (4, .int v4), (5, .int v5), (8, .int v8)]) C dL_part_44 (by decide) rfl ?_
            refine gV_loc [1, 2, 3, 4, 5, 0, 6] rfl ?_
            exact J46 (v6 ||| (g_lsl 1 v8)) v8 hp
  refine gV_lconst (v := 0) C dL_part_0 rfl ?_
  refine gV_lstore (lvs' := [(6, .long 0), (0, .ref (k 0)), (1, .ref (k 5)), (2, .long v2), (4, .int v4), (5, .int v5)]) C dL_part_1 (by decide) rfl ?_
  refine gV_iconst (v := 0) C dL_part_3 rfl ?_
  refine gV_istore (lvs' := [(8, .int 0), (6, .long 0), (0, .ref (k 0)), (1, .ref (k 5)), (2, .long v2), (4, .int v4), (5, .int v5)]) C dL_part_4 (by decide) rfl ?_
  refine gV_loc [2, 3, 4, 5, 6, 1, 0] rfl ?_
  exact L6 100000 0 0 hp
abbrev rm_L_worth : Room := { frames := 2, cells := 0, slots := 0, locals := 56 }
theorem hds_L_many : yL_many.cls ≠ "java/lang/invoke/MethodHandle" ∧ yL_many.cls ≠ "java/lang/invoke/VarHandle" ∧ (parseMethodDescriptor yL_many.desc).map (fun d => d.parameters.length) = some 1 := by decide +kernel
theorem hds_L_part : yL_part.cls ≠ "java/lang/invoke/MethodHandle" ∧ yL_part.cls ≠ "java/lang/invoke/VarHandle" ∧ (parseMethodDescriptor yL_part.desc).map (fun d => d.parameters.length) = some 5 := by decide +kernel
set_option maxHeartbeats 4000000 in
set_option maxRecDepth 100000 in
theorem mt_L_worth {l : Launch} (hl : l.stackTraces = false) (D : va_G) (k : Nat → Nat) (cI cJ : ClassId) (yg : Nat → Int32) (yq : Nat → Int32) (ym : Nat → Int32) (yw : Nat → Int64) (yh : Nat → Int32) (yr : Nat → Int64) (v2 : Int64) (v4 : Int32) (v5 : Int32) (r0 : Int32) (hp : pf_L_worth yg yr v2 v4 v5 = (some r0)) : gMi l yL_worth wsL_worth rm_L_worth D [(cI, .int), (cJ, .long)] (yW k cI cJ yg yq ym yw yh yr) [.ref (k 0), .ref (k 5), .long v2, .int v4, .int v5] 0 0 (fun r w => r = r0 ∧ w = yW k cI cJ yg yq ym yw yh yr) (fun _ _ => False) := by
  refine gMi_of (cc := cL_worth) (maxL := 15) (rt := .int) hl (by decide +kernel) rfl (Nat.le_of_ble_eq_true rfl) ?_
  intro p e s m args below meth c A Q C hnm ht RET OUT THR THRW
  have C : gC p l s m args meth c A D [(cI, .int), (cJ, .long)] 15 RL cL_worth wsL_worth := C
  refine gV_loc (lvs' := [(0, .ref (k 0)), (1, .ref (k 5)), (2, .long v2), (4, .int v4), (5, .int v5)]) [0, 1, 2, 3, 4] rfl ?_
  unfold pf_L_worth at hp
  have J132 : ∀ (s0 : Int32), pf_L_worth_j132 s0 = (some r0) → gV p l e rm_L_worth s m args below meth c A D 15 Q (yW k cI cJ yg yq ym yw yh yr) [(0, .ref (k 0)), (1, .ref (k 5))] 0 0 132 [.int s0] := by
    intro s0 hp
    unfold pf_L_worth_j132 at hp
    obtain rfl := g_so1 hp
    exact RET _ _ _ _ _ _ dL_worth_132 (Nat.le_of_ble_eq_true rfl) (Nat.le_of_ble_eq_true rfl) rfl ⟨rfl, rfl⟩
  have L12 : ∀ (n12 : Nat) (v6 : Int32) (v7 : Int32) (v8 : Int32) (v9 : Int64), pf_L_worth_L12 v4 v5 yg yr n12 v6 v7 v8 v9 = (some r0) → gV p l e rm_L_worth s m args below meth c A D 15 Q (yW k cI cJ yg yq ym yw yh yr) [(0, .ref (k 0)), (1, .ref (k 5)), (4, .int v4), (5, .int v5), (6, .int v6), (7, .int v7), (8, .int v8), (9, .long v9)] 0 0 12 [] := by
    intro n12
    induction n12 with
    | zero => intro v6 v7 v8 v9 hp; exact g_none hp
    | succ n12 ih12 =>
      intro v6 v7 v8 v9 hp
      rw [pf_L_worth_L12.eq_2] at hp
      have J79 : ∀ (v7 : Int32) (v8 : Int32) (v9 : Int64) (v12 : Int64) (v14 : Int32) (s0 : Int32), pf_L_worth_j79 (fun v6 v7 v8 v9 => pf_L_worth_L12 v4 v5 yg yr n12 v6 v7 v8 v9) v7 v8 v9 v12 v14 s0 = (some r0) → gV p l e rm_L_worth s m args below meth c A D 15 Q (yW k cI cJ yg yq ym yw yh yr) [(0, .ref (k 0)), (1, .ref (k 5)), (4, .int v4), (5, .int v5), (7, .int v7), (8, .int v8), (9, .long v9), (12, .long v12), (14, .int v14)] 0 0 79 [.int s0] := by
        intro v7 v8 v9 v12 v14 s0 hp
        unfold pf_L_worth_j79 at hp
        refine gV_istore (lvs' := [(6, .int s0), (0, .ref (k 0)), (1, .ref (k 5)), (4, .int v4), (5, .int v5), (7, .int v7), (8, .int v8), (9, .long v9), (12, .long v12), (14, .int v14)]) C dL_worth_79 (by decide) rfl ?_
        refine gV_iload C dL_worth_81 5 rfl ?_
        refine gV_iload C dL_worth_83 9 rfl ?_
        refine gV_iload C dL_worth_85 9 rfl ?_
        refine gV_imul C dL_worth_87 ?_
        refine gV_iadd C dL_worth_88 ?_
        refine gV_istore (lvs' := [(7, .int (v7 + (v14 * v14))), (6, .int s0), (0, .ref (k 0)), (1, .ref (k 5)), (4, .int v4), (5, .int v5), (8, .int v8), (9, .long v9), (12, .long v12), (14, .int v14)]) C dL_worth_89 (by decide) rfl ?_
        refine gV_iinc (v := (v8 + 1)) (lvs' := [(8, .int (v8 + 1)), (7, .int (v7 + (v14 * v14))), (6, .int s0), (0, .ref (k 0)), (1, .ref (k 5)), (4, .int v4), (5, .int v5), (9, .long v9), (12, .long v12), (14, .int v14)]) C dL_worth_91 6 rfl rfl (by decide) rfl ?_
        refine gV_lload C dL_worth_94 7 rfl ?_
        refine gV_lload C dL_worth_96 8 rfl ?_
        refine gV_ldc2 (v := (-1)) C dL_worth_98 (C.w 1 rfl) ?_
        refine gV_lxor C dL_worth_101 ?_
        refine gV_land C dL_worth_102 ?_
        refine gV_lstore (lvs' := [(9, .long (v9 &&& (v12 ^^^ (-1)))), (8, .int (v8 + 1)), (7, .int (v7 + (v14 * v14))), (6, .int s0), (0, .ref (k 0)), (1, .ref (k 5)), (4, .int v4), (5, .int v5), (12, .long v12), (14, .int v14)]) C dL_worth_103 (by decide) rfl ?_
        refine gV_goto (tgt := 12) C dL_worth_105 (by decide) ?_
        refine gV_loc [4, 5, 6, 7, 3, 2, 1, 0] rfl ?_
        exact ih12 s0 (v7 + (v14 * v14)) (v8 + 1) (v9 &&& (v12 ^^^ (-1))) hp
      have L22 : ∀ (v6 : Int32) (v7 : Int32) (v8 : Int32) (v9 : Int64) (n22 : Nat) (v11 : Int32), pf_L_worth_L22 v4 yg yr (fun v6 v7 v8 v9 => pf_L_worth_L12 v4 v5 yg yr n12 v6 v7 v8 v9) v6 v7 v8 v9 n22 v11 = (some r0) → gV p l e rm_L_worth s m args below meth c A D 15 Q (yW k cI cJ yg yq ym yw yh yr) [(0, .ref (k 0)), (1, .ref (k 5)), (4, .int v4), (5, .int v5), (6, .int v6), (7, .int v7), (8, .int v8), (9, .long v9), (11, .int v11)] 0 0 22 [] := by
        intro v6 v7 v8 v9 n22
        induction n22 with
        | zero => intro v11 hp; exact g_none hp
        | succ n22 ih22 =>
          intro v11 hp
          rw [pf_L_worth_L22.eq_2] at hp
          refine gV_lload C dL_worth_22 7 rfl ?_
          refine gV_iload C dL_worth_24 8 rfl ?_
          obtain ⟨r26q, hq26, hp⟩ := g_ob1 hp
          refine gV_calliE C (gV_runS (As := [.long v9, .int v11]) (rest := []) C (mt_L_has hl D cI cJ v9 v11 r26q hq26) (va_cwS 2 C.2.2.2.2.1 gL_worth_L_has rfl rfl rfl hds_L_has ⟨Nat.le_of_ble_eq_true rfl, Nat.le_of_ble_eq_true rfl⟩) (gSub_E _) rfl rfl (Nat.le_of_ble_eq_true rfl) dL_worth_26 ⟨Nat.le_of_ble_eq_true rfl, Nat.le_of_ble_eq_true rfl⟩) (fun _ _ hx => False.elim hx) (fun r26 w1 hw => ?_)
          obtain ⟨rfl, rfl⟩ := hw
          refine ⟨rfl, ?_⟩
          refine gV_if_ne (tgt := 38) C dL_worth_29 (by decide) (fun c29 => ?_) (fun c29 => ?_)
          · replace hp := g_iff hp c29
            refine gV_aload_n C dL_worth_38 rfl 0 rfl ?_
            refine gV_aload_n C dL_worth_39 rfl 1 rfl ?_
            refine gV_lload C dL_worth_40 7 rfl ?_
            refine gV_iload C dL_worth_42 2 rfl ?_
            refine gV_aload_n C dL_worth_44 rfl 0 rfl ?_
            refine gV_aload_n C dL_worth_45 rfl 1 rfl ?_
            refine gV_iload C dL_worth_46 2 rfl ?_
            refine gV_iload C dL_worth_48 8 rfl ?_
            obtain ⟨r50q, hq50, hp⟩ := g_ob1 hp
            refine gV_calliS C (gV_runS (As := [.ref (k 0), .ref (k 5), .int v4, .int v11]) (rest := [.int v4, .long v9, .ref (k 5), .ref (k 0)]) C (mt_L_pins hl D k cI cJ yg yq ym yw yh yr v4 v11 r50q hq50) (va_cwS 4 C.2.2.2.2.1 gL_worth_L_pins rfl rfl rfl hds_L_pins ⟨Nat.le_of_ble_eq_true rfl, Nat.le_of_ble_eq_true rfl⟩) (gSub_S _) rfl rfl (Nat.le_of_ble_eq_true rfl) dL_worth_50 ⟨Nat.le_of_ble_eq_true rfl, Nat.le_of_ble_eq_true rfl⟩) (fun _ _ hx => False.elim hx) (fun r50 w1 hw => ?_)
            obtain ⟨rfl, rfl⟩ := hw
            obtain ⟨r53q, hq53, hp⟩ := g_ob1 hp
            refine gV_calllS C (gV_runS (As := [.ref (k 0), .ref (k 5), .long v9, .int v4, .int r50]) (rest := []) C (mt_L_part hl D k cI cJ yg yq ym yw yh yr v9 v4 r50 r53q hq53) (va_cwS 5 C.2.2.2.2.1 gL_worth_L_part rfl rfl rfl hds_L_part ⟨Nat.le_of_ble_eq_true rfl, Nat.le_of_ble_eq_true rfl⟩) (gSub_S _) rfl rfl (Nat.le_of_ble_eq_true rfl) dL_worth_53 ⟨Nat.le_of_ble_eq_true rfl, Nat.le_of_ble_eq_true rfl⟩) (fun _ _ hx => False.elim hx) (fun r53 w1 hw => ?_)
            obtain ⟨rfl, rfl⟩ := hw
            refine gV_lstore (lvs' := [(12, .long r53), (0, .ref (k 0)), (1, .ref (k 5)), (4, .int v4), (5, .int v5), (6, .int v6), (7, .int v7), (8, .int v8), (9, .long v9), (11, .int v11)]) C dL_worth_56 (by decide) rfl ?_
            refine gV_lload C dL_worth_58 0 rfl ?_
            obtain ⟨r60q, hq60, hp⟩ := g_ob1 hp
            refine gV_calliE C (gV_runS (As := [.long r53]) (rest := []) C (mt_L_many hl D cI cJ r53 r60q hq60) (va_cwS 1 C.2.2.2.2.1 gL_worth_L_many rfl rfl rfl hds_L_many ⟨Nat.le_of_ble_eq_true rfl, Nat.le_of_ble_eq_true rfl⟩) (gSub_E _) rfl rfl (Nat.le_of_ble_eq_true rfl) dL_worth_60 ⟨Nat.le_of_ble_eq_true rfl, Nat.le_of_ble_eq_true rfl⟩) (fun _ _ hx => False.elim hx) (fun r60 w1 hw => ?_)
            obtain ⟨rfl, rfl⟩ := hw
            refine ⟨rfl, ?_⟩
            refine gV_istore (lvs' := [(14, .int r60), (12, .long r53), (0, .ref (k 0)), (1, .ref (k 5)), (4, .int v4), (5, .int v5), (6, .int v6), (7, .int v7), (8, .int v8), (9, .long v9), (11, .int v11)]) C dL_worth_63 (by decide) rfl ?_
            refine gV_iload C dL_worth_65 0 rfl ?_
            refine gV_iload C dL_worth_67 6 rfl ?_
            refine gV_icmp_le (tgt := 77) C dL_worth_69 (by decide) (fun c69 => ?_) (fun c69 => ?_)
            · replace hp := g_ift hp c69
              refine gV_iload C dL_worth_77 6 rfl ?_
              refine gV_loc [2, 3, 4, 5, 7, 8, 9, 1, 0] rfl ?_
              exact J79 v7 v8 v9 r53 r60 v6 hp
            · replace hp := g_iff hp c69
              refine gV_iload C dL_worth_72 0 rfl ?_
              refine gV_goto (tgt := 79) C dL_worth_74 (by decide) ?_
              refine gV_loc [2, 3, 4, 5, 7, 8, 9, 1, 0] rfl ?_
              exact J79 v7 v8 v9 r53 r60 r60 hp
          · replace hp := g_ift hp c29
            refine gV_iinc (v := (v11 + 1)) (lvs' := [(11, .int (v11 + 1)), (0, .ref (k 0)), (1, .ref (k 5)), (4, .int v4), (5, .int v5), (6, .int v6), (7, .int v7), (8, .int v8), (9, .long v9)]) C dL_worth_32 8 rfl rfl (by decide) rfl ?_
            refine gV_goto (tgt := 22) C dL_worth_35 (by decide) ?_
            refine gV_loc [1, 2, 3, 4, 5, 6, 7, 8, 0] rfl ?_
            exact ih22 (v11 + 1) hp
      refine gV_lload C dL_worth_12 7 rfl ?_
      refine gV_lconst (v := 0) C dL_worth_14 rfl ?_
      refine gV_lcmp C dL_worth_15 ?_
      refine gV_if_eq (tgt := 108) C dL_worth_16 (by decide) (fun c16 => ?_) (fun c16 => ?_)
      · replace hp := g_ift hp c16
        refine gV_iload C dL_worth_108 3 rfl ?_
        refine gV_if_ne (tgt := 118) C dL_worth_110 (by decide) (fun c110 => ?_) (fun c110 => ?_)
        · replace hp := g_iff hp c110
          refine gV_iload C dL_worth_118 3 rfl ?_
          refine gV_iconst (v := 1) C dL_worth_120 rfl ?_
          refine gV_icmp_ne (tgt := 129) C dL_worth_121 (by decide) (fun c121 => ?_) (fun c121 => ?_)
          · replace hp := g_iff hp c121
            refine gV_iload C dL_worth_129 6 rfl ?_
            refine gV_ineg C dL_worth_131 ?_
            refine gV_loc [0, 1] rfl ?_
            exact J132 (-v8) hp
          · replace hp := g_ift hp c121
            refine gV_iload C dL_worth_124 5 rfl ?_
            refine gV_goto (tgt := 132) C dL_worth_126 (by decide) ?_
            refine gV_loc [0, 1] rfl ?_
            exact J132 v7 hp
        · replace hp := g_ift hp c110
          refine gV_iload C dL_worth_113 4 rfl ?_
          refine gV_goto (tgt := 132) C dL_worth_115 (by decide) ?_
          refine gV_loc [0, 1] rfl ?_
          exact J132 v6 hp
      · replace hp := g_iff hp c16
        refine gV_iconst (v := 0) C dL_worth_19 rfl ?_
        refine gV_istore (lvs' := [(11, .int 0), (0, .ref (k 0)), (1, .ref (k 5)), (4, .int v4), (5, .int v5), (6, .int v6), (7, .int v7), (8, .int v8), (9, .long v9)]) C dL_worth_20 (by decide) rfl ?_
        refine gV_loc [1, 2, 3, 4, 5, 6, 7, 8, 0] rfl ?_
        exact L22 v6 v7 v8 v9 100000 0 hp
  refine gV_iconst (v := 0) C dL_worth_0 rfl ?_
  refine gV_istore (lvs' := [(6, .int 0), (0, .ref (k 0)), (1, .ref (k 5)), (2, .long v2), (4, .int v4), (5, .int v5)]) C dL_worth_1 (by decide) rfl ?_
  refine gV_iconst (v := 0) C dL_worth_3 rfl ?_
  refine gV_istore (lvs' := [(7, .int 0), (6, .int 0), (0, .ref (k 0)), (1, .ref (k 5)), (2, .long v2), (4, .int v4), (5, .int v5)]) C dL_worth_4 (by decide) rfl ?_
  refine gV_iconst (v := 0) C dL_worth_6 rfl ?_
  refine gV_istore (lvs' := [(8, .int 0), (7, .int 0), (6, .int 0), (0, .ref (k 0)), (1, .ref (k 5)), (2, .long v2), (4, .int v4), (5, .int v5)]) C dL_worth_7 (by decide) rfl ?_
  refine gV_lload_n C dL_worth_9 rfl 5 rfl ?_
  refine gV_lstore (lvs' := [(9, .long v2), (8, .int 0), (7, .int 0), (6, .int 0), (0, .ref (k 0)), (1, .ref (k 5)), (2, .long v2), (4, .int v4), (5, .int v5)]) C dL_worth_10 (by decide) rfl ?_
  refine gV_loc [4, 5, 7, 8, 3, 2, 1, 0] rfl ?_
  exact L12 100000 0 0 0 v2 hp
abbrev rm_L_best : Room := { frames := 3, cells := 0, slots := 0, locals := 90 }
theorem hds_L_worth : yL_worth.cls ≠ "java/lang/invoke/MethodHandle" ∧ yL_worth.cls ≠ "java/lang/invoke/VarHandle" ∧ (parseMethodDescriptor yL_worth.desc).map (fun d => d.parameters.length) = some 5 := by decide +kernel
set_option maxHeartbeats 4000000 in
set_option maxRecDepth 100000 in
theorem mt_L_best {l : Launch} (hl : l.stackTraces = false) (D : va_G) (k : Nat → Nat) (cI cJ : ClassId) (yg : Nat → Int32) (yq : Nat → Int32) (ym : Nat → Int32) (yw : Nat → Int64) (yh : Nat → Int32) (yr : Nat → Int64) (v2 : Int64) (v4 : Int32) (r0 : Int32) (hp : pf_L_best yg yr v2 v4 = (some r0)) : gMi l yL_best wsL_best rm_L_best D [(cI, .int), (cJ, .long)] (yW k cI cJ yg yq ym yw yh yr) [.ref (k 0), .ref (k 5), .long v2, .int v4] 0 0 (fun r w => r = r0 ∧ w = yW k cI cJ yg yq ym yw yh yr) (fun _ _ => False) := by
  refine gMi_of (cc := cL_best) (maxL := 10) (rt := .int) hl (by decide +kernel) rfl (Nat.le_of_ble_eq_true rfl) ?_
  intro p e s m args below meth c A Q C hnm ht RET OUT THR THRW
  have C : gC p l s m args meth c A D [(cI, .int), (cJ, .long)] 10 RL cL_best wsL_best := C
  refine gV_loc (lvs' := [(0, .ref (k 0)), (1, .ref (k 5)), (2, .long v2), (4, .int v4)]) [0, 1, 2, 3] rfl ?_
  unfold pf_L_best at hp
  have L9 : ∀ (n9 : Nat) (v5 : Int32) (v6 : Int32) (v7 : Int32), pf_L_best_L9 v2 v4 yg yr n9 v5 v6 v7 = (some r0) → gV p l e rm_L_best s m args below meth c A D 10 Q (yW k cI cJ yg yq ym yw yh yr) [(0, .ref (k 0)), (1, .ref (k 5)), (2, .long v2), (4, .int v4), (5, .int v5), (6, .int v6), (7, .int v7)] 0 0 9 [] := by
    intro n9
    induction n9 with
    | zero => intro v5 v6 v7 hp; exact g_none hp
    | succ n9 ih9 =>
      intro v5 v6 v7 hp
      rw [pf_L_best_L9.eq_2] at hp
      have L18 : ∀ (v7 : Int32) (n18 : Nat) (v5 : Int32) (v6 : Int32) (v8 : Int32), pf_L_best_L18 v2 v4 yg yr (fun v5 v6 v7 => pf_L_best_L9 v2 v4 yg yr n9 v5 v6 v7) v7 n18 v5 v6 v8 = (some r0) → gV p l e rm_L_best s m args below meth c A D 10 Q (yW k cI cJ yg yq ym yw yh yr) [(0, .ref (k 0)), (1, .ref (k 5)), (2, .long v2), (4, .int v4), (5, .int v5), (6, .int v6), (7, .int v7), (8, .int v8)] 0 0 18 [] := by
        intro v7 n18
        induction n18 with
        | zero => intro v5 v6 v8 hp; exact g_none hp
        | succ n18 ih18 =>
          intro v5 v6 v8 hp
          rw [pf_L_best_L18.eq_2] at hp
          have J83 : ∀ (v5 : Int32) (v6 : Int32) (v8 : Int32), pf_L_best_j83 (fun v5 v6 v8 => pf_L_best_L18 v2 v4 yg yr (fun v5 v6 v7 => pf_L_best_L9 v2 v4 yg yr n9 v5 v6 v7) v7 n18 v5 v6 v8) v5 v6 v8 = (some r0) → gV p l e rm_L_best s m args below meth c A D 10 Q (yW k cI cJ yg yq ym yw yh yr) [(0, .ref (k 0)), (1, .ref (k 5)), (2, .long v2), (4, .int v4), (5, .int v5), (6, .int v6), (7, .int v7), (8, .int v8)] 0 0 83 [] := by
            intro v5 v6 v8 hp
            unfold pf_L_best_j83 at hp
            refine gV_iinc (v := (v8 + 1)) (lvs' := [(8, .int (v8 + 1)), (0, .ref (k 0)), (1, .ref (k 5)), (2, .long v2), (4, .int v4), (5, .int v5), (6, .int v6), (7, .int v7)]) C dL_best_83 7 rfl rfl (by decide) rfl ?_
            refine gV_goto (tgt := 18) C dL_best_86 (by decide) ?_
            refine gV_loc [1, 2, 3, 4, 5, 6, 7, 0] rfl ?_
            exact ih18 v5 v6 (v8 + 1) hp
          have J75 : ∀ (v8 : Int32) (v9 : Int32), pf_L_best_j75 (fun v5 v6 v8 => pf_L_best_L18 v2 v4 yg yr (fun v5 v6 v7 => pf_L_best_L9 v2 v4 yg yr n9 v5 v6 v7) v7 n18 v5 v6 v8) v8 v9 = (some r0) → gV p l e rm_L_best s m args below meth c A D 10 Q (yW k cI cJ yg yq ym yw yh yr) [(0, .ref (k 0)), (1, .ref (k 5)), (2, .long v2), (4, .int v4), (7, .int v7), (8, .int v8), (9, .int v9)] 0 0 75 [] := by
            intro v8 v9 hp
            unfold pf_L_best_j75 at hp
            refine gV_iload C dL_best_75 5 rfl ?_
            refine gV_istore (lvs' := [(5, .int v8), (0, .ref (k 0)), (1, .ref (k 5)), (2, .long v2), (4, .int v4), (7, .int v7), (8, .int v8), (9, .int v9)]) C dL_best_77 (by decide) rfl ?_
            refine gV_iload C dL_best_79 7 rfl ?_
            refine gV_istore (lvs' := [(6, .int v9), (5, .int v8), (0, .ref (k 0)), (1, .ref (k 5)), (2, .long v2), (4, .int v4), (7, .int v7), (8, .int v8), (9, .int v9)]) C dL_best_81 (by decide) rfl ?_
            refine gV_loc [2, 3, 4, 5, 1, 0, 6, 7] rfl ?_
            exact J83 v8 v9 v8 hp
          have J42 : ∀ (v5 : Int32) (v6 : Int32) (v8 : Int32) (s0 : Int32) (s1 : Int32), pf_L_best_j42 v2 v4 yg yr (fun v5 v6 v8 => pf_L_best_L18 v2 v4 yg yr (fun v5 v6 v7 => pf_L_best_L9 v2 v4 yg yr n9 v5 v6 v7) v7 n18 v5 v6 v8) v5 v6 v8 s0 s1 = (some r0) → gV p l e rm_L_best s m args below meth c A D 10 Q (yW k cI cJ yg yq ym yw yh yr) [(0, .ref (k 0)), (1, .ref (k 5)), (2, .long v2), (4, .int v4), (5, .int v5), (6, .int v6), (7, .int v7), (8, .int v8)] 0 0 42 [.int s0, .int s1] := by
            intro v5 v6 v8 s0 s1 hp
            unfold pf_L_best_j42 at hp
            refine gV_icmp_eq (tgt := 48) C dL_best_42 (by decide) (fun c42 => ?_) (fun c42 => ?_)
            · replace hp := g_ift hp c42
              refine gV_aload_n C dL_best_48 rfl 0 rfl ?_
              refine gV_aload_n C dL_best_49 rfl 1 rfl ?_
              refine gV_lload_n C dL_best_50 rfl 2 rfl ?_
              refine gV_iload C dL_best_51 7 rfl ?_
              refine gV_iload C dL_best_53 3 rfl ?_
              obtain ⟨r55q, hq55, hp⟩ := g_ob1 hp
              refine gV_calliS C (gV_runS (As := [.ref (k 0), .ref (k 5), .long v2, .int v8, .int v4]) (rest := []) C (mt_L_worth hl D k cI cJ yg yq ym yw yh yr v2 v8 v4 r55q hq55) (va_cwS 5 C.2.2.2.2.1 gL_best_L_worth rfl rfl rfl hds_L_worth ⟨Nat.le_of_ble_eq_true rfl, Nat.le_of_ble_eq_true rfl⟩) (gSub_S _) rfl rfl (Nat.le_of_ble_eq_true rfl) dL_best_55 ⟨Nat.le_of_ble_eq_true rfl, Nat.le_of_ble_eq_true rfl⟩) (fun _ _ hx => False.elim hx) (fun r55 w1 hw => ?_)
              obtain ⟨rfl, rfl⟩ := hw
              refine gV_istore (lvs' := [(9, .int r55), (0, .ref (k 0)), (1, .ref (k 5)), (2, .long v2), (4, .int v4), (5, .int v5), (6, .int v6), (7, .int v7), (8, .int v8)]) C dL_best_58 (by decide) rfl ?_
              refine gV_iload C dL_best_60 5 rfl ?_
              refine gV_if_lt (tgt := 75) C dL_best_62 (by decide) (fun c62 => ?_) (fun c62 => ?_)
              · replace hp := g_ift hp c62
                refine gV_loc [1, 2, 3, 4, 7, 8, 0] rfl ?_
                exact J75 v8 r55 hp
              · replace hp := g_iff hp c62
                refine gV_iload C dL_best_65 0 rfl ?_
                refine gV_iload C dL_best_67 6 rfl ?_
                refine gV_icmp_lt (tgt := 75) C dL_best_69 (by decide) (fun c69 => ?_) (fun c69 => ?_)
                · replace hp := g_ift hp c69
                  refine gV_loc [1, 2, 3, 4, 7, 8, 0] rfl ?_
                  exact J75 v8 r55 hp
                · replace hp := g_iff hp c69
                  refine gV_goto (tgt := 83) C dL_best_72 (by decide) ?_
                  refine gV_loc [1, 2, 3, 4, 5, 6, 7, 8] rfl ?_
                  exact J83 v5 v6 v8 hp
            · replace hp := g_iff hp c42
              refine gV_goto (tgt := 83) C dL_best_45 (by decide) ?_
              exact J83 v5 v6 v8 hp
          refine gV_iload C dL_best_18 7 rfl ?_
          refine gV_aload_n C dL_best_20 rfl 0 rfl ?_
          refine gV_iconst (v := 2) C dL_best_21 rfl ?_
          obtain ⟨hi22, hp⟩ := g_idx hp
          refine gV_iald C 0 rfl 0 rfl hi22 dL_best_22 ?_
          refine gV_icmp_ge (tgt := 89) C dL_best_23 (by decide) (fun c23 => ?_) (fun c23 => ?_)
          · replace hp := g_ift hp c23
            refine gV_iinc (v := (v7 + 1)) (lvs' := [(7, .int (v7 + 1)), (0, .ref (k 0)), (1, .ref (k 5)), (2, .long v2), (4, .int v4), (5, .int v5), (6, .int v6), (8, .int v8)]) C dL_best_89 6 rfl rfl (by decide) rfl ?_
            refine gV_goto (tgt := 9) C dL_best_92 (by decide) ?_
            refine gV_loc [1, 2, 3, 4, 5, 6, 0] rfl ?_
            exact ih9 v5 v6 (v7 + 1) hp
          · replace hp := g_iff hp c23
            refine gV_lload_n C dL_best_26 rfl 2 rfl ?_
            refine gV_iload C dL_best_27 7 rfl ?_
            obtain ⟨r29q, hq29, hp⟩ := g_ob1 hp
            refine gV_calliE C (gV_runS (As := [.long v2, .int v8]) (rest := []) C (mt_L_has hl D cI cJ v2 v8 r29q hq29) (va_cwS 2 C.2.2.2.2.1 gL_best_L_has rfl rfl rfl hds_L_has ⟨Nat.le_of_ble_eq_true rfl, Nat.le_of_ble_eq_true rfl⟩) (gSub_E _) rfl rfl (Nat.le_of_ble_eq_true rfl) dL_best_29 ⟨Nat.le_of_ble_eq_true rfl, Nat.le_of_ble_eq_true rfl⟩) (fun _ _ hx => False.elim hx) (fun r29 w1 hw => ?_)
            obtain ⟨rfl, rfl⟩ := hw
            refine ⟨rfl, ?_⟩
            refine gV_iload C dL_best_32 6 rfl ?_
            refine gV_if_ne (tgt := 41) C dL_best_34 (by decide) (fun c34 => ?_) (fun c34 => ?_)
            · replace hp := g_iff hp c34
              refine gV_iconst (v := 0) C dL_best_41 rfl ?_
              exact J42 v5 v6 v8 0 r29 hp
            · replace hp := g_ift hp c34
              refine gV_iconst (v := 1) C dL_best_37 rfl ?_
              refine gV_goto (tgt := 42) C dL_best_38 (by decide) ?_
              exact J42 v5 v6 v8 1 r29 hp
      refine gV_iload C dL_best_9 6 rfl ?_
      refine gV_iconst (v := 2) C dL_best_11 rfl ?_
      refine gV_icmp_ge (tgt := 95) C dL_best_12 (by decide) (fun c12 => ?_) (fun c12 => ?_)
      · replace hp := g_ift hp c12
        refine gV_iload C dL_best_95 4 rfl ?_
        obtain rfl := g_so1 hp
        exact RET _ _ _ _ _ _ dL_best_97 (Nat.le_of_ble_eq_true rfl) (Nat.le_of_ble_eq_true rfl) rfl ⟨rfl, rfl⟩
      · replace hp := g_iff hp c12
        refine gV_iconst (v := 0) C dL_best_15 rfl ?_
        refine gV_istore (lvs' := [(8, .int 0), (0, .ref (k 0)), (1, .ref (k 5)), (2, .long v2), (4, .int v4), (5, .int v5), (6, .int v6), (7, .int v7)]) C dL_best_16 (by decide) rfl ?_
        refine gV_loc [1, 2, 3, 4, 5, 6, 7, 0] rfl ?_
        exact L18 v7 100000 v5 v6 0 hp
  refine gV_iconst (v := (-1)) C dL_best_0 rfl ?_
  refine gV_istore (lvs' := [(5, .int (-1)), (0, .ref (k 0)), (1, .ref (k 5)), (2, .long v2), (4, .int v4)]) C dL_best_1 (by decide) rfl ?_
  refine gV_iconst (v := 0) C dL_best_3 rfl ?_
  refine gV_istore (lvs' := [(6, .int 0), (5, .int (-1)), (0, .ref (k 0)), (1, .ref (k 5)), (2, .long v2), (4, .int v4)]) C dL_best_4 (by decide) rfl ?_
  refine gV_iconst (v := 0) C dL_best_6 rfl ?_
  refine gV_istore (lvs' := [(7, .int 0), (6, .int 0), (5, .int (-1)), (0, .ref (k 0)), (1, .ref (k 5)), (2, .long v2), (4, .int v4)]) C dL_best_7 (by decide) rfl ?_
  refine gV_loc [3, 4, 5, 6, 2, 1, 0] rfl ?_
  exact L9 100000 (-1) 0 0 hp
abbrev rm_L_needed : Room := { frames := 4, cells := 0, slots := 0, locals := 119 }
theorem hds_L_best : yL_best.cls ≠ "java/lang/invoke/MethodHandle" ∧ yL_best.cls ≠ "java/lang/invoke/VarHandle" ∧ (parseMethodDescriptor yL_best.desc).map (fun d => d.parameters.length) = some 4 := by decide +kernel
set_option maxHeartbeats 4000000 in
set_option maxRecDepth 100000 in
theorem mt_L_needed {l : Launch} (hl : l.stackTraces = false) (D : va_G) (k : Nat → Nat) (cI cJ : ClassId) (yg : Nat → Int32) (yq : Nat → Int32) (ym : Nat → Int32) (yw : Nat → Int64) (yh : Nat → Int32) (yr : Nat → Int64) (v2 : Int64) (r0 : Int32) (yw0 : Nat → Int64) (yh0 : Nat → Int32) (hp : pf_L_needed yg yw yh yr v2 = (some (r0, yw0, yh0))) : gMi l yL_needed wsL_needed rm_L_needed D [(cI, .int), (cJ, .long)] (yW k cI cJ yg yq ym yw yh yr) [.ref (k 0), .ref (k 5), .long v2, .ref (k 3), .ref (k 4)] 0 0 (fun r w => r = r0 ∧ w = yW k cI cJ yg yq ym yw0 yh0 yr) (fun _ _ => False) := by
  refine gMi_of (cc := cL_needed) (maxL := 13) (rt := .int) hl (by decide +kernel) rfl (Nat.le_of_ble_eq_true rfl) ?_
  intro p e s m args below meth c A Q C hnm ht RET OUT THR THRW
  have C : gC p l s m args meth c A D [(cI, .int), (cJ, .long)] 13 RL cL_needed wsL_needed := C
  refine gV_loc (lvs' := [(0, .ref (k 0)), (1, .ref (k 5)), (2, .long v2), (4, .ref (k 3)), (5, .ref (k 4))]) [0, 1, 2, 3, 4] rfl ?_
  unfold pf_L_needed at hp
  have L19 : ∀ (n19 : Nat) (v6 : Int32) (v7 : Int32) (v8 : Int32) (yw : Nat → Int64) (yh : Nat → Int32), pf_L_needed_L19 yg yr n19 v6 v7 v8 yw yh = (some (r0, yw0, yh0)) → gV p l e rm_L_needed s m args below meth c A D 13 Q (yW k cI cJ yg yq ym yw yh yr) [(0, .ref (k 0)), (1, .ref (k 5)), (4, .ref (k 3)), (5, .ref (k 4)), (6, .int v6), (7, .int v7), (8, .int v8)] 0 0 19 [] := by
    intro n19
    induction n19 with
    | zero => intro v6 v7 v8 yw yh hp; exact g_none hp
    | succ n19 ih19 =>
      intro v6 v7 v8 yw yh hp
      rw [pf_L_needed_L19.eq_2] at hp
      have L77 : ∀ (v7 : Int32) (v8 : Int32) (v9 : Int32) (n77 : Nat) (v6 : Int32) (v10 : Int64) (yw : Nat → Int64) (yh : Nat → Int32), pf_L_needed_L77 yg yr (fun v6 v7 v8 yw yh => pf_L_needed_L19 yg yr n19 v6 v7 v8 yw yh) v7 v8 v9 n77 v6 v10 yw yh = (some (r0, yw0, yh0)) → gV p l e rm_L_needed s m args below meth c A D 13 Q (yW k cI cJ yg yq ym yw yh yr) [(0, .ref (k 0)), (1, .ref (k 5)), (4, .ref (k 3)), (5, .ref (k 4)), (6, .int v6), (7, .int v7), (8, .int v8), (9, .int v9), (10, .long v10)] 0 0 77 [] := by
        intro v7 v8 v9 n77
        induction n77 with
        | zero => intro v6 v10 yw yh hp; exact g_none hp
        | succ n77 ih77 =>
          intro v6 v10 yw yh hp
          rw [pf_L_needed_L77.eq_2] at hp
          have L87 : ∀ (v6 : Int32) (v10 : Int64) (yw : Nat → Int64) (yh : Nat → Int32) (n87 : Nat) (v12 : Int32), pf_L_needed_L87 yg yr v8 v9 (fun v6 v10 yw yh => pf_L_needed_L77 yg yr (fun v6 v7 v8 yw yh => pf_L_needed_L19 yg yr n19 v6 v7 v8 yw yh) v7 v8 v9 n77 v6 v10 yw yh) v6 v10 yw yh n87 v12 = (some (r0, yw0, yh0)) → gV p l e rm_L_needed s m args below meth c A D 13 Q (yW k cI cJ yg yq ym yw yh yr) [(0, .ref (k 0)), (1, .ref (k 5)), (4, .ref (k 3)), (5, .ref (k 4)), (6, .int v6), (7, .int v7), (8, .int v8), (9, .int v9), (10, .long v10), (12, .int v12)] 0 0 87 [] := by
            intro v6 v10 yw yh n87
            induction n87 with
            | zero => intro v12 hp; exact g_none hp
            | succ n87 ih87 =>
              intro v12 hp
              rw [pf_L_needed_L87.eq_2] at hp
              refine gV_lload C dL_needed_87 8 rfl ?_
              refine gV_iload C dL_needed_89 9 rfl ?_
              obtain ⟨r91q, hq91, hp⟩ := g_ob1 hp
              refine gV_calliE C (gV_runS (As := [.long v10, .int v12]) (rest := []) C (mt_L_has hl D cI cJ v10 v12 r91q hq91) (va_cwS 2 C.2.2.2.2.1 gL_needed_L_has rfl rfl rfl hds_L_has ⟨Nat.le_of_ble_eq_true rfl, Nat.le_of_ble_eq_true rfl⟩) (gSub_E _) rfl rfl (Nat.le_of_ble_eq_true rfl) dL_needed_91 ⟨Nat.le_of_ble_eq_true rfl, Nat.le_of_ble_eq_true rfl⟩) (fun _ _ hx => False.elim hx) (fun r91 w1 hw => ?_)
              obtain ⟨rfl, rfl⟩ := hw
              refine ⟨rfl, ?_⟩
              refine gV_if_ne (tgt := 103) C dL_needed_94 (by decide) (fun c94 => ?_) (fun c94 => ?_)
              · replace hp := g_iff hp c94
                refine gV_aload C dL_needed_103 2 rfl ?_
                refine gV_iload C dL_needed_105 4 rfl ?_
                refine gV_aload_n C dL_needed_107 rfl 0 rfl ?_
                refine gV_aload_n C dL_needed_108 rfl 1 rfl ?_
                refine gV_lload C dL_needed_109 8 rfl ?_
                refine gV_iload C dL_needed_111 7 rfl ?_
                refine gV_aload_n C dL_needed_113 rfl 0 rfl ?_
                refine gV_aload_n C dL_needed_114 rfl 1 rfl ?_
                refine gV_iload C dL_needed_115 7 rfl ?_
                refine gV_iload C dL_needed_117 9 rfl ?_
                obtain ⟨r119q, hq119, hp⟩ := g_ob1 hp
                refine gV_calliS C (gV_runS (As := [.ref (k 0), .ref (k 5), .int v9, .int v12]) (rest := [.int v9, .long v10, .ref (k 5), .ref (k 0), .int v6, .ref (k 3)]) C (mt_L_pins hl D k cI cJ yg yq ym yw yh yr v9 v12 r119q hq119) (va_cwS 4 C.2.2.2.2.1 gL_needed_L_pins rfl rfl rfl hds_L_pins ⟨Nat.le_of_ble_eq_true rfl, Nat.le_of_ble_eq_true rfl⟩) (gSub_S _) rfl rfl (Nat.le_of_ble_eq_true rfl) dL_needed_119 ⟨Nat.le_of_ble_eq_true rfl, Nat.le_of_ble_eq_true rfl⟩) (fun _ _ hx => False.elim hx) (fun r119 w1 hw => ?_)
                obtain ⟨rfl, rfl⟩ := hw
                obtain ⟨r122q, hq122, hp⟩ := g_ob1 hp
                refine gV_calllS C (gV_runS (As := [.ref (k 0), .ref (k 5), .long v10, .int v9, .int r119]) (rest := [.int v6, .ref (k 3)]) C (mt_L_part hl D k cI cJ yg yq ym yw yh yr v10 v9 r119 r122q hq122) (va_cwS 5 C.2.2.2.2.1 gL_needed_L_part rfl rfl rfl hds_L_part ⟨Nat.le_of_ble_eq_true rfl, Nat.le_of_ble_eq_true rfl⟩) (gSub_S _) rfl rfl (Nat.le_of_ble_eq_true rfl) dL_needed_122 ⟨Nat.le_of_ble_eq_true rfl, Nat.le_of_ble_eq_true rfl⟩) (fun _ _ hx => False.elim hx) (fun r122 w1 hw => ?_)
                obtain ⟨rfl, rfl⟩ := hw
                obtain ⟨hi125, hp⟩ := g_idx hp
                refine gV_last (ws' := yW k cI cJ yg yq ym (vp_updL yw v6.toNatClampNeg r122) yh yr) C 3 rfl 1 rfl hi125 dL_needed_125 rfl ?_
                refine gV_aload C dL_needed_126 3 rfl ?_
                refine gV_iload C dL_needed_128 4 rfl ?_
                refine gV_aload C dL_needed_130 3 rfl ?_
                refine gV_iload C dL_needed_132 6 rfl ?_
                obtain ⟨hi134, hp⟩ := g_idx hp
                refine gV_iald C 4 rfl 0 rfl hi134 dL_needed_134 ?_
                refine gV_iconst (v := 1) C dL_needed_135 rfl ?_
                refine gV_iadd C dL_needed_136 ?_
                obtain ⟨hi137, hp⟩ := g_idx hp
                refine gV_iast (ws' := yW k cI cJ yg yq ym (vp_updL yw v6.toNatClampNeg r122) (upd yh v6.toNatClampNeg ((yh v8.toNatClampNeg) + 1)) yr) C 4 rfl 0 rfl hi137 dL_needed_137 rfl ?_
                refine gV_lload C dL_needed_138 8 rfl ?_
                refine gV_aload C dL_needed_140 2 rfl ?_
                refine gV_iload C dL_needed_142 4 rfl ?_
                obtain ⟨hi144, hp⟩ := g_idx hp
                refine gV_lald C 3 rfl 1 rfl hi144 dL_needed_144 ?_
                refine gV_ldc2 (v := (-1)) C dL_needed_145 (C.w 1 rfl) ?_
                refine gV_lxor C dL_needed_148 ?_
                refine gV_land C dL_needed_149 ?_
                refine gV_topJ (fun v10_150 he150 => ?_)
                replace hp := g_let hp he150
                refine gV_lstore (lvs' := [(10, .long v10_150), (0, .ref (k 0)), (1, .ref (k 5)), (4, .ref (k 3)), (5, .ref (k 4)), (6, .int v6), (7, .int v7), (8, .int v8), (9, .int v9), (12, .int v12)]) C dL_needed_150 (by decide) rfl ?_
                refine gV_iinc (v := (v6 + 1)) (lvs' := [(6, .int (v6 + 1)), (10, .long v10_150), (0, .ref (k 0)), (1, .ref (k 5)), (4, .ref (k 3)), (5, .ref (k 4)), (7, .int v7), (8, .int v8), (9, .int v9), (12, .int v12)]) C dL_needed_152 5 rfl rfl (by decide) rfl ?_
                refine gV_goto (tgt := 77) C dL_needed_155 (by decide) ?_
                refine gV_loc [2, 3, 4, 5, 0, 6, 7, 8, 1] rfl ?_
                exact ih77 (v6 + 1) v10_150 (vp_updL yw v6.toNatClampNeg r122) (upd yh v6.toNatClampNeg ((yh v8.toNatClampNeg) + 1)) hp
              · replace hp := g_ift hp c94
                refine gV_iinc (v := (v12 + 1)) (lvs' := [(12, .int (v12 + 1)), (0, .ref (k 0)), (1, .ref (k 5)), (4, .ref (k 3)), (5, .ref (k 4)), (6, .int v6), (7, .int v7), (8, .int v8), (9, .int v9), (10, .long v10)]) C dL_needed_97 9 rfl rfl (by decide) rfl ?_
                refine gV_goto (tgt := 87) C dL_needed_100 (by decide) ?_
                refine gV_loc [1, 2, 3, 4, 5, 6, 7, 8, 9, 0] rfl ?_
                exact ih87 (v12 + 1) hp
          refine gV_lload C dL_needed_77 8 rfl ?_
          refine gV_lconst (v := 0) C dL_needed_79 rfl ?_
          refine gV_lcmp C dL_needed_80 ?_
          refine gV_if_eq (tgt := 158) C dL_needed_81 (by decide) (fun c81 => ?_) (fun c81 => ?_)
          · replace hp := g_ift hp c81
            refine gV_iinc (v := (v8 + 1)) (lvs' := [(8, .int (v8 + 1)), (0, .ref (k 0)), (1, .ref (k 5)), (4, .ref (k 3)), (5, .ref (k 4)), (6, .int v6), (7, .int v7), (9, .int v9), (10, .long v10)]) C dL_needed_158 6 rfl rfl (by decide) rfl ?_
            refine gV_goto (tgt := 19) C dL_needed_161 (by decide) ?_
            refine gV_loc [1, 2, 3, 4, 5, 6, 0] rfl ?_
            exact ih19 v6 v7 (v8 + 1) yw yh hp
          · replace hp := g_iff hp c81
            refine gV_iconst (v := 0) C dL_needed_84 rfl ?_
            refine gV_istore (lvs' := [(12, .int 0), (0, .ref (k 0)), (1, .ref (k 5)), (4, .ref (k 3)), (5, .ref (k 4)), (6, .int v6), (7, .int v7), (8, .int v8), (9, .int v9), (10, .long v10)]) C dL_needed_85 (by decide) rfl ?_
            refine gV_loc [1, 2, 3, 4, 5, 6, 7, 8, 9, 0] rfl ?_
            exact L87 v6 v10 yw yh 100000 0 hp
      have J59 : ∀ (v6 : Int32) (v8 : Int32) (v9 : Int32) (s0 : Int32) (yw : Nat → Int64) (yh : Nat → Int32), pf_L_needed_j59 yg yr (fun v6 v7 v8 yw yh => pf_L_needed_L19 yg yr n19 v6 v7 v8 yw yh) v6 v8 v9 s0 yw yh = (some (r0, yw0, yh0)) → gV p l e rm_L_needed s m args below meth c A D 13 Q (yW k cI cJ yg yq ym yw yh yr) [(0, .ref (k 0)), (1, .ref (k 5)), (4, .ref (k 3)), (5, .ref (k 4)), (6, .int v6), (8, .int v8), (9, .int v9)] 0 0 59 [.int s0] := by
        intro v6 v8 v9 s0 yw yh hp
        unfold pf_L_needed_j59 at hp
        refine gV_istore (lvs' := [(7, .int s0), (0, .ref (k 0)), (1, .ref (k 5)), (4, .ref (k 3)), (5, .ref (k 4)), (6, .int v6), (8, .int v8), (9, .int v9)]) C dL_needed_59 (by decide) rfl ?_
        refine gV_aload C dL_needed_61 3 rfl ?_
        refine gV_iload C dL_needed_63 6 rfl ?_
        obtain ⟨hi65, hp⟩ := g_idx hp
        refine gV_lald C 3 rfl 1 rfl hi65 dL_needed_65 ?_
        refine gV_lconst (v := 1) C dL_needed_66 rfl ?_
        refine gV_iload C dL_needed_67 7 rfl ?_
        refine gV_lshl C dL_needed_69 ?_
        refine gV_ldc2 (v := (-1)) C dL_needed_70 (C.w 1 rfl) ?_
        refine gV_lxor C dL_needed_73 ?_
        refine gV_land C dL_needed_74 ?_
        refine gV_topJ (fun v10_75 he75 => ?_)
        replace hp := g_let hp he75
        refine gV_lstore (lvs' := [(10, .long v10_75), (7, .int s0), (0, .ref (k 0)), (1, .ref (k 5)), (4, .ref (k 3)), (5, .ref (k 4)), (6, .int v6), (8, .int v8), (9, .int v9)]) C dL_needed_75 (by decide) rfl ?_
        refine gV_loc [2, 3, 4, 5, 6, 1, 7, 8, 0] rfl ?_
        exact L77 s0 v8 v9 100000 v6 v10_75 yw yh hp
      refine gV_iload C dL_needed_19 6 rfl ?_
      refine gV_iload C dL_needed_21 4 rfl ?_
      refine gV_icmp_ge (tgt := 164) C dL_needed_23 (by decide) (fun c23 => ?_) (fun c23 => ?_)
      · replace hp := g_ift hp c23
        refine gV_iload C dL_needed_164 5 rfl ?_
        obtain ⟨rfl, rfl, rfl⟩ := g_so3 hp
        exact RET _ _ _ _ _ _ dL_needed_166 (Nat.le_of_ble_eq_true rfl) (Nat.le_of_ble_eq_true rfl) rfl ⟨rfl, rfl⟩
      · replace hp := g_iff hp c23
        refine gV_aload_n C dL_needed_26 rfl 0 rfl ?_
        refine gV_aload_n C dL_needed_27 rfl 1 rfl ?_
        refine gV_aload C dL_needed_28 2 rfl ?_
        refine gV_iload C dL_needed_30 6 rfl ?_
        obtain ⟨hi32, hp⟩ := g_idx hp
        refine gV_lald C 3 rfl 1 rfl hi32 dL_needed_32 ?_
        refine gV_iconst (v := 0) C dL_needed_33 rfl ?_
        obtain ⟨r34q, hq34, hp⟩ := g_ob1 hp
        refine gV_calliS C (gV_runS (As := [.ref (k 0), .ref (k 5), .long (yw v8.toNatClampNeg), .int 0]) (rest := []) C (mt_L_best hl D k cI cJ yg yq ym yw yh yr (yw v8.toNatClampNeg) 0 r34q hq34) (va_cwS 4 C.2.2.2.2.1 gL_needed_L_best rfl rfl rfl hds_L_best ⟨Nat.le_of_ble_eq_true rfl, Nat.le_of_ble_eq_true rfl⟩) (gSub_S _) rfl rfl (Nat.le_of_ble_eq_true rfl) dL_needed_34 ⟨Nat.le_of_ble_eq_true rfl, Nat.le_of_ble_eq_true rfl⟩) (fun _ _ hx => False.elim hx) (fun r34 w1 hw => ?_)
        obtain ⟨rfl, rfl⟩ := hw
        refine gV_istore (lvs' := [(9, .int r34), (0, .ref (k 0)), (1, .ref (k 5)), (4, .ref (k 3)), (5, .ref (k 4)), (6, .int v6), (7, .int v7), (8, .int v8)]) C dL_needed_37 (by decide) rfl ?_
        refine gV_aload C dL_needed_39 4 rfl ?_
        refine gV_iload C dL_needed_41 7 rfl ?_
        obtain ⟨hi43, hp⟩ := g_idx hp
        refine gV_iald C 4 rfl 0 rfl hi43 dL_needed_43 ?_
        refine gV_iload C dL_needed_44 6 rfl ?_
        refine gV_icmp_le (tgt := 57) C dL_needed_46 (by decide) (fun c46 => ?_) (fun c46 => ?_)
        · replace hp := g_ift hp c46
          refine gV_iload C dL_needed_57 6 rfl ?_
          refine gV_loc [1, 2, 3, 4, 5, 7, 0] rfl ?_
          exact J59 v6 v8 r34 v7 yw yh hp
        · replace hp := g_iff hp c46
          refine gV_aload C dL_needed_49 4 rfl ?_
          refine gV_iload C dL_needed_51 7 rfl ?_
          obtain ⟨hi53, hp⟩ := g_idx hp
          refine gV_iald C 4 rfl 0 rfl hi53 dL_needed_53 ?_
          refine gV_goto (tgt := 59) C dL_needed_54 (by decide) ?_
          refine gV_loc [1, 2, 3, 4, 5, 7, 0] rfl ?_
          exact J59 v6 v8 r34 (yh v8.toNatClampNeg) yw yh hp
  refine gV_aload C dL_needed_0 3 rfl ?_
  refine gV_iconst (v := 0) C dL_needed_2 rfl ?_
  refine gV_lload_n C dL_needed_3 rfl 2 rfl ?_
  obtain ⟨hi4, hp⟩ := g_idx hp
  refine gV_last (ws' := yW k cI cJ yg yq ym (vp_updL yw (0 : Int32).toNatClampNeg v2) yh yr) C 3 rfl 1 rfl hi4 dL_needed_4 rfl ?_
  refine gV_aload C dL_needed_5 4 rfl ?_
  refine gV_iconst (v := 0) C dL_needed_7 rfl ?_
  refine gV_iconst (v := 1) C dL_needed_8 rfl ?_
  obtain ⟨hi9, hp⟩ := g_idx hp
  refine gV_iast (ws' := yW k cI cJ yg yq ym (vp_updL yw (0 : Int32).toNatClampNeg v2) (upd yh (0 : Int32).toNatClampNeg 1) yr) C 4 rfl 0 rfl hi9 dL_needed_9 rfl ?_
  refine gV_iconst (v := 1) C dL_needed_10 rfl ?_
  refine gV_istore (lvs' := [(6, .int 1), (0, .ref (k 0)), (1, .ref (k 5)), (2, .long v2), (4, .ref (k 3)), (5, .ref (k 4))]) C dL_needed_11 (by decide) rfl ?_
  refine gV_iconst (v := 0) C dL_needed_13 rfl ?_
  refine gV_istore (lvs' := [(7, .int 0), (6, .int 1), (0, .ref (k 0)), (1, .ref (k 5)), (2, .long v2), (4, .ref (k 3)), (5, .ref (k 4))]) C dL_needed_14 (by decide) rfl ?_
  refine gV_iconst (v := 0) C dL_needed_16 rfl ?_
  refine gV_istore (lvs' := [(8, .int 0), (7, .int 0), (6, .int 1), (0, .ref (k 0)), (1, .ref (k 5)), (2, .long v2), (4, .ref (k 3)), (5, .ref (k 4))]) C dL_needed_17 (by decide) rfl ?_
  refine gV_loc [3, 4, 6, 7, 2, 1, 0] rfl ?_
  exact L19 100000 1 0 0 (vp_updL yw (0 : Int32).toNatClampNeg v2) (upd yh (0 : Int32).toNatClampNeg 1) hp
abbrev rm_L_proof : Room := { frames := 1, cells := 0, slots := 0, locals := 28 }
set_option maxHeartbeats 4000000 in
set_option maxRecDepth 100000 in
theorem mt_L_proof {l : Launch} (hl : l.stackTraces = false) (D : va_G) (k : Nat → Nat) (cI cJ : ClassId) (yg : Nat → Int32) (yq : Nat → Int32) (ym : Nat → Int32) (yw : Nat → Int64) (yh : Nat → Int32) (yr : Nat → Int64) (v4 : Int64) (r0 : Int32) (hp : pf_L_proof yg yq ym yr v4 = (some r0)) : gMi l yL_proof wsL_proof rm_L_proof D [(cI, .int), (cJ, .long)] (yW k cI cJ yg yq ym yw yh yr) [.ref (k 0), .ref (k 5), .ref (k 1), .ref (k 2), .long v4] 0 0 (fun r w => r = r0 ∧ w = yW k cI cJ yg yq ym yw yh yr) (fun _ _ => False) := by
  refine gMi_of (cc := cL_proof) (maxL := 12) (rt := .int) hl (by decide +kernel) rfl (Nat.le_of_ble_eq_true rfl) ?_
  intro p e s m args below meth c A Q C hnm ht RET OUT THR THRW
  have C : gC p l s m args meth c A D [(cI, .int), (cJ, .long)] 12 RL cL_proof wsL_proof := C
  refine gV_loc (lvs' := [(0, .ref (k 0)), (1, .ref (k 5)), (2, .ref (k 1)), (3, .ref (k 2)), (4, .long v4)]) [0, 1, 2, 3, 4] rfl ?_
  unfold pf_L_proof at hp
  have L14 : ∀ (n14 : Nat) (v6 : Int32), pf_L_proof_L14 yg yq ym yr n14 v6 = (some r0) → gV p l e rm_L_proof s m args below meth c A D 12 Q (yW k cI cJ yg yq ym yw yh yr) [(0, .ref (k 0)), (1, .ref (k 5)), (2, .ref (k 1)), (3, .ref (k 2)), (6, .int v6)] 0 0 14 [] := by
    intro n14
    induction n14 with
    | zero => intro v6 hp; exact g_none hp
    | succ n14 ih14 =>
      intro v6 hp
      rw [pf_L_proof_L14.eq_2] at hp
      have L31 : ∀ (v6 : Int32) (n31 : Nat) (v7 : Int32), pf_L_proof_L31 yg yq ym yr (fun v6 => pf_L_proof_L14 yg yq ym yr n14 v6) v6 n31 v7 = (some r0) → gV p l e rm_L_proof s m args below meth c A D 12 Q (yW k cI cJ yg yq ym yw yh yr) [(0, .ref (k 0)), (1, .ref (k 5)), (2, .ref (k 1)), (3, .ref (k 2)), (6, .int v6), (7, .int v7)] 0 0 31 [] := by
        intro v6 n31
        induction n31 with
        | zero => intro v7 hp; exact g_none hp
        | succ n31 ih31 =>
          intro v7 hp
          rw [pf_L_proof_L31.eq_2] at hp
          have J168 : ∀ (v7 : Int32), pf_L_proof_j168 (fun v7 => pf_L_proof_L31 yg yq ym yr (fun v6 => pf_L_proof_L14 yg yq ym yr n14 v6) v6 n31 v7) v7 = (some r0) → gV p l e rm_L_proof s m args below meth c A D 12 Q (yW k cI cJ yg yq ym yw yh yr) [(0, .ref (k 0)), (1, .ref (k 5)), (2, .ref (k 1)), (3, .ref (k 2)), (6, .int v6), (7, .int v7)] 0 0 168 [] := by
            intro v7 hp
            unfold pf_L_proof_j168 at hp
            refine gV_iinc (v := (v7 + (-1))) (lvs' := [(7, .int (v7 + (-1))), (0, .ref (k 0)), (1, .ref (k 5)), (2, .ref (k 1)), (3, .ref (k 2)), (6, .int v6)]) C dL_proof_168 5 rfl rfl (by decide) rfl ?_
            refine gV_goto (tgt := 31) C dL_proof_171 (by decide) ?_
            refine gV_loc [1, 2, 3, 4, 5, 0] rfl ?_
            exact ih31 (v7 + (-1)) hp
          have J159 : ∀ (v7 : Int32) (v8 : Int32), pf_L_proof_j159 (fun v7 => pf_L_proof_L31 yg yq ym yr (fun v6 => pf_L_proof_L14 yg yq ym yr n14 v6) v6 n31 v7) v7 v8 = (some r0) → gV p l e rm_L_proof s m args below meth c A D 12 Q (yW k cI cJ yg yq ym yw yh yr) [(0, .ref (k 0)), (1, .ref (k 5)), (2, .ref (k 1)), (3, .ref (k 2)), (6, .int v6), (7, .int v7), (8, .int v8)] 0 0 159 [] := by
            intro v7 v8 hp
            unfold pf_L_proof_j159 at hp
            refine gV_iload C dL_proof_159 6 rfl ?_
            refine gV_iconst (v := 1) C dL_proof_161 rfl ?_
            refine gV_icmp_ne (tgt := 168) C dL_proof_162 (by decide) (fun c162 => ?_) (fun c162 => ?_)
            · replace hp := g_iff hp c162
              refine gV_loc [0, 1, 2, 3, 4, 5] rfl ?_
              exact J168 v7 hp
            · replace hp := g_ift hp c162
              refine gV_iload C dL_proof_165 5 rfl ?_
              obtain rfl := g_so1 hp
              exact RET _ _ _ _ _ _ dL_proof_167 (Nat.le_of_ble_eq_true rfl) (Nat.le_of_ble_eq_true rfl) rfl ⟨rfl, rfl⟩
          have L56 : ∀ (v7 : Int32) (n56 : Nat) (v8 : Int32) (v9 : Int32), pf_L_proof_L56 yg yq ym yr (fun v7 => pf_L_proof_L31 yg yq ym yr (fun v6 => pf_L_proof_L14 yg yq ym yr n14 v6) v6 n31 v7) v7 n56 v8 v9 = (some r0) → gV p l e rm_L_proof s m args below meth c A D 12 Q (yW k cI cJ yg yq ym yw yh yr) [(0, .ref (k 0)), (1, .ref (k 5)), (2, .ref (k 1)), (3, .ref (k 2)), (6, .int v6), (7, .int v7), (8, .int v8), (9, .int v9)] 0 0 56 [] := by
            intro v7 n56
            induction n56 with
            | zero => intro v8 v9 hp; exact g_none hp
            | succ n56 ih56 =>
              intro v8 v9 hp
              rw [pf_L_proof_L56.eq_2] at hp
              have J150 : ∀ (v9 : Int32) (s0 : Int32) (s1 : Int32), pf_L_proof_j150 (fun v8 v9 => pf_L_proof_L56 yg yq ym yr (fun v7 => pf_L_proof_L31 yg yq ym yr (fun v6 => pf_L_proof_L14 yg yq ym yr n14 v6) v6 n31 v7) v7 n56 v8 v9) v9 s0 s1 = (some r0) → gV p l e rm_L_proof s m args below meth c A D 12 Q (yW k cI cJ yg yq ym yw yh yr) [(0, .ref (k 0)), (1, .ref (k 5)), (2, .ref (k 1)), (3, .ref (k 2)), (6, .int v6), (7, .int v7), (9, .int v9)] 0 0 150 [.int s0, .int s1] := by
                intro v9 s0 s1 hp
                unfold pf_L_proof_j150 at hp
                refine gV_iadd C dL_proof_150 ?_
                refine gV_istore (lvs' := [(8, .int (s1 + s0)), (0, .ref (k 0)), (1, .ref (k 5)), (2, .ref (k 1)), (3, .ref (k 2)), (6, .int v6), (7, .int v7), (9, .int v9)]) C dL_proof_151 (by decide) rfl ?_
                refine gV_iinc (v := (v9 + 1)) (lvs' := [(9, .int (v9 + 1)), (8, .int (s1 + s0)), (0, .ref (k 0)), (1, .ref (k 5)), (2, .ref (k 1)), (3, .ref (k 2)), (6, .int v6), (7, .int v7)]) C dL_proof_153 7 rfl rfl (by decide) rfl ?_
                refine gV_goto (tgt := 56) C dL_proof_156 (by decide) ?_
                refine gV_loc [2, 3, 4, 5, 6, 7, 1, 0] rfl ?_
                exact ih56 (s1 + s0) (v9 + 1) hp
              have L76 : ∀ (v8 : Int32) (v9 : Int32) (n76 : Nat) (v10 : Int32) (v11 : Int32), pf_L_proof_L76 yg yq ym yr v7 (fun v8 v9 => pf_L_proof_L56 yg yq ym yr (fun v7 => pf_L_proof_L31 yg yq ym yr (fun v6 => pf_L_proof_L14 yg yq ym yr n14 v6) v6 n31 v7) v7 n56 v8 v9) v8 v9 n76 v10 v11 = (some r0) → gV p l e rm_L_proof s m args below meth c A D 12 Q (yW k cI cJ yg yq ym yw yh yr) [(0, .ref (k 0)), (1, .ref (k 5)), (2, .ref (k 1)), (3, .ref (k 2)), (6, .int v6), (7, .int v7), (8, .int v8), (9, .int v9), (10, .int v10), (11, .int v11)] 0 0 76 [] := by
                intro v8 v9 n76
                induction n76 with
                | zero => intro v10 v11 hp; exact g_none hp
                | succ n76 ih76 =>
                  intro v10 v11 hp
                  rw [pf_L_proof_L76.eq_2] at hp
                  have J126 : ∀ (v11 : Int32) (s0 : Int32) (s1 : Int32), pf_L_proof_j126 (fun v10 v11 => pf_L_proof_L76 yg yq ym yr v7 (fun v8 v9 => pf_L_proof_L56 yg yq ym yr (fun v7 => pf_L_proof_L31 yg yq ym yr (fun v6 => pf_L_proof_L14 yg yq ym yr n14 v6) v6 n31 v7) v7 n56 v8 v9) v8 v9 n76 v10 v11) v11 s0 s1 = (some r0) → gV p l e rm_L_proof s m args below meth c A D 12 Q (yW k cI cJ yg yq ym yw yh yr) [(0, .ref (k 0)), (1, .ref (k 5)), (2, .ref (k 1)), (3, .ref (k 2)), (6, .int v6), (7, .int v7), (8, .int v8), (9, .int v9), (11, .int v11)] 0 0 126 [.int s0, .int s1] := by
                    intro v11 s0 s1 hp
                    unfold pf_L_proof_j126 at hp
                    refine gV_iadd C dL_proof_126 ?_
                    refine gV_istore (lvs' := [(10, .int (s1 + s0)), (0, .ref (k 0)), (1, .ref (k 5)), (2, .ref (k 1)), (3, .ref (k 2)), (6, .int v6), (7, .int v7), (8, .int v8), (9, .int v9), (11, .int v11)]) C dL_proof_127 (by decide) rfl ?_
                    refine gV_iinc (v := (v11 + 1)) (lvs' := [(11, .int (v11 + 1)), (10, .int (s1 + s0)), (0, .ref (k 0)), (1, .ref (k 5)), (2, .ref (k 1)), (3, .ref (k 2)), (6, .int v6), (7, .int v7), (8, .int v8), (9, .int v9)]) C dL_proof_129 9 rfl rfl (by decide) rfl ?_
                    refine gV_goto (tgt := 76) C dL_proof_132 (by decide) ?_
                    refine gV_loc [2, 3, 4, 5, 6, 7, 8, 9, 1, 0] rfl ?_
                    exact ih76 (s1 + s0) (v11 + 1) hp
                  have J125 : ∀ (v11 : Int32) (s0 : Int32), pf_L_proof_j125 (fun v10 v11 => pf_L_proof_L76 yg yq ym yr v7 (fun v8 v9 => pf_L_proof_L56 yg yq ym yr (fun v7 => pf_L_proof_L31 yg yq ym yr (fun v6 => pf_L_proof_L14 yg yq ym yr n14 v6) v6 n31 v7) v7 n56 v8 v9) v8 v9 n76 v10 v11) v11 s0 = (some r0) → gV p l e rm_L_proof s m args below meth c A D 12 Q (yW k cI cJ yg yq ym yw yh yr) [(0, .ref (k 0)), (1, .ref (k 5)), (2, .ref (k 1)), (3, .ref (k 2)), (6, .int v6), (7, .int v7), (8, .int v8), (9, .int v9), (11, .int v11)] 0 0 125 [.int s0] := by
                    intro v11 s0 hp
                    unfold pf_L_proof_j125 at hp
                    refine gV_iconst (v := 0) C dL_proof_125 rfl ?_
                    exact J126 v11 0 s0 hp
                  refine gV_iload C dL_proof_76 9 rfl ?_
                  refine gV_aload_n C dL_proof_78 rfl 0 rfl ?_
                  refine gV_iconst (v := 5) C dL_proof_79 rfl ?_
                  obtain ⟨hi80, hp⟩ := g_idx hp
                  refine gV_iald C 0 rfl 0 rfl hi80 dL_proof_80 ?_
                  refine gV_icmp_ge (tgt := 135) C dL_proof_81 (by decide) (fun c81 => ?_) (fun c81 => ?_)
                  · replace hp := g_ift hp c81
                    refine gV_iload C dL_proof_135 6 rfl ?_
                    refine gV_iload C dL_proof_137 8 rfl ?_
                    refine gV_aload_n C dL_proof_139 rfl 0 rfl ?_
                    refine gV_iconst (v := 3) C dL_proof_140 rfl ?_
                    obtain ⟨hi141, hp⟩ := g_idx hp
                    refine gV_iald C 0 rfl 0 rfl hi141 dL_proof_141 ?_
                    refine gV_icmp_le (tgt := 149) C dL_proof_142 (by decide) (fun c142 => ?_) (fun c142 => ?_)
                    · replace hp := g_ift hp c142
                      refine gV_iconst (v := 1) C dL_proof_149 rfl ?_
                      refine gV_loc [0, 1, 2, 3, 4, 5, 7] rfl ?_
                      exact J150 v9 1 v8 hp
                    · replace hp := g_iff hp c142
                      refine gV_iconst (v := 0) C dL_proof_145 rfl ?_
                      refine gV_goto (tgt := 150) C dL_proof_146 (by decide) ?_
                      refine gV_loc [0, 1, 2, 3, 4, 5, 7] rfl ?_
                      exact J150 v9 0 v8 hp
                  · replace hp := g_iff hp c81
                    refine gV_iload C dL_proof_84 8 rfl ?_
                    refine gV_iload C dL_proof_86 5 rfl ?_
                    refine gV_aload_n C dL_proof_88 rfl 0 rfl ?_
                    refine gV_iconst (v := 5) C dL_proof_89 rfl ?_
                    obtain ⟨hi90, hp⟩ := g_idx hp
                    refine gV_iald C 0 rfl 0 rfl hi90 dL_proof_90 ?_
                    refine gV_iconst (v := 1) C dL_proof_91 rfl ?_
                    refine gV_isub C dL_proof_92 ?_
                    refine gV_iload C dL_proof_93 9 rfl ?_
                    refine gV_isub C dL_proof_95 ?_
                    refine gV_ishr C dL_proof_96 ?_
                    refine gV_iconst (v := 1) C dL_proof_97 rfl ?_
                    refine gV_iand C dL_proof_98 ?_
                    refine gV_iconst (v := 1) C dL_proof_99 rfl ?_
                    refine gV_icmp_ne (tgt := 125) C dL_proof_100 (by decide) (fun c100 => ?_) (fun c100 => ?_)
                    · replace hp := g_iff hp c100
                      refine gV_loc [0, 1, 2, 3, 4, 5, 6, 7, 9] rfl ?_
                      exact J125 v11 v10 hp
                    · replace hp := g_ift hp c100
                      refine gV_aload_n C dL_proof_103 rfl 0 rfl ?_
                      refine gV_aload_n C dL_proof_104 rfl 1 rfl ?_
                      refine gV_aload_n C dL_proof_105 rfl 2 rfl ?_
                      refine gV_iload C dL_proof_106 9 rfl ?_
                      obtain ⟨hi108, hp⟩ := g_idx hp
                      refine gV_iald C 1 rfl 0 rfl hi108 dL_proof_108 ?_
                      refine gV_iload C dL_proof_109 7 rfl ?_
                      obtain ⟨r111q, hq111, hp⟩ := g_ob1 hp
                      refine gV_calliS C (gV_runS (As := [.ref (k 0), .ref (k 5), .int (yq v11.toNatClampNeg), .int v9]) (rest := [.int v10]) C (mt_L_pins hl D k cI cJ yg yq ym yw yh yr (yq v11.toNatClampNeg) v9 r111q hq111) (va_cwS 4 C.2.2.2.2.1 gL_proof_L_pins rfl rfl rfl hds_L_pins ⟨Nat.le_of_ble_eq_true rfl, Nat.le_of_ble_eq_true rfl⟩) (gSub_S _) rfl rfl (Nat.le_of_ble_eq_true rfl) dL_proof_111 ⟨Nat.le_of_ble_eq_true rfl, Nat.le_of_ble_eq_true rfl⟩) (fun _ _ hx => False.elim hx) (fun r111 w1 hw => ?_)
                      obtain ⟨rfl, rfl⟩ := hw
                      refine gV_aload_n C dL_proof_114 rfl 3 rfl ?_
                      refine gV_iload C dL_proof_115 9 rfl ?_
                      obtain ⟨hi117, hp⟩ := g_idx hp
                      refine gV_iald C 2 rfl 0 rfl hi117 dL_proof_117 ?_
                      refine gV_icmp_eq (tgt := 125) C dL_proof_118 (by decide) (fun c118 => ?_) (fun c118 => ?_)
                      · replace hp := g_ift hp c118
                        refine gV_loc [0, 1, 2, 3, 4, 5, 6, 7, 9] rfl ?_
                        exact J125 v11 v10 hp
                      · replace hp := g_iff hp c118
                        refine gV_iconst (v := 1) C dL_proof_121 rfl ?_
                        refine gV_goto (tgt := 126) C dL_proof_122 (by decide) ?_
                        refine gV_loc [0, 1, 2, 3, 4, 5, 6, 7, 9] rfl ?_
                        exact J126 v11 1 v10 hp
              refine gV_iload C dL_proof_56 7 rfl ?_
              refine gV_aload_n C dL_proof_58 rfl 0 rfl ?_
              refine gV_iconst (v := 2) C dL_proof_59 rfl ?_
              obtain ⟨hi60, hp⟩ := g_idx hp
              refine gV_iald C 0 rfl 0 rfl hi60 dL_proof_60 ?_
              refine gV_icmp_ge (tgt := 159) C dL_proof_61 (by decide) (fun c61 => ?_) (fun c61 => ?_)
              · replace hp := g_ift hp c61
                refine gV_loc [0, 1, 2, 3, 4, 5, 6] rfl ?_
                exact J159 v7 v8 hp
              · replace hp := g_iff hp c61
                refine gV_iload C dL_proof_64 6 rfl ?_
                refine gV_iconst (v := 2) C dL_proof_66 rfl ?_
                refine gV_icmp_ge (tgt := 159) C dL_proof_67 (by decide) (fun c67 => ?_) (fun c67 => ?_)
                · replace hp := g_ift hp c67
                  refine gV_loc [0, 1, 2, 3, 4, 5, 6] rfl ?_
                  exact J159 v7 v8 hp
                · replace hp := g_iff hp c67
                  refine gV_iconst (v := 0) C dL_proof_70 rfl ?_
                  refine gV_istore (lvs' := [(10, .int 0), (0, .ref (k 0)), (1, .ref (k 5)), (2, .ref (k 1)), (3, .ref (k 2)), (6, .int v6), (7, .int v7), (8, .int v8), (9, .int v9)]) C dL_proof_71 (by decide) rfl ?_
                  refine gV_iconst (v := 0) C dL_proof_73 rfl ?_
                  refine gV_istore (lvs' := [(11, .int 0), (10, .int 0), (0, .ref (k 0)), (1, .ref (k 5)), (2, .ref (k 1)), (3, .ref (k 2)), (6, .int v6), (7, .int v7), (8, .int v8), (9, .int v9)]) C dL_proof_74 (by decide) rfl ?_
                  refine gV_loc [2, 3, 4, 5, 6, 7, 8, 9, 1, 0] rfl ?_
                  exact L76 v8 v9 100000 0 0 hp
          refine gV_iload C dL_proof_31 5 rfl ?_
          refine gV_if_le (tgt := 174) C dL_proof_33 (by decide) (fun c33 => ?_) (fun c33 => ?_)
          · replace hp := g_ift hp c33
            refine gV_iinc (v := (v6 + 1)) (lvs' := [(6, .int (v6 + 1)), (0, .ref (k 0)), (1, .ref (k 5)), (2, .ref (k 1)), (3, .ref (k 2)), (7, .int v7)]) C dL_proof_174 4 rfl rfl (by decide) rfl ?_
            refine gV_goto (tgt := 14) C dL_proof_177 (by decide) ?_
            refine gV_loc [1, 2, 3, 4, 0] rfl ?_
            exact ih14 (v6 + 1) hp
          · replace hp := g_iff hp c33
            refine gV_iload C dL_proof_36 5 rfl ?_
            refine gV_i2l C dL_proof_38 ?_
            obtain ⟨r39q, hq39, hp⟩ := g_ob1 hp
            refine gV_calliE C (gV_runS (As := [.long v7.toInt64]) (rest := []) C (mt_L_many hl D cI cJ v7.toInt64 r39q hq39) (va_cwS 1 C.2.2.2.2.1 gL_proof_L_many rfl rfl rfl hds_L_many ⟨Nat.le_of_ble_eq_true rfl, Nat.le_of_ble_eq_true rfl⟩) (gSub_E _) rfl rfl (Nat.le_of_ble_eq_true rfl) dL_proof_39 ⟨Nat.le_of_ble_eq_true rfl, Nat.le_of_ble_eq_true rfl⟩) (fun _ _ hx => False.elim hx) (fun r39 w1 hw => ?_)
            obtain ⟨rfl, rfl⟩ := hw
            refine ⟨rfl, ?_⟩
            refine gV_iload C dL_proof_42 4 rfl ?_
            refine gV_icmp_eq (tgt := 50) C dL_proof_44 (by decide) (fun c44 => ?_) (fun c44 => ?_)
            · replace hp := g_ift hp c44
              refine gV_iconst (v := 0) C dL_proof_50 rfl ?_
              refine gV_istore (lvs' := [(8, .int 0), (0, .ref (k 0)), (1, .ref (k 5)), (2, .ref (k 1)), (3, .ref (k 2)), (6, .int v6), (7, .int v7)]) C dL_proof_51 (by decide) rfl ?_
              refine gV_iconst (v := 0) C dL_proof_53 rfl ?_
              refine gV_istore (lvs' := [(9, .int 0), (8, .int 0), (0, .ref (k 0)), (1, .ref (k 5)), (2, .ref (k 1)), (3, .ref (k 2)), (6, .int v6), (7, .int v7)]) C dL_proof_54 (by decide) rfl ?_
              refine gV_loc [2, 3, 4, 5, 6, 7, 1, 0] rfl ?_
              exact L56 v7 100000 0 0 hp
            · replace hp := g_iff hp c44
              refine gV_goto (tgt := 168) C dL_proof_47 (by decide) ?_
              exact J168 v7 hp
      refine gV_iload C dL_proof_14 4 rfl ?_
      refine gV_aload_n C dL_proof_16 rfl 0 rfl ?_
      refine gV_iconst (v := 5) C dL_proof_17 rfl ?_
      obtain ⟨hi18, hp⟩ := g_idx hp
      refine gV_iald C 0 rfl 0 rfl hi18 dL_proof_18 ?_
      refine gV_icmp_gt (tgt := 180) C dL_proof_19 (by decide) (fun c19 => ?_) (fun c19 => ?_)
      · replace hp := g_ift hp c19
        refine gV_iconst (v := 0) C dL_proof_180 rfl ?_
        obtain rfl := g_so1 hp
        exact RET _ _ _ _ _ _ dL_proof_181 (Nat.le_of_ble_eq_true rfl) (Nat.le_of_ble_eq_true rfl) rfl ⟨rfl, rfl⟩
      · replace hp := g_iff hp c19
        refine gV_iconst (v := 1) C dL_proof_22 rfl ?_
        refine gV_aload_n C dL_proof_23 rfl 0 rfl ?_
        refine gV_iconst (v := 5) C dL_proof_24 rfl ?_
        obtain ⟨hi25, hp⟩ := g_idx hp
        refine gV_iald C 0 rfl 0 rfl hi25 dL_proof_25 ?_
        refine gV_ishl C dL_proof_26 ?_
        refine gV_iconst (v := 1) C dL_proof_27 rfl ?_
        refine gV_isub C dL_proof_28 ?_
        refine gV_topI (fun v7_29 he29 => ?_)
        replace hp := g_let hp he29
        refine gV_istore (lvs' := [(7, .int v7_29), (0, .ref (k 0)), (1, .ref (k 5)), (2, .ref (k 1)), (3, .ref (k 2)), (6, .int v6)]) C dL_proof_29 (by decide) rfl ?_
        refine gV_loc [1, 2, 3, 4, 5, 0] rfl ?_
        exact L31 v6 100000 v7_29 hp
  refine gV_lload C dL_proof_0 4 rfl ?_
  obtain ⟨r2q, hq2, hp⟩ := g_ob1 hp
  refine gV_calliE C (gV_runS (As := [.long v4]) (rest := []) C (mt_L_many hl D cI cJ v4 r2q hq2) (va_cwS 1 C.2.2.2.2.1 gL_proof_L_many rfl rfl rfl hds_L_many ⟨Nat.le_of_ble_eq_true rfl, Nat.le_of_ble_eq_true rfl⟩) (gSub_E _) rfl rfl (Nat.le_of_ble_eq_true rfl) dL_proof_2 ⟨Nat.le_of_ble_eq_true rfl, Nat.le_of_ble_eq_true rfl⟩) (fun _ _ hx => False.elim hx) (fun r2 w1 hw => ?_)
  obtain ⟨rfl, rfl⟩ := hw
  refine ⟨rfl, ?_⟩
  refine gV_iconst (v := 1) C dL_proof_5 rfl ?_
  refine gV_icmp_eq (tgt := 11) C dL_proof_6 (by decide) (fun c6 => ?_) (fun c6 => ?_)
  · replace hp := g_ift hp c6
    refine gV_iconst (v := 1) C dL_proof_11 rfl ?_
    refine gV_istore (lvs' := [(6, .int 1), (0, .ref (k 0)), (1, .ref (k 5)), (2, .ref (k 1)), (3, .ref (k 2)), (4, .long v4)]) C dL_proof_12 (by decide) rfl ?_
    refine gV_loc [1, 2, 3, 4, 0] rfl ?_
    exact L14 100000 1 hp
  · replace hp := g_iff hp c6
    refine gV_iconst (v := 0) C dL_proof_9 rfl ?_
    obtain rfl := g_so1 hp
    exact RET _ _ _ _ _ _ dL_proof_10 (Nat.le_of_ble_eq_true rfl) (Nat.le_of_ble_eq_true rfl) rfl ⟨rfl, rfl⟩

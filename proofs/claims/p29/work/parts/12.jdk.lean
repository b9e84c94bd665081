def pf_J6_bitCount_0f7a4   (v0 : Int32) : Option (Int32) := (gl (v0 - ((g_ush v0 1) &&& 1431655765)) fun v0_9 => (gl ((v0_9 &&& 858993459) + ((g_ush v0_9 2) &&& 858993459)) fun v0_23 => (gl ((v0_23 + (g_ush v0_23 4)) &&& 252645135) fun v0_33 => (gl ((v0_33 + (g_ush v0_33 8)) + (g_ush (v0_33 + (g_ush v0_33 8)) 16)) fun v0_47 => (some (v0_47 &&& 63))))))
abbrev rm_J6_bitCount_0f7a4 : Room := { frames := 0, cells := 0, slots := 0, locals := 0 }
set_option maxHeartbeats 4000000 in
set_option maxRecDepth 100000 in
theorem mt_J6_bitCount_0f7a4 {l : Launch} (hl : l.stackTraces = false) (D : va_G)  (cI cJ : ClassId)  (v0 : Int32) (r0 : Int32) (hp : pf_J6_bitCount_0f7a4 v0 = (some r0)) : gMi l yJ6_bitCount_0f7a4 wsJ6_bitCount_0f7a4 rm_J6_bitCount_0f7a4 D [(cI, .int), (cJ, .long)] [] [.int v0] 0 0 (fun r w => r = r0 ∧ w = []) (fun _ _ => False) := by
  refine gMi_of (cc := cJ6_bitCount_0f7a4) (maxL := 1) (rt := .int) hl (by decide +kernel) rfl (Nat.le_of_ble_eq_true rfl) ?_
  intro p e s m args below meth c A Q C hnm ht RET OUT THR THRW
  have C : gC p l s m args meth c A D [(cI, .int), (cJ, .long)] 1 RJ6 cJ6_bitCount_0f7a4 wsJ6_bitCount_0f7a4 := C
  refine gV_loc (lvs' := [(0, .int v0)]) [0] rfl ?_
  unfold pf_J6_bitCount_0f7a4 at hp
  refine gV_iload_n C dJ6_bitCount_0f7a4_0 rfl 0 rfl ?_
  refine gV_iload_n C dJ6_bitCount_0f7a4_1 rfl 0 rfl ?_
  refine gV_iconst (v := 1) C dJ6_bitCount_0f7a4_2 rfl ?_
  refine gV_iushr C dJ6_bitCount_0f7a4_3 ?_
  refine gV_ldcw (v := 1431655765) C dJ6_bitCount_0f7a4_4 (C.w 1 rfl) ?_
  refine gV_iand C dJ6_bitCount_0f7a4_7 ?_
  refine gV_isub C dJ6_bitCount_0f7a4_8 ?_
  refine gV_topI (fun v0_9 he9 => ?_)
  replace hp := g_let hp he9
  refine gV_istore_n (lvs' := [(0, .int v0_9)]) C dJ6_bitCount_0f7a4_9 rfl (by decide) rfl ?_
  refine gV_iload_n C dJ6_bitCount_0f7a4_10 rfl 0 rfl ?_
  refine gV_ldcw (v := 858993459) C dJ6_bitCount_0f7a4_11 (C.w 2 rfl) ?_
  refine gV_iand C dJ6_bitCount_0f7a4_14 ?_
  refine gV_iload_n C dJ6_bitCount_0f7a4_15 rfl 0 rfl ?_
  refine gV_iconst (v := 2) C dJ6_bitCount_0f7a4_16 rfl ?_
  refine gV_iushr C dJ6_bitCount_0f7a4_17 ?_
  refine gV_ldcw (v := 858993459) C dJ6_bitCount_0f7a4_18 (C.w 2 rfl) ?_
  refine gV_iand C dJ6_bitCount_0f7a4_21 ?_
  refine gV_iadd C dJ6_bitCount_0f7a4_22 ?_
  refine gV_topI (fun v0_23 he23 => ?_)
  replace hp := g_let hp he23
  refine gV_istore_n (lvs' := [(0, .int v0_23)]) C dJ6_bitCount_0f7a4_23 rfl (by decide) rfl ?_
  refine gV_iload_n C dJ6_bitCount_0f7a4_24 rfl 0 rfl ?_
  refine gV_iload_n C dJ6_bitCount_0f7a4_25 rfl 0 rfl ?_
  refine gV_iconst (v := 4) C dJ6_bitCount_0f7a4_26 rfl ?_
  refine gV_iushr C dJ6_bitCount_0f7a4_27 ?_
  refine gV_iadd C dJ6_bitCount_0f7a4_28 ?_
  refine gV_ldcw (v := 252645135) C dJ6_bitCount_0f7a4_29 (C.w 3 rfl) ?_
  refine gV_iand C dJ6_bitCount_0f7a4_32 ?_
  refine gV_topI (fun v0_33 he33 => ?_)
  replace hp := g_let hp he33
  refine gV_istore_n (lvs' := [(0, .int v0_33)]) C dJ6_bitCount_0f7a4_33 rfl (by decide) rfl ?_
  refine gV_iload_n C dJ6_bitCount_0f7a4_34 rfl 0 rfl ?_
  refine gV_iload_n C dJ6_bitCount_0f7a4_35 rfl 0 rfl ?_
  refine gV_bipush (v := 8) C dJ6_bitCount_0f7a4_36 rfl ?_
  refine gV_iushr C dJ6_bitCount_0f7a4_38 ?_
  refine gV_iadd C dJ6_bitCount_0f7a4_39 ?_
  refine gV_istore_n (lvs' := [(0, .int (v0_33 + (g_ush v0_33 8)))]) C dJ6_bitCount_0f7a4_40 rfl (by decide) rfl ?_
  refine gV_iload_n C dJ6_bitCount_0f7a4_41 rfl 0 rfl ?_
  refine gV_iload_n C dJ6_bitCount_0f7a4_42 rfl 0 rfl ?_
  refine gV_bipush (v := 16) C dJ6_bitCount_0f7a4_43 rfl ?_
  refine gV_iushr C dJ6_bitCount_0f7a4_45 ?_
  refine gV_iadd C dJ6_bitCount_0f7a4_46 ?_
  refine gV_topI (fun v0_47 he47 => ?_)
  replace hp := g_let hp he47
  refine gV_istore_n (lvs' := [(0, .int v0_47)]) C dJ6_bitCount_0f7a4_47 rfl (by decide) rfl ?_
  refine gV_iload_n C dJ6_bitCount_0f7a4_48 rfl 0 rfl ?_
  refine gV_bipush (v := 63) C dJ6_bitCount_0f7a4_49 rfl ?_
  refine gV_iand C dJ6_bitCount_0f7a4_51 ?_
  obtain rfl := g_so1 hp
  exact RET _ _ _ _ _ _ dJ6_bitCount_0f7a4_52 (Nat.le_of_ble_eq_true rfl) (Nat.le_of_ble_eq_true rfl) rfl ⟨rfl, rfl⟩
def pf_J13_bitCount_95d88   (v0 : Int64) : Option (Int32) := (gl (v0 - ((g_lush v0 1) &&& 6148914691236517205)) fun v0_9 => (gl ((v0_9 &&& 3689348814741910323) + ((g_lush v0_9 2) &&& 3689348814741910323)) fun v0_23 => (gl ((v0_23 + (g_lush v0_23 4)) &&& 1085102592571150095) fun v0_33 => (gl ((v0_33 + (g_lush v0_33 8)) + (g_lush (v0_33 + (g_lush v0_33 8)) 16)) fun v0_47 => (some ((Int64.toInt32 (v0_47 + (g_lush v0_47 32))) &&& 127))))))
abbrev rm_J13_bitCount_95d88 : Room := { frames := 0, cells := 0, slots := 0, locals := 0 }
set_option maxHeartbeats 4000000 in
set_option maxRecDepth 100000 in
theorem mt_J13_bitCount_95d88 {l : Launch} (hl : l.stackTraces = false) (D : va_G)  (cI cJ : ClassId)  (v0 : Int64) (r0 : Int32) (hp : pf_J13_bitCount_95d88 v0 = (some r0)) : gMi l yJ13_bitCount_95d88 wsJ13_bitCount_95d88 rm_J13_bitCount_95d88 D [(cI, .int), (cJ, .long)] [] [.long v0] 0 0 (fun r w => r = r0 ∧ w = []) (fun _ _ => False) := by
  refine gMi_of (cc := cJ13_bitCount_95d88) (maxL := 2) (rt := .int) hl (by decide +kernel) rfl (Nat.le_of_ble_eq_true rfl) ?_
  intro p e s m args below meth c A Q C hnm ht RET OUT THR THRW
  have C : gC p l s m args meth c A D [(cI, .int), (cJ, .long)] 2 RJ13 cJ13_bitCount_95d88 wsJ13_bitCount_95d88 := C
  refine gV_loc (lvs' := [(0, .long v0)]) [0] rfl ?_
  unfold pf_J13_bitCount_95d88 at hp
  refine gV_lload_n C dJ13_bitCount_95d88_0 rfl 0 rfl ?_
  refine gV_lload_n C dJ13_bitCount_95d88_1 rfl 0 rfl ?_
  refine gV_iconst (v := 1) C dJ13_bitCount_95d88_2 rfl ?_
  refine gV_lushr C dJ13_bitCount_95d88_3 ?_
  refine gV_ldc2 (v := 6148914691236517205) C dJ13_bitCount_95d88_4 (C.w 1 rfl) ?_
  refine gV_land C dJ13_bitCount_95d88_7 ?_
  refine gV_lsub C dJ13_bitCount_95d88_8 ?_
  refine gV_topJ (fun v0_9 he9 => ?_)
  replace hp := g_let hp he9
  refine gV_lstore_n (lvs' := [(0, .long v0_9)]) C dJ13_bitCount_95d88_9 rfl (by decide) rfl ?_
  refine gV_lload_n C dJ13_bitCount_95d88_10 rfl 0 rfl ?_
  refine gV_ldc2 (v := 3689348814741910323) C dJ13_bitCount_95d88_11 (C.w 2 rfl) ?_
  refine gV_land C dJ13_bitCount_95d88_14 ?_
  refine gV_lload_n C dJ13_bitCount_95d88_15 rfl 0 rfl ?_
  refine gV_iconst (v := 2) C dJ13_bitCount_95d88_16 rfl ?_
  refine gV_lushr C dJ13_bitCount_95d88_17 ?_
  refine gV_ldc2 (v := 3689348814741910323) C dJ13_bitCount_95d88_18 (C.w 2 rfl) ?_
  refine gV_land C dJ13_bitCount_95d88_21 ?_
  refine gV_ladd C dJ13_bitCount_95d88_22 ?_
  refine gV_topJ (fun v0_23 he23 => ?_)
  replace hp := g_let hp he23
  refine gV_lstore_n (lvs' := [(0, .long v0_23)]) C dJ13_bitCount_95d88_23 rfl (by decide) rfl ?_
  refine gV_lload_n C dJ13_bitCount_95d88_24 rfl 0 rfl ?_
  refine gV_lload_n C dJ13_bitCount_95d88_25 rfl 0 rfl ?_
  refine gV_iconst (v := 4) C dJ13_bitCount_95d88_26 rfl ?_
  refine gV_lushr C dJ13_bitCount_95d88_27 ?_
  refine gV_ladd C dJ13_bitCount_95d88_28 ?_
  refine gV_ldc2 (v := 1085102592571150095) C dJ13_bitCount_95d88_29 (C.w 3 rfl) ?_
  refine gV_land C dJ13_bitCount_95d88_32 ?_
  refine gV_topJ (fun v0_33 he33 => ?_)
  replace hp := g_let hp he33
  refine gV_lstore_n (lvs' := [(0, .long v0_33)]) C dJ13_bitCount_95d88_33 rfl (by decide) rfl ?_
  refine gV_lload_n C dJ13_bitCount_95d88_34 rfl 0 rfl ?_
  refine gV_lload_n C dJ13_bitCount_95d88_35 rfl 0 rfl ?_
  refine gV_bipush (v := 8) C dJ13_bitCount_95d88_36 rfl ?_
  refine gV_lushr C dJ13_bitCount_95d88_38 ?_
  refine gV_ladd C dJ13_bitCount_95d88_39 ?_
  refine gV_lstore_n (lvs' := [(0, .long (v0_33 + (g_lush v0_33 8)))]) C dJ13_bitCount_95d88_40 rfl (by decide) rfl ?_
  refine gV_lload_n C dJ13_bitCount_95d88_41 rfl 0 rfl ?_
  refine gV_lload_n C dJ13_bitCount_95d88_42 rfl 0 rfl ?_
  refine gV_bipush (v := 16) C dJ13_bitCount_95d88_43 rfl ?_
  refine gV_lushr C dJ13_bitCount_95d88_45 ?_
  refine gV_ladd C dJ13_bitCount_95d88_46 ?_
  refine gV_topJ (fun v0_47 he47 => ?_)
  replace hp := g_let hp he47
  refine gV_lstore_n (lvs' := [(0, .long v0_47)]) C dJ13_bitCount_95d88_47 rfl (by decide) rfl ?_
  refine gV_lload_n C dJ13_bitCount_95d88_48 rfl 0 rfl ?_
  refine gV_lload_n C dJ13_bitCount_95d88_49 rfl 0 rfl ?_
  refine gV_bipush (v := 32) C dJ13_bitCount_95d88_50 rfl ?_
  refine gV_lushr C dJ13_bitCount_95d88_52 ?_
  refine gV_ladd C dJ13_bitCount_95d88_53 ?_
  refine gV_lstore_n (lvs' := [(0, .long (v0_47 + (g_lush v0_47 32)))]) C dJ13_bitCount_95d88_54 rfl (by decide) rfl ?_
  refine gV_lload_n C dJ13_bitCount_95d88_55 rfl 0 rfl ?_
  refine gV_l2i C dJ13_bitCount_95d88_56 ?_
  refine gV_bipush (v := 127) C dJ13_bitCount_95d88_57 rfl ?_
  refine gV_iand C dJ13_bitCount_95d88_59 ?_
  obtain rfl := g_so1 hp
  exact RET _ _ _ _ _ _ dJ13_bitCount_95d88_60 (Nat.le_of_ble_eq_true rfl) (Nat.le_of_ble_eq_true rfl) rfl ⟨rfl, rfl⟩
def pf_J7_fill_53178_L5 (v1 : Int32) (N : Nat) (v3 : Int32) : Nat → Int32 → (Nat → Int32) → Option ((Nat → Int32))
  | 0, _, _ => none
  | n5 + 1, v2, fv => (if v3 ≤ v2 then (some fv) else (gi v2 N (pf_J7_fill_53178_L5 v1 N v3 n5 (v2 + 1) (upd fv v2.toNatClampNeg v1))))
def pf_J7_fill_53178  (N : Nat) (fv : Nat → Int32) (v1 : Int32) : Option ((Nat → Int32)) := (pf_J7_fill_53178_L5 v1 N (Int32.ofNat N) 100000 0 fv)
abbrev rm_J7_fill_53178 : Room := { frames := 0, cells := 0, slots := 0, locals := 0 }
set_option maxHeartbeats 4000000 in
set_option maxRecDepth 100000 in
theorem mt_J7_fill_53178 {l : Launch} (hl : l.stackTraces = false) (D : va_G) (fa N : Nat) (cI cJ : ClassId) (fv : Nat → Int32) (v1 : Int32) (fv0 : Nat → Int32) (hp : pf_J7_fill_53178 N fv v1 = (some fv0)) : gMv l yJ7_fill_53178 wsJ7_fill_53178 rm_J7_fill_53178 D [(cI, .int), (cJ, .long)] (fW fa N cI fv) [.ref fa, .int v1] 0 0 (fun w => w = fW fa N cI fv0) (fun _ _ => False) := by
  refine gMv_of (cc := cJ7_fill_53178) (maxL := 4) hl (by decide +kernel) rfl (Nat.le_of_ble_eq_true rfl) ?_
  intro p e s m args below meth c A Q C hnm ht RET OUT THR THRW
  have C : gC p l s m args meth c A D [(cI, .int), (cJ, .long)] 4 RJ7 cJ7_fill_53178 wsJ7_fill_53178 := C
  refine gV_loc (lvs' := [(0, .ref fa), (1, .int v1)]) [0, 1] rfl ?_
  unfold pf_J7_fill_53178 at hp
  have L5 : ∀ (v3 : Int32) (n5 : Nat) (v2 : Int32) (fv : Nat → Int32), pf_J7_fill_53178_L5 v1 N v3 n5 v2 fv = (some fv0) → gV p l e rm_J7_fill_53178 s m args below meth c A D 4 Q (fW fa N cI fv) [(0, .ref fa), (1, .int v1), (2, .int v2), (3, .int v3)] 0 0 5 [] := by
    intro v3 n5
    induction n5 with
    | zero => intro v2 fv hp; exact g_none hp
    | succ n5 ih5 =>
      intro v2 fv hp
      rw [pf_J7_fill_53178_L5.eq_2] at hp
      refine gV_iload_n C dJ7_fill_53178_5 rfl 2 rfl ?_
      refine gV_iload_n C dJ7_fill_53178_6 rfl 3 rfl ?_
      refine gV_icmp_ge (tgt := 20) C dJ7_fill_53178_7 (by decide) (fun c7 => ?_) (fun c7 => ?_)
      · replace hp := g_ift hp c7
        obtain rfl := g_so1 hp
        exact RET _ _ _ _ _ dJ7_fill_53178_20 (Nat.le_of_ble_eq_true rfl) (Nat.le_of_ble_eq_true rfl) rfl
      · replace hp := g_iff hp c7
        refine gV_aload_n C dJ7_fill_53178_10 rfl 0 rfl ?_
        refine gV_iload_n C dJ7_fill_53178_11 rfl 2 rfl ?_
        refine gV_iload_n C dJ7_fill_53178_12 rfl 1 rfl ?_
        obtain ⟨hi13, hp⟩ := g_idx hp
        refine gV_iast (ws' := fW fa N cI (upd fv v2.toNatClampNeg v1)) C 0 rfl 0 rfl hi13 dJ7_fill_53178_13 rfl ?_
        refine gV_iinc (v := (v2 + 1)) (lvs' := [(2, .int (v2 + 1)), (0, .ref fa), (1, .int v1), (3, .int v3)]) C dJ7_fill_53178_14 2 rfl rfl (by decide) rfl ?_
        refine gV_goto (tgt := 5) C dJ7_fill_53178_17 (by decide) ?_
        refine gV_loc [1, 2, 0, 3] rfl ?_
        exact ih5 (v2 + 1) (upd fv v2.toNatClampNeg v1) hp
  refine gV_iconst (v := 0) C dJ7_fill_53178_0 rfl ?_
  refine gV_istore_n (lvs' := [(2, .int 0), (0, .ref fa), (1, .int v1)]) C dJ7_fill_53178_1 rfl (by decide) rfl ?_
  refine gV_aload_n C dJ7_fill_53178_2 rfl 1 rfl ?_
  refine gV_alen (v := (Int32.ofNat N)) C 0 rfl 0 rfl rfl dJ7_fill_53178_3 ?_
  refine gV_istore_n (lvs' := [(3, .int (Int32.ofNat N)), (2, .int 0), (0, .ref fa), (1, .int v1)]) C dJ7_fill_53178_4 rfl (by decide) rfl ?_
  refine gV_loc [2, 3, 1, 0] rfl ?_
  exact L5 (Int32.ofNat N) 100000 0 fv hp

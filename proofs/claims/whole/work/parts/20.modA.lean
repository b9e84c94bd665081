def pf_X4_thrown  (th : Int32)  : Option (Int32) := (some th)
abbrev rm_X4_thrown : Room := { frames := 0, cells := 0, slots := 0, locals := 0 }
theorem inw_X4_thrown_X4 : ∀ w ∈ wsX40, w ∈ wsX4_thrown := by decide +kernel
set_option maxHeartbeats 4000000 in
set_option maxRecDepth 100000 in
theorem mt_X4_thrown {l : Launch} (hl : l.stackTraces = false) (D : va_G) (k : Nat → Nat) (cI cJ : ClassId) (th : Int32) (mP : Int32) (mC : Int32) (mR : Int32) (mal : Int32) (mhd : Int32) (mn : Int32) (mg : Nat → Int32) (mt : Nat → Int32) (mh : Nat → Int32) (mz : Nat → Int32) (mset : Nat → Int32) (mfr : Nat → Int32) (mma : Nat → Int32) (mde : Nat → Int32) (mls : Nat → Int32)  (r0 : Int32) (hp : pf_X4_thrown th = (some r0)) : gMi l yX4_thrown wsX4_thrown rm_X4_thrown D [(cI, .int), (cJ, .long)] (mW k cI th mP mC mR mal mhd mn mg mt mh mz mset mfr mma mde mls) [.ref (k 0)] 0 0 (fun r w => r = r0 ∧ w = mW k cI th mP mC mR mal mhd mn mg mt mh mz mset mfr mma mde mls) (fun _ _ => False) := by
  refine gMi_of (cc := cX4_thrown) (maxL := 1) (rt := .int) hl (by decide +kernel) rfl (Nat.le_of_ble_eq_true rfl) ?_
  intro p e s m args below meth c A Q C hnm ht RET OUT THR THRW
  have C : gC p l s m args meth c A D [(cI, .int), (cJ, .long)] 1 RX4 cX4_thrown wsX4_thrown := C
  refine gV_loc (lvs' := [(0, .ref (k 0))]) [0] rfl ?_
  unfold pf_X4_thrown at hp
  refine gV_aload_n C dX4_thrown_0 rfl 0 rfl ?_
  refine gV_get (Cn := RX4) (T := TX4) (N := 16) C inw_X4_thrown_X4 0 rfl rfl 0 (by decide) (C.w 1 rfl) rfl rfl dX4_thrown_1 ?_
  obtain rfl := g_so1 hp
  exact RET _ _ _ _ _ _ dX4_thrown_4 (Nat.le_of_ble_eq_true rfl) (Nat.le_of_ble_eq_true rfl) rfl ⟨rfl, rfl⟩
def pf_X4_in_j15  (s0 : Int32) : Option (Int32) := (gz s0 ((some s0)))
def pf_X4_in_j14  : Option (Int32) := (pf_X4_in_j15 0)
def pf_X4_in   (v0 : Int32) (v1 : Int32) (v2 : Int32) : Option (Int32) := (if v0 < v1 then (pf_X4_in_j14) else (if v2 < v0 then (pf_X4_in_j14) else (pf_X4_in_j15 1)))
abbrev rm_X4_in : Room := { frames := 0, cells := 0, slots := 0, locals := 0 }
set_option maxHeartbeats 4000000 in
set_option maxRecDepth 100000 in
theorem mt_X4_in {l : Launch} (hl : l.stackTraces = false) (D : va_G)  (cI cJ : ClassId)  (v0 : Int32) (v1 : Int32) (v2 : Int32) (r0 : Int32) (hp : pf_X4_in v0 v1 v2 = (some r0)) : gMi l yX4_in wsX4_in rm_X4_in D [(cI, .int), (cJ, .long)] [] [.int v0, .int v1, .int v2] 0 0 (fun r w => r = r0 ∧ w = []) (fun _ _ => False) := by
  refine gMi_of (cc := cX4_in) (maxL := 3) (rt := .boolean) hl (by decide +kernel) rfl (Nat.le_of_ble_eq_true rfl) ?_
  intro p e s m args below meth c A Q C hnm ht RET OUT THR THRW
  have C : gC p l s m args meth c A D [(cI, .int), (cJ, .long)] 3 RX4 cX4_in wsX4_in := C
  refine gV_loc (lvs' := [(0, .int v0), (1, .int v1), (2, .int v2)]) [0, 1, 2] rfl ?_
  unfold pf_X4_in at hp
  have J15 : ∀ (s0 : Int32), pf_X4_in_j15 s0 = (some r0) → gV p l e rm_X4_in s m args below meth c A D 3 Q [] [] 0 0 15 [.int s0] := by
    intro s0 hp
    unfold pf_X4_in_j15 at hp
    obtain ⟨hz15, hp⟩ := g_bool hp
    obtain rfl := g_so1 hp
    exact RET _ _ _ _ _ _ dX4_in_15 (Nat.le_of_ble_eq_true rfl) (Nat.le_of_ble_eq_true rfl) (g_nz hz15) ⟨rfl, rfl⟩
  have J14 : pf_X4_in_j14 = (some r0) → gV p l e rm_X4_in s m args below meth c A D 3 Q [] [] 0 0 14 [] := by
    intro hp
    unfold pf_X4_in_j14 at hp
    refine gV_iconst (v := 0) C dX4_in_14 rfl ?_
    exact J15 0 hp
  refine gV_iload_n C dX4_in_0 rfl 0 rfl ?_
  refine gV_iload_n C dX4_in_1 rfl 1 rfl ?_
  refine gV_icmp_lt (tgt := 14) C dX4_in_2 (by decide) (fun c2 => ?_) (fun c2 => ?_)
  · replace hp := g_ift hp c2
    refine gV_loc [] rfl ?_
    exact J14 hp
  · replace hp := g_iff hp c2
    refine gV_iload_n C dX4_in_5 rfl 0 rfl ?_
    refine gV_iload_n C dX4_in_6 rfl 2 rfl ?_
    refine gV_icmp_gt (tgt := 14) C dX4_in_7 (by decide) (fun c7 => ?_) (fun c7 => ?_)
    · replace hp := g_ift hp c7
      refine gV_loc [] rfl ?_
      exact J14 hp
    · replace hp := g_iff hp c7
      refine gV_iconst (v := 1) C dX4_in_10 rfl ?_
      refine gV_goto (tgt := 15) C dX4_in_11 (by decide) ?_
      refine gV_loc [] rfl ?_
      exact J15 1 hp
def pf_X4_isRow  (mR : Int32) (v1 : Int32) : Option (Int32) := (ob1 (pf_X4_in v1 0 (mR - 1)) fun r8 => (gz r8 ((some r8))))
abbrev rm_X4_isRow : Room := { frames := 1, cells := 0, slots := 0, locals := 22 }
theorem inw_X4_isRow_X4 : ∀ w ∈ wsX40, w ∈ wsX4_isRow := by decide +kernel
theorem hds_X4_in : yX4_in.cls ≠ "java/lang/invoke/MethodHandle" ∧ yX4_in.cls ≠ "java/lang/invoke/VarHandle" ∧ (parseMethodDescriptor yX4_in.desc).map (fun d => d.parameters.length) = some 3 := by decide +kernel
set_option maxHeartbeats 4000000 in
set_option maxRecDepth 100000 in
theorem mt_X4_isRow {l : Launch} (hl : l.stackTraces = false) (D : va_G) (k : Nat → Nat) (cI cJ : ClassId) (th : Int32) (mP : Int32) (mC : Int32) (mR : Int32) (mal : Int32) (mhd : Int32) (mn : Int32) (mg : Nat → Int32) (mt : Nat → Int32) (mh : Nat → Int32) (mz : Nat → Int32) (mset : Nat → Int32) (mfr : Nat → Int32) (mma : Nat → Int32) (mde : Nat → Int32) (mls : Nat → Int32) (v1 : Int32) (r0 : Int32) (hp : pf_X4_isRow mR v1 = (some r0)) : gMi l yX4_isRow wsX4_isRow rm_X4_isRow D [(cI, .int), (cJ, .long)] (mW k cI th mP mC mR mal mhd mn mg mt mh mz mset mfr mma mde mls) [.ref (k 0), .int v1] 0 0 (fun r w => r = r0 ∧ w = mW k cI th mP mC mR mal mhd mn mg mt mh mz mset mfr mma mde mls) (fun _ _ => False) := by
  refine gMi_of (cc := cX4_isRow) (maxL := 2) (rt := .boolean) hl (by decide +kernel) rfl (Nat.le_of_ble_eq_true rfl) ?_
  intro p e s m args below meth c A Q C hnm ht RET OUT THR THRW
  have C : gC p l s m args meth c A D [(cI, .int), (cJ, .long)] 2 RX4 cX4_isRow wsX4_isRow := C
  refine gV_loc (lvs' := [(0, .ref (k 0)), (1, .int v1)]) [0, 1] rfl ?_
  unfold pf_X4_isRow at hp
  refine gV_iload_n C dX4_isRow_0 rfl 1 rfl ?_
  refine gV_iconst (v := 0) C dX4_isRow_1 rfl ?_
  refine gV_aload_n C dX4_isRow_2 rfl 0 rfl ?_
  refine gV_get (Cn := RX4) (T := TX4) (N := 16) C inw_X4_isRow_X4 0 rfl rfl 3 (by decide) (C.w 1 rfl) rfl rfl dX4_isRow_3 ?_
  refine gV_iconst (v := 1) C dX4_isRow_6 rfl ?_
  refine gV_isub C dX4_isRow_7 ?_
  obtain ⟨r8q, hq8, hp⟩ := g_ob1 hp
  refine gV_calliE C (gV_runS (As := [.int v1, .int 0, .int (mR - 1)]) (rest := []) C (mt_X4_in hl D cI cJ v1 0 (mR - 1) r8q hq8) (va_cwS 3 C.2.2.2.2.1 gX4_isRow_X4_in rfl rfl rfl hds_X4_in ⟨Nat.le_of_ble_eq_true rfl, Nat.le_of_ble_eq_true rfl⟩) (gSub_E _) rfl rfl (Nat.le_of_ble_eq_true rfl) dX4_isRow_8 ⟨Nat.le_of_ble_eq_true rfl, Nat.le_of_ble_eq_true rfl⟩) (fun _ _ hx => False.elim hx) (fun r8 w1 hw => ?_)
  obtain ⟨rfl, rfl⟩ := hw
  refine ⟨rfl, ?_⟩
  obtain ⟨hz11, hp⟩ := g_bool hp
  obtain rfl := g_so1 hp
  exact RET _ _ _ _ _ _ dX4_isRow_11 (Nat.le_of_ble_eq_true rfl) (Nat.le_of_ble_eq_true rfl) (g_nz hz11) ⟨rfl, rfl⟩
def pf_X4_power_L4 (v0 : Int32) (v1 : Int32) : Nat → Int32 → Int32 → Option (Int32)
  | 0, _, _ => none
  | n4 + 1, v2, v3 => (if v1 ≤ v3 then (some v2) else (pf_X4_power_L4 v0 v1 n4 (v2 * v0) (v3 + 1)))
def pf_X4_power   (v0 : Int32) (v1 : Int32) : Option (Int32) := (pf_X4_power_L4 v0 v1 100000 1 0)
abbrev rm_X4_power : Room := { frames := 0, cells := 0, slots := 0, locals := 0 }
set_option maxHeartbeats 4000000 in
set_option maxRecDepth 100000 in
theorem mt_X4_power {l : Launch} (hl : l.stackTraces = false) (D : va_G)  (cI cJ : ClassId)  (v0 : Int32) (v1 : Int32) (r0 : Int32) (hp : pf_X4_power v0 v1 = (some r0)) : gMi l yX4_power wsX4_power rm_X4_power D [(cI, .int), (cJ, .long)] [] [.int v0, .int v1] 0 0 (fun r w => r = r0 ∧ w = []) (fun _ _ => False) := by
  refine gMi_of (cc := cX4_power) (maxL := 4) (rt := .int) hl (by decide +kernel) rfl (Nat.le_of_ble_eq_true rfl) ?_
  intro p e s m args below meth c A Q C hnm ht RET OUT THR THRW
  have C : gC p l s m args meth c A D [(cI, .int), (cJ, .long)] 4 RX4 cX4_power wsX4_power := C
  refine gV_loc (lvs' := [(0, .int v0), (1, .int v1)]) [0, 1] rfl ?_
  unfold pf_X4_power at hp
  have L4 : ∀ (n4 : Nat) (v2 : Int32) (v3 : Int32), pf_X4_power_L4 v0 v1 n4 v2 v3 = (some r0) → gV p l e rm_X4_power s m args below meth c A D 4 Q [] [(0, .int v0), (1, .int v1), (2, .int v2), (3, .int v3)] 0 0 4 [] := by
    intro n4
    induction n4 with
    | zero => intro v2 v3 hp; exact g_none hp
    | succ n4 ih4 =>
      intro v2 v3 hp
      rw [pf_X4_power_L4.eq_2] at hp
      refine gV_iload_n C dX4_power_4 rfl 3 rfl ?_
      refine gV_iload_n C dX4_power_5 rfl 1 rfl ?_
      refine gV_icmp_ge (tgt := 19) C dX4_power_6 (by decide) (fun c6 => ?_) (fun c6 => ?_)
      · replace hp := g_ift hp c6
        refine gV_iload_n C dX4_power_19 rfl 2 rfl ?_
        obtain rfl := g_so1 hp
        exact RET _ _ _ _ _ _ dX4_power_20 (Nat.le_of_ble_eq_true rfl) (Nat.le_of_ble_eq_true rfl) rfl ⟨rfl, rfl⟩
      · replace hp := g_iff hp c6
        refine gV_iload_n C dX4_power_9 rfl 2 rfl ?_
        refine gV_iload_n C dX4_power_10 rfl 0 rfl ?_
        refine gV_imul C dX4_power_11 ?_
        refine gV_istore_n (lvs' := [(2, .int (v2 * v0)), (0, .int v0), (1, .int v1), (3, .int v3)]) C dX4_power_12 rfl (by decide) rfl ?_
        refine gV_iinc (v := (v3 + 1)) (lvs' := [(3, .int (v3 + 1)), (2, .int (v2 * v0)), (0, .int v0), (1, .int v1)]) C dX4_power_13 3 rfl rfl (by decide) rfl ?_
        refine gV_goto (tgt := 4) C dX4_power_16 (by decide) ?_
        refine gV_loc [2, 3, 1, 0] rfl ?_
        exact ih4 (v2 * v0) (v3 + 1) hp
  refine gV_iconst (v := 1) C dX4_power_0 rfl ?_
  refine gV_istore_n (lvs' := [(2, .int 1), (0, .int v0), (1, .int v1)]) C dX4_power_1 rfl (by decide) rfl ?_
  refine gV_iconst (v := 0) C dX4_power_2 rfl ?_
  refine gV_istore_n (lvs' := [(3, .int 0), (2, .int 1), (0, .int v0), (1, .int v1)]) C dX4_power_3 rfl (by decide) rfl ?_
  refine gV_loc [2, 3, 1, 0] rfl ?_
  exact L4 100000 1 0 hp
def pf_X4_begin_j37 (v1 : Int32) (v2 : Int32) (s0 : Int32) (th : Int32) (mP : Int32) (mC : Int32) (mR : Int32) (mal : Int32) (mhd : Int32) (mn : Int32) : Option (Int32 × Int32 × Int32 × Int32 × Int32 × Int32 × Int32 × Int32) := (if s0 ≤ 0 then (ob1 (pf_X4_power v2 v1) fun r62 => (some (r62, s0, v1, v2, r62, 0, (-1), 0))) else (some (0, s0, mP, mC, mR, mal, mhd, mn)))
def pf_X4_begin_j36 (v1 : Int32) (v2 : Int32) (th : Int32) (mP : Int32) (mC : Int32) (mR : Int32) (mal : Int32) (mhd : Int32) (mn : Int32) : Option (Int32 × Int32 × Int32 × Int32 × Int32 × Int32 × Int32 × Int32) := (pf_X4_begin_j37 v1 v2 1 th mP mC mR mal mhd mn)
def pf_X4_begin  (th : Int32) (mP : Int32) (mC : Int32) (mR : Int32) (mal : Int32) (mhd : Int32) (mn : Int32) (v1 : Int32) (v2 : Int32) : Option (Int32 × Int32 × Int32 × Int32 × Int32 × Int32 × Int32 × Int32) := (ob1 (pf_X4_in v1 1 8) fun r5 => (if r5 = 0 then (pf_X4_begin_j36 v1 v2 th mP mC mR mal mhd mn) else (ob1 (pf_X4_in v2 2 6) fun r15 => (if r15 = 0 then (pf_X4_begin_j36 v1 v2 th mP mC mR mal mhd mn) else (ob1 (pf_X4_power v2 v1) fun r23 => (if 256 < r23 then (pf_X4_begin_j36 v1 v2 th mP mC mR mal mhd mn) else (pf_X4_begin_j37 v1 v2 0 th mP mC mR mal mhd mn)))))))
abbrev rm_X4_begin : Room := { frames := 1, cells := 0, slots := 0, locals := 23 }
theorem inw_X4_begin_X4 : ∀ w ∈ wsX40, w ∈ wsX4_begin := by decide +kernel
theorem hds_X4_power : yX4_power.cls ≠ "java/lang/invoke/MethodHandle" ∧ yX4_power.cls ≠ "java/lang/invoke/VarHandle" ∧ (parseMethodDescriptor yX4_power.desc).map (fun d => d.parameters.length) = some 2 := by decide +kernel
set_option maxHeartbeats 4000000 in
set_option maxRecDepth 100000 in
theorem mt_X4_begin {l : Launch} (hl : l.stackTraces = false) (D : va_G) (k : Nat → Nat) (cI cJ : ClassId) (th : Int32) (mP : Int32) (mC : Int32) (mR : Int32) (mal : Int32) (mhd : Int32) (mn : Int32) (mg : Nat → Int32) (mt : Nat → Int32) (mh : Nat → Int32) (mz : Nat → Int32) (mset : Nat → Int32) (mfr : Nat → Int32) (mma : Nat → Int32) (mde : Nat → Int32) (mls : Nat → Int32) (v1 : Int32) (v2 : Int32) (r0 : Int32) (th0 : Int32) (mP0 : Int32) (mC0 : Int32) (mR0 : Int32) (mal0 : Int32) (mhd0 : Int32) (mn0 : Int32) (hp : pf_X4_begin th mP mC mR mal mhd mn v1 v2 = (some (r0, th0, mP0, mC0, mR0, mal0, mhd0, mn0))) : gMi l yX4_begin wsX4_begin rm_X4_begin D [(cI, .int), (cJ, .long)] (mW k cI th mP mC mR mal mhd mn mg mt mh mz mset mfr mma mde mls) [.ref (k 0), .int v1, .int v2] 0 0 (fun r w => r = r0 ∧ w = mW k cI th0 mP0 mC0 mR0 mal0 mhd0 mn0 mg mt mh mz mset mfr mma mde mls) (fun _ _ => False) := by
  refine gMi_of (cc := cX4_begin) (maxL := 3) (rt := .int) hl (by decide +kernel) rfl (Nat.le_of_ble_eq_true rfl) ?_
  intro p e s m args below meth c A Q C hnm ht RET OUT THR THRW
  have C : gC p l s m args meth c A D [(cI, .int), (cJ, .long)] 3 RX4 cX4_begin wsX4_begin := C
  refine gV_loc (lvs' := [(0, .ref (k 0)), (1, .int v1), (2, .int v2)]) [0, 1, 2] rfl ?_
  unfold pf_X4_begin at hp
  have J37 : ∀ (s0 : Int32) (th : Int32) (mP : Int32) (mC : Int32) (mR : Int32) (mal : Int32) (mhd : Int32) (mn : Int32), pf_X4_begin_j37 v1 v2 s0 th mP mC mR mal mhd mn = (some (r0, th0, mP0, mC0, mR0, mal0, mhd0, mn0)) → gV p l e rm_X4_begin s m args below meth c A D 3 Q (mW k cI th mP mC mR mal mhd mn mg mt mh mz mset mfr mma mde mls) [(0, .ref (k 0)), (1, .int v1), (2, .int v2)] 0 0 37 [.int s0, .ref (k 0)] := by
    intro s0 th mP mC mR mal mhd mn hp
    unfold pf_X4_begin_j37 at hp
    refine gV_put (Cn := RX4) (T := TX4) (N := 16) (ws' := mW k cI s0 mP mC mR mal mhd mn mg mt mh mz mset mfr mma mde mls) C inw_X4_begin_X4 tyX4_ok nmX4 0 rfl rfl 0 (by decide) (C.w 1 rfl) rfl rfl rfl rfl rfl (Nat.le_of_ble_eq_true rfl) dX4_begin_37 rfl ?_
    refine gV_aload_n C dX4_begin_40 rfl 0 rfl ?_
    refine gV_get (Cn := RX4) (T := TX4) (N := 16) C inw_X4_begin_X4 0 rfl rfl 0 (by decide) (C.w 1 rfl) rfl rfl dX4_begin_41 ?_
    refine gV_if_le (tgt := 49) C dX4_begin_44 (by decide) (fun c44 => ?_) (fun c44 => ?_)
    · replace hp := g_ift hp c44
      refine gV_aload_n C dX4_begin_49 rfl 0 rfl ?_
      refine gV_iload_n C dX4_begin_50 rfl 1 rfl ?_
      refine gV_put (Cn := RX4) (T := TX4) (N := 16) (ws' := mW k cI s0 v1 mC mR mal mhd mn mg mt mh mz mset mfr mma mde mls) C inw_X4_begin_X4 tyX4_ok nmX4 0 rfl rfl 1 (by decide) (C.w 2 rfl) rfl rfl rfl rfl rfl (Nat.le_of_ble_eq_true rfl) dX4_begin_51 rfl ?_
      refine gV_aload_n C dX4_begin_54 rfl 0 rfl ?_
      refine gV_iload_n C dX4_begin_55 rfl 2 rfl ?_
      refine gV_put (Cn := RX4) (T := TX4) (N := 16) (ws' := mW k cI s0 v1 v2 mR mal mhd mn mg mt mh mz mset mfr mma mde mls) C inw_X4_begin_X4 tyX4_ok nmX4 0 rfl rfl 2 (by decide) (C.w 3 rfl) rfl rfl rfl rfl rfl (Nat.le_of_ble_eq_true rfl) dX4_begin_56 rfl ?_
      refine gV_aload_n C dX4_begin_59 rfl 0 rfl ?_
      refine gV_iload_n C dX4_begin_60 rfl 2 rfl ?_
      refine gV_iload_n C dX4_begin_61 rfl 1 rfl ?_
      obtain ⟨r62q, hq62, hp⟩ := g_ob1 hp
      refine gV_calliE C (gV_runS (As := [.int v2, .int v1]) (rest := [.ref (k 0)]) C (mt_X4_power hl D cI cJ v2 v1 r62q hq62) (va_cwS 2 C.2.2.2.2.1 gX4_begin_X4_power rfl rfl rfl hds_X4_power ⟨Nat.le_of_ble_eq_true rfl, Nat.le_of_ble_eq_true rfl⟩) (gSub_E _) rfl rfl (Nat.le_of_ble_eq_true rfl) dX4_begin_62 ⟨Nat.le_of_ble_eq_true rfl, Nat.le_of_ble_eq_true rfl⟩) (fun _ _ hx => False.elim hx) (fun r62 w1 hw => ?_)
      obtain ⟨rfl, rfl⟩ := hw
      refine ⟨rfl, ?_⟩
      refine gV_put (Cn := RX4) (T := TX4) (N := 16) (ws' := mW k cI s0 v1 v2 r62 mal mhd mn mg mt mh mz mset mfr mma mde mls) C inw_X4_begin_X4 tyX4_ok nmX4 0 rfl rfl 3 (by decide) (C.w 4 rfl) rfl rfl rfl rfl rfl (Nat.le_of_ble_eq_true rfl) dX4_begin_65 rfl ?_
      refine gV_aload_n C dX4_begin_68 rfl 0 rfl ?_
      refine gV_iconst (v := 0) C dX4_begin_69 rfl ?_
      refine gV_put (Cn := RX4) (T := TX4) (N := 16) (ws' := mW k cI s0 v1 v2 r62 0 mhd mn mg mt mh mz mset mfr mma mde mls) C inw_X4_begin_X4 tyX4_ok nmX4 0 rfl rfl 4 (by decide) (C.w 5 rfl) rfl rfl rfl rfl rfl (Nat.le_of_ble_eq_true rfl) dX4_begin_70 rfl ?_
      refine gV_aload_n C dX4_begin_73 rfl 0 rfl ?_
      refine gV_iconst (v := (-1)) C dX4_begin_74 rfl ?_
      refine gV_put (Cn := RX4) (T := TX4) (N := 16) (ws' := mW k cI s0 v1 v2 r62 0 (-1) mn mg mt mh mz mset mfr mma mde mls) C inw_X4_begin_X4 tyX4_ok nmX4 0 rfl rfl 5 (by decide) (C.w 6 rfl) rfl rfl rfl rfl rfl (Nat.le_of_ble_eq_true rfl) dX4_begin_75 rfl ?_
      refine gV_aload_n C dX4_begin_78 rfl 0 rfl ?_
      refine gV_iconst (v := 0) C dX4_begin_79 rfl ?_
      refine gV_put (Cn := RX4) (T := TX4) (N := 16) (ws' := mW k cI s0 v1 v2 r62 0 (-1) 0 mg mt mh mz mset mfr mma mde mls) C inw_X4_begin_X4 tyX4_ok nmX4 0 rfl rfl 6 (by decide) (C.w 7 rfl) rfl rfl rfl rfl rfl (Nat.le_of_ble_eq_true rfl) dX4_begin_80 rfl ?_
      refine gV_aload_n C dX4_begin_83 rfl 0 rfl ?_
      refine gV_get (Cn := RX4) (T := TX4) (N := 16) C inw_X4_begin_X4 0 rfl rfl 3 (by decide) (C.w 4 rfl) rfl rfl dX4_begin_84 ?_
      obtain ⟨rfl, rfl, rfl, rfl, rfl, rfl, rfl, rfl⟩ := g_so8 hp
      exact RET _ _ _ _ _ _ dX4_begin_87 (Nat.le_of_ble_eq_true rfl) (Nat.le_of_ble_eq_true rfl) rfl ⟨rfl, rfl⟩
    · replace hp := g_iff hp c44
      refine gV_iconst (v := 0) C dX4_begin_47 rfl ?_
      obtain ⟨rfl, rfl, rfl, rfl, rfl, rfl, rfl, rfl⟩ := g_so8 hp
      exact RET _ _ _ _ _ _ dX4_begin_48 (Nat.le_of_ble_eq_true rfl) (Nat.le_of_ble_eq_true rfl) rfl ⟨rfl, rfl⟩
  have J36 : ∀ (th : Int32) (mP : Int32) (mC : Int32) (mR : Int32) (mal : Int32) (mhd : Int32) (mn : Int32), pf_X4_begin_j36 v1 v2 th mP mC mR mal mhd mn = (some (r0, th0, mP0, mC0, mR0, mal0, mhd0, mn0)) → gV p l e rm_X4_begin s m args below meth c A D 3 Q (mW k cI th mP mC mR mal mhd mn mg mt mh mz mset mfr mma mde mls) [(0, .ref (k 0)), (1, .int v1), (2, .int v2)] 0 0 36 [.ref (k 0)] := by
    intro th mP mC mR mal mhd mn hp
    unfold pf_X4_begin_j36 at hp
    refine gV_iconst (v := 1) C dX4_begin_36 rfl ?_
    exact J37 1 th mP mC mR mal mhd mn hp
  refine gV_aload_n C dX4_begin_0 rfl 0 rfl ?_
  refine gV_iload_n C dX4_begin_1 rfl 1 rfl ?_
  refine gV_iconst (v := 1) C dX4_begin_2 rfl ?_
  refine gV_bipush (v := 8) C dX4_begin_3 rfl ?_
  obtain ⟨r5q, hq5, hp⟩ := g_ob1 hp
  refine gV_calliE C (gV_runS (As := [.int v1, .int 1, .int 8]) (rest := [.ref (k 0)]) C (mt_X4_in hl D cI cJ v1 1 8 r5q hq5) (va_cwS 3 C.2.2.2.2.1 gX4_begin_X4_in rfl rfl rfl hds_X4_in ⟨Nat.le_of_ble_eq_true rfl, Nat.le_of_ble_eq_true rfl⟩) (gSub_E _) rfl rfl (Nat.le_of_ble_eq_true rfl) dX4_begin_5 ⟨Nat.le_of_ble_eq_true rfl, Nat.le_of_ble_eq_true rfl⟩) (fun _ _ hx => False.elim hx) (fun r5 w1 hw => ?_)
  obtain ⟨rfl, rfl⟩ := hw
  refine ⟨rfl, ?_⟩
  refine gV_if_eq (tgt := 36) C dX4_begin_8 (by decide) (fun c8 => ?_) (fun c8 => ?_)
  · replace hp := g_ift hp c8
    exact J36 th mP mC mR mal mhd mn hp
  · replace hp := g_iff hp c8
    refine gV_iload_n C dX4_begin_11 rfl 2 rfl ?_
    refine gV_iconst (v := 2) C dX4_begin_12 rfl ?_
    refine gV_bipush (v := 6) C dX4_begin_13 rfl ?_
    obtain ⟨r15q, hq15, hp⟩ := g_ob1 hp
    refine gV_calliE C (gV_runS (As := [.int v2, .int 2, .int 6]) (rest := [.ref (k 0)]) C (mt_X4_in hl D cI cJ v2 2 6 r15q hq15) (va_cwS 3 C.2.2.2.2.1 gX4_begin_X4_in rfl rfl rfl hds_X4_in ⟨Nat.le_of_ble_eq_true rfl, Nat.le_of_ble_eq_true rfl⟩) (gSub_E _) rfl rfl (Nat.le_of_ble_eq_true rfl) dX4_begin_15 ⟨Nat.le_of_ble_eq_true rfl, Nat.le_of_ble_eq_true rfl⟩) (fun _ _ hx => False.elim hx) (fun r15 w1 hw => ?_)
    obtain ⟨rfl, rfl⟩ := hw
    refine ⟨rfl, ?_⟩
    refine gV_if_eq (tgt := 36) C dX4_begin_18 (by decide) (fun c18 => ?_) (fun c18 => ?_)
    · replace hp := g_ift hp c18
      exact J36 th mP mC mR mal mhd mn hp
    · replace hp := g_iff hp c18
      refine gV_iload_n C dX4_begin_21 rfl 2 rfl ?_
      refine gV_iload_n C dX4_begin_22 rfl 1 rfl ?_
      obtain ⟨r23q, hq23, hp⟩ := g_ob1 hp
      refine gV_calliE C (gV_runS (As := [.int v2, .int v1]) (rest := [.ref (k 0)]) C (mt_X4_power hl D cI cJ v2 v1 r23q hq23) (va_cwS 2 C.2.2.2.2.1 gX4_begin_X4_power rfl rfl rfl hds_X4_power ⟨Nat.le_of_ble_eq_true rfl, Nat.le_of_ble_eq_true rfl⟩) (gSub_E _) rfl rfl (Nat.le_of_ble_eq_true rfl) dX4_begin_23 ⟨Nat.le_of_ble_eq_true rfl, Nat.le_of_ble_eq_true rfl⟩) (fun _ _ hx => False.elim hx) (fun r23 w1 hw => ?_)
      obtain ⟨rfl, rfl⟩ := hw
      refine ⟨rfl, ?_⟩
      refine gV_sipush (v := 256) C dX4_begin_26 rfl ?_
      refine gV_icmp_gt (tgt := 36) C dX4_begin_29 (by decide) (fun c29 => ?_) (fun c29 => ?_)
      · replace hp := g_ift hp c29
        exact J36 th mP mC mR mal mhd mn hp
      · replace hp := g_iff hp c29
        refine gV_iconst (v := 0) C dX4_begin_32 rfl ?_
        refine gV_goto (tgt := 37) C dX4_begin_33 (by decide) ?_
        exact J37 0 th mP mC mR mal mhd mn hp
def pf_X4_rows  (th : Int32) (mR : Int32)  : Option (Int32 × Int32) := (some (mR, 0))
abbrev rm_X4_rows : Room := { frames := 0, cells := 0, slots := 0, locals := 0 }
theorem inw_X4_rows_X4 : ∀ w ∈ wsX40, w ∈ wsX4_rows := by decide +kernel
set_option maxHeartbeats 4000000 in
set_option maxRecDepth 100000 in
theorem mt_X4_rows {l : Launch} (hl : l.stackTraces = false) (D : va_G) (k : Nat → Nat) (cI cJ : ClassId) (th : Int32) (mP : Int32) (mC : Int32) (mR : Int32) (mal : Int32) (mhd : Int32) (mn : Int32) (mg : Nat → Int32) (mt : Nat → Int32) (mh : Nat → Int32) (mz : Nat → Int32) (mset : Nat → Int32) (mfr : Nat → Int32) (mma : Nat → Int32) (mde : Nat → Int32) (mls : Nat → Int32)  (r0 : Int32) (th0 : Int32) (hp : pf_X4_rows th mR = (some (r0, th0))) : gMi l yX4_rows wsX4_rows rm_X4_rows D [(cI, .int), (cJ, .long)] (mW k cI th mP mC mR mal mhd mn mg mt mh mz mset mfr mma mde mls) [.ref (k 0)] 0 0 (fun r w => r = r0 ∧ w = mW k cI th0 mP mC mR mal mhd mn mg mt mh mz mset mfr mma mde mls) (fun _ _ => False) := by
  refine gMi_of (cc := cX4_rows) (maxL := 1) (rt := .int) hl (by decide +kernel) rfl (Nat.le_of_ble_eq_true rfl) ?_
  intro p e s m args below meth c A Q C hnm ht RET OUT THR THRW
  have C : gC p l s m args meth c A D [(cI, .int), (cJ, .long)] 1 RX4 cX4_rows wsX4_rows := C
  refine gV_loc (lvs' := [(0, .ref (k 0))]) [0] rfl ?_
  unfold pf_X4_rows at hp
  refine gV_aload_n C dX4_rows_0 rfl 0 rfl ?_
  refine gV_iconst (v := 0) C dX4_rows_1 rfl ?_
  refine gV_put (Cn := RX4) (T := TX4) (N := 16) (ws' := mW k cI 0 mP mC mR mal mhd mn mg mt mh mz mset mfr mma mde mls) C inw_X4_rows_X4 tyX4_ok nmX4 0 rfl rfl 0 (by decide) (C.w 1 rfl) rfl rfl rfl rfl rfl (Nat.le_of_ble_eq_true rfl) dX4_rows_2 rfl ?_
  refine gV_aload_n C dX4_rows_5 rfl 0 rfl ?_
  refine gV_get (Cn := RX4) (T := TX4) (N := 16) C inw_X4_rows_X4 0 rfl rfl 3 (by decide) (C.w 2 rfl) rfl rfl dX4_rows_6 ?_
  obtain ⟨rfl, rfl⟩ := g_so2 hp
  exact RET _ _ _ _ _ _ dX4_rows_9 (Nat.le_of_ble_eq_true rfl) (Nat.le_of_ble_eq_true rfl) rfl ⟨rfl, rfl⟩
def pf_X4_colour  (mP : Int32) (mC : Int32) (v1 : Int32) (v2 : Int32) : Option (Int32) := (ob1 (pf_X4_power mC ((mP - 1) - v2)) fun r13 => (gd r13 (gd mC (some ((v1 / r13) - (v1 / r13) / mC * mC)))))
abbrev rm_X4_colour : Room := { frames := 1, cells := 0, slots := 0, locals := 23 }
theorem inw_X4_colour_X4 : ∀ w ∈ wsX40, w ∈ wsX4_colour := by decide +kernel
set_option maxHeartbeats 4000000 in
set_option maxRecDepth 100000 in
theorem mt_X4_colour {l : Launch} (hl : l.stackTraces = false) (D : va_G) (k : Nat → Nat) (cI cJ : ClassId) (th : Int32) (mP : Int32) (mC : Int32) (mR : Int32) (mal : Int32) (mhd : Int32) (mn : Int32) (mg : Nat → Int32) (mt : Nat → Int32) (mh : Nat → Int32) (mz : Nat → Int32) (mset : Nat → Int32) (mfr : Nat → Int32) (mma : Nat → Int32) (mde : Nat → Int32) (mls : Nat → Int32) (v1 : Int32) (v2 : Int32) (r0 : Int32) (hp : pf_X4_colour mP mC v1 v2 = (some r0)) : gMi l yX4_colour wsX4_colour rm_X4_colour D [(cI, .int), (cJ, .long)] (mW k cI th mP mC mR mal mhd mn mg mt mh mz mset mfr mma mde mls) [.ref (k 0), .int v1, .int v2] 0 0 (fun r w => r = r0 ∧ w = mW k cI th mP mC mR mal mhd mn mg mt mh mz mset mfr mma mde mls) (fun _ _ => False) := by
  refine gMi_of (cc := cX4_colour) (maxL := 3) (rt := .int) hl (by decide +kernel) rfl (Nat.le_of_ble_eq_true rfl) ?_
  intro p e s m args below meth c A Q C hnm ht RET OUT THR THRW
  have C : gC p l s m args meth c A D [(cI, .int), (cJ, .long)] 3 RX4 cX4_colour wsX4_colour := C
  refine gV_loc (lvs' := [(0, .ref (k 0)), (1, .int v1), (2, .int v2)]) [0, 1, 2] rfl ?_
  unfold pf_X4_colour at hp
  refine gV_iload_n C dX4_colour_0 rfl 1 rfl ?_
  refine gV_aload_n C dX4_colour_1 rfl 0 rfl ?_
  refine gV_get (Cn := RX4) (T := TX4) (N := 16) C inw_X4_colour_X4 0 rfl rfl 2 (by decide) (C.w 1 rfl) rfl rfl dX4_colour_2 ?_
  refine gV_aload_n C dX4_colour_5 rfl 0 rfl ?_
  refine gV_get (Cn := RX4) (T := TX4) (N := 16) C inw_X4_colour_X4 0 rfl rfl 1 (by decide) (C.w 2 rfl) rfl rfl dX4_colour_6 ?_
  refine gV_iconst (v := 1) C dX4_colour_9 rfl ?_
  refine gV_isub C dX4_colour_10 ?_
  refine gV_iload_n C dX4_colour_11 rfl 2 rfl ?_
  refine gV_isub C dX4_colour_12 ?_
  obtain ⟨r13q, hq13, hp⟩ := g_ob1 hp
  refine gV_calliE C (gV_runS (As := [.int mC, .int ((mP - 1) - v2)]) (rest := [.int v1]) C (mt_X4_power hl D cI cJ mC ((mP - 1) - v2) r13q hq13) (va_cwS 2 C.2.2.2.2.1 gX4_colour_X4_power rfl rfl rfl hds_X4_power ⟨Nat.le_of_ble_eq_true rfl, Nat.le_of_ble_eq_true rfl⟩) (gSub_E _) rfl rfl (Nat.le_of_ble_eq_true rfl) dX4_colour_13 ⟨Nat.le_of_ble_eq_true rfl, Nat.le_of_ble_eq_true rfl⟩) (fun _ _ hx => False.elim hx) (fun r13 w1 hw => ?_)
  obtain ⟨rfl, rfl⟩ := hw
  refine ⟨rfl, ?_⟩
  obtain ⟨hd16, hp⟩ := g_div hp
  refine gV_idiv C dX4_colour_16 hd16 ?_
  refine gV_aload_n C dX4_colour_17 rfl 0 rfl ?_
  refine gV_get (Cn := RX4) (T := TX4) (N := 16) C inw_X4_colour_X4 0 rfl rfl 2 (by decide) (C.w 1 rfl) rfl rfl dX4_colour_18 ?_
  obtain ⟨hd21, hp⟩ := g_div hp
  refine gV_irem C dX4_colour_21 hd21 ?_
  obtain rfl := g_so1 hp
  exact RET _ _ _ _ _ _ dX4_colour_22 (Nat.le_of_ble_eq_true rfl) (Nat.le_of_ble_eq_true rfl) rfl ⟨rfl, rfl⟩
def pf_X4_colourAt_j48  (s0 : Int32) (th : Int32) : Option (Int32 × Int32) := (some (s0, th))
def pf_X4_colourAt_j28 (v1 : Int32) (v2 : Int32) (mP : Int32) (mC : Int32) (s0 : Int32) (th : Int32) : Option (Int32 × Int32) := (if s0 ≤ 0 then (ob1 (pf_X4_colour mP mC v1 v2) fun r45 => (pf_X4_colourAt_j48 r45 s0)) else (pf_X4_colourAt_j48 0 s0))
def pf_X4_colourAt_j27 (v1 : Int32) (v2 : Int32) (mP : Int32) (mC : Int32) (th : Int32) : Option (Int32 × Int32) := (pf_X4_colourAt_j28 v1 v2 mP mC 1 th)
def pf_X4_colourAt  (th : Int32) (mP : Int32) (mC : Int32) (mR : Int32) (v1 : Int32) (v2 : Int32) : Option (Int32 × Int32) := (ob1 (pf_X4_isRow mR v1) fun r3 => (if r3 = 0 then (pf_X4_colourAt_j27 v1 v2 mP mC th) else (ob1 (pf_X4_in v2 0 (mP - 1)) fun r17 => (if r17 = 0 then (pf_X4_colourAt_j27 v1 v2 mP mC th) else (pf_X4_colourAt_j28 v1 v2 mP mC 0 th)))))
abbrev rm_X4_colourAt : Room := { frames := 2, cells := 0, slots := 0, locals := 45 }
theorem inw_X4_colourAt_X4 : ∀ w ∈ wsX40, w ∈ wsX4_colourAt := by decide +kernel
theorem hdv_X4_colour : yX4_colour.cls = RX4 ∧ yX4_colour.cls ≠ "java/lang/invoke/MethodHandle" ∧ yX4_colour.cls ≠ "java/lang/invoke/VarHandle" ∧ (parseMethodDescriptor yX4_colour.desc).map (fun d => d.parameters.length) = some 2 := by decide +kernel
theorem hdv_X4_isRow : yX4_isRow.cls = RX4 ∧ yX4_isRow.cls ≠ "java/lang/invoke/MethodHandle" ∧ yX4_isRow.cls ≠ "java/lang/invoke/VarHandle" ∧ (parseMethodDescriptor yX4_isRow.desc).map (fun d => d.parameters.length) = some 1 := by decide +kernel
set_option maxHeartbeats 4000000 in
set_option maxRecDepth 100000 in
theorem mt_X4_colourAt {l : Launch} (hl : l.stackTraces = false) (D : va_G) (k : Nat → Nat) (cI cJ : ClassId) (th : Int32) (mP : Int32) (mC : Int32) (mR : Int32) (mal : Int32) (mhd : Int32) (mn : Int32) (mg : Nat → Int32) (mt : Nat → Int32) (mh : Nat → Int32) (mz : Nat → Int32) (mset : Nat → Int32) (mfr : Nat → Int32) (mma : Nat → Int32) (mde : Nat → Int32) (mls : Nat → Int32) (v1 : Int32) (v2 : Int32) (r0 : Int32) (th0 : Int32) (hp : pf_X4_colourAt th mP mC mR v1 v2 = (some (r0, th0))) : gMi l yX4_colourAt wsX4_colourAt rm_X4_colourAt D [(cI, .int), (cJ, .long)] (mW k cI th mP mC mR mal mhd mn mg mt mh mz mset mfr mma mde mls) [.ref (k 0), .int v1, .int v2] 0 0 (fun r w => r = r0 ∧ w = mW k cI th0 mP mC mR mal mhd mn mg mt mh mz mset mfr mma mde mls) (fun _ _ => False) := by
  refine gMi_of (cc := cX4_colourAt) (maxL := 3) (rt := .int) hl (by decide +kernel) rfl (Nat.le_of_ble_eq_true rfl) ?_
  intro p e s m args below meth c A Q C hnm ht RET OUT THR THRW
  have C : gC p l s m args meth c A D [(cI, .int), (cJ, .long)] 3 RX4 cX4_colourAt wsX4_colourAt := C
  refine gV_loc (lvs' := [(0, .ref (k 0)), (1, .int v1), (2, .int v2)]) [0, 1, 2] rfl ?_
  unfold pf_X4_colourAt at hp
  have J48 : ∀ (s0 : Int32) (th : Int32), pf_X4_colourAt_j48 s0 th = (some (r0, th0)) → gV p l e rm_X4_colourAt s m args below meth c A D 3 Q (mW k cI th mP mC mR mal mhd mn mg mt mh mz mset mfr mma mde mls) [(0, .ref (k 0))] 0 0 48 [.int s0] := by
    intro s0 th hp
    unfold pf_X4_colourAt_j48 at hp
    obtain ⟨rfl, rfl⟩ := g_so2 hp
    exact RET _ _ _ _ _ _ dX4_colourAt_48 (Nat.le_of_ble_eq_true rfl) (Nat.le_of_ble_eq_true rfl) rfl ⟨rfl, rfl⟩
  have J28 : ∀ (s0 : Int32) (th : Int32), pf_X4_colourAt_j28 v1 v2 mP mC s0 th = (some (r0, th0)) → gV p l e rm_X4_colourAt s m args below meth c A D 3 Q (mW k cI th mP mC mR mal mhd mn mg mt mh mz mset mfr mma mde mls) [(0, .ref (k 0)), (1, .int v1), (2, .int v2)] 0 0 28 [.int s0, .ref (k 0)] := by
    intro s0 th hp
    unfold pf_X4_colourAt_j28 at hp
    refine gV_put (Cn := RX4) (T := TX4) (N := 16) (ws' := mW k cI s0 mP mC mR mal mhd mn mg mt mh mz mset mfr mma mde mls) C inw_X4_colourAt_X4 tyX4_ok nmX4 0 rfl rfl 0 (by decide) (C.w 2 rfl) rfl rfl rfl rfl rfl (Nat.le_of_ble_eq_true rfl) dX4_colourAt_28 rfl ?_
    refine gV_aload_n C dX4_colourAt_31 rfl 0 rfl ?_
    refine gV_get (Cn := RX4) (T := TX4) (N := 16) C inw_X4_colourAt_X4 0 rfl rfl 0 (by decide) (C.w 2 rfl) rfl rfl dX4_colourAt_32 ?_
    refine gV_if_le (tgt := 42) C dX4_colourAt_35 (by decide) (fun c35 => ?_) (fun c35 => ?_)
    · replace hp := g_ift hp c35
      refine gV_aload_n C dX4_colourAt_42 rfl 0 rfl ?_
      refine gV_iload_n C dX4_colourAt_43 rfl 1 rfl ?_
      refine gV_iload_n C dX4_colourAt_44 rfl 2 rfl ?_
      obtain ⟨r45q, hq45, hp⟩ := g_ob1 hp
      refine gV_calliS C (gV_runV (As := [.int v1, .int v2]) (rest := []) C (mt_X4_colour hl D k cI cJ s0 mP mC mR mal mhd mn mg mt mh mz mset mfr mma mde mls v1 v2 r45q hq45) (cwV 2 C.2.2.2.2.1 gX4_colourAt_X4_colour rfl rfl rfl hdv_X4_colour ⟨Nat.le_of_ble_eq_true rfl, Nat.le_of_ble_eq_true rfl⟩) (gSub_S _) 0 rfl rfl rfl rfl (Nat.le_of_ble_eq_true rfl) dX4_colourAt_45 ⟨Nat.le_of_ble_eq_true rfl, Nat.le_of_ble_eq_true rfl⟩) (fun _ _ hx => False.elim hx) (fun r45 w1 hw => ?_)
      obtain ⟨rfl, rfl⟩ := hw
      refine gV_loc [0] rfl ?_
      exact J48 r45 s0 hp
    · replace hp := g_iff hp c35
      refine gV_iconst (v := 0) C dX4_colourAt_38 rfl ?_
      refine gV_goto (tgt := 48) C dX4_colourAt_39 (by decide) ?_
      refine gV_loc [0] rfl ?_
      exact J48 0 s0 hp
  have J27 : ∀ (th : Int32), pf_X4_colourAt_j27 v1 v2 mP mC th = (some (r0, th0)) → gV p l e rm_X4_colourAt s m args below meth c A D 3 Q (mW k cI th mP mC mR mal mhd mn mg mt mh mz mset mfr mma mde mls) [(0, .ref (k 0)), (1, .int v1), (2, .int v2)] 0 0 27 [.ref (k 0)] := by
    intro th hp
    unfold pf_X4_colourAt_j27 at hp
    refine gV_iconst (v := 1) C dX4_colourAt_27 rfl ?_
    exact J28 1 th hp
  refine gV_aload_n C dX4_colourAt_0 rfl 0 rfl ?_
  refine gV_aload_n C dX4_colourAt_1 rfl 0 rfl ?_
  refine gV_iload_n C dX4_colourAt_2 rfl 1 rfl ?_
  obtain ⟨r3q, hq3, hp⟩ := g_ob1 hp
  refine gV_calliS C (gV_runV (As := [.int v1]) (rest := [.ref (k 0)]) C (mt_X4_isRow hl D k cI cJ th mP mC mR mal mhd mn mg mt mh mz mset mfr mma mde mls v1 r3q hq3) (cwV 1 C.2.2.2.2.1 gX4_colourAt_X4_isRow rfl rfl rfl hdv_X4_isRow ⟨Nat.le_of_ble_eq_true rfl, Nat.le_of_ble_eq_true rfl⟩) (gSub_S _) 0 rfl rfl rfl rfl (Nat.le_of_ble_eq_true rfl) dX4_colourAt_3 ⟨Nat.le_of_ble_eq_true rfl, Nat.le_of_ble_eq_true rfl⟩) (fun _ _ hx => False.elim hx) (fun r3 w1 hw => ?_)
  obtain ⟨rfl, rfl⟩ := hw
  refine gV_if_eq (tgt := 27) C dX4_colourAt_6 (by decide) (fun c6 => ?_) (fun c6 => ?_)
  · replace hp := g_ift hp c6
    exact J27 th hp
  · replace hp := g_iff hp c6
    refine gV_iload_n C dX4_colourAt_9 rfl 2 rfl ?_
    refine gV_iconst (v := 0) C dX4_colourAt_10 rfl ?_
    refine gV_aload_n C dX4_colourAt_11 rfl 0 rfl ?_
    refine gV_get (Cn := RX4) (T := TX4) (N := 16) C inw_X4_colourAt_X4 0 rfl rfl 1 (by decide) (C.w 1 rfl) rfl rfl dX4_colourAt_12 ?_
    refine gV_iconst (v := 1) C dX4_colourAt_15 rfl ?_
    refine gV_isub C dX4_colourAt_16 ?_
    obtain ⟨r17q, hq17, hp⟩ := g_ob1 hp
    refine gV_calliE C (gV_runS (As := [.int v2, .int 0, .int (mP - 1)]) (rest := [.ref (k 0)]) C (mt_X4_in hl D cI cJ v2 0 (mP - 1) r17q hq17) (va_cwS 3 C.2.2.2.2.1 gX4_colourAt_X4_in rfl rfl rfl hds_X4_in ⟨Nat.le_of_ble_eq_true rfl, Nat.le_of_ble_eq_true rfl⟩) (gSub_E _) rfl rfl (Nat.le_of_ble_eq_true rfl) dX4_colourAt_17 ⟨Nat.le_of_ble_eq_true rfl, Nat.le_of_ble_eq_true rfl⟩) (fun _ _ hx => False.elim hx) (fun r17 w1 hw => ?_)
    obtain ⟨rfl, rfl⟩ := hw
    refine ⟨rfl, ?_⟩
    refine gV_if_eq (tgt := 27) C dX4_colourAt_20 (by decide) (fun c20 => ?_) (fun c20 => ?_)
    · replace hp := g_ift hp c20
      exact J27 th hp
    · replace hp := g_iff hp c20
      refine gV_iconst (v := 0) C dX4_colourAt_23 rfl ?_
      refine gV_goto (tgt := 28) C dX4_colourAt_24 (by decide) ?_
      exact J28 0 th hp
def pf_X4_markOfRows_j160 (mC : Int32) (kL117 : Int32 → Int32 → Int32 → (Nat → Int32) → Option (Int32 × (Nat → Int32))) (v4 : Int32) (v6 : Int32) (v7 : Int32) (mh : Nat → Int32) : Option (Int32 × (Nat → Int32)) := (gd mC (kL117 v4 (v6 / mC) (v7 + 1) mh))
def pf_X4_markOfRows_L117 (mP : Int32) (mC : Int32) (v3 : Int32) : Nat → Int32 → Int32 → Int32 → (Nat → Int32) → Option (Int32 × (Nat → Int32))
  | 0, _, _, _, _ => none
  | n117 + 1, v4, v6, v7, mh => (if mP ≤ v7 then (some ((((10 * v3) + v4) - v3), mh)) else (gd mC (gi (v6 - v6 / mC * mC) 6 (if (mh (v6 - v6 / mC * mC).toNatClampNeg) ≤ 0 then (pf_X4_markOfRows_j160 mC (fun v4 v6 v7 mh => pf_X4_markOfRows_L117 mP mC v3 n117 v4 v6 v7 mh) v4 v6 v7 mh) else (gd mC (gi (v6 - v6 / mC * mC) 6 (gi (v6 - v6 / mC * mC) 6 (pf_X4_markOfRows_j160 mC (fun v4 v6 v7 mh => pf_X4_markOfRows_L117 mP mC v3 n117 v4 v6 v7 mh) (v4 + 1) v6 v7 (upd mh (v6 - v6 / mC * mC).toNatClampNeg ((mh (v6 - v6 / mC * mC).toNatClampNeg) - 1))))))))))
def pf_X4_markOfRows_j69 (mC : Int32) (kL37 : Int32 → Int32 → Int32 → Int32 → (Nat → Int32) → Option (Int32 × (Nat → Int32))) (v5 : Int32) (v6 : Int32) (v7 : Int32) (s0 : Int32) (s1 : Int32) (mh : Nat → Int32) : Option (Int32 × (Nat → Int32)) := (gd mC (gi (v5 - v5 / mC * mC) 6 (gi (v5 - v5 / mC * mC) 6 (gd mC (gd mC (kL37 (s1 + s0) (v5 / mC) (v6 / mC) (v7 + 1) (upd mh (v5 - v5 / mC * mC).toNatClampNeg ((mh (v5 - v5 / mC * mC).toNatClampNeg) + 1))))))))
def pf_X4_markOfRows_L37 (v2 : Int32) (mP : Int32) (mC : Int32) (v4 : Int32) : Nat → Int32 → Int32 → Int32 → Int32 → (Nat → Int32) → Option (Int32 × (Nat → Int32))
  | 0, _, _, _, _, _ => none
  | n37 + 1, v3, v5, v6, v7, mh => (if mP ≤ v7 then (pf_X4_markOfRows_L117 mP mC v3 100000 v4 v2 0 mh) else (gd mC (gd mC (if (v5 - v5 / mC * mC) = (v6 - v6 / mC * mC) then (pf_X4_markOfRows_j69 mC (fun v3 v5 v6 v7 mh => pf_X4_markOfRows_L37 v2 mP mC v4 n37 v3 v5 v6 v7 mh) v5 v6 v7 1 v3 mh) else (pf_X4_markOfRows_j69 mC (fun v3 v5 v6 v7 mh => pf_X4_markOfRows_L37 v2 mP mC v4 n37 v3 v5 v6 v7 mh) v5 v6 v7 0 v3 mh)))))
def pf_X4_markOfRows_L2 (v1 : Int32) (v2 : Int32) (mP : Int32) (mC : Int32) : Nat → Int32 → (Nat → Int32) → Option (Int32 × (Nat → Int32))
  | 0, _, _ => none
  | n2 + 1, v3, mh => (if mC ≤ v3 then (pf_X4_markOfRows_L37 v2 mP mC 0 100000 0 v1 v2 0 mh) else (gi v3 6 (pf_X4_markOfRows_L2 v1 v2 mP mC n2 (v3 + 1) (upd mh v3.toNatClampNeg 0))))
def pf_X4_markOfRows  (mP : Int32) (mC : Int32) (mh : Nat → Int32) (v1 : Int32) (v2 : Int32) : Option (Int32 × (Nat → Int32)) := (pf_X4_markOfRows_L2 v1 v2 mP mC 100000 0 mh)
abbrev rm_X4_markOfRows : Room := { frames := 0, cells := 0, slots := 0, locals := 0 }
theorem inw_X4_markOfRows_X4 : ∀ w ∈ wsX40, w ∈ wsX4_markOfRows := by decide +kernel
set_option maxHeartbeats 4000000 in
set_option maxRecDepth 100000 in
theorem mt_X4_markOfRows {l : Launch} (hl : l.stackTraces = false) (D : va_G) (k : Nat → Nat) (cI cJ : ClassId) (th : Int32) (mP : Int32) (mC : Int32) (mR : Int32) (mal : Int32) (mhd : Int32) (mn : Int32) (mg : Nat → Int32) (mt : Nat → Int32) (mh : Nat → Int32) (mz : Nat → Int32) (mset : Nat → Int32) (mfr : Nat → Int32) (mma : Nat → Int32) (mde : Nat → Int32) (mls : Nat → Int32) (v1 : Int32) (v2 : Int32) (r0 : Int32) (mh0 : Nat → Int32) (hp : pf_X4_markOfRows mP mC mh v1 v2 = (some (r0, mh0))) : gMi l yX4_markOfRows wsX4_markOfRows rm_X4_markOfRows D [(cI, .int), (cJ, .long)] (mW k cI th mP mC mR mal mhd mn mg mt mh mz mset mfr mma mde mls) [.ref (k 0), .int v1, .int v2] 0 0 (fun r w => r = r0 ∧ w = mW k cI th mP mC mR mal mhd mn mg mt mh0 mz mset mfr mma mde mls) (fun _ _ => False) := by
  refine gMi_of (cc := cX4_markOfRows) (maxL := 8) (rt := .int) hl (by decide +kernel) rfl (Nat.le_of_ble_eq_true rfl) ?_
  intro p e s m args below meth c A Q C hnm ht RET OUT THR THRW
  have C : gC p l s m args meth c A D [(cI, .int), (cJ, .long)] 8 RX4 cX4_markOfRows wsX4_markOfRows := C
  refine gV_loc (lvs' := [(0, .ref (k 0)), (1, .int v1), (2, .int v2)]) [0, 1, 2] rfl ?_
  unfold pf_X4_markOfRows at hp
  have L117 : ∀ (v3 : Int32) (n117 : Nat) (v4 : Int32) (v6 : Int32) (v7 : Int32) (mh : Nat → Int32), pf_X4_markOfRows_L117 mP mC v3 n117 v4 v6 v7 mh = (some (r0, mh0)) → gV p l e rm_X4_markOfRows s m args below meth c A D 8 Q (mW k cI th mP mC mR mal mhd mn mg mt mh mz mset mfr mma mde mls) [(0, .ref (k 0)), (3, .int v3), (4, .int v4), (6, .int v6), (7, .int v7)] 0 0 117 [] := by
    intro v3 n117
    induction n117 with
    | zero => intro v4 v6 v7 mh hp; exact g_none hp
    | succ n117 ih117 =>
      intro v4 v6 v7 mh hp
      rw [pf_X4_markOfRows_L117.eq_2] at hp
      have J160 : ∀ (v4 : Int32) (v6 : Int32) (v7 : Int32) (mh : Nat → Int32), pf_X4_markOfRows_j160 mC (fun v4 v6 v7 mh => pf_X4_markOfRows_L117 mP mC v3 n117 v4 v6 v7 mh) v4 v6 v7 mh = (some (r0, mh0)) → gV p l e rm_X4_markOfRows s m args below meth c A D 8 Q (mW k cI th mP mC mR mal mhd mn mg mt mh mz mset mfr mma mde mls) [(0, .ref (k 0)), (3, .int v3), (4, .int v4), (6, .int v6), (7, .int v7)] 0 0 160 [] := by
        intro v4 v6 v7 mh hp
        unfold pf_X4_markOfRows_j160 at hp
        refine gV_iload C dX4_markOfRows_160 3 rfl ?_
        refine gV_aload_n C dX4_markOfRows_162 rfl 0 rfl ?_
        refine gV_get (Cn := RX4) (T := TX4) (N := 16) C inw_X4_markOfRows_X4 0 rfl rfl 2 (by decide) (C.w 1 rfl) rfl rfl dX4_markOfRows_163 ?_
        obtain ⟨hd166, hp⟩ := g_div hp
        refine gV_idiv C dX4_markOfRows_166 hd166 ?_
        refine gV_istore (lvs' := [(6, .int (v6 / mC)), (0, .ref (k 0)), (3, .int v3), (4, .int v4), (7, .int v7)]) C dX4_markOfRows_167 (by decide) rfl ?_
        refine gV_iinc (v := (v7 + 1)) (lvs' := [(7, .int (v7 + 1)), (6, .int (v6 / mC)), (0, .ref (k 0)), (3, .int v3), (4, .int v4)]) C dX4_markOfRows_169 4 rfl rfl (by decide) rfl ?_
        refine gV_goto (tgt := 117) C dX4_markOfRows_172 (by decide) ?_
        refine gV_loc [2, 3, 4, 1, 0] rfl ?_
        exact ih117 v4 (v6 / mC) (v7 + 1) mh hp
      refine gV_iload C dX4_markOfRows_117 4 rfl ?_
      refine gV_aload_n C dX4_markOfRows_119 rfl 0 rfl ?_
      refine gV_get (Cn := RX4) (T := TX4) (N := 16) C inw_X4_markOfRows_X4 0 rfl rfl 1 (by decide) (C.w 3 rfl) rfl rfl dX4_markOfRows_120 ?_
      refine gV_icmp_ge (tgt := 175) C dX4_markOfRows_123 (by decide) (fun c123 => ?_) (fun c123 => ?_)
      · replace hp := g_ift hp c123
        refine gV_bipush (v := 10) C dX4_markOfRows_175 rfl ?_
        refine gV_iload_n C dX4_markOfRows_177 rfl 1 rfl ?_
        refine gV_imul C dX4_markOfRows_178 ?_
        refine gV_iload C dX4_markOfRows_179 2 rfl ?_
        refine gV_iadd C dX4_markOfRows_181 ?_
        refine gV_iload_n C dX4_markOfRows_182 rfl 1 rfl ?_
        refine gV_isub C dX4_markOfRows_183 ?_
        obtain ⟨rfl, rfl⟩ := g_so2 hp
        exact RET _ _ _ _ _ _ dX4_markOfRows_184 (Nat.le_of_ble_eq_true rfl) (Nat.le_of_ble_eq_true rfl) rfl ⟨rfl, rfl⟩
      · replace hp := g_iff hp c123
        refine gV_aload_n C dX4_markOfRows_126 rfl 0 rfl ?_
        refine gV_get (Cn := RX4) (T := TX4) (N := 16) C inw_X4_markOfRows_X4 0 rfl rfl 9 (by decide) (C.w 2 rfl) rfl rfl dX4_markOfRows_127 ?_
        refine gV_iload C dX4_markOfRows_130 3 rfl ?_
        refine gV_aload_n C dX4_markOfRows_132 rfl 0 rfl ?_
        refine gV_get (Cn := RX4) (T := TX4) (N := 16) C inw_X4_markOfRows_X4 0 rfl rfl 2 (by decide) (C.w 1 rfl) rfl rfl dX4_markOfRows_133 ?_
        obtain ⟨hd136, hp⟩ := g_div hp
        refine gV_irem C dX4_markOfRows_136 hd136 ?_
        obtain ⟨hi137, hp⟩ := g_idx hp
        refine gV_iald C 3 rfl 0 rfl hi137 dX4_markOfRows_137 ?_
        refine gV_if_le (tgt := 160) C dX4_markOfRows_138 (by decide) (fun c138 => ?_) (fun c138 => ?_)
        · replace hp := g_ift hp c138
          exact J160 v4 v6 v7 mh hp
        · replace hp := g_iff hp c138
          refine gV_aload_n C dX4_markOfRows_141 rfl 0 rfl ?_
          refine gV_get (Cn := RX4) (T := TX4) (N := 16) C inw_X4_markOfRows_X4 0 rfl rfl 9 (by decide) (C.w 2 rfl) rfl rfl dX4_markOfRows_142 ?_
          refine gV_iload C dX4_markOfRows_145 3 rfl ?_
          refine gV_aload_n C dX4_markOfRows_147 rfl 0 rfl ?_
          refine gV_get (Cn := RX4) (T := TX4) (N := 16) C inw_X4_markOfRows_X4 0 rfl rfl 2 (by decide) (C.w 1 rfl) rfl rfl dX4_markOfRows_148 ?_
          obtain ⟨hd151, hp⟩ := g_div hp
          refine gV_irem C dX4_markOfRows_151 hd151 ?_
          refine gV_dup2 C dX4_markOfRows_152 rfl rfl ?_
          obtain ⟨hi153, hp⟩ := g_idx hp
          refine gV_iald C 3 rfl 0 rfl hi153 dX4_markOfRows_153 ?_
          refine gV_iconst (v := 1) C dX4_markOfRows_154 rfl ?_
          refine gV_isub C dX4_markOfRows_155 ?_
          obtain ⟨hi156, hp⟩ := g_idx hp
          refine gV_iast (ws' := mW k cI th mP mC mR mal mhd mn mg mt (upd mh (v6 - v6 / mC * mC).toNatClampNeg ((mh (v6 - v6 / mC * mC).toNatClampNeg) - 1)) mz mset mfr mma mde mls) C 3 rfl 0 rfl hi156 dX4_markOfRows_156 rfl ?_
          refine gV_iinc (v := (v4 + 1)) (lvs' := [(4, .int (v4 + 1)), (0, .ref (k 0)), (3, .int v3), (6, .int v6), (7, .int v7)]) C dX4_markOfRows_157 2 rfl rfl (by decide) rfl ?_
          refine gV_loc [1, 2, 0, 3, 4] rfl ?_
          exact J160 (v4 + 1) v6 v7 (upd mh (v6 - v6 / mC * mC).toNatClampNeg ((mh (v6 - v6 / mC * mC).toNatClampNeg) - 1)) hp
  have L37 : ∀ (v4 : Int32) (n37 : Nat) (v3 : Int32) (v5 : Int32) (v6 : Int32) (v7 : Int32) (mh : Nat → Int32), pf_X4_markOfRows_L37 v2 mP mC v4 n37 v3 v5 v6 v7 mh = (some (r0, mh0)) → gV p l e rm_X4_markOfRows s m args below meth c A D 8 Q (mW k cI th mP mC mR mal mhd mn mg mt mh mz mset mfr mma mde mls) [(0, .ref (k 0)), (2, .int v2), (3, .int v3), (4, .int v4), (5, .int v5), (6, .int v6), (7, .int v7)] 0 0 37 [] := by
    intro v4 n37
    induction n37 with
    | zero => intro v3 v5 v6 v7 mh hp; exact g_none hp
    | succ n37 ih37 =>
      intro v3 v5 v6 v7 mh hp
      rw [pf_X4_markOfRows_L37.eq_2] at hp
      have J69 : ∀ (v5 : Int32) (v6 : Int32) (v7 : Int32) (s0 : Int32) (s1 : Int32) (mh : Nat → Int32), pf_X4_markOfRows_j69 mC (fun v3 v5 v6 v7 mh => pf_X4_markOfRows_L37 v2 mP mC v4 n37 v3 v5 v6 v7 mh) v5 v6 v7 s0 s1 mh = (some (r0, mh0)) → gV p l e rm_X4_markOfRows s m args below meth c A D 8 Q (mW k cI th mP mC mR mal mhd mn mg mt mh mz mset mfr mma mde mls) [(0, .ref (k 0)), (2, .int v2), (4, .int v4), (5, .int v5), (6, .int v6), (7, .int v7)] 0 0 69 [.int s0, .int s1] := by
        intro v5 v6 v7 s0 s1 mh hp
        unfold pf_X4_markOfRows_j69 at hp
        refine gV_iadd C dX4_markOfRows_69 ?_
        refine gV_istore_n (lvs' := [(3, .int (s1 + s0)), (0, .ref (k 0)), (2, .int v2), (4, .int v4), (5, .int v5), (6, .int v6), (7, .int v7)]) C dX4_markOfRows_70 rfl (by decide) rfl ?_
        refine gV_aload_n C dX4_markOfRows_71 rfl 1 rfl ?_
        refine gV_get (Cn := RX4) (T := TX4) (N := 16) C inw_X4_markOfRows_X4 0 rfl rfl 9 (by decide) (C.w 2 rfl) rfl rfl dX4_markOfRows_72 ?_
        refine gV_iload C dX4_markOfRows_75 4 rfl ?_
        refine gV_aload_n C dX4_markOfRows_77 rfl 1 rfl ?_
        refine gV_get (Cn := RX4) (T := TX4) (N := 16) C inw_X4_markOfRows_X4 0 rfl rfl 2 (by decide) (C.w 1 rfl) rfl rfl dX4_markOfRows_78 ?_
        obtain ⟨hd81, hp⟩ := g_div hp
        refine gV_irem C dX4_markOfRows_81 hd81 ?_
        refine gV_dup2 C dX4_markOfRows_82 rfl rfl ?_
        obtain ⟨hi83, hp⟩ := g_idx hp
        refine gV_iald C 3 rfl 0 rfl hi83 dX4_markOfRows_83 ?_
        refine gV_iconst (v := 1) C dX4_markOfRows_84 rfl ?_
        refine gV_iadd C dX4_markOfRows_85 ?_
        obtain ⟨hi86, hp⟩ := g_idx hp
        refine gV_iast (ws' := mW k cI th mP mC mR mal mhd mn mg mt (upd mh (v5 - v5 / mC * mC).toNatClampNeg ((mh (v5 - v5 / mC * mC).toNatClampNeg) + 1)) mz mset mfr mma mde mls) C 3 rfl 0 rfl hi86 dX4_markOfRows_86 rfl ?_
        refine gV_iload C dX4_markOfRows_87 4 rfl ?_
        refine gV_aload_n C dX4_markOfRows_89 rfl 1 rfl ?_
        refine gV_get (Cn := RX4) (T := TX4) (N := 16) C inw_X4_markOfRows_X4 0 rfl rfl 2 (by decide) (C.w 1 rfl) rfl rfl dX4_markOfRows_90 ?_
        obtain ⟨hd93, hp⟩ := g_div hp
        refine gV_idiv C dX4_markOfRows_93 hd93 ?_
        refine gV_istore (lvs' := [(5, .int (v5 / mC)), (3, .int (s1 + s0)), (0, .ref (k 0)), (2, .int v2), (4, .int v4), (6, .int v6), (7, .int v7)]) C dX4_markOfRows_94 (by decide) rfl ?_
        refine gV_iload C dX4_markOfRows_96 5 rfl ?_
        refine gV_aload_n C dX4_markOfRows_98 rfl 2 rfl ?_
        refine gV_get (Cn := RX4) (T := TX4) (N := 16) C inw_X4_markOfRows_X4 0 rfl rfl 2 (by decide) (C.w 1 rfl) rfl rfl dX4_markOfRows_99 ?_
        obtain ⟨hd102, hp⟩ := g_div hp
        refine gV_idiv C dX4_markOfRows_102 hd102 ?_
        refine gV_istore (lvs' := [(6, .int (v6 / mC)), (5, .int (v5 / mC)), (3, .int (s1 + s0)), (0, .ref (k 0)), (2, .int v2), (4, .int v4), (7, .int v7)]) C dX4_markOfRows_103 (by decide) rfl ?_
        refine gV_iinc (v := (v7 + 1)) (lvs' := [(7, .int (v7 + 1)), (6, .int (v6 / mC)), (5, .int (v5 / mC)), (3, .int (s1 + s0)), (0, .ref (k 0)), (2, .int v2), (4, .int v4)]) C dX4_markOfRows_105 6 rfl rfl (by decide) rfl ?_
        refine gV_goto (tgt := 37) C dX4_markOfRows_108 (by decide) ?_
        refine gV_loc [4, 5, 3, 6, 2, 1, 0] rfl ?_
        exact ih37 (s1 + s0) (v5 / mC) (v6 / mC) (v7 + 1) (upd mh (v5 - v5 / mC * mC).toNatClampNeg ((mh (v5 - v5 / mC * mC).toNatClampNeg) + 1)) hp
      refine gV_iload C dX4_markOfRows_37 6 rfl ?_
      refine gV_aload_n C dX4_markOfRows_39 rfl 0 rfl ?_
      refine gV_get (Cn := RX4) (T := TX4) (N := 16) C inw_X4_markOfRows_X4 0 rfl rfl 1 (by decide) (C.w 3 rfl) rfl rfl dX4_markOfRows_40 ?_
      refine gV_icmp_ge (tgt := 111) C dX4_markOfRows_43 (by decide) (fun c43 => ?_) (fun c43 => ?_)
      · replace hp := g_ift hp c43
        refine gV_iload_n C dX4_markOfRows_111 rfl 1 rfl ?_
        refine gV_istore (lvs' := [(6, .int v2), (0, .ref (k 0)), (2, .int v2), (3, .int v3), (4, .int v4), (5, .int v5), (7, .int v7)]) C dX4_markOfRows_112 (by decide) rfl ?_
        refine gV_iconst (v := 0) C dX4_markOfRows_114 rfl ?_
        refine gV_istore (lvs' := [(7, .int 0), (6, .int v2), (0, .ref (k 0)), (2, .int v2), (3, .int v3), (4, .int v4), (5, .int v5)]) C dX4_markOfRows_115 (by decide) rfl ?_
        refine gV_loc [2, 4, 5, 1, 0] rfl ?_
        exact L117 v3 100000 v4 v2 0 mh hp
      · replace hp := g_iff hp c43
        refine gV_iload_n C dX4_markOfRows_46 rfl 2 rfl ?_
        refine gV_iload C dX4_markOfRows_47 4 rfl ?_
        refine gV_aload_n C dX4_markOfRows_49 rfl 0 rfl ?_
        refine gV_get (Cn := RX4) (T := TX4) (N := 16) C inw_X4_markOfRows_X4 0 rfl rfl 2 (by decide) (C.w 1 rfl) rfl rfl dX4_markOfRows_50 ?_
        obtain ⟨hd53, hp⟩ := g_div hp
        refine gV_irem C dX4_markOfRows_53 hd53 ?_
        refine gV_iload C dX4_markOfRows_54 5 rfl ?_
        refine gV_aload_n C dX4_markOfRows_56 rfl 0 rfl ?_
        refine gV_get (Cn := RX4) (T := TX4) (N := 16) C inw_X4_markOfRows_X4 0 rfl rfl 2 (by decide) (C.w 1 rfl) rfl rfl dX4_markOfRows_57 ?_
        obtain ⟨hd60, hp⟩ := g_div hp
        refine gV_irem C dX4_markOfRows_60 hd60 ?_
        refine gV_icmp_ne (tgt := 68) C dX4_markOfRows_61 (by decide) (fun c61 => ?_) (fun c61 => ?_)
        · replace hp := g_iff hp c61
          refine gV_iconst (v := 0) C dX4_markOfRows_68 rfl ?_
          refine gV_loc [0, 1, 3, 4, 5, 6] rfl ?_
          exact J69 v5 v6 v7 0 v3 mh hp
        · replace hp := g_ift hp c61
          refine gV_iconst (v := 1) C dX4_markOfRows_64 rfl ?_
          refine gV_goto (tgt := 69) C dX4_markOfRows_65 (by decide) ?_
          refine gV_loc [0, 1, 3, 4, 5, 6] rfl ?_
          exact J69 v5 v6 v7 1 v3 mh hp
  have L2 : ∀ (n2 : Nat) (v3 : Int32) (mh : Nat → Int32), pf_X4_markOfRows_L2 v1 v2 mP mC n2 v3 mh = (some (r0, mh0)) → gV p l e rm_X4_markOfRows s m args below meth c A D 8 Q (mW k cI th mP mC mR mal mhd mn mg mt mh mz mset mfr mma mde mls) [(0, .ref (k 0)), (1, .int v1), (2, .int v2), (3, .int v3)] 0 0 2 [] := by
    intro n2
    induction n2 with
    | zero => intro v3 mh hp; exact g_none hp
    | succ n2 ih2 =>
      intro v3 mh hp
      rw [pf_X4_markOfRows_L2.eq_2] at hp
      refine gV_iload_n C dX4_markOfRows_2 rfl 3 rfl ?_
      refine gV_aload_n C dX4_markOfRows_3 rfl 0 rfl ?_
      refine gV_get (Cn := RX4) (T := TX4) (N := 16) C inw_X4_markOfRows_X4 0 rfl rfl 2 (by decide) (C.w 1 rfl) rfl rfl dX4_markOfRows_4 ?_
      refine gV_icmp_ge (tgt := 23) C dX4_markOfRows_7 (by decide) (fun c7 => ?_) (fun c7 => ?_)
      · replace hp := g_ift hp c7
        refine gV_iconst (v := 0) C dX4_markOfRows_23 rfl ?_
        refine gV_istore_n (lvs' := [(3, .int 0), (0, .ref (k 0)), (1, .int v1), (2, .int v2)]) C dX4_markOfRows_24 rfl (by decide) rfl ?_
        refine gV_iconst (v := 0) C dX4_markOfRows_25 rfl ?_
        refine gV_istore (lvs' := [(4, .int 0), (3, .int 0), (0, .ref (k 0)), (1, .int v1), (2, .int v2)]) C dX4_markOfRows_26 (by decide) rfl ?_
        refine gV_iload_n C dX4_markOfRows_28 rfl 3 rfl ?_
        refine gV_istore (lvs' := [(5, .int v1), (4, .int 0), (3, .int 0), (0, .ref (k 0)), (1, .int v1), (2, .int v2)]) C dX4_markOfRows_29 (by decide) rfl ?_
        refine gV_iload_n C dX4_markOfRows_31 rfl 5 rfl ?_
        refine gV_istore (lvs' := [(6, .int v2), (5, .int v1), (4, .int 0), (3, .int 0), (0, .ref (k 0)), (1, .int v1), (2, .int v2)]) C dX4_markOfRows_32 (by decide) rfl ?_
        refine gV_iconst (v := 0) C dX4_markOfRows_34 rfl ?_
        refine gV_istore (lvs' := [(7, .int 0), (6, .int v2), (5, .int v1), (4, .int 0), (3, .int 0), (0, .ref (k 0)), (1, .int v1), (2, .int v2)]) C dX4_markOfRows_35 (by decide) rfl ?_
        refine gV_loc [5, 7, 4, 3, 2, 1, 0] rfl ?_
        exact L37 0 100000 0 v1 v2 0 mh hp
      · replace hp := g_iff hp c7
        refine gV_aload_n C dX4_markOfRows_10 rfl 0 rfl ?_
        refine gV_get (Cn := RX4) (T := TX4) (N := 16) C inw_X4_markOfRows_X4 0 rfl rfl 9 (by decide) (C.w 2 rfl) rfl rfl dX4_markOfRows_11 ?_
        refine gV_iload_n C dX4_markOfRows_14 rfl 3 rfl ?_
        refine gV_iconst (v := 0) C dX4_markOfRows_15 rfl ?_
        obtain ⟨hi16, hp⟩ := g_idx hp
        refine gV_iast (ws' := mW k cI th mP mC mR mal mhd mn mg mt (upd mh v3.toNatClampNeg 0) mz mset mfr mma mde mls) C 3 rfl 0 rfl hi16 dX4_markOfRows_16 rfl ?_
        refine gV_iinc (v := (v3 + 1)) (lvs' := [(3, .int (v3 + 1)), (0, .ref (k 0)), (1, .int v1), (2, .int v2)]) C dX4_markOfRows_17 3 rfl rfl (by decide) rfl ?_
        refine gV_goto (tgt := 2) C dX4_markOfRows_20 (by decide) ?_
        refine gV_loc [1, 2, 3, 0] rfl ?_
        exact ih2 (v3 + 1) (upd mh v3.toNatClampNeg 0) hp
  refine gV_iconst (v := 0) C dX4_markOfRows_0 rfl ?_
  refine gV_istore_n (lvs' := [(3, .int 0), (0, .ref (k 0)), (1, .int v1), (2, .int v2)]) C dX4_markOfRows_1 rfl (by decide) rfl ?_
  refine gV_loc [1, 2, 3, 0] rfl ?_
  exact L2 100000 0 mh hp
def pf_X4_mark_j42  (s0 : Int32) (th : Int32) (mh : Nat → Int32) : Option (Int32 × Int32 × (Nat → Int32)) := (some (s0, th, mh))
def pf_X4_mark_j22 (v1 : Int32) (v2 : Int32) (mP : Int32) (mC : Int32) (s0 : Int32) (th : Int32) (mh : Nat → Int32) : Option (Int32 × Int32 × (Nat → Int32)) := (if s0 ≤ 0 then (ob2 (pf_X4_markOfRows mP mC mh v1 v2) fun r39 mh_39 => (pf_X4_mark_j42 r39 s0 mh_39)) else (pf_X4_mark_j42 0 s0 mh))
def pf_X4_mark_j21 (v1 : Int32) (v2 : Int32) (mP : Int32) (mC : Int32) (th : Int32) (mh : Nat → Int32) : Option (Int32 × Int32 × (Nat → Int32)) := (pf_X4_mark_j22 v1 v2 mP mC 1 th mh)
def pf_X4_mark  (th : Int32) (mP : Int32) (mC : Int32) (mR : Int32) (mh : Nat → Int32) (v1 : Int32) (v2 : Int32) : Option (Int32 × Int32 × (Nat → Int32)) := (ob1 (pf_X4_isRow mR v1) fun r3 => (if r3 = 0 then (pf_X4_mark_j21 v1 v2 mP mC th mh) else (ob1 (pf_X4_isRow mR v2) fun r11 => (if r11 = 0 then (pf_X4_mark_j21 v1 v2 mP mC th mh) else (pf_X4_mark_j22 v1 v2 mP mC 0 th mh)))))
abbrev rm_X4_mark : Room := { frames := 2, cells := 0, slots := 0, locals := 43 }
theorem inw_X4_mark_X4 : ∀ w ∈ wsX40, w ∈ wsX4_mark := by decide +kernel
theorem hdv_X4_markOfRows : yX4_markOfRows.cls = RX4 ∧ yX4_markOfRows.cls ≠ "java/lang/invoke/MethodHandle" ∧ yX4_markOfRows.cls ≠ "java/lang/invoke/VarHandle" ∧ (parseMethodDescriptor yX4_markOfRows.desc).map (fun d => d.parameters.length) = some 2 := by decide +kernel
set_option maxHeartbeats 4000000 in
set_option maxRecDepth 100000 in
theorem mt_X4_mark {l : Launch} (hl : l.stackTraces = false) (D : va_G) (k : Nat → Nat) (cI cJ : ClassId) (th : Int32) (mP : Int32) (mC : Int32) (mR : Int32) (mal : Int32) (mhd : Int32) (mn : Int32) (mg : Nat → Int32) (mt : Nat → Int32) (mh : Nat → Int32) (mz : Nat → Int32) (mset : Nat → Int32) (mfr : Nat → Int32) (mma : Nat → Int32) (mde : Nat → Int32) (mls : Nat → Int32) (v1 : Int32) (v2 : Int32) (r0 : Int32) (th0 : Int32) (mh0 : Nat → Int32) (hp : pf_X4_mark th mP mC mR mh v1 v2 = (some (r0, th0, mh0))) : gMi l yX4_mark wsX4_mark rm_X4_mark D [(cI, .int), (cJ, .long)] (mW k cI th mP mC mR mal mhd mn mg mt mh mz mset mfr mma mde mls) [.ref (k 0), .int v1, .int v2] 0 0 (fun r w => r = r0 ∧ w = mW k cI th0 mP mC mR mal mhd mn mg mt mh0 mz mset mfr mma mde mls) (fun _ _ => False) := by
  refine gMi_of (cc := cX4_mark) (maxL := 3) (rt := .int) hl (by decide +kernel) rfl (Nat.le_of_ble_eq_true rfl) ?_
  intro p e s m args below meth c A Q C hnm ht RET OUT THR THRW
  have C : gC p l s m args meth c A D [(cI, .int), (cJ, .long)] 3 RX4 cX4_mark wsX4_mark := C
  refine gV_loc (lvs' := [(0, .ref (k 0)), (1, .int v1), (2, .int v2)]) [0, 1, 2] rfl ?_
  unfold pf_X4_mark at hp
  have J42 : ∀ (s0 : Int32) (th : Int32) (mh : Nat → Int32), pf_X4_mark_j42 s0 th mh = (some (r0, th0, mh0)) → gV p l e rm_X4_mark s m args below meth c A D 3 Q (mW k cI th mP mC mR mal mhd mn mg mt mh mz mset mfr mma mde mls) [(0, .ref (k 0))] 0 0 42 [.int s0] := by
    intro s0 th mh hp
    unfold pf_X4_mark_j42 at hp
    obtain ⟨rfl, rfl, rfl⟩ := g_so3 hp
    exact RET _ _ _ _ _ _ dX4_mark_42 (Nat.le_of_ble_eq_true rfl) (Nat.le_of_ble_eq_true rfl) rfl ⟨rfl, rfl⟩
  have J22 : ∀ (s0 : Int32) (th : Int32) (mh : Nat → Int32), pf_X4_mark_j22 v1 v2 mP mC s0 th mh = (some (r0, th0, mh0)) → gV p l e rm_X4_mark s m args below meth c A D 3 Q (mW k cI th mP mC mR mal mhd mn mg mt mh mz mset mfr mma mde mls) [(0, .ref (k 0)), (1, .int v1), (2, .int v2)] 0 0 22 [.int s0, .ref (k 0)] := by
    intro s0 th mh hp
    unfold pf_X4_mark_j22 at hp
    refine gV_put (Cn := RX4) (T := TX4) (N := 16) (ws' := mW k cI s0 mP mC mR mal mhd mn mg mt mh mz mset mfr mma mde mls) C inw_X4_mark_X4 tyX4_ok nmX4 0 rfl rfl 0 (by decide) (C.w 1 rfl) rfl rfl rfl rfl rfl (Nat.le_of_ble_eq_true rfl) dX4_mark_22 rfl ?_
    refine gV_aload_n C dX4_mark_25 rfl 0 rfl ?_
    refine gV_get (Cn := RX4) (T := TX4) (N := 16) C inw_X4_mark_X4 0 rfl rfl 0 (by decide) (C.w 1 rfl) rfl rfl dX4_mark_26 ?_
    refine gV_if_le (tgt := 36) C dX4_mark_29 (by decide) (fun c29 => ?_) (fun c29 => ?_)
    · replace hp := g_ift hp c29
      refine gV_aload_n C dX4_mark_36 rfl 0 rfl ?_
      refine gV_iload_n C dX4_mark_37 rfl 1 rfl ?_
      refine gV_iload_n C dX4_mark_38 rfl 2 rfl ?_
      obtain ⟨r39q, mh_39, hq39, hp⟩ := g_ob2 hp
      refine gV_calliS C (gV_runV (As := [.int v1, .int v2]) (rest := []) C (mt_X4_markOfRows hl D k cI cJ s0 mP mC mR mal mhd mn mg mt mh mz mset mfr mma mde mls v1 v2 r39q mh_39 hq39) (cwV 2 C.2.2.2.2.1 gX4_mark_X4_markOfRows rfl rfl rfl hdv_X4_markOfRows ⟨Nat.le_of_ble_eq_true rfl, Nat.le_of_ble_eq_true rfl⟩) (gSub_S _) 0 rfl rfl rfl rfl (Nat.le_of_ble_eq_true rfl) dX4_mark_39 ⟨Nat.le_of_ble_eq_true rfl, Nat.le_of_ble_eq_true rfl⟩) (fun _ _ hx => False.elim hx) (fun r39 w1 hw => ?_)
      obtain ⟨rfl, rfl⟩ := hw
      refine gV_loc [0] rfl ?_
      exact J42 r39 s0 mh_39 hp
    · replace hp := g_iff hp c29
      refine gV_iconst (v := 0) C dX4_mark_32 rfl ?_
      refine gV_goto (tgt := 42) C dX4_mark_33 (by decide) ?_
      refine gV_loc [0] rfl ?_
      exact J42 0 s0 mh hp
  have J21 : ∀ (th : Int32) (mh : Nat → Int32), pf_X4_mark_j21 v1 v2 mP mC th mh = (some (r0, th0, mh0)) → gV p l e rm_X4_mark s m args below meth c A D 3 Q (mW k cI th mP mC mR mal mhd mn mg mt mh mz mset mfr mma mde mls) [(0, .ref (k 0)), (1, .int v1), (2, .int v2)] 0 0 21 [.ref (k 0)] := by
    intro th mh hp
    unfold pf_X4_mark_j21 at hp
    refine gV_iconst (v := 1) C dX4_mark_21 rfl ?_
    exact J22 1 th mh hp
  refine gV_aload_n C dX4_mark_0 rfl 0 rfl ?_
  refine gV_aload_n C dX4_mark_1 rfl 0 rfl ?_
  refine gV_iload_n C dX4_mark_2 rfl 1 rfl ?_
  obtain ⟨r3q, hq3, hp⟩ := g_ob1 hp
  refine gV_calliS C (gV_runV (As := [.int v1]) (rest := [.ref (k 0)]) C (mt_X4_isRow hl D k cI cJ th mP mC mR mal mhd mn mg mt mh mz mset mfr mma mde mls v1 r3q hq3) (cwV 1 C.2.2.2.2.1 gX4_mark_X4_isRow rfl rfl rfl hdv_X4_isRow ⟨Nat.le_of_ble_eq_true rfl, Nat.le_of_ble_eq_true rfl⟩) (gSub_S _) 0 rfl rfl rfl rfl (Nat.le_of_ble_eq_true rfl) dX4_mark_3 ⟨Nat.le_of_ble_eq_true rfl, Nat.le_of_ble_eq_true rfl⟩) (fun _ _ hx => False.elim hx) (fun r3 w1 hw => ?_)
  obtain ⟨rfl, rfl⟩ := hw
  refine gV_if_eq (tgt := 21) C dX4_mark_6 (by decide) (fun c6 => ?_) (fun c6 => ?_)
  · replace hp := g_ift hp c6
    exact J21 th mh hp
  · replace hp := g_iff hp c6
    refine gV_aload_n C dX4_mark_9 rfl 0 rfl ?_
    refine gV_iload_n C dX4_mark_10 rfl 2 rfl ?_
    obtain ⟨r11q, hq11, hp⟩ := g_ob1 hp
    refine gV_calliS C (gV_runV (As := [.int v2]) (rest := [.ref (k 0)]) C (mt_X4_isRow hl D k cI cJ th mP mC mR mal mhd mn mg mt mh mz mset mfr mma mde mls v2 r11q hq11) (cwV 1 C.2.2.2.2.1 gX4_mark_X4_isRow rfl rfl rfl hdv_X4_isRow ⟨Nat.le_of_ble_eq_true rfl, Nat.le_of_ble_eq_true rfl⟩) (gSub_S _) 0 rfl rfl rfl rfl (Nat.le_of_ble_eq_true rfl) dX4_mark_11 ⟨Nat.le_of_ble_eq_true rfl, Nat.le_of_ble_eq_true rfl⟩) (fun _ _ hx => False.elim hx) (fun r11 w1 hw => ?_)
    obtain ⟨rfl, rfl⟩ := hw
    refine gV_if_eq (tgt := 21) C dX4_mark_14 (by decide) (fun c14 => ?_) (fun c14 => ?_)
    · replace hp := g_ift hp c14
      exact J21 th mh hp
    · replace hp := g_iff hp c14
      refine gV_iconst (v := 0) C dX4_mark_17 rfl ?_
      refine gV_goto (tgt := 22) C dX4_mark_18 (by decide) ?_
      exact J22 0 th mh hp
def pf_X4_isPossible_j44  (s0 : Int32) : Option (Int32) := (gz s0 ((some s0)))
def pf_X4_isPossible_j43  : Option (Int32) := (pf_X4_isPossible_j44 0)
def pf_X4_isPossible_j39  : Option (Int32) := (pf_X4_isPossible_j44 1)
def pf_X4_isPossible  (mP : Int32) (v1 : Int32) : Option (Int32) := (if v1 < 0 then (pf_X4_isPossible_j43) else (if mP < ((v1 / 10) + (v1 - v1 / 10 * 10)) then (pf_X4_isPossible_j43) else (if (v1 - v1 / 10 * 10) = 1 then (if (v1 / 10) = (mP - 1) then (pf_X4_isPossible_j43) else (pf_X4_isPossible_j39)) else (pf_X4_isPossible_j39))))
abbrev rm_X4_isPossible : Room := { frames := 0, cells := 0, slots := 0, locals := 0 }
theorem inw_X4_isPossible_X4 : ∀ w ∈ wsX40, w ∈ wsX4_isPossible := by decide +kernel
set_option maxHeartbeats 4000000 in
set_option maxRecDepth 100000 in
theorem mt_X4_isPossible {l : Launch} (hl : l.stackTraces = false) (D : va_G) (k : Nat → Nat) (cI cJ : ClassId) (th : Int32) (mP : Int32) (mC : Int32) (mR : Int32) (mal : Int32) (mhd : Int32) (mn : Int32) (mg : Nat → Int32) (mt : Nat → Int32) (mh : Nat → Int32) (mz : Nat → Int32) (mset : Nat → Int32) (mfr : Nat → Int32) (mma : Nat → Int32) (mde : Nat → Int32) (mls : Nat → Int32) (v1 : Int32) (r0 : Int32) (hp : pf_X4_isPossible mP v1 = (some r0)) : gMi l yX4_isPossible wsX4_isPossible rm_X4_isPossible D [(cI, .int), (cJ, .long)] (mW k cI th mP mC mR mal mhd mn mg mt mh mz mset mfr mma mde mls) [.ref (k 0), .int v1] 0 0 (fun r w => r = r0 ∧ w = mW k cI th mP mC mR mal mhd mn mg mt mh mz mset mfr mma mde mls) (fun _ _ => False) := by
  refine gMi_of (cc := cX4_isPossible) (maxL := 4) (rt := .boolean) hl (by decide +kernel) rfl (Nat.le_of_ble_eq_true rfl) ?_
  intro p e s m args below meth c A Q C hnm ht RET OUT THR THRW
  have C : gC p l s m args meth c A D [(cI, .int), (cJ, .long)] 4 RX4 cX4_isPossible wsX4_isPossible := C
  refine gV_loc (lvs' := [(0, .ref (k 0)), (1, .int v1)]) [0, 1] rfl ?_
  unfold pf_X4_isPossible at hp
  have J44 : ∀ (s0 : Int32), pf_X4_isPossible_j44 s0 = (some r0) → gV p l e rm_X4_isPossible s m args below meth c A D 4 Q (mW k cI th mP mC mR mal mhd mn mg mt mh mz mset mfr mma mde mls) [(0, .ref (k 0))] 0 0 44 [.int s0] := by
    intro s0 hp
    unfold pf_X4_isPossible_j44 at hp
    obtain ⟨hz44, hp⟩ := g_bool hp
    obtain rfl := g_so1 hp
    exact RET _ _ _ _ _ _ dX4_isPossible_44 (Nat.le_of_ble_eq_true rfl) (Nat.le_of_ble_eq_true rfl) (g_nz hz44) ⟨rfl, rfl⟩
  have J43 : pf_X4_isPossible_j43 = (some r0) → gV p l e rm_X4_isPossible s m args below meth c A D 4 Q (mW k cI th mP mC mR mal mhd mn mg mt mh mz mset mfr mma mde mls) [(0, .ref (k 0))] 0 0 43 [] := by
    intro hp
    unfold pf_X4_isPossible_j43 at hp
    refine gV_iconst (v := 0) C dX4_isPossible_43 rfl ?_
    exact J44 0 hp
  have J39 : pf_X4_isPossible_j39 = (some r0) → gV p l e rm_X4_isPossible s m args below meth c A D 4 Q (mW k cI th mP mC mR mal mhd mn mg mt mh mz mset mfr mma mde mls) [(0, .ref (k 0))] 0 0 39 [] := by
    intro hp
    unfold pf_X4_isPossible_j39 at hp
    refine gV_iconst (v := 1) C dX4_isPossible_39 rfl ?_
    refine gV_goto (tgt := 44) C dX4_isPossible_40 (by decide) ?_
    exact J44 1 hp
  refine gV_iload_n C dX4_isPossible_0 rfl 1 rfl ?_
  refine gV_bipush (v := 10) C dX4_isPossible_1 rfl ?_
  refine gV_idiv C dX4_isPossible_3 (by decide) ?_
  refine gV_istore_n (lvs' := [(2, .int (v1 / 10)), (0, .ref (k 0)), (1, .int v1)]) C dX4_isPossible_4 rfl (by decide) rfl ?_
  refine gV_iload_n C dX4_isPossible_5 rfl 2 rfl ?_
  refine gV_bipush (v := 10) C dX4_isPossible_6 rfl ?_
  refine gV_irem C dX4_isPossible_8 (by decide) ?_
  refine gV_istore_n (lvs' := [(3, .int (v1 - v1 / 10 * 10)), (2, .int (v1 / 10)), (0, .ref (k 0)), (1, .int v1)]) C dX4_isPossible_9 rfl (by decide) rfl ?_
  refine gV_iload_n C dX4_isPossible_10 rfl 3 rfl ?_
  refine gV_if_lt (tgt := 43) C dX4_isPossible_11 (by decide) (fun c11 => ?_) (fun c11 => ?_)
  · replace hp := g_ift hp c11
    refine gV_loc [2] rfl ?_
    exact J43 hp
  · replace hp := g_iff hp c11
    refine gV_iload_n C dX4_isPossible_14 rfl 1 rfl ?_
    refine gV_iload_n C dX4_isPossible_15 rfl 0 rfl ?_
    refine gV_iadd C dX4_isPossible_16 ?_
    refine gV_aload_n C dX4_isPossible_17 rfl 2 rfl ?_
    refine gV_get (Cn := RX4) (T := TX4) (N := 16) C inw_X4_isPossible_X4 0 rfl rfl 1 (by decide) (C.w 1 rfl) rfl rfl dX4_isPossible_18 ?_
    refine gV_icmp_gt (tgt := 43) C dX4_isPossible_21 (by decide) (fun c21 => ?_) (fun c21 => ?_)
    · replace hp := g_ift hp c21
      refine gV_loc [2] rfl ?_
      exact J43 hp
    · replace hp := g_iff hp c21
      refine gV_iload_n C dX4_isPossible_24 rfl 0 rfl ?_
      refine gV_iconst (v := 1) C dX4_isPossible_25 rfl ?_
      refine gV_icmp_ne (tgt := 39) C dX4_isPossible_26 (by decide) (fun c26 => ?_) (fun c26 => ?_)
      · replace hp := g_iff hp c26
        refine gV_loc [2] rfl ?_
        exact J39 hp
      · replace hp := g_ift hp c26
        refine gV_iload_n C dX4_isPossible_29 rfl 1 rfl ?_
        refine gV_aload_n C dX4_isPossible_30 rfl 2 rfl ?_
        refine gV_get (Cn := RX4) (T := TX4) (N := 16) C inw_X4_isPossible_X4 0 rfl rfl 1 (by decide) (C.w 1 rfl) rfl rfl dX4_isPossible_31 ?_
        refine gV_iconst (v := 1) C dX4_isPossible_34 rfl ?_
        refine gV_isub C dX4_isPossible_35 ?_
        refine gV_icmp_eq (tgt := 43) C dX4_isPossible_36 (by decide) (fun c36 => ?_) (fun c36 => ?_)
        · replace hp := g_ift hp c36
          refine gV_loc [2] rfl ?_
          exact J43 hp
        · replace hp := g_iff hp c36
          refine gV_loc [2] rfl ?_
          exact J39 hp
def pf_X4_lies_j38  (kL4 : Int32 → Int32 → (Nat → Int32) → Option (Int32 × (Nat → Int32))) (v3 : Int32) (s0 : Int32) (s1 : Int32) (mh : Nat → Int32) : Option (Int32 × (Nat → Int32)) := (kL4 (s1 + s0) (v3 + 1) mh)
def pf_X4_lies_L4 (v1 : Int32) (mP : Int32) (mC : Int32) (mn : Int32) (mg : Nat → Int32) (mt : Nat → Int32) : Nat → Int32 → Int32 → (Nat → Int32) → Option (Int32 × (Nat → Int32))
  | 0, _, _, _ => none
  | n4 + 1, v2, v3, mh => (if mn ≤ v3 then (some (v2, mh)) else (gi v3 10 (ob2 (pf_X4_markOfRows mP mC mh (mg v3.toNatClampNeg) v1) fun r21 mh_21 => (gi v3 10 (if r21 = (mt v3.toNatClampNeg) then (pf_X4_lies_j38 (fun v2 v3 mh => pf_X4_lies_L4 v1 mP mC mn mg mt n4 v2 v3 mh) v3 0 v2 mh_21) else (pf_X4_lies_j38 (fun v2 v3 mh => pf_X4_lies_L4 v1 mP mC mn mg mt n4 v2 v3 mh) v3 1 v2 mh_21))))))
def pf_X4_lies  (mP : Int32) (mC : Int32) (mn : Int32) (mg : Nat → Int32) (mt : Nat → Int32) (mh : Nat → Int32) (v1 : Int32) : Option (Int32 × (Nat → Int32)) := (pf_X4_lies_L4 v1 mP mC mn mg mt 100000 0 0 mh)
abbrev rm_X4_lies : Room := { frames := 1, cells := 0, slots := 0, locals := 27 }
theorem inw_X4_lies_X4 : ∀ w ∈ wsX40, w ∈ wsX4_lies := by decide +kernel
set_option maxHeartbeats 4000000 in
set_option maxRecDepth 100000 in
theorem mt_X4_lies {l : Launch} (hl : l.stackTraces = false) (D : va_G) (k : Nat → Nat) (cI cJ : ClassId) (th : Int32) (mP : Int32) (mC : Int32) (mR : Int32) (mal : Int32) (mhd : Int32) (mn : Int32) (mg : Nat → Int32) (mt : Nat → Int32) (mh : Nat → Int32) (mz : Nat → Int32) (mset : Nat → Int32) (mfr : Nat → Int32) (mma : Nat → Int32) (mde : Nat → Int32) (mls : Nat → Int32) (v1 : Int32) (r0 : Int32) (mh0 : Nat → Int32) (hp : pf_X4_lies mP mC mn mg mt mh v1 = (some (r0, mh0))) : gMi l yX4_lies wsX4_lies rm_X4_lies D [(cI, .int), (cJ, .long)] (mW k cI th mP mC mR mal mhd mn mg mt mh mz mset mfr mma mde mls) [.ref (k 0), .int v1] 0 0 (fun r w => r = r0 ∧ w = mW k cI th mP mC mR mal mhd mn mg mt mh0 mz mset mfr mma mde mls) (fun _ _ => False) := by
  refine gMi_of (cc := cX4_lies) (maxL := 4) (rt := .int) hl (by decide +kernel) rfl (Nat.le_of_ble_eq_true rfl) ?_
  intro p e s m args below meth c A Q C hnm ht RET OUT THR THRW
  have C : gC p l s m args meth c A D [(cI, .int), (cJ, .long)] 4 RX4 cX4_lies wsX4_lies := C
  refine gV_loc (lvs' := [(0, .ref (k 0)), (1, .int v1)]) [0, 1] rfl ?_
  unfold pf_X4_lies at hp
  have L4 : ∀ (n4 : Nat) (v2 : Int32) (v3 : Int32) (mh : Nat → Int32), pf_X4_lies_L4 v1 mP mC mn mg mt n4 v2 v3 mh = (some (r0, mh0)) → gV p l e rm_X4_lies s m args below meth c A D 4 Q (mW k cI th mP mC mR mal mhd mn mg mt mh mz mset mfr mma mde mls) [(0, .ref (k 0)), (1, .int v1), (2, .int v2), (3, .int v3)] 0 0 4 [] := by
    intro n4
    induction n4 with
    | zero => intro v2 v3 mh hp; exact g_none hp
    | succ n4 ih4 =>
      intro v2 v3 mh hp
      rw [pf_X4_lies_L4.eq_2] at hp
      have J38 : ∀ (v3 : Int32) (s0 : Int32) (s1 : Int32) (mh : Nat → Int32), pf_X4_lies_j38 (fun v2 v3 mh => pf_X4_lies_L4 v1 mP mC mn mg mt n4 v2 v3 mh) v3 s0 s1 mh = (some (r0, mh0)) → gV p l e rm_X4_lies s m args below meth c A D 4 Q (mW k cI th mP mC mR mal mhd mn mg mt mh mz mset mfr mma mde mls) [(0, .ref (k 0)), (1, .int v1), (3, .int v3)] 0 0 38 [.int s0, .int s1] := by
        intro v3 s0 s1 mh hp
        unfold pf_X4_lies_j38 at hp
        refine gV_iadd C dX4_lies_38 ?_
        refine gV_istore_n (lvs' := [(2, .int (s1 + s0)), (0, .ref (k 0)), (1, .int v1), (3, .int v3)]) C dX4_lies_39 rfl (by decide) rfl ?_
        refine gV_iinc (v := (v3 + 1)) (lvs' := [(3, .int (v3 + 1)), (2, .int (s1 + s0)), (0, .ref (k 0)), (1, .int v1)]) C dX4_lies_40 3 rfl rfl (by decide) rfl ?_
        refine gV_goto (tgt := 4) C dX4_lies_43 (by decide) ?_
        refine gV_loc [2, 3, 1, 0] rfl ?_
        exact ih4 (s1 + s0) (v3 + 1) mh hp
      refine gV_iload_n C dX4_lies_4 rfl 3 rfl ?_
      refine gV_aload_n C dX4_lies_5 rfl 0 rfl ?_
      refine gV_get (Cn := RX4) (T := TX4) (N := 16) C inw_X4_lies_X4 0 rfl rfl 6 (by decide) (C.w 1 rfl) rfl rfl dX4_lies_6 ?_
      refine gV_icmp_ge (tgt := 46) C dX4_lies_9 (by decide) (fun c9 => ?_) (fun c9 => ?_)
      · replace hp := g_ift hp c9
        refine gV_iload_n C dX4_lies_46 rfl 2 rfl ?_
        obtain ⟨rfl, rfl⟩ := g_so2 hp
        exact RET _ _ _ _ _ _ dX4_lies_47 (Nat.le_of_ble_eq_true rfl) (Nat.le_of_ble_eq_true rfl) rfl ⟨rfl, rfl⟩
      · replace hp := g_iff hp c9
        refine gV_iload_n C dX4_lies_12 rfl 2 rfl ?_
        refine gV_aload_n C dX4_lies_13 rfl 0 rfl ?_
        refine gV_aload_n C dX4_lies_14 rfl 0 rfl ?_
        refine gV_get (Cn := RX4) (T := TX4) (N := 16) C inw_X4_lies_X4 0 rfl rfl 7 (by decide) (C.w 2 rfl) rfl rfl dX4_lies_15 ?_
        refine gV_iload_n C dX4_lies_18 rfl 3 rfl ?_
        obtain ⟨hi19, hp⟩ := g_idx hp
        refine gV_iald C 1 rfl 0 rfl hi19 dX4_lies_19 ?_
        refine gV_iload_n C dX4_lies_20 rfl 1 rfl ?_
        obtain ⟨r21q, mh_21, hq21, hp⟩ := g_ob2 hp
        refine gV_calliS C (gV_runV (As := [.int (mg v3.toNatClampNeg), .int v1]) (rest := [.int v2]) C (mt_X4_markOfRows hl D k cI cJ th mP mC mR mal mhd mn mg mt mh mz mset mfr mma mde mls (mg v3.toNatClampNeg) v1 r21q mh_21 hq21) (cwV 2 C.2.2.2.2.1 gX4_lies_X4_markOfRows rfl rfl rfl hdv_X4_markOfRows ⟨Nat.le_of_ble_eq_true rfl, Nat.le_of_ble_eq_true rfl⟩) (gSub_S _) 0 rfl rfl rfl rfl (Nat.le_of_ble_eq_true rfl) dX4_lies_21 ⟨Nat.le_of_ble_eq_true rfl, Nat.le_of_ble_eq_true rfl⟩) (fun _ _ hx => False.elim hx) (fun r21 w1 hw => ?_)
        obtain ⟨rfl, rfl⟩ := hw
        refine gV_aload_n C dX4_lies_24 rfl 0 rfl ?_
        refine gV_get (Cn := RX4) (T := TX4) (N := 16) C inw_X4_lies_X4 0 rfl rfl 8 (by decide) (C.w 3 rfl) rfl rfl dX4_lies_25 ?_
        refine gV_iload_n C dX4_lies_28 rfl 3 rfl ?_
        obtain ⟨hi29, hp⟩ := g_idx hp
        refine gV_iald C 2 rfl 0 rfl hi29 dX4_lies_29 ?_
        refine gV_icmp_ne (tgt := 37) C dX4_lies_30 (by decide) (fun c30 => ?_) (fun c30 => ?_)
        · replace hp := g_iff hp c30
          refine gV_iconst (v := 1) C dX4_lies_37 rfl ?_
          refine gV_loc [0, 1, 3] rfl ?_
          exact J38 v3 1 v2 mh_21 hp
        · replace hp := g_ift hp c30
          refine gV_iconst (v := 0) C dX4_lies_33 rfl ?_
          refine gV_goto (tgt := 38) C dX4_lies_34 (by decide) ?_
          refine gV_loc [0, 1, 3] rfl ?_
          exact J38 v3 0 v2 mh_21 hp
  refine gV_iconst (v := 0) C dX4_lies_0 rfl ?_
  refine gV_istore_n (lvs' := [(2, .int 0), (0, .ref (k 0)), (1, .int v1)]) C dX4_lies_1 rfl (by decide) rfl ?_
  refine gV_iconst (v := 0) C dX4_lies_2 rfl ?_
  refine gV_istore_n (lvs' := [(3, .int 0), (2, .int 0), (0, .ref (k 0)), (1, .int v1)]) C dX4_lies_3 rfl (by decide) rfl ?_
  refine gV_loc [2, 3, 1, 0] rfl ?_
  exact L4 100000 0 0 mh hp
def pf_X4_isStill_j17  (s0 : Int32) (mh : Nat → Int32) : Option (Int32 × (Nat → Int32)) := (gz s0 ((some (s0, mh))))
def pf_X4_isStill  (mP : Int32) (mC : Int32) (mal : Int32) (mn : Int32) (mg : Nat → Int32) (mt : Nat → Int32) (mh : Nat → Int32) (v1 : Int32) : Option (Int32 × (Nat → Int32)) := (ob2 (pf_X4_lies mP mC mn mg mt mh v1) fun r2 mh_2 => (if mal < r2 then (pf_X4_isStill_j17 0 mh_2) else (pf_X4_isStill_j17 1 mh_2)))
abbrev rm_X4_isStill : Room := { frames := 2, cells := 0, slots := 0, locals := 50 }
theorem inw_X4_isStill_X4 : ∀ w ∈ wsX40, w ∈ wsX4_isStill := by decide +kernel
theorem hdv_X4_lies : yX4_lies.cls = RX4 ∧ yX4_lies.cls ≠ "java/lang/invoke/MethodHandle" ∧ yX4_lies.cls ≠ "java/lang/invoke/VarHandle" ∧ (parseMethodDescriptor yX4_lies.desc).map (fun d => d.parameters.length) = some 1 := by decide +kernel
set_option maxHeartbeats 4000000 in
set_option maxRecDepth 100000 in
theorem mt_X4_isStill {l : Launch} (hl : l.stackTraces = false) (D : va_G) (k : Nat → Nat) (cI cJ : ClassId) (th : Int32) (mP : Int32) (mC : Int32) (mR : Int32) (mal : Int32) (mhd : Int32) (mn : Int32) (mg : Nat → Int32) (mt : Nat → Int32) (mh : Nat → Int32) (mz : Nat → Int32) (mset : Nat → Int32) (mfr : Nat → Int32) (mma : Nat → Int32) (mde : Nat → Int32) (mls : Nat → Int32) (v1 : Int32) (r0 : Int32) (mh0 : Nat → Int32) (hp : pf_X4_isStill mP mC mal mn mg mt mh v1 = (some (r0, mh0))) : gMi l yX4_isStill wsX4_isStill rm_X4_isStill D [(cI, .int), (cJ, .long)] (mW k cI th mP mC mR mal mhd mn mg mt mh mz mset mfr mma mde mls) [.ref (k 0), .int v1] 0 0 (fun r w => r = r0 ∧ w = mW k cI th mP mC mR mal mhd mn mg mt mh0 mz mset mfr mma mde mls) (fun _ _ => False) := by
  refine gMi_of (cc := cX4_isStill) (maxL := 2) (rt := .boolean) hl (by decide +kernel) rfl (Nat.le_of_ble_eq_true rfl) ?_
  intro p e s m args below meth c A Q C hnm ht RET OUT THR THRW
  have C : gC p l s m args meth c A D [(cI, .int), (cJ, .long)] 2 RX4 cX4_isStill wsX4_isStill := C
  refine gV_loc (lvs' := [(0, .ref (k 0)), (1, .int v1)]) [0, 1] rfl ?_
  unfold pf_X4_isStill at hp
  have J17 : ∀ (s0 : Int32) (mh : Nat → Int32), pf_X4_isStill_j17 s0 mh = (some (r0, mh0)) → gV p l e rm_X4_isStill s m args below meth c A D 2 Q (mW k cI th mP mC mR mal mhd mn mg mt mh mz mset mfr mma mde mls) [(0, .ref (k 0))] 0 0 17 [.int s0] := by
    intro s0 mh hp
    unfold pf_X4_isStill_j17 at hp
    obtain ⟨hz17, hp⟩ := g_bool hp
    obtain ⟨rfl, rfl⟩ := g_so2 hp
    exact RET _ _ _ _ _ _ dX4_isStill_17 (Nat.le_of_ble_eq_true rfl) (Nat.le_of_ble_eq_true rfl) (g_nz hz17) ⟨rfl, rfl⟩
  refine gV_aload_n C dX4_isStill_0 rfl 0 rfl ?_
  refine gV_iload_n C dX4_isStill_1 rfl 1 rfl ?_
  obtain ⟨r2q, mh_2, hq2, hp⟩ := g_ob2 hp
  refine gV_calliS C (gV_runV (As := [.int v1]) (rest := []) C (mt_X4_lies hl D k cI cJ th mP mC mR mal mhd mn mg mt mh mz mset mfr mma mde mls v1 r2q mh_2 hq2) (cwV 1 C.2.2.2.2.1 gX4_isStill_X4_lies rfl rfl rfl hdv_X4_lies ⟨Nat.le_of_ble_eq_true rfl, Nat.le_of_ble_eq_true rfl⟩) (gSub_S _) 0 rfl rfl rfl rfl (Nat.le_of_ble_eq_true rfl) dX4_isStill_2 ⟨Nat.le_of_ble_eq_true rfl, Nat.le_of_ble_eq_true rfl⟩) (fun _ _ hx => False.elim hx) (fun r2 w1 hw => ?_)
  obtain ⟨rfl, rfl⟩ := hw
  refine gV_aload_n C dX4_isStill_5 rfl 0 rfl ?_
  refine gV_get (Cn := RX4) (T := TX4) (N := 16) C inw_X4_isStill_X4 0 rfl rfl 4 (by decide) (C.w 1 rfl) rfl rfl dX4_isStill_6 ?_
  refine gV_icmp_gt (tgt := 16) C dX4_isStill_9 (by decide) (fun c9 => ?_) (fun c9 => ?_)
  · replace hp := g_ift hp c9
    refine gV_iconst (v := 0) C dX4_isStill_16 rfl ?_
    refine gV_loc [0] rfl ?_
    exact J17 0 mh_2 hp
  · replace hp := g_iff hp c9
    refine gV_iconst (v := 1) C dX4_isStill_12 rfl ?_
    refine gV_goto (tgt := 17) C dX4_isStill_13 (by decide) ?_
    refine gV_loc [0] rfl ?_
    exact J17 1 mh_2 hp
def pf_X4_allowLies_j39 (v1 : Int32) (s0 : Int32) (th : Int32) (mal : Int32) (mh : Nat → Int32) : Option (Int32 × Int32 × Int32 × (Nat → Int32)) := (if s0 ≤ 0 then (some (mal, s0, v1, mh)) else (some (0, s0, mal, mh)))
def pf_X4_allowLies_j38 (v1 : Int32) (th : Int32) (mal : Int32) (mh : Nat → Int32) : Option (Int32 × Int32 × Int32 × (Nat → Int32)) := (pf_X4_allowLies_j39 v1 0 th mal mh)
def pf_X4_allowLies  (th : Int32) (mP : Int32) (mC : Int32) (mal : Int32) (mhd : Int32) (mn : Int32) (mg : Nat → Int32) (mt : Nat → Int32) (mh : Nat → Int32) (v1 : Int32) : Option (Int32 × Int32 × Int32 × (Nat → Int32)) := (ob1 (pf_X4_in v1 0 3) fun r4 => (if r4 = 0 then (pf_X4_allowLies_j39 v1 1 th mal mh) else (if mhd = (-1) then (pf_X4_allowLies_j38 v1 th mal mh) else (ob2 (pf_X4_lies mP mC mn mg mt mh mhd) fun r27 mh_27 => (if r27 ≤ v1 then (pf_X4_allowLies_j38 v1 th mal mh_27) else (pf_X4_allowLies_j39 v1 2 th mal mh_27))))))
abbrev rm_X4_allowLies : Room := { frames := 2, cells := 0, slots := 0, locals := 50 }
theorem inw_X4_allowLies_X4 : ∀ w ∈ wsX40, w ∈ wsX4_allowLies := by decide +kernel
set_option maxHeartbeats 4000000 in
set_option maxRecDepth 100000 in
theorem mt_X4_allowLies {l : Launch} (hl : l.stackTraces = false) (D : va_G) (k : Nat → Nat) (cI cJ : ClassId) (th : Int32) (mP : Int32) (mC : Int32) (mR : Int32) (mal : Int32) (mhd : Int32) (mn : Int32) (mg : Nat → Int32) (mt : Nat → Int32) (mh : Nat → Int32) (mz : Nat → Int32) (mset : Nat → Int32) (mfr : Nat → Int32) (mma : Nat → Int32) (mde : Nat → Int32) (mls : Nat → Int32) (v1 : Int32) (r0 : Int32) (th0 : Int32) (mal0 : Int32) (mh0 : Nat → Int32) (hp : pf_X4_allowLies th mP mC mal mhd mn mg mt mh v1 = (some (r0, th0, mal0, mh0))) : gMi l yX4_allowLies wsX4_allowLies rm_X4_allowLies D [(cI, .int), (cJ, .long)] (mW k cI th mP mC mR mal mhd mn mg mt mh mz mset mfr mma mde mls) [.ref (k 0), .int v1] 0 0 (fun r w => r = r0 ∧ w = mW k cI th0 mP mC mR mal0 mhd mn mg mt mh0 mz mset mfr mma mde mls) (fun _ _ => False) := by
  refine gMi_of (cc := cX4_allowLies) (maxL := 3) (rt := .int) hl (by decide +kernel) rfl (Nat.le_of_ble_eq_true rfl) ?_
  intro p e s m args below meth c A Q C hnm ht RET OUT THR THRW
  have C : gC p l s m args meth c A D [(cI, .int), (cJ, .long)] 3 RX4 cX4_allowLies wsX4_allowLies := C
  refine gV_loc (lvs' := [(0, .ref (k 0)), (1, .int v1)]) [0, 1] rfl ?_
  unfold pf_X4_allowLies at hp
  have J39 : ∀ (s0 : Int32) (th : Int32) (mal : Int32) (mh : Nat → Int32), pf_X4_allowLies_j39 v1 s0 th mal mh = (some (r0, th0, mal0, mh0)) → gV p l e rm_X4_allowLies s m args below meth c A D 3 Q (mW k cI th mP mC mR mal mhd mn mg mt mh mz mset mfr mma mde mls) [(0, .ref (k 0)), (1, .int v1)] 0 0 39 [.int s0, .ref (k 0)] := by
    intro s0 th mal mh hp
    unfold pf_X4_allowLies_j39 at hp
    refine gV_put (Cn := RX4) (T := TX4) (N := 16) (ws' := mW k cI s0 mP mC mR mal mhd mn mg mt mh mz mset mfr mma mde mls) C inw_X4_allowLies_X4 tyX4_ok nmX4 0 rfl rfl 0 (by decide) (C.w 2 rfl) rfl rfl rfl rfl rfl (Nat.le_of_ble_eq_true rfl) dX4_allowLies_39 rfl ?_
    refine gV_aload_n C dX4_allowLies_42 rfl 0 rfl ?_
    refine gV_get (Cn := RX4) (T := TX4) (N := 16) C inw_X4_allowLies_X4 0 rfl rfl 0 (by decide) (C.w 2 rfl) rfl rfl dX4_allowLies_43 ?_
    refine gV_if_le (tgt := 51) C dX4_allowLies_46 (by decide) (fun c46 => ?_) (fun c46 => ?_)
    · replace hp := g_ift hp c46
      refine gV_aload_n C dX4_allowLies_51 rfl 0 rfl ?_
      refine gV_get (Cn := RX4) (T := TX4) (N := 16) C inw_X4_allowLies_X4 0 rfl rfl 4 (by decide) (C.w 3 rfl) rfl rfl dX4_allowLies_52 ?_
      refine gV_istore_n (lvs' := [(2, .int mal), (0, .ref (k 0)), (1, .int v1)]) C dX4_allowLies_55 rfl (by decide) rfl ?_
      refine gV_aload_n C dX4_allowLies_56 rfl 1 rfl ?_
      refine gV_iload_n C dX4_allowLies_57 rfl 2 rfl ?_
      refine gV_put (Cn := RX4) (T := TX4) (N := 16) (ws' := mW k cI s0 mP mC mR v1 mhd mn mg mt mh mz mset mfr mma mde mls) C inw_X4_allowLies_X4 tyX4_ok nmX4 0 rfl rfl 4 (by decide) (C.w 3 rfl) rfl rfl rfl rfl rfl (Nat.le_of_ble_eq_true rfl) dX4_allowLies_58 rfl ?_
      refine gV_iload_n C dX4_allowLies_61 rfl 0 rfl ?_
      obtain ⟨rfl, rfl, rfl, rfl⟩ := g_so4 hp
      exact RET _ _ _ _ _ _ dX4_allowLies_62 (Nat.le_of_ble_eq_true rfl) (Nat.le_of_ble_eq_true rfl) rfl ⟨rfl, rfl⟩
    · replace hp := g_iff hp c46
      refine gV_iconst (v := 0) C dX4_allowLies_49 rfl ?_
      obtain ⟨rfl, rfl, rfl, rfl⟩ := g_so4 hp
      exact RET _ _ _ _ _ _ dX4_allowLies_50 (Nat.le_of_ble_eq_true rfl) (Nat.le_of_ble_eq_true rfl) rfl ⟨rfl, rfl⟩
  have J38 : ∀ (th : Int32) (mal : Int32) (mh : Nat → Int32), pf_X4_allowLies_j38 v1 th mal mh = (some (r0, th0, mal0, mh0)) → gV p l e rm_X4_allowLies s m args below meth c A D 3 Q (mW k cI th mP mC mR mal mhd mn mg mt mh mz mset mfr mma mde mls) [(0, .ref (k 0)), (1, .int v1)] 0 0 38 [.ref (k 0)] := by
    intro th mal mh hp
    unfold pf_X4_allowLies_j38 at hp
    refine gV_iconst (v := 0) C dX4_allowLies_38 rfl ?_
    exact J39 0 th mal mh hp
  refine gV_aload_n C dX4_allowLies_0 rfl 0 rfl ?_
  refine gV_iload_n C dX4_allowLies_1 rfl 1 rfl ?_
  refine gV_iconst (v := 0) C dX4_allowLies_2 rfl ?_
  refine gV_iconst (v := 3) C dX4_allowLies_3 rfl ?_
  obtain ⟨r4q, hq4, hp⟩ := g_ob1 hp
  refine gV_calliE C (gV_runS (As := [.int v1, .int 0, .int 3]) (rest := [.ref (k 0)]) C (mt_X4_in hl D cI cJ v1 0 3 r4q hq4) (va_cwS 3 C.2.2.2.2.1 gX4_allowLies_X4_in rfl rfl rfl hds_X4_in ⟨Nat.le_of_ble_eq_true rfl, Nat.le_of_ble_eq_true rfl⟩) (gSub_E _) rfl rfl (Nat.le_of_ble_eq_true rfl) dX4_allowLies_4 ⟨Nat.le_of_ble_eq_true rfl, Nat.le_of_ble_eq_true rfl⟩) (fun _ _ hx => False.elim hx) (fun r4 w1 hw => ?_)
  obtain ⟨rfl, rfl⟩ := hw
  refine ⟨rfl, ?_⟩
  refine gV_if_ne (tgt := 14) C dX4_allowLies_7 (by decide) (fun c7 => ?_) (fun c7 => ?_)
  · replace hp := g_iff hp c7
    refine gV_aload_n C dX4_allowLies_14 rfl 0 rfl ?_
    refine gV_get (Cn := RX4) (T := TX4) (N := 16) C inw_X4_allowLies_X4 0 rfl rfl 5 (by decide) (C.w 1 rfl) rfl rfl dX4_allowLies_15 ?_
    refine gV_iconst (v := (-1)) C dX4_allowLies_18 rfl ?_
    refine gV_icmp_eq (tgt := 38) C dX4_allowLies_19 (by decide) (fun c19 => ?_) (fun c19 => ?_)
    · replace hp := g_ift hp c19
      exact J38 th mal mh hp
    · replace hp := g_iff hp c19
      refine gV_aload_n C dX4_allowLies_22 rfl 0 rfl ?_
      refine gV_aload_n C dX4_allowLies_23 rfl 0 rfl ?_
      refine gV_get (Cn := RX4) (T := TX4) (N := 16) C inw_X4_allowLies_X4 0 rfl rfl 5 (by decide) (C.w 1 rfl) rfl rfl dX4_allowLies_24 ?_
      obtain ⟨r27q, mh_27, hq27, hp⟩ := g_ob2 hp
      refine gV_calliS C (gV_runV (As := [.int mhd]) (rest := [.ref (k 0)]) C (mt_X4_lies hl D k cI cJ th mP mC mR mal mhd mn mg mt mh mz mset mfr mma mde mls mhd r27q mh_27 hq27) (cwV 1 C.2.2.2.2.1 gX4_allowLies_X4_lies rfl rfl rfl hdv_X4_lies ⟨Nat.le_of_ble_eq_true rfl, Nat.le_of_ble_eq_true rfl⟩) (gSub_S _) 0 rfl rfl rfl rfl (Nat.le_of_ble_eq_true rfl) dX4_allowLies_27 ⟨Nat.le_of_ble_eq_true rfl, Nat.le_of_ble_eq_true rfl⟩) (fun _ _ hx => False.elim hx) (fun r27 w1 hw => ?_)
      obtain ⟨rfl, rfl⟩ := hw
      refine gV_iload_n C dX4_allowLies_30 rfl 1 rfl ?_
      refine gV_icmp_le (tgt := 38) C dX4_allowLies_31 (by decide) (fun c31 => ?_) (fun c31 => ?_)
      · replace hp := g_ift hp c31
        exact J38 th mal mh_27 hp
      · replace hp := g_iff hp c31
        refine gV_iconst (v := 2) C dX4_allowLies_34 rfl ?_
        refine gV_goto (tgt := 39) C dX4_allowLies_35 (by decide) ?_
        exact J39 2 th mal mh_27 hp
  · replace hp := g_ift hp c7
    refine gV_iconst (v := 1) C dX4_allowLies_10 rfl ?_
    refine gV_goto (tgt := 39) C dX4_allowLies_11 (by decide) ?_
    exact J39 1 th mal mh hp
def pf_X4_hide_j51 (v1 : Int32) (s0 : Int32) (th : Int32) (mhd : Int32) (mh : Nat → Int32) : Option (Int32 × Int32 × Int32 × (Nat → Int32)) := (gz s0 ((some (s0, th, v1, mh))))
def pf_X4_hide_j26 (v1 : Int32) (s0 : Int32) (th : Int32) (mhd : Int32) (mh : Nat → Int32) : Option (Int32 × Int32 × Int32 × (Nat → Int32)) := (if s0 ≤ 0 then (if mhd = (-1) then (pf_X4_hide_j51 v1 0 s0 mhd mh) else (pf_X4_hide_j51 v1 1 s0 mhd mh)) else (some (0, s0, mhd, mh)))
def pf_X4_hide  (th : Int32) (mP : Int32) (mC : Int32) (mR : Int32) (mal : Int32) (mhd : Int32) (mn : Int32) (mg : Nat → Int32) (mt : Nat → Int32) (mh : Nat → Int32) (v1 : Int32) : Option (Int32 × Int32 × Int32 × (Nat → Int32)) := (ob1 (pf_X4_isRow mR v1) fun r3 => (if r3 = 0 then (pf_X4_hide_j26 v1 1 th mhd mh) else (ob2 (pf_X4_isStill mP mC mal mn mg mt mh v1) fun r15 mh_15 => (if r15 = 0 then (pf_X4_hide_j26 v1 2 th mhd mh_15) else (pf_X4_hide_j26 v1 0 th mhd mh_15)))))
abbrev rm_X4_hide : Room := { frames := 3, cells := 0, slots := 0, locals := 71 }
theorem inw_X4_hide_X4 : ∀ w ∈ wsX40, w ∈ wsX4_hide := by decide +kernel
theorem hdv_X4_isStill : yX4_isStill.cls = RX4 ∧ yX4_isStill.cls ≠ "java/lang/invoke/MethodHandle" ∧ yX4_isStill.cls ≠ "java/lang/invoke/VarHandle" ∧ (parseMethodDescriptor yX4_isStill.desc).map (fun d => d.parameters.length) = some 1 := by decide +kernel
set_option maxHeartbeats 4000000 in
set_option maxRecDepth 100000 in
theorem mt_X4_hide {l : Launch} (hl : l.stackTraces = false) (D : va_G) (k : Nat → Nat) (cI cJ : ClassId) (th : Int32) (mP : Int32) (mC : Int32) (mR : Int32) (mal : Int32) (mhd : Int32) (mn : Int32) (mg : Nat → Int32) (mt : Nat → Int32) (mh : Nat → Int32) (mz : Nat → Int32) (mset : Nat → Int32) (mfr : Nat → Int32) (mma : Nat → Int32) (mde : Nat → Int32) (mls : Nat → Int32) (v1 : Int32) (r0 : Int32) (th0 : Int32) (mhd0 : Int32) (mh0 : Nat → Int32) (hp : pf_X4_hide th mP mC mR mal mhd mn mg mt mh v1 = (some (r0, th0, mhd0, mh0))) : gMi l yX4_hide wsX4_hide rm_X4_hide D [(cI, .int), (cJ, .long)] (mW k cI th mP mC mR mal mhd mn mg mt mh mz mset mfr mma mde mls) [.ref (k 0), .int v1] 0 0 (fun r w => r = r0 ∧ w = mW k cI th0 mP mC mR mal mhd0 mn mg mt mh0 mz mset mfr mma mde mls) (fun _ _ => False) := by
  refine gMi_of (cc := cX4_hide) (maxL := 3) (rt := .boolean) hl (by decide +kernel) rfl (Nat.le_of_ble_eq_true rfl) ?_
  intro p e s m args below meth c A Q C hnm ht RET OUT THR THRW
  have C : gC p l s m args meth c A D [(cI, .int), (cJ, .long)] 3 RX4 cX4_hide wsX4_hide := C
  refine gV_loc (lvs' := [(0, .ref (k 0)), (1, .int v1)]) [0, 1] rfl ?_
  unfold pf_X4_hide at hp
  have J51 : ∀ (s0 : Int32) (th : Int32) (mhd : Int32) (mh : Nat → Int32), pf_X4_hide_j51 v1 s0 th mhd mh = (some (r0, th0, mhd0, mh0)) → gV p l e rm_X4_hide s m args below meth c A D 3 Q (mW k cI th mP mC mR mal mhd mn mg mt mh mz mset mfr mma mde mls) [(0, .ref (k 0)), (1, .int v1)] 0 0 51 [.int s0] := by
    intro s0 th mhd mh hp
    unfold pf_X4_hide_j51 at hp
    refine gV_istore_n (lvs' := [(2, .int s0), (0, .ref (k 0)), (1, .int v1)]) C dX4_hide_51 rfl (by decide) rfl ?_
    refine gV_aload_n C dX4_hide_52 rfl 1 rfl ?_
    refine gV_iload_n C dX4_hide_53 rfl 2 rfl ?_
    refine gV_put (Cn := RX4) (T := TX4) (N := 16) (ws' := mW k cI th mP mC mR mal v1 mn mg mt mh mz mset mfr mma mde mls) C inw_X4_hide_X4 tyX4_ok nmX4 0 rfl rfl 5 (by decide) (C.w 2 rfl) rfl rfl rfl rfl rfl (Nat.le_of_ble_eq_true rfl) dX4_hide_54 rfl ?_
    refine gV_iload_n C dX4_hide_57 rfl 0 rfl ?_
    obtain ⟨hz58, hp⟩ := g_bool hp
    obtain ⟨rfl, rfl, rfl, rfl⟩ := g_so4 hp
    exact RET _ _ _ _ _ _ dX4_hide_58 (Nat.le_of_ble_eq_true rfl) (Nat.le_of_ble_eq_true rfl) (g_nz hz58) ⟨rfl, rfl⟩
  have J26 : ∀ (s0 : Int32) (th : Int32) (mhd : Int32) (mh : Nat → Int32), pf_X4_hide_j26 v1 s0 th mhd mh = (some (r0, th0, mhd0, mh0)) → gV p l e rm_X4_hide s m args below meth c A D 3 Q (mW k cI th mP mC mR mal mhd mn mg mt mh mz mset mfr mma mde mls) [(0, .ref (k 0)), (1, .int v1)] 0 0 26 [.int s0, .ref (k 0)] := by
    intro s0 th mhd mh hp
    unfold pf_X4_hide_j26 at hp
    refine gV_put (Cn := RX4) (T := TX4) (N := 16) (ws' := mW k cI s0 mP mC mR mal mhd mn mg mt mh mz mset mfr mma mde mls) C inw_X4_hide_X4 tyX4_ok nmX4 0 rfl rfl 0 (by decide) (C.w 1 rfl) rfl rfl rfl rfl rfl (Nat.le_of_ble_eq_true rfl) dX4_hide_26 rfl ?_
    refine gV_aload_n C dX4_hide_29 rfl 0 rfl ?_
    refine gV_get (Cn := RX4) (T := TX4) (N := 16) C inw_X4_hide_X4 0 rfl rfl 0 (by decide) (C.w 1 rfl) rfl rfl dX4_hide_30 ?_
    refine gV_if_le (tgt := 38) C dX4_hide_33 (by decide) (fun c33 => ?_) (fun c33 => ?_)
    · replace hp := g_ift hp c33
      refine gV_aload_n C dX4_hide_38 rfl 0 rfl ?_
      refine gV_get (Cn := RX4) (T := TX4) (N := 16) C inw_X4_hide_X4 0 rfl rfl 5 (by decide) (C.w 2 rfl) rfl rfl dX4_hide_39 ?_
      refine gV_iconst (v := (-1)) C dX4_hide_42 rfl ?_
      refine gV_icmp_eq (tgt := 50) C dX4_hide_43 (by decide) (fun c43 => ?_) (fun c43 => ?_)
      · replace hp := g_ift hp c43
        refine gV_iconst (v := 0) C dX4_hide_50 rfl ?_
        exact J51 0 s0 mhd mh hp
      · replace hp := g_iff hp c43
        refine gV_iconst (v := 1) C dX4_hide_46 rfl ?_
        refine gV_goto (tgt := 51) C dX4_hide_47 (by decide) ?_
        exact J51 1 s0 mhd mh hp
    · replace hp := g_iff hp c33
      refine gV_iconst (v := 0) C dX4_hide_36 rfl ?_
      obtain ⟨rfl, rfl, rfl, rfl⟩ := g_so4 hp
      exact RET _ _ _ _ _ _ dX4_hide_37 (Nat.le_of_ble_eq_true rfl) (Nat.le_of_ble_eq_true rfl) rfl ⟨rfl, rfl⟩
  refine gV_aload_n C dX4_hide_0 rfl 0 rfl ?_
  refine gV_aload_n C dX4_hide_1 rfl 0 rfl ?_
  refine gV_iload_n C dX4_hide_2 rfl 1 rfl ?_
  obtain ⟨r3q, hq3, hp⟩ := g_ob1 hp
  refine gV_calliS C (gV_runV (As := [.int v1]) (rest := [.ref (k 0)]) C (mt_X4_isRow hl D k cI cJ th mP mC mR mal mhd mn mg mt mh mz mset mfr mma mde mls v1 r3q hq3) (cwV 1 C.2.2.2.2.1 gX4_hide_X4_isRow rfl rfl rfl hdv_X4_isRow ⟨Nat.le_of_ble_eq_true rfl, Nat.le_of_ble_eq_true rfl⟩) (gSub_S _) 0 rfl rfl rfl rfl (Nat.le_of_ble_eq_true rfl) dX4_hide_3 ⟨Nat.le_of_ble_eq_true rfl, Nat.le_of_ble_eq_true rfl⟩) (fun _ _ hx => False.elim hx) (fun r3 w1 hw => ?_)
  obtain ⟨rfl, rfl⟩ := hw
  refine gV_if_ne (tgt := 13) C dX4_hide_6 (by decide) (fun c6 => ?_) (fun c6 => ?_)
  · replace hp := g_iff hp c6
    refine gV_aload_n C dX4_hide_13 rfl 0 rfl ?_
    refine gV_iload_n C dX4_hide_14 rfl 1 rfl ?_
    obtain ⟨r15q, mh_15, hq15, hp⟩ := g_ob2 hp
    refine gV_calliS C (gV_runV (As := [.int v1]) (rest := [.ref (k 0)]) C (mt_X4_isStill hl D k cI cJ th mP mC mR mal mhd mn mg mt mh mz mset mfr mma mde mls v1 r15q mh_15 hq15) (cwV 1 C.2.2.2.2.1 gX4_hide_X4_isStill rfl rfl rfl hdv_X4_isStill ⟨Nat.le_of_ble_eq_true rfl, Nat.le_of_ble_eq_true rfl⟩) (gSub_S _) 0 rfl rfl rfl rfl (Nat.le_of_ble_eq_true rfl) dX4_hide_15 ⟨Nat.le_of_ble_eq_true rfl, Nat.le_of_ble_eq_true rfl⟩) (fun _ _ hx => False.elim hx) (fun r15 w1 hw => ?_)
    obtain ⟨rfl, rfl⟩ := hw
    refine gV_if_eq (tgt := 25) C dX4_hide_18 (by decide) (fun c18 => ?_) (fun c18 => ?_)
    · replace hp := g_ift hp c18
      refine gV_iconst (v := 2) C dX4_hide_25 rfl ?_
      exact J26 2 th mhd mh_15 hp
    · replace hp := g_iff hp c18
      refine gV_iconst (v := 0) C dX4_hide_21 rfl ?_
      refine gV_goto (tgt := 26) C dX4_hide_22 (by decide) ?_
      exact J26 0 th mhd mh_15 hp
  · replace hp := g_ift hp c6
    refine gV_iconst (v := 1) C dX4_hide_9 rfl ?_
    refine gV_goto (tgt := 26) C dX4_hide_10 (by decide) ?_
    exact J26 1 th mhd mh hp
def pf_X4_adds  (mn : Int32) (mg : Nat → Int32) (mt : Nat → Int32) (v1 : Int32) (v2 : Int32) : Option (Int32 × (Nat → Int32) × (Nat → Int32)) := (gi mn 10 (gi mn 10 (some ((mn + 1), (upd mg mn.toNatClampNeg v1), (upd mt mn.toNatClampNeg v2)))))
abbrev rm_X4_adds : Room := { frames := 0, cells := 0, slots := 0, locals := 0 }
theorem inw_X4_adds_X4 : ∀ w ∈ wsX40, w ∈ wsX4_adds := by decide +kernel
set_option maxHeartbeats 4000000 in
set_option maxRecDepth 100000 in
theorem mt_X4_adds {l : Launch} (hl : l.stackTraces = false) (D : va_G) (k : Nat → Nat) (cI cJ : ClassId) (th : Int32) (mP : Int32) (mC : Int32) (mR : Int32) (mal : Int32) (mhd : Int32) (mn : Int32) (mg : Nat → Int32) (mt : Nat → Int32) (mh : Nat → Int32) (mz : Nat → Int32) (mset : Nat → Int32) (mfr : Nat → Int32) (mma : Nat → Int32) (mde : Nat → Int32) (mls : Nat → Int32) (v1 : Int32) (v2 : Int32) (mn0 : Int32) (mg0 : Nat → Int32) (mt0 : Nat → Int32) (hp : pf_X4_adds mn mg mt v1 v2 = (some (mn0, mg0, mt0))) : gMv l yX4_adds wsX4_adds rm_X4_adds D [(cI, .int), (cJ, .long)] (mW k cI th mP mC mR mal mhd mn mg mt mh mz mset mfr mma mde mls) [.ref (k 0), .int v1, .int v2] 0 0 (fun w => w = mW k cI th mP mC mR mal mhd mn0 mg0 mt0 mh mz mset mfr mma mde mls) (fun _ _ => False) := by
  refine gMv_of (cc := cX4_adds) (maxL := 3) hl (by decide +kernel) rfl (Nat.le_of_ble_eq_true rfl) ?_
  intro p e s m args below meth c A Q C hnm ht RET OUT THR THRW
  have C : gC p l s m args meth c A D [(cI, .int), (cJ, .long)] 3 RX4 cX4_adds wsX4_adds := C
  refine gV_loc (lvs' := [(0, .ref (k 0)), (1, .int v1), (2, .int v2)]) [0, 1, 2] rfl ?_
  unfold pf_X4_adds at hp
  refine gV_aload_n C dX4_adds_0 rfl 0 rfl ?_
  refine gV_get (Cn := RX4) (T := TX4) (N := 16) C inw_X4_adds_X4 0 rfl rfl 7 (by decide) (C.w 1 rfl) rfl rfl dX4_adds_1 ?_
  refine gV_aload_n C dX4_adds_4 rfl 0 rfl ?_
  refine gV_get (Cn := RX4) (T := TX4) (N := 16) C inw_X4_adds_X4 0 rfl rfl 6 (by decide) (C.w 2 rfl) rfl rfl dX4_adds_5 ?_
  refine gV_iload_n C dX4_adds_8 rfl 1 rfl ?_
  obtain ⟨hi9, hp⟩ := g_idx hp
  refine gV_iast (ws' := mW k cI th mP mC mR mal mhd mn (upd mg mn.toNatClampNeg v1) mt mh mz mset mfr mma mde mls) C 1 rfl 0 rfl hi9 dX4_adds_9 rfl ?_
  refine gV_aload_n C dX4_adds_10 rfl 0 rfl ?_
  refine gV_get (Cn := RX4) (T := TX4) (N := 16) C inw_X4_adds_X4 0 rfl rfl 8 (by decide) (C.w 3 rfl) rfl rfl dX4_adds_11 ?_
  refine gV_aload_n C dX4_adds_14 rfl 0 rfl ?_
  refine gV_get (Cn := RX4) (T := TX4) (N := 16) C inw_X4_adds_X4 0 rfl rfl 6 (by decide) (C.w 2 rfl) rfl rfl dX4_adds_15 ?_
  refine gV_iload_n C dX4_adds_18 rfl 2 rfl ?_
  obtain ⟨hi19, hp⟩ := g_idx hp
  refine gV_iast (ws' := mW k cI th mP mC mR mal mhd mn (upd mg mn.toNatClampNeg v1) (upd mt mn.toNatClampNeg v2) mh mz mset mfr mma mde mls) C 2 rfl 0 rfl hi19 dX4_adds_19 rfl ?_
  refine gV_aload_n C dX4_adds_20 rfl 0 rfl ?_
  refine gV_dup C dX4_adds_21 rfl ?_
  refine gV_get (Cn := RX4) (T := TX4) (N := 16) C inw_X4_adds_X4 0 rfl rfl 6 (by decide) (C.w 2 rfl) rfl rfl dX4_adds_22 ?_
  refine gV_iconst (v := 1) C dX4_adds_25 rfl ?_
  refine gV_iadd C dX4_adds_26 ?_
  refine gV_put (Cn := RX4) (T := TX4) (N := 16) (ws' := mW k cI th mP mC mR mal mhd (mn + 1) (upd mg mn.toNatClampNeg v1) (upd mt mn.toNatClampNeg v2) mh mz mset mfr mma mde mls) C inw_X4_adds_X4 tyX4_ok nmX4 0 rfl rfl 6 (by decide) (C.w 2 rfl) rfl rfl rfl rfl rfl (Nat.le_of_ble_eq_true rfl) dX4_adds_27 rfl ?_
  obtain ⟨rfl, rfl, rfl⟩ := g_so3 hp
  exact RET _ _ _ _ _ dX4_adds_30 (Nat.le_of_ble_eq_true rfl) (Nat.le_of_ble_eq_true rfl) rfl
def pf_X4_guess_j35 (v1 : Int32) (mP : Int32) (mC : Int32) (mhd : Int32) (s0 : Int32) (th : Int32) (mn : Int32) (mg : Nat → Int32) (mt : Nat → Int32) (mh : Nat → Int32) : Option (Int32 × Int32 × Int32 × (Nat → Int32) × (Nat → Int32) × (Nat → Int32)) := (if s0 ≤ 0 then (ob2 (pf_X4_markOfRows mP mC mh v1 mhd) fun r53 mh_53 => (ob3 (pf_X4_adds mn mg mt v1 r53) fun mn_60 mg_60 mt_60 => (some (r53, s0, mn_60, mg_60, mt_60, mh_53)))) else (some (0, s0, mn, mg, mt, mh)))
def pf_X4_guess_j30 (v1 : Int32) (mP : Int32) (mC : Int32) (mhd : Int32) (th : Int32) (mn : Int32) (mg : Nat → Int32) (mt : Nat → Int32) (mh : Nat → Int32) : Option (Int32 × Int32 × Int32 × (Nat → Int32) × (Nat → Int32) × (Nat → Int32)) := (pf_X4_guess_j35 v1 mP mC mhd 2 th mn mg mt mh)
def pf_X4_guess  (th : Int32) (mP : Int32) (mC : Int32) (mR : Int32) (mhd : Int32) (mn : Int32) (mg : Nat → Int32) (mt : Nat → Int32) (mh : Nat → Int32) (v1 : Int32) : Option (Int32 × Int32 × Int32 × (Nat → Int32) × (Nat → Int32) × (Nat → Int32)) := (ob1 (pf_X4_isRow mR v1) fun r3 => (if r3 = 0 then (pf_X4_guess_j35 v1 mP mC mhd 1 th mn mg mt mh) else (if mhd = (-1) then (pf_X4_guess_j30 v1 mP mC mhd th mn mg mt mh) else (if mn = 10 then (pf_X4_guess_j30 v1 mP mC mhd th mn mg mt mh) else (pf_X4_guess_j35 v1 mP mC mhd 0 th mn mg mt mh)))))
abbrev rm_X4_guess : Room := { frames := 2, cells := 0, slots := 0, locals := 43 }
theorem inw_X4_guess_X4 : ∀ w ∈ wsX40, w ∈ wsX4_guess := by decide +kernel
theorem hdv_X4_adds : yX4_adds.cls = RX4 ∧ yX4_adds.cls ≠ "java/lang/invoke/MethodHandle" ∧ yX4_adds.cls ≠ "java/lang/invoke/VarHandle" ∧ (parseMethodDescriptor yX4_adds.desc).map (fun d => d.parameters.length) = some 2 := by decide +kernel
set_option maxHeartbeats 4000000 in
set_option maxRecDepth 100000 in
theorem mt_X4_guess {l : Launch} (hl : l.stackTraces = false) (D : va_G) (k : Nat → Nat) (cI cJ : ClassId) (th : Int32) (mP : Int32) (mC : Int32) (mR : Int32) (mal : Int32) (mhd : Int32) (mn : Int32) (mg : Nat → Int32) (mt : Nat → Int32) (mh : Nat → Int32) (mz : Nat → Int32) (mset : Nat → Int32) (mfr : Nat → Int32) (mma : Nat → Int32) (mde : Nat → Int32) (mls : Nat → Int32) (v1 : Int32) (r0 : Int32) (th0 : Int32) (mn0 : Int32) (mg0 : Nat → Int32) (mt0 : Nat → Int32) (mh0 : Nat → Int32) (hp : pf_X4_guess th mP mC mR mhd mn mg mt mh v1 = (some (r0, th0, mn0, mg0, mt0, mh0))) : gMi l yX4_guess wsX4_guess rm_X4_guess D [(cI, .int), (cJ, .long)] (mW k cI th mP mC mR mal mhd mn mg mt mh mz mset mfr mma mde mls) [.ref (k 0), .int v1] 0 0 (fun r w => r = r0 ∧ w = mW k cI th0 mP mC mR mal mhd mn0 mg0 mt0 mh0 mz mset mfr mma mde mls) (fun _ _ => False) := by
  refine gMi_of (cc := cX4_guess) (maxL := 3) (rt := .int) hl (by decide +kernel) rfl (Nat.le_of_ble_eq_true rfl) ?_
  intro p e s m args below meth c A Q C hnm ht RET OUT THR THRW
  have C : gC p l s m args meth c A D [(cI, .int), (cJ, .long)] 3 RX4 cX4_guess wsX4_guess := C
  refine gV_loc (lvs' := [(0, .ref (k 0)), (1, .int v1)]) [0, 1] rfl ?_
  unfold pf_X4_guess at hp
  have J35 : ∀ (s0 : Int32) (th : Int32) (mn : Int32) (mg : Nat → Int32) (mt : Nat → Int32) (mh : Nat → Int32), pf_X4_guess_j35 v1 mP mC mhd s0 th mn mg mt mh = (some (r0, th0, mn0, mg0, mt0, mh0)) → gV p l e rm_X4_guess s m args below meth c A D 3 Q (mW k cI th mP mC mR mal mhd mn mg mt mh mz mset mfr mma mde mls) [(0, .ref (k 0)), (1, .int v1)] 0 0 35 [.int s0, .ref (k 0)] := by
    intro s0 th mn mg mt mh hp
    unfold pf_X4_guess_j35 at hp
    refine gV_put (Cn := RX4) (T := TX4) (N := 16) (ws' := mW k cI s0 mP mC mR mal mhd mn mg mt mh mz mset mfr mma mde mls) C inw_X4_guess_X4 tyX4_ok nmX4 0 rfl rfl 0 (by decide) (C.w 3 rfl) rfl rfl rfl rfl rfl (Nat.le_of_ble_eq_true rfl) dX4_guess_35 rfl ?_
    refine gV_aload_n C dX4_guess_38 rfl 0 rfl ?_
    refine gV_get (Cn := RX4) (T := TX4) (N := 16) C inw_X4_guess_X4 0 rfl rfl 0 (by decide) (C.w 3 rfl) rfl rfl dX4_guess_39 ?_
    refine gV_if_le (tgt := 47) C dX4_guess_42 (by decide) (fun c42 => ?_) (fun c42 => ?_)
    · replace hp := g_ift hp c42
      refine gV_aload_n C dX4_guess_47 rfl 0 rfl ?_
      refine gV_iload_n C dX4_guess_48 rfl 1 rfl ?_
      refine gV_aload_n C dX4_guess_49 rfl 0 rfl ?_
      refine gV_get (Cn := RX4) (T := TX4) (N := 16) C inw_X4_guess_X4 0 rfl rfl 5 (by decide) (C.w 1 rfl) rfl rfl dX4_guess_50 ?_
      obtain ⟨r53q, mh_53, hq53, hp⟩ := g_ob2 hp
      refine gV_calliS C (gV_runV (As := [.int v1, .int mhd]) (rest := []) C (mt_X4_markOfRows hl D k cI cJ s0 mP mC mR mal mhd mn mg mt mh mz mset mfr mma mde mls v1 mhd r53q mh_53 hq53) (cwV 2 C.2.2.2.2.1 gX4_guess_X4_markOfRows rfl rfl rfl hdv_X4_markOfRows ⟨Nat.le_of_ble_eq_true rfl, Nat.le_of_ble_eq_true rfl⟩) (gSub_S _) 0 rfl rfl rfl rfl (Nat.le_of_ble_eq_true rfl) dX4_guess_53 ⟨Nat.le_of_ble_eq_true rfl, Nat.le_of_ble_eq_true rfl⟩) (fun _ _ hx => False.elim hx) (fun r53 w1 hw => ?_)
      obtain ⟨rfl, rfl⟩ := hw
      refine gV_istore_n (lvs' := [(2, .int r53), (0, .ref (k 0)), (1, .int v1)]) C dX4_guess_56 rfl (by decide) rfl ?_
      refine gV_aload_n C dX4_guess_57 rfl 1 rfl ?_
      refine gV_iload_n C dX4_guess_58 rfl 2 rfl ?_
      refine gV_iload_n C dX4_guess_59 rfl 0 rfl ?_
      obtain ⟨mn_60, mg_60, mt_60, hq60, hp⟩ := g_ob3 hp
      refine gV_callvS C (gV_runV (As := [.int v1, .int r53]) (rest := []) C (mt_X4_adds hl D k cI cJ s0 mP mC mR mal mhd mn mg mt mh_53 mz mset mfr mma mde mls v1 r53 mn_60 mg_60 mt_60 hq60) (cwV 2 C.2.2.2.2.1 gX4_guess_X4_adds rfl rfl rfl hdv_X4_adds ⟨Nat.le_of_ble_eq_true rfl, Nat.le_of_ble_eq_true rfl⟩) (gSub_S _) 0 rfl rfl rfl rfl (Nat.le_of_ble_eq_true rfl) dX4_guess_60 ⟨Nat.le_of_ble_eq_true rfl, Nat.le_of_ble_eq_true rfl⟩) (fun _ _ hx => False.elim hx) (fun w1 hw => ?_)
      obtain rfl := hw
      refine gV_iload_n C dX4_guess_63 rfl 0 rfl ?_
      obtain ⟨rfl, rfl, rfl, rfl, rfl, rfl⟩ := g_so6 hp
      exact RET _ _ _ _ _ _ dX4_guess_64 (Nat.le_of_ble_eq_true rfl) (Nat.le_of_ble_eq_true rfl) rfl ⟨rfl, rfl⟩
    · replace hp := g_iff hp c42
      refine gV_iconst (v := 0) C dX4_guess_45 rfl ?_
      obtain ⟨rfl, rfl, rfl, rfl, rfl, rfl⟩ := g_so6 hp
      exact RET _ _ _ _ _ _ dX4_guess_46 (Nat.le_of_ble_eq_true rfl) (Nat.le_of_ble_eq_true rfl) rfl ⟨rfl, rfl⟩
  have J30 : ∀ (th : Int32) (mn : Int32) (mg : Nat → Int32) (mt : Nat → Int32) (mh : Nat → Int32), pf_X4_guess_j30 v1 mP mC mhd th mn mg mt mh = (some (r0, th0, mn0, mg0, mt0, mh0)) → gV p l e rm_X4_guess s m args below meth c A D 3 Q (mW k cI th mP mC mR mal mhd mn mg mt mh mz mset mfr mma mde mls) [(0, .ref (k 0)), (1, .int v1)] 0 0 30 [.ref (k 0)] := by
    intro th mn mg mt mh hp
    unfold pf_X4_guess_j30 at hp
    refine gV_iconst (v := 2) C dX4_guess_30 rfl ?_
    refine gV_goto (tgt := 35) C dX4_guess_31 (by decide) ?_
    exact J35 2 th mn mg mt mh hp
  refine gV_aload_n C dX4_guess_0 rfl 0 rfl ?_
  refine gV_aload_n C dX4_guess_1 rfl 0 rfl ?_
  refine gV_iload_n C dX4_guess_2 rfl 1 rfl ?_
  obtain ⟨r3q, hq3, hp⟩ := g_ob1 hp
  refine gV_calliS C (gV_runV (As := [.int v1]) (rest := [.ref (k 0)]) C (mt_X4_isRow hl D k cI cJ th mP mC mR mal mhd mn mg mt mh mz mset mfr mma mde mls v1 r3q hq3) (cwV 1 C.2.2.2.2.1 gX4_guess_X4_isRow rfl rfl rfl hdv_X4_isRow ⟨Nat.le_of_ble_eq_true rfl, Nat.le_of_ble_eq_true rfl⟩) (gSub_S _) 0 rfl rfl rfl rfl (Nat.le_of_ble_eq_true rfl) dX4_guess_3 ⟨Nat.le_of_ble_eq_true rfl, Nat.le_of_ble_eq_true rfl⟩) (fun _ _ hx => False.elim hx) (fun r3 w1 hw => ?_)
  obtain ⟨rfl, rfl⟩ := hw
  refine gV_if_ne (tgt := 13) C dX4_guess_6 (by decide) (fun c6 => ?_) (fun c6 => ?_)
  · replace hp := g_iff hp c6
    refine gV_aload_n C dX4_guess_13 rfl 0 rfl ?_
    refine gV_get (Cn := RX4) (T := TX4) (N := 16) C inw_X4_guess_X4 0 rfl rfl 5 (by decide) (C.w 1 rfl) rfl rfl dX4_guess_14 ?_
    refine gV_iconst (v := (-1)) C dX4_guess_17 rfl ?_
    refine gV_icmp_eq (tgt := 30) C dX4_guess_18 (by decide) (fun c18 => ?_) (fun c18 => ?_)
    · replace hp := g_ift hp c18
      exact J30 th mn mg mt mh hp
    · replace hp := g_iff hp c18
      refine gV_aload_n C dX4_guess_21 rfl 0 rfl ?_
      refine gV_get (Cn := RX4) (T := TX4) (N := 16) C inw_X4_guess_X4 0 rfl rfl 6 (by decide) (C.w 2 rfl) rfl rfl dX4_guess_22 ?_
      refine gV_bipush (v := 10) C dX4_guess_25 rfl ?_
      refine gV_icmp_ne (tgt := 34) C dX4_guess_27 (by decide) (fun c27 => ?_) (fun c27 => ?_)
      · replace hp := g_iff hp c27
        refine gV_iconst (v := 0) C dX4_guess_34 rfl ?_
        exact J35 0 th mn mg mt mh hp
      · replace hp := g_ift hp c27
        exact J30 th mn mg mt mh hp
  · replace hp := g_ift hp c6
    refine gV_iconst (v := 1) C dX4_guess_9 rfl ?_
    refine gV_goto (tgt := 35) C dX4_guess_10 (by decide) ?_
    exact J35 1 th mn mg mt mh hp
def pf_X4_manyLeft_j26  (kL4 : Int32 → Int32 → (Nat → Int32) → Option (Int32 × (Nat → Int32))) (v2 : Int32) (s0 : Int32) (s1 : Int32) (mh : Nat → Int32) : Option (Int32 × (Nat → Int32)) := (kL4 (s1 + s0) (v2 + 1) mh)
def pf_X4_manyLeft_L4 (mP : Int32) (mC : Int32) (mR : Int32) (mal : Int32) (mn : Int32) (mg : Nat → Int32) (mt : Nat → Int32) : Nat → Int32 → Int32 → (Nat → Int32) → Option (Int32 × (Nat → Int32))
  | 0, _, _, _ => none
  | n4 + 1, v1, v2, mh => (if mR ≤ v2 then (some (v1, mh)) else (ob2 (pf_X4_isStill mP mC mal mn mg mt mh v2) fun r15 mh_15 => (if r15 = 0 then (pf_X4_manyLeft_j26 (fun v1 v2 mh => pf_X4_manyLeft_L4 mP mC mR mal mn mg mt n4 v1 v2 mh) v2 0 v1 mh_15) else (pf_X4_manyLeft_j26 (fun v1 v2 mh => pf_X4_manyLeft_L4 mP mC mR mal mn mg mt n4 v1 v2 mh) v2 1 v1 mh_15))))
def pf_X4_manyLeft  (mP : Int32) (mC : Int32) (mR : Int32) (mal : Int32) (mn : Int32) (mg : Nat → Int32) (mt : Nat → Int32) (mh : Nat → Int32)  : Option (Int32 × (Nat → Int32)) := (pf_X4_manyLeft_L4 mP mC mR mal mn mg mt 100000 0 0 mh)
abbrev rm_X4_manyLeft : Room := { frames := 3, cells := 0, slots := 0, locals := 71 }
theorem inw_X4_manyLeft_X4 : ∀ w ∈ wsX40, w ∈ wsX4_manyLeft := by decide +kernel
set_option maxHeartbeats 4000000 in
set_option maxRecDepth 100000 in
theorem mt_X4_manyLeft {l : Launch} (hl : l.stackTraces = false) (D : va_G) (k : Nat → Nat) (cI cJ : ClassId) (th : Int32) (mP : Int32) (mC : Int32) (mR : Int32) (mal : Int32) (mhd : Int32) (mn : Int32) (mg : Nat → Int32) (mt : Nat → Int32) (mh : Nat → Int32) (mz : Nat → Int32) (mset : Nat → Int32) (mfr : Nat → Int32) (mma : Nat → Int32) (mde : Nat → Int32) (mls : Nat → Int32)  (r0 : Int32) (mh0 : Nat → Int32) (hp : pf_X4_manyLeft mP mC mR mal mn mg mt mh = (some (r0, mh0))) : gMi l yX4_manyLeft wsX4_manyLeft rm_X4_manyLeft D [(cI, .int), (cJ, .long)] (mW k cI th mP mC mR mal mhd mn mg mt mh mz mset mfr mma mde mls) [.ref (k 0)] 0 0 (fun r w => r = r0 ∧ w = mW k cI th mP mC mR mal mhd mn mg mt mh0 mz mset mfr mma mde mls) (fun _ _ => False) := by
  refine gMi_of (cc := cX4_manyLeft) (maxL := 3) (rt := .int) hl (by decide +kernel) rfl (Nat.le_of_ble_eq_true rfl) ?_
  intro p e s m args below meth c A Q C hnm ht RET OUT THR THRW
  have C : gC p l s m args meth c A D [(cI, .int), (cJ, .long)] 3 RX4 cX4_manyLeft wsX4_manyLeft := C
  refine gV_loc (lvs' := [(0, .ref (k 0))]) [0] rfl ?_
  unfold pf_X4_manyLeft at hp
  have L4 : ∀ (n4 : Nat) (v1 : Int32) (v2 : Int32) (mh : Nat → Int32), pf_X4_manyLeft_L4 mP mC mR mal mn mg mt n4 v1 v2 mh = (some (r0, mh0)) → gV p l e rm_X4_manyLeft s m args below meth c A D 3 Q (mW k cI th mP mC mR mal mhd mn mg mt mh mz mset mfr mma mde mls) [(0, .ref (k 0)), (1, .int v1), (2, .int v2)] 0 0 4 [] := by
    intro n4
    induction n4 with
    | zero => intro v1 v2 mh hp; exact g_none hp
    | succ n4 ih4 =>
      intro v1 v2 mh hp
      rw [pf_X4_manyLeft_L4.eq_2] at hp
      have J26 : ∀ (v2 : Int32) (s0 : Int32) (s1 : Int32) (mh : Nat → Int32), pf_X4_manyLeft_j26 (fun v1 v2 mh => pf_X4_manyLeft_L4 mP mC mR mal mn mg mt n4 v1 v2 mh) v2 s0 s1 mh = (some (r0, mh0)) → gV p l e rm_X4_manyLeft s m args below meth c A D 3 Q (mW k cI th mP mC mR mal mhd mn mg mt mh mz mset mfr mma mde mls) [(0, .ref (k 0)), (2, .int v2)] 0 0 26 [.int s0, .int s1] := by
        intro v2 s0 s1 mh hp
        unfold pf_X4_manyLeft_j26 at hp
        refine gV_iadd C dX4_manyLeft_26 ?_
        refine gV_istore_n (lvs' := [(1, .int (s1 + s0)), (0, .ref (k 0)), (2, .int v2)]) C dX4_manyLeft_27 rfl (by decide) rfl ?_
        refine gV_iinc (v := (v2 + 1)) (lvs' := [(2, .int (v2 + 1)), (1, .int (s1 + s0)), (0, .ref (k 0))]) C dX4_manyLeft_28 2 rfl rfl (by decide) rfl ?_
        refine gV_goto (tgt := 4) C dX4_manyLeft_31 (by decide) ?_
        refine gV_loc [2, 1, 0] rfl ?_
        exact ih4 (s1 + s0) (v2 + 1) mh hp
      refine gV_iload_n C dX4_manyLeft_4 rfl 2 rfl ?_
      refine gV_aload_n C dX4_manyLeft_5 rfl 0 rfl ?_
      refine gV_get (Cn := RX4) (T := TX4) (N := 16) C inw_X4_manyLeft_X4 0 rfl rfl 3 (by decide) (C.w 1 rfl) rfl rfl dX4_manyLeft_6 ?_
      refine gV_icmp_ge (tgt := 34) C dX4_manyLeft_9 (by decide) (fun c9 => ?_) (fun c9 => ?_)
      · replace hp := g_ift hp c9
        refine gV_iload_n C dX4_manyLeft_34 rfl 1 rfl ?_
        obtain ⟨rfl, rfl⟩ := g_so2 hp
        exact RET _ _ _ _ _ _ dX4_manyLeft_35 (Nat.le_of_ble_eq_true rfl) (Nat.le_of_ble_eq_true rfl) rfl ⟨rfl, rfl⟩
      · replace hp := g_iff hp c9
        refine gV_iload_n C dX4_manyLeft_12 rfl 1 rfl ?_
        refine gV_aload_n C dX4_manyLeft_13 rfl 0 rfl ?_
        refine gV_iload_n C dX4_manyLeft_14 rfl 2 rfl ?_
        obtain ⟨r15q, mh_15, hq15, hp⟩ := g_ob2 hp
        refine gV_calliS C (gV_runV (As := [.int v2]) (rest := [.int v1]) C (mt_X4_isStill hl D k cI cJ th mP mC mR mal mhd mn mg mt mh mz mset mfr mma mde mls v2 r15q mh_15 hq15) (cwV 1 C.2.2.2.2.1 gX4_manyLeft_X4_isStill rfl rfl rfl hdv_X4_isStill ⟨Nat.le_of_ble_eq_true rfl, Nat.le_of_ble_eq_true rfl⟩) (gSub_S _) 0 rfl rfl rfl rfl (Nat.le_of_ble_eq_true rfl) dX4_manyLeft_15 ⟨Nat.le_of_ble_eq_true rfl, Nat.le_of_ble_eq_true rfl⟩) (fun _ _ hx => False.elim hx) (fun r15 w1 hw => ?_)
        obtain ⟨rfl, rfl⟩ := hw
        refine gV_if_eq (tgt := 25) C dX4_manyLeft_18 (by decide) (fun c18 => ?_) (fun c18 => ?_)
        · replace hp := g_ift hp c18
          refine gV_iconst (v := 0) C dX4_manyLeft_25 rfl ?_
          refine gV_loc [0, 2] rfl ?_
          exact J26 v2 0 v1 mh_15 hp
        · replace hp := g_iff hp c18
          refine gV_iconst (v := 1) C dX4_manyLeft_21 rfl ?_
          refine gV_goto (tgt := 26) C dX4_manyLeft_22 (by decide) ?_
          refine gV_loc [0, 2] rfl ?_
          exact J26 v2 1 v1 mh_15 hp
  refine gV_iconst (v := 0) C dX4_manyLeft_0 rfl ?_
  refine gV_istore_n (lvs' := [(1, .int 0), (0, .ref (k 0))]) C dX4_manyLeft_1 rfl (by decide) rfl ?_
  refine gV_iconst (v := 0) C dX4_manyLeft_2 rfl ?_
  refine gV_istore_n (lvs' := [(2, .int 0), (1, .int 0), (0, .ref (k 0))]) C dX4_manyLeft_3 rfl (by decide) rfl ?_
  refine gV_loc [2, 1, 0] rfl ?_
  exact L4 100000 0 0 mh hp
def pf_X4_tell_j100 (v1 : Int32) (v2 : Int32) (mP : Int32) (mC : Int32) (mR : Int32) (mal : Int32) (th : Int32) (mn : Int32) (mg : Nat → Int32) (mt : Nat → Int32) (mh : Nat → Int32) : Option (Int32 × Int32 × Int32 × (Nat → Int32) × (Nat → Int32) × (Nat → Int32)) := (ob3 (pf_X4_adds mn mg mt v1 v2) fun mn_103 mg_103 mt_103 => (ob2 (pf_X4_manyLeft mP mC mR mal mn_103 mg_103 mt_103 mh) fun r107 mh_107 => (some (r107, th, mn_103, mg_103, mt_103, mh_107))))
def pf_X4_tell_j85 (v1 : Int32) (v2 : Int32) (mP : Int32) (mC : Int32) (mR : Int32) (mal : Int32) (s0 : Int32) (s1 : Int32) (th : Int32) (mn : Int32) (mg : Nat → Int32) (mt : Nat → Int32) (mh : Nat → Int32) : Option (Int32 × Int32 × Int32 × (Nat → Int32) × (Nat → Int32) × (Nat → Int32)) := (if (s1 + s0) ≤ mal then (pf_X4_tell_j100 v1 v2 mP mC mR mal th mn mg mt mh) else (some (0, 3, mn, mg, mt, mh)))
def pf_X4_tell_j39 (v1 : Int32) (v2 : Int32) (mP : Int32) (mC : Int32) (mR : Int32) (mal : Int32) (mhd : Int32) (s0 : Int32) (th : Int32) (mn : Int32) (mg : Nat → Int32) (mt : Nat → Int32) (mh : Nat → Int32) : Option (Int32 × Int32 × Int32 × (Nat → Int32) × (Nat → Int32) × (Nat → Int32)) := (if s0 ≤ 0 then (if mhd = (-1) then (pf_X4_tell_j100 v1 v2 mP mC mR mal s0 mn mg mt mh) else (ob2 (pf_X4_lies mP mC mn mg mt mh mhd) fun r64 mh_64 => (ob2 (pf_X4_markOfRows mP mC mh_64 v1 mhd) fun r73 mh_73 => (if r73 = v2 then (pf_X4_tell_j85 v1 v2 mP mC mR mal 0 r64 s0 mn mg mt mh_73) else (pf_X4_tell_j85 v1 v2 mP mC mR mal 1 r64 s0 mn mg mt mh_73))))) else (some (0, s0, mn, mg, mt, mh)))
def pf_X4_tell  (th : Int32) (mP : Int32) (mC : Int32) (mR : Int32) (mal : Int32) (mhd : Int32) (mn : Int32) (mg : Nat → Int32) (mt : Nat → Int32) (mh : Nat → Int32) (v1 : Int32) (v2 : Int32) : Option (Int32 × Int32 × Int32 × (Nat → Int32) × (Nat → Int32) × (Nat → Int32)) := (ob1 (pf_X4_isRow mR v1) fun r3 => (if r3 = 0 then (pf_X4_tell_j39 v1 v2 mP mC mR mal mhd 1 th mn mg mt mh) else (ob1 (pf_X4_isPossible mP v2) fun r15 => (if r15 = 0 then (pf_X4_tell_j39 v1 v2 mP mC mR mal mhd 2 th mn mg mt mh) else (if mn = 10 then (pf_X4_tell_j39 v1 v2 mP mC mR mal mhd 3 th mn mg mt mh) else (pf_X4_tell_j39 v1 v2 mP mC mR mal mhd 0 th mn mg mt mh))))))
abbrev rm_X4_tell : Room := { frames := 4, cells := 0, slots := 0, locals := 93 }
theorem inw_X4_tell_X4 : ∀ w ∈ wsX40, w ∈ wsX4_tell := by decide +kernel
theorem hdv_X4_isPossible : yX4_isPossible.cls = RX4 ∧ yX4_isPossible.cls ≠ "java/lang/invoke/MethodHandle" ∧ yX4_isPossible.cls ≠ "java/lang/invoke/VarHandle" ∧ (parseMethodDescriptor yX4_isPossible.desc).map (fun d => d.parameters.length) = some 1 := by decide +kernel
theorem hdv_X4_manyLeft : yX4_manyLeft.cls = RX4 ∧ yX4_manyLeft.cls ≠ "java/lang/invoke/MethodHandle" ∧ yX4_manyLeft.cls ≠ "java/lang/invoke/VarHandle" ∧ (parseMethodDescriptor yX4_manyLeft.desc).map (fun d => d.parameters.length) = some 0 := by decide +kernel
set_option maxHeartbeats 4000000 in
set_option maxRecDepth 100000 in
theorem mt_X4_tell {l : Launch} (hl : l.stackTraces = false) (D : va_G) (k : Nat → Nat) (cI cJ : ClassId) (th : Int32) (mP : Int32) (mC : Int32) (mR : Int32) (mal : Int32) (mhd : Int32) (mn : Int32) (mg : Nat → Int32) (mt : Nat → Int32) (mh : Nat → Int32) (mz : Nat → Int32) (mset : Nat → Int32) (mfr : Nat → Int32) (mma : Nat → Int32) (mde : Nat → Int32) (mls : Nat → Int32) (v1 : Int32) (v2 : Int32) (r0 : Int32) (th0 : Int32) (mn0 : Int32) (mg0 : Nat → Int32) (mt0 : Nat → Int32) (mh0 : Nat → Int32) (hp : pf_X4_tell th mP mC mR mal mhd mn mg mt mh v1 v2 = (some (r0, th0, mn0, mg0, mt0, mh0))) : gMi l yX4_tell wsX4_tell rm_X4_tell D [(cI, .int), (cJ, .long)] (mW k cI th mP mC mR mal mhd mn mg mt mh mz mset mfr mma mde mls) [.ref (k 0), .int v1, .int v2] 0 0 (fun r w => r = r0 ∧ w = mW k cI th0 mP mC mR mal mhd mn0 mg0 mt0 mh0 mz mset mfr mma mde mls) (fun _ _ => False) := by
  refine gMi_of (cc := cX4_tell) (maxL := 3) (rt := .int) hl (by decide +kernel) rfl (Nat.le_of_ble_eq_true rfl) ?_
  intro p e s m args below meth c A Q C hnm ht RET OUT THR THRW
  have C : gC p l s m args meth c A D [(cI, .int), (cJ, .long)] 3 RX4 cX4_tell wsX4_tell := C
  refine gV_loc (lvs' := [(0, .ref (k 0)), (1, .int v1), (2, .int v2)]) [0, 1, 2] rfl ?_
  unfold pf_X4_tell at hp
  have J100 : ∀ (th : Int32) (mn : Int32) (mg : Nat → Int32) (mt : Nat → Int32) (mh : Nat → Int32), pf_X4_tell_j100 v1 v2 mP mC mR mal th mn mg mt mh = (some (r0, th0, mn0, mg0, mt0, mh0)) → gV p l e rm_X4_tell s m args below meth c A D 3 Q (mW k cI th mP mC mR mal mhd mn mg mt mh mz mset mfr mma mde mls) [(0, .ref (k 0)), (1, .int v1), (2, .int v2)] 0 0 100 [] := by
    intro th mn mg mt mh hp
    unfold pf_X4_tell_j100 at hp
    refine gV_aload_n C dX4_tell_100 rfl 0 rfl ?_
    refine gV_iload_n C dX4_tell_101 rfl 1 rfl ?_
    refine gV_iload_n C dX4_tell_102 rfl 2 rfl ?_
    obtain ⟨mn_103, mg_103, mt_103, hq103, hp⟩ := g_ob3 hp
    refine gV_callvS C (gV_runV (As := [.int v1, .int v2]) (rest := []) C (mt_X4_adds hl D k cI cJ th mP mC mR mal mhd mn mg mt mh mz mset mfr mma mde mls v1 v2 mn_103 mg_103 mt_103 hq103) (cwV 2 C.2.2.2.2.1 gX4_tell_X4_adds rfl rfl rfl hdv_X4_adds ⟨Nat.le_of_ble_eq_true rfl, Nat.le_of_ble_eq_true rfl⟩) (gSub_S _) 0 rfl rfl rfl rfl (Nat.le_of_ble_eq_true rfl) dX4_tell_103 ⟨Nat.le_of_ble_eq_true rfl, Nat.le_of_ble_eq_true rfl⟩) (fun _ _ hx => False.elim hx) (fun w1 hw => ?_)
    obtain rfl := hw
    refine gV_aload_n C dX4_tell_106 rfl 0 rfl ?_
    obtain ⟨r107q, mh_107, hq107, hp⟩ := g_ob2 hp
    refine gV_calliS C (gV_runV (As := []) (rest := []) C (mt_X4_manyLeft hl D k cI cJ th mP mC mR mal mhd mn_103 mg_103 mt_103 mh mz mset mfr mma mde mls r107q mh_107 hq107) (cwV 0 C.2.2.2.2.1 gX4_tell_X4_manyLeft rfl rfl rfl hdv_X4_manyLeft ⟨Nat.le_of_ble_eq_true rfl, Nat.le_of_ble_eq_true rfl⟩) (gSub_S _) 0 rfl rfl rfl rfl (Nat.le_of_ble_eq_true rfl) dX4_tell_107 ⟨Nat.le_of_ble_eq_true rfl, Nat.le_of_ble_eq_true rfl⟩) (fun _ _ hx => False.elim hx) (fun r107 w1 hw => ?_)
    obtain ⟨rfl, rfl⟩ := hw
    obtain ⟨rfl, rfl, rfl, rfl, rfl, rfl⟩ := g_so6 hp
    exact RET _ _ _ _ _ _ dX4_tell_110 (Nat.le_of_ble_eq_true rfl) (Nat.le_of_ble_eq_true rfl) rfl ⟨rfl, rfl⟩
  have J85 : ∀ (s0 : Int32) (s1 : Int32) (th : Int32) (mn : Int32) (mg : Nat → Int32) (mt : Nat → Int32) (mh : Nat → Int32), pf_X4_tell_j85 v1 v2 mP mC mR mal s0 s1 th mn mg mt mh = (some (r0, th0, mn0, mg0, mt0, mh0)) → gV p l e rm_X4_tell s m args below meth c A D 3 Q (mW k cI th mP mC mR mal mhd mn mg mt mh mz mset mfr mma mde mls) [(0, .ref (k 0)), (1, .int v1), (2, .int v2)] 0 0 85 [.int s0, .int s1] := by
    intro s0 s1 th mn mg mt mh hp
    unfold pf_X4_tell_j85 at hp
    refine gV_iadd C dX4_tell_85 ?_
    refine gV_aload_n C dX4_tell_86 rfl 0 rfl ?_
    refine gV_get (Cn := RX4) (T := TX4) (N := 16) C inw_X4_tell_X4 0 rfl rfl 4 (by decide) (C.w 4 rfl) rfl rfl dX4_tell_87 ?_
    refine gV_icmp_le (tgt := 100) C dX4_tell_90 (by decide) (fun c90 => ?_) (fun c90 => ?_)
    · replace hp := g_ift hp c90
      exact J100 th mn mg mt mh hp
    · replace hp := g_iff hp c90
      refine gV_aload_n C dX4_tell_93 rfl 0 rfl ?_
      refine gV_iconst (v := 3) C dX4_tell_94 rfl ?_
      refine gV_put (Cn := RX4) (T := TX4) (N := 16) (ws' := mW k cI 3 mP mC mR mal mhd mn mg mt mh mz mset mfr mma mde mls) C inw_X4_tell_X4 tyX4_ok nmX4 0 rfl rfl 0 (by decide) (C.w 2 rfl) rfl rfl rfl rfl rfl (Nat.le_of_ble_eq_true rfl) dX4_tell_95 rfl ?_
      refine gV_iconst (v := 0) C dX4_tell_98 rfl ?_
      obtain ⟨rfl, rfl, rfl, rfl, rfl, rfl⟩ := g_so6 hp
      exact RET _ _ _ _ _ _ dX4_tell_99 (Nat.le_of_ble_eq_true rfl) (Nat.le_of_ble_eq_true rfl) rfl ⟨rfl, rfl⟩
  have J39 : ∀ (s0 : Int32) (th : Int32) (mn : Int32) (mg : Nat → Int32) (mt : Nat → Int32) (mh : Nat → Int32), pf_X4_tell_j39 v1 v2 mP mC mR mal mhd s0 th mn mg mt mh = (some (r0, th0, mn0, mg0, mt0, mh0)) → gV p l e rm_X4_tell s m args below meth c A D 3 Q (mW k cI th mP mC mR mal mhd mn mg mt mh mz mset mfr mma mde mls) [(0, .ref (k 0)), (1, .int v1), (2, .int v2)] 0 0 39 [.int s0, .ref (k 0)] := by
    intro s0 th mn mg mt mh hp
    unfold pf_X4_tell_j39 at hp
    refine gV_put (Cn := RX4) (T := TX4) (N := 16) (ws' := mW k cI s0 mP mC mR mal mhd mn mg mt mh mz mset mfr mma mde mls) C inw_X4_tell_X4 tyX4_ok nmX4 0 rfl rfl 0 (by decide) (C.w 2 rfl) rfl rfl rfl rfl rfl (Nat.le_of_ble_eq_true rfl) dX4_tell_39 rfl ?_
    refine gV_aload_n C dX4_tell_42 rfl 0 rfl ?_
    refine gV_get (Cn := RX4) (T := TX4) (N := 16) C inw_X4_tell_X4 0 rfl rfl 0 (by decide) (C.w 2 rfl) rfl rfl dX4_tell_43 ?_
    refine gV_if_le (tgt := 51) C dX4_tell_46 (by decide) (fun c46 => ?_) (fun c46 => ?_)
    · replace hp := g_ift hp c46
      refine gV_aload_n C dX4_tell_51 rfl 0 rfl ?_
      refine gV_get (Cn := RX4) (T := TX4) (N := 16) C inw_X4_tell_X4 0 rfl rfl 5 (by decide) (C.w 3 rfl) rfl rfl dX4_tell_52 ?_
      refine gV_iconst (v := (-1)) C dX4_tell_55 rfl ?_
      refine gV_icmp_eq (tgt := 100) C dX4_tell_56 (by decide) (fun c56 => ?_) (fun c56 => ?_)
      · replace hp := g_ift hp c56
        exact J100 s0 mn mg mt mh hp
      · replace hp := g_iff hp c56
        refine gV_aload_n C dX4_tell_59 rfl 0 rfl ?_
        refine gV_aload_n C dX4_tell_60 rfl 0 rfl ?_
        refine gV_get (Cn := RX4) (T := TX4) (N := 16) C inw_X4_tell_X4 0 rfl rfl 5 (by decide) (C.w 3 rfl) rfl rfl dX4_tell_61 ?_
        obtain ⟨r64q, mh_64, hq64, hp⟩ := g_ob2 hp
        refine gV_calliS C (gV_runV (As := [.int mhd]) (rest := []) C (mt_X4_lies hl D k cI cJ s0 mP mC mR mal mhd mn mg mt mh mz mset mfr mma mde mls mhd r64q mh_64 hq64) (cwV 1 C.2.2.2.2.1 gX4_tell_X4_lies rfl rfl rfl hdv_X4_lies ⟨Nat.le_of_ble_eq_true rfl, Nat.le_of_ble_eq_true rfl⟩) (gSub_S _) 0 rfl rfl rfl rfl (Nat.le_of_ble_eq_true rfl) dX4_tell_64 ⟨Nat.le_of_ble_eq_true rfl, Nat.le_of_ble_eq_true rfl⟩) (fun _ _ hx => False.elim hx) (fun r64 w1 hw => ?_)
        obtain ⟨rfl, rfl⟩ := hw
        refine gV_aload_n C dX4_tell_67 rfl 0 rfl ?_
        refine gV_iload_n C dX4_tell_68 rfl 1 rfl ?_
        refine gV_aload_n C dX4_tell_69 rfl 0 rfl ?_
        refine gV_get (Cn := RX4) (T := TX4) (N := 16) C inw_X4_tell_X4 0 rfl rfl 5 (by decide) (C.w 3 rfl) rfl rfl dX4_tell_70 ?_
        obtain ⟨r73q, mh_73, hq73, hp⟩ := g_ob2 hp
        refine gV_calliS C (gV_runV (As := [.int v1, .int mhd]) (rest := [.int r64]) C (mt_X4_markOfRows hl D k cI cJ s0 mP mC mR mal mhd mn mg mt mh_64 mz mset mfr mma mde mls v1 mhd r73q mh_73 hq73) (cwV 2 C.2.2.2.2.1 gX4_tell_X4_markOfRows rfl rfl rfl hdv_X4_markOfRows ⟨Nat.le_of_ble_eq_true rfl, Nat.le_of_ble_eq_true rfl⟩) (gSub_S _) 0 rfl rfl rfl rfl (Nat.le_of_ble_eq_true rfl) dX4_tell_73 ⟨Nat.le_of_ble_eq_true rfl, Nat.le_of_ble_eq_true rfl⟩) (fun _ _ hx => False.elim hx) (fun r73 w1 hw => ?_)
        obtain ⟨rfl, rfl⟩ := hw
        refine gV_iload_n C dX4_tell_76 rfl 2 rfl ?_
        refine gV_icmp_ne (tgt := 84) C dX4_tell_77 (by decide) (fun c77 => ?_) (fun c77 => ?_)
        · replace hp := g_iff hp c77
          refine gV_iconst (v := 1) C dX4_tell_84 rfl ?_
          exact J85 1 r64 s0 mn mg mt mh_73 hp
        · replace hp := g_ift hp c77
          refine gV_iconst (v := 0) C dX4_tell_80 rfl ?_
          refine gV_goto (tgt := 85) C dX4_tell_81 (by decide) ?_
          exact J85 0 r64 s0 mn mg mt mh_73 hp
    · replace hp := g_iff hp c46
      refine gV_iconst (v := 0) C dX4_tell_49 rfl ?_
      obtain ⟨rfl, rfl, rfl, rfl, rfl, rfl⟩ := g_so6 hp
      exact RET _ _ _ _ _ _ dX4_tell_50 (Nat.le_of_ble_eq_true rfl) (Nat.le_of_ble_eq_true rfl) rfl ⟨rfl, rfl⟩
  refine gV_aload_n C dX4_tell_0 rfl 0 rfl ?_
  refine gV_aload_n C dX4_tell_1 rfl 0 rfl ?_
  refine gV_iload_n C dX4_tell_2 rfl 1 rfl ?_
  obtain ⟨r3q, hq3, hp⟩ := g_ob1 hp
  refine gV_calliS C (gV_runV (As := [.int v1]) (rest := [.ref (k 0)]) C (mt_X4_isRow hl D k cI cJ th mP mC mR mal mhd mn mg mt mh mz mset mfr mma mde mls v1 r3q hq3) (cwV 1 C.2.2.2.2.1 gX4_tell_X4_isRow rfl rfl rfl hdv_X4_isRow ⟨Nat.le_of_ble_eq_true rfl, Nat.le_of_ble_eq_true rfl⟩) (gSub_S _) 0 rfl rfl rfl rfl (Nat.le_of_ble_eq_true rfl) dX4_tell_3 ⟨Nat.le_of_ble_eq_true rfl, Nat.le_of_ble_eq_true rfl⟩) (fun _ _ hx => False.elim hx) (fun r3 w1 hw => ?_)
  obtain ⟨rfl, rfl⟩ := hw
  refine gV_if_ne (tgt := 13) C dX4_tell_6 (by decide) (fun c6 => ?_) (fun c6 => ?_)
  · replace hp := g_iff hp c6
    refine gV_aload_n C dX4_tell_13 rfl 0 rfl ?_
    refine gV_iload_n C dX4_tell_14 rfl 2 rfl ?_
    obtain ⟨r15q, hq15, hp⟩ := g_ob1 hp
    refine gV_calliS C (gV_runV (As := [.int v2]) (rest := [.ref (k 0)]) C (mt_X4_isPossible hl D k cI cJ th mP mC mR mal mhd mn mg mt mh mz mset mfr mma mde mls v2 r15q hq15) (cwV 1 C.2.2.2.2.1 gX4_tell_X4_isPossible rfl rfl rfl hdv_X4_isPossible ⟨Nat.le_of_ble_eq_true rfl, Nat.le_of_ble_eq_true rfl⟩) (gSub_S _) 0 rfl rfl rfl rfl (Nat.le_of_ble_eq_true rfl) dX4_tell_15 ⟨Nat.le_of_ble_eq_true rfl, Nat.le_of_ble_eq_true rfl⟩) (fun _ _ hx => False.elim hx) (fun r15 w1 hw => ?_)
    obtain ⟨rfl, rfl⟩ := hw
    refine gV_if_ne (tgt := 25) C dX4_tell_18 (by decide) (fun c18 => ?_) (fun c18 => ?_)
    · replace hp := g_iff hp c18
      refine gV_aload_n C dX4_tell_25 rfl 0 rfl ?_
      refine gV_get (Cn := RX4) (T := TX4) (N := 16) C inw_X4_tell_X4 0 rfl rfl 6 (by decide) (C.w 1 rfl) rfl rfl dX4_tell_26 ?_
      refine gV_bipush (v := 10) C dX4_tell_29 rfl ?_
      refine gV_icmp_ne (tgt := 38) C dX4_tell_31 (by decide) (fun c31 => ?_) (fun c31 => ?_)
      · replace hp := g_iff hp c31
        refine gV_iconst (v := 0) C dX4_tell_38 rfl ?_
        exact J39 0 th mn mg mt mh hp
      · replace hp := g_ift hp c31
        refine gV_iconst (v := 3) C dX4_tell_34 rfl ?_
        refine gV_goto (tgt := 39) C dX4_tell_35 (by decide) ?_
        exact J39 3 th mn mg mt mh hp
    · replace hp := g_ift hp c18
      refine gV_iconst (v := 2) C dX4_tell_21 rfl ?_
      refine gV_goto (tgt := 39) C dX4_tell_22 (by decide) ?_
      exact J39 2 th mn mg mt mh hp
  · replace hp := g_ift hp c6
    refine gV_iconst (v := 1) C dX4_tell_9 rfl ?_
    refine gV_goto (tgt := 39) C dX4_tell_10 (by decide) ?_
    exact J39 1 th mn mg mt mh hp
def pf_X4_takeBack_j13 (mP : Int32) (mC : Int32) (mR : Int32) (mal : Int32) (mg : Nat → Int32) (mt : Nat → Int32) (s0 : Int32) (th : Int32) (mn : Int32) (mh : Nat → Int32) : Option (Int32 × Int32 × Int32 × (Nat → Int32)) := (if s0 ≤ 0 then (ob2 (pf_X4_manyLeft mP mC mR mal (mn - 1) mg mt mh) fun r36 mh_36 => (some (r36, s0, (mn - 1), mh_36))) else (some (0, s0, mn, mh)))
def pf_X4_takeBack  (th : Int32) (mP : Int32) (mC : Int32) (mR : Int32) (mal : Int32) (mn : Int32) (mg : Nat → Int32) (mt : Nat → Int32) (mh : Nat → Int32)  : Option (Int32 × Int32 × Int32 × (Nat → Int32)) := (if mn = 0 then (pf_X4_takeBack_j13 mP mC mR mal mg mt 1 th mn mh) else (pf_X4_takeBack_j13 mP mC mR mal mg mt 0 th mn mh))
abbrev rm_X4_takeBack : Room := { frames := 4, cells := 0, slots := 0, locals := 93 }
theorem inw_X4_takeBack_X4 : ∀ w ∈ wsX40, w ∈ wsX4_takeBack := by decide +kernel
set_option maxHeartbeats 4000000 in
set_option maxRecDepth 100000 in
theorem mt_X4_takeBack {l : Launch} (hl : l.stackTraces = false) (D : va_G) (k : Nat → Nat) (cI cJ : ClassId) (th : Int32) (mP : Int32) (mC : Int32) (mR : Int32) (mal : Int32) (mhd : Int32) (mn : Int32) (mg : Nat → Int32) (mt : Nat → Int32) (mh : Nat → Int32) (mz : Nat → Int32) (mset : Nat → Int32) (mfr : Nat → Int32) (mma : Nat → Int32) (mde : Nat → Int32) (mls : Nat → Int32)  (r0 : Int32) (th0 : Int32) (mn0 : Int32) (mh0 : Nat → Int32) (hp : pf_X4_takeBack th mP mC mR mal mn mg mt mh = (some (r0, th0, mn0, mh0))) : gMi l yX4_takeBack wsX4_takeBack rm_X4_takeBack D [(cI, .int), (cJ, .long)] (mW k cI th mP mC mR mal mhd mn mg mt mh mz mset mfr mma mde mls) [.ref (k 0)] 0 0 (fun r w => r = r0 ∧ w = mW k cI th0 mP mC mR mal mhd mn0 mg mt mh0 mz mset mfr mma mde mls) (fun _ _ => False) := by
  refine gMi_of (cc := cX4_takeBack) (maxL := 1) (rt := .int) hl (by decide +kernel) rfl (Nat.le_of_ble_eq_true rfl) ?_
  intro p e s m args below meth c A Q C hnm ht RET OUT THR THRW
  have C : gC p l s m args meth c A D [(cI, .int), (cJ, .long)] 1 RX4 cX4_takeBack wsX4_takeBack := C
  refine gV_loc (lvs' := [(0, .ref (k 0))]) [0] rfl ?_
  unfold pf_X4_takeBack at hp
  have J13 : ∀ (s0 : Int32) (th : Int32) (mn : Int32) (mh : Nat → Int32), pf_X4_takeBack_j13 mP mC mR mal mg mt s0 th mn mh = (some (r0, th0, mn0, mh0)) → gV p l e rm_X4_takeBack s m args below meth c A D 1 Q (mW k cI th mP mC mR mal mhd mn mg mt mh mz mset mfr mma mde mls) [(0, .ref (k 0))] 0 0 13 [.int s0, .ref (k 0)] := by
    intro s0 th mn mh hp
    unfold pf_X4_takeBack_j13 at hp
    refine gV_put (Cn := RX4) (T := TX4) (N := 16) (ws' := mW k cI s0 mP mC mR mal mhd mn mg mt mh mz mset mfr mma mde mls) C inw_X4_takeBack_X4 tyX4_ok nmX4 0 rfl rfl 0 (by decide) (C.w 2 rfl) rfl rfl rfl rfl rfl (Nat.le_of_ble_eq_true rfl) dX4_takeBack_13 rfl ?_
    refine gV_aload_n C dX4_takeBack_16 rfl 0 rfl ?_
    refine gV_get (Cn := RX4) (T := TX4) (N := 16) C inw_X4_takeBack_X4 0 rfl rfl 0 (by decide) (C.w 2 rfl) rfl rfl dX4_takeBack_17 ?_
    refine gV_if_le (tgt := 25) C dX4_takeBack_20 (by decide) (fun c20 => ?_) (fun c20 => ?_)
    · replace hp := g_ift hp c20
      refine gV_aload_n C dX4_takeBack_25 rfl 0 rfl ?_
      refine gV_dup C dX4_takeBack_26 rfl ?_
      refine gV_get (Cn := RX4) (T := TX4) (N := 16) C inw_X4_takeBack_X4 0 rfl rfl 6 (by decide) (C.w 1 rfl) rfl rfl dX4_takeBack_27 ?_
      refine gV_iconst (v := 1) C dX4_takeBack_30 rfl ?_
      refine gV_isub C dX4_takeBack_31 ?_
      refine gV_put (Cn := RX4) (T := TX4) (N := 16) (ws' := mW k cI s0 mP mC mR mal mhd (mn - 1) mg mt mh mz mset mfr mma mde mls) C inw_X4_takeBack_X4 tyX4_ok nmX4 0 rfl rfl 6 (by decide) (C.w 1 rfl) rfl rfl rfl rfl rfl (Nat.le_of_ble_eq_true rfl) dX4_takeBack_32 rfl ?_
      refine gV_aload_n C dX4_takeBack_35 rfl 0 rfl ?_
      obtain ⟨r36q, mh_36, hq36, hp⟩ := g_ob2 hp
      refine gV_calliS C (gV_runV (As := []) (rest := []) C (mt_X4_manyLeft hl D k cI cJ s0 mP mC mR mal mhd (mn - 1) mg mt mh mz mset mfr mma mde mls r36q mh_36 hq36) (cwV 0 C.2.2.2.2.1 gX4_takeBack_X4_manyLeft rfl rfl rfl hdv_X4_manyLeft ⟨Nat.le_of_ble_eq_true rfl, Nat.le_of_ble_eq_true rfl⟩) (gSub_S _) 0 rfl rfl rfl rfl (Nat.le_of_ble_eq_true rfl) dX4_takeBack_36 ⟨Nat.le_of_ble_eq_true rfl, Nat.le_of_ble_eq_true rfl⟩) (fun _ _ hx => False.elim hx) (fun r36 w1 hw => ?_)
      obtain ⟨rfl, rfl⟩ := hw
      obtain ⟨rfl, rfl, rfl, rfl⟩ := g_so4 hp
      exact RET _ _ _ _ _ _ dX4_takeBack_39 (Nat.le_of_ble_eq_true rfl) (Nat.le_of_ble_eq_true rfl) rfl ⟨rfl, rfl⟩
    · replace hp := g_iff hp c20
      refine gV_iconst (v := 0) C dX4_takeBack_23 rfl ?_
      obtain ⟨rfl, rfl, rfl, rfl⟩ := g_so4 hp
      exact RET _ _ _ _ _ _ dX4_takeBack_24 (Nat.le_of_ble_eq_true rfl) (Nat.le_of_ble_eq_true rfl) rfl ⟨rfl, rfl⟩
  refine gV_aload_n C dX4_takeBack_0 rfl 0 rfl ?_
  refine gV_aload_n C dX4_takeBack_1 rfl 0 rfl ?_
  refine gV_get (Cn := RX4) (T := TX4) (N := 16) C inw_X4_takeBack_X4 0 rfl rfl 6 (by decide) (C.w 1 rfl) rfl rfl dX4_takeBack_2 ?_
  refine gV_if_ne (tgt := 12) C dX4_takeBack_5 (by decide) (fun c5 => ?_) (fun c5 => ?_)
  · replace hp := g_iff hp c5
    refine gV_iconst (v := 0) C dX4_takeBack_12 rfl ?_
    exact J13 0 th mn mh hp
  · replace hp := g_ift hp c5
    refine gV_iconst (v := 1) C dX4_takeBack_8 rfl ?_
    refine gV_goto (tgt := 13) C dX4_takeBack_9 (by decide) ?_
    exact J13 1 th mn mh hp
def pf_X4_entries  (th : Int32) (mn : Int32)  : Option (Int32 × Int32) := (some (mn, 0))
abbrev rm_X4_entries : Room := { frames := 0, cells := 0, slots := 0, locals := 0 }
theorem inw_X4_entries_X4 : ∀ w ∈ wsX40, w ∈ wsX4_entries := by decide +kernel
set_option maxHeartbeats 4000000 in
set_option maxRecDepth 100000 in
theorem mt_X4_entries {l : Launch} (hl : l.stackTraces = false) (D : va_G) (k : Nat → Nat) (cI cJ : ClassId) (th : Int32) (mP : Int32) (mC : Int32) (mR : Int32) (mal : Int32) (mhd : Int32) (mn : Int32) (mg : Nat → Int32) (mt : Nat → Int32) (mh : Nat → Int32) (mz : Nat → Int32) (mset : Nat → Int32) (mfr : Nat → Int32) (mma : Nat → Int32) (mde : Nat → Int32) (mls : Nat → Int32)  (r0 : Int32) (th0 : Int32) (hp : pf_X4_entries th mn = (some (r0, th0))) : gMi l yX4_entries wsX4_entries rm_X4_entries D [(cI, .int), (cJ, .long)] (mW k cI th mP mC mR mal mhd mn mg mt mh mz mset mfr mma mde mls) [.ref (k 0)] 0 0 (fun r w => r = r0 ∧ w = mW k cI th0 mP mC mR mal mhd mn mg mt mh mz mset mfr mma mde mls) (fun _ _ => False) := by
  refine gMi_of (cc := cX4_entries) (maxL := 1) (rt := .int) hl (by decide +kernel) rfl (Nat.le_of_ble_eq_true rfl) ?_
  intro p e s m args below meth c A Q C hnm ht RET OUT THR THRW
  have C : gC p l s m args meth c A D [(cI, .int), (cJ, .long)] 1 RX4 cX4_entries wsX4_entries := C
  refine gV_loc (lvs' := [(0, .ref (k 0))]) [0] rfl ?_
  unfold pf_X4_entries at hp
  refine gV_aload_n C dX4_entries_0 rfl 0 rfl ?_
  refine gV_iconst (v := 0) C dX4_entries_1 rfl ?_
  refine gV_put (Cn := RX4) (T := TX4) (N := 16) (ws' := mW k cI 0 mP mC mR mal mhd mn mg mt mh mz mset mfr mma mde mls) C inw_X4_entries_X4 tyX4_ok nmX4 0 rfl rfl 0 (by decide) (C.w 1 rfl) rfl rfl rfl rfl rfl (Nat.le_of_ble_eq_true rfl) dX4_entries_2 rfl ?_
  refine gV_aload_n C dX4_entries_5 rfl 0 rfl ?_
  refine gV_get (Cn := RX4) (T := TX4) (N := 16) C inw_X4_entries_X4 0 rfl rfl 6 (by decide) (C.w 2 rfl) rfl rfl dX4_entries_6 ?_
  obtain ⟨rfl, rfl⟩ := g_so2 hp
  exact RET _ _ _ _ _ _ dX4_entries_9 (Nat.le_of_ble_eq_true rfl) (Nat.le_of_ble_eq_true rfl) rfl ⟨rfl, rfl⟩
def pf_X4_isEntry  (mn : Int32) (v1 : Int32) : Option (Int32) := (ob1 (pf_X4_in v1 0 (mn - 1)) fun r8 => (gz r8 ((some r8))))
abbrev rm_X4_isEntry : Room := { frames := 1, cells := 0, slots := 0, locals := 22 }
theorem inw_X4_isEntry_X4 : ∀ w ∈ wsX40, w ∈ wsX4_isEntry := by decide +kernel
set_option maxHeartbeats 4000000 in
set_option maxRecDepth 100000 in
theorem mt_X4_isEntry {l : Launch} (hl : l.stackTraces = false) (D : va_G) (k : Nat → Nat) (cI cJ : ClassId) (th : Int32) (mP : Int32) (mC : Int32) (mR : Int32) (mal : Int32) (mhd : Int32) (mn : Int32) (mg : Nat → Int32) (mt : Nat → Int32) (mh : Nat → Int32) (mz : Nat → Int32) (mset : Nat → Int32) (mfr : Nat → Int32) (mma : Nat → Int32) (mde : Nat → Int32) (mls : Nat → Int32) (v1 : Int32) (r0 : Int32) (hp : pf_X4_isEntry mn v1 = (some r0)) : gMi l yX4_isEntry wsX4_isEntry rm_X4_isEntry D [(cI, .int), (cJ, .long)] (mW k cI th mP mC mR mal mhd mn mg mt mh mz mset mfr mma mde mls) [.ref (k 0), .int v1] 0 0 (fun r w => r = r0 ∧ w = mW k cI th mP mC mR mal mhd mn mg mt mh mz mset mfr mma mde mls) (fun _ _ => False) := by
  refine gMi_of (cc := cX4_isEntry) (maxL := 2) (rt := .boolean) hl (by decide +kernel) rfl (Nat.le_of_ble_eq_true rfl) ?_
  intro p e s m args below meth c A Q C hnm ht RET OUT THR THRW
  have C : gC p l s m args meth c A D [(cI, .int), (cJ, .long)] 2 RX4 cX4_isEntry wsX4_isEntry := C
  refine gV_loc (lvs' := [(0, .ref (k 0)), (1, .int v1)]) [0, 1] rfl ?_
  unfold pf_X4_isEntry at hp
  refine gV_iload_n C dX4_isEntry_0 rfl 1 rfl ?_
  refine gV_iconst (v := 0) C dX4_isEntry_1 rfl ?_
  refine gV_aload_n C dX4_isEntry_2 rfl 0 rfl ?_
  refine gV_get (Cn := RX4) (T := TX4) (N := 16) C inw_X4_isEntry_X4 0 rfl rfl 6 (by decide) (C.w 1 rfl) rfl rfl dX4_isEntry_3 ?_
  refine gV_iconst (v := 1) C dX4_isEntry_6 rfl ?_
  refine gV_isub C dX4_isEntry_7 ?_
  obtain ⟨r8q, hq8, hp⟩ := g_ob1 hp
  refine gV_calliE C (gV_runS (As := [.int v1, .int 0, .int (mn - 1)]) (rest := []) C (mt_X4_in hl D cI cJ v1 0 (mn - 1) r8q hq8) (va_cwS 3 C.2.2.2.2.1 gX4_isEntry_X4_in rfl rfl rfl hds_X4_in ⟨Nat.le_of_ble_eq_true rfl, Nat.le_of_ble_eq_true rfl⟩) (gSub_E _) rfl rfl (Nat.le_of_ble_eq_true rfl) dX4_isEntry_8 ⟨Nat.le_of_ble_eq_true rfl, Nat.le_of_ble_eq_true rfl⟩) (fun _ _ hx => False.elim hx) (fun r8 w1 hw => ?_)
  obtain ⟨rfl, rfl⟩ := hw
  refine ⟨rfl, ?_⟩
  obtain ⟨hz11, hp⟩ := g_bool hp
  obtain rfl := g_so1 hp
  exact RET _ _ _ _ _ _ dX4_isEntry_11 (Nat.le_of_ble_eq_true rfl) (Nat.le_of_ble_eq_true rfl) (g_nz hz11) ⟨rfl, rfl⟩
def pf_X4_guessOf_j34  (s0 : Int32) (th : Int32) : Option (Int32 × Int32) := (some (s0, th))
def pf_X4_guessOf_j14 (v1 : Int32) (mg : Nat → Int32) (s0 : Int32) (th : Int32) : Option (Int32 × Int32) := (if s0 ≤ 0 then (gi v1 10 (pf_X4_guessOf_j34 (mg v1.toNatClampNeg) s0)) else (pf_X4_guessOf_j34 0 s0))
def pf_X4_guessOf  (th : Int32) (mn : Int32) (mg : Nat → Int32) (v1 : Int32) : Option (Int32 × Int32) := (ob1 (pf_X4_isEntry mn v1) fun r3 => (if r3 = 0 then (pf_X4_guessOf_j14 v1 mg 1 th) else (pf_X4_guessOf_j14 v1 mg 0 th)))
abbrev rm_X4_guessOf : Room := { frames := 2, cells := 0, slots := 0, locals := 43 }
theorem inw_X4_guessOf_X4 : ∀ w ∈ wsX40, w ∈ wsX4_guessOf := by decide +kernel
theorem hdv_X4_isEntry : yX4_isEntry.cls = RX4 ∧ yX4_isEntry.cls ≠ "java/lang/invoke/MethodHandle" ∧ yX4_isEntry.cls ≠ "java/lang/invoke/VarHandle" ∧ (parseMethodDescriptor yX4_isEntry.desc).map (fun d => d.parameters.length) = some 1 := by decide +kernel
set_option maxHeartbeats 4000000 in
set_option maxRecDepth 100000 in
theorem mt_X4_guessOf {l : Launch} (hl : l.stackTraces = false) (D : va_G) (k : Nat → Nat) (cI cJ : ClassId) (th : Int32) (mP : Int32) (mC : Int32) (mR : Int32) (mal : Int32) (mhd : Int32) (mn : Int32) (mg : Nat → Int32) (mt : Nat → Int32) (mh : Nat → Int32) (mz : Nat → Int32) (mset : Nat → Int32) (mfr : Nat → Int32) (mma : Nat → Int32) (mde : Nat → Int32) (mls : Nat → Int32) (v1 : Int32) (r0 : Int32) (th0 : Int32) (hp : pf_X4_guessOf th mn mg v1 = (some (r0, th0))) : gMi l yX4_guessOf wsX4_guessOf rm_X4_guessOf D [(cI, .int), (cJ, .long)] (mW k cI th mP mC mR mal mhd mn mg mt mh mz mset mfr mma mde mls) [.ref (k 0), .int v1] 0 0 (fun r w => r = r0 ∧ w = mW k cI th0 mP mC mR mal mhd mn mg mt mh mz mset mfr mma mde mls) (fun _ _ => False) := by
  refine gMi_of (cc := cX4_guessOf) (maxL := 2) (rt := .int) hl (by decide +kernel) rfl (Nat.le_of_ble_eq_true rfl) ?_
  intro p e s m args below meth c A Q C hnm ht RET OUT THR THRW
  have C : gC p l s m args meth c A D [(cI, .int), (cJ, .long)] 2 RX4 cX4_guessOf wsX4_guessOf := C
  refine gV_loc (lvs' := [(0, .ref (k 0)), (1, .int v1)]) [0, 1] rfl ?_
  unfold pf_X4_guessOf at hp
  have J34 : ∀ (s0 : Int32) (th : Int32), pf_X4_guessOf_j34 s0 th = (some (r0, th0)) → gV p l e rm_X4_guessOf s m args below meth c A D 2 Q (mW k cI th mP mC mR mal mhd mn mg mt mh mz mset mfr mma mde mls) [(0, .ref (k 0))] 0 0 34 [.int s0] := by
    intro s0 th hp
    unfold pf_X4_guessOf_j34 at hp
    obtain ⟨rfl, rfl⟩ := g_so2 hp
    exact RET _ _ _ _ _ _ dX4_guessOf_34 (Nat.le_of_ble_eq_true rfl) (Nat.le_of_ble_eq_true rfl) rfl ⟨rfl, rfl⟩
  have J14 : ∀ (s0 : Int32) (th : Int32), pf_X4_guessOf_j14 v1 mg s0 th = (some (r0, th0)) → gV p l e rm_X4_guessOf s m args below meth c A D 2 Q (mW k cI th mP mC mR mal mhd mn mg mt mh mz mset mfr mma mde mls) [(0, .ref (k 0)), (1, .int v1)] 0 0 14 [.int s0, .ref (k 0)] := by
    intro s0 th hp
    unfold pf_X4_guessOf_j14 at hp
    refine gV_put (Cn := RX4) (T := TX4) (N := 16) (ws' := mW k cI s0 mP mC mR mal mhd mn mg mt mh mz mset mfr mma mde mls) C inw_X4_guessOf_X4 tyX4_ok nmX4 0 rfl rfl 0 (by decide) (C.w 1 rfl) rfl rfl rfl rfl rfl (Nat.le_of_ble_eq_true rfl) dX4_guessOf_14 rfl ?_
    refine gV_aload_n C dX4_guessOf_17 rfl 0 rfl ?_
    refine gV_get (Cn := RX4) (T := TX4) (N := 16) C inw_X4_guessOf_X4 0 rfl rfl 0 (by decide) (C.w 1 rfl) rfl rfl dX4_guessOf_18 ?_
    refine gV_if_le (tgt := 28) C dX4_guessOf_21 (by decide) (fun c21 => ?_) (fun c21 => ?_)
    · replace hp := g_ift hp c21
      refine gV_aload_n C dX4_guessOf_28 rfl 0 rfl ?_
      refine gV_get (Cn := RX4) (T := TX4) (N := 16) C inw_X4_guessOf_X4 0 rfl rfl 7 (by decide) (C.w 2 rfl) rfl rfl dX4_guessOf_29 ?_
      refine gV_iload_n C dX4_guessOf_32 rfl 1 rfl ?_
      obtain ⟨hi33, hp⟩ := g_idx hp
      refine gV_iald C 1 rfl 0 rfl hi33 dX4_guessOf_33 ?_
      refine gV_loc [0] rfl ?_
      exact J34 (mg v1.toNatClampNeg) s0 hp
    · replace hp := g_iff hp c21
      refine gV_iconst (v := 0) C dX4_guessOf_24 rfl ?_
      refine gV_goto (tgt := 34) C dX4_guessOf_25 (by decide) ?_
      refine gV_loc [0] rfl ?_
      exact J34 0 s0 hp
  refine gV_aload_n C dX4_guessOf_0 rfl 0 rfl ?_
  refine gV_aload_n C dX4_guessOf_1 rfl 0 rfl ?_
  refine gV_iload_n C dX4_guessOf_2 rfl 1 rfl ?_
  obtain ⟨r3q, hq3, hp⟩ := g_ob1 hp
  refine gV_calliS C (gV_runV (As := [.int v1]) (rest := [.ref (k 0)]) C (mt_X4_isEntry hl D k cI cJ th mP mC mR mal mhd mn mg mt mh mz mset mfr mma mde mls v1 r3q hq3) (cwV 1 C.2.2.2.2.1 gX4_guessOf_X4_isEntry rfl rfl rfl hdv_X4_isEntry ⟨Nat.le_of_ble_eq_true rfl, Nat.le_of_ble_eq_true rfl⟩) (gSub_S _) 0 rfl rfl rfl rfl (Nat.le_of_ble_eq_true rfl) dX4_guessOf_3 ⟨Nat.le_of_ble_eq_true rfl, Nat.le_of_ble_eq_true rfl⟩) (fun _ _ hx => False.elim hx) (fun r3 w1 hw => ?_)
  obtain ⟨rfl, rfl⟩ := hw
  refine gV_if_eq (tgt := 13) C dX4_guessOf_6 (by decide) (fun c6 => ?_) (fun c6 => ?_)
  · replace hp := g_ift hp c6
    refine gV_iconst (v := 1) C dX4_guessOf_13 rfl ?_
    exact J14 1 th hp
  · replace hp := g_iff hp c6
    refine gV_iconst (v := 0) C dX4_guessOf_9 rfl ?_
    refine gV_goto (tgt := 14) C dX4_guessOf_10 (by decide) ?_
    exact J14 0 th hp
def pf_X4_markOf_j34  (s0 : Int32) (th : Int32) : Option (Int32 × Int32) := (some (s0, th))
def pf_X4_markOf_j14 (v1 : Int32) (mt : Nat → Int32) (s0 : Int32) (th : Int32) : Option (Int32 × Int32) := (if s0 ≤ 0 then (gi v1 10 (pf_X4_markOf_j34 (mt v1.toNatClampNeg) s0)) else (pf_X4_markOf_j34 0 s0))
def pf_X4_markOf  (th : Int32) (mn : Int32) (mt : Nat → Int32) (v1 : Int32) : Option (Int32 × Int32) := (ob1 (pf_X4_isEntry mn v1) fun r3 => (if r3 = 0 then (pf_X4_markOf_j14 v1 mt 1 th) else (pf_X4_markOf_j14 v1 mt 0 th)))
abbrev rm_X4_markOf : Room := { frames := 2, cells := 0, slots := 0, locals := 43 }
theorem inw_X4_markOf_X4 : ∀ w ∈ wsX40, w ∈ wsX4_markOf := by decide +kernel
set_option maxHeartbeats 4000000 in
set_option maxRecDepth 100000 in
theorem mt_X4_markOf {l : Launch} (hl : l.stackTraces = false) (D : va_G) (k : Nat → Nat) (cI cJ : ClassId) (th : Int32) (mP : Int32) (mC : Int32) (mR : Int32) (mal : Int32) (mhd : Int32) (mn : Int32) (mg : Nat → Int32) (mt : Nat → Int32) (mh : Nat → Int32) (mz : Nat → Int32) (mset : Nat → Int32) (mfr : Nat → Int32) (mma : Nat → Int32) (mde : Nat → Int32) (mls : Nat → Int32) (v1 : Int32) (r0 : Int32) (th0 : Int32) (hp : pf_X4_markOf th mn mt v1 = (some (r0, th0))) : gMi l yX4_markOf wsX4_markOf rm_X4_markOf D [(cI, .int), (cJ, .long)] (mW k cI th mP mC mR mal mhd mn mg mt mh mz mset mfr mma mde mls) [.ref (k 0), .int v1] 0 0 (fun r w => r = r0 ∧ w = mW k cI th0 mP mC mR mal mhd mn mg mt mh mz mset mfr mma mde mls) (fun _ _ => False) := by
  refine gMi_of (cc := cX4_markOf) (maxL := 2) (rt := .int) hl (by decide +kernel) rfl (Nat.le_of_ble_eq_true rfl) ?_
  intro p e s m args below meth c A Q C hnm ht RET OUT THR THRW
  have C : gC p l s m args meth c A D [(cI, .int), (cJ, .long)] 2 RX4 cX4_markOf wsX4_markOf := C
  refine gV_loc (lvs' := [(0, .ref (k 0)), (1, .int v1)]) [0, 1] rfl ?_
  unfold pf_X4_markOf at hp
  have J34 : ∀ (s0 : Int32) (th : Int32), pf_X4_markOf_j34 s0 th = (some (r0, th0)) → gV p l e rm_X4_markOf s m args below meth c A D 2 Q (mW k cI th mP mC mR mal mhd mn mg mt mh mz mset mfr mma mde mls) [(0, .ref (k 0))] 0 0 34 [.int s0] := by
    intro s0 th hp
    unfold pf_X4_markOf_j34 at hp
    obtain ⟨rfl, rfl⟩ := g_so2 hp
    exact RET _ _ _ _ _ _ dX4_markOf_34 (Nat.le_of_ble_eq_true rfl) (Nat.le_of_ble_eq_true rfl) rfl ⟨rfl, rfl⟩
  have J14 : ∀ (s0 : Int32) (th : Int32), pf_X4_markOf_j14 v1 mt s0 th = (some (r0, th0)) → gV p l e rm_X4_markOf s m args below meth c A D 2 Q (mW k cI th mP mC mR mal mhd mn mg mt mh mz mset mfr mma mde mls) [(0, .ref (k 0)), (1, .int v1)] 0 0 14 [.int s0, .ref (k 0)] := by
    intro s0 th hp
    unfold pf_X4_markOf_j14 at hp
    refine gV_put (Cn := RX4) (T := TX4) (N := 16) (ws' := mW k cI s0 mP mC mR mal mhd mn mg mt mh mz mset mfr mma mde mls) C inw_X4_markOf_X4 tyX4_ok nmX4 0 rfl rfl 0 (by decide) (C.w 1 rfl) rfl rfl rfl rfl rfl (Nat.le_of_ble_eq_true rfl) dX4_markOf_14 rfl ?_
    refine gV_aload_n C dX4_markOf_17 rfl 0 rfl ?_
    refine gV_get (Cn := RX4) (T := TX4) (N := 16) C inw_X4_markOf_X4 0 rfl rfl 0 (by decide) (C.w 1 rfl) rfl rfl dX4_markOf_18 ?_
    refine gV_if_le (tgt := 28) C dX4_markOf_21 (by decide) (fun c21 => ?_) (fun c21 => ?_)
    · replace hp := g_ift hp c21
      refine gV_aload_n C dX4_markOf_28 rfl 0 rfl ?_
      refine gV_get (Cn := RX4) (T := TX4) (N := 16) C inw_X4_markOf_X4 0 rfl rfl 8 (by decide) (C.w 2 rfl) rfl rfl dX4_markOf_29 ?_
      refine gV_iload_n C dX4_markOf_32 rfl 1 rfl ?_
      obtain ⟨hi33, hp⟩ := g_idx hp
      refine gV_iald C 2 rfl 0 rfl hi33 dX4_markOf_33 ?_
      refine gV_loc [0] rfl ?_
      exact J34 (mt v1.toNatClampNeg) s0 hp
    · replace hp := g_iff hp c21
      refine gV_iconst (v := 0) C dX4_markOf_24 rfl ?_
      refine gV_goto (tgt := 34) C dX4_markOf_25 (by decide) ?_
      refine gV_loc [0] rfl ?_
      exact J34 0 s0 hp
  refine gV_aload_n C dX4_markOf_0 rfl 0 rfl ?_
  refine gV_aload_n C dX4_markOf_1 rfl 0 rfl ?_
  refine gV_iload_n C dX4_markOf_2 rfl 1 rfl ?_
  obtain ⟨r3q, hq3, hp⟩ := g_ob1 hp
  refine gV_calliS C (gV_runV (As := [.int v1]) (rest := [.ref (k 0)]) C (mt_X4_isEntry hl D k cI cJ th mP mC mR mal mhd mn mg mt mh mz mset mfr mma mde mls v1 r3q hq3) (cwV 1 C.2.2.2.2.1 gX4_markOf_X4_isEntry rfl rfl rfl hdv_X4_isEntry ⟨Nat.le_of_ble_eq_true rfl, Nat.le_of_ble_eq_true rfl⟩) (gSub_S _) 0 rfl rfl rfl rfl (Nat.le_of_ble_eq_true rfl) dX4_markOf_3 ⟨Nat.le_of_ble_eq_true rfl, Nat.le_of_ble_eq_true rfl⟩) (fun _ _ hx => False.elim hx) (fun r3 w1 hw => ?_)
  obtain ⟨rfl, rfl⟩ := hw
  refine gV_if_eq (tgt := 13) C dX4_markOf_6 (by decide) (fun c6 => ?_) (fun c6 => ?_)
  · replace hp := g_ift hp c6
    refine gV_iconst (v := 1) C dX4_markOf_13 rfl ?_
    exact J14 1 th hp
  · replace hp := g_iff hp c6
    refine gV_iconst (v := 0) C dX4_markOf_9 rfl ?_
    refine gV_goto (tgt := 14) C dX4_markOf_10 (by decide) ?_
    exact J14 0 th hp
def pf_X4_liesAbout_j33  (s0 : Int32) (th : Int32) (mh : Nat → Int32) : Option (Int32 × Int32 × (Nat → Int32)) := (some (s0, th, mh))
def pf_X4_liesAbout_j14 (v1 : Int32) (mP : Int32) (mC : Int32) (mn : Int32) (mg : Nat → Int32) (mt : Nat → Int32) (s0 : Int32) (th : Int32) (mh : Nat → Int32) : Option (Int32 × Int32 × (Nat → Int32)) := (if s0 ≤ 0 then (ob2 (pf_X4_lies mP mC mn mg mt mh v1) fun r30 mh_30 => (pf_X4_liesAbout_j33 r30 s0 mh_30)) else (pf_X4_liesAbout_j33 0 s0 mh))
def pf_X4_liesAbout  (th : Int32) (mP : Int32) (mC : Int32) (mR : Int32) (mn : Int32) (mg : Nat → Int32) (mt : Nat → Int32) (mh : Nat → Int32) (v1 : Int32) : Option (Int32 × Int32 × (Nat → Int32)) := (ob1 (pf_X4_isRow mR v1) fun r3 => (if r3 = 0 then (pf_X4_liesAbout_j14 v1 mP mC mn mg mt 1 th mh) else (pf_X4_liesAbout_j14 v1 mP mC mn mg mt 0 th mh)))
abbrev rm_X4_liesAbout : Room := { frames := 2, cells := 0, slots := 0, locals := 50 }
theorem inw_X4_liesAbout_X4 : ∀ w ∈ wsX40, w ∈ wsX4_liesAbout := by decide +kernel
set_option maxHeartbeats 4000000 in
set_option maxRecDepth 100000 in
theorem mt_X4_liesAbout {l : Launch} (hl : l.stackTraces = false) (D : va_G) (k : Nat → Nat) (cI cJ : ClassId) (th : Int32) (mP : Int32) (mC : Int32) (mR : Int32) (mal : Int32) (mhd : Int32) (mn : Int32) (mg : Nat → Int32) (mt : Nat → Int32) (mh : Nat → Int32) (mz : Nat → Int32) (mset : Nat → Int32) (mfr : Nat → Int32) (mma : Nat → Int32) (mde : Nat → Int32) (mls : Nat → Int32) (v1 : Int32) (r0 : Int32) (th0 : Int32) (mh0 : Nat → Int32) (hp : pf_X4_liesAbout th mP mC mR mn mg mt mh v1 = (some (r0, th0, mh0))) : gMi l yX4_liesAbout wsX4_liesAbout rm_X4_liesAbout D [(cI, .int), (cJ, .long)] (mW k cI th mP mC mR mal mhd mn mg mt mh mz mset mfr mma mde mls) [.ref (k 0), .int v1] 0 0 (fun r w => r = r0 ∧ w = mW k cI th0 mP mC mR mal mhd mn mg mt mh0 mz mset mfr mma mde mls) (fun _ _ => False) := by
  refine gMi_of (cc := cX4_liesAbout) (maxL := 2) (rt := .int) hl (by decide +kernel) rfl (Nat.le_of_ble_eq_true rfl) ?_
  intro p e s m args below meth c A Q C hnm ht RET OUT THR THRW
  have C : gC p l s m args meth c A D [(cI, .int), (cJ, .long)] 2 RX4 cX4_liesAbout wsX4_liesAbout := C
  refine gV_loc (lvs' := [(0, .ref (k 0)), (1, .int v1)]) [0, 1] rfl ?_
  unfold pf_X4_liesAbout at hp
  have J33 : ∀ (s0 : Int32) (th : Int32) (mh : Nat → Int32), pf_X4_liesAbout_j33 s0 th mh = (some (r0, th0, mh0)) → gV p l e rm_X4_liesAbout s m args below meth c A D 2 Q (mW k cI th mP mC mR mal mhd mn mg mt mh mz mset mfr mma mde mls) [(0, .ref (k 0))] 0 0 33 [.int s0] := by
    intro s0 th mh hp
    unfold pf_X4_liesAbout_j33 at hp
    obtain ⟨rfl, rfl, rfl⟩ := g_so3 hp
    exact RET _ _ _ _ _ _ dX4_liesAbout_33 (Nat.le_of_ble_eq_true rfl) (Nat.le_of_ble_eq_true rfl) rfl ⟨rfl, rfl⟩
  have J14 : ∀ (s0 : Int32) (th : Int32) (mh : Nat → Int32), pf_X4_liesAbout_j14 v1 mP mC mn mg mt s0 th mh = (some (r0, th0, mh0)) → gV p l e rm_X4_liesAbout s m args below meth c A D 2 Q (mW k cI th mP mC mR mal mhd mn mg mt mh mz mset mfr mma mde mls) [(0, .ref (k 0)), (1, .int v1)] 0 0 14 [.int s0, .ref (k 0)] := by
    intro s0 th mh hp
    unfold pf_X4_liesAbout_j14 at hp
    refine gV_put (Cn := RX4) (T := TX4) (N := 16) (ws' := mW k cI s0 mP mC mR mal mhd mn mg mt mh mz mset mfr mma mde mls) C inw_X4_liesAbout_X4 tyX4_ok nmX4 0 rfl rfl 0 (by decide) (C.w 1 rfl) rfl rfl rfl rfl rfl (Nat.le_of_ble_eq_true rfl) dX4_liesAbout_14 rfl ?_
    refine gV_aload_n C dX4_liesAbout_17 rfl 0 rfl ?_
    refine gV_get (Cn := RX4) (T := TX4) (N := 16) C inw_X4_liesAbout_X4 0 rfl rfl 0 (by decide) (C.w 1 rfl) rfl rfl dX4_liesAbout_18 ?_
    refine gV_if_le (tgt := 28) C dX4_liesAbout_21 (by decide) (fun c21 => ?_) (fun c21 => ?_)
    · replace hp := g_ift hp c21
      refine gV_aload_n C dX4_liesAbout_28 rfl 0 rfl ?_
      refine gV_iload_n C dX4_liesAbout_29 rfl 1 rfl ?_
      obtain ⟨r30q, mh_30, hq30, hp⟩ := g_ob2 hp
      refine gV_calliS C (gV_runV (As := [.int v1]) (rest := []) C (mt_X4_lies hl D k cI cJ s0 mP mC mR mal mhd mn mg mt mh mz mset mfr mma mde mls v1 r30q mh_30 hq30) (cwV 1 C.2.2.2.2.1 gX4_liesAbout_X4_lies rfl rfl rfl hdv_X4_lies ⟨Nat.le_of_ble_eq_true rfl, Nat.le_of_ble_eq_true rfl⟩) (gSub_S _) 0 rfl rfl rfl rfl (Nat.le_of_ble_eq_true rfl) dX4_liesAbout_30 ⟨Nat.le_of_ble_eq_true rfl, Nat.le_of_ble_eq_true rfl⟩) (fun _ _ hx => False.elim hx) (fun r30 w1 hw => ?_)
      obtain ⟨rfl, rfl⟩ := hw
      refine gV_loc [0] rfl ?_
      exact J33 r30 s0 mh_30 hp
    · replace hp := g_iff hp c21
      refine gV_iconst (v := 0) C dX4_liesAbout_24 rfl ?_
      refine gV_goto (tgt := 33) C dX4_liesAbout_25 (by decide) ?_
      refine gV_loc [0] rfl ?_
      exact J33 0 s0 mh hp
  refine gV_aload_n C dX4_liesAbout_0 rfl 0 rfl ?_
  refine gV_aload_n C dX4_liesAbout_1 rfl 0 rfl ?_
  refine gV_iload_n C dX4_liesAbout_2 rfl 1 rfl ?_
  obtain ⟨r3q, hq3, hp⟩ := g_ob1 hp
  refine gV_calliS C (gV_runV (As := [.int v1]) (rest := [.ref (k 0)]) C (mt_X4_isRow hl D k cI cJ th mP mC mR mal mhd mn mg mt mh mz mset mfr mma mde mls v1 r3q hq3) (cwV 1 C.2.2.2.2.1 gX4_liesAbout_X4_isRow rfl rfl rfl hdv_X4_isRow ⟨Nat.le_of_ble_eq_true rfl, Nat.le_of_ble_eq_true rfl⟩) (gSub_S _) 0 rfl rfl rfl rfl (Nat.le_of_ble_eq_true rfl) dX4_liesAbout_3 ⟨Nat.le_of_ble_eq_true rfl, Nat.le_of_ble_eq_true rfl⟩) (fun _ _ hx => False.elim hx) (fun r3 w1 hw => ?_)
  obtain ⟨rfl, rfl⟩ := hw
  refine gV_if_eq (tgt := 13) C dX4_liesAbout_6 (by decide) (fun c6 => ?_) (fun c6 => ?_)
  · replace hp := g_ift hp c6
    refine gV_iconst (v := 1) C dX4_liesAbout_13 rfl ?_
    exact J14 1 th mh hp
  · replace hp := g_iff hp c6
    refine gV_iconst (v := 0) C dX4_liesAbout_9 rfl ?_
    refine gV_goto (tgt := 14) C dX4_liesAbout_10 (by decide) ?_
    exact J14 0 th mh hp
def pf_X4_left  (th : Int32) (mP : Int32) (mC : Int32) (mR : Int32) (mal : Int32) (mn : Int32) (mg : Nat → Int32) (mt : Nat → Int32) (mh : Nat → Int32)  : Option (Int32 × Int32 × (Nat → Int32)) := (ob2 (pf_X4_manyLeft mP mC mR mal mn mg mt mh) fun r6 mh_6 => (some (r6, 0, mh_6)))
abbrev rm_X4_left : Room := { frames := 4, cells := 0, slots := 0, locals := 93 }
theorem inw_X4_left_X4 : ∀ w ∈ wsX40, w ∈ wsX4_left := by decide +kernel
set_option maxHeartbeats 4000000 in
set_option maxRecDepth 100000 in
theorem mt_X4_left {l : Launch} (hl : l.stackTraces = false) (D : va_G) (k : Nat → Nat) (cI cJ : ClassId) (th : Int32) (mP : Int32) (mC : Int32) (mR : Int32) (mal : Int32) (mhd : Int32) (mn : Int32) (mg : Nat → Int32) (mt : Nat → Int32) (mh : Nat → Int32) (mz : Nat → Int32) (mset : Nat → Int32) (mfr : Nat → Int32) (mma : Nat → Int32) (mde : Nat → Int32) (mls : Nat → Int32)  (r0 : Int32) (th0 : Int32) (mh0 : Nat → Int32) (hp : pf_X4_left th mP mC mR mal mn mg mt mh = (some (r0, th0, mh0))) : gMi l yX4_left wsX4_left rm_X4_left D [(cI, .int), (cJ, .long)] (mW k cI th mP mC mR mal mhd mn mg mt mh mz mset mfr mma mde mls) [.ref (k 0)] 0 0 (fun r w => r = r0 ∧ w = mW k cI th0 mP mC mR mal mhd mn mg mt mh0 mz mset mfr mma mde mls) (fun _ _ => False) := by
  refine gMi_of (cc := cX4_left) (maxL := 1) (rt := .int) hl (by decide +kernel) rfl (Nat.le_of_ble_eq_true rfl) ?_
  intro p e s m args below meth c A Q C hnm ht RET OUT THR THRW
  have C : gC p l s m args meth c A D [(cI, .int), (cJ, .long)] 1 RX4 cX4_left wsX4_left := C
  refine gV_loc (lvs' := [(0, .ref (k 0))]) [0] rfl ?_
  unfold pf_X4_left at hp
  refine gV_aload_n C dX4_left_0 rfl 0 rfl ?_
  refine gV_iconst (v := 0) C dX4_left_1 rfl ?_
  refine gV_put (Cn := RX4) (T := TX4) (N := 16) (ws' := mW k cI 0 mP mC mR mal mhd mn mg mt mh mz mset mfr mma mde mls) C inw_X4_left_X4 tyX4_ok nmX4 0 rfl rfl 0 (by decide) (C.w 1 rfl) rfl rfl rfl rfl rfl (Nat.le_of_ble_eq_true rfl) dX4_left_2 rfl ?_
  refine gV_aload_n C dX4_left_5 rfl 0 rfl ?_
  obtain ⟨r6q, mh_6, hq6, hp⟩ := g_ob2 hp
  refine gV_calliS C (gV_runV (As := []) (rest := []) C (mt_X4_manyLeft hl D k cI cJ 0 mP mC mR mal mhd mn mg mt mh mz mset mfr mma mde mls r6q mh_6 hq6) (cwV 0 C.2.2.2.2.1 gX4_left_X4_manyLeft rfl rfl rfl hdv_X4_manyLeft ⟨Nat.le_of_ble_eq_true rfl, Nat.le_of_ble_eq_true rfl⟩) (gSub_S _) 0 rfl rfl rfl rfl (Nat.le_of_ble_eq_true rfl) dX4_left_6 ⟨Nat.le_of_ble_eq_true rfl, Nat.le_of_ble_eq_true rfl⟩) (fun _ _ hx => False.elim hx) (fun r6 w1 hw => ?_)
  obtain ⟨rfl, rfl⟩ := hw
  obtain ⟨rfl, rfl, rfl⟩ := g_so3 hp
  exact RET _ _ _ _ _ _ dX4_left_9 (Nat.le_of_ble_eq_true rfl) (Nat.le_of_ble_eq_true rfl) rfl ⟨rfl, rfl⟩
def pf_X4_leftByAll  (th : Int32) (mP : Int32) (mC : Int32) (mR : Int32) (mal : Int32) (mn : Int32) (mg : Nat → Int32) (mt : Nat → Int32) (mh : Nat → Int32)  : Option (Int32 × Int32 × (Nat → Int32)) := (ob2 (pf_X4_manyLeft mP mC mR mal mn mg mt mh) fun r6 mh_6 => (some (r6, 0, mh_6)))
abbrev rm_X4_leftByAll : Room := { frames := 4, cells := 0, slots := 0, locals := 93 }
theorem inw_X4_leftByAll_X4 : ∀ w ∈ wsX40, w ∈ wsX4_leftByAll := by decide +kernel
set_option maxHeartbeats 4000000 in
set_option maxRecDepth 100000 in
theorem mt_X4_leftByAll {l : Launch} (hl : l.stackTraces = false) (D : va_G) (k : Nat → Nat) (cI cJ : ClassId) (th : Int32) (mP : Int32) (mC : Int32) (mR : Int32) (mal : Int32) (mhd : Int32) (mn : Int32) (mg : Nat → Int32) (mt : Nat → Int32) (mh : Nat → Int32) (mz : Nat → Int32) (mset : Nat → Int32) (mfr : Nat → Int32) (mma : Nat → Int32) (mde : Nat → Int32) (mls : Nat → Int32)  (r0 : Int32) (th0 : Int32) (mh0 : Nat → Int32) (hp : pf_X4_leftByAll th mP mC mR mal mn mg mt mh = (some (r0, th0, mh0))) : gMi l yX4_leftByAll wsX4_leftByAll rm_X4_leftByAll D [(cI, .int), (cJ, .long)] (mW k cI th mP mC mR mal mhd mn mg mt mh mz mset mfr mma mde mls) [.ref (k 0)] 0 0 (fun r w => r = r0 ∧ w = mW k cI th0 mP mC mR mal mhd mn mg mt mh0 mz mset mfr mma mde mls) (fun _ _ => False) := by
  refine gMi_of (cc := cX4_leftByAll) (maxL := 1) (rt := .int) hl (by decide +kernel) rfl (Nat.le_of_ble_eq_true rfl) ?_
  intro p e s m args below meth c A Q C hnm ht RET OUT THR THRW
  have C : gC p l s m args meth c A D [(cI, .int), (cJ, .long)] 1 RX4 cX4_leftByAll wsX4_leftByAll := C
  refine gV_loc (lvs' := [(0, .ref (k 0))]) [0] rfl ?_
  unfold pf_X4_leftByAll at hp
  refine gV_aload_n C dX4_leftByAll_0 rfl 0 rfl ?_
  refine gV_iconst (v := 0) C dX4_leftByAll_1 rfl ?_
  refine gV_put (Cn := RX4) (T := TX4) (N := 16) (ws' := mW k cI 0 mP mC mR mal mhd mn mg mt mh mz mset mfr mma mde mls) C inw_X4_leftByAll_X4 tyX4_ok nmX4 0 rfl rfl 0 (by decide) (C.w 1 rfl) rfl rfl rfl rfl rfl (Nat.le_of_ble_eq_true rfl) dX4_leftByAll_2 rfl ?_
  refine gV_aload_n C dX4_leftByAll_5 rfl 0 rfl ?_
  obtain ⟨r6q, mh_6, hq6, hp⟩ := g_ob2 hp
  refine gV_calliS C (gV_runV (As := []) (rest := []) C (mt_X4_manyLeft hl D k cI cJ 0 mP mC mR mal mhd mn mg mt mh mz mset mfr mma mde mls r6q mh_6 hq6) (cwV 0 C.2.2.2.2.1 gX4_leftByAll_X4_manyLeft rfl rfl rfl hdv_X4_manyLeft ⟨Nat.le_of_ble_eq_true rfl, Nat.le_of_ble_eq_true rfl⟩) (gSub_S _) 0 rfl rfl rfl rfl (Nat.le_of_ble_eq_true rfl) dX4_leftByAll_6 ⟨Nat.le_of_ble_eq_true rfl, Nat.le_of_ble_eq_true rfl⟩) (fun _ _ hx => False.elim hx) (fun r6 w1 hw => ?_)
  obtain ⟨rfl, rfl⟩ := hw
  obtain ⟨rfl, rfl, rfl⟩ := g_so3 hp
  exact RET _ _ _ _ _ _ dX4_leftByAll_9 (Nat.le_of_ble_eq_true rfl) (Nat.le_of_ble_eq_true rfl) rfl ⟨rfl, rfl⟩
def pf_X4_isLeft_j37  (s0 : Int32) (th : Int32) (mh : Nat → Int32) : Option (Int32 × Int32 × (Nat → Int32)) := (gz s0 ((some (s0, th, mh))))
def pf_X4_isLeft_j36  (th : Int32) (mh : Nat → Int32) : Option (Int32 × Int32 × (Nat → Int32)) := (pf_X4_isLeft_j37 0 th mh)
def pf_X4_isLeft_j14 (v1 : Int32) (mP : Int32) (mC : Int32) (mal : Int32) (mn : Int32) (mg : Nat → Int32) (mt : Nat → Int32) (s0 : Int32) (th : Int32) (mh : Nat → Int32) : Option (Int32 × Int32 × (Nat → Int32)) := (if s0 = 0 then (ob2 (pf_X4_isStill mP mC mal mn mg mt mh v1) fun r26 mh_26 => (if r26 = 0 then (pf_X4_isLeft_j36 s0 mh_26) else (pf_X4_isLeft_j37 1 s0 mh_26))) else (pf_X4_isLeft_j36 s0 mh))
def pf_X4_isLeft  (th : Int32) (mP : Int32) (mC : Int32) (mR : Int32) (mal : Int32) (mn : Int32) (mg : Nat → Int32) (mt : Nat → Int32) (mh : Nat → Int32) (v1 : Int32) : Option (Int32 × Int32 × (Nat → Int32)) := (ob1 (pf_X4_isRow mR v1) fun r3 => (if r3 = 0 then (pf_X4_isLeft_j14 v1 mP mC mal mn mg mt 1 th mh) else (pf_X4_isLeft_j14 v1 mP mC mal mn mg mt 0 th mh)))
abbrev rm_X4_isLeft : Room := { frames := 3, cells := 0, slots := 0, locals := 71 }
theorem inw_X4_isLeft_X4 : ∀ w ∈ wsX40, w ∈ wsX4_isLeft := by decide +kernel
set_option maxHeartbeats 4000000 in
set_option maxRecDepth 100000 in
theorem mt_X4_isLeft {l : Launch} (hl : l.stackTraces = false) (D : va_G) (k : Nat → Nat) (cI cJ : ClassId) (th : Int32) (mP : Int32) (mC : Int32) (mR : Int32) (mal : Int32) (mhd : Int32) (mn : Int32) (mg : Nat → Int32) (mt : Nat → Int32) (mh : Nat → Int32) (mz : Nat → Int32) (mset : Nat → Int32) (mfr : Nat → Int32) (mma : Nat → Int32) (mde : Nat → Int32) (mls : Nat → Int32) (v1 : Int32) (r0 : Int32) (th0 : Int32) (mh0 : Nat → Int32) (hp : pf_X4_isLeft th mP mC mR mal mn mg mt mh v1 = (some (r0, th0, mh0))) : gMi l yX4_isLeft wsX4_isLeft rm_X4_isLeft D [(cI, .int), (cJ, .long)] (mW k cI th mP mC mR mal mhd mn mg mt mh mz mset mfr mma mde mls) [.ref (k 0), .int v1] 0 0 (fun r w => r = r0 ∧ w = mW k cI th0 mP mC mR mal mhd mn mg mt mh0 mz mset mfr mma mde mls) (fun _ _ => False) := by
  refine gMi_of (cc := cX4_isLeft) (maxL := 2) (rt := .boolean) hl (by decide +kernel) rfl (Nat.le_of_ble_eq_true rfl) ?_
  intro p e s m args below meth c A Q C hnm ht RET OUT THR THRW
  have C : gC p l s m args meth c A D [(cI, .int), (cJ, .long)] 2 RX4 cX4_isLeft wsX4_isLeft := C
  refine gV_loc (lvs' := [(0, .ref (k 0)), (1, .int v1)]) [0, 1] rfl ?_
  unfold pf_X4_isLeft at hp
  have J37 : ∀ (s0 : Int32) (th : Int32) (mh : Nat → Int32), pf_X4_isLeft_j37 s0 th mh = (some (r0, th0, mh0)) → gV p l e rm_X4_isLeft s m args below meth c A D 2 Q (mW k cI th mP mC mR mal mhd mn mg mt mh mz mset mfr mma mde mls) [(0, .ref (k 0))] 0 0 37 [.int s0] := by
    intro s0 th mh hp
    unfold pf_X4_isLeft_j37 at hp
    obtain ⟨hz37, hp⟩ := g_bool hp
    obtain ⟨rfl, rfl, rfl⟩ := g_so3 hp
    exact RET _ _ _ _ _ _ dX4_isLeft_37 (Nat.le_of_ble_eq_true rfl) (Nat.le_of_ble_eq_true rfl) (g_nz hz37) ⟨rfl, rfl⟩
  have J36 : ∀ (th : Int32) (mh : Nat → Int32), pf_X4_isLeft_j36 th mh = (some (r0, th0, mh0)) → gV p l e rm_X4_isLeft s m args below meth c A D 2 Q (mW k cI th mP mC mR mal mhd mn mg mt mh mz mset mfr mma mde mls) [(0, .ref (k 0))] 0 0 36 [] := by
    intro th mh hp
    unfold pf_X4_isLeft_j36 at hp
    refine gV_iconst (v := 0) C dX4_isLeft_36 rfl ?_
    exact J37 0 th mh hp
  have J14 : ∀ (s0 : Int32) (th : Int32) (mh : Nat → Int32), pf_X4_isLeft_j14 v1 mP mC mal mn mg mt s0 th mh = (some (r0, th0, mh0)) → gV p l e rm_X4_isLeft s m args below meth c A D 2 Q (mW k cI th mP mC mR mal mhd mn mg mt mh mz mset mfr mma mde mls) [(0, .ref (k 0)), (1, .int v1)] 0 0 14 [.int s0, .ref (k 0)] := by
    intro s0 th mh hp
    unfold pf_X4_isLeft_j14 at hp
    refine gV_put (Cn := RX4) (T := TX4) (N := 16) (ws' := mW k cI s0 mP mC mR mal mhd mn mg mt mh mz mset mfr mma mde mls) C inw_X4_isLeft_X4 tyX4_ok nmX4 0 rfl rfl 0 (by decide) (C.w 1 rfl) rfl rfl rfl rfl rfl (Nat.le_of_ble_eq_true rfl) dX4_isLeft_14 rfl ?_
    refine gV_aload_n C dX4_isLeft_17 rfl 0 rfl ?_
    refine gV_get (Cn := RX4) (T := TX4) (N := 16) C inw_X4_isLeft_X4 0 rfl rfl 0 (by decide) (C.w 1 rfl) rfl rfl dX4_isLeft_18 ?_
    refine gV_if_ne (tgt := 36) C dX4_isLeft_21 (by decide) (fun c21 => ?_) (fun c21 => ?_)
    · replace hp := g_iff hp c21
      refine gV_loc [0] rfl ?_
      exact J36 s0 mh hp
    · replace hp := g_ift hp c21
      refine gV_aload_n C dX4_isLeft_24 rfl 0 rfl ?_
      refine gV_iload_n C dX4_isLeft_25 rfl 1 rfl ?_
      obtain ⟨r26q, mh_26, hq26, hp⟩ := g_ob2 hp
      refine gV_calliS C (gV_runV (As := [.int v1]) (rest := []) C (mt_X4_isStill hl D k cI cJ s0 mP mC mR mal mhd mn mg mt mh mz mset mfr mma mde mls v1 r26q mh_26 hq26) (cwV 1 C.2.2.2.2.1 gX4_isLeft_X4_isStill rfl rfl rfl hdv_X4_isStill ⟨Nat.le_of_ble_eq_true rfl, Nat.le_of_ble_eq_true rfl⟩) (gSub_S _) 0 rfl rfl rfl rfl (Nat.le_of_ble_eq_true rfl) dX4_isLeft_26 ⟨Nat.le_of_ble_eq_true rfl, Nat.le_of_ble_eq_true rfl⟩) (fun _ _ hx => False.elim hx) (fun r26 w1 hw => ?_)
      obtain ⟨rfl, rfl⟩ := hw
      refine gV_if_eq (tgt := 36) C dX4_isLeft_29 (by decide) (fun c29 => ?_) (fun c29 => ?_)
      · replace hp := g_ift hp c29
        refine gV_loc [0] rfl ?_
        exact J36 s0 mh_26 hp
      · replace hp := g_iff hp c29
        refine gV_iconst (v := 1) C dX4_isLeft_32 rfl ?_
        refine gV_goto (tgt := 37) C dX4_isLeft_33 (by decide) ?_
        refine gV_loc [0] rfl ?_
        exact J37 1 s0 mh_26 hp
  refine gV_aload_n C dX4_isLeft_0 rfl 0 rfl ?_
  refine gV_aload_n C dX4_isLeft_1 rfl 0 rfl ?_
  refine gV_iload_n C dX4_isLeft_2 rfl 1 rfl ?_
  obtain ⟨r3q, hq3, hp⟩ := g_ob1 hp
  refine gV_calliS C (gV_runV (As := [.int v1]) (rest := [.ref (k 0)]) C (mt_X4_isRow hl D k cI cJ th mP mC mR mal mhd mn mg mt mh mz mset mfr mma mde mls v1 r3q hq3) (cwV 1 C.2.2.2.2.1 gX4_isLeft_X4_isRow rfl rfl rfl hdv_X4_isRow ⟨Nat.le_of_ble_eq_true rfl, Nat.le_of_ble_eq_true rfl⟩) (gSub_S _) 0 rfl rfl rfl rfl (Nat.le_of_ble_eq_true rfl) dX4_isLeft_3 ⟨Nat.le_of_ble_eq_true rfl, Nat.le_of_ble_eq_true rfl⟩) (fun _ _ hx => False.elim hx) (fun r3 w1 hw => ?_)
  obtain ⟨rfl, rfl⟩ := hw
  refine gV_if_eq (tgt := 13) C dX4_isLeft_6 (by decide) (fun c6 => ?_) (fun c6 => ?_)
  · replace hp := g_ift hp c6
    refine gV_iconst (v := 1) C dX4_isLeft_13 rfl ?_
    exact J14 1 th mh hp
  · replace hp := g_iff hp c6
    refine gV_iconst (v := 0) C dX4_isLeft_9 rfl ?_
    refine gV_goto (tgt := 14) C dX4_isLeft_10 (by decide) ?_
    exact J14 0 th mh hp
def pf_X4_laysLeft_j30  (kL4 : Int32 → Int32 → (Nat → Int32) → (Nat → Int32) → Option (Int32 × (Nat → Int32) × (Nat → Int32))) (v1 : Int32) (v2 : Int32) (mh : Nat → Int32) (mset : Nat → Int32) : Option (Int32 × (Nat → Int32) × (Nat → Int32)) := (kL4 v1 (v2 + 1) mh mset)
def pf_X4_laysLeft_L4 (mP : Int32) (mC : Int32) (mR : Int32) (mal : Int32) (mn : Int32) (mg : Nat → Int32) (mt : Nat → Int32) : Nat → Int32 → Int32 → (Nat → Int32) → (Nat → Int32) → Option (Int32 × (Nat → Int32) × (Nat → Int32))
  | 0, _, _, _, _ => none
  | n4 + 1, v1, v2, mh, mset => (if mR ≤ v2 then (some (v1, mh, mset)) else (ob2 (pf_X4_isStill mP mC mal mn mg mt mh v2) fun r14 mh_14 => (if r14 = 0 then (pf_X4_laysLeft_j30 (fun v1 v2 mh mset => pf_X4_laysLeft_L4 mP mC mR mal mn mg mt n4 v1 v2 mh mset) v1 v2 mh_14 mset) else (gi v1 2048 (pf_X4_laysLeft_j30 (fun v1 v2 mh mset => pf_X4_laysLeft_L4 mP mC mR mal mn mg mt n4 v1 v2 mh mset) (v1 + 1) v2 mh_14 (upd mset v1.toNatClampNeg v2))))))
def pf_X4_laysLeft  (mP : Int32) (mC : Int32) (mR : Int32) (mal : Int32) (mn : Int32) (mg : Nat → Int32) (mt : Nat → Int32) (mh : Nat → Int32) (mset : Nat → Int32)  : Option (Int32 × (Nat → Int32) × (Nat → Int32)) := (pf_X4_laysLeft_L4 mP mC mR mal mn mg mt 100000 0 0 mh mset)
abbrev rm_X4_laysLeft : Room := { frames := 3, cells := 0, slots := 0, locals := 71 }
theorem inw_X4_laysLeft_X4 : ∀ w ∈ wsX40, w ∈ wsX4_laysLeft := by decide +kernel
set_option maxHeartbeats 4000000 in
set_option maxRecDepth 100000 in
theorem mt_X4_laysLeft {l : Launch} (hl : l.stackTraces = false) (D : va_G) (k : Nat → Nat) (cI cJ : ClassId) (th : Int32) (mP : Int32) (mC : Int32) (mR : Int32) (mal : Int32) (mhd : Int32) (mn : Int32) (mg : Nat → Int32) (mt : Nat → Int32) (mh : Nat → Int32) (mz : Nat → Int32) (mset : Nat → Int32) (mfr : Nat → Int32) (mma : Nat → Int32) (mde : Nat → Int32) (mls : Nat → Int32)  (r0 : Int32) (mh0 : Nat → Int32) (mset0 : Nat → Int32) (hp : pf_X4_laysLeft mP mC mR mal mn mg mt mh mset = (some (r0, mh0, mset0))) : gMi l yX4_laysLeft wsX4_laysLeft rm_X4_laysLeft D [(cI, .int), (cJ, .long)] (mW k cI th mP mC mR mal mhd mn mg mt mh mz mset mfr mma mde mls) [.ref (k 0)] 0 0 (fun r w => r = r0 ∧ w = mW k cI th mP mC mR mal mhd mn mg mt mh0 mz mset0 mfr mma mde mls) (fun _ _ => False) := by
  refine gMi_of (cc := cX4_laysLeft) (maxL := 3) (rt := .int) hl (by decide +kernel) rfl (Nat.le_of_ble_eq_true rfl) ?_
  intro p e s m args below meth c A Q C hnm ht RET OUT THR THRW
  have C : gC p l s m args meth c A D [(cI, .int), (cJ, .long)] 3 RX4 cX4_laysLeft wsX4_laysLeft := C
  refine gV_loc (lvs' := [(0, .ref (k 0))]) [0] rfl ?_
  unfold pf_X4_laysLeft at hp
  have L4 : ∀ (n4 : Nat) (v1 : Int32) (v2 : Int32) (mh : Nat → Int32) (mset : Nat → Int32), pf_X4_laysLeft_L4 mP mC mR mal mn mg mt n4 v1 v2 mh mset = (some (r0, mh0, mset0)) → gV p l e rm_X4_laysLeft s m args below meth c A D 3 Q (mW k cI th mP mC mR mal mhd mn mg mt mh mz mset mfr mma mde mls) [(0, .ref (k 0)), (1, .int v1), (2, .int v2)] 0 0 4 [] := by
    intro n4
    induction n4 with
    | zero => intro v1 v2 mh mset hp; exact g_none hp
    | succ n4 ih4 =>
      intro v1 v2 mh mset hp
      rw [pf_X4_laysLeft_L4.eq_2] at hp
      have J30 : ∀ (v1 : Int32) (v2 : Int32) (mh : Nat → Int32) (mset : Nat → Int32), pf_X4_laysLeft_j30 (fun v1 v2 mh mset => pf_X4_laysLeft_L4 mP mC mR mal mn mg mt n4 v1 v2 mh mset) v1 v2 mh mset = (some (r0, mh0, mset0)) → gV p l e rm_X4_laysLeft s m args below meth c A D 3 Q (mW k cI th mP mC mR mal mhd mn mg mt mh mz mset mfr mma mde mls) [(0, .ref (k 0)), (1, .int v1), (2, .int v2)] 0 0 30 [] := by
        intro v1 v2 mh mset hp
        unfold pf_X4_laysLeft_j30 at hp
        refine gV_iinc (v := (v2 + 1)) (lvs' := [(2, .int (v2 + 1)), (0, .ref (k 0)), (1, .int v1)]) C dX4_laysLeft_30 2 rfl rfl (by decide) rfl ?_
        refine gV_goto (tgt := 4) C dX4_laysLeft_33 (by decide) ?_
        refine gV_loc [1, 2, 0] rfl ?_
        exact ih4 v1 (v2 + 1) mh mset hp
      refine gV_iload_n C dX4_laysLeft_4 rfl 2 rfl ?_
      refine gV_aload_n C dX4_laysLeft_5 rfl 0 rfl ?_
      refine gV_get (Cn := RX4) (T := TX4) (N := 16) C inw_X4_laysLeft_X4 0 rfl rfl 3 (by decide) (C.w 1 rfl) rfl rfl dX4_laysLeft_6 ?_
      refine gV_icmp_ge (tgt := 36) C dX4_laysLeft_9 (by decide) (fun c9 => ?_) (fun c9 => ?_)
      · replace hp := g_ift hp c9
        refine gV_iload_n C dX4_laysLeft_36 rfl 1 rfl ?_
        obtain ⟨rfl, rfl, rfl⟩ := g_so3 hp
        exact RET _ _ _ _ _ _ dX4_laysLeft_37 (Nat.le_of_ble_eq_true rfl) (Nat.le_of_ble_eq_true rfl) rfl ⟨rfl, rfl⟩
      · replace hp := g_iff hp c9
        refine gV_aload_n C dX4_laysLeft_12 rfl 0 rfl ?_
        refine gV_iload_n C dX4_laysLeft_13 rfl 2 rfl ?_
        obtain ⟨r14q, mh_14, hq14, hp⟩ := g_ob2 hp
        refine gV_calliS C (gV_runV (As := [.int v2]) (rest := []) C (mt_X4_isStill hl D k cI cJ th mP mC mR mal mhd mn mg mt mh mz mset mfr mma mde mls v2 r14q mh_14 hq14) (cwV 1 C.2.2.2.2.1 gX4_laysLeft_X4_isStill rfl rfl rfl hdv_X4_isStill ⟨Nat.le_of_ble_eq_true rfl, Nat.le_of_ble_eq_true rfl⟩) (gSub_S _) 0 rfl rfl rfl rfl (Nat.le_of_ble_eq_true rfl) dX4_laysLeft_14 ⟨Nat.le_of_ble_eq_true rfl, Nat.le_of_ble_eq_true rfl⟩) (fun _ _ hx => False.elim hx) (fun r14 w1 hw => ?_)
        obtain ⟨rfl, rfl⟩ := hw
        refine gV_if_eq (tgt := 30) C dX4_laysLeft_17 (by decide) (fun c17 => ?_) (fun c17 => ?_)
        · replace hp := g_ift hp c17
          exact J30 v1 v2 mh_14 mset hp
        · replace hp := g_iff hp c17
          refine gV_aload_n C dX4_laysLeft_20 rfl 0 rfl ?_
          refine gV_get (Cn := RX4) (T := TX4) (N := 16) C inw_X4_laysLeft_X4 0 rfl rfl 11 (by decide) (C.w 2 rfl) rfl rfl dX4_laysLeft_21 ?_
          refine gV_iload_n C dX4_laysLeft_24 rfl 1 rfl ?_
          refine gV_iload_n C dX4_laysLeft_25 rfl 2 rfl ?_
          obtain ⟨hi26, hp⟩ := g_idx hp
          refine gV_iast (ws' := mW k cI th mP mC mR mal mhd mn mg mt mh_14 mz (upd mset v1.toNatClampNeg v2) mfr mma mde mls) C 5 rfl 0 rfl hi26 dX4_laysLeft_26 rfl ?_
          refine gV_iinc (v := (v1 + 1)) (lvs' := [(1, .int (v1 + 1)), (0, .ref (k 0)), (2, .int v2)]) C dX4_laysLeft_27 1 rfl rfl (by decide) rfl ?_
          refine gV_loc [1, 0, 2] rfl ?_
          exact J30 (v1 + 1) v2 mh_14 (upd mset v1.toNatClampNeg v2) hp
  refine gV_iconst (v := 0) C dX4_laysLeft_0 rfl ?_
  refine gV_istore_n (lvs' := [(1, .int 0), (0, .ref (k 0))]) C dX4_laysLeft_1 rfl (by decide) rfl ?_
  refine gV_iconst (v := 0) C dX4_laysLeft_2 rfl ?_
  refine gV_istore_n (lvs' := [(2, .int 0), (1, .int 0), (0, .ref (k 0))]) C dX4_laysLeft_3 rfl (by decide) rfl ?_
  refine gV_loc [2, 1, 0] rfl ?_
  exact L4 100000 0 0 mh mset hp
def pf_X4_leftAt_j42  (s0 : Int32) (th : Int32) (mh : Nat → Int32) (mset : Nat → Int32) : Option (Int32 × Int32 × (Nat → Int32) × (Nat → Int32)) := (some (s0, th, mh, mset))
def pf_X4_leftAt_j22 (v1 : Int32) (s0 : Int32) (th : Int32) (mh : Nat → Int32) (mset : Nat → Int32) : Option (Int32 × Int32 × (Nat → Int32) × (Nat → Int32)) := (if s0 ≤ 0 then (gi v1 2048 (pf_X4_leftAt_j42 (mset v1.toNatClampNeg) s0 mh mset)) else (pf_X4_leftAt_j42 0 s0 mh mset))
def pf_X4_leftAt  (th : Int32) (mP : Int32) (mC : Int32) (mR : Int32) (mal : Int32) (mn : Int32) (mg : Nat → Int32) (mt : Nat → Int32) (mh : Nat → Int32) (mset : Nat → Int32) (v1 : Int32) : Option (Int32 × Int32 × (Nat → Int32) × (Nat → Int32)) := (ob3 (pf_X4_laysLeft mP mC mR mal mn mg mt mh mset) fun r1 mh_1 mset_1 => (ob1 (pf_X4_in v1 0 (r1 - 1)) fun r11 => (if r11 = 0 then (pf_X4_leftAt_j22 v1 1 th mh_1 mset_1) else (pf_X4_leftAt_j22 v1 0 th mh_1 mset_1))))
abbrev rm_X4_leftAt : Room := { frames := 4, cells := 0, slots := 0, locals := 93 }
theorem inw_X4_leftAt_X4 : ∀ w ∈ wsX40, w ∈ wsX4_leftAt := by decide +kernel
theorem hdv_X4_laysLeft : yX4_laysLeft.cls = RX4 ∧ yX4_laysLeft.cls ≠ "java/lang/invoke/MethodHandle" ∧ yX4_laysLeft.cls ≠ "java/lang/invoke/VarHandle" ∧ (parseMethodDescriptor yX4_laysLeft.desc).map (fun d => d.parameters.length) = some 0 := by decide +kernel
set_option maxHeartbeats 4000000 in
set_option maxRecDepth 100000 in
theorem mt_X4_leftAt {l : Launch} (hl : l.stackTraces = false) (D : va_G) (k : Nat → Nat) (cI cJ : ClassId) (th : Int32) (mP : Int32) (mC : Int32) (mR : Int32) (mal : Int32) (mhd : Int32) (mn : Int32) (mg : Nat → Int32) (mt : Nat → Int32) (mh : Nat → Int32) (mz : Nat → Int32) (mset : Nat → Int32) (mfr : Nat → Int32) (mma : Nat → Int32) (mde : Nat → Int32) (mls : Nat → Int32) (v1 : Int32) (r0 : Int32) (th0 : Int32) (mh0 : Nat → Int32) (mset0 : Nat → Int32) (hp : pf_X4_leftAt th mP mC mR mal mn mg mt mh mset v1 = (some (r0, th0, mh0, mset0))) : gMi l yX4_leftAt wsX4_leftAt rm_X4_leftAt D [(cI, .int), (cJ, .long)] (mW k cI th mP mC mR mal mhd mn mg mt mh mz mset mfr mma mde mls) [.ref (k 0), .int v1] 0 0 (fun r w => r = r0 ∧ w = mW k cI th0 mP mC mR mal mhd mn mg mt mh0 mz mset0 mfr mma mde mls) (fun _ _ => False) := by
  refine gMi_of (cc := cX4_leftAt) (maxL := 3) (rt := .int) hl (by decide +kernel) rfl (Nat.le_of_ble_eq_true rfl) ?_
  intro p e s m args below meth c A Q C hnm ht RET OUT THR THRW
  have C : gC p l s m args meth c A D [(cI, .int), (cJ, .long)] 3 RX4 cX4_leftAt wsX4_leftAt := C
  refine gV_loc (lvs' := [(0, .ref (k 0)), (1, .int v1)]) [0, 1] rfl ?_
  unfold pf_X4_leftAt at hp
  have J42 : ∀ (s0 : Int32) (th : Int32) (mh : Nat → Int32) (mset : Nat → Int32), pf_X4_leftAt_j42 s0 th mh mset = (some (r0, th0, mh0, mset0)) → gV p l e rm_X4_leftAt s m args below meth c A D 3 Q (mW k cI th mP mC mR mal mhd mn mg mt mh mz mset mfr mma mde mls) [(0, .ref (k 0))] 0 0 42 [.int s0] := by
    intro s0 th mh mset hp
    unfold pf_X4_leftAt_j42 at hp
    obtain ⟨rfl, rfl, rfl, rfl⟩ := g_so4 hp
    exact RET _ _ _ _ _ _ dX4_leftAt_42 (Nat.le_of_ble_eq_true rfl) (Nat.le_of_ble_eq_true rfl) rfl ⟨rfl, rfl⟩
  have J22 : ∀ (s0 : Int32) (th : Int32) (mh : Nat → Int32) (mset : Nat → Int32), pf_X4_leftAt_j22 v1 s0 th mh mset = (some (r0, th0, mh0, mset0)) → gV p l e rm_X4_leftAt s m args below meth c A D 3 Q (mW k cI th mP mC mR mal mhd mn mg mt mh mz mset mfr mma mde mls) [(0, .ref (k 0)), (1, .int v1)] 0 0 22 [.int s0, .ref (k 0)] := by
    intro s0 th mh mset hp
    unfold pf_X4_leftAt_j22 at hp
    refine gV_put (Cn := RX4) (T := TX4) (N := 16) (ws' := mW k cI s0 mP mC mR mal mhd mn mg mt mh mz mset mfr mma mde mls) C inw_X4_leftAt_X4 tyX4_ok nmX4 0 rfl rfl 0 (by decide) (C.w 1 rfl) rfl rfl rfl rfl rfl (Nat.le_of_ble_eq_true rfl) dX4_leftAt_22 rfl ?_
    refine gV_aload_n C dX4_leftAt_25 rfl 0 rfl ?_
    refine gV_get (Cn := RX4) (T := TX4) (N := 16) C inw_X4_leftAt_X4 0 rfl rfl 0 (by decide) (C.w 1 rfl) rfl rfl dX4_leftAt_26 ?_
    refine gV_if_le (tgt := 36) C dX4_leftAt_29 (by decide) (fun c29 => ?_) (fun c29 => ?_)
    · replace hp := g_ift hp c29
      refine gV_aload_n C dX4_leftAt_36 rfl 0 rfl ?_
      refine gV_get (Cn := RX4) (T := TX4) (N := 16) C inw_X4_leftAt_X4 0 rfl rfl 11 (by decide) (C.w 2 rfl) rfl rfl dX4_leftAt_37 ?_
      refine gV_iload_n C dX4_leftAt_40 rfl 1 rfl ?_
      obtain ⟨hi41, hp⟩ := g_idx hp
      refine gV_iald C 5 rfl 0 rfl hi41 dX4_leftAt_41 ?_
      refine gV_loc [0] rfl ?_
      exact J42 (mset v1.toNatClampNeg) s0 mh mset hp
    · replace hp := g_iff hp c29
      refine gV_iconst (v := 0) C dX4_leftAt_32 rfl ?_
      refine gV_goto (tgt := 42) C dX4_leftAt_33 (by decide) ?_
      refine gV_loc [0] rfl ?_
      exact J42 0 s0 mh mset hp
  refine gV_aload_n C dX4_leftAt_0 rfl 0 rfl ?_
  obtain ⟨r1q, mh_1, mset_1, hq1, hp⟩ := g_ob3 hp
  refine gV_calliS C (gV_runV (As := []) (rest := []) C (mt_X4_laysLeft hl D k cI cJ th mP mC mR mal mhd mn mg mt mh mz mset mfr mma mde mls r1q mh_1 mset_1 hq1) (cwV 0 C.2.2.2.2.1 gX4_leftAt_X4_laysLeft rfl rfl rfl hdv_X4_laysLeft ⟨Nat.le_of_ble_eq_true rfl, Nat.le_of_ble_eq_true rfl⟩) (gSub_S _) 0 rfl rfl rfl rfl (Nat.le_of_ble_eq_true rfl) dX4_leftAt_1 ⟨Nat.le_of_ble_eq_true rfl, Nat.le_of_ble_eq_true rfl⟩) (fun _ _ hx => False.elim hx) (fun r1 w1 hw => ?_)
  obtain ⟨rfl, rfl⟩ := hw
  refine gV_istore_n (lvs' := [(2, .int r1), (0, .ref (k 0)), (1, .int v1)]) C dX4_leftAt_4 rfl (by decide) rfl ?_
  refine gV_aload_n C dX4_leftAt_5 rfl 1 rfl ?_
  refine gV_iload_n C dX4_leftAt_6 rfl 2 rfl ?_
  refine gV_iconst (v := 0) C dX4_leftAt_7 rfl ?_
  refine gV_iload_n C dX4_leftAt_8 rfl 0 rfl ?_
  refine gV_iconst (v := 1) C dX4_leftAt_9 rfl ?_
  refine gV_isub C dX4_leftAt_10 ?_
  obtain ⟨r11q, hq11, hp⟩ := g_ob1 hp
  refine gV_calliE C (gV_runS (As := [.int v1, .int 0, .int (r1 - 1)]) (rest := [.ref (k 0)]) C (mt_X4_in hl D cI cJ v1 0 (r1 - 1) r11q hq11) (va_cwS 3 C.2.2.2.2.1 gX4_leftAt_X4_in rfl rfl rfl hds_X4_in ⟨Nat.le_of_ble_eq_true rfl, Nat.le_of_ble_eq_true rfl⟩) (gSub_E _) rfl rfl (Nat.le_of_ble_eq_true rfl) dX4_leftAt_11 ⟨Nat.le_of_ble_eq_true rfl, Nat.le_of_ble_eq_true rfl⟩) (fun _ _ hx => False.elim hx) (fun r11 w1 hw => ?_)
  obtain ⟨rfl, rfl⟩ := hw
  refine ⟨rfl, ?_⟩
  refine gV_if_eq (tgt := 21) C dX4_leftAt_14 (by decide) (fun c14 => ?_) (fun c14 => ?_)
  · replace hp := g_ift hp c14
    refine gV_iconst (v := 1) C dX4_leftAt_21 rfl ?_
    refine gV_loc [1, 2] rfl ?_
    exact J22 1 th mh_1 mset_1 hp
  · replace hp := g_iff hp c14
    refine gV_iconst (v := 0) C dX4_leftAt_17 rfl ?_
    refine gV_goto (tgt := 22) C dX4_leftAt_18 (by decide) ?_
    refine gV_loc [1, 2] rfl ?_
    exact J22 0 th mh_1 mset_1 hp

def pf_X2_clear  (pn : Int32) (pg : Int32) (pq : Int32) (ps : Nat → Int32)  : Option (Int32 × Int32 × Int32 × (Nat → Int32)) := (ob1 (pf_J7_fill_53178 81 ps 0) fun fv_20 => (some (0, 0, 0, fv_20)))
abbrev rm_X2_clear : Room := { frames := 1, cells := 0, slots := 0, locals := 23 }
theorem inw_X2_clear_X2 : ∀ w ∈ wsX20, w ∈ wsX2_clear := by decide +kernel
theorem hds_J7_fill_53178 : yJ7_fill_53178.cls ≠ "java/lang/invoke/MethodHandle" ∧ yJ7_fill_53178.cls ≠ "java/lang/invoke/VarHandle" ∧ (parseMethodDescriptor yJ7_fill_53178.desc).map (fun d => d.parameters.length) = some 2 := by decide +kernel
set_option maxHeartbeats 4000000 in
set_option maxRecDepth 100000 in
theorem mt_X2_clear {l : Launch} (hl : l.stackTraces = false) (D : va_G) (h : Nat → Nat) (cI cJ : ClassId) (lc : Int32) (la : Int32) (hr : Int32) (uP : Int32) (uC : Int32) (uR : Int32) (tn : Int32) (pn : Int32) (pg : Int32) (pq : Int32) (rl : Nat → Int32) (sr : Nat → Int32) (gcb : Nat → Int32) (gpb : Nat → Int64) (tg : Nat → Int32) (tm : Nat → Int32) (tl : Nat → Int32) (pm : Nat → Int32) (ps : Nat → Int32)  (pn0 : Int32) (pg0 : Int32) (pq0 : Int32) (ps0 : Nat → Int32) (hp : pf_X2_clear pn pg pq ps = (some (pn0, pg0, pq0, ps0))) : gMv l yX2_clear wsX2_clear rm_X2_clear D [(cI, .int), (cJ, .long)] (cW h cI cJ lc la hr uP uC uR tn pn pg pq rl sr gcb gpb tg tm tl pm ps) [.ref (h 3)] 0 0 (fun w => w = cW h cI cJ lc la hr uP uC uR tn pn0 pg0 pq0 rl sr gcb gpb tg tm tl pm ps0) (fun _ _ => False) := by
  refine gMv_of (cc := cX2_clear) (maxL := 1) hl (by decide +kernel) rfl (Nat.le_of_ble_eq_true rfl) ?_
  intro p e s m args below meth c A Q C hnm ht RET OUT THR THRW
  have C : gC p l s m args meth c A D [(cI, .int), (cJ, .long)] 1 RX2 cX2_clear wsX2_clear := C
  refine gV_loc (lvs' := [(0, .ref (h 3))]) [0] rfl ?_
  unfold pf_X2_clear at hp
  refine gV_aload_n C dX2_clear_0 rfl 0 rfl ?_
  refine gV_iconst (v := 0) C dX2_clear_1 rfl ?_
  refine gV_put (Cn := RX2) (T := TX2) (N := 5) (ws' := cW h cI cJ lc la hr uP uC uR tn 0 pg pq rl sr gcb gpb tg tm tl pm ps) C inw_X2_clear_X2 tyX2_ok nmX2 3 rfl rfl 0 (by decide) (C.w 1 rfl) rfl rfl rfl rfl rfl (Nat.le_of_ble_eq_true rfl) dX2_clear_2 rfl ?_
  refine gV_aload_n C dX2_clear_5 rfl 0 rfl ?_
  refine gV_iconst (v := 0) C dX2_clear_6 rfl ?_
  refine gV_put (Cn := RX2) (T := TX2) (N := 5) (ws' := cW h cI cJ lc la hr uP uC uR tn 0 0 pq rl sr gcb gpb tg tm tl pm ps) C inw_X2_clear_X2 tyX2_ok nmX2 3 rfl rfl 1 (by decide) (C.w 2 rfl) rfl rfl rfl rfl rfl (Nat.le_of_ble_eq_true rfl) dX2_clear_7 rfl ?_
  refine gV_aload_n C dX2_clear_10 rfl 0 rfl ?_
  refine gV_iconst (v := 0) C dX2_clear_11 rfl ?_
  refine gV_put (Cn := RX2) (T := TX2) (N := 5) (ws' := cW h cI cJ lc la hr uP uC uR tn 0 0 0 rl sr gcb gpb tg tm tl pm ps) C inw_X2_clear_X2 tyX2_ok nmX2 3 rfl rfl 2 (by decide) (C.w 3 rfl) rfl rfl rfl rfl rfl (Nat.le_of_ble_eq_true rfl) dX2_clear_12 rfl ?_
  refine gV_aload_n C dX2_clear_15 rfl 0 rfl ?_
  refine gV_get (Cn := RX2) (T := TX2) (N := 5) C inw_X2_clear_X2 3 rfl rfl 4 (by decide) (C.w 4 rfl) rfl rfl dX2_clear_16 ?_
  refine gV_iconst (v := 0) C dX2_clear_19 rfl ?_
  obtain ⟨fv_20, hq20, hp⟩ := g_ob1 hp
  refine gV_callv C (gsub_c_12 _ _ rfl rfl) (gV_runS (As := [.ref (h 12), .int 0]) (rest := []) C (mt_J7_fill_53178 hl D (h 12) 81 cI cJ ps 0 fv_20 hq20) (va_cwS 2 C.2.2.2.2.1 gX2_clear_J7_fill_53178 rfl rfl rfl hds_J7_fill_53178 ⟨Nat.le_of_ble_eq_true rfl, Nat.le_of_ble_eq_true rfl⟩) (gsub_c_12 _ _ rfl rfl) rfl rfl (Nat.le_of_ble_eq_true rfl) dX2_clear_20 ⟨Nat.le_of_ble_eq_true rfl, Nat.le_of_ble_eq_true rfl⟩) (fun _ _ hx => False.elim hx) (fun w1 hw => ?_)
  obtain rfl := hw
  refine gV_sub (ws' := cW h cI cJ lc la hr uP uC uR tn 0 0 0 rl sr gcb gpb tg tm tl pm fv_20) [0, 1, 2, 3, 4, 5, 6, 7, 8, 9, 10, 11, 12] (by decide) rfl rfl ?_
  obtain ⟨rfl, rfl, rfl, rfl⟩ := g_so4 hp
  exact RET _ _ _ _ _ dX2_clear_23 (Nat.le_of_ble_eq_true rfl) (Nat.le_of_ble_eq_true rfl) rfl
def pf_X2_add_j10  (pn : Int32) (pg : Int32) (pq : Int32) (pm : Nat → Int32) (ps : Nat → Int32) : Option (Int32 × Int32 × Int32 × (Nat → Int32) × (Nat → Int32)) := (some (pn, pg, pq, pm, ps))
def pf_X2_add_j59 (v1 : Int32) (pn : Int32) (pg : Int32) (pq : Int32) (pm : Nat → Int32) (ps : Nat → Int32) : Option (Int32 × Int32 × Int32 × (Nat → Int32) × (Nat → Int32)) := (gi v1 81 (gi v1 81 (some (pn, (g_max pg ((ps v1.toNatClampNeg) + 1)), (pq + ((2 * ((ps v1.toNatClampNeg) + 1)) - 1)), pm, (upd ps v1.toNatClampNeg ((ps v1.toNatClampNeg) + 1))))))
def pf_X2_add  (pn : Int32) (pg : Int32) (pq : Int32) (pm : Nat → Int32) (ps : Nat → Int32) (v1 : Int32) : Option (Int32 × Int32 × Int32 × (Nat → Int32) × (Nat → Int32)) := (if v1 < 0 then (pf_X2_add_j10 pn pg pq pm ps) else (if v1 ≤ 80 then (gi v1 81 (if (ps v1.toNatClampNeg) = 0 then (if pn < 0 then (pf_X2_add_j59 v1 pn pg pq pm ps) else (if 81 ≤ pn then (pf_X2_add_j59 v1 pn pg pq pm ps) else (gi pn 81 (pf_X2_add_j59 v1 (pn + 1) pg pq (upd pm pn.toNatClampNeg v1) ps)))) else (pf_X2_add_j59 v1 pn pg pq pm ps))) else (pf_X2_add_j10 pn pg pq pm ps)))
abbrev rm_X2_add : Room := { frames := 1, cells := 0, slots := 0, locals := 14 }
theorem inw_X2_add_X2 : ∀ w ∈ wsX20, w ∈ wsX2_add := by decide +kernel
set_option maxHeartbeats 4000000 in
set_option maxRecDepth 100000 in
theorem mt_X2_add {l : Launch} (hl : l.stackTraces = false) (D : va_G) (h : Nat → Nat) (cI cJ : ClassId) (lc : Int32) (la : Int32) (hr : Int32) (uP : Int32) (uC : Int32) (uR : Int32) (tn : Int32) (pn : Int32) (pg : Int32) (pq : Int32) (rl : Nat → Int32) (sr : Nat → Int32) (gcb : Nat → Int32) (gpb : Nat → Int64) (tg : Nat → Int32) (tm : Nat → Int32) (tl : Nat → Int32) (pm : Nat → Int32) (ps : Nat → Int32) (v1 : Int32) (pn0 : Int32) (pg0 : Int32) (pq0 : Int32) (pm0 : Nat → Int32) (ps0 : Nat → Int32) (hp : pf_X2_add pn pg pq pm ps v1 = (some (pn0, pg0, pq0, pm0, ps0))) : gMv l yX2_add wsX2_add rm_X2_add D [(cI, .int), (cJ, .long)] (cW h cI cJ lc la hr uP uC uR tn pn pg pq rl sr gcb gpb tg tm tl pm ps) [.ref (h 3), .int v1] 0 0 (fun w => w = cW h cI cJ lc la hr uP uC uR tn pn0 pg0 pq0 rl sr gcb gpb tg tm tl pm0 ps0) (fun _ _ => False) := by
  refine gMv_of (cc := cX2_add) (maxL := 3) hl (by decide +kernel) rfl (Nat.le_of_ble_eq_true rfl) ?_
  intro p e s m args below meth c A Q C hnm ht RET OUT THR THRW
  have C : gC p l s m args meth c A D [(cI, .int), (cJ, .long)] 3 RX2 cX2_add wsX2_add := C
  refine gV_loc (lvs' := [(0, .ref (h 3)), (1, .int v1)]) [0, 1] rfl ?_
  unfold pf_X2_add at hp
  have J59 : ∀ (pn : Int32) (pg : Int32) (pq : Int32) (pm : Nat → Int32) (ps : Nat → Int32), pf_X2_add_j59 v1 pn pg pq pm ps = (some (pn0, pg0, pq0, pm0, ps0)) → gV p l e rm_X2_add s m args below meth c A D 3 Q (cW h cI cJ lc la hr uP uC uR tn pn pg pq rl sr gcb gpb tg tm tl pm ps) [(0, .ref (h 3)), (1, .int v1)] 0 0 59 [] := by
    intro pn pg pq pm ps hp
    unfold pf_X2_add_j59 at hp
    refine gV_aload_n C dX2_add_59 rfl 0 rfl ?_
    refine gV_get (Cn := RX2) (T := TX2) (N := 5) C inw_X2_add_X2 3 rfl rfl 4 (by decide) (C.w 1 rfl) rfl rfl dX2_add_60 ?_
    refine gV_iload_n C dX2_add_63 rfl 1 rfl ?_
    obtain ⟨hi64, hp⟩ := g_idx hp
    refine gV_iald C 12 rfl 0 rfl hi64 dX2_add_64 ?_
    refine gV_iconst (v := 1) C dX2_add_65 rfl ?_
    refine gV_iadd C dX2_add_66 ?_
    refine gV_istore_n (lvs' := [(2, .int ((ps v1.toNatClampNeg) + 1)), (0, .ref (h 3)), (1, .int v1)]) C dX2_add_67 rfl (by decide) rfl ?_
    refine gV_aload_n C dX2_add_68 rfl 1 rfl ?_
    refine gV_get (Cn := RX2) (T := TX2) (N := 5) C inw_X2_add_X2 3 rfl rfl 4 (by decide) (C.w 1 rfl) rfl rfl dX2_add_69 ?_
    refine gV_iload_n C dX2_add_72 rfl 2 rfl ?_
    refine gV_iload_n C dX2_add_73 rfl 0 rfl ?_
    obtain ⟨hi74, hp⟩ := g_idx hp
    refine gV_iast (ws' := cW h cI cJ lc la hr uP uC uR tn pn pg pq rl sr gcb gpb tg tm tl pm (upd ps v1.toNatClampNeg ((ps v1.toNatClampNeg) + 1))) C 12 rfl 0 rfl hi74 dX2_add_74 rfl ?_
    refine gV_aload_n C dX2_add_75 rfl 1 rfl ?_
    refine gV_aload_n C dX2_add_76 rfl 1 rfl ?_
    refine gV_get (Cn := RX2) (T := TX2) (N := 5) C inw_X2_add_X2 3 rfl rfl 1 (by decide) (C.w 4 rfl) rfl rfl dX2_add_77 ?_
    refine gV_iload_n C dX2_add_80 rfl 0 rfl ?_
    refine gV_mmax C (C.w 5 rfl) (C.w 6 rfl) (C.w 7 rfl) (C.w 8 rfl) (Nat.le_of_ble_eq_true rfl) (Nat.le_of_ble_eq_true rfl) (Nat.le_of_ble_eq_true rfl) (Nat.le_of_ble_eq_true rfl) dX2_add_81 ?_
    refine gV_put (Cn := RX2) (T := TX2) (N := 5) (ws' := cW h cI cJ lc la hr uP uC uR tn pn (g_max pg ((ps v1.toNatClampNeg) + 1)) pq rl sr gcb gpb tg tm tl pm (upd ps v1.toNatClampNeg ((ps v1.toNatClampNeg) + 1))) C inw_X2_add_X2 tyX2_ok nmX2 3 rfl rfl 1 (by decide) (C.w 4 rfl) rfl rfl rfl rfl rfl (Nat.le_of_ble_eq_true rfl) dX2_add_84 rfl ?_
    refine gV_aload_n C dX2_add_87 rfl 1 rfl ?_
    refine gV_dup C dX2_add_88 rfl ?_
    refine gV_get (Cn := RX2) (T := TX2) (N := 5) C inw_X2_add_X2 3 rfl rfl 2 (by decide) (C.w 9 rfl) rfl rfl dX2_add_89 ?_
    refine gV_iconst (v := 2) C dX2_add_92 rfl ?_
    refine gV_iload_n C dX2_add_93 rfl 0 rfl ?_
    refine gV_imul C dX2_add_94 ?_
    refine gV_iconst (v := 1) C dX2_add_95 rfl ?_
    refine gV_isub C dX2_add_96 ?_
    refine gV_iadd C dX2_add_97 ?_
    refine gV_put (Cn := RX2) (T := TX2) (N := 5) (ws' := cW h cI cJ lc la hr uP uC uR tn pn (g_max pg ((ps v1.toNatClampNeg) + 1)) (pq + ((2 * ((ps v1.toNatClampNeg) + 1)) - 1)) rl sr gcb gpb tg tm tl pm (upd ps v1.toNatClampNeg ((ps v1.toNatClampNeg) + 1))) C inw_X2_add_X2 tyX2_ok nmX2 3 rfl rfl 2 (by decide) (C.w 9 rfl) rfl rfl rfl rfl rfl (Nat.le_of_ble_eq_true rfl) dX2_add_98 rfl ?_
    obtain ⟨rfl, rfl, rfl, rfl, rfl⟩ := g_so5 hp
    exact RET _ _ _ _ _ dX2_add_101 (Nat.le_of_ble_eq_true rfl) (Nat.le_of_ble_eq_true rfl) rfl
  have J10 : ∀ (pn : Int32) (pg : Int32) (pq : Int32) (pm : Nat → Int32) (ps : Nat → Int32), pf_X2_add_j10 pn pg pq pm ps = (some (pn0, pg0, pq0, pm0, ps0)) → gV p l e rm_X2_add s m args below meth c A D 3 Q (cW h cI cJ lc la hr uP uC uR tn pn pg pq rl sr gcb gpb tg tm tl pm ps) [(0, .ref (h 3))] 0 0 10 [] := by
    intro pn pg pq pm ps hp
    unfold pf_X2_add_j10 at hp
    obtain ⟨rfl, rfl, rfl, rfl, rfl⟩ := g_so5 hp
    exact RET _ _ _ _ _ dX2_add_10 (Nat.le_of_ble_eq_true rfl) (Nat.le_of_ble_eq_true rfl) rfl
  refine gV_iload_n C dX2_add_0 rfl 1 rfl ?_
  refine gV_if_lt (tgt := 10) C dX2_add_1 (by decide) (fun c1 => ?_) (fun c1 => ?_)
  · replace hp := g_ift hp c1
    refine gV_loc [0] rfl ?_
    exact J10 pn pg pq pm ps hp
  · replace hp := g_iff hp c1
    refine gV_iload_n C dX2_add_4 rfl 1 rfl ?_
    refine gV_bipush (v := 80) C dX2_add_5 rfl ?_
    refine gV_icmp_le (tgt := 11) C dX2_add_7 (by decide) (fun c7 => ?_) (fun c7 => ?_)
    · replace hp := g_ift hp c7
      refine gV_aload_n C dX2_add_11 rfl 0 rfl ?_
      refine gV_get (Cn := RX2) (T := TX2) (N := 5) C inw_X2_add_X2 3 rfl rfl 4 (by decide) (C.w 1 rfl) rfl rfl dX2_add_12 ?_
      refine gV_iload_n C dX2_add_15 rfl 1 rfl ?_
      obtain ⟨hi16, hp⟩ := g_idx hp
      refine gV_iald C 12 rfl 0 rfl hi16 dX2_add_16 ?_
      refine gV_if_ne (tgt := 59) C dX2_add_17 (by decide) (fun c17 => ?_) (fun c17 => ?_)
      · replace hp := g_iff hp c17
        exact J59 pn pg pq pm ps hp
      · replace hp := g_ift hp c17
        refine gV_aload_n C dX2_add_20 rfl 0 rfl ?_
        refine gV_get (Cn := RX2) (T := TX2) (N := 5) C inw_X2_add_X2 3 rfl rfl 0 (by decide) (C.w 2 rfl) rfl rfl dX2_add_21 ?_
        refine gV_if_lt (tgt := 59) C dX2_add_24 (by decide) (fun c24 => ?_) (fun c24 => ?_)
        · replace hp := g_ift hp c24
          exact J59 pn pg pq pm ps hp
        · replace hp := g_iff hp c24
          refine gV_aload_n C dX2_add_27 rfl 0 rfl ?_
          refine gV_get (Cn := RX2) (T := TX2) (N := 5) C inw_X2_add_X2 3 rfl rfl 0 (by decide) (C.w 2 rfl) rfl rfl dX2_add_28 ?_
          refine gV_aload_n C dX2_add_31 rfl 0 rfl ?_
          refine gV_get (Cn := RX2) (T := TX2) (N := 5) C inw_X2_add_X2 3 rfl rfl 3 (by decide) (C.w 3 rfl) rfl rfl dX2_add_32 ?_
          refine gV_alen (v := 81) C 11 rfl 0 rfl rfl dX2_add_35 ?_
          refine gV_icmp_ge (tgt := 59) C dX2_add_36 (by decide) (fun c36 => ?_) (fun c36 => ?_)
          · replace hp := g_ift hp c36
            exact J59 pn pg pq pm ps hp
          · replace hp := g_iff hp c36
            refine gV_aload_n C dX2_add_39 rfl 0 rfl ?_
            refine gV_get (Cn := RX2) (T := TX2) (N := 5) C inw_X2_add_X2 3 rfl rfl 3 (by decide) (C.w 3 rfl) rfl rfl dX2_add_40 ?_
            refine gV_aload_n C dX2_add_43 rfl 0 rfl ?_
            refine gV_get (Cn := RX2) (T := TX2) (N := 5) C inw_X2_add_X2 3 rfl rfl 0 (by decide) (C.w 2 rfl) rfl rfl dX2_add_44 ?_
            refine gV_iload_n C dX2_add_47 rfl 1 rfl ?_
            obtain ⟨hi48, hp⟩ := g_idx hp
            refine gV_iast (ws' := cW h cI cJ lc la hr uP uC uR tn pn pg pq rl sr gcb gpb tg tm tl (upd pm pn.toNatClampNeg v1) ps) C 11 rfl 0 rfl hi48 dX2_add_48 rfl ?_
            refine gV_aload_n C dX2_add_49 rfl 0 rfl ?_
            refine gV_dup C dX2_add_50 rfl ?_
            refine gV_get (Cn := RX2) (T := TX2) (N := 5) C inw_X2_add_X2 3 rfl rfl 0 (by decide) (C.w 2 rfl) rfl rfl dX2_add_51 ?_
            refine gV_iconst (v := 1) C dX2_add_54 rfl ?_
            refine gV_iadd C dX2_add_55 ?_
            refine gV_put (Cn := RX2) (T := TX2) (N := 5) (ws' := cW h cI cJ lc la hr uP uC uR tn (pn + 1) pg pq rl sr gcb gpb tg tm tl (upd pm pn.toNatClampNeg v1) ps) C inw_X2_add_X2 tyX2_ok nmX2 3 rfl rfl 0 (by decide) (C.w 2 rfl) rfl rfl rfl rfl rfl (Nat.le_of_ble_eq_true rfl) dX2_add_56 rfl ?_
            exact J59 (pn + 1) pg pq (upd pm pn.toNatClampNeg v1) ps hp
    · replace hp := g_iff hp c7
      refine gV_loc [0] rfl ?_
      exact J10 pn pg pq pm ps hp
def pf_X2_has_j26  (s0 : Int32) : Option (Int32) := (gz s0 ((some s0)))
def pf_X2_has_j25  : Option (Int32) := (pf_X2_has_j26 0)
def pf_X2_has  (pn : Int32) (v1 : Int32) : Option (Int32) := (if v1 < 0 then (pf_X2_has_j25) else (if pn ≤ v1 then (pf_X2_has_j25) else (if 81 ≤ v1 then (pf_X2_has_j25) else (pf_X2_has_j26 1))))
abbrev rm_X2_has : Room := { frames := 0, cells := 0, slots := 0, locals := 0 }
theorem inw_X2_has_X2 : ∀ w ∈ wsX20, w ∈ wsX2_has := by decide +kernel
set_option maxHeartbeats 4000000 in
set_option maxRecDepth 100000 in
theorem mt_X2_has {l : Launch} (hl : l.stackTraces = false) (D : va_G) (h : Nat → Nat) (cI cJ : ClassId) (lc : Int32) (la : Int32) (hr : Int32) (uP : Int32) (uC : Int32) (uR : Int32) (tn : Int32) (pn : Int32) (pg : Int32) (pq : Int32) (rl : Nat → Int32) (sr : Nat → Int32) (gcb : Nat → Int32) (gpb : Nat → Int64) (tg : Nat → Int32) (tm : Nat → Int32) (tl : Nat → Int32) (pm : Nat → Int32) (ps : Nat → Int32) (v1 : Int32) (r0 : Int32) (hp : pf_X2_has pn v1 = (some r0)) : gMi l yX2_has wsX2_has rm_X2_has D [(cI, .int), (cJ, .long)] (cW h cI cJ lc la hr uP uC uR tn pn pg pq rl sr gcb gpb tg tm tl pm ps) [.ref (h 3), .int v1] 0 0 (fun r w => r = r0 ∧ w = cW h cI cJ lc la hr uP uC uR tn pn pg pq rl sr gcb gpb tg tm tl pm ps) (fun _ _ => False) := by
  refine gMi_of (cc := cX2_has) (maxL := 2) (rt := .boolean) hl (by decide +kernel) rfl (Nat.le_of_ble_eq_true rfl) ?_
  intro p e s m args below meth c A Q C hnm ht RET OUT THR THRW
  have C : gC p l s m args meth c A D [(cI, .int), (cJ, .long)] 2 RX2 cX2_has wsX2_has := C
  refine gV_loc (lvs' := [(0, .ref (h 3)), (1, .int v1)]) [0, 1] rfl ?_
  unfold pf_X2_has at hp
  have J26 : ∀ (s0 : Int32), pf_X2_has_j26 s0 = (some r0) → gV p l e rm_X2_has s m args below meth c A D 2 Q (cW h cI cJ lc la hr uP uC uR tn pn pg pq rl sr gcb gpb tg tm tl pm ps) [(0, .ref (h 3))] 0 0 26 [.int s0] := by
    intro s0 hp
    unfold pf_X2_has_j26 at hp
    obtain ⟨hz26, hp⟩ := g_bool hp
    obtain rfl := g_so1 hp
    exact RET _ _ _ _ _ _ dX2_has_26 (Nat.le_of_ble_eq_true rfl) (Nat.le_of_ble_eq_true rfl) (g_nz hz26) ⟨rfl, rfl⟩
  have J25 : pf_X2_has_j25 = (some r0) → gV p l e rm_X2_has s m args below meth c A D 2 Q (cW h cI cJ lc la hr uP uC uR tn pn pg pq rl sr gcb gpb tg tm tl pm ps) [(0, .ref (h 3))] 0 0 25 [] := by
    intro hp
    unfold pf_X2_has_j25 at hp
    refine gV_iconst (v := 0) C dX2_has_25 rfl ?_
    exact J26 0 hp
  refine gV_iload_n C dX2_has_0 rfl 1 rfl ?_
  refine gV_if_lt (tgt := 25) C dX2_has_1 (by decide) (fun c1 => ?_) (fun c1 => ?_)
  · replace hp := g_ift hp c1
    refine gV_loc [0] rfl ?_
    exact J25 hp
  · replace hp := g_iff hp c1
    refine gV_iload_n C dX2_has_4 rfl 1 rfl ?_
    refine gV_aload_n C dX2_has_5 rfl 0 rfl ?_
    refine gV_get (Cn := RX2) (T := TX2) (N := 5) C inw_X2_has_X2 3 rfl rfl 0 (by decide) (C.w 1 rfl) rfl rfl dX2_has_6 ?_
    refine gV_icmp_ge (tgt := 25) C dX2_has_9 (by decide) (fun c9 => ?_) (fun c9 => ?_)
    · replace hp := g_ift hp c9
      refine gV_loc [0] rfl ?_
      exact J25 hp
    · replace hp := g_iff hp c9
      refine gV_iload_n C dX2_has_12 rfl 1 rfl ?_
      refine gV_aload_n C dX2_has_13 rfl 0 rfl ?_
      refine gV_get (Cn := RX2) (T := TX2) (N := 5) C inw_X2_has_X2 3 rfl rfl 3 (by decide) (C.w 2 rfl) rfl rfl dX2_has_14 ?_
      refine gV_alen (v := 81) C 11 rfl 0 rfl rfl dX2_has_17 ?_
      refine gV_icmp_ge (tgt := 25) C dX2_has_18 (by decide) (fun c18 => ?_) (fun c18 => ?_)
      · replace hp := g_ift hp c18
        refine gV_loc [0] rfl ?_
        exact J25 hp
      · replace hp := g_iff hp c18
        refine gV_iconst (v := 1) C dX2_has_21 rfl ?_
        refine gV_goto (tgt := 26) C dX2_has_22 (by decide) ?_
        refine gV_loc [0] rfl ?_
        exact J26 1 hp
def pf_X2_markAt_j18  (s0 : Int32) : Option (Int32) := (some s0)
def pf_X2_markAt  (pn : Int32) (pm : Nat → Int32) (v1 : Int32) : Option (Int32) := (ob1 (pf_X2_has pn v1) fun r2 => (if r2 = 0 then (pf_X2_markAt_j18 0) else (gi v1 81 (pf_X2_markAt_j18 (pm v1.toNatClampNeg)))))
abbrev rm_X2_markAt : Room := { frames := 1, cells := 0, slots := 0, locals := 21 }
theorem inw_X2_markAt_X2 : ∀ w ∈ wsX20, w ∈ wsX2_markAt := by decide +kernel
theorem hdv_X2_has : yX2_has.cls = RX2 ∧ yX2_has.cls ≠ "java/lang/invoke/MethodHandle" ∧ yX2_has.cls ≠ "java/lang/invoke/VarHandle" ∧ (parseMethodDescriptor yX2_has.desc).map (fun d => d.parameters.length) = some 1 := by decide +kernel
set_option maxHeartbeats 4000000 in
set_option maxRecDepth 100000 in
theorem mt_X2_markAt {l : Launch} (hl : l.stackTraces = false) (D : va_G) (h : Nat → Nat) (cI cJ : ClassId) (lc : Int32) (la : Int32) (hr : Int32) (uP : Int32) (uC : Int32) (uR : Int32) (tn : Int32) (pn : Int32) (pg : Int32) (pq : Int32) (rl : Nat → Int32) (sr : Nat → Int32) (gcb : Nat → Int32) (gpb : Nat → Int64) (tg : Nat → Int32) (tm : Nat → Int32) (tl : Nat → Int32) (pm : Nat → Int32) (ps : Nat → Int32) (v1 : Int32) (r0 : Int32) (hp : pf_X2_markAt pn pm v1 = (some r0)) : gMi l yX2_markAt wsX2_markAt rm_X2_markAt D [(cI, .int), (cJ, .long)] (cW h cI cJ lc la hr uP uC uR tn pn pg pq rl sr gcb gpb tg tm tl pm ps) [.ref (h 3), .int v1] 0 0 (fun r w => r = r0 ∧ w = cW h cI cJ lc la hr uP uC uR tn pn pg pq rl sr gcb gpb tg tm tl pm ps) (fun _ _ => False) := by
  refine gMi_of (cc := cX2_markAt) (maxL := 2) (rt := .int) hl (by decide +kernel) rfl (Nat.le_of_ble_eq_true rfl) ?_
  intro p e s m args below meth c A Q C hnm ht RET OUT THR THRW
  have C : gC p l s m args meth c A D [(cI, .int), (cJ, .long)] 2 RX2 cX2_markAt wsX2_markAt := C
  refine gV_loc (lvs' := [(0, .ref (h 3)), (1, .int v1)]) [0, 1] rfl ?_
  unfold pf_X2_markAt at hp
  have J18 : ∀ (s0 : Int32), pf_X2_markAt_j18 s0 = (some r0) → gV p l e rm_X2_markAt s m args below meth c A D 2 Q (cW h cI cJ lc la hr uP uC uR tn pn pg pq rl sr gcb gpb tg tm tl pm ps) [(0, .ref (h 3))] 0 0 18 [.int s0] := by
    intro s0 hp
    unfold pf_X2_markAt_j18 at hp
    obtain rfl := g_so1 hp
    exact RET _ _ _ _ _ _ dX2_markAt_18 (Nat.le_of_ble_eq_true rfl) (Nat.le_of_ble_eq_true rfl) rfl ⟨rfl, rfl⟩
  refine gV_aload_n C dX2_markAt_0 rfl 0 rfl ?_
  refine gV_iload_n C dX2_markAt_1 rfl 1 rfl ?_
  obtain ⟨r2q, hq2, hp⟩ := g_ob1 hp
  refine gV_calliS C (gV_runV (As := [.int v1]) (rest := []) C (mt_X2_has hl D h cI cJ lc la hr uP uC uR tn pn pg pq rl sr gcb gpb tg tm tl pm ps v1 r2q hq2) (cwV 1 C.2.2.2.2.1 gX2_markAt_X2_has rfl rfl rfl hdv_X2_has ⟨Nat.le_of_ble_eq_true rfl, Nat.le_of_ble_eq_true rfl⟩) (gSub_S _) 3 rfl rfl rfl rfl (Nat.le_of_ble_eq_true rfl) dX2_markAt_2 ⟨Nat.le_of_ble_eq_true rfl, Nat.le_of_ble_eq_true rfl⟩) (fun _ _ hx => False.elim hx) (fun r2 w1 hw => ?_)
  obtain ⟨rfl, rfl⟩ := hw
  refine gV_if_eq (tgt := 17) C dX2_markAt_5 (by decide) (fun c5 => ?_) (fun c5 => ?_)
  · replace hp := g_ift hp c5
    refine gV_iconst (v := 0) C dX2_markAt_17 rfl ?_
    refine gV_loc [0] rfl ?_
    exact J18 0 hp
  · replace hp := g_iff hp c5
    refine gV_aload_n C dX2_markAt_8 rfl 0 rfl ?_
    refine gV_get (Cn := RX2) (T := TX2) (N := 5) C inw_X2_markAt_X2 3 rfl rfl 3 (by decide) (C.w 1 rfl) rfl rfl dX2_markAt_9 ?_
    refine gV_iload_n C dX2_markAt_12 rfl 1 rfl ?_
    obtain ⟨hi13, hp⟩ := g_idx hp
    refine gV_iald C 11 rfl 0 rfl hi13 dX2_markAt_13 ?_
    refine gV_goto (tgt := 18) C dX2_markAt_14 (by decide) ?_
    refine gV_loc [0] rfl ?_
    exact J18 (pm v1.toNatClampNeg) hp
def pf_X2_sizeWith_j20  (s0 : Int32) : Option (Int32) := (some s0)
def pf_X2_sizeWith_j19  : Option (Int32) := (pf_X2_sizeWith_j20 0)
def pf_X2_sizeWith  (ps : Nat → Int32) (v1 : Int32) : Option (Int32) := (if v1 < 0 then (pf_X2_sizeWith_j19) else (if 80 < v1 then (pf_X2_sizeWith_j19) else (gi v1 81 (pf_X2_sizeWith_j20 (ps v1.toNatClampNeg)))))
abbrev rm_X2_sizeWith : Room := { frames := 0, cells := 0, slots := 0, locals := 0 }
theorem inw_X2_sizeWith_X2 : ∀ w ∈ wsX20, w ∈ wsX2_sizeWith := by decide +kernel
set_option maxHeartbeats 4000000 in
set_option maxRecDepth 100000 in
theorem mt_X2_sizeWith {l : Launch} (hl : l.stackTraces = false) (D : va_G) (h : Nat → Nat) (cI cJ : ClassId) (lc : Int32) (la : Int32) (hr : Int32) (uP : Int32) (uC : Int32) (uR : Int32) (tn : Int32) (pn : Int32) (pg : Int32) (pq : Int32) (rl : Nat → Int32) (sr : Nat → Int32) (gcb : Nat → Int32) (gpb : Nat → Int64) (tg : Nat → Int32) (tm : Nat → Int32) (tl : Nat → Int32) (pm : Nat → Int32) (ps : Nat → Int32) (v1 : Int32) (r0 : Int32) (hp : pf_X2_sizeWith ps v1 = (some r0)) : gMi l yX2_sizeWith wsX2_sizeWith rm_X2_sizeWith D [(cI, .int), (cJ, .long)] (cW h cI cJ lc la hr uP uC uR tn pn pg pq rl sr gcb gpb tg tm tl pm ps) [.ref (h 3), .int v1] 0 0 (fun r w => r = r0 ∧ w = cW h cI cJ lc la hr uP uC uR tn pn pg pq rl sr gcb gpb tg tm tl pm ps) (fun _ _ => False) := by
  refine gMi_of (cc := cX2_sizeWith) (maxL := 2) (rt := .int) hl (by decide +kernel) rfl (Nat.le_of_ble_eq_true rfl) ?_
  intro p e s m args below meth c A Q C hnm ht RET OUT THR THRW
  have C : gC p l s m args meth c A D [(cI, .int), (cJ, .long)] 2 RX2 cX2_sizeWith wsX2_sizeWith := C
  refine gV_loc (lvs' := [(0, .ref (h 3)), (1, .int v1)]) [0, 1] rfl ?_
  unfold pf_X2_sizeWith at hp
  have J20 : ∀ (s0 : Int32), pf_X2_sizeWith_j20 s0 = (some r0) → gV p l e rm_X2_sizeWith s m args below meth c A D 2 Q (cW h cI cJ lc la hr uP uC uR tn pn pg pq rl sr gcb gpb tg tm tl pm ps) [(0, .ref (h 3))] 0 0 20 [.int s0] := by
    intro s0 hp
    unfold pf_X2_sizeWith_j20 at hp
    obtain rfl := g_so1 hp
    exact RET _ _ _ _ _ _ dX2_sizeWith_20 (Nat.le_of_ble_eq_true rfl) (Nat.le_of_ble_eq_true rfl) rfl ⟨rfl, rfl⟩
  have J19 : pf_X2_sizeWith_j19 = (some r0) → gV p l e rm_X2_sizeWith s m args below meth c A D 2 Q (cW h cI cJ lc la hr uP uC uR tn pn pg pq rl sr gcb gpb tg tm tl pm ps) [(0, .ref (h 3))] 0 0 19 [] := by
    intro hp
    unfold pf_X2_sizeWith_j19 at hp
    refine gV_iconst (v := 0) C dX2_sizeWith_19 rfl ?_
    exact J20 0 hp
  refine gV_iload_n C dX2_sizeWith_0 rfl 1 rfl ?_
  refine gV_if_lt (tgt := 19) C dX2_sizeWith_1 (by decide) (fun c1 => ?_) (fun c1 => ?_)
  · replace hp := g_ift hp c1
    refine gV_loc [0] rfl ?_
    exact J19 hp
  · replace hp := g_iff hp c1
    refine gV_iload_n C dX2_sizeWith_4 rfl 1 rfl ?_
    refine gV_bipush (v := 80) C dX2_sizeWith_5 rfl ?_
    refine gV_icmp_gt (tgt := 19) C dX2_sizeWith_7 (by decide) (fun c7 => ?_) (fun c7 => ?_)
    · replace hp := g_ift hp c7
      refine gV_loc [0] rfl ?_
      exact J19 hp
    · replace hp := g_iff hp c7
      refine gV_aload_n C dX2_sizeWith_10 rfl 0 rfl ?_
      refine gV_get (Cn := RX2) (T := TX2) (N := 5) C inw_X2_sizeWith_X2 3 rfl rfl 4 (by decide) (C.w 1 rfl) rfl rfl dX2_sizeWith_11 ?_
      refine gV_iload_n C dX2_sizeWith_14 rfl 1 rfl ?_
      obtain ⟨hi15, hp⟩ := g_idx hp
      refine gV_iald C 12 rfl 0 rfl hi15 dX2_sizeWith_15 ?_
      refine gV_goto (tgt := 20) C dX2_sizeWith_16 (by decide) ?_
      refine gV_loc [0] rfl ?_
      exact J20 (ps v1.toNatClampNeg) hp
def pf_X2_score_j26  (s0 : Int32) : Option (Int32) := (some s0)
def pf_X2_score  (pn : Int32) (pg : Int32) (pq : Int32) (v1 : Int32) : Option (Int32) := (if v1 = 0 then (some pg) else (if v1 = 1 then (pf_X2_score_j26 pq) else (pf_X2_score_j26 (-pn))))
abbrev rm_X2_score : Room := { frames := 0, cells := 0, slots := 0, locals := 0 }
theorem inw_X2_score_X2 : ∀ w ∈ wsX20, w ∈ wsX2_score := by decide +kernel
set_option maxHeartbeats 4000000 in
set_option maxRecDepth 100000 in
theorem mt_X2_score {l : Launch} (hl : l.stackTraces = false) (D : va_G) (h : Nat → Nat) (cI cJ : ClassId) (lc : Int32) (la : Int32) (hr : Int32) (uP : Int32) (uC : Int32) (uR : Int32) (tn : Int32) (pn : Int32) (pg : Int32) (pq : Int32) (rl : Nat → Int32) (sr : Nat → Int32) (gcb : Nat → Int32) (gpb : Nat → Int64) (tg : Nat → Int32) (tm : Nat → Int32) (tl : Nat → Int32) (pm : Nat → Int32) (ps : Nat → Int32) (v1 : Int32) (r0 : Int32) (hp : pf_X2_score pn pg pq v1 = (some r0)) : gMi l yX2_score wsX2_score rm_X2_score D [(cI, .int), (cJ, .long)] (cW h cI cJ lc la hr uP uC uR tn pn pg pq rl sr gcb gpb tg tm tl pm ps) [.ref (h 3), .int v1] 0 0 (fun r w => r = r0 ∧ w = cW h cI cJ lc la hr uP uC uR tn pn pg pq rl sr gcb gpb tg tm tl pm ps) (fun _ _ => False) := by
  refine gMi_of (cc := cX2_score) (maxL := 2) (rt := .int) hl (by decide +kernel) rfl (Nat.le_of_ble_eq_true rfl) ?_
  intro p e s m args below meth c A Q C hnm ht RET OUT THR THRW
  have C : gC p l s m args meth c A D [(cI, .int), (cJ, .long)] 2 RX2 cX2_score wsX2_score := C
  refine gV_loc (lvs' := [(0, .ref (h 3)), (1, .int v1)]) [0, 1] rfl ?_
  unfold pf_X2_score at hp
  have J26 : ∀ (s0 : Int32), pf_X2_score_j26 s0 = (some r0) → gV p l e rm_X2_score s m args below meth c A D 2 Q (cW h cI cJ lc la hr uP uC uR tn pn pg pq rl sr gcb gpb tg tm tl pm ps) [(0, .ref (h 3))] 0 0 26 [.int s0] := by
    intro s0 hp
    unfold pf_X2_score_j26 at hp
    obtain rfl := g_so1 hp
    exact RET _ _ _ _ _ _ dX2_score_26 (Nat.le_of_ble_eq_true rfl) (Nat.le_of_ble_eq_true rfl) rfl ⟨rfl, rfl⟩
  refine gV_iload_n C dX2_score_0 rfl 1 rfl ?_
  refine gV_if_ne (tgt := 9) C dX2_score_1 (by decide) (fun c1 => ?_) (fun c1 => ?_)
  · replace hp := g_iff hp c1
    refine gV_iload_n C dX2_score_9 rfl 1 rfl ?_
    refine gV_iconst (v := 1) C dX2_score_10 rfl ?_
    refine gV_icmp_ne (tgt := 21) C dX2_score_11 (by decide) (fun c11 => ?_) (fun c11 => ?_)
    · replace hp := g_iff hp c11
      refine gV_aload_n C dX2_score_21 rfl 0 rfl ?_
      refine gV_get (Cn := RX2) (T := TX2) (N := 5) C inw_X2_score_X2 3 rfl rfl 0 (by decide) (C.w 3 rfl) rfl rfl dX2_score_22 ?_
      refine gV_ineg C dX2_score_25 ?_
      refine gV_loc [0] rfl ?_
      exact J26 (-pn) hp
    · replace hp := g_ift hp c11
      refine gV_aload_n C dX2_score_14 rfl 0 rfl ?_
      refine gV_get (Cn := RX2) (T := TX2) (N := 5) C inw_X2_score_X2 3 rfl rfl 2 (by decide) (C.w 2 rfl) rfl rfl dX2_score_15 ?_
      refine gV_goto (tgt := 26) C dX2_score_18 (by decide) ?_
      refine gV_loc [0] rfl ?_
      exact J26 pq hp
  · replace hp := g_ift hp c1
    refine gV_aload_n C dX2_score_4 rfl 0 rfl ?_
    refine gV_get (Cn := RX2) (T := TX2) (N := 5) C inw_X2_score_X2 3 rfl rfl 1 (by decide) (C.w 1 rfl) rfl rfl dX2_score_5 ?_
    obtain rfl := g_so1 hp
    exact RET _ _ _ _ _ _ dX2_score_8 (Nat.le_of_ble_eq_true rfl) (Nat.le_of_ble_eq_true rfl) rfl ⟨rfl, rfl⟩

def pf_X0_forgetAll  (tn : Int32) (tl : Nat → Int32)  : Option (Int32 × (Nat → Int32)) := (ob1 (pf_J7_fill_53178 256 tl 0) fun fv_10 => (some (0, fv_10)))
abbrev rm_X0_forgetAll : Room := { frames := 1, cells := 0, slots := 0, locals := 23 }
theorem inw_X0_forgetAll_X0 : ∀ w ∈ wsX00, w ∈ wsX0_forgetAll := by decide +kernel
set_option maxHeartbeats 4000000 in
set_option maxRecDepth 100000 in
theorem mt_X0_forgetAll {l : Launch} (hl : l.stackTraces = false) (D : va_G) (h : Nat → Nat) (cI cJ : ClassId) (lc : Int32) (la : Int32) (hr : Int32) (uP : Int32) (uC : Int32) (uR : Int32) (tn : Int32) (pn : Int32) (pg : Int32) (pq : Int32) (rl : Nat → Int32) (sr : Nat → Int32) (gcb : Nat → Int32) (gpb : Nat → Int64) (tg : Nat → Int32) (tm : Nat → Int32) (tl : Nat → Int32) (pm : Nat → Int32) (ps : Nat → Int32)  (tn0 : Int32) (tl0 : Nat → Int32) (hp : pf_X0_forgetAll tn tl = (some (tn0, tl0))) : gMv l yX0_forgetAll wsX0_forgetAll rm_X0_forgetAll D [(cI, .int), (cJ, .long)] (cW h cI cJ lc la hr uP uC uR tn pn pg pq rl sr gcb gpb tg tm tl pm ps) [.ref (h 2)] 0 0 (fun w => w = cW h cI cJ lc la hr uP uC uR tn0 pn pg pq rl sr gcb gpb tg tm tl0 pm ps) (fun _ _ => False) := by
  refine gMv_of (cc := cX0_forgetAll) (maxL := 1) hl (by decide +kernel) rfl (Nat.le_of_ble_eq_true rfl) ?_
  intro p e s m args below meth c A Q C hnm ht RET OUT THR THRW
  have C : gC p l s m args meth c A D [(cI, .int), (cJ, .long)] 1 RX0 cX0_forgetAll wsX0_forgetAll := C
  refine gV_loc (lvs' := [(0, .ref (h 2))]) [0] rfl ?_
  unfold pf_X0_forgetAll at hp
  refine gV_aload_n C dX0_forgetAll_0 rfl 0 rfl ?_
  refine gV_iconst (v := 0) C dX0_forgetAll_1 rfl ?_
  refine gV_put (Cn := RX0) (T := TX0) (N := 5) (ws' := cW h cI cJ lc la hr uP uC uR 0 pn pg pq rl sr gcb gpb tg tm tl pm ps) C inw_X0_forgetAll_X0 tyX0_ok nmX0 2 rfl rfl 1 (by decide) (C.w 1 rfl) rfl rfl rfl rfl rfl (Nat.le_of_ble_eq_true rfl) dX0_forgetAll_2 rfl ?_
  refine gV_aload_n C dX0_forgetAll_5 rfl 0 rfl ?_
  refine gV_get (Cn := RX0) (T := TX0) (N := 5) C inw_X0_forgetAll_X0 2 rfl rfl 4 (by decide) (C.w 2 rfl) rfl rfl dX0_forgetAll_6 ?_
  refine gV_iconst (v := 0) C dX0_forgetAll_9 rfl ?_
  obtain ⟨fv_10, hq10, hp⟩ := g_ob1 hp
  refine gV_callv C (gsub_c_10 _ _ rfl rfl) (gV_runS (As := [.ref (h 10), .int 0]) (rest := []) C (mt_J7_fill_53178 hl D (h 10) 256 cI cJ tl 0 fv_10 hq10) (va_cwS 2 C.2.2.2.2.1 gX0_forgetAll_J7_fill_53178 rfl rfl rfl hds_J7_fill_53178 ⟨Nat.le_of_ble_eq_true rfl, Nat.le_of_ble_eq_true rfl⟩) (gsub_c_10 _ _ rfl rfl) rfl rfl (Nat.le_of_ble_eq_true rfl) dX0_forgetAll_10 ⟨Nat.le_of_ble_eq_true rfl, Nat.le_of_ble_eq_true rfl⟩) (fun _ _ hx => False.elim hx) (fun w1 hw => ?_)
  obtain rfl := hw
  refine gV_sub (ws' := cW h cI cJ lc la hr uP uC uR 0 pn pg pq rl sr gcb gpb tg tm fv_10 pm ps) [0, 1, 2, 3, 4, 5, 6, 7, 8, 9, 12, 10, 11] (by decide) rfl rfl ?_
  obtain ⟨rfl, rfl⟩ := g_so2 hp
  exact RET _ _ _ _ _ dX0_forgetAll_13 (Nat.le_of_ble_eq_true rfl) (Nat.le_of_ble_eq_true rfl) rfl
def pf_X0_isFull_j14  (s0 : Int32) : Option (Int32) := (gz s0 ((some s0)))
def pf_X0_isFull  (tn : Int32)  : Option (Int32) := (if tn < 10 then (pf_X0_isFull_j14 0) else (pf_X0_isFull_j14 1))
abbrev rm_X0_isFull : Room := { frames := 0, cells := 0, slots := 0, locals := 0 }
theorem inw_X0_isFull_X0 : ∀ w ∈ wsX00, w ∈ wsX0_isFull := by decide +kernel
set_option maxHeartbeats 4000000 in
set_option maxRecDepth 100000 in
theorem mt_X0_isFull {l : Launch} (hl : l.stackTraces = false) (D : va_G) (h : Nat → Nat) (cI cJ : ClassId) (lc : Int32) (la : Int32) (hr : Int32) (uP : Int32) (uC : Int32) (uR : Int32) (tn : Int32) (pn : Int32) (pg : Int32) (pq : Int32) (rl : Nat → Int32) (sr : Nat → Int32) (gcb : Nat → Int32) (gpb : Nat → Int64) (tg : Nat → Int32) (tm : Nat → Int32) (tl : Nat → Int32) (pm : Nat → Int32) (ps : Nat → Int32)  (r0 : Int32) (hp : pf_X0_isFull tn = (some r0)) : gMi l yX0_isFull wsX0_isFull rm_X0_isFull D [(cI, .int), (cJ, .long)] (cW h cI cJ lc la hr uP uC uR tn pn pg pq rl sr gcb gpb tg tm tl pm ps) [.ref (h 2)] 0 0 (fun r w => r = r0 ∧ w = cW h cI cJ lc la hr uP uC uR tn pn pg pq rl sr gcb gpb tg tm tl pm ps) (fun _ _ => False) := by
  refine gMi_of (cc := cX0_isFull) (maxL := 1) (rt := .boolean) hl (by decide +kernel) rfl (Nat.le_of_ble_eq_true rfl) ?_
  intro p e s m args below meth c A Q C hnm ht RET OUT THR THRW
  have C : gC p l s m args meth c A D [(cI, .int), (cJ, .long)] 1 RX0 cX0_isFull wsX0_isFull := C
  refine gV_loc (lvs' := [(0, .ref (h 2))]) [0] rfl ?_
  unfold pf_X0_isFull at hp
  have J14 : ∀ (s0 : Int32), pf_X0_isFull_j14 s0 = (some r0) → gV p l e rm_X0_isFull s m args below meth c A D 1 Q (cW h cI cJ lc la hr uP uC uR tn pn pg pq rl sr gcb gpb tg tm tl pm ps) [(0, .ref (h 2))] 0 0 14 [.int s0] := by
    intro s0 hp
    unfold pf_X0_isFull_j14 at hp
    obtain ⟨hz14, hp⟩ := g_bool hp
    obtain rfl := g_so1 hp
    exact RET _ _ _ _ _ _ dX0_isFull_14 (Nat.le_of_ble_eq_true rfl) (Nat.le_of_ble_eq_true rfl) (g_nz hz14) ⟨rfl, rfl⟩
  refine gV_aload_n C dX0_isFull_0 rfl 0 rfl ?_
  refine gV_get (Cn := RX0) (T := TX0) (N := 5) C inw_X0_isFull_X0 2 rfl rfl 1 (by decide) (C.w 1 rfl) rfl rfl dX0_isFull_1 ?_
  refine gV_bipush (v := 10) C dX0_isFull_4 rfl ?_
  refine gV_icmp_lt (tgt := 13) C dX0_isFull_6 (by decide) (fun c6 => ?_) (fun c6 => ?_)
  · replace hp := g_ift hp c6
    refine gV_iconst (v := 0) C dX0_isFull_13 rfl ?_
    exact J14 0 hp
  · replace hp := g_iff hp c6
    refine gV_iconst (v := 1) C dX0_isFull_9 rfl ?_
    refine gV_goto (tgt := 14) C dX0_isFull_10 (by decide) ?_
    exact J14 1 hp
def pf_X0_has_j23  (s0 : Int32) : Option (Int32) := (gz s0 ((some s0)))
def pf_X0_has_j22  : Option (Int32) := (pf_X0_has_j23 0)
def pf_X0_has  (tn : Int32) (v1 : Int32) : Option (Int32) := (if v1 < 0 then (pf_X0_has_j22) else (if tn ≤ v1 then (pf_X0_has_j22) else (if 10 ≤ v1 then (pf_X0_has_j22) else (pf_X0_has_j23 1))))
abbrev rm_X0_has : Room := { frames := 0, cells := 0, slots := 0, locals := 0 }
theorem inw_X0_has_X0 : ∀ w ∈ wsX00, w ∈ wsX0_has := by decide +kernel
set_option maxHeartbeats 4000000 in
set_option maxRecDepth 100000 in
theorem mt_X0_has {l : Launch} (hl : l.stackTraces = false) (D : va_G) (h : Nat → Nat) (cI cJ : ClassId) (lc : Int32) (la : Int32) (hr : Int32) (uP : Int32) (uC : Int32) (uR : Int32) (tn : Int32) (pn : Int32) (pg : Int32) (pq : Int32) (rl : Nat → Int32) (sr : Nat → Int32) (gcb : Nat → Int32) (gpb : Nat → Int64) (tg : Nat → Int32) (tm : Nat → Int32) (tl : Nat → Int32) (pm : Nat → Int32) (ps : Nat → Int32) (v1 : Int32) (r0 : Int32) (hp : pf_X0_has tn v1 = (some r0)) : gMi l yX0_has wsX0_has rm_X0_has D [(cI, .int), (cJ, .long)] (cW h cI cJ lc la hr uP uC uR tn pn pg pq rl sr gcb gpb tg tm tl pm ps) [.ref (h 2), .int v1] 0 0 (fun r w => r = r0 ∧ w = cW h cI cJ lc la hr uP uC uR tn pn pg pq rl sr gcb gpb tg tm tl pm ps) (fun _ _ => False) := by
  refine gMi_of (cc := cX0_has) (maxL := 2) (rt := .boolean) hl (by decide +kernel) rfl (Nat.le_of_ble_eq_true rfl) ?_
  intro p e s m args below meth c A Q C hnm ht RET OUT THR THRW
  have C : gC p l s m args meth c A D [(cI, .int), (cJ, .long)] 2 RX0 cX0_has wsX0_has := C
  refine gV_loc (lvs' := [(0, .ref (h 2)), (1, .int v1)]) [0, 1] rfl ?_
  unfold pf_X0_has at hp
  have J23 : ∀ (s0 : Int32), pf_X0_has_j23 s0 = (some r0) → gV p l e rm_X0_has s m args below meth c A D 2 Q (cW h cI cJ lc la hr uP uC uR tn pn pg pq rl sr gcb gpb tg tm tl pm ps) [(0, .ref (h 2))] 0 0 23 [.int s0] := by
    intro s0 hp
    unfold pf_X0_has_j23 at hp
    obtain ⟨hz23, hp⟩ := g_bool hp
    obtain rfl := g_so1 hp
    exact RET _ _ _ _ _ _ dX0_has_23 (Nat.le_of_ble_eq_true rfl) (Nat.le_of_ble_eq_true rfl) (g_nz hz23) ⟨rfl, rfl⟩
  have J22 : pf_X0_has_j22 = (some r0) → gV p l e rm_X0_has s m args below meth c A D 2 Q (cW h cI cJ lc la hr uP uC uR tn pn pg pq rl sr gcb gpb tg tm tl pm ps) [(0, .ref (h 2))] 0 0 22 [] := by
    intro hp
    unfold pf_X0_has_j22 at hp
    refine gV_iconst (v := 0) C dX0_has_22 rfl ?_
    exact J23 0 hp
  refine gV_iload_n C dX0_has_0 rfl 1 rfl ?_
  refine gV_if_lt (tgt := 22) C dX0_has_1 (by decide) (fun c1 => ?_) (fun c1 => ?_)
  · replace hp := g_ift hp c1
    refine gV_loc [0] rfl ?_
    exact J22 hp
  · replace hp := g_iff hp c1
    refine gV_iload_n C dX0_has_4 rfl 1 rfl ?_
    refine gV_aload_n C dX0_has_5 rfl 0 rfl ?_
    refine gV_get (Cn := RX0) (T := TX0) (N := 5) C inw_X0_has_X0 2 rfl rfl 1 (by decide) (C.w 1 rfl) rfl rfl dX0_has_6 ?_
    refine gV_icmp_ge (tgt := 22) C dX0_has_9 (by decide) (fun c9 => ?_) (fun c9 => ?_)
    · replace hp := g_ift hp c9
      refine gV_loc [0] rfl ?_
      exact J22 hp
    · replace hp := g_iff hp c9
      refine gV_iload_n C dX0_has_12 rfl 1 rfl ?_
      refine gV_bipush (v := 10) C dX0_has_13 rfl ?_
      refine gV_icmp_ge (tgt := 22) C dX0_has_15 (by decide) (fun c15 => ?_) (fun c15 => ?_)
      · replace hp := g_ift hp c15
        refine gV_loc [0] rfl ?_
        exact J22 hp
      · replace hp := g_iff hp c15
        refine gV_iconst (v := 1) C dX0_has_18 rfl ?_
        refine gV_goto (tgt := 23) C dX0_has_19 (by decide) ?_
        refine gV_loc [0] rfl ?_
        exact J23 1 hp
def pf_X0_guessAt_j18  (s0 : Int32) : Option (Int32) := (some s0)
def pf_X0_guessAt  (tn : Int32) (tg : Nat → Int32) (v1 : Int32) : Option (Int32) := (ob1 (pf_X0_has tn v1) fun r2 => (if r2 = 0 then (pf_X0_guessAt_j18 0) else (gi v1 10 (pf_X0_guessAt_j18 (tg v1.toNatClampNeg)))))
abbrev rm_X0_guessAt : Room := { frames := 1, cells := 0, slots := 0, locals := 21 }
theorem inw_X0_guessAt_X0 : ∀ w ∈ wsX00, w ∈ wsX0_guessAt := by decide +kernel
theorem hdv_X0_has : yX0_has.cls = RX0 ∧ yX0_has.cls ≠ "java/lang/invoke/MethodHandle" ∧ yX0_has.cls ≠ "java/lang/invoke/VarHandle" ∧ (parseMethodDescriptor yX0_has.desc).map (fun d => d.parameters.length) = some 1 := by decide +kernel
set_option maxHeartbeats 4000000 in
set_option maxRecDepth 100000 in
theorem mt_X0_guessAt {l : Launch} (hl : l.stackTraces = false) (D : va_G) (h : Nat → Nat) (cI cJ : ClassId) (lc : Int32) (la : Int32) (hr : Int32) (uP : Int32) (uC : Int32) (uR : Int32) (tn : Int32) (pn : Int32) (pg : Int32) (pq : Int32) (rl : Nat → Int32) (sr : Nat → Int32) (gcb : Nat → Int32) (gpb : Nat → Int64) (tg : Nat → Int32) (tm : Nat → Int32) (tl : Nat → Int32) (pm : Nat → Int32) (ps : Nat → Int32) (v1 : Int32) (r0 : Int32) (hp : pf_X0_guessAt tn tg v1 = (some r0)) : gMi l yX0_guessAt wsX0_guessAt rm_X0_guessAt D [(cI, .int), (cJ, .long)] (cW h cI cJ lc la hr uP uC uR tn pn pg pq rl sr gcb gpb tg tm tl pm ps) [.ref (h 2), .int v1] 0 0 (fun r w => r = r0 ∧ w = cW h cI cJ lc la hr uP uC uR tn pn pg pq rl sr gcb gpb tg tm tl pm ps) (fun _ _ => False) := by
  refine gMi_of (cc := cX0_guessAt) (maxL := 2) (rt := .int) hl (by decide +kernel) rfl (Nat.le_of_ble_eq_true rfl) ?_
  intro p e s m args below meth c A Q C hnm ht RET OUT THR THRW
  have C : gC p l s m args meth c A D [(cI, .int), (cJ, .long)] 2 RX0 cX0_guessAt wsX0_guessAt := C
  refine gV_loc (lvs' := [(0, .ref (h 2)), (1, .int v1)]) [0, 1] rfl ?_
  unfold pf_X0_guessAt at hp
  have J18 : ∀ (s0 : Int32), pf_X0_guessAt_j18 s0 = (some r0) → gV p l e rm_X0_guessAt s m args below meth c A D 2 Q (cW h cI cJ lc la hr uP uC uR tn pn pg pq rl sr gcb gpb tg tm tl pm ps) [(0, .ref (h 2))] 0 0 18 [.int s0] := by
    intro s0 hp
    unfold pf_X0_guessAt_j18 at hp
    obtain rfl := g_so1 hp
    exact RET _ _ _ _ _ _ dX0_guessAt_18 (Nat.le_of_ble_eq_true rfl) (Nat.le_of_ble_eq_true rfl) rfl ⟨rfl, rfl⟩
  refine gV_aload_n C dX0_guessAt_0 rfl 0 rfl ?_
  refine gV_iload_n C dX0_guessAt_1 rfl 1 rfl ?_
  obtain ⟨r2q, hq2, hp⟩ := g_ob1 hp
  refine gV_calliS C (gV_runV (As := [.int v1]) (rest := []) C (mt_X0_has hl D h cI cJ lc la hr uP uC uR tn pn pg pq rl sr gcb gpb tg tm tl pm ps v1 r2q hq2) (cwV 1 C.2.2.2.2.1 gX0_guessAt_X0_has rfl rfl rfl hdv_X0_has ⟨Nat.le_of_ble_eq_true rfl, Nat.le_of_ble_eq_true rfl⟩) (gSub_S _) 2 rfl rfl rfl rfl (Nat.le_of_ble_eq_true rfl) dX0_guessAt_2 ⟨Nat.le_of_ble_eq_true rfl, Nat.le_of_ble_eq_true rfl⟩) (fun _ _ hx => False.elim hx) (fun r2 w1 hw => ?_)
  obtain ⟨rfl, rfl⟩ := hw
  refine gV_if_eq (tgt := 17) C dX0_guessAt_5 (by decide) (fun c5 => ?_) (fun c5 => ?_)
  · replace hp := g_ift hp c5
    refine gV_iconst (v := 0) C dX0_guessAt_17 rfl ?_
    refine gV_loc [0] rfl ?_
    exact J18 0 hp
  · replace hp := g_iff hp c5
    refine gV_aload_n C dX0_guessAt_8 rfl 0 rfl ?_
    refine gV_get (Cn := RX0) (T := TX0) (N := 5) C inw_X0_guessAt_X0 2 rfl rfl 2 (by decide) (C.w 1 rfl) rfl rfl dX0_guessAt_9 ?_
    refine gV_iload_n C dX0_guessAt_12 rfl 1 rfl ?_
    obtain ⟨hi13, hp⟩ := g_idx hp
    refine gV_iald C 8 rfl 0 rfl hi13 dX0_guessAt_13 ?_
    refine gV_goto (tgt := 18) C dX0_guessAt_14 (by decide) ?_
    refine gV_loc [0] rfl ?_
    exact J18 (tg v1.toNatClampNeg) hp
def pf_X0_markAt_j18  (s0 : Int32) : Option (Int32) := (some s0)
def pf_X0_markAt  (tn : Int32) (tm : Nat → Int32) (v1 : Int32) : Option (Int32) := (ob1 (pf_X0_has tn v1) fun r2 => (if r2 = 0 then (pf_X0_markAt_j18 0) else (gi v1 10 (pf_X0_markAt_j18 (tm v1.toNatClampNeg)))))
abbrev rm_X0_markAt : Room := { frames := 1, cells := 0, slots := 0, locals := 21 }
theorem inw_X0_markAt_X0 : ∀ w ∈ wsX00, w ∈ wsX0_markAt := by decide +kernel
set_option maxHeartbeats 4000000 in
set_option maxRecDepth 100000 in
theorem mt_X0_markAt {l : Launch} (hl : l.stackTraces = false) (D : va_G) (h : Nat → Nat) (cI cJ : ClassId) (lc : Int32) (la : Int32) (hr : Int32) (uP : Int32) (uC : Int32) (uR : Int32) (tn : Int32) (pn : Int32) (pg : Int32) (pq : Int32) (rl : Nat → Int32) (sr : Nat → Int32) (gcb : Nat → Int32) (gpb : Nat → Int64) (tg : Nat → Int32) (tm : Nat → Int32) (tl : Nat → Int32) (pm : Nat → Int32) (ps : Nat → Int32) (v1 : Int32) (r0 : Int32) (hp : pf_X0_markAt tn tm v1 = (some r0)) : gMi l yX0_markAt wsX0_markAt rm_X0_markAt D [(cI, .int), (cJ, .long)] (cW h cI cJ lc la hr uP uC uR tn pn pg pq rl sr gcb gpb tg tm tl pm ps) [.ref (h 2), .int v1] 0 0 (fun r w => r = r0 ∧ w = cW h cI cJ lc la hr uP uC uR tn pn pg pq rl sr gcb gpb tg tm tl pm ps) (fun _ _ => False) := by
  refine gMi_of (cc := cX0_markAt) (maxL := 2) (rt := .int) hl (by decide +kernel) rfl (Nat.le_of_ble_eq_true rfl) ?_
  intro p e s m args below meth c A Q C hnm ht RET OUT THR THRW
  have C : gC p l s m args meth c A D [(cI, .int), (cJ, .long)] 2 RX0 cX0_markAt wsX0_markAt := C
  refine gV_loc (lvs' := [(0, .ref (h 2)), (1, .int v1)]) [0, 1] rfl ?_
  unfold pf_X0_markAt at hp
  have J18 : ∀ (s0 : Int32), pf_X0_markAt_j18 s0 = (some r0) → gV p l e rm_X0_markAt s m args below meth c A D 2 Q (cW h cI cJ lc la hr uP uC uR tn pn pg pq rl sr gcb gpb tg tm tl pm ps) [(0, .ref (h 2))] 0 0 18 [.int s0] := by
    intro s0 hp
    unfold pf_X0_markAt_j18 at hp
    obtain rfl := g_so1 hp
    exact RET _ _ _ _ _ _ dX0_markAt_18 (Nat.le_of_ble_eq_true rfl) (Nat.le_of_ble_eq_true rfl) rfl ⟨rfl, rfl⟩
  refine gV_aload_n C dX0_markAt_0 rfl 0 rfl ?_
  refine gV_iload_n C dX0_markAt_1 rfl 1 rfl ?_
  obtain ⟨r2q, hq2, hp⟩ := g_ob1 hp
  refine gV_calliS C (gV_runV (As := [.int v1]) (rest := []) C (mt_X0_has hl D h cI cJ lc la hr uP uC uR tn pn pg pq rl sr gcb gpb tg tm tl pm ps v1 r2q hq2) (cwV 1 C.2.2.2.2.1 gX0_markAt_X0_has rfl rfl rfl hdv_X0_has ⟨Nat.le_of_ble_eq_true rfl, Nat.le_of_ble_eq_true rfl⟩) (gSub_S _) 2 rfl rfl rfl rfl (Nat.le_of_ble_eq_true rfl) dX0_markAt_2 ⟨Nat.le_of_ble_eq_true rfl, Nat.le_of_ble_eq_true rfl⟩) (fun _ _ hx => False.elim hx) (fun r2 w1 hw => ?_)
  obtain ⟨rfl, rfl⟩ := hw
  refine gV_if_eq (tgt := 17) C dX0_markAt_5 (by decide) (fun c5 => ?_) (fun c5 => ?_)
  · replace hp := g_ift hp c5
    refine gV_iconst (v := 0) C dX0_markAt_17 rfl ?_
    refine gV_loc [0] rfl ?_
    exact J18 0 hp
  · replace hp := g_iff hp c5
    refine gV_aload_n C dX0_markAt_8 rfl 0 rfl ?_
    refine gV_get (Cn := RX0) (T := TX0) (N := 5) C inw_X0_markAt_X0 2 rfl rfl 3 (by decide) (C.w 1 rfl) rfl rfl dX0_markAt_9 ?_
    refine gV_iload_n C dX0_markAt_12 rfl 1 rfl ?_
    obtain ⟨hi13, hp⟩ := g_idx hp
    refine gV_iald C 9 rfl 0 rfl hi13 dX0_markAt_13 ?_
    refine gV_goto (tgt := 18) C dX0_markAt_14 (by decide) ?_
    refine gV_loc [0] rfl ?_
    exact J18 (tm v1.toNatClampNeg) hp
def pf_X0_add_j14  (tn : Int32) (tg : Nat → Int32) (tm : Nat → Int32) (tl : Nat → Int32) : Option (Int32 × (Nat → Int32) × (Nat → Int32) × (Nat → Int32)) := (some (tn, tg, tm, tl))
def pf_X0_add_j108  (tn : Int32) (tg : Nat → Int32) (tm : Nat → Int32) (tl : Nat → Int32) : Option (Int32 × (Nat → Int32) × (Nat → Int32) × (Nat → Int32)) := (some (tn, tg, tm, tl))
def pf_X0_add_j83  (kL47 : Int32 → (Nat → Int32) → Option (Int32 × (Nat → Int32) × (Nat → Int32) × (Nat → Int32))) (v3 : Int32) (s0 : Int32) (tl : Nat → Int32) : Option (Int32 × (Nat → Int32) × (Nat → Int32) × (Nat → Int32)) := (gi v3 256 (gi v3 256 (kL47 (v3 + 1) (upd tl v3.toNatClampNeg (((tl v3.toNatClampNeg) <<< (1 &&& 31)) ||| s0)))))
def pf_X0_add_L47 (v1 : Int32) (v2 : Int32) (uP : Int32) (uR : Int32) (gcb : Nat → Int32) (gpb : Nat → Int64) (tn : Int32) (tg : Nat → Int32) (tm : Nat → Int32) : Nat → Int32 → (Nat → Int32) → Option (Int32 × (Nat → Int32) × (Nat → Int32) × (Nat → Int32))
  | 0, _, _ => none
  | n47 + 1, v3, tl => (if uR ≤ v3 then (pf_X0_add_j108 tn tg tm tl) else (if 256 ≤ v3 then (pf_X0_add_j108 tn tg tm tl) else (ob1 (pf_X1_compare uP uR gcb gpb v1 v3) fun r71 => (if r71 = v2 then (pf_X0_add_j83 (fun v3 tl => pf_X0_add_L47 v1 v2 uP uR gcb gpb tn tg tm n47 v3 tl) v3 0 tl) else (pf_X0_add_j83 (fun v3 tl => pf_X0_add_L47 v1 v2 uP uR gcb gpb tn tg tm n47 v3 tl) v3 1 tl)))))
def pf_X0_add  (uP : Int32) (uR : Int32) (tn : Int32) (gcb : Nat → Int32) (gpb : Nat → Int64) (tg : Nat → Int32) (tm : Nat → Int32) (tl : Nat → Int32) (v1 : Int32) (v2 : Int32) : Option (Int32 × (Nat → Int32) × (Nat → Int32) × (Nat → Int32)) := (if tn < 0 then (pf_X0_add_j14 tn tg tm tl) else (ob1 (pf_X0_isFull tn) fun r8 => (if r8 = 0 then (gi tn 10 (gi tn 10 (pf_X0_add_L47 v1 v2 uP uR gcb gpb (tn + 1) (upd tg tn.toNatClampNeg v1) (upd tm tn.toNatClampNeg v2) 100000 0 tl))) else (pf_X0_add_j14 tn tg tm tl))))
abbrev rm_X0_add : Room := { frames := 2, cells := 0, slots := 0, locals := 47 }
theorem inw_X0_add_X0 : ∀ w ∈ wsX00, w ∈ wsX0_add := by decide +kernel
theorem inw_X0_add_X1 : ∀ w ∈ wsX10, w ∈ wsX0_add := by decide +kernel
theorem hdv_X0_isFull : yX0_isFull.cls = RX0 ∧ yX0_isFull.cls ≠ "java/lang/invoke/MethodHandle" ∧ yX0_isFull.cls ≠ "java/lang/invoke/VarHandle" ∧ (parseMethodDescriptor yX0_isFull.desc).map (fun d => d.parameters.length) = some 0 := by decide +kernel
theorem hdv_X1_compare : yX1_compare.cls = RX1 ∧ yX1_compare.cls ≠ "java/lang/invoke/MethodHandle" ∧ yX1_compare.cls ≠ "java/lang/invoke/VarHandle" ∧ (parseMethodDescriptor yX1_compare.desc).map (fun d => d.parameters.length) = some 2 := by decide +kernel
set_option maxHeartbeats 4000000 in
set_option maxRecDepth 100000 in
theorem mt_X0_add {l : Launch} (hl : l.stackTraces = false) (D : va_G) (h : Nat → Nat) (cI cJ : ClassId) (lc : Int32) (la : Int32) (hr : Int32) (uP : Int32) (uC : Int32) (uR : Int32) (tn : Int32) (pn : Int32) (pg : Int32) (pq : Int32) (rl : Nat → Int32) (sr : Nat → Int32) (gcb : Nat → Int32) (gpb : Nat → Int64) (tg : Nat → Int32) (tm : Nat → Int32) (tl : Nat → Int32) (pm : Nat → Int32) (ps : Nat → Int32) (v1 : Int32) (v2 : Int32) (tn0 : Int32) (tg0 : Nat → Int32) (tm0 : Nat → Int32) (tl0 : Nat → Int32) (hp : pf_X0_add uP uR tn gcb gpb tg tm tl v1 v2 = (some (tn0, tg0, tm0, tl0))) : gMv l yX0_add wsX0_add rm_X0_add D [(cI, .int), (cJ, .long)] (cW h cI cJ lc la hr uP uC uR tn pn pg pq rl sr gcb gpb tg tm tl pm ps) [.ref (h 2), .int v1, .int v2] 0 0 (fun w => w = cW h cI cJ lc la hr uP uC uR tn0 pn pg pq rl sr gcb gpb tg0 tm0 tl0 pm ps) (fun _ _ => False) := by
  refine gMv_of (cc := cX0_add) (maxL := 5) hl (by decide +kernel) rfl (Nat.le_of_ble_eq_true rfl) ?_
  intro p e s m args below meth c A Q C hnm ht RET OUT THR THRW
  have C : gC p l s m args meth c A D [(cI, .int), (cJ, .long)] 5 RX0 cX0_add wsX0_add := C
  refine gV_loc (lvs' := [(0, .ref (h 2)), (1, .int v1), (2, .int v2)]) [0, 1, 2] rfl ?_
  unfold pf_X0_add at hp
  have J108 : ∀ (tn : Int32) (tg : Nat → Int32) (tm : Nat → Int32) (tl : Nat → Int32), pf_X0_add_j108 tn tg tm tl = (some (tn0, tg0, tm0, tl0)) → gV p l e rm_X0_add s m args below meth c A D 5 Q (cW h cI cJ lc la hr uP uC uR tn pn pg pq rl sr gcb gpb tg tm tl pm ps) [(0, .ref (h 2))] 0 0 108 [] := by
    intro tn tg tm tl hp
    unfold pf_X0_add_j108 at hp
    obtain ⟨rfl, rfl, rfl, rfl⟩ := g_so4 hp
    exact RET _ _ _ _ _ dX0_add_108 (Nat.le_of_ble_eq_true rfl) (Nat.le_of_ble_eq_true rfl) rfl
  have L47 : ∀ (tn : Int32) (tg : Nat → Int32) (tm : Nat → Int32) (n47 : Nat) (v3 : Int32) (tl : Nat → Int32), pf_X0_add_L47 v1 v2 uP uR gcb gpb tn tg tm n47 v3 tl = (some (tn0, tg0, tm0, tl0)) → gV p l e rm_X0_add s m args below meth c A D 5 Q (cW h cI cJ lc la hr uP uC uR tn pn pg pq rl sr gcb gpb tg tm tl pm ps) [(0, .ref (h 2)), (1, .int v1), (2, .int v2), (3, .int v3)] 0 0 47 [] := by
    intro tn tg tm n47
    induction n47 with
    | zero => intro v3 tl hp; exact g_none hp
    | succ n47 ih47 =>
      intro v3 tl hp
      rw [pf_X0_add_L47.eq_2] at hp
      have J83 : ∀ (v3 : Int32) (s0 : Int32) (tl : Nat → Int32), pf_X0_add_j83 (fun v3 tl => pf_X0_add_L47 v1 v2 uP uR gcb gpb tn tg tm n47 v3 tl) v3 s0 tl = (some (tn0, tg0, tm0, tl0)) → gV p l e rm_X0_add s m args below meth c A D 5 Q (cW h cI cJ lc la hr uP uC uR tn pn pg pq rl sr gcb gpb tg tm tl pm ps) [(0, .ref (h 2)), (1, .int v1), (2, .int v2), (3, .int v3)] 0 0 83 [.int s0] := by
        intro v3 s0 tl hp
        unfold pf_X0_add_j83 at hp
        refine gV_istore (lvs' := [(4, .int s0), (0, .ref (h 2)), (1, .int v1), (2, .int v2), (3, .int v3)]) C dX0_add_83 (by decide) rfl ?_
        refine gV_aload_n C dX0_add_85 rfl 1 rfl ?_
        refine gV_get (Cn := RX0) (T := TX0) (N := 5) C inw_X0_add_X0 2 rfl rfl 4 (by decide) (C.w 6 rfl) rfl rfl dX0_add_86 ?_
        refine gV_iload_n C dX0_add_89 rfl 4 rfl ?_
        refine gV_aload_n C dX0_add_90 rfl 1 rfl ?_
        refine gV_get (Cn := RX0) (T := TX0) (N := 5) C inw_X0_add_X0 2 rfl rfl 4 (by decide) (C.w 6 rfl) rfl rfl dX0_add_91 ?_
        refine gV_iload_n C dX0_add_94 rfl 4 rfl ?_
        obtain ⟨hi95, hp⟩ := g_idx hp
        refine gV_iald C 10 rfl 0 rfl hi95 dX0_add_95 ?_
        refine gV_iconst (v := 1) C dX0_add_96 rfl ?_
        refine gV_ishl C dX0_add_97 ?_
        refine gV_iload C dX0_add_98 0 rfl ?_
        refine gV_ior C dX0_add_100 ?_
        obtain ⟨hi101, hp⟩ := g_idx hp
        refine gV_iast (ws' := cW h cI cJ lc la hr uP uC uR tn pn pg pq rl sr gcb gpb tg tm (upd tl v3.toNatClampNeg (((tl v3.toNatClampNeg) <<< (1 &&& 31)) ||| s0)) pm ps) C 10 rfl 0 rfl hi101 dX0_add_101 rfl ?_
        refine gV_iinc (v := (v3 + 1)) (lvs' := [(3, .int (v3 + 1)), (4, .int s0), (0, .ref (h 2)), (1, .int v1), (2, .int v2)]) C dX0_add_102 4 rfl rfl (by decide) rfl ?_
        refine gV_goto (tgt := 47) C dX0_add_105 (by decide) ?_
        refine gV_loc [2, 3, 4, 0] rfl ?_
        exact ih47 (v3 + 1) (upd tl v3.toNatClampNeg (((tl v3.toNatClampNeg) <<< (1 &&& 31)) ||| s0)) hp
      refine gV_iload_n C dX0_add_47 rfl 3 rfl ?_
      refine gV_aload_n C dX0_add_48 rfl 0 rfl ?_
      refine gV_get (Cn := RX0) (T := TX0) (N := 5) C inw_X0_add_X0 2 rfl rfl 0 (by decide) (C.w 4 rfl) rfl rfl dX0_add_49 ?_
      refine gV_get (Cn := RX1) (T := TX1) (N := 5) C inw_X0_add_X1 1 rfl rfl 2 (by decide) (C.w 5 rfl) rfl rfl dX0_add_52 ?_
      refine gV_icmp_ge (tgt := 108) C dX0_add_55 (by decide) (fun c55 => ?_) (fun c55 => ?_)
      · replace hp := g_ift hp c55
        refine gV_loc [0] rfl ?_
        exact J108 tn tg tm tl hp
      · replace hp := g_iff hp c55
        refine gV_iload_n C dX0_add_58 rfl 3 rfl ?_
        refine gV_sipush (v := 256) C dX0_add_59 rfl ?_
        refine gV_icmp_ge (tgt := 108) C dX0_add_62 (by decide) (fun c62 => ?_) (fun c62 => ?_)
        · replace hp := g_ift hp c62
          refine gV_loc [0] rfl ?_
          exact J108 tn tg tm tl hp
        · replace hp := g_iff hp c62
          refine gV_aload_n C dX0_add_65 rfl 0 rfl ?_
          refine gV_get (Cn := RX0) (T := TX0) (N := 5) C inw_X0_add_X0 2 rfl rfl 0 (by decide) (C.w 4 rfl) rfl rfl dX0_add_66 ?_
          refine gV_iload_n C dX0_add_69 rfl 1 rfl ?_
          refine gV_iload_n C dX0_add_70 rfl 3 rfl ?_
          obtain ⟨r71q, hq71, hp⟩ := g_ob1 hp
          refine gV_calliS C (gV_runV (As := [.int v1, .int v3]) (rest := []) C (mt_X1_compare hl D h cI cJ lc la hr uP uC uR tn pn pg pq rl sr gcb gpb tg tm tl pm ps v1 v3 r71q hq71) (cwV 2 C.2.2.2.2.1 gX0_add_X1_compare rfl rfl rfl hdv_X1_compare ⟨Nat.le_of_ble_eq_true rfl, Nat.le_of_ble_eq_true rfl⟩) (gSub_S _) 1 rfl rfl rfl rfl (Nat.le_of_ble_eq_true rfl) dX0_add_71 ⟨Nat.le_of_ble_eq_true rfl, Nat.le_of_ble_eq_true rfl⟩) (fun _ _ hx => False.elim hx) (fun r71 w1 hw => ?_)
          obtain ⟨rfl, rfl⟩ := hw
          refine gV_iload_n C dX0_add_74 rfl 2 rfl ?_
          refine gV_icmp_ne (tgt := 82) C dX0_add_75 (by decide) (fun c75 => ?_) (fun c75 => ?_)
          · replace hp := g_iff hp c75
            refine gV_iconst (v := 1) C dX0_add_82 rfl ?_
            exact J83 v3 1 tl hp
          · replace hp := g_ift hp c75
            refine gV_iconst (v := 0) C dX0_add_78 rfl ?_
            refine gV_goto (tgt := 83) C dX0_add_79 (by decide) ?_
            exact J83 v3 0 tl hp
  have J14 : ∀ (tn : Int32) (tg : Nat → Int32) (tm : Nat → Int32) (tl : Nat → Int32), pf_X0_add_j14 tn tg tm tl = (some (tn0, tg0, tm0, tl0)) → gV p l e rm_X0_add s m args below meth c A D 5 Q (cW h cI cJ lc la hr uP uC uR tn pn pg pq rl sr gcb gpb tg tm tl pm ps) [(0, .ref (h 2))] 0 0 14 [] := by
    intro tn tg tm tl hp
    unfold pf_X0_add_j14 at hp
    obtain ⟨rfl, rfl, rfl, rfl⟩ := g_so4 hp
    exact RET _ _ _ _ _ dX0_add_14 (Nat.le_of_ble_eq_true rfl) (Nat.le_of_ble_eq_true rfl) rfl
  refine gV_aload_n C dX0_add_0 rfl 0 rfl ?_
  refine gV_get (Cn := RX0) (T := TX0) (N := 5) C inw_X0_add_X0 2 rfl rfl 1 (by decide) (C.w 1 rfl) rfl rfl dX0_add_1 ?_
  refine gV_if_lt (tgt := 14) C dX0_add_4 (by decide) (fun c4 => ?_) (fun c4 => ?_)
  · replace hp := g_ift hp c4
    refine gV_loc [0] rfl ?_
    exact J14 tn tg tm tl hp
  · replace hp := g_iff hp c4
    refine gV_aload_n C dX0_add_7 rfl 0 rfl ?_
    obtain ⟨r8q, hq8, hp⟩ := g_ob1 hp
    refine gV_calliS C (gV_runV (As := []) (rest := []) C (mt_X0_isFull hl D h cI cJ lc la hr uP uC uR tn pn pg pq rl sr gcb gpb tg tm tl pm ps r8q hq8) (cwV 0 C.2.2.2.2.1 gX0_add_X0_isFull rfl rfl rfl hdv_X0_isFull ⟨Nat.le_of_ble_eq_true rfl, Nat.le_of_ble_eq_true rfl⟩) (gSub_S _) 2 rfl rfl rfl rfl (Nat.le_of_ble_eq_true rfl) dX0_add_8 ⟨Nat.le_of_ble_eq_true rfl, Nat.le_of_ble_eq_true rfl⟩) (fun _ _ hx => False.elim hx) (fun r8 w1 hw => ?_)
    obtain ⟨rfl, rfl⟩ := hw
    refine gV_if_eq (tgt := 15) C dX0_add_11 (by decide) (fun c11 => ?_) (fun c11 => ?_)
    · replace hp := g_ift hp c11
      refine gV_aload_n C dX0_add_15 rfl 0 rfl ?_
      refine gV_get (Cn := RX0) (T := TX0) (N := 5) C inw_X0_add_X0 2 rfl rfl 2 (by decide) (C.w 2 rfl) rfl rfl dX0_add_16 ?_
      refine gV_aload_n C dX0_add_19 rfl 0 rfl ?_
      refine gV_get (Cn := RX0) (T := TX0) (N := 5) C inw_X0_add_X0 2 rfl rfl 1 (by decide) (C.w 1 rfl) rfl rfl dX0_add_20 ?_
      refine gV_iload_n C dX0_add_23 rfl 1 rfl ?_
      obtain ⟨hi24, hp⟩ := g_idx hp
      refine gV_iast (ws' := cW h cI cJ lc la hr uP uC uR tn pn pg pq rl sr gcb gpb (upd tg tn.toNatClampNeg v1) tm tl pm ps) C 8 rfl 0 rfl hi24 dX0_add_24 rfl ?_
      refine gV_aload_n C dX0_add_25 rfl 0 rfl ?_
      refine gV_get (Cn := RX0) (T := TX0) (N := 5) C inw_X0_add_X0 2 rfl rfl 3 (by decide) (C.w 3 rfl) rfl rfl dX0_add_26 ?_
      refine gV_aload_n C dX0_add_29 rfl 0 rfl ?_
      refine gV_get (Cn := RX0) (T := TX0) (N := 5) C inw_X0_add_X0 2 rfl rfl 1 (by decide) (C.w 1 rfl) rfl rfl dX0_add_30 ?_
      refine gV_iload_n C dX0_add_33 rfl 2 rfl ?_
      obtain ⟨hi34, hp⟩ := g_idx hp
      refine gV_iast (ws' := cW h cI cJ lc la hr uP uC uR tn pn pg pq rl sr gcb gpb (upd tg tn.toNatClampNeg v1) (upd tm tn.toNatClampNeg v2) tl pm ps) C 9 rfl 0 rfl hi34 dX0_add_34 rfl ?_
      refine gV_aload_n C dX0_add_35 rfl 0 rfl ?_
      refine gV_dup C dX0_add_36 rfl ?_
      refine gV_get (Cn := RX0) (T := TX0) (N := 5) C inw_X0_add_X0 2 rfl rfl 1 (by decide) (C.w 1 rfl) rfl rfl dX0_add_37 ?_
      refine gV_iconst (v := 1) C dX0_add_40 rfl ?_
      refine gV_iadd C dX0_add_41 ?_
      refine gV_put (Cn := RX0) (T := TX0) (N := 5) (ws' := cW h cI cJ lc la hr uP uC uR (tn + 1) pn pg pq rl sr gcb gpb (upd tg tn.toNatClampNeg v1) (upd tm tn.toNatClampNeg v2) tl pm ps) C inw_X0_add_X0 tyX0_ok nmX0 2 rfl rfl 1 (by decide) (C.w 1 rfl) rfl rfl rfl rfl rfl (Nat.le_of_ble_eq_true rfl) dX0_add_42 rfl ?_
      refine gV_iconst (v := 0) C dX0_add_45 rfl ?_
      refine gV_istore_n (lvs' := [(3, .int 0), (0, .ref (h 2)), (1, .int v1), (2, .int v2)]) C dX0_add_46 rfl (by decide) rfl ?_
      refine gV_loc [1, 2, 3, 0] rfl ?_
      exact L47 (tn + 1) (upd tg tn.toNatClampNeg v1) (upd tm tn.toNatClampNeg v2) 100000 0 tl hp
    · replace hp := g_iff hp c11
      refine gV_loc [0] rfl ?_
      exact J14 tn tg tm tl hp
def pf_X0_dropLatest_j46  (tn : Int32) (tl : Nat → Int32) : Option (Int32 × (Nat → Int32)) := (some (tn, tl))
def pf_X0_dropLatest_L12 (uR : Int32) (tn : Int32) : Nat → Int32 → (Nat → Int32) → Option (Int32 × (Nat → Int32))
  | 0, _, _ => none
  | n12 + 1, v1, tl => (if uR ≤ v1 then (pf_X0_dropLatest_j46 tn tl) else (if 256 ≤ v1 then (pf_X0_dropLatest_j46 tn tl) else (gi v1 256 (gi v1 256 (pf_X0_dropLatest_L12 uR tn n12 (v1 + 1) (upd tl v1.toNatClampNeg ((tl v1.toNatClampNeg) >>> (1 &&& 31))))))))
def pf_X0_dropLatest  (uR : Int32) (tn : Int32) (tl : Nat → Int32)  : Option (Int32 × (Nat → Int32)) := (pf_X0_dropLatest_L12 uR (tn - 1) 100000 0 tl)
abbrev rm_X0_dropLatest : Room := { frames := 0, cells := 0, slots := 0, locals := 0 }
theorem inw_X0_dropLatest_X0 : ∀ w ∈ wsX00, w ∈ wsX0_dropLatest := by decide +kernel
theorem inw_X0_dropLatest_X1 : ∀ w ∈ wsX10, w ∈ wsX0_dropLatest := by decide +kernel
set_option maxHeartbeats 4000000 in
set_option maxRecDepth 100000 in
theorem mt_X0_dropLatest {l : Launch} (hl : l.stackTraces = false) (D : va_G) (h : Nat → Nat) (cI cJ : ClassId) (lc : Int32) (la : Int32) (hr : Int32) (uP : Int32) (uC : Int32) (uR : Int32) (tn : Int32) (pn : Int32) (pg : Int32) (pq : Int32) (rl : Nat → Int32) (sr : Nat → Int32) (gcb : Nat → Int32) (gpb : Nat → Int64) (tg : Nat → Int32) (tm : Nat → Int32) (tl : Nat → Int32) (pm : Nat → Int32) (ps : Nat → Int32)  (tn0 : Int32) (tl0 : Nat → Int32) (hp : pf_X0_dropLatest uR tn tl = (some (tn0, tl0))) : gMv l yX0_dropLatest wsX0_dropLatest rm_X0_dropLatest D [(cI, .int), (cJ, .long)] (cW h cI cJ lc la hr uP uC uR tn pn pg pq rl sr gcb gpb tg tm tl pm ps) [.ref (h 2)] 0 0 (fun w => w = cW h cI cJ lc la hr uP uC uR tn0 pn pg pq rl sr gcb gpb tg tm tl0 pm ps) (fun _ _ => False) := by
  refine gMv_of (cc := cX0_dropLatest) (maxL := 2) hl (by decide +kernel) rfl (Nat.le_of_ble_eq_true rfl) ?_
  intro p e s m args below meth c A Q C hnm ht RET OUT THR THRW
  have C : gC p l s m args meth c A D [(cI, .int), (cJ, .long)] 2 RX0 cX0_dropLatest wsX0_dropLatest := C
  refine gV_loc (lvs' := [(0, .ref (h 2))]) [0] rfl ?_
  unfold pf_X0_dropLatest at hp
  have J46 : ∀ (tn : Int32) (tl : Nat → Int32), pf_X0_dropLatest_j46 tn tl = (some (tn0, tl0)) → gV p l e rm_X0_dropLatest s m args below meth c A D 2 Q (cW h cI cJ lc la hr uP uC uR tn pn pg pq rl sr gcb gpb tg tm tl pm ps) [(0, .ref (h 2))] 0 0 46 [] := by
    intro tn tl hp
    unfold pf_X0_dropLatest_j46 at hp
    obtain ⟨rfl, rfl⟩ := g_so2 hp
    exact RET _ _ _ _ _ dX0_dropLatest_46 (Nat.le_of_ble_eq_true rfl) (Nat.le_of_ble_eq_true rfl) rfl
  have L12 : ∀ (tn : Int32) (n12 : Nat) (v1 : Int32) (tl : Nat → Int32), pf_X0_dropLatest_L12 uR tn n12 v1 tl = (some (tn0, tl0)) → gV p l e rm_X0_dropLatest s m args below meth c A D 2 Q (cW h cI cJ lc la hr uP uC uR tn pn pg pq rl sr gcb gpb tg tm tl pm ps) [(0, .ref (h 2)), (1, .int v1)] 0 0 12 [] := by
    intro tn n12
    induction n12 with
    | zero => intro v1 tl hp; exact g_none hp
    | succ n12 ih12 =>
      intro v1 tl hp
      rw [pf_X0_dropLatest_L12.eq_2] at hp
      refine gV_iload_n C dX0_dropLatest_12 rfl 1 rfl ?_
      refine gV_aload_n C dX0_dropLatest_13 rfl 0 rfl ?_
      refine gV_get (Cn := RX0) (T := TX0) (N := 5) C inw_X0_dropLatest_X0 2 rfl rfl 0 (by decide) (C.w 2 rfl) rfl rfl dX0_dropLatest_14 ?_
      refine gV_get (Cn := RX1) (T := TX1) (N := 5) C inw_X0_dropLatest_X1 1 rfl rfl 2 (by decide) (C.w 3 rfl) rfl rfl dX0_dropLatest_17 ?_
      refine gV_icmp_ge (tgt := 46) C dX0_dropLatest_20 (by decide) (fun c20 => ?_) (fun c20 => ?_)
      · replace hp := g_ift hp c20
        refine gV_loc [0] rfl ?_
        exact J46 tn tl hp
      · replace hp := g_iff hp c20
        refine gV_iload_n C dX0_dropLatest_23 rfl 1 rfl ?_
        refine gV_sipush (v := 256) C dX0_dropLatest_24 rfl ?_
        refine gV_icmp_ge (tgt := 46) C dX0_dropLatest_27 (by decide) (fun c27 => ?_) (fun c27 => ?_)
        · replace hp := g_ift hp c27
          refine gV_loc [0] rfl ?_
          exact J46 tn tl hp
        · replace hp := g_iff hp c27
          refine gV_aload_n C dX0_dropLatest_30 rfl 0 rfl ?_
          refine gV_get (Cn := RX0) (T := TX0) (N := 5) C inw_X0_dropLatest_X0 2 rfl rfl 4 (by decide) (C.w 4 rfl) rfl rfl dX0_dropLatest_31 ?_
          refine gV_iload_n C dX0_dropLatest_34 rfl 1 rfl ?_
          refine gV_dup2 C dX0_dropLatest_35 rfl rfl ?_
          obtain ⟨hi36, hp⟩ := g_idx hp
          refine gV_iald C 10 rfl 0 rfl hi36 dX0_dropLatest_36 ?_
          refine gV_iconst (v := 1) C dX0_dropLatest_37 rfl ?_
          refine gV_ishr C dX0_dropLatest_38 ?_
          obtain ⟨hi39, hp⟩ := g_idx hp
          refine gV_iast (ws' := cW h cI cJ lc la hr uP uC uR tn pn pg pq rl sr gcb gpb tg tm (upd tl v1.toNatClampNeg ((tl v1.toNatClampNeg) >>> (1 &&& 31))) pm ps) C 10 rfl 0 rfl hi39 dX0_dropLatest_39 rfl ?_
          refine gV_iinc (v := (v1 + 1)) (lvs' := [(1, .int (v1 + 1)), (0, .ref (h 2))]) C dX0_dropLatest_40 1 rfl rfl (by decide) rfl ?_
          refine gV_goto (tgt := 12) C dX0_dropLatest_43 (by decide) ?_
          refine gV_loc [1, 0] rfl ?_
          exact ih12 (v1 + 1) (upd tl v1.toNatClampNeg ((tl v1.toNatClampNeg) >>> (1 &&& 31))) hp
  refine gV_aload_n C dX0_dropLatest_0 rfl 0 rfl ?_
  refine gV_dup C dX0_dropLatest_1 rfl ?_
  refine gV_get (Cn := RX0) (T := TX0) (N := 5) C inw_X0_dropLatest_X0 2 rfl rfl 1 (by decide) (C.w 1 rfl) rfl rfl dX0_dropLatest_2 ?_
  refine gV_iconst (v := 1) C dX0_dropLatest_5 rfl ?_
  refine gV_isub C dX0_dropLatest_6 ?_
  refine gV_put (Cn := RX0) (T := TX0) (N := 5) (ws' := cW h cI cJ lc la hr uP uC uR (tn - 1) pn pg pq rl sr gcb gpb tg tm tl pm ps) C inw_X0_dropLatest_X0 tyX0_ok nmX0 2 rfl rfl 1 (by decide) (C.w 1 rfl) rfl rfl rfl rfl rfl (Nat.le_of_ble_eq_true rfl) dX0_dropLatest_7 rfl ?_
  refine gV_iconst (v := 0) C dX0_dropLatest_10 rfl ?_
  refine gV_istore_n (lvs' := [(1, .int 0), (0, .ref (h 2))]) C dX0_dropLatest_11 rfl (by decide) rfl ?_
  refine gV_loc [1, 0] rfl ?_
  exact L12 (tn - 1) 100000 0 tl hp
def pf_X0_allBits  (tn : Int32)  : Option (Int32) := (some ((1 <<< (tn &&& 31)) - 1))
abbrev rm_X0_allBits : Room := { frames := 0, cells := 0, slots := 0, locals := 0 }
theorem inw_X0_allBits_X0 : ∀ w ∈ wsX00, w ∈ wsX0_allBits := by decide +kernel
set_option maxHeartbeats 4000000 in
set_option maxRecDepth 100000 in
theorem mt_X0_allBits {l : Launch} (hl : l.stackTraces = false) (D : va_G) (h : Nat → Nat) (cI cJ : ClassId) (lc : Int32) (la : Int32) (hr : Int32) (uP : Int32) (uC : Int32) (uR : Int32) (tn : Int32) (pn : Int32) (pg : Int32) (pq : Int32) (rl : Nat → Int32) (sr : Nat → Int32) (gcb : Nat → Int32) (gpb : Nat → Int64) (tg : Nat → Int32) (tm : Nat → Int32) (tl : Nat → Int32) (pm : Nat → Int32) (ps : Nat → Int32)  (r0 : Int32) (hp : pf_X0_allBits tn = (some r0)) : gMi l yX0_allBits wsX0_allBits rm_X0_allBits D [(cI, .int), (cJ, .long)] (cW h cI cJ lc la hr uP uC uR tn pn pg pq rl sr gcb gpb tg tm tl pm ps) [.ref (h 2)] 0 0 (fun r w => r = r0 ∧ w = cW h cI cJ lc la hr uP uC uR tn pn pg pq rl sr gcb gpb tg tm tl pm ps) (fun _ _ => False) := by
  refine gMi_of (cc := cX0_allBits) (maxL := 1) (rt := .int) hl (by decide +kernel) rfl (Nat.le_of_ble_eq_true rfl) ?_
  intro p e s m args below meth c A Q C hnm ht RET OUT THR THRW
  have C : gC p l s m args meth c A D [(cI, .int), (cJ, .long)] 1 RX0 cX0_allBits wsX0_allBits := C
  refine gV_loc (lvs' := [(0, .ref (h 2))]) [0] rfl ?_
  unfold pf_X0_allBits at hp
  refine gV_iconst (v := 1) C dX0_allBits_0 rfl ?_
  refine gV_aload_n C dX0_allBits_1 rfl 0 rfl ?_
  refine gV_get (Cn := RX0) (T := TX0) (N := 5) C inw_X0_allBits_X0 2 rfl rfl 1 (by decide) (C.w 1 rfl) rfl rfl dX0_allBits_2 ?_
  refine gV_ishl C dX0_allBits_5 ?_
  refine gV_iconst (v := 1) C dX0_allBits_6 rfl ?_
  refine gV_isub C dX0_allBits_7 ?_
  obtain rfl := g_so1 hp
  exact RET _ _ _ _ _ _ dX0_allBits_8 (Nat.le_of_ble_eq_true rfl) (Nat.le_of_ble_eq_true rfl) rfl ⟨rfl, rfl⟩
def pf_X0_bitOf_j22  (s0 : Int32) : Option (Int32) := (some s0)
def pf_X0_bitOf  (tn : Int32) (v1 : Int32) : Option (Int32) := (ob1 (pf_X0_has tn v1) fun r2 => (if r2 = 0 then (pf_X0_bitOf_j22 0) else (pf_X0_bitOf_j22 (1 <<< (((tn - 1) - v1) &&& 31)))))
abbrev rm_X0_bitOf : Room := { frames := 1, cells := 0, slots := 0, locals := 21 }
theorem inw_X0_bitOf_X0 : ∀ w ∈ wsX00, w ∈ wsX0_bitOf := by decide +kernel
set_option maxHeartbeats 4000000 in
set_option maxRecDepth 100000 in
theorem mt_X0_bitOf {l : Launch} (hl : l.stackTraces = false) (D : va_G) (h : Nat → Nat) (cI cJ : ClassId) (lc : Int32) (la : Int32) (hr : Int32) (uP : Int32) (uC : Int32) (uR : Int32) (tn : Int32) (pn : Int32) (pg : Int32) (pq : Int32) (rl : Nat → Int32) (sr : Nat → Int32) (gcb : Nat → Int32) (gpb : Nat → Int64) (tg : Nat → Int32) (tm : Nat → Int32) (tl : Nat → Int32) (pm : Nat → Int32) (ps : Nat → Int32) (v1 : Int32) (r0 : Int32) (hp : pf_X0_bitOf tn v1 = (some r0)) : gMi l yX0_bitOf wsX0_bitOf rm_X0_bitOf D [(cI, .int), (cJ, .long)] (cW h cI cJ lc la hr uP uC uR tn pn pg pq rl sr gcb gpb tg tm tl pm ps) [.ref (h 2), .int v1] 0 0 (fun r w => r = r0 ∧ w = cW h cI cJ lc la hr uP uC uR tn pn pg pq rl sr gcb gpb tg tm tl pm ps) (fun _ _ => False) := by
  refine gMi_of (cc := cX0_bitOf) (maxL := 2) (rt := .int) hl (by decide +kernel) rfl (Nat.le_of_ble_eq_true rfl) ?_
  intro p e s m args below meth c A Q C hnm ht RET OUT THR THRW
  have C : gC p l s m args meth c A D [(cI, .int), (cJ, .long)] 2 RX0 cX0_bitOf wsX0_bitOf := C
  refine gV_loc (lvs' := [(0, .ref (h 2)), (1, .int v1)]) [0, 1] rfl ?_
  unfold pf_X0_bitOf at hp
  have J22 : ∀ (s0 : Int32), pf_X0_bitOf_j22 s0 = (some r0) → gV p l e rm_X0_bitOf s m args below meth c A D 2 Q (cW h cI cJ lc la hr uP uC uR tn pn pg pq rl sr gcb gpb tg tm tl pm ps) [(0, .ref (h 2))] 0 0 22 [.int s0] := by
    intro s0 hp
    unfold pf_X0_bitOf_j22 at hp
    obtain rfl := g_so1 hp
    exact RET _ _ _ _ _ _ dX0_bitOf_22 (Nat.le_of_ble_eq_true rfl) (Nat.le_of_ble_eq_true rfl) rfl ⟨rfl, rfl⟩
  refine gV_aload_n C dX0_bitOf_0 rfl 0 rfl ?_
  refine gV_iload_n C dX0_bitOf_1 rfl 1 rfl ?_
  obtain ⟨r2q, hq2, hp⟩ := g_ob1 hp
  refine gV_calliS C (gV_runV (As := [.int v1]) (rest := []) C (mt_X0_has hl D h cI cJ lc la hr uP uC uR tn pn pg pq rl sr gcb gpb tg tm tl pm ps v1 r2q hq2) (cwV 1 C.2.2.2.2.1 gX0_bitOf_X0_has rfl rfl rfl hdv_X0_has ⟨Nat.le_of_ble_eq_true rfl, Nat.le_of_ble_eq_true rfl⟩) (gSub_S _) 2 rfl rfl rfl rfl (Nat.le_of_ble_eq_true rfl) dX0_bitOf_2 ⟨Nat.le_of_ble_eq_true rfl, Nat.le_of_ble_eq_true rfl⟩) (fun _ _ hx => False.elim hx) (fun r2 w1 hw => ?_)
  obtain ⟨rfl, rfl⟩ := hw
  refine gV_if_eq (tgt := 21) C dX0_bitOf_5 (by decide) (fun c5 => ?_) (fun c5 => ?_)
  · replace hp := g_ift hp c5
    refine gV_iconst (v := 0) C dX0_bitOf_21 rfl ?_
    refine gV_loc [0] rfl ?_
    exact J22 0 hp
  · replace hp := g_iff hp c5
    refine gV_iconst (v := 1) C dX0_bitOf_8 rfl ?_
    refine gV_aload_n C dX0_bitOf_9 rfl 0 rfl ?_
    refine gV_get (Cn := RX0) (T := TX0) (N := 5) C inw_X0_bitOf_X0 2 rfl rfl 1 (by decide) (C.w 1 rfl) rfl rfl dX0_bitOf_10 ?_
    refine gV_iconst (v := 1) C dX0_bitOf_13 rfl ?_
    refine gV_isub C dX0_bitOf_14 ?_
    refine gV_iload_n C dX0_bitOf_15 rfl 1 rfl ?_
    refine gV_isub C dX0_bitOf_16 ?_
    refine gV_ishl C dX0_bitOf_17 ?_
    refine gV_goto (tgt := 22) C dX0_bitOf_18 (by decide) ?_
    refine gV_loc [0] rfl ?_
    exact J22 (1 <<< (((tn - 1) - v1) &&& 31)) hp
def pf_X0_countLiesIn_j26  (s0 : Int32) : Option (Int32) := (some s0)
def pf_X0_countLiesIn  (uR : Int32) (tl : Nat → Int32) (v1 : Int32) (v2 : Int32) : Option (Int32) := (ob1 (pf_X1_has uR v2) fun r5 => (if r5 = 0 then (pf_X0_countLiesIn_j26 0) else (gi v2 256 (ob1 (pf_J6_bitCount_0f7a4 ((tl v2.toNatClampNeg) &&& v1)) fun r19 => (pf_X0_countLiesIn_j26 r19)))))
abbrev rm_X0_countLiesIn : Room := { frames := 1, cells := 0, slots := 0, locals := 21 }
theorem inw_X0_countLiesIn_X0 : ∀ w ∈ wsX00, w ∈ wsX0_countLiesIn := by decide +kernel
set_option maxHeartbeats 4000000 in
set_option maxRecDepth 100000 in
theorem mt_X0_countLiesIn {l : Launch} (hl : l.stackTraces = false) (D : va_G) (h : Nat → Nat) (cI cJ : ClassId) (lc : Int32) (la : Int32) (hr : Int32) (uP : Int32) (uC : Int32) (uR : Int32) (tn : Int32) (pn : Int32) (pg : Int32) (pq : Int32) (rl : Nat → Int32) (sr : Nat → Int32) (gcb : Nat → Int32) (gpb : Nat → Int64) (tg : Nat → Int32) (tm : Nat → Int32) (tl : Nat → Int32) (pm : Nat → Int32) (ps : Nat → Int32) (v1 : Int32) (v2 : Int32) (r0 : Int32) (hp : pf_X0_countLiesIn uR tl v1 v2 = (some r0)) : gMi l yX0_countLiesIn wsX0_countLiesIn rm_X0_countLiesIn D [(cI, .int), (cJ, .long)] (cW h cI cJ lc la hr uP uC uR tn pn pg pq rl sr gcb gpb tg tm tl pm ps) [.ref (h 2), .int v1, .int v2] 0 0 (fun r w => r = r0 ∧ w = cW h cI cJ lc la hr uP uC uR tn pn pg pq rl sr gcb gpb tg tm tl pm ps) (fun _ _ => False) := by
  refine gMi_of (cc := cX0_countLiesIn) (maxL := 3) (rt := .int) hl (by decide +kernel) rfl (Nat.le_of_ble_eq_true rfl) ?_
  intro p e s m args below meth c A Q C hnm ht RET OUT THR THRW
  have C : gC p l s m args meth c A D [(cI, .int), (cJ, .long)] 3 RX0 cX0_countLiesIn wsX0_countLiesIn := C
  refine gV_loc (lvs' := [(0, .ref (h 2)), (1, .int v1), (2, .int v2)]) [0, 1, 2] rfl ?_
  unfold pf_X0_countLiesIn at hp
  have J26 : ∀ (s0 : Int32), pf_X0_countLiesIn_j26 s0 = (some r0) → gV p l e rm_X0_countLiesIn s m args below meth c A D 3 Q (cW h cI cJ lc la hr uP uC uR tn pn pg pq rl sr gcb gpb tg tm tl pm ps) [(0, .ref (h 2))] 0 0 26 [.int s0] := by
    intro s0 hp
    unfold pf_X0_countLiesIn_j26 at hp
    obtain rfl := g_so1 hp
    exact RET _ _ _ _ _ _ dX0_countLiesIn_26 (Nat.le_of_ble_eq_true rfl) (Nat.le_of_ble_eq_true rfl) rfl ⟨rfl, rfl⟩
  refine gV_aload_n C dX0_countLiesIn_0 rfl 0 rfl ?_
  refine gV_get (Cn := RX0) (T := TX0) (N := 5) C inw_X0_countLiesIn_X0 2 rfl rfl 0 (by decide) (C.w 1 rfl) rfl rfl dX0_countLiesIn_1 ?_
  refine gV_iload_n C dX0_countLiesIn_4 rfl 2 rfl ?_
  obtain ⟨r5q, hq5, hp⟩ := g_ob1 hp
  refine gV_calliS C (gV_runV (As := [.int v2]) (rest := []) C (mt_X1_has hl D h cI cJ lc la hr uP uC uR tn pn pg pq rl sr gcb gpb tg tm tl pm ps v2 r5q hq5) (cwV 1 C.2.2.2.2.1 gX0_countLiesIn_X1_has rfl rfl rfl hdv_X1_has ⟨Nat.le_of_ble_eq_true rfl, Nat.le_of_ble_eq_true rfl⟩) (gSub_S _) 1 rfl rfl rfl rfl (Nat.le_of_ble_eq_true rfl) dX0_countLiesIn_5 ⟨Nat.le_of_ble_eq_true rfl, Nat.le_of_ble_eq_true rfl⟩) (fun _ _ hx => False.elim hx) (fun r5 w1 hw => ?_)
  obtain ⟨rfl, rfl⟩ := hw
  refine gV_if_eq (tgt := 25) C dX0_countLiesIn_8 (by decide) (fun c8 => ?_) (fun c8 => ?_)
  · replace hp := g_ift hp c8
    refine gV_iconst (v := 0) C dX0_countLiesIn_25 rfl ?_
    refine gV_loc [0] rfl ?_
    exact J26 0 hp
  · replace hp := g_iff hp c8
    refine gV_aload_n C dX0_countLiesIn_11 rfl 0 rfl ?_
    refine gV_get (Cn := RX0) (T := TX0) (N := 5) C inw_X0_countLiesIn_X0 2 rfl rfl 4 (by decide) (C.w 2 rfl) rfl rfl dX0_countLiesIn_12 ?_
    refine gV_iload_n C dX0_countLiesIn_15 rfl 2 rfl ?_
    obtain ⟨hi16, hp⟩ := g_idx hp
    refine gV_iald C 10 rfl 0 rfl hi16 dX0_countLiesIn_16 ?_
    refine gV_iload_n C dX0_countLiesIn_17 rfl 1 rfl ?_
    refine gV_iand C dX0_countLiesIn_18 ?_
    obtain ⟨r19q, hq19, hp⟩ := g_ob1 hp
    refine gV_calliE C (gV_runS (As := [.int ((tl v2.toNatClampNeg) &&& v1)]) (rest := []) C (mt_J6_bitCount_0f7a4 hl D cI cJ ((tl v2.toNatClampNeg) &&& v1) r19q hq19) (va_cwS 1 C.2.2.2.2.1 gX0_countLiesIn_J6_bitCount_0f7a4 rfl rfl rfl hds_J6_bitCount_0f7a4 ⟨Nat.le_of_ble_eq_true rfl, Nat.le_of_ble_eq_true rfl⟩) (gSub_E _) rfl rfl (Nat.le_of_ble_eq_true rfl) dX0_countLiesIn_19 ⟨Nat.le_of_ble_eq_true rfl, Nat.le_of_ble_eq_true rfl⟩) (fun _ _ hx => False.elim hx) (fun r19 w1 hw => ?_)
    obtain ⟨rfl, rfl⟩ := hw
    refine ⟨rfl, ?_⟩
    refine gV_goto (tgt := 26) C dX0_countLiesIn_22 (by decide) ?_
    refine gV_loc [0] rfl ?_
    exact J26 r19 hp
def pf_X0_countLies  (uR : Int32) (tn : Int32) (tl : Nat → Int32) (v1 : Int32) : Option (Int32) := (ob1 (pf_X0_allBits tn) fun r2 => (ob1 (pf_X0_countLiesIn uR tl r2 v1) fun r6 => (some r6)))
abbrev rm_X0_countLies : Room := { frames := 2, cells := 0, slots := 0, locals := 43 }
theorem hdv_X0_allBits : yX0_allBits.cls = RX0 ∧ yX0_allBits.cls ≠ "java/lang/invoke/MethodHandle" ∧ yX0_allBits.cls ≠ "java/lang/invoke/VarHandle" ∧ (parseMethodDescriptor yX0_allBits.desc).map (fun d => d.parameters.length) = some 0 := by decide +kernel
theorem hdv_X0_countLiesIn : yX0_countLiesIn.cls = RX0 ∧ yX0_countLiesIn.cls ≠ "java/lang/invoke/MethodHandle" ∧ yX0_countLiesIn.cls ≠ "java/lang/invoke/VarHandle" ∧ (parseMethodDescriptor yX0_countLiesIn.desc).map (fun d => d.parameters.length) = some 2 := by decide +kernel
set_option maxHeartbeats 4000000 in
set_option maxRecDepth 100000 in
theorem mt_X0_countLies {l : Launch} (hl : l.stackTraces = false) (D : va_G) (h : Nat → Nat) (cI cJ : ClassId) (lc : Int32) (la : Int32) (hr : Int32) (uP : Int32) (uC : Int32) (uR : Int32) (tn : Int32) (pn : Int32) (pg : Int32) (pq : Int32) (rl : Nat → Int32) (sr : Nat → Int32) (gcb : Nat → Int32) (gpb : Nat → Int64) (tg : Nat → Int32) (tm : Nat → Int32) (tl : Nat → Int32) (pm : Nat → Int32) (ps : Nat → Int32) (v1 : Int32) (r0 : Int32) (hp : pf_X0_countLies uR tn tl v1 = (some r0)) : gMi l yX0_countLies wsX0_countLies rm_X0_countLies D [(cI, .int), (cJ, .long)] (cW h cI cJ lc la hr uP uC uR tn pn pg pq rl sr gcb gpb tg tm tl pm ps) [.ref (h 2), .int v1] 0 0 (fun r w => r = r0 ∧ w = cW h cI cJ lc la hr uP uC uR tn pn pg pq rl sr gcb gpb tg tm tl pm ps) (fun _ _ => False) := by
  refine gMi_of (cc := cX0_countLies) (maxL := 2) (rt := .int) hl (by decide +kernel) rfl (Nat.le_of_ble_eq_true rfl) ?_
  intro p e s m args below meth c A Q C hnm ht RET OUT THR THRW
  have C : gC p l s m args meth c A D [(cI, .int), (cJ, .long)] 2 RX0 cX0_countLies wsX0_countLies := C
  refine gV_loc (lvs' := [(0, .ref (h 2)), (1, .int v1)]) [0, 1] rfl ?_
  unfold pf_X0_countLies at hp
  refine gV_aload_n C dX0_countLies_0 rfl 0 rfl ?_
  refine gV_aload_n C dX0_countLies_1 rfl 0 rfl ?_
  obtain ⟨r2q, hq2, hp⟩ := g_ob1 hp
  refine gV_calliS C (gV_runV (As := []) (rest := [.ref (h 2)]) C (mt_X0_allBits hl D h cI cJ lc la hr uP uC uR tn pn pg pq rl sr gcb gpb tg tm tl pm ps r2q hq2) (cwV 0 C.2.2.2.2.1 gX0_countLies_X0_allBits rfl rfl rfl hdv_X0_allBits ⟨Nat.le_of_ble_eq_true rfl, Nat.le_of_ble_eq_true rfl⟩) (gSub_S _) 2 rfl rfl rfl rfl (Nat.le_of_ble_eq_true rfl) dX0_countLies_2 ⟨Nat.le_of_ble_eq_true rfl, Nat.le_of_ble_eq_true rfl⟩) (fun _ _ hx => False.elim hx) (fun r2 w1 hw => ?_)
  obtain ⟨rfl, rfl⟩ := hw
  refine gV_iload_n C dX0_countLies_5 rfl 1 rfl ?_
  obtain ⟨r6q, hq6, hp⟩ := g_ob1 hp
  refine gV_calliS C (gV_runV (As := [.int r2, .int v1]) (rest := []) C (mt_X0_countLiesIn hl D h cI cJ lc la hr uP uC uR tn pn pg pq rl sr gcb gpb tg tm tl pm ps r2 v1 r6q hq6) (cwV 2 C.2.2.2.2.1 gX0_countLies_X0_countLiesIn rfl rfl rfl hdv_X0_countLiesIn ⟨Nat.le_of_ble_eq_true rfl, Nat.le_of_ble_eq_true rfl⟩) (gSub_S _) 2 rfl rfl rfl rfl (Nat.le_of_ble_eq_true rfl) dX0_countLies_6 ⟨Nat.le_of_ble_eq_true rfl, Nat.le_of_ble_eq_true rfl⟩) (fun _ _ hx => False.elim hx) (fun r6 w1 hw => ?_)
  obtain ⟨rfl, rfl⟩ := hw
  obtain rfl := g_so1 hp
  exact RET _ _ _ _ _ _ dX0_countLies_9 (Nat.le_of_ble_eq_true rfl) (Nat.le_of_ble_eq_true rfl) rfl ⟨rfl, rfl⟩
def pf_X0_countLiesAnew_j50  (v2 : Int32) : Option (Int32) := (some v2)
def pf_X0_countLiesAnew_j44  (kL4 : Int32 → Int32 → Option (Int32)) (v2 : Int32) (v3 : Int32) : Option (Int32) := (kL4 v2 (v3 + 1))
def pf_X0_countLiesAnew_L4 (v1 : Int32) (uP : Int32) (uR : Int32) (tn : Int32) (gcb : Nat → Int32) (gpb : Nat → Int64) (tg : Nat → Int32) (tm : Nat → Int32) : Nat → Int32 → Int32 → Option (Int32)
  | 0, _, _ => none
  | n4 + 1, v2, v3 => (if tn ≤ v3 then (pf_X0_countLiesAnew_j50 v2) else (if 10 ≤ v3 then (pf_X0_countLiesAnew_j50 v2) else (gi v3 10 (ob1 (pf_X1_compare uP uR gcb gpb (tg v3.toNatClampNeg) v1) fun r29 => (gi v3 10 (if r29 = (tm v3.toNatClampNeg) then (pf_X0_countLiesAnew_j44 (fun v2 v3 => pf_X0_countLiesAnew_L4 v1 uP uR tn gcb gpb tg tm n4 v2 v3) v2 v3) else (pf_X0_countLiesAnew_j44 (fun v2 v3 => pf_X0_countLiesAnew_L4 v1 uP uR tn gcb gpb tg tm n4 v2 v3) (v2 + 1) v3)))))))
def pf_X0_countLiesAnew  (uP : Int32) (uR : Int32) (tn : Int32) (gcb : Nat → Int32) (gpb : Nat → Int64) (tg : Nat → Int32) (tm : Nat → Int32) (v1 : Int32) : Option (Int32) := (pf_X0_countLiesAnew_L4 v1 uP uR tn gcb gpb tg tm 100000 0 0)
abbrev rm_X0_countLiesAnew : Room := { frames := 2, cells := 0, slots := 0, locals := 47 }
theorem inw_X0_countLiesAnew_X0 : ∀ w ∈ wsX00, w ∈ wsX0_countLiesAnew := by decide +kernel
set_option maxHeartbeats 4000000 in
set_option maxRecDepth 100000 in
theorem mt_X0_countLiesAnew {l : Launch} (hl : l.stackTraces = false) (D : va_G) (h : Nat → Nat) (cI cJ : ClassId) (lc : Int32) (la : Int32) (hr : Int32) (uP : Int32) (uC : Int32) (uR : Int32) (tn : Int32) (pn : Int32) (pg : Int32) (pq : Int32) (rl : Nat → Int32) (sr : Nat → Int32) (gcb : Nat → Int32) (gpb : Nat → Int64) (tg : Nat → Int32) (tm : Nat → Int32) (tl : Nat → Int32) (pm : Nat → Int32) (ps : Nat → Int32) (v1 : Int32) (r0 : Int32) (hp : pf_X0_countLiesAnew uP uR tn gcb gpb tg tm v1 = (some r0)) : gMi l yX0_countLiesAnew wsX0_countLiesAnew rm_X0_countLiesAnew D [(cI, .int), (cJ, .long)] (cW h cI cJ lc la hr uP uC uR tn pn pg pq rl sr gcb gpb tg tm tl pm ps) [.ref (h 2), .int v1] 0 0 (fun r w => r = r0 ∧ w = cW h cI cJ lc la hr uP uC uR tn pn pg pq rl sr gcb gpb tg tm tl pm ps) (fun _ _ => False) := by
  refine gMi_of (cc := cX0_countLiesAnew) (maxL := 4) (rt := .int) hl (by decide +kernel) rfl (Nat.le_of_ble_eq_true rfl) ?_
  intro p e s m args below meth c A Q C hnm ht RET OUT THR THRW
  have C : gC p l s m args meth c A D [(cI, .int), (cJ, .long)] 4 RX0 cX0_countLiesAnew wsX0_countLiesAnew := C
  refine gV_loc (lvs' := [(0, .ref (h 2)), (1, .int v1)]) [0, 1] rfl ?_
  unfold pf_X0_countLiesAnew at hp
  have J50 : ∀ (v2 : Int32), pf_X0_countLiesAnew_j50 v2 = (some r0) → gV p l e rm_X0_countLiesAnew s m args below meth c A D 4 Q (cW h cI cJ lc la hr uP uC uR tn pn pg pq rl sr gcb gpb tg tm tl pm ps) [(0, .ref (h 2)), (2, .int v2)] 0 0 50 [] := by
    intro v2 hp
    unfold pf_X0_countLiesAnew_j50 at hp
    refine gV_iload_n C dX0_countLiesAnew_50 rfl 1 rfl ?_
    obtain rfl := g_so1 hp
    exact RET _ _ _ _ _ _ dX0_countLiesAnew_51 (Nat.le_of_ble_eq_true rfl) (Nat.le_of_ble_eq_true rfl) rfl ⟨rfl, rfl⟩
  have L4 : ∀ (n4 : Nat) (v2 : Int32) (v3 : Int32), pf_X0_countLiesAnew_L4 v1 uP uR tn gcb gpb tg tm n4 v2 v3 = (some r0) → gV p l e rm_X0_countLiesAnew s m args below meth c A D 4 Q (cW h cI cJ lc la hr uP uC uR tn pn pg pq rl sr gcb gpb tg tm tl pm ps) [(0, .ref (h 2)), (1, .int v1), (2, .int v2), (3, .int v3)] 0 0 4 [] := by
    intro n4
    induction n4 with
    | zero => intro v2 v3 hp; exact g_none hp
    | succ n4 ih4 =>
      intro v2 v3 hp
      rw [pf_X0_countLiesAnew_L4.eq_2] at hp
      have J44 : ∀ (v2 : Int32) (v3 : Int32), pf_X0_countLiesAnew_j44 (fun v2 v3 => pf_X0_countLiesAnew_L4 v1 uP uR tn gcb gpb tg tm n4 v2 v3) v2 v3 = (some r0) → gV p l e rm_X0_countLiesAnew s m args below meth c A D 4 Q (cW h cI cJ lc la hr uP uC uR tn pn pg pq rl sr gcb gpb tg tm tl pm ps) [(0, .ref (h 2)), (1, .int v1), (2, .int v2), (3, .int v3)] 0 0 44 [] := by
        intro v2 v3 hp
        unfold pf_X0_countLiesAnew_j44 at hp
        refine gV_iinc (v := (v3 + 1)) (lvs' := [(3, .int (v3 + 1)), (0, .ref (h 2)), (1, .int v1), (2, .int v2)]) C dX0_countLiesAnew_44 3 rfl rfl (by decide) rfl ?_
        refine gV_goto (tgt := 4) C dX0_countLiesAnew_47 (by decide) ?_
        refine gV_loc [1, 2, 3, 0] rfl ?_
        exact ih4 v2 (v3 + 1) hp
      refine gV_iload_n C dX0_countLiesAnew_4 rfl 3 rfl ?_
      refine gV_aload_n C dX0_countLiesAnew_5 rfl 0 rfl ?_
      refine gV_get (Cn := RX0) (T := TX0) (N := 5) C inw_X0_countLiesAnew_X0 2 rfl rfl 1 (by decide) (C.w 1 rfl) rfl rfl dX0_countLiesAnew_6 ?_
      refine gV_icmp_ge (tgt := 50) C dX0_countLiesAnew_9 (by decide) (fun c9 => ?_) (fun c9 => ?_)
      · replace hp := g_ift hp c9
        refine gV_loc [0, 2] rfl ?_
        exact J50 v2 hp
      · replace hp := g_iff hp c9
        refine gV_iload_n C dX0_countLiesAnew_12 rfl 3 rfl ?_
        refine gV_bipush (v := 10) C dX0_countLiesAnew_13 rfl ?_
        refine gV_icmp_ge (tgt := 50) C dX0_countLiesAnew_15 (by decide) (fun c15 => ?_) (fun c15 => ?_)
        · replace hp := g_ift hp c15
          refine gV_loc [0, 2] rfl ?_
          exact J50 v2 hp
        · replace hp := g_iff hp c15
          refine gV_aload_n C dX0_countLiesAnew_18 rfl 0 rfl ?_
          refine gV_get (Cn := RX0) (T := TX0) (N := 5) C inw_X0_countLiesAnew_X0 2 rfl rfl 0 (by decide) (C.w 2 rfl) rfl rfl dX0_countLiesAnew_19 ?_
          refine gV_aload_n C dX0_countLiesAnew_22 rfl 0 rfl ?_
          refine gV_get (Cn := RX0) (T := TX0) (N := 5) C inw_X0_countLiesAnew_X0 2 rfl rfl 2 (by decide) (C.w 3 rfl) rfl rfl dX0_countLiesAnew_23 ?_
          refine gV_iload_n C dX0_countLiesAnew_26 rfl 3 rfl ?_
          obtain ⟨hi27, hp⟩ := g_idx hp
          refine gV_iald C 8 rfl 0 rfl hi27 dX0_countLiesAnew_27 ?_
          refine gV_iload_n C dX0_countLiesAnew_28 rfl 1 rfl ?_
          obtain ⟨r29q, hq29, hp⟩ := g_ob1 hp
          refine gV_calliS C (gV_runV (As := [.int (tg v3.toNatClampNeg), .int v1]) (rest := []) C (mt_X1_compare hl D h cI cJ lc la hr uP uC uR tn pn pg pq rl sr gcb gpb tg tm tl pm ps (tg v3.toNatClampNeg) v1 r29q hq29) (cwV 2 C.2.2.2.2.1 gX0_countLiesAnew_X1_compare rfl rfl rfl hdv_X1_compare ⟨Nat.le_of_ble_eq_true rfl, Nat.le_of_ble_eq_true rfl⟩) (gSub_S _) 1 rfl rfl rfl rfl (Nat.le_of_ble_eq_true rfl) dX0_countLiesAnew_29 ⟨Nat.le_of_ble_eq_true rfl, Nat.le_of_ble_eq_true rfl⟩) (fun _ _ hx => False.elim hx) (fun r29 w1 hw => ?_)
          obtain ⟨rfl, rfl⟩ := hw
          refine gV_aload_n C dX0_countLiesAnew_32 rfl 0 rfl ?_
          refine gV_get (Cn := RX0) (T := TX0) (N := 5) C inw_X0_countLiesAnew_X0 2 rfl rfl 3 (by decide) (C.w 4 rfl) rfl rfl dX0_countLiesAnew_33 ?_
          refine gV_iload_n C dX0_countLiesAnew_36 rfl 3 rfl ?_
          obtain ⟨hi37, hp⟩ := g_idx hp
          refine gV_iald C 9 rfl 0 rfl hi37 dX0_countLiesAnew_37 ?_
          refine gV_icmp_eq (tgt := 44) C dX0_countLiesAnew_38 (by decide) (fun c38 => ?_) (fun c38 => ?_)
          · replace hp := g_ift hp c38
            exact J44 v2 v3 hp
          · replace hp := g_iff hp c38
            refine gV_iinc (v := (v2 + 1)) (lvs' := [(2, .int (v2 + 1)), (0, .ref (h 2)), (1, .int v1), (3, .int v3)]) C dX0_countLiesAnew_41 2 rfl rfl (by decide) rfl ?_
            refine gV_loc [1, 2, 0, 3] rfl ?_
            exact J44 (v2 + 1) v3 hp
  refine gV_iconst (v := 0) C dX0_countLiesAnew_0 rfl ?_
  refine gV_istore_n (lvs' := [(2, .int 0), (0, .ref (h 2)), (1, .int v1)]) C dX0_countLiesAnew_1 rfl (by decide) rfl ?_
  refine gV_iconst (v := 0) C dX0_countLiesAnew_2 rfl ?_
  refine gV_istore_n (lvs' := [(3, .int 0), (2, .int 0), (0, .ref (h 2)), (1, .int v1)]) C dX0_countLiesAnew_3 rfl (by decide) rfl ?_
  refine gV_loc [2, 3, 1, 0] rfl ?_
  exact L4 100000 0 0 hp

def pf_X4_laysParts_L27 (v1 : Int32) (v2 : Int32) (v3 : Int32) (mP : Int32) (mC : Int32) (mset : Nat → Int32) : Nat → Int32 → (Nat → Int32) → (Nat → Int32) → Option ((Nat → Int32) × (Nat → Int32))
  | 0, _, _, _ => none
  | n27 + 1, v4, mh, mz => (if (v2 + v3) ≤ v4 then (some (mh, mz)) else (gi v4 2048 (ob2 (pf_X4_markOfRows mP mC mh v1 (mset v4.toNatClampNeg)) fun r48 mh_48 => (gi r48 100 (gi r48 100 (pf_X4_laysParts_L27 v1 v2 v3 mP mC mset n27 (v4 + 1) mh_48 (upd mz r48.toNatClampNeg ((mz r48.toNatClampNeg) + 1))))))))
def pf_X4_laysParts_L3 (v1 : Int32) (v2 : Int32) (v3 : Int32) (mP : Int32) (mC : Int32) (mset : Nat → Int32) (mh : Nat → Int32) : Nat → Int32 → (Nat → Int32) → Option ((Nat → Int32) × (Nat → Int32))
  | 0, _, _ => none
  | n3 + 1, v4, mz => (if 100 ≤ v4 then (pf_X4_laysParts_L27 v1 v2 v3 mP mC mset 100000 v2 mh mz) else (gi v4 100 (pf_X4_laysParts_L3 v1 v2 v3 mP mC mset mh n3 (v4 + 1) (upd mz v4.toNatClampNeg 0))))
def pf_X4_laysParts  (mP : Int32) (mC : Int32) (mh : Nat → Int32) (mz : Nat → Int32) (mset : Nat → Int32) (v1 : Int32) (v2 : Int32) (v3 : Int32) : Option ((Nat → Int32) × (Nat → Int32)) := (pf_X4_laysParts_L3 v1 v2 v3 mP mC mset mh 100000 0 mz)
abbrev rm_X4_laysParts : Room := { frames := 1, cells := 0, slots := 0, locals := 27 }
theorem inw_X4_laysParts_X4 : ∀ w ∈ wsX40, w ∈ wsX4_laysParts := by decide +kernel
set_option maxHeartbeats 4000000 in
set_option maxRecDepth 100000 in
theorem mt_X4_laysParts {l : Launch} (hl : l.stackTraces = false) (D : va_G) (k : Nat → Nat) (cI cJ : ClassId) (th : Int32) (mP : Int32) (mC : Int32) (mR : Int32) (mal : Int32) (mhd : Int32) (mn : Int32) (mg : Nat → Int32) (mt : Nat → Int32) (mh : Nat → Int32) (mz : Nat → Int32) (mset : Nat → Int32) (mfr : Nat → Int32) (mma : Nat → Int32) (mde : Nat → Int32) (mls : Nat → Int32) (v1 : Int32) (v2 : Int32) (v3 : Int32) (mh0 : Nat → Int32) (mz0 : Nat → Int32) (hp : pf_X4_laysParts mP mC mh mz mset v1 v2 v3 = (some (mh0, mz0))) : gMv l yX4_laysParts wsX4_laysParts rm_X4_laysParts D [(cI, .int), (cJ, .long)] (mW k cI th mP mC mR mal mhd mn mg mt mh mz mset mfr mma mde mls) [.ref (k 0), .int v1, .int v2, .int v3] 0 0 (fun w => w = mW k cI th mP mC mR mal mhd mn mg mt mh0 mz0 mset mfr mma mde mls) (fun _ _ => False) := by
  refine gMv_of (cc := cX4_laysParts) (maxL := 5) hl (by decide +kernel) rfl (Nat.le_of_ble_eq_true rfl) ?_
  intro p e s m args below meth c A Q C hnm ht RET OUT THR THRW
  have C : gC p l s m args meth c A D [(cI, .int), (cJ, .long)] 5 RX4 cX4_laysParts wsX4_laysParts := C
  refine gV_loc (lvs' := [(0, .ref (k 0)), (1, .int v1), (2, .int v2), (3, .int v3)]) [0, 1, 2, 3] rfl ?_
  unfold pf_X4_laysParts at hp
  have L27 : ∀ (n27 : Nat) (v4 : Int32) (mh : Nat → Int32) (mz : Nat → Int32), pf_X4_laysParts_L27 v1 v2 v3 mP mC mset n27 v4 mh mz = (some (mh0, mz0)) → gV p l e rm_X4_laysParts s m args below meth c A D 5 Q (mW k cI th mP mC mR mal mhd mn mg mt mh mz mset mfr mma mde mls) [(0, .ref (k 0)), (1, .int v1), (2, .int v2), (3, .int v3), (4, .int v4)] 0 0 27 [] := by
    intro n27
    induction n27 with
    | zero => intro v4 mh mz hp; exact g_none hp
    | succ n27 ih27 =>
      intro v4 mh mz hp
      rw [pf_X4_laysParts_L27.eq_2] at hp
      refine gV_iload C dX4_laysParts_27 4 rfl ?_
      refine gV_iload_n C dX4_laysParts_29 rfl 2 rfl ?_
      refine gV_iload_n C dX4_laysParts_30 rfl 3 rfl ?_
      refine gV_iadd C dX4_laysParts_31 ?_
      refine gV_icmp_ge (tgt := 62) C dX4_laysParts_32 (by decide) (fun c32 => ?_) (fun c32 => ?_)
      · replace hp := g_ift hp c32
        obtain ⟨rfl, rfl⟩ := g_so2 hp
        exact RET _ _ _ _ _ dX4_laysParts_62 (Nat.le_of_ble_eq_true rfl) (Nat.le_of_ble_eq_true rfl) rfl
      · replace hp := g_iff hp c32
        refine gV_aload_n C dX4_laysParts_35 rfl 0 rfl ?_
        refine gV_get (Cn := RX4) (T := TX4) (N := 16) C inw_X4_laysParts_X4 0 rfl rfl 10 (by decide) (C.w 1 rfl) rfl rfl dX4_laysParts_36 ?_
        refine gV_aload_n C dX4_laysParts_39 rfl 0 rfl ?_
        refine gV_iload_n C dX4_laysParts_40 rfl 1 rfl ?_
        refine gV_aload_n C dX4_laysParts_41 rfl 0 rfl ?_
        refine gV_get (Cn := RX4) (T := TX4) (N := 16) C inw_X4_laysParts_X4 0 rfl rfl 11 (by decide) (C.w 2 rfl) rfl rfl dX4_laysParts_42 ?_
        refine gV_iload C dX4_laysParts_45 4 rfl ?_
        obtain ⟨hi47, hp⟩ := g_idx hp
        refine gV_iald C 5 rfl 0 rfl hi47 dX4_laysParts_47 ?_
        obtain ⟨r48q, mh_48, hq48, hp⟩ := g_ob2 hp
        refine gV_calliS C (gV_runV (As := [.int v1, .int (mset v4.toNatClampNeg)]) (rest := [.ref (k 4)]) C (mt_X4_markOfRows hl D k cI cJ th mP mC mR mal mhd mn mg mt mh mz mset mfr mma mde mls v1 (mset v4.toNatClampNeg) r48q mh_48 hq48) (cwV 2 C.2.2.2.2.1 gX4_laysParts_X4_markOfRows rfl rfl rfl hdv_X4_markOfRows ⟨Nat.le_of_ble_eq_true rfl, Nat.le_of_ble_eq_true rfl⟩) (gSub_S _) 0 rfl rfl rfl rfl (Nat.le_of_ble_eq_true rfl) dX4_laysParts_48 ⟨Nat.le_of_ble_eq_true rfl, Nat.le_of_ble_eq_true rfl⟩) (fun _ _ hx => False.elim hx) (fun r48 w1 hw => ?_)
        obtain ⟨rfl, rfl⟩ := hw
        refine gV_dup2 C dX4_laysParts_51 rfl rfl ?_
        obtain ⟨hi52, hp⟩ := g_idx hp
        refine gV_iald C 4 rfl 0 rfl hi52 dX4_laysParts_52 ?_
        refine gV_iconst (v := 1) C dX4_laysParts_53 rfl ?_
        refine gV_iadd C dX4_laysParts_54 ?_
        obtain ⟨hi55, hp⟩ := g_idx hp
        refine gV_iast (ws' := mW k cI th mP mC mR mal mhd mn mg mt mh_48 (upd mz r48.toNatClampNeg ((mz r48.toNatClampNeg) + 1)) mset mfr mma mde mls) C 4 rfl 0 rfl hi55 dX4_laysParts_55 rfl ?_
        refine gV_iinc (v := (v4 + 1)) (lvs' := [(4, .int (v4 + 1)), (0, .ref (k 0)), (1, .int v1), (2, .int v2), (3, .int v3)]) C dX4_laysParts_56 4 rfl rfl (by decide) rfl ?_
        refine gV_goto (tgt := 27) C dX4_laysParts_59 (by decide) ?_
        refine gV_loc [1, 2, 3, 4, 0] rfl ?_
        exact ih27 (v4 + 1) mh_48 (upd mz r48.toNatClampNeg ((mz r48.toNatClampNeg) + 1)) hp
  have L3 : ∀ (mh : Nat → Int32) (n3 : Nat) (v4 : Int32) (mz : Nat → Int32), pf_X4_laysParts_L3 v1 v2 v3 mP mC mset mh n3 v4 mz = (some (mh0, mz0)) → gV p l e rm_X4_laysParts s m args below meth c A D 5 Q (mW k cI th mP mC mR mal mhd mn mg mt mh mz mset mfr mma mde mls) [(0, .ref (k 0)), (1, .int v1), (2, .int v2), (3, .int v3), (4, .int v4)] 0 0 3 [] := by
    intro mh n3
    induction n3 with
    | zero => intro v4 mz hp; exact g_none hp
    | succ n3 ih3 =>
      intro v4 mz hp
      rw [pf_X4_laysParts_L3.eq_2] at hp
      refine gV_iload C dX4_laysParts_3 4 rfl ?_
      refine gV_bipush (v := 100) C dX4_laysParts_5 rfl ?_
      refine gV_icmp_ge (tgt := 24) C dX4_laysParts_7 (by decide) (fun c7 => ?_) (fun c7 => ?_)
      · replace hp := g_ift hp c7
        refine gV_iload_n C dX4_laysParts_24 rfl 2 rfl ?_
        refine gV_istore (lvs' := [(4, .int v2), (0, .ref (k 0)), (1, .int v1), (2, .int v2), (3, .int v3)]) C dX4_laysParts_25 (by decide) rfl ?_
        refine gV_loc [1, 2, 3, 4, 0] rfl ?_
        exact L27 100000 v2 mh mz hp
      · replace hp := g_iff hp c7
        refine gV_aload_n C dX4_laysParts_10 rfl 0 rfl ?_
        refine gV_get (Cn := RX4) (T := TX4) (N := 16) C inw_X4_laysParts_X4 0 rfl rfl 10 (by decide) (C.w 1 rfl) rfl rfl dX4_laysParts_11 ?_
        refine gV_iload C dX4_laysParts_14 4 rfl ?_
        refine gV_iconst (v := 0) C dX4_laysParts_16 rfl ?_
        obtain ⟨hi17, hp⟩ := g_idx hp
        refine gV_iast (ws' := mW k cI th mP mC mR mal mhd mn mg mt mh (upd mz v4.toNatClampNeg 0) mset mfr mma mde mls) C 4 rfl 0 rfl hi17 dX4_laysParts_17 rfl ?_
        refine gV_iinc (v := (v4 + 1)) (lvs' := [(4, .int (v4 + 1)), (0, .ref (k 0)), (1, .int v1), (2, .int v2), (3, .int v3)]) C dX4_laysParts_18 4 rfl rfl (by decide) rfl ?_
        refine gV_goto (tgt := 3) C dX4_laysParts_21 (by decide) ?_
        refine gV_loc [1, 2, 3, 4, 0] rfl ?_
        exact ih3 (v4 + 1) (upd mz v4.toNatClampNeg 0) hp
  refine gV_iconst (v := 0) C dX4_laysParts_0 rfl ?_
  refine gV_istore (lvs' := [(4, .int 0), (0, .ref (k 0)), (1, .int v1), (2, .int v2), (3, .int v3)]) C dX4_laysParts_1 (by decide) rfl ?_
  refine gV_loc [1, 2, 3, 4, 0] rfl ?_
  exact L3 mh 100000 0 mz hp
def pf_X4_worst_j30  (kL4 : Int32 → Int32 → Option (Int32)) (v2 : Int32) (s0 : Int32) : Option (Int32) := (kL4 s0 (v2 + 1))
def pf_X4_worst_L4 (mz : Nat → Int32) : Nat → Int32 → Int32 → Option (Int32)
  | 0, _, _ => none
  | n4 + 1, v1, v2 => (if 100 ≤ v2 then (some v1) else (gi v2 100 (if (mz v2.toNatClampNeg) ≤ v1 then (pf_X4_worst_j30 (fun v1 v2 => pf_X4_worst_L4 mz n4 v1 v2) v2 v1) else (gi v2 100 (pf_X4_worst_j30 (fun v1 v2 => pf_X4_worst_L4 mz n4 v1 v2) v2 (mz v2.toNatClampNeg))))))
def pf_X4_worst  (mz : Nat → Int32)  : Option (Int32) := (pf_X4_worst_L4 mz 100000 0 0)
abbrev rm_X4_worst : Room := { frames := 0, cells := 0, slots := 0, locals := 0 }
theorem inw_X4_worst_X4 : ∀ w ∈ wsX40, w ∈ wsX4_worst := by decide +kernel
set_option maxHeartbeats 4000000 in
set_option maxRecDepth 100000 in
theorem mt_X4_worst {l : Launch} (hl : l.stackTraces = false) (D : va_G) (k : Nat → Nat) (cI cJ : ClassId) (th : Int32) (mP : Int32) (mC : Int32) (mR : Int32) (mal : Int32) (mhd : Int32) (mn : Int32) (mg : Nat → Int32) (mt : Nat → Int32) (mh : Nat → Int32) (mz : Nat → Int32) (mset : Nat → Int32) (mfr : Nat → Int32) (mma : Nat → Int32) (mde : Nat → Int32) (mls : Nat → Int32)  (r0 : Int32) (hp : pf_X4_worst mz = (some r0)) : gMi l yX4_worst wsX4_worst rm_X4_worst D [(cI, .int), (cJ, .long)] (mW k cI th mP mC mR mal mhd mn mg mt mh mz mset mfr mma mde mls) [.ref (k 0)] 0 0 (fun r w => r = r0 ∧ w = mW k cI th mP mC mR mal mhd mn mg mt mh mz mset mfr mma mde mls) (fun _ _ => False) := by
  refine gMi_of (cc := cX4_worst) (maxL := 3) (rt := .int) hl (by decide +kernel) rfl (Nat.le_of_ble_eq_true rfl) ?_
  intro p e s m args below meth c A Q C hnm ht RET OUT THR THRW
  have C : gC p l s m args meth c A D [(cI, .int), (cJ, .long)] 3 RX4 cX4_worst wsX4_worst := C
  refine gV_loc (lvs' := [(0, .ref (k 0))]) [0] rfl ?_
  unfold pf_X4_worst at hp
  have L4 : ∀ (n4 : Nat) (v1 : Int32) (v2 : Int32), pf_X4_worst_L4 mz n4 v1 v2 = (some r0) → gV p l e rm_X4_worst s m args below meth c A D 3 Q (mW k cI th mP mC mR mal mhd mn mg mt mh mz mset mfr mma mde mls) [(0, .ref (k 0)), (1, .int v1), (2, .int v2)] 0 0 4 [] := by
    intro n4
    induction n4 with
    | zero => intro v1 v2 hp; exact g_none hp
    | succ n4 ih4 =>
      intro v1 v2 hp
      rw [pf_X4_worst_L4.eq_2] at hp
      have J30 : ∀ (v2 : Int32) (s0 : Int32), pf_X4_worst_j30 (fun v1 v2 => pf_X4_worst_L4 mz n4 v1 v2) v2 s0 = (some r0) → gV p l e rm_X4_worst s m args below meth c A D 3 Q (mW k cI th mP mC mR mal mhd mn mg mt mh mz mset mfr mma mde mls) [(0, .ref (k 0)), (2, .int v2)] 0 0 30 [.int s0] := by
        intro v2 s0 hp
        unfold pf_X4_worst_j30 at hp
        refine gV_istore_n (lvs' := [(1, .int s0), (0, .ref (k 0)), (2, .int v2)]) C dX4_worst_30 rfl (by decide) rfl ?_
        refine gV_iinc (v := (v2 + 1)) (lvs' := [(2, .int (v2 + 1)), (1, .int s0), (0, .ref (k 0))]) C dX4_worst_31 2 rfl rfl (by decide) rfl ?_
        refine gV_goto (tgt := 4) C dX4_worst_34 (by decide) ?_
        refine gV_loc [2, 1, 0] rfl ?_
        exact ih4 s0 (v2 + 1) hp
      refine gV_iload_n C dX4_worst_4 rfl 2 rfl ?_
      refine gV_bipush (v := 100) C dX4_worst_5 rfl ?_
      refine gV_icmp_ge (tgt := 37) C dX4_worst_7 (by decide) (fun c7 => ?_) (fun c7 => ?_)
      · replace hp := g_ift hp c7
        refine gV_iload_n C dX4_worst_37 rfl 1 rfl ?_
        obtain rfl := g_so1 hp
        exact RET _ _ _ _ _ _ dX4_worst_38 (Nat.le_of_ble_eq_true rfl) (Nat.le_of_ble_eq_true rfl) rfl ⟨rfl, rfl⟩
      · replace hp := g_iff hp c7
        refine gV_aload_n C dX4_worst_10 rfl 0 rfl ?_
        refine gV_get (Cn := RX4) (T := TX4) (N := 16) C inw_X4_worst_X4 0 rfl rfl 10 (by decide) (C.w 1 rfl) rfl rfl dX4_worst_11 ?_
        refine gV_iload_n C dX4_worst_14 rfl 2 rfl ?_
        obtain ⟨hi15, hp⟩ := g_idx hp
        refine gV_iald C 4 rfl 0 rfl hi15 dX4_worst_15 ?_
        refine gV_iload_n C dX4_worst_16 rfl 1 rfl ?_
        refine gV_icmp_le (tgt := 29) C dX4_worst_17 (by decide) (fun c17 => ?_) (fun c17 => ?_)
        · replace hp := g_ift hp c17
          refine gV_iload_n C dX4_worst_29 rfl 1 rfl ?_
          refine gV_loc [0, 2] rfl ?_
          exact J30 v2 v1 hp
        · replace hp := g_iff hp c17
          refine gV_aload_n C dX4_worst_20 rfl 0 rfl ?_
          refine gV_get (Cn := RX4) (T := TX4) (N := 16) C inw_X4_worst_X4 0 rfl rfl 10 (by decide) (C.w 1 rfl) rfl rfl dX4_worst_21 ?_
          refine gV_iload_n C dX4_worst_24 rfl 2 rfl ?_
          obtain ⟨hi25, hp⟩ := g_idx hp
          refine gV_iald C 4 rfl 0 rfl hi25 dX4_worst_25 ?_
          refine gV_goto (tgt := 30) C dX4_worst_26 (by decide) ?_
          refine gV_loc [0, 2] rfl ?_
          exact J30 v2 (mz v2.toNatClampNeg) hp
  refine gV_iconst (v := 0) C dX4_worst_0 rfl ?_
  refine gV_istore_n (lvs' := [(1, .int 0), (0, .ref (k 0))]) C dX4_worst_1 rfl (by decide) rfl ?_
  refine gV_iconst (v := 0) C dX4_worst_2 rfl ?_
  refine gV_istore_n (lvs' := [(2, .int 0), (1, .int 0), (0, .ref (k 0))]) C dX4_worst_3 rfl (by decide) rfl ?_
  refine gV_loc [2, 1, 0] rfl ?_
  exact L4 100000 0 0 hp
def pf_X4_squares_L4 (mz : Nat → Int32) : Nat → Int32 → Int32 → Option (Int32)
  | 0, _, _ => none
  | n4 + 1, v1, v2 => (if 100 ≤ v2 then (some v1) else (gi v2 100 (gi v2 100 (gl (v1 + ((mz v2.toNatClampNeg) * (mz v2.toNatClampNeg))) fun v1_25 => (pf_X4_squares_L4 mz n4 v1_25 (v2 + 1))))))
def pf_X4_squares  (mz : Nat → Int32)  : Option (Int32) := (pf_X4_squares_L4 mz 100000 0 0)
abbrev rm_X4_squares : Room := { frames := 0, cells := 0, slots := 0, locals := 0 }
theorem inw_X4_squares_X4 : ∀ w ∈ wsX40, w ∈ wsX4_squares := by decide +kernel
set_option maxHeartbeats 4000000 in
set_option maxRecDepth 100000 in
theorem mt_X4_squares {l : Launch} (hl : l.stackTraces = false) (D : va_G) (k : Nat → Nat) (cI cJ : ClassId) (th : Int32) (mP : Int32) (mC : Int32) (mR : Int32) (mal : Int32) (mhd : Int32) (mn : Int32) (mg : Nat → Int32) (mt : Nat → Int32) (mh : Nat → Int32) (mz : Nat → Int32) (mset : Nat → Int32) (mfr : Nat → Int32) (mma : Nat → Int32) (mde : Nat → Int32) (mls : Nat → Int32)  (r0 : Int32) (hp : pf_X4_squares mz = (some r0)) : gMi l yX4_squares wsX4_squares rm_X4_squares D [(cI, .int), (cJ, .long)] (mW k cI th mP mC mR mal mhd mn mg mt mh mz mset mfr mma mde mls) [.ref (k 0)] 0 0 (fun r w => r = r0 ∧ w = mW k cI th mP mC mR mal mhd mn mg mt mh mz mset mfr mma mde mls) (fun _ _ => False) := by
  refine gMi_of (cc := cX4_squares) (maxL := 3) (rt := .int) hl (by decide +kernel) rfl (Nat.le_of_ble_eq_true rfl) ?_
  intro p e s m args below meth c A Q C hnm ht RET OUT THR THRW
  have C : gC p l s m args meth c A D [(cI, .int), (cJ, .long)] 3 RX4 cX4_squares wsX4_squares := C
  refine gV_loc (lvs' := [(0, .ref (k 0))]) [0] rfl ?_
  unfold pf_X4_squares at hp
  have L4 : ∀ (n4 : Nat) (v1 : Int32) (v2 : Int32), pf_X4_squares_L4 mz n4 v1 v2 = (some r0) → gV p l e rm_X4_squares s m args below meth c A D 3 Q (mW k cI th mP mC mR mal mhd mn mg mt mh mz mset mfr mma mde mls) [(0, .ref (k 0)), (1, .int v1), (2, .int v2)] 0 0 4 [] := by
    intro n4
    induction n4 with
    | zero => intro v1 v2 hp; exact g_none hp
    | succ n4 ih4 =>
      intro v1 v2 hp
      rw [pf_X4_squares_L4.eq_2] at hp
      refine gV_iload_n C dX4_squares_4 rfl 2 rfl ?_
      refine gV_bipush (v := 100) C dX4_squares_5 rfl ?_
      refine gV_icmp_ge (tgt := 32) C dX4_squares_7 (by decide) (fun c7 => ?_) (fun c7 => ?_)
      · replace hp := g_ift hp c7
        refine gV_iload_n C dX4_squares_32 rfl 1 rfl ?_
        obtain rfl := g_so1 hp
        exact RET _ _ _ _ _ _ dX4_squares_33 (Nat.le_of_ble_eq_true rfl) (Nat.le_of_ble_eq_true rfl) rfl ⟨rfl, rfl⟩
      · replace hp := g_iff hp c7
        refine gV_iload_n C dX4_squares_10 rfl 1 rfl ?_
        refine gV_aload_n C dX4_squares_11 rfl 0 rfl ?_
        refine gV_get (Cn := RX4) (T := TX4) (N := 16) C inw_X4_squares_X4 0 rfl rfl 10 (by decide) (C.w 1 rfl) rfl rfl dX4_squares_12 ?_
        refine gV_iload_n C dX4_squares_15 rfl 2 rfl ?_
        obtain ⟨hi16, hp⟩ := g_idx hp
        refine gV_iald C 4 rfl 0 rfl hi16 dX4_squares_16 ?_
        refine gV_aload_n C dX4_squares_17 rfl 0 rfl ?_
        refine gV_get (Cn := RX4) (T := TX4) (N := 16) C inw_X4_squares_X4 0 rfl rfl 10 (by decide) (C.w 1 rfl) rfl rfl dX4_squares_18 ?_
        refine gV_iload_n C dX4_squares_21 rfl 2 rfl ?_
        obtain ⟨hi22, hp⟩ := g_idx hp
        refine gV_iald C 4 rfl 0 rfl hi22 dX4_squares_22 ?_
        refine gV_imul C dX4_squares_23 ?_
        refine gV_iadd C dX4_squares_24 ?_
        refine gV_topI (fun v1_25 he25 => ?_)
        replace hp := g_let hp he25
        refine gV_istore_n (lvs' := [(1, .int v1_25), (0, .ref (k 0)), (2, .int v2)]) C dX4_squares_25 rfl (by decide) rfl ?_
        refine gV_iinc (v := (v2 + 1)) (lvs' := [(2, .int (v2 + 1)), (1, .int v1_25), (0, .ref (k 0))]) C dX4_squares_26 2 rfl rfl (by decide) rfl ?_
        refine gV_goto (tgt := 4) C dX4_squares_29 (by decide) ?_
        refine gV_loc [2, 1, 0] rfl ?_
        exact ih4 v1_25 (v2 + 1) hp
  refine gV_iconst (v := 0) C dX4_squares_0 rfl ?_
  refine gV_istore_n (lvs' := [(1, .int 0), (0, .ref (k 0))]) C dX4_squares_1 rfl (by decide) rfl ?_
  refine gV_iconst (v := 0) C dX4_squares_2 rfl ?_
  refine gV_istore_n (lvs' := [(2, .int 0), (1, .int 0), (0, .ref (k 0))]) C dX4_squares_3 rfl (by decide) rfl ?_
  refine gV_loc [2, 1, 0] rfl ?_
  exact L4 100000 0 0 hp
def pf_X4_manyParts_j25  (kL4 : Int32 → Int32 → Option (Int32)) (v2 : Int32) (s0 : Int32) (s1 : Int32) : Option (Int32) := (kL4 (s1 + s0) (v2 + 1))
def pf_X4_manyParts_L4 (mz : Nat → Int32) : Nat → Int32 → Int32 → Option (Int32)
  | 0, _, _ => none
  | n4 + 1, v1, v2 => (if 100 ≤ v2 then (some v1) else (gi v2 100 (if (mz v2.toNatClampNeg) ≤ 0 then (pf_X4_manyParts_j25 (fun v1 v2 => pf_X4_manyParts_L4 mz n4 v1 v2) v2 0 v1) else (pf_X4_manyParts_j25 (fun v1 v2 => pf_X4_manyParts_L4 mz n4 v1 v2) v2 1 v1))))
def pf_X4_manyParts  (mz : Nat → Int32)  : Option (Int32) := (pf_X4_manyParts_L4 mz 100000 0 0)
abbrev rm_X4_manyParts : Room := { frames := 0, cells := 0, slots := 0, locals := 0 }
theorem inw_X4_manyParts_X4 : ∀ w ∈ wsX40, w ∈ wsX4_manyParts := by decide +kernel
set_option maxHeartbeats 4000000 in
set_option maxRecDepth 100000 in
theorem mt_X4_manyParts {l : Launch} (hl : l.stackTraces = false) (D : va_G) (k : Nat → Nat) (cI cJ : ClassId) (th : Int32) (mP : Int32) (mC : Int32) (mR : Int32) (mal : Int32) (mhd : Int32) (mn : Int32) (mg : Nat → Int32) (mt : Nat → Int32) (mh : Nat → Int32) (mz : Nat → Int32) (mset : Nat → Int32) (mfr : Nat → Int32) (mma : Nat → Int32) (mde : Nat → Int32) (mls : Nat → Int32)  (r0 : Int32) (hp : pf_X4_manyParts mz = (some r0)) : gMi l yX4_manyParts wsX4_manyParts rm_X4_manyParts D [(cI, .int), (cJ, .long)] (mW k cI th mP mC mR mal mhd mn mg mt mh mz mset mfr mma mde mls) [.ref (k 0)] 0 0 (fun r w => r = r0 ∧ w = mW k cI th mP mC mR mal mhd mn mg mt mh mz mset mfr mma mde mls) (fun _ _ => False) := by
  refine gMi_of (cc := cX4_manyParts) (maxL := 3) (rt := .int) hl (by decide +kernel) rfl (Nat.le_of_ble_eq_true rfl) ?_
  intro p e s m args below meth c A Q C hnm ht RET OUT THR THRW
  have C : gC p l s m args meth c A D [(cI, .int), (cJ, .long)] 3 RX4 cX4_manyParts wsX4_manyParts := C
  refine gV_loc (lvs' := [(0, .ref (k 0))]) [0] rfl ?_
  unfold pf_X4_manyParts at hp
  have L4 : ∀ (n4 : Nat) (v1 : Int32) (v2 : Int32), pf_X4_manyParts_L4 mz n4 v1 v2 = (some r0) → gV p l e rm_X4_manyParts s m args below meth c A D 3 Q (mW k cI th mP mC mR mal mhd mn mg mt mh mz mset mfr mma mde mls) [(0, .ref (k 0)), (1, .int v1), (2, .int v2)] 0 0 4 [] := by
    intro n4
    induction n4 with
    | zero => intro v1 v2 hp; exact g_none hp
    | succ n4 ih4 =>
      intro v1 v2 hp
      rw [pf_X4_manyParts_L4.eq_2] at hp
      have J25 : ∀ (v2 : Int32) (s0 : Int32) (s1 : Int32), pf_X4_manyParts_j25 (fun v1 v2 => pf_X4_manyParts_L4 mz n4 v1 v2) v2 s0 s1 = (some r0) → gV p l e rm_X4_manyParts s m args below meth c A D 3 Q (mW k cI th mP mC mR mal mhd mn mg mt mh mz mset mfr mma mde mls) [(0, .ref (k 0)), (2, .int v2)] 0 0 25 [.int s0, .int s1] := by
        intro v2 s0 s1 hp
        unfold pf_X4_manyParts_j25 at hp
        refine gV_iadd C dX4_manyParts_25 ?_
        refine gV_istore_n (lvs' := [(1, .int (s1 + s0)), (0, .ref (k 0)), (2, .int v2)]) C dX4_manyParts_26 rfl (by decide) rfl ?_
        refine gV_iinc (v := (v2 + 1)) (lvs' := [(2, .int (v2 + 1)), (1, .int (s1 + s0)), (0, .ref (k 0))]) C dX4_manyParts_27 2 rfl rfl (by decide) rfl ?_
        refine gV_goto (tgt := 4) C dX4_manyParts_30 (by decide) ?_
        refine gV_loc [2, 1, 0] rfl ?_
        exact ih4 (s1 + s0) (v2 + 1) hp
      refine gV_iload_n C dX4_manyParts_4 rfl 2 rfl ?_
      refine gV_bipush (v := 100) C dX4_manyParts_5 rfl ?_
      refine gV_icmp_ge (tgt := 33) C dX4_manyParts_7 (by decide) (fun c7 => ?_) (fun c7 => ?_)
      · replace hp := g_ift hp c7
        refine gV_iload_n C dX4_manyParts_33 rfl 1 rfl ?_
        obtain rfl := g_so1 hp
        exact RET _ _ _ _ _ _ dX4_manyParts_34 (Nat.le_of_ble_eq_true rfl) (Nat.le_of_ble_eq_true rfl) rfl ⟨rfl, rfl⟩
      · replace hp := g_iff hp c7
        refine gV_iload_n C dX4_manyParts_10 rfl 1 rfl ?_
        refine gV_aload_n C dX4_manyParts_11 rfl 0 rfl ?_
        refine gV_get (Cn := RX4) (T := TX4) (N := 16) C inw_X4_manyParts_X4 0 rfl rfl 10 (by decide) (C.w 1 rfl) rfl rfl dX4_manyParts_12 ?_
        refine gV_iload_n C dX4_manyParts_15 rfl 2 rfl ?_
        obtain ⟨hi16, hp⟩ := g_idx hp
        refine gV_iald C 4 rfl 0 rfl hi16 dX4_manyParts_16 ?_
        refine gV_if_le (tgt := 24) C dX4_manyParts_17 (by decide) (fun c17 => ?_) (fun c17 => ?_)
        · replace hp := g_ift hp c17
          refine gV_iconst (v := 0) C dX4_manyParts_24 rfl ?_
          refine gV_loc [0, 2] rfl ?_
          exact J25 v2 0 v1 hp
        · replace hp := g_iff hp c17
          refine gV_iconst (v := 1) C dX4_manyParts_20 rfl ?_
          refine gV_goto (tgt := 25) C dX4_manyParts_21 (by decide) ?_
          refine gV_loc [0, 2] rfl ?_
          exact J25 v2 1 v1 hp
  refine gV_iconst (v := 0) C dX4_manyParts_0 rfl ?_
  refine gV_istore_n (lvs' := [(1, .int 0), (0, .ref (k 0))]) C dX4_manyParts_1 rfl (by decide) rfl ?_
  refine gV_iconst (v := 0) C dX4_manyParts_2 rfl ?_
  refine gV_istore_n (lvs' := [(2, .int 0), (1, .int 0), (0, .ref (k 0))]) C dX4_manyParts_3 rfl (by decide) rfl ?_
  refine gV_loc [2, 1, 0] rfl ?_
  exact L4 100000 0 0 hp
def pf_X4_asks_j48  (s0 : Int32) (th : Int32) (mh : Nat → Int32) (mz : Nat → Int32) (mset : Nat → Int32) : Option (Int32 × Int32 × (Nat → Int32) × (Nat → Int32) × (Nat → Int32)) := (gz s0 ((some (s0, th, mh, mz, mset))))
def pf_X4_asks_j36  (th : Int32) (mh : Nat → Int32) (mz : Nat → Int32) (mset : Nat → Int32) : Option (Int32 × Int32 × (Nat → Int32) × (Nat → Int32) × (Nat → Int32)) := (if th = 0 then (pf_X4_asks_j48 1 th mh mz mset) else (pf_X4_asks_j48 0 th mh mz mset))
def pf_X4_asks_j14 (v1 : Int32) (mP : Int32) (mC : Int32) (mR : Int32) (mal : Int32) (mn : Int32) (mg : Nat → Int32) (mt : Nat → Int32) (s0 : Int32) (th : Int32) (mh : Nat → Int32) (mz : Nat → Int32) (mset : Nat → Int32) : Option (Int32 × Int32 × (Nat → Int32) × (Nat → Int32) × (Nat → Int32)) := (if s0 = 0 then (ob3 (pf_X4_laysLeft mP mC mR mal mn mg mt mh mset) fun r25 mh_25 mset_25 => (ob2 (pf_X4_laysParts mP mC mh_25 mz mset_25 v1 0 r25) fun mh_33 mz_33 => (pf_X4_asks_j36 s0 mh_33 mz_33 mset_25))) else (pf_X4_asks_j36 s0 mh mz mset))
def pf_X4_asks  (th : Int32) (mP : Int32) (mC : Int32) (mR : Int32) (mal : Int32) (mn : Int32) (mg : Nat → Int32) (mt : Nat → Int32) (mh : Nat → Int32) (mz : Nat → Int32) (mset : Nat → Int32) (v1 : Int32) : Option (Int32 × Int32 × (Nat → Int32) × (Nat → Int32) × (Nat → Int32)) := (ob1 (pf_X4_isRow mR v1) fun r3 => (if r3 = 0 then (pf_X4_asks_j14 v1 mP mC mR mal mn mg mt 1 th mh mz mset) else (pf_X4_asks_j14 v1 mP mC mR mal mn mg mt 0 th mh mz mset)))
abbrev rm_X4_asks : Room := { frames := 4, cells := 0, slots := 0, locals := 93 }
theorem inw_X4_asks_X4 : ∀ w ∈ wsX40, w ∈ wsX4_asks := by decide +kernel
theorem hdv_X4_laysParts : yX4_laysParts.cls = RX4 ∧ yX4_laysParts.cls ≠ "java/lang/invoke/MethodHandle" ∧ yX4_laysParts.cls ≠ "java/lang/invoke/VarHandle" ∧ (parseMethodDescriptor yX4_laysParts.desc).map (fun d => d.parameters.length) = some 3 := by decide +kernel
set_option maxHeartbeats 4000000 in
set_option maxRecDepth 100000 in
theorem mt_X4_asks {l : Launch} (hl : l.stackTraces = false) (D : va_G) (k : Nat → Nat) (cI cJ : ClassId) (th : Int32) (mP : Int32) (mC : Int32) (mR : Int32) (mal : Int32) (mhd : Int32) (mn : Int32) (mg : Nat → Int32) (mt : Nat → Int32) (mh : Nat → Int32) (mz : Nat → Int32) (mset : Nat → Int32) (mfr : Nat → Int32) (mma : Nat → Int32) (mde : Nat → Int32) (mls : Nat → Int32) (v1 : Int32) (r0 : Int32) (th0 : Int32) (mh0 : Nat → Int32) (mz0 : Nat → Int32) (mset0 : Nat → Int32) (hp : pf_X4_asks th mP mC mR mal mn mg mt mh mz mset v1 = (some (r0, th0, mh0, mz0, mset0))) : gMi l yX4_asks wsX4_asks rm_X4_asks D [(cI, .int), (cJ, .long)] (mW k cI th mP mC mR mal mhd mn mg mt mh mz mset mfr mma mde mls) [.ref (k 0), .int v1] 0 0 (fun r w => r = r0 ∧ w = mW k cI th0 mP mC mR mal mhd mn mg mt mh0 mz0 mset0 mfr mma mde mls) (fun _ _ => False) := by
  refine gMi_of (cc := cX4_asks) (maxL := 3) (rt := .boolean) hl (by decide +kernel) rfl (Nat.le_of_ble_eq_true rfl) ?_
  intro p e s m args below meth c A Q C hnm ht RET OUT THR THRW
  have C : gC p l s m args meth c A D [(cI, .int), (cJ, .long)] 3 RX4 cX4_asks wsX4_asks := C
  refine gV_loc (lvs' := [(0, .ref (k 0)), (1, .int v1)]) [0, 1] rfl ?_
  unfold pf_X4_asks at hp
  have J48 : ∀ (s0 : Int32) (th : Int32) (mh : Nat → Int32) (mz : Nat → Int32) (mset : Nat → Int32), pf_X4_asks_j48 s0 th mh mz mset = (some (r0, th0, mh0, mz0, mset0)) → gV p l e rm_X4_asks s m args below meth c A D 3 Q (mW k cI th mP mC mR mal mhd mn mg mt mh mz mset mfr mma mde mls) [(0, .ref (k 0))] 0 0 48 [.int s0] := by
    intro s0 th mh mz mset hp
    unfold pf_X4_asks_j48 at hp
    obtain ⟨hz48, hp⟩ := g_bool hp
    obtain ⟨rfl, rfl, rfl, rfl, rfl⟩ := g_so5 hp
    exact RET _ _ _ _ _ _ dX4_asks_48 (Nat.le_of_ble_eq_true rfl) (Nat.le_of_ble_eq_true rfl) (g_nz hz48) ⟨rfl, rfl⟩
  have J36 : ∀ (th : Int32) (mh : Nat → Int32) (mz : Nat → Int32) (mset : Nat → Int32), pf_X4_asks_j36 th mh mz mset = (some (r0, th0, mh0, mz0, mset0)) → gV p l e rm_X4_asks s m args below meth c A D 3 Q (mW k cI th mP mC mR mal mhd mn mg mt mh mz mset mfr mma mde mls) [(0, .ref (k 0))] 0 0 36 [] := by
    intro th mh mz mset hp
    unfold pf_X4_asks_j36 at hp
    refine gV_aload_n C dX4_asks_36 rfl 0 rfl ?_
    refine gV_get (Cn := RX4) (T := TX4) (N := 16) C inw_X4_asks_X4 0 rfl rfl 0 (by decide) (C.w 1 rfl) rfl rfl dX4_asks_37 ?_
    refine gV_if_ne (tgt := 47) C dX4_asks_40 (by decide) (fun c40 => ?_) (fun c40 => ?_)
    · replace hp := g_iff hp c40
      refine gV_iconst (v := 0) C dX4_asks_47 rfl ?_
      exact J48 0 th mh mz mset hp
    · replace hp := g_ift hp c40
      refine gV_iconst (v := 1) C dX4_asks_43 rfl ?_
      refine gV_goto (tgt := 48) C dX4_asks_44 (by decide) ?_
      exact J48 1 th mh mz mset hp
  have J14 : ∀ (s0 : Int32) (th : Int32) (mh : Nat → Int32) (mz : Nat → Int32) (mset : Nat → Int32), pf_X4_asks_j14 v1 mP mC mR mal mn mg mt s0 th mh mz mset = (some (r0, th0, mh0, mz0, mset0)) → gV p l e rm_X4_asks s m args below meth c A D 3 Q (mW k cI th mP mC mR mal mhd mn mg mt mh mz mset mfr mma mde mls) [(0, .ref (k 0)), (1, .int v1)] 0 0 14 [.int s0, .ref (k 0)] := by
    intro s0 th mh mz mset hp
    unfold pf_X4_asks_j14 at hp
    refine gV_put (Cn := RX4) (T := TX4) (N := 16) (ws' := mW k cI s0 mP mC mR mal mhd mn mg mt mh mz mset mfr mma mde mls) C inw_X4_asks_X4 tyX4_ok nmX4 0 rfl rfl 0 (by decide) (C.w 1 rfl) rfl rfl rfl rfl rfl (Nat.le_of_ble_eq_true rfl) dX4_asks_14 rfl ?_
    refine gV_aload_n C dX4_asks_17 rfl 0 rfl ?_
    refine gV_get (Cn := RX4) (T := TX4) (N := 16) C inw_X4_asks_X4 0 rfl rfl 0 (by decide) (C.w 1 rfl) rfl rfl dX4_asks_18 ?_
    refine gV_if_ne (tgt := 36) C dX4_asks_21 (by decide) (fun c21 => ?_) (fun c21 => ?_)
    · replace hp := g_iff hp c21
      refine gV_loc [0] rfl ?_
      exact J36 s0 mh mz mset hp
    · replace hp := g_ift hp c21
      refine gV_aload_n C dX4_asks_24 rfl 0 rfl ?_
      obtain ⟨r25q, mh_25, mset_25, hq25, hp⟩ := g_ob3 hp
      refine gV_calliS C (gV_runV (As := []) (rest := []) C (mt_X4_laysLeft hl D k cI cJ s0 mP mC mR mal mhd mn mg mt mh mz mset mfr mma mde mls r25q mh_25 mset_25 hq25) (cwV 0 C.2.2.2.2.1 gX4_asks_X4_laysLeft rfl rfl rfl hdv_X4_laysLeft ⟨Nat.le_of_ble_eq_true rfl, Nat.le_of_ble_eq_true rfl⟩) (gSub_S _) 0 rfl rfl rfl rfl (Nat.le_of_ble_eq_true rfl) dX4_asks_25 ⟨Nat.le_of_ble_eq_true rfl, Nat.le_of_ble_eq_true rfl⟩) (fun _ _ hx => False.elim hx) (fun r25 w1 hw => ?_)
      obtain ⟨rfl, rfl⟩ := hw
      refine gV_istore_n (lvs' := [(2, .int r25), (0, .ref (k 0)), (1, .int v1)]) C dX4_asks_28 rfl (by decide) rfl ?_
      refine gV_aload_n C dX4_asks_29 rfl 1 rfl ?_
      refine gV_iload_n C dX4_asks_30 rfl 2 rfl ?_
      refine gV_iconst (v := 0) C dX4_asks_31 rfl ?_
      refine gV_iload_n C dX4_asks_32 rfl 0 rfl ?_
      obtain ⟨mh_33, mz_33, hq33, hp⟩ := g_ob2 hp
      refine gV_callvS C (gV_runV (As := [.int v1, .int 0, .int r25]) (rest := []) C (mt_X4_laysParts hl D k cI cJ s0 mP mC mR mal mhd mn mg mt mh_25 mz mset_25 mfr mma mde mls v1 0 r25 mh_33 mz_33 hq33) (cwV 3 C.2.2.2.2.1 gX4_asks_X4_laysParts rfl rfl rfl hdv_X4_laysParts ⟨Nat.le_of_ble_eq_true rfl, Nat.le_of_ble_eq_true rfl⟩) (gSub_S _) 0 rfl rfl rfl rfl (Nat.le_of_ble_eq_true rfl) dX4_asks_33 ⟨Nat.le_of_ble_eq_true rfl, Nat.le_of_ble_eq_true rfl⟩) (fun _ _ hx => False.elim hx) (fun w1 hw => ?_)
      obtain rfl := hw
      refine gV_loc [1] rfl ?_
      exact J36 s0 mh_33 mz_33 mset_25 hp
  refine gV_aload_n C dX4_asks_0 rfl 0 rfl ?_
  refine gV_aload_n C dX4_asks_1 rfl 0 rfl ?_
  refine gV_iload_n C dX4_asks_2 rfl 1 rfl ?_
  obtain ⟨r3q, hq3, hp⟩ := g_ob1 hp
  refine gV_calliS C (gV_runV (As := [.int v1]) (rest := [.ref (k 0)]) C (mt_X4_isRow hl D k cI cJ th mP mC mR mal mhd mn mg mt mh mz mset mfr mma mde mls v1 r3q hq3) (cwV 1 C.2.2.2.2.1 gX4_asks_X4_isRow rfl rfl rfl hdv_X4_isRow ⟨Nat.le_of_ble_eq_true rfl, Nat.le_of_ble_eq_true rfl⟩) (gSub_S _) 0 rfl rfl rfl rfl (Nat.le_of_ble_eq_true rfl) dX4_asks_3 ⟨Nat.le_of_ble_eq_true rfl, Nat.le_of_ble_eq_true rfl⟩) (fun _ _ hx => False.elim hx) (fun r3 w1 hw => ?_)
  obtain ⟨rfl, rfl⟩ := hw
  refine gV_if_eq (tgt := 13) C dX4_asks_6 (by decide) (fun c6 => ?_) (fun c6 => ?_)
  · replace hp := g_ift hp c6
    refine gV_iconst (v := 1) C dX4_asks_13 rfl ?_
    exact J14 1 th mh mz mset hp
  · replace hp := g_iff hp c6
    refine gV_iconst (v := 0) C dX4_asks_9 rfl ?_
    refine gV_goto (tgt := 14) C dX4_asks_10 (by decide) ?_
    exact J14 0 th mh mz mset hp
def pf_X4_parts_j16  (s0 : Int32) (th : Int32) (mh : Nat → Int32) (mz : Nat → Int32) (mset : Nat → Int32) : Option (Int32 × Int32 × (Nat → Int32) × (Nat → Int32) × (Nat → Int32)) := (some (s0, th, mh, mz, mset))
def pf_X4_parts  (th : Int32) (mP : Int32) (mC : Int32) (mR : Int32) (mal : Int32) (mn : Int32) (mg : Nat → Int32) (mt : Nat → Int32) (mh : Nat → Int32) (mz : Nat → Int32) (mset : Nat → Int32) (v1 : Int32) : Option (Int32 × Int32 × (Nat → Int32) × (Nat → Int32) × (Nat → Int32)) := (ob5 (pf_X4_asks th mP mC mR mal mn mg mt mh mz mset v1) fun r2 th_2 mh_2 mz_2 mset_2 => (if r2 = 0 then (pf_X4_parts_j16 0 th_2 mh_2 mz_2 mset_2) else (ob1 (pf_X4_manyParts mz_2) fun r9 => (pf_X4_parts_j16 r9 th_2 mh_2 mz_2 mset_2))))
abbrev rm_X4_parts : Room := { frames := 5, cells := 0, slots := 0, locals := 115 }
theorem hdv_X4_asks : yX4_asks.cls = RX4 ∧ yX4_asks.cls ≠ "java/lang/invoke/MethodHandle" ∧ yX4_asks.cls ≠ "java/lang/invoke/VarHandle" ∧ (parseMethodDescriptor yX4_asks.desc).map (fun d => d.parameters.length) = some 1 := by decide +kernel
theorem hdv_X4_manyParts : yX4_manyParts.cls = RX4 ∧ yX4_manyParts.cls ≠ "java/lang/invoke/MethodHandle" ∧ yX4_manyParts.cls ≠ "java/lang/invoke/VarHandle" ∧ (parseMethodDescriptor yX4_manyParts.desc).map (fun d => d.parameters.length) = some 0 := by decide +kernel
set_option maxHeartbeats 4000000 in
set_option maxRecDepth 100000 in
theorem mt_X4_parts {l : Launch} (hl : l.stackTraces = false) (D : va_G) (k : Nat → Nat) (cI cJ : ClassId) (th : Int32) (mP : Int32) (mC : Int32) (mR : Int32) (mal : Int32) (mhd : Int32) (mn : Int32) (mg : Nat → Int32) (mt : Nat → Int32) (mh : Nat → Int32) (mz : Nat → Int32) (mset : Nat → Int32) (mfr : Nat → Int32) (mma : Nat → Int32) (mde : Nat → Int32) (mls : Nat → Int32) (v1 : Int32) (r0 : Int32) (th0 : Int32) (mh0 : Nat → Int32) (mz0 : Nat → Int32) (mset0 : Nat → Int32) (hp : pf_X4_parts th mP mC mR mal mn mg mt mh mz mset v1 = (some (r0, th0, mh0, mz0, mset0))) : gMi l yX4_parts wsX4_parts rm_X4_parts D [(cI, .int), (cJ, .long)] (mW k cI th mP mC mR mal mhd mn mg mt mh mz mset mfr mma mde mls) [.ref (k 0), .int v1] 0 0 (fun r w => r = r0 ∧ w = mW k cI th0 mP mC mR mal mhd mn mg mt mh0 mz0 mset0 mfr mma mde mls) (fun _ _ => False) := by
  refine gMi_of (cc := cX4_parts) (maxL := 2) (rt := .int) hl (by decide +kernel) rfl (Nat.le_of_ble_eq_true rfl) ?_
  intro p e s m args below meth c A Q C hnm ht RET OUT THR THRW
  have C : gC p l s m args meth c A D [(cI, .int), (cJ, .long)] 2 RX4 cX4_parts wsX4_parts := C
  refine gV_loc (lvs' := [(0, .ref (k 0)), (1, .int v1)]) [0, 1] rfl ?_
  unfold pf_X4_parts at hp
  have J16 : ∀ (s0 : Int32) (th : Int32) (mh : Nat → Int32) (mz : Nat → Int32) (mset : Nat → Int32), pf_X4_parts_j16 s0 th mh mz mset = (some (r0, th0, mh0, mz0, mset0)) → gV p l e rm_X4_parts s m args below meth c A D 2 Q (mW k cI th mP mC mR mal mhd mn mg mt mh mz mset mfr mma mde mls) [(0, .ref (k 0))] 0 0 16 [.int s0] := by
    intro s0 th mh mz mset hp
    unfold pf_X4_parts_j16 at hp
    obtain ⟨rfl, rfl, rfl, rfl, rfl⟩ := g_so5 hp
    exact RET _ _ _ _ _ _ dX4_parts_16 (Nat.le_of_ble_eq_true rfl) (Nat.le_of_ble_eq_true rfl) rfl ⟨rfl, rfl⟩
  refine gV_aload_n C dX4_parts_0 rfl 0 rfl ?_
  refine gV_iload_n C dX4_parts_1 rfl 1 rfl ?_
  obtain ⟨r2q, th_2, mh_2, mz_2, mset_2, hq2, hp⟩ := g_ob5 hp
  refine gV_calliS C (gV_runV (As := [.int v1]) (rest := []) C (mt_X4_asks hl D k cI cJ th mP mC mR mal mhd mn mg mt mh mz mset mfr mma mde mls v1 r2q th_2 mh_2 mz_2 mset_2 hq2) (cwV 1 C.2.2.2.2.1 gX4_parts_X4_asks rfl rfl rfl hdv_X4_asks ⟨Nat.le_of_ble_eq_true rfl, Nat.le_of_ble_eq_true rfl⟩) (gSub_S _) 0 rfl rfl rfl rfl (Nat.le_of_ble_eq_true rfl) dX4_parts_2 ⟨Nat.le_of_ble_eq_true rfl, Nat.le_of_ble_eq_true rfl⟩) (fun _ _ hx => False.elim hx) (fun r2 w1 hw => ?_)
  obtain ⟨rfl, rfl⟩ := hw
  refine gV_if_eq (tgt := 15) C dX4_parts_5 (by decide) (fun c5 => ?_) (fun c5 => ?_)
  · replace hp := g_ift hp c5
    refine gV_iconst (v := 0) C dX4_parts_15 rfl ?_
    refine gV_loc [0] rfl ?_
    exact J16 0 th_2 mh_2 mz_2 mset_2 hp
  · replace hp := g_iff hp c5
    refine gV_aload_n C dX4_parts_8 rfl 0 rfl ?_
    obtain ⟨r9q, hq9, hp⟩ := g_ob1 hp
    refine gV_calliS C (gV_runV (As := []) (rest := []) C (mt_X4_manyParts hl D k cI cJ th_2 mP mC mR mal mhd mn mg mt mh_2 mz_2 mset_2 mfr mma mde mls r9q hq9) (cwV 0 C.2.2.2.2.1 gX4_parts_X4_manyParts rfl rfl rfl hdv_X4_manyParts ⟨Nat.le_of_ble_eq_true rfl, Nat.le_of_ble_eq_true rfl⟩) (gSub_S _) 0 rfl rfl rfl rfl (Nat.le_of_ble_eq_true rfl) dX4_parts_9 ⟨Nat.le_of_ble_eq_true rfl, Nat.le_of_ble_eq_true rfl⟩) (fun _ _ hx => False.elim hx) (fun r9 w1 hw => ?_)
    obtain ⟨rfl, rfl⟩ := hw
    refine gV_goto (tgt := 16) C dX4_parts_12 (by decide) ?_
    refine gV_loc [0] rfl ?_
    exact J16 r9 th_2 mh_2 mz_2 mset_2 hp
def pf_X4_partMark_j138  (s0 : Int32) (th : Int32) (mh : Nat → Int32) (mz : Nat → Int32) (mset : Nat → Int32) : Option (Int32 × Int32 × (Nat → Int32) × (Nat → Int32) × (Nat → Int32)) := (some (s0, th, mh, mz, mset))
def pf_X4_partMark_j122  (v5 : Int32) (s0 : Int32) (th : Int32) (mh : Nat → Int32) (mz : Nat → Int32) (mset : Nat → Int32) : Option (Int32 × Int32 × (Nat → Int32) × (Nat → Int32) × (Nat → Int32)) := (if s0 ≤ 0 then (pf_X4_partMark_j138 v5 s0 mh mz mset) else (pf_X4_partMark_j138 0 s0 mh mz mset))
def pf_X4_partMark_j101  (kL24 : Int32 → Int32 → Int32 → (Nat → Int32) → (Nat → Int32) → Option (Int32 × Int32 × (Nat → Int32) × (Nat → Int32) × (Nat → Int32))) (v5 : Int32) (v6 : Int32) (s0 : Int32) (s1 : Int32) (mh : Nat → Int32) (mz : Nat → Int32) : Option (Int32 × Int32 × (Nat → Int32) × (Nat → Int32) × (Nat → Int32)) := (kL24 (s1 + s0) v5 (v6 + 1) mh mz)
def pf_X4_partMark_j87  (kL24 : Int32 → Int32 → Int32 → (Nat → Int32) → (Nat → Int32) → Option (Int32 × Int32 × (Nat → Int32) × (Nat → Int32) × (Nat → Int32))) (v4 : Int32) (v6 : Int32) (v8 : Int32) (s0 : Int32) (mh : Nat → Int32) (mz : Nat → Int32) : Option (Int32 × Int32 × (Nat → Int32) × (Nat → Int32) × (Nat → Int32)) := (if v8 = 0 then (pf_X4_partMark_j101 kL24 s0 v6 0 v4 mh mz) else (pf_X4_partMark_j101 kL24 s0 v6 1 v4 mh mz))
def pf_X4_partMark_j85  (kL24 : Int32 → Int32 → Int32 → (Nat → Int32) → (Nat → Int32) → Option (Int32 × Int32 × (Nat → Int32) × (Nat → Int32) × (Nat → Int32))) (v4 : Int32) (v5 : Int32) (v6 : Int32) (v8 : Int32) (mh : Nat → Int32) (mz : Nat → Int32) : Option (Int32 × Int32 × (Nat → Int32) × (Nat → Int32) × (Nat → Int32)) := (pf_X4_partMark_j87 kL24 v4 v6 v8 v5 mh mz)
def pf_X4_partMark_j59 (v2 : Int32) (kL24 : Int32 → Int32 → Int32 → (Nat → Int32) → (Nat → Int32) → Option (Int32 × Int32 × (Nat → Int32) × (Nat → Int32) × (Nat → Int32))) (v4 : Int32) (v5 : Int32) (v6 : Int32) (v7 : Int32) (s0 : Int32) (mh : Nat → Int32) (mz : Nat → Int32) : Option (Int32 × Int32 × (Nat → Int32) × (Nat → Int32) × (Nat → Int32)) := (gi v7 100 (if s0 = 0 then (pf_X4_partMark_j85 kL24 v4 v5 v6 s0 mh (upd mz v7.toNatClampNeg 0)) else (if v4 = v2 then (pf_X4_partMark_j87 kL24 v4 v6 s0 v7 mh (upd mz v7.toNatClampNeg 0)) else (pf_X4_partMark_j85 kL24 v4 v5 v6 s0 mh (upd mz v7.toNatClampNeg 0)))))
def pf_X4_partMark_L24 (v1 : Int32) (v2 : Int32) (mP : Int32) (mC : Int32) (v3 : Int32) (th : Int32) (mset : Nat → Int32) : Nat → Int32 → Int32 → Int32 → (Nat → Int32) → (Nat → Int32) → Option (Int32 × Int32 × (Nat → Int32) × (Nat → Int32) × (Nat → Int32))
  | 0, _, _, _, _, _ => none
  | n24 + 1, v4, v5, v6, mh, mz => (if v3 ≤ v6 then (if v5 = (-1) then (pf_X4_partMark_j122 v5 1 th mh mz mset) else (pf_X4_partMark_j122 v5 0 th mh mz mset)) else (gi v6 2048 (ob2 (pf_X4_markOfRows mP mC mh v1 (mset v6.toNatClampNeg)) fun r39 mh_39 => (gi r39 100 (if (mz r39.toNatClampNeg) ≤ 0 then (pf_X4_partMark_j59 v2 (fun v4 v5 v6 mh mz => pf_X4_partMark_L24 v1 v2 mP mC v3 th mset n24 v4 v5 v6 mh mz) v4 v5 v6 r39 0 mh_39 mz) else (pf_X4_partMark_j59 v2 (fun v4 v5 v6 mh mz => pf_X4_partMark_L24 v1 v2 mP mC v3 th mset n24 v4 v5 v6 mh mz) v4 v5 v6 r39 1 mh_39 mz))))))
def pf_X4_partMark  (th : Int32) (mP : Int32) (mC : Int32) (mR : Int32) (mal : Int32) (mn : Int32) (mg : Nat → Int32) (mt : Nat → Int32) (mh : Nat → Int32) (mz : Nat → Int32) (mset : Nat → Int32) (v1 : Int32) (v2 : Int32) : Option (Int32 × Int32 × (Nat → Int32) × (Nat → Int32) × (Nat → Int32)) := (ob5 (pf_X4_asks th mP mC mR mal mn mg mt mh mz mset v1) fun r2 th_2 mh_2 mz_2 mset_2 => (if r2 = 0 then (some (0, th_2, mh_2, mz_2, mset_2)) else (ob3 (pf_X4_laysLeft mP mC mR mal mn mg mt mh_2 mset_2) fun r11 mh_11 mset_11 => (pf_X4_partMark_L24 v1 v2 mP mC r11 th_2 mset_11 100000 0 (-1) 0 mh_11 mz_2))))
abbrev rm_X4_partMark : Room := { frames := 5, cells := 0, slots := 0, locals := 115 }
theorem inw_X4_partMark_X4 : ∀ w ∈ wsX40, w ∈ wsX4_partMark := by decide +kernel
set_option maxHeartbeats 4000000 in
set_option maxRecDepth 100000 in
theorem mt_X4_partMark {l : Launch} (hl : l.stackTraces = false) (D : va_G) (k : Nat → Nat) (cI cJ : ClassId) (th : Int32) (mP : Int32) (mC : Int32) (mR : Int32) (mal : Int32) (mhd : Int32) (mn : Int32) (mg : Nat → Int32) (mt : Nat → Int32) (mh : Nat → Int32) (mz : Nat → Int32) (mset : Nat → Int32) (mfr : Nat → Int32) (mma : Nat → Int32) (mde : Nat → Int32) (mls : Nat → Int32) (v1 : Int32) (v2 : Int32) (r0 : Int32) (th0 : Int32) (mh0 : Nat → Int32) (mz0 : Nat → Int32) (mset0 : Nat → Int32) (hp : pf_X4_partMark th mP mC mR mal mn mg mt mh mz mset v1 v2 = (some (r0, th0, mh0, mz0, mset0))) : gMi l yX4_partMark wsX4_partMark rm_X4_partMark D [(cI, .int), (cJ, .long)] (mW k cI th mP mC mR mal mhd mn mg mt mh mz mset mfr mma mde mls) [.ref (k 0), .int v1, .int v2] 0 0 (fun r w => r = r0 ∧ w = mW k cI th0 mP mC mR mal mhd mn mg mt mh0 mz0 mset0 mfr mma mde mls) (fun _ _ => False) := by
  refine gMi_of (cc := cX4_partMark) (maxL := 9) (rt := .int) hl (by decide +kernel) rfl (Nat.le_of_ble_eq_true rfl) ?_
  intro p e s m args below meth c A Q C hnm ht RET OUT THR THRW
  have C : gC p l s m args meth c A D [(cI, .int), (cJ, .long)] 9 RX4 cX4_partMark wsX4_partMark := C
  refine gV_loc (lvs' := [(0, .ref (k 0)), (1, .int v1), (2, .int v2)]) [0, 1, 2] rfl ?_
  unfold pf_X4_partMark at hp
  have J138 : ∀ (s0 : Int32) (th : Int32) (mh : Nat → Int32) (mz : Nat → Int32) (mset : Nat → Int32), pf_X4_partMark_j138 s0 th mh mz mset = (some (r0, th0, mh0, mz0, mset0)) → gV p l e rm_X4_partMark s m args below meth c A D 9 Q (mW k cI th mP mC mR mal mhd mn mg mt mh mz mset mfr mma mde mls) [(0, .ref (k 0))] 0 0 138 [.int s0] := by
    intro s0 th mh mz mset hp
    unfold pf_X4_partMark_j138 at hp
    obtain ⟨rfl, rfl, rfl, rfl, rfl⟩ := g_so5 hp
    exact RET _ _ _ _ _ _ dX4_partMark_138 (Nat.le_of_ble_eq_true rfl) (Nat.le_of_ble_eq_true rfl) rfl ⟨rfl, rfl⟩
  have J122 : ∀ (v5 : Int32) (s0 : Int32) (th : Int32) (mh : Nat → Int32) (mz : Nat → Int32) (mset : Nat → Int32), pf_X4_partMark_j122 v5 s0 th mh mz mset = (some (r0, th0, mh0, mz0, mset0)) → gV p l e rm_X4_partMark s m args below meth c A D 9 Q (mW k cI th mP mC mR mal mhd mn mg mt mh mz mset mfr mma mde mls) [(0, .ref (k 0)), (5, .int v5)] 0 0 122 [.int s0, .ref (k 0)] := by
    intro v5 s0 th mh mz mset hp
    unfold pf_X4_partMark_j122 at hp
    refine gV_put (Cn := RX4) (T := TX4) (N := 16) (ws' := mW k cI s0 mP mC mR mal mhd mn mg mt mh mz mset mfr mma mde mls) C inw_X4_partMark_X4 tyX4_ok nmX4 0 rfl rfl 0 (by decide) (C.w 3 rfl) rfl rfl rfl rfl rfl (Nat.le_of_ble_eq_true rfl) dX4_partMark_122 rfl ?_
    refine gV_aload_n C dX4_partMark_125 rfl 0 rfl ?_
    refine gV_get (Cn := RX4) (T := TX4) (N := 16) C inw_X4_partMark_X4 0 rfl rfl 0 (by decide) (C.w 3 rfl) rfl rfl dX4_partMark_126 ?_
    refine gV_if_le (tgt := 136) C dX4_partMark_129 (by decide) (fun c129 => ?_) (fun c129 => ?_)
    · replace hp := g_ift hp c129
      refine gV_iload C dX4_partMark_136 1 rfl ?_
      refine gV_loc [0] rfl ?_
      exact J138 v5 s0 mh mz mset hp
    · replace hp := g_iff hp c129
      refine gV_iconst (v := 0) C dX4_partMark_132 rfl ?_
      refine gV_goto (tgt := 138) C dX4_partMark_133 (by decide) ?_
      refine gV_loc [0] rfl ?_
      exact J138 0 s0 mh mz mset hp
  have L24 : ∀ (v3 : Int32) (th : Int32) (mset : Nat → Int32) (n24 : Nat) (v4 : Int32) (v5 : Int32) (v6 : Int32) (mh : Nat → Int32) (mz : Nat → Int32), pf_X4_partMark_L24 v1 v2 mP mC v3 th mset n24 v4 v5 v6 mh mz = (some (r0, th0, mh0, mz0, mset0)) → gV p l e rm_X4_partMark s m args below meth c A D 9 Q (mW k cI th mP mC mR mal mhd mn mg mt mh mz mset mfr mma mde mls) [(0, .ref (k 0)), (1, .int v1), (2, .int v2), (3, .int v3), (4, .int v4), (5, .int v5), (6, .int v6)] 0 0 24 [] := by
    intro v3 th mset n24
    induction n24 with
    | zero => intro v4 v5 v6 mh mz hp; exact g_none hp
    | succ n24 ih24 =>
      intro v4 v5 v6 mh mz hp
      rw [pf_X4_partMark_L24.eq_2] at hp
      have J101 : ∀ (v5 : Int32) (v6 : Int32) (s0 : Int32) (s1 : Int32) (mh : Nat → Int32) (mz : Nat → Int32), pf_X4_partMark_j101 (fun v4 v5 v6 mh mz => pf_X4_partMark_L24 v1 v2 mP mC v3 th mset n24 v4 v5 v6 mh mz) v5 v6 s0 s1 mh mz = (some (r0, th0, mh0, mz0, mset0)) → gV p l e rm_X4_partMark s m args below meth c A D 9 Q (mW k cI th mP mC mR mal mhd mn mg mt mh mz mset mfr mma mde mls) [(0, .ref (k 0)), (1, .int v1), (2, .int v2), (3, .int v3), (5, .int v5), (6, .int v6)] 0 0 101 [.int s0, .int s1] := by
        intro v5 v6 s0 s1 mh mz hp
        unfold pf_X4_partMark_j101 at hp
        refine gV_iadd C dX4_partMark_101 ?_
        refine gV_istore (lvs' := [(4, .int (s1 + s0)), (0, .ref (k 0)), (1, .int v1), (2, .int v2), (3, .int v3), (5, .int v5), (6, .int v6)]) C dX4_partMark_102 (by decide) rfl ?_
        refine gV_iinc (v := (v6 + 1)) (lvs' := [(6, .int (v6 + 1)), (4, .int (s1 + s0)), (0, .ref (k 0)), (1, .int v1), (2, .int v2), (3, .int v3), (5, .int v5)]) C dX4_partMark_104 6 rfl rfl (by decide) rfl ?_
        refine gV_goto (tgt := 24) C dX4_partMark_107 (by decide) ?_
        refine gV_loc [2, 3, 4, 5, 1, 6, 0] rfl ?_
        exact ih24 (s1 + s0) v5 (v6 + 1) mh mz hp
      have J87 : ∀ (v4 : Int32) (v6 : Int32) (v8 : Int32) (s0 : Int32) (mh : Nat → Int32) (mz : Nat → Int32), pf_X4_partMark_j87 (fun v4 v5 v6 mh mz => pf_X4_partMark_L24 v1 v2 mP mC v3 th mset n24 v4 v5 v6 mh mz) v4 v6 v8 s0 mh mz = (some (r0, th0, mh0, mz0, mset0)) → gV p l e rm_X4_partMark s m args below meth c A D 9 Q (mW k cI th mP mC mR mal mhd mn mg mt mh mz mset mfr mma mde mls) [(0, .ref (k 0)), (1, .int v1), (2, .int v2), (3, .int v3), (4, .int v4), (6, .int v6), (8, .int v8)] 0 0 87 [.int s0] := by
        intro v4 v6 v8 s0 mh mz hp
        unfold pf_X4_partMark_j87 at hp
        refine gV_istore (lvs' := [(5, .int s0), (0, .ref (k 0)), (1, .int v1), (2, .int v2), (3, .int v3), (4, .int v4), (6, .int v6), (8, .int v8)]) C dX4_partMark_87 (by decide) rfl ?_
        refine gV_iload C dX4_partMark_89 5 rfl ?_
        refine gV_iload C dX4_partMark_91 7 rfl ?_
        refine gV_if_eq (tgt := 100) C dX4_partMark_93 (by decide) (fun c93 => ?_) (fun c93 => ?_)
        · replace hp := g_ift hp c93
          refine gV_iconst (v := 0) C dX4_partMark_100 rfl ?_
          refine gV_loc [1, 2, 3, 4, 0, 6] rfl ?_
          exact J101 s0 v6 0 v4 mh mz hp
        · replace hp := g_iff hp c93
          refine gV_iconst (v := 1) C dX4_partMark_96 rfl ?_
          refine gV_goto (tgt := 101) C dX4_partMark_97 (by decide) ?_
          refine gV_loc [1, 2, 3, 4, 0, 6] rfl ?_
          exact J101 s0 v6 1 v4 mh mz hp
      have J85 : ∀ (v4 : Int32) (v5 : Int32) (v6 : Int32) (v8 : Int32) (mh : Nat → Int32) (mz : Nat → Int32), pf_X4_partMark_j85 (fun v4 v5 v6 mh mz => pf_X4_partMark_L24 v1 v2 mP mC v3 th mset n24 v4 v5 v6 mh mz) v4 v5 v6 v8 mh mz = (some (r0, th0, mh0, mz0, mset0)) → gV p l e rm_X4_partMark s m args below meth c A D 9 Q (mW k cI th mP mC mR mal mhd mn mg mt mh mz mset mfr mma mde mls) [(0, .ref (k 0)), (1, .int v1), (2, .int v2), (3, .int v3), (4, .int v4), (5, .int v5), (6, .int v6), (8, .int v8)] 0 0 85 [] := by
        intro v4 v5 v6 v8 mh mz hp
        unfold pf_X4_partMark_j85 at hp
        refine gV_iload C dX4_partMark_85 5 rfl ?_
        refine gV_loc [0, 1, 2, 3, 4, 6, 7] rfl ?_
        exact J87 v4 v6 v8 v5 mh mz hp
      have J59 : ∀ (v4 : Int32) (v5 : Int32) (v6 : Int32) (v7 : Int32) (s0 : Int32) (mh : Nat → Int32) (mz : Nat → Int32), pf_X4_partMark_j59 v2 (fun v4 v5 v6 mh mz => pf_X4_partMark_L24 v1 v2 mP mC v3 th mset n24 v4 v5 v6 mh mz) v4 v5 v6 v7 s0 mh mz = (some (r0, th0, mh0, mz0, mset0)) → gV p l e rm_X4_partMark s m args below meth c A D 9 Q (mW k cI th mP mC mR mal mhd mn mg mt mh mz mset mfr mma mde mls) [(0, .ref (k 0)), (1, .int v1), (2, .int v2), (3, .int v3), (4, .int v4), (5, .int v5), (6, .int v6), (7, .int v7)] 0 0 59 [.int s0] := by
        intro v4 v5 v6 v7 s0 mh mz hp
        unfold pf_X4_partMark_j59 at hp
        refine gV_istore (lvs' := [(8, .int s0), (0, .ref (k 0)), (1, .int v1), (2, .int v2), (3, .int v3), (4, .int v4), (5, .int v5), (6, .int v6), (7, .int v7)]) C dX4_partMark_59 (by decide) rfl ?_
        refine gV_aload_n C dX4_partMark_61 rfl 1 rfl ?_
        refine gV_get (Cn := RX4) (T := TX4) (N := 16) C inw_X4_partMark_X4 0 rfl rfl 10 (by decide) (C.w 2 rfl) rfl rfl dX4_partMark_62 ?_
        refine gV_iload C dX4_partMark_65 8 rfl ?_
        refine gV_iconst (v := 0) C dX4_partMark_67 rfl ?_
        obtain ⟨hi68, hp⟩ := g_idx hp
        refine gV_iast (ws' := mW k cI th mP mC mR mal mhd mn mg mt mh (upd mz v7.toNatClampNeg 0) mset mfr mma mde mls) C 4 rfl 0 rfl hi68 dX4_partMark_68 rfl ?_
        refine gV_iload C dX4_partMark_69 0 rfl ?_
        refine gV_if_eq (tgt := 85) C dX4_partMark_71 (by decide) (fun c71 => ?_) (fun c71 => ?_)
        · replace hp := g_ift hp c71
          refine gV_loc [1, 2, 3, 4, 5, 6, 7, 0] rfl ?_
          exact J85 v4 v5 v6 s0 mh (upd mz v7.toNatClampNeg 0) hp
        · replace hp := g_iff hp c71
          refine gV_iload C dX4_partMark_74 5 rfl ?_
          refine gV_iload_n C dX4_partMark_76 rfl 3 rfl ?_
          refine gV_icmp_ne (tgt := 85) C dX4_partMark_77 (by decide) (fun c77 => ?_) (fun c77 => ?_)
          · replace hp := g_iff hp c77
            refine gV_loc [1, 2, 3, 4, 5, 6, 7, 0] rfl ?_
            exact J85 v4 v5 v6 s0 mh (upd mz v7.toNatClampNeg 0) hp
          · replace hp := g_ift hp c77
            refine gV_iload C dX4_partMark_80 8 rfl ?_
            refine gV_goto (tgt := 87) C dX4_partMark_82 (by decide) ?_
            refine gV_loc [1, 2, 3, 4, 5, 7, 0] rfl ?_
            exact J87 v4 v6 s0 v7 mh (upd mz v7.toNatClampNeg 0) hp
      refine gV_iload C dX4_partMark_24 6 rfl ?_
      refine gV_iload_n C dX4_partMark_26 rfl 3 rfl ?_
      refine gV_icmp_ge (tgt := 110) C dX4_partMark_27 (by decide) (fun c27 => ?_) (fun c27 => ?_)
      · replace hp := g_ift hp c27
        refine gV_aload_n C dX4_partMark_110 rfl 0 rfl ?_
        refine gV_iload C dX4_partMark_111 5 rfl ?_
        refine gV_iconst (v := (-1)) C dX4_partMark_113 rfl ?_
        refine gV_icmp_ne (tgt := 121) C dX4_partMark_114 (by decide) (fun c114 => ?_) (fun c114 => ?_)
        · replace hp := g_iff hp c114
          refine gV_iconst (v := 0) C dX4_partMark_121 rfl ?_
          refine gV_loc [0, 5] rfl ?_
          exact J122 v5 0 th mh mz mset hp
        · replace hp := g_ift hp c114
          refine gV_iconst (v := 1) C dX4_partMark_117 rfl ?_
          refine gV_goto (tgt := 122) C dX4_partMark_118 (by decide) ?_
          refine gV_loc [0, 5] rfl ?_
          exact J122 v5 1 th mh mz mset hp
      · replace hp := g_iff hp c27
        refine gV_aload_n C dX4_partMark_30 rfl 0 rfl ?_
        refine gV_iload_n C dX4_partMark_31 rfl 1 rfl ?_
        refine gV_aload_n C dX4_partMark_32 rfl 0 rfl ?_
        refine gV_get (Cn := RX4) (T := TX4) (N := 16) C inw_X4_partMark_X4 0 rfl rfl 11 (by decide) (C.w 1 rfl) rfl rfl dX4_partMark_33 ?_
        refine gV_iload C dX4_partMark_36 6 rfl ?_
        obtain ⟨hi38, hp⟩ := g_idx hp
        refine gV_iald C 5 rfl 0 rfl hi38 dX4_partMark_38 ?_
        obtain ⟨r39q, mh_39, hq39, hp⟩ := g_ob2 hp
        refine gV_calliS C (gV_runV (As := [.int v1, .int (mset v6.toNatClampNeg)]) (rest := []) C (mt_X4_markOfRows hl D k cI cJ th mP mC mR mal mhd mn mg mt mh mz mset mfr mma mde mls v1 (mset v6.toNatClampNeg) r39q mh_39 hq39) (cwV 2 C.2.2.2.2.1 gX4_partMark_X4_markOfRows rfl rfl rfl hdv_X4_markOfRows ⟨Nat.le_of_ble_eq_true rfl, Nat.le_of_ble_eq_true rfl⟩) (gSub_S _) 0 rfl rfl rfl rfl (Nat.le_of_ble_eq_true rfl) dX4_partMark_39 ⟨Nat.le_of_ble_eq_true rfl, Nat.le_of_ble_eq_true rfl⟩) (fun _ _ hx => False.elim hx) (fun r39 w1 hw => ?_)
        obtain ⟨rfl, rfl⟩ := hw
        refine gV_istore (lvs' := [(7, .int r39), (0, .ref (k 0)), (1, .int v1), (2, .int v2), (3, .int v3), (4, .int v4), (5, .int v5), (6, .int v6)]) C dX4_partMark_42 (by decide) rfl ?_
        refine gV_aload_n C dX4_partMark_44 rfl 1 rfl ?_
        refine gV_get (Cn := RX4) (T := TX4) (N := 16) C inw_X4_partMark_X4 0 rfl rfl 10 (by decide) (C.w 2 rfl) rfl rfl dX4_partMark_45 ?_
        refine gV_iload C dX4_partMark_48 0 rfl ?_
        obtain ⟨hi50, hp⟩ := g_idx hp
        refine gV_iald C 4 rfl 0 rfl hi50 dX4_partMark_50 ?_
        refine gV_if_le (tgt := 58) C dX4_partMark_51 (by decide) (fun c51 => ?_) (fun c51 => ?_)
        · replace hp := g_ift hp c51
          refine gV_iconst (v := 0) C dX4_partMark_58 rfl ?_
          refine gV_loc [1, 2, 3, 4, 5, 6, 7, 0] rfl ?_
          exact J59 v4 v5 v6 r39 0 mh_39 mz hp
        · replace hp := g_iff hp c51
          refine gV_iconst (v := 1) C dX4_partMark_54 rfl ?_
          refine gV_goto (tgt := 59) C dX4_partMark_55 (by decide) ?_
          refine gV_loc [1, 2, 3, 4, 5, 6, 7, 0] rfl ?_
          exact J59 v4 v5 v6 r39 1 mh_39 mz hp
  refine gV_aload_n C dX4_partMark_0 rfl 0 rfl ?_
  refine gV_iload_n C dX4_partMark_1 rfl 1 rfl ?_
  obtain ⟨r2q, th_2, mh_2, mz_2, mset_2, hq2, hp⟩ := g_ob5 hp
  refine gV_calliS C (gV_runV (As := [.int v1]) (rest := []) C (mt_X4_asks hl D k cI cJ th mP mC mR mal mhd mn mg mt mh mz mset mfr mma mde mls v1 r2q th_2 mh_2 mz_2 mset_2 hq2) (cwV 1 C.2.2.2.2.1 gX4_partMark_X4_asks rfl rfl rfl hdv_X4_asks ⟨Nat.le_of_ble_eq_true rfl, Nat.le_of_ble_eq_true rfl⟩) (gSub_S _) 0 rfl rfl rfl rfl (Nat.le_of_ble_eq_true rfl) dX4_partMark_2 ⟨Nat.le_of_ble_eq_true rfl, Nat.le_of_ble_eq_true rfl⟩) (fun _ _ hx => False.elim hx) (fun r2 w1 hw => ?_)
  obtain ⟨rfl, rfl⟩ := hw
  refine gV_if_ne (tgt := 10) C dX4_partMark_5 (by decide) (fun c5 => ?_) (fun c5 => ?_)
  · replace hp := g_iff hp c5
    refine gV_aload_n C dX4_partMark_10 rfl 0 rfl ?_
    obtain ⟨r11q, mh_11, mset_11, hq11, hp⟩ := g_ob3 hp
    refine gV_calliS C (gV_runV (As := []) (rest := []) C (mt_X4_laysLeft hl D k cI cJ th_2 mP mC mR mal mhd mn mg mt mh_2 mz_2 mset_2 mfr mma mde mls r11q mh_11 mset_11 hq11) (cwV 0 C.2.2.2.2.1 gX4_partMark_X4_laysLeft rfl rfl rfl hdv_X4_laysLeft ⟨Nat.le_of_ble_eq_true rfl, Nat.le_of_ble_eq_true rfl⟩) (gSub_S _) 0 rfl rfl rfl rfl (Nat.le_of_ble_eq_true rfl) dX4_partMark_11 ⟨Nat.le_of_ble_eq_true rfl, Nat.le_of_ble_eq_true rfl⟩) (fun _ _ hx => False.elim hx) (fun r11 w1 hw => ?_)
    obtain ⟨rfl, rfl⟩ := hw
    refine gV_istore_n (lvs' := [(3, .int r11), (0, .ref (k 0)), (1, .int v1), (2, .int v2)]) C dX4_partMark_14 rfl (by decide) rfl ?_
    refine gV_iconst (v := 0) C dX4_partMark_15 rfl ?_
    refine gV_istore (lvs' := [(4, .int 0), (3, .int r11), (0, .ref (k 0)), (1, .int v1), (2, .int v2)]) C dX4_partMark_16 (by decide) rfl ?_
    refine gV_iconst (v := (-1)) C dX4_partMark_18 rfl ?_
    refine gV_istore (lvs' := [(5, .int (-1)), (4, .int 0), (3, .int r11), (0, .ref (k 0)), (1, .int v1), (2, .int v2)]) C dX4_partMark_19 (by decide) rfl ?_
    refine gV_iconst (v := 0) C dX4_partMark_21 rfl ?_
    refine gV_istore (lvs' := [(6, .int 0), (5, .int (-1)), (4, .int 0), (3, .int r11), (0, .ref (k 0)), (1, .int v1), (2, .int v2)]) C dX4_partMark_22 (by decide) rfl ?_
    refine gV_loc [4, 5, 6, 3, 2, 1, 0] rfl ?_
    exact L24 r11 th_2 mset_11 100000 0 (-1) 0 mh_11 mz_2 hp
  · replace hp := g_ift hp c5
    refine gV_iconst (v := 0) C dX4_partMark_8 rfl ?_
    obtain ⟨rfl, rfl, rfl, rfl, rfl⟩ := g_so5 hp
    exact RET _ _ _ _ _ _ dX4_partMark_9 (Nat.le_of_ble_eq_true rfl) (Nat.le_of_ble_eq_true rfl) rfl ⟨rfl, rfl⟩
def pf_X4_partSize_j54  (s0 : Int32) (th : Int32) (mh : Nat → Int32) (mz : Nat → Int32) (mset : Nat → Int32) : Option (Int32 × Int32 × (Nat → Int32) × (Nat → Int32) × (Nat → Int32)) := (some (s0, th, mh, mz, mset))
def pf_X4_partSize_j53  (th : Int32) (mh : Nat → Int32) (mz : Nat → Int32) (mset : Nat → Int32) : Option (Int32 × Int32 × (Nat → Int32) × (Nat → Int32) × (Nat → Int32)) := (pf_X4_partSize_j54 0 th mh mz mset)
def pf_X4_partSize_j26 (v1 : Int32) (v2 : Int32) (mP : Int32) (mC : Int32) (mR : Int32) (mal : Int32) (mn : Int32) (mg : Nat → Int32) (mt : Nat → Int32) (s0 : Int32) (th : Int32) (mh : Nat → Int32) (mz : Nat → Int32) (mset : Nat → Int32) : Option (Int32 × Int32 × (Nat → Int32) × (Nat → Int32) × (Nat → Int32)) := (if s0 = 0 then (ob5 (pf_X4_asks s0 mP mC mR mal mn mg mt mh mz mset v1) fun r38 th_38 mh_38 mz_38 mset_38 => (if r38 = 0 then (pf_X4_partSize_j53 th_38 mh_38 mz_38 mset_38) else (gi v2 100 (pf_X4_partSize_j54 (mz_38 v2.toNatClampNeg) th_38 mh_38 mz_38 mset_38)))) else (pf_X4_partSize_j53 s0 mh mz mset))
def pf_X4_partSize  (th : Int32) (mP : Int32) (mC : Int32) (mR : Int32) (mal : Int32) (mn : Int32) (mg : Nat → Int32) (mt : Nat → Int32) (mh : Nat → Int32) (mz : Nat → Int32) (mset : Nat → Int32) (v1 : Int32) (v2 : Int32) : Option (Int32 × Int32 × (Nat → Int32) × (Nat → Int32) × (Nat → Int32)) := (ob1 (pf_X4_isRow mR v1) fun r3 => (if r3 = 0 then (pf_X4_partSize_j26 v1 v2 mP mC mR mal mn mg mt 1 th mh mz mset) else (ob1 (pf_X4_isPossible mP v2) fun r15 => (if r15 = 0 then (pf_X4_partSize_j26 v1 v2 mP mC mR mal mn mg mt 2 th mh mz mset) else (pf_X4_partSize_j26 v1 v2 mP mC mR mal mn mg mt 0 th mh mz mset)))))
abbrev rm_X4_partSize : Room := { frames := 5, cells := 0, slots := 0, locals := 115 }
theorem inw_X4_partSize_X4 : ∀ w ∈ wsX40, w ∈ wsX4_partSize := by decide +kernel
set_option maxHeartbeats 4000000 in
set_option maxRecDepth 100000 in
theorem mt_X4_partSize {l : Launch} (hl : l.stackTraces = false) (D : va_G) (k : Nat → Nat) (cI cJ : ClassId) (th : Int32) (mP : Int32) (mC : Int32) (mR : Int32) (mal : Int32) (mhd : Int32) (mn : Int32) (mg : Nat → Int32) (mt : Nat → Int32) (mh : Nat → Int32) (mz : Nat → Int32) (mset : Nat → Int32) (mfr : Nat → Int32) (mma : Nat → Int32) (mde : Nat → Int32) (mls : Nat → Int32) (v1 : Int32) (v2 : Int32) (r0 : Int32) (th0 : Int32) (mh0 : Nat → Int32) (mz0 : Nat → Int32) (mset0 : Nat → Int32) (hp : pf_X4_partSize th mP mC mR mal mn mg mt mh mz mset v1 v2 = (some (r0, th0, mh0, mz0, mset0))) : gMi l yX4_partSize wsX4_partSize rm_X4_partSize D [(cI, .int), (cJ, .long)] (mW k cI th mP mC mR mal mhd mn mg mt mh mz mset mfr mma mde mls) [.ref (k 0), .int v1, .int v2] 0 0 (fun r w => r = r0 ∧ w = mW k cI th0 mP mC mR mal mhd mn mg mt mh0 mz0 mset0 mfr mma mde mls) (fun _ _ => False) := by
  refine gMi_of (cc := cX4_partSize) (maxL := 3) (rt := .int) hl (by decide +kernel) rfl (Nat.le_of_ble_eq_true rfl) ?_
  intro p e s m args below meth c A Q C hnm ht RET OUT THR THRW
  have C : gC p l s m args meth c A D [(cI, .int), (cJ, .long)] 3 RX4 cX4_partSize wsX4_partSize := C
  refine gV_loc (lvs' := [(0, .ref (k 0)), (1, .int v1), (2, .int v2)]) [0, 1, 2] rfl ?_
  unfold pf_X4_partSize at hp
  have J54 : ∀ (s0 : Int32) (th : Int32) (mh : Nat → Int32) (mz : Nat → Int32) (mset : Nat → Int32), pf_X4_partSize_j54 s0 th mh mz mset = (some (r0, th0, mh0, mz0, mset0)) → gV p l e rm_X4_partSize s m args below meth c A D 3 Q (mW k cI th mP mC mR mal mhd mn mg mt mh mz mset mfr mma mde mls) [(0, .ref (k 0))] 0 0 54 [.int s0] := by
    intro s0 th mh mz mset hp
    unfold pf_X4_partSize_j54 at hp
    obtain ⟨rfl, rfl, rfl, rfl, rfl⟩ := g_so5 hp
    exact RET _ _ _ _ _ _ dX4_partSize_54 (Nat.le_of_ble_eq_true rfl) (Nat.le_of_ble_eq_true rfl) rfl ⟨rfl, rfl⟩
  have J53 : ∀ (th : Int32) (mh : Nat → Int32) (mz : Nat → Int32) (mset : Nat → Int32), pf_X4_partSize_j53 th mh mz mset = (some (r0, th0, mh0, mz0, mset0)) → gV p l e rm_X4_partSize s m args below meth c A D 3 Q (mW k cI th mP mC mR mal mhd mn mg mt mh mz mset mfr mma mde mls) [(0, .ref (k 0))] 0 0 53 [] := by
    intro th mh mz mset hp
    unfold pf_X4_partSize_j53 at hp
    refine gV_iconst (v := 0) C dX4_partSize_53 rfl ?_
    exact J54 0 th mh mz mset hp
  have J26 : ∀ (s0 : Int32) (th : Int32) (mh : Nat → Int32) (mz : Nat → Int32) (mset : Nat → Int32), pf_X4_partSize_j26 v1 v2 mP mC mR mal mn mg mt s0 th mh mz mset = (some (r0, th0, mh0, mz0, mset0)) → gV p l e rm_X4_partSize s m args below meth c A D 3 Q (mW k cI th mP mC mR mal mhd mn mg mt mh mz mset mfr mma mde mls) [(0, .ref (k 0)), (1, .int v1), (2, .int v2)] 0 0 26 [.int s0, .ref (k 0)] := by
    intro s0 th mh mz mset hp
    unfold pf_X4_partSize_j26 at hp
    refine gV_put (Cn := RX4) (T := TX4) (N := 16) (ws' := mW k cI s0 mP mC mR mal mhd mn mg mt mh mz mset mfr mma mde mls) C inw_X4_partSize_X4 tyX4_ok nmX4 0 rfl rfl 0 (by decide) (C.w 1 rfl) rfl rfl rfl rfl rfl (Nat.le_of_ble_eq_true rfl) dX4_partSize_26 rfl ?_
    refine gV_aload_n C dX4_partSize_29 rfl 0 rfl ?_
    refine gV_get (Cn := RX4) (T := TX4) (N := 16) C inw_X4_partSize_X4 0 rfl rfl 0 (by decide) (C.w 1 rfl) rfl rfl dX4_partSize_30 ?_
    refine gV_if_ne (tgt := 53) C dX4_partSize_33 (by decide) (fun c33 => ?_) (fun c33 => ?_)
    · replace hp := g_iff hp c33
      refine gV_loc [0] rfl ?_
      exact J53 s0 mh mz mset hp
    · replace hp := g_ift hp c33
      refine gV_aload_n C dX4_partSize_36 rfl 0 rfl ?_
      refine gV_iload_n C dX4_partSize_37 rfl 1 rfl ?_
      obtain ⟨r38q, th_38, mh_38, mz_38, mset_38, hq38, hp⟩ := g_ob5 hp
      refine gV_calliS C (gV_runV (As := [.int v1]) (rest := []) C (mt_X4_asks hl D k cI cJ s0 mP mC mR mal mhd mn mg mt mh mz mset mfr mma mde mls v1 r38q th_38 mh_38 mz_38 mset_38 hq38) (cwV 1 C.2.2.2.2.1 gX4_partSize_X4_asks rfl rfl rfl hdv_X4_asks ⟨Nat.le_of_ble_eq_true rfl, Nat.le_of_ble_eq_true rfl⟩) (gSub_S _) 0 rfl rfl rfl rfl (Nat.le_of_ble_eq_true rfl) dX4_partSize_38 ⟨Nat.le_of_ble_eq_true rfl, Nat.le_of_ble_eq_true rfl⟩) (fun _ _ hx => False.elim hx) (fun r38 w1 hw => ?_)
      obtain ⟨rfl, rfl⟩ := hw
      refine gV_if_eq (tgt := 53) C dX4_partSize_41 (by decide) (fun c41 => ?_) (fun c41 => ?_)
      · replace hp := g_ift hp c41
        refine gV_loc [0] rfl ?_
        exact J53 th_38 mh_38 mz_38 mset_38 hp
      · replace hp := g_iff hp c41
        refine gV_aload_n C dX4_partSize_44 rfl 0 rfl ?_
        refine gV_get (Cn := RX4) (T := TX4) (N := 16) C inw_X4_partSize_X4 0 rfl rfl 10 (by decide) (C.w 2 rfl) rfl rfl dX4_partSize_45 ?_
        refine gV_iload_n C dX4_partSize_48 rfl 2 rfl ?_
        obtain ⟨hi49, hp⟩ := g_idx hp
        refine gV_iald C 4 rfl 0 rfl hi49 dX4_partSize_49 ?_
        refine gV_goto (tgt := 54) C dX4_partSize_50 (by decide) ?_
        refine gV_loc [0] rfl ?_
        exact J54 (mz_38 v2.toNatClampNeg) th_38 mh_38 mz_38 mset_38 hp
  refine gV_aload_n C dX4_partSize_0 rfl 0 rfl ?_
  refine gV_aload_n C dX4_partSize_1 rfl 0 rfl ?_
  refine gV_iload_n C dX4_partSize_2 rfl 1 rfl ?_
  obtain ⟨r3q, hq3, hp⟩ := g_ob1 hp
  refine gV_calliS C (gV_runV (As := [.int v1]) (rest := [.ref (k 0)]) C (mt_X4_isRow hl D k cI cJ th mP mC mR mal mhd mn mg mt mh mz mset mfr mma mde mls v1 r3q hq3) (cwV 1 C.2.2.2.2.1 gX4_partSize_X4_isRow rfl rfl rfl hdv_X4_isRow ⟨Nat.le_of_ble_eq_true rfl, Nat.le_of_ble_eq_true rfl⟩) (gSub_S _) 0 rfl rfl rfl rfl (Nat.le_of_ble_eq_true rfl) dX4_partSize_3 ⟨Nat.le_of_ble_eq_true rfl, Nat.le_of_ble_eq_true rfl⟩) (fun _ _ hx => False.elim hx) (fun r3 w1 hw => ?_)
  obtain ⟨rfl, rfl⟩ := hw
  refine gV_if_ne (tgt := 13) C dX4_partSize_6 (by decide) (fun c6 => ?_) (fun c6 => ?_)
  · replace hp := g_iff hp c6
    refine gV_aload_n C dX4_partSize_13 rfl 0 rfl ?_
    refine gV_iload_n C dX4_partSize_14 rfl 2 rfl ?_
    obtain ⟨r15q, hq15, hp⟩ := g_ob1 hp
    refine gV_calliS C (gV_runV (As := [.int v2]) (rest := [.ref (k 0)]) C (mt_X4_isPossible hl D k cI cJ th mP mC mR mal mhd mn mg mt mh mz mset mfr mma mde mls v2 r15q hq15) (cwV 1 C.2.2.2.2.1 gX4_partSize_X4_isPossible rfl rfl rfl hdv_X4_isPossible ⟨Nat.le_of_ble_eq_true rfl, Nat.le_of_ble_eq_true rfl⟩) (gSub_S _) 0 rfl rfl rfl rfl (Nat.le_of_ble_eq_true rfl) dX4_partSize_15 ⟨Nat.le_of_ble_eq_true rfl, Nat.le_of_ble_eq_true rfl⟩) (fun _ _ hx => False.elim hx) (fun r15 w1 hw => ?_)
    obtain ⟨rfl, rfl⟩ := hw
    refine gV_if_eq (tgt := 25) C dX4_partSize_18 (by decide) (fun c18 => ?_) (fun c18 => ?_)
    · replace hp := g_ift hp c18
      refine gV_iconst (v := 2) C dX4_partSize_25 rfl ?_
      exact J26 2 th mh mz mset hp
    · replace hp := g_iff hp c18
      refine gV_iconst (v := 0) C dX4_partSize_21 rfl ?_
      refine gV_goto (tgt := 26) C dX4_partSize_22 (by decide) ?_
      exact J26 0 th mh mz mset hp
  · replace hp := g_ift hp c6
    refine gV_iconst (v := 1) C dX4_partSize_9 rfl ?_
    refine gV_goto (tgt := 26) C dX4_partSize_10 (by decide) ?_
    exact J26 1 th mh mz mset hp
def pf_X4_worstCase_j16  (s0 : Int32) (th : Int32) (mh : Nat → Int32) (mz : Nat → Int32) (mset : Nat → Int32) : Option (Int32 × Int32 × (Nat → Int32) × (Nat → Int32) × (Nat → Int32)) := (some (s0, th, mh, mz, mset))
def pf_X4_worstCase  (th : Int32) (mP : Int32) (mC : Int32) (mR : Int32) (mal : Int32) (mn : Int32) (mg : Nat → Int32) (mt : Nat → Int32) (mh : Nat → Int32) (mz : Nat → Int32) (mset : Nat → Int32) (v1 : Int32) : Option (Int32 × Int32 × (Nat → Int32) × (Nat → Int32) × (Nat → Int32)) := (ob5 (pf_X4_asks th mP mC mR mal mn mg mt mh mz mset v1) fun r2 th_2 mh_2 mz_2 mset_2 => (if r2 = 0 then (pf_X4_worstCase_j16 0 th_2 mh_2 mz_2 mset_2) else (ob1 (pf_X4_worst mz_2) fun r9 => (pf_X4_worstCase_j16 r9 th_2 mh_2 mz_2 mset_2))))
abbrev rm_X4_worstCase : Room := { frames := 5, cells := 0, slots := 0, locals := 115 }
theorem hdv_X4_worst : yX4_worst.cls = RX4 ∧ yX4_worst.cls ≠ "java/lang/invoke/MethodHandle" ∧ yX4_worst.cls ≠ "java/lang/invoke/VarHandle" ∧ (parseMethodDescriptor yX4_worst.desc).map (fun d => d.parameters.length) = some 0 := by decide +kernel
set_option maxHeartbeats 4000000 in
set_option maxRecDepth 100000 in
theorem mt_X4_worstCase {l : Launch} (hl : l.stackTraces = false) (D : va_G) (k : Nat → Nat) (cI cJ : ClassId) (th : Int32) (mP : Int32) (mC : Int32) (mR : Int32) (mal : Int32) (mhd : Int32) (mn : Int32) (mg : Nat → Int32) (mt : Nat → Int32) (mh : Nat → Int32) (mz : Nat → Int32) (mset : Nat → Int32) (mfr : Nat → Int32) (mma : Nat → Int32) (mde : Nat → Int32) (mls : Nat → Int32) (v1 : Int32) (r0 : Int32) (th0 : Int32) (mh0 : Nat → Int32) (mz0 : Nat → Int32) (mset0 : Nat → Int32) (hp : pf_X4_worstCase th mP mC mR mal mn mg mt mh mz mset v1 = (some (r0, th0, mh0, mz0, mset0))) : gMi l yX4_worstCase wsX4_worstCase rm_X4_worstCase D [(cI, .int), (cJ, .long)] (mW k cI th mP mC mR mal mhd mn mg mt mh mz mset mfr mma mde mls) [.ref (k 0), .int v1] 0 0 (fun r w => r = r0 ∧ w = mW k cI th0 mP mC mR mal mhd mn mg mt mh0 mz0 mset0 mfr mma mde mls) (fun _ _ => False) := by
  refine gMi_of (cc := cX4_worstCase) (maxL := 2) (rt := .int) hl (by decide +kernel) rfl (Nat.le_of_ble_eq_true rfl) ?_
  intro p e s m args below meth c A Q C hnm ht RET OUT THR THRW
  have C : gC p l s m args meth c A D [(cI, .int), (cJ, .long)] 2 RX4 cX4_worstCase wsX4_worstCase := C
  refine gV_loc (lvs' := [(0, .ref (k 0)), (1, .int v1)]) [0, 1] rfl ?_
  unfold pf_X4_worstCase at hp
  have J16 : ∀ (s0 : Int32) (th : Int32) (mh : Nat → Int32) (mz : Nat → Int32) (mset : Nat → Int32), pf_X4_worstCase_j16 s0 th mh mz mset = (some (r0, th0, mh0, mz0, mset0)) → gV p l e rm_X4_worstCase s m args below meth c A D 2 Q (mW k cI th mP mC mR mal mhd mn mg mt mh mz mset mfr mma mde mls) [(0, .ref (k 0))] 0 0 16 [.int s0] := by
    intro s0 th mh mz mset hp
    unfold pf_X4_worstCase_j16 at hp
    obtain ⟨rfl, rfl, rfl, rfl, rfl⟩ := g_so5 hp
    exact RET _ _ _ _ _ _ dX4_worstCase_16 (Nat.le_of_ble_eq_true rfl) (Nat.le_of_ble_eq_true rfl) rfl ⟨rfl, rfl⟩
  refine gV_aload_n C dX4_worstCase_0 rfl 0 rfl ?_
  refine gV_iload_n C dX4_worstCase_1 rfl 1 rfl ?_
  obtain ⟨r2q, th_2, mh_2, mz_2, mset_2, hq2, hp⟩ := g_ob5 hp
  refine gV_calliS C (gV_runV (As := [.int v1]) (rest := []) C (mt_X4_asks hl D k cI cJ th mP mC mR mal mhd mn mg mt mh mz mset mfr mma mde mls v1 r2q th_2 mh_2 mz_2 mset_2 hq2) (cwV 1 C.2.2.2.2.1 gX4_worstCase_X4_asks rfl rfl rfl hdv_X4_asks ⟨Nat.le_of_ble_eq_true rfl, Nat.le_of_ble_eq_true rfl⟩) (gSub_S _) 0 rfl rfl rfl rfl (Nat.le_of_ble_eq_true rfl) dX4_worstCase_2 ⟨Nat.le_of_ble_eq_true rfl, Nat.le_of_ble_eq_true rfl⟩) (fun _ _ hx => False.elim hx) (fun r2 w1 hw => ?_)
  obtain ⟨rfl, rfl⟩ := hw
  refine gV_if_eq (tgt := 15) C dX4_worstCase_5 (by decide) (fun c5 => ?_) (fun c5 => ?_)
  · replace hp := g_ift hp c5
    refine gV_iconst (v := 0) C dX4_worstCase_15 rfl ?_
    refine gV_loc [0] rfl ?_
    exact J16 0 th_2 mh_2 mz_2 mset_2 hp
  · replace hp := g_iff hp c5
    refine gV_aload_n C dX4_worstCase_8 rfl 0 rfl ?_
    obtain ⟨r9q, hq9, hp⟩ := g_ob1 hp
    refine gV_calliS C (gV_runV (As := []) (rest := []) C (mt_X4_worst hl D k cI cJ th_2 mP mC mR mal mhd mn mg mt mh_2 mz_2 mset_2 mfr mma mde mls r9q hq9) (cwV 0 C.2.2.2.2.1 gX4_worstCase_X4_worst rfl rfl rfl hdv_X4_worst ⟨Nat.le_of_ble_eq_true rfl, Nat.le_of_ble_eq_true rfl⟩) (gSub_S _) 0 rfl rfl rfl rfl (Nat.le_of_ble_eq_true rfl) dX4_worstCase_9 ⟨Nat.le_of_ble_eq_true rfl, Nat.le_of_ble_eq_true rfl⟩) (fun _ _ hx => False.elim hx) (fun r9 w1 hw => ?_)
    obtain ⟨rfl, rfl⟩ := hw
    refine gV_goto (tgt := 16) C dX4_worstCase_12 (by decide) ?_
    refine gV_loc [0] rfl ?_
    exact J16 r9 th_2 mh_2 mz_2 mset_2 hp
def pf_X4_weight_j16  (s0 : Int32) (th : Int32) (mh : Nat → Int32) (mz : Nat → Int32) (mset : Nat → Int32) : Option (Int32 × Int32 × (Nat → Int32) × (Nat → Int32) × (Nat → Int32)) := (some (s0, th, mh, mz, mset))
def pf_X4_weight  (th : Int32) (mP : Int32) (mC : Int32) (mR : Int32) (mal : Int32) (mn : Int32) (mg : Nat → Int32) (mt : Nat → Int32) (mh : Nat → Int32) (mz : Nat → Int32) (mset : Nat → Int32) (v1 : Int32) : Option (Int32 × Int32 × (Nat → Int32) × (Nat → Int32) × (Nat → Int32)) := (ob5 (pf_X4_asks th mP mC mR mal mn mg mt mh mz mset v1) fun r2 th_2 mh_2 mz_2 mset_2 => (if r2 = 0 then (pf_X4_weight_j16 0 th_2 mh_2 mz_2 mset_2) else (ob1 (pf_X4_squares mz_2) fun r9 => (pf_X4_weight_j16 r9 th_2 mh_2 mz_2 mset_2))))
abbrev rm_X4_weight : Room := { frames := 5, cells := 0, slots := 0, locals := 115 }
theorem hdv_X4_squares : yX4_squares.cls = RX4 ∧ yX4_squares.cls ≠ "java/lang/invoke/MethodHandle" ∧ yX4_squares.cls ≠ "java/lang/invoke/VarHandle" ∧ (parseMethodDescriptor yX4_squares.desc).map (fun d => d.parameters.length) = some 0 := by decide +kernel
set_option maxHeartbeats 4000000 in
set_option maxRecDepth 100000 in
theorem mt_X4_weight {l : Launch} (hl : l.stackTraces = false) (D : va_G) (k : Nat → Nat) (cI cJ : ClassId) (th : Int32) (mP : Int32) (mC : Int32) (mR : Int32) (mal : Int32) (mhd : Int32) (mn : Int32) (mg : Nat → Int32) (mt : Nat → Int32) (mh : Nat → Int32) (mz : Nat → Int32) (mset : Nat → Int32) (mfr : Nat → Int32) (mma : Nat → Int32) (mde : Nat → Int32) (mls : Nat → Int32) (v1 : Int32) (r0 : Int32) (th0 : Int32) (mh0 : Nat → Int32) (mz0 : Nat → Int32) (mset0 : Nat → Int32) (hp : pf_X4_weight th mP mC mR mal mn mg mt mh mz mset v1 = (some (r0, th0, mh0, mz0, mset0))) : gMi l yX4_weight wsX4_weight rm_X4_weight D [(cI, .int), (cJ, .long)] (mW k cI th mP mC mR mal mhd mn mg mt mh mz mset mfr mma mde mls) [.ref (k 0), .int v1] 0 0 (fun r w => r = r0 ∧ w = mW k cI th0 mP mC mR mal mhd mn mg mt mh0 mz0 mset0 mfr mma mde mls) (fun _ _ => False) := by
  refine gMi_of (cc := cX4_weight) (maxL := 2) (rt := .int) hl (by decide +kernel) rfl (Nat.le_of_ble_eq_true rfl) ?_
  intro p e s m args below meth c A Q C hnm ht RET OUT THR THRW
  have C : gC p l s m args meth c A D [(cI, .int), (cJ, .long)] 2 RX4 cX4_weight wsX4_weight := C
  refine gV_loc (lvs' := [(0, .ref (k 0)), (1, .int v1)]) [0, 1] rfl ?_
  unfold pf_X4_weight at hp
  have J16 : ∀ (s0 : Int32) (th : Int32) (mh : Nat → Int32) (mz : Nat → Int32) (mset : Nat → Int32), pf_X4_weight_j16 s0 th mh mz mset = (some (r0, th0, mh0, mz0, mset0)) → gV p l e rm_X4_weight s m args below meth c A D 2 Q (mW k cI th mP mC mR mal mhd mn mg mt mh mz mset mfr mma mde mls) [(0, .ref (k 0))] 0 0 16 [.int s0] := by
    intro s0 th mh mz mset hp
    unfold pf_X4_weight_j16 at hp
    obtain ⟨rfl, rfl, rfl, rfl, rfl⟩ := g_so5 hp
    exact RET _ _ _ _ _ _ dX4_weight_16 (Nat.le_of_ble_eq_true rfl) (Nat.le_of_ble_eq_true rfl) rfl ⟨rfl, rfl⟩
  refine gV_aload_n C dX4_weight_0 rfl 0 rfl ?_
  refine gV_iload_n C dX4_weight_1 rfl 1 rfl ?_
  obtain ⟨r2q, th_2, mh_2, mz_2, mset_2, hq2, hp⟩ := g_ob5 hp
  refine gV_calliS C (gV_runV (As := [.int v1]) (rest := []) C (mt_X4_asks hl D k cI cJ th mP mC mR mal mhd mn mg mt mh mz mset mfr mma mde mls v1 r2q th_2 mh_2 mz_2 mset_2 hq2) (cwV 1 C.2.2.2.2.1 gX4_weight_X4_asks rfl rfl rfl hdv_X4_asks ⟨Nat.le_of_ble_eq_true rfl, Nat.le_of_ble_eq_true rfl⟩) (gSub_S _) 0 rfl rfl rfl rfl (Nat.le_of_ble_eq_true rfl) dX4_weight_2 ⟨Nat.le_of_ble_eq_true rfl, Nat.le_of_ble_eq_true rfl⟩) (fun _ _ hx => False.elim hx) (fun r2 w1 hw => ?_)
  obtain ⟨rfl, rfl⟩ := hw
  refine gV_if_eq (tgt := 15) C dX4_weight_5 (by decide) (fun c5 => ?_) (fun c5 => ?_)
  · replace hp := g_ift hp c5
    refine gV_iconst (v := 0) C dX4_weight_15 rfl ?_
    refine gV_loc [0] rfl ?_
    exact J16 0 th_2 mh_2 mz_2 mset_2 hp
  · replace hp := g_iff hp c5
    refine gV_aload_n C dX4_weight_8 rfl 0 rfl ?_
    obtain ⟨r9q, hq9, hp⟩ := g_ob1 hp
    refine gV_calliS C (gV_runV (As := []) (rest := []) C (mt_X4_squares hl D k cI cJ th_2 mP mC mR mal mhd mn mg mt mh_2 mz_2 mset_2 mfr mma mde mls r9q hq9) (cwV 0 C.2.2.2.2.1 gX4_weight_X4_squares rfl rfl rfl hdv_X4_squares ⟨Nat.le_of_ble_eq_true rfl, Nat.le_of_ble_eq_true rfl⟩) (gSub_S _) 0 rfl rfl rfl rfl (Nat.le_of_ble_eq_true rfl) dX4_weight_9 ⟨Nat.le_of_ble_eq_true rfl, Nat.le_of_ble_eq_true rfl⟩) (fun _ _ hx => False.elim hx) (fun r9 w1 hw => ?_)
    obtain ⟨rfl, rfl⟩ := hw
    refine gV_goto (tgt := 16) C dX4_weight_12 (by decide) ?_
    refine gV_loc [0] rfl ?_
    exact J16 r9 th_2 mh_2 mz_2 mset_2 hp
def pf_X4_isAmong_j35  (kL6 : Int32 → Int32 → Option (Int32)) (v5 : Int32) (s0 : Int32) : Option (Int32) := (kL6 s0 (v5 + 1))
def pf_X4_isAmong_j30  (kL6 : Int32 → Int32 → Option (Int32)) (v5 : Int32) : Option (Int32) := (pf_X4_isAmong_j35 kL6 v5 1)
def pf_X4_isAmong_L6 (v1 : Int32) (v2 : Int32) (v3 : Int32) (mset : Nat → Int32) : Nat → Int32 → Int32 → Option (Int32)
  | 0, _, _ => none
  | n6 + 1, v4, v5 => (if (v2 + v3) ≤ v5 then (gz v4 ((some v4))) else (if v4 = 0 then (gi v5 2048 (if (mset v5.toNatClampNeg) = v1 then (pf_X4_isAmong_j30 (fun v4 v5 => pf_X4_isAmong_L6 v1 v2 v3 mset n6 v4 v5) v5) else (pf_X4_isAmong_j35 (fun v4 v5 => pf_X4_isAmong_L6 v1 v2 v3 mset n6 v4 v5) v5 0))) else (pf_X4_isAmong_j30 (fun v4 v5 => pf_X4_isAmong_L6 v1 v2 v3 mset n6 v4 v5) v5)))
def pf_X4_isAmong  (mset : Nat → Int32) (v1 : Int32) (v2 : Int32) (v3 : Int32) : Option (Int32) := (pf_X4_isAmong_L6 v1 v2 v3 mset 100000 0 v2)
abbrev rm_X4_isAmong : Room := { frames := 0, cells := 0, slots := 0, locals := 0 }
theorem inw_X4_isAmong_X4 : ∀ w ∈ wsX40, w ∈ wsX4_isAmong := by decide +kernel
set_option maxHeartbeats 4000000 in
set_option maxRecDepth 100000 in
theorem mt_X4_isAmong {l : Launch} (hl : l.stackTraces = false) (D : va_G) (k : Nat → Nat) (cI cJ : ClassId) (th : Int32) (mP : Int32) (mC : Int32) (mR : Int32) (mal : Int32) (mhd : Int32) (mn : Int32) (mg : Nat → Int32) (mt : Nat → Int32) (mh : Nat → Int32) (mz : Nat → Int32) (mset : Nat → Int32) (mfr : Nat → Int32) (mma : Nat → Int32) (mde : Nat → Int32) (mls : Nat → Int32) (v1 : Int32) (v2 : Int32) (v3 : Int32) (r0 : Int32) (hp : pf_X4_isAmong mset v1 v2 v3 = (some r0)) : gMi l yX4_isAmong wsX4_isAmong rm_X4_isAmong D [(cI, .int), (cJ, .long)] (mW k cI th mP mC mR mal mhd mn mg mt mh mz mset mfr mma mde mls) [.ref (k 0), .int v1, .int v2, .int v3] 0 0 (fun r w => r = r0 ∧ w = mW k cI th mP mC mR mal mhd mn mg mt mh mz mset mfr mma mde mls) (fun _ _ => False) := by
  refine gMi_of (cc := cX4_isAmong) (maxL := 6) (rt := .boolean) hl (by decide +kernel) rfl (Nat.le_of_ble_eq_true rfl) ?_
  intro p e s m args below meth c A Q C hnm ht RET OUT THR THRW
  have C : gC p l s m args meth c A D [(cI, .int), (cJ, .long)] 6 RX4 cX4_isAmong wsX4_isAmong := C
  refine gV_loc (lvs' := [(0, .ref (k 0)), (1, .int v1), (2, .int v2), (3, .int v3)]) [0, 1, 2, 3] rfl ?_
  unfold pf_X4_isAmong at hp
  have L6 : ∀ (n6 : Nat) (v4 : Int32) (v5 : Int32), pf_X4_isAmong_L6 v1 v2 v3 mset n6 v4 v5 = (some r0) → gV p l e rm_X4_isAmong s m args below meth c A D 6 Q (mW k cI th mP mC mR mal mhd mn mg mt mh mz mset mfr mma mde mls) [(0, .ref (k 0)), (1, .int v1), (2, .int v2), (3, .int v3), (4, .int v4), (5, .int v5)] 0 0 6 [] := by
    intro n6
    induction n6 with
    | zero => intro v4 v5 hp; exact g_none hp
    | succ n6 ih6 =>
      intro v4 v5 hp
      rw [pf_X4_isAmong_L6.eq_2] at hp
      have J35 : ∀ (v5 : Int32) (s0 : Int32), pf_X4_isAmong_j35 (fun v4 v5 => pf_X4_isAmong_L6 v1 v2 v3 mset n6 v4 v5) v5 s0 = (some r0) → gV p l e rm_X4_isAmong s m args below meth c A D 6 Q (mW k cI th mP mC mR mal mhd mn mg mt mh mz mset mfr mma mde mls) [(0, .ref (k 0)), (1, .int v1), (2, .int v2), (3, .int v3), (5, .int v5)] 0 0 35 [.int s0] := by
        intro v5 s0 hp
        unfold pf_X4_isAmong_j35 at hp
        refine gV_istore (lvs' := [(4, .int s0), (0, .ref (k 0)), (1, .int v1), (2, .int v2), (3, .int v3), (5, .int v5)]) C dX4_isAmong_35 (by decide) rfl ?_
        refine gV_iinc (v := (v5 + 1)) (lvs' := [(5, .int (v5 + 1)), (4, .int s0), (0, .ref (k 0)), (1, .int v1), (2, .int v2), (3, .int v3)]) C dX4_isAmong_37 5 rfl rfl (by decide) rfl ?_
        refine gV_goto (tgt := 6) C dX4_isAmong_40 (by decide) ?_
        refine gV_loc [2, 3, 4, 5, 1, 0] rfl ?_
        exact ih6 s0 (v5 + 1) hp
      have J30 : ∀ (v5 : Int32), pf_X4_isAmong_j30 (fun v4 v5 => pf_X4_isAmong_L6 v1 v2 v3 mset n6 v4 v5) v5 = (some r0) → gV p l e rm_X4_isAmong s m args below meth c A D 6 Q (mW k cI th mP mC mR mal mhd mn mg mt mh mz mset mfr mma mde mls) [(0, .ref (k 0)), (1, .int v1), (2, .int v2), (3, .int v3), (5, .int v5)] 0 0 30 [] := by
        intro v5 hp
        unfold pf_X4_isAmong_j30 at hp
        refine gV_iconst (v := 1) C dX4_isAmong_30 rfl ?_
        refine gV_goto (tgt := 35) C dX4_isAmong_31 (by decide) ?_
        exact J35 v5 1 hp
      refine gV_iload C dX4_isAmong_6 5 rfl ?_
      refine gV_iload_n C dX4_isAmong_8 rfl 2 rfl ?_
      refine gV_iload_n C dX4_isAmong_9 rfl 3 rfl ?_
      refine gV_iadd C dX4_isAmong_10 ?_
      refine gV_icmp_ge (tgt := 43) C dX4_isAmong_11 (by decide) (fun c11 => ?_) (fun c11 => ?_)
      · replace hp := g_ift hp c11
        refine gV_iload C dX4_isAmong_43 4 rfl ?_
        obtain ⟨hz45, hp⟩ := g_bool hp
        obtain rfl := g_so1 hp
        exact RET _ _ _ _ _ _ dX4_isAmong_45 (Nat.le_of_ble_eq_true rfl) (Nat.le_of_ble_eq_true rfl) (g_nz hz45) ⟨rfl, rfl⟩
      · replace hp := g_iff hp c11
        refine gV_iload C dX4_isAmong_14 4 rfl ?_
        refine gV_if_ne (tgt := 30) C dX4_isAmong_16 (by decide) (fun c16 => ?_) (fun c16 => ?_)
        · replace hp := g_iff hp c16
          refine gV_loc [0, 1, 2, 3, 5] rfl ?_
          exact J30 v5 hp
        · replace hp := g_ift hp c16
          refine gV_aload_n C dX4_isAmong_19 rfl 0 rfl ?_
          refine gV_get (Cn := RX4) (T := TX4) (N := 16) C inw_X4_isAmong_X4 0 rfl rfl 11 (by decide) (C.w 1 rfl) rfl rfl dX4_isAmong_20 ?_
          refine gV_iload C dX4_isAmong_23 5 rfl ?_
          obtain ⟨hi25, hp⟩ := g_idx hp
          refine gV_iald C 5 rfl 0 rfl hi25 dX4_isAmong_25 ?_
          refine gV_iload_n C dX4_isAmong_26 rfl 1 rfl ?_
          refine gV_icmp_ne (tgt := 34) C dX4_isAmong_27 (by decide) (fun c27 => ?_) (fun c27 => ?_)
          · replace hp := g_iff hp c27
            refine gV_iconst (v := 0) C dX4_isAmong_34 rfl ?_
            refine gV_loc [0, 1, 2, 3, 5] rfl ?_
            exact J35 v5 0 hp
          · replace hp := g_ift hp c27
            refine gV_loc [0, 1, 2, 3, 5] rfl ?_
            exact J30 v5 hp
  refine gV_iconst (v := 0) C dX4_isAmong_0 rfl ?_
  refine gV_istore (lvs' := [(4, .int 0), (0, .ref (k 0)), (1, .int v1), (2, .int v2), (3, .int v3)]) C dX4_isAmong_1 (by decide) rfl ?_
  refine gV_iload_n C dX4_isAmong_3 rfl 3 rfl ?_
  refine gV_istore (lvs' := [(5, .int v2), (4, .int 0), (0, .ref (k 0)), (1, .int v1), (2, .int v2), (3, .int v3)]) C dX4_isAmong_4 (by decide) rfl ?_
  refine gV_loc [2, 3, 4, 5, 1, 0] rfl ?_
  exact L6 100000 0 v2 hp
def pf_X4_best_j100  (kL9 : Int32 → Int32 → Int32 → (Nat → Int32) → (Nat → Int32) → Option (Int32 × (Nat → Int32) × (Nat → Int32))) (v4 : Int32) (v5 : Int32) (v6 : Int32) (mh : Nat → Int32) (mz : Nat → Int32) : Option (Int32 × (Nat → Int32) × (Nat → Int32)) := (kL9 v4 v5 (v6 + 1) mh mz)
def pf_X4_best_j92  (kL9 : Int32 → Int32 → Int32 → (Nat → Int32) → (Nat → Int32) → Option (Int32 × (Nat → Int32) × (Nat → Int32))) (v6 : Int32) (v8 : Int32) (mh : Nat → Int32) (mz : Nat → Int32) : Option (Int32 × (Nat → Int32) × (Nat → Int32)) := (pf_X4_best_j100 kL9 v6 v8 v6 mh mz)
def pf_X4_best_j76  (kL9 : Int32 → Int32 → Int32 → (Nat → Int32) → (Nat → Int32) → Option (Int32 × (Nat → Int32) × (Nat → Int32))) (v4 : Int32) (v5 : Int32) (v6 : Int32) (s0 : Int32) (s1 : Int32) (mh : Nat → Int32) (mz : Nat → Int32) : Option (Int32 × (Nat → Int32) × (Nat → Int32)) := (if v4 = (-1) then (pf_X4_best_j92 kL9 v6 (s1 - s0) mh mz) else (if v5 ≤ (s1 - s0) then (pf_X4_best_j100 kL9 v4 v5 v6 mh mz) else (pf_X4_best_j92 kL9 v6 (s1 - s0) mh mz)))
def pf_X4_best_j54 (v2 : Int32) (v3 : Int32) (mset : Nat → Int32) (kL9 : Int32 → Int32 → Int32 → (Nat → Int32) → (Nat → Int32) → Option (Int32 × (Nat → Int32) × (Nat → Int32))) (v4 : Int32) (v5 : Int32) (v6 : Int32) (s0 : Int32) (mh : Nat → Int32) (mz : Nat → Int32) : Option (Int32 × (Nat → Int32) × (Nat → Int32)) := (ob1 (pf_X4_isAmong mset v6 v2 v3) fun r65 => (if r65 = 0 then (pf_X4_best_j76 kL9 v4 v5 v6 0 (2 * s0) mh mz) else (pf_X4_best_j76 kL9 v4 v5 v6 1 (2 * s0) mh mz)))
def pf_X4_best_L9 (v1 : Int32) (v2 : Int32) (v3 : Int32) (mP : Int32) (mC : Int32) (mR : Int32) (mset : Nat → Int32) : Nat → Int32 → Int32 → Int32 → (Nat → Int32) → (Nat → Int32) → Option (Int32 × (Nat → Int32) × (Nat → Int32))
  | 0, _, _, _, _, _ => none
  | n9 + 1, v4, v5, v6, mh, mz => (if mR ≤ v6 then (some (v4, mh, mz)) else (ob2 (pf_X4_laysParts mP mC mh mz mset v6 v2 v3) fun mh_23 mz_23 => (if v1 = 0 then (ob1 (pf_X4_worst mz_23) fun r31 => (pf_X4_best_j54 v2 v3 mset (fun v4 v5 v6 mh mz => pf_X4_best_L9 v1 v2 v3 mP mC mR mset n9 v4 v5 v6 mh mz) v4 v5 v6 r31 mh_23 mz_23)) else (if v1 = 1 then (ob1 (pf_X4_squares mz_23) fun r43 => (pf_X4_best_j54 v2 v3 mset (fun v4 v5 v6 mh mz => pf_X4_best_L9 v1 v2 v3 mP mC mR mset n9 v4 v5 v6 mh mz) v4 v5 v6 r43 mh_23 mz_23)) else (ob1 (pf_X4_manyParts mz_23) fun r50 => (pf_X4_best_j54 v2 v3 mset (fun v4 v5 v6 mh mz => pf_X4_best_L9 v1 v2 v3 mP mC mR mset n9 v4 v5 v6 mh mz) v4 v5 v6 (-r50) mh_23 mz_23))))))
def pf_X4_best  (mP : Int32) (mC : Int32) (mR : Int32) (mh : Nat → Int32) (mz : Nat → Int32) (mset : Nat → Int32) (v1 : Int32) (v2 : Int32) (v3 : Int32) : Option (Int32 × (Nat → Int32) × (Nat → Int32)) := (pf_X4_best_L9 v1 v2 v3 mP mC mR mset 100000 (-1) 0 0 mh mz)
abbrev rm_X4_best : Room := { frames := 2, cells := 0, slots := 0, locals := 51 }
theorem inw_X4_best_X4 : ∀ w ∈ wsX40, w ∈ wsX4_best := by decide +kernel
theorem hdv_X4_isAmong : yX4_isAmong.cls = RX4 ∧ yX4_isAmong.cls ≠ "java/lang/invoke/MethodHandle" ∧ yX4_isAmong.cls ≠ "java/lang/invoke/VarHandle" ∧ (parseMethodDescriptor yX4_isAmong.desc).map (fun d => d.parameters.length) = some 3 := by decide +kernel
set_option maxHeartbeats 4000000 in
set_option maxRecDepth 100000 in
theorem mt_X4_best {l : Launch} (hl : l.stackTraces = false) (D : va_G) (k : Nat → Nat) (cI cJ : ClassId) (th : Int32) (mP : Int32) (mC : Int32) (mR : Int32) (mal : Int32) (mhd : Int32) (mn : Int32) (mg : Nat → Int32) (mt : Nat → Int32) (mh : Nat → Int32) (mz : Nat → Int32) (mset : Nat → Int32) (mfr : Nat → Int32) (mma : Nat → Int32) (mde : Nat → Int32) (mls : Nat → Int32) (v1 : Int32) (v2 : Int32) (v3 : Int32) (r0 : Int32) (mh0 : Nat → Int32) (mz0 : Nat → Int32) (hp : pf_X4_best mP mC mR mh mz mset v1 v2 v3 = (some (r0, mh0, mz0))) : gMi l yX4_best wsX4_best rm_X4_best D [(cI, .int), (cJ, .long)] (mW k cI th mP mC mR mal mhd mn mg mt mh mz mset mfr mma mde mls) [.ref (k 0), .int v1, .int v2, .int v3] 0 0 (fun r w => r = r0 ∧ w = mW k cI th mP mC mR mal mhd mn mg mt mh0 mz0 mset mfr mma mde mls) (fun _ _ => False) := by
  refine gMi_of (cc := cX4_best) (maxL := 9) (rt := .int) hl (by decide +kernel) rfl (Nat.le_of_ble_eq_true rfl) ?_
  intro p e s m args below meth c A Q C hnm ht RET OUT THR THRW
  have C : gC p l s m args meth c A D [(cI, .int), (cJ, .long)] 9 RX4 cX4_best wsX4_best := C
  refine gV_loc (lvs' := [(0, .ref (k 0)), (1, .int v1), (2, .int v2), (3, .int v3)]) [0, 1, 2, 3] rfl ?_
  unfold pf_X4_best at hp
  have L9 : ∀ (n9 : Nat) (v4 : Int32) (v5 : Int32) (v6 : Int32) (mh : Nat → Int32) (mz : Nat → Int32), pf_X4_best_L9 v1 v2 v3 mP mC mR mset n9 v4 v5 v6 mh mz = (some (r0, mh0, mz0)) → gV p l e rm_X4_best s m args below meth c A D 9 Q (mW k cI th mP mC mR mal mhd mn mg mt mh mz mset mfr mma mde mls) [(0, .ref (k 0)), (1, .int v1), (2, .int v2), (3, .int v3), (4, .int v4), (5, .int v5), (6, .int v6)] 0 0 9 [] := by
    intro n9
    induction n9 with
    | zero => intro v4 v5 v6 mh mz hp; exact g_none hp
    | succ n9 ih9 =>
      intro v4 v5 v6 mh mz hp
      rw [pf_X4_best_L9.eq_2] at hp
      have J100 : ∀ (v4 : Int32) (v5 : Int32) (v6 : Int32) (mh : Nat → Int32) (mz : Nat → Int32), pf_X4_best_j100 (fun v4 v5 v6 mh mz => pf_X4_best_L9 v1 v2 v3 mP mC mR mset n9 v4 v5 v6 mh mz) v4 v5 v6 mh mz = (some (r0, mh0, mz0)) → gV p l e rm_X4_best s m args below meth c A D 9 Q (mW k cI th mP mC mR mal mhd mn mg mt mh mz mset mfr mma mde mls) [(0, .ref (k 0)), (1, .int v1), (2, .int v2), (3, .int v3), (4, .int v4), (5, .int v5), (6, .int v6)] 0 0 100 [] := by
        intro v4 v5 v6 mh mz hp
        unfold pf_X4_best_j100 at hp
        refine gV_iinc (v := (v6 + 1)) (lvs' := [(6, .int (v6 + 1)), (0, .ref (k 0)), (1, .int v1), (2, .int v2), (3, .int v3), (4, .int v4), (5, .int v5)]) C dX4_best_100 6 rfl rfl (by decide) rfl ?_
        refine gV_goto (tgt := 9) C dX4_best_103 (by decide) ?_
        refine gV_loc [1, 2, 3, 4, 5, 6, 0] rfl ?_
        exact ih9 v4 v5 (v6 + 1) mh mz hp
      have J92 : ∀ (v6 : Int32) (v8 : Int32) (mh : Nat → Int32) (mz : Nat → Int32), pf_X4_best_j92 (fun v4 v5 v6 mh mz => pf_X4_best_L9 v1 v2 v3 mP mC mR mset n9 v4 v5 v6 mh mz) v6 v8 mh mz = (some (r0, mh0, mz0)) → gV p l e rm_X4_best s m args below meth c A D 9 Q (mW k cI th mP mC mR mal mhd mn mg mt mh mz mset mfr mma mde mls) [(0, .ref (k 0)), (1, .int v1), (2, .int v2), (3, .int v3), (6, .int v6), (8, .int v8)] 0 0 92 [] := by
        intro v6 v8 mh mz hp
        unfold pf_X4_best_j92 at hp
        refine gV_iload C dX4_best_92 4 rfl ?_
        refine gV_istore (lvs' := [(4, .int v6), (0, .ref (k 0)), (1, .int v1), (2, .int v2), (3, .int v3), (6, .int v6), (8, .int v8)]) C dX4_best_94 (by decide) rfl ?_
        refine gV_iload C dX4_best_96 6 rfl ?_
        refine gV_istore (lvs' := [(5, .int v8), (4, .int v6), (0, .ref (k 0)), (1, .int v1), (2, .int v2), (3, .int v3), (6, .int v6), (8, .int v8)]) C dX4_best_98 (by decide) rfl ?_
        refine gV_loc [2, 3, 4, 5, 1, 0, 6] rfl ?_
        exact J100 v6 v8 v6 mh mz hp
      have J76 : ∀ (v4 : Int32) (v5 : Int32) (v6 : Int32) (s0 : Int32) (s1 : Int32) (mh : Nat → Int32) (mz : Nat → Int32), pf_X4_best_j76 (fun v4 v5 v6 mh mz => pf_X4_best_L9 v1 v2 v3 mP mC mR mset n9 v4 v5 v6 mh mz) v4 v5 v6 s0 s1 mh mz = (some (r0, mh0, mz0)) → gV p l e rm_X4_best s m args below meth c A D 9 Q (mW k cI th mP mC mR mal mhd mn mg mt mh mz mset mfr mma mde mls) [(0, .ref (k 0)), (1, .int v1), (2, .int v2), (3, .int v3), (4, .int v4), (5, .int v5), (6, .int v6)] 0 0 76 [.int s0, .int s1] := by
        intro v4 v5 v6 s0 s1 mh mz hp
        unfold pf_X4_best_j76 at hp
        refine gV_isub C dX4_best_76 ?_
        refine gV_istore (lvs' := [(8, .int (s1 - s0)), (0, .ref (k 0)), (1, .int v1), (2, .int v2), (3, .int v3), (4, .int v4), (5, .int v5), (6, .int v6)]) C dX4_best_77 (by decide) rfl ?_
        refine gV_iload C dX4_best_79 5 rfl ?_
        refine gV_iconst (v := (-1)) C dX4_best_81 rfl ?_
        refine gV_icmp_eq (tgt := 92) C dX4_best_82 (by decide) (fun c82 => ?_) (fun c82 => ?_)
        · replace hp := g_ift hp c82
          refine gV_loc [1, 2, 3, 4, 7, 0] rfl ?_
          exact J92 v6 (s1 - s0) mh mz hp
        · replace hp := g_iff hp c82
          refine gV_iload C dX4_best_85 0 rfl ?_
          refine gV_iload C dX4_best_87 6 rfl ?_
          refine gV_icmp_ge (tgt := 100) C dX4_best_89 (by decide) (fun c89 => ?_) (fun c89 => ?_)
          · replace hp := g_ift hp c89
            refine gV_loc [1, 2, 3, 4, 5, 6, 7] rfl ?_
            exact J100 v4 v5 v6 mh mz hp
          · replace hp := g_iff hp c89
            refine gV_loc [1, 2, 3, 4, 7, 0] rfl ?_
            exact J92 v6 (s1 - s0) mh mz hp
      have J54 : ∀ (v4 : Int32) (v5 : Int32) (v6 : Int32) (s0 : Int32) (mh : Nat → Int32) (mz : Nat → Int32), pf_X4_best_j54 v2 v3 mset (fun v4 v5 v6 mh mz => pf_X4_best_L9 v1 v2 v3 mP mC mR mset n9 v4 v5 v6 mh mz) v4 v5 v6 s0 mh mz = (some (r0, mh0, mz0)) → gV p l e rm_X4_best s m args below meth c A D 9 Q (mW k cI th mP mC mR mal mhd mn mg mt mh mz mset mfr mma mde mls) [(0, .ref (k 0)), (1, .int v1), (2, .int v2), (3, .int v3), (4, .int v4), (5, .int v5), (6, .int v6)] 0 0 54 [.int s0] := by
        intro v4 v5 v6 s0 mh mz hp
        unfold pf_X4_best_j54 at hp
        refine gV_istore (lvs' := [(7, .int s0), (0, .ref (k 0)), (1, .int v1), (2, .int v2), (3, .int v3), (4, .int v4), (5, .int v5), (6, .int v6)]) C dX4_best_54 (by decide) rfl ?_
        refine gV_iconst (v := 2) C dX4_best_56 rfl ?_
        refine gV_iload C dX4_best_57 0 rfl ?_
        refine gV_imul C dX4_best_59 ?_
        refine gV_aload_n C dX4_best_60 rfl 1 rfl ?_
        refine gV_iload C dX4_best_61 7 rfl ?_
        refine gV_iload_n C dX4_best_63 rfl 3 rfl ?_
        refine gV_iload_n C dX4_best_64 rfl 4 rfl ?_
        obtain ⟨r65q, hq65, hp⟩ := g_ob1 hp
        refine gV_calliS C (gV_runV (As := [.int v6, .int v2, .int v3]) (rest := [.int (2 * s0)]) C (mt_X4_isAmong hl D k cI cJ th mP mC mR mal mhd mn mg mt mh mz mset mfr mma mde mls v6 v2 v3 r65q hq65) (cwV 3 C.2.2.2.2.1 gX4_best_X4_isAmong rfl rfl rfl hdv_X4_isAmong ⟨Nat.le_of_ble_eq_true rfl, Nat.le_of_ble_eq_true rfl⟩) (gSub_S _) 0 rfl rfl rfl rfl (Nat.le_of_ble_eq_true rfl) dX4_best_65 ⟨Nat.le_of_ble_eq_true rfl, Nat.le_of_ble_eq_true rfl⟩) (fun _ _ hx => False.elim hx) (fun r65 w1 hw => ?_)
        obtain ⟨rfl, rfl⟩ := hw
        refine gV_if_eq (tgt := 75) C dX4_best_68 (by decide) (fun c68 => ?_) (fun c68 => ?_)
        · replace hp := g_ift hp c68
          refine gV_iconst (v := 0) C dX4_best_75 rfl ?_
          refine gV_loc [1, 2, 3, 4, 5, 6, 7] rfl ?_
          exact J76 v4 v5 v6 0 (2 * s0) mh mz hp
        · replace hp := g_iff hp c68
          refine gV_iconst (v := 1) C dX4_best_71 rfl ?_
          refine gV_goto (tgt := 76) C dX4_best_72 (by decide) ?_
          refine gV_loc [1, 2, 3, 4, 5, 6, 7] rfl ?_
          exact J76 v4 v5 v6 1 (2 * s0) mh mz hp
      refine gV_iload C dX4_best_9 6 rfl ?_
      refine gV_aload_n C dX4_best_11 rfl 0 rfl ?_
      refine gV_get (Cn := RX4) (T := TX4) (N := 16) C inw_X4_best_X4 0 rfl rfl 3 (by decide) (C.w 1 rfl) rfl rfl dX4_best_12 ?_
      refine gV_icmp_ge (tgt := 106) C dX4_best_15 (by decide) (fun c15 => ?_) (fun c15 => ?_)
      · replace hp := g_ift hp c15
        refine gV_iload C dX4_best_106 4 rfl ?_
        obtain ⟨rfl, rfl, rfl⟩ := g_so3 hp
        exact RET _ _ _ _ _ _ dX4_best_108 (Nat.le_of_ble_eq_true rfl) (Nat.le_of_ble_eq_true rfl) rfl ⟨rfl, rfl⟩
      · replace hp := g_iff hp c15
        refine gV_aload_n C dX4_best_18 rfl 0 rfl ?_
        refine gV_iload C dX4_best_19 6 rfl ?_
        refine gV_iload_n C dX4_best_21 rfl 2 rfl ?_
        refine gV_iload_n C dX4_best_22 rfl 3 rfl ?_
        obtain ⟨mh_23, mz_23, hq23, hp⟩ := g_ob2 hp
        refine gV_callvS C (gV_runV (As := [.int v6, .int v2, .int v3]) (rest := []) C (mt_X4_laysParts hl D k cI cJ th mP mC mR mal mhd mn mg mt mh mz mset mfr mma mde mls v6 v2 v3 mh_23 mz_23 hq23) (cwV 3 C.2.2.2.2.1 gX4_best_X4_laysParts rfl rfl rfl hdv_X4_laysParts ⟨Nat.le_of_ble_eq_true rfl, Nat.le_of_ble_eq_true rfl⟩) (gSub_S _) 0 rfl rfl rfl rfl (Nat.le_of_ble_eq_true rfl) dX4_best_23 ⟨Nat.le_of_ble_eq_true rfl, Nat.le_of_ble_eq_true rfl⟩) (fun _ _ hx => False.elim hx) (fun w1 hw => ?_)
        obtain rfl := hw
        refine gV_iload_n C dX4_best_26 rfl 1 rfl ?_
        refine gV_if_ne (tgt := 37) C dX4_best_27 (by decide) (fun c27 => ?_) (fun c27 => ?_)
        · replace hp := g_iff hp c27
          refine gV_iload_n C dX4_best_37 rfl 1 rfl ?_
          refine gV_iconst (v := 1) C dX4_best_38 rfl ?_
          refine gV_icmp_ne (tgt := 49) C dX4_best_39 (by decide) (fun c39 => ?_) (fun c39 => ?_)
          · replace hp := g_iff hp c39
            refine gV_aload_n C dX4_best_49 rfl 0 rfl ?_
            obtain ⟨r50q, hq50, hp⟩ := g_ob1 hp
            refine gV_calliS C (gV_runV (As := []) (rest := []) C (mt_X4_manyParts hl D k cI cJ th mP mC mR mal mhd mn mg mt mh_23 mz_23 mset mfr mma mde mls r50q hq50) (cwV 0 C.2.2.2.2.1 gX4_best_X4_manyParts rfl rfl rfl hdv_X4_manyParts ⟨Nat.le_of_ble_eq_true rfl, Nat.le_of_ble_eq_true rfl⟩) (gSub_S _) 0 rfl rfl rfl rfl (Nat.le_of_ble_eq_true rfl) dX4_best_50 ⟨Nat.le_of_ble_eq_true rfl, Nat.le_of_ble_eq_true rfl⟩) (fun _ _ hx => False.elim hx) (fun r50 w1 hw => ?_)
            obtain ⟨rfl, rfl⟩ := hw
            refine gV_ineg C dX4_best_53 ?_
            exact J54 v4 v5 v6 (-r50) mh_23 mz_23 hp
          · replace hp := g_ift hp c39
            refine gV_aload_n C dX4_best_42 rfl 0 rfl ?_
            obtain ⟨r43q, hq43, hp⟩ := g_ob1 hp
            refine gV_calliS C (gV_runV (As := []) (rest := []) C (mt_X4_squares hl D k cI cJ th mP mC mR mal mhd mn mg mt mh_23 mz_23 mset mfr mma mde mls r43q hq43) (cwV 0 C.2.2.2.2.1 gX4_best_X4_squares rfl rfl rfl hdv_X4_squares ⟨Nat.le_of_ble_eq_true rfl, Nat.le_of_ble_eq_true rfl⟩) (gSub_S _) 0 rfl rfl rfl rfl (Nat.le_of_ble_eq_true rfl) dX4_best_43 ⟨Nat.le_of_ble_eq_true rfl, Nat.le_of_ble_eq_true rfl⟩) (fun _ _ hx => False.elim hx) (fun r43 w1 hw => ?_)
            obtain ⟨rfl, rfl⟩ := hw
            refine gV_goto (tgt := 54) C dX4_best_46 (by decide) ?_
            exact J54 v4 v5 v6 r43 mh_23 mz_23 hp
        · replace hp := g_ift hp c27
          refine gV_aload_n C dX4_best_30 rfl 0 rfl ?_
          obtain ⟨r31q, hq31, hp⟩ := g_ob1 hp
          refine gV_calliS C (gV_runV (As := []) (rest := []) C (mt_X4_worst hl D k cI cJ th mP mC mR mal mhd mn mg mt mh_23 mz_23 mset mfr mma mde mls r31q hq31) (cwV 0 C.2.2.2.2.1 gX4_best_X4_worst rfl rfl rfl hdv_X4_worst ⟨Nat.le_of_ble_eq_true rfl, Nat.le_of_ble_eq_true rfl⟩) (gSub_S _) 0 rfl rfl rfl rfl (Nat.le_of_ble_eq_true rfl) dX4_best_31 ⟨Nat.le_of_ble_eq_true rfl, Nat.le_of_ble_eq_true rfl⟩) (fun _ _ hx => False.elim hx) (fun r31 w1 hw => ?_)
          obtain ⟨rfl, rfl⟩ := hw
          refine gV_goto (tgt := 54) C dX4_best_34 (by decide) ?_
          exact J54 v4 v5 v6 r31 mh_23 mz_23 hp
  refine gV_iconst (v := (-1)) C dX4_best_0 rfl ?_
  refine gV_istore (lvs' := [(4, .int (-1)), (0, .ref (k 0)), (1, .int v1), (2, .int v2), (3, .int v3)]) C dX4_best_1 (by decide) rfl ?_
  refine gV_iconst (v := 0) C dX4_best_3 rfl ?_
  refine gV_istore (lvs' := [(5, .int 0), (4, .int (-1)), (0, .ref (k 0)), (1, .int v1), (2, .int v2), (3, .int v3)]) C dX4_best_4 (by decide) rfl ?_
  refine gV_iconst (v := 0) C dX4_best_6 rfl ?_
  refine gV_istore (lvs' := [(6, .int 0), (5, .int 0), (4, .int (-1)), (0, .ref (k 0)), (1, .int v1), (2, .int v2), (3, .int v3)]) C dX4_best_7 (by decide) rfl ?_
  refine gV_loc [3, 4, 5, 6, 2, 1, 0] rfl ?_
  exact L9 100000 (-1) 0 0 mh mz hp
def pf_X4_bestGuess_j49  (s0 : Int32) (th : Int32) (mh : Nat → Int32) (mz : Nat → Int32) (mset : Nat → Int32) : Option (Int32 × Int32 × (Nat → Int32) × (Nat → Int32) × (Nat → Int32)) := (some (s0, th, mh, mz, mset))
def pf_X4_bestGuess_j28 (v1 : Int32) (mP : Int32) (mC : Int32) (mR : Int32) (v2 : Int32) (s0 : Int32) (th : Int32) (mh : Nat → Int32) (mz : Nat → Int32) (mset : Nat → Int32) : Option (Int32 × Int32 × (Nat → Int32) × (Nat → Int32) × (Nat → Int32)) := (if s0 ≤ 0 then (ob3 (pf_X4_best mP mC mR mh mz mset v1 0 v2) fun r46 mh_46 mz_46 => (pf_X4_bestGuess_j49 r46 s0 mh_46 mz_46 mset)) else (pf_X4_bestGuess_j49 0 s0 mh mz mset))
def pf_X4_bestGuess  (th : Int32) (mP : Int32) (mC : Int32) (mR : Int32) (mal : Int32) (mn : Int32) (mg : Nat → Int32) (mt : Nat → Int32) (mh : Nat → Int32) (mz : Nat → Int32) (mset : Nat → Int32) (v1 : Int32) : Option (Int32 × Int32 × (Nat → Int32) × (Nat → Int32) × (Nat → Int32)) := (ob3 (pf_X4_laysLeft mP mC mR mal mn mg mt mh mset) fun r1 mh_1 mset_1 => (ob1 (pf_X4_in v1 0 2) fun r9 => (if r9 = 0 then (pf_X4_bestGuess_j28 v1 mP mC mR r1 1 th mh_1 mz mset_1) else (if r1 = 0 then (pf_X4_bestGuess_j28 v1 mP mC mR r1 2 th mh_1 mz mset_1) else (pf_X4_bestGuess_j28 v1 mP mC mR r1 0 th mh_1 mz mset_1)))))
abbrev rm_X4_bestGuess : Room := { frames := 4, cells := 0, slots := 0, locals := 93 }
theorem inw_X4_bestGuess_X4 : ∀ w ∈ wsX40, w ∈ wsX4_bestGuess := by decide +kernel
theorem hdv_X4_best : yX4_best.cls = RX4 ∧ yX4_best.cls ≠ "java/lang/invoke/MethodHandle" ∧ yX4_best.cls ≠ "java/lang/invoke/VarHandle" ∧ (parseMethodDescriptor yX4_best.desc).map (fun d => d.parameters.length) = some 3 := by decide +kernel
set_option maxHeartbeats 4000000 in
set_option maxRecDepth 100000 in
theorem mt_X4_bestGuess {l : Launch} (hl : l.stackTraces = false) (D : va_G) (k : Nat → Nat) (cI cJ : ClassId) (th : Int32) (mP : Int32) (mC : Int32) (mR : Int32) (mal : Int32) (mhd : Int32) (mn : Int32) (mg : Nat → Int32) (mt : Nat → Int32) (mh : Nat → Int32) (mz : Nat → Int32) (mset : Nat → Int32) (mfr : Nat → Int32) (mma : Nat → Int32) (mde : Nat → Int32) (mls : Nat → Int32) (v1 : Int32) (r0 : Int32) (th0 : Int32) (mh0 : Nat → Int32) (mz0 : Nat → Int32) (mset0 : Nat → Int32) (hp : pf_X4_bestGuess th mP mC mR mal mn mg mt mh mz mset v1 = (some (r0, th0, mh0, mz0, mset0))) : gMi l yX4_bestGuess wsX4_bestGuess rm_X4_bestGuess D [(cI, .int), (cJ, .long)] (mW k cI th mP mC mR mal mhd mn mg mt mh mz mset mfr mma mde mls) [.ref (k 0), .int v1] 0 0 (fun r w => r = r0 ∧ w = mW k cI th0 mP mC mR mal mhd mn mg mt mh0 mz0 mset0 mfr mma mde mls) (fun _ _ => False) := by
  refine gMi_of (cc := cX4_bestGuess) (maxL := 3) (rt := .int) hl (by decide +kernel) rfl (Nat.le_of_ble_eq_true rfl) ?_
  intro p e s m args below meth c A Q C hnm ht RET OUT THR THRW
  have C : gC p l s m args meth c A D [(cI, .int), (cJ, .long)] 3 RX4 cX4_bestGuess wsX4_bestGuess := C
  refine gV_loc (lvs' := [(0, .ref (k 0)), (1, .int v1)]) [0, 1] rfl ?_
  unfold pf_X4_bestGuess at hp
  have J49 : ∀ (s0 : Int32) (th : Int32) (mh : Nat → Int32) (mz : Nat → Int32) (mset : Nat → Int32), pf_X4_bestGuess_j49 s0 th mh mz mset = (some (r0, th0, mh0, mz0, mset0)) → gV p l e rm_X4_bestGuess s m args below meth c A D 3 Q (mW k cI th mP mC mR mal mhd mn mg mt mh mz mset mfr mma mde mls) [(0, .ref (k 0))] 0 0 49 [.int s0] := by
    intro s0 th mh mz mset hp
    unfold pf_X4_bestGuess_j49 at hp
    obtain ⟨rfl, rfl, rfl, rfl, rfl⟩ := g_so5 hp
    exact RET _ _ _ _ _ _ dX4_bestGuess_49 (Nat.le_of_ble_eq_true rfl) (Nat.le_of_ble_eq_true rfl) rfl ⟨rfl, rfl⟩
  have J28 : ∀ (v2 : Int32) (s0 : Int32) (th : Int32) (mh : Nat → Int32) (mz : Nat → Int32) (mset : Nat → Int32), pf_X4_bestGuess_j28 v1 mP mC mR v2 s0 th mh mz mset = (some (r0, th0, mh0, mz0, mset0)) → gV p l e rm_X4_bestGuess s m args below meth c A D 3 Q (mW k cI th mP mC mR mal mhd mn mg mt mh mz mset mfr mma mde mls) [(0, .ref (k 0)), (1, .int v1), (2, .int v2)] 0 0 28 [.int s0, .ref (k 0)] := by
    intro v2 s0 th mh mz mset hp
    unfold pf_X4_bestGuess_j28 at hp
    refine gV_put (Cn := RX4) (T := TX4) (N := 16) (ws' := mW k cI s0 mP mC mR mal mhd mn mg mt mh mz mset mfr mma mde mls) C inw_X4_bestGuess_X4 tyX4_ok nmX4 0 rfl rfl 0 (by decide) (C.w 1 rfl) rfl rfl rfl rfl rfl (Nat.le_of_ble_eq_true rfl) dX4_bestGuess_28 rfl ?_
    refine gV_aload_n C dX4_bestGuess_31 rfl 0 rfl ?_
    refine gV_get (Cn := RX4) (T := TX4) (N := 16) C inw_X4_bestGuess_X4 0 rfl rfl 0 (by decide) (C.w 1 rfl) rfl rfl dX4_bestGuess_32 ?_
    refine gV_if_le (tgt := 42) C dX4_bestGuess_35 (by decide) (fun c35 => ?_) (fun c35 => ?_)
    · replace hp := g_ift hp c35
      refine gV_aload_n C dX4_bestGuess_42 rfl 0 rfl ?_
      refine gV_iload_n C dX4_bestGuess_43 rfl 1 rfl ?_
      refine gV_iconst (v := 0) C dX4_bestGuess_44 rfl ?_
      refine gV_iload_n C dX4_bestGuess_45 rfl 2 rfl ?_
      obtain ⟨r46q, mh_46, mz_46, hq46, hp⟩ := g_ob3 hp
      refine gV_calliS C (gV_runV (As := [.int v1, .int 0, .int v2]) (rest := []) C (mt_X4_best hl D k cI cJ s0 mP mC mR mal mhd mn mg mt mh mz mset mfr mma mde mls v1 0 v2 r46q mh_46 mz_46 hq46) (cwV 3 C.2.2.2.2.1 gX4_bestGuess_X4_best rfl rfl rfl hdv_X4_best ⟨Nat.le_of_ble_eq_true rfl, Nat.le_of_ble_eq_true rfl⟩) (gSub_S _) 0 rfl rfl rfl rfl (Nat.le_of_ble_eq_true rfl) dX4_bestGuess_46 ⟨Nat.le_of_ble_eq_true rfl, Nat.le_of_ble_eq_true rfl⟩) (fun _ _ hx => False.elim hx) (fun r46 w1 hw => ?_)
      obtain ⟨rfl, rfl⟩ := hw
      refine gV_loc [0] rfl ?_
      exact J49 r46 s0 mh_46 mz_46 mset hp
    · replace hp := g_iff hp c35
      refine gV_iconst (v := 0) C dX4_bestGuess_38 rfl ?_
      refine gV_goto (tgt := 49) C dX4_bestGuess_39 (by decide) ?_
      refine gV_loc [0] rfl ?_
      exact J49 0 s0 mh mz mset hp
  refine gV_aload_n C dX4_bestGuess_0 rfl 0 rfl ?_
  obtain ⟨r1q, mh_1, mset_1, hq1, hp⟩ := g_ob3 hp
  refine gV_calliS C (gV_runV (As := []) (rest := []) C (mt_X4_laysLeft hl D k cI cJ th mP mC mR mal mhd mn mg mt mh mz mset mfr mma mde mls r1q mh_1 mset_1 hq1) (cwV 0 C.2.2.2.2.1 gX4_bestGuess_X4_laysLeft rfl rfl rfl hdv_X4_laysLeft ⟨Nat.le_of_ble_eq_true rfl, Nat.le_of_ble_eq_true rfl⟩) (gSub_S _) 0 rfl rfl rfl rfl (Nat.le_of_ble_eq_true rfl) dX4_bestGuess_1 ⟨Nat.le_of_ble_eq_true rfl, Nat.le_of_ble_eq_true rfl⟩) (fun _ _ hx => False.elim hx) (fun r1 w1 hw => ?_)
  obtain ⟨rfl, rfl⟩ := hw
  refine gV_istore_n (lvs' := [(2, .int r1), (0, .ref (k 0)), (1, .int v1)]) C dX4_bestGuess_4 rfl (by decide) rfl ?_
  refine gV_aload_n C dX4_bestGuess_5 rfl 1 rfl ?_
  refine gV_iload_n C dX4_bestGuess_6 rfl 2 rfl ?_
  refine gV_iconst (v := 0) C dX4_bestGuess_7 rfl ?_
  refine gV_iconst (v := 2) C dX4_bestGuess_8 rfl ?_
  obtain ⟨r9q, hq9, hp⟩ := g_ob1 hp
  refine gV_calliE C (gV_runS (As := [.int v1, .int 0, .int 2]) (rest := [.ref (k 0)]) C (mt_X4_in hl D cI cJ v1 0 2 r9q hq9) (va_cwS 3 C.2.2.2.2.1 gX4_bestGuess_X4_in rfl rfl rfl hds_X4_in ⟨Nat.le_of_ble_eq_true rfl, Nat.le_of_ble_eq_true rfl⟩) (gSub_E _) rfl rfl (Nat.le_of_ble_eq_true rfl) dX4_bestGuess_9 ⟨Nat.le_of_ble_eq_true rfl, Nat.le_of_ble_eq_true rfl⟩) (fun _ _ hx => False.elim hx) (fun r9 w1 hw => ?_)
  obtain ⟨rfl, rfl⟩ := hw
  refine ⟨rfl, ?_⟩
  refine gV_if_ne (tgt := 19) C dX4_bestGuess_12 (by decide) (fun c12 => ?_) (fun c12 => ?_)
  · replace hp := g_iff hp c12
    refine gV_iload_n C dX4_bestGuess_19 rfl 0 rfl ?_
    refine gV_if_ne (tgt := 27) C dX4_bestGuess_20 (by decide) (fun c20 => ?_) (fun c20 => ?_)
    · replace hp := g_iff hp c20
      refine gV_iconst (v := 0) C dX4_bestGuess_27 rfl ?_
      refine gV_loc [1, 2, 0] rfl ?_
      exact J28 r1 0 th mh_1 mz mset_1 hp
    · replace hp := g_ift hp c20
      refine gV_iconst (v := 2) C dX4_bestGuess_23 rfl ?_
      refine gV_goto (tgt := 28) C dX4_bestGuess_24 (by decide) ?_
      refine gV_loc [1, 2, 0] rfl ?_
      exact J28 r1 2 th mh_1 mz mset_1 hp
  · replace hp := g_ift hp c12
    refine gV_iconst (v := 1) C dX4_bestGuess_15 rfl ?_
    refine gV_goto (tgt := 28) C dX4_bestGuess_16 (by decide) ?_
    refine gV_loc [1, 2, 0] rfl ?_
    exact J28 r1 1 th mh_1 mz mset_1 hp
def pf_X4_guessesNeeded_j246  (kL120 : Int32 → Int32 → Int32 → (Nat → Int32) → (Nat → Int32) → (Nat → Int32) → (Nat → Int32) → (Nat → Int32) → Option (Int32 × Int32 × (Nat → Int32) × (Nat → Int32) × (Nat → Int32) × (Nat → Int32) × (Nat → Int32) × (Nat → Int32))) (v2 : Int32) (v3 : Int32) (v7 : Int32) (mh : Nat → Int32) (mset : Nat → Int32) (mfr : Nat → Int32) (mma : Nat → Int32) (mde : Nat → Int32) : Option (Int32 × Int32 × (Nat → Int32) × (Nat → Int32) × (Nat → Int32) × (Nat → Int32) × (Nat → Int32) × (Nat → Int32)) := (kL120 v2 v3 (v7 + 1) mh mset mfr mma mde)
def pf_X4_guessesNeeded_j198  (kL144 : Int32 → Int32 → (Nat → Int32) → (Nat → Int32) → Option (Int32 × Int32 × (Nat → Int32) × (Nat → Int32) × (Nat → Int32) × (Nat → Int32) × (Nat → Int32) × (Nat → Int32))) (v2 : Int32) (v9 : Int32) (mh : Nat → Int32) (mset : Nat → Int32) : Option (Int32 × Int32 × (Nat → Int32) × (Nat → Int32) × (Nat → Int32) × (Nat → Int32) × (Nat → Int32) × (Nat → Int32)) := (kL144 v2 (v9 + 1) mh mset)
def pf_X4_guessesNeeded_L144 (mP : Int32) (mC : Int32) (v5 : Int32) (v6 : Int32) (kL120 : Int32 → Int32 → Int32 → (Nat → Int32) → (Nat → Int32) → (Nat → Int32) → (Nat → Int32) → (Nat → Int32) → Option (Int32 × Int32 × (Nat → Int32) × (Nat → Int32) × (Nat → Int32) × (Nat → Int32) × (Nat → Int32) × (Nat → Int32))) (v3 : Int32) (v7 : Int32) (v8 : Int32) (mfr : Nat → Int32) (mma : Nat → Int32) (mde : Nat → Int32) : Nat → Int32 → Int32 → (Nat → Int32) → (Nat → Int32) → Option (Int32 × Int32 × (Nat → Int32) × (Nat → Int32) × (Nat → Int32) × (Nat → Int32) × (Nat → Int32) × (Nat → Int32))
  | 0, _, _, _, _ => none
  | n144 + 1, v2, v9, mh, mset => (gi v5 700 (gi v5 700 (if ((mfr v5.toNatClampNeg) + (mma v5.toNatClampNeg)) ≤ v9 then (if v2 ≤ v8 then (pf_X4_guessesNeeded_j246 kL120 v2 v3 v7 mh mset mfr mma mde) else (gi v3 700 (gi v3 700 (gi v5 700 (gi v3 700 (pf_X4_guessesNeeded_j246 kL120 v2 (v3 + 1) v7 mh mset (upd mfr v3.toNatClampNeg v8) (upd mma v3.toNatClampNeg (v2 - v8)) (upd mde v3.toNatClampNeg ((mde v5.toNatClampNeg) + 1)))))))) else (gi v9 2048 (ob2 (pf_X4_markOfRows mP mC mh v6 (mset v9.toNatClampNeg)) fun r174 mh_174 => (if r174 = v7 then (gi v9 2048 (gi v2 2048 (pf_X4_guessesNeeded_j198 (fun v2 v9 mh mset => pf_X4_guessesNeeded_L144 mP mC v5 v6 kL120 v3 v7 v8 mfr mma mde n144 v2 v9 mh mset) (v2 + 1) v9 mh_174 (upd mset v2.toNatClampNeg (mset v9.toNatClampNeg))))) else (pf_X4_guessesNeeded_j198 (fun v2 v9 mh mset => pf_X4_guessesNeeded_L144 mP mC v5 v6 kL120 v3 v7 v8 mfr mma mde n144 v2 v9 mh mset) v2 v9 mh_174 mset)))))))
def pf_X4_guessesNeeded_L120 (mP : Int32) (mC : Int32) (kL64 : Int32 → Int32 → Int32 → Int32 → (Nat → Int32) → (Nat → Int32) → (Nat → Int32) → (Nat → Int32) → (Nat → Int32) → (Nat → Int32) → Option (Int32 × Int32 × (Nat → Int32) × (Nat → Int32) × (Nat → Int32) × (Nat → Int32) × (Nat → Int32) × (Nat → Int32))) (v4 : Int32) (v5 : Int32) (v6 : Int32) (mz : Nat → Int32) : Nat → Int32 → Int32 → Int32 → (Nat → Int32) → (Nat → Int32) → (Nat → Int32) → (Nat → Int32) → (Nat → Int32) → Option (Int32 × Int32 × (Nat → Int32) × (Nat → Int32) × (Nat → Int32) × (Nat → Int32) × (Nat → Int32) × (Nat → Int32))
  | 0, _, _, _, _, _, _, _, _ => none
  | n120 + 1, v2, v3, v7, mh, mset, mfr, mma, mde => (if (10 * mP) ≤ v7 then (kL64 v2 v3 v4 (v5 + 1) mh mz mset mfr mma mde) else (gi v5 700 (pf_X4_guessesNeeded_L144 mP mC v5 v6 (fun v2 v3 v7 mh mset mfr mma mde => pf_X4_guessesNeeded_L120 mP mC kL64 v4 v5 v6 mz n120 v2 v3 v7 mh mset mfr mma mde) v3 v7 v2 mfr mma mde 100000 v2 (mfr v5.toNatClampNeg) mh mset)))
def pf_X4_guessesNeeded_j115 (mP : Int32) (mC : Int32) (kL64 : Int32 → Int32 → Int32 → Int32 → (Nat → Int32) → (Nat → Int32) → (Nat → Int32) → (Nat → Int32) → (Nat → Int32) → (Nat → Int32) → Option (Int32 × Int32 × (Nat → Int32) × (Nat → Int32) × (Nat → Int32) × (Nat → Int32) × (Nat → Int32) × (Nat → Int32))) (v2 : Int32) (v3 : Int32) (v5 : Int32) (v6 : Int32) (s0 : Int32) (mh : Nat → Int32) (mz : Nat → Int32) (mset : Nat → Int32) (mfr : Nat → Int32) (mma : Nat → Int32) (mde : Nat → Int32) : Option (Int32 × Int32 × (Nat → Int32) × (Nat → Int32) × (Nat → Int32) × (Nat → Int32) × (Nat → Int32) × (Nat → Int32)) := (pf_X4_guessesNeeded_L120 mP mC kL64 s0 v5 v6 mz 100000 v2 v3 0 mh mset mfr mma mde)
def pf_X4_guessesNeeded_L64 (mP : Int32) (mC : Int32) (mR : Int32) (th : Int32) : Nat → Int32 → Int32 → Int32 → Int32 → (Nat → Int32) → (Nat → Int32) → (Nat → Int32) → (Nat → Int32) → (Nat → Int32) → (Nat → Int32) → Option (Int32 × Int32 × (Nat → Int32) × (Nat → Int32) × (Nat → Int32) × (Nat → Int32) × (Nat → Int32) × (Nat → Int32))
  | 0, _, _, _, _, _, _, _, _, _, _ => none
  | n64 + 1, v2, v3, v4, v5, mh, mz, mset, mfr, mma, mde => (if v3 ≤ v5 then (some (v4, th, mh, mz, mset, mfr, mma, mde)) else (gi v5 700 (gi v5 700 (ob3 (pf_X4_best mP mC mR mh mz mset 0 (mfr v5.toNatClampNeg) (mma v5.toNatClampNeg)) fun r86 mh_86 mz_86 => (gi v5 700 (if (mde v5.toNatClampNeg) ≤ v4 then (pf_X4_guessesNeeded_j115 mP mC (fun v2 v3 v4 v5 mh mz mset mfr mma mde => pf_X4_guessesNeeded_L64 mP mC mR th n64 v2 v3 v4 v5 mh mz mset mfr mma mde) v2 v3 v5 r86 v4 mh_86 mz_86 mset mfr mma mde) else (gi v5 700 (pf_X4_guessesNeeded_j115 mP mC (fun v2 v3 v4 v5 mh mz mset mfr mma mde => pf_X4_guessesNeeded_L64 mP mC mR th n64 v2 v3 v4 v5 mh mz mset mfr mma mde) v2 v3 v5 r86 (mde v5.toNatClampNeg) mh_86 mz_86 mset mfr mma mde))))))))
def pf_X4_guessesNeeded_j21 (mP : Int32) (mC : Int32) (mR : Int32) (v1 : Int32) (s0 : Int32) (th : Int32) (mh : Nat → Int32) (mz : Nat → Int32) (mset : Nat → Int32) (mfr : Nat → Int32) (mma : Nat → Int32) (mde : Nat → Int32) : Option (Int32 × Int32 × (Nat → Int32) × (Nat → Int32) × (Nat → Int32) × (Nat → Int32) × (Nat → Int32) × (Nat → Int32)) := (if s0 ≤ 0 then (gi 0 700 (gi 0 700 (gi 0 700 (pf_X4_guessesNeeded_L64 mP mC mR s0 100000 v1 1 0 0 mh mz mset (upd mfr (0 : Int32).toNatClampNeg 0) (upd mma (0 : Int32).toNatClampNeg v1) (upd mde (0 : Int32).toNatClampNeg 1))))) else (some (0, s0, mh, mz, mset, mfr, mma, mde)))
def pf_X4_guessesNeeded_j16 (mP : Int32) (mC : Int32) (mR : Int32) (v1 : Int32) (th : Int32) (mh : Nat → Int32) (mz : Nat → Int32) (mset : Nat → Int32) (mfr : Nat → Int32) (mma : Nat → Int32) (mde : Nat → Int32) : Option (Int32 × Int32 × (Nat → Int32) × (Nat → Int32) × (Nat → Int32) × (Nat → Int32) × (Nat → Int32) × (Nat → Int32)) := (pf_X4_guessesNeeded_j21 mP mC mR v1 1 th mh mz mset mfr mma mde)
def pf_X4_guessesNeeded  (th : Int32) (mP : Int32) (mC : Int32) (mR : Int32) (mal : Int32) (mn : Int32) (mg : Nat → Int32) (mt : Nat → Int32) (mh : Nat → Int32) (mz : Nat → Int32) (mset : Nat → Int32) (mfr : Nat → Int32) (mma : Nat → Int32) (mde : Nat → Int32)  : Option (Int32 × Int32 × (Nat → Int32) × (Nat → Int32) × (Nat → Int32) × (Nat → Int32) × (Nat → Int32) × (Nat → Int32)) := (ob3 (pf_X4_laysLeft mP mC mR mal mn mg mt mh mset) fun r1 mh_1 mset_1 => (if r1 = 0 then (pf_X4_guessesNeeded_j16 mP mC mR r1 th mh_1 mz mset_1 mfr mma mde) else (if r1 ≤ 24 then (pf_X4_guessesNeeded_j21 mP mC mR r1 0 th mh_1 mz mset_1 mfr mma mde) else (pf_X4_guessesNeeded_j16 mP mC mR r1 th mh_1 mz mset_1 mfr mma mde))))
abbrev rm_X4_guessesNeeded : Room := { frames := 4, cells := 0, slots := 0, locals := 93 }
theorem inw_X4_guessesNeeded_X4 : ∀ w ∈ wsX40, w ∈ wsX4_guessesNeeded := by decide +kernel
set_option maxHeartbeats 4000000 in
set_option maxRecDepth 100000 in
theorem mt_X4_guessesNeeded {l : Launch} (hl : l.stackTraces = false) (D : va_G) (k : Nat → Nat) (cI cJ : ClassId) (th : Int32) (mP : Int32) (mC : Int32) (mR : Int32) (mal : Int32) (mhd : Int32) (mn : Int32) (mg : Nat → Int32) (mt : Nat → Int32) (mh : Nat → Int32) (mz : Nat → Int32) (mset : Nat → Int32) (mfr : Nat → Int32) (mma : Nat → Int32) (mde : Nat → Int32) (mls : Nat → Int32)  (r0 : Int32) (th0 : Int32) (mh0 : Nat → Int32) (mz0 : Nat → Int32) (mset0 : Nat → Int32) (mfr0 : Nat → Int32) (mma0 : Nat → Int32) (mde0 : Nat → Int32) (hp : pf_X4_guessesNeeded th mP mC mR mal mn mg mt mh mz mset mfr mma mde = (some (r0, th0, mh0, mz0, mset0, mfr0, mma0, mde0))) : gMi l yX4_guessesNeeded wsX4_guessesNeeded rm_X4_guessesNeeded D [(cI, .int), (cJ, .long)] (mW k cI th mP mC mR mal mhd mn mg mt mh mz mset mfr mma mde mls) [.ref (k 0)] 0 0 (fun r w => r = r0 ∧ w = mW k cI th0 mP mC mR mal mhd mn mg mt mh0 mz0 mset0 mfr0 mma0 mde0 mls) (fun _ _ => False) := by
  refine gMi_of (cc := cX4_guessesNeeded) (maxL := 10) (rt := .int) hl (by decide +kernel) rfl (Nat.le_of_ble_eq_true rfl) ?_
  intro p e s m args below meth c A Q C hnm ht RET OUT THR THRW
  have C : gC p l s m args meth c A D [(cI, .int), (cJ, .long)] 10 RX4 cX4_guessesNeeded wsX4_guessesNeeded := C
  refine gV_loc (lvs' := [(0, .ref (k 0))]) [0] rfl ?_
  unfold pf_X4_guessesNeeded at hp
  have L64 : ∀ (th : Int32) (n64 : Nat) (v2 : Int32) (v3 : Int32) (v4 : Int32) (v5 : Int32) (mh : Nat → Int32) (mz : Nat → Int32) (mset : Nat → Int32) (mfr : Nat → Int32) (mma : Nat → Int32) (mde : Nat → Int32), pf_X4_guessesNeeded_L64 mP mC mR th n64 v2 v3 v4 v5 mh mz mset mfr mma mde = (some (r0, th0, mh0, mz0, mset0, mfr0, mma0, mde0)) → gV p l e rm_X4_guessesNeeded s m args below meth c A D 10 Q (mW k cI th mP mC mR mal mhd mn mg mt mh mz mset mfr mma mde mls) [(0, .ref (k 0)), (2, .int v2), (3, .int v3), (4, .int v4), (5, .int v5)] 0 0 64 [] := by
    intro th n64
    induction n64 with
    | zero => intro v2 v3 v4 v5 mh mz mset mfr mma mde hp; exact g_none hp
    | succ n64 ih64 =>
      intro v2 v3 v4 v5 mh mz mset mfr mma mde hp
      rw [pf_X4_guessesNeeded_L64.eq_2] at hp
      have L120 : ∀ (v4 : Int32) (v5 : Int32) (v6 : Int32) (mz : Nat → Int32) (n120 : Nat) (v2 : Int32) (v3 : Int32) (v7 : Int32) (mh : Nat → Int32) (mset : Nat → Int32) (mfr : Nat → Int32) (mma : Nat → Int32) (mde : Nat → Int32), pf_X4_guessesNeeded_L120 mP mC (fun v2 v3 v4 v5 mh mz mset mfr mma mde => pf_X4_guessesNeeded_L64 mP mC mR th n64 v2 v3 v4 v5 mh mz mset mfr mma mde) v4 v5 v6 mz n120 v2 v3 v7 mh mset mfr mma mde = (some (r0, th0, mh0, mz0, mset0, mfr0, mma0, mde0)) → gV p l e rm_X4_guessesNeeded s m args below meth c A D 10 Q (mW k cI th mP mC mR mal mhd mn mg mt mh mz mset mfr mma mde mls) [(0, .ref (k 0)), (2, .int v2), (3, .int v3), (4, .int v4), (5, .int v5), (6, .int v6), (7, .int v7)] 0 0 120 [] := by
        intro v4 v5 v6 mz n120
        induction n120 with
        | zero => intro v2 v3 v7 mh mset mfr mma mde hp; exact g_none hp
        | succ n120 ih120 =>
          intro v2 v3 v7 mh mset mfr mma mde hp
          rw [pf_X4_guessesNeeded_L120.eq_2] at hp
          have J246 : ∀ (v2 : Int32) (v3 : Int32) (v7 : Int32) (mh : Nat → Int32) (mset : Nat → Int32) (mfr : Nat → Int32) (mma : Nat → Int32) (mde : Nat → Int32), pf_X4_guessesNeeded_j246 (fun v2 v3 v7 mh mset mfr mma mde => pf_X4_guessesNeeded_L120 mP mC (fun v2 v3 v4 v5 mh mz mset mfr mma mde => pf_X4_guessesNeeded_L64 mP mC mR th n64 v2 v3 v4 v5 mh mz mset mfr mma mde) v4 v5 v6 mz n120 v2 v3 v7 mh mset mfr mma mde) v2 v3 v7 mh mset mfr mma mde = (some (r0, th0, mh0, mz0, mset0, mfr0, mma0, mde0)) → gV p l e rm_X4_guessesNeeded s m args below meth c A D 10 Q (mW k cI th mP mC mR mal mhd mn mg mt mh mz mset mfr mma mde mls) [(0, .ref (k 0)), (2, .int v2), (3, .int v3), (4, .int v4), (5, .int v5), (6, .int v6), (7, .int v7)] 0 0 246 [] := by
            intro v2 v3 v7 mh mset mfr mma mde hp
            unfold pf_X4_guessesNeeded_j246 at hp
            refine gV_iinc (v := (v7 + 1)) (lvs' := [(7, .int (v7 + 1)), (0, .ref (k 0)), (2, .int v2), (3, .int v3), (4, .int v4), (5, .int v5), (6, .int v6)]) C dX4_guessesNeeded_246 6 rfl rfl (by decide) rfl ?_
            refine gV_goto (tgt := 120) C dX4_guessesNeeded_249 (by decide) ?_
            refine gV_loc [1, 2, 3, 4, 5, 6, 0] rfl ?_
            exact ih120 v2 v3 (v7 + 1) mh mset mfr mma mde hp
          have L144 : ∀ (v3 : Int32) (v7 : Int32) (v8 : Int32) (mfr : Nat → Int32) (mma : Nat → Int32) (mde : Nat → Int32) (n144 : Nat) (v2 : Int32) (v9 : Int32) (mh : Nat → Int32) (mset : Nat → Int32), pf_X4_guessesNeeded_L144 mP mC v5 v6 (fun v2 v3 v7 mh mset mfr mma mde => pf_X4_guessesNeeded_L120 mP mC (fun v2 v3 v4 v5 mh mz mset mfr mma mde => pf_X4_guessesNeeded_L64 mP mC mR th n64 v2 v3 v4 v5 mh mz mset mfr mma mde) v4 v5 v6 mz n120 v2 v3 v7 mh mset mfr mma mde) v3 v7 v8 mfr mma mde n144 v2 v9 mh mset = (some (r0, th0, mh0, mz0, mset0, mfr0, mma0, mde0)) → gV p l e rm_X4_guessesNeeded s m args below meth c A D 10 Q (mW k cI th mP mC mR mal mhd mn mg mt mh mz mset mfr mma mde mls) [(0, .ref (k 0)), (2, .int v2), (3, .int v3), (4, .int v4), (5, .int v5), (6, .int v6), (7, .int v7), (8, .int v8), (9, .int v9)] 0 0 144 [] := by
            intro v3 v7 v8 mfr mma mde n144
            induction n144 with
            | zero => intro v2 v9 mh mset hp; exact g_none hp
            | succ n144 ih144 =>
              intro v2 v9 mh mset hp
              rw [pf_X4_guessesNeeded_L144.eq_2] at hp
              have J198 : ∀ (v2 : Int32) (v9 : Int32) (mh : Nat → Int32) (mset : Nat → Int32), pf_X4_guessesNeeded_j198 (fun v2 v9 mh mset => pf_X4_guessesNeeded_L144 mP mC v5 v6 (fun v2 v3 v7 mh mset mfr mma mde => pf_X4_guessesNeeded_L120 mP mC (fun v2 v3 v4 v5 mh mz mset mfr mma mde => pf_X4_guessesNeeded_L64 mP mC mR th n64 v2 v3 v4 v5 mh mz mset mfr mma mde) v4 v5 v6 mz n120 v2 v3 v7 mh mset mfr mma mde) v3 v7 v8 mfr mma mde n144 v2 v9 mh mset) v2 v9 mh mset = (some (r0, th0, mh0, mz0, mset0, mfr0, mma0, mde0)) → gV p l e rm_X4_guessesNeeded s m args below meth c A D 10 Q (mW k cI th mP mC mR mal mhd mn mg mt mh mz mset mfr mma mde mls) [(0, .ref (k 0)), (2, .int v2), (3, .int v3), (4, .int v4), (5, .int v5), (6, .int v6), (7, .int v7), (8, .int v8), (9, .int v9)] 0 0 198 [] := by
                intro v2 v9 mh mset hp
                unfold pf_X4_guessesNeeded_j198 at hp
                refine gV_iinc (v := (v9 + 1)) (lvs' := [(9, .int (v9 + 1)), (0, .ref (k 0)), (2, .int v2), (3, .int v3), (4, .int v4), (5, .int v5), (6, .int v6), (7, .int v7), (8, .int v8)]) C dX4_guessesNeeded_198 8 rfl rfl (by decide) rfl ?_
                refine gV_goto (tgt := 144) C dX4_guessesNeeded_201 (by decide) ?_
                refine gV_loc [1, 2, 3, 4, 5, 6, 7, 8, 0] rfl ?_
                exact ih144 v2 (v9 + 1) mh mset hp
              refine gV_iload C dX4_guessesNeeded_144 8 rfl ?_
              refine gV_aload_n C dX4_guessesNeeded_146 rfl 0 rfl ?_
              refine gV_get (Cn := RX4) (T := TX4) (N := 16) C inw_X4_guessesNeeded_X4 0 rfl rfl 12 (by decide) (C.w 2 rfl) rfl rfl dX4_guessesNeeded_147 ?_
              refine gV_iload C dX4_guessesNeeded_150 4 rfl ?_
              obtain ⟨hi152, hp⟩ := g_idx hp
              refine gV_iald C 6 rfl 0 rfl hi152 dX4_guessesNeeded_152 ?_
              refine gV_aload_n C dX4_guessesNeeded_153 rfl 0 rfl ?_
              refine gV_get (Cn := RX4) (T := TX4) (N := 16) C inw_X4_guessesNeeded_X4 0 rfl rfl 13 (by decide) (C.w 3 rfl) rfl rfl dX4_guessesNeeded_154 ?_
              refine gV_iload C dX4_guessesNeeded_157 4 rfl ?_
              obtain ⟨hi159, hp⟩ := g_idx hp
              refine gV_iald C 7 rfl 0 rfl hi159 dX4_guessesNeeded_159 ?_
              refine gV_iadd C dX4_guessesNeeded_160 ?_
              refine gV_icmp_ge (tgt := 204) C dX4_guessesNeeded_161 (by decide) (fun c161 => ?_) (fun c161 => ?_)
              · replace hp := g_ift hp c161
                refine gV_iload_n C dX4_guessesNeeded_204 rfl 1 rfl ?_
                refine gV_iload C dX4_guessesNeeded_205 7 rfl ?_
                refine gV_icmp_le (tgt := 246) C dX4_guessesNeeded_207 (by decide) (fun c207 => ?_) (fun c207 => ?_)
                · replace hp := g_ift hp c207
                  refine gV_loc [0, 1, 2, 3, 4, 5, 6] rfl ?_
                  exact J246 v2 v3 v7 mh mset mfr mma mde hp
                · replace hp := g_iff hp c207
                  refine gV_aload_n C dX4_guessesNeeded_210 rfl 0 rfl ?_
                  refine gV_get (Cn := RX4) (T := TX4) (N := 16) C inw_X4_guessesNeeded_X4 0 rfl rfl 12 (by decide) (C.w 2 rfl) rfl rfl dX4_guessesNeeded_211 ?_
                  refine gV_iload_n C dX4_guessesNeeded_214 rfl 2 rfl ?_
                  refine gV_iload C dX4_guessesNeeded_215 7 rfl ?_
                  obtain ⟨hi217, hp⟩ := g_idx hp
                  refine gV_iast (ws' := mW k cI th mP mC mR mal mhd mn mg mt mh mz mset (upd mfr v3.toNatClampNeg v8) mma mde mls) C 6 rfl 0 rfl hi217 dX4_guessesNeeded_217 rfl ?_
                  refine gV_aload_n C dX4_guessesNeeded_218 rfl 0 rfl ?_
                  refine gV_get (Cn := RX4) (T := TX4) (N := 16) C inw_X4_guessesNeeded_X4 0 rfl rfl 13 (by decide) (C.w 3 rfl) rfl rfl dX4_guessesNeeded_219 ?_
                  refine gV_iload_n C dX4_guessesNeeded_222 rfl 2 rfl ?_
                  refine gV_iload_n C dX4_guessesNeeded_223 rfl 1 rfl ?_
                  refine gV_iload C dX4_guessesNeeded_224 7 rfl ?_
                  refine gV_isub C dX4_guessesNeeded_226 ?_
                  obtain ⟨hi227, hp⟩ := g_idx hp
                  refine gV_iast (ws' := mW k cI th mP mC mR mal mhd mn mg mt mh mz mset (upd mfr v3.toNatClampNeg v8) (upd mma v3.toNatClampNeg (v2 - v8)) mde mls) C 7 rfl 0 rfl hi227 dX4_guessesNeeded_227 rfl ?_
                  refine gV_aload_n C dX4_guessesNeeded_228 rfl 0 rfl ?_
                  refine gV_get (Cn := RX4) (T := TX4) (N := 16) C inw_X4_guessesNeeded_X4 0 rfl rfl 14 (by decide) (C.w 4 rfl) rfl rfl dX4_guessesNeeded_229 ?_
                  refine gV_iload_n C dX4_guessesNeeded_232 rfl 2 rfl ?_
                  refine gV_aload_n C dX4_guessesNeeded_233 rfl 0 rfl ?_
                  refine gV_get (Cn := RX4) (T := TX4) (N := 16) C inw_X4_guessesNeeded_X4 0 rfl rfl 14 (by decide) (C.w 4 rfl) rfl rfl dX4_guessesNeeded_234 ?_
                  refine gV_iload C dX4_guessesNeeded_237 4 rfl ?_
                  obtain ⟨hi239, hp⟩ := g_idx hp
                  refine gV_iald C 8 rfl 0 rfl hi239 dX4_guessesNeeded_239 ?_
                  refine gV_iconst (v := 1) C dX4_guessesNeeded_240 rfl ?_
                  refine gV_iadd C dX4_guessesNeeded_241 ?_
                  obtain ⟨hi242, hp⟩ := g_idx hp
                  refine gV_iast (ws' := mW k cI th mP mC mR mal mhd mn mg mt mh mz mset (upd mfr v3.toNatClampNeg v8) (upd mma v3.toNatClampNeg (v2 - v8)) (upd mde v3.toNatClampNeg ((mde v5.toNatClampNeg) + 1)) mls) C 8 rfl 0 rfl hi242 dX4_guessesNeeded_242 rfl ?_
                  refine gV_iinc (v := (v3 + 1)) (lvs' := [(3, .int (v3 + 1)), (0, .ref (k 0)), (2, .int v2), (4, .int v4), (5, .int v5), (6, .int v6), (7, .int v7), (8, .int v8), (9, .int v9)]) C dX4_guessesNeeded_243 2 rfl rfl (by decide) rfl ?_
                  refine gV_loc [1, 2, 0, 3, 4, 5, 6] rfl ?_
                  exact J246 v2 (v3 + 1) v7 mh mset (upd mfr v3.toNatClampNeg v8) (upd mma v3.toNatClampNeg (v2 - v8)) (upd mde v3.toNatClampNeg ((mde v5.toNatClampNeg) + 1)) hp
              · replace hp := g_iff hp c161
                refine gV_aload_n C dX4_guessesNeeded_164 rfl 0 rfl ?_
                refine gV_iload C dX4_guessesNeeded_165 5 rfl ?_
                refine gV_aload_n C dX4_guessesNeeded_167 rfl 0 rfl ?_
                refine gV_get (Cn := RX4) (T := TX4) (N := 16) C inw_X4_guessesNeeded_X4 0 rfl rfl 11 (by decide) (C.w 6 rfl) rfl rfl dX4_guessesNeeded_168 ?_
                refine gV_iload C dX4_guessesNeeded_171 8 rfl ?_
                obtain ⟨hi173, hp⟩ := g_idx hp
                refine gV_iald C 5 rfl 0 rfl hi173 dX4_guessesNeeded_173 ?_
                obtain ⟨r174q, mh_174, hq174, hp⟩ := g_ob2 hp
                refine gV_calliS C (gV_runV (As := [.int v6, .int (mset v9.toNatClampNeg)]) (rest := []) C (mt_X4_markOfRows hl D k cI cJ th mP mC mR mal mhd mn mg mt mh mz mset mfr mma mde mls v6 (mset v9.toNatClampNeg) r174q mh_174 hq174) (cwV 2 C.2.2.2.2.1 gX4_guessesNeeded_X4_markOfRows rfl rfl rfl hdv_X4_markOfRows ⟨Nat.le_of_ble_eq_true rfl, Nat.le_of_ble_eq_true rfl⟩) (gSub_S _) 0 rfl rfl rfl rfl (Nat.le_of_ble_eq_true rfl) dX4_guessesNeeded_174 ⟨Nat.le_of_ble_eq_true rfl, Nat.le_of_ble_eq_true rfl⟩) (fun _ _ hx => False.elim hx) (fun r174 w1 hw => ?_)
                obtain ⟨rfl, rfl⟩ := hw
                refine gV_iload C dX4_guessesNeeded_177 6 rfl ?_
                refine gV_icmp_ne (tgt := 198) C dX4_guessesNeeded_179 (by decide) (fun c179 => ?_) (fun c179 => ?_)
                · replace hp := g_iff hp c179
                  exact J198 v2 v9 mh_174 mset hp
                · replace hp := g_ift hp c179
                  refine gV_aload_n C dX4_guessesNeeded_182 rfl 0 rfl ?_
                  refine gV_get (Cn := RX4) (T := TX4) (N := 16) C inw_X4_guessesNeeded_X4 0 rfl rfl 11 (by decide) (C.w 6 rfl) rfl rfl dX4_guessesNeeded_183 ?_
                  refine gV_iload_n C dX4_guessesNeeded_186 rfl 1 rfl ?_
                  refine gV_aload_n C dX4_guessesNeeded_187 rfl 0 rfl ?_
                  refine gV_get (Cn := RX4) (T := TX4) (N := 16) C inw_X4_guessesNeeded_X4 0 rfl rfl 11 (by decide) (C.w 6 rfl) rfl rfl dX4_guessesNeeded_188 ?_
                  refine gV_iload C dX4_guessesNeeded_191 8 rfl ?_
                  obtain ⟨hi193, hp⟩ := g_idx hp
                  refine gV_iald C 5 rfl 0 rfl hi193 dX4_guessesNeeded_193 ?_
                  obtain ⟨hi194, hp⟩ := g_idx hp
                  refine gV_iast (ws' := mW k cI th mP mC mR mal mhd mn mg mt mh_174 mz (upd mset v2.toNatClampNeg (mset v9.toNatClampNeg)) mfr mma mde mls) C 5 rfl 0 rfl hi194 dX4_guessesNeeded_194 rfl ?_
                  refine gV_iinc (v := (v2 + 1)) (lvs' := [(2, .int (v2 + 1)), (0, .ref (k 0)), (3, .int v3), (4, .int v4), (5, .int v5), (6, .int v6), (7, .int v7), (8, .int v8), (9, .int v9)]) C dX4_guessesNeeded_195 1 rfl rfl (by decide) rfl ?_
                  refine gV_loc [1, 0, 2, 3, 4, 5, 6, 7, 8] rfl ?_
                  exact J198 (v2 + 1) v9 mh_174 (upd mset v2.toNatClampNeg (mset v9.toNatClampNeg)) hp
          refine gV_iload C dX4_guessesNeeded_120 6 rfl ?_
          refine gV_bipush (v := 10) C dX4_guessesNeeded_122 rfl ?_
          refine gV_aload_n C dX4_guessesNeeded_124 rfl 0 rfl ?_
          refine gV_get (Cn := RX4) (T := TX4) (N := 16) C inw_X4_guessesNeeded_X4 0 rfl rfl 1 (by decide) (C.w 5 rfl) rfl rfl dX4_guessesNeeded_125 ?_
          refine gV_imul C dX4_guessesNeeded_128 ?_
          refine gV_icmp_ge (tgt := 252) C dX4_guessesNeeded_129 (by decide) (fun c129 => ?_) (fun c129 => ?_)
          · replace hp := g_ift hp c129
            refine gV_iinc (v := (v5 + 1)) (lvs' := [(5, .int (v5 + 1)), (0, .ref (k 0)), (2, .int v2), (3, .int v3), (4, .int v4), (6, .int v6), (7, .int v7)]) C dX4_guessesNeeded_252 4 rfl rfl (by decide) rfl ?_
            refine gV_goto (tgt := 64) C dX4_guessesNeeded_255 (by decide) ?_
            refine gV_loc [1, 2, 3, 4, 0] rfl ?_
            exact ih64 v2 v3 v4 (v5 + 1) mh mz mset mfr mma mde hp
          · replace hp := g_iff hp c129
            refine gV_iload_n C dX4_guessesNeeded_132 rfl 1 rfl ?_
            refine gV_istore (lvs' := [(8, .int v2), (0, .ref (k 0)), (2, .int v2), (3, .int v3), (4, .int v4), (5, .int v5), (6, .int v6), (7, .int v7)]) C dX4_guessesNeeded_133 (by decide) rfl ?_
            refine gV_aload_n C dX4_guessesNeeded_135 rfl 1 rfl ?_
            refine gV_get (Cn := RX4) (T := TX4) (N := 16) C inw_X4_guessesNeeded_X4 0 rfl rfl 12 (by decide) (C.w 2 rfl) rfl rfl dX4_guessesNeeded_136 ?_
            refine gV_iload C dX4_guessesNeeded_139 5 rfl ?_
            obtain ⟨hi141, hp⟩ := g_idx hp
            refine gV_iald C 6 rfl 0 rfl hi141 dX4_guessesNeeded_141 ?_
            refine gV_istore (lvs' := [(9, .int (mfr v5.toNatClampNeg)), (8, .int v2), (0, .ref (k 0)), (2, .int v2), (3, .int v3), (4, .int v4), (5, .int v5), (6, .int v6), (7, .int v7)]) C dX4_guessesNeeded_142 (by decide) rfl ?_
            refine gV_loc [2, 3, 4, 5, 6, 7, 8, 1, 0] rfl ?_
            exact L144 v3 v7 v2 mfr mma mde 100000 v2 (mfr v5.toNatClampNeg) mh mset hp
      have J115 : ∀ (v2 : Int32) (v3 : Int32) (v5 : Int32) (v6 : Int32) (s0 : Int32) (mh : Nat → Int32) (mz : Nat → Int32) (mset : Nat → Int32) (mfr : Nat → Int32) (mma : Nat → Int32) (mde : Nat → Int32), pf_X4_guessesNeeded_j115 mP mC (fun v2 v3 v4 v5 mh mz mset mfr mma mde => pf_X4_guessesNeeded_L64 mP mC mR th n64 v2 v3 v4 v5 mh mz mset mfr mma mde) v2 v3 v5 v6 s0 mh mz mset mfr mma mde = (some (r0, th0, mh0, mz0, mset0, mfr0, mma0, mde0)) → gV p l e rm_X4_guessesNeeded s m args below meth c A D 10 Q (mW k cI th mP mC mR mal mhd mn mg mt mh mz mset mfr mma mde mls) [(0, .ref (k 0)), (2, .int v2), (3, .int v3), (5, .int v5), (6, .int v6)] 0 0 115 [.int s0] := by
        intro v2 v3 v5 v6 s0 mh mz mset mfr mma mde hp
        unfold pf_X4_guessesNeeded_j115 at hp
        refine gV_istore (lvs' := [(4, .int s0), (0, .ref (k 0)), (2, .int v2), (3, .int v3), (5, .int v5), (6, .int v6)]) C dX4_guessesNeeded_115 (by decide) rfl ?_
        refine gV_iconst (v := 0) C dX4_guessesNeeded_117 rfl ?_
        refine gV_istore (lvs' := [(7, .int 0), (4, .int s0), (0, .ref (k 0)), (2, .int v2), (3, .int v3), (5, .int v5), (6, .int v6)]) C dX4_guessesNeeded_118 (by decide) rfl ?_
        refine gV_loc [2, 3, 4, 1, 5, 6, 0] rfl ?_
        exact L120 s0 v5 v6 mz 100000 v2 v3 0 mh mset mfr mma mde hp
      refine gV_iload C dX4_guessesNeeded_64 4 rfl ?_
      refine gV_iload_n C dX4_guessesNeeded_66 rfl 2 rfl ?_
      refine gV_icmp_ge (tgt := 258) C dX4_guessesNeeded_67 (by decide) (fun c67 => ?_) (fun c67 => ?_)
      · replace hp := g_ift hp c67
        refine gV_iload C dX4_guessesNeeded_258 3 rfl ?_
        obtain ⟨rfl, rfl, rfl, rfl, rfl, rfl, rfl, rfl⟩ := g_so8 hp
        exact RET _ _ _ _ _ _ dX4_guessesNeeded_260 (Nat.le_of_ble_eq_true rfl) (Nat.le_of_ble_eq_true rfl) rfl ⟨rfl, rfl⟩
      · replace hp := g_iff hp c67
        refine gV_aload_n C dX4_guessesNeeded_70 rfl 0 rfl ?_
        refine gV_iconst (v := 0) C dX4_guessesNeeded_71 rfl ?_
        refine gV_aload_n C dX4_guessesNeeded_72 rfl 0 rfl ?_
        refine gV_get (Cn := RX4) (T := TX4) (N := 16) C inw_X4_guessesNeeded_X4 0 rfl rfl 12 (by decide) (C.w 2 rfl) rfl rfl dX4_guessesNeeded_73 ?_
        refine gV_iload C dX4_guessesNeeded_76 4 rfl ?_
        obtain ⟨hi78, hp⟩ := g_idx hp
        refine gV_iald C 6 rfl 0 rfl hi78 dX4_guessesNeeded_78 ?_
        refine gV_aload_n C dX4_guessesNeeded_79 rfl 0 rfl ?_
        refine gV_get (Cn := RX4) (T := TX4) (N := 16) C inw_X4_guessesNeeded_X4 0 rfl rfl 13 (by decide) (C.w 3 rfl) rfl rfl dX4_guessesNeeded_80 ?_
        refine gV_iload C dX4_guessesNeeded_83 4 rfl ?_
        obtain ⟨hi85, hp⟩ := g_idx hp
        refine gV_iald C 7 rfl 0 rfl hi85 dX4_guessesNeeded_85 ?_
        obtain ⟨r86q, mh_86, mz_86, hq86, hp⟩ := g_ob3 hp
        refine gV_calliS C (gV_runV (As := [.int 0, .int (mfr v5.toNatClampNeg), .int (mma v5.toNatClampNeg)]) (rest := []) C (mt_X4_best hl D k cI cJ th mP mC mR mal mhd mn mg mt mh mz mset mfr mma mde mls 0 (mfr v5.toNatClampNeg) (mma v5.toNatClampNeg) r86q mh_86 mz_86 hq86) (cwV 3 C.2.2.2.2.1 gX4_guessesNeeded_X4_best rfl rfl rfl hdv_X4_best ⟨Nat.le_of_ble_eq_true rfl, Nat.le_of_ble_eq_true rfl⟩) (gSub_S _) 0 rfl rfl rfl rfl (Nat.le_of_ble_eq_true rfl) dX4_guessesNeeded_86 ⟨Nat.le_of_ble_eq_true rfl, Nat.le_of_ble_eq_true rfl⟩) (fun _ _ hx => False.elim hx) (fun r86 w1 hw => ?_)
        obtain ⟨rfl, rfl⟩ := hw
        refine gV_istore (lvs' := [(6, .int r86), (0, .ref (k 0)), (2, .int v2), (3, .int v3), (4, .int v4), (5, .int v5)]) C dX4_guessesNeeded_89 (by decide) rfl ?_
        refine gV_aload_n C dX4_guessesNeeded_91 rfl 1 rfl ?_
        refine gV_get (Cn := RX4) (T := TX4) (N := 16) C inw_X4_guessesNeeded_X4 0 rfl rfl 14 (by decide) (C.w 4 rfl) rfl rfl dX4_guessesNeeded_92 ?_
        refine gV_iload C dX4_guessesNeeded_95 5 rfl ?_
        obtain ⟨hi97, hp⟩ := g_idx hp
        refine gV_iald C 8 rfl 0 rfl hi97 dX4_guessesNeeded_97 ?_
        refine gV_iload C dX4_guessesNeeded_98 4 rfl ?_
        refine gV_icmp_le (tgt := 113) C dX4_guessesNeeded_100 (by decide) (fun c100 => ?_) (fun c100 => ?_)
        · replace hp := g_ift hp c100
          refine gV_iload C dX4_guessesNeeded_113 4 rfl ?_
          refine gV_loc [1, 2, 3, 5, 0] rfl ?_
          exact J115 v2 v3 v5 r86 v4 mh_86 mz_86 mset mfr mma mde hp
        · replace hp := g_iff hp c100
          refine gV_aload_n C dX4_guessesNeeded_103 rfl 1 rfl ?_
          refine gV_get (Cn := RX4) (T := TX4) (N := 16) C inw_X4_guessesNeeded_X4 0 rfl rfl 14 (by decide) (C.w 4 rfl) rfl rfl dX4_guessesNeeded_104 ?_
          refine gV_iload C dX4_guessesNeeded_107 5 rfl ?_
          obtain ⟨hi109, hp⟩ := g_idx hp
          refine gV_iald C 8 rfl 0 rfl hi109 dX4_guessesNeeded_109 ?_
          refine gV_goto (tgt := 115) C dX4_guessesNeeded_110 (by decide) ?_
          refine gV_loc [1, 2, 3, 5, 0] rfl ?_
          exact J115 v2 v3 v5 r86 (mde v5.toNatClampNeg) mh_86 mz_86 mset mfr mma mde hp
  have J21 : ∀ (v1 : Int32) (s0 : Int32) (th : Int32) (mh : Nat → Int32) (mz : Nat → Int32) (mset : Nat → Int32) (mfr : Nat → Int32) (mma : Nat → Int32) (mde : Nat → Int32), pf_X4_guessesNeeded_j21 mP mC mR v1 s0 th mh mz mset mfr mma mde = (some (r0, th0, mh0, mz0, mset0, mfr0, mma0, mde0)) → gV p l e rm_X4_guessesNeeded s m args below meth c A D 10 Q (mW k cI th mP mC mR mal mhd mn mg mt mh mz mset mfr mma mde mls) [(0, .ref (k 0)), (1, .int v1)] 0 0 21 [.int s0, .ref (k 0)] := by
    intro v1 s0 th mh mz mset mfr mma mde hp
    unfold pf_X4_guessesNeeded_j21 at hp
    refine gV_put (Cn := RX4) (T := TX4) (N := 16) (ws' := mW k cI s0 mP mC mR mal mhd mn mg mt mh mz mset mfr mma mde mls) C inw_X4_guessesNeeded_X4 tyX4_ok nmX4 0 rfl rfl 0 (by decide) (C.w 1 rfl) rfl rfl rfl rfl rfl (Nat.le_of_ble_eq_true rfl) dX4_guessesNeeded_21 rfl ?_
    refine gV_aload_n C dX4_guessesNeeded_24 rfl 0 rfl ?_
    refine gV_get (Cn := RX4) (T := TX4) (N := 16) C inw_X4_guessesNeeded_X4 0 rfl rfl 0 (by decide) (C.w 1 rfl) rfl rfl dX4_guessesNeeded_25 ?_
    refine gV_if_le (tgt := 33) C dX4_guessesNeeded_28 (by decide) (fun c28 => ?_) (fun c28 => ?_)
    · replace hp := g_ift hp c28
      refine gV_aload_n C dX4_guessesNeeded_33 rfl 0 rfl ?_
      refine gV_get (Cn := RX4) (T := TX4) (N := 16) C inw_X4_guessesNeeded_X4 0 rfl rfl 12 (by decide) (C.w 2 rfl) rfl rfl dX4_guessesNeeded_34 ?_
      refine gV_iconst (v := 0) C dX4_guessesNeeded_37 rfl ?_
      refine gV_iconst (v := 0) C dX4_guessesNeeded_38 rfl ?_
      obtain ⟨hi39, hp⟩ := g_idx hp
      refine gV_iast (ws' := mW k cI s0 mP mC mR mal mhd mn mg mt mh mz mset (upd mfr (0 : Int32).toNatClampNeg 0) mma mde mls) C 6 rfl 0 rfl hi39 dX4_guessesNeeded_39 rfl ?_
      refine gV_aload_n C dX4_guessesNeeded_40 rfl 0 rfl ?_
      refine gV_get (Cn := RX4) (T := TX4) (N := 16) C inw_X4_guessesNeeded_X4 0 rfl rfl 13 (by decide) (C.w 3 rfl) rfl rfl dX4_guessesNeeded_41 ?_
      refine gV_iconst (v := 0) C dX4_guessesNeeded_44 rfl ?_
      refine gV_iload_n C dX4_guessesNeeded_45 rfl 1 rfl ?_
      obtain ⟨hi46, hp⟩ := g_idx hp
      refine gV_iast (ws' := mW k cI s0 mP mC mR mal mhd mn mg mt mh mz mset (upd mfr (0 : Int32).toNatClampNeg 0) (upd mma (0 : Int32).toNatClampNeg v1) mde mls) C 7 rfl 0 rfl hi46 dX4_guessesNeeded_46 rfl ?_
      refine gV_aload_n C dX4_guessesNeeded_47 rfl 0 rfl ?_
      refine gV_get (Cn := RX4) (T := TX4) (N := 16) C inw_X4_guessesNeeded_X4 0 rfl rfl 14 (by decide) (C.w 4 rfl) rfl rfl dX4_guessesNeeded_48 ?_
      refine gV_iconst (v := 0) C dX4_guessesNeeded_51 rfl ?_
      refine gV_iconst (v := 1) C dX4_guessesNeeded_52 rfl ?_
      obtain ⟨hi53, hp⟩ := g_idx hp
      refine gV_iast (ws' := mW k cI s0 mP mC mR mal mhd mn mg mt mh mz mset (upd mfr (0 : Int32).toNatClampNeg 0) (upd mma (0 : Int32).toNatClampNeg v1) (upd mde (0 : Int32).toNatClampNeg 1) mls) C 8 rfl 0 rfl hi53 dX4_guessesNeeded_53 rfl ?_
      refine gV_iload_n C dX4_guessesNeeded_54 rfl 1 rfl ?_
      refine gV_istore_n (lvs' := [(2, .int v1), (0, .ref (k 0)), (1, .int v1)]) C dX4_guessesNeeded_55 rfl (by decide) rfl ?_
      refine gV_iconst (v := 1) C dX4_guessesNeeded_56 rfl ?_
      refine gV_istore_n (lvs' := [(3, .int 1), (2, .int v1), (0, .ref (k 0)), (1, .int v1)]) C dX4_guessesNeeded_57 rfl (by decide) rfl ?_
      refine gV_iconst (v := 0) C dX4_guessesNeeded_58 rfl ?_
      refine gV_istore (lvs' := [(4, .int 0), (3, .int 1), (2, .int v1), (0, .ref (k 0)), (1, .int v1)]) C dX4_guessesNeeded_59 (by decide) rfl ?_
      refine gV_iconst (v := 0) C dX4_guessesNeeded_61 rfl ?_
      refine gV_istore (lvs' := [(5, .int 0), (4, .int 0), (3, .int 1), (2, .int v1), (0, .ref (k 0)), (1, .int v1)]) C dX4_guessesNeeded_62 (by decide) rfl ?_
      refine gV_loc [4, 3, 2, 1, 0] rfl ?_
      exact L64 s0 100000 v1 1 0 0 mh mz mset (upd mfr (0 : Int32).toNatClampNeg 0) (upd mma (0 : Int32).toNatClampNeg v1) (upd mde (0 : Int32).toNatClampNeg 1) hp
    · replace hp := g_iff hp c28
      refine gV_iconst (v := 0) C dX4_guessesNeeded_31 rfl ?_
      obtain ⟨rfl, rfl, rfl, rfl, rfl, rfl, rfl, rfl⟩ := g_so8 hp
      exact RET _ _ _ _ _ _ dX4_guessesNeeded_32 (Nat.le_of_ble_eq_true rfl) (Nat.le_of_ble_eq_true rfl) rfl ⟨rfl, rfl⟩
  have J16 : ∀ (v1 : Int32) (th : Int32) (mh : Nat → Int32) (mz : Nat → Int32) (mset : Nat → Int32) (mfr : Nat → Int32) (mma : Nat → Int32) (mde : Nat → Int32), pf_X4_guessesNeeded_j16 mP mC mR v1 th mh mz mset mfr mma mde = (some (r0, th0, mh0, mz0, mset0, mfr0, mma0, mde0)) → gV p l e rm_X4_guessesNeeded s m args below meth c A D 10 Q (mW k cI th mP mC mR mal mhd mn mg mt mh mz mset mfr mma mde mls) [(0, .ref (k 0)), (1, .int v1)] 0 0 16 [.ref (k 0)] := by
    intro v1 th mh mz mset mfr mma mde hp
    unfold pf_X4_guessesNeeded_j16 at hp
    refine gV_iconst (v := 1) C dX4_guessesNeeded_16 rfl ?_
    refine gV_goto (tgt := 21) C dX4_guessesNeeded_17 (by decide) ?_
    exact J21 v1 1 th mh mz mset mfr mma mde hp
  refine gV_aload_n C dX4_guessesNeeded_0 rfl 0 rfl ?_
  obtain ⟨r1q, mh_1, mset_1, hq1, hp⟩ := g_ob3 hp
  refine gV_calliS C (gV_runV (As := []) (rest := []) C (mt_X4_laysLeft hl D k cI cJ th mP mC mR mal mhd mn mg mt mh mz mset mfr mma mde mls r1q mh_1 mset_1 hq1) (cwV 0 C.2.2.2.2.1 gX4_guessesNeeded_X4_laysLeft rfl rfl rfl hdv_X4_laysLeft ⟨Nat.le_of_ble_eq_true rfl, Nat.le_of_ble_eq_true rfl⟩) (gSub_S _) 0 rfl rfl rfl rfl (Nat.le_of_ble_eq_true rfl) dX4_guessesNeeded_1 ⟨Nat.le_of_ble_eq_true rfl, Nat.le_of_ble_eq_true rfl⟩) (fun _ _ hx => False.elim hx) (fun r1 w1 hw => ?_)
  obtain ⟨rfl, rfl⟩ := hw
  refine gV_istore_n (lvs' := [(1, .int r1), (0, .ref (k 0))]) C dX4_guessesNeeded_4 rfl (by decide) rfl ?_
  refine gV_aload_n C dX4_guessesNeeded_5 rfl 1 rfl ?_
  refine gV_iload_n C dX4_guessesNeeded_6 rfl 0 rfl ?_
  refine gV_if_eq (tgt := 16) C dX4_guessesNeeded_7 (by decide) (fun c7 => ?_) (fun c7 => ?_)
  · replace hp := g_ift hp c7
    refine gV_loc [1, 0] rfl ?_
    exact J16 r1 th mh_1 mz mset_1 mfr mma mde hp
  · replace hp := g_iff hp c7
    refine gV_iload_n C dX4_guessesNeeded_10 rfl 0 rfl ?_
    refine gV_bipush (v := 24) C dX4_guessesNeeded_11 rfl ?_
    refine gV_icmp_le (tgt := 20) C dX4_guessesNeeded_13 (by decide) (fun c13 => ?_) (fun c13 => ?_)
    · replace hp := g_ift hp c13
      refine gV_iconst (v := 0) C dX4_guessesNeeded_20 rfl ?_
      refine gV_loc [1, 0] rfl ?_
      exact J21 r1 0 th mh_1 mz mset_1 mfr mma mde hp
    · replace hp := g_iff hp c13
      refine gV_loc [1, 0] rfl ?_
      exact J16 r1 th mh_1 mz mset_1 mfr mma mde hp
def pf_X4_bits_L4  : Nat → Int32 → Int32 → Option (Int32)
  | 0, _, _ => none
  | n4 + 1, v1, v2 => (if v2 ≤ 0 then (some v1) else (pf_X4_bits_L4 n4 (v1 + (v2 - v2 / 2 * 2)) (v2 / 2)))
def pf_X4_bits   (v0 : Int32) : Option (Int32) := (pf_X4_bits_L4 100000 0 v0)
abbrev rm_X4_bits : Room := { frames := 0, cells := 0, slots := 0, locals := 0 }
set_option maxHeartbeats 4000000 in
set_option maxRecDepth 100000 in
theorem mt_X4_bits {l : Launch} (hl : l.stackTraces = false) (D : va_G)  (cI cJ : ClassId)  (v0 : Int32) (r0 : Int32) (hp : pf_X4_bits v0 = (some r0)) : gMi l yX4_bits wsX4_bits rm_X4_bits D [(cI, .int), (cJ, .long)] [] [.int v0] 0 0 (fun r w => r = r0 ∧ w = []) (fun _ _ => False) := by
  refine gMi_of (cc := cX4_bits) (maxL := 3) (rt := .int) hl (by decide +kernel) rfl (Nat.le_of_ble_eq_true rfl) ?_
  intro p e s m args below meth c A Q C hnm ht RET OUT THR THRW
  have C : gC p l s m args meth c A D [(cI, .int), (cJ, .long)] 3 RX4 cX4_bits wsX4_bits := C
  refine gV_loc (lvs' := [(0, .int v0)]) [0] rfl ?_
  unfold pf_X4_bits at hp
  have L4 : ∀ (n4 : Nat) (v1 : Int32) (v2 : Int32), pf_X4_bits_L4 n4 v1 v2 = (some r0) → gV p l e rm_X4_bits s m args below meth c A D 3 Q [] [(1, .int v1), (2, .int v2)] 0 0 4 [] := by
    intro n4
    induction n4 with
    | zero => intro v1 v2 hp; exact g_none hp
    | succ n4 ih4 =>
      intro v1 v2 hp
      rw [pf_X4_bits_L4.eq_2] at hp
      refine gV_iload_n C dX4_bits_4 rfl 1 rfl ?_
      refine gV_if_le (tgt := 21) C dX4_bits_5 (by decide) (fun c5 => ?_) (fun c5 => ?_)
      · replace hp := g_ift hp c5
        refine gV_iload_n C dX4_bits_21 rfl 0 rfl ?_
        obtain rfl := g_so1 hp
        exact RET _ _ _ _ _ _ dX4_bits_22 (Nat.le_of_ble_eq_true rfl) (Nat.le_of_ble_eq_true rfl) rfl ⟨rfl, rfl⟩
      · replace hp := g_iff hp c5
        refine gV_iload_n C dX4_bits_8 rfl 0 rfl ?_
        refine gV_iload_n C dX4_bits_9 rfl 1 rfl ?_
        refine gV_iconst (v := 2) C dX4_bits_10 rfl ?_
        refine gV_irem C dX4_bits_11 (by decide) ?_
        refine gV_iadd C dX4_bits_12 ?_
        refine gV_istore_n (lvs' := [(1, .int (v1 + (v2 - v2 / 2 * 2))), (2, .int v2)]) C dX4_bits_13 rfl (by decide) rfl ?_
        refine gV_iload_n C dX4_bits_14 rfl 1 rfl ?_
        refine gV_iconst (v := 2) C dX4_bits_15 rfl ?_
        refine gV_idiv C dX4_bits_16 (by decide) ?_
        refine gV_istore_n (lvs' := [(2, .int (v2 / 2)), (1, .int (v1 + (v2 - v2 / 2 * 2)))]) C dX4_bits_17 rfl (by decide) rfl ?_
        refine gV_goto (tgt := 4) C dX4_bits_18 (by decide) ?_
        refine gV_loc [1, 0] rfl ?_
        exact ih4 (v1 + (v2 - v2 / 2 * 2)) (v2 / 2) hp
  refine gV_iconst (v := 0) C dX4_bits_0 rfl ?_
  refine gV_istore_n (lvs' := [(1, .int 0), (0, .int v0)]) C dX4_bits_1 rfl (by decide) rfl ?_
  refine gV_iload_n C dX4_bits_2 rfl 1 rfl ?_
  refine gV_istore_n (lvs' := [(2, .int v0), (1, .int 0), (0, .int v0)]) C dX4_bits_3 rfl (by decide) rfl ?_
  refine gV_loc [1, 0] rfl ?_
  exact L4 100000 0 v0 hp
def pf_X4_laysLies_j61  (kL19 : Int32 → (Nat → Int32) → (Nat → Int32) → Option ((Nat → Int32) × (Nat → Int32))) (v2 : Int32) (s0 : Int32) (s1 : Int32) (s2 : Int32) (mh : Nat → Int32) (mls : Nat → Int32) : Option ((Nat → Int32) × (Nat → Int32)) := (gi s2 256 (kL19 (v2 + 1) mh (upd mls s2.toNatClampNeg (s1 ||| s0))))
def pf_X4_laysLies_L19 (mP : Int32) (mC : Int32) (mn : Int32) (mg : Nat → Int32) (mt : Nat → Int32) (kL2 : Int32 → (Nat → Int32) → (Nat → Int32) → Option ((Nat → Int32) × (Nat → Int32))) (v1 : Int32) : Nat → Int32 → (Nat → Int32) → (Nat → Int32) → Option ((Nat → Int32) × (Nat → Int32))
  | 0, _, _, _ => none
  | n19 + 1, v2, mh, mls => (if mn ≤ v2 then (kL2 (v1 + 1) mh mls) else (gi v1 256 (gi v2 10 (ob2 (pf_X4_markOfRows mP mC mh (mg v2.toNatClampNeg) v1) fun r42 mh_42 => (gi v2 10 (if r42 = (mt v2.toNatClampNeg) then (pf_X4_laysLies_j61 (fun v2 mh mls => pf_X4_laysLies_L19 mP mC mn mg mt kL2 v1 n19 v2 mh mls) v2 0 (mls v1.toNatClampNeg) v1 mh_42 mls) else (pf_X4_laysLies_j61 (fun v2 mh mls => pf_X4_laysLies_L19 mP mC mn mg mt kL2 v1 n19 v2 mh mls) v2 (1 <<< (v2 &&& 31)) (mls v1.toNatClampNeg) v1 mh_42 mls)))))))
def pf_X4_laysLies_L2 (mP : Int32) (mC : Int32) (mR : Int32) (mn : Int32) (mg : Nat → Int32) (mt : Nat → Int32) : Nat → Int32 → (Nat → Int32) → (Nat → Int32) → Option ((Nat → Int32) × (Nat → Int32))
  | 0, _, _, _ => none
  | n2 + 1, v1, mh, mls => (if mR ≤ v1 then (some (mh, mls)) else (gi v1 256 (pf_X4_laysLies_L19 mP mC mn mg mt (fun v1 mh mls => pf_X4_laysLies_L2 mP mC mR mn mg mt n2 v1 mh mls) v1 100000 0 mh (upd mls v1.toNatClampNeg 0))))
def pf_X4_laysLies  (mP : Int32) (mC : Int32) (mR : Int32) (mn : Int32) (mg : Nat → Int32) (mt : Nat → Int32) (mh : Nat → Int32) (mls : Nat → Int32)  : Option ((Nat → Int32) × (Nat → Int32)) := (pf_X4_laysLies_L2 mP mC mR mn mg mt 100000 0 mh mls)
abbrev rm_X4_laysLies : Room := { frames := 1, cells := 0, slots := 0, locals := 27 }
theorem inw_X4_laysLies_X4 : ∀ w ∈ wsX40, w ∈ wsX4_laysLies := by decide +kernel
set_option maxHeartbeats 4000000 in
set_option maxRecDepth 100000 in
theorem mt_X4_laysLies {l : Launch} (hl : l.stackTraces = false) (D : va_G) (k : Nat → Nat) (cI cJ : ClassId) (th : Int32) (mP : Int32) (mC : Int32) (mR : Int32) (mal : Int32) (mhd : Int32) (mn : Int32) (mg : Nat → Int32) (mt : Nat → Int32) (mh : Nat → Int32) (mz : Nat → Int32) (mset : Nat → Int32) (mfr : Nat → Int32) (mma : Nat → Int32) (mde : Nat → Int32) (mls : Nat → Int32)  (mh0 : Nat → Int32) (mls0 : Nat → Int32) (hp : pf_X4_laysLies mP mC mR mn mg mt mh mls = (some (mh0, mls0))) : gMv l yX4_laysLies wsX4_laysLies rm_X4_laysLies D [(cI, .int), (cJ, .long)] (mW k cI th mP mC mR mal mhd mn mg mt mh mz mset mfr mma mde mls) [.ref (k 0)] 0 0 (fun w => w = mW k cI th mP mC mR mal mhd mn mg mt mh0 mz mset mfr mma mde mls0) (fun _ _ => False) := by
  refine gMv_of (cc := cX4_laysLies) (maxL := 3) hl (by decide +kernel) rfl (Nat.le_of_ble_eq_true rfl) ?_
  intro p e s m args below meth c A Q C hnm ht RET OUT THR THRW
  have C : gC p l s m args meth c A D [(cI, .int), (cJ, .long)] 3 RX4 cX4_laysLies wsX4_laysLies := C
  refine gV_loc (lvs' := [(0, .ref (k 0))]) [0] rfl ?_
  unfold pf_X4_laysLies at hp
  have L2 : ∀ (n2 : Nat) (v1 : Int32) (mh : Nat → Int32) (mls : Nat → Int32), pf_X4_laysLies_L2 mP mC mR mn mg mt n2 v1 mh mls = (some (mh0, mls0)) → gV p l e rm_X4_laysLies s m args below meth c A D 3 Q (mW k cI th mP mC mR mal mhd mn mg mt mh mz mset mfr mma mde mls) [(0, .ref (k 0)), (1, .int v1)] 0 0 2 [] := by
    intro n2
    induction n2 with
    | zero => intro v1 mh mls hp; exact g_none hp
    | succ n2 ih2 =>
      intro v1 mh mls hp
      rw [pf_X4_laysLies_L2.eq_2] at hp
      have L19 : ∀ (v1 : Int32) (n19 : Nat) (v2 : Int32) (mh : Nat → Int32) (mls : Nat → Int32), pf_X4_laysLies_L19 mP mC mn mg mt (fun v1 mh mls => pf_X4_laysLies_L2 mP mC mR mn mg mt n2 v1 mh mls) v1 n19 v2 mh mls = (some (mh0, mls0)) → gV p l e rm_X4_laysLies s m args below meth c A D 3 Q (mW k cI th mP mC mR mal mhd mn mg mt mh mz mset mfr mma mde mls) [(0, .ref (k 0)), (1, .int v1), (2, .int v2)] 0 0 19 [] := by
        intro v1 n19
        induction n19 with
        | zero => intro v2 mh mls hp; exact g_none hp
        | succ n19 ih19 =>
          intro v2 mh mls hp
          rw [pf_X4_laysLies_L19.eq_2] at hp
          have J61 : ∀ (v2 : Int32) (s0 : Int32) (s1 : Int32) (s2 : Int32) (mh : Nat → Int32) (mls : Nat → Int32), pf_X4_laysLies_j61 (fun v2 mh mls => pf_X4_laysLies_L19 mP mC mn mg mt (fun v1 mh mls => pf_X4_laysLies_L2 mP mC mR mn mg mt n2 v1 mh mls) v1 n19 v2 mh mls) v2 s0 s1 s2 mh mls = (some (mh0, mls0)) → gV p l e rm_X4_laysLies s m args below meth c A D 3 Q (mW k cI th mP mC mR mal mhd mn mg mt mh mz mset mfr mma mde mls) [(0, .ref (k 0)), (1, .int v1), (2, .int v2)] 0 0 61 [.int s0, .int s1, .int s2, .ref (k 9)] := by
            intro v2 s0 s1 s2 mh mls hp
            unfold pf_X4_laysLies_j61 at hp
            refine gV_ior C dX4_laysLies_61 ?_
            obtain ⟨hi62, hp⟩ := g_idx hp
            refine gV_iast (ws' := mW k cI th mP mC mR mal mhd mn mg mt mh mz mset mfr mma mde (upd mls s2.toNatClampNeg (s1 ||| s0))) C 9 rfl 0 rfl hi62 dX4_laysLies_62 rfl ?_
            refine gV_iinc (v := (v2 + 1)) (lvs' := [(2, .int (v2 + 1)), (0, .ref (k 0)), (1, .int v1)]) C dX4_laysLies_63 2 rfl rfl (by decide) rfl ?_
            refine gV_goto (tgt := 19) C dX4_laysLies_66 (by decide) ?_
            refine gV_loc [1, 2, 0] rfl ?_
            exact ih19 (v2 + 1) mh (upd mls s2.toNatClampNeg (s1 ||| s0)) hp
          refine gV_iload_n C dX4_laysLies_19 rfl 2 rfl ?_
          refine gV_aload_n C dX4_laysLies_20 rfl 0 rfl ?_
          refine gV_get (Cn := RX4) (T := TX4) (N := 16) C inw_X4_laysLies_X4 0 rfl rfl 6 (by decide) (C.w 3 rfl) rfl rfl dX4_laysLies_21 ?_
          refine gV_icmp_ge (tgt := 69) C dX4_laysLies_24 (by decide) (fun c24 => ?_) (fun c24 => ?_)
          · replace hp := g_ift hp c24
            refine gV_iinc (v := (v1 + 1)) (lvs' := [(1, .int (v1 + 1)), (0, .ref (k 0)), (2, .int v2)]) C dX4_laysLies_69 1 rfl rfl (by decide) rfl ?_
            refine gV_goto (tgt := 2) C dX4_laysLies_72 (by decide) ?_
            refine gV_loc [1, 0] rfl ?_
            exact ih2 (v1 + 1) mh mls hp
          · replace hp := g_iff hp c24
            refine gV_aload_n C dX4_laysLies_27 rfl 0 rfl ?_
            refine gV_get (Cn := RX4) (T := TX4) (N := 16) C inw_X4_laysLies_X4 0 rfl rfl 15 (by decide) (C.w 2 rfl) rfl rfl dX4_laysLies_28 ?_
            refine gV_iload_n C dX4_laysLies_31 rfl 1 rfl ?_
            refine gV_dup2 C dX4_laysLies_32 rfl rfl ?_
            obtain ⟨hi33, hp⟩ := g_idx hp
            refine gV_iald C 9 rfl 0 rfl hi33 dX4_laysLies_33 ?_
            refine gV_aload_n C dX4_laysLies_34 rfl 0 rfl ?_
            refine gV_aload_n C dX4_laysLies_35 rfl 0 rfl ?_
            refine gV_get (Cn := RX4) (T := TX4) (N := 16) C inw_X4_laysLies_X4 0 rfl rfl 7 (by decide) (C.w 4 rfl) rfl rfl dX4_laysLies_36 ?_
            refine gV_iload_n C dX4_laysLies_39 rfl 2 rfl ?_
            obtain ⟨hi40, hp⟩ := g_idx hp
            refine gV_iald C 1 rfl 0 rfl hi40 dX4_laysLies_40 ?_
            refine gV_iload_n C dX4_laysLies_41 rfl 1 rfl ?_
            obtain ⟨r42q, mh_42, hq42, hp⟩ := g_ob2 hp
            refine gV_calliS C (gV_runV (As := [.int (mg v2.toNatClampNeg), .int v1]) (rest := [.int (mls v1.toNatClampNeg), .int v1, .ref (k 9)]) C (mt_X4_markOfRows hl D k cI cJ th mP mC mR mal mhd mn mg mt mh mz mset mfr mma mde mls (mg v2.toNatClampNeg) v1 r42q mh_42 hq42) (cwV 2 C.2.2.2.2.1 gX4_laysLies_X4_markOfRows rfl rfl rfl hdv_X4_markOfRows ⟨Nat.le_of_ble_eq_true rfl, Nat.le_of_ble_eq_true rfl⟩) (gSub_S _) 0 rfl rfl rfl rfl (Nat.le_of_ble_eq_true rfl) dX4_laysLies_42 ⟨Nat.le_of_ble_eq_true rfl, Nat.le_of_ble_eq_true rfl⟩) (fun _ _ hx => False.elim hx) (fun r42 w1 hw => ?_)
            obtain ⟨rfl, rfl⟩ := hw
            refine gV_aload_n C dX4_laysLies_45 rfl 0 rfl ?_
            refine gV_get (Cn := RX4) (T := TX4) (N := 16) C inw_X4_laysLies_X4 0 rfl rfl 8 (by decide) (C.w 5 rfl) rfl rfl dX4_laysLies_46 ?_
            refine gV_iload_n C dX4_laysLies_49 rfl 2 rfl ?_
            obtain ⟨hi50, hp⟩ := g_idx hp
            refine gV_iald C 2 rfl 0 rfl hi50 dX4_laysLies_50 ?_
            refine gV_icmp_eq (tgt := 60) C dX4_laysLies_51 (by decide) (fun c51 => ?_) (fun c51 => ?_)
            · replace hp := g_ift hp c51
              refine gV_iconst (v := 0) C dX4_laysLies_60 rfl ?_
              exact J61 v2 0 (mls v1.toNatClampNeg) v1 mh_42 mls hp
            · replace hp := g_iff hp c51
              refine gV_iconst (v := 1) C dX4_laysLies_54 rfl ?_
              refine gV_iload_n C dX4_laysLies_55 rfl 2 rfl ?_
              refine gV_ishl C dX4_laysLies_56 ?_
              refine gV_goto (tgt := 61) C dX4_laysLies_57 (by decide) ?_
              exact J61 v2 (1 <<< (v2 &&& 31)) (mls v1.toNatClampNeg) v1 mh_42 mls hp
      refine gV_iload_n C dX4_laysLies_2 rfl 1 rfl ?_
      refine gV_aload_n C dX4_laysLies_3 rfl 0 rfl ?_
      refine gV_get (Cn := RX4) (T := TX4) (N := 16) C inw_X4_laysLies_X4 0 rfl rfl 3 (by decide) (C.w 1 rfl) rfl rfl dX4_laysLies_4 ?_
      refine gV_icmp_ge (tgt := 75) C dX4_laysLies_7 (by decide) (fun c7 => ?_) (fun c7 => ?_)
      · replace hp := g_ift hp c7
        obtain ⟨rfl, rfl⟩ := g_so2 hp
        exact RET _ _ _ _ _ dX4_laysLies_75 (Nat.le_of_ble_eq_true rfl) (Nat.le_of_ble_eq_true rfl) rfl
      · replace hp := g_iff hp c7
        refine gV_aload_n C dX4_laysLies_10 rfl 0 rfl ?_
        refine gV_get (Cn := RX4) (T := TX4) (N := 16) C inw_X4_laysLies_X4 0 rfl rfl 15 (by decide) (C.w 2 rfl) rfl rfl dX4_laysLies_11 ?_
        refine gV_iload_n C dX4_laysLies_14 rfl 1 rfl ?_
        refine gV_iconst (v := 0) C dX4_laysLies_15 rfl ?_
        obtain ⟨hi16, hp⟩ := g_idx hp
        refine gV_iast (ws' := mW k cI th mP mC mR mal mhd mn mg mt mh mz mset mfr mma mde (upd mls v1.toNatClampNeg 0)) C 9 rfl 0 rfl hi16 dX4_laysLies_16 rfl ?_
        refine gV_iconst (v := 0) C dX4_laysLies_17 rfl ?_
        refine gV_istore_n (lvs' := [(2, .int 0), (0, .ref (k 0)), (1, .int v1)]) C dX4_laysLies_18 rfl (by decide) rfl ?_
        refine gV_loc [1, 2, 0] rfl ?_
        exact L19 v1 100000 0 mh (upd mls v1.toNatClampNeg 0) hp
  refine gV_iconst (v := 0) C dX4_laysLies_0 rfl ?_
  refine gV_istore_n (lvs' := [(1, .int 0), (0, .ref (k 0))]) C dX4_laysLies_1 rfl (by decide) rfl ?_
  refine gV_loc [1, 0] rfl ?_
  exact L2 100000 0 mh mls hp
def pf_X4_isProof_j54  (s0 : Int32) : Option (Int32) := (gz s0 ((some s0)))
def pf_X4_isProof_j36  (kL4 : Int32 → Int32 → Option (Int32)) (v3 : Int32) (s0 : Int32) (s1 : Int32) : Option (Int32) := (kL4 (s1 + s0) (v3 + 1))
def pf_X4_isProof_L4 (v1 : Int32) (mR : Int32) (mal : Int32) (mls : Nat → Int32) : Nat → Int32 → Int32 → Option (Int32)
  | 0, _, _ => none
  | n4 + 1, v2, v3 => (if mR ≤ v3 then (if v2 = 1 then (pf_X4_isProof_j54 1) else (pf_X4_isProof_j54 0)) else (gi v3 256 (ob1 (pf_X4_bits (v1 &&& (mls v3.toNatClampNeg))) fun r21 => (if mal < r21 then (pf_X4_isProof_j36 (fun v2 v3 => pf_X4_isProof_L4 v1 mR mal mls n4 v2 v3) v3 0 v2) else (pf_X4_isProof_j36 (fun v2 v3 => pf_X4_isProof_L4 v1 mR mal mls n4 v2 v3) v3 1 v2)))))
def pf_X4_isProof  (mR : Int32) (mal : Int32) (mls : Nat → Int32) (v1 : Int32) : Option (Int32) := (pf_X4_isProof_L4 v1 mR mal mls 100000 0 0)
abbrev rm_X4_isProof : Room := { frames := 1, cells := 0, slots := 0, locals := 22 }
theorem inw_X4_isProof_X4 : ∀ w ∈ wsX40, w ∈ wsX4_isProof := by decide +kernel
theorem hds_X4_bits : yX4_bits.cls ≠ "java/lang/invoke/MethodHandle" ∧ yX4_bits.cls ≠ "java/lang/invoke/VarHandle" ∧ (parseMethodDescriptor yX4_bits.desc).map (fun d => d.parameters.length) = some 1 := by decide +kernel
set_option maxHeartbeats 4000000 in
set_option maxRecDepth 100000 in
theorem mt_X4_isProof {l : Launch} (hl : l.stackTraces = false) (D : va_G) (k : Nat → Nat) (cI cJ : ClassId) (th : Int32) (mP : Int32) (mC : Int32) (mR : Int32) (mal : Int32) (mhd : Int32) (mn : Int32) (mg : Nat → Int32) (mt : Nat → Int32) (mh : Nat → Int32) (mz : Nat → Int32) (mset : Nat → Int32) (mfr : Nat → Int32) (mma : Nat → Int32) (mde : Nat → Int32) (mls : Nat → Int32) (v1 : Int32) (r0 : Int32) (hp : pf_X4_isProof mR mal mls v1 = (some r0)) : gMi l yX4_isProof wsX4_isProof rm_X4_isProof D [(cI, .int), (cJ, .long)] (mW k cI th mP mC mR mal mhd mn mg mt mh mz mset mfr mma mde mls) [.ref (k 0), .int v1] 0 0 (fun r w => r = r0 ∧ w = mW k cI th mP mC mR mal mhd mn mg mt mh mz mset mfr mma mde mls) (fun _ _ => False) := by
  refine gMi_of (cc := cX4_isProof) (maxL := 4) (rt := .boolean) hl (by decide +kernel) rfl (Nat.le_of_ble_eq_true rfl) ?_
  intro p e s m args below meth c A Q C hnm ht RET OUT THR THRW
  have C : gC p l s m args meth c A D [(cI, .int), (cJ, .long)] 4 RX4 cX4_isProof wsX4_isProof := C
  refine gV_loc (lvs' := [(0, .ref (k 0)), (1, .int v1)]) [0, 1] rfl ?_
  unfold pf_X4_isProof at hp
  have J54 : ∀ (s0 : Int32), pf_X4_isProof_j54 s0 = (some r0) → gV p l e rm_X4_isProof s m args below meth c A D 4 Q (mW k cI th mP mC mR mal mhd mn mg mt mh mz mset mfr mma mde mls) [(0, .ref (k 0))] 0 0 54 [.int s0] := by
    intro s0 hp
    unfold pf_X4_isProof_j54 at hp
    obtain ⟨hz54, hp⟩ := g_bool hp
    obtain rfl := g_so1 hp
    exact RET _ _ _ _ _ _ dX4_isProof_54 (Nat.le_of_ble_eq_true rfl) (Nat.le_of_ble_eq_true rfl) (g_nz hz54) ⟨rfl, rfl⟩
  have L4 : ∀ (n4 : Nat) (v2 : Int32) (v3 : Int32), pf_X4_isProof_L4 v1 mR mal mls n4 v2 v3 = (some r0) → gV p l e rm_X4_isProof s m args below meth c A D 4 Q (mW k cI th mP mC mR mal mhd mn mg mt mh mz mset mfr mma mde mls) [(0, .ref (k 0)), (1, .int v1), (2, .int v2), (3, .int v3)] 0 0 4 [] := by
    intro n4
    induction n4 with
    | zero => intro v2 v3 hp; exact g_none hp
    | succ n4 ih4 =>
      intro v2 v3 hp
      rw [pf_X4_isProof_L4.eq_2] at hp
      have J36 : ∀ (v3 : Int32) (s0 : Int32) (s1 : Int32), pf_X4_isProof_j36 (fun v2 v3 => pf_X4_isProof_L4 v1 mR mal mls n4 v2 v3) v3 s0 s1 = (some r0) → gV p l e rm_X4_isProof s m args below meth c A D 4 Q (mW k cI th mP mC mR mal mhd mn mg mt mh mz mset mfr mma mde mls) [(0, .ref (k 0)), (1, .int v1), (3, .int v3)] 0 0 36 [.int s0, .int s1] := by
        intro v3 s0 s1 hp
        unfold pf_X4_isProof_j36 at hp
        refine gV_iadd C dX4_isProof_36 ?_
        refine gV_istore_n (lvs' := [(2, .int (s1 + s0)), (0, .ref (k 0)), (1, .int v1), (3, .int v3)]) C dX4_isProof_37 rfl (by decide) rfl ?_
        refine gV_iinc (v := (v3 + 1)) (lvs' := [(3, .int (v3 + 1)), (2, .int (s1 + s0)), (0, .ref (k 0)), (1, .int v1)]) C dX4_isProof_38 3 rfl rfl (by decide) rfl ?_
        refine gV_goto (tgt := 4) C dX4_isProof_41 (by decide) ?_
        refine gV_loc [2, 3, 1, 0] rfl ?_
        exact ih4 (s1 + s0) (v3 + 1) hp
      refine gV_iload_n C dX4_isProof_4 rfl 3 rfl ?_
      refine gV_aload_n C dX4_isProof_5 rfl 0 rfl ?_
      refine gV_get (Cn := RX4) (T := TX4) (N := 16) C inw_X4_isProof_X4 0 rfl rfl 3 (by decide) (C.w 1 rfl) rfl rfl dX4_isProof_6 ?_
      refine gV_icmp_ge (tgt := 44) C dX4_isProof_9 (by decide) (fun c9 => ?_) (fun c9 => ?_)
      · replace hp := g_ift hp c9
        refine gV_iload_n C dX4_isProof_44 rfl 2 rfl ?_
        refine gV_iconst (v := 1) C dX4_isProof_45 rfl ?_
        refine gV_icmp_ne (tgt := 53) C dX4_isProof_46 (by decide) (fun c46 => ?_) (fun c46 => ?_)
        · replace hp := g_iff hp c46
          refine gV_iconst (v := 0) C dX4_isProof_53 rfl ?_
          refine gV_loc [0] rfl ?_
          exact J54 0 hp
        · replace hp := g_ift hp c46
          refine gV_iconst (v := 1) C dX4_isProof_49 rfl ?_
          refine gV_goto (tgt := 54) C dX4_isProof_50 (by decide) ?_
          refine gV_loc [0] rfl ?_
          exact J54 1 hp
      · replace hp := g_iff hp c9
        refine gV_iload_n C dX4_isProof_12 rfl 2 rfl ?_
        refine gV_iload_n C dX4_isProof_13 rfl 1 rfl ?_
        refine gV_aload_n C dX4_isProof_14 rfl 0 rfl ?_
        refine gV_get (Cn := RX4) (T := TX4) (N := 16) C inw_X4_isProof_X4 0 rfl rfl 15 (by decide) (C.w 2 rfl) rfl rfl dX4_isProof_15 ?_
        refine gV_iload_n C dX4_isProof_18 rfl 3 rfl ?_
        obtain ⟨hi19, hp⟩ := g_idx hp
        refine gV_iald C 9 rfl 0 rfl hi19 dX4_isProof_19 ?_
        refine gV_iand C dX4_isProof_20 ?_
        obtain ⟨r21q, hq21, hp⟩ := g_ob1 hp
        refine gV_calliE C (gV_runS (As := [.int (v1 &&& (mls v3.toNatClampNeg))]) (rest := [.int v2]) C (mt_X4_bits hl D cI cJ (v1 &&& (mls v3.toNatClampNeg)) r21q hq21) (va_cwS 1 C.2.2.2.2.1 gX4_isProof_X4_bits rfl rfl rfl hds_X4_bits ⟨Nat.le_of_ble_eq_true rfl, Nat.le_of_ble_eq_true rfl⟩) (gSub_E _) rfl rfl (Nat.le_of_ble_eq_true rfl) dX4_isProof_21 ⟨Nat.le_of_ble_eq_true rfl, Nat.le_of_ble_eq_true rfl⟩) (fun _ _ hx => False.elim hx) (fun r21 w1 hw => ?_)
        obtain ⟨rfl, rfl⟩ := hw
        refine ⟨rfl, ?_⟩
        refine gV_aload_n C dX4_isProof_24 rfl 0 rfl ?_
        refine gV_get (Cn := RX4) (T := TX4) (N := 16) C inw_X4_isProof_X4 0 rfl rfl 4 (by decide) (C.w 3 rfl) rfl rfl dX4_isProof_25 ?_
        refine gV_icmp_gt (tgt := 35) C dX4_isProof_28 (by decide) (fun c28 => ?_) (fun c28 => ?_)
        · replace hp := g_ift hp c28
          refine gV_iconst (v := 0) C dX4_isProof_35 rfl ?_
          refine gV_loc [0, 1, 3] rfl ?_
          exact J36 v3 0 v2 hp
        · replace hp := g_iff hp c28
          refine gV_iconst (v := 1) C dX4_isProof_31 rfl ?_
          refine gV_goto (tgt := 36) C dX4_isProof_32 (by decide) ?_
          refine gV_loc [0, 1, 3] rfl ?_
          exact J36 v3 1 v2 hp
  refine gV_iconst (v := 0) C dX4_isProof_0 rfl ?_
  refine gV_istore_n (lvs' := [(2, .int 0), (0, .ref (k 0)), (1, .int v1)]) C dX4_isProof_1 rfl (by decide) rfl ?_
  refine gV_iconst (v := 0) C dX4_isProof_2 rfl ?_
  refine gV_istore_n (lvs' := [(3, .int 0), (2, .int 0), (0, .ref (k 0)), (1, .int v1)]) C dX4_isProof_3 rfl (by decide) rfl ?_
  refine gV_loc [2, 3, 1, 0] rfl ?_
  exact L4 100000 0 0 hp
def pf_X4_isAhead_j42  (s0 : Int32) : Option (Int32) := (gz s0 ((some s0)))
def pf_X4_isAhead_j37  : Option (Int32) := (pf_X4_isAhead_j42 1)
def pf_X4_isAhead_j41  : Option (Int32) := (pf_X4_isAhead_j42 0)
def pf_X4_isAhead   (v0 : Int32) (v1 : Int32) : Option (Int32) := (gl ((v0 ^^^ v1) &&& (-(v0 ^^^ v1))) fun v3_8 => (ob1 (pf_X4_bits v0) fun r10 => (ob1 (pf_X4_bits v1) fun r14 => (if r10 < r14 then (pf_X4_isAhead_j37) else (ob1 (pf_X4_bits v0) fun r21 => (ob1 (pf_X4_bits v1) fun r25 => (if r21 = r25 then (if (v0 &&& v3_8) = 0 then (pf_X4_isAhead_j41) else (pf_X4_isAhead_j37)) else (pf_X4_isAhead_j41))))))))
abbrev rm_X4_isAhead : Room := { frames := 1, cells := 0, slots := 0, locals := 22 }
set_option maxHeartbeats 4000000 in
set_option maxRecDepth 100000 in
theorem mt_X4_isAhead {l : Launch} (hl : l.stackTraces = false) (D : va_G)  (cI cJ : ClassId)  (v0 : Int32) (v1 : Int32) (r0 : Int32) (hp : pf_X4_isAhead v0 v1 = (some r0)) : gMi l yX4_isAhead wsX4_isAhead rm_X4_isAhead D [(cI, .int), (cJ, .long)] [] [.int v0, .int v1] 0 0 (fun r w => r = r0 ∧ w = []) (fun _ _ => False) := by
  refine gMi_of (cc := cX4_isAhead) (maxL := 4) (rt := .boolean) hl (by decide +kernel) rfl (Nat.le_of_ble_eq_true rfl) ?_
  intro p e s m args below meth c A Q C hnm ht RET OUT THR THRW
  have C : gC p l s m args meth c A D [(cI, .int), (cJ, .long)] 4 RX4 cX4_isAhead wsX4_isAhead := C
  refine gV_loc (lvs' := [(0, .int v0), (1, .int v1)]) [0, 1] rfl ?_
  unfold pf_X4_isAhead at hp
  have J42 : ∀ (s0 : Int32), pf_X4_isAhead_j42 s0 = (some r0) → gV p l e rm_X4_isAhead s m args below meth c A D 4 Q [] [] 0 0 42 [.int s0] := by
    intro s0 hp
    unfold pf_X4_isAhead_j42 at hp
    obtain ⟨hz42, hp⟩ := g_bool hp
    obtain rfl := g_so1 hp
    exact RET _ _ _ _ _ _ dX4_isAhead_42 (Nat.le_of_ble_eq_true rfl) (Nat.le_of_ble_eq_true rfl) (g_nz hz42) ⟨rfl, rfl⟩
  have J41 : pf_X4_isAhead_j41 = (some r0) → gV p l e rm_X4_isAhead s m args below meth c A D 4 Q [] [] 0 0 41 [] := by
    intro hp
    unfold pf_X4_isAhead_j41 at hp
    refine gV_iconst (v := 0) C dX4_isAhead_41 rfl ?_
    exact J42 0 hp
  have J37 : pf_X4_isAhead_j37 = (some r0) → gV p l e rm_X4_isAhead s m args below meth c A D 4 Q [] [] 0 0 37 [] := by
    intro hp
    unfold pf_X4_isAhead_j37 at hp
    refine gV_iconst (v := 1) C dX4_isAhead_37 rfl ?_
    refine gV_goto (tgt := 42) C dX4_isAhead_38 (by decide) ?_
    exact J42 1 hp
  refine gV_iload_n C dX4_isAhead_0 rfl 0 rfl ?_
  refine gV_iload_n C dX4_isAhead_1 rfl 1 rfl ?_
  refine gV_ixor C dX4_isAhead_2 ?_
  refine gV_istore_n (lvs' := [(2, .int (v0 ^^^ v1)), (0, .int v0), (1, .int v1)]) C dX4_isAhead_3 rfl (by decide) rfl ?_
  refine gV_iload_n C dX4_isAhead_4 rfl 0 rfl ?_
  refine gV_iload_n C dX4_isAhead_5 rfl 0 rfl ?_
  refine gV_ineg C dX4_isAhead_6 ?_
  refine gV_iand C dX4_isAhead_7 ?_
  refine gV_topI (fun v3_8 he8 => ?_)
  replace hp := g_let hp he8
  refine gV_istore_n (lvs' := [(3, .int v3_8), (2, .int (v0 ^^^ v1)), (0, .int v0), (1, .int v1)]) C dX4_isAhead_8 rfl (by decide) rfl ?_
  refine gV_iload_n C dX4_isAhead_9 rfl 2 rfl ?_
  obtain ⟨r10q, hq10, hp⟩ := g_ob1 hp
  refine gV_calliS C (gV_runS (As := [.int v0]) (rest := []) C (mt_X4_bits hl D cI cJ v0 r10q hq10) (va_cwS 1 C.2.2.2.2.1 gX4_isAhead_X4_bits rfl rfl rfl hds_X4_bits ⟨Nat.le_of_ble_eq_true rfl, Nat.le_of_ble_eq_true rfl⟩) (gSub_S _) rfl rfl (Nat.le_of_ble_eq_true rfl) dX4_isAhead_10 ⟨Nat.le_of_ble_eq_true rfl, Nat.le_of_ble_eq_true rfl⟩) (fun _ _ hx => False.elim hx) (fun r10 w1 hw => ?_)
  obtain ⟨rfl, rfl⟩ := hw
  refine gV_iload_n C dX4_isAhead_13 rfl 3 rfl ?_
  obtain ⟨r14q, hq14, hp⟩ := g_ob1 hp
  refine gV_calliS C (gV_runS (As := [.int v1]) (rest := [.int r10]) C (mt_X4_bits hl D cI cJ v1 r14q hq14) (va_cwS 1 C.2.2.2.2.1 gX4_isAhead_X4_bits rfl rfl rfl hds_X4_bits ⟨Nat.le_of_ble_eq_true rfl, Nat.le_of_ble_eq_true rfl⟩) (gSub_S _) rfl rfl (Nat.le_of_ble_eq_true rfl) dX4_isAhead_14 ⟨Nat.le_of_ble_eq_true rfl, Nat.le_of_ble_eq_true rfl⟩) (fun _ _ hx => False.elim hx) (fun r14 w1 hw => ?_)
  obtain ⟨rfl, rfl⟩ := hw
  refine gV_icmp_lt (tgt := 37) C dX4_isAhead_17 (by decide) (fun c17 => ?_) (fun c17 => ?_)
  · replace hp := g_ift hp c17
    refine gV_loc [] rfl ?_
    exact J37 hp
  · replace hp := g_iff hp c17
    refine gV_iload_n C dX4_isAhead_20 rfl 2 rfl ?_
    obtain ⟨r21q, hq21, hp⟩ := g_ob1 hp
    refine gV_calliS C (gV_runS (As := [.int v0]) (rest := []) C (mt_X4_bits hl D cI cJ v0 r21q hq21) (va_cwS 1 C.2.2.2.2.1 gX4_isAhead_X4_bits rfl rfl rfl hds_X4_bits ⟨Nat.le_of_ble_eq_true rfl, Nat.le_of_ble_eq_true rfl⟩) (gSub_S _) rfl rfl (Nat.le_of_ble_eq_true rfl) dX4_isAhead_21 ⟨Nat.le_of_ble_eq_true rfl, Nat.le_of_ble_eq_true rfl⟩) (fun _ _ hx => False.elim hx) (fun r21 w1 hw => ?_)
    obtain ⟨rfl, rfl⟩ := hw
    refine gV_iload_n C dX4_isAhead_24 rfl 3 rfl ?_
    obtain ⟨r25q, hq25, hp⟩ := g_ob1 hp
    refine gV_calliS C (gV_runS (As := [.int v1]) (rest := [.int r21]) C (mt_X4_bits hl D cI cJ v1 r25q hq25) (va_cwS 1 C.2.2.2.2.1 gX4_isAhead_X4_bits rfl rfl rfl hds_X4_bits ⟨Nat.le_of_ble_eq_true rfl, Nat.le_of_ble_eq_true rfl⟩) (gSub_S _) rfl rfl (Nat.le_of_ble_eq_true rfl) dX4_isAhead_25 ⟨Nat.le_of_ble_eq_true rfl, Nat.le_of_ble_eq_true rfl⟩) (fun _ _ hx => False.elim hx) (fun r25 w1 hw => ?_)
    obtain ⟨rfl, rfl⟩ := hw
    refine gV_icmp_ne (tgt := 41) C dX4_isAhead_28 (by decide) (fun c28 => ?_) (fun c28 => ?_)
    · replace hp := g_iff hp c28
      refine gV_loc [] rfl ?_
      exact J41 hp
    · replace hp := g_ift hp c28
      refine gV_iload_n C dX4_isAhead_31 rfl 2 rfl ?_
      refine gV_iload_n C dX4_isAhead_32 rfl 0 rfl ?_
      refine gV_iand C dX4_isAhead_33 ?_
      refine gV_if_eq (tgt := 41) C dX4_isAhead_34 (by decide) (fun c34 => ?_) (fun c34 => ?_)
      · replace hp := g_ift hp c34
        refine gV_loc [] rfl ?_
        exact J41 hp
      · replace hp := g_iff hp c34
        refine gV_loc [] rfl ?_
        exact J37 hp
def pf_X4_proof_j43  (kL15 : Int32 → Int32 → Option (Int32 × (Nat → Int32) × (Nat → Int32))) (v1 : Int32) (v2 : Int32) : Option (Int32 × (Nat → Int32) × (Nat → Int32)) := (kL15 v1 (v2 + 1))
def pf_X4_proof_L15 (mR : Int32) (mal : Int32) (mn : Int32) (mh : Nat → Int32) (mls : Nat → Int32) : Nat → Int32 → Int32 → Option (Int32 × (Nat → Int32) × (Nat → Int32))
  | 0, _, _ => none
  | n15 + 1, v1, v2 => (if (1 <<< (mn &&& 31)) ≤ v2 then (some (v1, mh, mls)) else (ob1 (pf_X4_isAhead v2 v1) fun r27 => (if r27 = 0 then (pf_X4_proof_j43 (fun v1 v2 => pf_X4_proof_L15 mR mal mn mh mls n15 v1 v2) v1 v2) else (ob1 (pf_X4_isProof mR mal mls v2) fun r35 => (if r35 = 0 then (pf_X4_proof_j43 (fun v1 v2 => pf_X4_proof_L15 mR mal mn mh mls n15 v1 v2) v1 v2) else (pf_X4_proof_j43 (fun v1 v2 => pf_X4_proof_L15 mR mal mn mh mls n15 v1 v2) v2 v2))))))
def pf_X4_proof  (mP : Int32) (mC : Int32) (mR : Int32) (mal : Int32) (mn : Int32) (mg : Nat → Int32) (mt : Nat → Int32) (mh : Nat → Int32) (mls : Nat → Int32)  : Option (Int32 × (Nat → Int32) × (Nat → Int32)) := (ob2 (pf_X4_laysLies mP mC mR mn mg mt mh mls) fun mh_1 mls_1 => (pf_X4_proof_L15 mR mal mn mh_1 mls_1 100000 ((1 <<< (mn &&& 31)) - 1) 0))
abbrev rm_X4_proof : Room := { frames := 2, cells := 0, slots := 0, locals := 49 }
theorem inw_X4_proof_X4 : ∀ w ∈ wsX40, w ∈ wsX4_proof := by decide +kernel
theorem hds_X4_isAhead : yX4_isAhead.cls ≠ "java/lang/invoke/MethodHandle" ∧ yX4_isAhead.cls ≠ "java/lang/invoke/VarHandle" ∧ (parseMethodDescriptor yX4_isAhead.desc).map (fun d => d.parameters.length) = some 2 := by decide +kernel
theorem hdv_X4_isProof : yX4_isProof.cls = RX4 ∧ yX4_isProof.cls ≠ "java/lang/invoke/MethodHandle" ∧ yX4_isProof.cls ≠ "java/lang/invoke/VarHandle" ∧ (parseMethodDescriptor yX4_isProof.desc).map (fun d => d.parameters.length) = some 1 := by decide +kernel
theorem hdv_X4_laysLies : yX4_laysLies.cls = RX4 ∧ yX4_laysLies.cls ≠ "java/lang/invoke/MethodHandle" ∧ yX4_laysLies.cls ≠ "java/lang/invoke/VarHandle" ∧ (parseMethodDescriptor yX4_laysLies.desc).map (fun d => d.parameters.length) = some 0 := by decide +kernel
set_option maxHeartbeats 4000000 in
set_option maxRecDepth 100000 in
theorem mt_X4_proof {l : Launch} (hl : l.stackTraces = false) (D : va_G) (k : Nat → Nat) (cI cJ : ClassId) (th : Int32) (mP : Int32) (mC : Int32) (mR : Int32) (mal : Int32) (mhd : Int32) (mn : Int32) (mg : Nat → Int32) (mt : Nat → Int32) (mh : Nat → Int32) (mz : Nat → Int32) (mset : Nat → Int32) (mfr : Nat → Int32) (mma : Nat → Int32) (mde : Nat → Int32) (mls : Nat → Int32)  (r0 : Int32) (mh0 : Nat → Int32) (mls0 : Nat → Int32) (hp : pf_X4_proof mP mC mR mal mn mg mt mh mls = (some (r0, mh0, mls0))) : gMi l yX4_proof wsX4_proof rm_X4_proof D [(cI, .int), (cJ, .long)] (mW k cI th mP mC mR mal mhd mn mg mt mh mz mset mfr mma mde mls) [.ref (k 0)] 0 0 (fun r w => r = r0 ∧ w = mW k cI th mP mC mR mal mhd mn mg mt mh0 mz mset mfr mma mde mls0) (fun _ _ => False) := by
  refine gMi_of (cc := cX4_proof) (maxL := 3) (rt := .int) hl (by decide +kernel) rfl (Nat.le_of_ble_eq_true rfl) ?_
  intro p e s m args below meth c A Q C hnm ht RET OUT THR THRW
  have C : gC p l s m args meth c A D [(cI, .int), (cJ, .long)] 3 RX4 cX4_proof wsX4_proof := C
  refine gV_loc (lvs' := [(0, .ref (k 0))]) [0] rfl ?_
  unfold pf_X4_proof at hp
  have L15 : ∀ (mh : Nat → Int32) (mls : Nat → Int32) (n15 : Nat) (v1 : Int32) (v2 : Int32), pf_X4_proof_L15 mR mal mn mh mls n15 v1 v2 = (some (r0, mh0, mls0)) → gV p l e rm_X4_proof s m args below meth c A D 3 Q (mW k cI th mP mC mR mal mhd mn mg mt mh mz mset mfr mma mde mls) [(0, .ref (k 0)), (1, .int v1), (2, .int v2)] 0 0 15 [] := by
    intro mh mls n15
    induction n15 with
    | zero => intro v1 v2 hp; exact g_none hp
    | succ n15 ih15 =>
      intro v1 v2 hp
      rw [pf_X4_proof_L15.eq_2] at hp
      have J43 : ∀ (v1 : Int32) (v2 : Int32), pf_X4_proof_j43 (fun v1 v2 => pf_X4_proof_L15 mR mal mn mh mls n15 v1 v2) v1 v2 = (some (r0, mh0, mls0)) → gV p l e rm_X4_proof s m args below meth c A D 3 Q (mW k cI th mP mC mR mal mhd mn mg mt mh mz mset mfr mma mde mls) [(0, .ref (k 0)), (1, .int v1), (2, .int v2)] 0 0 43 [] := by
        intro v1 v2 hp
        unfold pf_X4_proof_j43 at hp
        refine gV_iinc (v := (v2 + 1)) (lvs' := [(2, .int (v2 + 1)), (0, .ref (k 0)), (1, .int v1)]) C dX4_proof_43 2 rfl rfl (by decide) rfl ?_
        refine gV_goto (tgt := 15) C dX4_proof_46 (by decide) ?_
        refine gV_loc [1, 2, 0] rfl ?_
        exact ih15 v1 (v2 + 1) hp
      refine gV_iload_n C dX4_proof_15 rfl 2 rfl ?_
      refine gV_iconst (v := 1) C dX4_proof_16 rfl ?_
      refine gV_aload_n C dX4_proof_17 rfl 0 rfl ?_
      refine gV_get (Cn := RX4) (T := TX4) (N := 16) C inw_X4_proof_X4 0 rfl rfl 6 (by decide) (C.w 1 rfl) rfl rfl dX4_proof_18 ?_
      refine gV_ishl C dX4_proof_21 ?_
      refine gV_icmp_ge (tgt := 49) C dX4_proof_22 (by decide) (fun c22 => ?_) (fun c22 => ?_)
      · replace hp := g_ift hp c22
        refine gV_iload_n C dX4_proof_49 rfl 1 rfl ?_
        obtain ⟨rfl, rfl, rfl⟩ := g_so3 hp
        exact RET _ _ _ _ _ _ dX4_proof_50 (Nat.le_of_ble_eq_true rfl) (Nat.le_of_ble_eq_true rfl) rfl ⟨rfl, rfl⟩
      · replace hp := g_iff hp c22
        refine gV_iload_n C dX4_proof_25 rfl 2 rfl ?_
        refine gV_iload_n C dX4_proof_26 rfl 1 rfl ?_
        obtain ⟨r27q, hq27, hp⟩ := g_ob1 hp
        refine gV_calliE C (gV_runS (As := [.int v2, .int v1]) (rest := []) C (mt_X4_isAhead hl D cI cJ v2 v1 r27q hq27) (va_cwS 2 C.2.2.2.2.1 gX4_proof_X4_isAhead rfl rfl rfl hds_X4_isAhead ⟨Nat.le_of_ble_eq_true rfl, Nat.le_of_ble_eq_true rfl⟩) (gSub_E _) rfl rfl (Nat.le_of_ble_eq_true rfl) dX4_proof_27 ⟨Nat.le_of_ble_eq_true rfl, Nat.le_of_ble_eq_true rfl⟩) (fun _ _ hx => False.elim hx) (fun r27 w1 hw => ?_)
        obtain ⟨rfl, rfl⟩ := hw
        refine ⟨rfl, ?_⟩
        refine gV_if_eq (tgt := 43) C dX4_proof_30 (by decide) (fun c30 => ?_) (fun c30 => ?_)
        · replace hp := g_ift hp c30
          exact J43 v1 v2 hp
        · replace hp := g_iff hp c30
          refine gV_aload_n C dX4_proof_33 rfl 0 rfl ?_
          refine gV_iload_n C dX4_proof_34 rfl 2 rfl ?_
          obtain ⟨r35q, hq35, hp⟩ := g_ob1 hp
          refine gV_calliS C (gV_runV (As := [.int v2]) (rest := []) C (mt_X4_isProof hl D k cI cJ th mP mC mR mal mhd mn mg mt mh mz mset mfr mma mde mls v2 r35q hq35) (cwV 1 C.2.2.2.2.1 gX4_proof_X4_isProof rfl rfl rfl hdv_X4_isProof ⟨Nat.le_of_ble_eq_true rfl, Nat.le_of_ble_eq_true rfl⟩) (gSub_S _) 0 rfl rfl rfl rfl (Nat.le_of_ble_eq_true rfl) dX4_proof_35 ⟨Nat.le_of_ble_eq_true rfl, Nat.le_of_ble_eq_true rfl⟩) (fun _ _ hx => False.elim hx) (fun r35 w1 hw => ?_)
          obtain ⟨rfl, rfl⟩ := hw
          refine gV_if_eq (tgt := 43) C dX4_proof_38 (by decide) (fun c38 => ?_) (fun c38 => ?_)
          · replace hp := g_ift hp c38
            exact J43 v1 v2 hp
          · replace hp := g_iff hp c38
            refine gV_iload_n C dX4_proof_41 rfl 2 rfl ?_
            refine gV_istore_n (lvs' := [(1, .int v2), (0, .ref (k 0)), (2, .int v2)]) C dX4_proof_42 rfl (by decide) rfl ?_
            refine gV_loc [1, 0, 2] rfl ?_
            exact J43 v2 v2 hp
  refine gV_aload_n C dX4_proof_0 rfl 0 rfl ?_
  obtain ⟨mh_1, mls_1, hq1, hp⟩ := g_ob2 hp
  refine gV_callvS C (gV_runV (As := []) (rest := []) C (mt_X4_laysLies hl D k cI cJ th mP mC mR mal mhd mn mg mt mh mz mset mfr mma mde mls mh_1 mls_1 hq1) (cwV 0 C.2.2.2.2.1 gX4_proof_X4_laysLies rfl rfl rfl hdv_X4_laysLies ⟨Nat.le_of_ble_eq_true rfl, Nat.le_of_ble_eq_true rfl⟩) (gSub_S _) 0 rfl rfl rfl rfl (Nat.le_of_ble_eq_true rfl) dX4_proof_1 ⟨Nat.le_of_ble_eq_true rfl, Nat.le_of_ble_eq_true rfl⟩) (fun _ _ hx => False.elim hx) (fun w1 hw => ?_)
  obtain rfl := hw
  refine gV_iconst (v := 1) C dX4_proof_4 rfl ?_
  refine gV_aload_n C dX4_proof_5 rfl 0 rfl ?_
  refine gV_get (Cn := RX4) (T := TX4) (N := 16) C inw_X4_proof_X4 0 rfl rfl 6 (by decide) (C.w 1 rfl) rfl rfl dX4_proof_6 ?_
  refine gV_ishl C dX4_proof_9 ?_
  refine gV_iconst (v := 1) C dX4_proof_10 rfl ?_
  refine gV_isub C dX4_proof_11 ?_
  refine gV_istore_n (lvs' := [(1, .int ((1 <<< (mn &&& 31)) - 1)), (0, .ref (k 0))]) C dX4_proof_12 rfl (by decide) rfl ?_
  refine gV_iconst (v := 0) C dX4_proof_13 rfl ?_
  refine gV_istore_n (lvs' := [(2, .int 0), (1, .int ((1 <<< (mn &&& 31)) - 1)), (0, .ref (k 0))]) C dX4_proof_14 rfl (by decide) rfl ?_
  refine gV_loc [2, 1, 0] rfl ?_
  exact L15 mh_1 mls_1 100000 ((1 <<< (mn &&& 31)) - 1) 0 hp
def pf_X4_proofSize_j24  (s0 : Int32) (th : Int32) (mh : Nat → Int32) (mls : Nat → Int32) : Option (Int32 × Int32 × (Nat → Int32) × (Nat → Int32)) := (some (s0, th, mh, mls))
def pf_X4_proofSize  (th : Int32) (mP : Int32) (mC : Int32) (mR : Int32) (mal : Int32) (mn : Int32) (mg : Nat → Int32) (mt : Nat → Int32) (mh : Nat → Int32) (mls : Nat → Int32)  : Option (Int32 × Int32 × (Nat → Int32) × (Nat → Int32)) := (ob2 (pf_X4_manyLeft mP mC mR mal mn mg mt mh) fun r6 mh_6 => (if r6 = 1 then (ob3 (pf_X4_proof mP mC mR mal mn mg mt mh_6 mls) fun r14 mh_14 mls_14 => (ob1 (pf_X4_bits r14) fun r17 => (pf_X4_proofSize_j24 r17 0 mh_14 mls_14))) else (pf_X4_proofSize_j24 (-1) 0 mh_6 mls)))
abbrev rm_X4_proofSize : Room := { frames := 4, cells := 0, slots := 0, locals := 93 }
theorem inw_X4_proofSize_X4 : ∀ w ∈ wsX40, w ∈ wsX4_proofSize := by decide +kernel
theorem hdv_X4_proof : yX4_proof.cls = RX4 ∧ yX4_proof.cls ≠ "java/lang/invoke/MethodHandle" ∧ yX4_proof.cls ≠ "java/lang/invoke/VarHandle" ∧ (parseMethodDescriptor yX4_proof.desc).map (fun d => d.parameters.length) = some 0 := by decide +kernel
set_option maxHeartbeats 4000000 in
set_option maxRecDepth 100000 in
theorem mt_X4_proofSize {l : Launch} (hl : l.stackTraces = false) (D : va_G) (k : Nat → Nat) (cI cJ : ClassId) (th : Int32) (mP : Int32) (mC : Int32) (mR : Int32) (mal : Int32) (mhd : Int32) (mn : Int32) (mg : Nat → Int32) (mt : Nat → Int32) (mh : Nat → Int32) (mz : Nat → Int32) (mset : Nat → Int32) (mfr : Nat → Int32) (mma : Nat → Int32) (mde : Nat → Int32) (mls : Nat → Int32)  (r0 : Int32) (th0 : Int32) (mh0 : Nat → Int32) (mls0 : Nat → Int32) (hp : pf_X4_proofSize th mP mC mR mal mn mg mt mh mls = (some (r0, th0, mh0, mls0))) : gMi l yX4_proofSize wsX4_proofSize rm_X4_proofSize D [(cI, .int), (cJ, .long)] (mW k cI th mP mC mR mal mhd mn mg mt mh mz mset mfr mma mde mls) [.ref (k 0)] 0 0 (fun r w => r = r0 ∧ w = mW k cI th0 mP mC mR mal mhd mn mg mt mh0 mz mset mfr mma mde mls0) (fun _ _ => False) := by
  refine gMi_of (cc := cX4_proofSize) (maxL := 1) (rt := .int) hl (by decide +kernel) rfl (Nat.le_of_ble_eq_true rfl) ?_
  intro p e s m args below meth c A Q C hnm ht RET OUT THR THRW
  have C : gC p l s m args meth c A D [(cI, .int), (cJ, .long)] 1 RX4 cX4_proofSize wsX4_proofSize := C
  refine gV_loc (lvs' := [(0, .ref (k 0))]) [0] rfl ?_
  unfold pf_X4_proofSize at hp
  have J24 : ∀ (s0 : Int32) (th : Int32) (mh : Nat → Int32) (mls : Nat → Int32), pf_X4_proofSize_j24 s0 th mh mls = (some (r0, th0, mh0, mls0)) → gV p l e rm_X4_proofSize s m args below meth c A D 1 Q (mW k cI th mP mC mR mal mhd mn mg mt mh mz mset mfr mma mde mls) [(0, .ref (k 0))] 0 0 24 [.int s0] := by
    intro s0 th mh mls hp
    unfold pf_X4_proofSize_j24 at hp
    obtain ⟨rfl, rfl, rfl, rfl⟩ := g_so4 hp
    exact RET _ _ _ _ _ _ dX4_proofSize_24 (Nat.le_of_ble_eq_true rfl) (Nat.le_of_ble_eq_true rfl) rfl ⟨rfl, rfl⟩
  refine gV_aload_n C dX4_proofSize_0 rfl 0 rfl ?_
  refine gV_iconst (v := 0) C dX4_proofSize_1 rfl ?_
  refine gV_put (Cn := RX4) (T := TX4) (N := 16) (ws' := mW k cI 0 mP mC mR mal mhd mn mg mt mh mz mset mfr mma mde mls) C inw_X4_proofSize_X4 tyX4_ok nmX4 0 rfl rfl 0 (by decide) (C.w 1 rfl) rfl rfl rfl rfl rfl (Nat.le_of_ble_eq_true rfl) dX4_proofSize_2 rfl ?_
  refine gV_aload_n C dX4_proofSize_5 rfl 0 rfl ?_
  obtain ⟨r6q, mh_6, hq6, hp⟩ := g_ob2 hp
  refine gV_calliS C (gV_runV (As := []) (rest := []) C (mt_X4_manyLeft hl D k cI cJ 0 mP mC mR mal mhd mn mg mt mh mz mset mfr mma mde mls r6q mh_6 hq6) (cwV 0 C.2.2.2.2.1 gX4_proofSize_X4_manyLeft rfl rfl rfl hdv_X4_manyLeft ⟨Nat.le_of_ble_eq_true rfl, Nat.le_of_ble_eq_true rfl⟩) (gSub_S _) 0 rfl rfl rfl rfl (Nat.le_of_ble_eq_true rfl) dX4_proofSize_6 ⟨Nat.le_of_ble_eq_true rfl, Nat.le_of_ble_eq_true rfl⟩) (fun _ _ hx => False.elim hx) (fun r6 w1 hw => ?_)
  obtain ⟨rfl, rfl⟩ := hw
  refine gV_iconst (v := 1) C dX4_proofSize_9 rfl ?_
  refine gV_icmp_ne (tgt := 23) C dX4_proofSize_10 (by decide) (fun c10 => ?_) (fun c10 => ?_)
  · replace hp := g_iff hp c10
    refine gV_iconst (v := (-1)) C dX4_proofSize_23 rfl ?_
    exact J24 (-1) 0 mh_6 mls hp
  · replace hp := g_ift hp c10
    refine gV_aload_n C dX4_proofSize_13 rfl 0 rfl ?_
    obtain ⟨r14q, mh_14, mls_14, hq14, hp⟩ := g_ob3 hp
    refine gV_calliS C (gV_runV (As := []) (rest := []) C (mt_X4_proof hl D k cI cJ 0 mP mC mR mal mhd mn mg mt mh_6 mz mset mfr mma mde mls r14q mh_14 mls_14 hq14) (cwV 0 C.2.2.2.2.1 gX4_proofSize_X4_proof rfl rfl rfl hdv_X4_proof ⟨Nat.le_of_ble_eq_true rfl, Nat.le_of_ble_eq_true rfl⟩) (gSub_S _) 0 rfl rfl rfl rfl (Nat.le_of_ble_eq_true rfl) dX4_proofSize_14 ⟨Nat.le_of_ble_eq_true rfl, Nat.le_of_ble_eq_true rfl⟩) (fun _ _ hx => False.elim hx) (fun r14 w1 hw => ?_)
    obtain ⟨rfl, rfl⟩ := hw
    obtain ⟨r17q, hq17, hp⟩ := g_ob1 hp
    refine gV_calliE C (gV_runS (As := [.int r14]) (rest := []) C (mt_X4_bits hl D cI cJ r14 r17q hq17) (va_cwS 1 C.2.2.2.2.1 gX4_proofSize_X4_bits rfl rfl rfl hds_X4_bits ⟨Nat.le_of_ble_eq_true rfl, Nat.le_of_ble_eq_true rfl⟩) (gSub_E _) rfl rfl (Nat.le_of_ble_eq_true rfl) dX4_proofSize_17 ⟨Nat.le_of_ble_eq_true rfl, Nat.le_of_ble_eq_true rfl⟩) (fun _ _ hx => False.elim hx) (fun r17 w1 hw => ?_)
    obtain ⟨rfl, rfl⟩ := hw
    refine ⟨rfl, ?_⟩
    refine gV_goto (tgt := 24) C dX4_proofSize_20 (by decide) ?_
    exact J24 r17 0 mh_14 mls_14 hp
def pf_X4_isInProof_j53  (s0 : Int32) (th : Int32) (mh : Nat → Int32) (mls : Nat → Int32) : Option (Int32 × Int32 × (Nat → Int32) × (Nat → Int32)) := (gz s0 ((some (s0, th, mh, mls))))
def pf_X4_isInProof_j52  (th : Int32) (mh : Nat → Int32) (mls : Nat → Int32) : Option (Int32 × Int32 × (Nat → Int32) × (Nat → Int32)) := (pf_X4_isInProof_j53 0 th mh mls)
def pf_X4_isInProof_j26 (v1 : Int32) (mP : Int32) (mC : Int32) (mR : Int32) (mal : Int32) (mn : Int32) (mg : Nat → Int32) (mt : Nat → Int32) (s0 : Int32) (th : Int32) (mh : Nat → Int32) (mls : Nat → Int32) : Option (Int32 × Int32 × (Nat → Int32) × (Nat → Int32)) := (if s0 = 0 then (ob3 (pf_X4_proof mP mC mR mal mn mg mt mh mls) fun r37 mh_37 mls_37 => (if ((r37 >>> (v1 &&& 31)) &&& 1) = 1 then (pf_X4_isInProof_j53 1 s0 mh_37 mls_37) else (pf_X4_isInProof_j52 s0 mh_37 mls_37))) else (pf_X4_isInProof_j52 s0 mh mls))
def pf_X4_isInProof  (th : Int32) (mP : Int32) (mC : Int32) (mR : Int32) (mal : Int32) (mn : Int32) (mg : Nat → Int32) (mt : Nat → Int32) (mh : Nat → Int32) (mls : Nat → Int32) (v1 : Int32) : Option (Int32 × Int32 × (Nat → Int32) × (Nat → Int32)) := (ob1 (pf_X4_isEntry mn v1) fun r3 => (if r3 = 0 then (pf_X4_isInProof_j26 v1 mP mC mR mal mn mg mt 1 th mh mls) else (ob2 (pf_X4_manyLeft mP mC mR mal mn mg mt mh) fun r14 mh_14 => (if r14 = 1 then (pf_X4_isInProof_j26 v1 mP mC mR mal mn mg mt 0 th mh_14 mls) else (pf_X4_isInProof_j26 v1 mP mC mR mal mn mg mt 2 th mh_14 mls)))))
abbrev rm_X4_isInProof : Room := { frames := 4, cells := 0, slots := 0, locals := 93 }
theorem inw_X4_isInProof_X4 : ∀ w ∈ wsX40, w ∈ wsX4_isInProof := by decide +kernel
set_option maxHeartbeats 4000000 in
set_option maxRecDepth 100000 in
theorem mt_X4_isInProof {l : Launch} (hl : l.stackTraces = false) (D : va_G) (k : Nat → Nat) (cI cJ : ClassId) (th : Int32) (mP : Int32) (mC : Int32) (mR : Int32) (mal : Int32) (mhd : Int32) (mn : Int32) (mg : Nat → Int32) (mt : Nat → Int32) (mh : Nat → Int32) (mz : Nat → Int32) (mset : Nat → Int32) (mfr : Nat → Int32) (mma : Nat → Int32) (mde : Nat → Int32) (mls : Nat → Int32) (v1 : Int32) (r0 : Int32) (th0 : Int32) (mh0 : Nat → Int32) (mls0 : Nat → Int32) (hp : pf_X4_isInProof th mP mC mR mal mn mg mt mh mls v1 = (some (r0, th0, mh0, mls0))) : gMi l yX4_isInProof wsX4_isInProof rm_X4_isInProof D [(cI, .int), (cJ, .long)] (mW k cI th mP mC mR mal mhd mn mg mt mh mz mset mfr mma mde mls) [.ref (k 0), .int v1] 0 0 (fun r w => r = r0 ∧ w = mW k cI th0 mP mC mR mal mhd mn mg mt mh0 mz mset mfr mma mde mls0) (fun _ _ => False) := by
  refine gMi_of (cc := cX4_isInProof) (maxL := 2) (rt := .boolean) hl (by decide +kernel) rfl (Nat.le_of_ble_eq_true rfl) ?_
  intro p e s m args below meth c A Q C hnm ht RET OUT THR THRW
  have C : gC p l s m args meth c A D [(cI, .int), (cJ, .long)] 2 RX4 cX4_isInProof wsX4_isInProof := C
  refine gV_loc (lvs' := [(0, .ref (k 0)), (1, .int v1)]) [0, 1] rfl ?_
  unfold pf_X4_isInProof at hp
  have J53 : ∀ (s0 : Int32) (th : Int32) (mh : Nat → Int32) (mls : Nat → Int32), pf_X4_isInProof_j53 s0 th mh mls = (some (r0, th0, mh0, mls0)) → gV p l e rm_X4_isInProof s m args below meth c A D 2 Q (mW k cI th mP mC mR mal mhd mn mg mt mh mz mset mfr mma mde mls) [(0, .ref (k 0))] 0 0 53 [.int s0] := by
    intro s0 th mh mls hp
    unfold pf_X4_isInProof_j53 at hp
    obtain ⟨hz53, hp⟩ := g_bool hp
    obtain ⟨rfl, rfl, rfl, rfl⟩ := g_so4 hp
    exact RET _ _ _ _ _ _ dX4_isInProof_53 (Nat.le_of_ble_eq_true rfl) (Nat.le_of_ble_eq_true rfl) (g_nz hz53) ⟨rfl, rfl⟩
  have J52 : ∀ (th : Int32) (mh : Nat → Int32) (mls : Nat → Int32), pf_X4_isInProof_j52 th mh mls = (some (r0, th0, mh0, mls0)) → gV p l e rm_X4_isInProof s m args below meth c A D 2 Q (mW k cI th mP mC mR mal mhd mn mg mt mh mz mset mfr mma mde mls) [(0, .ref (k 0))] 0 0 52 [] := by
    intro th mh mls hp
    unfold pf_X4_isInProof_j52 at hp
    refine gV_iconst (v := 0) C dX4_isInProof_52 rfl ?_
    exact J53 0 th mh mls hp
  have J26 : ∀ (s0 : Int32) (th : Int32) (mh : Nat → Int32) (mls : Nat → Int32), pf_X4_isInProof_j26 v1 mP mC mR mal mn mg mt s0 th mh mls = (some (r0, th0, mh0, mls0)) → gV p l e rm_X4_isInProof s m args below meth c A D 2 Q (mW k cI th mP mC mR mal mhd mn mg mt mh mz mset mfr mma mde mls) [(0, .ref (k 0)), (1, .int v1)] 0 0 26 [.int s0, .ref (k 0)] := by
    intro s0 th mh mls hp
    unfold pf_X4_isInProof_j26 at hp
    refine gV_put (Cn := RX4) (T := TX4) (N := 16) (ws' := mW k cI s0 mP mC mR mal mhd mn mg mt mh mz mset mfr mma mde mls) C inw_X4_isInProof_X4 tyX4_ok nmX4 0 rfl rfl 0 (by decide) (C.w 1 rfl) rfl rfl rfl rfl rfl (Nat.le_of_ble_eq_true rfl) dX4_isInProof_26 rfl ?_
    refine gV_aload_n C dX4_isInProof_29 rfl 0 rfl ?_
    refine gV_get (Cn := RX4) (T := TX4) (N := 16) C inw_X4_isInProof_X4 0 rfl rfl 0 (by decide) (C.w 1 rfl) rfl rfl dX4_isInProof_30 ?_
    refine gV_if_ne (tgt := 52) C dX4_isInProof_33 (by decide) (fun c33 => ?_) (fun c33 => ?_)
    · replace hp := g_iff hp c33
      refine gV_loc [0] rfl ?_
      exact J52 s0 mh mls hp
    · replace hp := g_ift hp c33
      refine gV_aload_n C dX4_isInProof_36 rfl 0 rfl ?_
      obtain ⟨r37q, mh_37, mls_37, hq37, hp⟩ := g_ob3 hp
      refine gV_calliS C (gV_runV (As := []) (rest := []) C (mt_X4_proof hl D k cI cJ s0 mP mC mR mal mhd mn mg mt mh mz mset mfr mma mde mls r37q mh_37 mls_37 hq37) (cwV 0 C.2.2.2.2.1 gX4_isInProof_X4_proof rfl rfl rfl hdv_X4_proof ⟨Nat.le_of_ble_eq_true rfl, Nat.le_of_ble_eq_true rfl⟩) (gSub_S _) 0 rfl rfl rfl rfl (Nat.le_of_ble_eq_true rfl) dX4_isInProof_37 ⟨Nat.le_of_ble_eq_true rfl, Nat.le_of_ble_eq_true rfl⟩) (fun _ _ hx => False.elim hx) (fun r37 w1 hw => ?_)
      obtain ⟨rfl, rfl⟩ := hw
      refine gV_iload_n C dX4_isInProof_40 rfl 1 rfl ?_
      refine gV_ishr C dX4_isInProof_41 ?_
      refine gV_iconst (v := 1) C dX4_isInProof_42 rfl ?_
      refine gV_iand C dX4_isInProof_43 ?_
      refine gV_iconst (v := 1) C dX4_isInProof_44 rfl ?_
      refine gV_icmp_ne (tgt := 52) C dX4_isInProof_45 (by decide) (fun c45 => ?_) (fun c45 => ?_)
      · replace hp := g_iff hp c45
        refine gV_loc [0] rfl ?_
        exact J52 s0 mh_37 mls_37 hp
      · replace hp := g_ift hp c45
        refine gV_iconst (v := 1) C dX4_isInProof_48 rfl ?_
        refine gV_goto (tgt := 53) C dX4_isInProof_49 (by decide) ?_
        refine gV_loc [0] rfl ?_
        exact J53 1 s0 mh_37 mls_37 hp
  refine gV_aload_n C dX4_isInProof_0 rfl 0 rfl ?_
  refine gV_aload_n C dX4_isInProof_1 rfl 0 rfl ?_
  refine gV_iload_n C dX4_isInProof_2 rfl 1 rfl ?_
  obtain ⟨r3q, hq3, hp⟩ := g_ob1 hp
  refine gV_calliS C (gV_runV (As := [.int v1]) (rest := [.ref (k 0)]) C (mt_X4_isEntry hl D k cI cJ th mP mC mR mal mhd mn mg mt mh mz mset mfr mma mde mls v1 r3q hq3) (cwV 1 C.2.2.2.2.1 gX4_isInProof_X4_isEntry rfl rfl rfl hdv_X4_isEntry ⟨Nat.le_of_ble_eq_true rfl, Nat.le_of_ble_eq_true rfl⟩) (gSub_S _) 0 rfl rfl rfl rfl (Nat.le_of_ble_eq_true rfl) dX4_isInProof_3 ⟨Nat.le_of_ble_eq_true rfl, Nat.le_of_ble_eq_true rfl⟩) (fun _ _ hx => False.elim hx) (fun r3 w1 hw => ?_)
  obtain ⟨rfl, rfl⟩ := hw
  refine gV_if_ne (tgt := 13) C dX4_isInProof_6 (by decide) (fun c6 => ?_) (fun c6 => ?_)
  · replace hp := g_iff hp c6
    refine gV_aload_n C dX4_isInProof_13 rfl 0 rfl ?_
    obtain ⟨r14q, mh_14, hq14, hp⟩ := g_ob2 hp
    refine gV_calliS C (gV_runV (As := []) (rest := [.ref (k 0)]) C (mt_X4_manyLeft hl D k cI cJ th mP mC mR mal mhd mn mg mt mh mz mset mfr mma mde mls r14q mh_14 hq14) (cwV 0 C.2.2.2.2.1 gX4_isInProof_X4_manyLeft rfl rfl rfl hdv_X4_manyLeft ⟨Nat.le_of_ble_eq_true rfl, Nat.le_of_ble_eq_true rfl⟩) (gSub_S _) 0 rfl rfl rfl rfl (Nat.le_of_ble_eq_true rfl) dX4_isInProof_14 ⟨Nat.le_of_ble_eq_true rfl, Nat.le_of_ble_eq_true rfl⟩) (fun _ _ hx => False.elim hx) (fun r14 w1 hw => ?_)
    obtain ⟨rfl, rfl⟩ := hw
    refine gV_iconst (v := 1) C dX4_isInProof_17 rfl ?_
    refine gV_icmp_ne (tgt := 25) C dX4_isInProof_18 (by decide) (fun c18 => ?_) (fun c18 => ?_)
    · replace hp := g_iff hp c18
      refine gV_iconst (v := 2) C dX4_isInProof_25 rfl ?_
      exact J26 2 th mh_14 mls hp
    · replace hp := g_ift hp c18
      refine gV_iconst (v := 0) C dX4_isInProof_21 rfl ?_
      refine gV_goto (tgt := 26) C dX4_isInProof_22 (by decide) ?_
      exact J26 0 th mh_14 mls hp
  · replace hp := g_ift hp c6
    refine gV_iconst (v := 1) C dX4_isInProof_9 rfl ?_
    refine gV_goto (tgt := 26) C dX4_isInProof_10 (by decide) ?_
    exact J26 1 th mh mls hp

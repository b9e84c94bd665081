abbrev rm_X3_guessesFor (dd : Nat) : Room := { frames := 4 + 2 * dd, cells := 0, slots := 0, locals := 200 + 100 * dd }
abbrev rm_X3_guessesForPart (dd : Nat) : Room := { frames := 5 + 2 * dd, cells := 0, slots := 0, locals := 240 + 100 * dd }
def pf_X3_guessesForPart_j72 (v5 : Int32) (uP : Int32) (uR : Int32) (gcb : Nat → Int32) (gpb : Nat → Int64) (rf_X3_guessesFor : Int32 → Int32 → Int32 → Int32 → Int32 → (Nat → Int32) → (Nat → Int32) → (Nat → Int64) → (Nat → Int32) → (Nat → Int32) → Int32 → Int32 → Int32 → Option (Int32 × Int32 × Int32 × Int32 × (Nat → Int32) × (Nat → Int32) × (Nat → Int32))) (v6 : Int32) (v7 : Int32) (pn : Int32) (pg : Int32) (pq : Int32) (sr : Nat → Int32) (pm : Nat → Int32) (ps : Nat → Int32) : Option (Int32 × Int32 × Int32 × Int32 × (Nat → Int32) × (Nat → Int32) × (Nat → Int32)) := (ob7 (rf_X3_guessesFor uP uR pn pg pq sr gcb gpb pm ps v6 (v7 - v6) (v5 + 1)) fun r84 pn_84 pg_84 pq_84 sr_84 pm_84 ps_84 => (some (r84, pn_84, pg_84, pq_84, sr_84, pm_84, ps_84)))
def pf_X3_guessesForPart_j66  (kL13 : Int32 → Int32 → (Nat → Int32) → Option (Int32 × Int32 × Int32 × Int32 × (Nat → Int32) × (Nat → Int32) × (Nat → Int32))) (v7 : Int32) (v8 : Int32) (sr : Nat → Int32) : Option (Int32 × Int32 × Int32 × Int32 × (Nat → Int32) × (Nat → Int32) × (Nat → Int32)) := (kL13 v7 (v8 + 1) sr)
def pf_X3_guessesForPart_L13 (v1 : Int32) (v2 : Int32) (v5 : Int32) (uP : Int32) (uR : Int32) (gcb : Nat → Int32) (gpb : Nat → Int64) (rf_X3_guessesFor : Int32 → Int32 → Int32 → Int32 → Int32 → (Nat → Int32) → (Nat → Int32) → (Nat → Int64) → (Nat → Int32) → (Nat → Int32) → Int32 → Int32 → Int32 → Option (Int32 × Int32 × Int32 × Int32 × (Nat → Int32) × (Nat → Int32) × (Nat → Int32))) (v6 : Int32) (pn : Int32) (pg : Int32) (pq : Int32) (pm : Nat → Int32) (ps : Nat → Int32) : Nat → Int32 → Int32 → (Nat → Int32) → Option (Int32 × Int32 × Int32 × Int32 × (Nat → Int32) × (Nat → Int32) × (Nat → Int32))
  | 0, _, _, _ => none
  | n13 + 1, v7, v8, sr => (if v6 ≤ v8 then (pf_X3_guessesForPart_j72 v5 uP uR gcb gpb rf_X3_guessesFor v6 v7 pn pg pq sr pm ps) else (if 300 ≤ v7 then (pf_X3_guessesForPart_j72 v5 uP uR gcb gpb rf_X3_guessesFor v6 v7 pn pg pq sr pm ps) else (gi v8 300 (ob1 (pf_X1_compare uP uR gcb gpb v1 (sr v8.toNatClampNeg)) fun r42 => (if r42 = v2 then (gi v8 300 (gi v7 300 (pf_X3_guessesForPart_j66 (fun v7 v8 sr => pf_X3_guessesForPart_L13 v1 v2 v5 uP uR gcb gpb rf_X3_guessesFor v6 pn pg pq pm ps n13 v7 v8 sr) (v7 + 1) v8 (upd sr v7.toNatClampNeg (sr v8.toNatClampNeg))))) else (pf_X3_guessesForPart_j66 (fun v7 v8 sr => pf_X3_guessesForPart_L13 v1 v2 v5 uP uR gcb gpb rf_X3_guessesFor v6 pn pg pq pm ps n13 v7 v8 sr) v7 v8 sr))))))
def pf_X3_guessesForPart (rf_X3_guessesFor : Int32 → Int32 → Int32 → Int32 → Int32 → (Nat → Int32) → (Nat → Int32) → (Nat → Int64) → (Nat → Int32) → (Nat → Int32) → Int32 → Int32 → Int32 → Option (Int32 × Int32 × Int32 × Int32 × (Nat → Int32) × (Nat → Int32) × (Nat → Int32))) (uP : Int32) (uR : Int32) (pn : Int32) (pg : Int32) (pq : Int32) (sr : Nat → Int32) (gcb : Nat → Int32) (gpb : Nat → Int64) (pm : Nat → Int32) (ps : Nat → Int32) (v1 : Int32) (v2 : Int32) (v3 : Int32) (v4 : Int32) (v5 : Int32) : Option (Int32 × Int32 × Int32 × Int32 × (Nat → Int32) × (Nat → Int32) × (Nat → Int32)) := (pf_X3_guessesForPart_L13 v1 v2 v5 uP uR gcb gpb rf_X3_guessesFor (v3 + v4) pn pg pq pm ps 100000 (v3 + v4) v3 sr)
theorem inw_X3_guessesForPart_X3 : ∀ w ∈ wsX30, w ∈ wsX3_guessesForPart := by decide +kernel
theorem hdv_X3_guessesFor : yX3_guessesFor.cls = RX3 ∧ yX3_guessesFor.cls ≠ "java/lang/invoke/MethodHandle" ∧ yX3_guessesFor.cls ≠ "java/lang/invoke/VarHandle" ∧ (parseMethodDescriptor yX3_guessesFor.desc).map (fun d => d.parameters.length) = some 3 := by decide +kernel
set_option maxHeartbeats 4000000 in
set_option maxRecDepth 100000 in
theorem mt_X3_guessesForPart {l : Launch} (hl : l.stackTraces = false) (D : va_G) (h : Nat → Nat) (cI cJ : ClassId) (dd : Nat) (rf_X3_guessesFor : Int32 → Int32 → Int32 → Int32 → Int32 → (Nat → Int32) → (Nat → Int32) → (Nat → Int64) → (Nat → Int32) → (Nat → Int32) → Int32 → Int32 → Int32 → Option (Int32 × Int32 × Int32 × Int32 × (Nat → Int32) × (Nat → Int32) × (Nat → Int32))) (hrf_X3_guessesFor : ∀ (lc : Int32) (la : Int32) (hr : Int32) (uP : Int32) (uC : Int32) (uR : Int32) (tn : Int32) (pn : Int32) (pg : Int32) (pq : Int32) (rl : Nat → Int32) (sr : Nat → Int32) (gcb : Nat → Int32) (gpb : Nat → Int64) (tg : Nat → Int32) (tm : Nat → Int32) (tl : Nat → Int32) (pm : Nat → Int32) (ps : Nat → Int32) (v1 : Int32) (v2 : Int32) (v3 : Int32) (r0 : Int32) (pn0 : Int32) (pg0 : Int32) (pq0 : Int32) (sr0 : Nat → Int32) (pm0 : Nat → Int32) (ps0 : Nat → Int32), rf_X3_guessesFor uP uR pn pg pq sr gcb gpb pm ps v1 v2 v3 = (some (r0, pn0, pg0, pq0, sr0, pm0, ps0)) → gMi l yX3_guessesFor wsX3_guessesFor (rm_X3_guessesFor dd) D [(cI, .int), (cJ, .long)] (cW h cI cJ lc la hr uP uC uR tn pn pg pq rl sr gcb gpb tg tm tl pm ps) [.ref (h 0), .int v1, .int v2, .int v3] 0 0 (fun r w => r = r0 ∧ w = cW h cI cJ lc la hr uP uC uR tn pn0 pg0 pq0 rl sr0 gcb gpb tg tm tl pm0 ps0) (fun _ _ => False)) (lc : Int32) (la : Int32) (hr : Int32) (uP : Int32) (uC : Int32) (uR : Int32) (tn : Int32) (pn : Int32) (pg : Int32) (pq : Int32) (rl : Nat → Int32) (sr : Nat → Int32) (gcb : Nat → Int32) (gpb : Nat → Int64) (tg : Nat → Int32) (tm : Nat → Int32) (tl : Nat → Int32) (pm : Nat → Int32) (ps : Nat → Int32) (v1 : Int32) (v2 : Int32) (v3 : Int32) (v4 : Int32) (v5 : Int32) (r0 : Int32) (pn0 : Int32) (pg0 : Int32) (pq0 : Int32) (sr0 : Nat → Int32) (pm0 : Nat → Int32) (ps0 : Nat → Int32) (hp : pf_X3_guessesForPart rf_X3_guessesFor uP uR pn pg pq sr gcb gpb pm ps v1 v2 v3 v4 v5 = (some (r0, pn0, pg0, pq0, sr0, pm0, ps0))) : gMi l yX3_guessesForPart wsX3_guessesForPart (rm_X3_guessesForPart dd) D [(cI, .int), (cJ, .long)] (cW h cI cJ lc la hr uP uC uR tn pn pg pq rl sr gcb gpb tg tm tl pm ps) [.ref (h 0), .int v1, .int v2, .int v3, .int v4, .int v5] 0 0 (fun r w => r = r0 ∧ w = cW h cI cJ lc la hr uP uC uR tn pn0 pg0 pq0 rl sr0 gcb gpb tg tm tl pm0 ps0) (fun _ _ => False) := by
  refine gMi_of (cc := cX3_guessesForPart) (maxL := 9) (rt := .int) hl (by decide +kernel) rfl (Nat.le_of_ble_eq_true rfl) ?_
  intro p e s m args below meth c A Q C hnm ht RET OUT THR THRW
  have C : gC p l s m args meth c A D [(cI, .int), (cJ, .long)] 9 RX3 cX3_guessesForPart wsX3_guessesForPart := C
  refine gV_loc (lvs' := [(0, .ref (h 0)), (1, .int v1), (2, .int v2), (3, .int v3), (4, .int v4), (5, .int v5)]) [0, 1, 2, 3, 4, 5] rfl ?_
  unfold pf_X3_guessesForPart at hp
  have J72 : ∀ (v6 : Int32) (v7 : Int32) (pn : Int32) (pg : Int32) (pq : Int32) (sr : Nat → Int32) (pm : Nat → Int32) (ps : Nat → Int32), pf_X3_guessesForPart_j72 v5 uP uR gcb gpb rf_X3_guessesFor v6 v7 pn pg pq sr pm ps = (some (r0, pn0, pg0, pq0, sr0, pm0, ps0)) → gV p l e (rm_X3_guessesForPart dd) s m args below meth c A D 9 Q (cW h cI cJ lc la hr uP uC uR tn pn pg pq rl sr gcb gpb tg tm tl pm ps) [(0, .ref (h 0)), (5, .int v5), (6, .int v6), (7, .int v7)] 0 0 72 [] := by
    intro v6 v7 pn pg pq sr pm ps hp
    unfold pf_X3_guessesForPart_j72 at hp
    refine gV_aload_n C dX3_guessesForPart_72 rfl 0 rfl ?_
    refine gV_iload C dX3_guessesForPart_73 2 rfl ?_
    refine gV_iload C dX3_guessesForPart_75 3 rfl ?_
    refine gV_iload C dX3_guessesForPart_77 2 rfl ?_
    refine gV_isub C dX3_guessesForPart_79 ?_
    refine gV_iload C dX3_guessesForPart_80 1 rfl ?_
    refine gV_iconst (v := 1) C dX3_guessesForPart_82 rfl ?_
    refine gV_iadd C dX3_guessesForPart_83 ?_
    obtain ⟨r84q, pn_84, pg_84, pq_84, sr_84, pm_84, ps_84, hq84, hp⟩ := g_ob7 hp
    refine gV_calliS C (gV_runV (As := [.int v6, .int (v7 - v6), .int (v5 + 1)]) (rest := []) C (hrf_X3_guessesFor lc la hr uP uC uR tn pn pg pq rl sr gcb gpb tg tm tl pm ps v6 (v7 - v6) (v5 + 1) r84q pn_84 pg_84 pq_84 sr_84 pm_84 ps_84 hq84) (cwV 3 C.2.2.2.2.1 gX3_guessesForPart_X3_guessesFor rfl rfl rfl hdv_X3_guessesFor (by constructor <;> simp only [rm_X3_guessesFor, rm_X3_guessesForPart] <;> omega)) (gSub_S _) 0 rfl rfl rfl rfl (Nat.le_of_ble_eq_true rfl) dX3_guessesForPart_84 ⟨Nat.le_of_ble_eq_true rfl, Nat.le_of_ble_eq_true rfl⟩) (fun _ _ hx => False.elim hx) (fun r84 w1 hw => ?_)
    obtain ⟨rfl, rfl⟩ := hw
    obtain ⟨rfl, rfl, rfl, rfl, rfl, rfl, rfl⟩ := g_so7 hp
    exact RET _ _ _ _ _ _ dX3_guessesForPart_87 (Nat.le_of_ble_eq_true rfl) (Nat.le_of_ble_eq_true rfl) rfl ⟨rfl, rfl⟩
  have L13 : ∀ (v6 : Int32) (pn : Int32) (pg : Int32) (pq : Int32) (pm : Nat → Int32) (ps : Nat → Int32) (n13 : Nat) (v7 : Int32) (v8 : Int32) (sr : Nat → Int32), pf_X3_guessesForPart_L13 v1 v2 v5 uP uR gcb gpb rf_X3_guessesFor v6 pn pg pq pm ps n13 v7 v8 sr = (some (r0, pn0, pg0, pq0, sr0, pm0, ps0)) → gV p l e (rm_X3_guessesForPart dd) s m args below meth c A D 9 Q (cW h cI cJ lc la hr uP uC uR tn pn pg pq rl sr gcb gpb tg tm tl pm ps) [(0, .ref (h 0)), (1, .int v1), (2, .int v2), (5, .int v5), (6, .int v6), (7, .int v7), (8, .int v8)] 0 0 13 [] := by
    intro v6 pn pg pq pm ps n13
    induction n13 with
    | zero => intro v7 v8 sr hp; exact g_none hp
    | succ n13 ih13 =>
      intro v7 v8 sr hp
      rw [pf_X3_guessesForPart_L13.eq_2] at hp
      have J66 : ∀ (v7 : Int32) (v8 : Int32) (sr : Nat → Int32), pf_X3_guessesForPart_j66 (fun v7 v8 sr => pf_X3_guessesForPart_L13 v1 v2 v5 uP uR gcb gpb rf_X3_guessesFor v6 pn pg pq pm ps n13 v7 v8 sr) v7 v8 sr = (some (r0, pn0, pg0, pq0, sr0, pm0, ps0)) → gV p l e (rm_X3_guessesForPart dd) s m args below meth c A D 9 Q (cW h cI cJ lc la hr uP uC uR tn pn pg pq rl sr gcb gpb tg tm tl pm ps) [(0, .ref (h 0)), (1, .int v1), (2, .int v2), (5, .int v5), (6, .int v6), (7, .int v7), (8, .int v8)] 0 0 66 [] := by
        intro v7 v8 sr hp
        unfold pf_X3_guessesForPart_j66 at hp
        refine gV_iinc (v := (v8 + 1)) (lvs' := [(8, .int (v8 + 1)), (0, .ref (h 0)), (1, .int v1), (2, .int v2), (5, .int v5), (6, .int v6), (7, .int v7)]) C dX3_guessesForPart_66 6 rfl rfl (by decide) rfl ?_
        refine gV_goto (tgt := 13) C dX3_guessesForPart_69 (by decide) ?_
        refine gV_loc [1, 2, 3, 4, 5, 6, 0] rfl ?_
        exact ih13 v7 (v8 + 1) sr hp
      refine gV_iload C dX3_guessesForPart_13 6 rfl ?_
      refine gV_iload C dX3_guessesForPart_15 4 rfl ?_
      refine gV_icmp_ge (tgt := 72) C dX3_guessesForPart_17 (by decide) (fun c17 => ?_) (fun c17 => ?_)
      · replace hp := g_ift hp c17
        refine gV_loc [0, 3, 4, 5] rfl ?_
        exact J72 v6 v7 pn pg pq sr pm ps hp
      · replace hp := g_iff hp c17
        refine gV_iload C dX3_guessesForPart_20 5 rfl ?_
        refine gV_aload_n C dX3_guessesForPart_22 rfl 0 rfl ?_
        refine gV_get (Cn := RX3) (T := TX3) (N := 8) C inw_X3_guessesForPart_X3 0 rfl rfl 4 (by decide) (C.w 1 rfl) rfl rfl dX3_guessesForPart_23 ?_
        refine gV_alen (v := 300) C 5 rfl 0 rfl rfl dX3_guessesForPart_26 ?_
        refine gV_icmp_ge (tgt := 72) C dX3_guessesForPart_27 (by decide) (fun c27 => ?_) (fun c27 => ?_)
        · replace hp := g_ift hp c27
          refine gV_loc [0, 3, 4, 5] rfl ?_
          exact J72 v6 v7 pn pg pq sr pm ps hp
        · replace hp := g_iff hp c27
          refine gV_aload_n C dX3_guessesForPart_30 rfl 0 rfl ?_
          refine gV_get (Cn := RX3) (T := TX3) (N := 8) C inw_X3_guessesForPart_X3 0 rfl rfl 0 (by decide) (C.w 2 rfl) rfl rfl dX3_guessesForPart_31 ?_
          refine gV_iload_n C dX3_guessesForPart_34 rfl 1 rfl ?_
          refine gV_aload_n C dX3_guessesForPart_35 rfl 0 rfl ?_
          refine gV_get (Cn := RX3) (T := TX3) (N := 8) C inw_X3_guessesForPart_X3 0 rfl rfl 4 (by decide) (C.w 1 rfl) rfl rfl dX3_guessesForPart_36 ?_
          refine gV_iload C dX3_guessesForPart_39 6 rfl ?_
          obtain ⟨hi41, hp⟩ := g_idx hp
          refine gV_iald C 5 rfl 0 rfl hi41 dX3_guessesForPart_41 ?_
          obtain ⟨r42q, hq42, hp⟩ := g_ob1 hp
          refine gV_calliS C (gV_runV (As := [.int v1, .int (sr v8.toNatClampNeg)]) (rest := []) C (mt_X1_compare hl D h cI cJ lc la hr uP uC uR tn pn pg pq rl sr gcb gpb tg tm tl pm ps v1 (sr v8.toNatClampNeg) r42q hq42) (cwV 2 C.2.2.2.2.1 gX3_guessesForPart_X1_compare rfl rfl rfl hdv_X1_compare (by constructor <;> simp only [rm_X1_compare, rm_X3_guessesForPart] <;> omega)) (gSub_S _) 1 rfl rfl rfl rfl (Nat.le_of_ble_eq_true rfl) dX3_guessesForPart_42 ⟨Nat.le_of_ble_eq_true rfl, Nat.le_of_ble_eq_true rfl⟩) (fun _ _ hx => False.elim hx) (fun r42 w1 hw => ?_)
          obtain ⟨rfl, rfl⟩ := hw
          refine gV_iload_n C dX3_guessesForPart_45 rfl 2 rfl ?_
          refine gV_icmp_ne (tgt := 66) C dX3_guessesForPart_46 (by decide) (fun c46 => ?_) (fun c46 => ?_)
          · replace hp := g_iff hp c46
            exact J66 v7 v8 sr hp
          · replace hp := g_ift hp c46
            refine gV_aload_n C dX3_guessesForPart_49 rfl 0 rfl ?_
            refine gV_get (Cn := RX3) (T := TX3) (N := 8) C inw_X3_guessesForPart_X3 0 rfl rfl 4 (by decide) (C.w 1 rfl) rfl rfl dX3_guessesForPart_50 ?_
            refine gV_iload C dX3_guessesForPart_53 5 rfl ?_
            refine gV_aload_n C dX3_guessesForPart_55 rfl 0 rfl ?_
            refine gV_get (Cn := RX3) (T := TX3) (N := 8) C inw_X3_guessesForPart_X3 0 rfl rfl 4 (by decide) (C.w 1 rfl) rfl rfl dX3_guessesForPart_56 ?_
            refine gV_iload C dX3_guessesForPart_59 6 rfl ?_
            obtain ⟨hi61, hp⟩ := g_idx hp
            refine gV_iald C 5 rfl 0 rfl hi61 dX3_guessesForPart_61 ?_
            obtain ⟨hi62, hp⟩ := g_idx hp
            refine gV_iast (ws' := cW h cI cJ lc la hr uP uC uR tn pn pg pq rl (upd sr v7.toNatClampNeg (sr v8.toNatClampNeg)) gcb gpb tg tm tl pm ps) C 5 rfl 0 rfl hi62 dX3_guessesForPart_62 rfl ?_
            refine gV_iinc (v := (v7 + 1)) (lvs' := [(7, .int (v7 + 1)), (0, .ref (h 0)), (1, .int v1), (2, .int v2), (5, .int v5), (6, .int v6), (8, .int v8)]) C dX3_guessesForPart_63 5 rfl rfl (by decide) rfl ?_
            refine gV_loc [1, 2, 3, 4, 5, 0, 6] rfl ?_
            exact J66 (v7 + 1) v8 (upd sr v7.toNatClampNeg (sr v8.toNatClampNeg)) hp
  refine gV_iload_n C dX3_guessesForPart_0 rfl 3 rfl ?_
  refine gV_iload C dX3_guessesForPart_1 4 rfl ?_
  refine gV_iadd C dX3_guessesForPart_3 ?_
  refine gV_istore (lvs' := [(6, .int (v3 + v4)), (0, .ref (h 0)), (1, .int v1), (2, .int v2), (3, .int v3), (4, .int v4), (5, .int v5)]) C dX3_guessesForPart_4 (by decide) rfl ?_
  refine gV_iload C dX3_guessesForPart_6 0 rfl ?_
  refine gV_istore (lvs' := [(7, .int (v3 + v4)), (6, .int (v3 + v4)), (0, .ref (h 0)), (1, .int v1), (2, .int v2), (3, .int v3), (4, .int v4), (5, .int v5)]) C dX3_guessesForPart_8 (by decide) rfl ?_
  refine gV_iload_n C dX3_guessesForPart_10 rfl 5 rfl ?_
  refine gV_istore (lvs' := [(8, .int v3), (7, .int (v3 + v4)), (6, .int (v3 + v4)), (0, .ref (h 0)), (1, .int v1), (2, .int v2), (3, .int v3), (4, .int v4), (5, .int v5)]) C dX3_guessesForPart_11 (by decide) rfl ?_
  refine gV_loc [3, 4, 5, 8, 2, 1, 0] rfl ?_
  exact L13 (v3 + v4) pn pg pq pm ps 100000 (v3 + v4) v3 sr hp
def pf_X3_guessesForB_j11  (pn : Int32) (pg : Int32) (pq : Int32) (sr : Nat → Int32) (pm : Nat → Int32) (ps : Nat → Int32) : Option (Int32 × Int32 × Int32 × Int32 × (Nat → Int32) × (Nat → Int32) × (Nat → Int32)) := (some (1, pn, pg, pq, sr, pm, ps))
def pf_X3_guessesForB_j116  (v5 : Int32) (pn : Int32) (pg : Int32) (pq : Int32) (sr : Nat → Int32) (pm : Nat → Int32) (ps : Nat → Int32) : Option (Int32 × Int32 × Int32 × Int32 × (Nat → Int32) × (Nat → Int32) × (Nat → Int32)) := (some ((1 + v5), pn, pg, pq, sr, pm, ps))
def pf_X3_guessesForB_j110  (kL32 : Int32 → Int32 → Int32 → Int32 → Int32 → (Nat → Int32) → (Nat → Int32) → (Nat → Int32) → Option (Int32 × Int32 × Int32 × Int32 × (Nat → Int32) × (Nat → Int32) × (Nat → Int32))) (v5 : Int32) (v6 : Int32) (pn : Int32) (pg : Int32) (pq : Int32) (sr : Nat → Int32) (pm : Nat → Int32) (ps : Nat → Int32) : Option (Int32 × Int32 × Int32 × Int32 × (Nat → Int32) × (Nat → Int32) × (Nat → Int32)) := (kL32 v5 (v6 + 1) pn pg pq sr pm ps)
def pf_X3_guessesForB_L32 (v1 : Int32) (v2 : Int32) (v3 : Int32) (uP : Int32) (uR : Int32) (gcb : Nat → Int32) (gpb : Nat → Int64) (rf_X3_guessesFor : Int32 → Int32 → Int32 → Int32 → Int32 → (Nat → Int32) → (Nat → Int32) → (Nat → Int64) → (Nat → Int32) → (Nat → Int32) → Int32 → Int32 → Int32 → Option (Int32 × Int32 × Int32 × Int32 × (Nat → Int32) × (Nat → Int32) × (Nat → Int32))) (v4 : Int32) : Nat → Int32 → Int32 → Int32 → Int32 → Int32 → (Nat → Int32) → (Nat → Int32) → (Nat → Int32) → Option (Int32 × Int32 × Int32 × Int32 × (Nat → Int32) × (Nat → Int32) × (Nat → Int32))
  | 0, _, _, _, _, _, _, _, _ => none
  | n32 + 1, v5, v6, pn, pg, pq, sr, pm, ps => (if (v1 + v2) ≤ v6 then (pf_X3_guessesForB_j116 v5 pn pg pq sr pm ps) else (if 300 ≤ v6 then (pf_X3_guessesForB_j116 v5 pn pg pq sr pm ps) else (gi v6 300 (if (sr v6.toNatClampNeg) = v4 then (pf_X3_guessesForB_j110 (fun v5 v6 pn pg pq sr pm ps => pf_X3_guessesForB_L32 v1 v2 v3 uP uR gcb gpb rf_X3_guessesFor v4 n32 v5 v6 pn pg pq sr pm ps) v5 v6 pn pg pq sr pm ps) else (ob1 (pf_X3_opensPart uP uR sr gcb gpb v4 v1 v6) fun r68 => (if r68 = 0 then (pf_X3_guessesForB_j110 (fun v5 v6 pn pg pq sr pm ps => pf_X3_guessesForB_L32 v1 v2 v3 uP uR gcb gpb rf_X3_guessesFor v4 n32 v5 v6 pn pg pq sr pm ps) v5 v6 pn pg pq sr pm ps) else (gi v6 300 (ob1 (pf_X1_compare uP uR gcb gpb v4 (sr v6.toNatClampNeg)) fun r87 => (ob7 (pf_X3_guessesForPart rf_X3_guessesFor uP uR pn pg pq sr gcb gpb pm ps v4 r87 v1 v2 v3) fun r102 pn_102 pg_102 pq_102 sr_102 pm_102 ps_102 => (pf_X3_guessesForB_j110 (fun v5 v6 pn pg pq sr pm ps => pf_X3_guessesForB_L32 v1 v2 v3 uP uR gcb gpb rf_X3_guessesFor v4 n32 v5 v6 pn pg pq sr pm ps) (g_max v5 r102) v6 pn_102 pg_102 pq_102 sr_102 pm_102 ps_102))))))))))
def pf_X3_guessesForB (rf_X3_guessesFor : Int32 → Int32 → Int32 → Int32 → Int32 → (Nat → Int32) → (Nat → Int32) → (Nat → Int64) → (Nat → Int32) → (Nat → Int32) → Int32 → Int32 → Int32 → Option (Int32 × Int32 × Int32 × Int32 × (Nat → Int32) × (Nat → Int32) × (Nat → Int32))) (uP : Int32) (uR : Int32) (pn : Int32) (pg : Int32) (pq : Int32) (sr : Nat → Int32) (gcb : Nat → Int32) (gpb : Nat → Int64) (pm : Nat → Int32) (ps : Nat → Int32) (v1 : Int32) (v2 : Int32) (v3 : Int32) : Option (Int32 × Int32 × Int32 × Int32 × (Nat → Int32) × (Nat → Int32) × (Nat → Int32)) := (if v2 ≤ 1 then (pf_X3_guessesForB_j11 pn pg pq sr pm ps) else (if v3 < 24 then (ob6 (pf_X3_bestFor_sr uP uR pn pg pq sr gcb gpb pm ps 0 v1 v2) fun r21 pn_21 pg_21 pq_21 pm_21 ps_21 => (pf_X3_guessesForB_L32 v1 v2 v3 uP uR gcb gpb rf_X3_guessesFor r21 100000 0 v1 pn_21 pg_21 pq_21 sr pm_21 ps_21)) else (pf_X3_guessesForB_j11 pn pg pq sr pm ps)))
theorem inw_X3_guessesFor_X3 : ∀ w ∈ wsX30, w ∈ wsX3_guessesFor := by decide +kernel
theorem hdv_X3_guessesForPart : yX3_guessesForPart.cls = RX3 ∧ yX3_guessesForPart.cls ≠ "java/lang/invoke/MethodHandle" ∧ yX3_guessesForPart.cls ≠ "java/lang/invoke/VarHandle" ∧ (parseMethodDescriptor yX3_guessesForPart.desc).map (fun d => d.parameters.length) = some 5 := by decide +kernel
theorem hdv_X3_opensPart : yX3_opensPart.cls = RX3 ∧ yX3_opensPart.cls ≠ "java/lang/invoke/MethodHandle" ∧ yX3_opensPart.cls ≠ "java/lang/invoke/VarHandle" ∧ (parseMethodDescriptor yX3_opensPart.desc).map (fun d => d.parameters.length) = some 3 := by decide +kernel
set_option maxHeartbeats 4000000 in
set_option maxRecDepth 100000 in
theorem mt_X3_guessesForB {l : Launch} (hl : l.stackTraces = false) (D : va_G) (h : Nat → Nat) (cI cJ : ClassId) (dd : Nat) (rf_X3_guessesFor : Int32 → Int32 → Int32 → Int32 → Int32 → (Nat → Int32) → (Nat → Int32) → (Nat → Int64) → (Nat → Int32) → (Nat → Int32) → Int32 → Int32 → Int32 → Option (Int32 × Int32 × Int32 × Int32 × (Nat → Int32) × (Nat → Int32) × (Nat → Int32))) (hrf_X3_guessesFor : ∀ (lc : Int32) (la : Int32) (hr : Int32) (uP : Int32) (uC : Int32) (uR : Int32) (tn : Int32) (pn : Int32) (pg : Int32) (pq : Int32) (rl : Nat → Int32) (sr : Nat → Int32) (gcb : Nat → Int32) (gpb : Nat → Int64) (tg : Nat → Int32) (tm : Nat → Int32) (tl : Nat → Int32) (pm : Nat → Int32) (ps : Nat → Int32) (v1 : Int32) (v2 : Int32) (v3 : Int32) (r0 : Int32) (pn0 : Int32) (pg0 : Int32) (pq0 : Int32) (sr0 : Nat → Int32) (pm0 : Nat → Int32) (ps0 : Nat → Int32), rf_X3_guessesFor uP uR pn pg pq sr gcb gpb pm ps v1 v2 v3 = (some (r0, pn0, pg0, pq0, sr0, pm0, ps0)) → gMi l yX3_guessesFor wsX3_guessesFor (rm_X3_guessesFor dd) D [(cI, .int), (cJ, .long)] (cW h cI cJ lc la hr uP uC uR tn pn pg pq rl sr gcb gpb tg tm tl pm ps) [.ref (h 0), .int v1, .int v2, .int v3] 0 0 (fun r w => r = r0 ∧ w = cW h cI cJ lc la hr uP uC uR tn pn0 pg0 pq0 rl sr0 gcb gpb tg tm tl pm0 ps0) (fun _ _ => False)) (lc : Int32) (la : Int32) (hr : Int32) (uP : Int32) (uC : Int32) (uR : Int32) (tn : Int32) (pn : Int32) (pg : Int32) (pq : Int32) (rl : Nat → Int32) (sr : Nat → Int32) (gcb : Nat → Int32) (gpb : Nat → Int64) (tg : Nat → Int32) (tm : Nat → Int32) (tl : Nat → Int32) (pm : Nat → Int32) (ps : Nat → Int32) (v1 : Int32) (v2 : Int32) (v3 : Int32) (r0 : Int32) (pn0 : Int32) (pg0 : Int32) (pq0 : Int32) (sr0 : Nat → Int32) (pm0 : Nat → Int32) (ps0 : Nat → Int32) (hp : pf_X3_guessesForB rf_X3_guessesFor uP uR pn pg pq sr gcb gpb pm ps v1 v2 v3 = (some (r0, pn0, pg0, pq0, sr0, pm0, ps0))) : gMi l yX3_guessesFor wsX3_guessesFor (rm_X3_guessesFor (dd + 1)) D [(cI, .int), (cJ, .long)] (cW h cI cJ lc la hr uP uC uR tn pn pg pq rl sr gcb gpb tg tm tl pm ps) [.ref (h 0), .int v1, .int v2, .int v3] 0 0 (fun r w => r = r0 ∧ w = cW h cI cJ lc la hr uP uC uR tn pn0 pg0 pq0 rl sr0 gcb gpb tg tm tl pm0 ps0) (fun _ _ => False) := by
  refine gMi_of (cc := cX3_guessesFor) (maxL := 8) (rt := .int) hl (by decide +kernel) rfl (Nat.le_of_ble_eq_true rfl) ?_
  intro p e s m args below meth c A Q C hnm ht RET OUT THR THRW
  have C : gC p l s m args meth c A D [(cI, .int), (cJ, .long)] 8 RX3 cX3_guessesFor wsX3_guessesFor := C
  refine gV_loc (lvs' := [(0, .ref (h 0)), (1, .int v1), (2, .int v2), (3, .int v3)]) [0, 1, 2, 3] rfl ?_
  unfold pf_X3_guessesForB at hp
  have J116 : ∀ (v5 : Int32) (pn : Int32) (pg : Int32) (pq : Int32) (sr : Nat → Int32) (pm : Nat → Int32) (ps : Nat → Int32), pf_X3_guessesForB_j116 v5 pn pg pq sr pm ps = (some (r0, pn0, pg0, pq0, sr0, pm0, ps0)) → gV p l e (rm_X3_guessesFor (dd + 1)) s m args below meth c A D 8 Q (cW h cI cJ lc la hr uP uC uR tn pn pg pq rl sr gcb gpb tg tm tl pm ps) [(0, .ref (h 0)), (5, .int v5)] 0 0 116 [] := by
    intro v5 pn pg pq sr pm ps hp
    unfold pf_X3_guessesForB_j116 at hp
    refine gV_iconst (v := 1) C dX3_guessesFor_116 rfl ?_
    refine gV_iload C dX3_guessesFor_117 1 rfl ?_
    refine gV_iadd C dX3_guessesFor_119 ?_
    obtain ⟨rfl, rfl, rfl, rfl, rfl, rfl, rfl⟩ := g_so7 hp
    exact RET _ _ _ _ _ _ dX3_guessesFor_120 (Nat.le_of_ble_eq_true rfl) (Nat.le_of_ble_eq_true rfl) rfl ⟨rfl, rfl⟩
  have L32 : ∀ (v4 : Int32) (n32 : Nat) (v5 : Int32) (v6 : Int32) (pn : Int32) (pg : Int32) (pq : Int32) (sr : Nat → Int32) (pm : Nat → Int32) (ps : Nat → Int32), pf_X3_guessesForB_L32 v1 v2 v3 uP uR gcb gpb rf_X3_guessesFor v4 n32 v5 v6 pn pg pq sr pm ps = (some (r0, pn0, pg0, pq0, sr0, pm0, ps0)) → gV p l e (rm_X3_guessesFor (dd + 1)) s m args below meth c A D 8 Q (cW h cI cJ lc la hr uP uC uR tn pn pg pq rl sr gcb gpb tg tm tl pm ps) [(0, .ref (h 0)), (1, .int v1), (2, .int v2), (3, .int v3), (4, .int v4), (5, .int v5), (6, .int v6)] 0 0 32 [] := by
    intro v4 n32
    induction n32 with
    | zero => intro v5 v6 pn pg pq sr pm ps hp; exact g_none hp
    | succ n32 ih32 =>
      intro v5 v6 pn pg pq sr pm ps hp
      rw [pf_X3_guessesForB_L32.eq_2] at hp
      have J110 : ∀ (v5 : Int32) (v6 : Int32) (pn : Int32) (pg : Int32) (pq : Int32) (sr : Nat → Int32) (pm : Nat → Int32) (ps : Nat → Int32), pf_X3_guessesForB_j110 (fun v5 v6 pn pg pq sr pm ps => pf_X3_guessesForB_L32 v1 v2 v3 uP uR gcb gpb rf_X3_guessesFor v4 n32 v5 v6 pn pg pq sr pm ps) v5 v6 pn pg pq sr pm ps = (some (r0, pn0, pg0, pq0, sr0, pm0, ps0)) → gV p l e (rm_X3_guessesFor (dd + 1)) s m args below meth c A D 8 Q (cW h cI cJ lc la hr uP uC uR tn pn pg pq rl sr gcb gpb tg tm tl pm ps) [(0, .ref (h 0)), (1, .int v1), (2, .int v2), (3, .int v3), (4, .int v4), (5, .int v5), (6, .int v6)] 0 0 110 [] := by
        intro v5 v6 pn pg pq sr pm ps hp
        unfold pf_X3_guessesForB_j110 at hp
        refine gV_iinc (v := (v6 + 1)) (lvs' := [(6, .int (v6 + 1)), (0, .ref (h 0)), (1, .int v1), (2, .int v2), (3, .int v3), (4, .int v4), (5, .int v5)]) C dX3_guessesFor_110 6 rfl rfl (by decide) rfl ?_
        refine gV_goto (tgt := 32) C dX3_guessesFor_113 (by decide) ?_
        refine gV_loc [1, 2, 3, 4, 5, 6, 0] rfl ?_
        exact ih32 v5 (v6 + 1) pn pg pq sr pm ps hp
      refine gV_iload C dX3_guessesFor_32 6 rfl ?_
      refine gV_iload_n C dX3_guessesFor_34 rfl 1 rfl ?_
      refine gV_iload_n C dX3_guessesFor_35 rfl 2 rfl ?_
      refine gV_iadd C dX3_guessesFor_36 ?_
      refine gV_icmp_ge (tgt := 116) C dX3_guessesFor_37 (by decide) (fun c37 => ?_) (fun c37 => ?_)
      · replace hp := g_ift hp c37
        refine gV_loc [0, 5] rfl ?_
        exact J116 v5 pn pg pq sr pm ps hp
      · replace hp := g_iff hp c37
        refine gV_iload C dX3_guessesFor_40 6 rfl ?_
        refine gV_aload_n C dX3_guessesFor_42 rfl 0 rfl ?_
        refine gV_get (Cn := RX3) (T := TX3) (N := 8) C inw_X3_guessesFor_X3 0 rfl rfl 4 (by decide) (C.w 1 rfl) rfl rfl dX3_guessesFor_43 ?_
        refine gV_alen (v := 300) C 5 rfl 0 rfl rfl dX3_guessesFor_46 ?_
        refine gV_icmp_ge (tgt := 116) C dX3_guessesFor_47 (by decide) (fun c47 => ?_) (fun c47 => ?_)
        · replace hp := g_ift hp c47
          refine gV_loc [0, 5] rfl ?_
          exact J116 v5 pn pg pq sr pm ps hp
        · replace hp := g_iff hp c47
          refine gV_aload_n C dX3_guessesFor_50 rfl 0 rfl ?_
          refine gV_get (Cn := RX3) (T := TX3) (N := 8) C inw_X3_guessesFor_X3 0 rfl rfl 4 (by decide) (C.w 1 rfl) rfl rfl dX3_guessesFor_51 ?_
          refine gV_iload C dX3_guessesFor_54 6 rfl ?_
          obtain ⟨hi56, hp⟩ := g_idx hp
          refine gV_iald C 5 rfl 0 rfl hi56 dX3_guessesFor_56 ?_
          refine gV_iload C dX3_guessesFor_57 4 rfl ?_
          refine gV_icmp_eq (tgt := 110) C dX3_guessesFor_59 (by decide) (fun c59 => ?_) (fun c59 => ?_)
          · replace hp := g_ift hp c59
            exact J110 v5 v6 pn pg pq sr pm ps hp
          · replace hp := g_iff hp c59
            refine gV_aload_n C dX3_guessesFor_62 rfl 0 rfl ?_
            refine gV_iload C dX3_guessesFor_63 4 rfl ?_
            refine gV_iload_n C dX3_guessesFor_65 rfl 1 rfl ?_
            refine gV_iload C dX3_guessesFor_66 6 rfl ?_
            obtain ⟨r68q, hq68, hp⟩ := g_ob1 hp
            refine gV_calliS C (gV_runV (As := [.int v4, .int v1, .int v6]) (rest := []) C (mt_X3_opensPart hl D h cI cJ lc la hr uP uC uR tn pn pg pq rl sr gcb gpb tg tm tl pm ps v4 v1 v6 r68q hq68) (cwV 3 C.2.2.2.2.1 gX3_guessesFor_X3_opensPart rfl rfl rfl hdv_X3_opensPart (by constructor <;> simp only [rm_X3_opensPart, rm_X3_guessesFor] <;> omega)) (gSub_S _) 0 rfl rfl rfl rfl (Nat.le_of_ble_eq_true rfl) dX3_guessesFor_68 ⟨Nat.le_of_ble_eq_true rfl, Nat.le_of_ble_eq_true rfl⟩) (fun _ _ hx => False.elim hx) (fun r68 w1 hw => ?_)
            obtain ⟨rfl, rfl⟩ := hw
            refine gV_if_eq (tgt := 110) C dX3_guessesFor_71 (by decide) (fun c71 => ?_) (fun c71 => ?_)
            · replace hp := g_ift hp c71
              exact J110 v5 v6 pn pg pq sr pm ps hp
            · replace hp := g_iff hp c71
              refine gV_aload_n C dX3_guessesFor_74 rfl 0 rfl ?_
              refine gV_get (Cn := RX3) (T := TX3) (N := 8) C inw_X3_guessesFor_X3 0 rfl rfl 0 (by decide) (C.w 2 rfl) rfl rfl dX3_guessesFor_75 ?_
              refine gV_iload C dX3_guessesFor_78 4 rfl ?_
              refine gV_aload_n C dX3_guessesFor_80 rfl 0 rfl ?_
              refine gV_get (Cn := RX3) (T := TX3) (N := 8) C inw_X3_guessesFor_X3 0 rfl rfl 4 (by decide) (C.w 1 rfl) rfl rfl dX3_guessesFor_81 ?_
              refine gV_iload C dX3_guessesFor_84 6 rfl ?_
              obtain ⟨hi86, hp⟩ := g_idx hp
              refine gV_iald C 5 rfl 0 rfl hi86 dX3_guessesFor_86 ?_
              obtain ⟨r87q, hq87, hp⟩ := g_ob1 hp
              refine gV_calliS C (gV_runV (As := [.int v4, .int (sr v6.toNatClampNeg)]) (rest := []) C (mt_X1_compare hl D h cI cJ lc la hr uP uC uR tn pn pg pq rl sr gcb gpb tg tm tl pm ps v4 (sr v6.toNatClampNeg) r87q hq87) (cwV 2 C.2.2.2.2.1 gX3_guessesFor_X1_compare rfl rfl rfl hdv_X1_compare (by constructor <;> simp only [rm_X1_compare, rm_X3_guessesFor] <;> omega)) (gSub_S _) 1 rfl rfl rfl rfl (Nat.le_of_ble_eq_true rfl) dX3_guessesFor_87 ⟨Nat.le_of_ble_eq_true rfl, Nat.le_of_ble_eq_true rfl⟩) (fun _ _ hx => False.elim hx) (fun r87 w1 hw => ?_)
              obtain ⟨rfl, rfl⟩ := hw
              refine gV_istore (lvs' := [(7, .int r87), (0, .ref (h 0)), (1, .int v1), (2, .int v2), (3, .int v3), (4, .int v4), (5, .int v5), (6, .int v6)]) C dX3_guessesFor_90 (by decide) rfl ?_
              refine gV_iload C dX3_guessesFor_92 6 rfl ?_
              refine gV_aload_n C dX3_guessesFor_94 rfl 1 rfl ?_
              refine gV_iload C dX3_guessesFor_95 5 rfl ?_
              refine gV_iload C dX3_guessesFor_97 0 rfl ?_
              refine gV_iload_n C dX3_guessesFor_99 rfl 2 rfl ?_
              refine gV_iload_n C dX3_guessesFor_100 rfl 3 rfl ?_
              refine gV_iload_n C dX3_guessesFor_101 rfl 4 rfl ?_
              obtain ⟨r102q, pn_102, pg_102, pq_102, sr_102, pm_102, ps_102, hq102, hp⟩ := g_ob7 hp
              refine gV_calliS C (gV_runV (As := [.int v4, .int r87, .int v1, .int v2, .int v3]) (rest := [.int v5]) C (mt_X3_guessesForPart hl D h cI cJ dd rf_X3_guessesFor hrf_X3_guessesFor lc la hr uP uC uR tn pn pg pq rl sr gcb gpb tg tm tl pm ps v4 r87 v1 v2 v3 r102q pn_102 pg_102 pq_102 sr_102 pm_102 ps_102 hq102) (cwV 5 C.2.2.2.2.1 gX3_guessesFor_X3_guessesForPart rfl rfl rfl hdv_X3_guessesForPart (by constructor <;> simp only [rm_X3_guessesForPart, rm_X3_guessesFor] <;> omega)) (gSub_S _) 0 rfl rfl rfl rfl (Nat.le_of_ble_eq_true rfl) dX3_guessesFor_102 ⟨Nat.le_of_ble_eq_true rfl, Nat.le_of_ble_eq_true rfl⟩) (fun _ _ hx => False.elim hx) (fun r102 w1 hw => ?_)
              obtain ⟨rfl, rfl⟩ := hw
              refine gV_mmax C (C.w 3 rfl) (C.w 4 rfl) (C.w 5 rfl) (C.w 6 rfl) (by simp only [rm_X3_guessesFor, List.map, List.sum_cons, List.sum_nil, Value.category] <;> omega) (by simp only [rm_X3_guessesFor, List.map, List.sum_cons, List.sum_nil, Value.category] <;> omega) (Nat.le_of_ble_eq_true rfl) (Nat.le_of_ble_eq_true rfl) dX3_guessesFor_105 ?_
              refine gV_istore (lvs' := [(5, .int (g_max v5 r102)), (7, .int r87), (0, .ref (h 0)), (1, .int v1), (2, .int v2), (3, .int v3), (4, .int v4), (6, .int v6)]) C dX3_guessesFor_108 (by decide) rfl ?_
              refine gV_loc [2, 3, 4, 5, 6, 0, 7] rfl ?_
              exact J110 (g_max v5 r102) v6 pn_102 pg_102 pq_102 sr_102 pm_102 ps_102 hp
  have J11 : ∀ (pn : Int32) (pg : Int32) (pq : Int32) (sr : Nat → Int32) (pm : Nat → Int32) (ps : Nat → Int32), pf_X3_guessesForB_j11 pn pg pq sr pm ps = (some (r0, pn0, pg0, pq0, sr0, pm0, ps0)) → gV p l e (rm_X3_guessesFor (dd + 1)) s m args below meth c A D 8 Q (cW h cI cJ lc la hr uP uC uR tn pn pg pq rl sr gcb gpb tg tm tl pm ps) [(0, .ref (h 0))] 0 0 11 [] := by
    intro pn pg pq sr pm ps hp
    unfold pf_X3_guessesForB_j11 at hp
    refine gV_iconst (v := 1) C dX3_guessesFor_11 rfl ?_
    obtain ⟨rfl, rfl, rfl, rfl, rfl, rfl, rfl⟩ := g_so7 hp
    exact RET _ _ _ _ _ _ dX3_guessesFor_12 (Nat.le_of_ble_eq_true rfl) (Nat.le_of_ble_eq_true rfl) rfl ⟨rfl, rfl⟩
  refine gV_iload_n C dX3_guessesFor_0 rfl 2 rfl ?_
  refine gV_iconst (v := 1) C dX3_guessesFor_1 rfl ?_
  refine gV_icmp_le (tgt := 11) C dX3_guessesFor_2 (by decide) (fun c2 => ?_) (fun c2 => ?_)
  · replace hp := g_ift hp c2
    refine gV_loc [0] rfl ?_
    exact J11 pn pg pq sr pm ps hp
  · replace hp := g_iff hp c2
    refine gV_iload_n C dX3_guessesFor_5 rfl 3 rfl ?_
    refine gV_bipush (v := 24) C dX3_guessesFor_6 rfl ?_
    refine gV_icmp_lt (tgt := 13) C dX3_guessesFor_8 (by decide) (fun c8 => ?_) (fun c8 => ?_)
    · replace hp := g_ift hp c8
      refine gV_aload_n C dX3_guessesFor_13 rfl 0 rfl ?_
      refine gV_iconst (v := 0) C dX3_guessesFor_14 rfl ?_
      refine gV_aload_n C dX3_guessesFor_15 rfl 0 rfl ?_
      refine gV_get (Cn := RX3) (T := TX3) (N := 8) C inw_X3_guessesFor_X3 0 rfl rfl 4 (by decide) (C.w 1 rfl) rfl rfl dX3_guessesFor_16 ?_
      refine gV_iload_n C dX3_guessesFor_19 rfl 1 rfl ?_
      refine gV_iload_n C dX3_guessesFor_20 rfl 2 rfl ?_
      obtain ⟨r21q, pn_21, pg_21, pq_21, pm_21, ps_21, hq21, hp⟩ := g_ob6 hp
      refine gV_calliS C (gV_runV (As := [.int 0, .ref (h 5), .int v1, .int v2]) (rest := []) C (mt_X3_bestFor_sr hl D h cI cJ lc la hr uP uC uR tn pn pg pq rl sr gcb gpb tg tm tl pm ps 0 v1 v2 r21q pn_21 pg_21 pq_21 pm_21 ps_21 hq21) (cwV 4 C.2.2.2.2.1 gX3_guessesFor_X3_bestFor rfl rfl rfl hdv_X3_bestFor (by constructor <;> simp only [rm_X3_bestFor_sr, rm_X3_guessesFor] <;> omega)) (gSub_S _) 0 rfl rfl rfl rfl (Nat.le_of_ble_eq_true rfl) dX3_guessesFor_21 ⟨Nat.le_of_ble_eq_true rfl, Nat.le_of_ble_eq_true rfl⟩) (fun _ _ hx => False.elim hx) (fun r21 w1 hw => ?_)
      obtain ⟨rfl, rfl⟩ := hw
      refine gV_istore (lvs' := [(4, .int r21), (0, .ref (h 0)), (1, .int v1), (2, .int v2), (3, .int v3)]) C dX3_guessesFor_24 (by decide) rfl ?_
      refine gV_iconst (v := 0) C dX3_guessesFor_26 rfl ?_
      refine gV_istore (lvs' := [(5, .int 0), (4, .int r21), (0, .ref (h 0)), (1, .int v1), (2, .int v2), (3, .int v3)]) C dX3_guessesFor_27 (by decide) rfl ?_
      refine gV_iload_n C dX3_guessesFor_29 rfl 3 rfl ?_
      refine gV_istore (lvs' := [(6, .int v1), (5, .int 0), (4, .int r21), (0, .ref (h 0)), (1, .int v1), (2, .int v2), (3, .int v3)]) C dX3_guessesFor_30 (by decide) rfl ?_
      refine gV_loc [3, 4, 5, 6, 2, 1, 0] rfl ?_
      exact L32 r21 100000 0 v1 pn_21 pg_21 pq_21 sr pm_21 ps_21 hp
    · replace hp := g_iff hp c8
      refine gV_loc [0] rfl ?_
      exact J11 pn pg pq sr pm ps hp
def pf_X3_guessesFor : Nat → Int32 → Int32 → Int32 → Int32 → Int32 → (Nat → Int32) → (Nat → Int32) → (Nat → Int64) → (Nat → Int32) → (Nat → Int32) → Int32 → Int32 → Int32 → Option (Int32 × Int32 × Int32 × Int32 × (Nat → Int32) × (Nat → Int32) × (Nat → Int32))
  | 0, _, _, _, _, _, _, _, _, _, _, _, _, _ => none
  | dd + 1, a0, a1, a2, a3, a4, a5, a6, a7, a8, a9, a10, a11, a12 => pf_X3_guessesForB (fun a0 a1 a2 a3 a4 a5 a6 a7 a8 a9 a10 a11 a12 => pf_X3_guessesFor dd a0 a1 a2 a3 a4 a5 a6 a7 a8 a9 a10 a11 a12) a0 a1 a2 a3 a4 a5 a6 a7 a8 a9 a10 a11 a12
theorem mt_X3_guessesFor {l : Launch} (hl : l.stackTraces = false) (D : va_G) (h : Nat → Nat) (cI cJ : ClassId) (dd : Nat) : ∀ (lc : Int32) (la : Int32) (hr : Int32) (uP : Int32) (uC : Int32) (uR : Int32) (tn : Int32) (pn : Int32) (pg : Int32) (pq : Int32) (rl : Nat → Int32) (sr : Nat → Int32) (gcb : Nat → Int32) (gpb : Nat → Int64) (tg : Nat → Int32) (tm : Nat → Int32) (tl : Nat → Int32) (pm : Nat → Int32) (ps : Nat → Int32) (v1 : Int32) (v2 : Int32) (v3 : Int32) (r0 : Int32) (pn0 : Int32) (pg0 : Int32) (pq0 : Int32) (sr0 : Nat → Int32) (pm0 : Nat → Int32) (ps0 : Nat → Int32), pf_X3_guessesFor dd uP uR pn pg pq sr gcb gpb pm ps v1 v2 v3 = (some (r0, pn0, pg0, pq0, sr0, pm0, ps0)) → gMi l yX3_guessesFor wsX3_guessesFor (rm_X3_guessesFor dd) D [(cI, .int), (cJ, .long)] (cW h cI cJ lc la hr uP uC uR tn pn pg pq rl sr gcb gpb tg tm tl pm ps) [.ref (h 0), .int v1, .int v2, .int v3] 0 0 (fun r w => r = r0 ∧ w = cW h cI cJ lc la hr uP uC uR tn pn0 pg0 pq0 rl sr0 gcb gpb tg tm tl pm0 ps0) (fun _ _ => False) := by
  induction dd with
  | zero => intro lc la hr uP uC uR tn pn pg pq rl sr gcb gpb tg tm tl pm ps v1 v2 v3 r0 pn0 pg0 pq0 sr0 pm0 ps0 hp; exact g_none hp
  | succ dd ih => intro lc la hr uP uC uR tn pn pg pq rl sr gcb gpb tg tm tl pm ps v1 v2 v3 r0 pn0 pg0 pq0 sr0 pm0 ps0 hp; exact mt_X3_guessesForB hl D h cI cJ dd _ ih lc la hr uP uC uR tn pn pg pq rl sr gcb gpb tg tm tl pm ps v1 v2 v3 r0 pn0 pg0 pq0 sr0 pm0 ps0 hp
def pf_X3_guessesNeeded_j17  (pn : Int32) (pg : Int32) (pq : Int32) (sr : Nat → Int32) (pm : Nat → Int32) (ps : Nat → Int32) : Option (Nat × Int32 × Int32 × Int32 × Int32 × (Nat → Int32) × (Nat → Int32) × (Nat → Int32)) := (some (3, 0, pn, pg, pq, sr, pm, ps))
def pf_X3_guessesNeeded  (lc : Int32) (uP : Int32) (uR : Int32) (pn : Int32) (pg : Int32) (pq : Int32) (rl : Nat → Int32) (sr : Nat → Int32) (gcb : Nat → Int32) (gpb : Nat → Int64) (pm : Nat → Int32) (ps : Nat → Int32)  : Option (Nat × Int32 × Int32 × Int32 × Int32 × (Nat → Int32) × (Nat → Int32) × (Nat → Int32)) := (if lc < 1 then (pf_X3_guessesNeeded_j17 pn pg pq sr pm ps) else (if lc ≤ 24 then (gcp 0 0 lc 256 300 (ob7 (pf_X3_guessesFor 30 uP uR pn pg pq (va_cpy rl sr (0 : Int32).toNatClampNeg (0 : Int32).toNatClampNeg lc.toNatClampNeg) gcb gpb pm ps 0 lc 1) fun r51 pn_51 pg_51 pq_51 sr_51 pm_51 ps_51 => (some (0, r51, pn_51, pg_51, pq_51, sr_51, pm_51, ps_51)))) else (pf_X3_guessesNeeded_j17 pn pg pq sr pm ps)))
abbrev rm_X3_guessesNeeded : Room := { frames := 65, cells := 1, slots := 6, locals := 3227 }
theorem inw_X3_guessesNeeded_X3 : ∀ w ∈ wsX30, w ∈ wsX3_guessesNeeded := by decide +kernel
theorem tw_X3_guessesNeeded_ISE : gTw wsX3_guessesNeeded "java/lang/IllegalStateException" 91 87 := ⟨gtw_ISE.1, List.mem_of_getElem? (i := 1) rfl, List.mem_of_getElem? (i := 2) rfl, fun w h => List.mem_cons_of_mem _ (List.mem_append_right _ h), gtw_ISE.2.1, gtw_ISE.2.2⟩
set_option maxHeartbeats 4000000 in
set_option maxRecDepth 100000 in
theorem mt_X3_guessesNeeded {l : Launch} (hl : l.stackTraces = false) (D : va_G) (h : Nat → Nat) (cI cJ : ClassId) (lc : Int32) (la : Int32) (hr : Int32) (uP : Int32) (uC : Int32) (uR : Int32) (tn : Int32) (pn : Int32) (pg : Int32) (pq : Int32) (rl : Nat → Int32) (sr : Nat → Int32) (gcb : Nat → Int32) (gpb : Nat → Int64) (tg : Nat → Int32) (tm : Nat → Int32) (tl : Nat → Int32) (pm : Nat → Int32) (ps : Nat → Int32)  (xc0 : Nat) (r0 : Int32) (pn0 : Int32) (pg0 : Int32) (pq0 : Int32) (sr0 : Nat → Int32) (pm0 : Nat → Int32) (ps0 : Nat → Int32) (hp : pf_X3_guessesNeeded lc uP uR pn pg pq rl sr gcb gpb pm ps = (some (xc0, r0, pn0, pg0, pq0, sr0, pm0, ps0))) : gMi l yX3_guessesNeeded wsX3_guessesNeeded rm_X3_guessesNeeded D [(cI, .int), (cJ, .long)] (cW h cI cJ lc la hr uP uC uR tn pn pg pq rl sr gcb gpb tg tm tl pm ps) [.ref (h 0)] 1 6 (fun r w => xc0 = 0 ∧ r = r0 ∧ w = cW h cI cJ lc la hr uP uC uR tn pn0 pg0 pq0 rl sr0 gcb gpb tg tm tl pm0 ps0) (fun E w => xc0 ≠ 0 ∧ E = g_exn xc0 ∧ w = cW h cI cJ lc la hr uP uC uR tn pn0 pg0 pq0 rl sr0 gcb gpb tg tm tl pm0 ps0) := by
  refine gMi_of (cc := cX3_guessesNeeded) (maxL := 1) (rt := .int) hl (by decide +kernel) rfl (Nat.le_of_ble_eq_true rfl) ?_
  intro p e s m args below meth c A Q C hnm ht RET OUT THR THRW
  have C : gC p l s m args meth c A D [(cI, .int), (cJ, .long)] 1 RX3 cX3_guessesNeeded wsX3_guessesNeeded := C
  have THR := THR rfl
  have THRW := THRW rfl
  refine gV_loc (lvs' := [(0, .ref (h 0))]) [0] rfl ?_
  unfold pf_X3_guessesNeeded at hp
  have J17 : ∀ (pn : Int32) (pg : Int32) (pq : Int32) (sr : Nat → Int32) (pm : Nat → Int32) (ps : Nat → Int32), pf_X3_guessesNeeded_j17 pn pg pq sr pm ps = (some (xc0, r0, pn0, pg0, pq0, sr0, pm0, ps0)) → gV p l e rm_X3_guessesNeeded s m args below meth c A D 1 Q (cW h cI cJ lc la hr uP uC uR tn pn pg pq rl sr gcb gpb tg tm tl pm ps) [(0, .ref (h 0))] 0 0 17 [] := by
    intro pn pg pq sr pm ps hp
    unfold pf_X3_guessesNeeded_j17 at hp
    obtain ⟨rfl, rfl, rfl, rfl, rfl, rfl, rfl, rfl⟩ := g_so8 hp
    exact THR _ "no row is left, or too many are" 91 87 189 _ _ _ _ _ _ ⟨by decide, rfl, rfl⟩ tw_X3_guessesNeeded_ISE (Or.inr (Or.inr rfl)) (by decide) dX3_guessesNeeded_17 dX3_guessesNeeded_20 dX3_guessesNeeded_21 dX3_guessesNeeded_23 dX3_guessesNeeded_26 (Nat.le_of_ble_eq_true rfl) (Nat.le_of_ble_eq_true rfl) (Nat.le_of_ble_eq_true rfl) (Nat.le_of_ble_eq_true rfl) (Nat.le_of_ble_eq_true rfl) (Nat.le_of_ble_eq_true rfl)
  refine gV_aload_n C dX3_guessesNeeded_0 rfl 0 rfl ?_
  refine gV_get (Cn := RX3) (T := TX3) (N := 8) C inw_X3_guessesNeeded_X3 0 rfl rfl 5 (by decide) (C.w 3 rfl) rfl rfl dX3_guessesNeeded_1 ?_
  refine gV_iconst (v := 1) C dX3_guessesNeeded_4 rfl ?_
  refine gV_icmp_lt (tgt := 17) C dX3_guessesNeeded_5 (by decide) (fun c5 => ?_) (fun c5 => ?_)
  · replace hp := g_ift hp c5
    exact J17 pn pg pq sr pm ps hp
  · replace hp := g_iff hp c5
    refine gV_aload_n C dX3_guessesNeeded_8 rfl 0 rfl ?_
    refine gV_get (Cn := RX3) (T := TX3) (N := 8) C inw_X3_guessesNeeded_X3 0 rfl rfl 5 (by decide) (C.w 3 rfl) rfl rfl dX3_guessesNeeded_9 ?_
    refine gV_bipush (v := 24) C dX3_guessesNeeded_12 rfl ?_
    refine gV_icmp_le (tgt := 27) C dX3_guessesNeeded_14 (by decide) (fun c14 => ?_) (fun c14 => ?_)
    · replace hp := g_ift hp c14
      refine gV_aload_n C dX3_guessesNeeded_27 rfl 0 rfl ?_
      refine gV_get (Cn := RX3) (T := TX3) (N := 8) C inw_X3_guessesNeeded_X3 0 rfl rfl 3 (by decide) (C.w 4 rfl) rfl rfl dX3_guessesNeeded_28 ?_
      refine gV_iconst (v := 0) C dX3_guessesNeeded_31 rfl ?_
      refine gV_aload_n C dX3_guessesNeeded_32 rfl 0 rfl ?_
      refine gV_get (Cn := RX3) (T := TX3) (N := 8) C inw_X3_guessesNeeded_X3 0 rfl rfl 4 (by decide) (C.w 5 rfl) rfl rfl dX3_guessesNeeded_33 ?_
      refine gV_iconst (v := 0) C dX3_guessesNeeded_36 rfl ?_
      refine gV_aload_n C dX3_guessesNeeded_37 rfl 0 rfl ?_
      refine gV_get (Cn := RX3) (T := TX3) (N := 8) C inw_X3_guessesNeeded_X3 0 rfl rfl 5 (by decide) (C.w 3 rfl) rfl rfl dX3_guessesNeeded_38 ?_
      obtain ⟨h1_41, h2_41, h3_41, h4_41, h5_41, hp⟩ := g_copy hp
      refine gV_copyi (ws' := cW h cI cJ lc la hr uP uC uR tn pn pg pq rl (va_cpy rl sr (0 : Int32).toNatClampNeg (0 : Int32).toNatClampNeg lc.toNatClampNeg) gcb gpb tg tm tl pm ps) C (C.w 6 rfl) (C.w 7 rfl) (C.w 8 rfl) (C.w 9 rfl) 4 5 rfl rfl 0 rfl h1_41 h2_41 h3_41 h4_41 h5_41 (Nat.le_of_ble_eq_true rfl) (by decide) dX3_guessesNeeded_41 rfl ?_
      refine gV_aload_n C dX3_guessesNeeded_44 rfl 0 rfl ?_
      refine gV_iconst (v := 0) C dX3_guessesNeeded_45 rfl ?_
      refine gV_aload_n C dX3_guessesNeeded_46 rfl 0 rfl ?_
      refine gV_get (Cn := RX3) (T := TX3) (N := 8) C inw_X3_guessesNeeded_X3 0 rfl rfl 5 (by decide) (C.w 3 rfl) rfl rfl dX3_guessesNeeded_47 ?_
      refine gV_iconst (v := 1) C dX3_guessesNeeded_50 rfl ?_
      obtain ⟨r51q, pn_51, pg_51, pq_51, sr_51, pm_51, ps_51, hq51, hp⟩ := g_ob7 hp
      refine gV_calliS C (gV_runV (As := [.int 0, .int lc, .int 1]) (rest := []) C (mt_X3_guessesFor hl D h cI cJ 30 lc la hr uP uC uR tn pn pg pq rl (va_cpy rl sr (0 : Int32).toNatClampNeg (0 : Int32).toNatClampNeg lc.toNatClampNeg) gcb gpb tg tm tl pm ps 0 lc 1 r51q pn_51 pg_51 pq_51 sr_51 pm_51 ps_51 hq51) (cwV 3 C.2.2.2.2.1 gX3_guessesNeeded_X3_guessesFor rfl rfl rfl hdv_X3_guessesFor ⟨Nat.le_of_ble_eq_true rfl, Nat.le_of_ble_eq_true rfl⟩) (gSub_S _) 0 rfl rfl rfl rfl (Nat.le_of_ble_eq_true rfl) dX3_guessesNeeded_51 ⟨Nat.le_of_ble_eq_true rfl, Nat.le_of_ble_eq_true rfl⟩) (fun _ _ hx => False.elim hx) (fun r51 w1 hw => ?_)
      obtain ⟨rfl, rfl⟩ := hw
      obtain ⟨rfl, rfl, rfl, rfl, rfl, rfl, rfl, rfl⟩ := g_so8 hp
      exact RET _ _ _ _ _ _ dX3_guessesNeeded_54 (Nat.le_of_ble_eq_true rfl) (Nat.le_of_ble_eq_true rfl) rfl ⟨rfl, rfl, rfl⟩
    · replace hp := g_iff hp c14
      exact J17 pn pg pq sr pm ps hp

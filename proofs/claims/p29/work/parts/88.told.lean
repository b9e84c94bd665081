abbrev rm_L_isTold : Room := { frames := 67, cells := 799, slots := 4794, locals := 3269 }
theorem hds_L_bestGuess : yL_bestGuess.cls ≠ "java/lang/invoke/MethodHandle" ∧ yL_bestGuess.cls ≠ "java/lang/invoke/VarHandle" ∧ (parseMethodDescriptor yL_bestGuess.desc).map (fun d => d.parameters.length) = some 2 := by decide +kernel
theorem hds_L_colourAt : yL_colourAt.cls ≠ "java/lang/invoke/MethodHandle" ∧ yL_colourAt.cls ≠ "java/lang/invoke/VarHandle" ∧ (parseMethodDescriptor yL_colourAt.desc).map (fun d => d.parameters.length) = some 3 := by decide +kernel
theorem hds_L_guessesNeeded : yL_guessesNeeded.cls ≠ "java/lang/invoke/MethodHandle" ∧ yL_guessesNeeded.cls ≠ "java/lang/invoke/VarHandle" ∧ (parseMethodDescriptor yL_guessesNeeded.desc).map (fun d => d.parameters.length) = some 1 := by decide +kernel
theorem hds_L_isInProof : yL_isInProof.cls ≠ "java/lang/invoke/MethodHandle" ∧ yL_isInProof.cls ≠ "java/lang/invoke/VarHandle" ∧ (parseMethodDescriptor yL_isInProof.desc).map (fun d => d.parameters.length) = some 2 := by decide +kernel
theorem hds_L_leftAt : yL_leftAt.cls ≠ "java/lang/invoke/MethodHandle" ∧ yL_leftAt.cls ≠ "java/lang/invoke/VarHandle" ∧ (parseMethodDescriptor yL_leftAt.desc).map (fun d => d.parameters.length) = some 2 := by decide +kernel
theorem hds_L_mark : yL_mark.cls ≠ "java/lang/invoke/MethodHandle" ∧ yL_mark.cls ≠ "java/lang/invoke/VarHandle" ∧ (parseMethodDescriptor yL_mark.desc).map (fun d => d.parameters.length) = some 3 := by decide +kernel
theorem hds_L_markOf : yL_markOf.cls ≠ "java/lang/invoke/MethodHandle" ∧ yL_markOf.cls ≠ "java/lang/invoke/VarHandle" ∧ (parseMethodDescriptor yL_markOf.desc).map (fun d => d.parameters.length) = some 2 := by decide +kernel
theorem hds_L_needed : yL_needed.cls ≠ "java/lang/invoke/MethodHandle" ∧ yL_needed.cls ≠ "java/lang/invoke/VarHandle" ∧ (parseMethodDescriptor yL_needed.desc).map (fun d => d.parameters.length) = some 5 := by decide +kernel
theorem hds_L_partMark : yL_partMark.cls ≠ "java/lang/invoke/MethodHandle" ∧ yL_partMark.cls ≠ "java/lang/invoke/VarHandle" ∧ (parseMethodDescriptor yL_partMark.desc).map (fun d => d.parameters.length) = some 3 := by decide +kernel
theorem hds_L_proof : yL_proof.cls ≠ "java/lang/invoke/MethodHandle" ∧ yL_proof.cls ≠ "java/lang/invoke/VarHandle" ∧ (parseMethodDescriptor yL_proof.desc).map (fun d => d.parameters.length) = some 5 := by decide +kernel
theorem hdv_X3_entries : yX3_entries.cls = RX3 ∧ yX3_entries.cls ≠ "java/lang/invoke/MethodHandle" ∧ yX3_entries.cls ≠ "java/lang/invoke/VarHandle" ∧ (parseMethodDescriptor yX3_entries.desc).map (fun d => d.parameters.length) = some 0 := by decide +kernel
theorem hdv_X3_guessOf : yX3_guessOf.cls = RX3 ∧ yX3_guessOf.cls ≠ "java/lang/invoke/MethodHandle" ∧ yX3_guessOf.cls ≠ "java/lang/invoke/VarHandle" ∧ (parseMethodDescriptor yX3_guessOf.desc).map (fun d => d.parameters.length) = some 1 := by decide +kernel
theorem hdv_X3_isLeft : yX3_isLeft.cls = RX3 ∧ yX3_isLeft.cls ≠ "java/lang/invoke/MethodHandle" ∧ yX3_isLeft.cls ≠ "java/lang/invoke/VarHandle" ∧ (parseMethodDescriptor yX3_isLeft.desc).map (fun d => d.parameters.length) = some 1 := by decide +kernel
theorem hdv_X3_left : yX3_left.cls = RX3 ∧ yX3_left.cls ≠ "java/lang/invoke/MethodHandle" ∧ yX3_left.cls ≠ "java/lang/invoke/VarHandle" ∧ (parseMethodDescriptor yX3_left.desc).map (fun d => d.parameters.length) = some 0 := by decide +kernel
theorem hdv_X3_leftByAll : yX3_leftByAll.cls = RX3 ∧ yX3_leftByAll.cls ≠ "java/lang/invoke/MethodHandle" ∧ yX3_leftByAll.cls ≠ "java/lang/invoke/VarHandle" ∧ (parseMethodDescriptor yX3_leftByAll.desc).map (fun d => d.parameters.length) = some 0 := by decide +kernel
theorem hdv_X3_liesAbout : yX3_liesAbout.cls = RX3 ∧ yX3_liesAbout.cls ≠ "java/lang/invoke/MethodHandle" ∧ yX3_liesAbout.cls ≠ "java/lang/invoke/VarHandle" ∧ (parseMethodDescriptor yX3_liesAbout.desc).map (fun d => d.parameters.length) = some 1 := by decide +kernel
theorem hdv_X3_parts : yX3_parts.cls = RX3 ∧ yX3_parts.cls ≠ "java/lang/invoke/MethodHandle" ∧ yX3_parts.cls ≠ "java/lang/invoke/VarHandle" ∧ (parseMethodDescriptor yX3_parts.desc).map (fun d => d.parameters.length) = some 1 := by decide +kernel
theorem hdv_X3_proofSize : yX3_proofSize.cls = RX3 ∧ yX3_proofSize.cls ≠ "java/lang/invoke/MethodHandle" ∧ yX3_proofSize.cls ≠ "java/lang/invoke/VarHandle" ∧ (parseMethodDescriptor yX3_proofSize.desc).map (fun d => d.parameters.length) = some 0 := by decide +kernel
theorem hdv_X3_weight : yX3_weight.cls = RX3 ∧ yX3_weight.cls ≠ "java/lang/invoke/MethodHandle" ∧ yX3_weight.cls ≠ "java/lang/invoke/VarHandle" ∧ (parseMethodDescriptor yX3_weight.desc).map (fun d => d.parameters.length) = some 1 := by decide +kernel
theorem hdv_X3_worstCase : yX3_worstCase.cls = RX3 ∧ yX3_worstCase.cls ≠ "java/lang/invoke/MethodHandle" ∧ yX3_worstCase.cls ≠ "java/lang/invoke/VarHandle" ∧ (parseMethodDescriptor yX3_worstCase.desc).map (fun d => d.parameters.length) = some 1 := by decide +kernel
set_option maxHeartbeats 4000000 in
set_option maxRecDepth 100000 in
theorem mt_L_isTold {l : Launch} (hl : l.stackTraces = false) (D : va_G) (h : Nat → Nat) (k : Nat → Nat) (cI cJ : ClassId) (lc : Int32) (la : Int32) (hr : Int32) (uP : Int32) (uC : Int32) (uR : Int32) (tn : Int32) (pn : Int32) (pg : Int32) (pq : Int32) (rl : Nat → Int32) (sr : Nat → Int32) (gcb : Nat → Int32) (gpb : Nat → Int64) (tg : Nat → Int32) (tm : Nat → Int32) (tl : Nat → Int32) (pm : Nat → Int32) (ps : Nat → Int32) (yg : Nat → Int32) (yq : Nat → Int32) (ym : Nat → Int32) (yw : Nat → Int64) (yh : Nat → Int32) (yr : Nat → Int64) (v1 : Int32) (r0 : Int32) (pn0 : Int32) (pg0 : Int32) (pq0 : Int32) (sr0 : Nat → Int32) (pm0 : Nat → Int32) (ps0 : Nat → Int32) (yw0 : Nat → Int64) (yh0 : Nat → Int32) (hp : pf_L_isTold lc la uP uR tn pn pg pq rl sr gcb gpb tg tm tl pm ps yg yq ym yw yh yr v1 = (some (r0, pn0, pg0, pq0, sr0, pm0, ps0, yw0, yh0))) : gMi l yL_isTold wsL_isTold rm_L_isTold D [(cI, .int), (cJ, .long)] ((cW h cI cJ lc la hr uP uC uR tn pn pg pq rl sr gcb gpb tg tm tl pm ps) ++ (yW k cI cJ yg yq ym yw yh yr)) [.ref (h 0), .int v1, .ref (k 0), .ref (k 5), .ref (k 1), .ref (k 2), .ref (k 3), .ref (k 4)] 799 4794 (fun r w => r = r0 ∧ w = (cW h cI cJ lc la hr uP uC uR tn pn0 pg0 pq0 rl sr0 gcb gpb tg tm tl pm0 ps0) ++ (yW k cI cJ yg yq ym yw0 yh0 yr)) (fun _ _ => False) := by
  refine gMi_of (cc := cL_isTold) (maxL := 21) (rt := .boolean) hl (by decide +kernel) rfl (Nat.le_of_ble_eq_true rfl) ?_
  intro p e s m args below meth c A Q C hnm ht RET OUT THR THRW
  have C : gC p l s m args meth c A D [(cI, .int), (cJ, .long)] 21 RL cL_isTold wsL_isTold := C
  refine gV_loc (lvs' := [(0, .ref (h 0)), (1, .int v1), (2, .ref (k 0)), (3, .ref (k 5)), (4, .ref (k 1)), (5, .ref (k 2)), (6, .ref (k 3)), (7, .ref (k 4))]) [0, 1, 2, 3, 4, 5, 6, 7] rfl ?_
  unfold pf_L_isTold at hp
  have L720 : ∀ (v10 : Int32) (v18 : Int32) (pn : Int32) (pg : Int32) (pq : Int32) (sr : Nat → Int32) (pm : Nat → Int32) (ps : Nat → Int32) (yw : Nat → Int64) (yh : Nat → Int32) (n720 : Nat) (v19 : Int32), n720 ≤ 70 → pf_L_isTold_L720 lc la uR tn tl yg v10 v18 pn pg pq sr pm ps yw yh n720 v19 = (some (r0, pn0, pg0, pq0, sr0, pm0, ps0, yw0, yh0)) → gV p l e rm_L_isTold s m args below meth c A D 21 Q ((cW h cI cJ lc la hr uP uC uR tn pn pg pq rl sr gcb gpb tg tm tl pm ps) ++ (yW k cI cJ yg yq ym yw yh yr)) [(0, .ref (h 0)), (2, .ref (k 0)), (3, .ref (k 5)), (4, .ref (k 1)), (5, .ref (k 2)), (6, .ref (k 3)), (7, .ref (k 4)), (10, .int v10), (18, .int v18), (19, .int v19)] (657 + 2 * (70 - n720)) (3942 + 12 * (70 - n720)) 720 [] := by
    intro v10 v18 pn pg pq sr pm ps yw yh n720
    induction n720 with
    | zero => intro v19 _ hp; exact g_none hp
    | succ n720 ih720 =>
      intro v19 hn720 hp
      rw [pf_L_isTold_L720.eq_2] at hp
      have J758 : ∀ (v19 : Int32) (s0 : Int32) (s1 : Int32), pf_L_isTold_j758 pn pg pq sr pm ps yw yh (fun v19 => pf_L_isTold_L720 lc la uR tn tl yg v10 v18 pn pg pq sr pm ps yw yh n720 v19) v19 s0 s1 = (some (r0, pn0, pg0, pq0, sr0, pm0, ps0, yw0, yh0)) → gV p l e rm_L_isTold s m args below meth c A D 21 Q ((cW h cI cJ lc la hr uP uC uR tn pn pg pq rl sr gcb gpb tg tm tl pm ps) ++ (yW k cI cJ yg yq ym yw yh yr)) [(0, .ref (h 0)), (2, .ref (k 0)), (3, .ref (k 5)), (4, .ref (k 1)), (5, .ref (k 2)), (6, .ref (k 3)), (7, .ref (k 4)), (10, .int v10), (18, .int v18), (19, .int v19)] (657 + 2 * (70 - (n720 + 1)) + 2) (3942 + 12 * (70 - (n720 + 1)) + 12) 758 [.int s0, .int s1] := by
        intro v19 s0 s1 hp
        unfold pf_L_isTold_j758 at hp
        refine gV_icmp_eq (tgt := 763) C dL_isTold_758 (by decide) (fun c758 => ?_) (fun c758 => ?_)
        · replace hp := g_ift hp c758
          refine gV_iinc (v := (v19 + 1)) (lvs' := [(19, .int (v19 + 1)), (0, .ref (h 0)), (2, .ref (k 0)), (3, .ref (k 5)), (4, .ref (k 1)), (5, .ref (k 2)), (6, .ref (k 3)), (7, .ref (k 4)), (10, .int v10), (18, .int v18)]) C dL_isTold_763 9 rfl rfl (by decide) rfl ?_
          refine gV_goto (tgt := 720) C dL_isTold_766 (by decide) ?_
          refine gV_loc [1, 2, 3, 4, 5, 6, 7, 8, 9, 0] rfl ?_
          refine gV_widen (k' := (657 + 2 * (70 - n720))) (n' := (3942 + 12 * (70 - n720))) (by omega) (by omega) ?_
          exact ih720 (v19 + 1) (by omega) hp
        · replace hp := g_iff hp c758
          refine gV_iconst (v := 0) C dL_isTold_761 rfl ?_
          obtain ⟨rfl, rfl, rfl, rfl, rfl, rfl, rfl, rfl, rfl⟩ := g_so9 hp
          exact RET _ _ _ _ _ _ dL_isTold_762 (by omega) (by omega) rfl ⟨rfl, rfl⟩
      refine gV_iload C dL_isTold_720 9 rfl ?_
      refine gV_aload_n C dL_isTold_722 rfl 1 rfl ?_
      refine gV_iconst (v := 5) C dL_isTold_723 rfl ?_
      obtain ⟨hi724, hp⟩ := g_idx hp
      refine gV_iald C 13 rfl 0 rfl hi724 dL_isTold_724 ?_
      refine gV_icmp_ge (tgt := 769) C dL_isTold_725 (by decide) (fun c725 => ?_) (fun c725 => ?_)
      · replace hp := g_ift hp c725
        refine gV_iconst (v := 1) C dL_isTold_769 rfl ?_
        obtain ⟨rfl, rfl, rfl, rfl, rfl, rfl, rfl, rfl, rfl⟩ := g_so9 hp
        exact RET _ _ _ _ _ _ dL_isTold_770 (by omega) (by omega) rfl ⟨rfl, rfl⟩
      · replace hp := g_iff hp c725
        refine gV_aload_n C dL_isTold_728 rfl 0 rfl ?_
        refine gV_iload C dL_isTold_729 9 rfl ?_
        obtain ⟨r731q, hq731, hp⟩ := g_ob1 hp
        refine gV_calli C (gsub_cy_c _ _ rfl rfl) (gV_runSX (As := [.ref (h 0), .int v19]) (rest := []) C (mt_L_isInProof hl D h cI cJ lc la hr uP uC uR tn pn pg pq rl sr gcb gpb tg tm tl pm ps v19 r731q hq731) (vx_cwSW 2 C.2.2.2.2.1 gL_isTold_L_isInProof rfl rfl rfl hds_L_isInProof ⟨Nat.le_of_ble_eq_true rfl, Nat.le_of_ble_eq_true rfl⟩) (gsub_cy_c _ _ rfl rfl) rfl rfl (Nat.le_of_ble_eq_true rfl) dL_isTold_731 ⟨(by show _ ≤ 799; omega), (by show _ ≤ 4794; omega)⟩) (fun _ _ hx => False.elim hx) (fun r731 w1 hw => ?_)
        obtain ⟨rfl, rfl⟩ := hw
        refine gV_sub (ws' := (cW h cI cJ lc la hr uP uC uR tn pn pg pq rl sr gcb gpb tg tm tl pm ps) ++ (yW k cI cJ yg yq ym yw yh yr)) [6, 7, 8, 9, 10, 11, 12, 13, 14, 15, 16, 17, 18, 0, 1, 2, 3, 4, 5] (by decide) rfl rfl ?_
        refine gV_iload C dL_isTold_734 7 rfl ?_
        refine gV_iconst (v := 1) C dL_isTold_736 rfl ?_
        refine gV_icmp_eq (tgt := 745) C dL_isTold_737 (by decide) (fun c737 => ?_) (fun c737 => ?_)
        · replace hp := g_ift hp c737
          refine gV_iload C dL_isTold_745 8 rfl ?_
          refine gV_aload_n C dL_isTold_747 rfl 1 rfl ?_
          refine gV_iconst (v := 5) C dL_isTold_748 rfl ?_
          obtain ⟨hi749, hp⟩ := g_idx hp
          refine gV_iald C 13 rfl 0 rfl hi749 dL_isTold_749 ?_
          refine gV_iconst (v := 1) C dL_isTold_750 rfl ?_
          refine gV_isub C dL_isTold_751 ?_
          refine gV_iload C dL_isTold_752 9 rfl ?_
          refine gV_isub C dL_isTold_754 ?_
          refine gV_ishr C dL_isTold_755 ?_
          refine gV_iconst (v := 1) C dL_isTold_756 rfl ?_
          refine gV_iand C dL_isTold_757 ?_
          exact J758 v19 ((v18 >>> ((((yg (5 : Int32).toNatClampNeg) - 1) - v19) &&& 31)) &&& 1) r731 hp
        · replace hp := g_iff hp c737
          refine gV_bipush (v := (-73)) C dL_isTold_740 rfl ?_
          refine gV_goto (tgt := 758) C dL_isTold_742 (by decide) ?_
          exact J758 v19 (-73) r731 hp
  have J715 : ∀ (pn : Int32) (pg : Int32) (pq : Int32) (sr : Nat → Int32) (pm : Nat → Int32) (ps : Nat → Int32) (yw : Nat → Int64) (yh : Nat → Int32), pf_L_isTold_j715 pn pg pq sr pm ps yw yh = (some (r0, pn0, pg0, pq0, sr0, pm0, ps0, yw0, yh0)) → gV p l e rm_L_isTold s m args below meth c A D 21 Q ((cW h cI cJ lc la hr uP uC uR tn pn pg pq rl sr gcb gpb tg tm tl pm ps) ++ (yW k cI cJ yg yq ym yw yh yr)) [(0, .ref (h 0)), (2, .ref (k 0)), (3, .ref (k 5)), (4, .ref (k 1)), (5, .ref (k 2)), (6, .ref (k 3)), (7, .ref (k 4))] 657 3942 715 [] := by
    intro pn pg pq sr pm ps yw yh hp
    unfold pf_L_isTold_j715 at hp
    refine gV_iconst (v := 0) C dL_isTold_715 rfl ?_
    obtain ⟨rfl, rfl, rfl, rfl, rfl, rfl, rfl, rfl, rfl⟩ := g_so9 hp
    exact RET _ _ _ _ _ _ dL_isTold_716 (Nat.le_of_ble_eq_true rfl) (Nat.le_of_ble_eq_true rfl) rfl ⟨rfl, rfl⟩
  have J690 : ∀ (v10 : Int32) (v18 : Int32) (s0 : Int32) (s1 : Int32) (pn : Int32) (pg : Int32) (pq : Int32) (sr : Nat → Int32) (pm : Nat → Int32) (ps : Nat → Int32) (yw : Nat → Int64) (yh : Nat → Int32), pf_L_isTold_j690 lc la uR tn tl yg v10 v18 s0 s1 pn pg pq sr pm ps yw yh = (some (r0, pn0, pg0, pq0, sr0, pm0, ps0, yw0, yh0)) → gV p l e rm_L_isTold s m args below meth c A D 21 Q ((cW h cI cJ lc la hr uP uC uR tn pn pg pq rl sr gcb gpb tg tm tl pm ps) ++ (yW k cI cJ yg yq ym yw yh yr)) [(0, .ref (h 0)), (2, .ref (k 0)), (3, .ref (k 5)), (4, .ref (k 1)), (5, .ref (k 2)), (6, .ref (k 3)), (7, .ref (k 4)), (10, .int v10), (18, .int v18)] 653 3918 690 [.int s0, .int s1] := by
    intro v10 v18 s0 s1 pn pg pq sr pm ps yw yh hp
    unfold pf_L_isTold_j690 at hp
    refine gV_icmp_ne (tgt := 715) C dL_isTold_690 (by decide) (fun c690 => ?_) (fun c690 => ?_)
    · replace hp := g_iff hp c690
      refine gV_loc [0, 1, 2, 3, 4, 5, 6] rfl ?_
      refine gV_widen (k' := 657) (n' := 3942) (Nat.le_of_ble_eq_true rfl) (Nat.le_of_ble_eq_true rfl) ?_
      exact J715 pn pg pq sr pm ps yw yh hp
    · replace hp := g_ift hp c690
      refine gV_aload_n C dL_isTold_693 rfl 0 rfl ?_
      refine gV_aload_n C dL_isTold_694 rfl 1 rfl ?_
      refine gV_iconst (v := 5) C dL_isTold_695 rfl ?_
      obtain ⟨hi696, hp⟩ := g_idx hp
      refine gV_iald C 13 rfl 0 rfl hi696 dL_isTold_696 ?_
      obtain ⟨r697q, hq697, hp⟩ := g_ob1 hp
      refine gV_calli C (gsub_cy_c _ _ rfl rfl) (gV_runSX (As := [.ref (h 0), .int (yg (5 : Int32).toNatClampNeg)]) (rest := []) C (mt_L_isInProof hl D h cI cJ lc la hr uP uC uR tn pn pg pq rl sr gcb gpb tg tm tl pm ps (yg (5 : Int32).toNatClampNeg) r697q hq697) (vx_cwSW 2 C.2.2.2.2.1 gL_isTold_L_isInProof rfl rfl rfl hds_L_isInProof ⟨Nat.le_of_ble_eq_true rfl, Nat.le_of_ble_eq_true rfl⟩) (gsub_cy_c _ _ rfl rfl) rfl rfl (Nat.le_of_ble_eq_true rfl) dL_isTold_697 ⟨Nat.le_of_ble_eq_true rfl, Nat.le_of_ble_eq_true rfl⟩) (fun _ _ hx => False.elim hx) (fun r697 w1 hw => ?_)
      obtain ⟨rfl, rfl⟩ := hw
      refine gV_sub (ws' := (cW h cI cJ lc la hr uP uC uR tn pn pg pq rl sr gcb gpb tg tm tl pm ps) ++ (yW k cI cJ yg yq ym yw yh yr)) [6, 7, 8, 9, 10, 11, 12, 13, 14, 15, 16, 17, 18, 0, 1, 2, 3, 4, 5] (by decide) rfl rfl ?_
      refine gV_bipush (v := (-71)) C dL_isTold_700 rfl ?_
      refine gV_icmp_ne (tgt := 715) C dL_isTold_702 (by decide) (fun c702 => ?_) (fun c702 => ?_)
      · replace hp := g_iff hp c702
        refine gV_loc [0, 1, 2, 3, 4, 5, 6] rfl ?_
        refine gV_widen (k' := 657) (n' := 3942) (Nat.le_of_ble_eq_true rfl) (Nat.le_of_ble_eq_true rfl) ?_
        exact J715 pn pg pq sr pm ps yw yh hp
      · replace hp := g_ift hp c702
        refine gV_aload_n C dL_isTold_705 rfl 0 rfl ?_
        refine gV_iconst (v := (-1)) C dL_isTold_706 rfl ?_
        obtain ⟨r707q, hq707, hp⟩ := g_ob1 hp
        refine gV_calli C (gsub_cy_c _ _ rfl rfl) (gV_runSX (As := [.ref (h 0), .int (-1)]) (rest := []) C (mt_L_isInProof hl D h cI cJ lc la hr uP uC uR tn pn pg pq rl sr gcb gpb tg tm tl pm ps (-1) r707q hq707) (vx_cwSW 2 C.2.2.2.2.1 gL_isTold_L_isInProof rfl rfl rfl hds_L_isInProof ⟨Nat.le_of_ble_eq_true rfl, Nat.le_of_ble_eq_true rfl⟩) (gsub_cy_c _ _ rfl rfl) rfl rfl (Nat.le_of_ble_eq_true rfl) dL_isTold_707 ⟨Nat.le_of_ble_eq_true rfl, Nat.le_of_ble_eq_true rfl⟩) (fun _ _ hx => False.elim hx) (fun r707 w1 hw => ?_)
        obtain ⟨rfl, rfl⟩ := hw
        refine gV_sub (ws' := (cW h cI cJ lc la hr uP uC uR tn pn pg pq rl sr gcb gpb tg tm tl pm ps) ++ (yW k cI cJ yg yq ym yw yh yr)) [6, 7, 8, 9, 10, 11, 12, 13, 14, 15, 16, 17, 18, 0, 1, 2, 3, 4, 5] (by decide) rfl rfl ?_
        refine gV_bipush (v := (-71)) C dL_isTold_710 rfl ?_
        refine gV_icmp_eq (tgt := 717) C dL_isTold_712 (by decide) (fun c712 => ?_) (fun c712 => ?_)
        · replace hp := g_ift hp c712
          refine gV_iconst (v := 0) C dL_isTold_717 rfl ?_
          refine gV_istore (lvs' := [(19, .int 0), (0, .ref (h 0)), (2, .ref (k 0)), (3, .ref (k 5)), (4, .ref (k 1)), (5, .ref (k 2)), (6, .ref (k 3)), (7, .ref (k 4)), (10, .int v10), (18, .int v18)]) C dL_isTold_718 (by decide) rfl ?_
          refine gV_loc [1, 2, 3, 4, 5, 6, 7, 8, 9, 0] rfl ?_
          refine gV_widen (k' := (657 + 2 * (70 - 70))) (n' := (3942 + 12 * (70 - 70))) (by omega) (by omega) ?_
          exact L720 v10 v18 pn pg pq sr pm ps yw yh 70 0 (Nat.le_refl _) hp
        · replace hp := g_iff hp c712
          refine gV_loc [0, 1, 2, 3, 4, 5, 6] rfl ?_
          exact J715 pn pg pq sr pm ps yw yh hp
  have J652 : ∀ (v8 : Int64) (v10 : Int32) (s0 : Int32) (s1 : Int32) (pn : Int32) (pg : Int32) (pq : Int32) (sr : Nat → Int32) (pm : Nat → Int32) (ps : Nat → Int32) (yw : Nat → Int64) (yh : Nat → Int32), pf_L_isTold_j652 lc la uR tn tl yg yq ym yr v8 v10 s0 s1 pn pg pq sr pm ps yw yh = (some (r0, pn0, pg0, pq0, sr0, pm0, ps0, yw0, yh0)) → gV p l e rm_L_isTold s m args below meth c A D 21 Q ((cW h cI cJ lc la hr uP uC uR tn pn pg pq rl sr gcb gpb tg tm tl pm ps) ++ (yW k cI cJ yg yq ym yw yh yr)) [(0, .ref (h 0)), (2, .ref (k 0)), (3, .ref (k 5)), (4, .ref (k 1)), (5, .ref (k 2)), (6, .ref (k 3)), (7, .ref (k 4)), (8, .long v8), (10, .int v10)] 653 3918 652 [.int s0, .int s1] := by
    intro v8 v10 s0 s1 pn pg pq sr pm ps yw yh hp
    unfold pf_L_isTold_j652 at hp
    refine gV_icmp_eq (tgt := 657) C dL_isTold_652 (by decide) (fun c652 => ?_) (fun c652 => ?_)
    · replace hp := g_ift hp c652
      refine gV_aload_n C dL_isTold_657 rfl 1 rfl ?_
      refine gV_aload_n C dL_isTold_658 rfl 2 rfl ?_
      refine gV_aload C dL_isTold_659 3 rfl ?_
      refine gV_aload C dL_isTold_661 4 rfl ?_
      refine gV_lload C dL_isTold_663 7 rfl ?_
      obtain ⟨r665q, hq665, hp⟩ := g_ob1 hp
      refine gV_calli C (gsub_cy_y _ _ rfl rfl) (gV_runS (As := [.ref (k 0), .ref (k 5), .ref (k 1), .ref (k 2), .long v8]) (rest := []) C (mt_L_proof hl D k cI cJ yg yq ym yw yh yr v8 r665q hq665) (va_cwS 5 C.2.2.2.2.1 gL_isTold_L_proof rfl rfl rfl hds_L_proof ⟨Nat.le_of_ble_eq_true rfl, Nat.le_of_ble_eq_true rfl⟩) (gsub_cy_y _ _ rfl rfl) rfl rfl (Nat.le_of_ble_eq_true rfl) dL_isTold_665 ⟨Nat.le_of_ble_eq_true rfl, Nat.le_of_ble_eq_true rfl⟩) (fun _ _ hx => False.elim hx) (fun r665 w1 hw => ?_)
      obtain ⟨rfl, rfl⟩ := hw
      refine gV_sub (ws' := (cW h cI cJ lc la hr uP uC uR tn pn pg pq rl sr gcb gpb tg tm tl pm ps) ++ (yW k cI cJ yg yq ym yw yh yr)) [0, 1, 2, 3, 4, 5, 6, 7, 8, 9, 10, 11, 12, 13, 14, 15, 16, 17, 18] (by decide) rfl rfl ?_
      refine gV_istore (lvs' := [(18, .int r665), (0, .ref (h 0)), (2, .ref (k 0)), (3, .ref (k 5)), (4, .ref (k 1)), (5, .ref (k 2)), (6, .ref (k 3)), (7, .ref (k 4)), (8, .long v8), (10, .int v10)]) C dL_isTold_668 (by decide) rfl ?_
      refine gV_aload_n C dL_isTold_670 rfl 1 rfl ?_
      obtain ⟨r671q, hq671, hp⟩ := g_ob1 hp
      refine gV_calli C (gsub_cy_c _ _ rfl rfl) (gV_runV (As := []) (rest := []) C (mt_X3_proofSize hl D h cI cJ lc la hr uP uC uR tn pn pg pq rl sr gcb gpb tg tm tl pm ps r671q hq671) (cwV 0 C.2.2.2.2.1 gL_isTold_X3_proofSize rfl rfl rfl hdv_X3_proofSize ⟨Nat.le_of_ble_eq_true rfl, Nat.le_of_ble_eq_true rfl⟩) (gsub_cy_c _ _ rfl rfl) 0 rfl rfl rfl rfl (Nat.le_of_ble_eq_true rfl) dL_isTold_671 ⟨Nat.le_of_ble_eq_true rfl, Nat.le_of_ble_eq_true rfl⟩) (fun _ _ hx => False.elim hx) (fun r671 w1 hw => ?_)
      obtain ⟨rfl, rfl⟩ := hw
      refine gV_sub (ws' := (cW h cI cJ lc la hr uP uC uR tn pn pg pq rl sr gcb gpb tg tm tl pm ps) ++ (yW k cI cJ yg yq ym yw yh yr)) [6, 7, 8, 9, 10, 11, 12, 13, 14, 15, 16, 17, 18, 0, 1, 2, 3, 4, 5] (by decide) rfl rfl ?_
      refine gV_iload C dL_isTold_674 9 rfl ?_
      refine gV_iconst (v := 1) C dL_isTold_676 rfl ?_
      refine gV_icmp_ne (tgt := 689) C dL_isTold_677 (by decide) (fun c677 => ?_) (fun c677 => ?_)
      · replace hp := g_iff hp c677
        refine gV_iconst (v := (-1)) C dL_isTold_689 rfl ?_
        refine gV_loc [1, 2, 3, 4, 5, 6, 7, 9, 0] rfl ?_
        exact J690 v10 r665 (-1) r671 pn pg pq sr pm ps yw yh hp
      · replace hp := g_ift hp c677
        refine gV_iload C dL_isTold_680 0 rfl ?_
        refine gV_i2l C dL_isTold_682 ?_
        obtain ⟨r683q, hq683, hp⟩ := g_ob1 hp
        refine gV_calliE C (gV_runS (As := [.long r665.toInt64]) (rest := [.int r671]) C (mt_L_many hl D cI cJ r665.toInt64 r683q hq683) (va_cwS 1 C.2.2.2.2.1 gL_isTold_L_many rfl rfl rfl hds_L_many ⟨Nat.le_of_ble_eq_true rfl, Nat.le_of_ble_eq_true rfl⟩) (gSub_E _) rfl rfl (Nat.le_of_ble_eq_true rfl) dL_isTold_683 ⟨Nat.le_of_ble_eq_true rfl, Nat.le_of_ble_eq_true rfl⟩) (fun _ _ hx => False.elim hx) (fun r683 w1 hw => ?_)
        obtain ⟨rfl, rfl⟩ := hw
        refine ⟨rfl, ?_⟩
        refine gV_goto (tgt := 690) C dL_isTold_686 (by decide) ?_
        refine gV_loc [1, 2, 3, 4, 5, 6, 7, 9, 0] rfl ?_
        exact J690 v10 r665 r683 r671 pn pg pq sr pm ps yw yh hp
    · replace hp := g_iff hp c652
      refine gV_iconst (v := 0) C dL_isTold_655 rfl ?_
      obtain ⟨rfl, rfl, rfl, rfl, rfl, rfl, rfl, rfl, rfl⟩ := g_so9 hp
      exact RET _ _ _ _ _ _ dL_isTold_656 (Nat.le_of_ble_eq_true rfl) (Nat.le_of_ble_eq_true rfl) rfl ⟨rfl, rfl⟩
  have J636 : ∀ (v8 : Int64) (v10 : Int32) (s0 : Int32) (pn : Int32) (pg : Int32) (pq : Int32) (sr : Nat → Int32) (pm : Nat → Int32) (ps : Nat → Int32) (yw : Nat → Int64) (yh : Nat → Int32), pf_L_isTold_j636 lc la uR tn tl yg yq ym yr v8 v10 s0 pn pg pq sr pm ps yw yh = (some (r0, pn0, pg0, pq0, sr0, pm0, ps0, yw0, yh0)) → gV p l e rm_L_isTold s m args below meth c A D 21 Q ((cW h cI cJ lc la hr uP uC uR tn pn pg pq rl sr gcb gpb tg tm tl pm ps) ++ (yW k cI cJ yg yq ym yw yh yr)) [(0, .ref (h 0)), (2, .ref (k 0)), (3, .ref (k 5)), (4, .ref (k 1)), (5, .ref (k 2)), (6, .ref (k 3)), (7, .ref (k 4)), (8, .long v8), (10, .int v10)] 653 3918 636 [.int s0] := by
    intro v8 v10 s0 pn pg pq sr pm ps yw yh hp
    unfold pf_L_isTold_j636 at hp
    refine gV_bipush (v := (-73)) C dL_isTold_636 rfl ?_
    refine gV_goto (tgt := 652) C dL_isTold_638 (by decide) ?_
    exact J652 v8 v10 (-73) s0 pn pg pq sr pm ps yw yh hp
  have J618 : ∀ (pn : Int32) (pg : Int32) (pq : Int32) (sr : Nat → Int32) (pm : Nat → Int32) (ps : Nat → Int32) (yw : Nat → Int64) (yh : Nat → Int32), pf_L_isTold_j618 pn pg pq sr pm ps yw yh = (some (r0, pn0, pg0, pq0, sr0, pm0, ps0, yw0, yh0)) → gV p l e rm_L_isTold s m args below meth c A D 21 Q ((cW h cI cJ lc la hr uP uC uR tn pn pg pq rl sr gcb gpb tg tm tl pm ps) ++ (yW k cI cJ yg yq ym yw yh yr)) [(0, .ref (h 0)), (2, .ref (k 0)), (3, .ref (k 5)), (4, .ref (k 1)), (5, .ref (k 2)), (6, .ref (k 3)), (7, .ref (k 4))] 652 3912 618 [] := by
    intro pn pg pq sr pm ps yw yh hp
    unfold pf_L_isTold_j618 at hp
    refine gV_iconst (v := 0) C dL_isTold_618 rfl ?_
    obtain ⟨rfl, rfl, rfl, rfl, rfl, rfl, rfl, rfl, rfl⟩ := g_so9 hp
    exact RET _ _ _ _ _ _ dL_isTold_619 (Nat.le_of_ble_eq_true rfl) (Nat.le_of_ble_eq_true rfl) rfl ⟨rfl, rfl⟩
  have J572 : ∀ (v8 : Int64) (v10 : Int32) (v11 : Int32) (s0 : Int32) (s1 : Int32) (pn : Int32) (pg : Int32) (pq : Int32) (sr : Nat → Int32) (pm : Nat → Int32) (ps : Nat → Int32) (yw : Nat → Int64) (yh : Nat → Int32), pf_L_isTold_j572 lc la uP uR tn rl gcb gpb tl yg yq ym yr v8 v10 v11 s0 s1 pn pg pq sr pm ps yw yh = (some (r0, pn0, pg0, pq0, sr0, pm0, ps0, yw0, yh0)) → gV p l e rm_L_isTold s m args below meth c A D 21 Q ((cW h cI cJ lc la hr uP uC uR tn pn pg pq rl sr gcb gpb tg tm tl pm ps) ++ (yW k cI cJ yg yq ym yw yh yr)) [(0, .ref (h 0)), (2, .ref (k 0)), (3, .ref (k 5)), (4, .ref (k 1)), (5, .ref (k 2)), (6, .ref (k 3)), (7, .ref (k 4)), (8, .long v8), (10, .int v10), (11, .int v11)] 647 3882 572 [.int s0, .int s1] := by
    intro v8 v10 v11 s0 s1 pn pg pq sr pm ps yw yh hp
    unfold pf_L_isTold_j572 at hp
    refine gV_icmp_ne (tgt := 618) C dL_isTold_572 (by decide) (fun c572 => ?_) (fun c572 => ?_)
    · replace hp := g_iff hp c572
      refine gV_loc [0, 1, 2, 3, 4, 5, 6] rfl ?_
      refine gV_widen (k' := 652) (n' := 3912) (Nat.le_of_ble_eq_true rfl) (Nat.le_of_ble_eq_true rfl) ?_
      exact J618 pn pg pq sr pm ps yw yh hp
    · replace hp := g_ift hp c572
      refine gV_aload_n C dL_isTold_575 rfl 0 rfl ?_
      refine gV_iconst (v := 3) C dL_isTold_576 rfl ?_
      obtain ⟨r577q, pn_577, pg_577, pq_577, pm_577, ps_577, hq577, hp⟩ := g_ob6 hp
      refine gV_calli C (gsub_cy_c _ _ rfl rfl) (gV_runSX (As := [.ref (h 0), .int 3]) (rest := []) C (mt_L_bestGuess hl D h cI cJ lc la hr uP uC uR tn pn pg pq rl sr gcb gpb tg tm tl pm ps 3 r577q pn_577 pg_577 pq_577 pm_577 ps_577 hq577) (vx_cwSW 2 C.2.2.2.2.1 gL_isTold_L_bestGuess rfl rfl rfl hds_L_bestGuess ⟨Nat.le_of_ble_eq_true rfl, Nat.le_of_ble_eq_true rfl⟩) (gsub_cy_c _ _ rfl rfl) rfl rfl (Nat.le_of_ble_eq_true rfl) dL_isTold_577 ⟨Nat.le_of_ble_eq_true rfl, Nat.le_of_ble_eq_true rfl⟩) (fun _ _ hx => False.elim hx) (fun r577 w1 hw => ?_)
      obtain ⟨rfl, rfl⟩ := hw
      refine gV_sub (ws' := (cW h cI cJ lc la hr uP uC uR tn pn_577 pg_577 pq_577 rl sr gcb gpb tg tm tl pm_577 ps_577) ++ (yW k cI cJ yg yq ym yw yh yr)) [6, 7, 8, 9, 10, 11, 12, 13, 14, 15, 16, 17, 18, 0, 1, 2, 3, 4, 5] (by decide) rfl rfl ?_
      refine gV_bipush (v := (-72)) C dL_isTold_580 rfl ?_
      refine gV_icmp_ne (tgt := 618) C dL_isTold_582 (by decide) (fun c582 => ?_) (fun c582 => ?_)
      · replace hp := g_iff hp c582
        refine gV_loc [0, 1, 2, 3, 4, 5, 6] rfl ?_
        refine gV_widen (k' := 652) (n' := 3912) (Nat.le_of_ble_eq_true rfl) (Nat.le_of_ble_eq_true rfl) ?_
        exact J618 pn_577 pg_577 pq_577 sr pm_577 ps_577 yw yh hp
      · replace hp := g_ift hp c582
        refine gV_aload_n C dL_isTold_585 rfl 0 rfl ?_
        refine gV_aload_n C dL_isTold_586 rfl 1 rfl ?_
        refine gV_iconst (v := 2) C dL_isTold_587 rfl ?_
        obtain ⟨hi588, hp⟩ := g_idx hp
        refine gV_iald C 13 rfl 0 rfl hi588 dL_isTold_588 ?_
        refine gV_iconst (v := 0) C dL_isTold_589 rfl ?_
        obtain ⟨r590q, pn_590, pg_590, pq_590, pm_590, ps_590, hq590, hp⟩ := g_ob6 hp
        refine gV_calli C (gsub_cy_c _ _ rfl rfl) (gV_runSX (As := [.ref (h 0), .int (yg (2 : Int32).toNatClampNeg), .int 0]) (rest := []) C (mt_L_partSize hl D h cI cJ lc la hr uP uC uR tn pn_577 pg_577 pq_577 rl sr gcb gpb tg tm tl pm_577 ps_577 (yg (2 : Int32).toNatClampNeg) 0 r590q pn_590 pg_590 pq_590 pm_590 ps_590 hq590) (vx_cwSW 3 C.2.2.2.2.1 gL_isTold_L_partSize rfl rfl rfl hds_L_partSize ⟨Nat.le_of_ble_eq_true rfl, Nat.le_of_ble_eq_true rfl⟩) (gsub_cy_c _ _ rfl rfl) rfl rfl (Nat.le_of_ble_eq_true rfl) dL_isTold_590 ⟨Nat.le_of_ble_eq_true rfl, Nat.le_of_ble_eq_true rfl⟩) (fun _ _ hx => False.elim hx) (fun r590 w1 hw => ?_)
        obtain ⟨rfl, rfl⟩ := hw
        refine gV_sub (ws' := (cW h cI cJ lc la hr uP uC uR tn pn_590 pg_590 pq_590 rl sr gcb gpb tg tm tl pm_590 ps_590) ++ (yW k cI cJ yg yq ym yw yh yr)) [6, 7, 8, 9, 10, 11, 12, 13, 14, 15, 16, 17, 18, 0, 1, 2, 3, 4, 5] (by decide) rfl rfl ?_
        refine gV_bipush (v := (-71)) C dL_isTold_593 rfl ?_
        refine gV_icmp_ne (tgt := 618) C dL_isTold_595 (by decide) (fun c595 => ?_) (fun c595 => ?_)
        · replace hp := g_iff hp c595
          refine gV_loc [0, 1, 2, 3, 4, 5, 6] rfl ?_
          refine gV_widen (k' := 652) (n' := 3912) (Nat.le_of_ble_eq_true rfl) (Nat.le_of_ble_eq_true rfl) ?_
          exact J618 pn_590 pg_590 pq_590 sr pm_590 ps_590 yw yh hp
        · replace hp := g_ift hp c595
          refine gV_aload_n C dL_isTold_598 rfl 0 rfl ?_
          refine gV_iload C dL_isTold_599 9 rfl ?_
          refine gV_bipush (v := 10) C dL_isTold_601 rfl ?_
          refine gV_aload_n C dL_isTold_603 rfl 1 rfl ?_
          refine gV_iconst (v := 0) C dL_isTold_604 rfl ?_
          obtain ⟨hi605, hp⟩ := g_idx hp
          refine gV_iald C 13 rfl 0 rfl hi605 dL_isTold_605 ?_
          refine gV_imul C dL_isTold_606 ?_
          refine gV_bipush (v := 9) C dL_isTold_607 rfl ?_
          refine gV_isub C dL_isTold_609 ?_
          obtain ⟨r610q, pn_610, pg_610, pq_610, pm_610, ps_610, hq610, hp⟩ := g_ob6 hp
          refine gV_calli C (gsub_cy_c _ _ rfl rfl) (gV_runSX (As := [.ref (h 0), .int v11, .int ((10 * (yg (0 : Int32).toNatClampNeg)) - 9)]) (rest := []) C (mt_L_partSize hl D h cI cJ lc la hr uP uC uR tn pn_590 pg_590 pq_590 rl sr gcb gpb tg tm tl pm_590 ps_590 v11 ((10 * (yg (0 : Int32).toNatClampNeg)) - 9) r610q pn_610 pg_610 pq_610 pm_610 ps_610 hq610) (vx_cwSW 3 C.2.2.2.2.1 gL_isTold_L_partSize rfl rfl rfl hds_L_partSize ⟨Nat.le_of_ble_eq_true rfl, Nat.le_of_ble_eq_true rfl⟩) (gsub_cy_c _ _ rfl rfl) rfl rfl (Nat.le_of_ble_eq_true rfl) dL_isTold_610 ⟨Nat.le_of_ble_eq_true rfl, Nat.le_of_ble_eq_true rfl⟩) (fun _ _ hx => False.elim hx) (fun r610 w1 hw => ?_)
          obtain ⟨rfl, rfl⟩ := hw
          refine gV_sub (ws' := (cW h cI cJ lc la hr uP uC uR tn pn_610 pg_610 pq_610 rl sr gcb gpb tg tm tl pm_610 ps_610) ++ (yW k cI cJ yg yq ym yw yh yr)) [6, 7, 8, 9, 10, 11, 12, 13, 14, 15, 16, 17, 18, 0, 1, 2, 3, 4, 5] (by decide) rfl rfl ?_
          refine gV_bipush (v := (-72)) C dL_isTold_613 rfl ?_
          refine gV_icmp_eq (tgt := 620) C dL_isTold_615 (by decide) (fun c615 => ?_) (fun c615 => ?_)
          · replace hp := g_ift hp c615
            refine gV_aload_n C dL_isTold_620 rfl 0 rfl ?_
            obtain ⟨r621q, pn_621, pg_621, pq_621, sr_621, pm_621, ps_621, hq621, hp⟩ := g_ob7 hp
            refine gV_calli C (gsub_cy_c _ _ rfl rfl) (gV_runSX (As := [.ref (h 0)]) (rest := []) C (mt_L_guessesNeeded hl D h cI cJ lc la hr uP uC uR tn pn_610 pg_610 pq_610 rl sr gcb gpb tg tm tl pm_610 ps_610 r621q pn_621 pg_621 pq_621 sr_621 pm_621 ps_621 hq621) (vx_cwSW 1 C.2.2.2.2.1 gL_isTold_L_guessesNeeded rfl rfl rfl hds_L_guessesNeeded ⟨Nat.le_of_ble_eq_true rfl, Nat.le_of_ble_eq_true rfl⟩) (gsub_cy_c _ _ rfl rfl) rfl rfl (Nat.le_of_ble_eq_true rfl) dL_isTold_621 ⟨Nat.le_of_ble_eq_true rfl, Nat.le_of_ble_eq_true rfl⟩) (fun _ _ hx => False.elim hx) (fun r621 w1 hw => ?_)
            obtain ⟨rfl, rfl⟩ := hw
            refine gV_sub (ws' := (cW h cI cJ lc la hr uP uC uR tn pn_621 pg_621 pq_621 rl sr_621 gcb gpb tg tm tl pm_621 ps_621) ++ (yW k cI cJ yg yq ym yw yh yr)) [6, 7, 8, 9, 10, 11, 12, 13, 14, 15, 16, 17, 18, 0, 1, 2, 3, 4, 5] (by decide) rfl rfl ?_
            refine gV_iload C dL_isTold_624 8 rfl ?_
            refine gV_if_eq (tgt := 636) C dL_isTold_626 (by decide) (fun c626 => ?_) (fun c626 => ?_)
            · replace hp := g_ift hp c626
              refine gV_loc [0, 1, 2, 3, 4, 5, 6, 7, 8] rfl ?_
              exact J636 v8 v10 r621 pn_621 pg_621 pq_621 sr_621 pm_621 ps_621 yw yh hp
            · replace hp := g_iff hp c626
              refine gV_iload C dL_isTold_629 8 rfl ?_
              refine gV_bipush (v := 24) C dL_isTold_631 rfl ?_
              refine gV_icmp_le (tgt := 641) C dL_isTold_633 (by decide) (fun c633 => ?_) (fun c633 => ?_)
              · replace hp := g_ift hp c633
                refine gV_aload_n C dL_isTold_641 rfl 1 rfl ?_
                refine gV_aload_n C dL_isTold_642 rfl 2 rfl ?_
                refine gV_lload C dL_isTold_643 7 rfl ?_
                refine gV_aload C dL_isTold_645 5 rfl ?_
                refine gV_aload C dL_isTold_647 6 rfl ?_
                obtain ⟨r649q, yw_649, yh_649, hq649, hp⟩ := g_ob3 hp
                refine gV_calli C (gsub_cy_y _ _ rfl rfl) (gV_runS (As := [.ref (k 0), .ref (k 5), .long v8, .ref (k 3), .ref (k 4)]) (rest := [.int r621]) C (mt_L_needed hl D k cI cJ yg yq ym yw yh yr v8 r649q yw_649 yh_649 hq649) (va_cwS 5 C.2.2.2.2.1 gL_isTold_L_needed rfl rfl rfl hds_L_needed ⟨Nat.le_of_ble_eq_true rfl, Nat.le_of_ble_eq_true rfl⟩) (gsub_cy_y _ _ rfl rfl) rfl rfl (Nat.le_of_ble_eq_true rfl) dL_isTold_649 ⟨Nat.le_of_ble_eq_true rfl, Nat.le_of_ble_eq_true rfl⟩) (fun _ _ hx => False.elim hx) (fun r649 w1 hw => ?_)
                obtain ⟨rfl, rfl⟩ := hw
                refine gV_sub (ws' := (cW h cI cJ lc la hr uP uC uR tn pn_621 pg_621 pq_621 rl sr_621 gcb gpb tg tm tl pm_621 ps_621) ++ (yW k cI cJ yg yq ym yw_649 yh_649 yr)) [0, 1, 2, 3, 4, 5, 6, 7, 8, 9, 10, 11, 12, 13, 14, 15, 16, 17, 18] (by decide) rfl rfl ?_
                refine gV_loc [0, 1, 2, 3, 4, 5, 6, 7, 8] rfl ?_
                exact J652 v8 v10 r649 r621 pn_621 pg_621 pq_621 sr_621 pm_621 ps_621 yw_649 yh_649 hp
              · replace hp := g_iff hp c633
                refine gV_loc [0, 1, 2, 3, 4, 5, 6, 7, 8] rfl ?_
                exact J636 v8 v10 r621 pn_621 pg_621 pq_621 sr_621 pm_621 ps_621 yw yh hp
          · replace hp := g_iff hp c615
            refine gV_loc [0, 1, 2, 3, 4, 5, 6] rfl ?_
            exact J618 pn_610 pg_610 pq_610 sr pm_610 ps_610 yw yh hp
  have J442 : ∀ (pn : Int32) (pg : Int32) (pq : Int32) (sr : Nat → Int32) (pm : Nat → Int32) (ps : Nat → Int32) (yw : Nat → Int64) (yh : Nat → Int32), pf_L_isTold_j442 pn pg pq sr pm ps yw yh = (some (r0, pn0, pg0, pq0, sr0, pm0, ps0, yw0, yh0)) → gV p l e rm_L_isTold s m args below meth c A D 21 Q ((cW h cI cJ lc la hr uP uC uR tn pn pg pq rl sr gcb gpb tg tm tl pm ps) ++ (yW k cI cJ yg yq ym yw yh yr)) [(0, .ref (h 0)), (2, .ref (k 0)), (3, .ref (k 5)), (4, .ref (k 1)), (5, .ref (k 2)), (6, .ref (k 3)), (7, .ref (k 4))] 643 3858 442 [] := by
    intro pn pg pq sr pm ps yw yh hp
    unfold pf_L_isTold_j442 at hp
    refine gV_iconst (v := 0) C dL_isTold_442 rfl ?_
    obtain ⟨rfl, rfl, rfl, rfl, rfl, rfl, rfl, rfl, rfl⟩ := g_so9 hp
    exact RET _ _ _ _ _ _ dL_isTold_443 (Nat.le_of_ble_eq_true rfl) (Nat.le_of_ble_eq_true rfl) rfl ⟨rfl, rfl⟩
  have L363 : ∀ (v8 : Int64) (v10 : Int32) (v11 : Int32) (sr : Nat → Int32) (yw : Nat → Int64) (yh : Nat → Int32) (n363 : Nat) (v14 : Int64) (v16 : Int32) (pn : Int32) (pg : Int32) (pq : Int32) (pm : Nat → Int32) (ps : Nat → Int32), n363 ≤ 70 → pf_L_isTold_L363 v1 lc la uP uR tn rl gcb gpb tl yg yq ym yr v8 v10 v11 sr yw yh n363 v14 v16 pn pg pq pm ps = (some (r0, pn0, pg0, pq0, sr0, pm0, ps0, yw0, yh0)) → gV p l e rm_L_isTold s m args below meth c A D 21 Q ((cW h cI cJ lc la hr uP uC uR tn pn pg pq rl sr gcb gpb tg tm tl pm ps) ++ (yW k cI cJ yg yq ym yw yh yr)) [(0, .ref (h 0)), (1, .int v1), (2, .ref (k 0)), (3, .ref (k 5)), (4, .ref (k 1)), (5, .ref (k 2)), (6, .ref (k 3)), (7, .ref (k 4)), (8, .long v8), (10, .int v10), (11, .int v11), (14, .long v14), (16, .int v16)] (359 + 4 * (70 - n363)) (2154 + 24 * (70 - n363)) 363 [] := by
    intro v8 v10 v11 sr yw yh n363
    induction n363 with
    | zero => intro v14 v16 pn pg pq pm ps _ hp; exact g_none hp
    | succ n363 ih363 =>
      intro v14 v16 pn pg pq pm ps hn363 hp
      rw [pf_L_isTold_L363.eq_2] at hp
      have L373 : ∀ (v14 : Int64) (v16 : Int32) (pn : Int32) (pg : Int32) (pq : Int32) (pm : Nat → Int32) (ps : Nat → Int32) (n373 : Nat) (v17 : Int32), pf_L_isTold_L373 lc uP uR rl gcb gpb yg yr v11 sr yw yh (fun v14 v16 pn pg pq pm ps => pf_L_isTold_L363 v1 lc la uP uR tn rl gcb gpb tl yg yq ym yr v8 v10 v11 sr yw yh n363 v14 v16 pn pg pq pm ps) v14 v16 pn pg pq pm ps n373 v17 = (some (r0, pn0, pg0, pq0, sr0, pm0, ps0, yw0, yh0)) → gV p l e rm_L_isTold s m args below meth c A D 21 Q ((cW h cI cJ lc la hr uP uC uR tn pn pg pq rl sr gcb gpb tg tm tl pm ps) ++ (yW k cI cJ yg yq ym yw yh yr)) [(0, .ref (h 0)), (1, .int v1), (2, .ref (k 0)), (3, .ref (k 5)), (4, .ref (k 1)), (5, .ref (k 2)), (6, .ref (k 3)), (7, .ref (k 4)), (8, .long v8), (10, .int v10), (11, .int v11), (14, .long v14), (16, .int v16), (17, .int v17)] (359 + 4 * (70 - (n363 + 1)) + 0) (2154 + 24 * (70 - (n363 + 1)) + 0) 373 [] := by
        intro v14 v16 pn pg pq pm ps n373
        induction n373 with
        | zero => intro v17 hp; exact g_none hp
        | succ n373 ih373 =>
          intro v17 hp
          rw [pf_L_isTold_L373.eq_2] at hp
          refine gV_lload C dL_isTold_373 11 rfl ?_
          refine gV_iload C dL_isTold_375 13 rfl ?_
          obtain ⟨r377q, hq377, hp⟩ := g_ob1 hp
          refine gV_calliE C (gV_runS (As := [.long v14, .int v17]) (rest := []) C (mt_L_has hl D cI cJ v14 v17 r377q hq377) (va_cwS 2 C.2.2.2.2.1 gL_isTold_L_has rfl rfl rfl hds_L_has ⟨Nat.le_of_ble_eq_true rfl, Nat.le_of_ble_eq_true rfl⟩) (gSub_E _) rfl rfl (Nat.le_of_ble_eq_true rfl) dL_isTold_377 ⟨(by show _ ≤ 799; omega), (by show _ ≤ 4794; omega)⟩) (fun _ _ hx => False.elim hx) (fun r377 w1 hw => ?_)
          obtain ⟨rfl, rfl⟩ := hw
          refine ⟨rfl, ?_⟩
          refine gV_if_ne (tgt := 389) C dL_isTold_380 (by decide) (fun c380 => ?_) (fun c380 => ?_)
          · replace hp := g_iff hp c380
            refine gV_aload_n C dL_isTold_389 rfl 2 rfl ?_
            refine gV_aload_n C dL_isTold_390 rfl 3 rfl ?_
            refine gV_iload C dL_isTold_391 10 rfl ?_
            refine gV_iload C dL_isTold_393 13 rfl ?_
            obtain ⟨r395q, hq395, hp⟩ := g_ob1 hp
            refine gV_calli C (gsub_cy_y _ _ rfl rfl) (gV_runS (As := [.ref (k 0), .ref (k 5), .int v11, .int v17]) (rest := []) C (mt_L_pins hl D k cI cJ yg yq ym yw yh yr v11 v17 r395q hq395) (va_cwS 4 C.2.2.2.2.1 gL_isTold_L_pins rfl rfl rfl hds_L_pins ⟨Nat.le_of_ble_eq_true rfl, Nat.le_of_ble_eq_true rfl⟩) (gsub_cy_y _ _ rfl rfl) rfl rfl (Nat.le_of_ble_eq_true rfl) dL_isTold_395 ⟨(by show _ ≤ 799; omega), (by show _ ≤ 4794; omega)⟩) (fun _ _ hx => False.elim hx) (fun r395 w1 hw => ?_)
            obtain ⟨rfl, rfl⟩ := hw
            refine gV_sub (ws' := (cW h cI cJ lc la hr uP uC uR tn pn pg pq rl sr gcb gpb tg tm tl pm ps) ++ (yW k cI cJ yg yq ym yw yh yr)) [0, 1, 2, 3, 4, 5, 6, 7, 8, 9, 10, 11, 12, 13, 14, 15, 16, 17, 18] (by decide) rfl rfl ?_
            refine gV_istore (lvs' := [(18, .int r395), (0, .ref (h 0)), (1, .int v1), (2, .ref (k 0)), (3, .ref (k 5)), (4, .ref (k 1)), (5, .ref (k 2)), (6, .ref (k 3)), (7, .ref (k 4)), (8, .long v8), (10, .int v10), (11, .int v11), (14, .long v14), (16, .int v16), (17, .int v17)]) C dL_isTold_398 (by decide) rfl ?_
            refine gV_aload_n C dL_isTold_400 rfl 3 rfl ?_
            refine gV_aload_n C dL_isTold_401 rfl 4 rfl ?_
            refine gV_lload C dL_isTold_402 12 rfl ?_
            refine gV_iload C dL_isTold_404 11 rfl ?_
            refine gV_iload C dL_isTold_406 0 rfl ?_
            obtain ⟨r408q, hq408, hp⟩ := g_ob1 hp
            refine gV_calll C (gsub_cy_y _ _ rfl rfl) (gV_runS (As := [.ref (k 0), .ref (k 5), .long v14, .int v11, .int r395]) (rest := []) C (mt_L_part hl D k cI cJ yg yq ym yw yh yr v14 v11 r395 r408q hq408) (va_cwS 5 C.2.2.2.2.1 gL_isTold_L_part rfl rfl rfl hds_L_part ⟨Nat.le_of_ble_eq_true rfl, Nat.le_of_ble_eq_true rfl⟩) (gsub_cy_y _ _ rfl rfl) rfl rfl (Nat.le_of_ble_eq_true rfl) dL_isTold_408 ⟨(by show _ ≤ 799; omega), (by show _ ≤ 4794; omega)⟩) (fun _ _ hx => False.elim hx) (fun r408 w1 hw => ?_)
            obtain ⟨rfl, rfl⟩ := hw
            refine gV_sub (ws' := (cW h cI cJ lc la hr uP uC uR tn pn pg pq rl sr gcb gpb tg tm tl pm ps) ++ (yW k cI cJ yg yq ym yw yh yr)) [0, 1, 2, 3, 4, 5, 6, 7, 8, 9, 10, 11, 12, 13, 14, 15, 16, 17, 18] (by decide) rfl rfl ?_
            refine gV_lstore (lvs' := [(19, .long r408), (18, .int r395), (0, .ref (h 0)), (1, .int v1), (2, .ref (k 0)), (3, .ref (k 5)), (4, .ref (k 1)), (5, .ref (k 2)), (6, .ref (k 3)), (7, .ref (k 4)), (8, .long v8), (10, .int v10), (11, .int v11), (14, .long v14), (16, .int v16), (17, .int v17)]) C dL_isTold_411 (by decide) rfl ?_
            refine gV_aload_n C dL_isTold_413 rfl 2 rfl ?_
            refine gV_iload C dL_isTold_414 12 rfl ?_
            refine gV_iload C dL_isTold_416 14 rfl ?_
            obtain ⟨r418q, pn_418, pg_418, pq_418, pm_418, ps_418, hq418, hp⟩ := g_ob6 hp
            refine gV_calli C (gsub_cy_c _ _ rfl rfl) (gV_runSX (As := [.ref (h 0), .int v11, .int v16]) (rest := []) C (mt_L_partMark hl D h cI cJ lc la hr uP uC uR tn pn pg pq rl sr gcb gpb tg tm tl pm ps v11 v16 r418q pn_418 pg_418 pq_418 pm_418 ps_418 hq418) (vx_cwSW 3 C.2.2.2.2.1 gL_isTold_L_partMark rfl rfl rfl hds_L_partMark ⟨Nat.le_of_ble_eq_true rfl, Nat.le_of_ble_eq_true rfl⟩) (gsub_cy_c _ _ rfl rfl) rfl rfl (Nat.le_of_ble_eq_true rfl) dL_isTold_418 ⟨(by show _ ≤ 799; omega), (by show _ ≤ 4794; omega)⟩) (fun _ _ hx => False.elim hx) (fun r418 w1 hw => ?_)
            obtain ⟨rfl, rfl⟩ := hw
            refine gV_sub (ws' := (cW h cI cJ lc la hr uP uC uR tn pn_418 pg_418 pq_418 rl sr gcb gpb tg tm tl pm_418 ps_418) ++ (yW k cI cJ yg yq ym yw yh yr)) [6, 7, 8, 9, 10, 11, 12, 13, 14, 15, 16, 17, 18, 0, 1, 2, 3, 4, 5] (by decide) rfl rfl ?_
            refine gV_iload C dL_isTold_421 1 rfl ?_
            refine gV_icmp_ne (tgt := 442) C dL_isTold_423 (by decide) (fun c423 => ?_) (fun c423 => ?_)
            · replace hp := g_iff hp c423
              refine gV_loc [2, 4, 5, 6, 7, 8, 9] rfl ?_
              refine gV_widen (k' := 643) (n' := 3858) (by omega) (by omega) ?_
              exact J442 pn_418 pg_418 pq_418 sr pm_418 ps_418 yw yh hp
            · replace hp := g_ift hp c423
              refine gV_aload_n C dL_isTold_426 rfl 2 rfl ?_
              refine gV_iload C dL_isTold_427 12 rfl ?_
              refine gV_iload C dL_isTold_429 1 rfl ?_
              obtain ⟨r431q, pn_431, pg_431, pq_431, pm_431, ps_431, hq431, hp⟩ := g_ob6 hp
              refine gV_calli C (gsub_cy_c _ _ rfl rfl) (gV_runSX (As := [.ref (h 0), .int v11, .int r395]) (rest := []) C (mt_L_partSize hl D h cI cJ lc la hr uP uC uR tn pn_418 pg_418 pq_418 rl sr gcb gpb tg tm tl pm_418 ps_418 v11 r395 r431q pn_431 pg_431 pq_431 pm_431 ps_431 hq431) (vx_cwSW 3 C.2.2.2.2.1 gL_isTold_L_partSize rfl rfl rfl hds_L_partSize ⟨Nat.le_of_ble_eq_true rfl, Nat.le_of_ble_eq_true rfl⟩) (gsub_cy_c _ _ rfl rfl) rfl rfl (Nat.le_of_ble_eq_true rfl) dL_isTold_431 ⟨(by show _ ≤ 799; omega), (by show _ ≤ 4794; omega)⟩) (fun _ _ hx => False.elim hx) (fun r431 w1 hw => ?_)
              obtain ⟨rfl, rfl⟩ := hw
              refine gV_sub (ws' := (cW h cI cJ lc la hr uP uC uR tn pn_431 pg_431 pq_431 rl sr gcb gpb tg tm tl pm_431 ps_431) ++ (yW k cI cJ yg yq ym yw yh yr)) [6, 7, 8, 9, 10, 11, 12, 13, 14, 15, 16, 17, 18, 0, 1, 2, 3, 4, 5] (by decide) rfl rfl ?_
              refine gV_lload C dL_isTold_434 0 rfl ?_
              obtain ⟨r436q, hq436, hp⟩ := g_ob1 hp
              refine gV_calliE C (gV_runS (As := [.long r408]) (rest := [.int r431]) C (mt_L_many hl D cI cJ r408 r436q hq436) (va_cwS 1 C.2.2.2.2.1 gL_isTold_L_many rfl rfl rfl hds_L_many ⟨Nat.le_of_ble_eq_true rfl, Nat.le_of_ble_eq_true rfl⟩) (gSub_E _) rfl rfl (Nat.le_of_ble_eq_true rfl) dL_isTold_436 ⟨(by show _ ≤ 799; omega), (by show _ ≤ 4794; omega)⟩) (fun _ _ hx => False.elim hx) (fun r436 w1 hw => ?_)
              obtain ⟨rfl, rfl⟩ := hw
              refine ⟨rfl, ?_⟩
              refine gV_icmp_eq (tgt := 444) C dL_isTold_439 (by decide) (fun c439 => ?_) (fun c439 => ?_)
              · replace hp := g_ift hp c439
                refine gV_lload C dL_isTold_444 13 rfl ?_
                refine gV_lload C dL_isTold_446 0 rfl ?_
                refine gV_ldc2 (v := (-1)) C dL_isTold_448 (C.w 1 rfl) ?_
                refine gV_lxor C dL_isTold_451 ?_
                refine gV_land C dL_isTold_452 ?_
                refine gV_lstore (lvs' := [(14, .long (v14 &&& (r408 ^^^ (-1)))), (19, .long r408), (18, .int r395), (0, .ref (h 0)), (1, .int v1), (2, .ref (k 0)), (3, .ref (k 5)), (4, .ref (k 1)), (5, .ref (k 2)), (6, .ref (k 3)), (7, .ref (k 4)), (8, .long v8), (10, .int v10), (11, .int v11), (16, .int v16), (17, .int v17)]) C dL_isTold_453 (by decide) rfl ?_
                refine gV_iinc (v := (v16 + 1)) (lvs' := [(16, .int (v16 + 1)), (14, .long (v14 &&& (r408 ^^^ (-1)))), (19, .long r408), (18, .int r395), (0, .ref (h 0)), (1, .int v1), (2, .ref (k 0)), (3, .ref (k 5)), (4, .ref (k 1)), (5, .ref (k 2)), (6, .ref (k 3)), (7, .ref (k 4)), (8, .long v8), (10, .int v10), (11, .int v11), (17, .int v17)]) C dL_isTold_455 14 rfl rfl (by decide) rfl ?_
                refine gV_goto (tgt := 363) C dL_isTold_458 (by decide) ?_
                refine gV_loc [4, 5, 6, 7, 8, 9, 10, 11, 12, 13, 14, 1, 0] rfl ?_
                refine gV_widen (k' := (359 + 4 * (70 - n363))) (n' := (2154 + 24 * (70 - n363))) (by omega) (by omega) ?_
                exact ih363 (v14 &&& (r408 ^^^ (-1))) (v16 + 1) pn_431 pg_431 pq_431 pm_431 ps_431 (by omega) hp
              · replace hp := g_iff hp c439
                refine gV_loc [2, 4, 5, 6, 7, 8, 9] rfl ?_
                refine gV_widen (k' := 643) (n' := 3858) (by omega) (by omega) ?_
                exact J442 pn_431 pg_431 pq_431 sr pm_431 ps_431 yw yh hp
          · replace hp := g_ift hp c380
            refine gV_iinc (v := (v17 + 1)) (lvs' := [(17, .int (v17 + 1)), (0, .ref (h 0)), (1, .int v1), (2, .ref (k 0)), (3, .ref (k 5)), (4, .ref (k 1)), (5, .ref (k 2)), (6, .ref (k 3)), (7, .ref (k 4)), (8, .long v8), (10, .int v10), (11, .int v11), (14, .long v14), (16, .int v16)]) C dL_isTold_383 13 rfl rfl (by decide) rfl ?_
            refine gV_goto (tgt := 373) C dL_isTold_386 (by decide) ?_
            refine gV_loc [1, 2, 3, 4, 5, 6, 7, 8, 9, 10, 11, 12, 13, 0] rfl ?_
            exact ih373 (v17 + 1) hp
      refine gV_lload C dL_isTold_363 11 rfl ?_
      refine gV_lconst (v := 0) C dL_isTold_365 rfl ?_
      refine gV_lcmp C dL_isTold_366 ?_
      refine gV_if_eq (tgt := 461) C dL_isTold_367 (by decide) (fun c367 => ?_) (fun c367 => ?_)
      · replace hp := g_ift hp c367
        refine gV_iload_n C dL_isTold_461 rfl 1 rfl ?_
        refine gV_bipush (v := 16) C dL_isTold_462 rfl ?_
        refine gV_ishr C dL_isTold_464 ?_
        refine gV_iconst (v := 3) C dL_isTold_465 rfl ?_
        obtain ⟨r466q, hq466, hp⟩ := g_ob1 hp
        refine gV_calliE C (gV_runS (As := [.int (v1 >>> (16 &&& 31)), .int 3]) (rest := []) C (mt_L_low hl D cI cJ (v1 >>> (16 &&& 31)) 3 r466q hq466) (va_cwS 2 C.2.2.2.2.1 gL_isTold_L_low rfl rfl rfl hds_L_low ⟨Nat.le_of_ble_eq_true rfl, Nat.le_of_ble_eq_true rfl⟩) (gSub_E _) rfl rfl (Nat.le_of_ble_eq_true rfl) dL_isTold_466 ⟨(by show _ ≤ 799; omega), (by show _ ≤ 4794; omega)⟩) (fun _ _ hx => False.elim hx) (fun r466 w1 hw => ?_)
        obtain ⟨rfl, rfl⟩ := hw
        refine ⟨rfl, ?_⟩
        refine gV_istore (lvs' := [(17, .int r466), (0, .ref (h 0)), (1, .int v1), (2, .ref (k 0)), (3, .ref (k 5)), (4, .ref (k 1)), (5, .ref (k 2)), (6, .ref (k 3)), (7, .ref (k 4)), (8, .long v8), (10, .int v10), (11, .int v11), (14, .long v14), (16, .int v16)]) C dL_isTold_469 (by decide) rfl ?_
        refine gV_aload_n C dL_isTold_471 rfl 1 rfl ?_
        refine gV_iload C dL_isTold_472 11 rfl ?_
        obtain ⟨x474, r474q, pn_474, pg_474, pq_474, pm_474, ps_474, hq474, hp⟩ := g_ob7 hp
        refine gV_calli C (gsub_cy_c _ _ rfl rfl) (gV_runV (As := [.int v11]) (rest := []) C (mt_X3_parts hl D h cI cJ lc la hr uP uC uR tn pn pg pq rl sr gcb gpb tg tm tl pm ps v11 x474 r474q pn_474 pg_474 pq_474 pm_474 ps_474 hq474) (cwV 1 C.2.2.2.2.1 gL_isTold_X3_parts rfl rfl rfl hdv_X3_parts ⟨Nat.le_of_ble_eq_true rfl, Nat.le_of_ble_eq_true rfl⟩) (gsub_cy_c _ _ rfl rfl) 0 rfl rfl rfl rfl (Nat.le_of_ble_eq_true rfl) dL_isTold_474 ⟨(by show _ ≤ 799; omega), (by show _ ≤ 4794; omega)⟩) (fun E w1 hx => ?_) (fun r474 w1 hw => ?_)
        · obtain ⟨hne, rfl, rfl⟩ := hx
          refine gT_sub (ws' := (cW h cI cJ lc la hr uP uC uR tn pn_474 pg_474 pq_474 rl sr gcb gpb tg tm tl pm_474 ps_474) ++ (yW k cI cJ yg yq ym yw yh yr)) [6, 7, 8, 9, 10, 11, 12, 13, 14, 15, 16, 17, 18, 0, 1, 2, 3, 4, 5] (by decide) rfl rfl ?_
          replace hp := g_iff hp hne
          exact g_none hp
        · obtain ⟨hx0, rfl, rfl⟩ := hw
          replace hp := g_ift hp hx0
          refine gV_sub (ws' := (cW h cI cJ lc la hr uP uC uR tn pn_474 pg_474 pq_474 rl sr gcb gpb tg tm tl pm_474 ps_474) ++ (yW k cI cJ yg yq ym yw yh yr)) [6, 7, 8, 9, 10, 11, 12, 13, 14, 15, 16, 17, 18, 0, 1, 2, 3, 4, 5] (by decide) rfl rfl ?_
          refine gV_iload C dL_isTold_477 13 rfl ?_
          refine gV_icmp_ne (tgt := 618) C dL_isTold_479 (by decide) (fun c479 => ?_) (fun c479 => ?_)
          · replace hp := g_iff hp c479
            refine gV_loc [1, 3, 4, 5, 6, 7, 8] rfl ?_
            refine gV_widen (k' := 652) (n' := 3912) (by omega) (by omega) ?_
            exact J618 pn_474 pg_474 pq_474 sr pm_474 ps_474 yw yh hp
          · replace hp := g_ift hp c479
            refine gV_aload_n C dL_isTold_482 rfl 1 rfl ?_
            refine gV_iload C dL_isTold_483 11 rfl ?_
            refine gV_iload C dL_isTold_485 13 rfl ?_
            obtain ⟨r487q, pn_487, pg_487, pq_487, pm_487, ps_487, hq487, hp⟩ := g_ob6 hp
            refine gV_calli C (gsub_cy_c _ _ rfl rfl) (gV_runSX (As := [.ref (h 0), .int v11, .int v16]) (rest := []) C (mt_L_partMark hl D h cI cJ lc la hr uP uC uR tn pn_474 pg_474 pq_474 rl sr gcb gpb tg tm tl pm_474 ps_474 v11 v16 r487q pn_487 pg_487 pq_487 pm_487 ps_487 hq487) (vx_cwSW 3 C.2.2.2.2.1 gL_isTold_L_partMark rfl rfl rfl hds_L_partMark ⟨Nat.le_of_ble_eq_true rfl, Nat.le_of_ble_eq_true rfl⟩) (gsub_cy_c _ _ rfl rfl) rfl rfl (Nat.le_of_ble_eq_true rfl) dL_isTold_487 ⟨(by show _ ≤ 799; omega), (by show _ ≤ 4794; omega)⟩) (fun _ _ hx => False.elim hx) (fun r487 w1 hw => ?_)
            obtain ⟨rfl, rfl⟩ := hw
            refine gV_sub (ws' := (cW h cI cJ lc la hr uP uC uR tn pn_487 pg_487 pq_487 rl sr gcb gpb tg tm tl pm_487 ps_487) ++ (yW k cI cJ yg yq ym yw yh yr)) [6, 7, 8, 9, 10, 11, 12, 13, 14, 15, 16, 17, 18, 0, 1, 2, 3, 4, 5] (by decide) rfl rfl ?_
            refine gV_bipush (v := (-71)) C dL_isTold_490 rfl ?_
            refine gV_icmp_ne (tgt := 618) C dL_isTold_492 (by decide) (fun c492 => ?_) (fun c492 => ?_)
            · replace hp := g_iff hp c492
              refine gV_loc [1, 3, 4, 5, 6, 7, 8] rfl ?_
              refine gV_widen (k' := 652) (n' := 3912) (by omega) (by omega) ?_
              exact J618 pn_487 pg_487 pq_487 sr pm_487 ps_487 yw yh hp
            · replace hp := g_ift hp c492
              refine gV_aload_n C dL_isTold_495 rfl 1 rfl ?_
              refine gV_iload C dL_isTold_496 11 rfl ?_
              refine gV_iconst (v := (-1)) C dL_isTold_498 rfl ?_
              obtain ⟨r499q, pn_499, pg_499, pq_499, pm_499, ps_499, hq499, hp⟩ := g_ob6 hp
              refine gV_calli C (gsub_cy_c _ _ rfl rfl) (gV_runSX (As := [.ref (h 0), .int v11, .int (-1)]) (rest := []) C (mt_L_partMark hl D h cI cJ lc la hr uP uC uR tn pn_487 pg_487 pq_487 rl sr gcb gpb tg tm tl pm_487 ps_487 v11 (-1) r499q pn_499 pg_499 pq_499 pm_499 ps_499 hq499) (vx_cwSW 3 C.2.2.2.2.1 gL_isTold_L_partMark rfl rfl rfl hds_L_partMark ⟨Nat.le_of_ble_eq_true rfl, Nat.le_of_ble_eq_true rfl⟩) (gsub_cy_c _ _ rfl rfl) rfl rfl (Nat.le_of_ble_eq_true rfl) dL_isTold_499 ⟨(by show _ ≤ 799; omega), (by show _ ≤ 4794; omega)⟩) (fun _ _ hx => False.elim hx) (fun r499 w1 hw => ?_)
              obtain ⟨rfl, rfl⟩ := hw
              refine gV_sub (ws' := (cW h cI cJ lc la hr uP uC uR tn pn_499 pg_499 pq_499 rl sr gcb gpb tg tm tl pm_499 ps_499) ++ (yW k cI cJ yg yq ym yw yh yr)) [6, 7, 8, 9, 10, 11, 12, 13, 14, 15, 16, 17, 18, 0, 1, 2, 3, 4, 5] (by decide) rfl rfl ?_
              refine gV_bipush (v := (-71)) C dL_isTold_502 rfl ?_
              refine gV_icmp_ne (tgt := 618) C dL_isTold_504 (by decide) (fun c504 => ?_) (fun c504 => ?_)
              · replace hp := g_iff hp c504
                refine gV_loc [1, 3, 4, 5, 6, 7, 8] rfl ?_
                refine gV_widen (k' := 652) (n' := 3912) (by omega) (by omega) ?_
                exact J618 pn_499 pg_499 pq_499 sr pm_499 ps_499 yw yh hp
              · replace hp := g_ift hp c504
                refine gV_aload_n C dL_isTold_507 rfl 1 rfl ?_
                refine gV_iload C dL_isTold_508 11 rfl ?_
                obtain ⟨x510, r510q, pn_510, pg_510, pq_510, pm_510, ps_510, hq510, hp⟩ := g_ob7 hp
                refine gV_calli C (gsub_cy_c _ _ rfl rfl) (gV_runV (As := [.int v11]) (rest := []) C (mt_X3_worstCase hl D h cI cJ lc la hr uP uC uR tn pn_499 pg_499 pq_499 rl sr gcb gpb tg tm tl pm_499 ps_499 v11 x510 r510q pn_510 pg_510 pq_510 pm_510 ps_510 hq510) (cwV 1 C.2.2.2.2.1 gL_isTold_X3_worstCase rfl rfl rfl hdv_X3_worstCase ⟨Nat.le_of_ble_eq_true rfl, Nat.le_of_ble_eq_true rfl⟩) (gsub_cy_c _ _ rfl rfl) 0 rfl rfl rfl rfl (Nat.le_of_ble_eq_true rfl) dL_isTold_510 ⟨(by show _ ≤ 799; omega), (by show _ ≤ 4794; omega)⟩) (fun E w1 hx => ?_) (fun r510 w1 hw => ?_)
                · obtain ⟨hne, rfl, rfl⟩ := hx
                  refine gT_sub (ws' := (cW h cI cJ lc la hr uP uC uR tn pn_510 pg_510 pq_510 rl sr gcb gpb tg tm tl pm_510 ps_510) ++ (yW k cI cJ yg yq ym yw yh yr)) [6, 7, 8, 9, 10, 11, 12, 13, 14, 15, 16, 17, 18, 0, 1, 2, 3, 4, 5] (by decide) rfl rfl ?_
                  replace hp := g_iff hp hne
                  exact g_none hp
                · obtain ⟨hx0, rfl, rfl⟩ := hw
                  replace hp := g_ift hp hx0
                  refine gV_sub (ws' := (cW h cI cJ lc la hr uP uC uR tn pn_510 pg_510 pq_510 rl sr gcb gpb tg tm tl pm_510 ps_510) ++ (yW k cI cJ yg yq ym yw yh yr)) [6, 7, 8, 9, 10, 11, 12, 13, 14, 15, 16, 17, 18, 0, 1, 2, 3, 4, 5] (by decide) rfl rfl ?_
                  refine gV_aload_n C dL_isTold_513 rfl 3 rfl ?_
                  refine gV_aload_n C dL_isTold_514 rfl 4 rfl ?_
                  refine gV_lload C dL_isTold_515 9 rfl ?_
                  refine gV_iload C dL_isTold_517 11 rfl ?_
                  refine gV_iconst (v := 0) C dL_isTold_519 rfl ?_
                  obtain ⟨r520q, hq520, hp⟩ := g_ob1 hp
                  refine gV_calli C (gsub_cy_y _ _ rfl rfl) (gV_runS (As := [.ref (k 0), .ref (k 5), .long v8, .int v11, .int 0]) (rest := [.int r510]) C (mt_L_worth hl D k cI cJ yg yq ym yw yh yr v8 v11 0 r520q hq520) (va_cwS 5 C.2.2.2.2.1 gL_isTold_L_worth rfl rfl rfl hds_L_worth ⟨Nat.le_of_ble_eq_true rfl, Nat.le_of_ble_eq_true rfl⟩) (gsub_cy_y _ _ rfl rfl) rfl rfl (Nat.le_of_ble_eq_true rfl) dL_isTold_520 ⟨(by show _ ≤ 799; omega), (by show _ ≤ 4794; omega)⟩) (fun _ _ hx => False.elim hx) (fun r520 w1 hw => ?_)
                  obtain ⟨rfl, rfl⟩ := hw
                  refine gV_sub (ws' := (cW h cI cJ lc la hr uP uC uR tn pn_510 pg_510 pq_510 rl sr gcb gpb tg tm tl pm_510 ps_510) ++ (yW k cI cJ yg yq ym yw yh yr)) [0, 1, 2, 3, 4, 5, 6, 7, 8, 9, 10, 11, 12, 13, 14, 15, 16, 17, 18] (by decide) rfl rfl ?_
                  refine gV_icmp_ne (tgt := 618) C dL_isTold_523 (by decide) (fun c523 => ?_) (fun c523 => ?_)
                  · replace hp := g_iff hp c523
                    refine gV_loc [1, 3, 4, 5, 6, 7, 8] rfl ?_
                    refine gV_widen (k' := 652) (n' := 3912) (by omega) (by omega) ?_
                    exact J618 pn_510 pg_510 pq_510 sr pm_510 ps_510 yw yh hp
                  · replace hp := g_ift hp c523
                    refine gV_aload_n C dL_isTold_526 rfl 1 rfl ?_
                    refine gV_iload C dL_isTold_527 11 rfl ?_
                    obtain ⟨x529, r529q, pn_529, pg_529, pq_529, pm_529, ps_529, hq529, hp⟩ := g_ob7 hp
                    refine gV_calli C (gsub_cy_c _ _ rfl rfl) (gV_runV (As := [.int v11]) (rest := []) C (mt_X3_weight hl D h cI cJ lc la hr uP uC uR tn pn_510 pg_510 pq_510 rl sr gcb gpb tg tm tl pm_510 ps_510 v11 x529 r529q pn_529 pg_529 pq_529 pm_529 ps_529 hq529) (cwV 1 C.2.2.2.2.1 gL_isTold_X3_weight rfl rfl rfl hdv_X3_weight ⟨Nat.le_of_ble_eq_true rfl, Nat.le_of_ble_eq_true rfl⟩) (gsub_cy_c _ _ rfl rfl) 0 rfl rfl rfl rfl (Nat.le_of_ble_eq_true rfl) dL_isTold_529 ⟨(by show _ ≤ 799; omega), (by show _ ≤ 4794; omega)⟩) (fun E w1 hx => ?_) (fun r529 w1 hw => ?_)
                    · obtain ⟨hne, rfl, rfl⟩ := hx
                      refine gT_sub (ws' := (cW h cI cJ lc la hr uP uC uR tn pn_529 pg_529 pq_529 rl sr gcb gpb tg tm tl pm_529 ps_529) ++ (yW k cI cJ yg yq ym yw yh yr)) [6, 7, 8, 9, 10, 11, 12, 13, 14, 15, 16, 17, 18, 0, 1, 2, 3, 4, 5] (by decide) rfl rfl ?_
                      replace hp := g_iff hp hne
                      exact g_none hp
                    · obtain ⟨hx0, rfl, rfl⟩ := hw
                      replace hp := g_ift hp hx0
                      refine gV_sub (ws' := (cW h cI cJ lc la hr uP uC uR tn pn_529 pg_529 pq_529 rl sr gcb gpb tg tm tl pm_529 ps_529) ++ (yW k cI cJ yg yq ym yw yh yr)) [6, 7, 8, 9, 10, 11, 12, 13, 14, 15, 16, 17, 18, 0, 1, 2, 3, 4, 5] (by decide) rfl rfl ?_
                      refine gV_aload_n C dL_isTold_532 rfl 3 rfl ?_
                      refine gV_aload_n C dL_isTold_533 rfl 4 rfl ?_
                      refine gV_lload C dL_isTold_534 9 rfl ?_
                      refine gV_iload C dL_isTold_536 11 rfl ?_
                      refine gV_iconst (v := 1) C dL_isTold_538 rfl ?_
                      obtain ⟨r539q, hq539, hp⟩ := g_ob1 hp
                      refine gV_calli C (gsub_cy_y _ _ rfl rfl) (gV_runS (As := [.ref (k 0), .ref (k 5), .long v8, .int v11, .int 1]) (rest := [.int r529]) C (mt_L_worth hl D k cI cJ yg yq ym yw yh yr v8 v11 1 r539q hq539) (va_cwS 5 C.2.2.2.2.1 gL_isTold_L_worth rfl rfl rfl hds_L_worth ⟨Nat.le_of_ble_eq_true rfl, Nat.le_of_ble_eq_true rfl⟩) (gsub_cy_y _ _ rfl rfl) rfl rfl (Nat.le_of_ble_eq_true rfl) dL_isTold_539 ⟨(by show _ ≤ 799; omega), (by show _ ≤ 4794; omega)⟩) (fun _ _ hx => False.elim hx) (fun r539 w1 hw => ?_)
                      obtain ⟨rfl, rfl⟩ := hw
                      refine gV_sub (ws' := (cW h cI cJ lc la hr uP uC uR tn pn_529 pg_529 pq_529 rl sr gcb gpb tg tm tl pm_529 ps_529) ++ (yW k cI cJ yg yq ym yw yh yr)) [0, 1, 2, 3, 4, 5, 6, 7, 8, 9, 10, 11, 12, 13, 14, 15, 16, 17, 18] (by decide) rfl rfl ?_
                      refine gV_icmp_ne (tgt := 618) C dL_isTold_542 (by decide) (fun c542 => ?_) (fun c542 => ?_)
                      · replace hp := g_iff hp c542
                        refine gV_loc [1, 3, 4, 5, 6, 7, 8] rfl ?_
                        refine gV_widen (k' := 652) (n' := 3912) (by omega) (by omega) ?_
                        exact J618 pn_529 pg_529 pq_529 sr pm_529 ps_529 yw yh hp
                      · replace hp := g_ift hp c542
                        refine gV_aload_n C dL_isTold_545 rfl 1 rfl ?_
                        refine gV_iload C dL_isTold_546 0 rfl ?_
                        obtain ⟨r548q, pn_548, pg_548, pq_548, pm_548, ps_548, hq548, hp⟩ := g_ob6 hp
                        refine gV_calli C (gsub_cy_c _ _ rfl rfl) (gV_runSX (As := [.ref (h 0), .int r466]) (rest := []) C (mt_L_bestGuess hl D h cI cJ lc la hr uP uC uR tn pn_529 pg_529 pq_529 rl sr gcb gpb tg tm tl pm_529 ps_529 r466 r548q pn_548 pg_548 pq_548 pm_548 ps_548 hq548) (vx_cwSW 2 C.2.2.2.2.1 gL_isTold_L_bestGuess rfl rfl rfl hds_L_bestGuess ⟨Nat.le_of_ble_eq_true rfl, Nat.le_of_ble_eq_true rfl⟩) (gsub_cy_c _ _ rfl rfl) rfl rfl (Nat.le_of_ble_eq_true rfl) dL_isTold_548 ⟨(by show _ ≤ 799; omega), (by show _ ≤ 4794; omega)⟩) (fun _ _ hx => False.elim hx) (fun r548 w1 hw => ?_)
                        obtain ⟨rfl, rfl⟩ := hw
                        refine gV_sub (ws' := (cW h cI cJ lc la hr uP uC uR tn pn_548 pg_548 pq_548 rl sr gcb gpb tg tm tl pm_548 ps_548) ++ (yW k cI cJ yg yq ym yw yh yr)) [6, 7, 8, 9, 10, 11, 12, 13, 14, 15, 16, 17, 18, 0, 1, 2, 3, 4, 5] (by decide) rfl rfl ?_
                        refine gV_lload C dL_isTold_551 9 rfl ?_
                        refine gV_lconst (v := 0) C dL_isTold_553 rfl ?_
                        refine gV_lcmp C dL_isTold_554 ?_
                        refine gV_if_ne (tgt := 563) C dL_isTold_555 (by decide) (fun c555 => ?_) (fun c555 => ?_)
                        · replace hp := g_iff hp c555
                          refine gV_aload_n C dL_isTold_563 rfl 3 rfl ?_
                          refine gV_aload_n C dL_isTold_564 rfl 4 rfl ?_
                          refine gV_lload C dL_isTold_565 9 rfl ?_
                          refine gV_iload C dL_isTold_567 0 rfl ?_
                          obtain ⟨r569q, hq569, hp⟩ := g_ob1 hp
                          refine gV_calli C (gsub_cy_y _ _ rfl rfl) (gV_runS (As := [.ref (k 0), .ref (k 5), .long v8, .int r466]) (rest := [.int r548]) C (mt_L_best hl D k cI cJ yg yq ym yw yh yr v8 r466 r569q hq569) (va_cwS 4 C.2.2.2.2.1 gL_isTold_L_best rfl rfl rfl hds_L_best ⟨Nat.le_of_ble_eq_true rfl, Nat.le_of_ble_eq_true rfl⟩) (gsub_cy_y _ _ rfl rfl) rfl rfl (Nat.le_of_ble_eq_true rfl) dL_isTold_569 ⟨(by show _ ≤ 799; omega), (by show _ ≤ 4794; omega)⟩) (fun _ _ hx => False.elim hx) (fun r569 w1 hw => ?_)
                          obtain ⟨rfl, rfl⟩ := hw
                          refine gV_sub (ws' := (cW h cI cJ lc la hr uP uC uR tn pn_548 pg_548 pq_548 rl sr gcb gpb tg tm tl pm_548 ps_548) ++ (yW k cI cJ yg yq ym yw yh yr)) [0, 1, 2, 3, 4, 5, 6, 7, 8, 9, 10, 11, 12, 13, 14, 15, 16, 17, 18] (by decide) rfl rfl ?_
                          refine gV_loc [1, 3, 4, 5, 6, 7, 8, 9, 10, 11] rfl ?_
                          refine gV_widen (k' := 647) (n' := 3882) (by omega) (by omega) ?_
                          exact J572 v8 v10 v11 r569 r548 pn_548 pg_548 pq_548 sr pm_548 ps_548 yw yh hp
                        · replace hp := g_ift hp c555
                          refine gV_bipush (v := (-73)) C dL_isTold_558 rfl ?_
                          refine gV_goto (tgt := 572) C dL_isTold_560 (by decide) ?_
                          refine gV_loc [1, 3, 4, 5, 6, 7, 8, 9, 10, 11] rfl ?_
                          refine gV_widen (k' := 647) (n' := 3882) (by omega) (by omega) ?_
                          exact J572 v8 v10 v11 (-73) r548 pn_548 pg_548 pq_548 sr pm_548 ps_548 yw yh hp
      · replace hp := g_iff hp c367
        refine gV_iconst (v := 0) C dL_isTold_370 rfl ?_
        refine gV_istore (lvs' := [(17, .int 0), (0, .ref (h 0)), (1, .int v1), (2, .ref (k 0)), (3, .ref (k 5)), (4, .ref (k 1)), (5, .ref (k 2)), (6, .ref (k 3)), (7, .ref (k 4)), (8, .long v8), (10, .int v10), (11, .int v11), (14, .long v14), (16, .int v16)]) C dL_isTold_371 (by decide) rfl ?_
        refine gV_loc [1, 2, 3, 4, 5, 6, 7, 8, 9, 10, 11, 12, 13, 0] rfl ?_
        exact L373 v14 v16 pn pg pq pm ps 100000 0 hp
  have J354 : ∀ (pn : Int32) (pg : Int32) (pq : Int32) (sr : Nat → Int32) (pm : Nat → Int32) (ps : Nat → Int32) (yw : Nat → Int64) (yh : Nat → Int32), pf_L_isTold_j354 pn pg pq sr pm ps yw yh = (some (r0, pn0, pg0, pq0, sr0, pm0, ps0, yw0, yh0)) → gV p l e rm_L_isTold s m args below meth c A D 21 Q ((cW h cI cJ lc la hr uP uC uR tn pn pg pq rl sr gcb gpb tg tm tl pm ps) ++ (yW k cI cJ yg yq ym yw yh yr)) [(0, .ref (h 0)), (2, .ref (k 0)), (3, .ref (k 5)), (4, .ref (k 1)), (5, .ref (k 2)), (6, .ref (k 3)), (7, .ref (k 4))] 359 2154 354 [] := by
    intro pn pg pq sr pm ps yw yh hp
    unfold pf_L_isTold_j354 at hp
    refine gV_iconst (v := 0) C dL_isTold_354 rfl ?_
    obtain ⟨rfl, rfl, rfl, rfl, rfl, rfl, rfl, rfl, rfl⟩ := g_so9 hp
    exact RET _ _ _ _ _ _ dL_isTold_355 (Nat.le_of_ble_eq_true rfl) (Nat.le_of_ble_eq_true rfl) rfl ⟨rfl, rfl⟩
  have J151 : ∀ (pn : Int32) (pg : Int32) (pq : Int32) (sr : Nat → Int32) (pm : Nat → Int32) (ps : Nat → Int32) (yw : Nat → Int64) (yh : Nat → Int32), pf_L_isTold_j151 pn pg pq sr pm ps yw yh = (some (r0, pn0, pg0, pq0, sr0, pm0, ps0, yw0, yh0)) → gV p l e rm_L_isTold s m args below meth c A D 21 Q ((cW h cI cJ lc la hr uP uC uR tn pn pg pq rl sr gcb gpb tg tm tl pm ps) ++ (yW k cI cJ yg yq ym yw yh yr)) [(0, .ref (h 0)), (2, .ref (k 0)), (3, .ref (k 5)), (4, .ref (k 1)), (5, .ref (k 2)), (6, .ref (k 3)), (7, .ref (k 4))] 352 2112 151 [] := by
    intro pn pg pq sr pm ps yw yh hp
    unfold pf_L_isTold_j151 at hp
    refine gV_iconst (v := 0) C dL_isTold_151 rfl ?_
    obtain ⟨rfl, rfl, rfl, rfl, rfl, rfl, rfl, rfl, rfl⟩ := g_so9 hp
    exact RET _ _ _ _ _ _ dL_isTold_152 (Nat.le_of_ble_eq_true rfl) (Nat.le_of_ble_eq_true rfl) rfl ⟨rfl, rfl⟩
  have L115 : ∀ (v8 : Int64) (v10 : Int32) (pn : Int32) (pg : Int32) (pq : Int32) (sr : Nat → Int32) (pm : Nat → Int32) (ps : Nat → Int32) (yw : Nat → Int64) (yh : Nat → Int32) (n115 : Nat) (v11 : Int32), n115 ≤ 70 → pf_L_isTold_L115 v1 lc la uP uR tn rl gcb gpb tg tm tl yg yq ym yr v8 v10 pn pg pq sr pm ps yw yh n115 v11 = (some (r0, pn0, pg0, pq0, sr0, pm0, ps0, yw0, yh0)) → gV p l e rm_L_isTold s m args below meth c A D 21 Q ((cW h cI cJ lc la hr uP uC uR tn pn pg pq rl sr gcb gpb tg tm tl pm ps) ++ (yW k cI cJ yg yq ym yw yh yr)) [(0, .ref (h 0)), (1, .int v1), (2, .ref (k 0)), (3, .ref (k 5)), (4, .ref (k 1)), (5, .ref (k 2)), (6, .ref (k 3)), (7, .ref (k 4)), (8, .long v8), (10, .int v10), (11, .int v11)] (210 + 2 * (70 - n115)) (1260 + 12 * (70 - n115)) 115 [] := by
    intro v8 v10 pn pg pq sr pm ps yw yh n115
    induction n115 with
    | zero => intro v11 _ hp; exact g_none hp
    | succ n115 ih115 =>
      intro v11 hn115 hp
      rw [pf_L_isTold_L115.eq_2] at hp
      refine gV_iload C dL_isTold_115 10 rfl ?_
      refine gV_aload_n C dL_isTold_117 rfl 2 rfl ?_
      refine gV_iconst (v := 5) C dL_isTold_118 rfl ?_
      obtain ⟨hi119, hp⟩ := g_idx hp
      refine gV_iald C 13 rfl 0 rfl hi119 dL_isTold_119 ?_
      refine gV_icmp_ge (tgt := 159) C dL_isTold_120 (by decide) (fun c120 => ?_) (fun c120 => ?_)
      · replace hp := g_ift hp c120
        refine gV_iload_n C dL_isTold_159 rfl 1 rfl ?_
        refine gV_aload_n C dL_isTold_160 rfl 2 rfl ?_
        refine gV_iconst (v := 2) C dL_isTold_161 rfl ?_
        obtain ⟨hi162, hp⟩ := g_idx hp
        refine gV_iald C 13 rfl 0 rfl hi162 dL_isTold_162 ?_
        obtain ⟨r163q, hq163, hp⟩ := g_ob1 hp
        refine gV_calliE C (gV_runS (As := [.int v1, .int (yg (2 : Int32).toNatClampNeg)]) (rest := []) C (mt_L_low hl D cI cJ v1 (yg (2 : Int32).toNatClampNeg) r163q hq163) (va_cwS 2 C.2.2.2.2.1 gL_isTold_L_low rfl rfl rfl hds_L_low ⟨Nat.le_of_ble_eq_true rfl, Nat.le_of_ble_eq_true rfl⟩) (gSub_E _) rfl rfl (Nat.le_of_ble_eq_true rfl) dL_isTold_163 ⟨(by show _ ≤ 799; omega), (by show _ ≤ 4794; omega)⟩) (fun _ _ hx => False.elim hx) (fun r163 w1 hw => ?_)
        obtain ⟨rfl, rfl⟩ := hw
        refine ⟨rfl, ?_⟩
        refine gV_istore (lvs' := [(11, .int r163), (0, .ref (h 0)), (1, .int v1), (2, .ref (k 0)), (3, .ref (k 5)), (4, .ref (k 1)), (5, .ref (k 2)), (6, .ref (k 3)), (7, .ref (k 4)), (8, .long v8), (10, .int v10)]) C dL_isTold_166 (by decide) rfl ?_
        refine gV_iload_n C dL_isTold_168 rfl 2 rfl ?_
        refine gV_bipush (v := 7) C dL_isTold_169 rfl ?_
        refine gV_ishr C dL_isTold_171 ?_
        refine gV_aload_n C dL_isTold_172 rfl 3 rfl ?_
        refine gV_iconst (v := 2) C dL_isTold_173 rfl ?_
        obtain ⟨hi174, hp⟩ := g_idx hp
        refine gV_iald C 13 rfl 0 rfl hi174 dL_isTold_174 ?_
        obtain ⟨r175q, hq175, hp⟩ := g_ob1 hp
        refine gV_calliE C (gV_runS (As := [.int (v1 >>> (7 &&& 31)), .int (yg (2 : Int32).toNatClampNeg)]) (rest := []) C (mt_L_low hl D cI cJ (v1 >>> (7 &&& 31)) (yg (2 : Int32).toNatClampNeg) r175q hq175) (va_cwS 2 C.2.2.2.2.1 gL_isTold_L_low rfl rfl rfl hds_L_low ⟨Nat.le_of_ble_eq_true rfl, Nat.le_of_ble_eq_true rfl⟩) (gSub_E _) rfl rfl (Nat.le_of_ble_eq_true rfl) dL_isTold_175 ⟨(by show _ ≤ 799; omega), (by show _ ≤ 4794; omega)⟩) (fun _ _ hx => False.elim hx) (fun r175 w1 hw => ?_)
        obtain ⟨rfl, rfl⟩ := hw
        refine ⟨rfl, ?_⟩
        refine gV_istore (lvs' := [(12, .int r175), (11, .int r163), (0, .ref (h 0)), (1, .int v1), (2, .ref (k 0)), (3, .ref (k 5)), (4, .ref (k 1)), (5, .ref (k 2)), (6, .ref (k 3)), (7, .ref (k 4)), (8, .long v8), (10, .int v10)]) C dL_isTold_178 (by decide) rfl ?_
        refine gV_iload_n C dL_isTold_180 rfl 3 rfl ?_
        refine gV_bipush (v := 13) C dL_isTold_181 rfl ?_
        refine gV_ishr C dL_isTold_183 ?_
        refine gV_aload_n C dL_isTold_184 rfl 4 rfl ?_
        refine gV_iconst (v := 0) C dL_isTold_185 rfl ?_
        obtain ⟨hi186, hp⟩ := g_idx hp
        refine gV_iald C 13 rfl 0 rfl hi186 dL_isTold_186 ?_
        obtain ⟨r187q, hq187, hp⟩ := g_ob1 hp
        refine gV_calliE C (gV_runS (As := [.int (v1 >>> (13 &&& 31)), .int (yg (0 : Int32).toNatClampNeg)]) (rest := []) C (mt_L_low hl D cI cJ (v1 >>> (13 &&& 31)) (yg (0 : Int32).toNatClampNeg) r187q hq187) (va_cwS 2 C.2.2.2.2.1 gL_isTold_L_low rfl rfl rfl hds_L_low ⟨Nat.le_of_ble_eq_true rfl, Nat.le_of_ble_eq_true rfl⟩) (gSub_E _) rfl rfl (Nat.le_of_ble_eq_true rfl) dL_isTold_187 ⟨(by show _ ≤ 799; omega), (by show _ ≤ 4794; omega)⟩) (fun _ _ hx => False.elim hx) (fun r187 w1 hw => ?_)
        obtain ⟨rfl, rfl⟩ := hw
        refine ⟨rfl, ?_⟩
        refine gV_istore (lvs' := [(13, .int r187), (12, .int r175), (11, .int r163), (0, .ref (h 0)), (1, .int v1), (2, .ref (k 0)), (3, .ref (k 5)), (4, .ref (k 1)), (5, .ref (k 2)), (6, .ref (k 3)), (7, .ref (k 4)), (8, .long v8), (10, .int v10)]) C dL_isTold_190 (by decide) rfl ?_
        refine gV_aload_n C dL_isTold_192 rfl 3 rfl ?_
        obtain ⟨r193q, hq193, hp⟩ := g_ob1 hp
        refine gV_calli C (gsub_cy_c _ _ rfl rfl) (gV_runV (As := []) (rest := []) C (mt_X3_rows hl D h cI cJ lc la hr uP uC uR tn pn pg pq rl sr gcb gpb tg tm tl pm ps r193q hq193) (cwV 0 C.2.2.2.2.1 gL_isTold_X3_rows rfl rfl rfl hdv_X3_rows ⟨Nat.le_of_ble_eq_true rfl, Nat.le_of_ble_eq_true rfl⟩) (gsub_cy_c _ _ rfl rfl) 0 rfl rfl rfl rfl (Nat.le_of_ble_eq_true rfl) dL_isTold_193 ⟨(by show _ ≤ 799; omega), (by show _ ≤ 4794; omega)⟩) (fun _ _ hx => False.elim hx) (fun r193 w1 hw => ?_)
        obtain ⟨rfl, rfl⟩ := hw
        refine gV_sub (ws' := (cW h cI cJ lc la hr uP uC uR tn pn pg pq rl sr gcb gpb tg tm tl pm ps) ++ (yW k cI cJ yg yq ym yw yh yr)) [6, 7, 8, 9, 10, 11, 12, 13, 14, 15, 16, 17, 18, 0, 1, 2, 3, 4, 5] (by decide) rfl rfl ?_
        refine gV_aload_n C dL_isTold_196 rfl 5 rfl ?_
        refine gV_iconst (v := 2) C dL_isTold_197 rfl ?_
        obtain ⟨hi198, hp⟩ := g_idx hp
        refine gV_iald C 13 rfl 0 rfl hi198 dL_isTold_198 ?_
        refine gV_icmp_ne (tgt := 354) C dL_isTold_199 (by decide) (fun c199 => ?_) (fun c199 => ?_)
        · replace hp := g_iff hp c199
          refine gV_loc [3, 5, 6, 7, 8, 9, 10] rfl ?_
          refine gV_widen (k' := 359) (n' := 2154) (by omega) (by omega) ?_
          exact J354 pn pg pq sr pm ps yw yh hp
        · replace hp := g_ift hp c199
          refine gV_aload_n C dL_isTold_202 rfl 3 rfl ?_
          obtain ⟨r203q, hq203, hp⟩ := g_ob1 hp
          refine gV_calli C (gsub_cy_c _ _ rfl rfl) (gV_runV (As := []) (rest := []) C (mt_X3_entries hl D h cI cJ lc la hr uP uC uR tn pn pg pq rl sr gcb gpb tg tm tl pm ps r203q hq203) (cwV 0 C.2.2.2.2.1 gL_isTold_X3_entries rfl rfl rfl hdv_X3_entries ⟨Nat.le_of_ble_eq_true rfl, Nat.le_of_ble_eq_true rfl⟩) (gsub_cy_c _ _ rfl rfl) 0 rfl rfl rfl rfl (Nat.le_of_ble_eq_true rfl) dL_isTold_203 ⟨(by show _ ≤ 799; omega), (by show _ ≤ 4794; omega)⟩) (fun _ _ hx => False.elim hx) (fun r203 w1 hw => ?_)
          obtain ⟨rfl, rfl⟩ := hw
          refine gV_sub (ws' := (cW h cI cJ lc la hr uP uC uR tn pn pg pq rl sr gcb gpb tg tm tl pm ps) ++ (yW k cI cJ yg yq ym yw yh yr)) [6, 7, 8, 9, 10, 11, 12, 13, 14, 15, 16, 17, 18, 0, 1, 2, 3, 4, 5] (by decide) rfl rfl ?_
          refine gV_aload_n C dL_isTold_206 rfl 5 rfl ?_
          refine gV_iconst (v := 5) C dL_isTold_207 rfl ?_
          obtain ⟨hi208, hp⟩ := g_idx hp
          refine gV_iald C 13 rfl 0 rfl hi208 dL_isTold_208 ?_
          refine gV_icmp_ne (tgt := 354) C dL_isTold_209 (by decide) (fun c209 => ?_) (fun c209 => ?_)
          · replace hp := g_iff hp c209
            refine gV_loc [3, 5, 6, 7, 8, 9, 10] rfl ?_
            refine gV_widen (k' := 359) (n' := 2154) (by omega) (by omega) ?_
            exact J354 pn pg pq sr pm ps yw yh hp
          · replace hp := g_ift hp c209
            refine gV_aload_n C dL_isTold_212 rfl 3 rfl ?_
            refine gV_aload_n C dL_isTold_213 rfl 5 rfl ?_
            refine gV_iconst (v := 5) C dL_isTold_214 rfl ?_
            obtain ⟨hi215, hp⟩ := g_idx hp
            refine gV_iald C 13 rfl 0 rfl hi215 dL_isTold_215 ?_
            obtain ⟨r216q, hq216, hp⟩ := g_ob1 hp
            refine gV_calli C (gsub_cy_c _ _ rfl rfl) (gV_runSX (As := [.ref (h 0), .int (yg (5 : Int32).toNatClampNeg)]) (rest := []) C (mt_L_markOf hl D h cI cJ lc la hr uP uC uR tn pn pg pq rl sr gcb gpb tg tm tl pm ps (yg (5 : Int32).toNatClampNeg) r216q hq216) (vx_cwSW 2 C.2.2.2.2.1 gL_isTold_L_markOf rfl rfl rfl hds_L_markOf ⟨Nat.le_of_ble_eq_true rfl, Nat.le_of_ble_eq_true rfl⟩) (gsub_cy_c _ _ rfl rfl) rfl rfl (Nat.le_of_ble_eq_true rfl) dL_isTold_216 ⟨(by show _ ≤ 799; omega), (by show _ ≤ 4794; omega)⟩) (fun _ _ hx => False.elim hx) (fun r216 w1 hw => ?_)
            obtain ⟨rfl, rfl⟩ := hw
            refine gV_sub (ws' := (cW h cI cJ lc la hr uP uC uR tn pn pg pq rl sr gcb gpb tg tm tl pm ps) ++ (yW k cI cJ yg yq ym yw yh yr)) [6, 7, 8, 9, 10, 11, 12, 13, 14, 15, 16, 17, 18, 0, 1, 2, 3, 4, 5] (by decide) rfl rfl ?_
            refine gV_bipush (v := (-71)) C dL_isTold_219 rfl ?_
            refine gV_icmp_ne (tgt := 354) C dL_isTold_221 (by decide) (fun c221 => ?_) (fun c221 => ?_)
            · replace hp := g_iff hp c221
              refine gV_loc [3, 5, 6, 7, 8, 9, 10] rfl ?_
              refine gV_widen (k' := 359) (n' := 2154) (by omega) (by omega) ?_
              exact J354 pn pg pq sr pm ps yw yh hp
            · replace hp := g_ift hp c221
              refine gV_aload_n C dL_isTold_224 rfl 3 rfl ?_
              refine gV_iload C dL_isTold_225 12 rfl ?_
              obtain ⟨r227q, hq227, hp⟩ := g_ob1 hp
              refine gV_calli C (gsub_cy_c _ _ rfl rfl) (gV_runSX (As := [.ref (h 0), .int v10]) (rest := []) C (mt_L_leftAt hl D h cI cJ lc la hr uP uC uR tn pn pg pq rl sr gcb gpb tg tm tl pm ps v10 r227q hq227) (vx_cwSW 2 C.2.2.2.2.1 gL_isTold_L_leftAt rfl rfl rfl hds_L_leftAt ⟨Nat.le_of_ble_eq_true rfl, Nat.le_of_ble_eq_true rfl⟩) (gsub_cy_c _ _ rfl rfl) rfl rfl (Nat.le_of_ble_eq_true rfl) dL_isTold_227 ⟨(by show _ ≤ 799; omega), (by show _ ≤ 4794; omega)⟩) (fun _ _ hx => False.elim hx) (fun r227 w1 hw => ?_)
              obtain ⟨rfl, rfl⟩ := hw
              refine gV_sub (ws' := (cW h cI cJ lc la hr uP uC uR tn pn pg pq rl sr gcb gpb tg tm tl pm ps) ++ (yW k cI cJ yg yq ym yw yh yr)) [6, 7, 8, 9, 10, 11, 12, 13, 14, 15, 16, 17, 18, 0, 1, 2, 3, 4, 5] (by decide) rfl rfl ?_
              refine gV_bipush (v := (-71)) C dL_isTold_230 rfl ?_
              refine gV_icmp_ne (tgt := 354) C dL_isTold_232 (by decide) (fun c232 => ?_) (fun c232 => ?_)
              · replace hp := g_iff hp c232
                refine gV_loc [3, 5, 6, 7, 8, 9, 10] rfl ?_
                refine gV_widen (k' := 359) (n' := 2154) (by omega) (by omega) ?_
                exact J354 pn pg pq sr pm ps yw yh hp
              · replace hp := g_ift hp c232
                refine gV_aload_n C dL_isTold_235 rfl 3 rfl ?_
                refine gV_iconst (v := (-1)) C dL_isTold_236 rfl ?_
                obtain ⟨r237q, hq237, hp⟩ := g_ob1 hp
                refine gV_calli C (gsub_cy_c _ _ rfl rfl) (gV_runSX (As := [.ref (h 0), .int (-1)]) (rest := []) C (mt_L_leftAt hl D h cI cJ lc la hr uP uC uR tn pn pg pq rl sr gcb gpb tg tm tl pm ps (-1) r237q hq237) (vx_cwSW 2 C.2.2.2.2.1 gL_isTold_L_leftAt rfl rfl rfl hds_L_leftAt ⟨Nat.le_of_ble_eq_true rfl, Nat.le_of_ble_eq_true rfl⟩) (gsub_cy_c _ _ rfl rfl) rfl rfl (Nat.le_of_ble_eq_true rfl) dL_isTold_237 ⟨(by show _ ≤ 799; omega), (by show _ ≤ 4794; omega)⟩) (fun _ _ hx => False.elim hx) (fun r237 w1 hw => ?_)
                obtain ⟨rfl, rfl⟩ := hw
                refine gV_sub (ws' := (cW h cI cJ lc la hr uP uC uR tn pn pg pq rl sr gcb gpb tg tm tl pm ps) ++ (yW k cI cJ yg yq ym yw yh yr)) [6, 7, 8, 9, 10, 11, 12, 13, 14, 15, 16, 17, 18, 0, 1, 2, 3, 4, 5] (by decide) rfl rfl ?_
                refine gV_bipush (v := (-71)) C dL_isTold_240 rfl ?_
                refine gV_icmp_ne (tgt := 354) C dL_isTold_242 (by decide) (fun c242 => ?_) (fun c242 => ?_)
                · replace hp := g_iff hp c242
                  refine gV_loc [3, 5, 6, 7, 8, 9, 10] rfl ?_
                  refine gV_widen (k' := 359) (n' := 2154) (by omega) (by omega) ?_
                  exact J354 pn pg pq sr pm ps yw yh hp
                · replace hp := g_ift hp c242
                  refine gV_aload_n C dL_isTold_245 rfl 3 rfl ?_
                  obtain ⟨r246q, hq246, hp⟩ := g_ob1 hp
                  refine gV_calli C (gsub_cy_c _ _ rfl rfl) (gV_runV (As := []) (rest := []) C (mt_X3_left hl D h cI cJ lc la hr uP uC uR tn pn pg pq rl sr gcb gpb tg tm tl pm ps r246q hq246) (cwV 0 C.2.2.2.2.1 gL_isTold_X3_left rfl rfl rfl hdv_X3_left ⟨Nat.le_of_ble_eq_true rfl, Nat.le_of_ble_eq_true rfl⟩) (gsub_cy_c _ _ rfl rfl) 0 rfl rfl rfl rfl (Nat.le_of_ble_eq_true rfl) dL_isTold_246 ⟨(by show _ ≤ 799; omega), (by show _ ≤ 4794; omega)⟩) (fun _ _ hx => False.elim hx) (fun r246 w1 hw => ?_)
                  obtain ⟨rfl, rfl⟩ := hw
                  refine gV_sub (ws' := (cW h cI cJ lc la hr uP uC uR tn pn pg pq rl sr gcb gpb tg tm tl pm ps) ++ (yW k cI cJ yg yq ym yw yh yr)) [6, 7, 8, 9, 10, 11, 12, 13, 14, 15, 16, 17, 18, 0, 1, 2, 3, 4, 5] (by decide) rfl rfl ?_
                  refine gV_iload C dL_isTold_249 12 rfl ?_
                  refine gV_icmp_ne (tgt := 354) C dL_isTold_251 (by decide) (fun c251 => ?_) (fun c251 => ?_)
                  · replace hp := g_iff hp c251
                    refine gV_loc [3, 5, 6, 7, 8, 9, 10] rfl ?_
                    refine gV_widen (k' := 359) (n' := 2154) (by omega) (by omega) ?_
                    exact J354 pn pg pq sr pm ps yw yh hp
                  · replace hp := g_ift hp c251
                    refine gV_aload_n C dL_isTold_254 rfl 3 rfl ?_
                    obtain ⟨r255q, hq255, hp⟩ := g_ob1 hp
                    refine gV_calli C (gsub_cy_c _ _ rfl rfl) (gV_runV (As := []) (rest := []) C (mt_X3_leftByAll hl D h cI cJ lc la hr uP uC uR tn pn pg pq rl sr gcb gpb tg tm tl pm ps r255q hq255) (cwV 0 C.2.2.2.2.1 gL_isTold_X3_leftByAll rfl rfl rfl hdv_X3_leftByAll ⟨Nat.le_of_ble_eq_true rfl, Nat.le_of_ble_eq_true rfl⟩) (gsub_cy_c _ _ rfl rfl) 0 rfl rfl rfl rfl (Nat.le_of_ble_eq_true rfl) dL_isTold_255 ⟨(by show _ ≤ 799; omega), (by show _ ≤ 4794; omega)⟩) (fun _ _ hx => False.elim hx) (fun r255 w1 hw => ?_)
                    obtain ⟨rfl, rfl⟩ := hw
                    refine gV_sub (ws' := (cW h cI cJ lc la hr uP uC uR tn pn pg pq rl sr gcb gpb tg tm tl pm ps) ++ (yW k cI cJ yg yq ym yw yh yr)) [6, 7, 8, 9, 10, 11, 12, 13, 14, 15, 16, 17, 18, 0, 1, 2, 3, 4, 5] (by decide) rfl rfl ?_
                    refine gV_iload C dL_isTold_258 12 rfl ?_
                    refine gV_icmp_ne (tgt := 354) C dL_isTold_260 (by decide) (fun c260 => ?_) (fun c260 => ?_)
                    · replace hp := g_iff hp c260
                      refine gV_loc [3, 5, 6, 7, 8, 9, 10] rfl ?_
                      refine gV_widen (k' := 359) (n' := 2154) (by omega) (by omega) ?_
                      exact J354 pn pg pq sr pm ps yw yh hp
                    · replace hp := g_ift hp c260
                      refine gV_aload_n C dL_isTold_263 rfl 3 rfl ?_
                      refine gV_iload C dL_isTold_264 2 rfl ?_
                      refine gV_iload C dL_isTold_266 0 rfl ?_
                      obtain ⟨r268q, hq268, hp⟩ := g_ob1 hp
                      refine gV_calli C (gsub_cy_c _ _ rfl rfl) (gV_runSX (As := [.ref (h 0), .int r163, .int r187]) (rest := []) C (mt_L_colourAt hl D h cI cJ lc la hr uP uC uR tn pn pg pq rl sr gcb gpb tg tm tl pm ps r163 r187 r268q hq268) (vx_cwSW 3 C.2.2.2.2.1 gL_isTold_L_colourAt rfl rfl rfl hds_L_colourAt ⟨Nat.le_of_ble_eq_true rfl, Nat.le_of_ble_eq_true rfl⟩) (gsub_cy_c _ _ rfl rfl) rfl rfl (Nat.le_of_ble_eq_true rfl) dL_isTold_268 ⟨(by show _ ≤ 799; omega), (by show _ ≤ 4794; omega)⟩) (fun _ _ hx => False.elim hx) (fun r268 w1 hw => ?_)
                      obtain ⟨rfl, rfl⟩ := hw
                      refine gV_sub (ws' := (cW h cI cJ lc la hr uP uC uR tn pn pg pq rl sr gcb gpb tg tm tl pm ps) ++ (yW k cI cJ yg yq ym yw yh yr)) [6, 7, 8, 9, 10, 11, 12, 13, 14, 15, 16, 17, 18, 0, 1, 2, 3, 4, 5] (by decide) rfl rfl ?_
                      refine gV_aload_n C dL_isTold_271 rfl 5 rfl ?_
                      refine gV_iload C dL_isTold_272 2 rfl ?_
                      refine gV_iload C dL_isTold_274 0 rfl ?_
                      obtain ⟨r276q, hq276, hp⟩ := g_ob1 hp
                      refine gV_calli C (gsub_cy_y _ _ rfl rfl) (gV_runS (As := [.ref (k 0), .int r163, .int r187]) (rest := [.int r268]) C (mt_L_digit hl D k cI cJ yg yq ym yw yh yr r163 r187 r276q hq276) (va_cwS 3 C.2.2.2.2.1 gL_isTold_L_digit rfl rfl rfl hds_L_digit ⟨Nat.le_of_ble_eq_true rfl, Nat.le_of_ble_eq_true rfl⟩) (gsub_cy_y _ _ rfl rfl) rfl rfl (Nat.le_of_ble_eq_true rfl) dL_isTold_276 ⟨(by show _ ≤ 799; omega), (by show _ ≤ 4794; omega)⟩) (fun _ _ hx => False.elim hx) (fun r276 w1 hw => ?_)
                      obtain ⟨rfl, rfl⟩ := hw
                      refine gV_sub (ws' := (cW h cI cJ lc la hr uP uC uR tn pn pg pq rl sr gcb gpb tg tm tl pm ps) ++ (yW k cI cJ yg yq ym yw yh yr)) [0, 1, 2, 3, 4, 5, 6, 7, 8, 9, 10, 11, 12, 13, 14, 15, 16, 17, 18] (by decide) rfl rfl ?_
                      refine gV_icmp_ne (tgt := 354) C dL_isTold_279 (by decide) (fun c279 => ?_) (fun c279 => ?_)
                      · replace hp := g_iff hp c279
                        refine gV_loc [3, 5, 6, 7, 8, 9, 10] rfl ?_
                        refine gV_widen (k' := 359) (n' := 2154) (by omega) (by omega) ?_
                        exact J354 pn pg pq sr pm ps yw yh hp
                      · replace hp := g_ift hp c279
                        refine gV_aload_n C dL_isTold_282 rfl 3 rfl ?_
                        refine gV_aload_n C dL_isTold_283 rfl 5 rfl ?_
                        refine gV_iconst (v := 2) C dL_isTold_284 rfl ?_
                        obtain ⟨hi285, hp⟩ := g_idx hp
                        refine gV_iald C 13 rfl 0 rfl hi285 dL_isTold_285 ?_
                        refine gV_iconst (v := 0) C dL_isTold_286 rfl ?_
                        obtain ⟨r287q, hq287, hp⟩ := g_ob1 hp
                        refine gV_calli C (gsub_cy_c _ _ rfl rfl) (gV_runSX (As := [.ref (h 0), .int (yg (2 : Int32).toNatClampNeg), .int 0]) (rest := []) C (mt_L_colourAt hl D h cI cJ lc la hr uP uC uR tn pn pg pq rl sr gcb gpb tg tm tl pm ps (yg (2 : Int32).toNatClampNeg) 0 r287q hq287) (vx_cwSW 3 C.2.2.2.2.1 gL_isTold_L_colourAt rfl rfl rfl hds_L_colourAt ⟨Nat.le_of_ble_eq_true rfl, Nat.le_of_ble_eq_true rfl⟩) (gsub_cy_c _ _ rfl rfl) rfl rfl (Nat.le_of_ble_eq_true rfl) dL_isTold_287 ⟨(by show _ ≤ 799; omega), (by show _ ≤ 4794; omega)⟩) (fun _ _ hx => False.elim hx) (fun r287 w1 hw => ?_)
                        obtain ⟨rfl, rfl⟩ := hw
                        refine gV_sub (ws' := (cW h cI cJ lc la hr uP uC uR tn pn pg pq rl sr gcb gpb tg tm tl pm ps) ++ (yW k cI cJ yg yq ym yw yh yr)) [6, 7, 8, 9, 10, 11, 12, 13, 14, 15, 16, 17, 18, 0, 1, 2, 3, 4, 5] (by decide) rfl rfl ?_
                        refine gV_bipush (v := (-71)) C dL_isTold_290 rfl ?_
                        refine gV_icmp_ne (tgt := 354) C dL_isTold_292 (by decide) (fun c292 => ?_) (fun c292 => ?_)
                        · replace hp := g_iff hp c292
                          refine gV_loc [3, 5, 6, 7, 8, 9, 10] rfl ?_
                          refine gV_widen (k' := 359) (n' := 2154) (by omega) (by omega) ?_
                          exact J354 pn pg pq sr pm ps yw yh hp
                        · replace hp := g_ift hp c292
                          refine gV_aload_n C dL_isTold_295 rfl 3 rfl ?_
                          refine gV_iconst (v := 0) C dL_isTold_296 rfl ?_
                          refine gV_aload_n C dL_isTold_297 rfl 5 rfl ?_
                          refine gV_iconst (v := 0) C dL_isTold_298 rfl ?_
                          obtain ⟨hi299, hp⟩ := g_idx hp
                          refine gV_iald C 13 rfl 0 rfl hi299 dL_isTold_299 ?_
                          obtain ⟨r300q, hq300, hp⟩ := g_ob1 hp
                          refine gV_calli C (gsub_cy_c _ _ rfl rfl) (gV_runSX (As := [.ref (h 0), .int 0, .int (yg (0 : Int32).toNatClampNeg)]) (rest := []) C (mt_L_colourAt hl D h cI cJ lc la hr uP uC uR tn pn pg pq rl sr gcb gpb tg tm tl pm ps 0 (yg (0 : Int32).toNatClampNeg) r300q hq300) (vx_cwSW 3 C.2.2.2.2.1 gL_isTold_L_colourAt rfl rfl rfl hds_L_colourAt ⟨Nat.le_of_ble_eq_true rfl, Nat.le_of_ble_eq_true rfl⟩) (gsub_cy_c _ _ rfl rfl) rfl rfl (Nat.le_of_ble_eq_true rfl) dL_isTold_300 ⟨(by show _ ≤ 799; omega), (by show _ ≤ 4794; omega)⟩) (fun _ _ hx => False.elim hx) (fun r300 w1 hw => ?_)
                          obtain ⟨rfl, rfl⟩ := hw
                          refine gV_sub (ws' := (cW h cI cJ lc la hr uP uC uR tn pn pg pq rl sr gcb gpb tg tm tl pm ps) ++ (yW k cI cJ yg yq ym yw yh yr)) [6, 7, 8, 9, 10, 11, 12, 13, 14, 15, 16, 17, 18, 0, 1, 2, 3, 4, 5] (by decide) rfl rfl ?_
                          refine gV_bipush (v := (-71)) C dL_isTold_303 rfl ?_
                          refine gV_icmp_ne (tgt := 354) C dL_isTold_305 (by decide) (fun c305 => ?_) (fun c305 => ?_)
                          · replace hp := g_iff hp c305
                            refine gV_loc [3, 5, 6, 7, 8, 9, 10] rfl ?_
                            refine gV_widen (k' := 359) (n' := 2154) (by omega) (by omega) ?_
                            exact J354 pn pg pq sr pm ps yw yh hp
                          · replace hp := g_ift hp c305
                            refine gV_aload_n C dL_isTold_308 rfl 3 rfl ?_
                            refine gV_iload C dL_isTold_309 2 rfl ?_
                            refine gV_iload C dL_isTold_311 1 rfl ?_
                            obtain ⟨r313q, hq313, hp⟩ := g_ob1 hp
                            refine gV_calli C (gsub_cy_c _ _ rfl rfl) (gV_runSX (As := [.ref (h 0), .int r163, .int r175]) (rest := []) C (mt_L_mark hl D h cI cJ lc la hr uP uC uR tn pn pg pq rl sr gcb gpb tg tm tl pm ps r163 r175 r313q hq313) (vx_cwSW 3 C.2.2.2.2.1 gL_isTold_L_mark rfl rfl rfl hds_L_mark ⟨Nat.le_of_ble_eq_true rfl, Nat.le_of_ble_eq_true rfl⟩) (gsub_cy_c _ _ rfl rfl) rfl rfl (Nat.le_of_ble_eq_true rfl) dL_isTold_313 ⟨(by show _ ≤ 799; omega), (by show _ ≤ 4794; omega)⟩) (fun _ _ hx => False.elim hx) (fun r313 w1 hw => ?_)
                            obtain ⟨rfl, rfl⟩ := hw
                            refine gV_sub (ws' := (cW h cI cJ lc la hr uP uC uR tn pn pg pq rl sr gcb gpb tg tm tl pm ps) ++ (yW k cI cJ yg yq ym yw yh yr)) [6, 7, 8, 9, 10, 11, 12, 13, 14, 15, 16, 17, 18, 0, 1, 2, 3, 4, 5] (by decide) rfl rfl ?_
                            refine gV_aload_n C dL_isTold_316 rfl 5 rfl ?_
                            refine gV_aload_n C dL_isTold_317 rfl 6 rfl ?_
                            refine gV_iload C dL_isTold_318 2 rfl ?_
                            refine gV_iload C dL_isTold_320 1 rfl ?_
                            obtain ⟨r322q, hq322, hp⟩ := g_ob1 hp
                            refine gV_calli C (gsub_cy_y _ _ rfl rfl) (gV_runS (As := [.ref (k 0), .ref (k 5), .int r163, .int r175]) (rest := [.int r313]) C (mt_L_pins hl D k cI cJ yg yq ym yw yh yr r163 r175 r322q hq322) (va_cwS 4 C.2.2.2.2.1 gL_isTold_L_pins rfl rfl rfl hds_L_pins ⟨Nat.le_of_ble_eq_true rfl, Nat.le_of_ble_eq_true rfl⟩) (gsub_cy_y _ _ rfl rfl) rfl rfl (Nat.le_of_ble_eq_true rfl) dL_isTold_322 ⟨(by show _ ≤ 799; omega), (by show _ ≤ 4794; omega)⟩) (fun _ _ hx => False.elim hx) (fun r322 w1 hw => ?_)
                            obtain ⟨rfl, rfl⟩ := hw
                            refine gV_sub (ws' := (cW h cI cJ lc la hr uP uC uR tn pn pg pq rl sr gcb gpb tg tm tl pm ps) ++ (yW k cI cJ yg yq ym yw yh yr)) [0, 1, 2, 3, 4, 5, 6, 7, 8, 9, 10, 11, 12, 13, 14, 15, 16, 17, 18] (by decide) rfl rfl ?_
                            refine gV_icmp_ne (tgt := 354) C dL_isTold_325 (by decide) (fun c325 => ?_) (fun c325 => ?_)
                            · replace hp := g_iff hp c325
                              refine gV_loc [3, 5, 6, 7, 8, 9, 10] rfl ?_
                              refine gV_widen (k' := 359) (n' := 2154) (by omega) (by omega) ?_
                              exact J354 pn pg pq sr pm ps yw yh hp
                            · replace hp := g_ift hp c325
                              refine gV_aload_n C dL_isTold_328 rfl 3 rfl ?_
                              refine gV_iload C dL_isTold_329 2 rfl ?_
                              refine gV_aload_n C dL_isTold_331 rfl 5 rfl ?_
                              refine gV_iconst (v := 2) C dL_isTold_332 rfl ?_
                              obtain ⟨hi333, hp⟩ := g_idx hp
                              refine gV_iald C 13 rfl 0 rfl hi333 dL_isTold_333 ?_
                              obtain ⟨r334q, hq334, hp⟩ := g_ob1 hp
                              refine gV_calli C (gsub_cy_c _ _ rfl rfl) (gV_runSX (As := [.ref (h 0), .int r163, .int (yg (2 : Int32).toNatClampNeg)]) (rest := []) C (mt_L_mark hl D h cI cJ lc la hr uP uC uR tn pn pg pq rl sr gcb gpb tg tm tl pm ps r163 (yg (2 : Int32).toNatClampNeg) r334q hq334) (vx_cwSW 3 C.2.2.2.2.1 gL_isTold_L_mark rfl rfl rfl hds_L_mark ⟨Nat.le_of_ble_eq_true rfl, Nat.le_of_ble_eq_true rfl⟩) (gsub_cy_c _ _ rfl rfl) rfl rfl (Nat.le_of_ble_eq_true rfl) dL_isTold_334 ⟨(by show _ ≤ 799; omega), (by show _ ≤ 4794; omega)⟩) (fun _ _ hx => False.elim hx) (fun r334 w1 hw => ?_)
                              obtain ⟨rfl, rfl⟩ := hw
                              refine gV_sub (ws' := (cW h cI cJ lc la hr uP uC uR tn pn pg pq rl sr gcb gpb tg tm tl pm ps) ++ (yW k cI cJ yg yq ym yw yh yr)) [6, 7, 8, 9, 10, 11, 12, 13, 14, 15, 16, 17, 18, 0, 1, 2, 3, 4, 5] (by decide) rfl rfl ?_
                              refine gV_bipush (v := (-71)) C dL_isTold_337 rfl ?_
                              refine gV_icmp_ne (tgt := 354) C dL_isTold_339 (by decide) (fun c339 => ?_) (fun c339 => ?_)
                              · replace hp := g_iff hp c339
                                refine gV_loc [3, 5, 6, 7, 8, 9, 10] rfl ?_
                                refine gV_widen (k' := 359) (n' := 2154) (by omega) (by omega) ?_
                                exact J354 pn pg pq sr pm ps yw yh hp
                              · replace hp := g_ift hp c339
                                refine gV_aload_n C dL_isTold_342 rfl 3 rfl ?_
                                refine gV_iconst (v := (-1)) C dL_isTold_343 rfl ?_
                                refine gV_iload C dL_isTold_344 2 rfl ?_
                                obtain ⟨r346q, hq346, hp⟩ := g_ob1 hp
                                refine gV_calli C (gsub_cy_c _ _ rfl rfl) (gV_runSX (As := [.ref (h 0), .int (-1), .int r163]) (rest := []) C (mt_L_mark hl D h cI cJ lc la hr uP uC uR tn pn pg pq rl sr gcb gpb tg tm tl pm ps (-1) r163 r346q hq346) (vx_cwSW 3 C.2.2.2.2.1 gL_isTold_L_mark rfl rfl rfl hds_L_mark ⟨Nat.le_of_ble_eq_true rfl, Nat.le_of_ble_eq_true rfl⟩) (gsub_cy_c _ _ rfl rfl) rfl rfl (Nat.le_of_ble_eq_true rfl) dL_isTold_346 ⟨(by show _ ≤ 799; omega), (by show _ ≤ 4794; omega)⟩) (fun _ _ hx => False.elim hx) (fun r346 w1 hw => ?_)
                                obtain ⟨rfl, rfl⟩ := hw
                                refine gV_sub (ws' := (cW h cI cJ lc la hr uP uC uR tn pn pg pq rl sr gcb gpb tg tm tl pm ps) ++ (yW k cI cJ yg yq ym yw yh yr)) [6, 7, 8, 9, 10, 11, 12, 13, 14, 15, 16, 17, 18, 0, 1, 2, 3, 4, 5] (by decide) rfl rfl ?_
                                refine gV_bipush (v := (-71)) C dL_isTold_349 rfl ?_
                                refine gV_icmp_eq (tgt := 356) C dL_isTold_351 (by decide) (fun c351 => ?_) (fun c351 => ?_)
                                · replace hp := g_ift hp c351
                                  refine gV_lload C dL_isTold_356 11 rfl ?_
                                  refine gV_lstore (lvs' := [(14, .long v8), (13, .int r187), (12, .int r175), (11, .int r163), (0, .ref (h 0)), (1, .int v1), (2, .ref (k 0)), (3, .ref (k 5)), (4, .ref (k 1)), (5, .ref (k 2)), (6, .ref (k 3)), (7, .ref (k 4)), (8, .long v8), (10, .int v10)]) C dL_isTold_358 (by decide) rfl ?_
                                  refine gV_iconst (v := 0) C dL_isTold_360 rfl ?_
                                  refine gV_istore (lvs' := [(16, .int 0), (14, .long v8), (13, .int r187), (12, .int r175), (11, .int r163), (0, .ref (h 0)), (1, .int v1), (2, .ref (k 0)), (3, .ref (k 5)), (4, .ref (k 1)), (5, .ref (k 2)), (6, .ref (k 3)), (7, .ref (k 4)), (8, .long v8), (10, .int v10)]) C dL_isTold_361 (by decide) rfl ?_
                                  refine gV_loc [5, 6, 7, 8, 9, 10, 11, 12, 13, 14, 4, 1, 0] rfl ?_
                                  refine gV_widen (k' := (359 + 4 * (70 - 70))) (n' := (2154 + 24 * (70 - 70))) (by omega) (by omega) ?_
                                  exact L363 v8 v10 r163 sr yw yh 70 v8 0 pn pg pq pm ps (Nat.le_refl _) hp
                                · replace hp := g_iff hp c351
                                  refine gV_loc [3, 5, 6, 7, 8, 9, 10] rfl ?_
                                  refine gV_widen (k' := 359) (n' := 2154) (by omega) (by omega) ?_
                                  exact J354 pn pg pq sr pm ps yw yh hp
      · replace hp := g_iff hp c120
        refine gV_aload_n C dL_isTold_123 rfl 0 rfl ?_
        refine gV_iload C dL_isTold_124 10 rfl ?_
        obtain ⟨x126, r126q, hq126, hp⟩ := g_ob2 hp
        refine gV_calli C (gsub_cy_c _ _ rfl rfl) (gV_runV (As := [.int v11]) (rest := []) C (mt_X3_guessOf hl D h cI cJ lc la hr uP uC uR tn pn pg pq rl sr gcb gpb tg tm tl pm ps v11 x126 r126q hq126) (cwV 1 C.2.2.2.2.1 gL_isTold_X3_guessOf rfl rfl rfl hdv_X3_guessOf ⟨Nat.le_of_ble_eq_true rfl, Nat.le_of_ble_eq_true rfl⟩) (gsub_cy_c _ _ rfl rfl) 0 rfl rfl rfl rfl (Nat.le_of_ble_eq_true rfl) dL_isTold_126 ⟨(by show _ ≤ 799; omega), (by show _ ≤ 4794; omega)⟩) (fun E w1 hx => ?_) (fun r126 w1 hw => ?_)
        · obtain ⟨hne, rfl, rfl⟩ := hx
          refine gT_sub (ws' := (cW h cI cJ lc la hr uP uC uR tn pn pg pq rl sr gcb gpb tg tm tl pm ps) ++ (yW k cI cJ yg yq ym yw yh yr)) [6, 7, 8, 9, 10, 11, 12, 13, 14, 15, 16, 17, 18, 0, 1, 2, 3, 4, 5] (by decide) rfl rfl ?_
          replace hp := g_iff hp hne
          exact g_none hp
        · obtain ⟨hx0, rfl, rfl⟩ := hw
          replace hp := g_ift hp hx0
          refine gV_sub (ws' := (cW h cI cJ lc la hr uP uC uR tn pn pg pq rl sr gcb gpb tg tm tl pm ps) ++ (yW k cI cJ yg yq ym yw yh yr)) [6, 7, 8, 9, 10, 11, 12, 13, 14, 15, 16, 17, 18, 0, 1, 2, 3, 4, 5] (by decide) rfl rfl ?_
          refine gV_aload C dL_isTold_129 4 rfl ?_
          refine gV_iload C dL_isTold_131 10 rfl ?_
          obtain ⟨hi133, hp⟩ := g_idx hp
          refine gV_iald C 14 rfl 0 rfl hi133 dL_isTold_133 ?_
          refine gV_icmp_ne (tgt := 151) C dL_isTold_134 (by decide) (fun c134 => ?_) (fun c134 => ?_)
          · replace hp := g_iff hp c134
            refine gV_loc [0, 2, 3, 4, 5, 6, 7] rfl ?_
            refine gV_widen (k' := 352) (n' := 2112) (by omega) (by omega) ?_
            exact J151 pn pg pq sr pm ps yw yh hp
          · replace hp := g_ift hp c134
            refine gV_aload_n C dL_isTold_137 rfl 0 rfl ?_
            refine gV_iload C dL_isTold_138 10 rfl ?_
            obtain ⟨r140q, hq140, hp⟩ := g_ob1 hp
            refine gV_calli C (gsub_cy_c _ _ rfl rfl) (gV_runSX (As := [.ref (h 0), .int v11]) (rest := []) C (mt_L_markOf hl D h cI cJ lc la hr uP uC uR tn pn pg pq rl sr gcb gpb tg tm tl pm ps v11 r140q hq140) (vx_cwSW 2 C.2.2.2.2.1 gL_isTold_L_markOf rfl rfl rfl hds_L_markOf ⟨Nat.le_of_ble_eq_true rfl, Nat.le_of_ble_eq_true rfl⟩) (gsub_cy_c _ _ rfl rfl) rfl rfl (Nat.le_of_ble_eq_true rfl) dL_isTold_140 ⟨(by show _ ≤ 799; omega), (by show _ ≤ 4794; omega)⟩) (fun _ _ hx => False.elim hx) (fun r140 w1 hw => ?_)
            obtain ⟨rfl, rfl⟩ := hw
            refine gV_sub (ws' := (cW h cI cJ lc la hr uP uC uR tn pn pg pq rl sr gcb gpb tg tm tl pm ps) ++ (yW k cI cJ yg yq ym yw yh yr)) [6, 7, 8, 9, 10, 11, 12, 13, 14, 15, 16, 17, 18, 0, 1, 2, 3, 4, 5] (by decide) rfl rfl ?_
            refine gV_aload C dL_isTold_143 5 rfl ?_
            refine gV_iload C dL_isTold_145 10 rfl ?_
            obtain ⟨hi147, hp⟩ := g_idx hp
            refine gV_iald C 15 rfl 0 rfl hi147 dL_isTold_147 ?_
            refine gV_icmp_eq (tgt := 153) C dL_isTold_148 (by decide) (fun c148 => ?_) (fun c148 => ?_)
            · replace hp := g_ift hp c148
              refine gV_iinc (v := (v11 + 1)) (lvs' := [(11, .int (v11 + 1)), (0, .ref (h 0)), (1, .int v1), (2, .ref (k 0)), (3, .ref (k 5)), (4, .ref (k 1)), (5, .ref (k 2)), (6, .ref (k 3)), (7, .ref (k 4)), (8, .long v8), (10, .int v10)]) C dL_isTold_153 10 rfl rfl (by decide) rfl ?_
              refine gV_goto (tgt := 115) C dL_isTold_156 (by decide) ?_
              refine gV_loc [1, 2, 3, 4, 5, 6, 7, 8, 9, 10, 0] rfl ?_
              refine gV_widen (k' := (210 + 2 * (70 - n115))) (n' := (1260 + 12 * (70 - n115))) (by omega) (by omega) ?_
              exact ih115 (v11 + 1) (by omega) hp
            · replace hp := g_iff hp c148
              refine gV_loc [0, 2, 3, 4, 5, 6, 7] rfl ?_
              refine gV_widen (k' := 352) (n' := 2112) (by omega) (by omega) ?_
              exact J151 pn pg pq sr pm ps yw yh hp
  have J61 : ∀ (pn : Int32) (pg : Int32) (pq : Int32) (sr : Nat → Int32) (pm : Nat → Int32) (ps : Nat → Int32) (yw : Nat → Int64) (yh : Nat → Int32), pf_L_isTold_j61 pn pg pq sr pm ps yw yh = (some (r0, pn0, pg0, pq0, sr0, pm0, ps0, yw0, yh0)) → gV p l e rm_L_isTold s m args below meth c A D 21 Q ((cW h cI cJ lc la hr uP uC uR tn pn pg pq rl sr gcb gpb tg tm tl pm ps) ++ (yW k cI cJ yg yq ym yw yh yr)) [(0, .ref (h 0)), (2, .ref (k 0)), (3, .ref (k 5)), (4, .ref (k 1)), (5, .ref (k 2)), (6, .ref (k 3)), (7, .ref (k 4))] 212 1272 61 [] := by
    intro pn pg pq sr pm ps yw yh hp
    unfold pf_L_isTold_j61 at hp
    refine gV_iconst (v := 0) C dL_isTold_61 rfl ?_
    obtain ⟨rfl, rfl, rfl, rfl, rfl, rfl, rfl, rfl, rfl⟩ := g_so9 hp
    exact RET _ _ _ _ _ _ dL_isTold_62 (Nat.le_of_ble_eq_true rfl) (Nat.le_of_ble_eq_true rfl) rfl ⟨rfl, rfl⟩
  have L17 : ∀ (v8 : Int64) (pn : Int32) (pg : Int32) (pq : Int32) (sr : Nat → Int32) (pm : Nat → Int32) (ps : Nat → Int32) (yw : Nat → Int64) (yh : Nat → Int32) (n17 : Nat) (v10 : Int32) (v11 : Int32), n17 ≤ 70 → pf_L_isTold_L17 v1 lc la uP uR tn rl gcb gpb tg tm tl yg yq ym yr v8 pn pg pq sr pm ps yw yh n17 v10 v11 = (some (r0, pn0, pg0, pq0, sr0, pm0, ps0, yw0, yh0)) → gV p l e rm_L_isTold s m args below meth c A D 21 Q ((cW h cI cJ lc la hr uP uC uR tn pn pg pq rl sr gcb gpb tg tm tl pm ps) ++ (yW k cI cJ yg yq ym yw yh yr)) [(0, .ref (h 0)), (1, .int v1), (2, .ref (k 0)), (3, .ref (k 5)), (4, .ref (k 1)), (5, .ref (k 2)), (6, .ref (k 3)), (7, .ref (k 4)), (8, .long v8), (10, .int v10), (11, .int v11)] (0 + 3 * (70 - n17)) (0 + 18 * (70 - n17)) 17 [] := by
    intro v8 pn pg pq sr pm ps yw yh n17
    induction n17 with
    | zero => intro v10 v11 _ hp; exact g_none hp
    | succ n17 ih17 =>
      intro v10 v11 hn17 hp
      rw [pf_L_isTold_L17.eq_2] at hp
      have J103 : ∀ (v11 : Int32) (s0 : Int32) (s1 : Int32), pf_L_isTold_j103 (fun v10 v11 => pf_L_isTold_L17 v1 lc la uP uR tn rl gcb gpb tg tm tl yg yq ym yr v8 pn pg pq sr pm ps yw yh n17 v10 v11) v11 s0 s1 = (some (r0, pn0, pg0, pq0, sr0, pm0, ps0, yw0, yh0)) → gV p l e rm_L_isTold s m args below meth c A D 21 Q ((cW h cI cJ lc la hr uP uC uR tn pn pg pq rl sr gcb gpb tg tm tl pm ps) ++ (yW k cI cJ yg yq ym yw yh yr)) [(0, .ref (h 0)), (1, .int v1), (2, .ref (k 0)), (3, .ref (k 5)), (4, .ref (k 1)), (5, .ref (k 2)), (6, .ref (k 3)), (7, .ref (k 4)), (8, .long v8), (11, .int v11)] (0 + 3 * (70 - (n17 + 1)) + 3) (0 + 18 * (70 - (n17 + 1)) + 18) 103 [.int s0, .int s1] := by
        intro v11 s0 s1 hp
        unfold pf_L_isTold_j103 at hp
        refine gV_iadd C dL_isTold_103 ?_
        refine gV_istore (lvs' := [(10, .int (s1 + s0)), (0, .ref (h 0)), (1, .int v1), (2, .ref (k 0)), (3, .ref (k 5)), (4, .ref (k 1)), (5, .ref (k 2)), (6, .ref (k 3)), (7, .ref (k 4)), (8, .long v8), (11, .int v11)]) C dL_isTold_104 (by decide) rfl ?_
        refine gV_iinc (v := (v11 + 1)) (lvs' := [(11, .int (v11 + 1)), (10, .int (s1 + s0)), (0, .ref (h 0)), (1, .int v1), (2, .ref (k 0)), (3, .ref (k 5)), (4, .ref (k 1)), (5, .ref (k 2)), (6, .ref (k 3)), (7, .ref (k 4)), (8, .long v8)]) C dL_isTold_106 10 rfl rfl (by decide) rfl ?_
        refine gV_goto (tgt := 17) C dL_isTold_109 (by decide) ?_
        refine gV_loc [2, 3, 4, 5, 6, 7, 8, 9, 10, 1, 0] rfl ?_
        refine gV_widen (k' := (0 + 3 * (70 - n17))) (n' := (0 + 18 * (70 - n17))) (by omega) (by omega) ?_
        exact ih17 (s1 + s0) (v11 + 1) (by omega) hp
      have J86 : ∀ (v10 : Int32) (v11 : Int32), pf_L_isTold_j86 v8 (fun v10 v11 => pf_L_isTold_L17 v1 lc la uP uR tn rl gcb gpb tg tm tl yg yq ym yr v8 pn pg pq sr pm ps yw yh n17 v10 v11) v10 v11 = (some (r0, pn0, pg0, pq0, sr0, pm0, ps0, yw0, yh0)) → gV p l e rm_L_isTold s m args below meth c A D 21 Q ((cW h cI cJ lc la hr uP uC uR tn pn pg pq rl sr gcb gpb tg tm tl pm ps) ++ (yW k cI cJ yg yq ym yw yh yr)) [(0, .ref (h 0)), (1, .int v1), (2, .ref (k 0)), (3, .ref (k 5)), (4, .ref (k 1)), (5, .ref (k 2)), (6, .ref (k 3)), (7, .ref (k 4)), (8, .long v8), (10, .int v10), (11, .int v11)] (0 + 3 * (70 - (n17 + 1)) + 3) (0 + 18 * (70 - (n17 + 1)) + 18) 86 [] := by
        intro v10 v11 hp
        unfold pf_L_isTold_j86 at hp
        refine gV_iload C dL_isTold_86 9 rfl ?_
        refine gV_lload C dL_isTold_88 8 rfl ?_
        refine gV_iload C dL_isTold_90 10 rfl ?_
        obtain ⟨r92q, hq92, hp⟩ := g_ob1 hp
        refine gV_calliE C (gV_runS (As := [.long v8, .int v11]) (rest := [.int v10]) C (mt_L_has hl D cI cJ v8 v11 r92q hq92) (va_cwS 2 C.2.2.2.2.1 gL_isTold_L_has rfl rfl rfl hds_L_has ⟨Nat.le_of_ble_eq_true rfl, Nat.le_of_ble_eq_true rfl⟩) (gSub_E _) rfl rfl (Nat.le_of_ble_eq_true rfl) dL_isTold_92 ⟨(by show _ ≤ 799; omega), (by show _ ≤ 4794; omega)⟩) (fun _ _ hx => False.elim hx) (fun r92 w1 hw => ?_)
        obtain ⟨rfl, rfl⟩ := hw
        refine ⟨rfl, ?_⟩
        refine gV_if_eq (tgt := 102) C dL_isTold_95 (by decide) (fun c95 => ?_) (fun c95 => ?_)
        · replace hp := g_ift hp c95
          refine gV_iconst (v := 0) C dL_isTold_102 rfl ?_
          refine gV_loc [0, 1, 2, 3, 4, 5, 6, 7, 8, 10] rfl ?_
          exact J103 v11 0 v10 hp
        · replace hp := g_iff hp c95
          refine gV_iconst (v := 1) C dL_isTold_98 rfl ?_
          refine gV_goto (tgt := 103) C dL_isTold_99 (by decide) ?_
          refine gV_loc [0, 1, 2, 3, 4, 5, 6, 7, 8, 10] rfl ?_
          exact J103 v11 1 v10 hp
      refine gV_iload C dL_isTold_17 10 rfl ?_
      refine gV_aload_n C dL_isTold_19 rfl 2 rfl ?_
      refine gV_iconst (v := 2) C dL_isTold_20 rfl ?_
      obtain ⟨hi21, hp⟩ := g_idx hp
      refine gV_iald C 13 rfl 0 rfl hi21 dL_isTold_21 ?_
      refine gV_icmp_ge (tgt := 112) C dL_isTold_22 (by decide) (fun c22 => ?_) (fun c22 => ?_)
      · replace hp := g_ift hp c22
        refine gV_iconst (v := 0) C dL_isTold_112 rfl ?_
        refine gV_istore (lvs' := [(11, .int 0), (0, .ref (h 0)), (1, .int v1), (2, .ref (k 0)), (3, .ref (k 5)), (4, .ref (k 1)), (5, .ref (k 2)), (6, .ref (k 3)), (7, .ref (k 4)), (8, .long v8), (10, .int v10)]) C dL_isTold_113 (by decide) rfl ?_
        refine gV_loc [1, 2, 3, 4, 5, 6, 7, 8, 9, 10, 0] rfl ?_
        refine gV_widen (k' := (210 + 2 * (70 - 70))) (n' := (1260 + 12 * (70 - 70))) (by omega) (by omega) ?_
        exact L115 v8 v10 pn pg pq sr pm ps yw yh 70 0 (Nat.le_refl _) hp
      · replace hp := g_iff hp c22
        refine gV_aload_n C dL_isTold_25 rfl 0 rfl ?_
        refine gV_iload C dL_isTold_26 10 rfl ?_
        obtain ⟨x28, r28q, hq28, hp⟩ := g_ob2 hp
        refine gV_calli C (gsub_cy_c _ _ rfl rfl) (gV_runV (As := [.int v11]) (rest := []) C (mt_X3_isLeft hl D h cI cJ lc la hr uP uC uR tn pn pg pq rl sr gcb gpb tg tm tl pm ps v11 x28 r28q hq28) (cwV 1 C.2.2.2.2.1 gL_isTold_X3_isLeft rfl rfl rfl hdv_X3_isLeft ⟨Nat.le_of_ble_eq_true rfl, Nat.le_of_ble_eq_true rfl⟩) (gsub_cy_c _ _ rfl rfl) 0 rfl rfl rfl rfl (Nat.le_of_ble_eq_true rfl) dL_isTold_28 ⟨(by show _ ≤ 799; omega), (by show _ ≤ 4794; omega)⟩) (fun E w1 hx => ?_) (fun r28 w1 hw => ?_)
        · obtain ⟨hne, rfl, rfl⟩ := hx
          refine gT_sub (ws' := (cW h cI cJ lc la hr uP uC uR tn pn pg pq rl sr gcb gpb tg tm tl pm ps) ++ (yW k cI cJ yg yq ym yw yh yr)) [6, 7, 8, 9, 10, 11, 12, 13, 14, 15, 16, 17, 18, 0, 1, 2, 3, 4, 5] (by decide) rfl rfl ?_
          replace hp := g_iff hp hne
          exact g_none hp
        · obtain ⟨hx0, rfl, rfl⟩ := hw
          replace hp := g_ift hp hx0
          refine gV_sub (ws' := (cW h cI cJ lc la hr uP uC uR tn pn pg pq rl sr gcb gpb tg tm tl pm ps) ++ (yW k cI cJ yg yq ym yw yh yr)) [6, 7, 8, 9, 10, 11, 12, 13, 14, 15, 16, 17, 18, 0, 1, 2, 3, 4, 5] (by decide) rfl rfl ?_
          refine gV_lload C dL_isTold_31 8 rfl ?_
          refine gV_iload C dL_isTold_33 10 rfl ?_
          obtain ⟨r35q, hq35, hp⟩ := g_ob1 hp
          refine gV_calliE C (gV_runS (As := [.long v8, .int v11]) (rest := [.int r28]) C (mt_L_has hl D cI cJ v8 v11 r35q hq35) (va_cwS 2 C.2.2.2.2.1 gL_isTold_L_has rfl rfl rfl hds_L_has ⟨Nat.le_of_ble_eq_true rfl, Nat.le_of_ble_eq_true rfl⟩) (gSub_E _) rfl rfl (Nat.le_of_ble_eq_true rfl) dL_isTold_35 ⟨(by show _ ≤ 799; omega), (by show _ ≤ 4794; omega)⟩) (fun _ _ hx => False.elim hx) (fun r35 w1 hw => ?_)
          obtain ⟨rfl, rfl⟩ := hw
          refine ⟨rfl, ?_⟩
          refine gV_icmp_ne (tgt := 61) C dL_isTold_38 (by decide) (fun c38 => ?_) (fun c38 => ?_)
          · replace hp := g_iff hp c38
            refine gV_loc [0, 2, 3, 4, 5, 6, 7] rfl ?_
            refine gV_widen (k' := 212) (n' := 1272) (by omega) (by omega) ?_
            exact J61 pn pg pq sr pm ps yw yh hp
          · replace hp := g_ift hp c38
            refine gV_aload_n C dL_isTold_41 rfl 0 rfl ?_
            refine gV_iload C dL_isTold_42 10 rfl ?_
            obtain ⟨x44, r44q, hq44, hp⟩ := g_ob2 hp
            refine gV_calli C (gsub_cy_c _ _ rfl rfl) (gV_runV (As := [.int v11]) (rest := []) C (mt_X3_liesAbout hl D h cI cJ lc la hr uP uC uR tn pn pg pq rl sr gcb gpb tg tm tl pm ps v11 x44 r44q hq44) (cwV 1 C.2.2.2.2.1 gL_isTold_X3_liesAbout rfl rfl rfl hdv_X3_liesAbout ⟨Nat.le_of_ble_eq_true rfl, Nat.le_of_ble_eq_true rfl⟩) (gsub_cy_c _ _ rfl rfl) 0 rfl rfl rfl rfl (Nat.le_of_ble_eq_true rfl) dL_isTold_44 ⟨(by show _ ≤ 799; omega), (by show _ ≤ 4794; omega)⟩) (fun E w1 hx => ?_) (fun r44 w1 hw => ?_)
            · obtain ⟨hne, rfl, rfl⟩ := hx
              refine gT_sub (ws' := (cW h cI cJ lc la hr uP uC uR tn pn pg pq rl sr gcb gpb tg tm tl pm ps) ++ (yW k cI cJ yg yq ym yw yh yr)) [6, 7, 8, 9, 10, 11, 12, 13, 14, 15, 16, 17, 18, 0, 1, 2, 3, 4, 5] (by decide) rfl rfl ?_
              replace hp := g_iff hp hne
              exact g_none hp
            · obtain ⟨hx0, rfl, rfl⟩ := hw
              replace hp := g_ift hp hx0
              refine gV_sub (ws' := (cW h cI cJ lc la hr uP uC uR tn pn pg pq rl sr gcb gpb tg tm tl pm ps) ++ (yW k cI cJ yg yq ym yw yh yr)) [6, 7, 8, 9, 10, 11, 12, 13, 14, 15, 16, 17, 18, 0, 1, 2, 3, 4, 5] (by decide) rfl rfl ?_
              refine gV_aload_n C dL_isTold_47 rfl 2 rfl ?_
              refine gV_aload_n C dL_isTold_48 rfl 3 rfl ?_
              refine gV_aload C dL_isTold_49 4 rfl ?_
              refine gV_aload C dL_isTold_51 5 rfl ?_
              refine gV_iload C dL_isTold_53 10 rfl ?_
              obtain ⟨r55q, hq55, hp⟩ := g_ob1 hp
              refine gV_calli C (gsub_cy_y _ _ rfl rfl) (gV_runS (As := [.ref (k 0), .ref (k 5), .ref (k 1), .ref (k 2), .int v11]) (rest := [.int r44]) C (mt_L_lies hl D k cI cJ yg yq ym yw yh yr v11 r55q hq55) (va_cwS 5 C.2.2.2.2.1 gL_isTold_L_lies rfl rfl rfl hds_L_lies ⟨Nat.le_of_ble_eq_true rfl, Nat.le_of_ble_eq_true rfl⟩) (gsub_cy_y _ _ rfl rfl) rfl rfl (Nat.le_of_ble_eq_true rfl) dL_isTold_55 ⟨(by show _ ≤ 799; omega), (by show _ ≤ 4794; omega)⟩) (fun _ _ hx => False.elim hx) (fun r55 w1 hw => ?_)
              obtain ⟨rfl, rfl⟩ := hw
              refine gV_sub (ws' := (cW h cI cJ lc la hr uP uC uR tn pn pg pq rl sr gcb gpb tg tm tl pm ps) ++ (yW k cI cJ yg yq ym yw yh yr)) [0, 1, 2, 3, 4, 5, 6, 7, 8, 9, 10, 11, 12, 13, 14, 15, 16, 17, 18] (by decide) rfl rfl ?_
              refine gV_icmp_eq (tgt := 63) C dL_isTold_58 (by decide) (fun c58 => ?_) (fun c58 => ?_)
              · replace hp := g_ift hp c58
                refine gV_lload C dL_isTold_63 8 rfl ?_
                refine gV_iload C dL_isTold_65 10 rfl ?_
                obtain ⟨r67q, hq67, hp⟩ := g_ob1 hp
                refine gV_calliE C (gV_runS (As := [.long v8, .int v11]) (rest := []) C (mt_L_has hl D cI cJ v8 v11 r67q hq67) (va_cwS 2 C.2.2.2.2.1 gL_isTold_L_has rfl rfl rfl hds_L_has ⟨Nat.le_of_ble_eq_true rfl, Nat.le_of_ble_eq_true rfl⟩) (gSub_E _) rfl rfl (Nat.le_of_ble_eq_true rfl) dL_isTold_67 ⟨(by show _ ≤ 799; omega), (by show _ ≤ 4794; omega)⟩) (fun _ _ hx => False.elim hx) (fun r67 w1 hw => ?_)
                obtain ⟨rfl, rfl⟩ := hw
                refine ⟨rfl, ?_⟩
                refine gV_if_eq (tgt := 86) C dL_isTold_70 (by decide) (fun c70 => ?_) (fun c70 => ?_)
                · replace hp := g_ift hp c70
                  refine gV_widen (k' := (0 + 3 * (70 - (n17 + 1)) + 3)) (n' := (0 + 18 * (70 - (n17 + 1)) + 18)) (by omega) (by omega) ?_
                  exact J86 v10 v11 hp
                · replace hp := g_iff hp c70
                  refine gV_aload_n C dL_isTold_73 rfl 0 rfl ?_
                  refine gV_iload C dL_isTold_74 9 rfl ?_
                  obtain ⟨r76q, hq76, hp⟩ := g_ob1 hp
                  refine gV_calli C (gsub_cy_c _ _ rfl rfl) (gV_runSX (As := [.ref (h 0), .int v10]) (rest := []) C (mt_L_leftAt hl D h cI cJ lc la hr uP uC uR tn pn pg pq rl sr gcb gpb tg tm tl pm ps v10 r76q hq76) (vx_cwSW 2 C.2.2.2.2.1 gL_isTold_L_leftAt rfl rfl rfl hds_L_leftAt ⟨Nat.le_of_ble_eq_true rfl, Nat.le_of_ble_eq_true rfl⟩) (gsub_cy_c _ _ rfl rfl) rfl rfl (Nat.le_of_ble_eq_true rfl) dL_isTold_76 ⟨(by show _ ≤ 799; omega), (by show _ ≤ 4794; omega)⟩) (fun _ _ hx => False.elim hx) (fun r76 w1 hw => ?_)
                  obtain ⟨rfl, rfl⟩ := hw
                  refine gV_sub (ws' := (cW h cI cJ lc la hr uP uC uR tn pn pg pq rl sr gcb gpb tg tm tl pm ps) ++ (yW k cI cJ yg yq ym yw yh yr)) [6, 7, 8, 9, 10, 11, 12, 13, 14, 15, 16, 17, 18, 0, 1, 2, 3, 4, 5] (by decide) rfl rfl ?_
                  refine gV_iload C dL_isTold_79 10 rfl ?_
                  refine gV_icmp_eq (tgt := 86) C dL_isTold_81 (by decide) (fun c81 => ?_) (fun c81 => ?_)
                  · replace hp := g_ift hp c81
                    exact J86 v10 v11 hp
                  · replace hp := g_iff hp c81
                    refine gV_iconst (v := 0) C dL_isTold_84 rfl ?_
                    obtain ⟨rfl, rfl, rfl, rfl, rfl, rfl, rfl, rfl, rfl⟩ := g_so9 hp
                    exact RET _ _ _ _ _ _ dL_isTold_85 (by omega) (by omega) rfl ⟨rfl, rfl⟩
              · replace hp := g_iff hp c58
                refine gV_loc [0, 2, 3, 4, 5, 6, 7] rfl ?_
                refine gV_widen (k' := 212) (n' := 1272) (by omega) (by omega) ?_
                exact J61 pn pg pq sr pm ps yw yh hp
  refine gV_aload_n C dL_isTold_0 rfl 2 rfl ?_
  refine gV_aload_n C dL_isTold_1 rfl 3 rfl ?_
  refine gV_aload C dL_isTold_2 4 rfl ?_
  refine gV_aload C dL_isTold_4 5 rfl ?_
  obtain ⟨r6q, hq6, hp⟩ := g_ob1 hp
  refine gV_calll C (gsub_cy_y _ _ rfl rfl) (gV_runS (As := [.ref (k 0), .ref (k 5), .ref (k 1), .ref (k 2)]) (rest := []) C (mt_L_left hl D k cI cJ yg yq ym yw yh yr r6q hq6) (va_cwS 4 C.2.2.2.2.1 gL_isTold_L_left rfl rfl rfl hds_L_left ⟨Nat.le_of_ble_eq_true rfl, Nat.le_of_ble_eq_true rfl⟩) (gsub_cy_y _ _ rfl rfl) rfl rfl (Nat.le_of_ble_eq_true rfl) dL_isTold_6 ⟨Nat.le_of_ble_eq_true rfl, Nat.le_of_ble_eq_true rfl⟩) (fun _ _ hx => False.elim hx) (fun r6 w1 hw => ?_)
  obtain ⟨rfl, rfl⟩ := hw
  refine gV_sub (ws' := (cW h cI cJ lc la hr uP uC uR tn pn pg pq rl sr gcb gpb tg tm tl pm ps) ++ (yW k cI cJ yg yq ym yw yh yr)) [0, 1, 2, 3, 4, 5, 6, 7, 8, 9, 10, 11, 12, 13, 14, 15, 16, 17, 18] (by decide) rfl rfl ?_
  refine gV_lstore (lvs' := [(8, .long r6), (0, .ref (h 0)), (1, .int v1), (2, .ref (k 0)), (3, .ref (k 5)), (4, .ref (k 1)), (5, .ref (k 2)), (6, .ref (k 3)), (7, .ref (k 4))]) C dL_isTold_9 (by decide) rfl ?_
  refine gV_iconst (v := 0) C dL_isTold_11 rfl ?_
  refine gV_istore (lvs' := [(10, .int 0), (8, .long r6), (0, .ref (h 0)), (1, .int v1), (2, .ref (k 0)), (3, .ref (k 5)), (4, .ref (k 1)), (5, .ref (k 2)), (6, .ref (k 3)), (7, .ref (k 4))]) C dL_isTold_12 (by decide) rfl ?_
  refine gV_iconst (v := 0) C dL_isTold_14 rfl ?_
  refine gV_istore (lvs' := [(11, .int 0), (10, .int 0), (8, .long r6), (0, .ref (h 0)), (1, .int v1), (2, .ref (k 0)), (3, .ref (k 5)), (4, .ref (k 1)), (5, .ref (k 2)), (6, .ref (k 3)), (7, .ref (k 4))]) C dL_isTold_15 (by decide) rfl ?_
  refine gV_loc [3, 4, 5, 6, 7, 8, 9, 10, 2, 1, 0] rfl ?_
  refine gV_widen (k' := (0 + 3 * (70 - 70))) (n' := (0 + 18 * (70 - 70))) (by omega) (by omega) ?_
  exact L17 r6 pn pg pq sr pm ps yw yh 70 0 0 (Nat.le_refl _) hp

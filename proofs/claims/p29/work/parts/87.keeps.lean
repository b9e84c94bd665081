abbrev rm_L_keeps : Room := { frames := 9, cells := 9, slots := 54, locals := 174 }
theorem hds_L_allowLies : yL_allowLies.cls ≠ "java/lang/invoke/MethodHandle" ∧ yL_allowLies.cls ≠ "java/lang/invoke/VarHandle" ∧ (parseMethodDescriptor yL_allowLies.desc).map (fun d => d.parameters.length) = some 2 := by decide +kernel
theorem hds_L_begin : yL_begin.cls ≠ "java/lang/invoke/MethodHandle" ∧ yL_begin.cls ≠ "java/lang/invoke/VarHandle" ∧ (parseMethodDescriptor yL_begin.desc).map (fun d => d.parameters.length) = some 3 := by decide +kernel
theorem hds_L_guess : yL_guess.cls ≠ "java/lang/invoke/MethodHandle" ∧ yL_guess.cls ≠ "java/lang/invoke/VarHandle" ∧ (parseMethodDescriptor yL_guess.desc).map (fun d => d.parameters.length) = some 2 := by decide +kernel
theorem hds_L_hide : yL_hide.cls ≠ "java/lang/invoke/MethodHandle" ∧ yL_hide.cls ≠ "java/lang/invoke/VarHandle" ∧ (parseMethodDescriptor yL_hide.desc).map (fun d => d.parameters.length) = some 2 := by decide +kernel
theorem hds_L_isPossible : yL_isPossible.cls ≠ "java/lang/invoke/MethodHandle" ∧ yL_isPossible.cls ≠ "java/lang/invoke/VarHandle" ∧ (parseMethodDescriptor yL_isPossible.desc).map (fun d => d.parameters.length) = some 2 := by decide +kernel
theorem hds_L_lay : yL_lay.cls ≠ "java/lang/invoke/MethodHandle" ∧ yL_lay.cls ≠ "java/lang/invoke/VarHandle" ∧ (parseMethodDescriptor yL_lay.desc).map (fun d => d.parameters.length) = some 2 := by decide +kernel
theorem hds_L_left : yL_left.cls ≠ "java/lang/invoke/MethodHandle" ∧ yL_left.cls ≠ "java/lang/invoke/VarHandle" ∧ (parseMethodDescriptor yL_left.desc).map (fun d => d.parameters.length) = some 4 := by decide +kernel
theorem hds_L_low : yL_low.cls ≠ "java/lang/invoke/MethodHandle" ∧ yL_low.cls ≠ "java/lang/invoke/VarHandle" ∧ (parseMethodDescriptor yL_low.desc).map (fun d => d.parameters.length) = some 2 := by decide +kernel
theorem hds_L_partSize : yL_partSize.cls ≠ "java/lang/invoke/MethodHandle" ∧ yL_partSize.cls ≠ "java/lang/invoke/VarHandle" ∧ (parseMethodDescriptor yL_partSize.desc).map (fun d => d.parameters.length) = some 3 := by decide +kernel
theorem hds_L_takeBack : yL_takeBack.cls ≠ "java/lang/invoke/MethodHandle" ∧ yL_takeBack.cls ≠ "java/lang/invoke/VarHandle" ∧ (parseMethodDescriptor yL_takeBack.desc).map (fun d => d.parameters.length) = some 1 := by decide +kernel
theorem hds_L_tell : yL_tell.cls ≠ "java/lang/invoke/MethodHandle" ∧ yL_tell.cls ≠ "java/lang/invoke/VarHandle" ∧ (parseMethodDescriptor yL_tell.desc).map (fun d => d.parameters.length) = some 3 := by decide +kernel
theorem hdv_X3_rows : yX3_rows.cls = RX3 ∧ yX3_rows.cls ≠ "java/lang/invoke/MethodHandle" ∧ yX3_rows.cls ≠ "java/lang/invoke/VarHandle" ∧ (parseMethodDescriptor yX3_rows.desc).map (fun d => d.parameters.length) = some 0 := by decide +kernel
set_option maxHeartbeats 4000000 in
set_option maxRecDepth 100000 in
theorem mt_L_keeps {l : Launch} (hl : l.stackTraces = false) (D : va_G) (h : Nat → Nat) (k : Nat → Nat) (cI cJ : ClassId) (lc : Int32) (la : Int32) (hr : Int32) (uP : Int32) (uC : Int32) (uR : Int32) (tn : Int32) (pn : Int32) (pg : Int32) (pq : Int32) (rl : Nat → Int32) (sr : Nat → Int32) (gcb : Nat → Int32) (gpb : Nat → Int64) (tg : Nat → Int32) (tm : Nat → Int32) (tl : Nat → Int32) (pm : Nat → Int32) (ps : Nat → Int32) (yg : Nat → Int32) (yq : Nat → Int32) (ym : Nat → Int32) (yw : Nat → Int64) (yh : Nat → Int32) (yr : Nat → Int64) (v1 : Int32) (v2 : Int32) (r0 : Int32) (lc0 : Int32) (la0 : Int32) (hr0 : Int32) (uP0 : Int32) (uC0 : Int32) (uR0 : Int32) (tn0 : Int32) (pn0 : Int32) (pg0 : Int32) (pq0 : Int32) (rl0 : Nat → Int32) (gcb0 : Nat → Int32) (gpb0 : Nat → Int64) (tg0 : Nat → Int32) (tm0 : Nat → Int32) (tl0 : Nat → Int32) (pm0 : Nat → Int32) (ps0 : Nat → Int32) (yg0 : Nat → Int32) (yq0 : Nat → Int32) (ym0 : Nat → Int32) (yr0 : Nat → Int64) (hp : pf_L_keeps lc la hr uP uC uR tn pn pg pq rl gcb gpb tg tm tl pm ps yg yq ym yr v1 v2 = (some (r0, lc0, la0, hr0, uP0, uC0, uR0, tn0, pn0, pg0, pq0, rl0, gcb0, gpb0, tg0, tm0, tl0, pm0, ps0, yg0, yq0, ym0, yr0))) : gMi l yL_keeps wsL_keeps rm_L_keeps D [(cI, .int), (cJ, .long)] ((cW h cI cJ lc la hr uP uC uR tn pn pg pq rl sr gcb gpb tg tm tl pm ps) ++ (yW k cI cJ yg yq ym yw yh yr)) [.ref (h 0), .int v1, .int v2, .ref (k 0), .ref (k 5), .ref (k 1), .ref (k 2)] 9 54 (fun r w => r = r0 ∧ w = (cW h cI cJ lc0 la0 hr0 uP0 uC0 uR0 tn0 pn0 pg0 pq0 rl0 sr gcb0 gpb0 tg0 tm0 tl0 pm0 ps0) ++ (yW k cI cJ yg0 yq0 ym0 yw yh yr0)) (fun _ _ => False) := by
  refine gMi_of (cc := cL_keeps) (maxL := 13) (rt := .boolean) hl (by decide +kernel) rfl (Nat.le_of_ble_eq_true rfl) ?_
  intro p e s m args below meth c A Q C hnm ht RET OUT THR THRW
  have C : gC p l s m args meth c A D [(cI, .int), (cJ, .long)] 13 RL cL_keeps wsL_keeps := C
  refine gV_loc (lvs' := [(0, .ref (h 0)), (1, .int v1), (2, .int v2), (3, .ref (k 0)), (4, .ref (k 5)), (5, .ref (k 1)), (6, .ref (k 2))]) [0, 1, 2, 3, 4, 5, 6] rfl ?_
  unfold pf_L_keeps at hp
  have J1014 : ∀ (s0 : Int32) (lc : Int32) (la : Int32) (hr : Int32) (uP : Int32) (uC : Int32) (uR : Int32) (tn : Int32) (pn : Int32) (pg : Int32) (pq : Int32) (rl : Nat → Int32) (gcb : Nat → Int32) (gpb : Nat → Int64) (tg : Nat → Int32) (tm : Nat → Int32) (tl : Nat → Int32) (pm : Nat → Int32) (ps : Nat → Int32) (yg : Nat → Int32) (yq : Nat → Int32) (ym : Nat → Int32) (yr : Nat → Int64), pf_L_keeps_j1014 s0 lc la hr uP uC uR tn pn pg pq rl gcb gpb tg tm tl pm ps yg yq ym yr = (some (r0, lc0, la0, hr0, uP0, uC0, uR0, tn0, pn0, pg0, pq0, rl0, gcb0, gpb0, tg0, tm0, tl0, pm0, ps0, yg0, yq0, ym0, yr0)) → gV p l e rm_L_keeps s m args below meth c A D 13 Q ((cW h cI cJ lc la hr uP uC uR tn pn pg pq rl sr gcb gpb tg tm tl pm ps) ++ (yW k cI cJ yg yq ym yw yh yr)) [(0, .ref (h 0)), (3, .ref (k 0)), (4, .ref (k 5)), (5, .ref (k 1)), (6, .ref (k 2))] 1 6 1014 [.int s0] := by
    intro s0 lc la hr uP uC uR tn pn pg pq rl gcb gpb tg tm tl pm ps yg yq ym yr hp
    unfold pf_L_keeps_j1014 at hp
    obtain ⟨hz1014, hp⟩ := g_bool hp
    obtain ⟨rfl, rfl, rfl, rfl, rfl, rfl, rfl, rfl, rfl, rfl, rfl, rfl, rfl, rfl, rfl, rfl, rfl, rfl, rfl, rfl, rfl, rfl, rfl⟩ := g_so23 hp
    exact RET _ _ _ _ _ _ dL_keeps_1014 (Nat.le_of_ble_eq_true rfl) (Nat.le_of_ble_eq_true rfl) (g_nz hz1014) ⟨rfl, rfl⟩
  have J981 : ∀ (s0 : Int32) (lc : Int32) (la : Int32) (hr : Int32) (uP : Int32) (uC : Int32) (uR : Int32) (tn : Int32) (pn : Int32) (pg : Int32) (pq : Int32) (rl : Nat → Int32) (gcb : Nat → Int32) (gpb : Nat → Int64) (tg : Nat → Int32) (tm : Nat → Int32) (tl : Nat → Int32) (pm : Nat → Int32) (ps : Nat → Int32) (yg : Nat → Int32) (yq : Nat → Int32) (ym : Nat → Int32) (yr : Nat → Int64), pf_L_keeps_j981 s0 lc la hr uP uC uR tn pn pg pq rl gcb gpb tg tm tl pm ps yg yq ym yr = (some (r0, lc0, la0, hr0, uP0, uC0, uR0, tn0, pn0, pg0, pq0, rl0, gcb0, gpb0, tg0, tm0, tl0, pm0, ps0, yg0, yq0, ym0, yr0)) → gV p l e rm_L_keeps s m args below meth c A D 13 Q ((cW h cI cJ lc la hr uP uC uR tn pn pg pq rl sr gcb gpb tg tm tl pm ps) ++ (yW k cI cJ yg yq ym yw yh yr)) [(0, .ref (h 0)), (3, .ref (k 0)), (4, .ref (k 5)), (5, .ref (k 1)), (6, .ref (k 2))] 1 6 981 [.int s0] := by
    intro s0 lc la hr uP uC uR tn pn pg pq rl gcb gpb tg tm tl pm ps yg yq ym yr hp
    unfold pf_L_keeps_j981 at hp
    obtain ⟨hz981, hp⟩ := g_bool hp
    obtain ⟨rfl, rfl, rfl, rfl, rfl, rfl, rfl, rfl, rfl, rfl, rfl, rfl, rfl, rfl, rfl, rfl, rfl, rfl, rfl, rfl, rfl, rfl, rfl⟩ := g_so23 hp
    exact RET _ _ _ _ _ _ dL_keeps_981 (Nat.le_of_ble_eq_true rfl) (Nat.le_of_ble_eq_true rfl) (g_nz hz981) ⟨rfl, rfl⟩
  have J960 : ∀ (s0 : Int32) (lc : Int32) (la : Int32) (hr : Int32) (uP : Int32) (uC : Int32) (uR : Int32) (tn : Int32) (pn : Int32) (pg : Int32) (pq : Int32) (rl : Nat → Int32) (gcb : Nat → Int32) (gpb : Nat → Int64) (tg : Nat → Int32) (tm : Nat → Int32) (tl : Nat → Int32) (pm : Nat → Int32) (ps : Nat → Int32) (yg : Nat → Int32) (yq : Nat → Int32) (ym : Nat → Int32) (yr : Nat → Int64), pf_L_keeps_j960 s0 lc la hr uP uC uR tn pn pg pq rl gcb gpb tg tm tl pm ps yg yq ym yr = (some (r0, lc0, la0, hr0, uP0, uC0, uR0, tn0, pn0, pg0, pq0, rl0, gcb0, gpb0, tg0, tm0, tl0, pm0, ps0, yg0, yq0, ym0, yr0)) → gV p l e rm_L_keeps s m args below meth c A D 13 Q ((cW h cI cJ lc la hr uP uC uR tn pn pg pq rl sr gcb gpb tg tm tl pm ps) ++ (yW k cI cJ yg yq ym yw yh yr)) [(0, .ref (h 0)), (3, .ref (k 0)), (4, .ref (k 5)), (5, .ref (k 1)), (6, .ref (k 2))] 3 18 960 [.int s0] := by
    intro s0 lc la hr uP uC uR tn pn pg pq rl gcb gpb tg tm tl pm ps yg yq ym yr hp
    unfold pf_L_keeps_j960 at hp
    obtain ⟨hz960, hp⟩ := g_bool hp
    obtain ⟨rfl, rfl, rfl, rfl, rfl, rfl, rfl, rfl, rfl, rfl, rfl, rfl, rfl, rfl, rfl, rfl, rfl, rfl, rfl, rfl, rfl, rfl, rfl⟩ := g_so23 hp
    exact RET _ _ _ _ _ _ dL_keeps_960 (Nat.le_of_ble_eq_true rfl) (Nat.le_of_ble_eq_true rfl) (g_nz hz960) ⟨rfl, rfl⟩
  have J907 : ∀ (s0 : Int32) (lc : Int32) (la : Int32) (hr : Int32) (uP : Int32) (uC : Int32) (uR : Int32) (tn : Int32) (pn : Int32) (pg : Int32) (pq : Int32) (rl : Nat → Int32) (gcb : Nat → Int32) (gpb : Nat → Int64) (tg : Nat → Int32) (tm : Nat → Int32) (tl : Nat → Int32) (pm : Nat → Int32) (ps : Nat → Int32) (yg : Nat → Int32) (yq : Nat → Int32) (ym : Nat → Int32) (yr : Nat → Int64), pf_L_keeps_j907 s0 lc la hr uP uC uR tn pn pg pq rl gcb gpb tg tm tl pm ps yg yq ym yr = (some (r0, lc0, la0, hr0, uP0, uC0, uR0, tn0, pn0, pg0, pq0, rl0, gcb0, gpb0, tg0, tm0, tl0, pm0, ps0, yg0, yq0, ym0, yr0)) → gV p l e rm_L_keeps s m args below meth c A D 13 Q ((cW h cI cJ lc la hr uP uC uR tn pn pg pq rl sr gcb gpb tg tm tl pm ps) ++ (yW k cI cJ yg yq ym yw yh yr)) [(0, .ref (h 0)), (3, .ref (k 0)), (4, .ref (k 5)), (5, .ref (k 1)), (6, .ref (k 2))] 9 54 907 [.int s0] := by
    intro s0 lc la hr uP uC uR tn pn pg pq rl gcb gpb tg tm tl pm ps yg yq ym yr hp
    unfold pf_L_keeps_j907 at hp
    obtain ⟨hz907, hp⟩ := g_bool hp
    obtain ⟨rfl, rfl, rfl, rfl, rfl, rfl, rfl, rfl, rfl, rfl, rfl, rfl, rfl, rfl, rfl, rfl, rfl, rfl, rfl, rfl, rfl, rfl, rfl⟩ := g_so23 hp
    exact RET _ _ _ _ _ _ dL_keeps_907 (Nat.le_of_ble_eq_true rfl) (Nat.le_of_ble_eq_true rfl) (g_nz hz907) ⟨rfl, rfl⟩
  have J906 : ∀ (lc : Int32) (la : Int32) (hr : Int32) (uP : Int32) (uC : Int32) (uR : Int32) (tn : Int32) (pn : Int32) (pg : Int32) (pq : Int32) (rl : Nat → Int32) (gcb : Nat → Int32) (gpb : Nat → Int64) (tg : Nat → Int32) (tm : Nat → Int32) (tl : Nat → Int32) (pm : Nat → Int32) (ps : Nat → Int32) (yg : Nat → Int32) (yq : Nat → Int32) (ym : Nat → Int32) (yr : Nat → Int64), pf_L_keeps_j906 lc la hr uP uC uR tn pn pg pq rl gcb gpb tg tm tl pm ps yg yq ym yr = (some (r0, lc0, la0, hr0, uP0, uC0, uR0, tn0, pn0, pg0, pq0, rl0, gcb0, gpb0, tg0, tm0, tl0, pm0, ps0, yg0, yq0, ym0, yr0)) → gV p l e rm_L_keeps s m args below meth c A D 13 Q ((cW h cI cJ lc la hr uP uC uR tn pn pg pq rl sr gcb gpb tg tm tl pm ps) ++ (yW k cI cJ yg yq ym yw yh yr)) [(0, .ref (h 0)), (3, .ref (k 0)), (4, .ref (k 5)), (5, .ref (k 1)), (6, .ref (k 2))] 9 54 906 [] := by
    intro lc la hr uP uC uR tn pn pg pq rl gcb gpb tg tm tl pm ps yg yq ym yr hp
    unfold pf_L_keeps_j906 at hp
    refine gV_iconst (v := 0) C dL_keeps_906 rfl ?_
    exact J907 0 lc la hr uP uC uR tn pn pg pq rl gcb gpb tg tm tl pm ps yg yq ym yr hp
  have J856 : ∀ (v7 : Int32) (v11 : Int32) (s0 : Int32) (lc : Int32) (la : Int32) (hr : Int32) (uP : Int32) (uC : Int32) (uR : Int32) (tn : Int32) (pn : Int32) (pg : Int32) (pq : Int32) (rl : Nat → Int32) (gcb : Nat → Int32) (gpb : Nat → Int64) (tg : Nat → Int32) (tm : Nat → Int32) (tl : Nat → Int32) (pm : Nat → Int32) (ps : Nat → Int32) (yg : Nat → Int32) (yq : Nat → Int32) (ym : Nat → Int32) (yr : Nat → Int64), pf_L_keeps_j856 v7 v11 s0 lc la hr uP uC uR tn pn pg pq rl gcb gpb tg tm tl pm ps yg yq ym yr = (some (r0, lc0, la0, hr0, uP0, uC0, uR0, tn0, pn0, pg0, pq0, rl0, gcb0, gpb0, tg0, tm0, tl0, pm0, ps0, yg0, yq0, ym0, yr0)) → gV p l e rm_L_keeps s m args below meth c A D 13 Q ((cW h cI cJ lc la hr uP uC uR tn pn pg pq rl sr gcb gpb tg tm tl pm ps) ++ (yW k cI cJ yg yq ym yw yh yr)) [(0, .ref (h 0)), (3, .ref (k 0)), (4, .ref (k 5)), (5, .ref (k 1)), (6, .ref (k 2)), (7, .int v7), (11, .int v11)] 0 0 856 [.int s0] := by
    intro v7 v11 s0 lc la hr uP uC uR tn pn pg pq rl gcb gpb tg tm tl pm ps yg yq ym yr hp
    unfold pf_L_keeps_j856 at hp
    refine gV_istore (lvs' := [(12, .int s0), (0, .ref (h 0)), (3, .ref (k 0)), (4, .ref (k 5)), (5, .ref (k 1)), (6, .ref (k 2)), (7, .int v7), (11, .int v11)]) C dL_keeps_856 (by decide) rfl ?_
    refine gV_iload C dL_keeps_858 0 rfl ?_
    refine gV_if_ne (tgt := 908) C dL_keeps_860 (by decide) (fun c860 => ?_) (fun c860 => ?_)
    · replace hp := g_iff hp c860
      refine gV_aload C dL_keeps_908 4 rfl ?_
      refine gV_aload_n C dL_keeps_910 rfl 2 rfl ?_
      refine gV_iconst (v := 5) C dL_keeps_911 rfl ?_
      obtain ⟨hi912, hp⟩ := g_idx hp
      refine gV_iald C 13 rfl 0 rfl hi912 dL_keeps_912 ?_
      refine gV_iload C dL_keeps_913 6 rfl ?_
      obtain ⟨hi915, hp⟩ := g_idx hp
      refine gV_iast (ws' := (cW h cI cJ lc la hr uP uC uR tn pn pg pq rl sr gcb gpb tg tm tl pm ps) ++ (yW k cI cJ yg (upd yq (yg (5 : Int32).toNatClampNeg).toNatClampNeg v7) ym yw yh yr)) C 14 rfl 0 rfl hi915 dL_keeps_915 rfl ?_
      refine gV_aload C dL_keeps_916 5 rfl ?_
      refine gV_aload_n C dL_keeps_918 rfl 2 rfl ?_
      refine gV_iconst (v := 5) C dL_keeps_919 rfl ?_
      obtain ⟨hi920, hp⟩ := g_idx hp
      refine gV_iald C 13 rfl 0 rfl hi920 dL_keeps_920 ?_
      refine gV_iload C dL_keeps_921 7 rfl ?_
      obtain ⟨hi923, hp⟩ := g_idx hp
      refine gV_iast (ws' := (cW h cI cJ lc la hr uP uC uR tn pn pg pq rl sr gcb gpb tg tm tl pm ps) ++ (yW k cI cJ yg (upd yq (yg (5 : Int32).toNatClampNeg).toNatClampNeg v7) (upd ym (yg (5 : Int32).toNatClampNeg).toNatClampNeg v11) yw yh yr)) C 15 rfl 0 rfl hi923 dL_keeps_923 rfl ?_
      refine gV_aload_n C dL_keeps_924 rfl 2 rfl ?_
      refine gV_iconst (v := 5) C dL_keeps_925 rfl ?_
      refine gV_dup2 C dL_keeps_926 rfl rfl ?_
      obtain ⟨hi927, hp⟩ := g_idx hp
      refine gV_iald C 13 rfl 0 rfl hi927 dL_keeps_927 ?_
      refine gV_iconst (v := 1) C dL_keeps_928 rfl ?_
      refine gV_iadd C dL_keeps_929 ?_
      obtain ⟨hi930, hp⟩ := g_idx hp
      refine gV_iast (ws' := (cW h cI cJ lc la hr uP uC uR tn pn pg pq rl sr gcb gpb tg tm tl pm ps) ++ (yW k cI cJ (upd yg (5 : Int32).toNatClampNeg ((yg (5 : Int32).toNatClampNeg) + 1)) (upd yq (yg (5 : Int32).toNatClampNeg).toNatClampNeg v7) (upd ym (yg (5 : Int32).toNatClampNeg).toNatClampNeg v11) yw yh yr)) C 13 rfl 0 rfl hi930 dL_keeps_930 rfl ?_
      refine gV_aload_n C dL_keeps_931 rfl 1 rfl ?_
      refine gV_iload C dL_keeps_932 6 rfl ?_
      refine gV_iload C dL_keeps_934 7 rfl ?_
      obtain ⟨r936q, lc_936, tn_936, rl_936, tg_936, tm_936, tl_936, hq936, hp⟩ := g_ob7 hp
      refine gV_calli C (gsub_cy_c _ _ rfl rfl) (gV_runSX (As := [.ref (h 0), .int v7, .int v11]) (rest := []) C (mt_L_tell hl D h cI cJ lc la hr uP uC uR tn pn pg pq rl sr gcb gpb tg tm tl pm ps v7 v11 r936q lc_936 tn_936 rl_936 tg_936 tm_936 tl_936 hq936) (vx_cwSW 3 C.2.2.2.2.1 gL_keeps_L_tell rfl rfl rfl hds_L_tell ⟨Nat.le_of_ble_eq_true rfl, Nat.le_of_ble_eq_true rfl⟩) (gsub_cy_c _ _ rfl rfl) rfl rfl (Nat.le_of_ble_eq_true rfl) dL_keeps_936 ⟨Nat.le_of_ble_eq_true rfl, Nat.le_of_ble_eq_true rfl⟩) (fun _ _ hx => False.elim hx) (fun r936 w1 hw => ?_)
      obtain ⟨rfl, rfl⟩ := hw
      refine gV_sub (ws' := (cW h cI cJ lc_936 la hr uP uC uR tn_936 pn pg pq rl_936 sr gcb gpb tg_936 tm_936 tl_936 pm ps) ++ (yW k cI cJ (upd yg (5 : Int32).toNatClampNeg ((yg (5 : Int32).toNatClampNeg) + 1)) (upd yq (yg (5 : Int32).toNatClampNeg).toNatClampNeg v7) (upd ym (yg (5 : Int32).toNatClampNeg).toNatClampNeg v11) yw yh yr)) [6, 7, 8, 9, 10, 11, 12, 13, 14, 15, 16, 17, 18, 0, 1, 2, 3, 4, 5] (by decide) rfl rfl ?_
      refine gV_aload_n C dL_keeps_939 rfl 2 rfl ?_
      refine gV_aload C dL_keeps_940 3 rfl ?_
      refine gV_aload C dL_keeps_942 4 rfl ?_
      refine gV_aload C dL_keeps_944 5 rfl ?_
      obtain ⟨r946q, hq946, hp⟩ := g_ob1 hp
      refine gV_calll C (gsub_cy_y _ _ rfl rfl) (gV_runS (As := [.ref (k 0), .ref (k 5), .ref (k 1), .ref (k 2)]) (rest := [.int r936]) C (mt_L_left hl D k cI cJ (upd yg (5 : Int32).toNatClampNeg ((yg (5 : Int32).toNatClampNeg) + 1)) (upd yq (yg (5 : Int32).toNatClampNeg).toNatClampNeg v7) (upd ym (yg (5 : Int32).toNatClampNeg).toNatClampNeg v11) yw yh yr r946q hq946) (va_cwS 4 C.2.2.2.2.1 gL_keeps_L_left rfl rfl rfl hds_L_left ⟨Nat.le_of_ble_eq_true rfl, Nat.le_of_ble_eq_true rfl⟩) (gsub_cy_y _ _ rfl rfl) rfl rfl (Nat.le_of_ble_eq_true rfl) dL_keeps_946 ⟨Nat.le_of_ble_eq_true rfl, Nat.le_of_ble_eq_true rfl⟩) (fun _ _ hx => False.elim hx) (fun r946 w1 hw => ?_)
      obtain ⟨rfl, rfl⟩ := hw
      refine gV_sub (ws' := (cW h cI cJ lc_936 la hr uP uC uR tn_936 pn pg pq rl_936 sr gcb gpb tg_936 tm_936 tl_936 pm ps) ++ (yW k cI cJ (upd yg (5 : Int32).toNatClampNeg ((yg (5 : Int32).toNatClampNeg) + 1)) (upd yq (yg (5 : Int32).toNatClampNeg).toNatClampNeg v7) (upd ym (yg (5 : Int32).toNatClampNeg).toNatClampNeg v11) yw yh yr)) [0, 1, 2, 3, 4, 5, 6, 7, 8, 9, 10, 11, 12, 13, 14, 15, 16, 17, 18] (by decide) rfl rfl ?_
      obtain ⟨r949q, hq949, hp⟩ := g_ob1 hp
      refine gV_calliE C (gV_runS (As := [.long r946]) (rest := [.int r936]) C (mt_L_many hl D cI cJ r946 r949q hq949) (va_cwS 1 C.2.2.2.2.1 gL_keeps_L_many rfl rfl rfl hds_L_many ⟨Nat.le_of_ble_eq_true rfl, Nat.le_of_ble_eq_true rfl⟩) (gSub_E _) rfl rfl (Nat.le_of_ble_eq_true rfl) dL_keeps_949 ⟨Nat.le_of_ble_eq_true rfl, Nat.le_of_ble_eq_true rfl⟩) (fun _ _ hx => False.elim hx) (fun r949 w1 hw => ?_)
      obtain ⟨rfl, rfl⟩ := hw
      refine ⟨rfl, ?_⟩
      refine gV_icmp_ne (tgt := 959) C dL_keeps_952 (by decide) (fun c952 => ?_) (fun c952 => ?_)
      · replace hp := g_iff hp c952
        refine gV_iconst (v := 0) C dL_keeps_959 rfl ?_
        refine gV_loc [1, 2, 3, 4, 5] rfl ?_
        exact J960 0 lc_936 la hr uP uC uR tn_936 pn pg pq rl_936 gcb gpb tg_936 tm_936 tl_936 pm ps (upd yg (5 : Int32).toNatClampNeg ((yg (5 : Int32).toNatClampNeg) + 1)) (upd yq (yg (5 : Int32).toNatClampNeg).toNatClampNeg v7) (upd ym (yg (5 : Int32).toNatClampNeg).toNatClampNeg v11) yr hp
      · replace hp := g_ift hp c952
        refine gV_iconst (v := 1) C dL_keeps_955 rfl ?_
        refine gV_goto (tgt := 960) C dL_keeps_956 (by decide) ?_
        refine gV_loc [1, 2, 3, 4, 5] rfl ?_
        exact J960 1 lc_936 la hr uP uC uR tn_936 pn pg pq rl_936 gcb gpb tg_936 tm_936 tl_936 pm ps (upd yg (5 : Int32).toNatClampNeg ((yg (5 : Int32).toNatClampNeg) + 1)) (upd yq (yg (5 : Int32).toNatClampNeg).toNatClampNeg v7) (upd ym (yg (5 : Int32).toNatClampNeg).toNatClampNeg v11) yr hp
    · replace hp := g_ift hp c860
      refine gV_aload_n C dL_keeps_863 rfl 1 rfl ?_
      refine gV_iload C dL_keeps_864 6 rfl ?_
      refine gV_iload C dL_keeps_866 7 rfl ?_
      obtain ⟨r868q, lc_868, tn_868, rl_868, tg_868, tm_868, tl_868, hq868, hp⟩ := g_ob7 hp
      refine gV_calli C (gsub_cy_c _ _ rfl rfl) (gV_runSX (As := [.ref (h 0), .int v7, .int v11]) (rest := []) C (mt_L_tell hl D h cI cJ lc la hr uP uC uR tn pn pg pq rl sr gcb gpb tg tm tl pm ps v7 v11 r868q lc_868 tn_868 rl_868 tg_868 tm_868 tl_868 hq868) (vx_cwSW 3 C.2.2.2.2.1 gL_keeps_L_tell rfl rfl rfl hds_L_tell ⟨Nat.le_of_ble_eq_true rfl, Nat.le_of_ble_eq_true rfl⟩) (gsub_cy_c _ _ rfl rfl) rfl rfl (Nat.le_of_ble_eq_true rfl) dL_keeps_868 ⟨Nat.le_of_ble_eq_true rfl, Nat.le_of_ble_eq_true rfl⟩) (fun _ _ hx => False.elim hx) (fun r868 w1 hw => ?_)
      obtain ⟨rfl, rfl⟩ := hw
      refine gV_sub (ws' := (cW h cI cJ lc_868 la hr uP uC uR tn_868 pn pg pq rl_868 sr gcb gpb tg_868 tm_868 tl_868 pm ps) ++ (yW k cI cJ yg yq ym yw yh yr)) [6, 7, 8, 9, 10, 11, 12, 13, 14, 15, 16, 17, 18, 0, 1, 2, 3, 4, 5] (by decide) rfl rfl ?_
      refine gV_bipush (v := (-73)) C dL_keeps_871 rfl ?_
      refine gV_icmp_ne (tgt := 906) C dL_keeps_873 (by decide) (fun c873 => ?_) (fun c873 => ?_)
      · replace hp := g_iff hp c873
        refine gV_loc [1, 2, 3, 4, 5] rfl ?_
        refine gV_widen (k' := 9) (n' := 54) (Nat.le_of_ble_eq_true rfl) (Nat.le_of_ble_eq_true rfl) ?_
        exact J906 lc_868 la hr uP uC uR tn_868 pn pg pq rl_868 gcb gpb tg_868 tm_868 tl_868 pm ps yg yq ym yr hp
      · replace hp := g_ift hp c873
        refine gV_aload_n C dL_keeps_876 rfl 1 rfl ?_
        refine gV_aload_n C dL_keeps_877 rfl 2 rfl ?_
        refine gV_iconst (v := 2) C dL_keeps_878 rfl ?_
        obtain ⟨hi879, hp⟩ := g_idx hp
        refine gV_iald C 13 rfl 0 rfl hi879 dL_keeps_879 ?_
        refine gV_iload C dL_keeps_880 7 rfl ?_
        obtain ⟨r882q, lc_882, tn_882, rl_882, tg_882, tm_882, tl_882, hq882, hp⟩ := g_ob7 hp
        refine gV_calli C (gsub_cy_c _ _ rfl rfl) (gV_runSX (As := [.ref (h 0), .int (yg (2 : Int32).toNatClampNeg), .int v11]) (rest := []) C (mt_L_tell hl D h cI cJ lc_868 la hr uP uC uR tn_868 pn pg pq rl_868 sr gcb gpb tg_868 tm_868 tl_868 pm ps (yg (2 : Int32).toNatClampNeg) v11 r882q lc_882 tn_882 rl_882 tg_882 tm_882 tl_882 hq882) (vx_cwSW 3 C.2.2.2.2.1 gL_keeps_L_tell rfl rfl rfl hds_L_tell ⟨Nat.le_of_ble_eq_true rfl, Nat.le_of_ble_eq_true rfl⟩) (gsub_cy_c _ _ rfl rfl) rfl rfl (Nat.le_of_ble_eq_true rfl) dL_keeps_882 ⟨Nat.le_of_ble_eq_true rfl, Nat.le_of_ble_eq_true rfl⟩) (fun _ _ hx => False.elim hx) (fun r882 w1 hw => ?_)
        obtain ⟨rfl, rfl⟩ := hw
        refine gV_sub (ws' := (cW h cI cJ lc_882 la hr uP uC uR tn_882 pn pg pq rl_882 sr gcb gpb tg_882 tm_882 tl_882 pm ps) ++ (yW k cI cJ yg yq ym yw yh yr)) [6, 7, 8, 9, 10, 11, 12, 13, 14, 15, 16, 17, 18, 0, 1, 2, 3, 4, 5] (by decide) rfl rfl ?_
        refine gV_bipush (v := (-71)) C dL_keeps_885 rfl ?_
        refine gV_icmp_ne (tgt := 906) C dL_keeps_887 (by decide) (fun c887 => ?_) (fun c887 => ?_)
        · replace hp := g_iff hp c887
          refine gV_loc [1, 2, 3, 4, 5] rfl ?_
          refine gV_widen (k' := 9) (n' := 54) (Nat.le_of_ble_eq_true rfl) (Nat.le_of_ble_eq_true rfl) ?_
          exact J906 lc_882 la hr uP uC uR tn_882 pn pg pq rl_882 gcb gpb tg_882 tm_882 tl_882 pm ps yg yq ym yr hp
        · replace hp := g_ift hp c887
          refine gV_aload_n C dL_keeps_890 rfl 1 rfl ?_
          refine gV_iload C dL_keeps_891 6 rfl ?_
          refine gV_iconst (v := (-1)) C dL_keeps_893 rfl ?_
          obtain ⟨r894q, lc_894, tn_894, rl_894, tg_894, tm_894, tl_894, hq894, hp⟩ := g_ob7 hp
          refine gV_calli C (gsub_cy_c _ _ rfl rfl) (gV_runSX (As := [.ref (h 0), .int v7, .int (-1)]) (rest := []) C (mt_L_tell hl D h cI cJ lc_882 la hr uP uC uR tn_882 pn pg pq rl_882 sr gcb gpb tg_882 tm_882 tl_882 pm ps v7 (-1) r894q lc_894 tn_894 rl_894 tg_894 tm_894 tl_894 hq894) (vx_cwSW 3 C.2.2.2.2.1 gL_keeps_L_tell rfl rfl rfl hds_L_tell ⟨Nat.le_of_ble_eq_true rfl, Nat.le_of_ble_eq_true rfl⟩) (gsub_cy_c _ _ rfl rfl) rfl rfl (Nat.le_of_ble_eq_true rfl) dL_keeps_894 ⟨Nat.le_of_ble_eq_true rfl, Nat.le_of_ble_eq_true rfl⟩) (fun _ _ hx => False.elim hx) (fun r894 w1 hw => ?_)
          obtain ⟨rfl, rfl⟩ := hw
          refine gV_sub (ws' := (cW h cI cJ lc_894 la hr uP uC uR tn_894 pn pg pq rl_894 sr gcb gpb tg_894 tm_894 tl_894 pm ps) ++ (yW k cI cJ yg yq ym yw yh yr)) [6, 7, 8, 9, 10, 11, 12, 13, 14, 15, 16, 17, 18, 0, 1, 2, 3, 4, 5] (by decide) rfl rfl ?_
          refine gV_bipush (v := (-72)) C dL_keeps_897 rfl ?_
          refine gV_icmp_ne (tgt := 906) C dL_keeps_899 (by decide) (fun c899 => ?_) (fun c899 => ?_)
          · replace hp := g_iff hp c899
            refine gV_loc [1, 2, 3, 4, 5] rfl ?_
            exact J906 lc_894 la hr uP uC uR tn_894 pn pg pq rl_894 gcb gpb tg_894 tm_894 tl_894 pm ps yg yq ym yr hp
          · replace hp := g_ift hp c899
            refine gV_iconst (v := 1) C dL_keeps_902 rfl ?_
            refine gV_goto (tgt := 907) C dL_keeps_903 (by decide) ?_
            refine gV_loc [1, 2, 3, 4, 5] rfl ?_
            exact J907 1 lc_894 la hr uP uC uR tn_894 pn pg pq rl_894 gcb gpb tg_894 tm_894 tl_894 pm ps yg yq ym yr hp
  have J855 : ∀ (v7 : Int32) (v11 : Int32) (lc : Int32) (la : Int32) (hr : Int32) (uP : Int32) (uC : Int32) (uR : Int32) (tn : Int32) (pn : Int32) (pg : Int32) (pq : Int32) (rl : Nat → Int32) (gcb : Nat → Int32) (gpb : Nat → Int64) (tg : Nat → Int32) (tm : Nat → Int32) (tl : Nat → Int32) (pm : Nat → Int32) (ps : Nat → Int32) (yg : Nat → Int32) (yq : Nat → Int32) (ym : Nat → Int32) (yr : Nat → Int64), pf_L_keeps_j855 v7 v11 lc la hr uP uC uR tn pn pg pq rl gcb gpb tg tm tl pm ps yg yq ym yr = (some (r0, lc0, la0, hr0, uP0, uC0, uR0, tn0, pn0, pg0, pq0, rl0, gcb0, gpb0, tg0, tm0, tl0, pm0, ps0, yg0, yq0, ym0, yr0)) → gV p l e rm_L_keeps s m args below meth c A D 13 Q ((cW h cI cJ lc la hr uP uC uR tn pn pg pq rl sr gcb gpb tg tm tl pm ps) ++ (yW k cI cJ yg yq ym yw yh yr)) [(0, .ref (h 0)), (3, .ref (k 0)), (4, .ref (k 5)), (5, .ref (k 1)), (6, .ref (k 2)), (7, .int v7), (11, .int v11)] 0 0 855 [] := by
    intro v7 v11 lc la hr uP uC uR tn pn pg pq rl gcb gpb tg tm tl pm ps yg yq ym yr hp
    unfold pf_L_keeps_j855 at hp
    refine gV_iconst (v := 0) C dL_keeps_855 rfl ?_
    exact J856 v7 v11 0 lc la hr uP uC uR tn pn pg pq rl gcb gpb tg tm tl pm ps yg yq ym yr hp
  have J851 : ∀ (v7 : Int32) (v11 : Int32) (lc : Int32) (la : Int32) (hr : Int32) (uP : Int32) (uC : Int32) (uR : Int32) (tn : Int32) (pn : Int32) (pg : Int32) (pq : Int32) (rl : Nat → Int32) (gcb : Nat → Int32) (gpb : Nat → Int64) (tg : Nat → Int32) (tm : Nat → Int32) (tl : Nat → Int32) (pm : Nat → Int32) (ps : Nat → Int32) (yg : Nat → Int32) (yq : Nat → Int32) (ym : Nat → Int32) (yr : Nat → Int64), pf_L_keeps_j851 v7 v11 lc la hr uP uC uR tn pn pg pq rl gcb gpb tg tm tl pm ps yg yq ym yr = (some (r0, lc0, la0, hr0, uP0, uC0, uR0, tn0, pn0, pg0, pq0, rl0, gcb0, gpb0, tg0, tm0, tl0, pm0, ps0, yg0, yq0, ym0, yr0)) → gV p l e rm_L_keeps s m args below meth c A D 13 Q ((cW h cI cJ lc la hr uP uC uR tn pn pg pq rl sr gcb gpb tg tm tl pm ps) ++ (yW k cI cJ yg yq ym yw yh yr)) [(0, .ref (h 0)), (3, .ref (k 0)), (4, .ref (k 5)), (5, .ref (k 1)), (6, .ref (k 2)), (7, .int v7), (11, .int v11)] 0 0 851 [] := by
    intro v7 v11 lc la hr uP uC uR tn pn pg pq rl gcb gpb tg tm tl pm ps yg yq ym yr hp
    unfold pf_L_keeps_j851 at hp
    refine gV_iconst (v := 1) C dL_keeps_851 rfl ?_
    refine gV_goto (tgt := 856) C dL_keeps_852 (by decide) ?_
    exact J856 v7 v11 1 lc la hr uP uC uR tn pn pg pq rl gcb gpb tg tm tl pm ps yg yq ym yr hp
  have J844 : ∀ (v7 : Int32) (v11 : Int32) (s0 : Int32) (s1 : Int32) (lc : Int32) (la : Int32) (hr : Int32) (uP : Int32) (uC : Int32) (uR : Int32) (tn : Int32) (pn : Int32) (pg : Int32) (pq : Int32) (rl : Nat → Int32) (gcb : Nat → Int32) (gpb : Nat → Int64) (tg : Nat → Int32) (tm : Nat → Int32) (tl : Nat → Int32) (pm : Nat → Int32) (ps : Nat → Int32) (yg : Nat → Int32) (yq : Nat → Int32) (ym : Nat → Int32) (yr : Nat → Int64), pf_L_keeps_j844 v7 v11 s0 s1 lc la hr uP uC uR tn pn pg pq rl gcb gpb tg tm tl pm ps yg yq ym yr = (some (r0, lc0, la0, hr0, uP0, uC0, uR0, tn0, pn0, pg0, pq0, rl0, gcb0, gpb0, tg0, tm0, tl0, pm0, ps0, yg0, yq0, ym0, yr0)) → gV p l e rm_L_keeps s m args below meth c A D 13 Q ((cW h cI cJ lc la hr uP uC uR tn pn pg pq rl sr gcb gpb tg tm tl pm ps) ++ (yW k cI cJ yg yq ym yw yh yr)) [(0, .ref (h 0)), (3, .ref (k 0)), (4, .ref (k 5)), (5, .ref (k 1)), (6, .ref (k 2)), (7, .int v7), (11, .int v11)] 0 0 844 [.int s0, .int s1] := by
    intro v7 v11 s0 s1 lc la hr uP uC uR tn pn pg pq rl gcb gpb tg tm tl pm ps yg yq ym yr hp
    unfold pf_L_keeps_j844 at hp
    refine gV_iadd C dL_keeps_844 ?_
    refine gV_aload_n C dL_keeps_845 rfl 1 rfl ?_
    refine gV_iconst (v := 3) C dL_keeps_846 rfl ?_
    obtain ⟨hi847, hp⟩ := g_idx hp
    refine gV_iald C 13 rfl 0 rfl hi847 dL_keeps_847 ?_
    refine gV_icmp_gt (tgt := 855) C dL_keeps_848 (by decide) (fun c848 => ?_) (fun c848 => ?_)
    · replace hp := g_ift hp c848
      exact J855 v7 v11 lc la hr uP uC uR tn pn pg pq rl gcb gpb tg tm tl pm ps yg yq ym yr hp
    · replace hp := g_iff hp c848
      exact J851 v7 v11 lc la hr uP uC uR tn pn pg pq rl gcb gpb tg tm tl pm ps yg yq ym yr hp
  have J795 : ∀ (s0 : Int32) (lc : Int32) (la : Int32) (hr : Int32) (uP : Int32) (uC : Int32) (uR : Int32) (tn : Int32) (pn : Int32) (pg : Int32) (pq : Int32) (rl : Nat → Int32) (gcb : Nat → Int32) (gpb : Nat → Int64) (tg : Nat → Int32) (tm : Nat → Int32) (tl : Nat → Int32) (pm : Nat → Int32) (ps : Nat → Int32) (yg : Nat → Int32) (yq : Nat → Int32) (ym : Nat → Int32) (yr : Nat → Int64), pf_L_keeps_j795 s0 lc la hr uP uC uR tn pn pg pq rl gcb gpb tg tm tl pm ps yg yq ym yr = (some (r0, lc0, la0, hr0, uP0, uC0, uR0, tn0, pn0, pg0, pq0, rl0, gcb0, gpb0, tg0, tm0, tl0, pm0, ps0, yg0, yq0, ym0, yr0)) → gV p l e rm_L_keeps s m args below meth c A D 13 Q ((cW h cI cJ lc la hr uP uC uR tn pn pg pq rl sr gcb gpb tg tm tl pm ps) ++ (yW k cI cJ yg yq ym yw yh yr)) [(0, .ref (h 0)), (3, .ref (k 0)), (4, .ref (k 5)), (5, .ref (k 1)), (6, .ref (k 2))] 8 48 795 [.int s0] := by
    intro s0 lc la hr uP uC uR tn pn pg pq rl gcb gpb tg tm tl pm ps yg yq ym yr hp
    unfold pf_L_keeps_j795 at hp
    obtain ⟨hz795, hp⟩ := g_bool hp
    obtain ⟨rfl, rfl, rfl, rfl, rfl, rfl, rfl, rfl, rfl, rfl, rfl, rfl, rfl, rfl, rfl, rfl, rfl, rfl, rfl, rfl, rfl, rfl, rfl⟩ := g_so23 hp
    exact RET _ _ _ _ _ _ dL_keeps_795 (Nat.le_of_ble_eq_true rfl) (Nat.le_of_ble_eq_true rfl) (g_nz hz795) ⟨rfl, rfl⟩
  have J794 : ∀ (lc : Int32) (la : Int32) (hr : Int32) (uP : Int32) (uC : Int32) (uR : Int32) (tn : Int32) (pn : Int32) (pg : Int32) (pq : Int32) (rl : Nat → Int32) (gcb : Nat → Int32) (gpb : Nat → Int64) (tg : Nat → Int32) (tm : Nat → Int32) (tl : Nat → Int32) (pm : Nat → Int32) (ps : Nat → Int32) (yg : Nat → Int32) (yq : Nat → Int32) (ym : Nat → Int32) (yr : Nat → Int64), pf_L_keeps_j794 lc la hr uP uC uR tn pn pg pq rl gcb gpb tg tm tl pm ps yg yq ym yr = (some (r0, lc0, la0, hr0, uP0, uC0, uR0, tn0, pn0, pg0, pq0, rl0, gcb0, gpb0, tg0, tm0, tl0, pm0, ps0, yg0, yq0, ym0, yr0)) → gV p l e rm_L_keeps s m args below meth c A D 13 Q ((cW h cI cJ lc la hr uP uC uR tn pn pg pq rl sr gcb gpb tg tm tl pm ps) ++ (yW k cI cJ yg yq ym yw yh yr)) [(0, .ref (h 0)), (3, .ref (k 0)), (4, .ref (k 5)), (5, .ref (k 1)), (6, .ref (k 2))] 8 48 794 [] := by
    intro lc la hr uP uC uR tn pn pg pq rl gcb gpb tg tm tl pm ps yg yq ym yr hp
    unfold pf_L_keeps_j794 at hp
    refine gV_iconst (v := 0) C dL_keeps_794 rfl ?_
    exact J795 0 lc la hr uP uC uR tn pn pg pq rl gcb gpb tg tm tl pm ps yg yq ym yr hp
  have J741 : ∀ (v7 : Int32) (s0 : Int32) (lc : Int32) (la : Int32) (hr : Int32) (uP : Int32) (uC : Int32) (uR : Int32) (tn : Int32) (pn : Int32) (pg : Int32) (pq : Int32) (rl : Nat → Int32) (gcb : Nat → Int32) (gpb : Nat → Int64) (tg : Nat → Int32) (tm : Nat → Int32) (tl : Nat → Int32) (pm : Nat → Int32) (ps : Nat → Int32) (yg : Nat → Int32) (yq : Nat → Int32) (ym : Nat → Int32) (yr : Nat → Int64), pf_L_keeps_j741 v7 s0 lc la hr uP uC uR tn pn pg pq rl gcb gpb tg tm tl pm ps yg yq ym yr = (some (r0, lc0, la0, hr0, uP0, uC0, uR0, tn0, pn0, pg0, pq0, rl0, gcb0, gpb0, tg0, tm0, tl0, pm0, ps0, yg0, yq0, ym0, yr0)) → gV p l e rm_L_keeps s m args below meth c A D 13 Q ((cW h cI cJ lc la hr uP uC uR tn pn pg pq rl sr gcb gpb tg tm tl pm ps) ++ (yW k cI cJ yg yq ym yw yh yr)) [(0, .ref (h 0)), (3, .ref (k 0)), (4, .ref (k 5)), (5, .ref (k 1)), (6, .ref (k 2)), (7, .int v7)] 0 0 741 [.int s0] := by
    intro v7 s0 lc la hr uP uC uR tn pn pg pq rl gcb gpb tg tm tl pm ps yg yq ym yr hp
    unfold pf_L_keeps_j741 at hp
    refine gV_istore (lvs' := [(11, .int s0), (0, .ref (h 0)), (3, .ref (k 0)), (4, .ref (k 5)), (5, .ref (k 1)), (6, .ref (k 2)), (7, .int v7)]) C dL_keeps_741 (by decide) rfl ?_
    refine gV_aload_n C dL_keeps_743 rfl 2 rfl ?_
    refine gV_iload C dL_keeps_744 0 rfl ?_
    obtain ⟨r746q, hq746, hp⟩ := g_ob1 hp
    refine gV_calli C (gsub_cy_y _ _ rfl rfl) (gV_runS (As := [.ref (k 0), .int s0]) (rest := []) C (mt_L_isPossible hl D k cI cJ yg yq ym yw yh yr s0 r746q hq746) (va_cwS 2 C.2.2.2.2.1 gL_keeps_L_isPossible rfl rfl rfl hds_L_isPossible ⟨Nat.le_of_ble_eq_true rfl, Nat.le_of_ble_eq_true rfl⟩) (gsub_cy_y _ _ rfl rfl) rfl rfl (Nat.le_of_ble_eq_true rfl) dL_keeps_746 ⟨Nat.le_of_ble_eq_true rfl, Nat.le_of_ble_eq_true rfl⟩) (fun _ _ hx => False.elim hx) (fun r746 w1 hw => ?_)
    obtain ⟨rfl, rfl⟩ := hw
    refine gV_sub (ws' := (cW h cI cJ lc la hr uP uC uR tn pn pg pq rl sr gcb gpb tg tm tl pm ps) ++ (yW k cI cJ yg yq ym yw yh yr)) [0, 1, 2, 3, 4, 5, 6, 7, 8, 9, 10, 11, 12, 13, 14, 15, 16, 17, 18] (by decide) rfl rfl ?_
    refine gV_if_ne (tgt := 796) C dL_keeps_749 (by decide) (fun c749 => ?_) (fun c749 => ?_)
    · replace hp := g_iff hp c749
      refine gV_aload_n C dL_keeps_796 rfl 2 rfl ?_
      refine gV_iconst (v := 5) C dL_keeps_797 rfl ?_
      obtain ⟨hi798, hp⟩ := g_idx hp
      refine gV_iald C 13 rfl 0 rfl hi798 dL_keeps_798 ?_
      refine gV_bipush (v := 10) C dL_keeps_799 rfl ?_
      refine gV_icmp_ge (tgt := 855) C dL_keeps_801 (by decide) (fun c801 => ?_) (fun c801 => ?_)
      · replace hp := g_ift hp c801
        refine gV_loc [1, 2, 3, 4, 5, 6, 0] rfl ?_
        exact J855 v7 s0 lc la hr uP uC uR tn pn pg pq rl gcb gpb tg tm tl pm ps yg yq ym yr hp
      · replace hp := g_iff hp c801
        refine gV_aload_n C dL_keeps_804 rfl 2 rfl ?_
        refine gV_iconst (v := 4) C dL_keeps_805 rfl ?_
        obtain ⟨hi806, hp⟩ := g_idx hp
        refine gV_iald C 13 rfl 0 rfl hi806 dL_keeps_806 ?_
        refine gV_if_lt (tgt := 851) C dL_keeps_807 (by decide) (fun c807 => ?_) (fun c807 => ?_)
        · replace hp := g_ift hp c807
          refine gV_loc [1, 2, 3, 4, 5, 6, 0] rfl ?_
          exact J851 v7 s0 lc la hr uP uC uR tn pn pg pq rl gcb gpb tg tm tl pm ps yg yq ym yr hp
        · replace hp := g_iff hp c807
          refine gV_aload_n C dL_keeps_810 rfl 2 rfl ?_
          refine gV_aload C dL_keeps_811 3 rfl ?_
          refine gV_aload C dL_keeps_813 4 rfl ?_
          refine gV_aload C dL_keeps_815 5 rfl ?_
          refine gV_aload_n C dL_keeps_817 rfl 2 rfl ?_
          refine gV_iconst (v := 4) C dL_keeps_818 rfl ?_
          obtain ⟨hi819, hp⟩ := g_idx hp
          refine gV_iald C 13 rfl 0 rfl hi819 dL_keeps_819 ?_
          obtain ⟨r820q, hq820, hp⟩ := g_ob1 hp
          refine gV_calli C (gsub_cy_y _ _ rfl rfl) (gV_runS (As := [.ref (k 0), .ref (k 5), .ref (k 1), .ref (k 2), .int (yg (4 : Int32).toNatClampNeg)]) (rest := []) C (mt_L_lies hl D k cI cJ yg yq ym yw yh yr (yg (4 : Int32).toNatClampNeg) r820q hq820) (va_cwS 5 C.2.2.2.2.1 gL_keeps_L_lies rfl rfl rfl hds_L_lies ⟨Nat.le_of_ble_eq_true rfl, Nat.le_of_ble_eq_true rfl⟩) (gsub_cy_y _ _ rfl rfl) rfl rfl (Nat.le_of_ble_eq_true rfl) dL_keeps_820 ⟨Nat.le_of_ble_eq_true rfl, Nat.le_of_ble_eq_true rfl⟩) (fun _ _ hx => False.elim hx) (fun r820 w1 hw => ?_)
          obtain ⟨rfl, rfl⟩ := hw
          refine gV_sub (ws' := (cW h cI cJ lc la hr uP uC uR tn pn pg pq rl sr gcb gpb tg tm tl pm ps) ++ (yW k cI cJ yg yq ym yw yh yr)) [0, 1, 2, 3, 4, 5, 6, 7, 8, 9, 10, 11, 12, 13, 14, 15, 16, 17, 18] (by decide) rfl rfl ?_
          refine gV_aload_n C dL_keeps_823 rfl 2 rfl ?_
          refine gV_aload C dL_keeps_824 3 rfl ?_
          refine gV_iload C dL_keeps_826 6 rfl ?_
          refine gV_aload_n C dL_keeps_828 rfl 2 rfl ?_
          refine gV_iconst (v := 4) C dL_keeps_829 rfl ?_
          obtain ⟨hi830, hp⟩ := g_idx hp
          refine gV_iald C 13 rfl 0 rfl hi830 dL_keeps_830 ?_
          obtain ⟨r831q, hq831, hp⟩ := g_ob1 hp
          refine gV_calli C (gsub_cy_y _ _ rfl rfl) (gV_runS (As := [.ref (k 0), .ref (k 5), .int v7, .int (yg (4 : Int32).toNatClampNeg)]) (rest := [.int r820]) C (mt_L_pins hl D k cI cJ yg yq ym yw yh yr v7 (yg (4 : Int32).toNatClampNeg) r831q hq831) (va_cwS 4 C.2.2.2.2.1 gL_keeps_L_pins rfl rfl rfl hds_L_pins ⟨Nat.le_of_ble_eq_true rfl, Nat.le_of_ble_eq_true rfl⟩) (gsub_cy_y _ _ rfl rfl) rfl rfl (Nat.le_of_ble_eq_true rfl) dL_keeps_831 ⟨Nat.le_of_ble_eq_true rfl, Nat.le_of_ble_eq_true rfl⟩) (fun _ _ hx => False.elim hx) (fun r831 w1 hw => ?_)
          obtain ⟨rfl, rfl⟩ := hw
          refine gV_sub (ws' := (cW h cI cJ lc la hr uP uC uR tn pn pg pq rl sr gcb gpb tg tm tl pm ps) ++ (yW k cI cJ yg yq ym yw yh yr)) [0, 1, 2, 3, 4, 5, 6, 7, 8, 9, 10, 11, 12, 13, 14, 15, 16, 17, 18] (by decide) rfl rfl ?_
          refine gV_iload C dL_keeps_834 0 rfl ?_
          refine gV_icmp_ne (tgt := 843) C dL_keeps_836 (by decide) (fun c836 => ?_) (fun c836 => ?_)
          · replace hp := g_iff hp c836
            refine gV_iconst (v := 1) C dL_keeps_843 rfl ?_
            refine gV_loc [1, 2, 3, 4, 5, 6, 0] rfl ?_
            exact J844 v7 s0 1 r820 lc la hr uP uC uR tn pn pg pq rl gcb gpb tg tm tl pm ps yg yq ym yr hp
          · replace hp := g_ift hp c836
            refine gV_iconst (v := 0) C dL_keeps_839 rfl ?_
            refine gV_goto (tgt := 844) C dL_keeps_840 (by decide) ?_
            refine gV_loc [1, 2, 3, 4, 5, 6, 0] rfl ?_
            exact J844 v7 s0 0 r820 lc la hr uP uC uR tn pn pg pq rl gcb gpb tg tm tl pm ps yg yq ym yr hp
    · replace hp := g_ift hp c749
      refine gV_aload_n C dL_keeps_752 rfl 1 rfl ?_
      refine gV_iload C dL_keeps_753 6 rfl ?_
      refine gV_iload C dL_keeps_755 0 rfl ?_
      obtain ⟨r757q, lc_757, tn_757, rl_757, tg_757, tm_757, tl_757, hq757, hp⟩ := g_ob7 hp
      refine gV_calli C (gsub_cy_c _ _ rfl rfl) (gV_runSX (As := [.ref (h 0), .int v7, .int s0]) (rest := []) C (mt_L_tell hl D h cI cJ lc la hr uP uC uR tn pn pg pq rl sr gcb gpb tg tm tl pm ps v7 s0 r757q lc_757 tn_757 rl_757 tg_757 tm_757 tl_757 hq757) (vx_cwSW 3 C.2.2.2.2.1 gL_keeps_L_tell rfl rfl rfl hds_L_tell ⟨Nat.le_of_ble_eq_true rfl, Nat.le_of_ble_eq_true rfl⟩) (gsub_cy_c _ _ rfl rfl) rfl rfl (Nat.le_of_ble_eq_true rfl) dL_keeps_757 ⟨Nat.le_of_ble_eq_true rfl, Nat.le_of_ble_eq_true rfl⟩) (fun _ _ hx => False.elim hx) (fun r757 w1 hw => ?_)
      obtain ⟨rfl, rfl⟩ := hw
      refine gV_sub (ws' := (cW h cI cJ lc_757 la hr uP uC uR tn_757 pn pg pq rl_757 sr gcb gpb tg_757 tm_757 tl_757 pm ps) ++ (yW k cI cJ yg yq ym yw yh yr)) [6, 7, 8, 9, 10, 11, 12, 13, 14, 15, 16, 17, 18, 0, 1, 2, 3, 4, 5] (by decide) rfl rfl ?_
      refine gV_bipush (v := (-72)) C dL_keeps_760 rfl ?_
      refine gV_icmp_ne (tgt := 794) C dL_keeps_762 (by decide) (fun c762 => ?_) (fun c762 => ?_)
      · replace hp := g_iff hp c762
        refine gV_loc [1, 2, 3, 4, 5] rfl ?_
        refine gV_widen (k' := 8) (n' := 48) (Nat.le_of_ble_eq_true rfl) (Nat.le_of_ble_eq_true rfl) ?_
        exact J794 lc_757 la hr uP uC uR tn_757 pn pg pq rl_757 gcb gpb tg_757 tm_757 tl_757 pm ps yg yq ym yr hp
      · replace hp := g_ift hp c762
        refine gV_aload_n C dL_keeps_765 rfl 1 rfl ?_
        refine gV_iconst (v := (-1)) C dL_keeps_766 rfl ?_
        refine gV_iload C dL_keeps_767 0 rfl ?_
        obtain ⟨r769q, lc_769, tn_769, rl_769, tg_769, tm_769, tl_769, hq769, hp⟩ := g_ob7 hp
        refine gV_calli C (gsub_cy_c _ _ rfl rfl) (gV_runSX (As := [.ref (h 0), .int (-1), .int s0]) (rest := []) C (mt_L_tell hl D h cI cJ lc_757 la hr uP uC uR tn_757 pn pg pq rl_757 sr gcb gpb tg_757 tm_757 tl_757 pm ps (-1) s0 r769q lc_769 tn_769 rl_769 tg_769 tm_769 tl_769 hq769) (vx_cwSW 3 C.2.2.2.2.1 gL_keeps_L_tell rfl rfl rfl hds_L_tell ⟨Nat.le_of_ble_eq_true rfl, Nat.le_of_ble_eq_true rfl⟩) (gsub_cy_c _ _ rfl rfl) rfl rfl (Nat.le_of_ble_eq_true rfl) dL_keeps_769 ⟨Nat.le_of_ble_eq_true rfl, Nat.le_of_ble_eq_true rfl⟩) (fun _ _ hx => False.elim hx) (fun r769 w1 hw => ?_)
        obtain ⟨rfl, rfl⟩ := hw
        refine gV_sub (ws' := (cW h cI cJ lc_769 la hr uP uC uR tn_769 pn pg pq rl_769 sr gcb gpb tg_769 tm_769 tl_769 pm ps) ++ (yW k cI cJ yg yq ym yw yh yr)) [6, 7, 8, 9, 10, 11, 12, 13, 14, 15, 16, 17, 18, 0, 1, 2, 3, 4, 5] (by decide) rfl rfl ?_
        refine gV_bipush (v := (-71)) C dL_keeps_772 rfl ?_
        refine gV_icmp_ne (tgt := 794) C dL_keeps_774 (by decide) (fun c774 => ?_) (fun c774 => ?_)
        · replace hp := g_iff hp c774
          refine gV_loc [1, 2, 3, 4, 5] rfl ?_
          refine gV_widen (k' := 8) (n' := 48) (Nat.le_of_ble_eq_true rfl) (Nat.le_of_ble_eq_true rfl) ?_
          exact J794 lc_769 la hr uP uC uR tn_769 pn pg pq rl_769 gcb gpb tg_769 tm_769 tl_769 pm ps yg yq ym yr hp
        · replace hp := g_ift hp c774
          refine gV_aload_n C dL_keeps_777 rfl 1 rfl ?_
          refine gV_iload C dL_keeps_778 6 rfl ?_
          refine gV_iload C dL_keeps_780 0 rfl ?_
          obtain ⟨r782q, pn_782, pg_782, pq_782, pm_782, ps_782, hq782, hp⟩ := g_ob6 hp
          refine gV_calli C (gsub_cy_c _ _ rfl rfl) (gV_runSX (As := [.ref (h 0), .int v7, .int s0]) (rest := []) C (mt_L_partSize hl D h cI cJ lc_769 la hr uP uC uR tn_769 pn pg pq rl_769 sr gcb gpb tg_769 tm_769 tl_769 pm ps v7 s0 r782q pn_782 pg_782 pq_782 pm_782 ps_782 hq782) (vx_cwSW 3 C.2.2.2.2.1 gL_keeps_L_partSize rfl rfl rfl hds_L_partSize ⟨Nat.le_of_ble_eq_true rfl, Nat.le_of_ble_eq_true rfl⟩) (gsub_cy_c _ _ rfl rfl) rfl rfl (Nat.le_of_ble_eq_true rfl) dL_keeps_782 ⟨Nat.le_of_ble_eq_true rfl, Nat.le_of_ble_eq_true rfl⟩) (fun _ _ hx => False.elim hx) (fun r782 w1 hw => ?_)
          obtain ⟨rfl, rfl⟩ := hw
          refine gV_sub (ws' := (cW h cI cJ lc_769 la hr uP uC uR tn_769 pn_782 pg_782 pq_782 rl_769 sr gcb gpb tg_769 tm_769 tl_769 pm_782 ps_782) ++ (yW k cI cJ yg yq ym yw yh yr)) [6, 7, 8, 9, 10, 11, 12, 13, 14, 15, 16, 17, 18, 0, 1, 2, 3, 4, 5] (by decide) rfl rfl ?_
          refine gV_bipush (v := (-72)) C dL_keeps_785 rfl ?_
          refine gV_icmp_ne (tgt := 794) C dL_keeps_787 (by decide) (fun c787 => ?_) (fun c787 => ?_)
          · replace hp := g_iff hp c787
            refine gV_loc [1, 2, 3, 4, 5] rfl ?_
            exact J794 lc_769 la hr uP uC uR tn_769 pn_782 pg_782 pq_782 rl_769 gcb gpb tg_769 tm_769 tl_769 pm_782 ps_782 yg yq ym yr hp
          · replace hp := g_ift hp c787
            refine gV_iconst (v := 1) C dL_keeps_790 rfl ?_
            refine gV_goto (tgt := 795) C dL_keeps_791 (by decide) ?_
            refine gV_loc [1, 2, 3, 4, 5] rfl ?_
            exact J795 1 lc_769 la hr uP uC uR tn_769 pn_782 pg_782 pq_782 rl_769 gcb gpb tg_769 tm_769 tl_769 pm_782 ps_782 yg yq ym yr hp
  have J738 : ∀ (v7 : Int32) (s0 : Int32) (s1 : Int32) (lc : Int32) (la : Int32) (hr : Int32) (uP : Int32) (uC : Int32) (uR : Int32) (tn : Int32) (pn : Int32) (pg : Int32) (pq : Int32) (rl : Nat → Int32) (gcb : Nat → Int32) (gpb : Nat → Int64) (tg : Nat → Int32) (tm : Nat → Int32) (tl : Nat → Int32) (pm : Nat → Int32) (ps : Nat → Int32) (yg : Nat → Int32) (yq : Nat → Int32) (ym : Nat → Int32) (yr : Nat → Int64), pf_L_keeps_j738 v7 s0 s1 lc la hr uP uC uR tn pn pg pq rl gcb gpb tg tm tl pm ps yg yq ym yr = (some (r0, lc0, la0, hr0, uP0, uC0, uR0, tn0, pn0, pg0, pq0, rl0, gcb0, gpb0, tg0, tm0, tl0, pm0, ps0, yg0, yq0, ym0, yr0)) → gV p l e rm_L_keeps s m args below meth c A D 13 Q ((cW h cI cJ lc la hr uP uC uR tn pn pg pq rl sr gcb gpb tg tm tl pm ps) ++ (yW k cI cJ yg yq ym yw yh yr)) [(0, .ref (h 0)), (3, .ref (k 0)), (4, .ref (k 5)), (5, .ref (k 1)), (6, .ref (k 2)), (7, .int v7)] 0 0 738 [.int s0, .int s1, .ref (k 5), .ref (k 0)] := by
    intro v7 s0 s1 lc la hr uP uC uR tn pn pg pq rl gcb gpb tg tm tl pm ps yg yq ym yr hp
    unfold pf_L_keeps_j738 at hp
    obtain ⟨r738q, hq738, hp⟩ := g_ob1 hp
    refine gV_calli C (gsub_cy_y _ _ rfl rfl) (gV_runS (As := [.ref (k 0), .ref (k 5), .int s1, .int s0]) (rest := []) C (mt_L_pins hl D k cI cJ yg yq ym yw yh yr s1 s0 r738q hq738) (va_cwS 4 C.2.2.2.2.1 gL_keeps_L_pins rfl rfl rfl hds_L_pins ⟨Nat.le_of_ble_eq_true rfl, Nat.le_of_ble_eq_true rfl⟩) (gsub_cy_y _ _ rfl rfl) rfl rfl (Nat.le_of_ble_eq_true rfl) dL_keeps_738 ⟨Nat.le_of_ble_eq_true rfl, Nat.le_of_ble_eq_true rfl⟩) (fun _ _ hx => False.elim hx) (fun r738 w1 hw => ?_)
    obtain ⟨rfl, rfl⟩ := hw
    refine gV_sub (ws' := (cW h cI cJ lc la hr uP uC uR tn pn pg pq rl sr gcb gpb tg tm tl pm ps) ++ (yW k cI cJ yg yq ym yw yh yr)) [0, 1, 2, 3, 4, 5, 6, 7, 8, 9, 10, 11, 12, 13, 14, 15, 16, 17, 18] (by decide) rfl rfl ?_
    exact J741 v7 r738 lc la hr uP uC uR tn pn pg pq rl gcb gpb tg tm tl pm ps yg yq ym yr hp
  have J736 : ∀ (v7 : Int32) (v10 : Int32) (s0 : Int32) (lc : Int32) (la : Int32) (hr : Int32) (uP : Int32) (uC : Int32) (uR : Int32) (tn : Int32) (pn : Int32) (pg : Int32) (pq : Int32) (rl : Nat → Int32) (gcb : Nat → Int32) (gpb : Nat → Int64) (tg : Nat → Int32) (tm : Nat → Int32) (tl : Nat → Int32) (pm : Nat → Int32) (ps : Nat → Int32) (yg : Nat → Int32) (yq : Nat → Int32) (ym : Nat → Int32) (yr : Nat → Int64), pf_L_keeps_j736 v7 v10 s0 lc la hr uP uC uR tn pn pg pq rl gcb gpb tg tm tl pm ps yg yq ym yr = (some (r0, lc0, la0, hr0, uP0, uC0, uR0, tn0, pn0, pg0, pq0, rl0, gcb0, gpb0, tg0, tm0, tl0, pm0, ps0, yg0, yq0, ym0, yr0)) → gV p l e rm_L_keeps s m args below meth c A D 13 Q ((cW h cI cJ lc la hr uP uC uR tn pn pg pq rl sr gcb gpb tg tm tl pm ps) ++ (yW k cI cJ yg yq ym yw yh yr)) [(0, .ref (h 0)), (3, .ref (k 0)), (4, .ref (k 5)), (5, .ref (k 1)), (6, .ref (k 2)), (7, .int v7), (10, .int v10)] 0 0 736 [.int s0, .ref (k 5), .ref (k 0)] := by
    intro v7 v10 s0 lc la hr uP uC uR tn pn pg pq rl gcb gpb tg tm tl pm ps yg yq ym yr hp
    unfold pf_L_keeps_j736 at hp
    refine gV_iload C dL_keeps_736 6 rfl ?_
    refine gV_loc [0, 1, 2, 3, 4, 5] rfl ?_
    exact J738 v7 v10 s0 lc la hr uP uC uR tn pn pg pq rl gcb gpb tg tm tl pm ps yg yq ym yr hp
  have J676 : ∀ (v7 : Int32) (v10 : Int32) (lc : Int32) (la : Int32) (hr : Int32) (uP : Int32) (uC : Int32) (uR : Int32) (tn : Int32) (pn : Int32) (pg : Int32) (pq : Int32) (rl : Nat → Int32) (gcb : Nat → Int32) (gpb : Nat → Int64) (tg : Nat → Int32) (tm : Nat → Int32) (tl : Nat → Int32) (pm : Nat → Int32) (ps : Nat → Int32) (yg : Nat → Int32) (yq : Nat → Int32) (ym : Nat → Int32) (yr : Nat → Int64), pf_L_keeps_j676 v2 v7 v10 lc la hr uP uC uR tn pn pg pq rl gcb gpb tg tm tl pm ps yg yq ym yr = (some (r0, lc0, la0, hr0, uP0, uC0, uR0, tn0, pn0, pg0, pq0, rl0, gcb0, gpb0, tg0, tm0, tl0, pm0, ps0, yg0, yq0, ym0, yr0)) → gV p l e rm_L_keeps s m args below meth c A D 13 Q ((cW h cI cJ lc la hr uP uC uR tn pn pg pq rl sr gcb gpb tg tm tl pm ps) ++ (yW k cI cJ yg yq ym yw yh yr)) [(0, .ref (h 0)), (2, .int v2), (3, .ref (k 0)), (4, .ref (k 5)), (5, .ref (k 1)), (6, .ref (k 2)), (7, .int v7), (10, .int v10)] 0 0 676 [] := by
    intro v7 v10 lc la hr uP uC uR tn pn pg pq rl gcb gpb tg tm tl pm ps yg yq ym yr hp
    unfold pf_L_keeps_j676 at hp
    refine gV_iload_n C dL_keeps_676 rfl 1 rfl ?_
    refine gV_ldc (v := 786432) C dL_keeps_677 (C.w 2 rfl) ?_
    refine gV_iand C dL_keeps_679 ?_
    refine gV_if_ne (tgt := 712) C dL_keeps_680 (by decide) (fun c680 => ?_) (fun c680 => ?_)
    · replace hp := g_iff hp c680
      refine gV_aload_n C dL_keeps_712 rfl 2 rfl ?_
      refine gV_aload C dL_keeps_713 3 rfl ?_
      refine gV_iload C dL_keeps_715 6 rfl ?_
      refine gV_aload_n C dL_keeps_717 rfl 2 rfl ?_
      refine gV_iconst (v := 4) C dL_keeps_718 rfl ?_
      obtain ⟨hi719, hp⟩ := g_idx hp
      refine gV_iald C 13 rfl 0 rfl hi719 dL_keeps_719 ?_
      refine gV_if_lt (tgt := 736) C dL_keeps_720 (by decide) (fun c720 => ?_) (fun c720 => ?_)
      · replace hp := g_ift hp c720
        refine gV_loc [0, 2, 3, 4, 5, 6, 7] rfl ?_
        exact J736 v7 v10 v7 lc la hr uP uC uR tn pn pg pq rl gcb gpb tg tm tl pm ps yg yq ym yr hp
      · replace hp := g_iff hp c720
        refine gV_iload_n C dL_keeps_723 rfl 1 rfl ?_
        refine gV_ldc (v := 3145728) C dL_keeps_724 (C.w 3 rfl) ?_
        refine gV_iand C dL_keeps_726 ?_
        refine gV_if_le (tgt := 736) C dL_keeps_727 (by decide) (fun c727 => ?_) (fun c727 => ?_)
        · replace hp := g_ift hp c727
          refine gV_loc [0, 2, 3, 4, 5, 6, 7] rfl ?_
          exact J736 v7 v10 v7 lc la hr uP uC uR tn pn pg pq rl gcb gpb tg tm tl pm ps yg yq ym yr hp
        · replace hp := g_iff hp c727
          refine gV_aload_n C dL_keeps_730 rfl 2 rfl ?_
          refine gV_iconst (v := 4) C dL_keeps_731 rfl ?_
          obtain ⟨hi732, hp⟩ := g_idx hp
          refine gV_iald C 13 rfl 0 rfl hi732 dL_keeps_732 ?_
          refine gV_goto (tgt := 738) C dL_keeps_733 (by decide) ?_
          refine gV_loc [0, 2, 3, 4, 5, 6] rfl ?_
          exact J738 v7 (yg (4 : Int32).toNatClampNeg) v7 lc la hr uP uC uR tn pn pg pq rl gcb gpb tg tm tl pm ps yg yq ym yr hp
    · replace hp := g_ift hp c680
      refine gV_bipush (v := 10) C dL_keeps_683 rfl ?_
      refine gV_iload_n C dL_keeps_685 rfl 1 rfl ?_
      refine gV_bipush (v := 20) C dL_keeps_686 rfl ?_
      refine gV_ishr C dL_keeps_688 ?_
      refine gV_aload_n C dL_keeps_689 rfl 2 rfl ?_
      refine gV_iconst (v := 0) C dL_keeps_690 rfl ?_
      obtain ⟨hi691, hp⟩ := g_idx hp
      refine gV_iald C 13 rfl 0 rfl hi691 dL_keeps_691 ?_
      refine gV_iconst (v := 1) C dL_keeps_692 rfl ?_
      refine gV_iadd C dL_keeps_693 ?_
      obtain ⟨r694q, hq694, hp⟩ := g_ob1 hp
      refine gV_calliE C (gV_runS (As := [.int (v2 >>> (20 &&& 31)), .int ((yg (0 : Int32).toNatClampNeg) + 1)]) (rest := [.int 10]) C (mt_L_low hl D cI cJ (v2 >>> (20 &&& 31)) ((yg (0 : Int32).toNatClampNeg) + 1) r694q hq694) (va_cwS 2 C.2.2.2.2.1 gL_keeps_L_low rfl rfl rfl hds_L_low ⟨Nat.le_of_ble_eq_true rfl, Nat.le_of_ble_eq_true rfl⟩) (gSub_E _) rfl rfl (Nat.le_of_ble_eq_true rfl) dL_keeps_694 ⟨Nat.le_of_ble_eq_true rfl, Nat.le_of_ble_eq_true rfl⟩) (fun _ _ hx => False.elim hx) (fun r694 w1 hw => ?_)
      obtain ⟨rfl, rfl⟩ := hw
      refine ⟨rfl, ?_⟩
      refine gV_imul C dL_keeps_697 ?_
      refine gV_iload_n C dL_keeps_698 rfl 1 rfl ?_
      refine gV_bipush (v := 24) C dL_keeps_699 rfl ?_
      refine gV_ishr C dL_keeps_701 ?_
      refine gV_iconst (v := 4) C dL_keeps_702 rfl ?_
      obtain ⟨r703q, hq703, hp⟩ := g_ob1 hp
      refine gV_calliE C (gV_runS (As := [.int (v2 >>> (24 &&& 31)), .int 4]) (rest := [.int (10 * r694)]) C (mt_L_low hl D cI cJ (v2 >>> (24 &&& 31)) 4 r703q hq703) (va_cwS 2 C.2.2.2.2.1 gL_keeps_L_low rfl rfl rfl hds_L_low ⟨Nat.le_of_ble_eq_true rfl, Nat.le_of_ble_eq_true rfl⟩) (gSub_E _) rfl rfl (Nat.le_of_ble_eq_true rfl) dL_keeps_703 ⟨Nat.le_of_ble_eq_true rfl, Nat.le_of_ble_eq_true rfl⟩) (fun _ _ hx => False.elim hx) (fun r703 w1 hw => ?_)
      obtain ⟨rfl, rfl⟩ := hw
      refine ⟨rfl, ?_⟩
      refine gV_iadd C dL_keeps_706 ?_
      refine gV_iconst (v := 1) C dL_keeps_707 rfl ?_
      refine gV_isub C dL_keeps_708 ?_
      refine gV_goto (tgt := 741) C dL_keeps_709 (by decide) ?_
      refine gV_loc [0, 2, 3, 4, 5, 6] rfl ?_
      exact J741 v7 (((10 * r694) + r703) - 1) lc la hr uP uC uR tn pn pg pq rl gcb gpb tg tm tl pm ps yg yq ym yr hp
  have L635 : ∀ (v7 : Int32) (v8 : Int64) (lc : Int32) (la : Int32) (hr : Int32) (uP : Int32) (uC : Int32) (uR : Int32) (tn : Int32) (pn : Int32) (pg : Int32) (pq : Int32) (rl : Nat → Int32) (gcb : Nat → Int32) (gpb : Nat → Int64) (tg : Nat → Int32) (tm : Nat → Int32) (tl : Nat → Int32) (pm : Nat → Int32) (ps : Nat → Int32) (yg : Nat → Int32) (yq : Nat → Int32) (ym : Nat → Int32) (yr : Nat → Int64) (n635 : Nat) (v10 : Int32) (v11 : Int32), pf_L_keeps_L635 v2 v7 v8 lc la hr uP uC uR tn pn pg pq rl gcb gpb tg tm tl pm ps yg yq ym yr n635 v10 v11 = (some (r0, lc0, la0, hr0, uP0, uC0, uR0, tn0, pn0, pg0, pq0, rl0, gcb0, gpb0, tg0, tm0, tl0, pm0, ps0, yg0, yq0, ym0, yr0)) → gV p l e rm_L_keeps s m args below meth c A D 13 Q ((cW h cI cJ lc la hr uP uC uR tn pn pg pq rl sr gcb gpb tg tm tl pm ps) ++ (yW k cI cJ yg yq ym yw yh yr)) [(0, .ref (h 0)), (2, .int v2), (3, .ref (k 0)), (4, .ref (k 5)), (5, .ref (k 1)), (6, .ref (k 2)), (7, .int v7), (8, .long v8), (10, .int v10), (11, .int v11)] 0 0 635 [] := by
    intro v7 v8 lc la hr uP uC uR tn pn pg pq rl gcb gpb tg tm tl pm ps yg yq ym yr n635
    induction n635 with
    | zero => intro v10 v11 hp; exact g_none hp
    | succ n635 ih635 =>
      intro v10 v11 hp
      rw [pf_L_keeps_L635.eq_2] at hp
      refine gV_iload C dL_keeps_635 9 rfl ?_
      refine gV_aload_n C dL_keeps_637 rfl 2 rfl ?_
      refine gV_iconst (v := 2) C dL_keeps_638 rfl ?_
      obtain ⟨hi639, hp⟩ := g_idx hp
      refine gV_iald C 13 rfl 0 rfl hi639 dL_keeps_639 ?_
      refine gV_icmp_ge (tgt := 676) C dL_keeps_640 (by decide) (fun c640 => ?_) (fun c640 => ?_)
      · replace hp := g_ift hp c640
        refine gV_loc [0, 1, 2, 3, 4, 5, 6, 8] rfl ?_
        exact J676 v7 v10 lc la hr uP uC uR tn pn pg pq rl gcb gpb tg tm tl pm ps yg yq ym yr hp
      · replace hp := g_iff hp c640
        refine gV_lload C dL_keeps_643 7 rfl ?_
        refine gV_iload C dL_keeps_645 8 rfl ?_
        obtain ⟨r647q, hq647, hp⟩ := g_ob1 hp
        refine gV_calliE C (gV_runS (As := [.long v8, .int v10]) (rest := []) C (mt_L_has hl D cI cJ v8 v10 r647q hq647) (va_cwS 2 C.2.2.2.2.1 gL_keeps_L_has rfl rfl rfl hds_L_has ⟨Nat.le_of_ble_eq_true rfl, Nat.le_of_ble_eq_true rfl⟩) (gSub_E _) rfl rfl (Nat.le_of_ble_eq_true rfl) dL_keeps_647 ⟨Nat.le_of_ble_eq_true rfl, Nat.le_of_ble_eq_true rfl⟩) (fun _ _ hx => False.elim hx) (fun r647 w1 hw => ?_)
        obtain ⟨rfl, rfl⟩ := hw
        refine ⟨rfl, ?_⟩
        refine gV_if_ne (tgt := 676) C dL_keeps_650 (by decide) (fun c650 => ?_) (fun c650 => ?_)
        · replace hp := g_iff hp c650
          refine gV_loc [0, 1, 2, 3, 4, 5, 6, 8] rfl ?_
          exact J676 v7 v10 lc la hr uP uC uR tn pn pg pq rl gcb gpb tg tm tl pm ps yg yq ym yr hp
        · replace hp := g_ift hp c650
          refine gV_iload_n C dL_keeps_653 rfl 1 rfl ?_
          refine gV_ldc (v := 196608) C dL_keeps_654 (C.w 1 rfl) ?_
          refine gV_iand C dL_keeps_656 ?_
          refine gV_if_le (tgt := 676) C dL_keeps_657 (by decide) (fun c657 => ?_) (fun c657 => ?_)
          · replace hp := g_ift hp c657
            refine gV_loc [0, 1, 2, 3, 4, 5, 6, 8] rfl ?_
            exact J676 v7 v10 lc la hr uP uC uR tn pn pg pq rl gcb gpb tg tm tl pm ps yg yq ym yr hp
          · replace hp := g_iff hp c657
            refine gV_iload C dL_keeps_660 8 rfl ?_
            refine gV_iconst (v := 1) C dL_keeps_662 rfl ?_
            refine gV_iadd C dL_keeps_663 ?_
            refine gV_aload_n C dL_keeps_664 rfl 2 rfl ?_
            refine gV_iconst (v := 2) C dL_keeps_665 rfl ?_
            obtain ⟨hi666, hp⟩ := g_idx hp
            refine gV_iald C 13 rfl 0 rfl hi666 dL_keeps_666 ?_
            obtain ⟨hd667, hp⟩ := g_div hp
            refine gV_irem C dL_keeps_667 hd667 ?_
            refine gV_topI (fun v10_668 he668 => ?_)
            replace hp := g_let hp he668
            refine gV_istore (lvs' := [(10, .int v10_668), (0, .ref (h 0)), (2, .int v2), (3, .ref (k 0)), (4, .ref (k 5)), (5, .ref (k 1)), (6, .ref (k 2)), (7, .int v7), (8, .long v8), (11, .int v11)]) C dL_keeps_668 (by decide) rfl ?_
            refine gV_iinc (v := (v11 + 1)) (lvs' := [(11, .int (v11 + 1)), (10, .int v10_668), (0, .ref (h 0)), (2, .int v2), (3, .ref (k 0)), (4, .ref (k 5)), (5, .ref (k 1)), (6, .ref (k 2)), (7, .int v7), (8, .long v8)]) C dL_keeps_670 9 rfl rfl (by decide) rfl ?_
            refine gV_goto (tgt := 635) C dL_keeps_673 (by decide) ?_
            refine gV_loc [2, 3, 4, 5, 6, 7, 8, 9, 1, 0] rfl ?_
            exact ih635 v10_668 (v11 + 1) hp
  have J613 : ∀ (s0 : Int32) (lc : Int32) (la : Int32) (hr : Int32) (uP : Int32) (uC : Int32) (uR : Int32) (tn : Int32) (pn : Int32) (pg : Int32) (pq : Int32) (rl : Nat → Int32) (gcb : Nat → Int32) (gpb : Nat → Int64) (tg : Nat → Int32) (tm : Nat → Int32) (tl : Nat → Int32) (pm : Nat → Int32) (ps : Nat → Int32) (yg : Nat → Int32) (yq : Nat → Int32) (ym : Nat → Int32) (yr : Nat → Int64), pf_L_keeps_j613 s0 lc la hr uP uC uR tn pn pg pq rl gcb gpb tg tm tl pm ps yg yq ym yr = (some (r0, lc0, la0, hr0, uP0, uC0, uR0, tn0, pn0, pg0, pq0, rl0, gcb0, gpb0, tg0, tm0, tl0, pm0, ps0, yg0, yq0, ym0, yr0)) → gV p l e rm_L_keeps s m args below meth c A D 13 Q ((cW h cI cJ lc la hr uP uC uR tn pn pg pq rl sr gcb gpb tg tm tl pm ps) ++ (yW k cI cJ yg yq ym yw yh yr)) [(0, .ref (h 0)), (3, .ref (k 0)), (4, .ref (k 5)), (5, .ref (k 1)), (6, .ref (k 2))] 2 12 613 [.int s0] := by
    intro s0 lc la hr uP uC uR tn pn pg pq rl gcb gpb tg tm tl pm ps yg yq ym yr hp
    unfold pf_L_keeps_j613 at hp
    obtain ⟨hz613, hp⟩ := g_bool hp
    obtain ⟨rfl, rfl, rfl, rfl, rfl, rfl, rfl, rfl, rfl, rfl, rfl, rfl, rfl, rfl, rfl, rfl, rfl, rfl, rfl, rfl, rfl, rfl, rfl⟩ := g_so23 hp
    exact RET _ _ _ _ _ _ dL_keeps_613 (Nat.le_of_ble_eq_true rfl) (Nat.le_of_ble_eq_true rfl) (g_nz hz613) ⟨rfl, rfl⟩
  have J558 : ∀ (s0 : Int32) (lc : Int32) (la : Int32) (hr : Int32) (uP : Int32) (uC : Int32) (uR : Int32) (tn : Int32) (pn : Int32) (pg : Int32) (pq : Int32) (rl : Nat → Int32) (gcb : Nat → Int32) (gpb : Nat → Int64) (tg : Nat → Int32) (tm : Nat → Int32) (tl : Nat → Int32) (pm : Nat → Int32) (ps : Nat → Int32) (yg : Nat → Int32) (yq : Nat → Int32) (ym : Nat → Int32) (yr : Nat → Int64), pf_L_keeps_j558 s0 lc la hr uP uC uR tn pn pg pq rl gcb gpb tg tm tl pm ps yg yq ym yr = (some (r0, lc0, la0, hr0, uP0, uC0, uR0, tn0, pn0, pg0, pq0, rl0, gcb0, gpb0, tg0, tm0, tl0, pm0, ps0, yg0, yq0, ym0, yr0)) → gV p l e rm_L_keeps s m args below meth c A D 13 Q ((cW h cI cJ lc la hr uP uC uR tn pn pg pq rl sr gcb gpb tg tm tl pm ps) ++ (yW k cI cJ yg yq ym yw yh yr)) [(0, .ref (h 0)), (3, .ref (k 0)), (4, .ref (k 5)), (5, .ref (k 1)), (6, .ref (k 2))] 4 24 558 [.int s0] := by
    intro s0 lc la hr uP uC uR tn pn pg pq rl gcb gpb tg tm tl pm ps yg yq ym yr hp
    unfold pf_L_keeps_j558 at hp
    obtain ⟨hz558, hp⟩ := g_bool hp
    obtain ⟨rfl, rfl, rfl, rfl, rfl, rfl, rfl, rfl, rfl, rfl, rfl, rfl, rfl, rfl, rfl, rfl, rfl, rfl, rfl, rfl, rfl, rfl, rfl⟩ := g_so23 hp
    exact RET _ _ _ _ _ _ dL_keeps_558 (Nat.le_of_ble_eq_true rfl) (Nat.le_of_ble_eq_true rfl) (g_nz hz558) ⟨rfl, rfl⟩
  have J557 : ∀ (lc : Int32) (la : Int32) (hr : Int32) (uP : Int32) (uC : Int32) (uR : Int32) (tn : Int32) (pn : Int32) (pg : Int32) (pq : Int32) (rl : Nat → Int32) (gcb : Nat → Int32) (gpb : Nat → Int64) (tg : Nat → Int32) (tm : Nat → Int32) (tl : Nat → Int32) (pm : Nat → Int32) (ps : Nat → Int32) (yg : Nat → Int32) (yq : Nat → Int32) (ym : Nat → Int32) (yr : Nat → Int64), pf_L_keeps_j557 lc la hr uP uC uR tn pn pg pq rl gcb gpb tg tm tl pm ps yg yq ym yr = (some (r0, lc0, la0, hr0, uP0, uC0, uR0, tn0, pn0, pg0, pq0, rl0, gcb0, gpb0, tg0, tm0, tl0, pm0, ps0, yg0, yq0, ym0, yr0)) → gV p l e rm_L_keeps s m args below meth c A D 13 Q ((cW h cI cJ lc la hr uP uC uR tn pn pg pq rl sr gcb gpb tg tm tl pm ps) ++ (yW k cI cJ yg yq ym yw yh yr)) [(0, .ref (h 0)), (3, .ref (k 0)), (4, .ref (k 5)), (5, .ref (k 1)), (6, .ref (k 2))] 4 24 557 [] := by
    intro lc la hr uP uC uR tn pn pg pq rl gcb gpb tg tm tl pm ps yg yq ym yr hp
    unfold pf_L_keeps_j557 at hp
    refine gV_iconst (v := 0) C dL_keeps_557 rfl ?_
    exact J558 0 lc la hr uP uC uR tn pn pg pq rl gcb gpb tg tm tl pm ps yg yq ym yr hp
  have J530 : ∀ (v7 : Int32) (lc : Int32) (la : Int32) (hr : Int32) (uP : Int32) (uC : Int32) (uR : Int32) (tn : Int32) (pn : Int32) (pg : Int32) (pq : Int32) (rl : Nat → Int32) (gcb : Nat → Int32) (gpb : Nat → Int64) (tg : Nat → Int32) (tm : Nat → Int32) (tl : Nat → Int32) (pm : Nat → Int32) (ps : Nat → Int32) (yg : Nat → Int32) (yq : Nat → Int32) (ym : Nat → Int32) (yr : Nat → Int64), pf_L_keeps_j530 v7 lc la hr uP uC uR tn pn pg pq rl gcb gpb tg tm tl pm ps yg yq ym yr = (some (r0, lc0, la0, hr0, uP0, uC0, uR0, tn0, pn0, pg0, pq0, rl0, gcb0, gpb0, tg0, tm0, tl0, pm0, ps0, yg0, yq0, ym0, yr0)) → gV p l e rm_L_keeps s m args below meth c A D 13 Q ((cW h cI cJ lc la hr uP uC uR tn pn pg pq rl sr gcb gpb tg tm tl pm ps) ++ (yW k cI cJ yg yq ym yw yh yr)) [(0, .ref (h 0)), (3, .ref (k 0)), (4, .ref (k 5)), (5, .ref (k 1)), (6, .ref (k 2)), (7, .int v7)] 0 0 530 [] := by
    intro v7 lc la hr uP uC uR tn pn pg pq rl gcb gpb tg tm tl pm ps yg yq ym yr hp
    unfold pf_L_keeps_j530 at hp
    refine gV_aload_n C dL_keeps_530 rfl 0 rfl ?_
    refine gV_iload C dL_keeps_531 5 rfl ?_
    obtain ⟨r533q, lc_533, tn_533, rl_533, tg_533, tm_533, tl_533, hq533, hp⟩ := g_ob7 hp
    refine gV_calli C (gsub_cy_c _ _ rfl rfl) (gV_runSX (As := [.ref (h 0), .int v7]) (rest := []) C (mt_L_guess hl D h cI cJ lc la hr uP uC uR tn pn pg pq rl sr gcb gpb tg tm tl pm ps v7 r533q lc_533 tn_533 rl_533 tg_533 tm_533 tl_533 hq533) (vx_cwSW 2 C.2.2.2.2.1 gL_keeps_L_guess rfl rfl rfl hds_L_guess ⟨Nat.le_of_ble_eq_true rfl, Nat.le_of_ble_eq_true rfl⟩) (gsub_cy_c _ _ rfl rfl) rfl rfl (Nat.le_of_ble_eq_true rfl) dL_keeps_533 ⟨Nat.le_of_ble_eq_true rfl, Nat.le_of_ble_eq_true rfl⟩) (fun _ _ hx => False.elim hx) (fun r533 w1 hw => ?_)
    obtain ⟨rfl, rfl⟩ := hw
    refine gV_sub (ws' := (cW h cI cJ lc_533 la hr uP uC uR tn_533 pn pg pq rl_533 sr gcb gpb tg_533 tm_533 tl_533 pm ps) ++ (yW k cI cJ yg yq ym yw yh yr)) [6, 7, 8, 9, 10, 11, 12, 13, 14, 15, 16, 17, 18, 0, 1, 2, 3, 4, 5] (by decide) rfl rfl ?_
    refine gV_bipush (v := (-73)) C dL_keeps_536 rfl ?_
    refine gV_icmp_ne (tgt := 557) C dL_keeps_538 (by decide) (fun c538 => ?_) (fun c538 => ?_)
    · replace hp := g_iff hp c538
      refine gV_loc [0, 1, 2, 3, 4] rfl ?_
      refine gV_widen (k' := 4) (n' := 24) (Nat.le_of_ble_eq_true rfl) (Nat.le_of_ble_eq_true rfl) ?_
      exact J557 lc_533 la hr uP uC uR tn_533 pn pg pq rl_533 gcb gpb tg_533 tm_533 tl_533 pm ps yg yq ym yr hp
    · replace hp := g_ift hp c538
      refine gV_aload_n C dL_keeps_541 rfl 0 rfl ?_
      refine gV_aload_n C dL_keeps_542 rfl 1 rfl ?_
      refine gV_iconst (v := 2) C dL_keeps_543 rfl ?_
      obtain ⟨hi544, hp⟩ := g_idx hp
      refine gV_iald C 13 rfl 0 rfl hi544 dL_keeps_544 ?_
      obtain ⟨r545q, lc_545, tn_545, rl_545, tg_545, tm_545, tl_545, hq545, hp⟩ := g_ob7 hp
      refine gV_calli C (gsub_cy_c _ _ rfl rfl) (gV_runSX (As := [.ref (h 0), .int (yg (2 : Int32).toNatClampNeg)]) (rest := []) C (mt_L_guess hl D h cI cJ lc_533 la hr uP uC uR tn_533 pn pg pq rl_533 sr gcb gpb tg_533 tm_533 tl_533 pm ps (yg (2 : Int32).toNatClampNeg) r545q lc_545 tn_545 rl_545 tg_545 tm_545 tl_545 hq545) (vx_cwSW 2 C.2.2.2.2.1 gL_keeps_L_guess rfl rfl rfl hds_L_guess ⟨Nat.le_of_ble_eq_true rfl, Nat.le_of_ble_eq_true rfl⟩) (gsub_cy_c _ _ rfl rfl) rfl rfl (Nat.le_of_ble_eq_true rfl) dL_keeps_545 ⟨Nat.le_of_ble_eq_true rfl, Nat.le_of_ble_eq_true rfl⟩) (fun _ _ hx => False.elim hx) (fun r545 w1 hw => ?_)
      obtain ⟨rfl, rfl⟩ := hw
      refine gV_sub (ws' := (cW h cI cJ lc_545 la hr uP uC uR tn_545 pn pg pq rl_545 sr gcb gpb tg_545 tm_545 tl_545 pm ps) ++ (yW k cI cJ yg yq ym yw yh yr)) [6, 7, 8, 9, 10, 11, 12, 13, 14, 15, 16, 17, 18, 0, 1, 2, 3, 4, 5] (by decide) rfl rfl ?_
      refine gV_bipush (v := (-71)) C dL_keeps_548 rfl ?_
      refine gV_icmp_ne (tgt := 557) C dL_keeps_550 (by decide) (fun c550 => ?_) (fun c550 => ?_)
      · replace hp := g_iff hp c550
        refine gV_loc [0, 1, 2, 3, 4] rfl ?_
        exact J557 lc_545 la hr uP uC uR tn_545 pn pg pq rl_545 gcb gpb tg_545 tm_545 tl_545 pm ps yg yq ym yr hp
      · replace hp := g_ift hp c550
        refine gV_iconst (v := 1) C dL_keeps_553 rfl ?_
        refine gV_goto (tgt := 558) C dL_keeps_554 (by decide) ?_
        refine gV_loc [0, 1, 2, 3, 4] rfl ?_
        exact J558 1 lc_545 la hr uP uC uR tn_545 pn pg pq rl_545 gcb gpb tg_545 tm_545 tl_545 pm ps yg yq ym yr hp
  have J510 : ∀ (s0 : Int32) (lc : Int32) (la : Int32) (hr : Int32) (uP : Int32) (uC : Int32) (uR : Int32) (tn : Int32) (pn : Int32) (pg : Int32) (pq : Int32) (rl : Nat → Int32) (gcb : Nat → Int32) (gpb : Nat → Int64) (tg : Nat → Int32) (tm : Nat → Int32) (tl : Nat → Int32) (pm : Nat → Int32) (ps : Nat → Int32) (yg : Nat → Int32) (yq : Nat → Int32) (ym : Nat → Int32) (yr : Nat → Int64), pf_L_keeps_j510 s0 lc la hr uP uC uR tn pn pg pq rl gcb gpb tg tm tl pm ps yg yq ym yr = (some (r0, lc0, la0, hr0, uP0, uC0, uR0, tn0, pn0, pg0, pq0, rl0, gcb0, gpb0, tg0, tm0, tl0, pm0, ps0, yg0, yq0, ym0, yr0)) → gV p l e rm_L_keeps s m args below meth c A D 13 Q ((cW h cI cJ lc la hr uP uC uR tn pn pg pq rl sr gcb gpb tg tm tl pm ps) ++ (yW k cI cJ yg yq ym yw yh yr)) [(0, .ref (h 0)), (3, .ref (k 0)), (4, .ref (k 5)), (5, .ref (k 1)), (6, .ref (k 2))] 2 12 510 [.int s0] := by
    intro s0 lc la hr uP uC uR tn pn pg pq rl gcb gpb tg tm tl pm ps yg yq ym yr hp
    unfold pf_L_keeps_j510 at hp
    obtain ⟨hz510, hp⟩ := g_bool hp
    obtain ⟨rfl, rfl, rfl, rfl, rfl, rfl, rfl, rfl, rfl, rfl, rfl, rfl, rfl, rfl, rfl, rfl, rfl, rfl, rfl, rfl, rfl, rfl, rfl⟩ := g_so23 hp
    exact RET _ _ _ _ _ _ dL_keeps_510 (Nat.le_of_ble_eq_true rfl) (Nat.le_of_ble_eq_true rfl) (g_nz hz510) ⟨rfl, rfl⟩
  have J502 : ∀ (s0 : Int32) (s1 : Int32) (lc : Int32) (la : Int32) (hr : Int32) (uP : Int32) (uC : Int32) (uR : Int32) (tn : Int32) (pn : Int32) (pg : Int32) (pq : Int32) (rl : Nat → Int32) (gcb : Nat → Int32) (gpb : Nat → Int64) (tg : Nat → Int32) (tm : Nat → Int32) (tl : Nat → Int32) (pm : Nat → Int32) (ps : Nat → Int32) (yg : Nat → Int32) (yq : Nat → Int32) (ym : Nat → Int32) (yr : Nat → Int64), pf_L_keeps_j502 s0 s1 lc la hr uP uC uR tn pn pg pq rl gcb gpb tg tm tl pm ps yg yq ym yr = (some (r0, lc0, la0, hr0, uP0, uC0, uR0, tn0, pn0, pg0, pq0, rl0, gcb0, gpb0, tg0, tm0, tl0, pm0, ps0, yg0, yq0, ym0, yr0)) → gV p l e rm_L_keeps s m args below meth c A D 13 Q ((cW h cI cJ lc la hr uP uC uR tn pn pg pq rl sr gcb gpb tg tm tl pm ps) ++ (yW k cI cJ yg yq ym yw yh yr)) [(0, .ref (h 0)), (3, .ref (k 0)), (4, .ref (k 5)), (5, .ref (k 1)), (6, .ref (k 2))] 2 12 502 [.int s0, .int s1] := by
    intro s0 s1 lc la hr uP uC uR tn pn pg pq rl gcb gpb tg tm tl pm ps yg yq ym yr hp
    unfold pf_L_keeps_j502 at hp
    refine gV_icmp_ne (tgt := 509) C dL_keeps_502 (by decide) (fun c502 => ?_) (fun c502 => ?_)
    · replace hp := g_iff hp c502
      refine gV_iconst (v := 0) C dL_keeps_509 rfl ?_
      exact J510 0 lc la hr uP uC uR tn pn pg pq rl gcb gpb tg tm tl pm ps yg yq ym yr hp
    · replace hp := g_ift hp c502
      refine gV_iconst (v := 1) C dL_keeps_505 rfl ?_
      refine gV_goto (tgt := 510) C dL_keeps_506 (by decide) ?_
      exact J510 1 lc la hr uP uC uR tn pn pg pq rl gcb gpb tg tm tl pm ps yg yq ym yr hp
  have J479 : ∀ (v7 : Int32) (s0 : Int32) (lc : Int32) (la : Int32) (hr : Int32) (uP : Int32) (uC : Int32) (uR : Int32) (tn : Int32) (pn : Int32) (pg : Int32) (pq : Int32) (rl : Nat → Int32) (gcb : Nat → Int32) (gpb : Nat → Int64) (tg : Nat → Int32) (tm : Nat → Int32) (tl : Nat → Int32) (pm : Nat → Int32) (ps : Nat → Int32) (yg : Nat → Int32) (yq : Nat → Int32) (ym : Nat → Int32) (yr : Nat → Int64), pf_L_keeps_j479 v7 s0 lc la hr uP uC uR tn pn pg pq rl gcb gpb tg tm tl pm ps yg yq ym yr = (some (r0, lc0, la0, hr0, uP0, uC0, uR0, tn0, pn0, pg0, pq0, rl0, gcb0, gpb0, tg0, tm0, tl0, pm0, ps0, yg0, yq0, ym0, yr0)) → gV p l e rm_L_keeps s m args below meth c A D 13 Q ((cW h cI cJ lc la hr uP uC uR tn pn pg pq rl sr gcb gpb tg tm tl pm ps) ++ (yW k cI cJ yg yq ym yw yh yr)) [(0, .ref (h 0)), (3, .ref (k 0)), (4, .ref (k 5)), (5, .ref (k 1)), (6, .ref (k 2)), (7, .int v7)] 0 0 479 [.int s0] := by
    intro v7 s0 lc la hr uP uC uR tn pn pg pq rl gcb gpb tg tm tl pm ps yg yq ym yr hp
    unfold pf_L_keeps_j479 at hp
    refine gV_istore (lvs' := [(10, .int s0), (0, .ref (h 0)), (3, .ref (k 0)), (4, .ref (k 5)), (5, .ref (k 1)), (6, .ref (k 2)), (7, .int v7)]) C dL_keeps_479 (by decide) rfl ?_
    refine gV_aload_n C dL_keeps_481 rfl 2 rfl ?_
    refine gV_iconst (v := 4) C dL_keeps_482 rfl ?_
    refine gV_iload C dL_keeps_483 6 rfl ?_
    obtain ⟨hi485, hp⟩ := g_idx hp
    refine gV_iast (ws' := (cW h cI cJ lc la hr uP uC uR tn pn pg pq rl sr gcb gpb tg tm tl pm ps) ++ (yW k cI cJ (upd yg (4 : Int32).toNatClampNeg v7) yq ym yw yh yr)) C 13 rfl 0 rfl hi485 dL_keeps_485 rfl ?_
    refine gV_aload_n C dL_keeps_486 rfl 1 rfl ?_
    refine gV_iload C dL_keeps_487 6 rfl ?_
    obtain ⟨r489q, hr_489, hq489, hp⟩ := g_ob2 hp
    refine gV_calli C (gsub_cy_c _ _ rfl rfl) (gV_runSX (As := [.ref (h 0), .int v7]) (rest := []) C (mt_L_hide hl D h cI cJ lc la hr uP uC uR tn pn pg pq rl sr gcb gpb tg tm tl pm ps v7 r489q hr_489 hq489) (vx_cwSW 2 C.2.2.2.2.1 gL_keeps_L_hide rfl rfl rfl hds_L_hide ⟨Nat.le_of_ble_eq_true rfl, Nat.le_of_ble_eq_true rfl⟩) (gsub_cy_c _ _ rfl rfl) rfl rfl (Nat.le_of_ble_eq_true rfl) dL_keeps_489 ⟨Nat.le_of_ble_eq_true rfl, Nat.le_of_ble_eq_true rfl⟩) (fun _ _ hx => False.elim hx) (fun r489 w1 hw => ?_)
    obtain ⟨rfl, rfl⟩ := hw
    refine gV_sub (ws' := (cW h cI cJ lc la hr_489 uP uC uR tn pn pg pq rl sr gcb gpb tg tm tl pm ps) ++ (yW k cI cJ (upd yg (4 : Int32).toNatClampNeg v7) yq ym yw yh yr)) [6, 7, 8, 9, 10, 11, 12, 13, 14, 15, 16, 17, 18, 0, 1, 2, 3, 4, 5] (by decide) rfl rfl ?_
    refine gV_iload C dL_keeps_492 0 rfl ?_
    refine gV_if_eq (tgt := 501) C dL_keeps_494 (by decide) (fun c494 => ?_) (fun c494 => ?_)
    · replace hp := g_ift hp c494
      refine gV_iconst (v := 0) C dL_keeps_501 rfl ?_
      refine gV_loc [1, 2, 3, 4, 5] rfl ?_
      exact J502 0 r489 lc la hr_489 uP uC uR tn pn pg pq rl gcb gpb tg tm tl pm ps (upd yg (4 : Int32).toNatClampNeg v7) yq ym yr hp
    · replace hp := g_iff hp c494
      refine gV_iconst (v := 1) C dL_keeps_497 rfl ?_
      refine gV_goto (tgt := 502) C dL_keeps_498 (by decide) ?_
      refine gV_loc [1, 2, 3, 4, 5] rfl ?_
      exact J502 1 r489 lc la hr_489 uP uC uR tn pn pg pq rl gcb gpb tg tm tl pm ps (upd yg (4 : Int32).toNatClampNeg v7) yq ym yr hp
  have J467 : ∀ (s0 : Int32) (lc : Int32) (la : Int32) (hr : Int32) (uP : Int32) (uC : Int32) (uR : Int32) (tn : Int32) (pn : Int32) (pg : Int32) (pq : Int32) (rl : Nat → Int32) (gcb : Nat → Int32) (gpb : Nat → Int64) (tg : Nat → Int32) (tm : Nat → Int32) (tl : Nat → Int32) (pm : Nat → Int32) (ps : Nat → Int32) (yg : Nat → Int32) (yq : Nat → Int32) (ym : Nat → Int32) (yr : Nat → Int64), pf_L_keeps_j467 s0 lc la hr uP uC uR tn pn pg pq rl gcb gpb tg tm tl pm ps yg yq ym yr = (some (r0, lc0, la0, hr0, uP0, uC0, uR0, tn0, pn0, pg0, pq0, rl0, gcb0, gpb0, tg0, tm0, tl0, pm0, ps0, yg0, yq0, ym0, yr0)) → gV p l e rm_L_keeps s m args below meth c A D 13 Q ((cW h cI cJ lc la hr uP uC uR tn pn pg pq rl sr gcb gpb tg tm tl pm ps) ++ (yW k cI cJ yg yq ym yw yh yr)) [(0, .ref (h 0)), (3, .ref (k 0)), (4, .ref (k 5)), (5, .ref (k 1)), (6, .ref (k 2))] 4 24 467 [.int s0] := by
    intro s0 lc la hr uP uC uR tn pn pg pq rl gcb gpb tg tm tl pm ps yg yq ym yr hp
    unfold pf_L_keeps_j467 at hp
    obtain ⟨hz467, hp⟩ := g_bool hp
    obtain ⟨rfl, rfl, rfl, rfl, rfl, rfl, rfl, rfl, rfl, rfl, rfl, rfl, rfl, rfl, rfl, rfl, rfl, rfl, rfl, rfl, rfl, rfl, rfl⟩ := g_so23 hp
    exact RET _ _ _ _ _ _ dL_keeps_467 (Nat.le_of_ble_eq_true rfl) (Nat.le_of_ble_eq_true rfl) (g_nz hz467) ⟨rfl, rfl⟩
  have J466 : ∀ (lc : Int32) (la : Int32) (hr : Int32) (uP : Int32) (uC : Int32) (uR : Int32) (tn : Int32) (pn : Int32) (pg : Int32) (pq : Int32) (rl : Nat → Int32) (gcb : Nat → Int32) (gpb : Nat → Int64) (tg : Nat → Int32) (tm : Nat → Int32) (tl : Nat → Int32) (pm : Nat → Int32) (ps : Nat → Int32) (yg : Nat → Int32) (yq : Nat → Int32) (ym : Nat → Int32) (yr : Nat → Int64), pf_L_keeps_j466 lc la hr uP uC uR tn pn pg pq rl gcb gpb tg tm tl pm ps yg yq ym yr = (some (r0, lc0, la0, hr0, uP0, uC0, uR0, tn0, pn0, pg0, pq0, rl0, gcb0, gpb0, tg0, tm0, tl0, pm0, ps0, yg0, yq0, ym0, yr0)) → gV p l e rm_L_keeps s m args below meth c A D 13 Q ((cW h cI cJ lc la hr uP uC uR tn pn pg pq rl sr gcb gpb tg tm tl pm ps) ++ (yW k cI cJ yg yq ym yw yh yr)) [(0, .ref (h 0)), (3, .ref (k 0)), (4, .ref (k 5)), (5, .ref (k 1)), (6, .ref (k 2))] 4 24 466 [] := by
    intro lc la hr uP uC uR tn pn pg pq rl gcb gpb tg tm tl pm ps yg yq ym yr hp
    unfold pf_L_keeps_j466 at hp
    refine gV_iconst (v := 0) C dL_keeps_466 rfl ?_
    exact J467 0 lc la hr uP uC uR tn pn pg pq rl gcb gpb tg tm tl pm ps yg yq ym yr hp
  have J429 : ∀ (v7 : Int32) (v8 : Int64) (lc : Int32) (la : Int32) (hr : Int32) (uP : Int32) (uC : Int32) (uR : Int32) (tn : Int32) (pn : Int32) (pg : Int32) (pq : Int32) (rl : Nat → Int32) (gcb : Nat → Int32) (gpb : Nat → Int64) (tg : Nat → Int32) (tm : Nat → Int32) (tl : Nat → Int32) (pm : Nat → Int32) (ps : Nat → Int32) (yg : Nat → Int32) (yq : Nat → Int32) (ym : Nat → Int32) (yr : Nat → Int64), pf_L_keeps_j429 v7 v8 lc la hr uP uC uR tn pn pg pq rl gcb gpb tg tm tl pm ps yg yq ym yr = (some (r0, lc0, la0, hr0, uP0, uC0, uR0, tn0, pn0, pg0, pq0, rl0, gcb0, gpb0, tg0, tm0, tl0, pm0, ps0, yg0, yq0, ym0, yr0)) → gV p l e rm_L_keeps s m args below meth c A D 13 Q ((cW h cI cJ lc la hr uP uC uR tn pn pg pq rl sr gcb gpb tg tm tl pm ps) ++ (yW k cI cJ yg yq ym yw yh yr)) [(0, .ref (h 0)), (3, .ref (k 0)), (4, .ref (k 5)), (5, .ref (k 1)), (6, .ref (k 2)), (7, .int v7), (8, .long v8)] 0 0 429 [] := by
    intro v7 v8 lc la hr uP uC uR tn pn pg pq rl gcb gpb tg tm tl pm ps yg yq ym yr hp
    unfold pf_L_keeps_j429 at hp
    refine gV_lload C dL_keeps_429 6 rfl ?_
    refine gV_iload C dL_keeps_431 5 rfl ?_
    obtain ⟨r433q, hq433, hp⟩ := g_ob1 hp
    refine gV_calliE C (gV_runS (As := [.long v8, .int v7]) (rest := []) C (mt_L_has hl D cI cJ v8 v7 r433q hq433) (va_cwS 2 C.2.2.2.2.1 gL_keeps_L_has rfl rfl rfl hds_L_has ⟨Nat.le_of_ble_eq_true rfl, Nat.le_of_ble_eq_true rfl⟩) (gSub_E _) rfl rfl (Nat.le_of_ble_eq_true rfl) dL_keeps_433 ⟨Nat.le_of_ble_eq_true rfl, Nat.le_of_ble_eq_true rfl⟩) (fun _ _ hx => False.elim hx) (fun r433 w1 hw => ?_)
    obtain ⟨rfl, rfl⟩ := hw
    refine ⟨rfl, ?_⟩
    refine gV_if_ne (tgt := 468) C dL_keeps_436 (by decide) (fun c436 => ?_) (fun c436 => ?_)
    · replace hp := g_iff hp c436
      refine gV_aload_n C dL_keeps_468 rfl 1 rfl ?_
      refine gV_iconst (v := 4) C dL_keeps_469 rfl ?_
      obtain ⟨hi470, hp⟩ := g_idx hp
      refine gV_iald C 13 rfl 0 rfl hi470 dL_keeps_470 ?_
      refine gV_if_lt (tgt := 478) C dL_keeps_471 (by decide) (fun c471 => ?_) (fun c471 => ?_)
      · replace hp := g_ift hp c471
        refine gV_iconst (v := 0) C dL_keeps_478 rfl ?_
        refine gV_loc [0, 1, 2, 3, 4, 5] rfl ?_
        exact J479 v7 0 lc la hr uP uC uR tn pn pg pq rl gcb gpb tg tm tl pm ps yg yq ym yr hp
      · replace hp := g_iff hp c471
        refine gV_iconst (v := 1) C dL_keeps_474 rfl ?_
        refine gV_goto (tgt := 479) C dL_keeps_475 (by decide) ?_
        refine gV_loc [0, 1, 2, 3, 4, 5] rfl ?_
        exact J479 v7 1 lc la hr uP uC uR tn pn pg pq rl gcb gpb tg tm tl pm ps yg yq ym yr hp
    · replace hp := g_ift hp c436
      refine gV_aload_n C dL_keeps_439 rfl 0 rfl ?_
      refine gV_iload C dL_keeps_440 5 rfl ?_
      obtain ⟨r442q, hr_442, hq442, hp⟩ := g_ob2 hp
      refine gV_calli C (gsub_cy_c _ _ rfl rfl) (gV_runSX (As := [.ref (h 0), .int v7]) (rest := []) C (mt_L_hide hl D h cI cJ lc la hr uP uC uR tn pn pg pq rl sr gcb gpb tg tm tl pm ps v7 r442q hr_442 hq442) (vx_cwSW 2 C.2.2.2.2.1 gL_keeps_L_hide rfl rfl rfl hds_L_hide ⟨Nat.le_of_ble_eq_true rfl, Nat.le_of_ble_eq_true rfl⟩) (gsub_cy_c _ _ rfl rfl) rfl rfl (Nat.le_of_ble_eq_true rfl) dL_keeps_442 ⟨Nat.le_of_ble_eq_true rfl, Nat.le_of_ble_eq_true rfl⟩) (fun _ _ hx => False.elim hx) (fun r442 w1 hw => ?_)
      obtain ⟨rfl, rfl⟩ := hw
      refine gV_sub (ws' := (cW h cI cJ lc la hr_442 uP uC uR tn pn pg pq rl sr gcb gpb tg tm tl pm ps) ++ (yW k cI cJ yg yq ym yw yh yr)) [6, 7, 8, 9, 10, 11, 12, 13, 14, 15, 16, 17, 18, 0, 1, 2, 3, 4, 5] (by decide) rfl rfl ?_
      refine gV_bipush (v := (-73)) C dL_keeps_445 rfl ?_
      refine gV_icmp_ne (tgt := 466) C dL_keeps_447 (by decide) (fun c447 => ?_) (fun c447 => ?_)
      · replace hp := g_iff hp c447
        refine gV_loc [0, 1, 2, 3, 4] rfl ?_
        refine gV_widen (k' := 4) (n' := 24) (Nat.le_of_ble_eq_true rfl) (Nat.le_of_ble_eq_true rfl) ?_
        exact J466 lc la hr_442 uP uC uR tn pn pg pq rl gcb gpb tg tm tl pm ps yg yq ym yr hp
      · replace hp := g_ift hp c447
        refine gV_aload_n C dL_keeps_450 rfl 0 rfl ?_
        refine gV_aload_n C dL_keeps_451 rfl 1 rfl ?_
        refine gV_iconst (v := 2) C dL_keeps_452 rfl ?_
        obtain ⟨hi453, hp⟩ := g_idx hp
        refine gV_iald C 13 rfl 0 rfl hi453 dL_keeps_453 ?_
        obtain ⟨r454q, hr_454, hq454, hp⟩ := g_ob2 hp
        refine gV_calli C (gsub_cy_c _ _ rfl rfl) (gV_runSX (As := [.ref (h 0), .int (yg (2 : Int32).toNatClampNeg)]) (rest := []) C (mt_L_hide hl D h cI cJ lc la hr_442 uP uC uR tn pn pg pq rl sr gcb gpb tg tm tl pm ps (yg (2 : Int32).toNatClampNeg) r454q hr_454 hq454) (vx_cwSW 2 C.2.2.2.2.1 gL_keeps_L_hide rfl rfl rfl hds_L_hide ⟨Nat.le_of_ble_eq_true rfl, Nat.le_of_ble_eq_true rfl⟩) (gsub_cy_c _ _ rfl rfl) rfl rfl (Nat.le_of_ble_eq_true rfl) dL_keeps_454 ⟨Nat.le_of_ble_eq_true rfl, Nat.le_of_ble_eq_true rfl⟩) (fun _ _ hx => False.elim hx) (fun r454 w1 hw => ?_)
        obtain ⟨rfl, rfl⟩ := hw
        refine gV_sub (ws' := (cW h cI cJ lc la hr_454 uP uC uR tn pn pg pq rl sr gcb gpb tg tm tl pm ps) ++ (yW k cI cJ yg yq ym yw yh yr)) [6, 7, 8, 9, 10, 11, 12, 13, 14, 15, 16, 17, 18, 0, 1, 2, 3, 4, 5] (by decide) rfl rfl ?_
        refine gV_bipush (v := (-71)) C dL_keeps_457 rfl ?_
        refine gV_icmp_ne (tgt := 466) C dL_keeps_459 (by decide) (fun c459 => ?_) (fun c459 => ?_)
        · replace hp := g_iff hp c459
          refine gV_loc [0, 1, 2, 3, 4] rfl ?_
          exact J466 lc la hr_454 uP uC uR tn pn pg pq rl gcb gpb tg tm tl pm ps yg yq ym yr hp
        · replace hp := g_ift hp c459
          refine gV_iconst (v := 1) C dL_keeps_462 rfl ?_
          refine gV_goto (tgt := 467) C dL_keeps_463 (by decide) ?_
          refine gV_loc [0, 1, 2, 3, 4] rfl ?_
          exact J467 1 lc la hr_454 uP uC uR tn pn pg pq rl gcb gpb tg tm tl pm ps yg yq ym yr hp
  have L388 : ∀ (v8 : Int64) (lc : Int32) (la : Int32) (hr : Int32) (uP : Int32) (uC : Int32) (uR : Int32) (tn : Int32) (pn : Int32) (pg : Int32) (pq : Int32) (rl : Nat → Int32) (gcb : Nat → Int32) (gpb : Nat → Int64) (tg : Nat → Int32) (tm : Nat → Int32) (tl : Nat → Int32) (pm : Nat → Int32) (ps : Nat → Int32) (yg : Nat → Int32) (yq : Nat → Int32) (ym : Nat → Int32) (yr : Nat → Int64) (n388 : Nat) (v7 : Int32) (v10 : Int32), pf_L_keeps_L388 v2 v8 lc la hr uP uC uR tn pn pg pq rl gcb gpb tg tm tl pm ps yg yq ym yr n388 v7 v10 = (some (r0, lc0, la0, hr0, uP0, uC0, uR0, tn0, pn0, pg0, pq0, rl0, gcb0, gpb0, tg0, tm0, tl0, pm0, ps0, yg0, yq0, ym0, yr0)) → gV p l e rm_L_keeps s m args below meth c A D 13 Q ((cW h cI cJ lc la hr uP uC uR tn pn pg pq rl sr gcb gpb tg tm tl pm ps) ++ (yW k cI cJ yg yq ym yw yh yr)) [(0, .ref (h 0)), (2, .int v2), (3, .ref (k 0)), (4, .ref (k 5)), (5, .ref (k 1)), (6, .ref (k 2)), (7, .int v7), (8, .long v8), (10, .int v10)] 0 0 388 [] := by
    intro v8 lc la hr uP uC uR tn pn pg pq rl gcb gpb tg tm tl pm ps yg yq ym yr n388
    induction n388 with
    | zero => intro v7 v10 hp; exact g_none hp
    | succ n388 ih388 =>
      intro v7 v10 hp
      rw [pf_L_keeps_L388.eq_2] at hp
      refine gV_iload C dL_keeps_388 8 rfl ?_
      refine gV_aload_n C dL_keeps_390 rfl 2 rfl ?_
      refine gV_iconst (v := 2) C dL_keeps_391 rfl ?_
      obtain ⟨hi392, hp⟩ := g_idx hp
      refine gV_iald C 13 rfl 0 rfl hi392 dL_keeps_392 ?_
      refine gV_icmp_ge (tgt := 429) C dL_keeps_393 (by decide) (fun c393 => ?_) (fun c393 => ?_)
      · replace hp := g_ift hp c393
        refine gV_loc [0, 2, 3, 4, 5, 6, 7] rfl ?_
        exact J429 v7 v8 lc la hr uP uC uR tn pn pg pq rl gcb gpb tg tm tl pm ps yg yq ym yr hp
      · replace hp := g_iff hp c393
        refine gV_lload C dL_keeps_396 7 rfl ?_
        refine gV_iload C dL_keeps_398 6 rfl ?_
        obtain ⟨r400q, hq400, hp⟩ := g_ob1 hp
        refine gV_calliE C (gV_runS (As := [.long v8, .int v7]) (rest := []) C (mt_L_has hl D cI cJ v8 v7 r400q hq400) (va_cwS 2 C.2.2.2.2.1 gL_keeps_L_has rfl rfl rfl hds_L_has ⟨Nat.le_of_ble_eq_true rfl, Nat.le_of_ble_eq_true rfl⟩) (gSub_E _) rfl rfl (Nat.le_of_ble_eq_true rfl) dL_keeps_400 ⟨Nat.le_of_ble_eq_true rfl, Nat.le_of_ble_eq_true rfl⟩) (fun _ _ hx => False.elim hx) (fun r400 w1 hw => ?_)
        obtain ⟨rfl, rfl⟩ := hw
        refine ⟨rfl, ?_⟩
        refine gV_if_ne (tgt := 429) C dL_keeps_403 (by decide) (fun c403 => ?_) (fun c403 => ?_)
        · replace hp := g_iff hp c403
          refine gV_loc [0, 2, 3, 4, 5, 6, 7] rfl ?_
          exact J429 v7 v8 lc la hr uP uC uR tn pn pg pq rl gcb gpb tg tm tl pm ps yg yq ym yr hp
        · replace hp := g_ift hp c403
          refine gV_iload_n C dL_keeps_406 rfl 1 rfl ?_
          refine gV_ldc (v := 196608) C dL_keeps_407 (C.w 1 rfl) ?_
          refine gV_iand C dL_keeps_409 ?_
          refine gV_if_le (tgt := 429) C dL_keeps_410 (by decide) (fun c410 => ?_) (fun c410 => ?_)
          · replace hp := g_ift hp c410
            refine gV_loc [0, 2, 3, 4, 5, 6, 7] rfl ?_
            exact J429 v7 v8 lc la hr uP uC uR tn pn pg pq rl gcb gpb tg tm tl pm ps yg yq ym yr hp
          · replace hp := g_iff hp c410
            refine gV_iload C dL_keeps_413 6 rfl ?_
            refine gV_iconst (v := 1) C dL_keeps_415 rfl ?_
            refine gV_iadd C dL_keeps_416 ?_
            refine gV_aload_n C dL_keeps_417 rfl 2 rfl ?_
            refine gV_iconst (v := 2) C dL_keeps_418 rfl ?_
            obtain ⟨hi419, hp⟩ := g_idx hp
            refine gV_iald C 13 rfl 0 rfl hi419 dL_keeps_419 ?_
            obtain ⟨hd420, hp⟩ := g_div hp
            refine gV_irem C dL_keeps_420 hd420 ?_
            refine gV_topI (fun v7_421 he421 => ?_)
            replace hp := g_let hp he421
            refine gV_istore (lvs' := [(7, .int v7_421), (0, .ref (h 0)), (2, .int v2), (3, .ref (k 0)), (4, .ref (k 5)), (5, .ref (k 1)), (6, .ref (k 2)), (8, .long v8), (10, .int v10)]) C dL_keeps_421 (by decide) rfl ?_
            refine gV_iinc (v := (v10 + 1)) (lvs' := [(10, .int (v10 + 1)), (7, .int v7_421), (0, .ref (h 0)), (2, .int v2), (3, .ref (k 0)), (4, .ref (k 5)), (5, .ref (k 1)), (6, .ref (k 2)), (8, .long v8)]) C dL_keeps_423 8 rfl rfl (by decide) rfl ?_
            refine gV_goto (tgt := 388) C dL_keeps_426 (by decide) ?_
            refine gV_loc [2, 3, 4, 5, 6, 7, 1, 8, 0] rfl ?_
            exact ih388 v7_421 (v10 + 1) hp
  have J379 : ∀ (s0 : Int32) (lc : Int32) (la : Int32) (hr : Int32) (uP : Int32) (uC : Int32) (uR : Int32) (tn : Int32) (pn : Int32) (pg : Int32) (pq : Int32) (rl : Nat → Int32) (gcb : Nat → Int32) (gpb : Nat → Int64) (tg : Nat → Int32) (tm : Nat → Int32) (tl : Nat → Int32) (pm : Nat → Int32) (ps : Nat → Int32) (yg : Nat → Int32) (yq : Nat → Int32) (ym : Nat → Int32) (yr : Nat → Int64), pf_L_keeps_j379 s0 lc la hr uP uC uR tn pn pg pq rl gcb gpb tg tm tl pm ps yg yq ym yr = (some (r0, lc0, la0, hr0, uP0, uC0, uR0, tn0, pn0, pg0, pq0, rl0, gcb0, gpb0, tg0, tm0, tl0, pm0, ps0, yg0, yq0, ym0, yr0)) → gV p l e rm_L_keeps s m args below meth c A D 13 Q ((cW h cI cJ lc la hr uP uC uR tn pn pg pq rl sr gcb gpb tg tm tl pm ps) ++ (yW k cI cJ yg yq ym yw yh yr)) [(0, .ref (h 0)), (3, .ref (k 0)), (4, .ref (k 5)), (5, .ref (k 1)), (6, .ref (k 2))] 1 6 379 [.int s0] := by
    intro s0 lc la hr uP uC uR tn pn pg pq rl gcb gpb tg tm tl pm ps yg yq ym yr hp
    unfold pf_L_keeps_j379 at hp
    obtain ⟨hz379, hp⟩ := g_bool hp
    obtain ⟨rfl, rfl, rfl, rfl, rfl, rfl, rfl, rfl, rfl, rfl, rfl, rfl, rfl, rfl, rfl, rfl, rfl, rfl, rfl, rfl, rfl, rfl, rfl⟩ := g_so23 hp
    exact RET _ _ _ _ _ _ dL_keeps_379 (Nat.le_of_ble_eq_true rfl) (Nat.le_of_ble_eq_true rfl) (g_nz hz379) ⟨rfl, rfl⟩
  have J358 : ∀ (v10 : Int32) (v11 : Int32) (lc : Int32) (la : Int32) (hr : Int32) (uP : Int32) (uC : Int32) (uR : Int32) (tn : Int32) (pn : Int32) (pg : Int32) (pq : Int32) (rl : Nat → Int32) (gcb : Nat → Int32) (gpb : Nat → Int64) (tg : Nat → Int32) (tm : Nat → Int32) (tl : Nat → Int32) (pm : Nat → Int32) (ps : Nat → Int32) (yg : Nat → Int32) (yq : Nat → Int32) (ym : Nat → Int32) (yr : Nat → Int64), pf_L_keeps_j358 v10 v11 lc la hr uP uC uR tn pn pg pq rl gcb gpb tg tm tl pm ps yg yq ym yr = (some (r0, lc0, la0, hr0, uP0, uC0, uR0, tn0, pn0, pg0, pq0, rl0, gcb0, gpb0, tg0, tm0, tl0, pm0, ps0, yg0, yq0, ym0, yr0)) → gV p l e rm_L_keeps s m args below meth c A D 13 Q ((cW h cI cJ lc la hr uP uC uR tn pn pg pq rl sr gcb gpb tg tm tl pm ps) ++ (yW k cI cJ yg yq ym yw yh yr)) [(0, .ref (h 0)), (3, .ref (k 0)), (4, .ref (k 5)), (5, .ref (k 1)), (6, .ref (k 2)), (10, .int v10), (11, .int v11)] 0 0 358 [] := by
    intro v10 v11 lc la hr uP uC uR tn pn pg pq rl gcb gpb tg tm tl pm ps yg yq ym yr hp
    unfold pf_L_keeps_j358 at hp
    refine gV_aload_n C dL_keeps_358 rfl 1 rfl ?_
    refine gV_iconst (v := 3) C dL_keeps_359 rfl ?_
    refine gV_iload C dL_keeps_360 5 rfl ?_
    obtain ⟨hi362, hp⟩ := g_idx hp
    refine gV_iast (ws' := (cW h cI cJ lc la hr uP uC uR tn pn pg pq rl sr gcb gpb tg tm tl pm ps) ++ (yW k cI cJ (upd yg (3 : Int32).toNatClampNeg v10) yq ym yw yh yr)) C 13 rfl 0 rfl hi362 dL_keeps_362 rfl ?_
    refine gV_aload_n C dL_keeps_363 rfl 0 rfl ?_
    refine gV_iload C dL_keeps_364 5 rfl ?_
    obtain ⟨r366q, lc_366, la_366, rl_366, hq366, hp⟩ := g_ob4 hp
    refine gV_calli C (gsub_cy_c _ _ rfl rfl) (gV_runSX (As := [.ref (h 0), .int v10]) (rest := []) C (mt_L_allowLies hl D h cI cJ lc la hr uP uC uR tn pn pg pq rl sr gcb gpb tg tm tl pm ps v10 r366q lc_366 la_366 rl_366 hq366) (vx_cwSW 2 C.2.2.2.2.1 gL_keeps_L_allowLies rfl rfl rfl hds_L_allowLies ⟨Nat.le_of_ble_eq_true rfl, Nat.le_of_ble_eq_true rfl⟩) (gsub_cy_c _ _ rfl rfl) rfl rfl (Nat.le_of_ble_eq_true rfl) dL_keeps_366 ⟨Nat.le_of_ble_eq_true rfl, Nat.le_of_ble_eq_true rfl⟩) (fun _ _ hx => False.elim hx) (fun r366 w1 hw => ?_)
    obtain ⟨rfl, rfl⟩ := hw
    refine gV_sub (ws' := (cW h cI cJ lc_366 la_366 hr uP uC uR tn pn pg pq rl_366 sr gcb gpb tg tm tl pm ps) ++ (yW k cI cJ (upd yg (3 : Int32).toNatClampNeg v10) yq ym yw yh yr)) [6, 7, 8, 9, 10, 11, 12, 13, 14, 15, 16, 17, 18, 0, 1, 2, 3, 4, 5] (by decide) rfl rfl ?_
    refine gV_iload C dL_keeps_369 6 rfl ?_
    refine gV_icmp_ne (tgt := 378) C dL_keeps_371 (by decide) (fun c371 => ?_) (fun c371 => ?_)
    · replace hp := g_iff hp c371
      refine gV_iconst (v := 0) C dL_keeps_378 rfl ?_
      refine gV_loc [0, 1, 2, 3, 4] rfl ?_
      exact J379 0 lc_366 la_366 hr uP uC uR tn pn pg pq rl_366 gcb gpb tg tm tl pm ps (upd yg (3 : Int32).toNatClampNeg v10) yq ym yr hp
    · replace hp := g_ift hp c371
      refine gV_iconst (v := 1) C dL_keeps_374 rfl ?_
      refine gV_goto (tgt := 379) C dL_keeps_375 (by decide) ?_
      refine gV_loc [0, 1, 2, 3, 4] rfl ?_
      exact J379 1 lc_366 la_366 hr uP uC uR tn pn pg pq rl_366 gcb gpb tg tm tl pm ps (upd yg (3 : Int32).toNatClampNeg v10) yq ym yr hp
  have J357 : ∀ (s0 : Int32) (lc : Int32) (la : Int32) (hr : Int32) (uP : Int32) (uC : Int32) (uR : Int32) (tn : Int32) (pn : Int32) (pg : Int32) (pq : Int32) (rl : Nat → Int32) (gcb : Nat → Int32) (gpb : Nat → Int64) (tg : Nat → Int32) (tm : Nat → Int32) (tl : Nat → Int32) (pm : Nat → Int32) (ps : Nat → Int32) (yg : Nat → Int32) (yq : Nat → Int32) (ym : Nat → Int32) (yr : Nat → Int64), pf_L_keeps_j357 s0 lc la hr uP uC uR tn pn pg pq rl gcb gpb tg tm tl pm ps yg yq ym yr = (some (r0, lc0, la0, hr0, uP0, uC0, uR0, tn0, pn0, pg0, pq0, rl0, gcb0, gpb0, tg0, tm0, tl0, pm0, ps0, yg0, yq0, ym0, yr0)) → gV p l e rm_L_keeps s m args below meth c A D 13 Q ((cW h cI cJ lc la hr uP uC uR tn pn pg pq rl sr gcb gpb tg tm tl pm ps) ++ (yW k cI cJ yg yq ym yw yh yr)) [(0, .ref (h 0)), (3, .ref (k 0)), (4, .ref (k 5)), (5, .ref (k 1)), (6, .ref (k 2))] 3 18 357 [.int s0] := by
    intro s0 lc la hr uP uC uR tn pn pg pq rl gcb gpb tg tm tl pm ps yg yq ym yr hp
    unfold pf_L_keeps_j357 at hp
    obtain ⟨hz357, hp⟩ := g_bool hp
    obtain ⟨rfl, rfl, rfl, rfl, rfl, rfl, rfl, rfl, rfl, rfl, rfl, rfl, rfl, rfl, rfl, rfl, rfl, rfl, rfl, rfl, rfl, rfl, rfl⟩ := g_so23 hp
    exact RET _ _ _ _ _ _ dL_keeps_357 (Nat.le_of_ble_eq_true rfl) (Nat.le_of_ble_eq_true rfl) (g_nz hz357) ⟨rfl, rfl⟩
  have J356 : ∀ (lc : Int32) (la : Int32) (hr : Int32) (uP : Int32) (uC : Int32) (uR : Int32) (tn : Int32) (pn : Int32) (pg : Int32) (pq : Int32) (rl : Nat → Int32) (gcb : Nat → Int32) (gpb : Nat → Int64) (tg : Nat → Int32) (tm : Nat → Int32) (tl : Nat → Int32) (pm : Nat → Int32) (ps : Nat → Int32) (yg : Nat → Int32) (yq : Nat → Int32) (ym : Nat → Int32) (yr : Nat → Int64), pf_L_keeps_j356 lc la hr uP uC uR tn pn pg pq rl gcb gpb tg tm tl pm ps yg yq ym yr = (some (r0, lc0, la0, hr0, uP0, uC0, uR0, tn0, pn0, pg0, pq0, rl0, gcb0, gpb0, tg0, tm0, tl0, pm0, ps0, yg0, yq0, ym0, yr0)) → gV p l e rm_L_keeps s m args below meth c A D 13 Q ((cW h cI cJ lc la hr uP uC uR tn pn pg pq rl sr gcb gpb tg tm tl pm ps) ++ (yW k cI cJ yg yq ym yw yh yr)) [(0, .ref (h 0)), (3, .ref (k 0)), (4, .ref (k 5)), (5, .ref (k 1)), (6, .ref (k 2))] 3 18 356 [] := by
    intro lc la hr uP uC uR tn pn pg pq rl gcb gpb tg tm tl pm ps yg yq ym yr hp
    unfold pf_L_keeps_j356 at hp
    refine gV_iconst (v := 0) C dL_keeps_356 rfl ?_
    exact J357 0 lc la hr uP uC uR tn pn pg pq rl gcb gpb tg tm tl pm ps yg yq ym yr hp
  have J287 : ∀ (s0 : Int32) (s1 : Int32) (lc : Int32) (la : Int32) (hr : Int32) (uP : Int32) (uC : Int32) (uR : Int32) (tn : Int32) (pn : Int32) (pg : Int32) (pq : Int32) (rl : Nat → Int32) (gcb : Nat → Int32) (gpb : Nat → Int64) (tg : Nat → Int32) (tm : Nat → Int32) (tl : Nat → Int32) (pm : Nat → Int32) (ps : Nat → Int32) (yg : Nat → Int32) (yq : Nat → Int32) (ym : Nat → Int32) (yr : Nat → Int64), pf_L_keeps_j287 s0 s1 lc la hr uP uC uR tn pn pg pq rl gcb gpb tg tm tl pm ps yg yq ym yr = (some (r0, lc0, la0, hr0, uP0, uC0, uR0, tn0, pn0, pg0, pq0, rl0, gcb0, gpb0, tg0, tm0, tl0, pm0, ps0, yg0, yq0, ym0, yr0)) → gV p l e rm_L_keeps s m args below meth c A D 13 Q ((cW h cI cJ lc la hr uP uC uR tn pn pg pq rl sr gcb gpb tg tm tl pm ps) ++ (yW k cI cJ yg yq ym yw yh yr)) [(0, .ref (h 0)), (3, .ref (k 0)), (4, .ref (k 5)), (5, .ref (k 1)), (6, .ref (k 2))] 0 0 287 [.int s0, .int s1] := by
    intro s0 s1 lc la hr uP uC uR tn pn pg pq rl gcb gpb tg tm tl pm ps yg yq ym yr hp
    unfold pf_L_keeps_j287 at hp
    obtain ⟨r287q, hq287, hp⟩ := g_ob1 hp
    refine gV_calliE C (gV_runS (As := [.int s1, .int s0]) (rest := []) C (mt_L_low hl D cI cJ s1 s0 r287q hq287) (va_cwS 2 C.2.2.2.2.1 gL_keeps_L_low rfl rfl rfl hds_L_low ⟨Nat.le_of_ble_eq_true rfl, Nat.le_of_ble_eq_true rfl⟩) (gSub_E _) rfl rfl (Nat.le_of_ble_eq_true rfl) dL_keeps_287 ⟨Nat.le_of_ble_eq_true rfl, Nat.le_of_ble_eq_true rfl⟩) (fun _ _ hx => False.elim hx) (fun r287 w1 hw => ?_)
    obtain ⟨rfl, rfl⟩ := hw
    refine ⟨rfl, ?_⟩
    refine gV_istore (lvs' := [(10, .int r287), (0, .ref (h 0)), (3, .ref (k 0)), (4, .ref (k 5)), (5, .ref (k 1)), (6, .ref (k 2))]) C dL_keeps_290 (by decide) rfl ?_
    refine gV_aload_n C dL_keeps_292 rfl 2 rfl ?_
    refine gV_iconst (v := 3) C dL_keeps_293 rfl ?_
    obtain ⟨hi294, hp⟩ := g_idx hp
    refine gV_iald C 13 rfl 0 rfl hi294 dL_keeps_294 ?_
    refine gV_topI (fun v11_295 he295 => ?_)
    replace hp := g_let hp he295
    refine gV_istore (lvs' := [(11, .int v11_295), (10, .int r287), (0, .ref (h 0)), (3, .ref (k 0)), (4, .ref (k 5)), (5, .ref (k 1)), (6, .ref (k 2))]) C dL_keeps_295 (by decide) rfl ?_
    refine gV_aload_n C dL_keeps_297 rfl 3 rfl ?_
    refine gV_iconst (v := 4) C dL_keeps_298 rfl ?_
    obtain ⟨hi299, hp⟩ := g_idx hp
    refine gV_iald C 13 rfl 0 rfl hi299 dL_keeps_299 ?_
    refine gV_if_lt (tgt := 358) C dL_keeps_300 (by decide) (fun c300 => ?_) (fun c300 => ?_)
    · replace hp := g_ift hp c300
      refine gV_loc [2, 3, 4, 5, 6, 1, 0] rfl ?_
      exact J358 r287 v11_295 lc la hr uP uC uR tn pn pg pq rl gcb gpb tg tm tl pm ps yg yq ym yr hp
    · replace hp := g_iff hp c300
      refine gV_aload_n C dL_keeps_303 rfl 3 rfl ?_
      refine gV_aload C dL_keeps_304 4 rfl ?_
      refine gV_aload C dL_keeps_306 5 rfl ?_
      refine gV_aload C dL_keeps_308 6 rfl ?_
      refine gV_aload_n C dL_keeps_310 rfl 3 rfl ?_
      refine gV_iconst (v := 4) C dL_keeps_311 rfl ?_
      obtain ⟨hi312, hp⟩ := g_idx hp
      refine gV_iald C 13 rfl 0 rfl hi312 dL_keeps_312 ?_
      obtain ⟨r313q, hq313, hp⟩ := g_ob1 hp
      refine gV_calli C (gsub_cy_y _ _ rfl rfl) (gV_runS (As := [.ref (k 0), .ref (k 5), .ref (k 1), .ref (k 2), .int (yg (4 : Int32).toNatClampNeg)]) (rest := []) C (mt_L_lies hl D k cI cJ yg yq ym yw yh yr (yg (4 : Int32).toNatClampNeg) r313q hq313) (va_cwS 5 C.2.2.2.2.1 gL_keeps_L_lies rfl rfl rfl hds_L_lies ⟨Nat.le_of_ble_eq_true rfl, Nat.le_of_ble_eq_true rfl⟩) (gsub_cy_y _ _ rfl rfl) rfl rfl (Nat.le_of_ble_eq_true rfl) dL_keeps_313 ⟨Nat.le_of_ble_eq_true rfl, Nat.le_of_ble_eq_true rfl⟩) (fun _ _ hx => False.elim hx) (fun r313 w1 hw => ?_)
      obtain ⟨rfl, rfl⟩ := hw
      refine gV_sub (ws' := (cW h cI cJ lc la hr uP uC uR tn pn pg pq rl sr gcb gpb tg tm tl pm ps) ++ (yW k cI cJ yg yq ym yw yh yr)) [0, 1, 2, 3, 4, 5, 6, 7, 8, 9, 10, 11, 12, 13, 14, 15, 16, 17, 18] (by decide) rfl rfl ?_
      refine gV_iload C dL_keeps_316 1 rfl ?_
      refine gV_icmp_le (tgt := 358) C dL_keeps_318 (by decide) (fun c318 => ?_) (fun c318 => ?_)
      · replace hp := g_ift hp c318
        refine gV_loc [2, 3, 4, 5, 6, 1, 0] rfl ?_
        exact J358 r287 v11_295 lc la hr uP uC uR tn pn pg pq rl gcb gpb tg tm tl pm ps yg yq ym yr hp
      · replace hp := g_iff hp c318
        refine gV_aload_n C dL_keeps_321 rfl 2 rfl ?_
        refine gV_iload C dL_keeps_322 1 rfl ?_
        obtain ⟨r324q, lc_324, la_324, rl_324, hq324, hp⟩ := g_ob4 hp
        refine gV_calli C (gsub_cy_c _ _ rfl rfl) (gV_runSX (As := [.ref (h 0), .int r287]) (rest := []) C (mt_L_allowLies hl D h cI cJ lc la hr uP uC uR tn pn pg pq rl sr gcb gpb tg tm tl pm ps r287 r324q lc_324 la_324 rl_324 hq324) (vx_cwSW 2 C.2.2.2.2.1 gL_keeps_L_allowLies rfl rfl rfl hds_L_allowLies ⟨Nat.le_of_ble_eq_true rfl, Nat.le_of_ble_eq_true rfl⟩) (gsub_cy_c _ _ rfl rfl) rfl rfl (Nat.le_of_ble_eq_true rfl) dL_keeps_324 ⟨Nat.le_of_ble_eq_true rfl, Nat.le_of_ble_eq_true rfl⟩) (fun _ _ hx => False.elim hx) (fun r324 w1 hw => ?_)
        obtain ⟨rfl, rfl⟩ := hw
        refine gV_sub (ws' := (cW h cI cJ lc_324 la_324 hr uP uC uR tn pn pg pq rl_324 sr gcb gpb tg tm tl pm ps) ++ (yW k cI cJ yg yq ym yw yh yr)) [6, 7, 8, 9, 10, 11, 12, 13, 14, 15, 16, 17, 18, 0, 1, 2, 3, 4, 5] (by decide) rfl rfl ?_
        refine gV_bipush (v := (-73)) C dL_keeps_327 rfl ?_
        refine gV_icmp_ne (tgt := 356) C dL_keeps_329 (by decide) (fun c329 => ?_) (fun c329 => ?_)
        · replace hp := g_iff hp c329
          refine gV_loc [2, 3, 4, 5, 6] rfl ?_
          refine gV_widen (k' := 3) (n' := 18) (Nat.le_of_ble_eq_true rfl) (Nat.le_of_ble_eq_true rfl) ?_
          exact J356 lc_324 la_324 hr uP uC uR tn pn pg pq rl_324 gcb gpb tg tm tl pm ps yg yq ym yr hp
        · replace hp := g_ift hp c329
          refine gV_aload_n C dL_keeps_332 rfl 2 rfl ?_
          refine gV_iconst (v := 4) C dL_keeps_333 rfl ?_
          obtain ⟨r334q, lc_334, la_334, rl_334, hq334, hp⟩ := g_ob4 hp
          refine gV_calli C (gsub_cy_c _ _ rfl rfl) (gV_runSX (As := [.ref (h 0), .int 4]) (rest := []) C (mt_L_allowLies hl D h cI cJ lc_324 la_324 hr uP uC uR tn pn pg pq rl_324 sr gcb gpb tg tm tl pm ps 4 r334q lc_334 la_334 rl_334 hq334) (vx_cwSW 2 C.2.2.2.2.1 gL_keeps_L_allowLies rfl rfl rfl hds_L_allowLies ⟨Nat.le_of_ble_eq_true rfl, Nat.le_of_ble_eq_true rfl⟩) (gsub_cy_c _ _ rfl rfl) rfl rfl (Nat.le_of_ble_eq_true rfl) dL_keeps_334 ⟨Nat.le_of_ble_eq_true rfl, Nat.le_of_ble_eq_true rfl⟩) (fun _ _ hx => False.elim hx) (fun r334 w1 hw => ?_)
          obtain ⟨rfl, rfl⟩ := hw
          refine gV_sub (ws' := (cW h cI cJ lc_334 la_334 hr uP uC uR tn pn pg pq rl_334 sr gcb gpb tg tm tl pm ps) ++ (yW k cI cJ yg yq ym yw yh yr)) [6, 7, 8, 9, 10, 11, 12, 13, 14, 15, 16, 17, 18, 0, 1, 2, 3, 4, 5] (by decide) rfl rfl ?_
          refine gV_bipush (v := (-72)) C dL_keeps_337 rfl ?_
          refine gV_icmp_ne (tgt := 356) C dL_keeps_339 (by decide) (fun c339 => ?_) (fun c339 => ?_)
          · replace hp := g_iff hp c339
            refine gV_loc [2, 3, 4, 5, 6] rfl ?_
            refine gV_widen (k' := 3) (n' := 18) (Nat.le_of_ble_eq_true rfl) (Nat.le_of_ble_eq_true rfl) ?_
            exact J356 lc_334 la_334 hr uP uC uR tn pn pg pq rl_334 gcb gpb tg tm tl pm ps yg yq ym yr hp
          · replace hp := g_ift hp c339
            refine gV_aload_n C dL_keeps_342 rfl 2 rfl ?_
            refine gV_iconst (v := (-1)) C dL_keeps_343 rfl ?_
            obtain ⟨r344q, lc_344, la_344, rl_344, hq344, hp⟩ := g_ob4 hp
            refine gV_calli C (gsub_cy_c _ _ rfl rfl) (gV_runSX (As := [.ref (h 0), .int (-1)]) (rest := []) C (mt_L_allowLies hl D h cI cJ lc_334 la_334 hr uP uC uR tn pn pg pq rl_334 sr gcb gpb tg tm tl pm ps (-1) r344q lc_344 la_344 rl_344 hq344) (vx_cwSW 2 C.2.2.2.2.1 gL_keeps_L_allowLies rfl rfl rfl hds_L_allowLies ⟨Nat.le_of_ble_eq_true rfl, Nat.le_of_ble_eq_true rfl⟩) (gsub_cy_c _ _ rfl rfl) rfl rfl (Nat.le_of_ble_eq_true rfl) dL_keeps_344 ⟨Nat.le_of_ble_eq_true rfl, Nat.le_of_ble_eq_true rfl⟩) (fun _ _ hx => False.elim hx) (fun r344 w1 hw => ?_)
            obtain ⟨rfl, rfl⟩ := hw
            refine gV_sub (ws' := (cW h cI cJ lc_344 la_344 hr uP uC uR tn pn pg pq rl_344 sr gcb gpb tg tm tl pm ps) ++ (yW k cI cJ yg yq ym yw yh yr)) [6, 7, 8, 9, 10, 11, 12, 13, 14, 15, 16, 17, 18, 0, 1, 2, 3, 4, 5] (by decide) rfl rfl ?_
            refine gV_bipush (v := (-72)) C dL_keeps_347 rfl ?_
            refine gV_icmp_ne (tgt := 356) C dL_keeps_349 (by decide) (fun c349 => ?_) (fun c349 => ?_)
            · replace hp := g_iff hp c349
              refine gV_loc [2, 3, 4, 5, 6] rfl ?_
              exact J356 lc_344 la_344 hr uP uC uR tn pn pg pq rl_344 gcb gpb tg tm tl pm ps yg yq ym yr hp
            · replace hp := g_ift hp c349
              refine gV_iconst (v := 1) C dL_keeps_352 rfl ?_
              refine gV_goto (tgt := 357) C dL_keeps_353 (by decide) ?_
              refine gV_loc [2, 3, 4, 5, 6] rfl ?_
              exact J357 1 lc_344 la_344 hr uP uC uR tn pn pg pq rl_344 gcb gpb tg tm tl pm ps yg yq ym yr hp
  have J267 : ∀ (s0 : Int32) (lc : Int32) (la : Int32) (hr : Int32) (uP : Int32) (uC : Int32) (uR : Int32) (tn : Int32) (pn : Int32) (pg : Int32) (pq : Int32) (rl : Nat → Int32) (gcb : Nat → Int32) (gpb : Nat → Int64) (tg : Nat → Int32) (tm : Nat → Int32) (tl : Nat → Int32) (pm : Nat → Int32) (ps : Nat → Int32) (yg : Nat → Int32) (yq : Nat → Int32) (ym : Nat → Int32) (yr : Nat → Int64), pf_L_keeps_j267 s0 lc la hr uP uC uR tn pn pg pq rl gcb gpb tg tm tl pm ps yg yq ym yr = (some (r0, lc0, la0, hr0, uP0, uC0, uR0, tn0, pn0, pg0, pq0, rl0, gcb0, gpb0, tg0, tm0, tl0, pm0, ps0, yg0, yq0, ym0, yr0)) → gV p l e rm_L_keeps s m args below meth c A D 13 Q ((cW h cI cJ lc la hr uP uC uR tn pn pg pq rl sr gcb gpb tg tm tl pm ps) ++ (yW k cI cJ yg yq ym yw yh yr)) [(0, .ref (h 0)), (3, .ref (k 0)), (4, .ref (k 5)), (5, .ref (k 1)), (6, .ref (k 2))] 1 6 267 [.int s0] := by
    intro s0 lc la hr uP uC uR tn pn pg pq rl gcb gpb tg tm tl pm ps yg yq ym yr hp
    unfold pf_L_keeps_j267 at hp
    obtain ⟨hz267, hp⟩ := g_bool hp
    obtain ⟨rfl, rfl, rfl, rfl, rfl, rfl, rfl, rfl, rfl, rfl, rfl, rfl, rfl, rfl, rfl, rfl, rfl, rfl, rfl, rfl, rfl, rfl, rfl⟩ := g_so23 hp
    exact RET _ _ _ _ _ _ dL_keeps_267 (Nat.le_of_ble_eq_true rfl) (Nat.le_of_ble_eq_true rfl) (g_nz hz267) ⟨rfl, rfl⟩
  have L205 : ∀ (lc : Int32) (la : Int32) (hr : Int32) (uP : Int32) (uC : Int32) (uR : Int32) (tn : Int32) (pn : Int32) (pg : Int32) (pq : Int32) (rl : Nat → Int32) (gcb : Nat → Int32) (gpb : Nat → Int64) (tg : Nat → Int32) (tm : Nat → Int32) (tl : Nat → Int32) (pm : Nat → Int32) (ps : Nat → Int32) (yq : Nat → Int32) (ym : Nat → Int32) (yr : Nat → Int64) (n205 : Nat) (v11 : Int32) (yg : Nat → Int32), pf_L_keeps_L205 lc la hr uP uC uR tn pn pg pq rl gcb gpb tg tm tl pm ps yq ym yr n205 v11 yg = (some (r0, lc0, la0, hr0, uP0, uC0, uR0, tn0, pn0, pg0, pq0, rl0, gcb0, gpb0, tg0, tm0, tl0, pm0, ps0, yg0, yq0, ym0, yr0)) → gV p l e rm_L_keeps s m args below meth c A D 13 Q ((cW h cI cJ lc la hr uP uC uR tn pn pg pq rl sr gcb gpb tg tm tl pm ps) ++ (yW k cI cJ yg yq ym yw yh yr)) [(0, .ref (h 0)), (3, .ref (k 0)), (4, .ref (k 5)), (5, .ref (k 1)), (6, .ref (k 2)), (11, .int v11)] 0 0 205 [] := by
    intro lc la hr uP uC uR tn pn pg pq rl gcb gpb tg tm tl pm ps yq ym yr n205
    induction n205 with
    | zero => intro v11 yg hp; exact g_none hp
    | succ n205 ih205 =>
      intro v11 yg hp
      rw [pf_L_keeps_L205.eq_2] at hp
      refine gV_iload C dL_keeps_205 5 rfl ?_
      refine gV_aload_n C dL_keeps_207 rfl 1 rfl ?_
      refine gV_iconst (v := 0) C dL_keeps_208 rfl ?_
      obtain ⟨hi209, hp⟩ := g_idx hp
      refine gV_iald C 13 rfl 0 rfl hi209 dL_keeps_209 ?_
      refine gV_icmp_ge (tgt := 228) C dL_keeps_210 (by decide) (fun c210 => ?_) (fun c210 => ?_)
      · replace hp := g_ift hp c210
        refine gV_aload_n C dL_keeps_228 rfl 1 rfl ?_
        refine gV_iconst (v := 3) C dL_keeps_229 rfl ?_
        refine gV_iconst (v := 0) C dL_keeps_230 rfl ?_
        obtain ⟨hi231, hp⟩ := g_idx hp
        refine gV_iast (ws' := (cW h cI cJ lc la hr uP uC uR tn pn pg pq rl sr gcb gpb tg tm tl pm ps) ++ (yW k cI cJ (upd yg (3 : Int32).toNatClampNeg 0) yq ym yw yh yr)) C 13 rfl 0 rfl hi231 dL_keeps_231 rfl ?_
        refine gV_aload_n C dL_keeps_232 rfl 1 rfl ?_
        refine gV_iconst (v := 4) C dL_keeps_233 rfl ?_
        refine gV_iconst (v := (-1)) C dL_keeps_234 rfl ?_
        obtain ⟨hi235, hp⟩ := g_idx hp
        refine gV_iast (ws' := (cW h cI cJ lc la hr uP uC uR tn pn pg pq rl sr gcb gpb tg tm tl pm ps) ++ (yW k cI cJ (upd (upd yg (3 : Int32).toNatClampNeg 0) (4 : Int32).toNatClampNeg (-1)) yq ym yw yh yr)) C 13 rfl 0 rfl hi235 dL_keeps_235 rfl ?_
        refine gV_aload_n C dL_keeps_236 rfl 1 rfl ?_
        refine gV_iconst (v := 5) C dL_keeps_237 rfl ?_
        refine gV_iconst (v := 0) C dL_keeps_238 rfl ?_
        obtain ⟨hi239, hp⟩ := g_idx hp
        refine gV_iast (ws' := (cW h cI cJ lc la hr uP uC uR tn pn pg pq rl sr gcb gpb tg tm tl pm ps) ++ (yW k cI cJ (upd (upd (upd yg (3 : Int32).toNatClampNeg 0) (4 : Int32).toNatClampNeg (-1)) (5 : Int32).toNatClampNeg 0) yq ym yw yh yr)) C 13 rfl 0 rfl hi239 dL_keeps_239 rfl ?_
        refine gV_aload_n C dL_keeps_240 rfl 1 rfl ?_
        refine gV_aload C dL_keeps_241 2 rfl ?_
        obtain ⟨yr_243, hq243, hp⟩ := g_ob1 hp
        refine gV_callv C (gsub_cy_y _ _ rfl rfl) (gV_runS (As := [.ref (k 0), .ref (k 5)]) (rest := []) C (mt_L_lay hl D k cI cJ (upd (upd (upd yg (3 : Int32).toNatClampNeg 0) (4 : Int32).toNatClampNeg (-1)) (5 : Int32).toNatClampNeg 0) yq ym yw yh yr yr_243 hq243) (va_cwS 2 C.2.2.2.2.1 gL_keeps_L_lay rfl rfl rfl hds_L_lay ⟨Nat.le_of_ble_eq_true rfl, Nat.le_of_ble_eq_true rfl⟩) (gsub_cy_y _ _ rfl rfl) rfl rfl (Nat.le_of_ble_eq_true rfl) dL_keeps_243 ⟨Nat.le_of_ble_eq_true rfl, Nat.le_of_ble_eq_true rfl⟩) (fun _ _ hx => False.elim hx) (fun w1 hw => ?_)
        obtain rfl := hw
        refine gV_sub (ws' := (cW h cI cJ lc la hr uP uC uR tn pn pg pq rl sr gcb gpb tg tm tl pm ps) ++ (yW k cI cJ (upd (upd (upd yg (3 : Int32).toNatClampNeg 0) (4 : Int32).toNatClampNeg (-1)) (5 : Int32).toNatClampNeg 0) yq ym yw yh yr_243)) [0, 1, 2, 3, 4, 5, 6, 7, 8, 9, 10, 11, 12, 13, 14, 15, 16, 17, 18] (by decide) rfl rfl ?_
        refine gV_aload_n C dL_keeps_246 rfl 0 rfl ?_
        refine gV_aload_n C dL_keeps_247 rfl 1 rfl ?_
        refine gV_iconst (v := 0) C dL_keeps_248 rfl ?_
        obtain ⟨hi249, hp⟩ := g_idx hp
        refine gV_iald C 13 rfl 0 rfl hi249 dL_keeps_249 ?_
        refine gV_aload_n C dL_keeps_250 rfl 1 rfl ?_
        refine gV_iconst (v := 1) C dL_keeps_251 rfl ?_
        obtain ⟨hi252, hp⟩ := g_idx hp
        refine gV_iald C 13 rfl 0 rfl hi252 dL_keeps_252 ?_
        obtain ⟨r253q, lc_253, la_253, hr_253, uP_253, uC_253, uR_253, tn_253, rl_253, gcb_253, gpb_253, tl_253, hq253, hp⟩ := g_ob12 hp
        refine gV_calli C (gsub_cy_c _ _ rfl rfl) (gV_runSX (As := [.ref (h 0), .int ((upd (upd (upd yg (3 : Int32).toNatClampNeg 0) (4 : Int32).toNatClampNeg (-1)) (5 : Int32).toNatClampNeg 0) (0 : Int32).toNatClampNeg), .int ((upd (upd (upd yg (3 : Int32).toNatClampNeg 0) (4 : Int32).toNatClampNeg (-1)) (5 : Int32).toNatClampNeg 0) (1 : Int32).toNatClampNeg)]) (rest := []) C (mt_L_begin hl D h cI cJ lc la hr uP uC uR tn pn pg pq rl sr gcb gpb tg tm tl pm ps ((upd (upd (upd yg (3 : Int32).toNatClampNeg 0) (4 : Int32).toNatClampNeg (-1)) (5 : Int32).toNatClampNeg 0) (0 : Int32).toNatClampNeg) ((upd (upd (upd yg (3 : Int32).toNatClampNeg 0) (4 : Int32).toNatClampNeg (-1)) (5 : Int32).toNatClampNeg 0) (1 : Int32).toNatClampNeg) r253q lc_253 la_253 hr_253 uP_253 uC_253 uR_253 tn_253 rl_253 gcb_253 gpb_253 tl_253 hq253) (vx_cwSW 3 C.2.2.2.2.1 gL_keeps_L_begin rfl rfl rfl hds_L_begin ⟨Nat.le_of_ble_eq_true rfl, Nat.le_of_ble_eq_true rfl⟩) (gsub_cy_c _ _ rfl rfl) rfl rfl (Nat.le_of_ble_eq_true rfl) dL_keeps_253 ⟨Nat.le_of_ble_eq_true rfl, Nat.le_of_ble_eq_true rfl⟩) (fun _ _ hx => False.elim hx) (fun r253 w1 hw => ?_)
        obtain ⟨rfl, rfl⟩ := hw
        refine gV_sub (ws' := (cW h cI cJ lc_253 la_253 hr_253 uP_253 uC_253 uR_253 tn_253 pn pg pq rl_253 sr gcb_253 gpb_253 tg tm tl_253 pm ps) ++ (yW k cI cJ (upd (upd (upd yg (3 : Int32).toNatClampNeg 0) (4 : Int32).toNatClampNeg (-1)) (5 : Int32).toNatClampNeg 0) yq ym yw yh yr_243)) [6, 7, 8, 9, 10, 11, 12, 13, 14, 15, 16, 17, 18, 0, 1, 2, 3, 4, 5] (by decide) rfl rfl ?_
        refine gV_aload_n C dL_keeps_256 rfl 1 rfl ?_
        refine gV_iconst (v := 2) C dL_keeps_257 rfl ?_
        obtain ⟨hi258, hp⟩ := g_idx hp
        refine gV_iald C 13 rfl 0 rfl hi258 dL_keeps_258 ?_
        refine gV_icmp_ne (tgt := 266) C dL_keeps_259 (by decide) (fun c259 => ?_) (fun c259 => ?_)
        · replace hp := g_iff hp c259
          refine gV_iconst (v := 0) C dL_keeps_266 rfl ?_
          refine gV_loc [0, 1, 2, 3, 4] rfl ?_
          exact J267 0 lc_253 la_253 hr_253 uP_253 uC_253 uR_253 tn_253 pn pg pq rl_253 gcb_253 gpb_253 tg tm tl_253 pm ps (upd (upd (upd yg (3 : Int32).toNatClampNeg 0) (4 : Int32).toNatClampNeg (-1)) (5 : Int32).toNatClampNeg 0) yq ym yr_243 hp
        · replace hp := g_ift hp c259
          refine gV_iconst (v := 1) C dL_keeps_262 rfl ?_
          refine gV_goto (tgt := 267) C dL_keeps_263 (by decide) ?_
          refine gV_loc [0, 1, 2, 3, 4] rfl ?_
          exact J267 1 lc_253 la_253 hr_253 uP_253 uC_253 uR_253 tn_253 pn pg pq rl_253 gcb_253 gpb_253 tg tm tl_253 pm ps (upd (upd (upd yg (3 : Int32).toNatClampNeg 0) (4 : Int32).toNatClampNeg (-1)) (5 : Int32).toNatClampNeg 0) yq ym yr_243 hp
      · replace hp := g_iff hp c210
        refine gV_aload_n C dL_keeps_213 rfl 1 rfl ?_
        refine gV_iconst (v := 2) C dL_keeps_214 rfl ?_
        refine gV_dup2 C dL_keeps_215 rfl rfl ?_
        obtain ⟨hi216, hp⟩ := g_idx hp
        refine gV_iald C 13 rfl 0 rfl hi216 dL_keeps_216 ?_
        refine gV_aload_n C dL_keeps_217 rfl 1 rfl ?_
        refine gV_iconst (v := 1) C dL_keeps_218 rfl ?_
        obtain ⟨hi219, hp⟩ := g_idx hp
        refine gV_iald C 13 rfl 0 rfl hi219 dL_keeps_219 ?_
        refine gV_imul C dL_keeps_220 ?_
        obtain ⟨hi221, hp⟩ := g_idx hp
        refine gV_iast (ws' := (cW h cI cJ lc la hr uP uC uR tn pn pg pq rl sr gcb gpb tg tm tl pm ps) ++ (yW k cI cJ (upd yg (2 : Int32).toNatClampNeg ((yg (2 : Int32).toNatClampNeg) * (yg (1 : Int32).toNatClampNeg))) yq ym yw yh yr)) C 13 rfl 0 rfl hi221 dL_keeps_221 rfl ?_
        refine gV_iinc (v := (v11 + 1)) (lvs' := [(11, .int (v11 + 1)), (0, .ref (h 0)), (3, .ref (k 0)), (4, .ref (k 5)), (5, .ref (k 1)), (6, .ref (k 2))]) C dL_keeps_222 5 rfl rfl (by decide) rfl ?_
        refine gV_goto (tgt := 205) C dL_keeps_225 (by decide) ?_
        refine gV_loc [1, 2, 3, 4, 5, 0] rfl ?_
        exact ih205 (v11 + 1) (upd yg (2 : Int32).toNatClampNeg ((yg (2 : Int32).toNatClampNeg) * (yg (1 : Int32).toNatClampNeg))) hp
  have J197 : ∀ (s0 : Int32) (s1 : Int32) (lc : Int32) (la : Int32) (hr : Int32) (uP : Int32) (uC : Int32) (uR : Int32) (tn : Int32) (pn : Int32) (pg : Int32) (pq : Int32) (rl : Nat → Int32) (gcb : Nat → Int32) (gpb : Nat → Int64) (tg : Nat → Int32) (tm : Nat → Int32) (tl : Nat → Int32) (pm : Nat → Int32) (ps : Nat → Int32) (yg : Nat → Int32) (yq : Nat → Int32) (ym : Nat → Int32) (yr : Nat → Int64), pf_L_keeps_j197 s0 s1 lc la hr uP uC uR tn pn pg pq rl gcb gpb tg tm tl pm ps yg yq ym yr = (some (r0, lc0, la0, hr0, uP0, uC0, uR0, tn0, pn0, pg0, pq0, rl0, gcb0, gpb0, tg0, tm0, tl0, pm0, ps0, yg0, yq0, ym0, yr0)) → gV p l e rm_L_keeps s m args below meth c A D 13 Q ((cW h cI cJ lc la hr uP uC uR tn pn pg pq rl sr gcb gpb tg tm tl pm ps) ++ (yW k cI cJ yg yq ym yw yh yr)) [(0, .ref (h 0)), (3, .ref (k 0)), (4, .ref (k 5)), (5, .ref (k 1)), (6, .ref (k 2))] 0 0 197 [.int s0, .int s1, .ref (k 0)] := by
    intro s0 s1 lc la hr uP uC uR tn pn pg pq rl gcb gpb tg tm tl pm ps yg yq ym yr hp
    unfold pf_L_keeps_j197 at hp
    obtain ⟨hi197, hp⟩ := g_idx hp
    refine gV_iast (ws' := (cW h cI cJ lc la hr uP uC uR tn pn pg pq rl sr gcb gpb tg tm tl pm ps) ++ (yW k cI cJ (upd yg s1.toNatClampNeg s0) yq ym yw yh yr)) C 13 rfl 0 rfl hi197 dL_keeps_197 rfl ?_
    refine gV_aload_n C dL_keeps_198 rfl 1 rfl ?_
    refine gV_iconst (v := 2) C dL_keeps_199 rfl ?_
    refine gV_iconst (v := 1) C dL_keeps_200 rfl ?_
    obtain ⟨hi201, hp⟩ := g_idx hp
    refine gV_iast (ws' := (cW h cI cJ lc la hr uP uC uR tn pn pg pq rl sr gcb gpb tg tm tl pm ps) ++ (yW k cI cJ (upd (upd yg s1.toNatClampNeg s0) (2 : Int32).toNatClampNeg 1) yq ym yw yh yr)) C 13 rfl 0 rfl hi201 dL_keeps_201 rfl ?_
    refine gV_iconst (v := 0) C dL_keeps_202 rfl ?_
    refine gV_istore (lvs' := [(11, .int 0), (0, .ref (h 0)), (3, .ref (k 0)), (4, .ref (k 5)), (5, .ref (k 1)), (6, .ref (k 2))]) C dL_keeps_203 (by decide) rfl ?_
    refine gV_loc [1, 2, 3, 4, 5, 0] rfl ?_
    exact L205 lc la hr uP uC uR tn pn pg pq rl gcb gpb tg tm tl pm ps yq ym yr 100000 0 (upd (upd yg s1.toNatClampNeg s0) (2 : Int32).toNatClampNeg 1) hp
  have J153 : ∀ (v10 : Int32) (s0 : Int32) (s1 : Int32) (lc : Int32) (la : Int32) (hr : Int32) (uP : Int32) (uC : Int32) (uR : Int32) (tn : Int32) (pn : Int32) (pg : Int32) (pq : Int32) (rl : Nat → Int32) (gcb : Nat → Int32) (gpb : Nat → Int64) (tg : Nat → Int32) (tm : Nat → Int32) (tl : Nat → Int32) (pm : Nat → Int32) (ps : Nat → Int32) (yg : Nat → Int32) (yq : Nat → Int32) (ym : Nat → Int32) (yr : Nat → Int64), pf_L_keeps_j153 v10 s0 s1 lc la hr uP uC uR tn pn pg pq rl gcb gpb tg tm tl pm ps yg yq ym yr = (some (r0, lc0, la0, hr0, uP0, uC0, uR0, tn0, pn0, pg0, pq0, rl0, gcb0, gpb0, tg0, tm0, tl0, pm0, ps0, yg0, yq0, ym0, yr0)) → gV p l e rm_L_keeps s m args below meth c A D 13 Q ((cW h cI cJ lc la hr uP uC uR tn pn pg pq rl sr gcb gpb tg tm tl pm ps) ++ (yW k cI cJ yg yq ym yw yh yr)) [(0, .ref (h 0)), (3, .ref (k 0)), (4, .ref (k 5)), (5, .ref (k 1)), (6, .ref (k 2)), (10, .int v10)] 0 0 153 [.int s0, .int s1, .ref (k 0)] := by
    intro v10 s0 s1 lc la hr uP uC uR tn pn pg pq rl gcb gpb tg tm tl pm ps yg yq ym yr hp
    unfold pf_L_keeps_j153 at hp
    obtain ⟨hi153, hp⟩ := g_idx hp
    refine gV_iast (ws' := (cW h cI cJ lc la hr uP uC uR tn pn pg pq rl sr gcb gpb tg tm tl pm ps) ++ (yW k cI cJ (upd yg s1.toNatClampNeg s0) yq ym yw yh yr)) C 13 rfl 0 rfl hi153 dL_keeps_153 rfl ?_
    refine gV_aload_n C dL_keeps_154 rfl 1 rfl ?_
    refine gV_iconst (v := 1) C dL_keeps_155 rfl ?_
    refine gV_iload C dL_keeps_156 5 rfl ?_
    refine gV_iconst (v := 3) C dL_keeps_158 rfl ?_
    refine gV_icmp_ge (tgt := 169) C dL_keeps_159 (by decide) (fun c159 => ?_) (fun c159 => ?_)
    · replace hp := g_ift hp c159
      refine gV_iload C dL_keeps_169 5 rfl ?_
      refine gV_iconst (v := 5) C dL_keeps_171 rfl ?_
      refine gV_icmp_ge (tgt := 184) C dL_keeps_172 (by decide) (fun c172 => ?_) (fun c172 => ?_)
      · replace hp := g_ift hp c172
        refine gV_iload C dL_keeps_184 5 rfl ?_
        refine gV_bipush (v := 8) C dL_keeps_186 rfl ?_
        refine gV_icmp_ge (tgt := 195) C dL_keeps_188 (by decide) (fun c188 => ?_) (fun c188 => ?_)
        · replace hp := g_ift hp c188
          refine gV_bipush (v := 6) C dL_keeps_195 rfl ?_
          refine gV_loc [0, 1, 2, 3, 4] rfl ?_
          exact J197 6 1 lc la hr uP uC uR tn pn pg pq rl gcb gpb tg tm tl pm ps (upd yg s1.toNatClampNeg s0) yq ym yr hp
        · replace hp := g_iff hp c188
          refine gV_iconst (v := 2) C dL_keeps_191 rfl ?_
          refine gV_goto (tgt := 197) C dL_keeps_192 (by decide) ?_
          refine gV_loc [0, 1, 2, 3, 4] rfl ?_
          exact J197 2 1 lc la hr uP uC uR tn pn pg pq rl gcb gpb tg tm tl pm ps (upd yg s1.toNatClampNeg s0) yq ym yr hp
      · replace hp := g_iff hp c172
        refine gV_iconst (v := 2) C dL_keeps_175 rfl ?_
        refine gV_iload C dL_keeps_176 5 rfl ?_
        refine gV_imul C dL_keeps_178 ?_
        refine gV_iconst (v := 2) C dL_keeps_179 rfl ?_
        refine gV_isub C dL_keeps_180 ?_
        refine gV_goto (tgt := 197) C dL_keeps_181 (by decide) ?_
        refine gV_loc [0, 1, 2, 3, 4] rfl ?_
        exact J197 ((2 * v10) - 2) 1 lc la hr uP uC uR tn pn pg pq rl gcb gpb tg tm tl pm ps (upd yg s1.toNatClampNeg s0) yq ym yr hp
    · replace hp := g_iff hp c159
      refine gV_iconst (v := 2) C dL_keeps_162 rfl ?_
      refine gV_iload C dL_keeps_163 5 rfl ?_
      refine gV_iadd C dL_keeps_165 ?_
      refine gV_goto (tgt := 197) C dL_keeps_166 (by decide) ?_
      refine gV_loc [0, 1, 2, 3, 4] rfl ?_
      exact J197 (2 + v10) 1 lc la hr uP uC uR tn pn pg pq rl gcb gpb tg tm tl pm ps (upd yg s1.toNatClampNeg s0) yq ym yr hp
  have J105 : ∀ (s0 : Int32) (lc : Int32) (la : Int32) (hr : Int32) (uP : Int32) (uC : Int32) (uR : Int32) (tn : Int32) (pn : Int32) (pg : Int32) (pq : Int32) (rl : Nat → Int32) (gcb : Nat → Int32) (gpb : Nat → Int64) (tg : Nat → Int32) (tm : Nat → Int32) (tl : Nat → Int32) (pm : Nat → Int32) (ps : Nat → Int32) (yg : Nat → Int32) (yq : Nat → Int32) (ym : Nat → Int32) (yr : Nat → Int64), pf_L_keeps_j105 s0 lc la hr uP uC uR tn pn pg pq rl gcb gpb tg tm tl pm ps yg yq ym yr = (some (r0, lc0, la0, hr0, uP0, uC0, uR0, tn0, pn0, pg0, pq0, rl0, gcb0, gpb0, tg0, tm0, tl0, pm0, ps0, yg0, yq0, ym0, yr0)) → gV p l e rm_L_keeps s m args below meth c A D 13 Q ((cW h cI cJ lc la hr uP uC uR tn pn pg pq rl sr gcb gpb tg tm tl pm ps) ++ (yW k cI cJ yg yq ym yw yh yr)) [(0, .ref (h 0)), (3, .ref (k 0)), (4, .ref (k 5)), (5, .ref (k 1)), (6, .ref (k 2))] 5 30 105 [.int s0] := by
    intro s0 lc la hr uP uC uR tn pn pg pq rl gcb gpb tg tm tl pm ps yg yq ym yr hp
    unfold pf_L_keeps_j105 at hp
    obtain ⟨hz105, hp⟩ := g_bool hp
    obtain ⟨rfl, rfl, rfl, rfl, rfl, rfl, rfl, rfl, rfl, rfl, rfl, rfl, rfl, rfl, rfl, rfl, rfl, rfl, rfl, rfl, rfl, rfl, rfl⟩ := g_so23 hp
    exact RET _ _ _ _ _ _ dL_keeps_105 (Nat.le_of_ble_eq_true rfl) (Nat.le_of_ble_eq_true rfl) (g_nz hz105) ⟨rfl, rfl⟩
  have J104 : ∀ (lc : Int32) (la : Int32) (hr : Int32) (uP : Int32) (uC : Int32) (uR : Int32) (tn : Int32) (pn : Int32) (pg : Int32) (pq : Int32) (rl : Nat → Int32) (gcb : Nat → Int32) (gpb : Nat → Int64) (tg : Nat → Int32) (tm : Nat → Int32) (tl : Nat → Int32) (pm : Nat → Int32) (ps : Nat → Int32) (yg : Nat → Int32) (yq : Nat → Int32) (ym : Nat → Int32) (yr : Nat → Int64), pf_L_keeps_j104 lc la hr uP uC uR tn pn pg pq rl gcb gpb tg tm tl pm ps yg yq ym yr = (some (r0, lc0, la0, hr0, uP0, uC0, uR0, tn0, pn0, pg0, pq0, rl0, gcb0, gpb0, tg0, tm0, tl0, pm0, ps0, yg0, yq0, ym0, yr0)) → gV p l e rm_L_keeps s m args below meth c A D 13 Q ((cW h cI cJ lc la hr uP uC uR tn pn pg pq rl sr gcb gpb tg tm tl pm ps) ++ (yW k cI cJ yg yq ym yw yh yr)) [(0, .ref (h 0)), (3, .ref (k 0)), (4, .ref (k 5)), (5, .ref (k 1)), (6, .ref (k 2))] 5 30 104 [] := by
    intro lc la hr uP uC uR tn pn pg pq rl gcb gpb tg tm tl pm ps yg yq ym yr hp
    unfold pf_L_keeps_j104 at hp
    refine gV_iconst (v := 0) C dL_keeps_104 rfl ?_
    exact J105 0 lc la hr uP uC uR tn pn pg pq rl gcb gpb tg tm tl pm ps yg yq ym yr hp
  refine gV_iload_n C dL_keeps_0 rfl 2 rfl ?_
  refine gV_aload_n C dL_keeps_1 rfl 3 rfl ?_
  refine gV_iconst (v := 2) C dL_keeps_2 rfl ?_
  obtain ⟨hi3, hp⟩ := g_idx hp
  refine gV_iald C 13 rfl 0 rfl hi3 dL_keeps_3 ?_
  obtain ⟨r4q, hq4, hp⟩ := g_ob1 hp
  refine gV_calliE C (gV_runS (As := [.int v2, .int (yg (2 : Int32).toNatClampNeg)]) (rest := []) C (mt_L_low hl D cI cJ v2 (yg (2 : Int32).toNatClampNeg) r4q hq4) (va_cwS 2 C.2.2.2.2.1 gL_keeps_L_low rfl rfl rfl hds_L_low ⟨Nat.le_of_ble_eq_true rfl, Nat.le_of_ble_eq_true rfl⟩) (gSub_E _) rfl rfl (Nat.le_of_ble_eq_true rfl) dL_keeps_4 ⟨Nat.le_of_ble_eq_true rfl, Nat.le_of_ble_eq_true rfl⟩) (fun _ _ hx => False.elim hx) (fun r4 w1 hw => ?_)
  obtain ⟨rfl, rfl⟩ := hw
  refine ⟨rfl, ?_⟩
  refine gV_istore (lvs' := [(7, .int r4), (0, .ref (h 0)), (1, .int v1), (2, .int v2), (3, .ref (k 0)), (4, .ref (k 5)), (5, .ref (k 1)), (6, .ref (k 2))]) C dL_keeps_7 (by decide) rfl ?_
  refine gV_aload_n C dL_keeps_9 rfl 4 rfl ?_
  refine gV_aload C dL_keeps_10 5 rfl ?_
  refine gV_aload C dL_keeps_12 6 rfl ?_
  refine gV_aload C dL_keeps_14 7 rfl ?_
  obtain ⟨r16q, hq16, hp⟩ := g_ob1 hp
  refine gV_calll C (gsub_cy_y _ _ rfl rfl) (gV_runS (As := [.ref (k 0), .ref (k 5), .ref (k 1), .ref (k 2)]) (rest := []) C (mt_L_left hl D k cI cJ yg yq ym yw yh yr r16q hq16) (va_cwS 4 C.2.2.2.2.1 gL_keeps_L_left rfl rfl rfl hds_L_left ⟨Nat.le_of_ble_eq_true rfl, Nat.le_of_ble_eq_true rfl⟩) (gsub_cy_y _ _ rfl rfl) rfl rfl (Nat.le_of_ble_eq_true rfl) dL_keeps_16 ⟨Nat.le_of_ble_eq_true rfl, Nat.le_of_ble_eq_true rfl⟩) (fun _ _ hx => False.elim hx) (fun r16 w1 hw => ?_)
  obtain ⟨rfl, rfl⟩ := hw
  refine gV_sub (ws' := (cW h cI cJ lc la hr uP uC uR tn pn pg pq rl sr gcb gpb tg tm tl pm ps) ++ (yW k cI cJ yg yq ym yw yh yr)) [0, 1, 2, 3, 4, 5, 6, 7, 8, 9, 10, 11, 12, 13, 14, 15, 16, 17, 18] (by decide) rfl rfl ?_
  refine gV_lstore (lvs' := [(8, .long r16), (7, .int r4), (0, .ref (h 0)), (1, .int v1), (2, .int v2), (3, .ref (k 0)), (4, .ref (k 5)), (5, .ref (k 1)), (6, .ref (k 2))]) C dL_keeps_19 (by decide) rfl ?_
  refine gV_iload_n C dL_keeps_21 rfl 3 rfl ?_
  refine gV_if_ne (tgt := 268) C dL_keeps_22 (by decide) (fun c22 => ?_) (fun c22 => ?_)
  · replace hp := g_iff hp c22
    refine gV_iload_n C dL_keeps_268 rfl 3 rfl ?_
    refine gV_iconst (v := 1) C dL_keeps_269 rfl ?_
    refine gV_icmp_ne (tgt := 380) C dL_keeps_270 (by decide) (fun c270 => ?_) (fun c270 => ?_)
    · replace hp := g_iff hp c270
      refine gV_iload_n C dL_keeps_380 rfl 3 rfl ?_
      refine gV_iconst (v := 2) C dL_keeps_381 rfl ?_
      refine gV_icmp_ne (tgt := 511) C dL_keeps_382 (by decide) (fun c382 => ?_) (fun c382 => ?_)
      · replace hp := g_iff hp c382
        refine gV_iload_n C dL_keeps_511 rfl 3 rfl ?_
        refine gV_iconst (v := 5) C dL_keeps_512 rfl ?_
        refine gV_icmp_ge (tgt := 614) C dL_keeps_513 (by decide) (fun c513 => ?_) (fun c513 => ?_)
        · replace hp := g_ift hp c513
          refine gV_iload_n C dL_keeps_614 rfl 3 rfl ?_
          refine gV_bipush (v := 9) C dL_keeps_615 rfl ?_
          refine gV_icmp_ge (tgt := 961) C dL_keeps_617 (by decide) (fun c617 => ?_) (fun c617 => ?_)
          · replace hp := g_ift hp c617
            refine gV_aload_n C dL_keeps_961 rfl 5 rfl ?_
            refine gV_iconst (v := 5) C dL_keeps_962 rfl ?_
            obtain ⟨hi963, hp⟩ := g_idx hp
            refine gV_iald C 13 rfl 0 rfl hi963 dL_keeps_963 ?_
            refine gV_if_ne (tgt := 982) C dL_keeps_964 (by decide) (fun c964 => ?_) (fun c964 => ?_)
            · replace hp := g_iff hp c964
              refine gV_aload_n C dL_keeps_982 rfl 5 rfl ?_
              refine gV_iconst (v := 5) C dL_keeps_983 rfl ?_
              refine gV_dup2 C dL_keeps_984 rfl rfl ?_
              obtain ⟨hi985, hp⟩ := g_idx hp
              refine gV_iald C 13 rfl 0 rfl hi985 dL_keeps_985 ?_
              refine gV_iconst (v := 1) C dL_keeps_986 rfl ?_
              refine gV_isub C dL_keeps_987 ?_
              obtain ⟨hi988, hp⟩ := g_idx hp
              refine gV_iast (ws' := (cW h cI cJ lc la hr uP uC uR tn pn pg pq rl sr gcb gpb tg tm tl pm ps) ++ (yW k cI cJ (upd yg (5 : Int32).toNatClampNeg ((yg (5 : Int32).toNatClampNeg) - 1)) yq ym yw yh yr)) C 13 rfl 0 rfl hi988 dL_keeps_988 rfl ?_
              refine gV_aload_n C dL_keeps_989 rfl 2 rfl ?_
              obtain ⟨r990q, lc_990, tn_990, rl_990, tl_990, hq990, hp⟩ := g_ob5 hp
              refine gV_calli C (gsub_cy_c _ _ rfl rfl) (gV_runSX (As := [.ref (h 0)]) (rest := []) C (mt_L_takeBack hl D h cI cJ lc la hr uP uC uR tn pn pg pq rl sr gcb gpb tg tm tl pm ps r990q lc_990 tn_990 rl_990 tl_990 hq990) (vx_cwSW 1 C.2.2.2.2.1 gL_keeps_L_takeBack rfl rfl rfl hds_L_takeBack ⟨Nat.le_of_ble_eq_true rfl, Nat.le_of_ble_eq_true rfl⟩) (gsub_cy_c _ _ rfl rfl) rfl rfl (Nat.le_of_ble_eq_true rfl) dL_keeps_990 ⟨Nat.le_of_ble_eq_true rfl, Nat.le_of_ble_eq_true rfl⟩) (fun _ _ hx => False.elim hx) (fun r990 w1 hw => ?_)
              obtain ⟨rfl, rfl⟩ := hw
              refine gV_sub (ws' := (cW h cI cJ lc_990 la hr uP uC uR tn_990 pn pg pq rl_990 sr gcb gpb tg tm tl_990 pm ps) ++ (yW k cI cJ (upd yg (5 : Int32).toNatClampNeg ((yg (5 : Int32).toNatClampNeg) - 1)) yq ym yw yh yr)) [6, 7, 8, 9, 10, 11, 12, 13, 14, 15, 16, 17, 18, 0, 1, 2, 3, 4, 5] (by decide) rfl rfl ?_
              refine gV_aload_n C dL_keeps_993 rfl 5 rfl ?_
              refine gV_aload C dL_keeps_994 6 rfl ?_
              refine gV_aload C dL_keeps_996 7 rfl ?_
              refine gV_aload C dL_keeps_998 8 rfl ?_
              obtain ⟨r1000q, hq1000, hp⟩ := g_ob1 hp
              refine gV_calll C (gsub_cy_y _ _ rfl rfl) (gV_runS (As := [.ref (k 0), .ref (k 5), .ref (k 1), .ref (k 2)]) (rest := [.int r990]) C (mt_L_left hl D k cI cJ (upd yg (5 : Int32).toNatClampNeg ((yg (5 : Int32).toNatClampNeg) - 1)) yq ym yw yh yr r1000q hq1000) (va_cwS 4 C.2.2.2.2.1 gL_keeps_L_left rfl rfl rfl hds_L_left ⟨Nat.le_of_ble_eq_true rfl, Nat.le_of_ble_eq_true rfl⟩) (gsub_cy_y _ _ rfl rfl) rfl rfl (Nat.le_of_ble_eq_true rfl) dL_keeps_1000 ⟨Nat.le_of_ble_eq_true rfl, Nat.le_of_ble_eq_true rfl⟩) (fun _ _ hx => False.elim hx) (fun r1000 w1 hw => ?_)
              obtain ⟨rfl, rfl⟩ := hw
              refine gV_sub (ws' := (cW h cI cJ lc_990 la hr uP uC uR tn_990 pn pg pq rl_990 sr gcb gpb tg tm tl_990 pm ps) ++ (yW k cI cJ (upd yg (5 : Int32).toNatClampNeg ((yg (5 : Int32).toNatClampNeg) - 1)) yq ym yw yh yr)) [0, 1, 2, 3, 4, 5, 6, 7, 8, 9, 10, 11, 12, 13, 14, 15, 16, 17, 18] (by decide) rfl rfl ?_
              obtain ⟨r1003q, hq1003, hp⟩ := g_ob1 hp
              refine gV_calliE C (gV_runS (As := [.long r1000]) (rest := [.int r990]) C (mt_L_many hl D cI cJ r1000 r1003q hq1003) (va_cwS 1 C.2.2.2.2.1 gL_keeps_L_many rfl rfl rfl hds_L_many ⟨Nat.le_of_ble_eq_true rfl, Nat.le_of_ble_eq_true rfl⟩) (gSub_E _) rfl rfl (Nat.le_of_ble_eq_true rfl) dL_keeps_1003 ⟨Nat.le_of_ble_eq_true rfl, Nat.le_of_ble_eq_true rfl⟩) (fun _ _ hx => False.elim hx) (fun r1003 w1 hw => ?_)
              obtain ⟨rfl, rfl⟩ := hw
              refine ⟨rfl, ?_⟩
              refine gV_icmp_ne (tgt := 1013) C dL_keeps_1006 (by decide) (fun c1006 => ?_) (fun c1006 => ?_)
              · replace hp := g_iff hp c1006
                refine gV_iconst (v := 0) C dL_keeps_1013 rfl ?_
                refine gV_loc [2, 5, 6, 7, 8] rfl ?_
                exact J1014 0 lc_990 la hr uP uC uR tn_990 pn pg pq rl_990 gcb gpb tg tm tl_990 pm ps (upd yg (5 : Int32).toNatClampNeg ((yg (5 : Int32).toNatClampNeg) - 1)) yq ym yr hp
              · replace hp := g_ift hp c1006
                refine gV_iconst (v := 1) C dL_keeps_1009 rfl ?_
                refine gV_goto (tgt := 1014) C dL_keeps_1010 (by decide) ?_
                refine gV_loc [2, 5, 6, 7, 8] rfl ?_
                exact J1014 1 lc_990 la hr uP uC uR tn_990 pn pg pq rl_990 gcb gpb tg tm tl_990 pm ps (upd yg (5 : Int32).toNatClampNeg ((yg (5 : Int32).toNatClampNeg) - 1)) yq ym yr hp
            · replace hp := g_ift hp c964
              refine gV_aload_n C dL_keeps_967 rfl 2 rfl ?_
              obtain ⟨r968q, lc_968, tn_968, rl_968, tl_968, hq968, hp⟩ := g_ob5 hp
              refine gV_calli C (gsub_cy_c _ _ rfl rfl) (gV_runSX (As := [.ref (h 0)]) (rest := []) C (mt_L_takeBack hl D h cI cJ lc la hr uP uC uR tn pn pg pq rl sr gcb gpb tg tm tl pm ps r968q lc_968 tn_968 rl_968 tl_968 hq968) (vx_cwSW 1 C.2.2.2.2.1 gL_keeps_L_takeBack rfl rfl rfl hds_L_takeBack ⟨Nat.le_of_ble_eq_true rfl, Nat.le_of_ble_eq_true rfl⟩) (gsub_cy_c _ _ rfl rfl) rfl rfl (Nat.le_of_ble_eq_true rfl) dL_keeps_968 ⟨Nat.le_of_ble_eq_true rfl, Nat.le_of_ble_eq_true rfl⟩) (fun _ _ hx => False.elim hx) (fun r968 w1 hw => ?_)
              obtain ⟨rfl, rfl⟩ := hw
              refine gV_sub (ws' := (cW h cI cJ lc_968 la hr uP uC uR tn_968 pn pg pq rl_968 sr gcb gpb tg tm tl_968 pm ps) ++ (yW k cI cJ yg yq ym yw yh yr)) [6, 7, 8, 9, 10, 11, 12, 13, 14, 15, 16, 17, 18, 0, 1, 2, 3, 4, 5] (by decide) rfl rfl ?_
              refine gV_bipush (v := (-73)) C dL_keeps_971 rfl ?_
              refine gV_icmp_ne (tgt := 980) C dL_keeps_973 (by decide) (fun c973 => ?_) (fun c973 => ?_)
              · replace hp := g_iff hp c973
                refine gV_iconst (v := 0) C dL_keeps_980 rfl ?_
                refine gV_loc [2, 5, 6, 7, 8] rfl ?_
                exact J981 0 lc_968 la hr uP uC uR tn_968 pn pg pq rl_968 gcb gpb tg tm tl_968 pm ps yg yq ym yr hp
              · replace hp := g_ift hp c973
                refine gV_iconst (v := 1) C dL_keeps_976 rfl ?_
                refine gV_goto (tgt := 981) C dL_keeps_977 (by decide) ?_
                refine gV_loc [2, 5, 6, 7, 8] rfl ?_
                exact J981 1 lc_968 la hr uP uC uR tn_968 pn pg pq rl_968 gcb gpb tg tm tl_968 pm ps yg yq ym yr hp
          · replace hp := g_iff hp c617
            refine gV_iload_n C dL_keeps_620 rfl 4 rfl ?_
            refine gV_bipush (v := 7) C dL_keeps_621 rfl ?_
            refine gV_ishr C dL_keeps_623 ?_
            refine gV_aload_n C dL_keeps_624 rfl 5 rfl ?_
            refine gV_iconst (v := 2) C dL_keeps_625 rfl ?_
            obtain ⟨hi626, hp⟩ := g_idx hp
            refine gV_iald C 13 rfl 0 rfl hi626 dL_keeps_626 ?_
            obtain ⟨r627q, hq627, hp⟩ := g_ob1 hp
            refine gV_calliE C (gV_runS (As := [.int (v2 >>> (7 &&& 31)), .int (yg (2 : Int32).toNatClampNeg)]) (rest := []) C (mt_L_low hl D cI cJ (v2 >>> (7 &&& 31)) (yg (2 : Int32).toNatClampNeg) r627q hq627) (va_cwS 2 C.2.2.2.2.1 gL_keeps_L_low rfl rfl rfl hds_L_low ⟨Nat.le_of_ble_eq_true rfl, Nat.le_of_ble_eq_true rfl⟩) (gSub_E _) rfl rfl (Nat.le_of_ble_eq_true rfl) dL_keeps_627 ⟨Nat.le_of_ble_eq_true rfl, Nat.le_of_ble_eq_true rfl⟩) (fun _ _ hx => False.elim hx) (fun r627 w1 hw => ?_)
            obtain ⟨rfl, rfl⟩ := hw
            refine ⟨rfl, ?_⟩
            refine gV_istore (lvs' := [(10, .int r627), (8, .long r16), (7, .int r4), (0, .ref (h 0)), (1, .int v1), (2, .int v2), (3, .ref (k 0)), (4, .ref (k 5)), (5, .ref (k 1)), (6, .ref (k 2))]) C dL_keeps_630 (by decide) rfl ?_
            refine gV_iconst (v := 0) C dL_keeps_632 rfl ?_
            refine gV_istore (lvs' := [(11, .int 0), (10, .int r627), (8, .long r16), (7, .int r4), (0, .ref (h 0)), (1, .int v1), (2, .int v2), (3, .ref (k 0)), (4, .ref (k 5)), (5, .ref (k 1)), (6, .ref (k 2))]) C dL_keeps_633 (by decide) rfl ?_
            refine gV_loc [4, 6, 7, 8, 9, 10, 3, 2, 1, 0] rfl ?_
            exact L635 r4 r16 lc la hr uP uC uR tn pn pg pq rl gcb gpb tg tm tl pm ps yg yq ym yr 100000 r627 0 hp
        · replace hp := g_iff hp c513
          refine gV_aload_n C dL_keeps_516 rfl 5 rfl ?_
          refine gV_iconst (v := 4) C dL_keeps_517 rfl ?_
          obtain ⟨hi518, hp⟩ := g_idx hp
          refine gV_iald C 13 rfl 0 rfl hi518 dL_keeps_518 ?_
          refine gV_if_lt (tgt := 530) C dL_keeps_519 (by decide) (fun c519 => ?_) (fun c519 => ?_)
          · replace hp := g_ift hp c519
            refine gV_loc [2, 5, 6, 7, 8, 1] rfl ?_
            exact J530 r4 lc la hr uP uC uR tn pn pg pq rl gcb gpb tg tm tl pm ps yg yq ym yr hp
          · replace hp := g_iff hp c519
            refine gV_aload_n C dL_keeps_522 rfl 5 rfl ?_
            refine gV_iconst (v := 5) C dL_keeps_523 rfl ?_
            obtain ⟨hi524, hp⟩ := g_idx hp
            refine gV_iald C 13 rfl 0 rfl hi524 dL_keeps_524 ?_
            refine gV_bipush (v := 10) C dL_keeps_525 rfl ?_
            refine gV_icmp_ne (tgt := 559) C dL_keeps_527 (by decide) (fun c527 => ?_) (fun c527 => ?_)
            · replace hp := g_iff hp c527
              refine gV_aload C dL_keeps_559 7 rfl ?_
              refine gV_aload_n C dL_keeps_561 rfl 5 rfl ?_
              refine gV_iconst (v := 5) C dL_keeps_562 rfl ?_
              obtain ⟨hi563, hp⟩ := g_idx hp
              refine gV_iald C 13 rfl 0 rfl hi563 dL_keeps_563 ?_
              refine gV_iload C dL_keeps_564 1 rfl ?_
              obtain ⟨hi566, hp⟩ := g_idx hp
              refine gV_iast (ws' := (cW h cI cJ lc la hr uP uC uR tn pn pg pq rl sr gcb gpb tg tm tl pm ps) ++ (yW k cI cJ yg (upd yq (yg (5 : Int32).toNatClampNeg).toNatClampNeg r4) ym yw yh yr)) C 14 rfl 0 rfl hi566 dL_keeps_566 rfl ?_
              refine gV_aload C dL_keeps_567 8 rfl ?_
              refine gV_aload_n C dL_keeps_569 rfl 5 rfl ?_
              refine gV_iconst (v := 5) C dL_keeps_570 rfl ?_
              obtain ⟨hi571, hp⟩ := g_idx hp
              refine gV_iald C 13 rfl 0 rfl hi571 dL_keeps_571 ?_
              refine gV_aload_n C dL_keeps_572 rfl 5 rfl ?_
              refine gV_aload C dL_keeps_573 6 rfl ?_
              refine gV_iload C dL_keeps_575 1 rfl ?_
              refine gV_aload_n C dL_keeps_577 rfl 5 rfl ?_
              refine gV_iconst (v := 4) C dL_keeps_578 rfl ?_
              obtain ⟨hi579, hp⟩ := g_idx hp
              refine gV_iald C 13 rfl 0 rfl hi579 dL_keeps_579 ?_
              obtain ⟨r580q, hq580, hp⟩ := g_ob1 hp
              refine gV_calli C (gsub_cy_y _ _ rfl rfl) (gV_runS (As := [.ref (k 0), .ref (k 5), .int r4, .int (yg (4 : Int32).toNatClampNeg)]) (rest := [.int (yg (5 : Int32).toNatClampNeg), .ref (k 2)]) C (mt_L_pins hl D k cI cJ yg (upd yq (yg (5 : Int32).toNatClampNeg).toNatClampNeg r4) ym yw yh yr r4 (yg (4 : Int32).toNatClampNeg) r580q hq580) (va_cwS 4 C.2.2.2.2.1 gL_keeps_L_pins rfl rfl rfl hds_L_pins ⟨Nat.le_of_ble_eq_true rfl, Nat.le_of_ble_eq_true rfl⟩) (gsub_cy_y _ _ rfl rfl) rfl rfl (Nat.le_of_ble_eq_true rfl) dL_keeps_580 ⟨Nat.le_of_ble_eq_true rfl, Nat.le_of_ble_eq_true rfl⟩) (fun _ _ hx => False.elim hx) (fun r580 w1 hw => ?_)
              obtain ⟨rfl, rfl⟩ := hw
              refine gV_sub (ws' := (cW h cI cJ lc la hr uP uC uR tn pn pg pq rl sr gcb gpb tg tm tl pm ps) ++ (yW k cI cJ yg (upd yq (yg (5 : Int32).toNatClampNeg).toNatClampNeg r4) ym yw yh yr)) [0, 1, 2, 3, 4, 5, 6, 7, 8, 9, 10, 11, 12, 13, 14, 15, 16, 17, 18] (by decide) rfl rfl ?_
              obtain ⟨hi583, hp⟩ := g_idx hp
              refine gV_iast (ws' := (cW h cI cJ lc la hr uP uC uR tn pn pg pq rl sr gcb gpb tg tm tl pm ps) ++ (yW k cI cJ yg (upd yq (yg (5 : Int32).toNatClampNeg).toNatClampNeg r4) (upd ym (yg (5 : Int32).toNatClampNeg).toNatClampNeg r580) yw yh yr)) C 15 rfl 0 rfl hi583 dL_keeps_583 rfl ?_
              refine gV_aload_n C dL_keeps_584 rfl 5 rfl ?_
              refine gV_iconst (v := 5) C dL_keeps_585 rfl ?_
              refine gV_dup2 C dL_keeps_586 rfl rfl ?_
              obtain ⟨hi587, hp⟩ := g_idx hp
              refine gV_iald C 13 rfl 0 rfl hi587 dL_keeps_587 ?_
              refine gV_iconst (v := 1) C dL_keeps_588 rfl ?_
              refine gV_iadd C dL_keeps_589 ?_
              obtain ⟨hi590, hp⟩ := g_idx hp
              refine gV_iast (ws' := (cW h cI cJ lc la hr uP uC uR tn pn pg pq rl sr gcb gpb tg tm tl pm ps) ++ (yW k cI cJ (upd yg (5 : Int32).toNatClampNeg ((yg (5 : Int32).toNatClampNeg) + 1)) (upd yq (yg (5 : Int32).toNatClampNeg).toNatClampNeg r4) (upd ym (yg (5 : Int32).toNatClampNeg).toNatClampNeg r580) yw yh yr)) C 13 rfl 0 rfl hi590 dL_keeps_590 rfl ?_
              refine gV_aload_n C dL_keeps_591 rfl 2 rfl ?_
              refine gV_iload C dL_keeps_592 1 rfl ?_
              obtain ⟨r594q, lc_594, tn_594, rl_594, tg_594, tm_594, tl_594, hq594, hp⟩ := g_ob7 hp
              refine gV_calli C (gsub_cy_c _ _ rfl rfl) (gV_runSX (As := [.ref (h 0), .int r4]) (rest := []) C (mt_L_guess hl D h cI cJ lc la hr uP uC uR tn pn pg pq rl sr gcb gpb tg tm tl pm ps r4 r594q lc_594 tn_594 rl_594 tg_594 tm_594 tl_594 hq594) (vx_cwSW 2 C.2.2.2.2.1 gL_keeps_L_guess rfl rfl rfl hds_L_guess ⟨Nat.le_of_ble_eq_true rfl, Nat.le_of_ble_eq_true rfl⟩) (gsub_cy_c _ _ rfl rfl) rfl rfl (Nat.le_of_ble_eq_true rfl) dL_keeps_594 ⟨Nat.le_of_ble_eq_true rfl, Nat.le_of_ble_eq_true rfl⟩) (fun _ _ hx => False.elim hx) (fun r594 w1 hw => ?_)
              obtain ⟨rfl, rfl⟩ := hw
              refine gV_sub (ws' := (cW h cI cJ lc_594 la hr uP uC uR tn_594 pn pg pq rl_594 sr gcb gpb tg_594 tm_594 tl_594 pm ps) ++ (yW k cI cJ (upd yg (5 : Int32).toNatClampNeg ((yg (5 : Int32).toNatClampNeg) + 1)) (upd yq (yg (5 : Int32).toNatClampNeg).toNatClampNeg r4) (upd ym (yg (5 : Int32).toNatClampNeg).toNatClampNeg r580) yw yh yr)) [6, 7, 8, 9, 10, 11, 12, 13, 14, 15, 16, 17, 18, 0, 1, 2, 3, 4, 5] (by decide) rfl rfl ?_
              refine gV_aload C dL_keeps_597 8 rfl ?_
              refine gV_aload_n C dL_keeps_599 rfl 5 rfl ?_
              refine gV_iconst (v := 5) C dL_keeps_600 rfl ?_
              obtain ⟨hi601, hp⟩ := g_idx hp
              refine gV_iald C 13 rfl 0 rfl hi601 dL_keeps_601 ?_
              refine gV_iconst (v := 1) C dL_keeps_602 rfl ?_
              refine gV_isub C dL_keeps_603 ?_
              obtain ⟨hi604, hp⟩ := g_idx hp
              refine gV_iald C 15 rfl 0 rfl hi604 dL_keeps_604 ?_
              refine gV_icmp_ne (tgt := 612) C dL_keeps_605 (by decide) (fun c605 => ?_) (fun c605 => ?_)
              · replace hp := g_iff hp c605
                refine gV_iconst (v := 0) C dL_keeps_612 rfl ?_
                refine gV_loc [2, 5, 6, 7, 8] rfl ?_
                exact J613 0 lc_594 la hr uP uC uR tn_594 pn pg pq rl_594 gcb gpb tg_594 tm_594 tl_594 pm ps (upd yg (5 : Int32).toNatClampNeg ((yg (5 : Int32).toNatClampNeg) + 1)) (upd yq (yg (5 : Int32).toNatClampNeg).toNatClampNeg r4) (upd ym (yg (5 : Int32).toNatClampNeg).toNatClampNeg r580) yr hp
              · replace hp := g_ift hp c605
                refine gV_iconst (v := 1) C dL_keeps_608 rfl ?_
                refine gV_goto (tgt := 613) C dL_keeps_609 (by decide) ?_
                refine gV_loc [2, 5, 6, 7, 8] rfl ?_
                exact J613 1 lc_594 la hr uP uC uR tn_594 pn pg pq rl_594 gcb gpb tg_594 tm_594 tl_594 pm ps (upd yg (5 : Int32).toNatClampNeg ((yg (5 : Int32).toNatClampNeg) + 1)) (upd yq (yg (5 : Int32).toNatClampNeg).toNatClampNeg r4) (upd ym (yg (5 : Int32).toNatClampNeg).toNatClampNeg r580) yr hp
            · replace hp := g_ift hp c527
              refine gV_loc [2, 5, 6, 7, 8, 1] rfl ?_
              exact J530 r4 lc la hr uP uC uR tn pn pg pq rl gcb gpb tg tm tl pm ps yg yq ym yr hp
      · replace hp := g_ift hp c382
        refine gV_iconst (v := 0) C dL_keeps_385 rfl ?_
        refine gV_istore (lvs' := [(10, .int 0), (8, .long r16), (7, .int r4), (0, .ref (h 0)), (1, .int v1), (2, .int v2), (3, .ref (k 0)), (4, .ref (k 5)), (5, .ref (k 1)), (6, .ref (k 2))]) C dL_keeps_386 (by decide) rfl ?_
        refine gV_loc [3, 5, 6, 7, 8, 9, 2, 1, 0] rfl ?_
        exact L388 r16 lc la hr uP uC uR tn pn pg pq rl gcb gpb tg tm tl pm ps yg yq ym yr 100000 r4 0 hp
    · replace hp := g_ift hp c270
      refine gV_iload_n C dL_keeps_273 rfl 4 rfl ?_
      refine gV_iconst (v := 3) C dL_keeps_274 rfl ?_
      refine gV_ishr C dL_keeps_275 ?_
      refine gV_iload_n C dL_keeps_276 rfl 4 rfl ?_
      refine gV_iconst (v := 2) C dL_keeps_277 rfl ?_
      refine gV_iand C dL_keeps_278 ?_
      refine gV_if_ne (tgt := 286) C dL_keeps_279 (by decide) (fun c279 => ?_) (fun c279 => ?_)
      · replace hp := g_iff hp c279
        refine gV_iconst (v := 2) C dL_keeps_286 rfl ?_
        refine gV_loc [2, 5, 6, 7, 8] rfl ?_
        exact J287 2 (v2 >>> (3 &&& 31)) lc la hr uP uC uR tn pn pg pq rl gcb gpb tg tm tl pm ps yg yq ym yr hp
      · replace hp := g_ift hp c279
        refine gV_iconst (v := 4) C dL_keeps_282 rfl ?_
        refine gV_goto (tgt := 287) C dL_keeps_283 (by decide) ?_
        refine gV_loc [2, 5, 6, 7, 8] rfl ?_
        exact J287 4 (v2 >>> (3 &&& 31)) lc la hr uP uC uR tn pn pg pq rl gcb gpb tg tm tl pm ps yg yq ym yr hp
  · replace hp := g_ift hp c22
    refine gV_iload_n C dL_keeps_25 rfl 4 rfl ?_
    refine gV_bipush (v := 6) C dL_keeps_26 rfl ?_
    refine gV_iand C dL_keeps_28 ?_
    refine gV_if_le (tgt := 106) C dL_keeps_29 (by decide) (fun c29 => ?_) (fun c29 => ?_)
    · replace hp := g_ift hp c29
      refine gV_iload_n C dL_keeps_106 rfl 4 rfl ?_
      refine gV_iconst (v := 3) C dL_keeps_107 rfl ?_
      refine gV_ishr C dL_keeps_108 ?_
      refine gV_bipush (v := 9) C dL_keeps_109 rfl ?_
      obtain ⟨r111q, hq111, hp⟩ := g_ob1 hp
      refine gV_calliE C (gV_runS (As := [.int (v2 >>> (3 &&& 31)), .int 9]) (rest := []) C (mt_L_low hl D cI cJ (v2 >>> (3 &&& 31)) 9 r111q hq111) (va_cwS 2 C.2.2.2.2.1 gL_keeps_L_low rfl rfl rfl hds_L_low ⟨Nat.le_of_ble_eq_true rfl, Nat.le_of_ble_eq_true rfl⟩) (gSub_E _) rfl rfl (Nat.le_of_ble_eq_true rfl) dL_keeps_111 ⟨Nat.le_of_ble_eq_true rfl, Nat.le_of_ble_eq_true rfl⟩) (fun _ _ hx => False.elim hx) (fun r111 w1 hw => ?_)
      obtain ⟨rfl, rfl⟩ := hw
      refine ⟨rfl, ?_⟩
      refine gV_istore (lvs' := [(10, .int r111), (8, .long r16), (7, .int r4), (0, .ref (h 0)), (1, .int v1), (2, .int v2), (3, .ref (k 0)), (4, .ref (k 5)), (5, .ref (k 1)), (6, .ref (k 2))]) C dL_keeps_114 (by decide) rfl ?_
      refine gV_aload_n C dL_keeps_116 rfl 6 rfl ?_
      refine gV_iconst (v := 0) C dL_keeps_117 rfl ?_
      refine gV_iload C dL_keeps_118 0 rfl ?_
      refine gV_iconst (v := 3) C dL_keeps_120 rfl ?_
      refine gV_icmp_ge (tgt := 128) C dL_keeps_121 (by decide) (fun c121 => ?_) (fun c121 => ?_)
      · replace hp := g_ift hp c121
        refine gV_iload C dL_keeps_128 0 rfl ?_
        refine gV_iconst (v := 5) C dL_keeps_130 rfl ?_
        refine gV_icmp_ge (tgt := 138) C dL_keeps_131 (by decide) (fun c131 => ?_) (fun c131 => ?_)
        · replace hp := g_ift hp c131
          refine gV_iload C dL_keeps_138 0 rfl ?_
          refine gV_bipush (v := 8) C dL_keeps_140 rfl ?_
          refine gV_icmp_ge (tgt := 152) C dL_keeps_142 (by decide) (fun c142 => ?_) (fun c142 => ?_)
          · replace hp := g_ift hp c142
            refine gV_iconst (v := 1) C dL_keeps_152 rfl ?_
            refine gV_loc [3, 6, 7, 8, 9, 0] rfl ?_
            exact J153 r111 1 0 lc la hr uP uC uR tn pn pg pq rl gcb gpb tg tm tl pm ps yg yq ym yr hp
          · replace hp := g_iff hp c142
            refine gV_iload C dL_keeps_145 0 rfl ?_
            refine gV_iconst (v := 1) C dL_keeps_147 rfl ?_
            refine gV_isub C dL_keeps_148 ?_
            refine gV_goto (tgt := 153) C dL_keeps_149 (by decide) ?_
            refine gV_loc [3, 6, 7, 8, 9, 0] rfl ?_
            exact J153 r111 (r111 - 1) 0 lc la hr uP uC uR tn pn pg pq rl gcb gpb tg tm tl pm ps yg yq ym yr hp
        · replace hp := g_iff hp c131
          refine gV_iconst (v := 2) C dL_keeps_134 rfl ?_
          refine gV_goto (tgt := 153) C dL_keeps_135 (by decide) ?_
          refine gV_loc [3, 6, 7, 8, 9, 0] rfl ?_
          exact J153 r111 2 0 lc la hr uP uC uR tn pn pg pq rl gcb gpb tg tm tl pm ps yg yq ym yr hp
      · replace hp := g_iff hp c121
        refine gV_iconst (v := 3) C dL_keeps_124 rfl ?_
        refine gV_goto (tgt := 153) C dL_keeps_125 (by decide) ?_
        refine gV_loc [3, 6, 7, 8, 9, 0] rfl ?_
        exact J153 r111 3 0 lc la hr uP uC uR tn pn pg pq rl gcb gpb tg tm tl pm ps yg yq ym yr hp
    · replace hp := g_iff hp c29
      refine gV_aload_n C dL_keeps_32 rfl 2 rfl ?_
      refine gV_bipush (v := 9) C dL_keeps_33 rfl ?_
      refine gV_iconst (v := 2) C dL_keeps_35 rfl ?_
      obtain ⟨r36q, lc_36, la_36, hr_36, uP_36, uC_36, uR_36, tn_36, rl_36, gcb_36, gpb_36, tl_36, hq36, hp⟩ := g_ob12 hp
      refine gV_calli C (gsub_cy_c _ _ rfl rfl) (gV_runSX (As := [.ref (h 0), .int 9, .int 2]) (rest := []) C (mt_L_begin hl D h cI cJ lc la hr uP uC uR tn pn pg pq rl sr gcb gpb tg tm tl pm ps 9 2 r36q lc_36 la_36 hr_36 uP_36 uC_36 uR_36 tn_36 rl_36 gcb_36 gpb_36 tl_36 hq36) (vx_cwSW 3 C.2.2.2.2.1 gL_keeps_L_begin rfl rfl rfl hds_L_begin ⟨Nat.le_of_ble_eq_true rfl, Nat.le_of_ble_eq_true rfl⟩) (gsub_cy_c _ _ rfl rfl) rfl rfl (Nat.le_of_ble_eq_true rfl) dL_keeps_36 ⟨Nat.le_of_ble_eq_true rfl, Nat.le_of_ble_eq_true rfl⟩) (fun _ _ hx => False.elim hx) (fun r36 w1 hw => ?_)
      obtain ⟨rfl, rfl⟩ := hw
      refine gV_sub (ws' := (cW h cI cJ lc_36 la_36 hr_36 uP_36 uC_36 uR_36 tn_36 pn pg pq rl_36 sr gcb_36 gpb_36 tg tm tl_36 pm ps) ++ (yW k cI cJ yg yq ym yw yh yr)) [6, 7, 8, 9, 10, 11, 12, 13, 14, 15, 16, 17, 18, 0, 1, 2, 3, 4, 5] (by decide) rfl rfl ?_
      refine gV_bipush (v := (-72)) C dL_keeps_39 rfl ?_
      refine gV_icmp_ne (tgt := 104) C dL_keeps_41 (by decide) (fun c41 => ?_) (fun c41 => ?_)
      · replace hp := g_iff hp c41
        refine gV_loc [2, 5, 6, 7, 8] rfl ?_
        refine gV_widen (k' := 5) (n' := 30) (Nat.le_of_ble_eq_true rfl) (Nat.le_of_ble_eq_true rfl) ?_
        exact J104 lc_36 la_36 hr_36 uP_36 uC_36 uR_36 tn_36 pn pg pq rl_36 gcb_36 gpb_36 tg tm tl_36 pm ps yg yq ym yr hp
      · replace hp := g_ift hp c41
        refine gV_aload_n C dL_keeps_44 rfl 2 rfl ?_
        refine gV_iconst (v := 3) C dL_keeps_45 rfl ?_
        refine gV_bipush (v := 7) C dL_keeps_46 rfl ?_
        obtain ⟨r48q, lc_48, la_48, hr_48, uP_48, uC_48, uR_48, tn_48, rl_48, gcb_48, gpb_48, tl_48, hq48, hp⟩ := g_ob12 hp
        refine gV_calli C (gsub_cy_c _ _ rfl rfl) (gV_runSX (As := [.ref (h 0), .int 3, .int 7]) (rest := []) C (mt_L_begin hl D h cI cJ lc_36 la_36 hr_36 uP_36 uC_36 uR_36 tn_36 pn pg pq rl_36 sr gcb_36 gpb_36 tg tm tl_36 pm ps 3 7 r48q lc_48 la_48 hr_48 uP_48 uC_48 uR_48 tn_48 rl_48 gcb_48 gpb_48 tl_48 hq48) (vx_cwSW 3 C.2.2.2.2.1 gL_keeps_L_begin rfl rfl rfl hds_L_begin ⟨Nat.le_of_ble_eq_true rfl, Nat.le_of_ble_eq_true rfl⟩) (gsub_cy_c _ _ rfl rfl) rfl rfl (Nat.le_of_ble_eq_true rfl) dL_keeps_48 ⟨Nat.le_of_ble_eq_true rfl, Nat.le_of_ble_eq_true rfl⟩) (fun _ _ hx => False.elim hx) (fun r48 w1 hw => ?_)
        obtain ⟨rfl, rfl⟩ := hw
        refine gV_sub (ws' := (cW h cI cJ lc_48 la_48 hr_48 uP_48 uC_48 uR_48 tn_48 pn pg pq rl_48 sr gcb_48 gpb_48 tg tm tl_48 pm ps) ++ (yW k cI cJ yg yq ym yw yh yr)) [6, 7, 8, 9, 10, 11, 12, 13, 14, 15, 16, 17, 18, 0, 1, 2, 3, 4, 5] (by decide) rfl rfl ?_
        refine gV_bipush (v := (-72)) C dL_keeps_51 rfl ?_
        refine gV_icmp_ne (tgt := 104) C dL_keeps_53 (by decide) (fun c53 => ?_) (fun c53 => ?_)
        · replace hp := g_iff hp c53
          refine gV_loc [2, 5, 6, 7, 8] rfl ?_
          refine gV_widen (k' := 5) (n' := 30) (Nat.le_of_ble_eq_true rfl) (Nat.le_of_ble_eq_true rfl) ?_
          exact J104 lc_48 la_48 hr_48 uP_48 uC_48 uR_48 tn_48 pn pg pq rl_48 gcb_48 gpb_48 tg tm tl_48 pm ps yg yq ym yr hp
        · replace hp := g_ift hp c53
          refine gV_aload_n C dL_keeps_56 rfl 2 rfl ?_
          refine gV_bipush (v := 8) C dL_keeps_57 rfl ?_
          refine gV_iconst (v := 3) C dL_keeps_59 rfl ?_
          obtain ⟨r60q, lc_60, la_60, hr_60, uP_60, uC_60, uR_60, tn_60, rl_60, gcb_60, gpb_60, tl_60, hq60, hp⟩ := g_ob12 hp
          refine gV_calli C (gsub_cy_c _ _ rfl rfl) (gV_runSX (As := [.ref (h 0), .int 8, .int 3]) (rest := []) C (mt_L_begin hl D h cI cJ lc_48 la_48 hr_48 uP_48 uC_48 uR_48 tn_48 pn pg pq rl_48 sr gcb_48 gpb_48 tg tm tl_48 pm ps 8 3 r60q lc_60 la_60 hr_60 uP_60 uC_60 uR_60 tn_60 rl_60 gcb_60 gpb_60 tl_60 hq60) (vx_cwSW 3 C.2.2.2.2.1 gL_keeps_L_begin rfl rfl rfl hds_L_begin ⟨Nat.le_of_ble_eq_true rfl, Nat.le_of_ble_eq_true rfl⟩) (gsub_cy_c _ _ rfl rfl) rfl rfl (Nat.le_of_ble_eq_true rfl) dL_keeps_60 ⟨Nat.le_of_ble_eq_true rfl, Nat.le_of_ble_eq_true rfl⟩) (fun _ _ hx => False.elim hx) (fun r60 w1 hw => ?_)
          obtain ⟨rfl, rfl⟩ := hw
          refine gV_sub (ws' := (cW h cI cJ lc_60 la_60 hr_60 uP_60 uC_60 uR_60 tn_60 pn pg pq rl_60 sr gcb_60 gpb_60 tg tm tl_60 pm ps) ++ (yW k cI cJ yg yq ym yw yh yr)) [6, 7, 8, 9, 10, 11, 12, 13, 14, 15, 16, 17, 18, 0, 1, 2, 3, 4, 5] (by decide) rfl rfl ?_
          refine gV_bipush (v := (-72)) C dL_keeps_63 rfl ?_
          refine gV_icmp_ne (tgt := 104) C dL_keeps_65 (by decide) (fun c65 => ?_) (fun c65 => ?_)
          · replace hp := g_iff hp c65
            refine gV_loc [2, 5, 6, 7, 8] rfl ?_
            refine gV_widen (k' := 5) (n' := 30) (Nat.le_of_ble_eq_true rfl) (Nat.le_of_ble_eq_true rfl) ?_
            exact J104 lc_60 la_60 hr_60 uP_60 uC_60 uR_60 tn_60 pn pg pq rl_60 gcb_60 gpb_60 tg tm tl_60 pm ps yg yq ym yr hp
          · replace hp := g_ift hp c65
            refine gV_aload_n C dL_keeps_68 rfl 2 rfl ?_
            refine gV_iconst (v := 5) C dL_keeps_69 rfl ?_
            refine gV_iconst (v := 4) C dL_keeps_70 rfl ?_
            obtain ⟨r71q, lc_71, la_71, hr_71, uP_71, uC_71, uR_71, tn_71, rl_71, gcb_71, gpb_71, tl_71, hq71, hp⟩ := g_ob12 hp
            refine gV_calli C (gsub_cy_c _ _ rfl rfl) (gV_runSX (As := [.ref (h 0), .int 5, .int 4]) (rest := []) C (mt_L_begin hl D h cI cJ lc_60 la_60 hr_60 uP_60 uC_60 uR_60 tn_60 pn pg pq rl_60 sr gcb_60 gpb_60 tg tm tl_60 pm ps 5 4 r71q lc_71 la_71 hr_71 uP_71 uC_71 uR_71 tn_71 rl_71 gcb_71 gpb_71 tl_71 hq71) (vx_cwSW 3 C.2.2.2.2.1 gL_keeps_L_begin rfl rfl rfl hds_L_begin ⟨Nat.le_of_ble_eq_true rfl, Nat.le_of_ble_eq_true rfl⟩) (gsub_cy_c _ _ rfl rfl) rfl rfl (Nat.le_of_ble_eq_true rfl) dL_keeps_71 ⟨Nat.le_of_ble_eq_true rfl, Nat.le_of_ble_eq_true rfl⟩) (fun _ _ hx => False.elim hx) (fun r71 w1 hw => ?_)
            obtain ⟨rfl, rfl⟩ := hw
            refine gV_sub (ws' := (cW h cI cJ lc_71 la_71 hr_71 uP_71 uC_71 uR_71 tn_71 pn pg pq rl_71 sr gcb_71 gpb_71 tg tm tl_71 pm ps) ++ (yW k cI cJ yg yq ym yw yh yr)) [6, 7, 8, 9, 10, 11, 12, 13, 14, 15, 16, 17, 18, 0, 1, 2, 3, 4, 5] (by decide) rfl rfl ?_
            refine gV_bipush (v := (-72)) C dL_keeps_74 rfl ?_
            refine gV_icmp_ne (tgt := 104) C dL_keeps_76 (by decide) (fun c76 => ?_) (fun c76 => ?_)
            · replace hp := g_iff hp c76
              refine gV_loc [2, 5, 6, 7, 8] rfl ?_
              refine gV_widen (k' := 5) (n' := 30) (Nat.le_of_ble_eq_true rfl) (Nat.le_of_ble_eq_true rfl) ?_
              exact J104 lc_71 la_71 hr_71 uP_71 uC_71 uR_71 tn_71 pn pg pq rl_71 gcb_71 gpb_71 tg tm tl_71 pm ps yg yq ym yr hp
            · replace hp := g_ift hp c76
              refine gV_aload_n C dL_keeps_79 rfl 2 rfl ?_
              refine gV_iconst (v := 0) C dL_keeps_80 rfl ?_
              refine gV_iconst (v := 2) C dL_keeps_81 rfl ?_
              obtain ⟨r82q, lc_82, la_82, hr_82, uP_82, uC_82, uR_82, tn_82, rl_82, gcb_82, gpb_82, tl_82, hq82, hp⟩ := g_ob12 hp
              refine gV_calli C (gsub_cy_c _ _ rfl rfl) (gV_runSX (As := [.ref (h 0), .int 0, .int 2]) (rest := []) C (mt_L_begin hl D h cI cJ lc_71 la_71 hr_71 uP_71 uC_71 uR_71 tn_71 pn pg pq rl_71 sr gcb_71 gpb_71 tg tm tl_71 pm ps 0 2 r82q lc_82 la_82 hr_82 uP_82 uC_82 uR_82 tn_82 rl_82 gcb_82 gpb_82 tl_82 hq82) (vx_cwSW 3 C.2.2.2.2.1 gL_keeps_L_begin rfl rfl rfl hds_L_begin ⟨Nat.le_of_ble_eq_true rfl, Nat.le_of_ble_eq_true rfl⟩) (gsub_cy_c _ _ rfl rfl) rfl rfl (Nat.le_of_ble_eq_true rfl) dL_keeps_82 ⟨Nat.le_of_ble_eq_true rfl, Nat.le_of_ble_eq_true rfl⟩) (fun _ _ hx => False.elim hx) (fun r82 w1 hw => ?_)
              obtain ⟨rfl, rfl⟩ := hw
              refine gV_sub (ws' := (cW h cI cJ lc_82 la_82 hr_82 uP_82 uC_82 uR_82 tn_82 pn pg pq rl_82 sr gcb_82 gpb_82 tg tm tl_82 pm ps) ++ (yW k cI cJ yg yq ym yw yh yr)) [6, 7, 8, 9, 10, 11, 12, 13, 14, 15, 16, 17, 18, 0, 1, 2, 3, 4, 5] (by decide) rfl rfl ?_
              refine gV_bipush (v := (-72)) C dL_keeps_85 rfl ?_
              refine gV_icmp_ne (tgt := 104) C dL_keeps_87 (by decide) (fun c87 => ?_) (fun c87 => ?_)
              · replace hp := g_iff hp c87
                refine gV_loc [2, 5, 6, 7, 8] rfl ?_
                exact J104 lc_82 la_82 hr_82 uP_82 uC_82 uR_82 tn_82 pn pg pq rl_82 gcb_82 gpb_82 tg tm tl_82 pm ps yg yq ym yr hp
              · replace hp := g_ift hp c87
                refine gV_aload_n C dL_keeps_90 rfl 2 rfl ?_
                obtain ⟨r91q, hq91, hp⟩ := g_ob1 hp
                refine gV_calli C (gsub_cy_c _ _ rfl rfl) (gV_runV (As := []) (rest := []) C (mt_X3_rows hl D h cI cJ lc_82 la_82 hr_82 uP_82 uC_82 uR_82 tn_82 pn pg pq rl_82 sr gcb_82 gpb_82 tg tm tl_82 pm ps r91q hq91) (cwV 0 C.2.2.2.2.1 gL_keeps_X3_rows rfl rfl rfl hdv_X3_rows ⟨Nat.le_of_ble_eq_true rfl, Nat.le_of_ble_eq_true rfl⟩) (gsub_cy_c _ _ rfl rfl) 0 rfl rfl rfl rfl (Nat.le_of_ble_eq_true rfl) dL_keeps_91 ⟨Nat.le_of_ble_eq_true rfl, Nat.le_of_ble_eq_true rfl⟩) (fun _ _ hx => False.elim hx) (fun r91 w1 hw => ?_)
                obtain ⟨rfl, rfl⟩ := hw
                refine gV_sub (ws' := (cW h cI cJ lc_82 la_82 hr_82 uP_82 uC_82 uR_82 tn_82 pn pg pq rl_82 sr gcb_82 gpb_82 tg tm tl_82 pm ps) ++ (yW k cI cJ yg yq ym yw yh yr)) [6, 7, 8, 9, 10, 11, 12, 13, 14, 15, 16, 17, 18, 0, 1, 2, 3, 4, 5] (by decide) rfl rfl ?_
                refine gV_aload_n C dL_keeps_94 rfl 5 rfl ?_
                refine gV_iconst (v := 2) C dL_keeps_95 rfl ?_
                obtain ⟨hi96, hp⟩ := g_idx hp
                refine gV_iald C 13 rfl 0 rfl hi96 dL_keeps_96 ?_
                refine gV_icmp_ne (tgt := 104) C dL_keeps_97 (by decide) (fun c97 => ?_) (fun c97 => ?_)
                · replace hp := g_iff hp c97
                  refine gV_loc [2, 5, 6, 7, 8] rfl ?_
                  exact J104 lc_82 la_82 hr_82 uP_82 uC_82 uR_82 tn_82 pn pg pq rl_82 gcb_82 gpb_82 tg tm tl_82 pm ps yg yq ym yr hp
                · replace hp := g_ift hp c97
                  refine gV_iconst (v := 1) C dL_keeps_100 rfl ?_
                  refine gV_goto (tgt := 105) C dL_keeps_101 (by decide) ?_
                  refine gV_loc [2, 5, 6, 7, 8] rfl ?_
                  exact J105 1 lc_82 la_82 hr_82 uP_82 uC_82 uR_82 tn_82 pn pg pq rl_82 gcb_82 gpb_82 tg tm tl_82 pm ps yg yq ym yr hp

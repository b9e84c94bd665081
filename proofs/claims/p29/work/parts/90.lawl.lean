theorem g_rc {x : Nat} (h : x ≤ 1175942) : x ≤ room_1.cells := h
theorem g_rs {x : Nat} (h : x ≤ 5573356) : x ≤ room_1.slots := h
theorem hds_L_isTold : yL_isTold.cls ≠ "java/lang/invoke/MethodHandle" ∧ yL_isTold.cls ≠ "java/lang/invoke/VarHandle" ∧ (parseMethodDescriptor yL_isTold.desc).map (fun d => d.parameters.length) = some 8 := by decide +kernel
theorem hds_L_keeps : yL_keeps.cls ≠ "java/lang/invoke/MethodHandle" ∧ yL_keeps.cls ≠ "java/lang/invoke/VarHandle" ∧ (parseMethodDescriptor yL_keeps.desc).map (fun d => d.parameters.length) = some 7 := by decide +kernel
set_option maxHeartbeats 8000000 in
set_option maxRecDepth 100000 in
theorem mt_law_L {p : Program} {l : Launch} (hl : l.stackTraces = false) {e : Env} {s : State} {m : MethodId} {args : Array Value} {below : List Frame} {meth : Method} {c : Code} {A : Nat → Prop} {D : va_G} {Q : State → Prop} (h k : Nat → Nat) (cI cJ : ClassId) {b L : Nat} {xs : Nat → Int32} (C : gC p l s m args meth c A D [(cI, .int), (cJ, .long)] 11 RL cL_law wsL_law) (hX : va_X b L xs s s.heap) (hbl : b < s.heap.size) (hbA : ¬ A b) (RET : ∀ (ws : va_W) (lvs : List (Nat × Value)) (K N : Nat), K ≤ 1175942 → N ≤ 5573356 → gV p l e room_1 s m args below meth c A D 11 Q ws lvs K N 161 [.int 1]) (v8 : Int32) (lc : Int32) (la : Int32) (hr : Int32) (uP : Int32) (uC : Int32) (uR : Int32) (tn : Int32) (pn : Int32) (pg : Int32) (pq : Int32) (rl : Nat → Int32) (sr : Nat → Int32) (gcb : Nat → Int32) (gpb : Nat → Int64) (tg : Nat → Int32) (tm : Nat → Int32) (tl : Nat → Int32) (pm : Nat → Int32) (ps : Nat → Int32) (yg : Nat → Int32) (yq : Nat → Int32) (ym : Nat → Int32) (yw : Nat → Int64) (yh : Nat → Int32) (yr : Nat → Int64) (hp : (pf_law_L68 L xs 30 v8 lc la hr uP uC uR tn pn pg pq rl sr gcb gpb tg tm tl pm ps yg yq ym yw yh yr) = some 1) : gV p l e room_1 s m args below meth c A D 11 Q ((cW h cI cJ lc la hr uP uC uR tn pn pg pq rl sr gcb gpb tg tm tl pm ps) ++ (yW k cI cJ yg yq ym yw yh yr)) [(0, .ref b), (1, .ref (h 0)), (2, .ref (k 0)), (3, .ref (k 1)), (4, .ref (k 2)), (5, .ref (k 3)), (6, .ref (k 4)), (7, .ref (k 5)), (8, .int v8)] 19 1747 68 [] := by
  have J152 : ∀ (lc : Int32) (la : Int32) (hr : Int32) (uP : Int32) (uC : Int32) (uR : Int32) (tn : Int32) (pn : Int32) (pg : Int32) (pq : Int32) (rl : Nat → Int32) (sr : Nat → Int32) (gcb : Nat → Int32) (gpb : Nat → Int64) (tg : Nat → Int32) (tm : Nat → Int32) (tl : Nat → Int32) (pm : Nat → Int32) (ps : Nat → Int32) (yg : Nat → Int32) (yq : Nat → Int32) (ym : Nat → Int32) (yw : Nat → Int64) (yh : Nat → Int32) (yr : Nat → Int64), pf_law_j152 lc la hr uP uC uR tn pn pg pq rl sr gcb gpb tg tm tl pm ps yg yq ym yw yh yr = some 1 → gV p l e room_1 s m args below meth c A D 11 Q ((cW h cI cJ lc la hr uP uC uR tn pn pg pq rl sr gcb gpb tg tm tl pm ps) ++ (yW k cI cJ yg yq ym yw yh yr)) [(0, .ref b), (1, .ref (h 0)), (2, .ref (k 0)), (3, .ref (k 1)), (4, .ref (k 2)), (5, .ref (k 3)), (6, .ref (k 4)), (7, .ref (k 5))] 25067 152035 152 [] := by
    intro lc la hr uP uC uR tn pn pg pq rl sr gcb gpb tg tm tl pm ps yg yq ym yw yh yr hp
    unfold pf_law_j152 at hp
    refine gV_iconst (v := 0) C dL_law_152 rfl ?_
    exact absurd hp (by decide)
  have L68 : ∀ (n68 : Nat) (v8 : Int32) (lc : Int32) (la : Int32) (hr : Int32) (uP : Int32) (uC : Int32) (uR : Int32) (tn : Int32) (pn : Int32) (pg : Int32) (pq : Int32) (rl : Nat → Int32) (sr : Nat → Int32) (gcb : Nat → Int32) (gpb : Nat → Int64) (tg : Nat → Int32) (tm : Nat → Int32) (tl : Nat → Int32) (pm : Nat → Int32) (ps : Nat → Int32) (yg : Nat → Int32) (yq : Nat → Int32) (ym : Nat → Int32) (yw : Nat → Int64) (yh : Nat → Int32) (yr : Nat → Int64), n68 ≤ 30 → pf_law_L68 L xs n68 v8 lc la hr uP uC uR tn pn pg pq rl sr gcb gpb tg tm tl pm ps yg yq ym yw yh yr = some 1 → gV p l e room_1 s m args below meth c A D 11 Q ((cW h cI cJ lc la hr uP uC uR tn pn pg pq rl sr gcb gpb tg tm tl pm ps) ++ (yW k cI cJ yg yq ym yw yh yr)) [(0, .ref b), (1, .ref (h 0)), (2, .ref (k 0)), (3, .ref (k 1)), (4, .ref (k 2)), (5, .ref (k 3)), (6, .ref (k 4)), (7, .ref (k 5)), (8, .int v8)] (19 + 808 * (30 - n68)) (1747 + 4848 * (30 - n68)) 68 [] := by
    intro n68
    induction n68 with
    | zero => intro v8 lc la hr uP uC uR tn pn pg pq rl sr gcb gpb tg tm tl pm ps yg yq ym yw yh yr _ hp; exact g_none hp
    | succ n68 ih68 =>
      intro v8 lc la hr uP uC uR tn pn pg pq rl sr gcb gpb tg tm tl pm ps yg yq ym yw yh yr hn68 hp
      rw [pf_law_L68.eq_2] at hp
      have J114 : ∀ (v8 : Int32) (v9 : Int32) (v10 : Int32) (s0 : Int32) (lc : Int32) (la : Int32) (hr : Int32) (uP : Int32) (uC : Int32) (uR : Int32) (tn : Int32) (pn : Int32) (pg : Int32) (pq : Int32) (rl : Nat → Int32) (sr : Nat → Int32) (gcb : Nat → Int32) (gpb : Nat → Int64) (tg : Nat → Int32) (tm : Nat → Int32) (tl : Nat → Int32) (pm : Nat → Int32) (ps : Nat → Int32) (yg : Nat → Int32) (yq : Nat → Int32) (ym : Nat → Int32) (yw : Nat → Int64) (yh : Nat → Int32) (yr : Nat → Int64), pf_law_j114 (fun v8 lc la hr uP uC uR tn pn pg pq rl sr gcb gpb tg tm tl pm ps yg yq ym yw yh yr => pf_law_L68 L xs n68 v8 lc la hr uP uC uR tn pn pg pq rl sr gcb gpb tg tm tl pm ps yg yq ym yw yh yr) v8 v9 v10 s0 lc la hr uP uC uR tn pn pg pq rl sr gcb gpb tg tm tl pm ps yg yq ym yw yh yr = some 1 → gV p l e room_1 s m args below meth c A D 11 Q ((cW h cI cJ lc la hr uP uC uR tn pn pg pq rl sr gcb gpb tg tm tl pm ps) ++ (yW k cI cJ yg yq ym yw yh yr)) [(0, .ref b), (1, .ref (h 0)), (2, .ref (k 0)), (3, .ref (k 1)), (4, .ref (k 2)), (5, .ref (k 3)), (6, .ref (k 4)), (7, .ref (k 5)), (8, .int v8), (9, .int v9), (10, .int v10)] (19 + 808 * (30 - (n68 + 1)) + 0) (1747 + 4848 * (30 - (n68 + 1)) + 0) 114 [.int s0, .ref (h 0)] := by
        intro v8 v9 v10 s0 lc la hr uP uC uR tn pn pg pq rl sr gcb gpb tg tm tl pm ps yg yq ym yw yh yr hp
        unfold pf_law_j114 at hp
        refine gV_iload C dL_law_114 10 rfl ?_
        refine gV_aload_n C dL_law_116 rfl 2 rfl ?_
        refine gV_aload C dL_law_117 7 rfl ?_
        refine gV_aload_n C dL_law_119 rfl 3 rfl ?_
        refine gV_aload C dL_law_120 4 rfl ?_
        obtain ⟨r122q, lc_122, la_122, hr_122, uP_122, uC_122, uR_122, tn_122, pn_122, pg_122, pq_122, rl_122, gcb_122, gpb_122, tg_122, tm_122, tl_122, pm_122, ps_122, yg_122, yq_122, ym_122, yr_122, hq122, hp⟩ := g_ob23 hp
        refine gV_calliS C (gV_runS (As := [.ref (h 0), .int s0, .int v10, .ref (k 0), .ref (k 5), .ref (k 1), .ref (k 2)]) (rest := []) C (mt_L_keeps hl D h k cI cJ lc la hr uP uC uR tn pn pg pq rl sr gcb gpb tg tm tl pm ps yg yq ym yw yh yr s0 v10 r122q lc_122 la_122 hr_122 uP_122 uC_122 uR_122 tn_122 pn_122 pg_122 pq_122 rl_122 gcb_122 gpb_122 tg_122 tm_122 tl_122 pm_122 ps_122 yg_122 yq_122 ym_122 yr_122 hq122) (va_cwS 7 C.2.2.2.2.1 gL_law_L_keeps rfl rfl rfl hds_L_keeps ⟨Nat.le_of_ble_eq_true rfl, Nat.le_of_ble_eq_true rfl⟩) (gSub_S _) rfl rfl (Nat.le_of_ble_eq_true rfl) dL_law_122 ⟨(by show _ ≤ 1175942; omega), (by show _ ≤ 5573356; omega)⟩) (fun _ _ hx => False.elim hx) (fun r122 w1 hw => ?_)
        obtain ⟨rfl, rfl⟩ := hw
        refine gV_if_eq (tgt := 152) C dL_law_125 (by decide) (fun c125 => ?_) (fun c125 => ?_)
        · replace hp := g_ift hp c125
          refine gV_loc [0, 1, 2, 3, 4, 5, 6, 7] rfl ?_
          refine gV_widen (k' := 25067) (n' := 152035) (by omega) (by omega) ?_
          exact J152 lc_122 la_122 hr_122 uP_122 uC_122 uR_122 tn_122 pn_122 pg_122 pq_122 rl_122 sr gcb_122 gpb_122 tg_122 tm_122 tl_122 pm_122 ps_122 yg_122 yq_122 ym_122 yw yh yr_122 hp
        · replace hp := g_iff hp c125
          refine gV_aload_n C dL_law_128 rfl 1 rfl ?_
          refine gV_iload C dL_law_129 9 rfl ?_
          refine gV_iconst (v := 5) C dL_law_131 rfl ?_
          refine gV_ishr C dL_law_132 ?_
          refine gV_iload C dL_law_133 10 rfl ?_
          refine gV_ixor C dL_law_135 ?_
          refine gV_aload_n C dL_law_136 rfl 2 rfl ?_
          refine gV_aload C dL_law_137 7 rfl ?_
          refine gV_aload_n C dL_law_139 rfl 3 rfl ?_
          refine gV_aload C dL_law_140 4 rfl ?_
          refine gV_aload C dL_law_142 5 rfl ?_
          refine gV_aload C dL_law_144 6 rfl ?_
          obtain ⟨r146q, pn_146, pg_146, pq_146, sr_146, pm_146, ps_146, yw_146, yh_146, hq146, hp⟩ := g_ob9 hp
          refine gV_calliS C (gV_runS (As := [.ref (h 0), .int ((v9 >>> (5 &&& 31)) ^^^ v10), .ref (k 0), .ref (k 5), .ref (k 1), .ref (k 2), .ref (k 3), .ref (k 4)]) (rest := []) C (mt_L_isTold hl D h k cI cJ lc_122 la_122 hr_122 uP_122 uC_122 uR_122 tn_122 pn_122 pg_122 pq_122 rl_122 sr gcb_122 gpb_122 tg_122 tm_122 tl_122 pm_122 ps_122 yg_122 yq_122 ym_122 yw yh yr_122 ((v9 >>> (5 &&& 31)) ^^^ v10) r146q pn_146 pg_146 pq_146 sr_146 pm_146 ps_146 yw_146 yh_146 hq146) (va_cwS 8 C.2.2.2.2.1 gL_law_L_isTold rfl rfl rfl hds_L_isTold ⟨Nat.le_of_ble_eq_true rfl, Nat.le_of_ble_eq_true rfl⟩) (gSub_S _) rfl rfl (Nat.le_of_ble_eq_true rfl) dL_law_146 ⟨(by show _ ≤ 1175942; omega), (by show _ ≤ 5573356; omega)⟩) (fun _ _ hx => False.elim hx) (fun r146 w1 hw => ?_)
          obtain ⟨rfl, rfl⟩ := hw
          refine gV_if_ne (tgt := 154) C dL_law_149 (by decide) (fun c149 => ?_) (fun c149 => ?_)
          · replace hp := g_iff hp c149
            refine gV_iinc (v := (v8 + 1)) (lvs' := [(8, .int (v8 + 1)), (0, .ref b), (1, .ref (h 0)), (2, .ref (k 0)), (3, .ref (k 1)), (4, .ref (k 2)), (5, .ref (k 3)), (6, .ref (k 4)), (7, .ref (k 5)), (9, .int v9), (10, .int v10)]) C dL_law_154 8 rfl rfl (by decide) rfl ?_
            refine gV_goto (tgt := 68) C dL_law_157 (by decide) ?_
            refine gV_loc [1, 2, 3, 4, 5, 6, 7, 8, 0] rfl ?_
            refine gV_widen (k' := (19 + 808 * (30 - n68))) (n' := (1747 + 4848 * (30 - n68))) (by omega) (by omega) ?_
            exact ih68 (v8 + 1) lc_122 la_122 hr_122 uP_122 uC_122 uR_122 tn_122 pn_146 pg_146 pq_146 rl_122 sr_146 gcb_122 gpb_122 tg_122 tm_122 tl_122 pm_146 ps_146 yg_122 yq_122 ym_122 yw_146 yh_146 yr_122 (by omega) hp
          · replace hp := g_ift hp c149
            refine gV_loc [0, 1, 2, 3, 4, 5, 6, 7] rfl ?_
            refine gV_widen (k' := 25067) (n' := 152035) (by omega) (by omega) ?_
            exact J152 lc_122 la_122 hr_122 uP_122 uC_122 uR_122 tn_122 pn_146 pg_146 pq_146 rl_122 sr_146 gcb_122 gpb_122 tg_122 tm_122 tl_122 pm_146 ps_146 yg_122 yq_122 ym_122 yw_146 yh_146 yr_122 hp
      refine gV_iload C dL_law_68 8 rfl ?_
      refine gV_bipush (v := 28) C dL_law_70 rfl ?_
      refine gV_icmp_ge (tgt := 160) C dL_law_72 (by decide) (fun c72 => ?_) (fun c72 => ?_)
      · replace hp := g_ift hp c72
        refine gV_iconst (v := 1) C dL_law_160 rfl ?_
        exact RET _ _ _ _ (by omega) (by omega)
      · replace hp := g_iff hp c72
        refine gV_aload_n C dL_law_75 rfl 0 rfl ?_
        refine gV_iconst (v := 2) C dL_law_76 rfl ?_
        refine gV_iload C dL_law_77 8 rfl ?_
        refine gV_imul C dL_law_79 ?_
        obtain ⟨r80q, hq80, hp⟩ := g_ob1 hp
        refine gV_calliE C (gV_runSC (As := [.ref b, .int (2 * v8)]) (rest := []) C hX hbl hbA (mt_L_cell hl D cI cJ (2 * v8) r80q hq80) (va_cwS 2 C.2.2.2.2.1 gL_law_L_cell rfl rfl rfl hds_L_cell ⟨Nat.le_of_ble_eq_true rfl, Nat.le_of_ble_eq_true rfl⟩) rfl rfl (Nat.le_of_ble_eq_true rfl) dL_law_80 ⟨(by show _ ≤ 1175942; omega), (by show _ ≤ 5573356; omega)⟩) (fun _ _ hx => False.elim hx) (fun r80 w1 hw => ?_)
        obtain ⟨rfl, rfl⟩ := hw
        refine ⟨rfl, ?_⟩
        refine gV_istore (lvs' := [(9, .int r80), (0, .ref b), (1, .ref (h 0)), (2, .ref (k 0)), (3, .ref (k 1)), (4, .ref (k 2)), (5, .ref (k 3)), (6, .ref (k 4)), (7, .ref (k 5)), (8, .int v8)]) C dL_law_83 (by decide) rfl ?_
        refine gV_aload_n C dL_law_85 rfl 1 rfl ?_
        refine gV_iconst (v := 2) C dL_law_86 rfl ?_
        refine gV_iload C dL_law_87 9 rfl ?_
        refine gV_imul C dL_law_89 ?_
        refine gV_iconst (v := 1) C dL_law_90 rfl ?_
        refine gV_iadd C dL_law_91 ?_
        obtain ⟨r92q, hq92, hp⟩ := g_ob1 hp
        refine gV_calliE C (gV_runSC (As := [.ref b, .int ((2 * v8) + 1)]) (rest := []) C hX hbl hbA (mt_L_cell hl D cI cJ ((2 * v8) + 1) r92q hq92) (va_cwS 2 C.2.2.2.2.1 gL_law_L_cell rfl rfl rfl hds_L_cell ⟨Nat.le_of_ble_eq_true rfl, Nat.le_of_ble_eq_true rfl⟩) rfl rfl (Nat.le_of_ble_eq_true rfl) dL_law_92 ⟨(by show _ ≤ 1175942; omega), (by show _ ≤ 5573356; omega)⟩) (fun _ _ hx => False.elim hx) (fun r92 w1 hw => ?_)
        obtain ⟨rfl, rfl⟩ := hw
        refine ⟨rfl, ?_⟩
        refine gV_istore (lvs' := [(10, .int r92), (9, .int r80), (0, .ref b), (1, .ref (h 0)), (2, .ref (k 0)), (3, .ref (k 1)), (4, .ref (k 2)), (5, .ref (k 3)), (6, .ref (k 4)), (7, .ref (k 5)), (8, .int v8)]) C dL_law_95 (by decide) rfl ?_
        refine gV_aload_n C dL_law_97 rfl 3 rfl ?_
        refine gV_iload C dL_law_98 10 rfl ?_
        refine gV_if_ne (tgt := 107) C dL_law_100 (by decide) (fun c100 => ?_) (fun c100 => ?_)
        · replace hp := g_iff hp c100
          refine gV_iload C dL_law_107 1 rfl ?_
          refine gV_bipush (v := 10) C dL_law_109 rfl ?_
          obtain ⟨r111q, hq111, hp⟩ := g_ob1 hp
          refine gV_calliE C (gV_runS (As := [.int r80, .int 10]) (rest := [.ref (h 0)]) C (mt_L_low hl D cI cJ r80 10 r111q hq111) (va_cwS 2 C.2.2.2.2.1 gL_law_L_low rfl rfl rfl hds_L_low ⟨Nat.le_of_ble_eq_true rfl, Nat.le_of_ble_eq_true rfl⟩) (gSub_E _) rfl rfl (Nat.le_of_ble_eq_true rfl) dL_law_111 ⟨(by show _ ≤ 1175942; omega), (by show _ ≤ 5573356; omega)⟩) (fun _ _ hx => False.elim hx) (fun r111 w1 hw => ?_)
          obtain ⟨rfl, rfl⟩ := hw
          refine ⟨rfl, ?_⟩
          refine gV_loc [2, 3, 4, 5, 6, 7, 8, 9, 10, 1, 0] rfl ?_
          exact J114 v8 r80 r92 r111 lc la hr uP uC uR tn pn pg pq rl sr gcb gpb tg tm tl pm ps yg yq ym yw yh yr hp
        · replace hp := g_ift hp c100
          refine gV_iconst (v := 2) C dL_law_103 rfl ?_
          refine gV_goto (tgt := 114) C dL_law_104 (by decide) ?_
          refine gV_loc [2, 3, 4, 5, 6, 7, 8, 9, 10, 1, 0] rfl ?_
          exact J114 v8 r80 r92 2 lc la hr uP uC uR tn pn pg pq rl sr gcb gpb tg tm tl pm ps yg yq ym yw yh yr hp
  refine gV_widen (k' := (19 + 808 * (30 - 30))) (n' := (1747 + 4848 * (30 - 30))) (by omega) (by omega) ?_
  exact L68 30 v8 lc la hr uP uC uR tn pn pg pq rl sr gcb gpb tg tm tl pm ps yg yq ym yw yh yr (Nat.le_refl _) hp

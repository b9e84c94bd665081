theorem g_rc {x : Nat} (h : x ≤ 601024) : x ≤ room_1.cells := h
theorem g_rs {x : Nat} (h : x ≤ 7293034) : x ≤ room_1.slots := h
section GT
variable {p : Program} {l : Launch} {e : Env} {R : Room} {s : State} {m : MethodId} {args : Array Value} {below : List Frame} {meth : Method} {c : Code} {A : Nat → Prop} {D : va_G} {nL : Nat} {Q : State → Prop} {ws ws' : va_W} {lvs lvs' : List (Nat × Value)} {k n pc : Nat} {st : List Value} {tys : List (ClassId × FieldType)} {own : String} {cc : ByteArray} {Ts : List Cond}
theorem gV_tableIn (C : gC p l s m args meth c A D tys nL own cc Ts) {dflt lo hi : Int} {offs : Array Int} {len tgt : Nat} {off : Int} {x : Int32} (y : Int32) (hx : x = y) (d : decode cc pc = .ok (.tableswitch dflt lo hi offs, len)) (h1 : ¬ y.toInt < lo) (h2 : ¬ hi < y.toInt) (ho : offs[(y.toInt - lo).toNat]? = some off) (ht : (pc : Int) + off = (tgt : Int)) (K : gV p l e R s m args below meth c A D nL Q ws lvs k n tgt st) : gV p l e R s m args below meth c A D nL Q ws lvs k n pc (.int x :: st) := by
  subst hx
  exact fun H locs ls hP hD hS hl0 => lv_tableIn C.1 C.2.1 d h1 h2 ho ht (K H locs ls hP hD hS hl0)
theorem gV_tableOut (C : gC p l s m args meth c A D tys nL own cc Ts) {dflt lo hi : Int} {offs : Array Int} {len tgt : Nat} {x : Int32} (d : decode cc pc = .ok (.tableswitch dflt lo hi offs, len)) (h : x.toInt < lo ∨ hi < x.toInt) (ht : (pc : Int) + dflt = (tgt : Int)) (K : gV p l e R s m args below meth c A D nL Q ws lvs k n tgt st) : gV p l e R s m args below meth c A D nL Q ws lvs k n pc (.int x :: st) := fun H locs ls hP hD hS hl0 => lv_tableOut C.1 C.2.1 d h ht (K H locs ls hP hD hS hl0)
end GT
def pf_law_c0_j221 (kL : Int32 → Int32 → Int32 → Int32 → Int32 → Int32 → Int32 → Int32 → Int32 → Int32 → (Nat → Int32) → (Nat → Int32) → (Nat → Int32) → (Nat → Int64) → (Nat → Int32) → (Nat → Int32) → (Nat → Int32) → (Nat → Int32) → (Nat → Int32) → Int32 → Int32 → Int32 → Int32 → Int32 → Int32 → Int32 → (Nat → Int32) → (Nat → Int32) → (Nat → Int32) → (Nat → Int32) → (Nat → Int32) → (Nat → Int32) → (Nat → Int32) → (Nat → Int32) → (Nat → Int32) → (Nat → Int64) → Option Int32) (pn : Int32) (pg : Int32) (pq : Int32) (sr : Nat → Int32) (tg : Nat → Int32) (tm : Nat → Int32) (pm : Nat → Int32) (ps : Nat → Int32) (mg : Nat → Int32) (mt : Nat → Int32) (mh : Nat → Int32) (mz : Nat → Int32) (mset : Nat → Int32) (mfr : Nat → Int32) (mma : Nat → Int32) (mde : Nat → Int32) (mls : Nat → Int32) (lc : Int32) (la : Int32) (hr : Int32) (uP : Int32) (uC : Int32) (uR : Int32) (tn : Int32) (rl : Nat → Int32) (gcb : Nat → Int32) (gpb : Nat → Int64) (tl : Nat → Int32) (th : Int32) (mP : Int32) (mC : Int32) (mR : Int32) (mal : Int32) (mhd : Int32) (mn : Int32) (ov : Nat → Int64) : Option (Int32) := (kL lc la hr uP uC uR tn pn pg pq rl sr gcb gpb tg tm tl pm ps th mP mC mR mal mhd mn mg mt mh mz mset mfr mma mde mls ov)
def pf_law_c0 (kL : Int32 → Int32 → Int32 → Int32 → Int32 → Int32 → Int32 → Int32 → Int32 → Int32 → (Nat → Int32) → (Nat → Int32) → (Nat → Int32) → (Nat → Int64) → (Nat → Int32) → (Nat → Int32) → (Nat → Int32) → (Nat → Int32) → (Nat → Int32) → Int32 → Int32 → Int32 → Int32 → Int32 → Int32 → Int32 → (Nat → Int32) → (Nat → Int32) → (Nat → Int32) → (Nat → Int32) → (Nat → Int32) → (Nat → Int32) → (Nat → Int32) → (Nat → Int32) → (Nat → Int32) → (Nat → Int64) → Option Int32) (L : Nat) (xs : Nat → Int32) (v4 : Int32) (lc : Int32) (la : Int32) (hr : Int32) (uP : Int32) (uC : Int32) (uR : Int32) (tn : Int32) (pn : Int32) (pg : Int32) (pq : Int32) (rl : Nat → Int32) (sr : Nat → Int32) (gcb : Nat → Int32) (gpb : Nat → Int64) (tg : Nat → Int32) (tm : Nat → Int32) (tl : Nat → Int32) (pm : Nat → Int32) (ps : Nat → Int32) (th : Int32) (mP : Int32) (mC : Int32) (mR : Int32) (mal : Int32) (mhd : Int32) (mn : Int32) (mg : Nat → Int32) (mt : Nat → Int32) (mh : Nat → Int32) (mz : Nat → Int32) (mset : Nat → Int32) (mfr : Nat → Int32) (mma : Nat → Int32) (mde : Nat → Int32) (mls : Nat → Int32) (ov : Nat → Int64) : Option Int32 := (gi (v4 + 1) L (gi (v4 + 2) L (ob13 (pf_L_begin lc la hr uP uC uR tn rl gcb gpb tl ov (xs (v4 + 1).toNatClampNeg) (xs (v4 + 2).toNatClampNeg)) fun r170 lc_170 la_170 hr_170 uP_170 uC_170 uR_170 tn_170 rl_170 gcb_170 gpb_170 tl_170 ov_170 => (gi (v4 + 1) L (gi (v4 + 2) L (ob8 (pf_X4_begin th mP mC mR mal mhd mn (xs (v4 + 1).toNatClampNeg) (xs (v4 + 2).toNatClampNeg)) fun r188 th_188 mP_188 mC_188 mR_188 mal_188 mhd_188 mn_188 => (ob1 (pf_X4_thrown th_188) fun r194 => (if r194 = r170 then (if r170 = 0 then (gi 0 1 (if (lg_cmp (ov_170 (0 : Int32).toNatClampNeg) r188.toInt64) = 0 then (pf_law_c0_j221 kL pn pg pq sr tg tm pm ps mg mt mh mz mset mfr mma mde mls lc_170 la_170 hr_170 uP_170 uC_170 uR_170 tn_170 rl_170 gcb_170 gpb_170 tl_170 th_188 mP_188 mC_188 mR_188 mal_188 mhd_188 mn_188 ov_170) else (some 0))) else (pf_law_c0_j221 kL pn pg pq sr tg tm pm ps mg mt mh mz mset mfr mma mde mls lc_170 la_170 hr_170 uP_170 uC_170 uR_170 tn_170 rl_170 gcb_170 gpb_170 tl_170 th_188 mP_188 mC_188 mR_188 mal_188 mhd_188 mn_188 ov_170)) else (some 0)))))))))
theorem hds_L_begin : yL_begin.cls ≠ "java/lang/invoke/MethodHandle" ∧ yL_begin.cls ≠ "java/lang/invoke/VarHandle" ∧ (parseMethodDescriptor yL_begin.desc).map (fun d => d.parameters.length) = some 4 := by decide +kernel
theorem hdv_X4_begin : yX4_begin.cls = RX4 ∧ yX4_begin.cls ≠ "java/lang/invoke/MethodHandle" ∧ yX4_begin.cls ≠ "java/lang/invoke/VarHandle" ∧ (parseMethodDescriptor yX4_begin.desc).map (fun d => d.parameters.length) = some 2 := by decide +kernel
theorem hdv_X4_thrown : yX4_thrown.cls = RX4 ∧ yX4_thrown.cls ≠ "java/lang/invoke/MethodHandle" ∧ yX4_thrown.cls ≠ "java/lang/invoke/VarHandle" ∧ (parseMethodDescriptor yX4_thrown.desc).map (fun d => d.parameters.length) = some 0 := by decide +kernel
set_option maxHeartbeats 4000000 in
set_option maxRecDepth 100000 in
theorem mt_law_c0 {p : Program} {l : Launch} (hl : l.stackTraces = false) {e : Env} {s : State} {m : MethodId} {args : Array Value} {below : List Frame} {meth : Method} {c : Code} {A : Nat → Prop} {D : va_G} {Q : State → Prop} (h k : Nat → Nat) (ho : Nat) (cI cJ : ClassId) {b L : Nat} {xs : Nat → Int32} (C : gC p l s m args meth c A D [(cI, .int), (cJ, .long)] 7 RL cL_law wsL_law) (hX : va_X b L xs s s.heap) (hbl : b < s.heap.size) (hbA : ¬ A b) (kL : Int32 → Int32 → Int32 → Int32 → Int32 → Int32 → Int32 → Int32 → Int32 → Int32 → (Nat → Int32) → (Nat → Int32) → (Nat → Int32) → (Nat → Int64) → (Nat → Int32) → (Nat → Int32) → (Nat → Int32) → (Nat → Int32) → (Nat → Int32) → Int32 → Int32 → Int32 → Int32 → Int32 → Int32 → Int32 → (Nat → Int32) → (Nat → Int32) → (Nat → Int32) → (Nat → Int32) → (Nat → Int32) → (Nat → Int32) → (Nat → Int32) → (Nat → Int32) → (Nat → Int32) → (Nat → Int64) → Option Int32) (K N K' N' : Nat) (hK : K + 8 ≤ K') (hN : N + 48 ≤ N') (hK' : K' ≤ 601024) (hN' : N' ≤ 7293034) (v4 : Int32) (JE : ∀ (lc : Int32) (la : Int32) (hr : Int32) (uP : Int32) (uC : Int32) (uR : Int32) (tn : Int32) (pn : Int32) (pg : Int32) (pq : Int32) (rl : Nat → Int32) (sr : Nat → Int32) (gcb : Nat → Int32) (gpb : Nat → Int64) (tg : Nat → Int32) (tm : Nat → Int32) (tl : Nat → Int32) (pm : Nat → Int32) (ps : Nat → Int32) (th : Int32) (mP : Int32) (mC : Int32) (mR : Int32) (mal : Int32) (mhd : Int32) (mn : Int32) (mg : Nat → Int32) (mt : Nat → Int32) (mh : Nat → Int32) (mz : Nat → Int32) (mset : Nat → Int32) (mfr : Nat → Int32) (mma : Nat → Int32) (mde : Nat → Int32) (mls : Nat → Int32) (ov : Nat → Int64), kL lc la hr uP uC uR tn pn pg pq rl sr gcb gpb tg tm tl pm ps th mP mC mR mal mhd mn mg mt mh mz mset mfr mma mde mls ov = some 1 → gV p l e room_1 s m args below meth c A D 7 Q ((cW h cI cJ lc la hr uP uC uR tn pn pg pq rl sr gcb gpb tg tm tl pm ps) ++ ((mW k cI th mP mC mR mal mhd mn mg mt mh mz mset mfr mma mde mls) ++ (oW ho cJ ov))) [(0, .ref b), (1, .ref (h 0)), (2, .ref (k 0)), (3, .ref ho), (4, .int v4)] K' N' 1466 []) (lc : Int32) (la : Int32) (hr : Int32) (uP : Int32) (uC : Int32) (uR : Int32) (tn : Int32) (pn : Int32) (pg : Int32) (pq : Int32) (rl : Nat → Int32) (sr : Nat → Int32) (gcb : Nat → Int32) (gpb : Nat → Int64) (tg : Nat → Int32) (tm : Nat → Int32) (tl : Nat → Int32) (pm : Nat → Int32) (ps : Nat → Int32) (th : Int32) (mP : Int32) (mC : Int32) (mR : Int32) (mal : Int32) (mhd : Int32) (mn : Int32) (mg : Nat → Int32) (mt : Nat → Int32) (mh : Nat → Int32) (mz : Nat → Int32) (mset : Nat → Int32) (mfr : Nat → Int32) (mma : Nat → Int32) (mde : Nat → Int32) (mls : Nat → Int32) (ov : Nat → Int64) (hp : pf_law_c0 kL L xs v4 lc la hr uP uC uR tn pn pg pq rl sr gcb gpb tg tm tl pm ps th mP mC mR mal mhd mn mg mt mh mz mset mfr mma mde mls ov = some 1) : gV p l e room_1 s m args below meth c A D 7 Q ((cW h cI cJ lc la hr uP uC uR tn pn pg pq rl sr gcb gpb tg tm tl pm ps) ++ ((mW k cI th mP mC mR mal mhd mn mg mt mh mz mset mfr mma mde mls) ++ (oW ho cJ ov))) [(0, .ref b), (1, .ref (h 0)), (2, .ref (k 0)), (3, .ref ho), (4, .int v4)] K N 156 [] := by
  unfold pf_law_c0 at hp
  have J221 : ∀ (K1 N1 : Nat), K1 + 2 ≤ K' → N1 + 12 ≤ N' → ∀ (lc : Int32) (la : Int32) (hr : Int32) (uP : Int32) (uC : Int32) (uR : Int32) (tn : Int32) (rl : Nat → Int32) (gcb : Nat → Int32) (gpb : Nat → Int64) (tl : Nat → Int32) (th : Int32) (mP : Int32) (mC : Int32) (mR : Int32) (mal : Int32) (mhd : Int32) (mn : Int32) (ov : Nat → Int64), pf_law_c0_j221 kL pn pg pq sr tg tm pm ps mg mt mh mz mset mfr mma mde mls lc la hr uP uC uR tn rl gcb gpb tl th mP mC mR mal mhd mn ov = some 1 → gV p l e room_1 s m args below meth c A D 7 Q ((cW h cI cJ lc la hr uP uC uR tn pn pg pq rl sr gcb gpb tg tm tl pm ps) ++ ((mW k cI th mP mC mR mal mhd mn mg mt mh mz mset mfr mma mde mls) ++ (oW ho cJ ov))) [(0, .ref b), (1, .ref (h 0)), (2, .ref (k 0)), (3, .ref ho), (4, .int v4)] K1 N1 221 [] := by
    intro K1 N1 hK1 hN1 lc la hr uP uC uR tn rl gcb gpb tl th mP mC mR mal mhd mn ov hp
    unfold pf_law_c0_j221 at hp
    refine gV_goto (tgt := 1466) C dL_law_221 (by decide) ?_
    refine gV_widen (k' := K') (n' := N') (by omega) (by omega) ?_
    exact JE lc la hr uP uC uR tn pn pg pq rl sr gcb gpb tg tm tl pm ps th mP mC mR mal mhd mn mg mt mh mz mset mfr mma mde mls ov hp
  refine gV_aload_n C dL_law_156 rfl 1 rfl ?_
  refine gV_aload_n C dL_law_157 rfl 0 rfl ?_
  refine gV_iload C dL_law_158 4 rfl ?_
  refine gV_iconst (v := 1) C dL_law_160 rfl ?_
  refine gV_iadd C dL_law_161 ?_
  obtain ⟨hi162, hp⟩ := g_idx hp
  refine gV_sld C hX hbl hbA hi162 dL_law_162 ?_
  refine gV_aload_n C dL_law_163 rfl 0 rfl ?_
  refine gV_iload C dL_law_164 4 rfl ?_
  refine gV_iconst (v := 2) C dL_law_166 rfl ?_
  refine gV_iadd C dL_law_167 ?_
  obtain ⟨hi168, hp⟩ := g_idx hp
  refine gV_sld C hX hbl hbA hi168 dL_law_168 ?_
  refine gV_aload_n C dL_law_169 rfl 3 rfl ?_
  obtain ⟨r170q, lc_170, la_170, hr_170, uP_170, uC_170, uR_170, tn_170, rl_170, gcb_170, gpb_170, tl_170, ov_170, hq170, hp⟩ := g_ob13 hp
  refine gV_calli C (gsub_cmo_co _ _ rfl rfl) (gV_runSX (As := [.ref (h 0), .int (xs (v4 + 1).toNatClampNeg), .int (xs (v4 + 2).toNatClampNeg), .ref ho]) (rest := []) C (mt_L_begin hl D h ho cI cJ lc la hr uP uC uR tn pn pg pq rl sr gcb gpb tg tm tl pm ps ov (xs (v4 + 1).toNatClampNeg) (xs (v4 + 2).toNatClampNeg) r170q lc_170 la_170 hr_170 uP_170 uC_170 uR_170 tn_170 rl_170 gcb_170 gpb_170 tl_170 ov_170 hq170) (vx_cwSW 4 C.2.2.2.2.1 gL_law_L_begin rfl rfl rfl hds_L_begin ⟨Nat.le_of_ble_eq_true rfl, Nat.le_of_ble_eq_true rfl⟩) (gsub_cmo_co _ _ rfl rfl) rfl rfl (Nat.le_of_ble_eq_true rfl) dL_law_170 ⟨g_rc (by omega), g_rs (by omega)⟩) (fun _ _ hx => False.elim hx) (fun r170 w1 hw => ?_)
  obtain ⟨rfl, rfl⟩ := hw
  refine gV_sub (ws' := (cW h cI cJ lc_170 la_170 hr_170 uP_170 uC_170 uR_170 tn_170 pn pg pq rl_170 sr gcb_170 gpb_170 tg tm tl_170 pm ps) ++ ((mW k cI th mP mC mR mal mhd mn mg mt mh mz mset mfr mma mde mls) ++ (oW ho cJ ov_170))) [10, 11, 12, 13, 14, 15, 16, 17, 18, 19, 20, 21, 22, 0, 1, 2, 3, 4, 5, 6, 7, 8, 9, 23] (by decide) rfl rfl ?_
  refine gV_istore (lvs' := [(5, .int r170), (0, .ref b), (1, .ref (h 0)), (2, .ref (k 0)), (3, .ref ho), (4, .int v4)]) C dL_law_173 (by decide) rfl ?_
  refine gV_aload_n C dL_law_175 rfl 3 rfl ?_
  refine gV_aload_n C dL_law_176 rfl 1 rfl ?_
  refine gV_iload C dL_law_177 5 rfl ?_
  refine gV_iconst (v := 1) C dL_law_179 rfl ?_
  refine gV_iadd C dL_law_180 ?_
  obtain ⟨hi181, hp⟩ := g_idx hp
  refine gV_sld C hX hbl hbA hi181 dL_law_181 ?_
  refine gV_aload_n C dL_law_182 rfl 1 rfl ?_
  refine gV_iload C dL_law_183 5 rfl ?_
  refine gV_iconst (v := 2) C dL_law_185 rfl ?_
  refine gV_iadd C dL_law_186 ?_
  obtain ⟨hi187, hp⟩ := g_idx hp
  refine gV_sld C hX hbl hbA hi187 dL_law_187 ?_
  obtain ⟨r188q, th_188, mP_188, mC_188, mR_188, mal_188, mhd_188, mn_188, hq188, hp⟩ := g_ob8 hp
  refine gV_calli C (gsub_cmo_m _ _ rfl rfl) (gV_runV (As := [.int (xs (v4 + 1).toNatClampNeg), .int (xs (v4 + 2).toNatClampNeg)]) (rest := []) C (mt_X4_begin hl D k cI cJ th mP mC mR mal mhd mn mg mt mh mz mset mfr mma mde mls (xs (v4 + 1).toNatClampNeg) (xs (v4 + 2).toNatClampNeg) r188q th_188 mP_188 mC_188 mR_188 mal_188 mhd_188 mn_188 hq188) (cwV 2 C.2.2.2.2.1 gL_law_X4_begin rfl rfl rfl hdv_X4_begin ⟨Nat.le_of_ble_eq_true rfl, Nat.le_of_ble_eq_true rfl⟩) (gsub_cmo_m _ _ rfl rfl) 13 rfl rfl rfl rfl (Nat.le_of_ble_eq_true rfl) dL_law_188 ⟨g_rc (by omega), g_rs (by omega)⟩) (fun _ _ hx => False.elim hx) (fun r188 w1 hw => ?_)
  obtain ⟨rfl, rfl⟩ := hw
  refine gV_sub (ws' := (cW h cI cJ lc_170 la_170 hr_170 uP_170 uC_170 uR_170 tn_170 pn pg pq rl_170 sr gcb_170 gpb_170 tg tm tl_170 pm ps) ++ ((mW k cI th_188 mP_188 mC_188 mR_188 mal_188 mhd_188 mn_188 mg mt mh mz mset mfr mma mde mls) ++ (oW ho cJ ov_170))) [0, 1, 2, 3, 4, 5, 6, 7, 8, 9, 10, 11, 12, 14, 15, 16, 17, 18, 19, 20, 21, 22, 23, 13] (by decide) rfl rfl ?_
  refine gV_istore (lvs' := [(6, .int r188), (5, .int r170), (0, .ref b), (1, .ref (h 0)), (2, .ref (k 0)), (3, .ref ho), (4, .int v4)]) C dL_law_191 (by decide) rfl ?_
  refine gV_aload_n C dL_law_193 rfl 4 rfl ?_
  obtain ⟨r194q, hq194, hp⟩ := g_ob1 hp
  refine gV_calli C (gsub_cmo_m _ _ rfl rfl) (gV_runV (As := []) (rest := []) C (mt_X4_thrown hl D k cI cJ th_188 mP_188 mC_188 mR_188 mal_188 mhd_188 mn_188 mg mt mh mz mset mfr mma mde mls r194q hq194) (cwV 0 C.2.2.2.2.1 gL_law_X4_thrown rfl rfl rfl hdv_X4_thrown ⟨Nat.le_of_ble_eq_true rfl, Nat.le_of_ble_eq_true rfl⟩) (gsub_cmo_m _ _ rfl rfl) 13 rfl rfl rfl rfl (Nat.le_of_ble_eq_true rfl) dL_law_194 ⟨g_rc (by omega), g_rs (by omega)⟩) (fun _ _ hx => False.elim hx) (fun r194 w1 hw => ?_)
  obtain ⟨rfl, rfl⟩ := hw
  refine gV_sub (ws' := (cW h cI cJ lc_170 la_170 hr_170 uP_170 uC_170 uR_170 tn_170 pn pg pq rl_170 sr gcb_170 gpb_170 tg tm tl_170 pm ps) ++ ((mW k cI th_188 mP_188 mC_188 mR_188 mal_188 mhd_188 mn_188 mg mt mh mz mset mfr mma mde mls) ++ (oW ho cJ ov_170))) [0, 1, 2, 3, 4, 5, 6, 7, 8, 9, 10, 11, 12, 14, 15, 16, 17, 18, 19, 20, 21, 22, 23, 13] (by decide) rfl rfl ?_
  refine gV_iload C dL_law_197 1 rfl ?_
  refine gV_icmp_eq (tgt := 204) C dL_law_199 (by decide) (fun c199 => ?_) (fun c199 => ?_)
  · replace hp := g_ift hp c199
    refine gV_iload C dL_law_204 1 rfl ?_
    refine gV_if_ne (tgt := 221) C dL_law_206 (by decide) (fun c206 => ?_) (fun c206 => ?_)
    · replace hp := g_iff hp c206
      refine gV_loc [2, 3, 4, 5, 6] rfl ?_
      exact J221 _ _ (by omega) (by omega) lc_170 la_170 hr_170 uP_170 uC_170 uR_170 tn_170 rl_170 gcb_170 gpb_170 tl_170 th_188 mP_188 mC_188 mR_188 mal_188 mhd_188 mn_188 ov_170 hp
    · replace hp := g_ift hp c206
      refine gV_aload_n C dL_law_209 rfl 5 rfl ?_
      refine gV_iconst (v := 0) C dL_law_210 rfl ?_
      obtain ⟨hi211, hp⟩ := g_idx hp
      refine gV_lald C 23 rfl 1 rfl hi211 dL_law_211 ?_
      refine gV_iload C dL_law_212 0 rfl ?_
      refine gV_i2l C dL_law_214 ?_
      refine gV_lcmp C dL_law_215 ?_
      refine gV_if_eq (tgt := 221) C dL_law_216 (by decide) (fun c216 => ?_) (fun c216 => ?_)
      · replace hp := g_ift hp c216
        refine gV_loc [2, 3, 4, 5, 6] rfl ?_
        exact J221 _ _ (by omega) (by omega) lc_170 la_170 hr_170 uP_170 uC_170 uR_170 tn_170 rl_170 gcb_170 gpb_170 tl_170 th_188 mP_188 mC_188 mR_188 mal_188 mhd_188 mn_188 ov_170 hp
      · replace hp := g_iff hp c216
        refine gV_iconst (v := 0) C dL_law_219 rfl ?_
        exact absurd hp (by decide)
  · replace hp := g_iff hp c199
    refine gV_iconst (v := 0) C dL_law_202 rfl ?_
    exact absurd hp (by decide)
def pf_law_c1 (kL : Int32 → Int32 → Int32 → Int32 → Int32 → Int32 → Int32 → Int32 → Int32 → Int32 → (Nat → Int32) → (Nat → Int32) → (Nat → Int32) → (Nat → Int64) → (Nat → Int32) → (Nat → Int32) → (Nat → Int32) → (Nat → Int32) → (Nat → Int32) → Int32 → Int32 → Int32 → Int32 → Int32 → Int32 → Int32 → (Nat → Int32) → (Nat → Int32) → (Nat → Int32) → (Nat → Int32) → (Nat → Int32) → (Nat → Int32) → (Nat → Int32) → (Nat → Int32) → (Nat → Int32) → (Nat → Int64) → Option Int32) (L : Nat) (xs : Nat → Int32) (v4 : Int32) (lc : Int32) (la : Int32) (hr : Int32) (uP : Int32) (uC : Int32) (uR : Int32) (tn : Int32) (pn : Int32) (pg : Int32) (pq : Int32) (rl : Nat → Int32) (sr : Nat → Int32) (gcb : Nat → Int32) (gpb : Nat → Int64) (tg : Nat → Int32) (tm : Nat → Int32) (tl : Nat → Int32) (pm : Nat → Int32) (ps : Nat → Int32) (th : Int32) (mP : Int32) (mC : Int32) (mR : Int32) (mal : Int32) (mhd : Int32) (mn : Int32) (mg : Nat → Int32) (mt : Nat → Int32) (mh : Nat → Int32) (mz : Nat → Int32) (mset : Nat → Int32) (mfr : Nat → Int32) (mma : Nat → Int32) (mde : Nat → Int32) (mls : Nat → Int32) (ov : Nat → Int64) : Option Int32 := (ob1 (pf_X3_rows uR) fun r225 => (ob2 (pf_X4_rows th mR) fun r229 th_229 => (if r225 = r229 then (kL lc la hr uP uC uR tn pn pg pq rl sr gcb gpb tg tm tl pm ps th_229 mP mC mR mal mhd mn mg mt mh mz mset mfr mma mde mls ov) else (some 0))))
theorem hdv_X3_rows : yX3_rows.cls = RX3 ∧ yX3_rows.cls ≠ "java/lang/invoke/MethodHandle" ∧ yX3_rows.cls ≠ "java/lang/invoke/VarHandle" ∧ (parseMethodDescriptor yX3_rows.desc).map (fun d => d.parameters.length) = some 0 := by decide +kernel
theorem hdv_X4_rows : yX4_rows.cls = RX4 ∧ yX4_rows.cls ≠ "java/lang/invoke/MethodHandle" ∧ yX4_rows.cls ≠ "java/lang/invoke/VarHandle" ∧ (parseMethodDescriptor yX4_rows.desc).map (fun d => d.parameters.length) = some 0 := by decide +kernel
set_option maxHeartbeats 4000000 in
set_option maxRecDepth 100000 in
theorem mt_law_c1 {p : Program} {l : Launch} (hl : l.stackTraces = false) {e : Env} {s : State} {m : MethodId} {args : Array Value} {below : List Frame} {meth : Method} {c : Code} {A : Nat → Prop} {D : va_G} {Q : State → Prop} (h k : Nat → Nat) (ho : Nat) (cI cJ : ClassId) {b L : Nat} {xs : Nat → Int32} (C : gC p l s m args meth c A D [(cI, .int), (cJ, .long)] 7 RL cL_law wsL_law) (hX : va_X b L xs s s.heap) (hbl : b < s.heap.size) (hbA : ¬ A b) (kL : Int32 → Int32 → Int32 → Int32 → Int32 → Int32 → Int32 → Int32 → Int32 → Int32 → (Nat → Int32) → (Nat → Int32) → (Nat → Int32) → (Nat → Int64) → (Nat → Int32) → (Nat → Int32) → (Nat → Int32) → (Nat → Int32) → (Nat → Int32) → Int32 → Int32 → Int32 → Int32 → Int32 → Int32 → Int32 → (Nat → Int32) → (Nat → Int32) → (Nat → Int32) → (Nat → Int32) → (Nat → Int32) → (Nat → Int32) → (Nat → Int32) → (Nat → Int32) → (Nat → Int32) → (Nat → Int64) → Option Int32) (K N K' N' : Nat) (hK : K + 8 ≤ K') (hN : N + 48 ≤ N') (hK' : K' ≤ 601024) (hN' : N' ≤ 7293034) (v4 : Int32) (JE : ∀ (lc : Int32) (la : Int32) (hr : Int32) (uP : Int32) (uC : Int32) (uR : Int32) (tn : Int32) (pn : Int32) (pg : Int32) (pq : Int32) (rl : Nat → Int32) (sr : Nat → Int32) (gcb : Nat → Int32) (gpb : Nat → Int64) (tg : Nat → Int32) (tm : Nat → Int32) (tl : Nat → Int32) (pm : Nat → Int32) (ps : Nat → Int32) (th : Int32) (mP : Int32) (mC : Int32) (mR : Int32) (mal : Int32) (mhd : Int32) (mn : Int32) (mg : Nat → Int32) (mt : Nat → Int32) (mh : Nat → Int32) (mz : Nat → Int32) (mset : Nat → Int32) (mfr : Nat → Int32) (mma : Nat → Int32) (mde : Nat → Int32) (mls : Nat → Int32) (ov : Nat → Int64), kL lc la hr uP uC uR tn pn pg pq rl sr gcb gpb tg tm tl pm ps th mP mC mR mal mhd mn mg mt mh mz mset mfr mma mde mls ov = some 1 → gV p l e room_1 s m args below meth c A D 7 Q ((cW h cI cJ lc la hr uP uC uR tn pn pg pq rl sr gcb gpb tg tm tl pm ps) ++ ((mW k cI th mP mC mR mal mhd mn mg mt mh mz mset mfr mma mde mls) ++ (oW ho cJ ov))) [(0, .ref b), (1, .ref (h 0)), (2, .ref (k 0)), (3, .ref ho), (4, .int v4)] K' N' 1466 []) (lc : Int32) (la : Int32) (hr : Int32) (uP : Int32) (uC : Int32) (uR : Int32) (tn : Int32) (pn : Int32) (pg : Int32) (pq : Int32) (rl : Nat → Int32) (sr : Nat → Int32) (gcb : Nat → Int32) (gpb : Nat → Int64) (tg : Nat → Int32) (tm : Nat → Int32) (tl : Nat → Int32) (pm : Nat → Int32) (ps : Nat → Int32) (th : Int32) (mP : Int32) (mC : Int32) (mR : Int32) (mal : Int32) (mhd : Int32) (mn : Int32) (mg : Nat → Int32) (mt : Nat → Int32) (mh : Nat → Int32) (mz : Nat → Int32) (mset : Nat → Int32) (mfr : Nat → Int32) (mma : Nat → Int32) (mde : Nat → Int32) (mls : Nat → Int32) (ov : Nat → Int64) (hp : pf_law_c1 kL L xs v4 lc la hr uP uC uR tn pn pg pq rl sr gcb gpb tg tm tl pm ps th mP mC mR mal mhd mn mg mt mh mz mset mfr mma mde mls ov = some 1) : gV p l e room_1 s m args below meth c A D 7 Q ((cW h cI cJ lc la hr uP uC uR tn pn pg pq rl sr gcb gpb tg tm tl pm ps) ++ ((mW k cI th mP mC mR mal mhd mn mg mt mh mz mset mfr mma mde mls) ++ (oW ho cJ ov))) [(0, .ref b), (1, .ref (h 0)), (2, .ref (k 0)), (3, .ref ho), (4, .int v4)] K N 224 [] := by
  unfold pf_law_c1 at hp
  refine gV_aload_n C dL_law_224 rfl 1 rfl ?_
  obtain ⟨r225q, hq225, hp⟩ := g_ob1 hp
  refine gV_calli C (gsub_cmo_c _ _ rfl rfl) (gV_runV (As := []) (rest := []) C (mt_X3_rows hl D h cI cJ lc la hr uP uC uR tn pn pg pq rl sr gcb gpb tg tm tl pm ps r225q hq225) (cwV 0 C.2.2.2.2.1 gL_law_X3_rows rfl rfl rfl hdv_X3_rows ⟨Nat.le_of_ble_eq_true rfl, Nat.le_of_ble_eq_true rfl⟩) (gsub_cmo_c _ _ rfl rfl) 0 rfl rfl rfl rfl (Nat.le_of_ble_eq_true rfl) dL_law_225 ⟨g_rc (by omega), g_rs (by omega)⟩) (fun _ _ hx => False.elim hx) (fun r225 w1 hw => ?_)
  obtain ⟨rfl, rfl⟩ := hw
  refine gV_sub (ws' := (cW h cI cJ lc la hr uP uC uR tn pn pg pq rl sr gcb gpb tg tm tl pm ps) ++ ((mW k cI th mP mC mR mal mhd mn mg mt mh mz mset mfr mma mde mls) ++ (oW ho cJ ov))) [11, 12, 13, 14, 15, 16, 17, 18, 19, 20, 21, 22, 23, 0, 1, 2, 3, 4, 5, 6, 7, 8, 9, 10] (by decide) rfl rfl ?_
  refine gV_aload_n C dL_law_228 rfl 2 rfl ?_
  obtain ⟨r229q, th_229, hq229, hp⟩ := g_ob2 hp
  refine gV_calli C (gsub_cmo_m _ _ rfl rfl) (gV_runV (As := []) (rest := [.int r225]) C (mt_X4_rows hl D k cI cJ th mP mC mR mal mhd mn mg mt mh mz mset mfr mma mde mls r229q th_229 hq229) (cwV 0 C.2.2.2.2.1 gL_law_X4_rows rfl rfl rfl hdv_X4_rows ⟨Nat.le_of_ble_eq_true rfl, Nat.le_of_ble_eq_true rfl⟩) (gsub_cmo_m _ _ rfl rfl) 13 rfl rfl rfl rfl (Nat.le_of_ble_eq_true rfl) dL_law_229 ⟨g_rc (by omega), g_rs (by omega)⟩) (fun _ _ hx => False.elim hx) (fun r229 w1 hw => ?_)
  obtain ⟨rfl, rfl⟩ := hw
  refine gV_sub (ws' := (cW h cI cJ lc la hr uP uC uR tn pn pg pq rl sr gcb gpb tg tm tl pm ps) ++ ((mW k cI th_229 mP mC mR mal mhd mn mg mt mh mz mset mfr mma mde mls) ++ (oW ho cJ ov))) [0, 1, 2, 3, 4, 5, 6, 7, 8, 9, 10, 11, 12, 14, 15, 16, 17, 18, 19, 20, 21, 22, 23, 13] (by decide) rfl rfl ?_
  refine gV_icmp_eq (tgt := 1466) C dL_law_232 (by decide) (fun c232 => ?_) (fun c232 => ?_)
  · replace hp := g_ift hp c232
    refine gV_widen (k' := K') (n' := N') (by omega) (by omega) ?_
    exact JE lc la hr uP uC uR tn pn pg pq rl sr gcb gpb tg tm tl pm ps th_229 mP mC mR mal mhd mn mg mt mh mz mset mfr mma mde mls ov hp
  · replace hp := g_iff hp c232
    refine gV_iconst (v := 0) C dL_law_235 rfl ?_
    exact absurd hp (by decide)
def pf_law_c2_j302 (kL : Int32 → Int32 → Int32 → Int32 → Int32 → Int32 → Int32 → Int32 → Int32 → Int32 → (Nat → Int32) → (Nat → Int32) → (Nat → Int32) → (Nat → Int64) → (Nat → Int32) → (Nat → Int32) → (Nat → Int32) → (Nat → Int32) → (Nat → Int32) → Int32 → Int32 → Int32 → Int32 → Int32 → Int32 → Int32 → (Nat → Int32) → (Nat → Int32) → (Nat → Int32) → (Nat → Int32) → (Nat → Int32) → (Nat → Int32) → (Nat → Int32) → (Nat → Int32) → (Nat → Int32) → (Nat → Int64) → Option Int32) (lc : Int32) (la : Int32) (hr : Int32) (uP : Int32) (uC : Int32) (uR : Int32) (tn : Int32) (pn : Int32) (pg : Int32) (pq : Int32) (rl : Nat → Int32) (sr : Nat → Int32) (gcb : Nat → Int32) (gpb : Nat → Int64) (tg : Nat → Int32) (tm : Nat → Int32) (tl : Nat → Int32) (pm : Nat → Int32) (ps : Nat → Int32) (mP : Int32) (mC : Int32) (mR : Int32) (mal : Int32) (mhd : Int32) (mn : Int32) (mg : Nat → Int32) (mt : Nat → Int32) (mh : Nat → Int32) (mz : Nat → Int32) (mset : Nat → Int32) (mfr : Nat → Int32) (mma : Nat → Int32) (mde : Nat → Int32) (mls : Nat → Int32) (th : Int32) (ov : Nat → Int64) : Option (Int32) := (kL lc la hr uP uC uR tn pn pg pq rl sr gcb gpb tg tm tl pm ps th mP mC mR mal mhd mn mg mt mh mz mset mfr mma mde mls ov)
def pf_law_c2 (kL : Int32 → Int32 → Int32 → Int32 → Int32 → Int32 → Int32 → Int32 → Int32 → Int32 → (Nat → Int32) → (Nat → Int32) → (Nat → Int32) → (Nat → Int64) → (Nat → Int32) → (Nat → Int32) → (Nat → Int32) → (Nat → Int32) → (Nat → Int32) → Int32 → Int32 → Int32 → Int32 → Int32 → Int32 → Int32 → (Nat → Int32) → (Nat → Int32) → (Nat → Int32) → (Nat → Int32) → (Nat → Int32) → (Nat → Int32) → (Nat → Int32) → (Nat → Int32) → (Nat → Int32) → (Nat → Int64) → Option Int32) (L : Nat) (xs : Nat → Int32) (v4 : Int32) (lc : Int32) (la : Int32) (hr : Int32) (uP : Int32) (uC : Int32) (uR : Int32) (tn : Int32) (pn : Int32) (pg : Int32) (pq : Int32) (rl : Nat → Int32) (sr : Nat → Int32) (gcb : Nat → Int32) (gpb : Nat → Int64) (tg : Nat → Int32) (tm : Nat → Int32) (tl : Nat → Int32) (pm : Nat → Int32) (ps : Nat → Int32) (th : Int32) (mP : Int32) (mC : Int32) (mR : Int32) (mal : Int32) (mhd : Int32) (mn : Int32) (mg : Nat → Int32) (mt : Nat → Int32) (mh : Nat → Int32) (mz : Nat → Int32) (mset : Nat → Int32) (mfr : Nat → Int32) (mma : Nat → Int32) (mde : Nat → Int32) (mls : Nat → Int32) (ov : Nat → Int64) : Option Int32 := (gi (v4 + 1) L (gi (v4 + 2) L (ob2 (pf_L_colourAt uP uR gcb ov (xs (v4 + 1).toNatClampNeg) (xs (v4 + 2).toNatClampNeg)) fun r251 ov_251 => (gi (v4 + 1) L (gi (v4 + 2) L (ob2 (pf_X4_colourAt th mP mC mR (xs (v4 + 1).toNatClampNeg) (xs (v4 + 2).toNatClampNeg)) fun r269 th_269 => (ob1 (pf_X4_thrown th_269) fun r275 => (if r275 = r251 then (if r251 = 0 then (gi 0 1 (if (lg_cmp (ov_251 (0 : Int32).toNatClampNeg) r269.toInt64) = 0 then (pf_law_c2_j302 kL lc la hr uP uC uR tn pn pg pq rl sr gcb gpb tg tm tl pm ps mP mC mR mal mhd mn mg mt mh mz mset mfr mma mde mls th_269 ov_251) else (some 0))) else (pf_law_c2_j302 kL lc la hr uP uC uR tn pn pg pq rl sr gcb gpb tg tm tl pm ps mP mC mR mal mhd mn mg mt mh mz mset mfr mma mde mls th_269 ov_251)) else (some 0)))))))))
theorem hds_L_colourAt : yL_colourAt.cls ≠ "java/lang/invoke/MethodHandle" ∧ yL_colourAt.cls ≠ "java/lang/invoke/VarHandle" ∧ (parseMethodDescriptor yL_colourAt.desc).map (fun d => d.parameters.length) = some 4 := by decide +kernel
theorem hdv_X4_colourAt : yX4_colourAt.cls = RX4 ∧ yX4_colourAt.cls ≠ "java/lang/invoke/MethodHandle" ∧ yX4_colourAt.cls ≠ "java/lang/invoke/VarHandle" ∧ (parseMethodDescriptor yX4_colourAt.desc).map (fun d => d.parameters.length) = some 2 := by decide +kernel
set_option maxHeartbeats 4000000 in
set_option maxRecDepth 100000 in
theorem mt_law_c2 {p : Program} {l : Launch} (hl : l.stackTraces = false) {e : Env} {s : State} {m : MethodId} {args : Array Value} {below : List Frame} {meth : Method} {c : Code} {A : Nat → Prop} {D : va_G} {Q : State → Prop} (h k : Nat → Nat) (ho : Nat) (cI cJ : ClassId) {b L : Nat} {xs : Nat → Int32} (C : gC p l s m args meth c A D [(cI, .int), (cJ, .long)] 7 RL cL_law wsL_law) (hX : va_X b L xs s s.heap) (hbl : b < s.heap.size) (hbA : ¬ A b) (kL : Int32 → Int32 → Int32 → Int32 → Int32 → Int32 → Int32 → Int32 → Int32 → Int32 → (Nat → Int32) → (Nat → Int32) → (Nat → Int32) → (Nat → Int64) → (Nat → Int32) → (Nat → Int32) → (Nat → Int32) → (Nat → Int32) → (Nat → Int32) → Int32 → Int32 → Int32 → Int32 → Int32 → Int32 → Int32 → (Nat → Int32) → (Nat → Int32) → (Nat → Int32) → (Nat → Int32) → (Nat → Int32) → (Nat → Int32) → (Nat → Int32) → (Nat → Int32) → (Nat → Int32) → (Nat → Int64) → Option Int32) (K N K' N' : Nat) (hK : K + 8 ≤ K') (hN : N + 48 ≤ N') (hK' : K' ≤ 601024) (hN' : N' ≤ 7293034) (v4 : Int32) (JE : ∀ (lc : Int32) (la : Int32) (hr : Int32) (uP : Int32) (uC : Int32) (uR : Int32) (tn : Int32) (pn : Int32) (pg : Int32) (pq : Int32) (rl : Nat → Int32) (sr : Nat → Int32) (gcb : Nat → Int32) (gpb : Nat → Int64) (tg : Nat → Int32) (tm : Nat → Int32) (tl : Nat → Int32) (pm : Nat → Int32) (ps : Nat → Int32) (th : Int32) (mP : Int32) (mC : Int32) (mR : Int32) (mal : Int32) (mhd : Int32) (mn : Int32) (mg : Nat → Int32) (mt : Nat → Int32) (mh : Nat → Int32) (mz : Nat → Int32) (mset : Nat → Int32) (mfr : Nat → Int32) (mma : Nat → Int32) (mde : Nat → Int32) (mls : Nat → Int32) (ov : Nat → Int64), kL lc la hr uP uC uR tn pn pg pq rl sr gcb gpb tg tm tl pm ps th mP mC mR mal mhd mn mg mt mh mz mset mfr mma mde mls ov = some 1 → gV p l e room_1 s m args below meth c A D 7 Q ((cW h cI cJ lc la hr uP uC uR tn pn pg pq rl sr gcb gpb tg tm tl pm ps) ++ ((mW k cI th mP mC mR mal mhd mn mg mt mh mz mset mfr mma mde mls) ++ (oW ho cJ ov))) [(0, .ref b), (1, .ref (h 0)), (2, .ref (k 0)), (3, .ref ho), (4, .int v4)] K' N' 1466 []) (lc : Int32) (la : Int32) (hr : Int32) (uP : Int32) (uC : Int32) (uR : Int32) (tn : Int32) (pn : Int32) (pg : Int32) (pq : Int32) (rl : Nat → Int32) (sr : Nat → Int32) (gcb : Nat → Int32) (gpb : Nat → Int64) (tg : Nat → Int32) (tm : Nat → Int32) (tl : Nat → Int32) (pm : Nat → Int32) (ps : Nat → Int32) (th : Int32) (mP : Int32) (mC : Int32) (mR : Int32) (mal : Int32) (mhd : Int32) (mn : Int32) (mg : Nat → Int32) (mt : Nat → Int32) (mh : Nat → Int32) (mz : Nat → Int32) (mset : Nat → Int32) (mfr : Nat → Int32) (mma : Nat → Int32) (mde : Nat → Int32) (mls : Nat → Int32) (ov : Nat → Int64) (hp : pf_law_c2 kL L xs v4 lc la hr uP uC uR tn pn pg pq rl sr gcb gpb tg tm tl pm ps th mP mC mR mal mhd mn mg mt mh mz mset mfr mma mde mls ov = some 1) : gV p l e room_1 s m args below meth c A D 7 Q ((cW h cI cJ lc la hr uP uC uR tn pn pg pq rl sr gcb gpb tg tm tl pm ps) ++ ((mW k cI th mP mC mR mal mhd mn mg mt mh mz mset mfr mma mde mls) ++ (oW ho cJ ov))) [(0, .ref b), (1, .ref (h 0)), (2, .ref (k 0)), (3, .ref ho), (4, .int v4)] K N 237 [] := by
  unfold pf_law_c2 at hp
  have J302 : ∀ (K1 N1 : Nat), K1 + 2 ≤ K' → N1 + 12 ≤ N' → ∀ (th : Int32) (ov : Nat → Int64), pf_law_c2_j302 kL lc la hr uP uC uR tn pn pg pq rl sr gcb gpb tg tm tl pm ps mP mC mR mal mhd mn mg mt mh mz mset mfr mma mde mls th ov = some 1 → gV p l e room_1 s m args below meth c A D 7 Q ((cW h cI cJ lc la hr uP uC uR tn pn pg pq rl sr gcb gpb tg tm tl pm ps) ++ ((mW k cI th mP mC mR mal mhd mn mg mt mh mz mset mfr mma mde mls) ++ (oW ho cJ ov))) [(0, .ref b), (1, .ref (h 0)), (2, .ref (k 0)), (3, .ref ho), (4, .int v4)] K1 N1 302 [] := by
    intro K1 N1 hK1 hN1 th ov hp
    unfold pf_law_c2_j302 at hp
    refine gV_goto (tgt := 1466) C dL_law_302 (by decide) ?_
    refine gV_widen (k' := K') (n' := N') (by omega) (by omega) ?_
    exact JE lc la hr uP uC uR tn pn pg pq rl sr gcb gpb tg tm tl pm ps th mP mC mR mal mhd mn mg mt mh mz mset mfr mma mde mls ov hp
  refine gV_aload_n C dL_law_237 rfl 1 rfl ?_
  refine gV_aload_n C dL_law_238 rfl 0 rfl ?_
  refine gV_iload C dL_law_239 4 rfl ?_
  refine gV_iconst (v := 1) C dL_law_241 rfl ?_
  refine gV_iadd C dL_law_242 ?_
  obtain ⟨hi243, hp⟩ := g_idx hp
  refine gV_sld C hX hbl hbA hi243 dL_law_243 ?_
  refine gV_aload_n C dL_law_244 rfl 0 rfl ?_
  refine gV_iload C dL_law_245 4 rfl ?_
  refine gV_iconst (v := 2) C dL_law_247 rfl ?_
  refine gV_iadd C dL_law_248 ?_
  obtain ⟨hi249, hp⟩ := g_idx hp
  refine gV_sld C hX hbl hbA hi249 dL_law_249 ?_
  refine gV_aload_n C dL_law_250 rfl 3 rfl ?_
  obtain ⟨r251q, ov_251, hq251, hp⟩ := g_ob2 hp
  refine gV_calli C (gsub_cmo_co _ _ rfl rfl) (gV_runSX (As := [.ref (h 0), .int (xs (v4 + 1).toNatClampNeg), .int (xs (v4 + 2).toNatClampNeg), .ref ho]) (rest := []) C (mt_L_colourAt hl D h ho cI cJ lc la hr uP uC uR tn pn pg pq rl sr gcb gpb tg tm tl pm ps ov (xs (v4 + 1).toNatClampNeg) (xs (v4 + 2).toNatClampNeg) r251q ov_251 hq251) (vx_cwSW 4 C.2.2.2.2.1 gL_law_L_colourAt rfl rfl rfl hds_L_colourAt ⟨Nat.le_of_ble_eq_true rfl, Nat.le_of_ble_eq_true rfl⟩) (gsub_cmo_co _ _ rfl rfl) rfl rfl (Nat.le_of_ble_eq_true rfl) dL_law_251 ⟨g_rc (by omega), g_rs (by omega)⟩) (fun _ _ hx => False.elim hx) (fun r251 w1 hw => ?_)
  obtain ⟨rfl, rfl⟩ := hw
  refine gV_sub (ws' := (cW h cI cJ lc la hr uP uC uR tn pn pg pq rl sr gcb gpb tg tm tl pm ps) ++ ((mW k cI th mP mC mR mal mhd mn mg mt mh mz mset mfr mma mde mls) ++ (oW ho cJ ov_251))) [10, 11, 12, 13, 14, 15, 16, 17, 18, 19, 20, 21, 22, 0, 1, 2, 3, 4, 5, 6, 7, 8, 9, 23] (by decide) rfl rfl ?_
  refine gV_istore (lvs' := [(5, .int r251), (0, .ref b), (1, .ref (h 0)), (2, .ref (k 0)), (3, .ref ho), (4, .int v4)]) C dL_law_254 (by decide) rfl ?_
  refine gV_aload_n C dL_law_256 rfl 3 rfl ?_
  refine gV_aload_n C dL_law_257 rfl 1 rfl ?_
  refine gV_iload C dL_law_258 5 rfl ?_
  refine gV_iconst (v := 1) C dL_law_260 rfl ?_
  refine gV_iadd C dL_law_261 ?_
  obtain ⟨hi262, hp⟩ := g_idx hp
  refine gV_sld C hX hbl hbA hi262 dL_law_262 ?_
  refine gV_aload_n C dL_law_263 rfl 1 rfl ?_
  refine gV_iload C dL_law_264 5 rfl ?_
  refine gV_iconst (v := 2) C dL_law_266 rfl ?_
  refine gV_iadd C dL_law_267 ?_
  obtain ⟨hi268, hp⟩ := g_idx hp
  refine gV_sld C hX hbl hbA hi268 dL_law_268 ?_
  obtain ⟨r269q, th_269, hq269, hp⟩ := g_ob2 hp
  refine gV_calli C (gsub_cmo_m _ _ rfl rfl) (gV_runV (As := [.int (xs (v4 + 1).toNatClampNeg), .int (xs (v4 + 2).toNatClampNeg)]) (rest := []) C (mt_X4_colourAt hl D k cI cJ th mP mC mR mal mhd mn mg mt mh mz mset mfr mma mde mls (xs (v4 + 1).toNatClampNeg) (xs (v4 + 2).toNatClampNeg) r269q th_269 hq269) (cwV 2 C.2.2.2.2.1 gL_law_X4_colourAt rfl rfl rfl hdv_X4_colourAt ⟨Nat.le_of_ble_eq_true rfl, Nat.le_of_ble_eq_true rfl⟩) (gsub_cmo_m _ _ rfl rfl) 13 rfl rfl rfl rfl (Nat.le_of_ble_eq_true rfl) dL_law_269 ⟨g_rc (by omega), g_rs (by omega)⟩) (fun _ _ hx => False.elim hx) (fun r269 w1 hw => ?_)
  obtain ⟨rfl, rfl⟩ := hw
  refine gV_sub (ws' := (cW h cI cJ lc la hr uP uC uR tn pn pg pq rl sr gcb gpb tg tm tl pm ps) ++ ((mW k cI th_269 mP mC mR mal mhd mn mg mt mh mz mset mfr mma mde mls) ++ (oW ho cJ ov_251))) [0, 1, 2, 3, 4, 5, 6, 7, 8, 9, 10, 11, 12, 14, 15, 16, 17, 18, 19, 20, 21, 22, 23, 13] (by decide) rfl rfl ?_
  refine gV_istore (lvs' := [(6, .int r269), (5, .int r251), (0, .ref b), (1, .ref (h 0)), (2, .ref (k 0)), (3, .ref ho), (4, .int v4)]) C dL_law_272 (by decide) rfl ?_
  refine gV_aload_n C dL_law_274 rfl 4 rfl ?_
  obtain ⟨r275q, hq275, hp⟩ := g_ob1 hp
  refine gV_calli C (gsub_cmo_m _ _ rfl rfl) (gV_runV (As := []) (rest := []) C (mt_X4_thrown hl D k cI cJ th_269 mP mC mR mal mhd mn mg mt mh mz mset mfr mma mde mls r275q hq275) (cwV 0 C.2.2.2.2.1 gL_law_X4_thrown rfl rfl rfl hdv_X4_thrown ⟨Nat.le_of_ble_eq_true rfl, Nat.le_of_ble_eq_true rfl⟩) (gsub_cmo_m _ _ rfl rfl) 13 rfl rfl rfl rfl (Nat.le_of_ble_eq_true rfl) dL_law_275 ⟨g_rc (by omega), g_rs (by omega)⟩) (fun _ _ hx => False.elim hx) (fun r275 w1 hw => ?_)
  obtain ⟨rfl, rfl⟩ := hw
  refine gV_sub (ws' := (cW h cI cJ lc la hr uP uC uR tn pn pg pq rl sr gcb gpb tg tm tl pm ps) ++ ((mW k cI th_269 mP mC mR mal mhd mn mg mt mh mz mset mfr mma mde mls) ++ (oW ho cJ ov_251))) [0, 1, 2, 3, 4, 5, 6, 7, 8, 9, 10, 11, 12, 14, 15, 16, 17, 18, 19, 20, 21, 22, 23, 13] (by decide) rfl rfl ?_
  refine gV_iload C dL_law_278 1 rfl ?_
  refine gV_icmp_eq (tgt := 285) C dL_law_280 (by decide) (fun c280 => ?_) (fun c280 => ?_)
  · replace hp := g_ift hp c280
    refine gV_iload C dL_law_285 1 rfl ?_
    refine gV_if_ne (tgt := 302) C dL_law_287 (by decide) (fun c287 => ?_) (fun c287 => ?_)
    · replace hp := g_iff hp c287
      refine gV_loc [2, 3, 4, 5, 6] rfl ?_
      exact J302 _ _ (by omega) (by omega) th_269 ov_251 hp
    · replace hp := g_ift hp c287
      refine gV_aload_n C dL_law_290 rfl 5 rfl ?_
      refine gV_iconst (v := 0) C dL_law_291 rfl ?_
      obtain ⟨hi292, hp⟩ := g_idx hp
      refine gV_lald C 23 rfl 1 rfl hi292 dL_law_292 ?_
      refine gV_iload C dL_law_293 0 rfl ?_
      refine gV_i2l C dL_law_295 ?_
      refine gV_lcmp C dL_law_296 ?_
      refine gV_if_eq (tgt := 302) C dL_law_297 (by decide) (fun c297 => ?_) (fun c297 => ?_)
      · replace hp := g_ift hp c297
        refine gV_loc [2, 3, 4, 5, 6] rfl ?_
        exact J302 _ _ (by omega) (by omega) th_269 ov_251 hp
      · replace hp := g_iff hp c297
        refine gV_iconst (v := 0) C dL_law_300 rfl ?_
        exact absurd hp (by decide)
  · replace hp := g_iff hp c280
    refine gV_iconst (v := 0) C dL_law_283 rfl ?_
    exact absurd hp (by decide)
def pf_law_c3_j370 (kL : Int32 → Int32 → Int32 → Int32 → Int32 → Int32 → Int32 → Int32 → Int32 → Int32 → (Nat → Int32) → (Nat → Int32) → (Nat → Int32) → (Nat → Int64) → (Nat → Int32) → (Nat → Int32) → (Nat → Int32) → (Nat → Int32) → (Nat → Int32) → Int32 → Int32 → Int32 → Int32 → Int32 → Int32 → Int32 → (Nat → Int32) → (Nat → Int32) → (Nat → Int32) → (Nat → Int32) → (Nat → Int32) → (Nat → Int32) → (Nat → Int32) → (Nat → Int32) → (Nat → Int32) → (Nat → Int64) → Option Int32) (lc : Int32) (la : Int32) (hr : Int32) (uP : Int32) (uC : Int32) (uR : Int32) (tn : Int32) (pn : Int32) (pg : Int32) (pq : Int32) (rl : Nat → Int32) (sr : Nat → Int32) (gcb : Nat → Int32) (gpb : Nat → Int64) (tg : Nat → Int32) (tm : Nat → Int32) (tl : Nat → Int32) (pm : Nat → Int32) (ps : Nat → Int32) (mP : Int32) (mC : Int32) (mR : Int32) (mal : Int32) (mhd : Int32) (mn : Int32) (mg : Nat → Int32) (mt : Nat → Int32) (mz : Nat → Int32) (mset : Nat → Int32) (mfr : Nat → Int32) (mma : Nat → Int32) (mde : Nat → Int32) (mls : Nat → Int32) (th : Int32) (mh : Nat → Int32) (ov : Nat → Int64) : Option (Int32) := (kL lc la hr uP uC uR tn pn pg pq rl sr gcb gpb tg tm tl pm ps th mP mC mR mal mhd mn mg mt mh mz mset mfr mma mde mls ov)
def pf_law_c3 (kL : Int32 → Int32 → Int32 → Int32 → Int32 → Int32 → Int32 → Int32 → Int32 → Int32 → (Nat → Int32) → (Nat → Int32) → (Nat → Int32) → (Nat → Int64) → (Nat → Int32) → (Nat → Int32) → (Nat → Int32) → (Nat → Int32) → (Nat → Int32) → Int32 → Int32 → Int32 → Int32 → Int32 → Int32 → Int32 → (Nat → Int32) → (Nat → Int32) → (Nat → Int32) → (Nat → Int32) → (Nat → Int32) → (Nat → Int32) → (Nat → Int32) → (Nat → Int32) → (Nat → Int32) → (Nat → Int64) → Option Int32) (L : Nat) (xs : Nat → Int32) (v4 : Int32) (lc : Int32) (la : Int32) (hr : Int32) (uP : Int32) (uC : Int32) (uR : Int32) (tn : Int32) (pn : Int32) (pg : Int32) (pq : Int32) (rl : Nat → Int32) (sr : Nat → Int32) (gcb : Nat → Int32) (gpb : Nat → Int64) (tg : Nat → Int32) (tm : Nat → Int32) (tl : Nat → Int32) (pm : Nat → Int32) (ps : Nat → Int32) (th : Int32) (mP : Int32) (mC : Int32) (mR : Int32) (mal : Int32) (mhd : Int32) (mn : Int32) (mg : Nat → Int32) (mt : Nat → Int32) (mh : Nat → Int32) (mz : Nat → Int32) (mset : Nat → Int32) (mfr : Nat → Int32) (mma : Nat → Int32) (mde : Nat → Int32) (mls : Nat → Int32) (ov : Nat → Int64) : Option Int32 := (gi (v4 + 1) L (gi (v4 + 2) L (ob2 (pf_L_mark uP uR gcb gpb ov (xs (v4 + 1).toNatClampNeg) (xs (v4 + 2).toNatClampNeg)) fun r319 ov_319 => (gi (v4 + 1) L (gi (v4 + 2) L (ob3 (pf_X4_mark th mP mC mR mh (xs (v4 + 1).toNatClampNeg) (xs (v4 + 2).toNatClampNeg)) fun r337 th_337 mh_337 => (ob1 (pf_X4_thrown th_337) fun r343 => (if r343 = r319 then (if r319 = 0 then (gi 0 1 (if (lg_cmp (ov_319 (0 : Int32).toNatClampNeg) r337.toInt64) = 0 then (pf_law_c3_j370 kL lc la hr uP uC uR tn pn pg pq rl sr gcb gpb tg tm tl pm ps mP mC mR mal mhd mn mg mt mz mset mfr mma mde mls th_337 mh_337 ov_319) else (some 0))) else (pf_law_c3_j370 kL lc la hr uP uC uR tn pn pg pq rl sr gcb gpb tg tm tl pm ps mP mC mR mal mhd mn mg mt mz mset mfr mma mde mls th_337 mh_337 ov_319)) else (some 0)))))))))
theorem hds_L_mark : yL_mark.cls ≠ "java/lang/invoke/MethodHandle" ∧ yL_mark.cls ≠ "java/lang/invoke/VarHandle" ∧ (parseMethodDescriptor yL_mark.desc).map (fun d => d.parameters.length) = some 4 := by decide +kernel
theorem hdv_X4_mark : yX4_mark.cls = RX4 ∧ yX4_mark.cls ≠ "java/lang/invoke/MethodHandle" ∧ yX4_mark.cls ≠ "java/lang/invoke/VarHandle" ∧ (parseMethodDescriptor yX4_mark.desc).map (fun d => d.parameters.length) = some 2 := by decide +kernel
set_option maxHeartbeats 4000000 in
set_option maxRecDepth 100000 in
theorem mt_law_c3 {p : Program} {l : Launch} (hl : l.stackTraces = false) {e : Env} {s : State} {m : MethodId} {args : Array Value} {below : List Frame} {meth : Method} {c : Code} {A : Nat → Prop} {D : va_G} {Q : State → Prop} (h k : Nat → Nat) (ho : Nat) (cI cJ : ClassId) {b L : Nat} {xs : Nat → Int32} (C : gC p l s m args meth c A D [(cI, .int), (cJ, .long)] 7 RL cL_law wsL_law) (hX : va_X b L xs s s.heap) (hbl : b < s.heap.size) (hbA : ¬ A b) (kL : Int32 → Int32 → Int32 → Int32 → Int32 → Int32 → Int32 → Int32 → Int32 → Int32 → (Nat → Int32) → (Nat → Int32) → (Nat → Int32) → (Nat → Int64) → (Nat → Int32) → (Nat → Int32) → (Nat → Int32) → (Nat → Int32) → (Nat → Int32) → Int32 → Int32 → Int32 → Int32 → Int32 → Int32 → Int32 → (Nat → Int32) → (Nat → Int32) → (Nat → Int32) → (Nat → Int32) → (Nat → Int32) → (Nat → Int32) → (Nat → Int32) → (Nat → Int32) → (Nat → Int32) → (Nat → Int64) → Option Int32) (K N K' N' : Nat) (hK : K + 8 ≤ K') (hN : N + 48 ≤ N') (hK' : K' ≤ 601024) (hN' : N' ≤ 7293034) (v4 : Int32) (JE : ∀ (lc : Int32) (la : Int32) (hr : Int32) (uP : Int32) (uC : Int32) (uR : Int32) (tn : Int32) (pn : Int32) (pg : Int32) (pq : Int32) (rl : Nat → Int32) (sr : Nat → Int32) (gcb : Nat → Int32) (gpb : Nat → Int64) (tg : Nat → Int32) (tm : Nat → Int32) (tl : Nat → Int32) (pm : Nat → Int32) (ps : Nat → Int32) (th : Int32) (mP : Int32) (mC : Int32) (mR : Int32) (mal : Int32) (mhd : Int32) (mn : Int32) (mg : Nat → Int32) (mt : Nat → Int32) (mh : Nat → Int32) (mz : Nat → Int32) (mset : Nat → Int32) (mfr : Nat → Int32) (mma : Nat → Int32) (mde : Nat → Int32) (mls : Nat → Int32) (ov : Nat → Int64), kL lc la hr uP uC uR tn pn pg pq rl sr gcb gpb tg tm tl pm ps th mP mC mR mal mhd mn mg mt mh mz mset mfr mma mde mls ov = some 1 → gV p l e room_1 s m args below meth c A D 7 Q ((cW h cI cJ lc la hr uP uC uR tn pn pg pq rl sr gcb gpb tg tm tl pm ps) ++ ((mW k cI th mP mC mR mal mhd mn mg mt mh mz mset mfr mma mde mls) ++ (oW ho cJ ov))) [(0, .ref b), (1, .ref (h 0)), (2, .ref (k 0)), (3, .ref ho), (4, .int v4)] K' N' 1466 []) (lc : Int32) (la : Int32) (hr : Int32) (uP : Int32) (uC : Int32) (uR : Int32) (tn : Int32) (pn : Int32) (pg : Int32) (pq : Int32) (rl : Nat → Int32) (sr : Nat → Int32) (gcb : Nat → Int32) (gpb : Nat → Int64) (tg : Nat → Int32) (tm : Nat → Int32) (tl : Nat → Int32) (pm : Nat → Int32) (ps : Nat → Int32) (th : Int32) (mP : Int32) (mC : Int32) (mR : Int32) (mal : Int32) (mhd : Int32) (mn : Int32) (mg : Nat → Int32) (mt : Nat → Int32) (mh : Nat → Int32) (mz : Nat → Int32) (mset : Nat → Int32) (mfr : Nat → Int32) (mma : Nat → Int32) (mde : Nat → Int32) (mls : Nat → Int32) (ov : Nat → Int64) (hp : pf_law_c3 kL L xs v4 lc la hr uP uC uR tn pn pg pq rl sr gcb gpb tg tm tl pm ps th mP mC mR mal mhd mn mg mt mh mz mset mfr mma mde mls ov = some 1) : gV p l e room_1 s m args below meth c A D 7 Q ((cW h cI cJ lc la hr uP uC uR tn pn pg pq rl sr gcb gpb tg tm tl pm ps) ++ ((mW k cI th mP mC mR mal mhd mn mg mt mh mz mset mfr mma mde mls) ++ (oW ho cJ ov))) [(0, .ref b), (1, .ref (h 0)), (2, .ref (k 0)), (3, .ref ho), (4, .int v4)] K N 305 [] := by
  unfold pf_law_c3 at hp
  have J370 : ∀ (K1 N1 : Nat), K1 + 2 ≤ K' → N1 + 12 ≤ N' → ∀ (th : Int32) (mh : Nat → Int32) (ov : Nat → Int64), pf_law_c3_j370 kL lc la hr uP uC uR tn pn pg pq rl sr gcb gpb tg tm tl pm ps mP mC mR mal mhd mn mg mt mz mset mfr mma mde mls th mh ov = some 1 → gV p l e room_1 s m args below meth c A D 7 Q ((cW h cI cJ lc la hr uP uC uR tn pn pg pq rl sr gcb gpb tg tm tl pm ps) ++ ((mW k cI th mP mC mR mal mhd mn mg mt mh mz mset mfr mma mde mls) ++ (oW ho cJ ov))) [(0, .ref b), (1, .ref (h 0)), (2, .ref (k 0)), (3, .ref ho), (4, .int v4)] K1 N1 370 [] := by
    intro K1 N1 hK1 hN1 th mh ov hp
    unfold pf_law_c3_j370 at hp
    refine gV_goto (tgt := 1466) C dL_law_370 (by decide) ?_
    refine gV_widen (k' := K') (n' := N') (by omega) (by omega) ?_
    exact JE lc la hr uP uC uR tn pn pg pq rl sr gcb gpb tg tm tl pm ps th mP mC mR mal mhd mn mg mt mh mz mset mfr mma mde mls ov hp
  refine gV_aload_n C dL_law_305 rfl 1 rfl ?_
  refine gV_aload_n C dL_law_306 rfl 0 rfl ?_
  refine gV_iload C dL_law_307 4 rfl ?_
  refine gV_iconst (v := 1) C dL_law_309 rfl ?_
  refine gV_iadd C dL_law_310 ?_
  obtain ⟨hi311, hp⟩ := g_idx hp
  refine gV_sld C hX hbl hbA hi311 dL_law_311 ?_
  refine gV_aload_n C dL_law_312 rfl 0 rfl ?_
  refine gV_iload C dL_law_313 4 rfl ?_
  refine gV_iconst (v := 2) C dL_law_315 rfl ?_
  refine gV_iadd C dL_law_316 ?_
  obtain ⟨hi317, hp⟩ := g_idx hp
  refine gV_sld C hX hbl hbA hi317 dL_law_317 ?_
  refine gV_aload_n C dL_law_318 rfl 3 rfl ?_
  obtain ⟨r319q, ov_319, hq319, hp⟩ := g_ob2 hp
  refine gV_calli C (gsub_cmo_co _ _ rfl rfl) (gV_runSX (As := [.ref (h 0), .int (xs (v4 + 1).toNatClampNeg), .int (xs (v4 + 2).toNatClampNeg), .ref ho]) (rest := []) C (mt_L_mark hl D h ho cI cJ lc la hr uP uC uR tn pn pg pq rl sr gcb gpb tg tm tl pm ps ov (xs (v4 + 1).toNatClampNeg) (xs (v4 + 2).toNatClampNeg) r319q ov_319 hq319) (vx_cwSW 4 C.2.2.2.2.1 gL_law_L_mark rfl rfl rfl hds_L_mark ⟨Nat.le_of_ble_eq_true rfl, Nat.le_of_ble_eq_true rfl⟩) (gsub_cmo_co _ _ rfl rfl) rfl rfl (Nat.le_of_ble_eq_true rfl) dL_law_319 ⟨g_rc (by omega), g_rs (by omega)⟩) (fun _ _ hx => False.elim hx) (fun r319 w1 hw => ?_)
  obtain ⟨rfl, rfl⟩ := hw
  refine gV_sub (ws' := (cW h cI cJ lc la hr uP uC uR tn pn pg pq rl sr gcb gpb tg tm tl pm ps) ++ ((mW k cI th mP mC mR mal mhd mn mg mt mh mz mset mfr mma mde mls) ++ (oW ho cJ ov_319))) [10, 11, 12, 13, 14, 15, 16, 17, 18, 19, 20, 21, 22, 0, 1, 2, 3, 4, 5, 6, 7, 8, 9, 23] (by decide) rfl rfl ?_
  refine gV_istore (lvs' := [(5, .int r319), (0, .ref b), (1, .ref (h 0)), (2, .ref (k 0)), (3, .ref ho), (4, .int v4)]) C dL_law_322 (by decide) rfl ?_
  refine gV_aload_n C dL_law_324 rfl 3 rfl ?_
  refine gV_aload_n C dL_law_325 rfl 1 rfl ?_
  refine gV_iload C dL_law_326 5 rfl ?_
  refine gV_iconst (v := 1) C dL_law_328 rfl ?_
  refine gV_iadd C dL_law_329 ?_
  obtain ⟨hi330, hp⟩ := g_idx hp
  refine gV_sld C hX hbl hbA hi330 dL_law_330 ?_
  refine gV_aload_n C dL_law_331 rfl 1 rfl ?_
  refine gV_iload C dL_law_332 5 rfl ?_
  refine gV_iconst (v := 2) C dL_law_334 rfl ?_
  refine gV_iadd C dL_law_335 ?_
  obtain ⟨hi336, hp⟩ := g_idx hp
  refine gV_sld C hX hbl hbA hi336 dL_law_336 ?_
  obtain ⟨r337q, th_337, mh_337, hq337, hp⟩ := g_ob3 hp
  refine gV_calli C (gsub_cmo_m _ _ rfl rfl) (gV_runV (As := [.int (xs (v4 + 1).toNatClampNeg), .int (xs (v4 + 2).toNatClampNeg)]) (rest := []) C (mt_X4_mark hl D k cI cJ th mP mC mR mal mhd mn mg mt mh mz mset mfr mma mde mls (xs (v4 + 1).toNatClampNeg) (xs (v4 + 2).toNatClampNeg) r337q th_337 mh_337 hq337) (cwV 2 C.2.2.2.2.1 gL_law_X4_mark rfl rfl rfl hdv_X4_mark ⟨Nat.le_of_ble_eq_true rfl, Nat.le_of_ble_eq_true rfl⟩) (gsub_cmo_m _ _ rfl rfl) 13 rfl rfl rfl rfl (Nat.le_of_ble_eq_true rfl) dL_law_337 ⟨g_rc (by omega), g_rs (by omega)⟩) (fun _ _ hx => False.elim hx) (fun r337 w1 hw => ?_)
  obtain ⟨rfl, rfl⟩ := hw
  refine gV_sub (ws' := (cW h cI cJ lc la hr uP uC uR tn pn pg pq rl sr gcb gpb tg tm tl pm ps) ++ ((mW k cI th_337 mP mC mR mal mhd mn mg mt mh_337 mz mset mfr mma mde mls) ++ (oW ho cJ ov_319))) [0, 1, 2, 3, 4, 5, 6, 7, 8, 9, 10, 11, 12, 14, 15, 16, 17, 18, 19, 20, 21, 22, 23, 13] (by decide) rfl rfl ?_
  refine gV_istore (lvs' := [(6, .int r337), (5, .int r319), (0, .ref b), (1, .ref (h 0)), (2, .ref (k 0)), (3, .ref ho), (4, .int v4)]) C dL_law_340 (by decide) rfl ?_
  refine gV_aload_n C dL_law_342 rfl 4 rfl ?_
  obtain ⟨r343q, hq343, hp⟩ := g_ob1 hp
  refine gV_calli C (gsub_cmo_m _ _ rfl rfl) (gV_runV (As := []) (rest := []) C (mt_X4_thrown hl D k cI cJ th_337 mP mC mR mal mhd mn mg mt mh_337 mz mset mfr mma mde mls r343q hq343) (cwV 0 C.2.2.2.2.1 gL_law_X4_thrown rfl rfl rfl hdv_X4_thrown ⟨Nat.le_of_ble_eq_true rfl, Nat.le_of_ble_eq_true rfl⟩) (gsub_cmo_m _ _ rfl rfl) 13 rfl rfl rfl rfl (Nat.le_of_ble_eq_true rfl) dL_law_343 ⟨g_rc (by omega), g_rs (by omega)⟩) (fun _ _ hx => False.elim hx) (fun r343 w1 hw => ?_)
  obtain ⟨rfl, rfl⟩ := hw
  refine gV_sub (ws' := (cW h cI cJ lc la hr uP uC uR tn pn pg pq rl sr gcb gpb tg tm tl pm ps) ++ ((mW k cI th_337 mP mC mR mal mhd mn mg mt mh_337 mz mset mfr mma mde mls) ++ (oW ho cJ ov_319))) [0, 1, 2, 3, 4, 5, 6, 7, 8, 9, 10, 11, 12, 14, 15, 16, 17, 18, 19, 20, 21, 22, 23, 13] (by decide) rfl rfl ?_
  refine gV_iload C dL_law_346 1 rfl ?_
  refine gV_icmp_eq (tgt := 353) C dL_law_348 (by decide) (fun c348 => ?_) (fun c348 => ?_)
  · replace hp := g_ift hp c348
    refine gV_iload C dL_law_353 1 rfl ?_
    refine gV_if_ne (tgt := 370) C dL_law_355 (by decide) (fun c355 => ?_) (fun c355 => ?_)
    · replace hp := g_iff hp c355
      refine gV_loc [2, 3, 4, 5, 6] rfl ?_
      exact J370 _ _ (by omega) (by omega) th_337 mh_337 ov_319 hp
    · replace hp := g_ift hp c355
      refine gV_aload_n C dL_law_358 rfl 5 rfl ?_
      refine gV_iconst (v := 0) C dL_law_359 rfl ?_
      obtain ⟨hi360, hp⟩ := g_idx hp
      refine gV_lald C 23 rfl 1 rfl hi360 dL_law_360 ?_
      refine gV_iload C dL_law_361 0 rfl ?_
      refine gV_i2l C dL_law_363 ?_
      refine gV_lcmp C dL_law_364 ?_
      refine gV_if_eq (tgt := 370) C dL_law_365 (by decide) (fun c365 => ?_) (fun c365 => ?_)
      · replace hp := g_ift hp c365
        refine gV_loc [2, 3, 4, 5, 6] rfl ?_
        exact J370 _ _ (by omega) (by omega) th_337 mh_337 ov_319 hp
      · replace hp := g_iff hp c365
        refine gV_iconst (v := 0) C dL_law_368 rfl ?_
        exact absurd hp (by decide)
  · replace hp := g_iff hp c348
    refine gV_iconst (v := 0) C dL_law_351 rfl ?_
    exact absurd hp (by decide)
def pf_law_c4_j426 (kL : Int32 → Int32 → Int32 → Int32 → Int32 → Int32 → Int32 → Int32 → Int32 → Int32 → (Nat → Int32) → (Nat → Int32) → (Nat → Int32) → (Nat → Int64) → (Nat → Int32) → (Nat → Int32) → (Nat → Int32) → (Nat → Int32) → (Nat → Int32) → Int32 → Int32 → Int32 → Int32 → Int32 → Int32 → Int32 → (Nat → Int32) → (Nat → Int32) → (Nat → Int32) → (Nat → Int32) → (Nat → Int32) → (Nat → Int32) → (Nat → Int32) → (Nat → Int32) → (Nat → Int32) → (Nat → Int64) → Option Int32) (hr : Int32) (uP : Int32) (uC : Int32) (uR : Int32) (tn : Int32) (pn : Int32) (pg : Int32) (pq : Int32) (sr : Nat → Int32) (gcb : Nat → Int32) (gpb : Nat → Int64) (tg : Nat → Int32) (tm : Nat → Int32) (tl : Nat → Int32) (pm : Nat → Int32) (ps : Nat → Int32) (mP : Int32) (mC : Int32) (mR : Int32) (mhd : Int32) (mn : Int32) (mg : Nat → Int32) (mt : Nat → Int32) (mz : Nat → Int32) (mset : Nat → Int32) (mfr : Nat → Int32) (mma : Nat → Int32) (mde : Nat → Int32) (mls : Nat → Int32) (lc : Int32) (la : Int32) (rl : Nat → Int32) (th : Int32) (mal : Int32) (mh : Nat → Int32) (ov : Nat → Int64) : Option (Int32) := (kL lc la hr uP uC uR tn pn pg pq rl sr gcb gpb tg tm tl pm ps th mP mC mR mal mhd mn mg mt mh mz mset mfr mma mde mls ov)
def pf_law_c4 (kL : Int32 → Int32 → Int32 → Int32 → Int32 → Int32 → Int32 → Int32 → Int32 → Int32 → (Nat → Int32) → (Nat → Int32) → (Nat → Int32) → (Nat → Int64) → (Nat → Int32) → (Nat → Int32) → (Nat → Int32) → (Nat → Int32) → (Nat → Int32) → Int32 → Int32 → Int32 → Int32 → Int32 → Int32 → Int32 → (Nat → Int32) → (Nat → Int32) → (Nat → Int32) → (Nat → Int32) → (Nat → Int32) → (Nat → Int32) → (Nat → Int32) → (Nat → Int32) → (Nat → Int32) → (Nat → Int64) → Option Int32) (L : Nat) (xs : Nat → Int32) (v4 : Int32) (lc : Int32) (la : Int32) (hr : Int32) (uP : Int32) (uC : Int32) (uR : Int32) (tn : Int32) (pn : Int32) (pg : Int32) (pq : Int32) (rl : Nat → Int32) (sr : Nat → Int32) (gcb : Nat → Int32) (gpb : Nat → Int64) (tg : Nat → Int32) (tm : Nat → Int32) (tl : Nat → Int32) (pm : Nat → Int32) (ps : Nat → Int32) (th : Int32) (mP : Int32) (mC : Int32) (mR : Int32) (mal : Int32) (mhd : Int32) (mn : Int32) (mg : Nat → Int32) (mt : Nat → Int32) (mh : Nat → Int32) (mz : Nat → Int32) (mset : Nat → Int32) (mfr : Nat → Int32) (mma : Nat → Int32) (mde : Nat → Int32) (mls : Nat → Int32) (ov : Nat → Int64) : Option Int32 := (gi (v4 + 1) L (ob5 (pf_L_allowLies lc la hr uR tn rl tl ov (xs (v4 + 1).toNatClampNeg)) fun r381 lc_381 la_381 rl_381 ov_381 => (gi (v4 + 1) L (ob4 (pf_X4_allowLies th mP mC mal mhd mn mg mt mh (xs (v4 + 1).toNatClampNeg)) fun r393 th_393 mal_393 mh_393 => (ob1 (pf_X4_thrown th_393) fun r399 => (if r399 = r381 then (if r381 = 0 then (gi 0 1 (if (lg_cmp (ov_381 (0 : Int32).toNatClampNeg) r393.toInt64) = 0 then (pf_law_c4_j426 kL hr uP uC uR tn pn pg pq sr gcb gpb tg tm tl pm ps mP mC mR mhd mn mg mt mz mset mfr mma mde mls lc_381 la_381 rl_381 th_393 mal_393 mh_393 ov_381) else (some 0))) else (pf_law_c4_j426 kL hr uP uC uR tn pn pg pq sr gcb gpb tg tm tl pm ps mP mC mR mhd mn mg mt mz mset mfr mma mde mls lc_381 la_381 rl_381 th_393 mal_393 mh_393 ov_381)) else (some 0)))))))
theorem hds_L_allowLies : yL_allowLies.cls ≠ "java/lang/invoke/MethodHandle" ∧ yL_allowLies.cls ≠ "java/lang/invoke/VarHandle" ∧ (parseMethodDescriptor yL_allowLies.desc).map (fun d => d.parameters.length) = some 3 := by decide +kernel
theorem hdv_X4_allowLies : yX4_allowLies.cls = RX4 ∧ yX4_allowLies.cls ≠ "java/lang/invoke/MethodHandle" ∧ yX4_allowLies.cls ≠ "java/lang/invoke/VarHandle" ∧ (parseMethodDescriptor yX4_allowLies.desc).map (fun d => d.parameters.length) = some 1 := by decide +kernel
set_option maxHeartbeats 4000000 in
set_option maxRecDepth 100000 in
theorem mt_law_c4 {p : Program} {l : Launch} (hl : l.stackTraces = false) {e : Env} {s : State} {m : MethodId} {args : Array Value} {below : List Frame} {meth : Method} {c : Code} {A : Nat → Prop} {D : va_G} {Q : State → Prop} (h k : Nat → Nat) (ho : Nat) (cI cJ : ClassId) {b L : Nat} {xs : Nat → Int32} (C : gC p l s m args meth c A D [(cI, .int), (cJ, .long)] 7 RL cL_law wsL_law) (hX : va_X b L xs s s.heap) (hbl : b < s.heap.size) (hbA : ¬ A b) (kL : Int32 → Int32 → Int32 → Int32 → Int32 → Int32 → Int32 → Int32 → Int32 → Int32 → (Nat → Int32) → (Nat → Int32) → (Nat → Int32) → (Nat → Int64) → (Nat → Int32) → (Nat → Int32) → (Nat → Int32) → (Nat → Int32) → (Nat → Int32) → Int32 → Int32 → Int32 → Int32 → Int32 → Int32 → Int32 → (Nat → Int32) → (Nat → Int32) → (Nat → Int32) → (Nat → Int32) → (Nat → Int32) → (Nat → Int32) → (Nat → Int32) → (Nat → Int32) → (Nat → Int32) → (Nat → Int64) → Option Int32) (K N K' N' : Nat) (hK : K + 8 ≤ K') (hN : N + 48 ≤ N') (hK' : K' ≤ 601024) (hN' : N' ≤ 7293034) (v4 : Int32) (JE : ∀ (lc : Int32) (la : Int32) (hr : Int32) (uP : Int32) (uC : Int32) (uR : Int32) (tn : Int32) (pn : Int32) (pg : Int32) (pq : Int32) (rl : Nat → Int32) (sr : Nat → Int32) (gcb : Nat → Int32) (gpb : Nat → Int64) (tg : Nat → Int32) (tm : Nat → Int32) (tl : Nat → Int32) (pm : Nat → Int32) (ps : Nat → Int32) (th : Int32) (mP : Int32) (mC : Int32) (mR : Int32) (mal : Int32) (mhd : Int32) (mn : Int32) (mg : Nat → Int32) (mt : Nat → Int32) (mh : Nat → Int32) (mz : Nat → Int32) (mset : Nat → Int32) (mfr : Nat → Int32) (mma : Nat → Int32) (mde : Nat → Int32) (mls : Nat → Int32) (ov : Nat → Int64), kL lc la hr uP uC uR tn pn pg pq rl sr gcb gpb tg tm tl pm ps th mP mC mR mal mhd mn mg mt mh mz mset mfr mma mde mls ov = some 1 → gV p l e room_1 s m args below meth c A D 7 Q ((cW h cI cJ lc la hr uP uC uR tn pn pg pq rl sr gcb gpb tg tm tl pm ps) ++ ((mW k cI th mP mC mR mal mhd mn mg mt mh mz mset mfr mma mde mls) ++ (oW ho cJ ov))) [(0, .ref b), (1, .ref (h 0)), (2, .ref (k 0)), (3, .ref ho), (4, .int v4)] K' N' 1466 []) (lc : Int32) (la : Int32) (hr : Int32) (uP : Int32) (uC : Int32) (uR : Int32) (tn : Int32) (pn : Int32) (pg : Int32) (pq : Int32) (rl : Nat → Int32) (sr : Nat → Int32) (gcb : Nat → Int32) (gpb : Nat → Int64) (tg : Nat → Int32) (tm : Nat → Int32) (tl : Nat → Int32) (pm : Nat → Int32) (ps : Nat → Int32) (th : Int32) (mP : Int32) (mC : Int32) (mR : Int32) (mal : Int32) (mhd : Int32) (mn : Int32) (mg : Nat → Int32) (mt : Nat → Int32) (mh : Nat → Int32) (mz : Nat → Int32) (mset : Nat → Int32) (mfr : Nat → Int32) (mma : Nat → Int32) (mde : Nat → Int32) (mls : Nat → Int32) (ov : Nat → Int64) (hp : pf_law_c4 kL L xs v4 lc la hr uP uC uR tn pn pg pq rl sr gcb gpb tg tm tl pm ps th mP mC mR mal mhd mn mg mt mh mz mset mfr mma mde mls ov = some 1) : gV p l e room_1 s m args below meth c A D 7 Q ((cW h cI cJ lc la hr uP uC uR tn pn pg pq rl sr gcb gpb tg tm tl pm ps) ++ ((mW k cI th mP mC mR mal mhd mn mg mt mh mz mset mfr mma mde mls) ++ (oW ho cJ ov))) [(0, .ref b), (1, .ref (h 0)), (2, .ref (k 0)), (3, .ref ho), (4, .int v4)] K N 373 [] := by
  unfold pf_law_c4 at hp
  have J426 : ∀ (K1 N1 : Nat), K1 + 2 ≤ K' → N1 + 12 ≤ N' → ∀ (lc : Int32) (la : Int32) (rl : Nat → Int32) (th : Int32) (mal : Int32) (mh : Nat → Int32) (ov : Nat → Int64), pf_law_c4_j426 kL hr uP uC uR tn pn pg pq sr gcb gpb tg tm tl pm ps mP mC mR mhd mn mg mt mz mset mfr mma mde mls lc la rl th mal mh ov = some 1 → gV p l e room_1 s m args below meth c A D 7 Q ((cW h cI cJ lc la hr uP uC uR tn pn pg pq rl sr gcb gpb tg tm tl pm ps) ++ ((mW k cI th mP mC mR mal mhd mn mg mt mh mz mset mfr mma mde mls) ++ (oW ho cJ ov))) [(0, .ref b), (1, .ref (h 0)), (2, .ref (k 0)), (3, .ref ho), (4, .int v4)] K1 N1 426 [] := by
    intro K1 N1 hK1 hN1 lc la rl th mal mh ov hp
    unfold pf_law_c4_j426 at hp
    refine gV_goto (tgt := 1466) C dL_law_426 (by decide) ?_
    refine gV_widen (k' := K') (n' := N') (by omega) (by omega) ?_
    exact JE lc la hr uP uC uR tn pn pg pq rl sr gcb gpb tg tm tl pm ps th mP mC mR mal mhd mn mg mt mh mz mset mfr mma mde mls ov hp
  refine gV_aload_n C dL_law_373 rfl 1 rfl ?_
  refine gV_aload_n C dL_law_374 rfl 0 rfl ?_
  refine gV_iload C dL_law_375 4 rfl ?_
  refine gV_iconst (v := 1) C dL_law_377 rfl ?_
  refine gV_iadd C dL_law_378 ?_
  obtain ⟨hi379, hp⟩ := g_idx hp
  refine gV_sld C hX hbl hbA hi379 dL_law_379 ?_
  refine gV_aload_n C dL_law_380 rfl 3 rfl ?_
  obtain ⟨r381q, lc_381, la_381, rl_381, ov_381, hq381, hp⟩ := g_ob5 hp
  refine gV_calli C (gsub_cmo_co _ _ rfl rfl) (gV_runSX (As := [.ref (h 0), .int (xs (v4 + 1).toNatClampNeg), .ref ho]) (rest := []) C (mt_L_allowLies hl D h ho cI cJ lc la hr uP uC uR tn pn pg pq rl sr gcb gpb tg tm tl pm ps ov (xs (v4 + 1).toNatClampNeg) r381q lc_381 la_381 rl_381 ov_381 hq381) (vx_cwSW 3 C.2.2.2.2.1 gL_law_L_allowLies rfl rfl rfl hds_L_allowLies ⟨Nat.le_of_ble_eq_true rfl, Nat.le_of_ble_eq_true rfl⟩) (gsub_cmo_co _ _ rfl rfl) rfl rfl (Nat.le_of_ble_eq_true rfl) dL_law_381 ⟨g_rc (by omega), g_rs (by omega)⟩) (fun _ _ hx => False.elim hx) (fun r381 w1 hw => ?_)
  obtain ⟨rfl, rfl⟩ := hw
  refine gV_sub (ws' := (cW h cI cJ lc_381 la_381 hr uP uC uR tn pn pg pq rl_381 sr gcb gpb tg tm tl pm ps) ++ ((mW k cI th mP mC mR mal mhd mn mg mt mh mz mset mfr mma mde mls) ++ (oW ho cJ ov_381))) [10, 11, 12, 13, 14, 15, 16, 17, 18, 19, 20, 21, 22, 0, 1, 2, 3, 4, 5, 6, 7, 8, 9, 23] (by decide) rfl rfl ?_
  refine gV_istore (lvs' := [(5, .int r381), (0, .ref b), (1, .ref (h 0)), (2, .ref (k 0)), (3, .ref ho), (4, .int v4)]) C dL_law_384 (by decide) rfl ?_
  refine gV_aload_n C dL_law_386 rfl 3 rfl ?_
  refine gV_aload_n C dL_law_387 rfl 1 rfl ?_
  refine gV_iload C dL_law_388 5 rfl ?_
  refine gV_iconst (v := 1) C dL_law_390 rfl ?_
  refine gV_iadd C dL_law_391 ?_
  obtain ⟨hi392, hp⟩ := g_idx hp
  refine gV_sld C hX hbl hbA hi392 dL_law_392 ?_
  obtain ⟨r393q, th_393, mal_393, mh_393, hq393, hp⟩ := g_ob4 hp
  refine gV_calli C (gsub_cmo_m _ _ rfl rfl) (gV_runV (As := [.int (xs (v4 + 1).toNatClampNeg)]) (rest := []) C (mt_X4_allowLies hl D k cI cJ th mP mC mR mal mhd mn mg mt mh mz mset mfr mma mde mls (xs (v4 + 1).toNatClampNeg) r393q th_393 mal_393 mh_393 hq393) (cwV 1 C.2.2.2.2.1 gL_law_X4_allowLies rfl rfl rfl hdv_X4_allowLies ⟨Nat.le_of_ble_eq_true rfl, Nat.le_of_ble_eq_true rfl⟩) (gsub_cmo_m _ _ rfl rfl) 13 rfl rfl rfl rfl (Nat.le_of_ble_eq_true rfl) dL_law_393 ⟨g_rc (by omega), g_rs (by omega)⟩) (fun _ _ hx => False.elim hx) (fun r393 w1 hw => ?_)
  obtain ⟨rfl, rfl⟩ := hw
  refine gV_sub (ws' := (cW h cI cJ lc_381 la_381 hr uP uC uR tn pn pg pq rl_381 sr gcb gpb tg tm tl pm ps) ++ ((mW k cI th_393 mP mC mR mal_393 mhd mn mg mt mh_393 mz mset mfr mma mde mls) ++ (oW ho cJ ov_381))) [0, 1, 2, 3, 4, 5, 6, 7, 8, 9, 10, 11, 12, 14, 15, 16, 17, 18, 19, 20, 21, 22, 23, 13] (by decide) rfl rfl ?_
  refine gV_istore (lvs' := [(6, .int r393), (5, .int r381), (0, .ref b), (1, .ref (h 0)), (2, .ref (k 0)), (3, .ref ho), (4, .int v4)]) C dL_law_396 (by decide) rfl ?_
  refine gV_aload_n C dL_law_398 rfl 4 rfl ?_
  obtain ⟨r399q, hq399, hp⟩ := g_ob1 hp
  refine gV_calli C (gsub_cmo_m _ _ rfl rfl) (gV_runV (As := []) (rest := []) C (mt_X4_thrown hl D k cI cJ th_393 mP mC mR mal_393 mhd mn mg mt mh_393 mz mset mfr mma mde mls r399q hq399) (cwV 0 C.2.2.2.2.1 gL_law_X4_thrown rfl rfl rfl hdv_X4_thrown ⟨Nat.le_of_ble_eq_true rfl, Nat.le_of_ble_eq_true rfl⟩) (gsub_cmo_m _ _ rfl rfl) 13 rfl rfl rfl rfl (Nat.le_of_ble_eq_true rfl) dL_law_399 ⟨g_rc (by omega), g_rs (by omega)⟩) (fun _ _ hx => False.elim hx) (fun r399 w1 hw => ?_)
  obtain ⟨rfl, rfl⟩ := hw
  refine gV_sub (ws' := (cW h cI cJ lc_381 la_381 hr uP uC uR tn pn pg pq rl_381 sr gcb gpb tg tm tl pm ps) ++ ((mW k cI th_393 mP mC mR mal_393 mhd mn mg mt mh_393 mz mset mfr mma mde mls) ++ (oW ho cJ ov_381))) [0, 1, 2, 3, 4, 5, 6, 7, 8, 9, 10, 11, 12, 14, 15, 16, 17, 18, 19, 20, 21, 22, 23, 13] (by decide) rfl rfl ?_
  refine gV_iload C dL_law_402 1 rfl ?_
  refine gV_icmp_eq (tgt := 409) C dL_law_404 (by decide) (fun c404 => ?_) (fun c404 => ?_)
  · replace hp := g_ift hp c404
    refine gV_iload C dL_law_409 1 rfl ?_
    refine gV_if_ne (tgt := 426) C dL_law_411 (by decide) (fun c411 => ?_) (fun c411 => ?_)
    · replace hp := g_iff hp c411
      refine gV_loc [2, 3, 4, 5, 6] rfl ?_
      exact J426 _ _ (by omega) (by omega) lc_381 la_381 rl_381 th_393 mal_393 mh_393 ov_381 hp
    · replace hp := g_ift hp c411
      refine gV_aload_n C dL_law_414 rfl 5 rfl ?_
      refine gV_iconst (v := 0) C dL_law_415 rfl ?_
      obtain ⟨hi416, hp⟩ := g_idx hp
      refine gV_lald C 23 rfl 1 rfl hi416 dL_law_416 ?_
      refine gV_iload C dL_law_417 0 rfl ?_
      refine gV_i2l C dL_law_419 ?_
      refine gV_lcmp C dL_law_420 ?_
      refine gV_if_eq (tgt := 426) C dL_law_421 (by decide) (fun c421 => ?_) (fun c421 => ?_)
      · replace hp := g_ift hp c421
        refine gV_loc [2, 3, 4, 5, 6] rfl ?_
        exact J426 _ _ (by omega) (by omega) lc_381 la_381 rl_381 th_393 mal_393 mh_393 ov_381 hp
      · replace hp := g_iff hp c421
        refine gV_iconst (v := 0) C dL_law_424 rfl ?_
        exact absurd hp (by decide)
  · replace hp := g_iff hp c404
    refine gV_iconst (v := 0) C dL_law_407 rfl ?_
    exact absurd hp (by decide)
def pf_law_c5_j489 (kL : Int32 → Int32 → Int32 → Int32 → Int32 → Int32 → Int32 → Int32 → Int32 → Int32 → (Nat → Int32) → (Nat → Int32) → (Nat → Int32) → (Nat → Int64) → (Nat → Int32) → (Nat → Int32) → (Nat → Int32) → (Nat → Int32) → (Nat → Int32) → Int32 → Int32 → Int32 → Int32 → Int32 → Int32 → Int32 → (Nat → Int32) → (Nat → Int32) → (Nat → Int32) → (Nat → Int32) → (Nat → Int32) → (Nat → Int32) → (Nat → Int32) → (Nat → Int32) → (Nat → Int32) → (Nat → Int64) → Option Int32) (lc : Int32) (la : Int32) (uP : Int32) (uC : Int32) (uR : Int32) (tn : Int32) (pn : Int32) (pg : Int32) (pq : Int32) (rl : Nat → Int32) (sr : Nat → Int32) (gcb : Nat → Int32) (gpb : Nat → Int64) (tg : Nat → Int32) (tm : Nat → Int32) (tl : Nat → Int32) (pm : Nat → Int32) (ps : Nat → Int32) (mP : Int32) (mC : Int32) (mR : Int32) (mal : Int32) (mn : Int32) (mg : Nat → Int32) (mt : Nat → Int32) (mz : Nat → Int32) (mset : Nat → Int32) (mfr : Nat → Int32) (mma : Nat → Int32) (mde : Nat → Int32) (mls : Nat → Int32) (hr : Int32) (th : Int32) (mhd : Int32) (mh : Nat → Int32) (ov : Nat → Int64) : Option (Int32) := (kL lc la hr uP uC uR tn pn pg pq rl sr gcb gpb tg tm tl pm ps th mP mC mR mal mhd mn mg mt mh mz mset mfr mma mde mls ov)
def pf_law_c5_j483 (kL : Int32 → Int32 → Int32 → Int32 → Int32 → Int32 → Int32 → Int32 → Int32 → Int32 → (Nat → Int32) → (Nat → Int32) → (Nat → Int32) → (Nat → Int64) → (Nat → Int32) → (Nat → Int32) → (Nat → Int32) → (Nat → Int32) → (Nat → Int32) → Int32 → Int32 → Int32 → Int32 → Int32 → Int32 → Int32 → (Nat → Int32) → (Nat → Int32) → (Nat → Int32) → (Nat → Int32) → (Nat → Int32) → (Nat → Int32) → (Nat → Int32) → (Nat → Int32) → (Nat → Int32) → (Nat → Int64) → Option Int32) (lc : Int32) (la : Int32) (uP : Int32) (uC : Int32) (uR : Int32) (tn : Int32) (pn : Int32) (pg : Int32) (pq : Int32) (rl : Nat → Int32) (sr : Nat → Int32) (gcb : Nat → Int32) (gpb : Nat → Int64) (tg : Nat → Int32) (tm : Nat → Int32) (tl : Nat → Int32) (pm : Nat → Int32) (ps : Nat → Int32) (mP : Int32) (mC : Int32) (mR : Int32) (mal : Int32) (mn : Int32) (mg : Nat → Int32) (mt : Nat → Int32) (mz : Nat → Int32) (mset : Nat → Int32) (mfr : Nat → Int32) (mma : Nat → Int32) (mde : Nat → Int32) (mls : Nat → Int32) (s0 : Int64) (s1 : Int64) (hr : Int32) (th : Int32) (mhd : Int32) (mh : Nat → Int32) (ov : Nat → Int64) : Option (Int32) := (if (lg_cmp s1 s0) = 0 then (pf_law_c5_j489 kL lc la uP uC uR tn pn pg pq rl sr gcb gpb tg tm tl pm ps mP mC mR mal mn mg mt mz mset mfr mma mde mls hr th mhd mh ov) else (some 0))
def pf_law_c5 (kL : Int32 → Int32 → Int32 → Int32 → Int32 → Int32 → Int32 → Int32 → Int32 → Int32 → (Nat → Int32) → (Nat → Int32) → (Nat → Int32) → (Nat → Int64) → (Nat → Int32) → (Nat → Int32) → (Nat → Int32) → (Nat → Int32) → (Nat → Int32) → Int32 → Int32 → Int32 → Int32 → Int32 → Int32 → Int32 → (Nat → Int32) → (Nat → Int32) → (Nat → Int32) → (Nat → Int32) → (Nat → Int32) → (Nat → Int32) → (Nat → Int32) → (Nat → Int32) → (Nat → Int32) → (Nat → Int64) → Option Int32) (L : Nat) (xs : Nat → Int32) (v4 : Int32) (lc : Int32) (la : Int32) (hr : Int32) (uP : Int32) (uC : Int32) (uR : Int32) (tn : Int32) (pn : Int32) (pg : Int32) (pq : Int32) (rl : Nat → Int32) (sr : Nat → Int32) (gcb : Nat → Int32) (gpb : Nat → Int64) (tg : Nat → Int32) (tm : Nat → Int32) (tl : Nat → Int32) (pm : Nat → Int32) (ps : Nat → Int32) (th : Int32) (mP : Int32) (mC : Int32) (mR : Int32) (mal : Int32) (mhd : Int32) (mn : Int32) (mg : Nat → Int32) (mt : Nat → Int32) (mh : Nat → Int32) (mz : Nat → Int32) (mset : Nat → Int32) (mfr : Nat → Int32) (mma : Nat → Int32) (mde : Nat → Int32) (mls : Nat → Int32) (ov : Nat → Int64) : Option Int32 := (gi (v4 + 1) L (ob3 (pf_L_hide la hr uR tn tl ov (xs (v4 + 1).toNatClampNeg)) fun r437 hr_437 ov_437 => (gi (v4 + 1) L (ob4 (pf_X4_hide th mP mC mR mal mhd mn mg mt mh (xs (v4 + 1).toNatClampNeg)) fun r449 th_449 mhd_449 mh_449 => (ob1 (pf_X4_thrown th_449) fun r455 => (if r455 = r437 then (if r437 = 0 then (gi 0 1 (if r449 = 0 then (pf_law_c5_j483 kL lc la uP uC uR tn pn pg pq rl sr gcb gpb tg tm tl pm ps mP mC mR mal mn mg mt mz mset mfr mma mde mls 0 (ov_437 (0 : Int32).toNatClampNeg) hr_437 th_449 mhd_449 mh_449 ov_437) else (pf_law_c5_j483 kL lc la uP uC uR tn pn pg pq rl sr gcb gpb tg tm tl pm ps mP mC mR mal mn mg mt mz mset mfr mma mde mls 1 (ov_437 (0 : Int32).toNatClampNeg) hr_437 th_449 mhd_449 mh_449 ov_437))) else (pf_law_c5_j489 kL lc la uP uC uR tn pn pg pq rl sr gcb gpb tg tm tl pm ps mP mC mR mal mn mg mt mz mset mfr mma mde mls hr_437 th_449 mhd_449 mh_449 ov_437)) else (some 0)))))))
theorem hds_L_hide : yL_hide.cls ≠ "java/lang/invoke/MethodHandle" ∧ yL_hide.cls ≠ "java/lang/invoke/VarHandle" ∧ (parseMethodDescriptor yL_hide.desc).map (fun d => d.parameters.length) = some 3 := by decide +kernel
theorem hdv_X4_hide : yX4_hide.cls = RX4 ∧ yX4_hide.cls ≠ "java/lang/invoke/MethodHandle" ∧ yX4_hide.cls ≠ "java/lang/invoke/VarHandle" ∧ (parseMethodDescriptor yX4_hide.desc).map (fun d => d.parameters.length) = some 1 := by decide +kernel
set_option maxHeartbeats 4000000 in
set_option maxRecDepth 100000 in
theorem mt_law_c5 {p : Program} {l : Launch} (hl : l.stackTraces = false) {e : Env} {s : State} {m : MethodId} {args : Array Value} {below : List Frame} {meth : Method} {c : Code} {A : Nat → Prop} {D : va_G} {Q : State → Prop} (h k : Nat → Nat) (ho : Nat) (cI cJ : ClassId) {b L : Nat} {xs : Nat → Int32} (C : gC p l s m args meth c A D [(cI, .int), (cJ, .long)] 7 RL cL_law wsL_law) (hX : va_X b L xs s s.heap) (hbl : b < s.heap.size) (hbA : ¬ A b) (kL : Int32 → Int32 → Int32 → Int32 → Int32 → Int32 → Int32 → Int32 → Int32 → Int32 → (Nat → Int32) → (Nat → Int32) → (Nat → Int32) → (Nat → Int64) → (Nat → Int32) → (Nat → Int32) → (Nat → Int32) → (Nat → Int32) → (Nat → Int32) → Int32 → Int32 → Int32 → Int32 → Int32 → Int32 → Int32 → (Nat → Int32) → (Nat → Int32) → (Nat → Int32) → (Nat → Int32) → (Nat → Int32) → (Nat → Int32) → (Nat → Int32) → (Nat → Int32) → (Nat → Int32) → (Nat → Int64) → Option Int32) (K N K' N' : Nat) (hK : K + 8 ≤ K') (hN : N + 48 ≤ N') (hK' : K' ≤ 601024) (hN' : N' ≤ 7293034) (v4 : Int32) (JE : ∀ (lc : Int32) (la : Int32) (hr : Int32) (uP : Int32) (uC : Int32) (uR : Int32) (tn : Int32) (pn : Int32) (pg : Int32) (pq : Int32) (rl : Nat → Int32) (sr : Nat → Int32) (gcb : Nat → Int32) (gpb : Nat → Int64) (tg : Nat → Int32) (tm : Nat → Int32) (tl : Nat → Int32) (pm : Nat → Int32) (ps : Nat → Int32) (th : Int32) (mP : Int32) (mC : Int32) (mR : Int32) (mal : Int32) (mhd : Int32) (mn : Int32) (mg : Nat → Int32) (mt : Nat → Int32) (mh : Nat → Int32) (mz : Nat → Int32) (mset : Nat → Int32) (mfr : Nat → Int32) (mma : Nat → Int32) (mde : Nat → Int32) (mls : Nat → Int32) (ov : Nat → Int64), kL lc la hr uP uC uR tn pn pg pq rl sr gcb gpb tg tm tl pm ps th mP mC mR mal mhd mn mg mt mh mz mset mfr mma mde mls ov = some 1 → gV p l e room_1 s m args below meth c A D 7 Q ((cW h cI cJ lc la hr uP uC uR tn pn pg pq rl sr gcb gpb tg tm tl pm ps) ++ ((mW k cI th mP mC mR mal mhd mn mg mt mh mz mset mfr mma mde mls) ++ (oW ho cJ ov))) [(0, .ref b), (1, .ref (h 0)), (2, .ref (k 0)), (3, .ref ho), (4, .int v4)] K' N' 1466 []) (lc : Int32) (la : Int32) (hr : Int32) (uP : Int32) (uC : Int32) (uR : Int32) (tn : Int32) (pn : Int32) (pg : Int32) (pq : Int32) (rl : Nat → Int32) (sr : Nat → Int32) (gcb : Nat → Int32) (gpb : Nat → Int64) (tg : Nat → Int32) (tm : Nat → Int32) (tl : Nat → Int32) (pm : Nat → Int32) (ps : Nat → Int32) (th : Int32) (mP : Int32) (mC : Int32) (mR : Int32) (mal : Int32) (mhd : Int32) (mn : Int32) (mg : Nat → Int32) (mt : Nat → Int32) (mh : Nat → Int32) (mz : Nat → Int32) (mset : Nat → Int32) (mfr : Nat → Int32) (mma : Nat → Int32) (mde : Nat → Int32) (mls : Nat → Int32) (ov : Nat → Int64) (hp : pf_law_c5 kL L xs v4 lc la hr uP uC uR tn pn pg pq rl sr gcb gpb tg tm tl pm ps th mP mC mR mal mhd mn mg mt mh mz mset mfr mma mde mls ov = some 1) : gV p l e room_1 s m args below meth c A D 7 Q ((cW h cI cJ lc la hr uP uC uR tn pn pg pq rl sr gcb gpb tg tm tl pm ps) ++ ((mW k cI th mP mC mR mal mhd mn mg mt mh mz mset mfr mma mde mls) ++ (oW ho cJ ov))) [(0, .ref b), (1, .ref (h 0)), (2, .ref (k 0)), (3, .ref ho), (4, .int v4)] K N 429 [] := by
  unfold pf_law_c5 at hp
  have J489 : ∀ (K1 N1 : Nat), K1 + 2 ≤ K' → N1 + 12 ≤ N' → ∀ (hr : Int32) (th : Int32) (mhd : Int32) (mh : Nat → Int32) (ov : Nat → Int64), pf_law_c5_j489 kL lc la uP uC uR tn pn pg pq rl sr gcb gpb tg tm tl pm ps mP mC mR mal mn mg mt mz mset mfr mma mde mls hr th mhd mh ov = some 1 → gV p l e room_1 s m args below meth c A D 7 Q ((cW h cI cJ lc la hr uP uC uR tn pn pg pq rl sr gcb gpb tg tm tl pm ps) ++ ((mW k cI th mP mC mR mal mhd mn mg mt mh mz mset mfr mma mde mls) ++ (oW ho cJ ov))) [(0, .ref b), (1, .ref (h 0)), (2, .ref (k 0)), (3, .ref ho), (4, .int v4)] K1 N1 489 [] := by
    intro K1 N1 hK1 hN1 hr th mhd mh ov hp
    unfold pf_law_c5_j489 at hp
    refine gV_goto (tgt := 1466) C dL_law_489 (by decide) ?_
    refine gV_widen (k' := K') (n' := N') (by omega) (by omega) ?_
    exact JE lc la hr uP uC uR tn pn pg pq rl sr gcb gpb tg tm tl pm ps th mP mC mR mal mhd mn mg mt mh mz mset mfr mma mde mls ov hp
  have J483 : ∀ (K1 N1 : Nat), K1 + 2 ≤ K' → N1 + 12 ≤ N' → ∀ (s0 : Int64) (s1 : Int64) (hr : Int32) (th : Int32) (mhd : Int32) (mh : Nat → Int32) (ov : Nat → Int64), pf_law_c5_j483 kL lc la uP uC uR tn pn pg pq rl sr gcb gpb tg tm tl pm ps mP mC mR mal mn mg mt mz mset mfr mma mde mls s0 s1 hr th mhd mh ov = some 1 → gV p l e room_1 s m args below meth c A D 7 Q ((cW h cI cJ lc la hr uP uC uR tn pn pg pq rl sr gcb gpb tg tm tl pm ps) ++ ((mW k cI th mP mC mR mal mhd mn mg mt mh mz mset mfr mma mde mls) ++ (oW ho cJ ov))) [(0, .ref b), (1, .ref (h 0)), (2, .ref (k 0)), (3, .ref ho), (4, .int v4)] K1 N1 483 [.long s0, .long s1] := by
    intro K1 N1 hK1 hN1 s0 s1 hr th mhd mh ov hp
    unfold pf_law_c5_j483 at hp
    refine gV_lcmp C dL_law_483 ?_
    refine gV_if_eq (tgt := 489) C dL_law_484 (by decide) (fun c484 => ?_) (fun c484 => ?_)
    · replace hp := g_ift hp c484
      exact J489 _ _ (by omega) (by omega) hr th mhd mh ov hp
    · replace hp := g_iff hp c484
      refine gV_iconst (v := 0) C dL_law_487 rfl ?_
      exact absurd hp (by decide)
  refine gV_aload_n C dL_law_429 rfl 1 rfl ?_
  refine gV_aload_n C dL_law_430 rfl 0 rfl ?_
  refine gV_iload C dL_law_431 4 rfl ?_
  refine gV_iconst (v := 1) C dL_law_433 rfl ?_
  refine gV_iadd C dL_law_434 ?_
  obtain ⟨hi435, hp⟩ := g_idx hp
  refine gV_sld C hX hbl hbA hi435 dL_law_435 ?_
  refine gV_aload_n C dL_law_436 rfl 3 rfl ?_
  obtain ⟨r437q, hr_437, ov_437, hq437, hp⟩ := g_ob3 hp
  refine gV_calli C (gsub_cmo_co _ _ rfl rfl) (gV_runSX (As := [.ref (h 0), .int (xs (v4 + 1).toNatClampNeg), .ref ho]) (rest := []) C (mt_L_hide hl D h ho cI cJ lc la hr uP uC uR tn pn pg pq rl sr gcb gpb tg tm tl pm ps ov (xs (v4 + 1).toNatClampNeg) r437q hr_437 ov_437 hq437) (vx_cwSW 3 C.2.2.2.2.1 gL_law_L_hide rfl rfl rfl hds_L_hide ⟨Nat.le_of_ble_eq_true rfl, Nat.le_of_ble_eq_true rfl⟩) (gsub_cmo_co _ _ rfl rfl) rfl rfl (Nat.le_of_ble_eq_true rfl) dL_law_437 ⟨g_rc (by omega), g_rs (by omega)⟩) (fun _ _ hx => False.elim hx) (fun r437 w1 hw => ?_)
  obtain ⟨rfl, rfl⟩ := hw
  refine gV_sub (ws' := (cW h cI cJ lc la hr_437 uP uC uR tn pn pg pq rl sr gcb gpb tg tm tl pm ps) ++ ((mW k cI th mP mC mR mal mhd mn mg mt mh mz mset mfr mma mde mls) ++ (oW ho cJ ov_437))) [10, 11, 12, 13, 14, 15, 16, 17, 18, 19, 20, 21, 22, 0, 1, 2, 3, 4, 5, 6, 7, 8, 9, 23] (by decide) rfl rfl ?_
  refine gV_istore (lvs' := [(5, .int r437), (0, .ref b), (1, .ref (h 0)), (2, .ref (k 0)), (3, .ref ho), (4, .int v4)]) C dL_law_440 (by decide) rfl ?_
  refine gV_aload_n C dL_law_442 rfl 3 rfl ?_
  refine gV_aload_n C dL_law_443 rfl 1 rfl ?_
  refine gV_iload C dL_law_444 5 rfl ?_
  refine gV_iconst (v := 1) C dL_law_446 rfl ?_
  refine gV_iadd C dL_law_447 ?_
  obtain ⟨hi448, hp⟩ := g_idx hp
  refine gV_sld C hX hbl hbA hi448 dL_law_448 ?_
  obtain ⟨r449q, th_449, mhd_449, mh_449, hq449, hp⟩ := g_ob4 hp
  refine gV_calli C (gsub_cmo_m _ _ rfl rfl) (gV_runV (As := [.int (xs (v4 + 1).toNatClampNeg)]) (rest := []) C (mt_X4_hide hl D k cI cJ th mP mC mR mal mhd mn mg mt mh mz mset mfr mma mde mls (xs (v4 + 1).toNatClampNeg) r449q th_449 mhd_449 mh_449 hq449) (cwV 1 C.2.2.2.2.1 gL_law_X4_hide rfl rfl rfl hdv_X4_hide ⟨Nat.le_of_ble_eq_true rfl, Nat.le_of_ble_eq_true rfl⟩) (gsub_cmo_m _ _ rfl rfl) 13 rfl rfl rfl rfl (Nat.le_of_ble_eq_true rfl) dL_law_449 ⟨g_rc (by omega), g_rs (by omega)⟩) (fun _ _ hx => False.elim hx) (fun r449 w1 hw => ?_)
  obtain ⟨rfl, rfl⟩ := hw
  refine gV_sub (ws' := (cW h cI cJ lc la hr_437 uP uC uR tn pn pg pq rl sr gcb gpb tg tm tl pm ps) ++ ((mW k cI th_449 mP mC mR mal mhd_449 mn mg mt mh_449 mz mset mfr mma mde mls) ++ (oW ho cJ ov_437))) [0, 1, 2, 3, 4, 5, 6, 7, 8, 9, 10, 11, 12, 14, 15, 16, 17, 18, 19, 20, 21, 22, 23, 13] (by decide) rfl rfl ?_
  refine gV_istore (lvs' := [(6, .int r449), (5, .int r437), (0, .ref b), (1, .ref (h 0)), (2, .ref (k 0)), (3, .ref ho), (4, .int v4)]) C dL_law_452 (by decide) rfl ?_
  refine gV_aload_n C dL_law_454 rfl 4 rfl ?_
  obtain ⟨r455q, hq455, hp⟩ := g_ob1 hp
  refine gV_calli C (gsub_cmo_m _ _ rfl rfl) (gV_runV (As := []) (rest := []) C (mt_X4_thrown hl D k cI cJ th_449 mP mC mR mal mhd_449 mn mg mt mh_449 mz mset mfr mma mde mls r455q hq455) (cwV 0 C.2.2.2.2.1 gL_law_X4_thrown rfl rfl rfl hdv_X4_thrown ⟨Nat.le_of_ble_eq_true rfl, Nat.le_of_ble_eq_true rfl⟩) (gsub_cmo_m _ _ rfl rfl) 13 rfl rfl rfl rfl (Nat.le_of_ble_eq_true rfl) dL_law_455 ⟨g_rc (by omega), g_rs (by omega)⟩) (fun _ _ hx => False.elim hx) (fun r455 w1 hw => ?_)
  obtain ⟨rfl, rfl⟩ := hw
  refine gV_sub (ws' := (cW h cI cJ lc la hr_437 uP uC uR tn pn pg pq rl sr gcb gpb tg tm tl pm ps) ++ ((mW k cI th_449 mP mC mR mal mhd_449 mn mg mt mh_449 mz mset mfr mma mde mls) ++ (oW ho cJ ov_437))) [0, 1, 2, 3, 4, 5, 6, 7, 8, 9, 10, 11, 12, 14, 15, 16, 17, 18, 19, 20, 21, 22, 23, 13] (by decide) rfl rfl ?_
  refine gV_iload C dL_law_458 1 rfl ?_
  refine gV_icmp_eq (tgt := 465) C dL_law_460 (by decide) (fun c460 => ?_) (fun c460 => ?_)
  · replace hp := g_ift hp c460
    refine gV_iload C dL_law_465 1 rfl ?_
    refine gV_if_ne (tgt := 489) C dL_law_467 (by decide) (fun c467 => ?_) (fun c467 => ?_)
    · replace hp := g_iff hp c467
      refine gV_loc [2, 3, 4, 5, 6] rfl ?_
      exact J489 _ _ (by omega) (by omega) hr_437 th_449 mhd_449 mh_449 ov_437 hp
    · replace hp := g_ift hp c467
      refine gV_aload_n C dL_law_470 rfl 5 rfl ?_
      refine gV_iconst (v := 0) C dL_law_471 rfl ?_
      obtain ⟨hi472, hp⟩ := g_idx hp
      refine gV_lald C 23 rfl 1 rfl hi472 dL_law_472 ?_
      refine gV_iload C dL_law_473 0 rfl ?_
      refine gV_if_eq (tgt := 482) C dL_law_475 (by decide) (fun c475 => ?_) (fun c475 => ?_)
      · replace hp := g_ift hp c475
        refine gV_lconst (v := 0) C dL_law_482 rfl ?_
        refine gV_loc [2, 3, 4, 5, 6] rfl ?_
        exact J483 _ _ (by omega) (by omega) 0 (ov_437 (0 : Int32).toNatClampNeg) hr_437 th_449 mhd_449 mh_449 ov_437 hp
      · replace hp := g_iff hp c475
        refine gV_lconst (v := 1) C dL_law_478 rfl ?_
        refine gV_goto (tgt := 483) C dL_law_479 (by decide) ?_
        refine gV_loc [2, 3, 4, 5, 6] rfl ?_
        exact J483 _ _ (by omega) (by omega) 1 (ov_437 (0 : Int32).toNatClampNeg) hr_437 th_449 mhd_449 mh_449 ov_437 hp
  · replace hp := g_iff hp c460
    refine gV_iconst (v := 0) C dL_law_463 rfl ?_
    exact absurd hp (by decide)
def pf_law_c6_j545 (kL : Int32 → Int32 → Int32 → Int32 → Int32 → Int32 → Int32 → Int32 → Int32 → Int32 → (Nat → Int32) → (Nat → Int32) → (Nat → Int32) → (Nat → Int64) → (Nat → Int32) → (Nat → Int32) → (Nat → Int32) → (Nat → Int32) → (Nat → Int32) → Int32 → Int32 → Int32 → Int32 → Int32 → Int32 → Int32 → (Nat → Int32) → (Nat → Int32) → (Nat → Int32) → (Nat → Int32) → (Nat → Int32) → (Nat → Int32) → (Nat → Int32) → (Nat → Int32) → (Nat → Int32) → (Nat → Int64) → Option Int32) (la : Int32) (hr : Int32) (uP : Int32) (uC : Int32) (uR : Int32) (pn : Int32) (pg : Int32) (pq : Int32) (sr : Nat → Int32) (gcb : Nat → Int32) (gpb : Nat → Int64) (pm : Nat → Int32) (ps : Nat → Int32) (mP : Int32) (mC : Int32) (mR : Int32) (mal : Int32) (mhd : Int32) (mz : Nat → Int32) (mset : Nat → Int32) (mfr : Nat → Int32) (mma : Nat → Int32) (mde : Nat → Int32) (mls : Nat → Int32) (lc : Int32) (tn : Int32) (rl : Nat → Int32) (tg : Nat → Int32) (tm : Nat → Int32) (tl : Nat → Int32) (th : Int32) (mn : Int32) (mg : Nat → Int32) (mt : Nat → Int32) (mh : Nat → Int32) (ov : Nat → Int64) : Option (Int32) := (kL lc la hr uP uC uR tn pn pg pq rl sr gcb gpb tg tm tl pm ps th mP mC mR mal mhd mn mg mt mh mz mset mfr mma mde mls ov)
def pf_law_c6 (kL : Int32 → Int32 → Int32 → Int32 → Int32 → Int32 → Int32 → Int32 → Int32 → Int32 → (Nat → Int32) → (Nat → Int32) → (Nat → Int32) → (Nat → Int64) → (Nat → Int32) → (Nat → Int32) → (Nat → Int32) → (Nat → Int32) → (Nat → Int32) → Int32 → Int32 → Int32 → Int32 → Int32 → Int32 → Int32 → (Nat → Int32) → (Nat → Int32) → (Nat → Int32) → (Nat → Int32) → (Nat → Int32) → (Nat → Int32) → (Nat → Int32) → (Nat → Int32) → (Nat → Int32) → (Nat → Int64) → Option Int32) (L : Nat) (xs : Nat → Int32) (v4 : Int32) (lc : Int32) (la : Int32) (hr : Int32) (uP : Int32) (uC : Int32) (uR : Int32) (tn : Int32) (pn : Int32) (pg : Int32) (pq : Int32) (rl : Nat → Int32) (sr : Nat → Int32) (gcb : Nat → Int32) (gpb : Nat → Int64) (tg : Nat → Int32) (tm : Nat → Int32) (tl : Nat → Int32) (pm : Nat → Int32) (ps : Nat → Int32) (th : Int32) (mP : Int32) (mC : Int32) (mR : Int32) (mal : Int32) (mhd : Int32) (mn : Int32) (mg : Nat → Int32) (mt : Nat → Int32) (mh : Nat → Int32) (mz : Nat → Int32) (mset : Nat → Int32) (mfr : Nat → Int32) (mma : Nat → Int32) (mde : Nat → Int32) (mls : Nat → Int32) (ov : Nat → Int64) : Option Int32 := (gi (v4 + 1) L (ob8 (pf_L_guess lc la hr uP uR tn rl gcb gpb tg tm tl ov (xs (v4 + 1).toNatClampNeg)) fun r500 lc_500 tn_500 rl_500 tg_500 tm_500 tl_500 ov_500 => (gi (v4 + 1) L (ob6 (pf_X4_guess th mP mC mR mhd mn mg mt mh (xs (v4 + 1).toNatClampNeg)) fun r512 th_512 mn_512 mg_512 mt_512 mh_512 => (ob1 (pf_X4_thrown th_512) fun r518 => (if r518 = r500 then (if r500 = 0 then (gi 0 1 (if (lg_cmp (ov_500 (0 : Int32).toNatClampNeg) r512.toInt64) = 0 then (pf_law_c6_j545 kL la hr uP uC uR pn pg pq sr gcb gpb pm ps mP mC mR mal mhd mz mset mfr mma mde mls lc_500 tn_500 rl_500 tg_500 tm_500 tl_500 th_512 mn_512 mg_512 mt_512 mh_512 ov_500) else (some 0))) else (pf_law_c6_j545 kL la hr uP uC uR pn pg pq sr gcb gpb pm ps mP mC mR mal mhd mz mset mfr mma mde mls lc_500 tn_500 rl_500 tg_500 tm_500 tl_500 th_512 mn_512 mg_512 mt_512 mh_512 ov_500)) else (some 0)))))))
theorem hds_L_guess : yL_guess.cls ≠ "java/lang/invoke/MethodHandle" ∧ yL_guess.cls ≠ "java/lang/invoke/VarHandle" ∧ (parseMethodDescriptor yL_guess.desc).map (fun d => d.parameters.length) = some 3 := by decide +kernel
theorem hdv_X4_guess : yX4_guess.cls = RX4 ∧ yX4_guess.cls ≠ "java/lang/invoke/MethodHandle" ∧ yX4_guess.cls ≠ "java/lang/invoke/VarHandle" ∧ (parseMethodDescriptor yX4_guess.desc).map (fun d => d.parameters.length) = some 1 := by decide +kernel
set_option maxHeartbeats 4000000 in
set_option maxRecDepth 100000 in
theorem mt_law_c6 {p : Program} {l : Launch} (hl : l.stackTraces = false) {e : Env} {s : State} {m : MethodId} {args : Array Value} {below : List Frame} {meth : Method} {c : Code} {A : Nat → Prop} {D : va_G} {Q : State → Prop} (h k : Nat → Nat) (ho : Nat) (cI cJ : ClassId) {b L : Nat} {xs : Nat → Int32} (C : gC p l s m args meth c A D [(cI, .int), (cJ, .long)] 7 RL cL_law wsL_law) (hX : va_X b L xs s s.heap) (hbl : b < s.heap.size) (hbA : ¬ A b) (kL : Int32 → Int32 → Int32 → Int32 → Int32 → Int32 → Int32 → Int32 → Int32 → Int32 → (Nat → Int32) → (Nat → Int32) → (Nat → Int32) → (Nat → Int64) → (Nat → Int32) → (Nat → Int32) → (Nat → Int32) → (Nat → Int32) → (Nat → Int32) → Int32 → Int32 → Int32 → Int32 → Int32 → Int32 → Int32 → (Nat → Int32) → (Nat → Int32) → (Nat → Int32) → (Nat → Int32) → (Nat → Int32) → (Nat → Int32) → (Nat → Int32) → (Nat → Int32) → (Nat → Int32) → (Nat → Int64) → Option Int32) (K N K' N' : Nat) (hK : K + 8 ≤ K') (hN : N + 48 ≤ N') (hK' : K' ≤ 601024) (hN' : N' ≤ 7293034) (v4 : Int32) (JE : ∀ (lc : Int32) (la : Int32) (hr : Int32) (uP : Int32) (uC : Int32) (uR : Int32) (tn : Int32) (pn : Int32) (pg : Int32) (pq : Int32) (rl : Nat → Int32) (sr : Nat → Int32) (gcb : Nat → Int32) (gpb : Nat → Int64) (tg : Nat → Int32) (tm : Nat → Int32) (tl : Nat → Int32) (pm : Nat → Int32) (ps : Nat → Int32) (th : Int32) (mP : Int32) (mC : Int32) (mR : Int32) (mal : Int32) (mhd : Int32) (mn : Int32) (mg : Nat → Int32) (mt : Nat → Int32) (mh : Nat → Int32) (mz : Nat → Int32) (mset : Nat → Int32) (mfr : Nat → Int32) (mma : Nat → Int32) (mde : Nat → Int32) (mls : Nat → Int32) (ov : Nat → Int64), kL lc la hr uP uC uR tn pn pg pq rl sr gcb gpb tg tm tl pm ps th mP mC mR mal mhd mn mg mt mh mz mset mfr mma mde mls ov = some 1 → gV p l e room_1 s m args below meth c A D 7 Q ((cW h cI cJ lc la hr uP uC uR tn pn pg pq rl sr gcb gpb tg tm tl pm ps) ++ ((mW k cI th mP mC mR mal mhd mn mg mt mh mz mset mfr mma mde mls) ++ (oW ho cJ ov))) [(0, .ref b), (1, .ref (h 0)), (2, .ref (k 0)), (3, .ref ho), (4, .int v4)] K' N' 1466 []) (lc : Int32) (la : Int32) (hr : Int32) (uP : Int32) (uC : Int32) (uR : Int32) (tn : Int32) (pn : Int32) (pg : Int32) (pq : Int32) (rl : Nat → Int32) (sr : Nat → Int32) (gcb : Nat → Int32) (gpb : Nat → Int64) (tg : Nat → Int32) (tm : Nat → Int32) (tl : Nat → Int32) (pm : Nat → Int32) (ps : Nat → Int32) (th : Int32) (mP : Int32) (mC : Int32) (mR : Int32) (mal : Int32) (mhd : Int32) (mn : Int32) (mg : Nat → Int32) (mt : Nat → Int32) (mh : Nat → Int32) (mz : Nat → Int32) (mset : Nat → Int32) (mfr : Nat → Int32) (mma : Nat → Int32) (mde : Nat → Int32) (mls : Nat → Int32) (ov : Nat → Int64) (hp : pf_law_c6 kL L xs v4 lc la hr uP uC uR tn pn pg pq rl sr gcb gpb tg tm tl pm ps th mP mC mR mal mhd mn mg mt mh mz mset mfr mma mde mls ov = some 1) : gV p l e room_1 s m args below meth c A D 7 Q ((cW h cI cJ lc la hr uP uC uR tn pn pg pq rl sr gcb gpb tg tm tl pm ps) ++ ((mW k cI th mP mC mR mal mhd mn mg mt mh mz mset mfr mma mde mls) ++ (oW ho cJ ov))) [(0, .ref b), (1, .ref (h 0)), (2, .ref (k 0)), (3, .ref ho), (4, .int v4)] K N 492 [] := by
  unfold pf_law_c6 at hp
  have J545 : ∀ (K1 N1 : Nat), K1 + 2 ≤ K' → N1 + 12 ≤ N' → ∀ (lc : Int32) (tn : Int32) (rl : Nat → Int32) (tg : Nat → Int32) (tm : Nat → Int32) (tl : Nat → Int32) (th : Int32) (mn : Int32) (mg : Nat → Int32) (mt : Nat → Int32) (mh : Nat → Int32) (ov : Nat → Int64), pf_law_c6_j545 kL la hr uP uC uR pn pg pq sr gcb gpb pm ps mP mC mR mal mhd mz mset mfr mma mde mls lc tn rl tg tm tl th mn mg mt mh ov = some 1 → gV p l e room_1 s m args below meth c A D 7 Q ((cW h cI cJ lc la hr uP uC uR tn pn pg pq rl sr gcb gpb tg tm tl pm ps) ++ ((mW k cI th mP mC mR mal mhd mn mg mt mh mz mset mfr mma mde mls) ++ (oW ho cJ ov))) [(0, .ref b), (1, .ref (h 0)), (2, .ref (k 0)), (3, .ref ho), (4, .int v4)] K1 N1 545 [] := by
    intro K1 N1 hK1 hN1 lc tn rl tg tm tl th mn mg mt mh ov hp
    unfold pf_law_c6_j545 at hp
    refine gV_goto (tgt := 1466) C dL_law_545 (by decide) ?_
    refine gV_widen (k' := K') (n' := N') (by omega) (by omega) ?_
    exact JE lc la hr uP uC uR tn pn pg pq rl sr gcb gpb tg tm tl pm ps th mP mC mR mal mhd mn mg mt mh mz mset mfr mma mde mls ov hp
  refine gV_aload_n C dL_law_492 rfl 1 rfl ?_
  refine gV_aload_n C dL_law_493 rfl 0 rfl ?_
  refine gV_iload C dL_law_494 4 rfl ?_
  refine gV_iconst (v := 1) C dL_law_496 rfl ?_
  refine gV_iadd C dL_law_497 ?_
  obtain ⟨hi498, hp⟩ := g_idx hp
  refine gV_sld C hX hbl hbA hi498 dL_law_498 ?_
  refine gV_aload_n C dL_law_499 rfl 3 rfl ?_
  obtain ⟨r500q, lc_500, tn_500, rl_500, tg_500, tm_500, tl_500, ov_500, hq500, hp⟩ := g_ob8 hp
  refine gV_calli C (gsub_cmo_co _ _ rfl rfl) (gV_runSX (As := [.ref (h 0), .int (xs (v4 + 1).toNatClampNeg), .ref ho]) (rest := []) C (mt_L_guess hl D h ho cI cJ lc la hr uP uC uR tn pn pg pq rl sr gcb gpb tg tm tl pm ps ov (xs (v4 + 1).toNatClampNeg) r500q lc_500 tn_500 rl_500 tg_500 tm_500 tl_500 ov_500 hq500) (vx_cwSW 3 C.2.2.2.2.1 gL_law_L_guess rfl rfl rfl hds_L_guess ⟨Nat.le_of_ble_eq_true rfl, Nat.le_of_ble_eq_true rfl⟩) (gsub_cmo_co _ _ rfl rfl) rfl rfl (Nat.le_of_ble_eq_true rfl) dL_law_500 ⟨g_rc (by omega), g_rs (by omega)⟩) (fun _ _ hx => False.elim hx) (fun r500 w1 hw => ?_)
  obtain ⟨rfl, rfl⟩ := hw
  refine gV_sub (ws' := (cW h cI cJ lc_500 la hr uP uC uR tn_500 pn pg pq rl_500 sr gcb gpb tg_500 tm_500 tl_500 pm ps) ++ ((mW k cI th mP mC mR mal mhd mn mg mt mh mz mset mfr mma mde mls) ++ (oW ho cJ ov_500))) [10, 11, 12, 13, 14, 15, 16, 17, 18, 19, 20, 21, 22, 0, 1, 2, 3, 4, 5, 6, 7, 8, 9, 23] (by decide) rfl rfl ?_
  refine gV_istore (lvs' := [(5, .int r500), (0, .ref b), (1, .ref (h 0)), (2, .ref (k 0)), (3, .ref ho), (4, .int v4)]) C dL_law_503 (by decide) rfl ?_
  refine gV_aload_n C dL_law_505 rfl 3 rfl ?_
  refine gV_aload_n C dL_law_506 rfl 1 rfl ?_
  refine gV_iload C dL_law_507 5 rfl ?_
  refine gV_iconst (v := 1) C dL_law_509 rfl ?_
  refine gV_iadd C dL_law_510 ?_
  obtain ⟨hi511, hp⟩ := g_idx hp
  refine gV_sld C hX hbl hbA hi511 dL_law_511 ?_
  obtain ⟨r512q, th_512, mn_512, mg_512, mt_512, mh_512, hq512, hp⟩ := g_ob6 hp
  refine gV_calli C (gsub_cmo_m _ _ rfl rfl) (gV_runV (As := [.int (xs (v4 + 1).toNatClampNeg)]) (rest := []) C (mt_X4_guess hl D k cI cJ th mP mC mR mal mhd mn mg mt mh mz mset mfr mma mde mls (xs (v4 + 1).toNatClampNeg) r512q th_512 mn_512 mg_512 mt_512 mh_512 hq512) (cwV 1 C.2.2.2.2.1 gL_law_X4_guess rfl rfl rfl hdv_X4_guess ⟨Nat.le_of_ble_eq_true rfl, Nat.le_of_ble_eq_true rfl⟩) (gsub_cmo_m _ _ rfl rfl) 13 rfl rfl rfl rfl (Nat.le_of_ble_eq_true rfl) dL_law_512 ⟨g_rc (by omega), g_rs (by omega)⟩) (fun _ _ hx => False.elim hx) (fun r512 w1 hw => ?_)
  obtain ⟨rfl, rfl⟩ := hw
  refine gV_sub (ws' := (cW h cI cJ lc_500 la hr uP uC uR tn_500 pn pg pq rl_500 sr gcb gpb tg_500 tm_500 tl_500 pm ps) ++ ((mW k cI th_512 mP mC mR mal mhd mn_512 mg_512 mt_512 mh_512 mz mset mfr mma mde mls) ++ (oW ho cJ ov_500))) [0, 1, 2, 3, 4, 5, 6, 7, 8, 9, 10, 11, 12, 14, 15, 16, 17, 18, 19, 20, 21, 22, 23, 13] (by decide) rfl rfl ?_
  refine gV_istore (lvs' := [(6, .int r512), (5, .int r500), (0, .ref b), (1, .ref (h 0)), (2, .ref (k 0)), (3, .ref ho), (4, .int v4)]) C dL_law_515 (by decide) rfl ?_
  refine gV_aload_n C dL_law_517 rfl 4 rfl ?_
  obtain ⟨r518q, hq518, hp⟩ := g_ob1 hp
  refine gV_calli C (gsub_cmo_m _ _ rfl rfl) (gV_runV (As := []) (rest := []) C (mt_X4_thrown hl D k cI cJ th_512 mP mC mR mal mhd mn_512 mg_512 mt_512 mh_512 mz mset mfr mma mde mls r518q hq518) (cwV 0 C.2.2.2.2.1 gL_law_X4_thrown rfl rfl rfl hdv_X4_thrown ⟨Nat.le_of_ble_eq_true rfl, Nat.le_of_ble_eq_true rfl⟩) (gsub_cmo_m _ _ rfl rfl) 13 rfl rfl rfl rfl (Nat.le_of_ble_eq_true rfl) dL_law_518 ⟨g_rc (by omega), g_rs (by omega)⟩) (fun _ _ hx => False.elim hx) (fun r518 w1 hw => ?_)
  obtain ⟨rfl, rfl⟩ := hw
  refine gV_sub (ws' := (cW h cI cJ lc_500 la hr uP uC uR tn_500 pn pg pq rl_500 sr gcb gpb tg_500 tm_500 tl_500 pm ps) ++ ((mW k cI th_512 mP mC mR mal mhd mn_512 mg_512 mt_512 mh_512 mz mset mfr mma mde mls) ++ (oW ho cJ ov_500))) [0, 1, 2, 3, 4, 5, 6, 7, 8, 9, 10, 11, 12, 14, 15, 16, 17, 18, 19, 20, 21, 22, 23, 13] (by decide) rfl rfl ?_
  refine gV_iload C dL_law_521 1 rfl ?_
  refine gV_icmp_eq (tgt := 528) C dL_law_523 (by decide) (fun c523 => ?_) (fun c523 => ?_)
  · replace hp := g_ift hp c523
    refine gV_iload C dL_law_528 1 rfl ?_
    refine gV_if_ne (tgt := 545) C dL_law_530 (by decide) (fun c530 => ?_) (fun c530 => ?_)
    · replace hp := g_iff hp c530
      refine gV_loc [2, 3, 4, 5, 6] rfl ?_
      exact J545 _ _ (by omega) (by omega) lc_500 tn_500 rl_500 tg_500 tm_500 tl_500 th_512 mn_512 mg_512 mt_512 mh_512 ov_500 hp
    · replace hp := g_ift hp c530
      refine gV_aload_n C dL_law_533 rfl 5 rfl ?_
      refine gV_iconst (v := 0) C dL_law_534 rfl ?_
      obtain ⟨hi535, hp⟩ := g_idx hp
      refine gV_lald C 23 rfl 1 rfl hi535 dL_law_535 ?_
      refine gV_iload C dL_law_536 0 rfl ?_
      refine gV_i2l C dL_law_538 ?_
      refine gV_lcmp C dL_law_539 ?_
      refine gV_if_eq (tgt := 545) C dL_law_540 (by decide) (fun c540 => ?_) (fun c540 => ?_)
      · replace hp := g_ift hp c540
        refine gV_loc [2, 3, 4, 5, 6] rfl ?_
        exact J545 _ _ (by omega) (by omega) lc_500 tn_500 rl_500 tg_500 tm_500 tl_500 th_512 mn_512 mg_512 mt_512 mh_512 ov_500 hp
      · replace hp := g_iff hp c540
        refine gV_iconst (v := 0) C dL_law_543 rfl ?_
        exact absurd hp (by decide)
  · replace hp := g_iff hp c523
    refine gV_iconst (v := 0) C dL_law_526 rfl ?_
    exact absurd hp (by decide)
def pf_law_c7_j613 (kL : Int32 → Int32 → Int32 → Int32 → Int32 → Int32 → Int32 → Int32 → Int32 → Int32 → (Nat → Int32) → (Nat → Int32) → (Nat → Int32) → (Nat → Int64) → (Nat → Int32) → (Nat → Int32) → (Nat → Int32) → (Nat → Int32) → (Nat → Int32) → Int32 → Int32 → Int32 → Int32 → Int32 → Int32 → Int32 → (Nat → Int32) → (Nat → Int32) → (Nat → Int32) → (Nat → Int32) → (Nat → Int32) → (Nat → Int32) → (Nat → Int32) → (Nat → Int32) → (Nat → Int32) → (Nat → Int64) → Option Int32) (la : Int32) (hr : Int32) (uP : Int32) (uC : Int32) (uR : Int32) (pn : Int32) (pg : Int32) (pq : Int32) (sr : Nat → Int32) (gcb : Nat → Int32) (gpb : Nat → Int64) (pm : Nat → Int32) (ps : Nat → Int32) (mP : Int32) (mC : Int32) (mR : Int32) (mal : Int32) (mhd : Int32) (mz : Nat → Int32) (mset : Nat → Int32) (mfr : Nat → Int32) (mma : Nat → Int32) (mde : Nat → Int32) (mls : Nat → Int32) (lc : Int32) (tn : Int32) (rl : Nat → Int32) (tg : Nat → Int32) (tm : Nat → Int32) (tl : Nat → Int32) (th : Int32) (mn : Int32) (mg : Nat → Int32) (mt : Nat → Int32) (mh : Nat → Int32) (ov : Nat → Int64) : Option (Int32) := (kL lc la hr uP uC uR tn pn pg pq rl sr gcb gpb tg tm tl pm ps th mP mC mR mal mhd mn mg mt mh mz mset mfr mma mde mls ov)
def pf_law_c7 (kL : Int32 → Int32 → Int32 → Int32 → Int32 → Int32 → Int32 → Int32 → Int32 → Int32 → (Nat → Int32) → (Nat → Int32) → (Nat → Int32) → (Nat → Int64) → (Nat → Int32) → (Nat → Int32) → (Nat → Int32) → (Nat → Int32) → (Nat → Int32) → Int32 → Int32 → Int32 → Int32 → Int32 → Int32 → Int32 → (Nat → Int32) → (Nat → Int32) → (Nat → Int32) → (Nat → Int32) → (Nat → Int32) → (Nat → Int32) → (Nat → Int32) → (Nat → Int32) → (Nat → Int32) → (Nat → Int64) → Option Int32) (L : Nat) (xs : Nat → Int32) (v4 : Int32) (lc : Int32) (la : Int32) (hr : Int32) (uP : Int32) (uC : Int32) (uR : Int32) (tn : Int32) (pn : Int32) (pg : Int32) (pq : Int32) (rl : Nat → Int32) (sr : Nat → Int32) (gcb : Nat → Int32) (gpb : Nat → Int64) (tg : Nat → Int32) (tm : Nat → Int32) (tl : Nat → Int32) (pm : Nat → Int32) (ps : Nat → Int32) (th : Int32) (mP : Int32) (mC : Int32) (mR : Int32) (mal : Int32) (mhd : Int32) (mn : Int32) (mg : Nat → Int32) (mt : Nat → Int32) (mh : Nat → Int32) (mz : Nat → Int32) (mset : Nat → Int32) (mfr : Nat → Int32) (mma : Nat → Int32) (mde : Nat → Int32) (mls : Nat → Int32) (ov : Nat → Int64) : Option Int32 := (gi (v4 + 1) L (gi (v4 + 2) L (ob8 (pf_L_tell lc la hr uP uR tn rl gcb gpb tg tm tl ov (xs (v4 + 1).toNatClampNeg) (xs (v4 + 2).toNatClampNeg)) fun r562 lc_562 tn_562 rl_562 tg_562 tm_562 tl_562 ov_562 => (gi (v4 + 1) L (gi (v4 + 2) L (ob6 (pf_X4_tell th mP mC mR mal mhd mn mg mt mh (xs (v4 + 1).toNatClampNeg) (xs (v4 + 2).toNatClampNeg)) fun r580 th_580 mn_580 mg_580 mt_580 mh_580 => (ob1 (pf_X4_thrown th_580) fun r586 => (if r586 = r562 then (if r562 = 0 then (gi 0 1 (if (lg_cmp (ov_562 (0 : Int32).toNatClampNeg) r580.toInt64) = 0 then (pf_law_c7_j613 kL la hr uP uC uR pn pg pq sr gcb gpb pm ps mP mC mR mal mhd mz mset mfr mma mde mls lc_562 tn_562 rl_562 tg_562 tm_562 tl_562 th_580 mn_580 mg_580 mt_580 mh_580 ov_562) else (some 0))) else (pf_law_c7_j613 kL la hr uP uC uR pn pg pq sr gcb gpb pm ps mP mC mR mal mhd mz mset mfr mma mde mls lc_562 tn_562 rl_562 tg_562 tm_562 tl_562 th_580 mn_580 mg_580 mt_580 mh_580 ov_562)) else (some 0)))))))))
theorem hds_L_tell : yL_tell.cls ≠ "java/lang/invoke/MethodHandle" ∧ yL_tell.cls ≠ "java/lang/invoke/VarHandle" ∧ (parseMethodDescriptor yL_tell.desc).map (fun d => d.parameters.length) = some 4 := by decide +kernel
theorem hdv_X4_tell : yX4_tell.cls = RX4 ∧ yX4_tell.cls ≠ "java/lang/invoke/MethodHandle" ∧ yX4_tell.cls ≠ "java/lang/invoke/VarHandle" ∧ (parseMethodDescriptor yX4_tell.desc).map (fun d => d.parameters.length) = some 2 := by decide +kernel
set_option maxHeartbeats 4000000 in
set_option maxRecDepth 100000 in
theorem mt_law_c7 {p : Program} {l : Launch} (hl : l.stackTraces = false) {e : Env} {s : State} {m : MethodId} {args : Array Value} {below : List Frame} {meth : Method} {c : Code} {A : Nat → Prop} {D : va_G} {Q : State → Prop} (h k : Nat → Nat) (ho : Nat) (cI cJ : ClassId) {b L : Nat} {xs : Nat → Int32} (C : gC p l s m args meth c A D [(cI, .int), (cJ, .long)] 7 RL cL_law wsL_law) (hX : va_X b L xs s s.heap) (hbl : b < s.heap.size) (hbA : ¬ A b) (kL : Int32 → Int32 → Int32 → Int32 → Int32 → Int32 → Int32 → Int32 → Int32 → Int32 → (Nat → Int32) → (Nat → Int32) → (Nat → Int32) → (Nat → Int64) → (Nat → Int32) → (Nat → Int32) → (Nat → Int32) → (Nat → Int32) → (Nat → Int32) → Int32 → Int32 → Int32 → Int32 → Int32 → Int32 → Int32 → (Nat → Int32) → (Nat → Int32) → (Nat → Int32) → (Nat → Int32) → (Nat → Int32) → (Nat → Int32) → (Nat → Int32) → (Nat → Int32) → (Nat → Int32) → (Nat → Int64) → Option Int32) (K N K' N' : Nat) (hK : K + 8 ≤ K') (hN : N + 48 ≤ N') (hK' : K' ≤ 601024) (hN' : N' ≤ 7293034) (v4 : Int32) (JE : ∀ (lc : Int32) (la : Int32) (hr : Int32) (uP : Int32) (uC : Int32) (uR : Int32) (tn : Int32) (pn : Int32) (pg : Int32) (pq : Int32) (rl : Nat → Int32) (sr : Nat → Int32) (gcb : Nat → Int32) (gpb : Nat → Int64) (tg : Nat → Int32) (tm : Nat → Int32) (tl : Nat → Int32) (pm : Nat → Int32) (ps : Nat → Int32) (th : Int32) (mP : Int32) (mC : Int32) (mR : Int32) (mal : Int32) (mhd : Int32) (mn : Int32) (mg : Nat → Int32) (mt : Nat → Int32) (mh : Nat → Int32) (mz : Nat → Int32) (mset : Nat → Int32) (mfr : Nat → Int32) (mma : Nat → Int32) (mde : Nat → Int32) (mls : Nat → Int32) (ov : Nat → Int64), kL lc la hr uP uC uR tn pn pg pq rl sr gcb gpb tg tm tl pm ps th mP mC mR mal mhd mn mg mt mh mz mset mfr mma mde mls ov = some 1 → gV p l e room_1 s m args below meth c A D 7 Q ((cW h cI cJ lc la hr uP uC uR tn pn pg pq rl sr gcb gpb tg tm tl pm ps) ++ ((mW k cI th mP mC mR mal mhd mn mg mt mh mz mset mfr mma mde mls) ++ (oW ho cJ ov))) [(0, .ref b), (1, .ref (h 0)), (2, .ref (k 0)), (3, .ref ho), (4, .int v4)] K' N' 1466 []) (lc : Int32) (la : Int32) (hr : Int32) (uP : Int32) (uC : Int32) (uR : Int32) (tn : Int32) (pn : Int32) (pg : Int32) (pq : Int32) (rl : Nat → Int32) (sr : Nat → Int32) (gcb : Nat → Int32) (gpb : Nat → Int64) (tg : Nat → Int32) (tm : Nat → Int32) (tl : Nat → Int32) (pm : Nat → Int32) (ps : Nat → Int32) (th : Int32) (mP : Int32) (mC : Int32) (mR : Int32) (mal : Int32) (mhd : Int32) (mn : Int32) (mg : Nat → Int32) (mt : Nat → Int32) (mh : Nat → Int32) (mz : Nat → Int32) (mset : Nat → Int32) (mfr : Nat → Int32) (mma : Nat → Int32) (mde : Nat → Int32) (mls : Nat → Int32) (ov : Nat → Int64) (hp : pf_law_c7 kL L xs v4 lc la hr uP uC uR tn pn pg pq rl sr gcb gpb tg tm tl pm ps th mP mC mR mal mhd mn mg mt mh mz mset mfr mma mde mls ov = some 1) : gV p l e room_1 s m args below meth c A D 7 Q ((cW h cI cJ lc la hr uP uC uR tn pn pg pq rl sr gcb gpb tg tm tl pm ps) ++ ((mW k cI th mP mC mR mal mhd mn mg mt mh mz mset mfr mma mde mls) ++ (oW ho cJ ov))) [(0, .ref b), (1, .ref (h 0)), (2, .ref (k 0)), (3, .ref ho), (4, .int v4)] K N 548 [] := by
  unfold pf_law_c7 at hp
  have J613 : ∀ (K1 N1 : Nat), K1 + 2 ≤ K' → N1 + 12 ≤ N' → ∀ (lc : Int32) (tn : Int32) (rl : Nat → Int32) (tg : Nat → Int32) (tm : Nat → Int32) (tl : Nat → Int32) (th : Int32) (mn : Int32) (mg : Nat → Int32) (mt : Nat → Int32) (mh : Nat → Int32) (ov : Nat → Int64), pf_law_c7_j613 kL la hr uP uC uR pn pg pq sr gcb gpb pm ps mP mC mR mal mhd mz mset mfr mma mde mls lc tn rl tg tm tl th mn mg mt mh ov = some 1 → gV p l e room_1 s m args below meth c A D 7 Q ((cW h cI cJ lc la hr uP uC uR tn pn pg pq rl sr gcb gpb tg tm tl pm ps) ++ ((mW k cI th mP mC mR mal mhd mn mg mt mh mz mset mfr mma mde mls) ++ (oW ho cJ ov))) [(0, .ref b), (1, .ref (h 0)), (2, .ref (k 0)), (3, .ref ho), (4, .int v4)] K1 N1 613 [] := by
    intro K1 N1 hK1 hN1 lc tn rl tg tm tl th mn mg mt mh ov hp
    unfold pf_law_c7_j613 at hp
    refine gV_goto (tgt := 1466) C dL_law_613 (by decide) ?_
    refine gV_widen (k' := K') (n' := N') (by omega) (by omega) ?_
    exact JE lc la hr uP uC uR tn pn pg pq rl sr gcb gpb tg tm tl pm ps th mP mC mR mal mhd mn mg mt mh mz mset mfr mma mde mls ov hp
  refine gV_aload_n C dL_law_548 rfl 1 rfl ?_
  refine gV_aload_n C dL_law_549 rfl 0 rfl ?_
  refine gV_iload C dL_law_550 4 rfl ?_
  refine gV_iconst (v := 1) C dL_law_552 rfl ?_
  refine gV_iadd C dL_law_553 ?_
  obtain ⟨hi554, hp⟩ := g_idx hp
  refine gV_sld C hX hbl hbA hi554 dL_law_554 ?_
  refine gV_aload_n C dL_law_555 rfl 0 rfl ?_
  refine gV_iload C dL_law_556 4 rfl ?_
  refine gV_iconst (v := 2) C dL_law_558 rfl ?_
  refine gV_iadd C dL_law_559 ?_
  obtain ⟨hi560, hp⟩ := g_idx hp
  refine gV_sld C hX hbl hbA hi560 dL_law_560 ?_
  refine gV_aload_n C dL_law_561 rfl 3 rfl ?_
  obtain ⟨r562q, lc_562, tn_562, rl_562, tg_562, tm_562, tl_562, ov_562, hq562, hp⟩ := g_ob8 hp
  refine gV_calli C (gsub_cmo_co _ _ rfl rfl) (gV_runSX (As := [.ref (h 0), .int (xs (v4 + 1).toNatClampNeg), .int (xs (v4 + 2).toNatClampNeg), .ref ho]) (rest := []) C (mt_L_tell hl D h ho cI cJ lc la hr uP uC uR tn pn pg pq rl sr gcb gpb tg tm tl pm ps ov (xs (v4 + 1).toNatClampNeg) (xs (v4 + 2).toNatClampNeg) r562q lc_562 tn_562 rl_562 tg_562 tm_562 tl_562 ov_562 hq562) (vx_cwSW 4 C.2.2.2.2.1 gL_law_L_tell rfl rfl rfl hds_L_tell ⟨Nat.le_of_ble_eq_true rfl, Nat.le_of_ble_eq_true rfl⟩) (gsub_cmo_co _ _ rfl rfl) rfl rfl (Nat.le_of_ble_eq_true rfl) dL_law_562 ⟨g_rc (by omega), g_rs (by omega)⟩) (fun _ _ hx => False.elim hx) (fun r562 w1 hw => ?_)
  obtain ⟨rfl, rfl⟩ := hw
  refine gV_sub (ws' := (cW h cI cJ lc_562 la hr uP uC uR tn_562 pn pg pq rl_562 sr gcb gpb tg_562 tm_562 tl_562 pm ps) ++ ((mW k cI th mP mC mR mal mhd mn mg mt mh mz mset mfr mma mde mls) ++ (oW ho cJ ov_562))) [10, 11, 12, 13, 14, 15, 16, 17, 18, 19, 20, 21, 22, 0, 1, 2, 3, 4, 5, 6, 7, 8, 9, 23] (by decide) rfl rfl ?_
  refine gV_istore (lvs' := [(5, .int r562), (0, .ref b), (1, .ref (h 0)), (2, .ref (k 0)), (3, .ref ho), (4, .int v4)]) C dL_law_565 (by decide) rfl ?_
  refine gV_aload_n C dL_law_567 rfl 3 rfl ?_
  refine gV_aload_n C dL_law_568 rfl 1 rfl ?_
  refine gV_iload C dL_law_569 5 rfl ?_
  refine gV_iconst (v := 1) C dL_law_571 rfl ?_
  refine gV_iadd C dL_law_572 ?_
  obtain ⟨hi573, hp⟩ := g_idx hp
  refine gV_sld C hX hbl hbA hi573 dL_law_573 ?_
  refine gV_aload_n C dL_law_574 rfl 1 rfl ?_
  refine gV_iload C dL_law_575 5 rfl ?_
  refine gV_iconst (v := 2) C dL_law_577 rfl ?_
  refine gV_iadd C dL_law_578 ?_
  obtain ⟨hi579, hp⟩ := g_idx hp
  refine gV_sld C hX hbl hbA hi579 dL_law_579 ?_
  obtain ⟨r580q, th_580, mn_580, mg_580, mt_580, mh_580, hq580, hp⟩ := g_ob6 hp
  refine gV_calli C (gsub_cmo_m _ _ rfl rfl) (gV_runV (As := [.int (xs (v4 + 1).toNatClampNeg), .int (xs (v4 + 2).toNatClampNeg)]) (rest := []) C (mt_X4_tell hl D k cI cJ th mP mC mR mal mhd mn mg mt mh mz mset mfr mma mde mls (xs (v4 + 1).toNatClampNeg) (xs (v4 + 2).toNatClampNeg) r580q th_580 mn_580 mg_580 mt_580 mh_580 hq580) (cwV 2 C.2.2.2.2.1 gL_law_X4_tell rfl rfl rfl hdv_X4_tell ⟨Nat.le_of_ble_eq_true rfl, Nat.le_of_ble_eq_true rfl⟩) (gsub_cmo_m _ _ rfl rfl) 13 rfl rfl rfl rfl (Nat.le_of_ble_eq_true rfl) dL_law_580 ⟨g_rc (by omega), g_rs (by omega)⟩) (fun _ _ hx => False.elim hx) (fun r580 w1 hw => ?_)
  obtain ⟨rfl, rfl⟩ := hw
  refine gV_sub (ws' := (cW h cI cJ lc_562 la hr uP uC uR tn_562 pn pg pq rl_562 sr gcb gpb tg_562 tm_562 tl_562 pm ps) ++ ((mW k cI th_580 mP mC mR mal mhd mn_580 mg_580 mt_580 mh_580 mz mset mfr mma mde mls) ++ (oW ho cJ ov_562))) [0, 1, 2, 3, 4, 5, 6, 7, 8, 9, 10, 11, 12, 14, 15, 16, 17, 18, 19, 20, 21, 22, 23, 13] (by decide) rfl rfl ?_
  refine gV_istore (lvs' := [(6, .int r580), (5, .int r562), (0, .ref b), (1, .ref (h 0)), (2, .ref (k 0)), (3, .ref ho), (4, .int v4)]) C dL_law_583 (by decide) rfl ?_
  refine gV_aload_n C dL_law_585 rfl 4 rfl ?_
  obtain ⟨r586q, hq586, hp⟩ := g_ob1 hp
  refine gV_calli C (gsub_cmo_m _ _ rfl rfl) (gV_runV (As := []) (rest := []) C (mt_X4_thrown hl D k cI cJ th_580 mP mC mR mal mhd mn_580 mg_580 mt_580 mh_580 mz mset mfr mma mde mls r586q hq586) (cwV 0 C.2.2.2.2.1 gL_law_X4_thrown rfl rfl rfl hdv_X4_thrown ⟨Nat.le_of_ble_eq_true rfl, Nat.le_of_ble_eq_true rfl⟩) (gsub_cmo_m _ _ rfl rfl) 13 rfl rfl rfl rfl (Nat.le_of_ble_eq_true rfl) dL_law_586 ⟨g_rc (by omega), g_rs (by omega)⟩) (fun _ _ hx => False.elim hx) (fun r586 w1 hw => ?_)
  obtain ⟨rfl, rfl⟩ := hw
  refine gV_sub (ws' := (cW h cI cJ lc_562 la hr uP uC uR tn_562 pn pg pq rl_562 sr gcb gpb tg_562 tm_562 tl_562 pm ps) ++ ((mW k cI th_580 mP mC mR mal mhd mn_580 mg_580 mt_580 mh_580 mz mset mfr mma mde mls) ++ (oW ho cJ ov_562))) [0, 1, 2, 3, 4, 5, 6, 7, 8, 9, 10, 11, 12, 14, 15, 16, 17, 18, 19, 20, 21, 22, 23, 13] (by decide) rfl rfl ?_
  refine gV_iload C dL_law_589 1 rfl ?_
  refine gV_icmp_eq (tgt := 596) C dL_law_591 (by decide) (fun c591 => ?_) (fun c591 => ?_)
  · replace hp := g_ift hp c591
    refine gV_iload C dL_law_596 1 rfl ?_
    refine gV_if_ne (tgt := 613) C dL_law_598 (by decide) (fun c598 => ?_) (fun c598 => ?_)
    · replace hp := g_iff hp c598
      refine gV_loc [2, 3, 4, 5, 6] rfl ?_
      exact J613 _ _ (by omega) (by omega) lc_562 tn_562 rl_562 tg_562 tm_562 tl_562 th_580 mn_580 mg_580 mt_580 mh_580 ov_562 hp
    · replace hp := g_ift hp c598
      refine gV_aload_n C dL_law_601 rfl 5 rfl ?_
      refine gV_iconst (v := 0) C dL_law_602 rfl ?_
      obtain ⟨hi603, hp⟩ := g_idx hp
      refine gV_lald C 23 rfl 1 rfl hi603 dL_law_603 ?_
      refine gV_iload C dL_law_604 0 rfl ?_
      refine gV_i2l C dL_law_606 ?_
      refine gV_lcmp C dL_law_607 ?_
      refine gV_if_eq (tgt := 613) C dL_law_608 (by decide) (fun c608 => ?_) (fun c608 => ?_)
      · replace hp := g_ift hp c608
        refine gV_loc [2, 3, 4, 5, 6] rfl ?_
        exact J613 _ _ (by omega) (by omega) lc_562 tn_562 rl_562 tg_562 tm_562 tl_562 th_580 mn_580 mg_580 mt_580 mh_580 ov_562 hp
      · replace hp := g_iff hp c608
        refine gV_iconst (v := 0) C dL_law_611 rfl ?_
        exact absurd hp (by decide)
  · replace hp := g_iff hp c591
    refine gV_iconst (v := 0) C dL_law_594 rfl ?_
    exact absurd hp (by decide)
def pf_law_c8_j657 (kL : Int32 → Int32 → Int32 → Int32 → Int32 → Int32 → Int32 → Int32 → Int32 → Int32 → (Nat → Int32) → (Nat → Int32) → (Nat → Int32) → (Nat → Int64) → (Nat → Int32) → (Nat → Int32) → (Nat → Int32) → (Nat → Int32) → (Nat → Int32) → Int32 → Int32 → Int32 → Int32 → Int32 → Int32 → Int32 → (Nat → Int32) → (Nat → Int32) → (Nat → Int32) → (Nat → Int32) → (Nat → Int32) → (Nat → Int32) → (Nat → Int32) → (Nat → Int32) → (Nat → Int32) → (Nat → Int64) → Option Int32) (la : Int32) (hr : Int32) (uP : Int32) (uC : Int32) (uR : Int32) (pn : Int32) (pg : Int32) (pq : Int32) (sr : Nat → Int32) (gcb : Nat → Int32) (gpb : Nat → Int64) (tg : Nat → Int32) (tm : Nat → Int32) (pm : Nat → Int32) (ps : Nat → Int32) (mP : Int32) (mC : Int32) (mR : Int32) (mal : Int32) (mhd : Int32) (mg : Nat → Int32) (mt : Nat → Int32) (mz : Nat → Int32) (mset : Nat → Int32) (mfr : Nat → Int32) (mma : Nat → Int32) (mde : Nat → Int32) (mls : Nat → Int32) (lc : Int32) (tn : Int32) (rl : Nat → Int32) (tl : Nat → Int32) (th : Int32) (mn : Int32) (mh : Nat → Int32) (ov : Nat → Int64) : Option (Int32) := (kL lc la hr uP uC uR tn pn pg pq rl sr gcb gpb tg tm tl pm ps th mP mC mR mal mhd mn mg mt mh mz mset mfr mma mde mls ov)
def pf_law_c8 (kL : Int32 → Int32 → Int32 → Int32 → Int32 → Int32 → Int32 → Int32 → Int32 → Int32 → (Nat → Int32) → (Nat → Int32) → (Nat → Int32) → (Nat → Int64) → (Nat → Int32) → (Nat → Int32) → (Nat → Int32) → (Nat → Int32) → (Nat → Int32) → Int32 → Int32 → Int32 → Int32 → Int32 → Int32 → Int32 → (Nat → Int32) → (Nat → Int32) → (Nat → Int32) → (Nat → Int32) → (Nat → Int32) → (Nat → Int32) → (Nat → Int32) → (Nat → Int32) → (Nat → Int32) → (Nat → Int64) → Option Int32) (L : Nat) (xs : Nat → Int32) (v4 : Int32) (lc : Int32) (la : Int32) (hr : Int32) (uP : Int32) (uC : Int32) (uR : Int32) (tn : Int32) (pn : Int32) (pg : Int32) (pq : Int32) (rl : Nat → Int32) (sr : Nat → Int32) (gcb : Nat → Int32) (gpb : Nat → Int64) (tg : Nat → Int32) (tm : Nat → Int32) (tl : Nat → Int32) (pm : Nat → Int32) (ps : Nat → Int32) (th : Int32) (mP : Int32) (mC : Int32) (mR : Int32) (mal : Int32) (mhd : Int32) (mn : Int32) (mg : Nat → Int32) (mt : Nat → Int32) (mh : Nat → Int32) (mz : Nat → Int32) (mset : Nat → Int32) (mfr : Nat → Int32) (mma : Nat → Int32) (mde : Nat → Int32) (mls : Nat → Int32) (ov : Nat → Int64) : Option Int32 := (ob6 (pf_L_takeBack lc la uR tn rl tl ov) fun r618 lc_618 tn_618 rl_618 tl_618 ov_618 => (ob4 (pf_X4_takeBack th mP mC mR mal mn mg mt mh) fun r624 th_624 mn_624 mh_624 => (ob1 (pf_X4_thrown th_624) fun r630 => (if r630 = r618 then (if r618 = 0 then (gi 0 1 (if (lg_cmp (ov_618 (0 : Int32).toNatClampNeg) r624.toInt64) = 0 then (pf_law_c8_j657 kL la hr uP uC uR pn pg pq sr gcb gpb tg tm pm ps mP mC mR mal mhd mg mt mz mset mfr mma mde mls lc_618 tn_618 rl_618 tl_618 th_624 mn_624 mh_624 ov_618) else (some 0))) else (pf_law_c8_j657 kL la hr uP uC uR pn pg pq sr gcb gpb tg tm pm ps mP mC mR mal mhd mg mt mz mset mfr mma mde mls lc_618 tn_618 rl_618 tl_618 th_624 mn_624 mh_624 ov_618)) else (some 0)))))
theorem hds_L_takeBack : yL_takeBack.cls ≠ "java/lang/invoke/MethodHandle" ∧ yL_takeBack.cls ≠ "java/lang/invoke/VarHandle" ∧ (parseMethodDescriptor yL_takeBack.desc).map (fun d => d.parameters.length) = some 2 := by decide +kernel
theorem hdv_X4_takeBack : yX4_takeBack.cls = RX4 ∧ yX4_takeBack.cls ≠ "java/lang/invoke/MethodHandle" ∧ yX4_takeBack.cls ≠ "java/lang/invoke/VarHandle" ∧ (parseMethodDescriptor yX4_takeBack.desc).map (fun d => d.parameters.length) = some 0 := by decide +kernel
set_option maxHeartbeats 4000000 in
set_option maxRecDepth 100000 in
theorem mt_law_c8 {p : Program} {l : Launch} (hl : l.stackTraces = false) {e : Env} {s : State} {m : MethodId} {args : Array Value} {below : List Frame} {meth : Method} {c : Code} {A : Nat → Prop} {D : va_G} {Q : State → Prop} (h k : Nat → Nat) (ho : Nat) (cI cJ : ClassId) {b L : Nat} {xs : Nat → Int32} (C : gC p l s m args meth c A D [(cI, .int), (cJ, .long)] 7 RL cL_law wsL_law) (hX : va_X b L xs s s.heap) (hbl : b < s.heap.size) (hbA : ¬ A b) (kL : Int32 → Int32 → Int32 → Int32 → Int32 → Int32 → Int32 → Int32 → Int32 → Int32 → (Nat → Int32) → (Nat → Int32) → (Nat → Int32) → (Nat → Int64) → (Nat → Int32) → (Nat → Int32) → (Nat → Int32) → (Nat → Int32) → (Nat → Int32) → Int32 → Int32 → Int32 → Int32 → Int32 → Int32 → Int32 → (Nat → Int32) → (Nat → Int32) → (Nat → Int32) → (Nat → Int32) → (Nat → Int32) → (Nat → Int32) → (Nat → Int32) → (Nat → Int32) → (Nat → Int32) → (Nat → Int64) → Option Int32) (K N K' N' : Nat) (hK : K + 8 ≤ K') (hN : N + 48 ≤ N') (hK' : K' ≤ 601024) (hN' : N' ≤ 7293034) (v4 : Int32) (JE : ∀ (lc : Int32) (la : Int32) (hr : Int32) (uP : Int32) (uC : Int32) (uR : Int32) (tn : Int32) (pn : Int32) (pg : Int32) (pq : Int32) (rl : Nat → Int32) (sr : Nat → Int32) (gcb : Nat → Int32) (gpb : Nat → Int64) (tg : Nat → Int32) (tm : Nat → Int32) (tl : Nat → Int32) (pm : Nat → Int32) (ps : Nat → Int32) (th : Int32) (mP : Int32) (mC : Int32) (mR : Int32) (mal : Int32) (mhd : Int32) (mn : Int32) (mg : Nat → Int32) (mt : Nat → Int32) (mh : Nat → Int32) (mz : Nat → Int32) (mset : Nat → Int32) (mfr : Nat → Int32) (mma : Nat → Int32) (mde : Nat → Int32) (mls : Nat → Int32) (ov : Nat → Int64), kL lc la hr uP uC uR tn pn pg pq rl sr gcb gpb tg tm tl pm ps th mP mC mR mal mhd mn mg mt mh mz mset mfr mma mde mls ov = some 1 → gV p l e room_1 s m args below meth c A D 7 Q ((cW h cI cJ lc la hr uP uC uR tn pn pg pq rl sr gcb gpb tg tm tl pm ps) ++ ((mW k cI th mP mC mR mal mhd mn mg mt mh mz mset mfr mma mde mls) ++ (oW ho cJ ov))) [(0, .ref b), (1, .ref (h 0)), (2, .ref (k 0)), (3, .ref ho), (4, .int v4)] K' N' 1466 []) (lc : Int32) (la : Int32) (hr : Int32) (uP : Int32) (uC : Int32) (uR : Int32) (tn : Int32) (pn : Int32) (pg : Int32) (pq : Int32) (rl : Nat → Int32) (sr : Nat → Int32) (gcb : Nat → Int32) (gpb : Nat → Int64) (tg : Nat → Int32) (tm : Nat → Int32) (tl : Nat → Int32) (pm : Nat → Int32) (ps : Nat → Int32) (th : Int32) (mP : Int32) (mC : Int32) (mR : Int32) (mal : Int32) (mhd : Int32) (mn : Int32) (mg : Nat → Int32) (mt : Nat → Int32) (mh : Nat → Int32) (mz : Nat → Int32) (mset : Nat → Int32) (mfr : Nat → Int32) (mma : Nat → Int32) (mde : Nat → Int32) (mls : Nat → Int32) (ov : Nat → Int64) (hp : pf_law_c8 kL L xs v4 lc la hr uP uC uR tn pn pg pq rl sr gcb gpb tg tm tl pm ps th mP mC mR mal mhd mn mg mt mh mz mset mfr mma mde mls ov = some 1) : gV p l e room_1 s m args below meth c A D 7 Q ((cW h cI cJ lc la hr uP uC uR tn pn pg pq rl sr gcb gpb tg tm tl pm ps) ++ ((mW k cI th mP mC mR mal mhd mn mg mt mh mz mset mfr mma mde mls) ++ (oW ho cJ ov))) [(0, .ref b), (1, .ref (h 0)), (2, .ref (k 0)), (3, .ref ho), (4, .int v4)] K N 616 [] := by
  unfold pf_law_c8 at hp
  have J657 : ∀ (K1 N1 : Nat), K1 + 2 ≤ K' → N1 + 12 ≤ N' → ∀ (lc : Int32) (tn : Int32) (rl : Nat → Int32) (tl : Nat → Int32) (th : Int32) (mn : Int32) (mh : Nat → Int32) (ov : Nat → Int64), pf_law_c8_j657 kL la hr uP uC uR pn pg pq sr gcb gpb tg tm pm ps mP mC mR mal mhd mg mt mz mset mfr mma mde mls lc tn rl tl th mn mh ov = some 1 → gV p l e room_1 s m args below meth c A D 7 Q ((cW h cI cJ lc la hr uP uC uR tn pn pg pq rl sr gcb gpb tg tm tl pm ps) ++ ((mW k cI th mP mC mR mal mhd mn mg mt mh mz mset mfr mma mde mls) ++ (oW ho cJ ov))) [(0, .ref b), (1, .ref (h 0)), (2, .ref (k 0)), (3, .ref ho), (4, .int v4)] K1 N1 657 [] := by
    intro K1 N1 hK1 hN1 lc tn rl tl th mn mh ov hp
    unfold pf_law_c8_j657 at hp
    refine gV_goto (tgt := 1466) C dL_law_657 (by decide) ?_
    refine gV_widen (k' := K') (n' := N') (by omega) (by omega) ?_
    exact JE lc la hr uP uC uR tn pn pg pq rl sr gcb gpb tg tm tl pm ps th mP mC mR mal mhd mn mg mt mh mz mset mfr mma mde mls ov hp
  refine gV_aload_n C dL_law_616 rfl 1 rfl ?_
  refine gV_aload_n C dL_law_617 rfl 3 rfl ?_
  obtain ⟨r618q, lc_618, tn_618, rl_618, tl_618, ov_618, hq618, hp⟩ := g_ob6 hp
  refine gV_calli C (gsub_cmo_co _ _ rfl rfl) (gV_runSX (As := [.ref (h 0), .ref ho]) (rest := []) C (mt_L_takeBack hl D h ho cI cJ lc la hr uP uC uR tn pn pg pq rl sr gcb gpb tg tm tl pm ps ov r618q lc_618 tn_618 rl_618 tl_618 ov_618 hq618) (vx_cwSW 2 C.2.2.2.2.1 gL_law_L_takeBack rfl rfl rfl hds_L_takeBack ⟨Nat.le_of_ble_eq_true rfl, Nat.le_of_ble_eq_true rfl⟩) (gsub_cmo_co _ _ rfl rfl) rfl rfl (Nat.le_of_ble_eq_true rfl) dL_law_618 ⟨g_rc (by omega), g_rs (by omega)⟩) (fun _ _ hx => False.elim hx) (fun r618 w1 hw => ?_)
  obtain ⟨rfl, rfl⟩ := hw
  refine gV_sub (ws' := (cW h cI cJ lc_618 la hr uP uC uR tn_618 pn pg pq rl_618 sr gcb gpb tg tm tl_618 pm ps) ++ ((mW k cI th mP mC mR mal mhd mn mg mt mh mz mset mfr mma mde mls) ++ (oW ho cJ ov_618))) [10, 11, 12, 13, 14, 15, 16, 17, 18, 19, 20, 21, 22, 0, 1, 2, 3, 4, 5, 6, 7, 8, 9, 23] (by decide) rfl rfl ?_
  refine gV_istore (lvs' := [(5, .int r618), (0, .ref b), (1, .ref (h 0)), (2, .ref (k 0)), (3, .ref ho), (4, .int v4)]) C dL_law_621 (by decide) rfl ?_
  refine gV_aload_n C dL_law_623 rfl 3 rfl ?_
  obtain ⟨r624q, th_624, mn_624, mh_624, hq624, hp⟩ := g_ob4 hp
  refine gV_calli C (gsub_cmo_m _ _ rfl rfl) (gV_runV (As := []) (rest := []) C (mt_X4_takeBack hl D k cI cJ th mP mC mR mal mhd mn mg mt mh mz mset mfr mma mde mls r624q th_624 mn_624 mh_624 hq624) (cwV 0 C.2.2.2.2.1 gL_law_X4_takeBack rfl rfl rfl hdv_X4_takeBack ⟨Nat.le_of_ble_eq_true rfl, Nat.le_of_ble_eq_true rfl⟩) (gsub_cmo_m _ _ rfl rfl) 13 rfl rfl rfl rfl (Nat.le_of_ble_eq_true rfl) dL_law_624 ⟨g_rc (by omega), g_rs (by omega)⟩) (fun _ _ hx => False.elim hx) (fun r624 w1 hw => ?_)
  obtain ⟨rfl, rfl⟩ := hw
  refine gV_sub (ws' := (cW h cI cJ lc_618 la hr uP uC uR tn_618 pn pg pq rl_618 sr gcb gpb tg tm tl_618 pm ps) ++ ((mW k cI th_624 mP mC mR mal mhd mn_624 mg mt mh_624 mz mset mfr mma mde mls) ++ (oW ho cJ ov_618))) [0, 1, 2, 3, 4, 5, 6, 7, 8, 9, 10, 11, 12, 14, 15, 16, 17, 18, 19, 20, 21, 22, 23, 13] (by decide) rfl rfl ?_
  refine gV_istore (lvs' := [(6, .int r624), (5, .int r618), (0, .ref b), (1, .ref (h 0)), (2, .ref (k 0)), (3, .ref ho), (4, .int v4)]) C dL_law_627 (by decide) rfl ?_
  refine gV_aload_n C dL_law_629 rfl 4 rfl ?_
  obtain ⟨r630q, hq630, hp⟩ := g_ob1 hp
  refine gV_calli C (gsub_cmo_m _ _ rfl rfl) (gV_runV (As := []) (rest := []) C (mt_X4_thrown hl D k cI cJ th_624 mP mC mR mal mhd mn_624 mg mt mh_624 mz mset mfr mma mde mls r630q hq630) (cwV 0 C.2.2.2.2.1 gL_law_X4_thrown rfl rfl rfl hdv_X4_thrown ⟨Nat.le_of_ble_eq_true rfl, Nat.le_of_ble_eq_true rfl⟩) (gsub_cmo_m _ _ rfl rfl) 13 rfl rfl rfl rfl (Nat.le_of_ble_eq_true rfl) dL_law_630 ⟨g_rc (by omega), g_rs (by omega)⟩) (fun _ _ hx => False.elim hx) (fun r630 w1 hw => ?_)
  obtain ⟨rfl, rfl⟩ := hw
  refine gV_sub (ws' := (cW h cI cJ lc_618 la hr uP uC uR tn_618 pn pg pq rl_618 sr gcb gpb tg tm tl_618 pm ps) ++ ((mW k cI th_624 mP mC mR mal mhd mn_624 mg mt mh_624 mz mset mfr mma mde mls) ++ (oW ho cJ ov_618))) [0, 1, 2, 3, 4, 5, 6, 7, 8, 9, 10, 11, 12, 14, 15, 16, 17, 18, 19, 20, 21, 22, 23, 13] (by decide) rfl rfl ?_
  refine gV_iload C dL_law_633 1 rfl ?_
  refine gV_icmp_eq (tgt := 640) C dL_law_635 (by decide) (fun c635 => ?_) (fun c635 => ?_)
  · replace hp := g_ift hp c635
    refine gV_iload C dL_law_640 1 rfl ?_
    refine gV_if_ne (tgt := 657) C dL_law_642 (by decide) (fun c642 => ?_) (fun c642 => ?_)
    · replace hp := g_iff hp c642
      refine gV_loc [2, 3, 4, 5, 6] rfl ?_
      exact J657 _ _ (by omega) (by omega) lc_618 tn_618 rl_618 tl_618 th_624 mn_624 mh_624 ov_618 hp
    · replace hp := g_ift hp c642
      refine gV_aload_n C dL_law_645 rfl 5 rfl ?_
      refine gV_iconst (v := 0) C dL_law_646 rfl ?_
      obtain ⟨hi647, hp⟩ := g_idx hp
      refine gV_lald C 23 rfl 1 rfl hi647 dL_law_647 ?_
      refine gV_iload C dL_law_648 0 rfl ?_
      refine gV_i2l C dL_law_650 ?_
      refine gV_lcmp C dL_law_651 ?_
      refine gV_if_eq (tgt := 657) C dL_law_652 (by decide) (fun c652 => ?_) (fun c652 => ?_)
      · replace hp := g_ift hp c652
        refine gV_loc [2, 3, 4, 5, 6] rfl ?_
        exact J657 _ _ (by omega) (by omega) lc_618 tn_618 rl_618 tl_618 th_624 mn_624 mh_624 ov_618 hp
      · replace hp := g_iff hp c652
        refine gV_iconst (v := 0) C dL_law_655 rfl ?_
        exact absurd hp (by decide)
  · replace hp := g_iff hp c635
    refine gV_iconst (v := 0) C dL_law_638 rfl ?_
    exact absurd hp (by decide)
def pf_law_c9 (kL : Int32 → Int32 → Int32 → Int32 → Int32 → Int32 → Int32 → Int32 → Int32 → Int32 → (Nat → Int32) → (Nat → Int32) → (Nat → Int32) → (Nat → Int64) → (Nat → Int32) → (Nat → Int32) → (Nat → Int32) → (Nat → Int32) → (Nat → Int32) → Int32 → Int32 → Int32 → Int32 → Int32 → Int32 → Int32 → (Nat → Int32) → (Nat → Int32) → (Nat → Int32) → (Nat → Int32) → (Nat → Int32) → (Nat → Int32) → (Nat → Int32) → (Nat → Int32) → (Nat → Int32) → (Nat → Int64) → Option Int32) (L : Nat) (xs : Nat → Int32) (v4 : Int32) (lc : Int32) (la : Int32) (hr : Int32) (uP : Int32) (uC : Int32) (uR : Int32) (tn : Int32) (pn : Int32) (pg : Int32) (pq : Int32) (rl : Nat → Int32) (sr : Nat → Int32) (gcb : Nat → Int32) (gpb : Nat → Int64) (tg : Nat → Int32) (tm : Nat → Int32) (tl : Nat → Int32) (pm : Nat → Int32) (ps : Nat → Int32) (th : Int32) (mP : Int32) (mC : Int32) (mR : Int32) (mal : Int32) (mhd : Int32) (mn : Int32) (mg : Nat → Int32) (mt : Nat → Int32) (mh : Nat → Int32) (mz : Nat → Int32) (mset : Nat → Int32) (mfr : Nat → Int32) (mma : Nat → Int32) (mde : Nat → Int32) (mls : Nat → Int32) (ov : Nat → Int64) : Option Int32 := (ob1 (pf_X3_entries tn) fun r661 => (ob2 (pf_X4_entries th mn) fun r665 th_665 => (if r661 = r665 then (kL lc la hr uP uC uR tn pn pg pq rl sr gcb gpb tg tm tl pm ps th_665 mP mC mR mal mhd mn mg mt mh mz mset mfr mma mde mls ov) else (some 0))))
theorem hdv_X3_entries : yX3_entries.cls = RX3 ∧ yX3_entries.cls ≠ "java/lang/invoke/MethodHandle" ∧ yX3_entries.cls ≠ "java/lang/invoke/VarHandle" ∧ (parseMethodDescriptor yX3_entries.desc).map (fun d => d.parameters.length) = some 0 := by decide +kernel
theorem hdv_X4_entries : yX4_entries.cls = RX4 ∧ yX4_entries.cls ≠ "java/lang/invoke/MethodHandle" ∧ yX4_entries.cls ≠ "java/lang/invoke/VarHandle" ∧ (parseMethodDescriptor yX4_entries.desc).map (fun d => d.parameters.length) = some 0 := by decide +kernel
set_option maxHeartbeats 4000000 in
set_option maxRecDepth 100000 in
theorem mt_law_c9 {p : Program} {l : Launch} (hl : l.stackTraces = false) {e : Env} {s : State} {m : MethodId} {args : Array Value} {below : List Frame} {meth : Method} {c : Code} {A : Nat → Prop} {D : va_G} {Q : State → Prop} (h k : Nat → Nat) (ho : Nat) (cI cJ : ClassId) {b L : Nat} {xs : Nat → Int32} (C : gC p l s m args meth c A D [(cI, .int), (cJ, .long)] 7 RL cL_law wsL_law) (hX : va_X b L xs s s.heap) (hbl : b < s.heap.size) (hbA : ¬ A b) (kL : Int32 → Int32 → Int32 → Int32 → Int32 → Int32 → Int32 → Int32 → Int32 → Int32 → (Nat → Int32) → (Nat → Int32) → (Nat → Int32) → (Nat → Int64) → (Nat → Int32) → (Nat → Int32) → (Nat → Int32) → (Nat → Int32) → (Nat → Int32) → Int32 → Int32 → Int32 → Int32 → Int32 → Int32 → Int32 → (Nat → Int32) → (Nat → Int32) → (Nat → Int32) → (Nat → Int32) → (Nat → Int32) → (Nat → Int32) → (Nat → Int32) → (Nat → Int32) → (Nat → Int32) → (Nat → Int64) → Option Int32) (K N K' N' : Nat) (hK : K + 8 ≤ K') (hN : N + 48 ≤ N') (hK' : K' ≤ 601024) (hN' : N' ≤ 7293034) (v4 : Int32) (JE : ∀ (lc : Int32) (la : Int32) (hr : Int32) (uP : Int32) (uC : Int32) (uR : Int32) (tn : Int32) (pn : Int32) (pg : Int32) (pq : Int32) (rl : Nat → Int32) (sr : Nat → Int32) (gcb : Nat → Int32) (gpb : Nat → Int64) (tg : Nat → Int32) (tm : Nat → Int32) (tl : Nat → Int32) (pm : Nat → Int32) (ps : Nat → Int32) (th : Int32) (mP : Int32) (mC : Int32) (mR : Int32) (mal : Int32) (mhd : Int32) (mn : Int32) (mg : Nat → Int32) (mt : Nat → Int32) (mh : Nat → Int32) (mz : Nat → Int32) (mset : Nat → Int32) (mfr : Nat → Int32) (mma : Nat → Int32) (mde : Nat → Int32) (mls : Nat → Int32) (ov : Nat → Int64), kL lc la hr uP uC uR tn pn pg pq rl sr gcb gpb tg tm tl pm ps th mP mC mR mal mhd mn mg mt mh mz mset mfr mma mde mls ov = some 1 → gV p l e room_1 s m args below meth c A D 7 Q ((cW h cI cJ lc la hr uP uC uR tn pn pg pq rl sr gcb gpb tg tm tl pm ps) ++ ((mW k cI th mP mC mR mal mhd mn mg mt mh mz mset mfr mma mde mls) ++ (oW ho cJ ov))) [(0, .ref b), (1, .ref (h 0)), (2, .ref (k 0)), (3, .ref ho), (4, .int v4)] K' N' 1466 []) (lc : Int32) (la : Int32) (hr : Int32) (uP : Int32) (uC : Int32) (uR : Int32) (tn : Int32) (pn : Int32) (pg : Int32) (pq : Int32) (rl : Nat → Int32) (sr : Nat → Int32) (gcb : Nat → Int32) (gpb : Nat → Int64) (tg : Nat → Int32) (tm : Nat → Int32) (tl : Nat → Int32) (pm : Nat → Int32) (ps : Nat → Int32) (th : Int32) (mP : Int32) (mC : Int32) (mR : Int32) (mal : Int32) (mhd : Int32) (mn : Int32) (mg : Nat → Int32) (mt : Nat → Int32) (mh : Nat → Int32) (mz : Nat → Int32) (mset : Nat → Int32) (mfr : Nat → Int32) (mma : Nat → Int32) (mde : Nat → Int32) (mls : Nat → Int32) (ov : Nat → Int64) (hp : pf_law_c9 kL L xs v4 lc la hr uP uC uR tn pn pg pq rl sr gcb gpb tg tm tl pm ps th mP mC mR mal mhd mn mg mt mh mz mset mfr mma mde mls ov = some 1) : gV p l e room_1 s m args below meth c A D 7 Q ((cW h cI cJ lc la hr uP uC uR tn pn pg pq rl sr gcb gpb tg tm tl pm ps) ++ ((mW k cI th mP mC mR mal mhd mn mg mt mh mz mset mfr mma mde mls) ++ (oW ho cJ ov))) [(0, .ref b), (1, .ref (h 0)), (2, .ref (k 0)), (3, .ref ho), (4, .int v4)] K N 660 [] := by
  unfold pf_law_c9 at hp
  refine gV_aload_n C dL_law_660 rfl 1 rfl ?_
  obtain ⟨r661q, hq661, hp⟩ := g_ob1 hp
  refine gV_calli C (gsub_cmo_c _ _ rfl rfl) (gV_runV (As := []) (rest := []) C (mt_X3_entries hl D h cI cJ lc la hr uP uC uR tn pn pg pq rl sr gcb gpb tg tm tl pm ps r661q hq661) (cwV 0 C.2.2.2.2.1 gL_law_X3_entries rfl rfl rfl hdv_X3_entries ⟨Nat.le_of_ble_eq_true rfl, Nat.le_of_ble_eq_true rfl⟩) (gsub_cmo_c _ _ rfl rfl) 0 rfl rfl rfl rfl (Nat.le_of_ble_eq_true rfl) dL_law_661 ⟨g_rc (by omega), g_rs (by omega)⟩) (fun _ _ hx => False.elim hx) (fun r661 w1 hw => ?_)
  obtain ⟨rfl, rfl⟩ := hw
  refine gV_sub (ws' := (cW h cI cJ lc la hr uP uC uR tn pn pg pq rl sr gcb gpb tg tm tl pm ps) ++ ((mW k cI th mP mC mR mal mhd mn mg mt mh mz mset mfr mma mde mls) ++ (oW ho cJ ov))) [11, 12, 13, 14, 15, 16, 17, 18, 19, 20, 21, 22, 23, 0, 1, 2, 3, 4, 5, 6, 7, 8, 9, 10] (by decide) rfl rfl ?_
  refine gV_aload_n C dL_law_664 rfl 2 rfl ?_
  obtain ⟨r665q, th_665, hq665, hp⟩ := g_ob2 hp
  refine gV_calli C (gsub_cmo_m _ _ rfl rfl) (gV_runV (As := []) (rest := [.int r661]) C (mt_X4_entries hl D k cI cJ th mP mC mR mal mhd mn mg mt mh mz mset mfr mma mde mls r665q th_665 hq665) (cwV 0 C.2.2.2.2.1 gL_law_X4_entries rfl rfl rfl hdv_X4_entries ⟨Nat.le_of_ble_eq_true rfl, Nat.le_of_ble_eq_true rfl⟩) (gsub_cmo_m _ _ rfl rfl) 13 rfl rfl rfl rfl (Nat.le_of_ble_eq_true rfl) dL_law_665 ⟨g_rc (by omega), g_rs (by omega)⟩) (fun _ _ hx => False.elim hx) (fun r665 w1 hw => ?_)
  obtain ⟨rfl, rfl⟩ := hw
  refine gV_sub (ws' := (cW h cI cJ lc la hr uP uC uR tn pn pg pq rl sr gcb gpb tg tm tl pm ps) ++ ((mW k cI th_665 mP mC mR mal mhd mn mg mt mh mz mset mfr mma mde mls) ++ (oW ho cJ ov))) [0, 1, 2, 3, 4, 5, 6, 7, 8, 9, 10, 11, 12, 14, 15, 16, 17, 18, 19, 20, 21, 22, 23, 13] (by decide) rfl rfl ?_
  refine gV_icmp_eq (tgt := 1466) C dL_law_668 (by decide) (fun c668 => ?_) (fun c668 => ?_)
  · replace hp := g_ift hp c668
    refine gV_widen (k' := K') (n' := N') (by omega) (by omega) ?_
    exact JE lc la hr uP uC uR tn pn pg pq rl sr gcb gpb tg tm tl pm ps th_665 mP mC mR mal mhd mn mg mt mh mz mset mfr mma mde mls ov hp
  · replace hp := g_iff hp c668
    refine gV_iconst (v := 0) C dL_law_671 rfl ?_
    exact absurd hp (by decide)
def pf_law_c10_j726 (kL : Int32 → Int32 → Int32 → Int32 → Int32 → Int32 → Int32 → Int32 → Int32 → Int32 → (Nat → Int32) → (Nat → Int32) → (Nat → Int32) → (Nat → Int64) → (Nat → Int32) → (Nat → Int32) → (Nat → Int32) → (Nat → Int32) → (Nat → Int32) → Int32 → Int32 → Int32 → Int32 → Int32 → Int32 → Int32 → (Nat → Int32) → (Nat → Int32) → (Nat → Int32) → (Nat → Int32) → (Nat → Int32) → (Nat → Int32) → (Nat → Int32) → (Nat → Int32) → (Nat → Int32) → (Nat → Int64) → Option Int32) (lc : Int32) (la : Int32) (hr : Int32) (uP : Int32) (uC : Int32) (uR : Int32) (tn : Int32) (pn : Int32) (pg : Int32) (pq : Int32) (rl : Nat → Int32) (sr : Nat → Int32) (gcb : Nat → Int32) (gpb : Nat → Int64) (tg : Nat → Int32) (tm : Nat → Int32) (tl : Nat → Int32) (pm : Nat → Int32) (ps : Nat → Int32) (mP : Int32) (mC : Int32) (mR : Int32) (mal : Int32) (mhd : Int32) (mn : Int32) (mg : Nat → Int32) (mt : Nat → Int32) (mh : Nat → Int32) (mz : Nat → Int32) (mset : Nat → Int32) (mfr : Nat → Int32) (mma : Nat → Int32) (mde : Nat → Int32) (mls : Nat → Int32) (th : Int32) (ov : Nat → Int64) : Option (Int32) := (kL lc la hr uP uC uR tn pn pg pq rl sr gcb gpb tg tm tl pm ps th mP mC mR mal mhd mn mg mt mh mz mset mfr mma mde mls ov)
def pf_law_c10 (kL : Int32 → Int32 → Int32 → Int32 → Int32 → Int32 → Int32 → Int32 → Int32 → Int32 → (Nat → Int32) → (Nat → Int32) → (Nat → Int32) → (Nat → Int64) → (Nat → Int32) → (Nat → Int32) → (Nat → Int32) → (Nat → Int32) → (Nat → Int32) → Int32 → Int32 → Int32 → Int32 → Int32 → Int32 → Int32 → (Nat → Int32) → (Nat → Int32) → (Nat → Int32) → (Nat → Int32) → (Nat → Int32) → (Nat → Int32) → (Nat → Int32) → (Nat → Int32) → (Nat → Int32) → (Nat → Int64) → Option Int32) (L : Nat) (xs : Nat → Int32) (v4 : Int32) (lc : Int32) (la : Int32) (hr : Int32) (uP : Int32) (uC : Int32) (uR : Int32) (tn : Int32) (pn : Int32) (pg : Int32) (pq : Int32) (rl : Nat → Int32) (sr : Nat → Int32) (gcb : Nat → Int32) (gpb : Nat → Int64) (tg : Nat → Int32) (tm : Nat → Int32) (tl : Nat → Int32) (pm : Nat → Int32) (ps : Nat → Int32) (th : Int32) (mP : Int32) (mC : Int32) (mR : Int32) (mal : Int32) (mhd : Int32) (mn : Int32) (mg : Nat → Int32) (mt : Nat → Int32) (mh : Nat → Int32) (mz : Nat → Int32) (mset : Nat → Int32) (mfr : Nat → Int32) (mma : Nat → Int32) (mde : Nat → Int32) (mls : Nat → Int32) (ov : Nat → Int64) : Option Int32 := (gi (v4 + 1) L (ob2 (pf_L_guessOf tn tg ov (xs (v4 + 1).toNatClampNeg)) fun r681 ov_681 => (gi (v4 + 1) L (ob2 (pf_X4_guessOf th mn mg (xs (v4 + 1).toNatClampNeg)) fun r693 th_693 => (ob1 (pf_X4_thrown th_693) fun r699 => (if r699 = r681 then (if r681 = 0 then (gi 0 1 (if (lg_cmp (ov_681 (0 : Int32).toNatClampNeg) r693.toInt64) = 0 then (pf_law_c10_j726 kL lc la hr uP uC uR tn pn pg pq rl sr gcb gpb tg tm tl pm ps mP mC mR mal mhd mn mg mt mh mz mset mfr mma mde mls th_693 ov_681) else (some 0))) else (pf_law_c10_j726 kL lc la hr uP uC uR tn pn pg pq rl sr gcb gpb tg tm tl pm ps mP mC mR mal mhd mn mg mt mh mz mset mfr mma mde mls th_693 ov_681)) else (some 0)))))))
theorem hds_L_guessOf : yL_guessOf.cls ≠ "java/lang/invoke/MethodHandle" ∧ yL_guessOf.cls ≠ "java/lang/invoke/VarHandle" ∧ (parseMethodDescriptor yL_guessOf.desc).map (fun d => d.parameters.length) = some 3 := by decide +kernel
theorem hdv_X4_guessOf : yX4_guessOf.cls = RX4 ∧ yX4_guessOf.cls ≠ "java/lang/invoke/MethodHandle" ∧ yX4_guessOf.cls ≠ "java/lang/invoke/VarHandle" ∧ (parseMethodDescriptor yX4_guessOf.desc).map (fun d => d.parameters.length) = some 1 := by decide +kernel
set_option maxHeartbeats 4000000 in
set_option maxRecDepth 100000 in
theorem mt_law_c10 {p : Program} {l : Launch} (hl : l.stackTraces = false) {e : Env} {s : State} {m : MethodId} {args : Array Value} {below : List Frame} {meth : Method} {c : Code} {A : Nat → Prop} {D : va_G} {Q : State → Prop} (h k : Nat → Nat) (ho : Nat) (cI cJ : ClassId) {b L : Nat} {xs : Nat → Int32} (C : gC p l s m args meth c A D [(cI, .int), (cJ, .long)] 7 RL cL_law wsL_law) (hX : va_X b L xs s s.heap) (hbl : b < s.heap.size) (hbA : ¬ A b) (kL : Int32 → Int32 → Int32 → Int32 → Int32 → Int32 → Int32 → Int32 → Int32 → Int32 → (Nat → Int32) → (Nat → Int32) → (Nat → Int32) → (Nat → Int64) → (Nat → Int32) → (Nat → Int32) → (Nat → Int32) → (Nat → Int32) → (Nat → Int32) → Int32 → Int32 → Int32 → Int32 → Int32 → Int32 → Int32 → (Nat → Int32) → (Nat → Int32) → (Nat → Int32) → (Nat → Int32) → (Nat → Int32) → (Nat → Int32) → (Nat → Int32) → (Nat → Int32) → (Nat → Int32) → (Nat → Int64) → Option Int32) (K N K' N' : Nat) (hK : K + 8 ≤ K') (hN : N + 48 ≤ N') (hK' : K' ≤ 601024) (hN' : N' ≤ 7293034) (v4 : Int32) (JE : ∀ (lc : Int32) (la : Int32) (hr : Int32) (uP : Int32) (uC : Int32) (uR : Int32) (tn : Int32) (pn : Int32) (pg : Int32) (pq : Int32) (rl : Nat → Int32) (sr : Nat → Int32) (gcb : Nat → Int32) (gpb : Nat → Int64) (tg : Nat → Int32) (tm : Nat → Int32) (tl : Nat → Int32) (pm : Nat → Int32) (ps : Nat → Int32) (th : Int32) (mP : Int32) (mC : Int32) (mR : Int32) (mal : Int32) (mhd : Int32) (mn : Int32) (mg : Nat → Int32) (mt : Nat → Int32) (mh : Nat → Int32) (mz : Nat → Int32) (mset : Nat → Int32) (mfr : Nat → Int32) (mma : Nat → Int32) (mde : Nat → Int32) (mls : Nat → Int32) (ov : Nat → Int64), kL lc la hr uP uC uR tn pn pg pq rl sr gcb gpb tg tm tl pm ps th mP mC mR mal mhd mn mg mt mh mz mset mfr mma mde mls ov = some 1 → gV p l e room_1 s m args below meth c A D 7 Q ((cW h cI cJ lc la hr uP uC uR tn pn pg pq rl sr gcb gpb tg tm tl pm ps) ++ ((mW k cI th mP mC mR mal mhd mn mg mt mh mz mset mfr mma mde mls) ++ (oW ho cJ ov))) [(0, .ref b), (1, .ref (h 0)), (2, .ref (k 0)), (3, .ref ho), (4, .int v4)] K' N' 1466 []) (lc : Int32) (la : Int32) (hr : Int32) (uP : Int32) (uC : Int32) (uR : Int32) (tn : Int32) (pn : Int32) (pg : Int32) (pq : Int32) (rl : Nat → Int32) (sr : Nat → Int32) (gcb : Nat → Int32) (gpb : Nat → Int64) (tg : Nat → Int32) (tm : Nat → Int32) (tl : Nat → Int32) (pm : Nat → Int32) (ps : Nat → Int32) (th : Int32) (mP : Int32) (mC : Int32) (mR : Int32) (mal : Int32) (mhd : Int32) (mn : Int32) (mg : Nat → Int32) (mt : Nat → Int32) (mh : Nat → Int32) (mz : Nat → Int32) (mset : Nat → Int32) (mfr : Nat → Int32) (mma : Nat → Int32) (mde : Nat → Int32) (mls : Nat → Int32) (ov : Nat → Int64) (hp : pf_law_c10 kL L xs v4 lc la hr uP uC uR tn pn pg pq rl sr gcb gpb tg tm tl pm ps th mP mC mR mal mhd mn mg mt mh mz mset mfr mma mde mls ov = some 1) : gV p l e room_1 s m args below meth c A D 7 Q ((cW h cI cJ lc la hr uP uC uR tn pn pg pq rl sr gcb gpb tg tm tl pm ps) ++ ((mW k cI th mP mC mR mal mhd mn mg mt mh mz mset mfr mma mde mls) ++ (oW ho cJ ov))) [(0, .ref b), (1, .ref (h 0)), (2, .ref (k 0)), (3, .ref ho), (4, .int v4)] K N 673 [] := by
  unfold pf_law_c10 at hp
  have J726 : ∀ (K1 N1 : Nat), K1 + 2 ≤ K' → N1 + 12 ≤ N' → ∀ (th : Int32) (ov : Nat → Int64), pf_law_c10_j726 kL lc la hr uP uC uR tn pn pg pq rl sr gcb gpb tg tm tl pm ps mP mC mR mal mhd mn mg mt mh mz mset mfr mma mde mls th ov = some 1 → gV p l e room_1 s m args below meth c A D 7 Q ((cW h cI cJ lc la hr uP uC uR tn pn pg pq rl sr gcb gpb tg tm tl pm ps) ++ ((mW k cI th mP mC mR mal mhd mn mg mt mh mz mset mfr mma mde mls) ++ (oW ho cJ ov))) [(0, .ref b), (1, .ref (h 0)), (2, .ref (k 0)), (3, .ref ho), (4, .int v4)] K1 N1 726 [] := by
    intro K1 N1 hK1 hN1 th ov hp
    unfold pf_law_c10_j726 at hp
    refine gV_goto (tgt := 1466) C dL_law_726 (by decide) ?_
    refine gV_widen (k' := K') (n' := N') (by omega) (by omega) ?_
    exact JE lc la hr uP uC uR tn pn pg pq rl sr gcb gpb tg tm tl pm ps th mP mC mR mal mhd mn mg mt mh mz mset mfr mma mde mls ov hp
  refine gV_aload_n C dL_law_673 rfl 1 rfl ?_
  refine gV_aload_n C dL_law_674 rfl 0 rfl ?_
  refine gV_iload C dL_law_675 4 rfl ?_
  refine gV_iconst (v := 1) C dL_law_677 rfl ?_
  refine gV_iadd C dL_law_678 ?_
  obtain ⟨hi679, hp⟩ := g_idx hp
  refine gV_sld C hX hbl hbA hi679 dL_law_679 ?_
  refine gV_aload_n C dL_law_680 rfl 3 rfl ?_
  obtain ⟨r681q, ov_681, hq681, hp⟩ := g_ob2 hp
  refine gV_calli C (gsub_cmo_co _ _ rfl rfl) (gV_runSX (As := [.ref (h 0), .int (xs (v4 + 1).toNatClampNeg), .ref ho]) (rest := []) C (mt_L_guessOf hl D h ho cI cJ lc la hr uP uC uR tn pn pg pq rl sr gcb gpb tg tm tl pm ps ov (xs (v4 + 1).toNatClampNeg) r681q ov_681 hq681) (vx_cwSW 3 C.2.2.2.2.1 gL_law_L_guessOf rfl rfl rfl hds_L_guessOf ⟨Nat.le_of_ble_eq_true rfl, Nat.le_of_ble_eq_true rfl⟩) (gsub_cmo_co _ _ rfl rfl) rfl rfl (Nat.le_of_ble_eq_true rfl) dL_law_681 ⟨g_rc (by omega), g_rs (by omega)⟩) (fun _ _ hx => False.elim hx) (fun r681 w1 hw => ?_)
  obtain ⟨rfl, rfl⟩ := hw
  refine gV_sub (ws' := (cW h cI cJ lc la hr uP uC uR tn pn pg pq rl sr gcb gpb tg tm tl pm ps) ++ ((mW k cI th mP mC mR mal mhd mn mg mt mh mz mset mfr mma mde mls) ++ (oW ho cJ ov_681))) [10, 11, 12, 13, 14, 15, 16, 17, 18, 19, 20, 21, 22, 0, 1, 2, 3, 4, 5, 6, 7, 8, 9, 23] (by decide) rfl rfl ?_
  refine gV_istore (lvs' := [(5, .int r681), (0, .ref b), (1, .ref (h 0)), (2, .ref (k 0)), (3, .ref ho), (4, .int v4)]) C dL_law_684 (by decide) rfl ?_
  refine gV_aload_n C dL_law_686 rfl 3 rfl ?_
  refine gV_aload_n C dL_law_687 rfl 1 rfl ?_
  refine gV_iload C dL_law_688 5 rfl ?_
  refine gV_iconst (v := 1) C dL_law_690 rfl ?_
  refine gV_iadd C dL_law_691 ?_
  obtain ⟨hi692, hp⟩ := g_idx hp
  refine gV_sld C hX hbl hbA hi692 dL_law_692 ?_
  obtain ⟨r693q, th_693, hq693, hp⟩ := g_ob2 hp
  refine gV_calli C (gsub_cmo_m _ _ rfl rfl) (gV_runV (As := [.int (xs (v4 + 1).toNatClampNeg)]) (rest := []) C (mt_X4_guessOf hl D k cI cJ th mP mC mR mal mhd mn mg mt mh mz mset mfr mma mde mls (xs (v4 + 1).toNatClampNeg) r693q th_693 hq693) (cwV 1 C.2.2.2.2.1 gL_law_X4_guessOf rfl rfl rfl hdv_X4_guessOf ⟨Nat.le_of_ble_eq_true rfl, Nat.le_of_ble_eq_true rfl⟩) (gsub_cmo_m _ _ rfl rfl) 13 rfl rfl rfl rfl (Nat.le_of_ble_eq_true rfl) dL_law_693 ⟨g_rc (by omega), g_rs (by omega)⟩) (fun _ _ hx => False.elim hx) (fun r693 w1 hw => ?_)
  obtain ⟨rfl, rfl⟩ := hw
  refine gV_sub (ws' := (cW h cI cJ lc la hr uP uC uR tn pn pg pq rl sr gcb gpb tg tm tl pm ps) ++ ((mW k cI th_693 mP mC mR mal mhd mn mg mt mh mz mset mfr mma mde mls) ++ (oW ho cJ ov_681))) [0, 1, 2, 3, 4, 5, 6, 7, 8, 9, 10, 11, 12, 14, 15, 16, 17, 18, 19, 20, 21, 22, 23, 13] (by decide) rfl rfl ?_
  refine gV_istore (lvs' := [(6, .int r693), (5, .int r681), (0, .ref b), (1, .ref (h 0)), (2, .ref (k 0)), (3, .ref ho), (4, .int v4)]) C dL_law_696 (by decide) rfl ?_
  refine gV_aload_n C dL_law_698 rfl 4 rfl ?_
  obtain ⟨r699q, hq699, hp⟩ := g_ob1 hp
  refine gV_calli C (gsub_cmo_m _ _ rfl rfl) (gV_runV (As := []) (rest := []) C (mt_X4_thrown hl D k cI cJ th_693 mP mC mR mal mhd mn mg mt mh mz mset mfr mma mde mls r699q hq699) (cwV 0 C.2.2.2.2.1 gL_law_X4_thrown rfl rfl rfl hdv_X4_thrown ⟨Nat.le_of_ble_eq_true rfl, Nat.le_of_ble_eq_true rfl⟩) (gsub_cmo_m _ _ rfl rfl) 13 rfl rfl rfl rfl (Nat.le_of_ble_eq_true rfl) dL_law_699 ⟨g_rc (by omega), g_rs (by omega)⟩) (fun _ _ hx => False.elim hx) (fun r699 w1 hw => ?_)
  obtain ⟨rfl, rfl⟩ := hw
  refine gV_sub (ws' := (cW h cI cJ lc la hr uP uC uR tn pn pg pq rl sr gcb gpb tg tm tl pm ps) ++ ((mW k cI th_693 mP mC mR mal mhd mn mg mt mh mz mset mfr mma mde mls) ++ (oW ho cJ ov_681))) [0, 1, 2, 3, 4, 5, 6, 7, 8, 9, 10, 11, 12, 14, 15, 16, 17, 18, 19, 20, 21, 22, 23, 13] (by decide) rfl rfl ?_
  refine gV_iload C dL_law_702 1 rfl ?_
  refine gV_icmp_eq (tgt := 709) C dL_law_704 (by decide) (fun c704 => ?_) (fun c704 => ?_)
  · replace hp := g_ift hp c704
    refine gV_iload C dL_law_709 1 rfl ?_
    refine gV_if_ne (tgt := 726) C dL_law_711 (by decide) (fun c711 => ?_) (fun c711 => ?_)
    · replace hp := g_iff hp c711
      refine gV_loc [2, 3, 4, 5, 6] rfl ?_
      exact J726 _ _ (by omega) (by omega) th_693 ov_681 hp
    · replace hp := g_ift hp c711
      refine gV_aload_n C dL_law_714 rfl 5 rfl ?_
      refine gV_iconst (v := 0) C dL_law_715 rfl ?_
      obtain ⟨hi716, hp⟩ := g_idx hp
      refine gV_lald C 23 rfl 1 rfl hi716 dL_law_716 ?_
      refine gV_iload C dL_law_717 0 rfl ?_
      refine gV_i2l C dL_law_719 ?_
      refine gV_lcmp C dL_law_720 ?_
      refine gV_if_eq (tgt := 726) C dL_law_721 (by decide) (fun c721 => ?_) (fun c721 => ?_)
      · replace hp := g_ift hp c721
        refine gV_loc [2, 3, 4, 5, 6] rfl ?_
        exact J726 _ _ (by omega) (by omega) th_693 ov_681 hp
      · replace hp := g_iff hp c721
        refine gV_iconst (v := 0) C dL_law_724 rfl ?_
        exact absurd hp (by decide)
  · replace hp := g_iff hp c704
    refine gV_iconst (v := 0) C dL_law_707 rfl ?_
    exact absurd hp (by decide)
def pf_law_c11_j782 (kL : Int32 → Int32 → Int32 → Int32 → Int32 → Int32 → Int32 → Int32 → Int32 → Int32 → (Nat → Int32) → (Nat → Int32) → (Nat → Int32) → (Nat → Int64) → (Nat → Int32) → (Nat → Int32) → (Nat → Int32) → (Nat → Int32) → (Nat → Int32) → Int32 → Int32 → Int32 → Int32 → Int32 → Int32 → Int32 → (Nat → Int32) → (Nat → Int32) → (Nat → Int32) → (Nat → Int32) → (Nat → Int32) → (Nat → Int32) → (Nat → Int32) → (Nat → Int32) → (Nat → Int32) → (Nat → Int64) → Option Int32) (lc : Int32) (la : Int32) (hr : Int32) (uP : Int32) (uC : Int32) (uR : Int32) (tn : Int32) (pn : Int32) (pg : Int32) (pq : Int32) (rl : Nat → Int32) (sr : Nat → Int32) (gcb : Nat → Int32) (gpb : Nat → Int64) (tg : Nat → Int32) (tm : Nat → Int32) (tl : Nat → Int32) (pm : Nat → Int32) (ps : Nat → Int32) (mP : Int32) (mC : Int32) (mR : Int32) (mal : Int32) (mhd : Int32) (mn : Int32) (mg : Nat → Int32) (mt : Nat → Int32) (mh : Nat → Int32) (mz : Nat → Int32) (mset : Nat → Int32) (mfr : Nat → Int32) (mma : Nat → Int32) (mde : Nat → Int32) (mls : Nat → Int32) (th : Int32) (ov : Nat → Int64) : Option (Int32) := (kL lc la hr uP uC uR tn pn pg pq rl sr gcb gpb tg tm tl pm ps th mP mC mR mal mhd mn mg mt mh mz mset mfr mma mde mls ov)
def pf_law_c11 (kL : Int32 → Int32 → Int32 → Int32 → Int32 → Int32 → Int32 → Int32 → Int32 → Int32 → (Nat → Int32) → (Nat → Int32) → (Nat → Int32) → (Nat → Int64) → (Nat → Int32) → (Nat → Int32) → (Nat → Int32) → (Nat → Int32) → (Nat → Int32) → Int32 → Int32 → Int32 → Int32 → Int32 → Int32 → Int32 → (Nat → Int32) → (Nat → Int32) → (Nat → Int32) → (Nat → Int32) → (Nat → Int32) → (Nat → Int32) → (Nat → Int32) → (Nat → Int32) → (Nat → Int32) → (Nat → Int64) → Option Int32) (L : Nat) (xs : Nat → Int32) (v4 : Int32) (lc : Int32) (la : Int32) (hr : Int32) (uP : Int32) (uC : Int32) (uR : Int32) (tn : Int32) (pn : Int32) (pg : Int32) (pq : Int32) (rl : Nat → Int32) (sr : Nat → Int32) (gcb : Nat → Int32) (gpb : Nat → Int64) (tg : Nat → Int32) (tm : Nat → Int32) (tl : Nat → Int32) (pm : Nat → Int32) (ps : Nat → Int32) (th : Int32) (mP : Int32) (mC : Int32) (mR : Int32) (mal : Int32) (mhd : Int32) (mn : Int32) (mg : Nat → Int32) (mt : Nat → Int32) (mh : Nat → Int32) (mz : Nat → Int32) (mset : Nat → Int32) (mfr : Nat → Int32) (mma : Nat → Int32) (mde : Nat → Int32) (mls : Nat → Int32) (ov : Nat → Int64) : Option Int32 := (gi (v4 + 1) L (ob2 (pf_L_markOf tn tm ov (xs (v4 + 1).toNatClampNeg)) fun r737 ov_737 => (gi (v4 + 1) L (ob2 (pf_X4_markOf th mn mt (xs (v4 + 1).toNatClampNeg)) fun r749 th_749 => (ob1 (pf_X4_thrown th_749) fun r755 => (if r755 = r737 then (if r737 = 0 then (gi 0 1 (if (lg_cmp (ov_737 (0 : Int32).toNatClampNeg) r749.toInt64) = 0 then (pf_law_c11_j782 kL lc la hr uP uC uR tn pn pg pq rl sr gcb gpb tg tm tl pm ps mP mC mR mal mhd mn mg mt mh mz mset mfr mma mde mls th_749 ov_737) else (some 0))) else (pf_law_c11_j782 kL lc la hr uP uC uR tn pn pg pq rl sr gcb gpb tg tm tl pm ps mP mC mR mal mhd mn mg mt mh mz mset mfr mma mde mls th_749 ov_737)) else (some 0)))))))
theorem hds_L_markOf : yL_markOf.cls ≠ "java/lang/invoke/MethodHandle" ∧ yL_markOf.cls ≠ "java/lang/invoke/VarHandle" ∧ (parseMethodDescriptor yL_markOf.desc).map (fun d => d.parameters.length) = some 3 := by decide +kernel
theorem hdv_X4_markOf : yX4_markOf.cls = RX4 ∧ yX4_markOf.cls ≠ "java/lang/invoke/MethodHandle" ∧ yX4_markOf.cls ≠ "java/lang/invoke/VarHandle" ∧ (parseMethodDescriptor yX4_markOf.desc).map (fun d => d.parameters.length) = some 1 := by decide +kernel
set_option maxHeartbeats 4000000 in
set_option maxRecDepth 100000 in
theorem mt_law_c11 {p : Program} {l : Launch} (hl : l.stackTraces = false) {e : Env} {s : State} {m : MethodId} {args : Array Value} {below : List Frame} {meth : Method} {c : Code} {A : Nat → Prop} {D : va_G} {Q : State → Prop} (h k : Nat → Nat) (ho : Nat) (cI cJ : ClassId) {b L : Nat} {xs : Nat → Int32} (C : gC p l s m args meth c A D [(cI, .int), (cJ, .long)] 7 RL cL_law wsL_law) (hX : va_X b L xs s s.heap) (hbl : b < s.heap.size) (hbA : ¬ A b) (kL : Int32 → Int32 → Int32 → Int32 → Int32 → Int32 → Int32 → Int32 → Int32 → Int32 → (Nat → Int32) → (Nat → Int32) → (Nat → Int32) → (Nat → Int64) → (Nat → Int32) → (Nat → Int32) → (Nat → Int32) → (Nat → Int32) → (Nat → Int32) → Int32 → Int32 → Int32 → Int32 → Int32 → Int32 → Int32 → (Nat → Int32) → (Nat → Int32) → (Nat → Int32) → (Nat → Int32) → (Nat → Int32) → (Nat → Int32) → (Nat → Int32) → (Nat → Int32) → (Nat → Int32) → (Nat → Int64) → Option Int32) (K N K' N' : Nat) (hK : K + 8 ≤ K') (hN : N + 48 ≤ N') (hK' : K' ≤ 601024) (hN' : N' ≤ 7293034) (v4 : Int32) (JE : ∀ (lc : Int32) (la : Int32) (hr : Int32) (uP : Int32) (uC : Int32) (uR : Int32) (tn : Int32) (pn : Int32) (pg : Int32) (pq : Int32) (rl : Nat → Int32) (sr : Nat → Int32) (gcb : Nat → Int32) (gpb : Nat → Int64) (tg : Nat → Int32) (tm : Nat → Int32) (tl : Nat → Int32) (pm : Nat → Int32) (ps : Nat → Int32) (th : Int32) (mP : Int32) (mC : Int32) (mR : Int32) (mal : Int32) (mhd : Int32) (mn : Int32) (mg : Nat → Int32) (mt : Nat → Int32) (mh : Nat → Int32) (mz : Nat → Int32) (mset : Nat → Int32) (mfr : Nat → Int32) (mma : Nat → Int32) (mde : Nat → Int32) (mls : Nat → Int32) (ov : Nat → Int64), kL lc la hr uP uC uR tn pn pg pq rl sr gcb gpb tg tm tl pm ps th mP mC mR mal mhd mn mg mt mh mz mset mfr mma mde mls ov = some 1 → gV p l e room_1 s m args below meth c A D 7 Q ((cW h cI cJ lc la hr uP uC uR tn pn pg pq rl sr gcb gpb tg tm tl pm ps) ++ ((mW k cI th mP mC mR mal mhd mn mg mt mh mz mset mfr mma mde mls) ++ (oW ho cJ ov))) [(0, .ref b), (1, .ref (h 0)), (2, .ref (k 0)), (3, .ref ho), (4, .int v4)] K' N' 1466 []) (lc : Int32) (la : Int32) (hr : Int32) (uP : Int32) (uC : Int32) (uR : Int32) (tn : Int32) (pn : Int32) (pg : Int32) (pq : Int32) (rl : Nat → Int32) (sr : Nat → Int32) (gcb : Nat → Int32) (gpb : Nat → Int64) (tg : Nat → Int32) (tm : Nat → Int32) (tl : Nat → Int32) (pm : Nat → Int32) (ps : Nat → Int32) (th : Int32) (mP : Int32) (mC : Int32) (mR : Int32) (mal : Int32) (mhd : Int32) (mn : Int32) (mg : Nat → Int32) (mt : Nat → Int32) (mh : Nat → Int32) (mz : Nat → Int32) (mset : Nat → Int32) (mfr : Nat → Int32) (mma : Nat → Int32) (mde : Nat → Int32) (mls : Nat → Int32) (ov : Nat → Int64) (hp : pf_law_c11 kL L xs v4 lc la hr uP uC uR tn pn pg pq rl sr gcb gpb tg tm tl pm ps th mP mC mR mal mhd mn mg mt mh mz mset mfr mma mde mls ov = some 1) : gV p l e room_1 s m args below meth c A D 7 Q ((cW h cI cJ lc la hr uP uC uR tn pn pg pq rl sr gcb gpb tg tm tl pm ps) ++ ((mW k cI th mP mC mR mal mhd mn mg mt mh mz mset mfr mma mde mls) ++ (oW ho cJ ov))) [(0, .ref b), (1, .ref (h 0)), (2, .ref (k 0)), (3, .ref ho), (4, .int v4)] K N 729 [] := by
  unfold pf_law_c11 at hp
  have J782 : ∀ (K1 N1 : Nat), K1 + 2 ≤ K' → N1 + 12 ≤ N' → ∀ (th : Int32) (ov : Nat → Int64), pf_law_c11_j782 kL lc la hr uP uC uR tn pn pg pq rl sr gcb gpb tg tm tl pm ps mP mC mR mal mhd mn mg mt mh mz mset mfr mma mde mls th ov = some 1 → gV p l e room_1 s m args below meth c A D 7 Q ((cW h cI cJ lc la hr uP uC uR tn pn pg pq rl sr gcb gpb tg tm tl pm ps) ++ ((mW k cI th mP mC mR mal mhd mn mg mt mh mz mset mfr mma mde mls) ++ (oW ho cJ ov))) [(0, .ref b), (1, .ref (h 0)), (2, .ref (k 0)), (3, .ref ho), (4, .int v4)] K1 N1 782 [] := by
    intro K1 N1 hK1 hN1 th ov hp
    unfold pf_law_c11_j782 at hp
    refine gV_goto (tgt := 1466) C dL_law_782 (by decide) ?_
    refine gV_widen (k' := K') (n' := N') (by omega) (by omega) ?_
    exact JE lc la hr uP uC uR tn pn pg pq rl sr gcb gpb tg tm tl pm ps th mP mC mR mal mhd mn mg mt mh mz mset mfr mma mde mls ov hp
  refine gV_aload_n C dL_law_729 rfl 1 rfl ?_
  refine gV_aload_n C dL_law_730 rfl 0 rfl ?_
  refine gV_iload C dL_law_731 4 rfl ?_
  refine gV_iconst (v := 1) C dL_law_733 rfl ?_
  refine gV_iadd C dL_law_734 ?_
  obtain ⟨hi735, hp⟩ := g_idx hp
  refine gV_sld C hX hbl hbA hi735 dL_law_735 ?_
  refine gV_aload_n C dL_law_736 rfl 3 rfl ?_
  obtain ⟨r737q, ov_737, hq737, hp⟩ := g_ob2 hp
  refine gV_calli C (gsub_cmo_co _ _ rfl rfl) (gV_runSX (As := [.ref (h 0), .int (xs (v4 + 1).toNatClampNeg), .ref ho]) (rest := []) C (mt_L_markOf hl D h ho cI cJ lc la hr uP uC uR tn pn pg pq rl sr gcb gpb tg tm tl pm ps ov (xs (v4 + 1).toNatClampNeg) r737q ov_737 hq737) (vx_cwSW 3 C.2.2.2.2.1 gL_law_L_markOf rfl rfl rfl hds_L_markOf ⟨Nat.le_of_ble_eq_true rfl, Nat.le_of_ble_eq_true rfl⟩) (gsub_cmo_co _ _ rfl rfl) rfl rfl (Nat.le_of_ble_eq_true rfl) dL_law_737 ⟨g_rc (by omega), g_rs (by omega)⟩) (fun _ _ hx => False.elim hx) (fun r737 w1 hw => ?_)
  obtain ⟨rfl, rfl⟩ := hw
  refine gV_sub (ws' := (cW h cI cJ lc la hr uP uC uR tn pn pg pq rl sr gcb gpb tg tm tl pm ps) ++ ((mW k cI th mP mC mR mal mhd mn mg mt mh mz mset mfr mma mde mls) ++ (oW ho cJ ov_737))) [10, 11, 12, 13, 14, 15, 16, 17, 18, 19, 20, 21, 22, 0, 1, 2, 3, 4, 5, 6, 7, 8, 9, 23] (by decide) rfl rfl ?_
  refine gV_istore (lvs' := [(5, .int r737), (0, .ref b), (1, .ref (h 0)), (2, .ref (k 0)), (3, .ref ho), (4, .int v4)]) C dL_law_740 (by decide) rfl ?_
  refine gV_aload_n C dL_law_742 rfl 3 rfl ?_
  refine gV_aload_n C dL_law_743 rfl 1 rfl ?_
  refine gV_iload C dL_law_744 5 rfl ?_
  refine gV_iconst (v := 1) C dL_law_746 rfl ?_
  refine gV_iadd C dL_law_747 ?_
  obtain ⟨hi748, hp⟩ := g_idx hp
  refine gV_sld C hX hbl hbA hi748 dL_law_748 ?_
  obtain ⟨r749q, th_749, hq749, hp⟩ := g_ob2 hp
  refine gV_calli C (gsub_cmo_m _ _ rfl rfl) (gV_runV (As := [.int (xs (v4 + 1).toNatClampNeg)]) (rest := []) C (mt_X4_markOf hl D k cI cJ th mP mC mR mal mhd mn mg mt mh mz mset mfr mma mde mls (xs (v4 + 1).toNatClampNeg) r749q th_749 hq749) (cwV 1 C.2.2.2.2.1 gL_law_X4_markOf rfl rfl rfl hdv_X4_markOf ⟨Nat.le_of_ble_eq_true rfl, Nat.le_of_ble_eq_true rfl⟩) (gsub_cmo_m _ _ rfl rfl) 13 rfl rfl rfl rfl (Nat.le_of_ble_eq_true rfl) dL_law_749 ⟨g_rc (by omega), g_rs (by omega)⟩) (fun _ _ hx => False.elim hx) (fun r749 w1 hw => ?_)
  obtain ⟨rfl, rfl⟩ := hw
  refine gV_sub (ws' := (cW h cI cJ lc la hr uP uC uR tn pn pg pq rl sr gcb gpb tg tm tl pm ps) ++ ((mW k cI th_749 mP mC mR mal mhd mn mg mt mh mz mset mfr mma mde mls) ++ (oW ho cJ ov_737))) [0, 1, 2, 3, 4, 5, 6, 7, 8, 9, 10, 11, 12, 14, 15, 16, 17, 18, 19, 20, 21, 22, 23, 13] (by decide) rfl rfl ?_
  refine gV_istore (lvs' := [(6, .int r749), (5, .int r737), (0, .ref b), (1, .ref (h 0)), (2, .ref (k 0)), (3, .ref ho), (4, .int v4)]) C dL_law_752 (by decide) rfl ?_
  refine gV_aload_n C dL_law_754 rfl 4 rfl ?_
  obtain ⟨r755q, hq755, hp⟩ := g_ob1 hp
  refine gV_calli C (gsub_cmo_m _ _ rfl rfl) (gV_runV (As := []) (rest := []) C (mt_X4_thrown hl D k cI cJ th_749 mP mC mR mal mhd mn mg mt mh mz mset mfr mma mde mls r755q hq755) (cwV 0 C.2.2.2.2.1 gL_law_X4_thrown rfl rfl rfl hdv_X4_thrown ⟨Nat.le_of_ble_eq_true rfl, Nat.le_of_ble_eq_true rfl⟩) (gsub_cmo_m _ _ rfl rfl) 13 rfl rfl rfl rfl (Nat.le_of_ble_eq_true rfl) dL_law_755 ⟨g_rc (by omega), g_rs (by omega)⟩) (fun _ _ hx => False.elim hx) (fun r755 w1 hw => ?_)
  obtain ⟨rfl, rfl⟩ := hw
  refine gV_sub (ws' := (cW h cI cJ lc la hr uP uC uR tn pn pg pq rl sr gcb gpb tg tm tl pm ps) ++ ((mW k cI th_749 mP mC mR mal mhd mn mg mt mh mz mset mfr mma mde mls) ++ (oW ho cJ ov_737))) [0, 1, 2, 3, 4, 5, 6, 7, 8, 9, 10, 11, 12, 14, 15, 16, 17, 18, 19, 20, 21, 22, 23, 13] (by decide) rfl rfl ?_
  refine gV_iload C dL_law_758 1 rfl ?_
  refine gV_icmp_eq (tgt := 765) C dL_law_760 (by decide) (fun c760 => ?_) (fun c760 => ?_)
  · replace hp := g_ift hp c760
    refine gV_iload C dL_law_765 1 rfl ?_
    refine gV_if_ne (tgt := 782) C dL_law_767 (by decide) (fun c767 => ?_) (fun c767 => ?_)
    · replace hp := g_iff hp c767
      refine gV_loc [2, 3, 4, 5, 6] rfl ?_
      exact J782 _ _ (by omega) (by omega) th_749 ov_737 hp
    · replace hp := g_ift hp c767
      refine gV_aload_n C dL_law_770 rfl 5 rfl ?_
      refine gV_iconst (v := 0) C dL_law_771 rfl ?_
      obtain ⟨hi772, hp⟩ := g_idx hp
      refine gV_lald C 23 rfl 1 rfl hi772 dL_law_772 ?_
      refine gV_iload C dL_law_773 0 rfl ?_
      refine gV_i2l C dL_law_775 ?_
      refine gV_lcmp C dL_law_776 ?_
      refine gV_if_eq (tgt := 782) C dL_law_777 (by decide) (fun c777 => ?_) (fun c777 => ?_)
      · replace hp := g_ift hp c777
        refine gV_loc [2, 3, 4, 5, 6] rfl ?_
        exact J782 _ _ (by omega) (by omega) th_749 ov_737 hp
      · replace hp := g_iff hp c777
        refine gV_iconst (v := 0) C dL_law_780 rfl ?_
        exact absurd hp (by decide)
  · replace hp := g_iff hp c760
    refine gV_iconst (v := 0) C dL_law_763 rfl ?_
    exact absurd hp (by decide)
def pf_law_c12_j838 (kL : Int32 → Int32 → Int32 → Int32 → Int32 → Int32 → Int32 → Int32 → Int32 → Int32 → (Nat → Int32) → (Nat → Int32) → (Nat → Int32) → (Nat → Int64) → (Nat → Int32) → (Nat → Int32) → (Nat → Int32) → (Nat → Int32) → (Nat → Int32) → Int32 → Int32 → Int32 → Int32 → Int32 → Int32 → Int32 → (Nat → Int32) → (Nat → Int32) → (Nat → Int32) → (Nat → Int32) → (Nat → Int32) → (Nat → Int32) → (Nat → Int32) → (Nat → Int32) → (Nat → Int32) → (Nat → Int64) → Option Int32) (lc : Int32) (la : Int32) (hr : Int32) (uP : Int32) (uC : Int32) (uR : Int32) (tn : Int32) (pn : Int32) (pg : Int32) (pq : Int32) (rl : Nat → Int32) (sr : Nat → Int32) (gcb : Nat → Int32) (gpb : Nat → Int64) (tg : Nat → Int32) (tm : Nat → Int32) (tl : Nat → Int32) (pm : Nat → Int32) (ps : Nat → Int32) (mP : Int32) (mC : Int32) (mR : Int32) (mal : Int32) (mhd : Int32) (mn : Int32) (mg : Nat → Int32) (mt : Nat → Int32) (mz : Nat → Int32) (mset : Nat → Int32) (mfr : Nat → Int32) (mma : Nat → Int32) (mde : Nat → Int32) (mls : Nat → Int32) (th : Int32) (mh : Nat → Int32) (ov : Nat → Int64) : Option (Int32) := (kL lc la hr uP uC uR tn pn pg pq rl sr gcb gpb tg tm tl pm ps th mP mC mR mal mhd mn mg mt mh mz mset mfr mma mde mls ov)
def pf_law_c12 (kL : Int32 → Int32 → Int32 → Int32 → Int32 → Int32 → Int32 → Int32 → Int32 → Int32 → (Nat → Int32) → (Nat → Int32) → (Nat → Int32) → (Nat → Int64) → (Nat → Int32) → (Nat → Int32) → (Nat → Int32) → (Nat → Int32) → (Nat → Int32) → Int32 → Int32 → Int32 → Int32 → Int32 → Int32 → Int32 → (Nat → Int32) → (Nat → Int32) → (Nat → Int32) → (Nat → Int32) → (Nat → Int32) → (Nat → Int32) → (Nat → Int32) → (Nat → Int32) → (Nat → Int32) → (Nat → Int64) → Option Int32) (L : Nat) (xs : Nat → Int32) (v4 : Int32) (lc : Int32) (la : Int32) (hr : Int32) (uP : Int32) (uC : Int32) (uR : Int32) (tn : Int32) (pn : Int32) (pg : Int32) (pq : Int32) (rl : Nat → Int32) (sr : Nat → Int32) (gcb : Nat → Int32) (gpb : Nat → Int64) (tg : Nat → Int32) (tm : Nat → Int32) (tl : Nat → Int32) (pm : Nat → Int32) (ps : Nat → Int32) (th : Int32) (mP : Int32) (mC : Int32) (mR : Int32) (mal : Int32) (mhd : Int32) (mn : Int32) (mg : Nat → Int32) (mt : Nat → Int32) (mh : Nat → Int32) (mz : Nat → Int32) (mset : Nat → Int32) (mfr : Nat → Int32) (mma : Nat → Int32) (mde : Nat → Int32) (mls : Nat → Int32) (ov : Nat → Int64) : Option Int32 := (gi (v4 + 1) L (ob2 (pf_L_liesAbout uR tn tl ov (xs (v4 + 1).toNatClampNeg)) fun r793 ov_793 => (gi (v4 + 1) L (ob3 (pf_X4_liesAbout th mP mC mR mn mg mt mh (xs (v4 + 1).toNatClampNeg)) fun r805 th_805 mh_805 => (ob1 (pf_X4_thrown th_805) fun r811 => (if r811 = r793 then (if r793 = 0 then (gi 0 1 (if (lg_cmp (ov_793 (0 : Int32).toNatClampNeg) r805.toInt64) = 0 then (pf_law_c12_j838 kL lc la hr uP uC uR tn pn pg pq rl sr gcb gpb tg tm tl pm ps mP mC mR mal mhd mn mg mt mz mset mfr mma mde mls th_805 mh_805 ov_793) else (some 0))) else (pf_law_c12_j838 kL lc la hr uP uC uR tn pn pg pq rl sr gcb gpb tg tm tl pm ps mP mC mR mal mhd mn mg mt mz mset mfr mma mde mls th_805 mh_805 ov_793)) else (some 0)))))))
theorem hds_L_liesAbout : yL_liesAbout.cls ≠ "java/lang/invoke/MethodHandle" ∧ yL_liesAbout.cls ≠ "java/lang/invoke/VarHandle" ∧ (parseMethodDescriptor yL_liesAbout.desc).map (fun d => d.parameters.length) = some 3 := by decide +kernel
theorem hdv_X4_liesAbout : yX4_liesAbout.cls = RX4 ∧ yX4_liesAbout.cls ≠ "java/lang/invoke/MethodHandle" ∧ yX4_liesAbout.cls ≠ "java/lang/invoke/VarHandle" ∧ (parseMethodDescriptor yX4_liesAbout.desc).map (fun d => d.parameters.length) = some 1 := by decide +kernel
set_option maxHeartbeats 4000000 in
set_option maxRecDepth 100000 in
theorem mt_law_c12 {p : Program} {l : Launch} (hl : l.stackTraces = false) {e : Env} {s : State} {m : MethodId} {args : Array Value} {below : List Frame} {meth : Method} {c : Code} {A : Nat → Prop} {D : va_G} {Q : State → Prop} (h k : Nat → Nat) (ho : Nat) (cI cJ : ClassId) {b L : Nat} {xs : Nat → Int32} (C : gC p l s m args meth c A D [(cI, .int), (cJ, .long)] 7 RL cL_law wsL_law) (hX : va_X b L xs s s.heap) (hbl : b < s.heap.size) (hbA : ¬ A b) (kL : Int32 → Int32 → Int32 → Int32 → Int32 → Int32 → Int32 → Int32 → Int32 → Int32 → (Nat → Int32) → (Nat → Int32) → (Nat → Int32) → (Nat → Int64) → (Nat → Int32) → (Nat → Int32) → (Nat → Int32) → (Nat → Int32) → (Nat → Int32) → Int32 → Int32 → Int32 → Int32 → Int32 → Int32 → Int32 → (Nat → Int32) → (Nat → Int32) → (Nat → Int32) → (Nat → Int32) → (Nat → Int32) → (Nat → Int32) → (Nat → Int32) → (Nat → Int32) → (Nat → Int32) → (Nat → Int64) → Option Int32) (K N K' N' : Nat) (hK : K + 8 ≤ K') (hN : N + 48 ≤ N') (hK' : K' ≤ 601024) (hN' : N' ≤ 7293034) (v4 : Int32) (JE : ∀ (lc : Int32) (la : Int32) (hr : Int32) (uP : Int32) (uC : Int32) (uR : Int32) (tn : Int32) (pn : Int32) (pg : Int32) (pq : Int32) (rl : Nat → Int32) (sr : Nat → Int32) (gcb : Nat → Int32) (gpb : Nat → Int64) (tg : Nat → Int32) (tm : Nat → Int32) (tl : Nat → Int32) (pm : Nat → Int32) (ps : Nat → Int32) (th : Int32) (mP : Int32) (mC : Int32) (mR : Int32) (mal : Int32) (mhd : Int32) (mn : Int32) (mg : Nat → Int32) (mt : Nat → Int32) (mh : Nat → Int32) (mz : Nat → Int32) (mset : Nat → Int32) (mfr : Nat → Int32) (mma : Nat → Int32) (mde : Nat → Int32) (mls : Nat → Int32) (ov : Nat → Int64), kL lc la hr uP uC uR tn pn pg pq rl sr gcb gpb tg tm tl pm ps th mP mC mR mal mhd mn mg mt mh mz mset mfr mma mde mls ov = some 1 → gV p l e room_1 s m args below meth c A D 7 Q ((cW h cI cJ lc la hr uP uC uR tn pn pg pq rl sr gcb gpb tg tm tl pm ps) ++ ((mW k cI th mP mC mR mal mhd mn mg mt mh mz mset mfr mma mde mls) ++ (oW ho cJ ov))) [(0, .ref b), (1, .ref (h 0)), (2, .ref (k 0)), (3, .ref ho), (4, .int v4)] K' N' 1466 []) (lc : Int32) (la : Int32) (hr : Int32) (uP : Int32) (uC : Int32) (uR : Int32) (tn : Int32) (pn : Int32) (pg : Int32) (pq : Int32) (rl : Nat → Int32) (sr : Nat → Int32) (gcb : Nat → Int32) (gpb : Nat → Int64) (tg : Nat → Int32) (tm : Nat → Int32) (tl : Nat → Int32) (pm : Nat → Int32) (ps : Nat → Int32) (th : Int32) (mP : Int32) (mC : Int32) (mR : Int32) (mal : Int32) (mhd : Int32) (mn : Int32) (mg : Nat → Int32) (mt : Nat → Int32) (mh : Nat → Int32) (mz : Nat → Int32) (mset : Nat → Int32) (mfr : Nat → Int32) (mma : Nat → Int32) (mde : Nat → Int32) (mls : Nat → Int32) (ov : Nat → Int64) (hp : pf_law_c12 kL L xs v4 lc la hr uP uC uR tn pn pg pq rl sr gcb gpb tg tm tl pm ps th mP mC mR mal mhd mn mg mt mh mz mset mfr mma mde mls ov = some 1) : gV p l e room_1 s m args below meth c A D 7 Q ((cW h cI cJ lc la hr uP uC uR tn pn pg pq rl sr gcb gpb tg tm tl pm ps) ++ ((mW k cI th mP mC mR mal mhd mn mg mt mh mz mset mfr mma mde mls) ++ (oW ho cJ ov))) [(0, .ref b), (1, .ref (h 0)), (2, .ref (k 0)), (3, .ref ho), (4, .int v4)] K N 785 [] := by
  unfold pf_law_c12 at hp
  have J838 : ∀ (K1 N1 : Nat), K1 + 2 ≤ K' → N1 + 12 ≤ N' → ∀ (th : Int32) (mh : Nat → Int32) (ov : Nat → Int64), pf_law_c12_j838 kL lc la hr uP uC uR tn pn pg pq rl sr gcb gpb tg tm tl pm ps mP mC mR mal mhd mn mg mt mz mset mfr mma mde mls th mh ov = some 1 → gV p l e room_1 s m args below meth c A D 7 Q ((cW h cI cJ lc la hr uP uC uR tn pn pg pq rl sr gcb gpb tg tm tl pm ps) ++ ((mW k cI th mP mC mR mal mhd mn mg mt mh mz mset mfr mma mde mls) ++ (oW ho cJ ov))) [(0, .ref b), (1, .ref (h 0)), (2, .ref (k 0)), (3, .ref ho), (4, .int v4)] K1 N1 838 [] := by
    intro K1 N1 hK1 hN1 th mh ov hp
    unfold pf_law_c12_j838 at hp
    refine gV_goto (tgt := 1466) C dL_law_838 (by decide) ?_
    refine gV_widen (k' := K') (n' := N') (by omega) (by omega) ?_
    exact JE lc la hr uP uC uR tn pn pg pq rl sr gcb gpb tg tm tl pm ps th mP mC mR mal mhd mn mg mt mh mz mset mfr mma mde mls ov hp
  refine gV_aload_n C dL_law_785 rfl 1 rfl ?_
  refine gV_aload_n C dL_law_786 rfl 0 rfl ?_
  refine gV_iload C dL_law_787 4 rfl ?_
  refine gV_iconst (v := 1) C dL_law_789 rfl ?_
  refine gV_iadd C dL_law_790 ?_
  obtain ⟨hi791, hp⟩ := g_idx hp
  refine gV_sld C hX hbl hbA hi791 dL_law_791 ?_
  refine gV_aload_n C dL_law_792 rfl 3 rfl ?_
  obtain ⟨r793q, ov_793, hq793, hp⟩ := g_ob2 hp
  refine gV_calli C (gsub_cmo_co _ _ rfl rfl) (gV_runSX (As := [.ref (h 0), .int (xs (v4 + 1).toNatClampNeg), .ref ho]) (rest := []) C (mt_L_liesAbout hl D h ho cI cJ lc la hr uP uC uR tn pn pg pq rl sr gcb gpb tg tm tl pm ps ov (xs (v4 + 1).toNatClampNeg) r793q ov_793 hq793) (vx_cwSW 3 C.2.2.2.2.1 gL_law_L_liesAbout rfl rfl rfl hds_L_liesAbout ⟨Nat.le_of_ble_eq_true rfl, Nat.le_of_ble_eq_true rfl⟩) (gsub_cmo_co _ _ rfl rfl) rfl rfl (Nat.le_of_ble_eq_true rfl) dL_law_793 ⟨g_rc (by omega), g_rs (by omega)⟩) (fun _ _ hx => False.elim hx) (fun r793 w1 hw => ?_)
  obtain ⟨rfl, rfl⟩ := hw
  refine gV_sub (ws' := (cW h cI cJ lc la hr uP uC uR tn pn pg pq rl sr gcb gpb tg tm tl pm ps) ++ ((mW k cI th mP mC mR mal mhd mn mg mt mh mz mset mfr mma mde mls) ++ (oW ho cJ ov_793))) [10, 11, 12, 13, 14, 15, 16, 17, 18, 19, 20, 21, 22, 0, 1, 2, 3, 4, 5, 6, 7, 8, 9, 23] (by decide) rfl rfl ?_
  refine gV_istore (lvs' := [(5, .int r793), (0, .ref b), (1, .ref (h 0)), (2, .ref (k 0)), (3, .ref ho), (4, .int v4)]) C dL_law_796 (by decide) rfl ?_
  refine gV_aload_n C dL_law_798 rfl 3 rfl ?_
  refine gV_aload_n C dL_law_799 rfl 1 rfl ?_
  refine gV_iload C dL_law_800 5 rfl ?_
  refine gV_iconst (v := 1) C dL_law_802 rfl ?_
  refine gV_iadd C dL_law_803 ?_
  obtain ⟨hi804, hp⟩ := g_idx hp
  refine gV_sld C hX hbl hbA hi804 dL_law_804 ?_
  obtain ⟨r805q, th_805, mh_805, hq805, hp⟩ := g_ob3 hp
  refine gV_calli C (gsub_cmo_m _ _ rfl rfl) (gV_runV (As := [.int (xs (v4 + 1).toNatClampNeg)]) (rest := []) C (mt_X4_liesAbout hl D k cI cJ th mP mC mR mal mhd mn mg mt mh mz mset mfr mma mde mls (xs (v4 + 1).toNatClampNeg) r805q th_805 mh_805 hq805) (cwV 1 C.2.2.2.2.1 gL_law_X4_liesAbout rfl rfl rfl hdv_X4_liesAbout ⟨Nat.le_of_ble_eq_true rfl, Nat.le_of_ble_eq_true rfl⟩) (gsub_cmo_m _ _ rfl rfl) 13 rfl rfl rfl rfl (Nat.le_of_ble_eq_true rfl) dL_law_805 ⟨g_rc (by omega), g_rs (by omega)⟩) (fun _ _ hx => False.elim hx) (fun r805 w1 hw => ?_)
  obtain ⟨rfl, rfl⟩ := hw
  refine gV_sub (ws' := (cW h cI cJ lc la hr uP uC uR tn pn pg pq rl sr gcb gpb tg tm tl pm ps) ++ ((mW k cI th_805 mP mC mR mal mhd mn mg mt mh_805 mz mset mfr mma mde mls) ++ (oW ho cJ ov_793))) [0, 1, 2, 3, 4, 5, 6, 7, 8, 9, 10, 11, 12, 14, 15, 16, 17, 18, 19, 20, 21, 22, 23, 13] (by decide) rfl rfl ?_
  refine gV_istore (lvs' := [(6, .int r805), (5, .int r793), (0, .ref b), (1, .ref (h 0)), (2, .ref (k 0)), (3, .ref ho), (4, .int v4)]) C dL_law_808 (by decide) rfl ?_
  refine gV_aload_n C dL_law_810 rfl 4 rfl ?_
  obtain ⟨r811q, hq811, hp⟩ := g_ob1 hp
  refine gV_calli C (gsub_cmo_m _ _ rfl rfl) (gV_runV (As := []) (rest := []) C (mt_X4_thrown hl D k cI cJ th_805 mP mC mR mal mhd mn mg mt mh_805 mz mset mfr mma mde mls r811q hq811) (cwV 0 C.2.2.2.2.1 gL_law_X4_thrown rfl rfl rfl hdv_X4_thrown ⟨Nat.le_of_ble_eq_true rfl, Nat.le_of_ble_eq_true rfl⟩) (gsub_cmo_m _ _ rfl rfl) 13 rfl rfl rfl rfl (Nat.le_of_ble_eq_true rfl) dL_law_811 ⟨g_rc (by omega), g_rs (by omega)⟩) (fun _ _ hx => False.elim hx) (fun r811 w1 hw => ?_)
  obtain ⟨rfl, rfl⟩ := hw
  refine gV_sub (ws' := (cW h cI cJ lc la hr uP uC uR tn pn pg pq rl sr gcb gpb tg tm tl pm ps) ++ ((mW k cI th_805 mP mC mR mal mhd mn mg mt mh_805 mz mset mfr mma mde mls) ++ (oW ho cJ ov_793))) [0, 1, 2, 3, 4, 5, 6, 7, 8, 9, 10, 11, 12, 14, 15, 16, 17, 18, 19, 20, 21, 22, 23, 13] (by decide) rfl rfl ?_
  refine gV_iload C dL_law_814 1 rfl ?_
  refine gV_icmp_eq (tgt := 821) C dL_law_816 (by decide) (fun c816 => ?_) (fun c816 => ?_)
  · replace hp := g_ift hp c816
    refine gV_iload C dL_law_821 1 rfl ?_
    refine gV_if_ne (tgt := 838) C dL_law_823 (by decide) (fun c823 => ?_) (fun c823 => ?_)
    · replace hp := g_iff hp c823
      refine gV_loc [2, 3, 4, 5, 6] rfl ?_
      exact J838 _ _ (by omega) (by omega) th_805 mh_805 ov_793 hp
    · replace hp := g_ift hp c823
      refine gV_aload_n C dL_law_826 rfl 5 rfl ?_
      refine gV_iconst (v := 0) C dL_law_827 rfl ?_
      obtain ⟨hi828, hp⟩ := g_idx hp
      refine gV_lald C 23 rfl 1 rfl hi828 dL_law_828 ?_
      refine gV_iload C dL_law_829 0 rfl ?_
      refine gV_i2l C dL_law_831 ?_
      refine gV_lcmp C dL_law_832 ?_
      refine gV_if_eq (tgt := 838) C dL_law_833 (by decide) (fun c833 => ?_) (fun c833 => ?_)
      · replace hp := g_ift hp c833
        refine gV_loc [2, 3, 4, 5, 6] rfl ?_
        exact J838 _ _ (by omega) (by omega) th_805 mh_805 ov_793 hp
      · replace hp := g_iff hp c833
        refine gV_iconst (v := 0) C dL_law_836 rfl ?_
        exact absurd hp (by decide)
  · replace hp := g_iff hp c816
    refine gV_iconst (v := 0) C dL_law_819 rfl ?_
    exact absurd hp (by decide)
def pf_law_c13 (kL : Int32 → Int32 → Int32 → Int32 → Int32 → Int32 → Int32 → Int32 → Int32 → Int32 → (Nat → Int32) → (Nat → Int32) → (Nat → Int32) → (Nat → Int64) → (Nat → Int32) → (Nat → Int32) → (Nat → Int32) → (Nat → Int32) → (Nat → Int32) → Int32 → Int32 → Int32 → Int32 → Int32 → Int32 → Int32 → (Nat → Int32) → (Nat → Int32) → (Nat → Int32) → (Nat → Int32) → (Nat → Int32) → (Nat → Int32) → (Nat → Int32) → (Nat → Int32) → (Nat → Int32) → (Nat → Int64) → Option Int32) (L : Nat) (xs : Nat → Int32) (v4 : Int32) (lc : Int32) (la : Int32) (hr : Int32) (uP : Int32) (uC : Int32) (uR : Int32) (tn : Int32) (pn : Int32) (pg : Int32) (pq : Int32) (rl : Nat → Int32) (sr : Nat → Int32) (gcb : Nat → Int32) (gpb : Nat → Int64) (tg : Nat → Int32) (tm : Nat → Int32) (tl : Nat → Int32) (pm : Nat → Int32) (ps : Nat → Int32) (th : Int32) (mP : Int32) (mC : Int32) (mR : Int32) (mal : Int32) (mhd : Int32) (mn : Int32) (mg : Nat → Int32) (mt : Nat → Int32) (mh : Nat → Int32) (mz : Nat → Int32) (mset : Nat → Int32) (mfr : Nat → Int32) (mma : Nat → Int32) (mde : Nat → Int32) (mls : Nat → Int32) (ov : Nat → Int64) : Option Int32 := (ob1 (pf_X3_left lc) fun r842 => (ob3 (pf_X4_left th mP mC mR mal mn mg mt mh) fun r846 th_846 mh_846 => (if r842 = r846 then (kL lc la hr uP uC uR tn pn pg pq rl sr gcb gpb tg tm tl pm ps th_846 mP mC mR mal mhd mn mg mt mh_846 mz mset mfr mma mde mls ov) else (some 0))))
theorem hdv_X3_left : yX3_left.cls = RX3 ∧ yX3_left.cls ≠ "java/lang/invoke/MethodHandle" ∧ yX3_left.cls ≠ "java/lang/invoke/VarHandle" ∧ (parseMethodDescriptor yX3_left.desc).map (fun d => d.parameters.length) = some 0 := by decide +kernel
theorem hdv_X4_left : yX4_left.cls = RX4 ∧ yX4_left.cls ≠ "java/lang/invoke/MethodHandle" ∧ yX4_left.cls ≠ "java/lang/invoke/VarHandle" ∧ (parseMethodDescriptor yX4_left.desc).map (fun d => d.parameters.length) = some 0 := by decide +kernel
set_option maxHeartbeats 4000000 in
set_option maxRecDepth 100000 in
theorem mt_law_c13 {p : Program} {l : Launch} (hl : l.stackTraces = false) {e : Env} {s : State} {m : MethodId} {args : Array Value} {below : List Frame} {meth : Method} {c : Code} {A : Nat → Prop} {D : va_G} {Q : State → Prop} (h k : Nat → Nat) (ho : Nat) (cI cJ : ClassId) {b L : Nat} {xs : Nat → Int32} (C : gC p l s m args meth c A D [(cI, .int), (cJ, .long)] 7 RL cL_law wsL_law) (hX : va_X b L xs s s.heap) (hbl : b < s.heap.size) (hbA : ¬ A b) (kL : Int32 → Int32 → Int32 → Int32 → Int32 → Int32 → Int32 → Int32 → Int32 → Int32 → (Nat → Int32) → (Nat → Int32) → (Nat → Int32) → (Nat → Int64) → (Nat → Int32) → (Nat → Int32) → (Nat → Int32) → (Nat → Int32) → (Nat → Int32) → Int32 → Int32 → Int32 → Int32 → Int32 → Int32 → Int32 → (Nat → Int32) → (Nat → Int32) → (Nat → Int32) → (Nat → Int32) → (Nat → Int32) → (Nat → Int32) → (Nat → Int32) → (Nat → Int32) → (Nat → Int32) → (Nat → Int64) → Option Int32) (K N K' N' : Nat) (hK : K + 8 ≤ K') (hN : N + 48 ≤ N') (hK' : K' ≤ 601024) (hN' : N' ≤ 7293034) (v4 : Int32) (JE : ∀ (lc : Int32) (la : Int32) (hr : Int32) (uP : Int32) (uC : Int32) (uR : Int32) (tn : Int32) (pn : Int32) (pg : Int32) (pq : Int32) (rl : Nat → Int32) (sr : Nat → Int32) (gcb : Nat → Int32) (gpb : Nat → Int64) (tg : Nat → Int32) (tm : Nat → Int32) (tl : Nat → Int32) (pm : Nat → Int32) (ps : Nat → Int32) (th : Int32) (mP : Int32) (mC : Int32) (mR : Int32) (mal : Int32) (mhd : Int32) (mn : Int32) (mg : Nat → Int32) (mt : Nat → Int32) (mh : Nat → Int32) (mz : Nat → Int32) (mset : Nat → Int32) (mfr : Nat → Int32) (mma : Nat → Int32) (mde : Nat → Int32) (mls : Nat → Int32) (ov : Nat → Int64), kL lc la hr uP uC uR tn pn pg pq rl sr gcb gpb tg tm tl pm ps th mP mC mR mal mhd mn mg mt mh mz mset mfr mma mde mls ov = some 1 → gV p l e room_1 s m args below meth c A D 7 Q ((cW h cI cJ lc la hr uP uC uR tn pn pg pq rl sr gcb gpb tg tm tl pm ps) ++ ((mW k cI th mP mC mR mal mhd mn mg mt mh mz mset mfr mma mde mls) ++ (oW ho cJ ov))) [(0, .ref b), (1, .ref (h 0)), (2, .ref (k 0)), (3, .ref ho), (4, .int v4)] K' N' 1466 []) (lc : Int32) (la : Int32) (hr : Int32) (uP : Int32) (uC : Int32) (uR : Int32) (tn : Int32) (pn : Int32) (pg : Int32) (pq : Int32) (rl : Nat → Int32) (sr : Nat → Int32) (gcb : Nat → Int32) (gpb : Nat → Int64) (tg : Nat → Int32) (tm : Nat → Int32) (tl : Nat → Int32) (pm : Nat → Int32) (ps : Nat → Int32) (th : Int32) (mP : Int32) (mC : Int32) (mR : Int32) (mal : Int32) (mhd : Int32) (mn : Int32) (mg : Nat → Int32) (mt : Nat → Int32) (mh : Nat → Int32) (mz : Nat → Int32) (mset : Nat → Int32) (mfr : Nat → Int32) (mma : Nat → Int32) (mde : Nat → Int32) (mls : Nat → Int32) (ov : Nat → Int64) (hp : pf_law_c13 kL L xs v4 lc la hr uP uC uR tn pn pg pq rl sr gcb gpb tg tm tl pm ps th mP mC mR mal mhd mn mg mt mh mz mset mfr mma mde mls ov = some 1) : gV p l e room_1 s m args below meth c A D 7 Q ((cW h cI cJ lc la hr uP uC uR tn pn pg pq rl sr gcb gpb tg tm tl pm ps) ++ ((mW k cI th mP mC mR mal mhd mn mg mt mh mz mset mfr mma mde mls) ++ (oW ho cJ ov))) [(0, .ref b), (1, .ref (h 0)), (2, .ref (k 0)), (3, .ref ho), (4, .int v4)] K N 841 [] := by
  unfold pf_law_c13 at hp
  refine gV_aload_n C dL_law_841 rfl 1 rfl ?_
  obtain ⟨r842q, hq842, hp⟩ := g_ob1 hp
  refine gV_calli C (gsub_cmo_c _ _ rfl rfl) (gV_runV (As := []) (rest := []) C (mt_X3_left hl D h cI cJ lc la hr uP uC uR tn pn pg pq rl sr gcb gpb tg tm tl pm ps r842q hq842) (cwV 0 C.2.2.2.2.1 gL_law_X3_left rfl rfl rfl hdv_X3_left ⟨Nat.le_of_ble_eq_true rfl, Nat.le_of_ble_eq_true rfl⟩) (gsub_cmo_c _ _ rfl rfl) 0 rfl rfl rfl rfl (Nat.le_of_ble_eq_true rfl) dL_law_842 ⟨g_rc (by omega), g_rs (by omega)⟩) (fun _ _ hx => False.elim hx) (fun r842 w1 hw => ?_)
  obtain ⟨rfl, rfl⟩ := hw
  refine gV_sub (ws' := (cW h cI cJ lc la hr uP uC uR tn pn pg pq rl sr gcb gpb tg tm tl pm ps) ++ ((mW k cI th mP mC mR mal mhd mn mg mt mh mz mset mfr mma mde mls) ++ (oW ho cJ ov))) [11, 12, 13, 14, 15, 16, 17, 18, 19, 20, 21, 22, 23, 0, 1, 2, 3, 4, 5, 6, 7, 8, 9, 10] (by decide) rfl rfl ?_
  refine gV_aload_n C dL_law_845 rfl 2 rfl ?_
  obtain ⟨r846q, th_846, mh_846, hq846, hp⟩ := g_ob3 hp
  refine gV_calli C (gsub_cmo_m _ _ rfl rfl) (gV_runV (As := []) (rest := [.int r842]) C (mt_X4_left hl D k cI cJ th mP mC mR mal mhd mn mg mt mh mz mset mfr mma mde mls r846q th_846 mh_846 hq846) (cwV 0 C.2.2.2.2.1 gL_law_X4_left rfl rfl rfl hdv_X4_left ⟨Nat.le_of_ble_eq_true rfl, Nat.le_of_ble_eq_true rfl⟩) (gsub_cmo_m _ _ rfl rfl) 13 rfl rfl rfl rfl (Nat.le_of_ble_eq_true rfl) dL_law_846 ⟨g_rc (by omega), g_rs (by omega)⟩) (fun _ _ hx => False.elim hx) (fun r846 w1 hw => ?_)
  obtain ⟨rfl, rfl⟩ := hw
  refine gV_sub (ws' := (cW h cI cJ lc la hr uP uC uR tn pn pg pq rl sr gcb gpb tg tm tl pm ps) ++ ((mW k cI th_846 mP mC mR mal mhd mn mg mt mh_846 mz mset mfr mma mde mls) ++ (oW ho cJ ov))) [0, 1, 2, 3, 4, 5, 6, 7, 8, 9, 10, 11, 12, 14, 15, 16, 17, 18, 19, 20, 21, 22, 23, 13] (by decide) rfl rfl ?_
  refine gV_icmp_eq (tgt := 1466) C dL_law_849 (by decide) (fun c849 => ?_) (fun c849 => ?_)
  · replace hp := g_ift hp c849
    refine gV_widen (k' := K') (n' := N') (by omega) (by omega) ?_
    exact JE lc la hr uP uC uR tn pn pg pq rl sr gcb gpb tg tm tl pm ps th_846 mP mC mR mal mhd mn mg mt mh_846 mz mset mfr mma mde mls ov hp
  · replace hp := g_iff hp c849
    refine gV_iconst (v := 0) C dL_law_852 rfl ?_
    exact absurd hp (by decide)
def pf_law_c14 (kL : Int32 → Int32 → Int32 → Int32 → Int32 → Int32 → Int32 → Int32 → Int32 → Int32 → (Nat → Int32) → (Nat → Int32) → (Nat → Int32) → (Nat → Int64) → (Nat → Int32) → (Nat → Int32) → (Nat → Int32) → (Nat → Int32) → (Nat → Int32) → Int32 → Int32 → Int32 → Int32 → Int32 → Int32 → Int32 → (Nat → Int32) → (Nat → Int32) → (Nat → Int32) → (Nat → Int32) → (Nat → Int32) → (Nat → Int32) → (Nat → Int32) → (Nat → Int32) → (Nat → Int32) → (Nat → Int64) → Option Int32) (L : Nat) (xs : Nat → Int32) (v4 : Int32) (lc : Int32) (la : Int32) (hr : Int32) (uP : Int32) (uC : Int32) (uR : Int32) (tn : Int32) (pn : Int32) (pg : Int32) (pq : Int32) (rl : Nat → Int32) (sr : Nat → Int32) (gcb : Nat → Int32) (gpb : Nat → Int64) (tg : Nat → Int32) (tm : Nat → Int32) (tl : Nat → Int32) (pm : Nat → Int32) (ps : Nat → Int32) (th : Int32) (mP : Int32) (mC : Int32) (mR : Int32) (mal : Int32) (mhd : Int32) (mn : Int32) (mg : Nat → Int32) (mt : Nat → Int32) (mh : Nat → Int32) (mz : Nat → Int32) (mset : Nat → Int32) (mfr : Nat → Int32) (mma : Nat → Int32) (mde : Nat → Int32) (mls : Nat → Int32) (ov : Nat → Int64) : Option Int32 := (ob1 (pf_X3_leftByAll la uP uR tn gcb gpb tg tm) fun r855 => (ob3 (pf_X4_leftByAll th mP mC mR mal mn mg mt mh) fun r859 th_859 mh_859 => (if r855 = r859 then (kL lc la hr uP uC uR tn pn pg pq rl sr gcb gpb tg tm tl pm ps th_859 mP mC mR mal mhd mn mg mt mh_859 mz mset mfr mma mde mls ov) else (some 0))))
theorem hdv_X3_leftByAll : yX3_leftByAll.cls = RX3 ∧ yX3_leftByAll.cls ≠ "java/lang/invoke/MethodHandle" ∧ yX3_leftByAll.cls ≠ "java/lang/invoke/VarHandle" ∧ (parseMethodDescriptor yX3_leftByAll.desc).map (fun d => d.parameters.length) = some 0 := by decide +kernel
theorem hdv_X4_leftByAll : yX4_leftByAll.cls = RX4 ∧ yX4_leftByAll.cls ≠ "java/lang/invoke/MethodHandle" ∧ yX4_leftByAll.cls ≠ "java/lang/invoke/VarHandle" ∧ (parseMethodDescriptor yX4_leftByAll.desc).map (fun d => d.parameters.length) = some 0 := by decide +kernel
set_option maxHeartbeats 4000000 in
set_option maxRecDepth 100000 in
theorem mt_law_c14 {p : Program} {l : Launch} (hl : l.stackTraces = false) {e : Env} {s : State} {m : MethodId} {args : Array Value} {below : List Frame} {meth : Method} {c : Code} {A : Nat → Prop} {D : va_G} {Q : State → Prop} (h k : Nat → Nat) (ho : Nat) (cI cJ : ClassId) {b L : Nat} {xs : Nat → Int32} (C : gC p l s m args meth c A D [(cI, .int), (cJ, .long)] 7 RL cL_law wsL_law) (hX : va_X b L xs s s.heap) (hbl : b < s.heap.size) (hbA : ¬ A b) (kL : Int32 → Int32 → Int32 → Int32 → Int32 → Int32 → Int32 → Int32 → Int32 → Int32 → (Nat → Int32) → (Nat → Int32) → (Nat → Int32) → (Nat → Int64) → (Nat → Int32) → (Nat → Int32) → (Nat → Int32) → (Nat → Int32) → (Nat → Int32) → Int32 → Int32 → Int32 → Int32 → Int32 → Int32 → Int32 → (Nat → Int32) → (Nat → Int32) → (Nat → Int32) → (Nat → Int32) → (Nat → Int32) → (Nat → Int32) → (Nat → Int32) → (Nat → Int32) → (Nat → Int32) → (Nat → Int64) → Option Int32) (K N K' N' : Nat) (hK : K + 8 ≤ K') (hN : N + 48 ≤ N') (hK' : K' ≤ 601024) (hN' : N' ≤ 7293034) (v4 : Int32) (JE : ∀ (lc : Int32) (la : Int32) (hr : Int32) (uP : Int32) (uC : Int32) (uR : Int32) (tn : Int32) (pn : Int32) (pg : Int32) (pq : Int32) (rl : Nat → Int32) (sr : Nat → Int32) (gcb : Nat → Int32) (gpb : Nat → Int64) (tg : Nat → Int32) (tm : Nat → Int32) (tl : Nat → Int32) (pm : Nat → Int32) (ps : Nat → Int32) (th : Int32) (mP : Int32) (mC : Int32) (mR : Int32) (mal : Int32) (mhd : Int32) (mn : Int32) (mg : Nat → Int32) (mt : Nat → Int32) (mh : Nat → Int32) (mz : Nat → Int32) (mset : Nat → Int32) (mfr : Nat → Int32) (mma : Nat → Int32) (mde : Nat → Int32) (mls : Nat → Int32) (ov : Nat → Int64), kL lc la hr uP uC uR tn pn pg pq rl sr gcb gpb tg tm tl pm ps th mP mC mR mal mhd mn mg mt mh mz mset mfr mma mde mls ov = some 1 → gV p l e room_1 s m args below meth c A D 7 Q ((cW h cI cJ lc la hr uP uC uR tn pn pg pq rl sr gcb gpb tg tm tl pm ps) ++ ((mW k cI th mP mC mR mal mhd mn mg mt mh mz mset mfr mma mde mls) ++ (oW ho cJ ov))) [(0, .ref b), (1, .ref (h 0)), (2, .ref (k 0)), (3, .ref ho), (4, .int v4)] K' N' 1466 []) (lc : Int32) (la : Int32) (hr : Int32) (uP : Int32) (uC : Int32) (uR : Int32) (tn : Int32) (pn : Int32) (pg : Int32) (pq : Int32) (rl : Nat → Int32) (sr : Nat → Int32) (gcb : Nat → Int32) (gpb : Nat → Int64) (tg : Nat → Int32) (tm : Nat → Int32) (tl : Nat → Int32) (pm : Nat → Int32) (ps : Nat → Int32) (th : Int32) (mP : Int32) (mC : Int32) (mR : Int32) (mal : Int32) (mhd : Int32) (mn : Int32) (mg : Nat → Int32) (mt : Nat → Int32) (mh : Nat → Int32) (mz : Nat → Int32) (mset : Nat → Int32) (mfr : Nat → Int32) (mma : Nat → Int32) (mde : Nat → Int32) (mls : Nat → Int32) (ov : Nat → Int64) (hp : pf_law_c14 kL L xs v4 lc la hr uP uC uR tn pn pg pq rl sr gcb gpb tg tm tl pm ps th mP mC mR mal mhd mn mg mt mh mz mset mfr mma mde mls ov = some 1) : gV p l e room_1 s m args below meth c A D 7 Q ((cW h cI cJ lc la hr uP uC uR tn pn pg pq rl sr gcb gpb tg tm tl pm ps) ++ ((mW k cI th mP mC mR mal mhd mn mg mt mh mz mset mfr mma mde mls) ++ (oW ho cJ ov))) [(0, .ref b), (1, .ref (h 0)), (2, .ref (k 0)), (3, .ref ho), (4, .int v4)] K N 854 [] := by
  unfold pf_law_c14 at hp
  refine gV_aload_n C dL_law_854 rfl 1 rfl ?_
  obtain ⟨r855q, hq855, hp⟩ := g_ob1 hp
  refine gV_calli C (gsub_cmo_c _ _ rfl rfl) (gV_runV (As := []) (rest := []) C (mt_X3_leftByAll hl D h cI cJ lc la hr uP uC uR tn pn pg pq rl sr gcb gpb tg tm tl pm ps r855q hq855) (cwV 0 C.2.2.2.2.1 gL_law_X3_leftByAll rfl rfl rfl hdv_X3_leftByAll ⟨Nat.le_of_ble_eq_true rfl, Nat.le_of_ble_eq_true rfl⟩) (gsub_cmo_c _ _ rfl rfl) 0 rfl rfl rfl rfl (Nat.le_of_ble_eq_true rfl) dL_law_855 ⟨g_rc (by omega), g_rs (by omega)⟩) (fun _ _ hx => False.elim hx) (fun r855 w1 hw => ?_)
  obtain ⟨rfl, rfl⟩ := hw
  refine gV_sub (ws' := (cW h cI cJ lc la hr uP uC uR tn pn pg pq rl sr gcb gpb tg tm tl pm ps) ++ ((mW k cI th mP mC mR mal mhd mn mg mt mh mz mset mfr mma mde mls) ++ (oW ho cJ ov))) [11, 12, 13, 14, 15, 16, 17, 18, 19, 20, 21, 22, 23, 0, 1, 2, 3, 4, 5, 6, 7, 8, 9, 10] (by decide) rfl rfl ?_
  refine gV_aload_n C dL_law_858 rfl 2 rfl ?_
  obtain ⟨r859q, th_859, mh_859, hq859, hp⟩ := g_ob3 hp
  refine gV_calli C (gsub_cmo_m _ _ rfl rfl) (gV_runV (As := []) (rest := [.int r855]) C (mt_X4_leftByAll hl D k cI cJ th mP mC mR mal mhd mn mg mt mh mz mset mfr mma mde mls r859q th_859 mh_859 hq859) (cwV 0 C.2.2.2.2.1 gL_law_X4_leftByAll rfl rfl rfl hdv_X4_leftByAll ⟨Nat.le_of_ble_eq_true rfl, Nat.le_of_ble_eq_true rfl⟩) (gsub_cmo_m _ _ rfl rfl) 13 rfl rfl rfl rfl (Nat.le_of_ble_eq_true rfl) dL_law_859 ⟨g_rc (by omega), g_rs (by omega)⟩) (fun _ _ hx => False.elim hx) (fun r859 w1 hw => ?_)
  obtain ⟨rfl, rfl⟩ := hw
  refine gV_sub (ws' := (cW h cI cJ lc la hr uP uC uR tn pn pg pq rl sr gcb gpb tg tm tl pm ps) ++ ((mW k cI th_859 mP mC mR mal mhd mn mg mt mh_859 mz mset mfr mma mde mls) ++ (oW ho cJ ov))) [0, 1, 2, 3, 4, 5, 6, 7, 8, 9, 10, 11, 12, 14, 15, 16, 17, 18, 19, 20, 21, 22, 23, 13] (by decide) rfl rfl ?_
  refine gV_icmp_eq (tgt := 1466) C dL_law_862 (by decide) (fun c862 => ?_) (fun c862 => ?_)
  · replace hp := g_ift hp c862
    refine gV_widen (k' := K') (n' := N') (by omega) (by omega) ?_
    exact JE lc la hr uP uC uR tn pn pg pq rl sr gcb gpb tg tm tl pm ps th_859 mP mC mR mal mhd mn mg mt mh_859 mz mset mfr mma mde mls ov hp
  · replace hp := g_iff hp c862
    refine gV_iconst (v := 0) C dL_law_865 rfl ?_
    exact absurd hp (by decide)
def pf_law_c15_j927 (kL : Int32 → Int32 → Int32 → Int32 → Int32 → Int32 → Int32 → Int32 → Int32 → Int32 → (Nat → Int32) → (Nat → Int32) → (Nat → Int32) → (Nat → Int64) → (Nat → Int32) → (Nat → Int32) → (Nat → Int32) → (Nat → Int32) → (Nat → Int32) → Int32 → Int32 → Int32 → Int32 → Int32 → Int32 → Int32 → (Nat → Int32) → (Nat → Int32) → (Nat → Int32) → (Nat → Int32) → (Nat → Int32) → (Nat → Int32) → (Nat → Int32) → (Nat → Int32) → (Nat → Int32) → (Nat → Int64) → Option Int32) (lc : Int32) (la : Int32) (hr : Int32) (uP : Int32) (uC : Int32) (uR : Int32) (tn : Int32) (pn : Int32) (pg : Int32) (pq : Int32) (rl : Nat → Int32) (sr : Nat → Int32) (gcb : Nat → Int32) (gpb : Nat → Int64) (tg : Nat → Int32) (tm : Nat → Int32) (tl : Nat → Int32) (pm : Nat → Int32) (ps : Nat → Int32) (mP : Int32) (mC : Int32) (mR : Int32) (mal : Int32) (mhd : Int32) (mn : Int32) (mg : Nat → Int32) (mt : Nat → Int32) (mz : Nat → Int32) (mset : Nat → Int32) (mfr : Nat → Int32) (mma : Nat → Int32) (mde : Nat → Int32) (mls : Nat → Int32) (th : Int32) (mh : Nat → Int32) (ov : Nat → Int64) : Option (Int32) := (kL lc la hr uP uC uR tn pn pg pq rl sr gcb gpb tg tm tl pm ps th mP mC mR mal mhd mn mg mt mh mz mset mfr mma mde mls ov)
def pf_law_c15_j921 (kL : Int32 → Int32 → Int32 → Int32 → Int32 → Int32 → Int32 → Int32 → Int32 → Int32 → (Nat → Int32) → (Nat → Int32) → (Nat → Int32) → (Nat → Int64) → (Nat → Int32) → (Nat → Int32) → (Nat → Int32) → (Nat → Int32) → (Nat → Int32) → Int32 → Int32 → Int32 → Int32 → Int32 → Int32 → Int32 → (Nat → Int32) → (Nat → Int32) → (Nat → Int32) → (Nat → Int32) → (Nat → Int32) → (Nat → Int32) → (Nat → Int32) → (Nat → Int32) → (Nat → Int32) → (Nat → Int64) → Option Int32) (lc : Int32) (la : Int32) (hr : Int32) (uP : Int32) (uC : Int32) (uR : Int32) (tn : Int32) (pn : Int32) (pg : Int32) (pq : Int32) (rl : Nat → Int32) (sr : Nat → Int32) (gcb : Nat → Int32) (gpb : Nat → Int64) (tg : Nat → Int32) (tm : Nat → Int32) (tl : Nat → Int32) (pm : Nat → Int32) (ps : Nat → Int32) (mP : Int32) (mC : Int32) (mR : Int32) (mal : Int32) (mhd : Int32) (mn : Int32) (mg : Nat → Int32) (mt : Nat → Int32) (mz : Nat → Int32) (mset : Nat → Int32) (mfr : Nat → Int32) (mma : Nat → Int32) (mde : Nat → Int32) (mls : Nat → Int32) (s0 : Int64) (s1 : Int64) (th : Int32) (mh : Nat → Int32) (ov : Nat → Int64) : Option (Int32) := (if (lg_cmp s1 s0) = 0 then (pf_law_c15_j927 kL lc la hr uP uC uR tn pn pg pq rl sr gcb gpb tg tm tl pm ps mP mC mR mal mhd mn mg mt mz mset mfr mma mde mls th mh ov) else (some 0))
def pf_law_c15 (kL : Int32 → Int32 → Int32 → Int32 → Int32 → Int32 → Int32 → Int32 → Int32 → Int32 → (Nat → Int32) → (Nat → Int32) → (Nat → Int32) → (Nat → Int64) → (Nat → Int32) → (Nat → Int32) → (Nat → Int32) → (Nat → Int32) → (Nat → Int32) → Int32 → Int32 → Int32 → Int32 → Int32 → Int32 → Int32 → (Nat → Int32) → (Nat → Int32) → (Nat → Int32) → (Nat → Int32) → (Nat → Int32) → (Nat → Int32) → (Nat → Int32) → (Nat → Int32) → (Nat → Int32) → (Nat → Int64) → Option Int32) (L : Nat) (xs : Nat → Int32) (v4 : Int32) (lc : Int32) (la : Int32) (hr : Int32) (uP : Int32) (uC : Int32) (uR : Int32) (tn : Int32) (pn : Int32) (pg : Int32) (pq : Int32) (rl : Nat → Int32) (sr : Nat → Int32) (gcb : Nat → Int32) (gpb : Nat → Int64) (tg : Nat → Int32) (tm : Nat → Int32) (tl : Nat → Int32) (pm : Nat → Int32) (ps : Nat → Int32) (th : Int32) (mP : Int32) (mC : Int32) (mR : Int32) (mal : Int32) (mhd : Int32) (mn : Int32) (mg : Nat → Int32) (mt : Nat → Int32) (mh : Nat → Int32) (mz : Nat → Int32) (mset : Nat → Int32) (mfr : Nat → Int32) (mma : Nat → Int32) (mde : Nat → Int32) (mls : Nat → Int32) (ov : Nat → Int64) : Option Int32 := (gi (v4 + 1) L (ob2 (pf_L_isLeft la uR tn tl ov (xs (v4 + 1).toNatClampNeg)) fun r875 ov_875 => (gi (v4 + 1) L (ob3 (pf_X4_isLeft th mP mC mR mal mn mg mt mh (xs (v4 + 1).toNatClampNeg)) fun r887 th_887 mh_887 => (ob1 (pf_X4_thrown th_887) fun r893 => (if r893 = r875 then (if r875 = 0 then (gi 0 1 (if r887 = 0 then (pf_law_c15_j921 kL lc la hr uP uC uR tn pn pg pq rl sr gcb gpb tg tm tl pm ps mP mC mR mal mhd mn mg mt mz mset mfr mma mde mls 0 (ov_875 (0 : Int32).toNatClampNeg) th_887 mh_887 ov_875) else (pf_law_c15_j921 kL lc la hr uP uC uR tn pn pg pq rl sr gcb gpb tg tm tl pm ps mP mC mR mal mhd mn mg mt mz mset mfr mma mde mls 1 (ov_875 (0 : Int32).toNatClampNeg) th_887 mh_887 ov_875))) else (pf_law_c15_j927 kL lc la hr uP uC uR tn pn pg pq rl sr gcb gpb tg tm tl pm ps mP mC mR mal mhd mn mg mt mz mset mfr mma mde mls th_887 mh_887 ov_875)) else (some 0)))))))
theorem hds_L_isLeft : yL_isLeft.cls ≠ "java/lang/invoke/MethodHandle" ∧ yL_isLeft.cls ≠ "java/lang/invoke/VarHandle" ∧ (parseMethodDescriptor yL_isLeft.desc).map (fun d => d.parameters.length) = some 3 := by decide +kernel
theorem hdv_X4_isLeft : yX4_isLeft.cls = RX4 ∧ yX4_isLeft.cls ≠ "java/lang/invoke/MethodHandle" ∧ yX4_isLeft.cls ≠ "java/lang/invoke/VarHandle" ∧ (parseMethodDescriptor yX4_isLeft.desc).map (fun d => d.parameters.length) = some 1 := by decide +kernel
set_option maxHeartbeats 4000000 in
set_option maxRecDepth 100000 in
theorem mt_law_c15 {p : Program} {l : Launch} (hl : l.stackTraces = false) {e : Env} {s : State} {m : MethodId} {args : Array Value} {below : List Frame} {meth : Method} {c : Code} {A : Nat → Prop} {D : va_G} {Q : State → Prop} (h k : Nat → Nat) (ho : Nat) (cI cJ : ClassId) {b L : Nat} {xs : Nat → Int32} (C : gC p l s m args meth c A D [(cI, .int), (cJ, .long)] 7 RL cL_law wsL_law) (hX : va_X b L xs s s.heap) (hbl : b < s.heap.size) (hbA : ¬ A b) (kL : Int32 → Int32 → Int32 → Int32 → Int32 → Int32 → Int32 → Int32 → Int32 → Int32 → (Nat → Int32) → (Nat → Int32) → (Nat → Int32) → (Nat → Int64) → (Nat → Int32) → (Nat → Int32) → (Nat → Int32) → (Nat → Int32) → (Nat → Int32) → Int32 → Int32 → Int32 → Int32 → Int32 → Int32 → Int32 → (Nat → Int32) → (Nat → Int32) → (Nat → Int32) → (Nat → Int32) → (Nat → Int32) → (Nat → Int32) → (Nat → Int32) → (Nat → Int32) → (Nat → Int32) → (Nat → Int64) → Option Int32) (K N K' N' : Nat) (hK : K + 8 ≤ K') (hN : N + 48 ≤ N') (hK' : K' ≤ 601024) (hN' : N' ≤ 7293034) (v4 : Int32) (JE : ∀ (lc : Int32) (la : Int32) (hr : Int32) (uP : Int32) (uC : Int32) (uR : Int32) (tn : Int32) (pn : Int32) (pg : Int32) (pq : Int32) (rl : Nat → Int32) (sr : Nat → Int32) (gcb : Nat → Int32) (gpb : Nat → Int64) (tg : Nat → Int32) (tm : Nat → Int32) (tl : Nat → Int32) (pm : Nat → Int32) (ps : Nat → Int32) (th : Int32) (mP : Int32) (mC : Int32) (mR : Int32) (mal : Int32) (mhd : Int32) (mn : Int32) (mg : Nat → Int32) (mt : Nat → Int32) (mh : Nat → Int32) (mz : Nat → Int32) (mset : Nat → Int32) (mfr : Nat → Int32) (mma : Nat → Int32) (mde : Nat → Int32) (mls : Nat → Int32) (ov : Nat → Int64), kL lc la hr uP uC uR tn pn pg pq rl sr gcb gpb tg tm tl pm ps th mP mC mR mal mhd mn mg mt mh mz mset mfr mma mde mls ov = some 1 → gV p l e room_1 s m args below meth c A D 7 Q ((cW h cI cJ lc la hr uP uC uR tn pn pg pq rl sr gcb gpb tg tm tl pm ps) ++ ((mW k cI th mP mC mR mal mhd mn mg mt mh mz mset mfr mma mde mls) ++ (oW ho cJ ov))) [(0, .ref b), (1, .ref (h 0)), (2, .ref (k 0)), (3, .ref ho), (4, .int v4)] K' N' 1466 []) (lc : Int32) (la : Int32) (hr : Int32) (uP : Int32) (uC : Int32) (uR : Int32) (tn : Int32) (pn : Int32) (pg : Int32) (pq : Int32) (rl : Nat → Int32) (sr : Nat → Int32) (gcb : Nat → Int32) (gpb : Nat → Int64) (tg : Nat → Int32) (tm : Nat → Int32) (tl : Nat → Int32) (pm : Nat → Int32) (ps : Nat → Int32) (th : Int32) (mP : Int32) (mC : Int32) (mR : Int32) (mal : Int32) (mhd : Int32) (mn : Int32) (mg : Nat → Int32) (mt : Nat → Int32) (mh : Nat → Int32) (mz : Nat → Int32) (mset : Nat → Int32) (mfr : Nat → Int32) (mma : Nat → Int32) (mde : Nat → Int32) (mls : Nat → Int32) (ov : Nat → Int64) (hp : pf_law_c15 kL L xs v4 lc la hr uP uC uR tn pn pg pq rl sr gcb gpb tg tm tl pm ps th mP mC mR mal mhd mn mg mt mh mz mset mfr mma mde mls ov = some 1) : gV p l e room_1 s m args below meth c A D 7 Q ((cW h cI cJ lc la hr uP uC uR tn pn pg pq rl sr gcb gpb tg tm tl pm ps) ++ ((mW k cI th mP mC mR mal mhd mn mg mt mh mz mset mfr mma mde mls) ++ (oW ho cJ ov))) [(0, .ref b), (1, .ref (h 0)), (2, .ref (k 0)), (3, .ref ho), (4, .int v4)] K N 867 [] := by
  unfold pf_law_c15 at hp
  have J927 : ∀ (K1 N1 : Nat), K1 + 2 ≤ K' → N1 + 12 ≤ N' → ∀ (th : Int32) (mh : Nat → Int32) (ov : Nat → Int64), pf_law_c15_j927 kL lc la hr uP uC uR tn pn pg pq rl sr gcb gpb tg tm tl pm ps mP mC mR mal mhd mn mg mt mz mset mfr mma mde mls th mh ov = some 1 → gV p l e room_1 s m args below meth c A D 7 Q ((cW h cI cJ lc la hr uP uC uR tn pn pg pq rl sr gcb gpb tg tm tl pm ps) ++ ((mW k cI th mP mC mR mal mhd mn mg mt mh mz mset mfr mma mde mls) ++ (oW ho cJ ov))) [(0, .ref b), (1, .ref (h 0)), (2, .ref (k 0)), (3, .ref ho), (4, .int v4)] K1 N1 927 [] := by
    intro K1 N1 hK1 hN1 th mh ov hp
    unfold pf_law_c15_j927 at hp
    refine gV_goto (tgt := 1466) C dL_law_927 (by decide) ?_
    refine gV_widen (k' := K') (n' := N') (by omega) (by omega) ?_
    exact JE lc la hr uP uC uR tn pn pg pq rl sr gcb gpb tg tm tl pm ps th mP mC mR mal mhd mn mg mt mh mz mset mfr mma mde mls ov hp
  have J921 : ∀ (K1 N1 : Nat), K1 + 2 ≤ K' → N1 + 12 ≤ N' → ∀ (s0 : Int64) (s1 : Int64) (th : Int32) (mh : Nat → Int32) (ov : Nat → Int64), pf_law_c15_j921 kL lc la hr uP uC uR tn pn pg pq rl sr gcb gpb tg tm tl pm ps mP mC mR mal mhd mn mg mt mz mset mfr mma mde mls s0 s1 th mh ov = some 1 → gV p l e room_1 s m args below meth c A D 7 Q ((cW h cI cJ lc la hr uP uC uR tn pn pg pq rl sr gcb gpb tg tm tl pm ps) ++ ((mW k cI th mP mC mR mal mhd mn mg mt mh mz mset mfr mma mde mls) ++ (oW ho cJ ov))) [(0, .ref b), (1, .ref (h 0)), (2, .ref (k 0)), (3, .ref ho), (4, .int v4)] K1 N1 921 [.long s0, .long s1] := by
    intro K1 N1 hK1 hN1 s0 s1 th mh ov hp
    unfold pf_law_c15_j921 at hp
    refine gV_lcmp C dL_law_921 ?_
    refine gV_if_eq (tgt := 927) C dL_law_922 (by decide) (fun c922 => ?_) (fun c922 => ?_)
    · replace hp := g_ift hp c922
      exact J927 _ _ (by omega) (by omega) th mh ov hp
    · replace hp := g_iff hp c922
      refine gV_iconst (v := 0) C dL_law_925 rfl ?_
      exact absurd hp (by decide)
  refine gV_aload_n C dL_law_867 rfl 1 rfl ?_
  refine gV_aload_n C dL_law_868 rfl 0 rfl ?_
  refine gV_iload C dL_law_869 4 rfl ?_
  refine gV_iconst (v := 1) C dL_law_871 rfl ?_
  refine gV_iadd C dL_law_872 ?_
  obtain ⟨hi873, hp⟩ := g_idx hp
  refine gV_sld C hX hbl hbA hi873 dL_law_873 ?_
  refine gV_aload_n C dL_law_874 rfl 3 rfl ?_
  obtain ⟨r875q, ov_875, hq875, hp⟩ := g_ob2 hp
  refine gV_calli C (gsub_cmo_co _ _ rfl rfl) (gV_runSX (As := [.ref (h 0), .int (xs (v4 + 1).toNatClampNeg), .ref ho]) (rest := []) C (mt_L_isLeft hl D h ho cI cJ lc la hr uP uC uR tn pn pg pq rl sr gcb gpb tg tm tl pm ps ov (xs (v4 + 1).toNatClampNeg) r875q ov_875 hq875) (vx_cwSW 3 C.2.2.2.2.1 gL_law_L_isLeft rfl rfl rfl hds_L_isLeft ⟨Nat.le_of_ble_eq_true rfl, Nat.le_of_ble_eq_true rfl⟩) (gsub_cmo_co _ _ rfl rfl) rfl rfl (Nat.le_of_ble_eq_true rfl) dL_law_875 ⟨g_rc (by omega), g_rs (by omega)⟩) (fun _ _ hx => False.elim hx) (fun r875 w1 hw => ?_)
  obtain ⟨rfl, rfl⟩ := hw
  refine gV_sub (ws' := (cW h cI cJ lc la hr uP uC uR tn pn pg pq rl sr gcb gpb tg tm tl pm ps) ++ ((mW k cI th mP mC mR mal mhd mn mg mt mh mz mset mfr mma mde mls) ++ (oW ho cJ ov_875))) [10, 11, 12, 13, 14, 15, 16, 17, 18, 19, 20, 21, 22, 0, 1, 2, 3, 4, 5, 6, 7, 8, 9, 23] (by decide) rfl rfl ?_
  refine gV_istore (lvs' := [(5, .int r875), (0, .ref b), (1, .ref (h 0)), (2, .ref (k 0)), (3, .ref ho), (4, .int v4)]) C dL_law_878 (by decide) rfl ?_
  refine gV_aload_n C dL_law_880 rfl 3 rfl ?_
  refine gV_aload_n C dL_law_881 rfl 1 rfl ?_
  refine gV_iload C dL_law_882 5 rfl ?_
  refine gV_iconst (v := 1) C dL_law_884 rfl ?_
  refine gV_iadd C dL_law_885 ?_
  obtain ⟨hi886, hp⟩ := g_idx hp
  refine gV_sld C hX hbl hbA hi886 dL_law_886 ?_
  obtain ⟨r887q, th_887, mh_887, hq887, hp⟩ := g_ob3 hp
  refine gV_calli C (gsub_cmo_m _ _ rfl rfl) (gV_runV (As := [.int (xs (v4 + 1).toNatClampNeg)]) (rest := []) C (mt_X4_isLeft hl D k cI cJ th mP mC mR mal mhd mn mg mt mh mz mset mfr mma mde mls (xs (v4 + 1).toNatClampNeg) r887q th_887 mh_887 hq887) (cwV 1 C.2.2.2.2.1 gL_law_X4_isLeft rfl rfl rfl hdv_X4_isLeft ⟨Nat.le_of_ble_eq_true rfl, Nat.le_of_ble_eq_true rfl⟩) (gsub_cmo_m _ _ rfl rfl) 13 rfl rfl rfl rfl (Nat.le_of_ble_eq_true rfl) dL_law_887 ⟨g_rc (by omega), g_rs (by omega)⟩) (fun _ _ hx => False.elim hx) (fun r887 w1 hw => ?_)
  obtain ⟨rfl, rfl⟩ := hw
  refine gV_sub (ws' := (cW h cI cJ lc la hr uP uC uR tn pn pg pq rl sr gcb gpb tg tm tl pm ps) ++ ((mW k cI th_887 mP mC mR mal mhd mn mg mt mh_887 mz mset mfr mma mde mls) ++ (oW ho cJ ov_875))) [0, 1, 2, 3, 4, 5, 6, 7, 8, 9, 10, 11, 12, 14, 15, 16, 17, 18, 19, 20, 21, 22, 23, 13] (by decide) rfl rfl ?_
  refine gV_istore (lvs' := [(6, .int r887), (5, .int r875), (0, .ref b), (1, .ref (h 0)), (2, .ref (k 0)), (3, .ref ho), (4, .int v4)]) C dL_law_890 (by decide) rfl ?_
  refine gV_aload_n C dL_law_892 rfl 4 rfl ?_
  obtain ⟨r893q, hq893, hp⟩ := g_ob1 hp
  refine gV_calli C (gsub_cmo_m _ _ rfl rfl) (gV_runV (As := []) (rest := []) C (mt_X4_thrown hl D k cI cJ th_887 mP mC mR mal mhd mn mg mt mh_887 mz mset mfr mma mde mls r893q hq893) (cwV 0 C.2.2.2.2.1 gL_law_X4_thrown rfl rfl rfl hdv_X4_thrown ⟨Nat.le_of_ble_eq_true rfl, Nat.le_of_ble_eq_true rfl⟩) (gsub_cmo_m _ _ rfl rfl) 13 rfl rfl rfl rfl (Nat.le_of_ble_eq_true rfl) dL_law_893 ⟨g_rc (by omega), g_rs (by omega)⟩) (fun _ _ hx => False.elim hx) (fun r893 w1 hw => ?_)
  obtain ⟨rfl, rfl⟩ := hw
  refine gV_sub (ws' := (cW h cI cJ lc la hr uP uC uR tn pn pg pq rl sr gcb gpb tg tm tl pm ps) ++ ((mW k cI th_887 mP mC mR mal mhd mn mg mt mh_887 mz mset mfr mma mde mls) ++ (oW ho cJ ov_875))) [0, 1, 2, 3, 4, 5, 6, 7, 8, 9, 10, 11, 12, 14, 15, 16, 17, 18, 19, 20, 21, 22, 23, 13] (by decide) rfl rfl ?_
  refine gV_iload C dL_law_896 1 rfl ?_
  refine gV_icmp_eq (tgt := 903) C dL_law_898 (by decide) (fun c898 => ?_) (fun c898 => ?_)
  · replace hp := g_ift hp c898
    refine gV_iload C dL_law_903 1 rfl ?_
    refine gV_if_ne (tgt := 927) C dL_law_905 (by decide) (fun c905 => ?_) (fun c905 => ?_)
    · replace hp := g_iff hp c905
      refine gV_loc [2, 3, 4, 5, 6] rfl ?_
      exact J927 _ _ (by omega) (by omega) th_887 mh_887 ov_875 hp
    · replace hp := g_ift hp c905
      refine gV_aload_n C dL_law_908 rfl 5 rfl ?_
      refine gV_iconst (v := 0) C dL_law_909 rfl ?_
      obtain ⟨hi910, hp⟩ := g_idx hp
      refine gV_lald C 23 rfl 1 rfl hi910 dL_law_910 ?_
      refine gV_iload C dL_law_911 0 rfl ?_
      refine gV_if_eq (tgt := 920) C dL_law_913 (by decide) (fun c913 => ?_) (fun c913 => ?_)
      · replace hp := g_ift hp c913
        refine gV_lconst (v := 0) C dL_law_920 rfl ?_
        refine gV_loc [2, 3, 4, 5, 6] rfl ?_
        exact J921 _ _ (by omega) (by omega) 0 (ov_875 (0 : Int32).toNatClampNeg) th_887 mh_887 ov_875 hp
      · replace hp := g_iff hp c913
        refine gV_lconst (v := 1) C dL_law_916 rfl ?_
        refine gV_goto (tgt := 921) C dL_law_917 (by decide) ?_
        refine gV_loc [2, 3, 4, 5, 6] rfl ?_
        exact J921 _ _ (by omega) (by omega) 1 (ov_875 (0 : Int32).toNatClampNeg) th_887 mh_887 ov_875 hp
  · replace hp := g_iff hp c898
    refine gV_iconst (v := 0) C dL_law_901 rfl ?_
    exact absurd hp (by decide)
def pf_law_c16_j983 (kL : Int32 → Int32 → Int32 → Int32 → Int32 → Int32 → Int32 → Int32 → Int32 → Int32 → (Nat → Int32) → (Nat → Int32) → (Nat → Int32) → (Nat → Int64) → (Nat → Int32) → (Nat → Int32) → (Nat → Int32) → (Nat → Int32) → (Nat → Int32) → Int32 → Int32 → Int32 → Int32 → Int32 → Int32 → Int32 → (Nat → Int32) → (Nat → Int32) → (Nat → Int32) → (Nat → Int32) → (Nat → Int32) → (Nat → Int32) → (Nat → Int32) → (Nat → Int32) → (Nat → Int32) → (Nat → Int64) → Option Int32) (lc : Int32) (la : Int32) (hr : Int32) (uP : Int32) (uC : Int32) (uR : Int32) (tn : Int32) (pn : Int32) (pg : Int32) (pq : Int32) (rl : Nat → Int32) (sr : Nat → Int32) (gcb : Nat → Int32) (gpb : Nat → Int64) (tg : Nat → Int32) (tm : Nat → Int32) (tl : Nat → Int32) (pm : Nat → Int32) (ps : Nat → Int32) (mP : Int32) (mC : Int32) (mR : Int32) (mal : Int32) (mhd : Int32) (mn : Int32) (mg : Nat → Int32) (mt : Nat → Int32) (mz : Nat → Int32) (mfr : Nat → Int32) (mma : Nat → Int32) (mde : Nat → Int32) (mls : Nat → Int32) (th : Int32) (mh : Nat → Int32) (mset : Nat → Int32) (ov : Nat → Int64) : Option (Int32) := (kL lc la hr uP uC uR tn pn pg pq rl sr gcb gpb tg tm tl pm ps th mP mC mR mal mhd mn mg mt mh mz mset mfr mma mde mls ov)
def pf_law_c16 (kL : Int32 → Int32 → Int32 → Int32 → Int32 → Int32 → Int32 → Int32 → Int32 → Int32 → (Nat → Int32) → (Nat → Int32) → (Nat → Int32) → (Nat → Int64) → (Nat → Int32) → (Nat → Int32) → (Nat → Int32) → (Nat → Int32) → (Nat → Int32) → Int32 → Int32 → Int32 → Int32 → Int32 → Int32 → Int32 → (Nat → Int32) → (Nat → Int32) → (Nat → Int32) → (Nat → Int32) → (Nat → Int32) → (Nat → Int32) → (Nat → Int32) → (Nat → Int32) → (Nat → Int32) → (Nat → Int64) → Option Int32) (L : Nat) (xs : Nat → Int32) (v4 : Int32) (lc : Int32) (la : Int32) (hr : Int32) (uP : Int32) (uC : Int32) (uR : Int32) (tn : Int32) (pn : Int32) (pg : Int32) (pq : Int32) (rl : Nat → Int32) (sr : Nat → Int32) (gcb : Nat → Int32) (gpb : Nat → Int64) (tg : Nat → Int32) (tm : Nat → Int32) (tl : Nat → Int32) (pm : Nat → Int32) (ps : Nat → Int32) (th : Int32) (mP : Int32) (mC : Int32) (mR : Int32) (mal : Int32) (mhd : Int32) (mn : Int32) (mg : Nat → Int32) (mt : Nat → Int32) (mh : Nat → Int32) (mz : Nat → Int32) (mset : Nat → Int32) (mfr : Nat → Int32) (mma : Nat → Int32) (mde : Nat → Int32) (mls : Nat → Int32) (ov : Nat → Int64) : Option Int32 := (gi (v4 + 1) L (ob2 (pf_L_leftAt lc rl ov (xs (v4 + 1).toNatClampNeg)) fun r938 ov_938 => (gi (v4 + 1) L (ob4 (pf_X4_leftAt th mP mC mR mal mn mg mt mh mset (xs (v4 + 1).toNatClampNeg)) fun r950 th_950 mh_950 mset_950 => (ob1 (pf_X4_thrown th_950) fun r956 => (if r956 = r938 then (if r938 = 0 then (gi 0 1 (if (lg_cmp (ov_938 (0 : Int32).toNatClampNeg) r950.toInt64) = 0 then (pf_law_c16_j983 kL lc la hr uP uC uR tn pn pg pq rl sr gcb gpb tg tm tl pm ps mP mC mR mal mhd mn mg mt mz mfr mma mde mls th_950 mh_950 mset_950 ov_938) else (some 0))) else (pf_law_c16_j983 kL lc la hr uP uC uR tn pn pg pq rl sr gcb gpb tg tm tl pm ps mP mC mR mal mhd mn mg mt mz mfr mma mde mls th_950 mh_950 mset_950 ov_938)) else (some 0)))))))
theorem hds_L_leftAt : yL_leftAt.cls ≠ "java/lang/invoke/MethodHandle" ∧ yL_leftAt.cls ≠ "java/lang/invoke/VarHandle" ∧ (parseMethodDescriptor yL_leftAt.desc).map (fun d => d.parameters.length) = some 3 := by decide +kernel
theorem hdv_X4_leftAt : yX4_leftAt.cls = RX4 ∧ yX4_leftAt.cls ≠ "java/lang/invoke/MethodHandle" ∧ yX4_leftAt.cls ≠ "java/lang/invoke/VarHandle" ∧ (parseMethodDescriptor yX4_leftAt.desc).map (fun d => d.parameters.length) = some 1 := by decide +kernel
set_option maxHeartbeats 4000000 in
set_option maxRecDepth 100000 in
theorem mt_law_c16 {p : Program} {l : Launch} (hl : l.stackTraces = false) {e : Env} {s : State} {m : MethodId} {args : Array Value} {below : List Frame} {meth : Method} {c : Code} {A : Nat → Prop} {D : va_G} {Q : State → Prop} (h k : Nat → Nat) (ho : Nat) (cI cJ : ClassId) {b L : Nat} {xs : Nat → Int32} (C : gC p l s m args meth c A D [(cI, .int), (cJ, .long)] 7 RL cL_law wsL_law) (hX : va_X b L xs s s.heap) (hbl : b < s.heap.size) (hbA : ¬ A b) (kL : Int32 → Int32 → Int32 → Int32 → Int32 → Int32 → Int32 → Int32 → Int32 → Int32 → (Nat → Int32) → (Nat → Int32) → (Nat → Int32) → (Nat → Int64) → (Nat → Int32) → (Nat → Int32) → (Nat → Int32) → (Nat → Int32) → (Nat → Int32) → Int32 → Int32 → Int32 → Int32 → Int32 → Int32 → Int32 → (Nat → Int32) → (Nat → Int32) → (Nat → Int32) → (Nat → Int32) → (Nat → Int32) → (Nat → Int32) → (Nat → Int32) → (Nat → Int32) → (Nat → Int32) → (Nat → Int64) → Option Int32) (K N K' N' : Nat) (hK : K + 8 ≤ K') (hN : N + 48 ≤ N') (hK' : K' ≤ 601024) (hN' : N' ≤ 7293034) (v4 : Int32) (JE : ∀ (lc : Int32) (la : Int32) (hr : Int32) (uP : Int32) (uC : Int32) (uR : Int32) (tn : Int32) (pn : Int32) (pg : Int32) (pq : Int32) (rl : Nat → Int32) (sr : Nat → Int32) (gcb : Nat → Int32) (gpb : Nat → Int64) (tg : Nat → Int32) (tm : Nat → Int32) (tl : Nat → Int32) (pm : Nat → Int32) (ps : Nat → Int32) (th : Int32) (mP : Int32) (mC : Int32) (mR : Int32) (mal : Int32) (mhd : Int32) (mn : Int32) (mg : Nat → Int32) (mt : Nat → Int32) (mh : Nat → Int32) (mz : Nat → Int32) (mset : Nat → Int32) (mfr : Nat → Int32) (mma : Nat → Int32) (mde : Nat → Int32) (mls : Nat → Int32) (ov : Nat → Int64), kL lc la hr uP uC uR tn pn pg pq rl sr gcb gpb tg tm tl pm ps th mP mC mR mal mhd mn mg mt mh mz mset mfr mma mde mls ov = some 1 → gV p l e room_1 s m args below meth c A D 7 Q ((cW h cI cJ lc la hr uP uC uR tn pn pg pq rl sr gcb gpb tg tm tl pm ps) ++ ((mW k cI th mP mC mR mal mhd mn mg mt mh mz mset mfr mma mde mls) ++ (oW ho cJ ov))) [(0, .ref b), (1, .ref (h 0)), (2, .ref (k 0)), (3, .ref ho), (4, .int v4)] K' N' 1466 []) (lc : Int32) (la : Int32) (hr : Int32) (uP : Int32) (uC : Int32) (uR : Int32) (tn : Int32) (pn : Int32) (pg : Int32) (pq : Int32) (rl : Nat → Int32) (sr : Nat → Int32) (gcb : Nat → Int32) (gpb : Nat → Int64) (tg : Nat → Int32) (tm : Nat → Int32) (tl : Nat → Int32) (pm : Nat → Int32) (ps : Nat → Int32) (th : Int32) (mP : Int32) (mC : Int32) (mR : Int32) (mal : Int32) (mhd : Int32) (mn : Int32) (mg : Nat → Int32) (mt : Nat → Int32) (mh : Nat → Int32) (mz : Nat → Int32) (mset : Nat → Int32) (mfr : Nat → Int32) (mma : Nat → Int32) (mde : Nat → Int32) (mls : Nat → Int32) (ov : Nat → Int64) (hp : pf_law_c16 kL L xs v4 lc la hr uP uC uR tn pn pg pq rl sr gcb gpb tg tm tl pm ps th mP mC mR mal mhd mn mg mt mh mz mset mfr mma mde mls ov = some 1) : gV p l e room_1 s m args below meth c A D 7 Q ((cW h cI cJ lc la hr uP uC uR tn pn pg pq rl sr gcb gpb tg tm tl pm ps) ++ ((mW k cI th mP mC mR mal mhd mn mg mt mh mz mset mfr mma mde mls) ++ (oW ho cJ ov))) [(0, .ref b), (1, .ref (h 0)), (2, .ref (k 0)), (3, .ref ho), (4, .int v4)] K N 930 [] := by
  unfold pf_law_c16 at hp
  have J983 : ∀ (K1 N1 : Nat), K1 + 2 ≤ K' → N1 + 12 ≤ N' → ∀ (th : Int32) (mh : Nat → Int32) (mset : Nat → Int32) (ov : Nat → Int64), pf_law_c16_j983 kL lc la hr uP uC uR tn pn pg pq rl sr gcb gpb tg tm tl pm ps mP mC mR mal mhd mn mg mt mz mfr mma mde mls th mh mset ov = some 1 → gV p l e room_1 s m args below meth c A D 7 Q ((cW h cI cJ lc la hr uP uC uR tn pn pg pq rl sr gcb gpb tg tm tl pm ps) ++ ((mW k cI th mP mC mR mal mhd mn mg mt mh mz mset mfr mma mde mls) ++ (oW ho cJ ov))) [(0, .ref b), (1, .ref (h 0)), (2, .ref (k 0)), (3, .ref ho), (4, .int v4)] K1 N1 983 [] := by
    intro K1 N1 hK1 hN1 th mh mset ov hp
    unfold pf_law_c16_j983 at hp
    refine gV_goto (tgt := 1466) C dL_law_983 (by decide) ?_
    refine gV_widen (k' := K') (n' := N') (by omega) (by omega) ?_
    exact JE lc la hr uP uC uR tn pn pg pq rl sr gcb gpb tg tm tl pm ps th mP mC mR mal mhd mn mg mt mh mz mset mfr mma mde mls ov hp
  refine gV_aload_n C dL_law_930 rfl 1 rfl ?_
  refine gV_aload_n C dL_law_931 rfl 0 rfl ?_
  refine gV_iload C dL_law_932 4 rfl ?_
  refine gV_iconst (v := 1) C dL_law_934 rfl ?_
  refine gV_iadd C dL_law_935 ?_
  obtain ⟨hi936, hp⟩ := g_idx hp
  refine gV_sld C hX hbl hbA hi936 dL_law_936 ?_
  refine gV_aload_n C dL_law_937 rfl 3 rfl ?_
  obtain ⟨r938q, ov_938, hq938, hp⟩ := g_ob2 hp
  refine gV_calli C (gsub_cmo_co _ _ rfl rfl) (gV_runSX (As := [.ref (h 0), .int (xs (v4 + 1).toNatClampNeg), .ref ho]) (rest := []) C (mt_L_leftAt hl D h ho cI cJ lc la hr uP uC uR tn pn pg pq rl sr gcb gpb tg tm tl pm ps ov (xs (v4 + 1).toNatClampNeg) r938q ov_938 hq938) (vx_cwSW 3 C.2.2.2.2.1 gL_law_L_leftAt rfl rfl rfl hds_L_leftAt ⟨Nat.le_of_ble_eq_true rfl, Nat.le_of_ble_eq_true rfl⟩) (gsub_cmo_co _ _ rfl rfl) rfl rfl (Nat.le_of_ble_eq_true rfl) dL_law_938 ⟨g_rc (by omega), g_rs (by omega)⟩) (fun _ _ hx => False.elim hx) (fun r938 w1 hw => ?_)
  obtain ⟨rfl, rfl⟩ := hw
  refine gV_sub (ws' := (cW h cI cJ lc la hr uP uC uR tn pn pg pq rl sr gcb gpb tg tm tl pm ps) ++ ((mW k cI th mP mC mR mal mhd mn mg mt mh mz mset mfr mma mde mls) ++ (oW ho cJ ov_938))) [10, 11, 12, 13, 14, 15, 16, 17, 18, 19, 20, 21, 22, 0, 1, 2, 3, 4, 5, 6, 7, 8, 9, 23] (by decide) rfl rfl ?_
  refine gV_istore (lvs' := [(5, .int r938), (0, .ref b), (1, .ref (h 0)), (2, .ref (k 0)), (3, .ref ho), (4, .int v4)]) C dL_law_941 (by decide) rfl ?_
  refine gV_aload_n C dL_law_943 rfl 3 rfl ?_
  refine gV_aload_n C dL_law_944 rfl 1 rfl ?_
  refine gV_iload C dL_law_945 5 rfl ?_
  refine gV_iconst (v := 1) C dL_law_947 rfl ?_
  refine gV_iadd C dL_law_948 ?_
  obtain ⟨hi949, hp⟩ := g_idx hp
  refine gV_sld C hX hbl hbA hi949 dL_law_949 ?_
  obtain ⟨r950q, th_950, mh_950, mset_950, hq950, hp⟩ := g_ob4 hp
  refine gV_calli C (gsub_cmo_m _ _ rfl rfl) (gV_runV (As := [.int (xs (v4 + 1).toNatClampNeg)]) (rest := []) C (mt_X4_leftAt hl D k cI cJ th mP mC mR mal mhd mn mg mt mh mz mset mfr mma mde mls (xs (v4 + 1).toNatClampNeg) r950q th_950 mh_950 mset_950 hq950) (cwV 1 C.2.2.2.2.1 gL_law_X4_leftAt rfl rfl rfl hdv_X4_leftAt ⟨Nat.le_of_ble_eq_true rfl, Nat.le_of_ble_eq_true rfl⟩) (gsub_cmo_m _ _ rfl rfl) 13 rfl rfl rfl rfl (Nat.le_of_ble_eq_true rfl) dL_law_950 ⟨g_rc (by omega), g_rs (by omega)⟩) (fun _ _ hx => False.elim hx) (fun r950 w1 hw => ?_)
  obtain ⟨rfl, rfl⟩ := hw
  refine gV_sub (ws' := (cW h cI cJ lc la hr uP uC uR tn pn pg pq rl sr gcb gpb tg tm tl pm ps) ++ ((mW k cI th_950 mP mC mR mal mhd mn mg mt mh_950 mz mset_950 mfr mma mde mls) ++ (oW ho cJ ov_938))) [0, 1, 2, 3, 4, 5, 6, 7, 8, 9, 10, 11, 12, 14, 15, 16, 17, 18, 19, 20, 21, 22, 23, 13] (by decide) rfl rfl ?_
  refine gV_istore (lvs' := [(6, .int r950), (5, .int r938), (0, .ref b), (1, .ref (h 0)), (2, .ref (k 0)), (3, .ref ho), (4, .int v4)]) C dL_law_953 (by decide) rfl ?_
  refine gV_aload_n C dL_law_955 rfl 4 rfl ?_
  obtain ⟨r956q, hq956, hp⟩ := g_ob1 hp
  refine gV_calli C (gsub_cmo_m _ _ rfl rfl) (gV_runV (As := []) (rest := []) C (mt_X4_thrown hl D k cI cJ th_950 mP mC mR mal mhd mn mg mt mh_950 mz mset_950 mfr mma mde mls r956q hq956) (cwV 0 C.2.2.2.2.1 gL_law_X4_thrown rfl rfl rfl hdv_X4_thrown ⟨Nat.le_of_ble_eq_true rfl, Nat.le_of_ble_eq_true rfl⟩) (gsub_cmo_m _ _ rfl rfl) 13 rfl rfl rfl rfl (Nat.le_of_ble_eq_true rfl) dL_law_956 ⟨g_rc (by omega), g_rs (by omega)⟩) (fun _ _ hx => False.elim hx) (fun r956 w1 hw => ?_)
  obtain ⟨rfl, rfl⟩ := hw
  refine gV_sub (ws' := (cW h cI cJ lc la hr uP uC uR tn pn pg pq rl sr gcb gpb tg tm tl pm ps) ++ ((mW k cI th_950 mP mC mR mal mhd mn mg mt mh_950 mz mset_950 mfr mma mde mls) ++ (oW ho cJ ov_938))) [0, 1, 2, 3, 4, 5, 6, 7, 8, 9, 10, 11, 12, 14, 15, 16, 17, 18, 19, 20, 21, 22, 23, 13] (by decide) rfl rfl ?_
  refine gV_iload C dL_law_959 1 rfl ?_
  refine gV_icmp_eq (tgt := 966) C dL_law_961 (by decide) (fun c961 => ?_) (fun c961 => ?_)
  · replace hp := g_ift hp c961
    refine gV_iload C dL_law_966 1 rfl ?_
    refine gV_if_ne (tgt := 983) C dL_law_968 (by decide) (fun c968 => ?_) (fun c968 => ?_)
    · replace hp := g_iff hp c968
      refine gV_loc [2, 3, 4, 5, 6] rfl ?_
      exact J983 _ _ (by omega) (by omega) th_950 mh_950 mset_950 ov_938 hp
    · replace hp := g_ift hp c968
      refine gV_aload_n C dL_law_971 rfl 5 rfl ?_
      refine gV_iconst (v := 0) C dL_law_972 rfl ?_
      obtain ⟨hi973, hp⟩ := g_idx hp
      refine gV_lald C 23 rfl 1 rfl hi973 dL_law_973 ?_
      refine gV_iload C dL_law_974 0 rfl ?_
      refine gV_i2l C dL_law_976 ?_
      refine gV_lcmp C dL_law_977 ?_
      refine gV_if_eq (tgt := 983) C dL_law_978 (by decide) (fun c978 => ?_) (fun c978 => ?_)
      · replace hp := g_ift hp c978
        refine gV_loc [2, 3, 4, 5, 6] rfl ?_
        exact J983 _ _ (by omega) (by omega) th_950 mh_950 mset_950 ov_938 hp
      · replace hp := g_iff hp c978
        refine gV_iconst (v := 0) C dL_law_981 rfl ?_
        exact absurd hp (by decide)
  · replace hp := g_iff hp c961
    refine gV_iconst (v := 0) C dL_law_964 rfl ?_
    exact absurd hp (by decide)
def pf_law_c17_j1039 (kL : Int32 → Int32 → Int32 → Int32 → Int32 → Int32 → Int32 → Int32 → Int32 → Int32 → (Nat → Int32) → (Nat → Int32) → (Nat → Int32) → (Nat → Int64) → (Nat → Int32) → (Nat → Int32) → (Nat → Int32) → (Nat → Int32) → (Nat → Int32) → Int32 → Int32 → Int32 → Int32 → Int32 → Int32 → Int32 → (Nat → Int32) → (Nat → Int32) → (Nat → Int32) → (Nat → Int32) → (Nat → Int32) → (Nat → Int32) → (Nat → Int32) → (Nat → Int32) → (Nat → Int32) → (Nat → Int64) → Option Int32) (lc : Int32) (la : Int32) (hr : Int32) (uP : Int32) (uC : Int32) (uR : Int32) (tn : Int32) (rl : Nat → Int32) (sr : Nat → Int32) (gcb : Nat → Int32) (gpb : Nat → Int64) (tg : Nat → Int32) (tm : Nat → Int32) (tl : Nat → Int32) (mP : Int32) (mC : Int32) (mR : Int32) (mal : Int32) (mhd : Int32) (mn : Int32) (mg : Nat → Int32) (mt : Nat → Int32) (mfr : Nat → Int32) (mma : Nat → Int32) (mde : Nat → Int32) (mls : Nat → Int32) (pn : Int32) (pg : Int32) (pq : Int32) (pm : Nat → Int32) (ps : Nat → Int32) (th : Int32) (mh : Nat → Int32) (mz : Nat → Int32) (mset : Nat → Int32) (ov : Nat → Int64) : Option (Int32) := (kL lc la hr uP uC uR tn pn pg pq rl sr gcb gpb tg tm tl pm ps th mP mC mR mal mhd mn mg mt mh mz mset mfr mma mde mls ov)
def pf_law_c17 (kL : Int32 → Int32 → Int32 → Int32 → Int32 → Int32 → Int32 → Int32 → Int32 → Int32 → (Nat → Int32) → (Nat → Int32) → (Nat → Int32) → (Nat → Int64) → (Nat → Int32) → (Nat → Int32) → (Nat → Int32) → (Nat → Int32) → (Nat → Int32) → Int32 → Int32 → Int32 → Int32 → Int32 → Int32 → Int32 → (Nat → Int32) → (Nat → Int32) → (Nat → Int32) → (Nat → Int32) → (Nat → Int32) → (Nat → Int32) → (Nat → Int32) → (Nat → Int32) → (Nat → Int32) → (Nat → Int64) → Option Int32) (L : Nat) (xs : Nat → Int32) (v4 : Int32) (lc : Int32) (la : Int32) (hr : Int32) (uP : Int32) (uC : Int32) (uR : Int32) (tn : Int32) (pn : Int32) (pg : Int32) (pq : Int32) (rl : Nat → Int32) (sr : Nat → Int32) (gcb : Nat → Int32) (gpb : Nat → Int64) (tg : Nat → Int32) (tm : Nat → Int32) (tl : Nat → Int32) (pm : Nat → Int32) (ps : Nat → Int32) (th : Int32) (mP : Int32) (mC : Int32) (mR : Int32) (mal : Int32) (mhd : Int32) (mn : Int32) (mg : Nat → Int32) (mt : Nat → Int32) (mh : Nat → Int32) (mz : Nat → Int32) (mset : Nat → Int32) (mfr : Nat → Int32) (mma : Nat → Int32) (mde : Nat → Int32) (mls : Nat → Int32) (ov : Nat → Int64) : Option Int32 := (gi (v4 + 1) L (ob7 (pf_L_parts lc uP uR pn pg pq rl gcb gpb pm ps ov (xs (v4 + 1).toNatClampNeg)) fun r994 pn_994 pg_994 pq_994 pm_994 ps_994 ov_994 => (gi (v4 + 1) L (ob5 (pf_X4_parts th mP mC mR mal mn mg mt mh mz mset (xs (v4 + 1).toNatClampNeg)) fun r1006 th_1006 mh_1006 mz_1006 mset_1006 => (ob1 (pf_X4_thrown th_1006) fun r1012 => (if r1012 = r994 then (if r994 = 0 then (gi 0 1 (if (lg_cmp (ov_994 (0 : Int32).toNatClampNeg) r1006.toInt64) = 0 then (pf_law_c17_j1039 kL lc la hr uP uC uR tn rl sr gcb gpb tg tm tl mP mC mR mal mhd mn mg mt mfr mma mde mls pn_994 pg_994 pq_994 pm_994 ps_994 th_1006 mh_1006 mz_1006 mset_1006 ov_994) else (some 0))) else (pf_law_c17_j1039 kL lc la hr uP uC uR tn rl sr gcb gpb tg tm tl mP mC mR mal mhd mn mg mt mfr mma mde mls pn_994 pg_994 pq_994 pm_994 ps_994 th_1006 mh_1006 mz_1006 mset_1006 ov_994)) else (some 0)))))))
theorem hds_L_parts : yL_parts.cls ≠ "java/lang/invoke/MethodHandle" ∧ yL_parts.cls ≠ "java/lang/invoke/VarHandle" ∧ (parseMethodDescriptor yL_parts.desc).map (fun d => d.parameters.length) = some 3 := by decide +kernel
theorem hdv_X4_parts : yX4_parts.cls = RX4 ∧ yX4_parts.cls ≠ "java/lang/invoke/MethodHandle" ∧ yX4_parts.cls ≠ "java/lang/invoke/VarHandle" ∧ (parseMethodDescriptor yX4_parts.desc).map (fun d => d.parameters.length) = some 1 := by decide +kernel
set_option maxHeartbeats 4000000 in
set_option maxRecDepth 100000 in
theorem mt_law_c17 {p : Program} {l : Launch} (hl : l.stackTraces = false) {e : Env} {s : State} {m : MethodId} {args : Array Value} {below : List Frame} {meth : Method} {c : Code} {A : Nat → Prop} {D : va_G} {Q : State → Prop} (h k : Nat → Nat) (ho : Nat) (cI cJ : ClassId) {b L : Nat} {xs : Nat → Int32} (C : gC p l s m args meth c A D [(cI, .int), (cJ, .long)] 7 RL cL_law wsL_law) (hX : va_X b L xs s s.heap) (hbl : b < s.heap.size) (hbA : ¬ A b) (kL : Int32 → Int32 → Int32 → Int32 → Int32 → Int32 → Int32 → Int32 → Int32 → Int32 → (Nat → Int32) → (Nat → Int32) → (Nat → Int32) → (Nat → Int64) → (Nat → Int32) → (Nat → Int32) → (Nat → Int32) → (Nat → Int32) → (Nat → Int32) → Int32 → Int32 → Int32 → Int32 → Int32 → Int32 → Int32 → (Nat → Int32) → (Nat → Int32) → (Nat → Int32) → (Nat → Int32) → (Nat → Int32) → (Nat → Int32) → (Nat → Int32) → (Nat → Int32) → (Nat → Int32) → (Nat → Int64) → Option Int32) (K N K' N' : Nat) (hK : K + 8 ≤ K') (hN : N + 48 ≤ N') (hK' : K' ≤ 601024) (hN' : N' ≤ 7293034) (v4 : Int32) (JE : ∀ (lc : Int32) (la : Int32) (hr : Int32) (uP : Int32) (uC : Int32) (uR : Int32) (tn : Int32) (pn : Int32) (pg : Int32) (pq : Int32) (rl : Nat → Int32) (sr : Nat → Int32) (gcb : Nat → Int32) (gpb : Nat → Int64) (tg : Nat → Int32) (tm : Nat → Int32) (tl : Nat → Int32) (pm : Nat → Int32) (ps : Nat → Int32) (th : Int32) (mP : Int32) (mC : Int32) (mR : Int32) (mal : Int32) (mhd : Int32) (mn : Int32) (mg : Nat → Int32) (mt : Nat → Int32) (mh : Nat → Int32) (mz : Nat → Int32) (mset : Nat → Int32) (mfr : Nat → Int32) (mma : Nat → Int32) (mde : Nat → Int32) (mls : Nat → Int32) (ov : Nat → Int64), kL lc la hr uP uC uR tn pn pg pq rl sr gcb gpb tg tm tl pm ps th mP mC mR mal mhd mn mg mt mh mz mset mfr mma mde mls ov = some 1 → gV p l e room_1 s m args below meth c A D 7 Q ((cW h cI cJ lc la hr uP uC uR tn pn pg pq rl sr gcb gpb tg tm tl pm ps) ++ ((mW k cI th mP mC mR mal mhd mn mg mt mh mz mset mfr mma mde mls) ++ (oW ho cJ ov))) [(0, .ref b), (1, .ref (h 0)), (2, .ref (k 0)), (3, .ref ho), (4, .int v4)] K' N' 1466 []) (lc : Int32) (la : Int32) (hr : Int32) (uP : Int32) (uC : Int32) (uR : Int32) (tn : Int32) (pn : Int32) (pg : Int32) (pq : Int32) (rl : Nat → Int32) (sr : Nat → Int32) (gcb : Nat → Int32) (gpb : Nat → Int64) (tg : Nat → Int32) (tm : Nat → Int32) (tl : Nat → Int32) (pm : Nat → Int32) (ps : Nat → Int32) (th : Int32) (mP : Int32) (mC : Int32) (mR : Int32) (mal : Int32) (mhd : Int32) (mn : Int32) (mg : Nat → Int32) (mt : Nat → Int32) (mh : Nat → Int32) (mz : Nat → Int32) (mset : Nat → Int32) (mfr : Nat → Int32) (mma : Nat → Int32) (mde : Nat → Int32) (mls : Nat → Int32) (ov : Nat → Int64) (hp : pf_law_c17 kL L xs v4 lc la hr uP uC uR tn pn pg pq rl sr gcb gpb tg tm tl pm ps th mP mC mR mal mhd mn mg mt mh mz mset mfr mma mde mls ov = some 1) : gV p l e room_1 s m args below meth c A D 7 Q ((cW h cI cJ lc la hr uP uC uR tn pn pg pq rl sr gcb gpb tg tm tl pm ps) ++ ((mW k cI th mP mC mR mal mhd mn mg mt mh mz mset mfr mma mde mls) ++ (oW ho cJ ov))) [(0, .ref b), (1, .ref (h 0)), (2, .ref (k 0)), (3, .ref ho), (4, .int v4)] K N 986 [] := by
  unfold pf_law_c17 at hp
  have J1039 : ∀ (K1 N1 : Nat), K1 + 2 ≤ K' → N1 + 12 ≤ N' → ∀ (pn : Int32) (pg : Int32) (pq : Int32) (pm : Nat → Int32) (ps : Nat → Int32) (th : Int32) (mh : Nat → Int32) (mz : Nat → Int32) (mset : Nat → Int32) (ov : Nat → Int64), pf_law_c17_j1039 kL lc la hr uP uC uR tn rl sr gcb gpb tg tm tl mP mC mR mal mhd mn mg mt mfr mma mde mls pn pg pq pm ps th mh mz mset ov = some 1 → gV p l e room_1 s m args below meth c A D 7 Q ((cW h cI cJ lc la hr uP uC uR tn pn pg pq rl sr gcb gpb tg tm tl pm ps) ++ ((mW k cI th mP mC mR mal mhd mn mg mt mh mz mset mfr mma mde mls) ++ (oW ho cJ ov))) [(0, .ref b), (1, .ref (h 0)), (2, .ref (k 0)), (3, .ref ho), (4, .int v4)] K1 N1 1039 [] := by
    intro K1 N1 hK1 hN1 pn pg pq pm ps th mh mz mset ov hp
    unfold pf_law_c17_j1039 at hp
    refine gV_goto (tgt := 1466) C dL_law_1039 (by decide) ?_
    refine gV_widen (k' := K') (n' := N') (by omega) (by omega) ?_
    exact JE lc la hr uP uC uR tn pn pg pq rl sr gcb gpb tg tm tl pm ps th mP mC mR mal mhd mn mg mt mh mz mset mfr mma mde mls ov hp
  refine gV_aload_n C dL_law_986 rfl 1 rfl ?_
  refine gV_aload_n C dL_law_987 rfl 0 rfl ?_
  refine gV_iload C dL_law_988 4 rfl ?_
  refine gV_iconst (v := 1) C dL_law_990 rfl ?_
  refine gV_iadd C dL_law_991 ?_
  obtain ⟨hi992, hp⟩ := g_idx hp
  refine gV_sld C hX hbl hbA hi992 dL_law_992 ?_
  refine gV_aload_n C dL_law_993 rfl 3 rfl ?_
  obtain ⟨r994q, pn_994, pg_994, pq_994, pm_994, ps_994, ov_994, hq994, hp⟩ := g_ob7 hp
  refine gV_calli C (gsub_cmo_co _ _ rfl rfl) (gV_runSX (As := [.ref (h 0), .int (xs (v4 + 1).toNatClampNeg), .ref ho]) (rest := []) C (mt_L_parts hl D h ho cI cJ lc la hr uP uC uR tn pn pg pq rl sr gcb gpb tg tm tl pm ps ov (xs (v4 + 1).toNatClampNeg) r994q pn_994 pg_994 pq_994 pm_994 ps_994 ov_994 hq994) (vx_cwSW 3 C.2.2.2.2.1 gL_law_L_parts rfl rfl rfl hds_L_parts ⟨Nat.le_of_ble_eq_true rfl, Nat.le_of_ble_eq_true rfl⟩) (gsub_cmo_co _ _ rfl rfl) rfl rfl (Nat.le_of_ble_eq_true rfl) dL_law_994 ⟨g_rc (by omega), g_rs (by omega)⟩) (fun _ _ hx => False.elim hx) (fun r994 w1 hw => ?_)
  obtain ⟨rfl, rfl⟩ := hw
  refine gV_sub (ws' := (cW h cI cJ lc la hr uP uC uR tn pn_994 pg_994 pq_994 rl sr gcb gpb tg tm tl pm_994 ps_994) ++ ((mW k cI th mP mC mR mal mhd mn mg mt mh mz mset mfr mma mde mls) ++ (oW ho cJ ov_994))) [10, 11, 12, 13, 14, 15, 16, 17, 18, 19, 20, 21, 22, 0, 1, 2, 3, 4, 5, 6, 7, 8, 9, 23] (by decide) rfl rfl ?_
  refine gV_istore (lvs' := [(5, .int r994), (0, .ref b), (1, .ref (h 0)), (2, .ref (k 0)), (3, .ref ho), (4, .int v4)]) C dL_law_997 (by decide) rfl ?_
  refine gV_aload_n C dL_law_999 rfl 3 rfl ?_
  refine gV_aload_n C dL_law_1000 rfl 1 rfl ?_
  refine gV_iload C dL_law_1001 5 rfl ?_
  refine gV_iconst (v := 1) C dL_law_1003 rfl ?_
  refine gV_iadd C dL_law_1004 ?_
  obtain ⟨hi1005, hp⟩ := g_idx hp
  refine gV_sld C hX hbl hbA hi1005 dL_law_1005 ?_
  obtain ⟨r1006q, th_1006, mh_1006, mz_1006, mset_1006, hq1006, hp⟩ := g_ob5 hp
  refine gV_calli C (gsub_cmo_m _ _ rfl rfl) (gV_runV (As := [.int (xs (v4 + 1).toNatClampNeg)]) (rest := []) C (mt_X4_parts hl D k cI cJ th mP mC mR mal mhd mn mg mt mh mz mset mfr mma mde mls (xs (v4 + 1).toNatClampNeg) r1006q th_1006 mh_1006 mz_1006 mset_1006 hq1006) (cwV 1 C.2.2.2.2.1 gL_law_X4_parts rfl rfl rfl hdv_X4_parts ⟨Nat.le_of_ble_eq_true rfl, Nat.le_of_ble_eq_true rfl⟩) (gsub_cmo_m _ _ rfl rfl) 13 rfl rfl rfl rfl (Nat.le_of_ble_eq_true rfl) dL_law_1006 ⟨g_rc (by omega), g_rs (by omega)⟩) (fun _ _ hx => False.elim hx) (fun r1006 w1 hw => ?_)
  obtain ⟨rfl, rfl⟩ := hw
  refine gV_sub (ws' := (cW h cI cJ lc la hr uP uC uR tn pn_994 pg_994 pq_994 rl sr gcb gpb tg tm tl pm_994 ps_994) ++ ((mW k cI th_1006 mP mC mR mal mhd mn mg mt mh_1006 mz_1006 mset_1006 mfr mma mde mls) ++ (oW ho cJ ov_994))) [0, 1, 2, 3, 4, 5, 6, 7, 8, 9, 10, 11, 12, 14, 15, 16, 17, 18, 19, 20, 21, 22, 23, 13] (by decide) rfl rfl ?_
  refine gV_istore (lvs' := [(6, .int r1006), (5, .int r994), (0, .ref b), (1, .ref (h 0)), (2, .ref (k 0)), (3, .ref ho), (4, .int v4)]) C dL_law_1009 (by decide) rfl ?_
  refine gV_aload_n C dL_law_1011 rfl 4 rfl ?_
  obtain ⟨r1012q, hq1012, hp⟩ := g_ob1 hp
  refine gV_calli C (gsub_cmo_m _ _ rfl rfl) (gV_runV (As := []) (rest := []) C (mt_X4_thrown hl D k cI cJ th_1006 mP mC mR mal mhd mn mg mt mh_1006 mz_1006 mset_1006 mfr mma mde mls r1012q hq1012) (cwV 0 C.2.2.2.2.1 gL_law_X4_thrown rfl rfl rfl hdv_X4_thrown ⟨Nat.le_of_ble_eq_true rfl, Nat.le_of_ble_eq_true rfl⟩) (gsub_cmo_m _ _ rfl rfl) 13 rfl rfl rfl rfl (Nat.le_of_ble_eq_true rfl) dL_law_1012 ⟨g_rc (by omega), g_rs (by omega)⟩) (fun _ _ hx => False.elim hx) (fun r1012 w1 hw => ?_)
  obtain ⟨rfl, rfl⟩ := hw
  refine gV_sub (ws' := (cW h cI cJ lc la hr uP uC uR tn pn_994 pg_994 pq_994 rl sr gcb gpb tg tm tl pm_994 ps_994) ++ ((mW k cI th_1006 mP mC mR mal mhd mn mg mt mh_1006 mz_1006 mset_1006 mfr mma mde mls) ++ (oW ho cJ ov_994))) [0, 1, 2, 3, 4, 5, 6, 7, 8, 9, 10, 11, 12, 14, 15, 16, 17, 18, 19, 20, 21, 22, 23, 13] (by decide) rfl rfl ?_
  refine gV_iload C dL_law_1015 1 rfl ?_
  refine gV_icmp_eq (tgt := 1022) C dL_law_1017 (by decide) (fun c1017 => ?_) (fun c1017 => ?_)
  · replace hp := g_ift hp c1017
    refine gV_iload C dL_law_1022 1 rfl ?_
    refine gV_if_ne (tgt := 1039) C dL_law_1024 (by decide) (fun c1024 => ?_) (fun c1024 => ?_)
    · replace hp := g_iff hp c1024
      refine gV_loc [2, 3, 4, 5, 6] rfl ?_
      exact J1039 _ _ (by omega) (by omega) pn_994 pg_994 pq_994 pm_994 ps_994 th_1006 mh_1006 mz_1006 mset_1006 ov_994 hp
    · replace hp := g_ift hp c1024
      refine gV_aload_n C dL_law_1027 rfl 5 rfl ?_
      refine gV_iconst (v := 0) C dL_law_1028 rfl ?_
      obtain ⟨hi1029, hp⟩ := g_idx hp
      refine gV_lald C 23 rfl 1 rfl hi1029 dL_law_1029 ?_
      refine gV_iload C dL_law_1030 0 rfl ?_
      refine gV_i2l C dL_law_1032 ?_
      refine gV_lcmp C dL_law_1033 ?_
      refine gV_if_eq (tgt := 1039) C dL_law_1034 (by decide) (fun c1034 => ?_) (fun c1034 => ?_)
      · replace hp := g_ift hp c1034
        refine gV_loc [2, 3, 4, 5, 6] rfl ?_
        exact J1039 _ _ (by omega) (by omega) pn_994 pg_994 pq_994 pm_994 ps_994 th_1006 mh_1006 mz_1006 mset_1006 ov_994 hp
      · replace hp := g_iff hp c1034
        refine gV_iconst (v := 0) C dL_law_1037 rfl ?_
        exact absurd hp (by decide)
  · replace hp := g_iff hp c1017
    refine gV_iconst (v := 0) C dL_law_1020 rfl ?_
    exact absurd hp (by decide)
def pf_law_c18_j1107 (kL : Int32 → Int32 → Int32 → Int32 → Int32 → Int32 → Int32 → Int32 → Int32 → Int32 → (Nat → Int32) → (Nat → Int32) → (Nat → Int32) → (Nat → Int64) → (Nat → Int32) → (Nat → Int32) → (Nat → Int32) → (Nat → Int32) → (Nat → Int32) → Int32 → Int32 → Int32 → Int32 → Int32 → Int32 → Int32 → (Nat → Int32) → (Nat → Int32) → (Nat → Int32) → (Nat → Int32) → (Nat → Int32) → (Nat → Int32) → (Nat → Int32) → (Nat → Int32) → (Nat → Int32) → (Nat → Int64) → Option Int32) (lc : Int32) (la : Int32) (hr : Int32) (uP : Int32) (uC : Int32) (uR : Int32) (tn : Int32) (rl : Nat → Int32) (sr : Nat → Int32) (gcb : Nat → Int32) (gpb : Nat → Int64) (tg : Nat → Int32) (tm : Nat → Int32) (tl : Nat → Int32) (mP : Int32) (mC : Int32) (mR : Int32) (mal : Int32) (mhd : Int32) (mn : Int32) (mg : Nat → Int32) (mt : Nat → Int32) (mfr : Nat → Int32) (mma : Nat → Int32) (mde : Nat → Int32) (mls : Nat → Int32) (pn : Int32) (pg : Int32) (pq : Int32) (pm : Nat → Int32) (ps : Nat → Int32) (th : Int32) (mh : Nat → Int32) (mz : Nat → Int32) (mset : Nat → Int32) (ov : Nat → Int64) : Option (Int32) := (kL lc la hr uP uC uR tn pn pg pq rl sr gcb gpb tg tm tl pm ps th mP mC mR mal mhd mn mg mt mh mz mset mfr mma mde mls ov)
def pf_law_c18 (kL : Int32 → Int32 → Int32 → Int32 → Int32 → Int32 → Int32 → Int32 → Int32 → Int32 → (Nat → Int32) → (Nat → Int32) → (Nat → Int32) → (Nat → Int64) → (Nat → Int32) → (Nat → Int32) → (Nat → Int32) → (Nat → Int32) → (Nat → Int32) → Int32 → Int32 → Int32 → Int32 → Int32 → Int32 → Int32 → (Nat → Int32) → (Nat → Int32) → (Nat → Int32) → (Nat → Int32) → (Nat → Int32) → (Nat → Int32) → (Nat → Int32) → (Nat → Int32) → (Nat → Int32) → (Nat → Int64) → Option Int32) (L : Nat) (xs : Nat → Int32) (v4 : Int32) (lc : Int32) (la : Int32) (hr : Int32) (uP : Int32) (uC : Int32) (uR : Int32) (tn : Int32) (pn : Int32) (pg : Int32) (pq : Int32) (rl : Nat → Int32) (sr : Nat → Int32) (gcb : Nat → Int32) (gpb : Nat → Int64) (tg : Nat → Int32) (tm : Nat → Int32) (tl : Nat → Int32) (pm : Nat → Int32) (ps : Nat → Int32) (th : Int32) (mP : Int32) (mC : Int32) (mR : Int32) (mal : Int32) (mhd : Int32) (mn : Int32) (mg : Nat → Int32) (mt : Nat → Int32) (mh : Nat → Int32) (mz : Nat → Int32) (mset : Nat → Int32) (mfr : Nat → Int32) (mma : Nat → Int32) (mde : Nat → Int32) (mls : Nat → Int32) (ov : Nat → Int64) : Option Int32 := (gi (v4 + 1) L (gi (v4 + 2) L (ob7 (pf_L_partMark lc uP uR pn pg pq rl gcb gpb pm ps ov (xs (v4 + 1).toNatClampNeg) (xs (v4 + 2).toNatClampNeg)) fun r1056 pn_1056 pg_1056 pq_1056 pm_1056 ps_1056 ov_1056 => (gi (v4 + 1) L (gi (v4 + 2) L (ob5 (pf_X4_partMark th mP mC mR mal mn mg mt mh mz mset (xs (v4 + 1).toNatClampNeg) (xs (v4 + 2).toNatClampNeg)) fun r1074 th_1074 mh_1074 mz_1074 mset_1074 => (ob1 (pf_X4_thrown th_1074) fun r1080 => (if r1080 = r1056 then (if r1056 = 0 then (gi 0 1 (if (lg_cmp (ov_1056 (0 : Int32).toNatClampNeg) r1074.toInt64) = 0 then (pf_law_c18_j1107 kL lc la hr uP uC uR tn rl sr gcb gpb tg tm tl mP mC mR mal mhd mn mg mt mfr mma mde mls pn_1056 pg_1056 pq_1056 pm_1056 ps_1056 th_1074 mh_1074 mz_1074 mset_1074 ov_1056) else (some 0))) else (pf_law_c18_j1107 kL lc la hr uP uC uR tn rl sr gcb gpb tg tm tl mP mC mR mal mhd mn mg mt mfr mma mde mls pn_1056 pg_1056 pq_1056 pm_1056 ps_1056 th_1074 mh_1074 mz_1074 mset_1074 ov_1056)) else (some 0)))))))))
theorem hds_L_partMark : yL_partMark.cls ≠ "java/lang/invoke/MethodHandle" ∧ yL_partMark.cls ≠ "java/lang/invoke/VarHandle" ∧ (parseMethodDescriptor yL_partMark.desc).map (fun d => d.parameters.length) = some 4 := by decide +kernel
theorem hdv_X4_partMark : yX4_partMark.cls = RX4 ∧ yX4_partMark.cls ≠ "java/lang/invoke/MethodHandle" ∧ yX4_partMark.cls ≠ "java/lang/invoke/VarHandle" ∧ (parseMethodDescriptor yX4_partMark.desc).map (fun d => d.parameters.length) = some 2 := by decide +kernel
set_option maxHeartbeats 4000000 in
set_option maxRecDepth 100000 in
theorem mt_law_c18 {p : Program} {l : Launch} (hl : l.stackTraces = false) {e : Env} {s : State} {m : MethodId} {args : Array Value} {below : List Frame} {meth : Method} {c : Code} {A : Nat → Prop} {D : va_G} {Q : State → Prop} (h k : Nat → Nat) (ho : Nat) (cI cJ : ClassId) {b L : Nat} {xs : Nat → Int32} (C : gC p l s m args meth c A D [(cI, .int), (cJ, .long)] 7 RL cL_law wsL_law) (hX : va_X b L xs s s.heap) (hbl : b < s.heap.size) (hbA : ¬ A b) (kL : Int32 → Int32 → Int32 → Int32 → Int32 → Int32 → Int32 → Int32 → Int32 → Int32 → (Nat → Int32) → (Nat → Int32) → (Nat → Int32) → (Nat → Int64) → (Nat → Int32) → (Nat → Int32) → (Nat → Int32) → (Nat → Int32) → (Nat → Int32) → Int32 → Int32 → Int32 → Int32 → Int32 → Int32 → Int32 → (Nat → Int32) → (Nat → Int32) → (Nat → Int32) → (Nat → Int32) → (Nat → Int32) → (Nat → Int32) → (Nat → Int32) → (Nat → Int32) → (Nat → Int32) → (Nat → Int64) → Option Int32) (K N K' N' : Nat) (hK : K + 8 ≤ K') (hN : N + 48 ≤ N') (hK' : K' ≤ 601024) (hN' : N' ≤ 7293034) (v4 : Int32) (JE : ∀ (lc : Int32) (la : Int32) (hr : Int32) (uP : Int32) (uC : Int32) (uR : Int32) (tn : Int32) (pn : Int32) (pg : Int32) (pq : Int32) (rl : Nat → Int32) (sr : Nat → Int32) (gcb : Nat → Int32) (gpb : Nat → Int64) (tg : Nat → Int32) (tm : Nat → Int32) (tl : Nat → Int32) (pm : Nat → Int32) (ps : Nat → Int32) (th : Int32) (mP : Int32) (mC : Int32) (mR : Int32) (mal : Int32) (mhd : Int32) (mn : Int32) (mg : Nat → Int32) (mt : Nat → Int32) (mh : Nat → Int32) (mz : Nat → Int32) (mset : Nat → Int32) (mfr : Nat → Int32) (mma : Nat → Int32) (mde : Nat → Int32) (mls : Nat → Int32) (ov : Nat → Int64), kL lc la hr uP uC uR tn pn pg pq rl sr gcb gpb tg tm tl pm ps th mP mC mR mal mhd mn mg mt mh mz mset mfr mma mde mls ov = some 1 → gV p l e room_1 s m args below meth c A D 7 Q ((cW h cI cJ lc la hr uP uC uR tn pn pg pq rl sr gcb gpb tg tm tl pm ps) ++ ((mW k cI th mP mC mR mal mhd mn mg mt mh mz mset mfr mma mde mls) ++ (oW ho cJ ov))) [(0, .ref b), (1, .ref (h 0)), (2, .ref (k 0)), (3, .ref ho), (4, .int v4)] K' N' 1466 []) (lc : Int32) (la : Int32) (hr : Int32) (uP : Int32) (uC : Int32) (uR : Int32) (tn : Int32) (pn : Int32) (pg : Int32) (pq : Int32) (rl : Nat → Int32) (sr : Nat → Int32) (gcb : Nat → Int32) (gpb : Nat → Int64) (tg : Nat → Int32) (tm : Nat → Int32) (tl : Nat → Int32) (pm : Nat → Int32) (ps : Nat → Int32) (th : Int32) (mP : Int32) (mC : Int32) (mR : Int32) (mal : Int32) (mhd : Int32) (mn : Int32) (mg : Nat → Int32) (mt : Nat → Int32) (mh : Nat → Int32) (mz : Nat → Int32) (mset : Nat → Int32) (mfr : Nat → Int32) (mma : Nat → Int32) (mde : Nat → Int32) (mls : Nat → Int32) (ov : Nat → Int64) (hp : pf_law_c18 kL L xs v4 lc la hr uP uC uR tn pn pg pq rl sr gcb gpb tg tm tl pm ps th mP mC mR mal mhd mn mg mt mh mz mset mfr mma mde mls ov = some 1) : gV p l e room_1 s m args below meth c A D 7 Q ((cW h cI cJ lc la hr uP uC uR tn pn pg pq rl sr gcb gpb tg tm tl pm ps) ++ ((mW k cI th mP mC mR mal mhd mn mg mt mh mz mset mfr mma mde mls) ++ (oW ho cJ ov))) [(0, .ref b), (1, .ref (h 0)), (2, .ref (k 0)), (3, .ref ho), (4, .int v4)] K N 1042 [] := by
  unfold pf_law_c18 at hp
  have J1107 : ∀ (K1 N1 : Nat), K1 + 2 ≤ K' → N1 + 12 ≤ N' → ∀ (pn : Int32) (pg : Int32) (pq : Int32) (pm : Nat → Int32) (ps : Nat → Int32) (th : Int32) (mh : Nat → Int32) (mz : Nat → Int32) (mset : Nat → Int32) (ov : Nat → Int64), pf_law_c18_j1107 kL lc la hr uP uC uR tn rl sr gcb gpb tg tm tl mP mC mR mal mhd mn mg mt mfr mma mde mls pn pg pq pm ps th mh mz mset ov = some 1 → gV p l e room_1 s m args below meth c A D 7 Q ((cW h cI cJ lc la hr uP uC uR tn pn pg pq rl sr gcb gpb tg tm tl pm ps) ++ ((mW k cI th mP mC mR mal mhd mn mg mt mh mz mset mfr mma mde mls) ++ (oW ho cJ ov))) [(0, .ref b), (1, .ref (h 0)), (2, .ref (k 0)), (3, .ref ho), (4, .int v4)] K1 N1 1107 [] := by
    intro K1 N1 hK1 hN1 pn pg pq pm ps th mh mz mset ov hp
    unfold pf_law_c18_j1107 at hp
    refine gV_goto (tgt := 1466) C dL_law_1107 (by decide) ?_
    refine gV_widen (k' := K') (n' := N') (by omega) (by omega) ?_
    exact JE lc la hr uP uC uR tn pn pg pq rl sr gcb gpb tg tm tl pm ps th mP mC mR mal mhd mn mg mt mh mz mset mfr mma mde mls ov hp
  refine gV_aload_n C dL_law_1042 rfl 1 rfl ?_
  refine gV_aload_n C dL_law_1043 rfl 0 rfl ?_
  refine gV_iload C dL_law_1044 4 rfl ?_
  refine gV_iconst (v := 1) C dL_law_1046 rfl ?_
  refine gV_iadd C dL_law_1047 ?_
  obtain ⟨hi1048, hp⟩ := g_idx hp
  refine gV_sld C hX hbl hbA hi1048 dL_law_1048 ?_
  refine gV_aload_n C dL_law_1049 rfl 0 rfl ?_
  refine gV_iload C dL_law_1050 4 rfl ?_
  refine gV_iconst (v := 2) C dL_law_1052 rfl ?_
  refine gV_iadd C dL_law_1053 ?_
  obtain ⟨hi1054, hp⟩ := g_idx hp
  refine gV_sld C hX hbl hbA hi1054 dL_law_1054 ?_
  refine gV_aload_n C dL_law_1055 rfl 3 rfl ?_
  obtain ⟨r1056q, pn_1056, pg_1056, pq_1056, pm_1056, ps_1056, ov_1056, hq1056, hp⟩ := g_ob7 hp
  refine gV_calli C (gsub_cmo_co _ _ rfl rfl) (gV_runSX (As := [.ref (h 0), .int (xs (v4 + 1).toNatClampNeg), .int (xs (v4 + 2).toNatClampNeg), .ref ho]) (rest := []) C (mt_L_partMark hl D h ho cI cJ lc la hr uP uC uR tn pn pg pq rl sr gcb gpb tg tm tl pm ps ov (xs (v4 + 1).toNatClampNeg) (xs (v4 + 2).toNatClampNeg) r1056q pn_1056 pg_1056 pq_1056 pm_1056 ps_1056 ov_1056 hq1056) (vx_cwSW 4 C.2.2.2.2.1 gL_law_L_partMark rfl rfl rfl hds_L_partMark ⟨Nat.le_of_ble_eq_true rfl, Nat.le_of_ble_eq_true rfl⟩) (gsub_cmo_co _ _ rfl rfl) rfl rfl (Nat.le_of_ble_eq_true rfl) dL_law_1056 ⟨g_rc (by omega), g_rs (by omega)⟩) (fun _ _ hx => False.elim hx) (fun r1056 w1 hw => ?_)
  obtain ⟨rfl, rfl⟩ := hw
  refine gV_sub (ws' := (cW h cI cJ lc la hr uP uC uR tn pn_1056 pg_1056 pq_1056 rl sr gcb gpb tg tm tl pm_1056 ps_1056) ++ ((mW k cI th mP mC mR mal mhd mn mg mt mh mz mset mfr mma mde mls) ++ (oW ho cJ ov_1056))) [10, 11, 12, 13, 14, 15, 16, 17, 18, 19, 20, 21, 22, 0, 1, 2, 3, 4, 5, 6, 7, 8, 9, 23] (by decide) rfl rfl ?_
  refine gV_istore (lvs' := [(5, .int r1056), (0, .ref b), (1, .ref (h 0)), (2, .ref (k 0)), (3, .ref ho), (4, .int v4)]) C dL_law_1059 (by decide) rfl ?_
  refine gV_aload_n C dL_law_1061 rfl 3 rfl ?_
  refine gV_aload_n C dL_law_1062 rfl 1 rfl ?_
  refine gV_iload C dL_law_1063 5 rfl ?_
  refine gV_iconst (v := 1) C dL_law_1065 rfl ?_
  refine gV_iadd C dL_law_1066 ?_
  obtain ⟨hi1067, hp⟩ := g_idx hp
  refine gV_sld C hX hbl hbA hi1067 dL_law_1067 ?_
  refine gV_aload_n C dL_law_1068 rfl 1 rfl ?_
  refine gV_iload C dL_law_1069 5 rfl ?_
  refine gV_iconst (v := 2) C dL_law_1071 rfl ?_
  refine gV_iadd C dL_law_1072 ?_
  obtain ⟨hi1073, hp⟩ := g_idx hp
  refine gV_sld C hX hbl hbA hi1073 dL_law_1073 ?_
  obtain ⟨r1074q, th_1074, mh_1074, mz_1074, mset_1074, hq1074, hp⟩ := g_ob5 hp
  refine gV_calli C (gsub_cmo_m _ _ rfl rfl) (gV_runV (As := [.int (xs (v4 + 1).toNatClampNeg), .int (xs (v4 + 2).toNatClampNeg)]) (rest := []) C (mt_X4_partMark hl D k cI cJ th mP mC mR mal mhd mn mg mt mh mz mset mfr mma mde mls (xs (v4 + 1).toNatClampNeg) (xs (v4 + 2).toNatClampNeg) r1074q th_1074 mh_1074 mz_1074 mset_1074 hq1074) (cwV 2 C.2.2.2.2.1 gL_law_X4_partMark rfl rfl rfl hdv_X4_partMark ⟨Nat.le_of_ble_eq_true rfl, Nat.le_of_ble_eq_true rfl⟩) (gsub_cmo_m _ _ rfl rfl) 13 rfl rfl rfl rfl (Nat.le_of_ble_eq_true rfl) dL_law_1074 ⟨g_rc (by omega), g_rs (by omega)⟩) (fun _ _ hx => False.elim hx) (fun r1074 w1 hw => ?_)
  obtain ⟨rfl, rfl⟩ := hw
  refine gV_sub (ws' := (cW h cI cJ lc la hr uP uC uR tn pn_1056 pg_1056 pq_1056 rl sr gcb gpb tg tm tl pm_1056 ps_1056) ++ ((mW k cI th_1074 mP mC mR mal mhd mn mg mt mh_1074 mz_1074 mset_1074 mfr mma mde mls) ++ (oW ho cJ ov_1056))) [0, 1, 2, 3, 4, 5, 6, 7, 8, 9, 10, 11, 12, 14, 15, 16, 17, 18, 19, 20, 21, 22, 23, 13] (by decide) rfl rfl ?_
  refine gV_istore (lvs' := [(6, .int r1074), (5, .int r1056), (0, .ref b), (1, .ref (h 0)), (2, .ref (k 0)), (3, .ref ho), (4, .int v4)]) C dL_law_1077 (by decide) rfl ?_
  refine gV_aload_n C dL_law_1079 rfl 4 rfl ?_
  obtain ⟨r1080q, hq1080, hp⟩ := g_ob1 hp
  refine gV_calli C (gsub_cmo_m _ _ rfl rfl) (gV_runV (As := []) (rest := []) C (mt_X4_thrown hl D k cI cJ th_1074 mP mC mR mal mhd mn mg mt mh_1074 mz_1074 mset_1074 mfr mma mde mls r1080q hq1080) (cwV 0 C.2.2.2.2.1 gL_law_X4_thrown rfl rfl rfl hdv_X4_thrown ⟨Nat.le_of_ble_eq_true rfl, Nat.le_of_ble_eq_true rfl⟩) (gsub_cmo_m _ _ rfl rfl) 13 rfl rfl rfl rfl (Nat.le_of_ble_eq_true rfl) dL_law_1080 ⟨g_rc (by omega), g_rs (by omega)⟩) (fun _ _ hx => False.elim hx) (fun r1080 w1 hw => ?_)
  obtain ⟨rfl, rfl⟩ := hw
  refine gV_sub (ws' := (cW h cI cJ lc la hr uP uC uR tn pn_1056 pg_1056 pq_1056 rl sr gcb gpb tg tm tl pm_1056 ps_1056) ++ ((mW k cI th_1074 mP mC mR mal mhd mn mg mt mh_1074 mz_1074 mset_1074 mfr mma mde mls) ++ (oW ho cJ ov_1056))) [0, 1, 2, 3, 4, 5, 6, 7, 8, 9, 10, 11, 12, 14, 15, 16, 17, 18, 19, 20, 21, 22, 23, 13] (by decide) rfl rfl ?_
  refine gV_iload C dL_law_1083 1 rfl ?_
  refine gV_icmp_eq (tgt := 1090) C dL_law_1085 (by decide) (fun c1085 => ?_) (fun c1085 => ?_)
  · replace hp := g_ift hp c1085
    refine gV_iload C dL_law_1090 1 rfl ?_
    refine gV_if_ne (tgt := 1107) C dL_law_1092 (by decide) (fun c1092 => ?_) (fun c1092 => ?_)
    · replace hp := g_iff hp c1092
      refine gV_loc [2, 3, 4, 5, 6] rfl ?_
      exact J1107 _ _ (by omega) (by omega) pn_1056 pg_1056 pq_1056 pm_1056 ps_1056 th_1074 mh_1074 mz_1074 mset_1074 ov_1056 hp
    · replace hp := g_ift hp c1092
      refine gV_aload_n C dL_law_1095 rfl 5 rfl ?_
      refine gV_iconst (v := 0) C dL_law_1096 rfl ?_
      obtain ⟨hi1097, hp⟩ := g_idx hp
      refine gV_lald C 23 rfl 1 rfl hi1097 dL_law_1097 ?_
      refine gV_iload C dL_law_1098 0 rfl ?_
      refine gV_i2l C dL_law_1100 ?_
      refine gV_lcmp C dL_law_1101 ?_
      refine gV_if_eq (tgt := 1107) C dL_law_1102 (by decide) (fun c1102 => ?_) (fun c1102 => ?_)
      · replace hp := g_ift hp c1102
        refine gV_loc [2, 3, 4, 5, 6] rfl ?_
        exact J1107 _ _ (by omega) (by omega) pn_1056 pg_1056 pq_1056 pm_1056 ps_1056 th_1074 mh_1074 mz_1074 mset_1074 ov_1056 hp
      · replace hp := g_iff hp c1102
        refine gV_iconst (v := 0) C dL_law_1105 rfl ?_
        exact absurd hp (by decide)
  · replace hp := g_iff hp c1085
    refine gV_iconst (v := 0) C dL_law_1088 rfl ?_
    exact absurd hp (by decide)
def pf_law_c19_j1175 (kL : Int32 → Int32 → Int32 → Int32 → Int32 → Int32 → Int32 → Int32 → Int32 → Int32 → (Nat → Int32) → (Nat → Int32) → (Nat → Int32) → (Nat → Int64) → (Nat → Int32) → (Nat → Int32) → (Nat → Int32) → (Nat → Int32) → (Nat → Int32) → Int32 → Int32 → Int32 → Int32 → Int32 → Int32 → Int32 → (Nat → Int32) → (Nat → Int32) → (Nat → Int32) → (Nat → Int32) → (Nat → Int32) → (Nat → Int32) → (Nat → Int32) → (Nat → Int32) → (Nat → Int32) → (Nat → Int64) → Option Int32) (lc : Int32) (la : Int32) (hr : Int32) (uP : Int32) (uC : Int32) (uR : Int32) (tn : Int32) (rl : Nat → Int32) (sr : Nat → Int32) (gcb : Nat → Int32) (gpb : Nat → Int64) (tg : Nat → Int32) (tm : Nat → Int32) (tl : Nat → Int32) (mP : Int32) (mC : Int32) (mR : Int32) (mal : Int32) (mhd : Int32) (mn : Int32) (mg : Nat → Int32) (mt : Nat → Int32) (mfr : Nat → Int32) (mma : Nat → Int32) (mde : Nat → Int32) (mls : Nat → Int32) (pn : Int32) (pg : Int32) (pq : Int32) (pm : Nat → Int32) (ps : Nat → Int32) (th : Int32) (mh : Nat → Int32) (mz : Nat → Int32) (mset : Nat → Int32) (ov : Nat → Int64) : Option (Int32) := (kL lc la hr uP uC uR tn pn pg pq rl sr gcb gpb tg tm tl pm ps th mP mC mR mal mhd mn mg mt mh mz mset mfr mma mde mls ov)
def pf_law_c19 (kL : Int32 → Int32 → Int32 → Int32 → Int32 → Int32 → Int32 → Int32 → Int32 → Int32 → (Nat → Int32) → (Nat → Int32) → (Nat → Int32) → (Nat → Int64) → (Nat → Int32) → (Nat → Int32) → (Nat → Int32) → (Nat → Int32) → (Nat → Int32) → Int32 → Int32 → Int32 → Int32 → Int32 → Int32 → Int32 → (Nat → Int32) → (Nat → Int32) → (Nat → Int32) → (Nat → Int32) → (Nat → Int32) → (Nat → Int32) → (Nat → Int32) → (Nat → Int32) → (Nat → Int32) → (Nat → Int64) → Option Int32) (L : Nat) (xs : Nat → Int32) (v4 : Int32) (lc : Int32) (la : Int32) (hr : Int32) (uP : Int32) (uC : Int32) (uR : Int32) (tn : Int32) (pn : Int32) (pg : Int32) (pq : Int32) (rl : Nat → Int32) (sr : Nat → Int32) (gcb : Nat → Int32) (gpb : Nat → Int64) (tg : Nat → Int32) (tm : Nat → Int32) (tl : Nat → Int32) (pm : Nat → Int32) (ps : Nat → Int32) (th : Int32) (mP : Int32) (mC : Int32) (mR : Int32) (mal : Int32) (mhd : Int32) (mn : Int32) (mg : Nat → Int32) (mt : Nat → Int32) (mh : Nat → Int32) (mz : Nat → Int32) (mset : Nat → Int32) (mfr : Nat → Int32) (mma : Nat → Int32) (mde : Nat → Int32) (mls : Nat → Int32) (ov : Nat → Int64) : Option Int32 := (gi (v4 + 1) L (gi (v4 + 2) L (ob7 (pf_L_partSize lc uP uR pn pg pq rl gcb gpb pm ps ov (xs (v4 + 1).toNatClampNeg) (xs (v4 + 2).toNatClampNeg)) fun r1124 pn_1124 pg_1124 pq_1124 pm_1124 ps_1124 ov_1124 => (gi (v4 + 1) L (gi (v4 + 2) L (ob5 (pf_X4_partSize th mP mC mR mal mn mg mt mh mz mset (xs (v4 + 1).toNatClampNeg) (xs (v4 + 2).toNatClampNeg)) fun r1142 th_1142 mh_1142 mz_1142 mset_1142 => (ob1 (pf_X4_thrown th_1142) fun r1148 => (if r1148 = r1124 then (if r1124 = 0 then (gi 0 1 (if (lg_cmp (ov_1124 (0 : Int32).toNatClampNeg) r1142.toInt64) = 0 then (pf_law_c19_j1175 kL lc la hr uP uC uR tn rl sr gcb gpb tg tm tl mP mC mR mal mhd mn mg mt mfr mma mde mls pn_1124 pg_1124 pq_1124 pm_1124 ps_1124 th_1142 mh_1142 mz_1142 mset_1142 ov_1124) else (some 0))) else (pf_law_c19_j1175 kL lc la hr uP uC uR tn rl sr gcb gpb tg tm tl mP mC mR mal mhd mn mg mt mfr mma mde mls pn_1124 pg_1124 pq_1124 pm_1124 ps_1124 th_1142 mh_1142 mz_1142 mset_1142 ov_1124)) else (some 0)))))))))
theorem hds_L_partSize : yL_partSize.cls ≠ "java/lang/invoke/MethodHandle" ∧ yL_partSize.cls ≠ "java/lang/invoke/VarHandle" ∧ (parseMethodDescriptor yL_partSize.desc).map (fun d => d.parameters.length) = some 4 := by decide +kernel
theorem hdv_X4_partSize : yX4_partSize.cls = RX4 ∧ yX4_partSize.cls ≠ "java/lang/invoke/MethodHandle" ∧ yX4_partSize.cls ≠ "java/lang/invoke/VarHandle" ∧ (parseMethodDescriptor yX4_partSize.desc).map (fun d => d.parameters.length) = some 2 := by decide +kernel
set_option maxHeartbeats 4000000 in
set_option maxRecDepth 100000 in
theorem mt_law_c19 {p : Program} {l : Launch} (hl : l.stackTraces = false) {e : Env} {s : State} {m : MethodId} {args : Array Value} {below : List Frame} {meth : Method} {c : Code} {A : Nat → Prop} {D : va_G} {Q : State → Prop} (h k : Nat → Nat) (ho : Nat) (cI cJ : ClassId) {b L : Nat} {xs : Nat → Int32} (C : gC p l s m args meth c A D [(cI, .int), (cJ, .long)] 7 RL cL_law wsL_law) (hX : va_X b L xs s s.heap) (hbl : b < s.heap.size) (hbA : ¬ A b) (kL : Int32 → Int32 → Int32 → Int32 → Int32 → Int32 → Int32 → Int32 → Int32 → Int32 → (Nat → Int32) → (Nat → Int32) → (Nat → Int32) → (Nat → Int64) → (Nat → Int32) → (Nat → Int32) → (Nat → Int32) → (Nat → Int32) → (Nat → Int32) → Int32 → Int32 → Int32 → Int32 → Int32 → Int32 → Int32 → (Nat → Int32) → (Nat → Int32) → (Nat → Int32) → (Nat → Int32) → (Nat → Int32) → (Nat → Int32) → (Nat → Int32) → (Nat → Int32) → (Nat → Int32) → (Nat → Int64) → Option Int32) (K N K' N' : Nat) (hK : K + 8 ≤ K') (hN : N + 48 ≤ N') (hK' : K' ≤ 601024) (hN' : N' ≤ 7293034) (v4 : Int32) (JE : ∀ (lc : Int32) (la : Int32) (hr : Int32) (uP : Int32) (uC : Int32) (uR : Int32) (tn : Int32) (pn : Int32) (pg : Int32) (pq : Int32) (rl : Nat → Int32) (sr : Nat → Int32) (gcb : Nat → Int32) (gpb : Nat → Int64) (tg : Nat → Int32) (tm : Nat → Int32) (tl : Nat → Int32) (pm : Nat → Int32) (ps : Nat → Int32) (th : Int32) (mP : Int32) (mC : Int32) (mR : Int32) (mal : Int32) (mhd : Int32) (mn : Int32) (mg : Nat → Int32) (mt : Nat → Int32) (mh : Nat → Int32) (mz : Nat → Int32) (mset : Nat → Int32) (mfr : Nat → Int32) (mma : Nat → Int32) (mde : Nat → Int32) (mls : Nat → Int32) (ov : Nat → Int64), kL lc la hr uP uC uR tn pn pg pq rl sr gcb gpb tg tm tl pm ps th mP mC mR mal mhd mn mg mt mh mz mset mfr mma mde mls ov = some 1 → gV p l e room_1 s m args below meth c A D 7 Q ((cW h cI cJ lc la hr uP uC uR tn pn pg pq rl sr gcb gpb tg tm tl pm ps) ++ ((mW k cI th mP mC mR mal mhd mn mg mt mh mz mset mfr mma mde mls) ++ (oW ho cJ ov))) [(0, .ref b), (1, .ref (h 0)), (2, .ref (k 0)), (3, .ref ho), (4, .int v4)] K' N' 1466 []) (lc : Int32) (la : Int32) (hr : Int32) (uP : Int32) (uC : Int32) (uR : Int32) (tn : Int32) (pn : Int32) (pg : Int32) (pq : Int32) (rl : Nat → Int32) (sr : Nat → Int32) (gcb : Nat → Int32) (gpb : Nat → Int64) (tg : Nat → Int32) (tm : Nat → Int32) (tl : Nat → Int32) (pm : Nat → Int32) (ps : Nat → Int32) (th : Int32) (mP : Int32) (mC : Int32) (mR : Int32) (mal : Int32) (mhd : Int32) (mn : Int32) (mg : Nat → Int32) (mt : Nat → Int32) (mh : Nat → Int32) (mz : Nat → Int32) (mset : Nat → Int32) (mfr : Nat → Int32) (mma : Nat → Int32) (mde : Nat → Int32) (mls : Nat → Int32) (ov : Nat → Int64) (hp : pf_law_c19 kL L xs v4 lc la hr uP uC uR tn pn pg pq rl sr gcb gpb tg tm tl pm ps th mP mC mR mal mhd mn mg mt mh mz mset mfr mma mde mls ov = some 1) : gV p l e room_1 s m args below meth c A D 7 Q ((cW h cI cJ lc la hr uP uC uR tn pn pg pq rl sr gcb gpb tg tm tl pm ps) ++ ((mW k cI th mP mC mR mal mhd mn mg mt mh mz mset mfr mma mde mls) ++ (oW ho cJ ov))) [(0, .ref b), (1, .ref (h 0)), (2, .ref (k 0)), (3, .ref ho), (4, .int v4)] K N 1110 [] := by
  unfold pf_law_c19 at hp
  have J1175 : ∀ (K1 N1 : Nat), K1 + 2 ≤ K' → N1 + 12 ≤ N' → ∀ (pn : Int32) (pg : Int32) (pq : Int32) (pm : Nat → Int32) (ps : Nat → Int32) (th : Int32) (mh : Nat → Int32) (mz : Nat → Int32) (mset : Nat → Int32) (ov : Nat → Int64), pf_law_c19_j1175 kL lc la hr uP uC uR tn rl sr gcb gpb tg tm tl mP mC mR mal mhd mn mg mt mfr mma mde mls pn pg pq pm ps th mh mz mset ov = some 1 → gV p l e room_1 s m args below meth c A D 7 Q ((cW h cI cJ lc la hr uP uC uR tn pn pg pq rl sr gcb gpb tg tm tl pm ps) ++ ((mW k cI th mP mC mR mal mhd mn mg mt mh mz mset mfr mma mde mls) ++ (oW ho cJ ov))) [(0, .ref b), (1, .ref (h 0)), (2, .ref (k 0)), (3, .ref ho), (4, .int v4)] K1 N1 1175 [] := by
    intro K1 N1 hK1 hN1 pn pg pq pm ps th mh mz mset ov hp
    unfold pf_law_c19_j1175 at hp
    refine gV_goto (tgt := 1466) C dL_law_1175 (by decide) ?_
    refine gV_widen (k' := K') (n' := N') (by omega) (by omega) ?_
    exact JE lc la hr uP uC uR tn pn pg pq rl sr gcb gpb tg tm tl pm ps th mP mC mR mal mhd mn mg mt mh mz mset mfr mma mde mls ov hp
  refine gV_aload_n C dL_law_1110 rfl 1 rfl ?_
  refine gV_aload_n C dL_law_1111 rfl 0 rfl ?_
  refine gV_iload C dL_law_1112 4 rfl ?_
  refine gV_iconst (v := 1) C dL_law_1114 rfl ?_
  refine gV_iadd C dL_law_1115 ?_
  obtain ⟨hi1116, hp⟩ := g_idx hp
  refine gV_sld C hX hbl hbA hi1116 dL_law_1116 ?_
  refine gV_aload_n C dL_law_1117 rfl 0 rfl ?_
  refine gV_iload C dL_law_1118 4 rfl ?_
  refine gV_iconst (v := 2) C dL_law_1120 rfl ?_
  refine gV_iadd C dL_law_1121 ?_
  obtain ⟨hi1122, hp⟩ := g_idx hp
  refine gV_sld C hX hbl hbA hi1122 dL_law_1122 ?_
  refine gV_aload_n C dL_law_1123 rfl 3 rfl ?_
  obtain ⟨r1124q, pn_1124, pg_1124, pq_1124, pm_1124, ps_1124, ov_1124, hq1124, hp⟩ := g_ob7 hp
  refine gV_calli C (gsub_cmo_co _ _ rfl rfl) (gV_runSX (As := [.ref (h 0), .int (xs (v4 + 1).toNatClampNeg), .int (xs (v4 + 2).toNatClampNeg), .ref ho]) (rest := []) C (mt_L_partSize hl D h ho cI cJ lc la hr uP uC uR tn pn pg pq rl sr gcb gpb tg tm tl pm ps ov (xs (v4 + 1).toNatClampNeg) (xs (v4 + 2).toNatClampNeg) r1124q pn_1124 pg_1124 pq_1124 pm_1124 ps_1124 ov_1124 hq1124) (vx_cwSW 4 C.2.2.2.2.1 gL_law_L_partSize rfl rfl rfl hds_L_partSize ⟨Nat.le_of_ble_eq_true rfl, Nat.le_of_ble_eq_true rfl⟩) (gsub_cmo_co _ _ rfl rfl) rfl rfl (Nat.le_of_ble_eq_true rfl) dL_law_1124 ⟨g_rc (by omega), g_rs (by omega)⟩) (fun _ _ hx => False.elim hx) (fun r1124 w1 hw => ?_)
  obtain ⟨rfl, rfl⟩ := hw
  refine gV_sub (ws' := (cW h cI cJ lc la hr uP uC uR tn pn_1124 pg_1124 pq_1124 rl sr gcb gpb tg tm tl pm_1124 ps_1124) ++ ((mW k cI th mP mC mR mal mhd mn mg mt mh mz mset mfr mma mde mls) ++ (oW ho cJ ov_1124))) [10, 11, 12, 13, 14, 15, 16, 17, 18, 19, 20, 21, 22, 0, 1, 2, 3, 4, 5, 6, 7, 8, 9, 23] (by decide) rfl rfl ?_
  refine gV_istore (lvs' := [(5, .int r1124), (0, .ref b), (1, .ref (h 0)), (2, .ref (k 0)), (3, .ref ho), (4, .int v4)]) C dL_law_1127 (by decide) rfl ?_
  refine gV_aload_n C dL_law_1129 rfl 3 rfl ?_
  refine gV_aload_n C dL_law_1130 rfl 1 rfl ?_
  refine gV_iload C dL_law_1131 5 rfl ?_
  refine gV_iconst (v := 1) C dL_law_1133 rfl ?_
  refine gV_iadd C dL_law_1134 ?_
  obtain ⟨hi1135, hp⟩ := g_idx hp
  refine gV_sld C hX hbl hbA hi1135 dL_law_1135 ?_
  refine gV_aload_n C dL_law_1136 rfl 1 rfl ?_
  refine gV_iload C dL_law_1137 5 rfl ?_
  refine gV_iconst (v := 2) C dL_law_1139 rfl ?_
  refine gV_iadd C dL_law_1140 ?_
  obtain ⟨hi1141, hp⟩ := g_idx hp
  refine gV_sld C hX hbl hbA hi1141 dL_law_1141 ?_
  obtain ⟨r1142q, th_1142, mh_1142, mz_1142, mset_1142, hq1142, hp⟩ := g_ob5 hp
  refine gV_calli C (gsub_cmo_m _ _ rfl rfl) (gV_runV (As := [.int (xs (v4 + 1).toNatClampNeg), .int (xs (v4 + 2).toNatClampNeg)]) (rest := []) C (mt_X4_partSize hl D k cI cJ th mP mC mR mal mhd mn mg mt mh mz mset mfr mma mde mls (xs (v4 + 1).toNatClampNeg) (xs (v4 + 2).toNatClampNeg) r1142q th_1142 mh_1142 mz_1142 mset_1142 hq1142) (cwV 2 C.2.2.2.2.1 gL_law_X4_partSize rfl rfl rfl hdv_X4_partSize ⟨Nat.le_of_ble_eq_true rfl, Nat.le_of_ble_eq_true rfl⟩) (gsub_cmo_m _ _ rfl rfl) 13 rfl rfl rfl rfl (Nat.le_of_ble_eq_true rfl) dL_law_1142 ⟨g_rc (by omega), g_rs (by omega)⟩) (fun _ _ hx => False.elim hx) (fun r1142 w1 hw => ?_)
  obtain ⟨rfl, rfl⟩ := hw
  refine gV_sub (ws' := (cW h cI cJ lc la hr uP uC uR tn pn_1124 pg_1124 pq_1124 rl sr gcb gpb tg tm tl pm_1124 ps_1124) ++ ((mW k cI th_1142 mP mC mR mal mhd mn mg mt mh_1142 mz_1142 mset_1142 mfr mma mde mls) ++ (oW ho cJ ov_1124))) [0, 1, 2, 3, 4, 5, 6, 7, 8, 9, 10, 11, 12, 14, 15, 16, 17, 18, 19, 20, 21, 22, 23, 13] (by decide) rfl rfl ?_
  refine gV_istore (lvs' := [(6, .int r1142), (5, .int r1124), (0, .ref b), (1, .ref (h 0)), (2, .ref (k 0)), (3, .ref ho), (4, .int v4)]) C dL_law_1145 (by decide) rfl ?_
  refine gV_aload_n C dL_law_1147 rfl 4 rfl ?_
  obtain ⟨r1148q, hq1148, hp⟩ := g_ob1 hp
  refine gV_calli C (gsub_cmo_m _ _ rfl rfl) (gV_runV (As := []) (rest := []) C (mt_X4_thrown hl D k cI cJ th_1142 mP mC mR mal mhd mn mg mt mh_1142 mz_1142 mset_1142 mfr mma mde mls r1148q hq1148) (cwV 0 C.2.2.2.2.1 gL_law_X4_thrown rfl rfl rfl hdv_X4_thrown ⟨Nat.le_of_ble_eq_true rfl, Nat.le_of_ble_eq_true rfl⟩) (gsub_cmo_m _ _ rfl rfl) 13 rfl rfl rfl rfl (Nat.le_of_ble_eq_true rfl) dL_law_1148 ⟨g_rc (by omega), g_rs (by omega)⟩) (fun _ _ hx => False.elim hx) (fun r1148 w1 hw => ?_)
  obtain ⟨rfl, rfl⟩ := hw
  refine gV_sub (ws' := (cW h cI cJ lc la hr uP uC uR tn pn_1124 pg_1124 pq_1124 rl sr gcb gpb tg tm tl pm_1124 ps_1124) ++ ((mW k cI th_1142 mP mC mR mal mhd mn mg mt mh_1142 mz_1142 mset_1142 mfr mma mde mls) ++ (oW ho cJ ov_1124))) [0, 1, 2, 3, 4, 5, 6, 7, 8, 9, 10, 11, 12, 14, 15, 16, 17, 18, 19, 20, 21, 22, 23, 13] (by decide) rfl rfl ?_
  refine gV_iload C dL_law_1151 1 rfl ?_
  refine gV_icmp_eq (tgt := 1158) C dL_law_1153 (by decide) (fun c1153 => ?_) (fun c1153 => ?_)
  · replace hp := g_ift hp c1153
    refine gV_iload C dL_law_1158 1 rfl ?_
    refine gV_if_ne (tgt := 1175) C dL_law_1160 (by decide) (fun c1160 => ?_) (fun c1160 => ?_)
    · replace hp := g_iff hp c1160
      refine gV_loc [2, 3, 4, 5, 6] rfl ?_
      exact J1175 _ _ (by omega) (by omega) pn_1124 pg_1124 pq_1124 pm_1124 ps_1124 th_1142 mh_1142 mz_1142 mset_1142 ov_1124 hp
    · replace hp := g_ift hp c1160
      refine gV_aload_n C dL_law_1163 rfl 5 rfl ?_
      refine gV_iconst (v := 0) C dL_law_1164 rfl ?_
      obtain ⟨hi1165, hp⟩ := g_idx hp
      refine gV_lald C 23 rfl 1 rfl hi1165 dL_law_1165 ?_
      refine gV_iload C dL_law_1166 0 rfl ?_
      refine gV_i2l C dL_law_1168 ?_
      refine gV_lcmp C dL_law_1169 ?_
      refine gV_if_eq (tgt := 1175) C dL_law_1170 (by decide) (fun c1170 => ?_) (fun c1170 => ?_)
      · replace hp := g_ift hp c1170
        refine gV_loc [2, 3, 4, 5, 6] rfl ?_
        exact J1175 _ _ (by omega) (by omega) pn_1124 pg_1124 pq_1124 pm_1124 ps_1124 th_1142 mh_1142 mz_1142 mset_1142 ov_1124 hp
      · replace hp := g_iff hp c1170
        refine gV_iconst (v := 0) C dL_law_1173 rfl ?_
        exact absurd hp (by decide)
  · replace hp := g_iff hp c1153
    refine gV_iconst (v := 0) C dL_law_1156 rfl ?_
    exact absurd hp (by decide)
def pf_law_c20_j1231 (kL : Int32 → Int32 → Int32 → Int32 → Int32 → Int32 → Int32 → Int32 → Int32 → Int32 → (Nat → Int32) → (Nat → Int32) → (Nat → Int32) → (Nat → Int64) → (Nat → Int32) → (Nat → Int32) → (Nat → Int32) → (Nat → Int32) → (Nat → Int32) → Int32 → Int32 → Int32 → Int32 → Int32 → Int32 → Int32 → (Nat → Int32) → (Nat → Int32) → (Nat → Int32) → (Nat → Int32) → (Nat → Int32) → (Nat → Int32) → (Nat → Int32) → (Nat → Int32) → (Nat → Int32) → (Nat → Int64) → Option Int32) (lc : Int32) (la : Int32) (hr : Int32) (uP : Int32) (uC : Int32) (uR : Int32) (tn : Int32) (rl : Nat → Int32) (sr : Nat → Int32) (gcb : Nat → Int32) (gpb : Nat → Int64) (tg : Nat → Int32) (tm : Nat → Int32) (tl : Nat → Int32) (mP : Int32) (mC : Int32) (mR : Int32) (mal : Int32) (mhd : Int32) (mn : Int32) (mg : Nat → Int32) (mt : Nat → Int32) (mfr : Nat → Int32) (mma : Nat → Int32) (mde : Nat → Int32) (mls : Nat → Int32) (pn : Int32) (pg : Int32) (pq : Int32) (pm : Nat → Int32) (ps : Nat → Int32) (th : Int32) (mh : Nat → Int32) (mz : Nat → Int32) (mset : Nat → Int32) (ov : Nat → Int64) : Option (Int32) := (kL lc la hr uP uC uR tn pn pg pq rl sr gcb gpb tg tm tl pm ps th mP mC mR mal mhd mn mg mt mh mz mset mfr mma mde mls ov)
def pf_law_c20 (kL : Int32 → Int32 → Int32 → Int32 → Int32 → Int32 → Int32 → Int32 → Int32 → Int32 → (Nat → Int32) → (Nat → Int32) → (Nat → Int32) → (Nat → Int64) → (Nat → Int32) → (Nat → Int32) → (Nat → Int32) → (Nat → Int32) → (Nat → Int32) → Int32 → Int32 → Int32 → Int32 → Int32 → Int32 → Int32 → (Nat → Int32) → (Nat → Int32) → (Nat → Int32) → (Nat → Int32) → (Nat → Int32) → (Nat → Int32) → (Nat → Int32) → (Nat → Int32) → (Nat → Int32) → (Nat → Int64) → Option Int32) (L : Nat) (xs : Nat → Int32) (v4 : Int32) (lc : Int32) (la : Int32) (hr : Int32) (uP : Int32) (uC : Int32) (uR : Int32) (tn : Int32) (pn : Int32) (pg : Int32) (pq : Int32) (rl : Nat → Int32) (sr : Nat → Int32) (gcb : Nat → Int32) (gpb : Nat → Int64) (tg : Nat → Int32) (tm : Nat → Int32) (tl : Nat → Int32) (pm : Nat → Int32) (ps : Nat → Int32) (th : Int32) (mP : Int32) (mC : Int32) (mR : Int32) (mal : Int32) (mhd : Int32) (mn : Int32) (mg : Nat → Int32) (mt : Nat → Int32) (mh : Nat → Int32) (mz : Nat → Int32) (mset : Nat → Int32) (mfr : Nat → Int32) (mma : Nat → Int32) (mde : Nat → Int32) (mls : Nat → Int32) (ov : Nat → Int64) : Option Int32 := (gi (v4 + 1) L (ob7 (pf_L_worstCase lc uP uR pn pg pq rl gcb gpb pm ps ov (xs (v4 + 1).toNatClampNeg)) fun r1186 pn_1186 pg_1186 pq_1186 pm_1186 ps_1186 ov_1186 => (gi (v4 + 1) L (ob5 (pf_X4_worstCase th mP mC mR mal mn mg mt mh mz mset (xs (v4 + 1).toNatClampNeg)) fun r1198 th_1198 mh_1198 mz_1198 mset_1198 => (ob1 (pf_X4_thrown th_1198) fun r1204 => (if r1204 = r1186 then (if r1186 = 0 then (gi 0 1 (if (lg_cmp (ov_1186 (0 : Int32).toNatClampNeg) r1198.toInt64) = 0 then (pf_law_c20_j1231 kL lc la hr uP uC uR tn rl sr gcb gpb tg tm tl mP mC mR mal mhd mn mg mt mfr mma mde mls pn_1186 pg_1186 pq_1186 pm_1186 ps_1186 th_1198 mh_1198 mz_1198 mset_1198 ov_1186) else (some 0))) else (pf_law_c20_j1231 kL lc la hr uP uC uR tn rl sr gcb gpb tg tm tl mP mC mR mal mhd mn mg mt mfr mma mde mls pn_1186 pg_1186 pq_1186 pm_1186 ps_1186 th_1198 mh_1198 mz_1198 mset_1198 ov_1186)) else (some 0)))))))
theorem hds_L_worstCase : yL_worstCase.cls ≠ "java/lang/invoke/MethodHandle" ∧ yL_worstCase.cls ≠ "java/lang/invoke/VarHandle" ∧ (parseMethodDescriptor yL_worstCase.desc).map (fun d => d.parameters.length) = some 3 := by decide +kernel
theorem hdv_X4_worstCase : yX4_worstCase.cls = RX4 ∧ yX4_worstCase.cls ≠ "java/lang/invoke/MethodHandle" ∧ yX4_worstCase.cls ≠ "java/lang/invoke/VarHandle" ∧ (parseMethodDescriptor yX4_worstCase.desc).map (fun d => d.parameters.length) = some 1 := by decide +kernel
set_option maxHeartbeats 4000000 in
set_option maxRecDepth 100000 in
theorem mt_law_c20 {p : Program} {l : Launch} (hl : l.stackTraces = false) {e : Env} {s : State} {m : MethodId} {args : Array Value} {below : List Frame} {meth : Method} {c : Code} {A : Nat → Prop} {D : va_G} {Q : State → Prop} (h k : Nat → Nat) (ho : Nat) (cI cJ : ClassId) {b L : Nat} {xs : Nat → Int32} (C : gC p l s m args meth c A D [(cI, .int), (cJ, .long)] 7 RL cL_law wsL_law) (hX : va_X b L xs s s.heap) (hbl : b < s.heap.size) (hbA : ¬ A b) (kL : Int32 → Int32 → Int32 → Int32 → Int32 → Int32 → Int32 → Int32 → Int32 → Int32 → (Nat → Int32) → (Nat → Int32) → (Nat → Int32) → (Nat → Int64) → (Nat → Int32) → (Nat → Int32) → (Nat → Int32) → (Nat → Int32) → (Nat → Int32) → Int32 → Int32 → Int32 → Int32 → Int32 → Int32 → Int32 → (Nat → Int32) → (Nat → Int32) → (Nat → Int32) → (Nat → Int32) → (Nat → Int32) → (Nat → Int32) → (Nat → Int32) → (Nat → Int32) → (Nat → Int32) → (Nat → Int64) → Option Int32) (K N K' N' : Nat) (hK : K + 8 ≤ K') (hN : N + 48 ≤ N') (hK' : K' ≤ 601024) (hN' : N' ≤ 7293034) (v4 : Int32) (JE : ∀ (lc : Int32) (la : Int32) (hr : Int32) (uP : Int32) (uC : Int32) (uR : Int32) (tn : Int32) (pn : Int32) (pg : Int32) (pq : Int32) (rl : Nat → Int32) (sr : Nat → Int32) (gcb : Nat → Int32) (gpb : Nat → Int64) (tg : Nat → Int32) (tm : Nat → Int32) (tl : Nat → Int32) (pm : Nat → Int32) (ps : Nat → Int32) (th : Int32) (mP : Int32) (mC : Int32) (mR : Int32) (mal : Int32) (mhd : Int32) (mn : Int32) (mg : Nat → Int32) (mt : Nat → Int32) (mh : Nat → Int32) (mz : Nat → Int32) (mset : Nat → Int32) (mfr : Nat → Int32) (mma : Nat → Int32) (mde : Nat → Int32) (mls : Nat → Int32) (ov : Nat → Int64), kL lc la hr uP uC uR tn pn pg pq rl sr gcb gpb tg tm tl pm ps th mP mC mR mal mhd mn mg mt mh mz mset mfr mma mde mls ov = some 1 → gV p l e room_1 s m args below meth c A D 7 Q ((cW h cI cJ lc la hr uP uC uR tn pn pg pq rl sr gcb gpb tg tm tl pm ps) ++ ((mW k cI th mP mC mR mal mhd mn mg mt mh mz mset mfr mma mde mls) ++ (oW ho cJ ov))) [(0, .ref b), (1, .ref (h 0)), (2, .ref (k 0)), (3, .ref ho), (4, .int v4)] K' N' 1466 []) (lc : Int32) (la : Int32) (hr : Int32) (uP : Int32) (uC : Int32) (uR : Int32) (tn : Int32) (pn : Int32) (pg : Int32) (pq : Int32) (rl : Nat → Int32) (sr : Nat → Int32) (gcb : Nat → Int32) (gpb : Nat → Int64) (tg : Nat → Int32) (tm : Nat → Int32) (tl : Nat → Int32) (pm : Nat → Int32) (ps : Nat → Int32) (th : Int32) (mP : Int32) (mC : Int32) (mR : Int32) (mal : Int32) (mhd : Int32) (mn : Int32) (mg : Nat → Int32) (mt : Nat → Int32) (mh : Nat → Int32) (mz : Nat → Int32) (mset : Nat → Int32) (mfr : Nat → Int32) (mma : Nat → Int32) (mde : Nat → Int32) (mls : Nat → Int32) (ov : Nat → Int64) (hp : pf_law_c20 kL L xs v4 lc la hr uP uC uR tn pn pg pq rl sr gcb gpb tg tm tl pm ps th mP mC mR mal mhd mn mg mt mh mz mset mfr mma mde mls ov = some 1) : gV p l e room_1 s m args below meth c A D 7 Q ((cW h cI cJ lc la hr uP uC uR tn pn pg pq rl sr gcb gpb tg tm tl pm ps) ++ ((mW k cI th mP mC mR mal mhd mn mg mt mh mz mset mfr mma mde mls) ++ (oW ho cJ ov))) [(0, .ref b), (1, .ref (h 0)), (2, .ref (k 0)), (3, .ref ho), (4, .int v4)] K N 1178 [] := by
  unfold pf_law_c20 at hp
  have J1231 : ∀ (K1 N1 : Nat), K1 + 2 ≤ K' → N1 + 12 ≤ N' → ∀ (pn : Int32) (pg : Int32) (pq : Int32) (pm : Nat → Int32) (ps : Nat → Int32) (th : Int32) (mh : Nat → Int32) (mz : Nat → Int32) (mset : Nat → Int32) (ov : Nat → Int64), pf_law_c20_j1231 kL lc la hr uP uC uR tn rl sr gcb gpb tg tm tl mP mC mR mal mhd mn mg mt mfr mma mde mls pn pg pq pm ps th mh mz mset ov = some 1 → gV p l e room_1 s m args below meth c A D 7 Q ((cW h cI cJ lc la hr uP uC uR tn pn pg pq rl sr gcb gpb tg tm tl pm ps) ++ ((mW k cI th mP mC mR mal mhd mn mg mt mh mz mset mfr mma mde mls) ++ (oW ho cJ ov))) [(0, .ref b), (1, .ref (h 0)), (2, .ref (k 0)), (3, .ref ho), (4, .int v4)] K1 N1 1231 [] := by
    intro K1 N1 hK1 hN1 pn pg pq pm ps th mh mz mset ov hp
    unfold pf_law_c20_j1231 at hp
    refine gV_goto (tgt := 1466) C dL_law_1231 (by decide) ?_
    refine gV_widen (k' := K') (n' := N') (by omega) (by omega) ?_
    exact JE lc la hr uP uC uR tn pn pg pq rl sr gcb gpb tg tm tl pm ps th mP mC mR mal mhd mn mg mt mh mz mset mfr mma mde mls ov hp
  refine gV_aload_n C dL_law_1178 rfl 1 rfl ?_
  refine gV_aload_n C dL_law_1179 rfl 0 rfl ?_
  refine gV_iload C dL_law_1180 4 rfl ?_
  refine gV_iconst (v := 1) C dL_law_1182 rfl ?_
  refine gV_iadd C dL_law_1183 ?_
  obtain ⟨hi1184, hp⟩ := g_idx hp
  refine gV_sld C hX hbl hbA hi1184 dL_law_1184 ?_
  refine gV_aload_n C dL_law_1185 rfl 3 rfl ?_
  obtain ⟨r1186q, pn_1186, pg_1186, pq_1186, pm_1186, ps_1186, ov_1186, hq1186, hp⟩ := g_ob7 hp
  refine gV_calli C (gsub_cmo_co _ _ rfl rfl) (gV_runSX (As := [.ref (h 0), .int (xs (v4 + 1).toNatClampNeg), .ref ho]) (rest := []) C (mt_L_worstCase hl D h ho cI cJ lc la hr uP uC uR tn pn pg pq rl sr gcb gpb tg tm tl pm ps ov (xs (v4 + 1).toNatClampNeg) r1186q pn_1186 pg_1186 pq_1186 pm_1186 ps_1186 ov_1186 hq1186) (vx_cwSW 3 C.2.2.2.2.1 gL_law_L_worstCase rfl rfl rfl hds_L_worstCase ⟨Nat.le_of_ble_eq_true rfl, Nat.le_of_ble_eq_true rfl⟩) (gsub_cmo_co _ _ rfl rfl) rfl rfl (Nat.le_of_ble_eq_true rfl) dL_law_1186 ⟨g_rc (by omega), g_rs (by omega)⟩) (fun _ _ hx => False.elim hx) (fun r1186 w1 hw => ?_)
  obtain ⟨rfl, rfl⟩ := hw
  refine gV_sub (ws' := (cW h cI cJ lc la hr uP uC uR tn pn_1186 pg_1186 pq_1186 rl sr gcb gpb tg tm tl pm_1186 ps_1186) ++ ((mW k cI th mP mC mR mal mhd mn mg mt mh mz mset mfr mma mde mls) ++ (oW ho cJ ov_1186))) [10, 11, 12, 13, 14, 15, 16, 17, 18, 19, 20, 21, 22, 0, 1, 2, 3, 4, 5, 6, 7, 8, 9, 23] (by decide) rfl rfl ?_
  refine gV_istore (lvs' := [(5, .int r1186), (0, .ref b), (1, .ref (h 0)), (2, .ref (k 0)), (3, .ref ho), (4, .int v4)]) C dL_law_1189 (by decide) rfl ?_
  refine gV_aload_n C dL_law_1191 rfl 3 rfl ?_
  refine gV_aload_n C dL_law_1192 rfl 1 rfl ?_
  refine gV_iload C dL_law_1193 5 rfl ?_
  refine gV_iconst (v := 1) C dL_law_1195 rfl ?_
  refine gV_iadd C dL_law_1196 ?_
  obtain ⟨hi1197, hp⟩ := g_idx hp
  refine gV_sld C hX hbl hbA hi1197 dL_law_1197 ?_
  obtain ⟨r1198q, th_1198, mh_1198, mz_1198, mset_1198, hq1198, hp⟩ := g_ob5 hp
  refine gV_calli C (gsub_cmo_m _ _ rfl rfl) (gV_runV (As := [.int (xs (v4 + 1).toNatClampNeg)]) (rest := []) C (mt_X4_worstCase hl D k cI cJ th mP mC mR mal mhd mn mg mt mh mz mset mfr mma mde mls (xs (v4 + 1).toNatClampNeg) r1198q th_1198 mh_1198 mz_1198 mset_1198 hq1198) (cwV 1 C.2.2.2.2.1 gL_law_X4_worstCase rfl rfl rfl hdv_X4_worstCase ⟨Nat.le_of_ble_eq_true rfl, Nat.le_of_ble_eq_true rfl⟩) (gsub_cmo_m _ _ rfl rfl) 13 rfl rfl rfl rfl (Nat.le_of_ble_eq_true rfl) dL_law_1198 ⟨g_rc (by omega), g_rs (by omega)⟩) (fun _ _ hx => False.elim hx) (fun r1198 w1 hw => ?_)
  obtain ⟨rfl, rfl⟩ := hw
  refine gV_sub (ws' := (cW h cI cJ lc la hr uP uC uR tn pn_1186 pg_1186 pq_1186 rl sr gcb gpb tg tm tl pm_1186 ps_1186) ++ ((mW k cI th_1198 mP mC mR mal mhd mn mg mt mh_1198 mz_1198 mset_1198 mfr mma mde mls) ++ (oW ho cJ ov_1186))) [0, 1, 2, 3, 4, 5, 6, 7, 8, 9, 10, 11, 12, 14, 15, 16, 17, 18, 19, 20, 21, 22, 23, 13] (by decide) rfl rfl ?_
  refine gV_istore (lvs' := [(6, .int r1198), (5, .int r1186), (0, .ref b), (1, .ref (h 0)), (2, .ref (k 0)), (3, .ref ho), (4, .int v4)]) C dL_law_1201 (by decide) rfl ?_
  refine gV_aload_n C dL_law_1203 rfl 4 rfl ?_
  obtain ⟨r1204q, hq1204, hp⟩ := g_ob1 hp
  refine gV_calli C (gsub_cmo_m _ _ rfl rfl) (gV_runV (As := []) (rest := []) C (mt_X4_thrown hl D k cI cJ th_1198 mP mC mR mal mhd mn mg mt mh_1198 mz_1198 mset_1198 mfr mma mde mls r1204q hq1204) (cwV 0 C.2.2.2.2.1 gL_law_X4_thrown rfl rfl rfl hdv_X4_thrown ⟨Nat.le_of_ble_eq_true rfl, Nat.le_of_ble_eq_true rfl⟩) (gsub_cmo_m _ _ rfl rfl) 13 rfl rfl rfl rfl (Nat.le_of_ble_eq_true rfl) dL_law_1204 ⟨g_rc (by omega), g_rs (by omega)⟩) (fun _ _ hx => False.elim hx) (fun r1204 w1 hw => ?_)
  obtain ⟨rfl, rfl⟩ := hw
  refine gV_sub (ws' := (cW h cI cJ lc la hr uP uC uR tn pn_1186 pg_1186 pq_1186 rl sr gcb gpb tg tm tl pm_1186 ps_1186) ++ ((mW k cI th_1198 mP mC mR mal mhd mn mg mt mh_1198 mz_1198 mset_1198 mfr mma mde mls) ++ (oW ho cJ ov_1186))) [0, 1, 2, 3, 4, 5, 6, 7, 8, 9, 10, 11, 12, 14, 15, 16, 17, 18, 19, 20, 21, 22, 23, 13] (by decide) rfl rfl ?_
  refine gV_iload C dL_law_1207 1 rfl ?_
  refine gV_icmp_eq (tgt := 1214) C dL_law_1209 (by decide) (fun c1209 => ?_) (fun c1209 => ?_)
  · replace hp := g_ift hp c1209
    refine gV_iload C dL_law_1214 1 rfl ?_
    refine gV_if_ne (tgt := 1231) C dL_law_1216 (by decide) (fun c1216 => ?_) (fun c1216 => ?_)
    · replace hp := g_iff hp c1216
      refine gV_loc [2, 3, 4, 5, 6] rfl ?_
      exact J1231 _ _ (by omega) (by omega) pn_1186 pg_1186 pq_1186 pm_1186 ps_1186 th_1198 mh_1198 mz_1198 mset_1198 ov_1186 hp
    · replace hp := g_ift hp c1216
      refine gV_aload_n C dL_law_1219 rfl 5 rfl ?_
      refine gV_iconst (v := 0) C dL_law_1220 rfl ?_
      obtain ⟨hi1221, hp⟩ := g_idx hp
      refine gV_lald C 23 rfl 1 rfl hi1221 dL_law_1221 ?_
      refine gV_iload C dL_law_1222 0 rfl ?_
      refine gV_i2l C dL_law_1224 ?_
      refine gV_lcmp C dL_law_1225 ?_
      refine gV_if_eq (tgt := 1231) C dL_law_1226 (by decide) (fun c1226 => ?_) (fun c1226 => ?_)
      · replace hp := g_ift hp c1226
        refine gV_loc [2, 3, 4, 5, 6] rfl ?_
        exact J1231 _ _ (by omega) (by omega) pn_1186 pg_1186 pq_1186 pm_1186 ps_1186 th_1198 mh_1198 mz_1198 mset_1198 ov_1186 hp
      · replace hp := g_iff hp c1226
        refine gV_iconst (v := 0) C dL_law_1229 rfl ?_
        exact absurd hp (by decide)
  · replace hp := g_iff hp c1209
    refine gV_iconst (v := 0) C dL_law_1212 rfl ?_
    exact absurd hp (by decide)
def pf_law_c21_j1287 (kL : Int32 → Int32 → Int32 → Int32 → Int32 → Int32 → Int32 → Int32 → Int32 → Int32 → (Nat → Int32) → (Nat → Int32) → (Nat → Int32) → (Nat → Int64) → (Nat → Int32) → (Nat → Int32) → (Nat → Int32) → (Nat → Int32) → (Nat → Int32) → Int32 → Int32 → Int32 → Int32 → Int32 → Int32 → Int32 → (Nat → Int32) → (Nat → Int32) → (Nat → Int32) → (Nat → Int32) → (Nat → Int32) → (Nat → Int32) → (Nat → Int32) → (Nat → Int32) → (Nat → Int32) → (Nat → Int64) → Option Int32) (lc : Int32) (la : Int32) (hr : Int32) (uP : Int32) (uC : Int32) (uR : Int32) (tn : Int32) (rl : Nat → Int32) (sr : Nat → Int32) (gcb : Nat → Int32) (gpb : Nat → Int64) (tg : Nat → Int32) (tm : Nat → Int32) (tl : Nat → Int32) (mP : Int32) (mC : Int32) (mR : Int32) (mal : Int32) (mhd : Int32) (mn : Int32) (mg : Nat → Int32) (mt : Nat → Int32) (mfr : Nat → Int32) (mma : Nat → Int32) (mde : Nat → Int32) (mls : Nat → Int32) (pn : Int32) (pg : Int32) (pq : Int32) (pm : Nat → Int32) (ps : Nat → Int32) (th : Int32) (mh : Nat → Int32) (mz : Nat → Int32) (mset : Nat → Int32) (ov : Nat → Int64) : Option (Int32) := (kL lc la hr uP uC uR tn pn pg pq rl sr gcb gpb tg tm tl pm ps th mP mC mR mal mhd mn mg mt mh mz mset mfr mma mde mls ov)
def pf_law_c21 (kL : Int32 → Int32 → Int32 → Int32 → Int32 → Int32 → Int32 → Int32 → Int32 → Int32 → (Nat → Int32) → (Nat → Int32) → (Nat → Int32) → (Nat → Int64) → (Nat → Int32) → (Nat → Int32) → (Nat → Int32) → (Nat → Int32) → (Nat → Int32) → Int32 → Int32 → Int32 → Int32 → Int32 → Int32 → Int32 → (Nat → Int32) → (Nat → Int32) → (Nat → Int32) → (Nat → Int32) → (Nat → Int32) → (Nat → Int32) → (Nat → Int32) → (Nat → Int32) → (Nat → Int32) → (Nat → Int64) → Option Int32) (L : Nat) (xs : Nat → Int32) (v4 : Int32) (lc : Int32) (la : Int32) (hr : Int32) (uP : Int32) (uC : Int32) (uR : Int32) (tn : Int32) (pn : Int32) (pg : Int32) (pq : Int32) (rl : Nat → Int32) (sr : Nat → Int32) (gcb : Nat → Int32) (gpb : Nat → Int64) (tg : Nat → Int32) (tm : Nat → Int32) (tl : Nat → Int32) (pm : Nat → Int32) (ps : Nat → Int32) (th : Int32) (mP : Int32) (mC : Int32) (mR : Int32) (mal : Int32) (mhd : Int32) (mn : Int32) (mg : Nat → Int32) (mt : Nat → Int32) (mh : Nat → Int32) (mz : Nat → Int32) (mset : Nat → Int32) (mfr : Nat → Int32) (mma : Nat → Int32) (mde : Nat → Int32) (mls : Nat → Int32) (ov : Nat → Int64) : Option Int32 := (gi (v4 + 1) L (ob7 (pf_L_weight lc uP uR pn pg pq rl gcb gpb pm ps ov (xs (v4 + 1).toNatClampNeg)) fun r1242 pn_1242 pg_1242 pq_1242 pm_1242 ps_1242 ov_1242 => (gi (v4 + 1) L (ob5 (pf_X4_weight th mP mC mR mal mn mg mt mh mz mset (xs (v4 + 1).toNatClampNeg)) fun r1254 th_1254 mh_1254 mz_1254 mset_1254 => (ob1 (pf_X4_thrown th_1254) fun r1260 => (if r1260 = r1242 then (if r1242 = 0 then (gi 0 1 (if (lg_cmp (ov_1242 (0 : Int32).toNatClampNeg) r1254.toInt64) = 0 then (pf_law_c21_j1287 kL lc la hr uP uC uR tn rl sr gcb gpb tg tm tl mP mC mR mal mhd mn mg mt mfr mma mde mls pn_1242 pg_1242 pq_1242 pm_1242 ps_1242 th_1254 mh_1254 mz_1254 mset_1254 ov_1242) else (some 0))) else (pf_law_c21_j1287 kL lc la hr uP uC uR tn rl sr gcb gpb tg tm tl mP mC mR mal mhd mn mg mt mfr mma mde mls pn_1242 pg_1242 pq_1242 pm_1242 ps_1242 th_1254 mh_1254 mz_1254 mset_1254 ov_1242)) else (some 0)))))))
theorem hds_L_weight : yL_weight.cls ≠ "java/lang/invoke/MethodHandle" ∧ yL_weight.cls ≠ "java/lang/invoke/VarHandle" ∧ (parseMethodDescriptor yL_weight.desc).map (fun d => d.parameters.length) = some 3 := by decide +kernel
theorem hdv_X4_weight : yX4_weight.cls = RX4 ∧ yX4_weight.cls ≠ "java/lang/invoke/MethodHandle" ∧ yX4_weight.cls ≠ "java/lang/invoke/VarHandle" ∧ (parseMethodDescriptor yX4_weight.desc).map (fun d => d.parameters.length) = some 1 := by decide +kernel
set_option maxHeartbeats 4000000 in
set_option maxRecDepth 100000 in
theorem mt_law_c21 {p : Program} {l : Launch} (hl : l.stackTraces = false) {e : Env} {s : State} {m : MethodId} {args : Array Value} {below : List Frame} {meth : Method} {c : Code} {A : Nat → Prop} {D : va_G} {Q : State → Prop} (h k : Nat → Nat) (ho : Nat) (cI cJ : ClassId) {b L : Nat} {xs : Nat → Int32} (C : gC p l s m args meth c A D [(cI, .int), (cJ, .long)] 7 RL cL_law wsL_law) (hX : va_X b L xs s s.heap) (hbl : b < s.heap.size) (hbA : ¬ A b) (kL : Int32 → Int32 → Int32 → Int32 → Int32 → Int32 → Int32 → Int32 → Int32 → Int32 → (Nat → Int32) → (Nat → Int32) → (Nat → Int32) → (Nat → Int64) → (Nat → Int32) → (Nat → Int32) → (Nat → Int32) → (Nat → Int32) → (Nat → Int32) → Int32 → Int32 → Int32 → Int32 → Int32 → Int32 → Int32 → (Nat → Int32) → (Nat → Int32) → (Nat → Int32) → (Nat → Int32) → (Nat → Int32) → (Nat → Int32) → (Nat → Int32) → (Nat → Int32) → (Nat → Int32) → (Nat → Int64) → Option Int32) (K N K' N' : Nat) (hK : K + 8 ≤ K') (hN : N + 48 ≤ N') (hK' : K' ≤ 601024) (hN' : N' ≤ 7293034) (v4 : Int32) (JE : ∀ (lc : Int32) (la : Int32) (hr : Int32) (uP : Int32) (uC : Int32) (uR : Int32) (tn : Int32) (pn : Int32) (pg : Int32) (pq : Int32) (rl : Nat → Int32) (sr : Nat → Int32) (gcb : Nat → Int32) (gpb : Nat → Int64) (tg : Nat → Int32) (tm : Nat → Int32) (tl : Nat → Int32) (pm : Nat → Int32) (ps : Nat → Int32) (th : Int32) (mP : Int32) (mC : Int32) (mR : Int32) (mal : Int32) (mhd : Int32) (mn : Int32) (mg : Nat → Int32) (mt : Nat → Int32) (mh : Nat → Int32) (mz : Nat → Int32) (mset : Nat → Int32) (mfr : Nat → Int32) (mma : Nat → Int32) (mde : Nat → Int32) (mls : Nat → Int32) (ov : Nat → Int64), kL lc la hr uP uC uR tn pn pg pq rl sr gcb gpb tg tm tl pm ps th mP mC mR mal mhd mn mg mt mh mz mset mfr mma mde mls ov = some 1 → gV p l e room_1 s m args below meth c A D 7 Q ((cW h cI cJ lc la hr uP uC uR tn pn pg pq rl sr gcb gpb tg tm tl pm ps) ++ ((mW k cI th mP mC mR mal mhd mn mg mt mh mz mset mfr mma mde mls) ++ (oW ho cJ ov))) [(0, .ref b), (1, .ref (h 0)), (2, .ref (k 0)), (3, .ref ho), (4, .int v4)] K' N' 1466 []) (lc : Int32) (la : Int32) (hr : Int32) (uP : Int32) (uC : Int32) (uR : Int32) (tn : Int32) (pn : Int32) (pg : Int32) (pq : Int32) (rl : Nat → Int32) (sr : Nat → Int32) (gcb : Nat → Int32) (gpb : Nat → Int64) (tg : Nat → Int32) (tm : Nat → Int32) (tl : Nat → Int32) (pm : Nat → Int32) (ps : Nat → Int32) (th : Int32) (mP : Int32) (mC : Int32) (mR : Int32) (mal : Int32) (mhd : Int32) (mn : Int32) (mg : Nat → Int32) (mt : Nat → Int32) (mh : Nat → Int32) (mz : Nat → Int32) (mset : Nat → Int32) (mfr : Nat → Int32) (mma : Nat → Int32) (mde : Nat → Int32) (mls : Nat → Int32) (ov : Nat → Int64) (hp : pf_law_c21 kL L xs v4 lc la hr uP uC uR tn pn pg pq rl sr gcb gpb tg tm tl pm ps th mP mC mR mal mhd mn mg mt mh mz mset mfr mma mde mls ov = some 1) : gV p l e room_1 s m args below meth c A D 7 Q ((cW h cI cJ lc la hr uP uC uR tn pn pg pq rl sr gcb gpb tg tm tl pm ps) ++ ((mW k cI th mP mC mR mal mhd mn mg mt mh mz mset mfr mma mde mls) ++ (oW ho cJ ov))) [(0, .ref b), (1, .ref (h 0)), (2, .ref (k 0)), (3, .ref ho), (4, .int v4)] K N 1234 [] := by
  unfold pf_law_c21 at hp
  have J1287 : ∀ (K1 N1 : Nat), K1 + 2 ≤ K' → N1 + 12 ≤ N' → ∀ (pn : Int32) (pg : Int32) (pq : Int32) (pm : Nat → Int32) (ps : Nat → Int32) (th : Int32) (mh : Nat → Int32) (mz : Nat → Int32) (mset : Nat → Int32) (ov : Nat → Int64), pf_law_c21_j1287 kL lc la hr uP uC uR tn rl sr gcb gpb tg tm tl mP mC mR mal mhd mn mg mt mfr mma mde mls pn pg pq pm ps th mh mz mset ov = some 1 → gV p l e room_1 s m args below meth c A D 7 Q ((cW h cI cJ lc la hr uP uC uR tn pn pg pq rl sr gcb gpb tg tm tl pm ps) ++ ((mW k cI th mP mC mR mal mhd mn mg mt mh mz mset mfr mma mde mls) ++ (oW ho cJ ov))) [(0, .ref b), (1, .ref (h 0)), (2, .ref (k 0)), (3, .ref ho), (4, .int v4)] K1 N1 1287 [] := by
    intro K1 N1 hK1 hN1 pn pg pq pm ps th mh mz mset ov hp
    unfold pf_law_c21_j1287 at hp
    refine gV_goto (tgt := 1466) C dL_law_1287 (by decide) ?_
    refine gV_widen (k' := K') (n' := N') (by omega) (by omega) ?_
    exact JE lc la hr uP uC uR tn pn pg pq rl sr gcb gpb tg tm tl pm ps th mP mC mR mal mhd mn mg mt mh mz mset mfr mma mde mls ov hp
  refine gV_aload_n C dL_law_1234 rfl 1 rfl ?_
  refine gV_aload_n C dL_law_1235 rfl 0 rfl ?_
  refine gV_iload C dL_law_1236 4 rfl ?_
  refine gV_iconst (v := 1) C dL_law_1238 rfl ?_
  refine gV_iadd C dL_law_1239 ?_
  obtain ⟨hi1240, hp⟩ := g_idx hp
  refine gV_sld C hX hbl hbA hi1240 dL_law_1240 ?_
  refine gV_aload_n C dL_law_1241 rfl 3 rfl ?_
  obtain ⟨r1242q, pn_1242, pg_1242, pq_1242, pm_1242, ps_1242, ov_1242, hq1242, hp⟩ := g_ob7 hp
  refine gV_calli C (gsub_cmo_co _ _ rfl rfl) (gV_runSX (As := [.ref (h 0), .int (xs (v4 + 1).toNatClampNeg), .ref ho]) (rest := []) C (mt_L_weight hl D h ho cI cJ lc la hr uP uC uR tn pn pg pq rl sr gcb gpb tg tm tl pm ps ov (xs (v4 + 1).toNatClampNeg) r1242q pn_1242 pg_1242 pq_1242 pm_1242 ps_1242 ov_1242 hq1242) (vx_cwSW 3 C.2.2.2.2.1 gL_law_L_weight rfl rfl rfl hds_L_weight ⟨Nat.le_of_ble_eq_true rfl, Nat.le_of_ble_eq_true rfl⟩) (gsub_cmo_co _ _ rfl rfl) rfl rfl (Nat.le_of_ble_eq_true rfl) dL_law_1242 ⟨g_rc (by omega), g_rs (by omega)⟩) (fun _ _ hx => False.elim hx) (fun r1242 w1 hw => ?_)
  obtain ⟨rfl, rfl⟩ := hw
  refine gV_sub (ws' := (cW h cI cJ lc la hr uP uC uR tn pn_1242 pg_1242 pq_1242 rl sr gcb gpb tg tm tl pm_1242 ps_1242) ++ ((mW k cI th mP mC mR mal mhd mn mg mt mh mz mset mfr mma mde mls) ++ (oW ho cJ ov_1242))) [10, 11, 12, 13, 14, 15, 16, 17, 18, 19, 20, 21, 22, 0, 1, 2, 3, 4, 5, 6, 7, 8, 9, 23] (by decide) rfl rfl ?_
  refine gV_istore (lvs' := [(5, .int r1242), (0, .ref b), (1, .ref (h 0)), (2, .ref (k 0)), (3, .ref ho), (4, .int v4)]) C dL_law_1245 (by decide) rfl ?_
  refine gV_aload_n C dL_law_1247 rfl 3 rfl ?_
  refine gV_aload_n C dL_law_1248 rfl 1 rfl ?_
  refine gV_iload C dL_law_1249 5 rfl ?_
  refine gV_iconst (v := 1) C dL_law_1251 rfl ?_
  refine gV_iadd C dL_law_1252 ?_
  obtain ⟨hi1253, hp⟩ := g_idx hp
  refine gV_sld C hX hbl hbA hi1253 dL_law_1253 ?_
  obtain ⟨r1254q, th_1254, mh_1254, mz_1254, mset_1254, hq1254, hp⟩ := g_ob5 hp
  refine gV_calli C (gsub_cmo_m _ _ rfl rfl) (gV_runV (As := [.int (xs (v4 + 1).toNatClampNeg)]) (rest := []) C (mt_X4_weight hl D k cI cJ th mP mC mR mal mhd mn mg mt mh mz mset mfr mma mde mls (xs (v4 + 1).toNatClampNeg) r1254q th_1254 mh_1254 mz_1254 mset_1254 hq1254) (cwV 1 C.2.2.2.2.1 gL_law_X4_weight rfl rfl rfl hdv_X4_weight ⟨Nat.le_of_ble_eq_true rfl, Nat.le_of_ble_eq_true rfl⟩) (gsub_cmo_m _ _ rfl rfl) 13 rfl rfl rfl rfl (Nat.le_of_ble_eq_true rfl) dL_law_1254 ⟨g_rc (by omega), g_rs (by omega)⟩) (fun _ _ hx => False.elim hx) (fun r1254 w1 hw => ?_)
  obtain ⟨rfl, rfl⟩ := hw
  refine gV_sub (ws' := (cW h cI cJ lc la hr uP uC uR tn pn_1242 pg_1242 pq_1242 rl sr gcb gpb tg tm tl pm_1242 ps_1242) ++ ((mW k cI th_1254 mP mC mR mal mhd mn mg mt mh_1254 mz_1254 mset_1254 mfr mma mde mls) ++ (oW ho cJ ov_1242))) [0, 1, 2, 3, 4, 5, 6, 7, 8, 9, 10, 11, 12, 14, 15, 16, 17, 18, 19, 20, 21, 22, 23, 13] (by decide) rfl rfl ?_
  refine gV_istore (lvs' := [(6, .int r1254), (5, .int r1242), (0, .ref b), (1, .ref (h 0)), (2, .ref (k 0)), (3, .ref ho), (4, .int v4)]) C dL_law_1257 (by decide) rfl ?_
  refine gV_aload_n C dL_law_1259 rfl 4 rfl ?_
  obtain ⟨r1260q, hq1260, hp⟩ := g_ob1 hp
  refine gV_calli C (gsub_cmo_m _ _ rfl rfl) (gV_runV (As := []) (rest := []) C (mt_X4_thrown hl D k cI cJ th_1254 mP mC mR mal mhd mn mg mt mh_1254 mz_1254 mset_1254 mfr mma mde mls r1260q hq1260) (cwV 0 C.2.2.2.2.1 gL_law_X4_thrown rfl rfl rfl hdv_X4_thrown ⟨Nat.le_of_ble_eq_true rfl, Nat.le_of_ble_eq_true rfl⟩) (gsub_cmo_m _ _ rfl rfl) 13 rfl rfl rfl rfl (Nat.le_of_ble_eq_true rfl) dL_law_1260 ⟨g_rc (by omega), g_rs (by omega)⟩) (fun _ _ hx => False.elim hx) (fun r1260 w1 hw => ?_)
  obtain ⟨rfl, rfl⟩ := hw
  refine gV_sub (ws' := (cW h cI cJ lc la hr uP uC uR tn pn_1242 pg_1242 pq_1242 rl sr gcb gpb tg tm tl pm_1242 ps_1242) ++ ((mW k cI th_1254 mP mC mR mal mhd mn mg mt mh_1254 mz_1254 mset_1254 mfr mma mde mls) ++ (oW ho cJ ov_1242))) [0, 1, 2, 3, 4, 5, 6, 7, 8, 9, 10, 11, 12, 14, 15, 16, 17, 18, 19, 20, 21, 22, 23, 13] (by decide) rfl rfl ?_
  refine gV_iload C dL_law_1263 1 rfl ?_
  refine gV_icmp_eq (tgt := 1270) C dL_law_1265 (by decide) (fun c1265 => ?_) (fun c1265 => ?_)
  · replace hp := g_ift hp c1265
    refine gV_iload C dL_law_1270 1 rfl ?_
    refine gV_if_ne (tgt := 1287) C dL_law_1272 (by decide) (fun c1272 => ?_) (fun c1272 => ?_)
    · replace hp := g_iff hp c1272
      refine gV_loc [2, 3, 4, 5, 6] rfl ?_
      exact J1287 _ _ (by omega) (by omega) pn_1242 pg_1242 pq_1242 pm_1242 ps_1242 th_1254 mh_1254 mz_1254 mset_1254 ov_1242 hp
    · replace hp := g_ift hp c1272
      refine gV_aload_n C dL_law_1275 rfl 5 rfl ?_
      refine gV_iconst (v := 0) C dL_law_1276 rfl ?_
      obtain ⟨hi1277, hp⟩ := g_idx hp
      refine gV_lald C 23 rfl 1 rfl hi1277 dL_law_1277 ?_
      refine gV_iload C dL_law_1278 0 rfl ?_
      refine gV_i2l C dL_law_1280 ?_
      refine gV_lcmp C dL_law_1281 ?_
      refine gV_if_eq (tgt := 1287) C dL_law_1282 (by decide) (fun c1282 => ?_) (fun c1282 => ?_)
      · replace hp := g_ift hp c1282
        refine gV_loc [2, 3, 4, 5, 6] rfl ?_
        exact J1287 _ _ (by omega) (by omega) pn_1242 pg_1242 pq_1242 pm_1242 ps_1242 th_1254 mh_1254 mz_1254 mset_1254 ov_1242 hp
      · replace hp := g_iff hp c1282
        refine gV_iconst (v := 0) C dL_law_1285 rfl ?_
        exact absurd hp (by decide)
  · replace hp := g_iff hp c1265
    refine gV_iconst (v := 0) C dL_law_1268 rfl ?_
    exact absurd hp (by decide)
def pf_law_c22_j1343 (kL : Int32 → Int32 → Int32 → Int32 → Int32 → Int32 → Int32 → Int32 → Int32 → Int32 → (Nat → Int32) → (Nat → Int32) → (Nat → Int32) → (Nat → Int64) → (Nat → Int32) → (Nat → Int32) → (Nat → Int32) → (Nat → Int32) → (Nat → Int32) → Int32 → Int32 → Int32 → Int32 → Int32 → Int32 → Int32 → (Nat → Int32) → (Nat → Int32) → (Nat → Int32) → (Nat → Int32) → (Nat → Int32) → (Nat → Int32) → (Nat → Int32) → (Nat → Int32) → (Nat → Int32) → (Nat → Int64) → Option Int32) (lc : Int32) (la : Int32) (hr : Int32) (uP : Int32) (uC : Int32) (uR : Int32) (tn : Int32) (rl : Nat → Int32) (sr : Nat → Int32) (gcb : Nat → Int32) (gpb : Nat → Int64) (tg : Nat → Int32) (tm : Nat → Int32) (tl : Nat → Int32) (mP : Int32) (mC : Int32) (mR : Int32) (mal : Int32) (mhd : Int32) (mn : Int32) (mg : Nat → Int32) (mt : Nat → Int32) (mfr : Nat → Int32) (mma : Nat → Int32) (mde : Nat → Int32) (mls : Nat → Int32) (pn : Int32) (pg : Int32) (pq : Int32) (pm : Nat → Int32) (ps : Nat → Int32) (th : Int32) (mh : Nat → Int32) (mz : Nat → Int32) (mset : Nat → Int32) (ov : Nat → Int64) : Option (Int32) := (kL lc la hr uP uC uR tn pn pg pq rl sr gcb gpb tg tm tl pm ps th mP mC mR mal mhd mn mg mt mh mz mset mfr mma mde mls ov)
def pf_law_c22 (kL : Int32 → Int32 → Int32 → Int32 → Int32 → Int32 → Int32 → Int32 → Int32 → Int32 → (Nat → Int32) → (Nat → Int32) → (Nat → Int32) → (Nat → Int64) → (Nat → Int32) → (Nat → Int32) → (Nat → Int32) → (Nat → Int32) → (Nat → Int32) → Int32 → Int32 → Int32 → Int32 → Int32 → Int32 → Int32 → (Nat → Int32) → (Nat → Int32) → (Nat → Int32) → (Nat → Int32) → (Nat → Int32) → (Nat → Int32) → (Nat → Int32) → (Nat → Int32) → (Nat → Int32) → (Nat → Int64) → Option Int32) (L : Nat) (xs : Nat → Int32) (v4 : Int32) (lc : Int32) (la : Int32) (hr : Int32) (uP : Int32) (uC : Int32) (uR : Int32) (tn : Int32) (pn : Int32) (pg : Int32) (pq : Int32) (rl : Nat → Int32) (sr : Nat → Int32) (gcb : Nat → Int32) (gpb : Nat → Int64) (tg : Nat → Int32) (tm : Nat → Int32) (tl : Nat → Int32) (pm : Nat → Int32) (ps : Nat → Int32) (th : Int32) (mP : Int32) (mC : Int32) (mR : Int32) (mal : Int32) (mhd : Int32) (mn : Int32) (mg : Nat → Int32) (mt : Nat → Int32) (mh : Nat → Int32) (mz : Nat → Int32) (mset : Nat → Int32) (mfr : Nat → Int32) (mma : Nat → Int32) (mde : Nat → Int32) (mls : Nat → Int32) (ov : Nat → Int64) : Option Int32 := (gi (v4 + 1) L (ob7 (pf_L_bestGuess lc uP uR pn pg pq rl gcb gpb pm ps ov (xs (v4 + 1).toNatClampNeg)) fun r1298 pn_1298 pg_1298 pq_1298 pm_1298 ps_1298 ov_1298 => (gi (v4 + 1) L (ob5 (pf_X4_bestGuess th mP mC mR mal mn mg mt mh mz mset (xs (v4 + 1).toNatClampNeg)) fun r1310 th_1310 mh_1310 mz_1310 mset_1310 => (ob1 (pf_X4_thrown th_1310) fun r1316 => (if r1316 = r1298 then (if r1298 = 0 then (gi 0 1 (if (lg_cmp (ov_1298 (0 : Int32).toNatClampNeg) r1310.toInt64) = 0 then (pf_law_c22_j1343 kL lc la hr uP uC uR tn rl sr gcb gpb tg tm tl mP mC mR mal mhd mn mg mt mfr mma mde mls pn_1298 pg_1298 pq_1298 pm_1298 ps_1298 th_1310 mh_1310 mz_1310 mset_1310 ov_1298) else (some 0))) else (pf_law_c22_j1343 kL lc la hr uP uC uR tn rl sr gcb gpb tg tm tl mP mC mR mal mhd mn mg mt mfr mma mde mls pn_1298 pg_1298 pq_1298 pm_1298 ps_1298 th_1310 mh_1310 mz_1310 mset_1310 ov_1298)) else (some 0)))))))
theorem hds_L_bestGuess : yL_bestGuess.cls ≠ "java/lang/invoke/MethodHandle" ∧ yL_bestGuess.cls ≠ "java/lang/invoke/VarHandle" ∧ (parseMethodDescriptor yL_bestGuess.desc).map (fun d => d.parameters.length) = some 3 := by decide +kernel
theorem hdv_X4_bestGuess : yX4_bestGuess.cls = RX4 ∧ yX4_bestGuess.cls ≠ "java/lang/invoke/MethodHandle" ∧ yX4_bestGuess.cls ≠ "java/lang/invoke/VarHandle" ∧ (parseMethodDescriptor yX4_bestGuess.desc).map (fun d => d.parameters.length) = some 1 := by decide +kernel
set_option maxHeartbeats 4000000 in
set_option maxRecDepth 100000 in
theorem mt_law_c22 {p : Program} {l : Launch} (hl : l.stackTraces = false) {e : Env} {s : State} {m : MethodId} {args : Array Value} {below : List Frame} {meth : Method} {c : Code} {A : Nat → Prop} {D : va_G} {Q : State → Prop} (h k : Nat → Nat) (ho : Nat) (cI cJ : ClassId) {b L : Nat} {xs : Nat → Int32} (C : gC p l s m args meth c A D [(cI, .int), (cJ, .long)] 7 RL cL_law wsL_law) (hX : va_X b L xs s s.heap) (hbl : b < s.heap.size) (hbA : ¬ A b) (kL : Int32 → Int32 → Int32 → Int32 → Int32 → Int32 → Int32 → Int32 → Int32 → Int32 → (Nat → Int32) → (Nat → Int32) → (Nat → Int32) → (Nat → Int64) → (Nat → Int32) → (Nat → Int32) → (Nat → Int32) → (Nat → Int32) → (Nat → Int32) → Int32 → Int32 → Int32 → Int32 → Int32 → Int32 → Int32 → (Nat → Int32) → (Nat → Int32) → (Nat → Int32) → (Nat → Int32) → (Nat → Int32) → (Nat → Int32) → (Nat → Int32) → (Nat → Int32) → (Nat → Int32) → (Nat → Int64) → Option Int32) (K N K' N' : Nat) (hK : K + 8 ≤ K') (hN : N + 48 ≤ N') (hK' : K' ≤ 601024) (hN' : N' ≤ 7293034) (v4 : Int32) (JE : ∀ (lc : Int32) (la : Int32) (hr : Int32) (uP : Int32) (uC : Int32) (uR : Int32) (tn : Int32) (pn : Int32) (pg : Int32) (pq : Int32) (rl : Nat → Int32) (sr : Nat → Int32) (gcb : Nat → Int32) (gpb : Nat → Int64) (tg : Nat → Int32) (tm : Nat → Int32) (tl : Nat → Int32) (pm : Nat → Int32) (ps : Nat → Int32) (th : Int32) (mP : Int32) (mC : Int32) (mR : Int32) (mal : Int32) (mhd : Int32) (mn : Int32) (mg : Nat → Int32) (mt : Nat → Int32) (mh : Nat → Int32) (mz : Nat → Int32) (mset : Nat → Int32) (mfr : Nat → Int32) (mma : Nat → Int32) (mde : Nat → Int32) (mls : Nat → Int32) (ov : Nat → Int64), kL lc la hr uP uC uR tn pn pg pq rl sr gcb gpb tg tm tl pm ps th mP mC mR mal mhd mn mg mt mh mz mset mfr mma mde mls ov = some 1 → gV p l e room_1 s m args below meth c A D 7 Q ((cW h cI cJ lc la hr uP uC uR tn pn pg pq rl sr gcb gpb tg tm tl pm ps) ++ ((mW k cI th mP mC mR mal mhd mn mg mt mh mz mset mfr mma mde mls) ++ (oW ho cJ ov))) [(0, .ref b), (1, .ref (h 0)), (2, .ref (k 0)), (3, .ref ho), (4, .int v4)] K' N' 1466 []) (lc : Int32) (la : Int32) (hr : Int32) (uP : Int32) (uC : Int32) (uR : Int32) (tn : Int32) (pn : Int32) (pg : Int32) (pq : Int32) (rl : Nat → Int32) (sr : Nat → Int32) (gcb : Nat → Int32) (gpb : Nat → Int64) (tg : Nat → Int32) (tm : Nat → Int32) (tl : Nat → Int32) (pm : Nat → Int32) (ps : Nat → Int32) (th : Int32) (mP : Int32) (mC : Int32) (mR : Int32) (mal : Int32) (mhd : Int32) (mn : Int32) (mg : Nat → Int32) (mt : Nat → Int32) (mh : Nat → Int32) (mz : Nat → Int32) (mset : Nat → Int32) (mfr : Nat → Int32) (mma : Nat → Int32) (mde : Nat → Int32) (mls : Nat → Int32) (ov : Nat → Int64) (hp : pf_law_c22 kL L xs v4 lc la hr uP uC uR tn pn pg pq rl sr gcb gpb tg tm tl pm ps th mP mC mR mal mhd mn mg mt mh mz mset mfr mma mde mls ov = some 1) : gV p l e room_1 s m args below meth c A D 7 Q ((cW h cI cJ lc la hr uP uC uR tn pn pg pq rl sr gcb gpb tg tm tl pm ps) ++ ((mW k cI th mP mC mR mal mhd mn mg mt mh mz mset mfr mma mde mls) ++ (oW ho cJ ov))) [(0, .ref b), (1, .ref (h 0)), (2, .ref (k 0)), (3, .ref ho), (4, .int v4)] K N 1290 [] := by
  unfold pf_law_c22 at hp
  have J1343 : ∀ (K1 N1 : Nat), K1 + 2 ≤ K' → N1 + 12 ≤ N' → ∀ (pn : Int32) (pg : Int32) (pq : Int32) (pm : Nat → Int32) (ps : Nat → Int32) (th : Int32) (mh : Nat → Int32) (mz : Nat → Int32) (mset : Nat → Int32) (ov : Nat → Int64), pf_law_c22_j1343 kL lc la hr uP uC uR tn rl sr gcb gpb tg tm tl mP mC mR mal mhd mn mg mt mfr mma mde mls pn pg pq pm ps th mh mz mset ov = some 1 → gV p l e room_1 s m args below meth c A D 7 Q ((cW h cI cJ lc la hr uP uC uR tn pn pg pq rl sr gcb gpb tg tm tl pm ps) ++ ((mW k cI th mP mC mR mal mhd mn mg mt mh mz mset mfr mma mde mls) ++ (oW ho cJ ov))) [(0, .ref b), (1, .ref (h 0)), (2, .ref (k 0)), (3, .ref ho), (4, .int v4)] K1 N1 1343 [] := by
    intro K1 N1 hK1 hN1 pn pg pq pm ps th mh mz mset ov hp
    unfold pf_law_c22_j1343 at hp
    refine gV_goto (tgt := 1466) C dL_law_1343 (by decide) ?_
    refine gV_widen (k' := K') (n' := N') (by omega) (by omega) ?_
    exact JE lc la hr uP uC uR tn pn pg pq rl sr gcb gpb tg tm tl pm ps th mP mC mR mal mhd mn mg mt mh mz mset mfr mma mde mls ov hp
  refine gV_aload_n C dL_law_1290 rfl 1 rfl ?_
  refine gV_aload_n C dL_law_1291 rfl 0 rfl ?_
  refine gV_iload C dL_law_1292 4 rfl ?_
  refine gV_iconst (v := 1) C dL_law_1294 rfl ?_
  refine gV_iadd C dL_law_1295 ?_
  obtain ⟨hi1296, hp⟩ := g_idx hp
  refine gV_sld C hX hbl hbA hi1296 dL_law_1296 ?_
  refine gV_aload_n C dL_law_1297 rfl 3 rfl ?_
  obtain ⟨r1298q, pn_1298, pg_1298, pq_1298, pm_1298, ps_1298, ov_1298, hq1298, hp⟩ := g_ob7 hp
  refine gV_calli C (gsub_cmo_co _ _ rfl rfl) (gV_runSX (As := [.ref (h 0), .int (xs (v4 + 1).toNatClampNeg), .ref ho]) (rest := []) C (mt_L_bestGuess hl D h ho cI cJ lc la hr uP uC uR tn pn pg pq rl sr gcb gpb tg tm tl pm ps ov (xs (v4 + 1).toNatClampNeg) r1298q pn_1298 pg_1298 pq_1298 pm_1298 ps_1298 ov_1298 hq1298) (vx_cwSW 3 C.2.2.2.2.1 gL_law_L_bestGuess rfl rfl rfl hds_L_bestGuess ⟨Nat.le_of_ble_eq_true rfl, Nat.le_of_ble_eq_true rfl⟩) (gsub_cmo_co _ _ rfl rfl) rfl rfl (Nat.le_of_ble_eq_true rfl) dL_law_1298 ⟨g_rc (by omega), g_rs (by omega)⟩) (fun _ _ hx => False.elim hx) (fun r1298 w1 hw => ?_)
  obtain ⟨rfl, rfl⟩ := hw
  refine gV_sub (ws' := (cW h cI cJ lc la hr uP uC uR tn pn_1298 pg_1298 pq_1298 rl sr gcb gpb tg tm tl pm_1298 ps_1298) ++ ((mW k cI th mP mC mR mal mhd mn mg mt mh mz mset mfr mma mde mls) ++ (oW ho cJ ov_1298))) [10, 11, 12, 13, 14, 15, 16, 17, 18, 19, 20, 21, 22, 0, 1, 2, 3, 4, 5, 6, 7, 8, 9, 23] (by decide) rfl rfl ?_
  refine gV_istore (lvs' := [(5, .int r1298), (0, .ref b), (1, .ref (h 0)), (2, .ref (k 0)), (3, .ref ho), (4, .int v4)]) C dL_law_1301 (by decide) rfl ?_
  refine gV_aload_n C dL_law_1303 rfl 3 rfl ?_
  refine gV_aload_n C dL_law_1304 rfl 1 rfl ?_
  refine gV_iload C dL_law_1305 5 rfl ?_
  refine gV_iconst (v := 1) C dL_law_1307 rfl ?_
  refine gV_iadd C dL_law_1308 ?_
  obtain ⟨hi1309, hp⟩ := g_idx hp
  refine gV_sld C hX hbl hbA hi1309 dL_law_1309 ?_
  obtain ⟨r1310q, th_1310, mh_1310, mz_1310, mset_1310, hq1310, hp⟩ := g_ob5 hp
  refine gV_calli C (gsub_cmo_m _ _ rfl rfl) (gV_runV (As := [.int (xs (v4 + 1).toNatClampNeg)]) (rest := []) C (mt_X4_bestGuess hl D k cI cJ th mP mC mR mal mhd mn mg mt mh mz mset mfr mma mde mls (xs (v4 + 1).toNatClampNeg) r1310q th_1310 mh_1310 mz_1310 mset_1310 hq1310) (cwV 1 C.2.2.2.2.1 gL_law_X4_bestGuess rfl rfl rfl hdv_X4_bestGuess ⟨Nat.le_of_ble_eq_true rfl, Nat.le_of_ble_eq_true rfl⟩) (gsub_cmo_m _ _ rfl rfl) 13 rfl rfl rfl rfl (Nat.le_of_ble_eq_true rfl) dL_law_1310 ⟨g_rc (by omega), g_rs (by omega)⟩) (fun _ _ hx => False.elim hx) (fun r1310 w1 hw => ?_)
  obtain ⟨rfl, rfl⟩ := hw
  refine gV_sub (ws' := (cW h cI cJ lc la hr uP uC uR tn pn_1298 pg_1298 pq_1298 rl sr gcb gpb tg tm tl pm_1298 ps_1298) ++ ((mW k cI th_1310 mP mC mR mal mhd mn mg mt mh_1310 mz_1310 mset_1310 mfr mma mde mls) ++ (oW ho cJ ov_1298))) [0, 1, 2, 3, 4, 5, 6, 7, 8, 9, 10, 11, 12, 14, 15, 16, 17, 18, 19, 20, 21, 22, 23, 13] (by decide) rfl rfl ?_
  refine gV_istore (lvs' := [(6, .int r1310), (5, .int r1298), (0, .ref b), (1, .ref (h 0)), (2, .ref (k 0)), (3, .ref ho), (4, .int v4)]) C dL_law_1313 (by decide) rfl ?_
  refine gV_aload_n C dL_law_1315 rfl 4 rfl ?_
  obtain ⟨r1316q, hq1316, hp⟩ := g_ob1 hp
  refine gV_calli C (gsub_cmo_m _ _ rfl rfl) (gV_runV (As := []) (rest := []) C (mt_X4_thrown hl D k cI cJ th_1310 mP mC mR mal mhd mn mg mt mh_1310 mz_1310 mset_1310 mfr mma mde mls r1316q hq1316) (cwV 0 C.2.2.2.2.1 gL_law_X4_thrown rfl rfl rfl hdv_X4_thrown ⟨Nat.le_of_ble_eq_true rfl, Nat.le_of_ble_eq_true rfl⟩) (gsub_cmo_m _ _ rfl rfl) 13 rfl rfl rfl rfl (Nat.le_of_ble_eq_true rfl) dL_law_1316 ⟨g_rc (by omega), g_rs (by omega)⟩) (fun _ _ hx => False.elim hx) (fun r1316 w1 hw => ?_)
  obtain ⟨rfl, rfl⟩ := hw
  refine gV_sub (ws' := (cW h cI cJ lc la hr uP uC uR tn pn_1298 pg_1298 pq_1298 rl sr gcb gpb tg tm tl pm_1298 ps_1298) ++ ((mW k cI th_1310 mP mC mR mal mhd mn mg mt mh_1310 mz_1310 mset_1310 mfr mma mde mls) ++ (oW ho cJ ov_1298))) [0, 1, 2, 3, 4, 5, 6, 7, 8, 9, 10, 11, 12, 14, 15, 16, 17, 18, 19, 20, 21, 22, 23, 13] (by decide) rfl rfl ?_
  refine gV_iload C dL_law_1319 1 rfl ?_
  refine gV_icmp_eq (tgt := 1326) C dL_law_1321 (by decide) (fun c1321 => ?_) (fun c1321 => ?_)
  · replace hp := g_ift hp c1321
    refine gV_iload C dL_law_1326 1 rfl ?_
    refine gV_if_ne (tgt := 1343) C dL_law_1328 (by decide) (fun c1328 => ?_) (fun c1328 => ?_)
    · replace hp := g_iff hp c1328
      refine gV_loc [2, 3, 4, 5, 6] rfl ?_
      exact J1343 _ _ (by omega) (by omega) pn_1298 pg_1298 pq_1298 pm_1298 ps_1298 th_1310 mh_1310 mz_1310 mset_1310 ov_1298 hp
    · replace hp := g_ift hp c1328
      refine gV_aload_n C dL_law_1331 rfl 5 rfl ?_
      refine gV_iconst (v := 0) C dL_law_1332 rfl ?_
      obtain ⟨hi1333, hp⟩ := g_idx hp
      refine gV_lald C 23 rfl 1 rfl hi1333 dL_law_1333 ?_
      refine gV_iload C dL_law_1334 0 rfl ?_
      refine gV_i2l C dL_law_1336 ?_
      refine gV_lcmp C dL_law_1337 ?_
      refine gV_if_eq (tgt := 1343) C dL_law_1338 (by decide) (fun c1338 => ?_) (fun c1338 => ?_)
      · replace hp := g_ift hp c1338
        refine gV_loc [2, 3, 4, 5, 6] rfl ?_
        exact J1343 _ _ (by omega) (by omega) pn_1298 pg_1298 pq_1298 pm_1298 ps_1298 th_1310 mh_1310 mz_1310 mset_1310 ov_1298 hp
      · replace hp := g_iff hp c1338
        refine gV_iconst (v := 0) C dL_law_1341 rfl ?_
        exact absurd hp (by decide)
  · replace hp := g_iff hp c1321
    refine gV_iconst (v := 0) C dL_law_1324 rfl ?_
    exact absurd hp (by decide)
def pf_law_c23_j1387 (kL : Int32 → Int32 → Int32 → Int32 → Int32 → Int32 → Int32 → Int32 → Int32 → Int32 → (Nat → Int32) → (Nat → Int32) → (Nat → Int32) → (Nat → Int64) → (Nat → Int32) → (Nat → Int32) → (Nat → Int32) → (Nat → Int32) → (Nat → Int32) → Int32 → Int32 → Int32 → Int32 → Int32 → Int32 → Int32 → (Nat → Int32) → (Nat → Int32) → (Nat → Int32) → (Nat → Int32) → (Nat → Int32) → (Nat → Int32) → (Nat → Int32) → (Nat → Int32) → (Nat → Int32) → (Nat → Int64) → Option Int32) (lc : Int32) (la : Int32) (hr : Int32) (uP : Int32) (uC : Int32) (uR : Int32) (tn : Int32) (rl : Nat → Int32) (gcb : Nat → Int32) (gpb : Nat → Int64) (tg : Nat → Int32) (tm : Nat → Int32) (tl : Nat → Int32) (mP : Int32) (mC : Int32) (mR : Int32) (mal : Int32) (mhd : Int32) (mn : Int32) (mg : Nat → Int32) (mt : Nat → Int32) (mls : Nat → Int32) (pn : Int32) (pg : Int32) (pq : Int32) (sr : Nat → Int32) (pm : Nat → Int32) (ps : Nat → Int32) (th : Int32) (mh : Nat → Int32) (mz : Nat → Int32) (mset : Nat → Int32) (mfr : Nat → Int32) (mma : Nat → Int32) (mde : Nat → Int32) (ov : Nat → Int64) : Option (Int32) := (kL lc la hr uP uC uR tn pn pg pq rl sr gcb gpb tg tm tl pm ps th mP mC mR mal mhd mn mg mt mh mz mset mfr mma mde mls ov)
def pf_law_c23 (kL : Int32 → Int32 → Int32 → Int32 → Int32 → Int32 → Int32 → Int32 → Int32 → Int32 → (Nat → Int32) → (Nat → Int32) → (Nat → Int32) → (Nat → Int64) → (Nat → Int32) → (Nat → Int32) → (Nat → Int32) → (Nat → Int32) → (Nat → Int32) → Int32 → Int32 → Int32 → Int32 → Int32 → Int32 → Int32 → (Nat → Int32) → (Nat → Int32) → (Nat → Int32) → (Nat → Int32) → (Nat → Int32) → (Nat → Int32) → (Nat → Int32) → (Nat → Int32) → (Nat → Int32) → (Nat → Int64) → Option Int32) (L : Nat) (xs : Nat → Int32) (v4 : Int32) (lc : Int32) (la : Int32) (hr : Int32) (uP : Int32) (uC : Int32) (uR : Int32) (tn : Int32) (pn : Int32) (pg : Int32) (pq : Int32) (rl : Nat → Int32) (sr : Nat → Int32) (gcb : Nat → Int32) (gpb : Nat → Int64) (tg : Nat → Int32) (tm : Nat → Int32) (tl : Nat → Int32) (pm : Nat → Int32) (ps : Nat → Int32) (th : Int32) (mP : Int32) (mC : Int32) (mR : Int32) (mal : Int32) (mhd : Int32) (mn : Int32) (mg : Nat → Int32) (mt : Nat → Int32) (mh : Nat → Int32) (mz : Nat → Int32) (mset : Nat → Int32) (mfr : Nat → Int32) (mma : Nat → Int32) (mde : Nat → Int32) (mls : Nat → Int32) (ov : Nat → Int64) : Option Int32 := (ob8 (pf_L_guessesNeeded lc uP uR pn pg pq rl sr gcb gpb pm ps ov) fun r1348 pn_1348 pg_1348 pq_1348 sr_1348 pm_1348 ps_1348 ov_1348 => (ob8 (pf_X4_guessesNeeded th mP mC mR mal mn mg mt mh mz mset mfr mma mde) fun r1354 th_1354 mh_1354 mz_1354 mset_1354 mfr_1354 mma_1354 mde_1354 => (ob1 (pf_X4_thrown th_1354) fun r1360 => (if r1360 = r1348 then (if r1348 = 0 then (gi 0 1 (if (lg_cmp (ov_1348 (0 : Int32).toNatClampNeg) r1354.toInt64) = 0 then (pf_law_c23_j1387 kL lc la hr uP uC uR tn rl gcb gpb tg tm tl mP mC mR mal mhd mn mg mt mls pn_1348 pg_1348 pq_1348 sr_1348 pm_1348 ps_1348 th_1354 mh_1354 mz_1354 mset_1354 mfr_1354 mma_1354 mde_1354 ov_1348) else (some 0))) else (pf_law_c23_j1387 kL lc la hr uP uC uR tn rl gcb gpb tg tm tl mP mC mR mal mhd mn mg mt mls pn_1348 pg_1348 pq_1348 sr_1348 pm_1348 ps_1348 th_1354 mh_1354 mz_1354 mset_1354 mfr_1354 mma_1354 mde_1354 ov_1348)) else (some 0)))))
theorem hds_L_guessesNeeded : yL_guessesNeeded.cls ≠ "java/lang/invoke/MethodHandle" ∧ yL_guessesNeeded.cls ≠ "java/lang/invoke/VarHandle" ∧ (parseMethodDescriptor yL_guessesNeeded.desc).map (fun d => d.parameters.length) = some 2 := by decide +kernel
theorem hdv_X4_guessesNeeded : yX4_guessesNeeded.cls = RX4 ∧ yX4_guessesNeeded.cls ≠ "java/lang/invoke/MethodHandle" ∧ yX4_guessesNeeded.cls ≠ "java/lang/invoke/VarHandle" ∧ (parseMethodDescriptor yX4_guessesNeeded.desc).map (fun d => d.parameters.length) = some 0 := by decide +kernel
set_option maxHeartbeats 4000000 in
set_option maxRecDepth 100000 in
theorem mt_law_c23 {p : Program} {l : Launch} (hl : l.stackTraces = false) {e : Env} {s : State} {m : MethodId} {args : Array Value} {below : List Frame} {meth : Method} {c : Code} {A : Nat → Prop} {D : va_G} {Q : State → Prop} (h k : Nat → Nat) (ho : Nat) (cI cJ : ClassId) {b L : Nat} {xs : Nat → Int32} (C : gC p l s m args meth c A D [(cI, .int), (cJ, .long)] 7 RL cL_law wsL_law) (hX : va_X b L xs s s.heap) (hbl : b < s.heap.size) (hbA : ¬ A b) (kL : Int32 → Int32 → Int32 → Int32 → Int32 → Int32 → Int32 → Int32 → Int32 → Int32 → (Nat → Int32) → (Nat → Int32) → (Nat → Int32) → (Nat → Int64) → (Nat → Int32) → (Nat → Int32) → (Nat → Int32) → (Nat → Int32) → (Nat → Int32) → Int32 → Int32 → Int32 → Int32 → Int32 → Int32 → Int32 → (Nat → Int32) → (Nat → Int32) → (Nat → Int32) → (Nat → Int32) → (Nat → Int32) → (Nat → Int32) → (Nat → Int32) → (Nat → Int32) → (Nat → Int32) → (Nat → Int64) → Option Int32) (K N K' N' : Nat) (hK : K + 8 ≤ K') (hN : N + 48 ≤ N') (hK' : K' ≤ 601024) (hN' : N' ≤ 7293034) (v4 : Int32) (JE : ∀ (lc : Int32) (la : Int32) (hr : Int32) (uP : Int32) (uC : Int32) (uR : Int32) (tn : Int32) (pn : Int32) (pg : Int32) (pq : Int32) (rl : Nat → Int32) (sr : Nat → Int32) (gcb : Nat → Int32) (gpb : Nat → Int64) (tg : Nat → Int32) (tm : Nat → Int32) (tl : Nat → Int32) (pm : Nat → Int32) (ps : Nat → Int32) (th : Int32) (mP : Int32) (mC : Int32) (mR : Int32) (mal : Int32) (mhd : Int32) (mn : Int32) (mg : Nat → Int32) (mt : Nat → Int32) (mh : Nat → Int32) (mz : Nat → Int32) (mset : Nat → Int32) (mfr : Nat → Int32) (mma : Nat → Int32) (mde : Nat → Int32) (mls : Nat → Int32) (ov : Nat → Int64), kL lc la hr uP uC uR tn pn pg pq rl sr gcb gpb tg tm tl pm ps th mP mC mR mal mhd mn mg mt mh mz mset mfr mma mde mls ov = some 1 → gV p l e room_1 s m args below meth c A D 7 Q ((cW h cI cJ lc la hr uP uC uR tn pn pg pq rl sr gcb gpb tg tm tl pm ps) ++ ((mW k cI th mP mC mR mal mhd mn mg mt mh mz mset mfr mma mde mls) ++ (oW ho cJ ov))) [(0, .ref b), (1, .ref (h 0)), (2, .ref (k 0)), (3, .ref ho), (4, .int v4)] K' N' 1466 []) (lc : Int32) (la : Int32) (hr : Int32) (uP : Int32) (uC : Int32) (uR : Int32) (tn : Int32) (pn : Int32) (pg : Int32) (pq : Int32) (rl : Nat → Int32) (sr : Nat → Int32) (gcb : Nat → Int32) (gpb : Nat → Int64) (tg : Nat → Int32) (tm : Nat → Int32) (tl : Nat → Int32) (pm : Nat → Int32) (ps : Nat → Int32) (th : Int32) (mP : Int32) (mC : Int32) (mR : Int32) (mal : Int32) (mhd : Int32) (mn : Int32) (mg : Nat → Int32) (mt : Nat → Int32) (mh : Nat → Int32) (mz : Nat → Int32) (mset : Nat → Int32) (mfr : Nat → Int32) (mma : Nat → Int32) (mde : Nat → Int32) (mls : Nat → Int32) (ov : Nat → Int64) (hp : pf_law_c23 kL L xs v4 lc la hr uP uC uR tn pn pg pq rl sr gcb gpb tg tm tl pm ps th mP mC mR mal mhd mn mg mt mh mz mset mfr mma mde mls ov = some 1) : gV p l e room_1 s m args below meth c A D 7 Q ((cW h cI cJ lc la hr uP uC uR tn pn pg pq rl sr gcb gpb tg tm tl pm ps) ++ ((mW k cI th mP mC mR mal mhd mn mg mt mh mz mset mfr mma mde mls) ++ (oW ho cJ ov))) [(0, .ref b), (1, .ref (h 0)), (2, .ref (k 0)), (3, .ref ho), (4, .int v4)] K N 1346 [] := by
  unfold pf_law_c23 at hp
  have J1387 : ∀ (K1 N1 : Nat), K1 + 2 ≤ K' → N1 + 12 ≤ N' → ∀ (pn : Int32) (pg : Int32) (pq : Int32) (sr : Nat → Int32) (pm : Nat → Int32) (ps : Nat → Int32) (th : Int32) (mh : Nat → Int32) (mz : Nat → Int32) (mset : Nat → Int32) (mfr : Nat → Int32) (mma : Nat → Int32) (mde : Nat → Int32) (ov : Nat → Int64), pf_law_c23_j1387 kL lc la hr uP uC uR tn rl gcb gpb tg tm tl mP mC mR mal mhd mn mg mt mls pn pg pq sr pm ps th mh mz mset mfr mma mde ov = some 1 → gV p l e room_1 s m args below meth c A D 7 Q ((cW h cI cJ lc la hr uP uC uR tn pn pg pq rl sr gcb gpb tg tm tl pm ps) ++ ((mW k cI th mP mC mR mal mhd mn mg mt mh mz mset mfr mma mde mls) ++ (oW ho cJ ov))) [(0, .ref b), (1, .ref (h 0)), (2, .ref (k 0)), (3, .ref ho), (4, .int v4)] K1 N1 1387 [] := by
    intro K1 N1 hK1 hN1 pn pg pq sr pm ps th mh mz mset mfr mma mde ov hp
    unfold pf_law_c23_j1387 at hp
    refine gV_goto (tgt := 1466) C dL_law_1387 (by decide) ?_
    refine gV_widen (k' := K') (n' := N') (by omega) (by omega) ?_
    exact JE lc la hr uP uC uR tn pn pg pq rl sr gcb gpb tg tm tl pm ps th mP mC mR mal mhd mn mg mt mh mz mset mfr mma mde mls ov hp
  refine gV_aload_n C dL_law_1346 rfl 1 rfl ?_
  refine gV_aload_n C dL_law_1347 rfl 3 rfl ?_
  obtain ⟨r1348q, pn_1348, pg_1348, pq_1348, sr_1348, pm_1348, ps_1348, ov_1348, hq1348, hp⟩ := g_ob8 hp
  refine gV_calli C (gsub_cmo_co _ _ rfl rfl) (gV_runSX (As := [.ref (h 0), .ref ho]) (rest := []) C (mt_L_guessesNeeded hl D h ho cI cJ lc la hr uP uC uR tn pn pg pq rl sr gcb gpb tg tm tl pm ps ov r1348q pn_1348 pg_1348 pq_1348 sr_1348 pm_1348 ps_1348 ov_1348 hq1348) (vx_cwSW 2 C.2.2.2.2.1 gL_law_L_guessesNeeded rfl rfl rfl hds_L_guessesNeeded ⟨Nat.le_of_ble_eq_true rfl, Nat.le_of_ble_eq_true rfl⟩) (gsub_cmo_co _ _ rfl rfl) rfl rfl (Nat.le_of_ble_eq_true rfl) dL_law_1348 ⟨g_rc (by omega), g_rs (by omega)⟩) (fun _ _ hx => False.elim hx) (fun r1348 w1 hw => ?_)
  obtain ⟨rfl, rfl⟩ := hw
  refine gV_sub (ws' := (cW h cI cJ lc la hr uP uC uR tn pn_1348 pg_1348 pq_1348 rl sr_1348 gcb gpb tg tm tl pm_1348 ps_1348) ++ ((mW k cI th mP mC mR mal mhd mn mg mt mh mz mset mfr mma mde mls) ++ (oW ho cJ ov_1348))) [10, 11, 12, 13, 14, 15, 16, 17, 18, 19, 20, 21, 22, 0, 1, 2, 3, 4, 5, 6, 7, 8, 9, 23] (by decide) rfl rfl ?_
  refine gV_istore (lvs' := [(5, .int r1348), (0, .ref b), (1, .ref (h 0)), (2, .ref (k 0)), (3, .ref ho), (4, .int v4)]) C dL_law_1351 (by decide) rfl ?_
  refine gV_aload_n C dL_law_1353 rfl 3 rfl ?_
  obtain ⟨r1354q, th_1354, mh_1354, mz_1354, mset_1354, mfr_1354, mma_1354, mde_1354, hq1354, hp⟩ := g_ob8 hp
  refine gV_calli C (gsub_cmo_m _ _ rfl rfl) (gV_runV (As := []) (rest := []) C (mt_X4_guessesNeeded hl D k cI cJ th mP mC mR mal mhd mn mg mt mh mz mset mfr mma mde mls r1354q th_1354 mh_1354 mz_1354 mset_1354 mfr_1354 mma_1354 mde_1354 hq1354) (cwV 0 C.2.2.2.2.1 gL_law_X4_guessesNeeded rfl rfl rfl hdv_X4_guessesNeeded ⟨Nat.le_of_ble_eq_true rfl, Nat.le_of_ble_eq_true rfl⟩) (gsub_cmo_m _ _ rfl rfl) 13 rfl rfl rfl rfl (Nat.le_of_ble_eq_true rfl) dL_law_1354 ⟨g_rc (by omega), g_rs (by omega)⟩) (fun _ _ hx => False.elim hx) (fun r1354 w1 hw => ?_)
  obtain ⟨rfl, rfl⟩ := hw
  refine gV_sub (ws' := (cW h cI cJ lc la hr uP uC uR tn pn_1348 pg_1348 pq_1348 rl sr_1348 gcb gpb tg tm tl pm_1348 ps_1348) ++ ((mW k cI th_1354 mP mC mR mal mhd mn mg mt mh_1354 mz_1354 mset_1354 mfr_1354 mma_1354 mde_1354 mls) ++ (oW ho cJ ov_1348))) [0, 1, 2, 3, 4, 5, 6, 7, 8, 9, 10, 11, 12, 14, 15, 16, 17, 18, 19, 20, 21, 22, 23, 13] (by decide) rfl rfl ?_
  refine gV_istore (lvs' := [(6, .int r1354), (5, .int r1348), (0, .ref b), (1, .ref (h 0)), (2, .ref (k 0)), (3, .ref ho), (4, .int v4)]) C dL_law_1357 (by decide) rfl ?_
  refine gV_aload_n C dL_law_1359 rfl 4 rfl ?_
  obtain ⟨r1360q, hq1360, hp⟩ := g_ob1 hp
  refine gV_calli C (gsub_cmo_m _ _ rfl rfl) (gV_runV (As := []) (rest := []) C (mt_X4_thrown hl D k cI cJ th_1354 mP mC mR mal mhd mn mg mt mh_1354 mz_1354 mset_1354 mfr_1354 mma_1354 mde_1354 mls r1360q hq1360) (cwV 0 C.2.2.2.2.1 gL_law_X4_thrown rfl rfl rfl hdv_X4_thrown ⟨Nat.le_of_ble_eq_true rfl, Nat.le_of_ble_eq_true rfl⟩) (gsub_cmo_m _ _ rfl rfl) 13 rfl rfl rfl rfl (Nat.le_of_ble_eq_true rfl) dL_law_1360 ⟨g_rc (by omega), g_rs (by omega)⟩) (fun _ _ hx => False.elim hx) (fun r1360 w1 hw => ?_)
  obtain ⟨rfl, rfl⟩ := hw
  refine gV_sub (ws' := (cW h cI cJ lc la hr uP uC uR tn pn_1348 pg_1348 pq_1348 rl sr_1348 gcb gpb tg tm tl pm_1348 ps_1348) ++ ((mW k cI th_1354 mP mC mR mal mhd mn mg mt mh_1354 mz_1354 mset_1354 mfr_1354 mma_1354 mde_1354 mls) ++ (oW ho cJ ov_1348))) [0, 1, 2, 3, 4, 5, 6, 7, 8, 9, 10, 11, 12, 14, 15, 16, 17, 18, 19, 20, 21, 22, 23, 13] (by decide) rfl rfl ?_
  refine gV_iload C dL_law_1363 1 rfl ?_
  refine gV_icmp_eq (tgt := 1370) C dL_law_1365 (by decide) (fun c1365 => ?_) (fun c1365 => ?_)
  · replace hp := g_ift hp c1365
    refine gV_iload C dL_law_1370 1 rfl ?_
    refine gV_if_ne (tgt := 1387) C dL_law_1372 (by decide) (fun c1372 => ?_) (fun c1372 => ?_)
    · replace hp := g_iff hp c1372
      refine gV_loc [2, 3, 4, 5, 6] rfl ?_
      exact J1387 _ _ (by omega) (by omega) pn_1348 pg_1348 pq_1348 sr_1348 pm_1348 ps_1348 th_1354 mh_1354 mz_1354 mset_1354 mfr_1354 mma_1354 mde_1354 ov_1348 hp
    · replace hp := g_ift hp c1372
      refine gV_aload_n C dL_law_1375 rfl 5 rfl ?_
      refine gV_iconst (v := 0) C dL_law_1376 rfl ?_
      obtain ⟨hi1377, hp⟩ := g_idx hp
      refine gV_lald C 23 rfl 1 rfl hi1377 dL_law_1377 ?_
      refine gV_iload C dL_law_1378 0 rfl ?_
      refine gV_i2l C dL_law_1380 ?_
      refine gV_lcmp C dL_law_1381 ?_
      refine gV_if_eq (tgt := 1387) C dL_law_1382 (by decide) (fun c1382 => ?_) (fun c1382 => ?_)
      · replace hp := g_ift hp c1382
        refine gV_loc [2, 3, 4, 5, 6] rfl ?_
        exact J1387 _ _ (by omega) (by omega) pn_1348 pg_1348 pq_1348 sr_1348 pm_1348 ps_1348 th_1354 mh_1354 mz_1354 mset_1354 mfr_1354 mma_1354 mde_1354 ov_1348 hp
      · replace hp := g_iff hp c1382
        refine gV_iconst (v := 0) C dL_law_1385 rfl ?_
        exact absurd hp (by decide)
  · replace hp := g_iff hp c1365
    refine gV_iconst (v := 0) C dL_law_1368 rfl ?_
    exact absurd hp (by decide)
def pf_law_c24 (kL : Int32 → Int32 → Int32 → Int32 → Int32 → Int32 → Int32 → Int32 → Int32 → Int32 → (Nat → Int32) → (Nat → Int32) → (Nat → Int32) → (Nat → Int64) → (Nat → Int32) → (Nat → Int32) → (Nat → Int32) → (Nat → Int32) → (Nat → Int32) → Int32 → Int32 → Int32 → Int32 → Int32 → Int32 → Int32 → (Nat → Int32) → (Nat → Int32) → (Nat → Int32) → (Nat → Int32) → (Nat → Int32) → (Nat → Int32) → (Nat → Int32) → (Nat → Int32) → (Nat → Int32) → (Nat → Int64) → Option Int32) (L : Nat) (xs : Nat → Int32) (v4 : Int32) (lc : Int32) (la : Int32) (hr : Int32) (uP : Int32) (uC : Int32) (uR : Int32) (tn : Int32) (pn : Int32) (pg : Int32) (pq : Int32) (rl : Nat → Int32) (sr : Nat → Int32) (gcb : Nat → Int32) (gpb : Nat → Int64) (tg : Nat → Int32) (tm : Nat → Int32) (tl : Nat → Int32) (pm : Nat → Int32) (ps : Nat → Int32) (th : Int32) (mP : Int32) (mC : Int32) (mR : Int32) (mal : Int32) (mhd : Int32) (mn : Int32) (mg : Nat → Int32) (mt : Nat → Int32) (mh : Nat → Int32) (mz : Nat → Int32) (mset : Nat → Int32) (mfr : Nat → Int32) (mma : Nat → Int32) (mde : Nat → Int32) (mls : Nat → Int32) (ov : Nat → Int64) : Option Int32 := (ob1 (pf_X3_proofSize lc la uR tn tl) fun r1391 => (ob4 (pf_X4_proofSize th mP mC mR mal mn mg mt mh mls) fun r1395 th_1395 mh_1395 mls_1395 => (if r1391 = r1395 then (kL lc la hr uP uC uR tn pn pg pq rl sr gcb gpb tg tm tl pm ps th_1395 mP mC mR mal mhd mn mg mt mh_1395 mz mset mfr mma mde mls_1395 ov) else (some 0))))
theorem hdv_X3_proofSize : yX3_proofSize.cls = RX3 ∧ yX3_proofSize.cls ≠ "java/lang/invoke/MethodHandle" ∧ yX3_proofSize.cls ≠ "java/lang/invoke/VarHandle" ∧ (parseMethodDescriptor yX3_proofSize.desc).map (fun d => d.parameters.length) = some 0 := by decide +kernel
theorem hdv_X4_proofSize : yX4_proofSize.cls = RX4 ∧ yX4_proofSize.cls ≠ "java/lang/invoke/MethodHandle" ∧ yX4_proofSize.cls ≠ "java/lang/invoke/VarHandle" ∧ (parseMethodDescriptor yX4_proofSize.desc).map (fun d => d.parameters.length) = some 0 := by decide +kernel
set_option maxHeartbeats 4000000 in
set_option maxRecDepth 100000 in
theorem mt_law_c24 {p : Program} {l : Launch} (hl : l.stackTraces = false) {e : Env} {s : State} {m : MethodId} {args : Array Value} {below : List Frame} {meth : Method} {c : Code} {A : Nat → Prop} {D : va_G} {Q : State → Prop} (h k : Nat → Nat) (ho : Nat) (cI cJ : ClassId) {b L : Nat} {xs : Nat → Int32} (C : gC p l s m args meth c A D [(cI, .int), (cJ, .long)] 7 RL cL_law wsL_law) (hX : va_X b L xs s s.heap) (hbl : b < s.heap.size) (hbA : ¬ A b) (kL : Int32 → Int32 → Int32 → Int32 → Int32 → Int32 → Int32 → Int32 → Int32 → Int32 → (Nat → Int32) → (Nat → Int32) → (Nat → Int32) → (Nat → Int64) → (Nat → Int32) → (Nat → Int32) → (Nat → Int32) → (Nat → Int32) → (Nat → Int32) → Int32 → Int32 → Int32 → Int32 → Int32 → Int32 → Int32 → (Nat → Int32) → (Nat → Int32) → (Nat → Int32) → (Nat → Int32) → (Nat → Int32) → (Nat → Int32) → (Nat → Int32) → (Nat → Int32) → (Nat → Int32) → (Nat → Int64) → Option Int32) (K N K' N' : Nat) (hK : K + 8 ≤ K') (hN : N + 48 ≤ N') (hK' : K' ≤ 601024) (hN' : N' ≤ 7293034) (v4 : Int32) (JE : ∀ (lc : Int32) (la : Int32) (hr : Int32) (uP : Int32) (uC : Int32) (uR : Int32) (tn : Int32) (pn : Int32) (pg : Int32) (pq : Int32) (rl : Nat → Int32) (sr : Nat → Int32) (gcb : Nat → Int32) (gpb : Nat → Int64) (tg : Nat → Int32) (tm : Nat → Int32) (tl : Nat → Int32) (pm : Nat → Int32) (ps : Nat → Int32) (th : Int32) (mP : Int32) (mC : Int32) (mR : Int32) (mal : Int32) (mhd : Int32) (mn : Int32) (mg : Nat → Int32) (mt : Nat → Int32) (mh : Nat → Int32) (mz : Nat → Int32) (mset : Nat → Int32) (mfr : Nat → Int32) (mma : Nat → Int32) (mde : Nat → Int32) (mls : Nat → Int32) (ov : Nat → Int64), kL lc la hr uP uC uR tn pn pg pq rl sr gcb gpb tg tm tl pm ps th mP mC mR mal mhd mn mg mt mh mz mset mfr mma mde mls ov = some 1 → gV p l e room_1 s m args below meth c A D 7 Q ((cW h cI cJ lc la hr uP uC uR tn pn pg pq rl sr gcb gpb tg tm tl pm ps) ++ ((mW k cI th mP mC mR mal mhd mn mg mt mh mz mset mfr mma mde mls) ++ (oW ho cJ ov))) [(0, .ref b), (1, .ref (h 0)), (2, .ref (k 0)), (3, .ref ho), (4, .int v4)] K' N' 1466 []) (lc : Int32) (la : Int32) (hr : Int32) (uP : Int32) (uC : Int32) (uR : Int32) (tn : Int32) (pn : Int32) (pg : Int32) (pq : Int32) (rl : Nat → Int32) (sr : Nat → Int32) (gcb : Nat → Int32) (gpb : Nat → Int64) (tg : Nat → Int32) (tm : Nat → Int32) (tl : Nat → Int32) (pm : Nat → Int32) (ps : Nat → Int32) (th : Int32) (mP : Int32) (mC : Int32) (mR : Int32) (mal : Int32) (mhd : Int32) (mn : Int32) (mg : Nat → Int32) (mt : Nat → Int32) (mh : Nat → Int32) (mz : Nat → Int32) (mset : Nat → Int32) (mfr : Nat → Int32) (mma : Nat → Int32) (mde : Nat → Int32) (mls : Nat → Int32) (ov : Nat → Int64) (hp : pf_law_c24 kL L xs v4 lc la hr uP uC uR tn pn pg pq rl sr gcb gpb tg tm tl pm ps th mP mC mR mal mhd mn mg mt mh mz mset mfr mma mde mls ov = some 1) : gV p l e room_1 s m args below meth c A D 7 Q ((cW h cI cJ lc la hr uP uC uR tn pn pg pq rl sr gcb gpb tg tm tl pm ps) ++ ((mW k cI th mP mC mR mal mhd mn mg mt mh mz mset mfr mma mde mls) ++ (oW ho cJ ov))) [(0, .ref b), (1, .ref (h 0)), (2, .ref (k 0)), (3, .ref ho), (4, .int v4)] K N 1390 [] := by
  unfold pf_law_c24 at hp
  refine gV_aload_n C dL_law_1390 rfl 1 rfl ?_
  obtain ⟨r1391q, hq1391, hp⟩ := g_ob1 hp
  refine gV_calli C (gsub_cmo_c _ _ rfl rfl) (gV_runV (As := []) (rest := []) C (mt_X3_proofSize hl D h cI cJ lc la hr uP uC uR tn pn pg pq rl sr gcb gpb tg tm tl pm ps r1391q hq1391) (cwV 0 C.2.2.2.2.1 gL_law_X3_proofSize rfl rfl rfl hdv_X3_proofSize ⟨Nat.le_of_ble_eq_true rfl, Nat.le_of_ble_eq_true rfl⟩) (gsub_cmo_c _ _ rfl rfl) 0 rfl rfl rfl rfl (Nat.le_of_ble_eq_true rfl) dL_law_1391 ⟨g_rc (by omega), g_rs (by omega)⟩) (fun _ _ hx => False.elim hx) (fun r1391 w1 hw => ?_)
  obtain ⟨rfl, rfl⟩ := hw
  refine gV_sub (ws' := (cW h cI cJ lc la hr uP uC uR tn pn pg pq rl sr gcb gpb tg tm tl pm ps) ++ ((mW k cI th mP mC mR mal mhd mn mg mt mh mz mset mfr mma mde mls) ++ (oW ho cJ ov))) [11, 12, 13, 14, 15, 16, 17, 18, 19, 20, 21, 22, 23, 0, 1, 2, 3, 4, 5, 6, 7, 8, 9, 10] (by decide) rfl rfl ?_
  refine gV_aload_n C dL_law_1394 rfl 2 rfl ?_
  obtain ⟨r1395q, th_1395, mh_1395, mls_1395, hq1395, hp⟩ := g_ob4 hp
  refine gV_calli C (gsub_cmo_m _ _ rfl rfl) (gV_runV (As := []) (rest := [.int r1391]) C (mt_X4_proofSize hl D k cI cJ th mP mC mR mal mhd mn mg mt mh mz mset mfr mma mde mls r1395q th_1395 mh_1395 mls_1395 hq1395) (cwV 0 C.2.2.2.2.1 gL_law_X4_proofSize rfl rfl rfl hdv_X4_proofSize ⟨Nat.le_of_ble_eq_true rfl, Nat.le_of_ble_eq_true rfl⟩) (gsub_cmo_m _ _ rfl rfl) 13 rfl rfl rfl rfl (Nat.le_of_ble_eq_true rfl) dL_law_1395 ⟨g_rc (by omega), g_rs (by omega)⟩) (fun _ _ hx => False.elim hx) (fun r1395 w1 hw => ?_)
  obtain ⟨rfl, rfl⟩ := hw
  refine gV_sub (ws' := (cW h cI cJ lc la hr uP uC uR tn pn pg pq rl sr gcb gpb tg tm tl pm ps) ++ ((mW k cI th_1395 mP mC mR mal mhd mn mg mt mh_1395 mz mset mfr mma mde mls_1395) ++ (oW ho cJ ov))) [0, 1, 2, 3, 4, 5, 6, 7, 8, 9, 10, 11, 12, 14, 15, 16, 17, 18, 19, 20, 21, 22, 23, 13] (by decide) rfl rfl ?_
  refine gV_icmp_eq (tgt := 1466) C dL_law_1398 (by decide) (fun c1398 => ?_) (fun c1398 => ?_)
  · replace hp := g_ift hp c1398
    refine gV_widen (k' := K') (n' := N') (by omega) (by omega) ?_
    exact JE lc la hr uP uC uR tn pn pg pq rl sr gcb gpb tg tm tl pm ps th_1395 mP mC mR mal mhd mn mg mt mh_1395 mz mset mfr mma mde mls_1395 ov hp
  · replace hp := g_iff hp c1398
    refine gV_iconst (v := 0) C dL_law_1401 rfl ?_
    exact absurd hp (by decide)
def pf_law_c25_j1463 (kL : Int32 → Int32 → Int32 → Int32 → Int32 → Int32 → Int32 → Int32 → Int32 → Int32 → (Nat → Int32) → (Nat → Int32) → (Nat → Int32) → (Nat → Int64) → (Nat → Int32) → (Nat → Int32) → (Nat → Int32) → (Nat → Int32) → (Nat → Int32) → Int32 → Int32 → Int32 → Int32 → Int32 → Int32 → Int32 → (Nat → Int32) → (Nat → Int32) → (Nat → Int32) → (Nat → Int32) → (Nat → Int32) → (Nat → Int32) → (Nat → Int32) → (Nat → Int32) → (Nat → Int32) → (Nat → Int64) → Option Int32) (lc : Int32) (la : Int32) (hr : Int32) (uP : Int32) (uC : Int32) (uR : Int32) (tn : Int32) (pn : Int32) (pg : Int32) (pq : Int32) (rl : Nat → Int32) (sr : Nat → Int32) (gcb : Nat → Int32) (gpb : Nat → Int64) (tg : Nat → Int32) (tm : Nat → Int32) (tl : Nat → Int32) (pm : Nat → Int32) (ps : Nat → Int32) (mP : Int32) (mC : Int32) (mR : Int32) (mal : Int32) (mhd : Int32) (mn : Int32) (mg : Nat → Int32) (mt : Nat → Int32) (mz : Nat → Int32) (mset : Nat → Int32) (mfr : Nat → Int32) (mma : Nat → Int32) (mde : Nat → Int32) (th : Int32) (mh : Nat → Int32) (mls : Nat → Int32) (ov : Nat → Int64) : Option (Int32) := (kL lc la hr uP uC uR tn pn pg pq rl sr gcb gpb tg tm tl pm ps th mP mC mR mal mhd mn mg mt mh mz mset mfr mma mde mls ov)
def pf_law_c25_j1457 (kL : Int32 → Int32 → Int32 → Int32 → Int32 → Int32 → Int32 → Int32 → Int32 → Int32 → (Nat → Int32) → (Nat → Int32) → (Nat → Int32) → (Nat → Int64) → (Nat → Int32) → (Nat → Int32) → (Nat → Int32) → (Nat → Int32) → (Nat → Int32) → Int32 → Int32 → Int32 → Int32 → Int32 → Int32 → Int32 → (Nat → Int32) → (Nat → Int32) → (Nat → Int32) → (Nat → Int32) → (Nat → Int32) → (Nat → Int32) → (Nat → Int32) → (Nat → Int32) → (Nat → Int32) → (Nat → Int64) → Option Int32) (lc : Int32) (la : Int32) (hr : Int32) (uP : Int32) (uC : Int32) (uR : Int32) (tn : Int32) (pn : Int32) (pg : Int32) (pq : Int32) (rl : Nat → Int32) (sr : Nat → Int32) (gcb : Nat → Int32) (gpb : Nat → Int64) (tg : Nat → Int32) (tm : Nat → Int32) (tl : Nat → Int32) (pm : Nat → Int32) (ps : Nat → Int32) (mP : Int32) (mC : Int32) (mR : Int32) (mal : Int32) (mhd : Int32) (mn : Int32) (mg : Nat → Int32) (mt : Nat → Int32) (mz : Nat → Int32) (mset : Nat → Int32) (mfr : Nat → Int32) (mma : Nat → Int32) (mde : Nat → Int32) (s0 : Int64) (s1 : Int64) (th : Int32) (mh : Nat → Int32) (mls : Nat → Int32) (ov : Nat → Int64) : Option (Int32) := (if (lg_cmp s1 s0) = 0 then (pf_law_c25_j1463 kL lc la hr uP uC uR tn pn pg pq rl sr gcb gpb tg tm tl pm ps mP mC mR mal mhd mn mg mt mz mset mfr mma mde th mh mls ov) else (some 0))
def pf_law_c25 (kL : Int32 → Int32 → Int32 → Int32 → Int32 → Int32 → Int32 → Int32 → Int32 → Int32 → (Nat → Int32) → (Nat → Int32) → (Nat → Int32) → (Nat → Int64) → (Nat → Int32) → (Nat → Int32) → (Nat → Int32) → (Nat → Int32) → (Nat → Int32) → Int32 → Int32 → Int32 → Int32 → Int32 → Int32 → Int32 → (Nat → Int32) → (Nat → Int32) → (Nat → Int32) → (Nat → Int32) → (Nat → Int32) → (Nat → Int32) → (Nat → Int32) → (Nat → Int32) → (Nat → Int32) → (Nat → Int64) → Option Int32) (L : Nat) (xs : Nat → Int32) (v4 : Int32) (lc : Int32) (la : Int32) (hr : Int32) (uP : Int32) (uC : Int32) (uR : Int32) (tn : Int32) (pn : Int32) (pg : Int32) (pq : Int32) (rl : Nat → Int32) (sr : Nat → Int32) (gcb : Nat → Int32) (gpb : Nat → Int64) (tg : Nat → Int32) (tm : Nat → Int32) (tl : Nat → Int32) (pm : Nat → Int32) (ps : Nat → Int32) (th : Int32) (mP : Int32) (mC : Int32) (mR : Int32) (mal : Int32) (mhd : Int32) (mn : Int32) (mg : Nat → Int32) (mt : Nat → Int32) (mh : Nat → Int32) (mz : Nat → Int32) (mset : Nat → Int32) (mfr : Nat → Int32) (mma : Nat → Int32) (mde : Nat → Int32) (mls : Nat → Int32) (ov : Nat → Int64) : Option Int32 := (gi (v4 + 1) L (ob2 (pf_L_isInProof lc la uR tn tl ov (xs (v4 + 1).toNatClampNeg)) fun r1411 ov_1411 => (gi (v4 + 1) L (ob4 (pf_X4_isInProof th mP mC mR mal mn mg mt mh mls (xs (v4 + 1).toNatClampNeg)) fun r1423 th_1423 mh_1423 mls_1423 => (ob1 (pf_X4_thrown th_1423) fun r1429 => (if r1429 = r1411 then (if r1411 = 0 then (gi 0 1 (if r1423 = 0 then (pf_law_c25_j1457 kL lc la hr uP uC uR tn pn pg pq rl sr gcb gpb tg tm tl pm ps mP mC mR mal mhd mn mg mt mz mset mfr mma mde 0 (ov_1411 (0 : Int32).toNatClampNeg) th_1423 mh_1423 mls_1423 ov_1411) else (pf_law_c25_j1457 kL lc la hr uP uC uR tn pn pg pq rl sr gcb gpb tg tm tl pm ps mP mC mR mal mhd mn mg mt mz mset mfr mma mde 1 (ov_1411 (0 : Int32).toNatClampNeg) th_1423 mh_1423 mls_1423 ov_1411))) else (pf_law_c25_j1463 kL lc la hr uP uC uR tn pn pg pq rl sr gcb gpb tg tm tl pm ps mP mC mR mal mhd mn mg mt mz mset mfr mma mde th_1423 mh_1423 mls_1423 ov_1411)) else (some 0)))))))
theorem hds_L_isInProof : yL_isInProof.cls ≠ "java/lang/invoke/MethodHandle" ∧ yL_isInProof.cls ≠ "java/lang/invoke/VarHandle" ∧ (parseMethodDescriptor yL_isInProof.desc).map (fun d => d.parameters.length) = some 3 := by decide +kernel
theorem hdv_X4_isInProof : yX4_isInProof.cls = RX4 ∧ yX4_isInProof.cls ≠ "java/lang/invoke/MethodHandle" ∧ yX4_isInProof.cls ≠ "java/lang/invoke/VarHandle" ∧ (parseMethodDescriptor yX4_isInProof.desc).map (fun d => d.parameters.length) = some 1 := by decide +kernel
set_option maxHeartbeats 4000000 in
set_option maxRecDepth 100000 in
theorem mt_law_c25 {p : Program} {l : Launch} (hl : l.stackTraces = false) {e : Env} {s : State} {m : MethodId} {args : Array Value} {below : List Frame} {meth : Method} {c : Code} {A : Nat → Prop} {D : va_G} {Q : State → Prop} (h k : Nat → Nat) (ho : Nat) (cI cJ : ClassId) {b L : Nat} {xs : Nat → Int32} (C : gC p l s m args meth c A D [(cI, .int), (cJ, .long)] 7 RL cL_law wsL_law) (hX : va_X b L xs s s.heap) (hbl : b < s.heap.size) (hbA : ¬ A b) (kL : Int32 → Int32 → Int32 → Int32 → Int32 → Int32 → Int32 → Int32 → Int32 → Int32 → (Nat → Int32) → (Nat → Int32) → (Nat → Int32) → (Nat → Int64) → (Nat → Int32) → (Nat → Int32) → (Nat → Int32) → (Nat → Int32) → (Nat → Int32) → Int32 → Int32 → Int32 → Int32 → Int32 → Int32 → Int32 → (Nat → Int32) → (Nat → Int32) → (Nat → Int32) → (Nat → Int32) → (Nat → Int32) → (Nat → Int32) → (Nat → Int32) → (Nat → Int32) → (Nat → Int32) → (Nat → Int64) → Option Int32) (K N K' N' : Nat) (hK : K + 8 ≤ K') (hN : N + 48 ≤ N') (hK' : K' ≤ 601024) (hN' : N' ≤ 7293034) (v4 : Int32) (JE : ∀ (lc : Int32) (la : Int32) (hr : Int32) (uP : Int32) (uC : Int32) (uR : Int32) (tn : Int32) (pn : Int32) (pg : Int32) (pq : Int32) (rl : Nat → Int32) (sr : Nat → Int32) (gcb : Nat → Int32) (gpb : Nat → Int64) (tg : Nat → Int32) (tm : Nat → Int32) (tl : Nat → Int32) (pm : Nat → Int32) (ps : Nat → Int32) (th : Int32) (mP : Int32) (mC : Int32) (mR : Int32) (mal : Int32) (mhd : Int32) (mn : Int32) (mg : Nat → Int32) (mt : Nat → Int32) (mh : Nat → Int32) (mz : Nat → Int32) (mset : Nat → Int32) (mfr : Nat → Int32) (mma : Nat → Int32) (mde : Nat → Int32) (mls : Nat → Int32) (ov : Nat → Int64), kL lc la hr uP uC uR tn pn pg pq rl sr gcb gpb tg tm tl pm ps th mP mC mR mal mhd mn mg mt mh mz mset mfr mma mde mls ov = some 1 → gV p l e room_1 s m args below meth c A D 7 Q ((cW h cI cJ lc la hr uP uC uR tn pn pg pq rl sr gcb gpb tg tm tl pm ps) ++ ((mW k cI th mP mC mR mal mhd mn mg mt mh mz mset mfr mma mde mls) ++ (oW ho cJ ov))) [(0, .ref b), (1, .ref (h 0)), (2, .ref (k 0)), (3, .ref ho), (4, .int v4)] K' N' 1466 []) (lc : Int32) (la : Int32) (hr : Int32) (uP : Int32) (uC : Int32) (uR : Int32) (tn : Int32) (pn : Int32) (pg : Int32) (pq : Int32) (rl : Nat → Int32) (sr : Nat → Int32) (gcb : Nat → Int32) (gpb : Nat → Int64) (tg : Nat → Int32) (tm : Nat → Int32) (tl : Nat → Int32) (pm : Nat → Int32) (ps : Nat → Int32) (th : Int32) (mP : Int32) (mC : Int32) (mR : Int32) (mal : Int32) (mhd : Int32) (mn : Int32) (mg : Nat → Int32) (mt : Nat → Int32) (mh : Nat → Int32) (mz : Nat → Int32) (mset : Nat → Int32) (mfr : Nat → Int32) (mma : Nat → Int32) (mde : Nat → Int32) (mls : Nat → Int32) (ov : Nat → Int64) (hp : pf_law_c25 kL L xs v4 lc la hr uP uC uR tn pn pg pq rl sr gcb gpb tg tm tl pm ps th mP mC mR mal mhd mn mg mt mh mz mset mfr mma mde mls ov = some 1) : gV p l e room_1 s m args below meth c A D 7 Q ((cW h cI cJ lc la hr uP uC uR tn pn pg pq rl sr gcb gpb tg tm tl pm ps) ++ ((mW k cI th mP mC mR mal mhd mn mg mt mh mz mset mfr mma mde mls) ++ (oW ho cJ ov))) [(0, .ref b), (1, .ref (h 0)), (2, .ref (k 0)), (3, .ref ho), (4, .int v4)] K N 1403 [] := by
  unfold pf_law_c25 at hp
  have J1463 : ∀ (K1 N1 : Nat), K1 + 2 ≤ K' → N1 + 12 ≤ N' → ∀ (th : Int32) (mh : Nat → Int32) (mls : Nat → Int32) (ov : Nat → Int64), pf_law_c25_j1463 kL lc la hr uP uC uR tn pn pg pq rl sr gcb gpb tg tm tl pm ps mP mC mR mal mhd mn mg mt mz mset mfr mma mde th mh mls ov = some 1 → gV p l e room_1 s m args below meth c A D 7 Q ((cW h cI cJ lc la hr uP uC uR tn pn pg pq rl sr gcb gpb tg tm tl pm ps) ++ ((mW k cI th mP mC mR mal mhd mn mg mt mh mz mset mfr mma mde mls) ++ (oW ho cJ ov))) [(0, .ref b), (1, .ref (h 0)), (2, .ref (k 0)), (3, .ref ho), (4, .int v4)] K1 N1 1463 [] := by
    intro K1 N1 hK1 hN1 th mh mls ov hp
    unfold pf_law_c25_j1463 at hp
    refine gV_goto (tgt := 1466) C dL_law_1463 (by decide) ?_
    refine gV_widen (k' := K') (n' := N') (by omega) (by omega) ?_
    exact JE lc la hr uP uC uR tn pn pg pq rl sr gcb gpb tg tm tl pm ps th mP mC mR mal mhd mn mg mt mh mz mset mfr mma mde mls ov hp
  have J1457 : ∀ (K1 N1 : Nat), K1 + 2 ≤ K' → N1 + 12 ≤ N' → ∀ (s0 : Int64) (s1 : Int64) (th : Int32) (mh : Nat → Int32) (mls : Nat → Int32) (ov : Nat → Int64), pf_law_c25_j1457 kL lc la hr uP uC uR tn pn pg pq rl sr gcb gpb tg tm tl pm ps mP mC mR mal mhd mn mg mt mz mset mfr mma mde s0 s1 th mh mls ov = some 1 → gV p l e room_1 s m args below meth c A D 7 Q ((cW h cI cJ lc la hr uP uC uR tn pn pg pq rl sr gcb gpb tg tm tl pm ps) ++ ((mW k cI th mP mC mR mal mhd mn mg mt mh mz mset mfr mma mde mls) ++ (oW ho cJ ov))) [(0, .ref b), (1, .ref (h 0)), (2, .ref (k 0)), (3, .ref ho), (4, .int v4)] K1 N1 1457 [.long s0, .long s1] := by
    intro K1 N1 hK1 hN1 s0 s1 th mh mls ov hp
    unfold pf_law_c25_j1457 at hp
    refine gV_lcmp C dL_law_1457 ?_
    refine gV_if_eq (tgt := 1463) C dL_law_1458 (by decide) (fun c1458 => ?_) (fun c1458 => ?_)
    · replace hp := g_ift hp c1458
      exact J1463 _ _ (by omega) (by omega) th mh mls ov hp
    · replace hp := g_iff hp c1458
      refine gV_iconst (v := 0) C dL_law_1461 rfl ?_
      exact absurd hp (by decide)
  refine gV_aload_n C dL_law_1403 rfl 1 rfl ?_
  refine gV_aload_n C dL_law_1404 rfl 0 rfl ?_
  refine gV_iload C dL_law_1405 4 rfl ?_
  refine gV_iconst (v := 1) C dL_law_1407 rfl ?_
  refine gV_iadd C dL_law_1408 ?_
  obtain ⟨hi1409, hp⟩ := g_idx hp
  refine gV_sld C hX hbl hbA hi1409 dL_law_1409 ?_
  refine gV_aload_n C dL_law_1410 rfl 3 rfl ?_
  obtain ⟨r1411q, ov_1411, hq1411, hp⟩ := g_ob2 hp
  refine gV_calli C (gsub_cmo_co _ _ rfl rfl) (gV_runSX (As := [.ref (h 0), .int (xs (v4 + 1).toNatClampNeg), .ref ho]) (rest := []) C (mt_L_isInProof hl D h ho cI cJ lc la hr uP uC uR tn pn pg pq rl sr gcb gpb tg tm tl pm ps ov (xs (v4 + 1).toNatClampNeg) r1411q ov_1411 hq1411) (vx_cwSW 3 C.2.2.2.2.1 gL_law_L_isInProof rfl rfl rfl hds_L_isInProof ⟨Nat.le_of_ble_eq_true rfl, Nat.le_of_ble_eq_true rfl⟩) (gsub_cmo_co _ _ rfl rfl) rfl rfl (Nat.le_of_ble_eq_true rfl) dL_law_1411 ⟨g_rc (by omega), g_rs (by omega)⟩) (fun _ _ hx => False.elim hx) (fun r1411 w1 hw => ?_)
  obtain ⟨rfl, rfl⟩ := hw
  refine gV_sub (ws' := (cW h cI cJ lc la hr uP uC uR tn pn pg pq rl sr gcb gpb tg tm tl pm ps) ++ ((mW k cI th mP mC mR mal mhd mn mg mt mh mz mset mfr mma mde mls) ++ (oW ho cJ ov_1411))) [10, 11, 12, 13, 14, 15, 16, 17, 18, 19, 20, 21, 22, 0, 1, 2, 3, 4, 5, 6, 7, 8, 9, 23] (by decide) rfl rfl ?_
  refine gV_istore (lvs' := [(5, .int r1411), (0, .ref b), (1, .ref (h 0)), (2, .ref (k 0)), (3, .ref ho), (4, .int v4)]) C dL_law_1414 (by decide) rfl ?_
  refine gV_aload_n C dL_law_1416 rfl 3 rfl ?_
  refine gV_aload_n C dL_law_1417 rfl 1 rfl ?_
  refine gV_iload C dL_law_1418 5 rfl ?_
  refine gV_iconst (v := 1) C dL_law_1420 rfl ?_
  refine gV_iadd C dL_law_1421 ?_
  obtain ⟨hi1422, hp⟩ := g_idx hp
  refine gV_sld C hX hbl hbA hi1422 dL_law_1422 ?_
  obtain ⟨r1423q, th_1423, mh_1423, mls_1423, hq1423, hp⟩ := g_ob4 hp
  refine gV_calli C (gsub_cmo_m _ _ rfl rfl) (gV_runV (As := [.int (xs (v4 + 1).toNatClampNeg)]) (rest := []) C (mt_X4_isInProof hl D k cI cJ th mP mC mR mal mhd mn mg mt mh mz mset mfr mma mde mls (xs (v4 + 1).toNatClampNeg) r1423q th_1423 mh_1423 mls_1423 hq1423) (cwV 1 C.2.2.2.2.1 gL_law_X4_isInProof rfl rfl rfl hdv_X4_isInProof ⟨Nat.le_of_ble_eq_true rfl, Nat.le_of_ble_eq_true rfl⟩) (gsub_cmo_m _ _ rfl rfl) 13 rfl rfl rfl rfl (Nat.le_of_ble_eq_true rfl) dL_law_1423 ⟨g_rc (by omega), g_rs (by omega)⟩) (fun _ _ hx => False.elim hx) (fun r1423 w1 hw => ?_)
  obtain ⟨rfl, rfl⟩ := hw
  refine gV_sub (ws' := (cW h cI cJ lc la hr uP uC uR tn pn pg pq rl sr gcb gpb tg tm tl pm ps) ++ ((mW k cI th_1423 mP mC mR mal mhd mn mg mt mh_1423 mz mset mfr mma mde mls_1423) ++ (oW ho cJ ov_1411))) [0, 1, 2, 3, 4, 5, 6, 7, 8, 9, 10, 11, 12, 14, 15, 16, 17, 18, 19, 20, 21, 22, 23, 13] (by decide) rfl rfl ?_
  refine gV_istore (lvs' := [(6, .int r1423), (5, .int r1411), (0, .ref b), (1, .ref (h 0)), (2, .ref (k 0)), (3, .ref ho), (4, .int v4)]) C dL_law_1426 (by decide) rfl ?_
  refine gV_aload_n C dL_law_1428 rfl 4 rfl ?_
  obtain ⟨r1429q, hq1429, hp⟩ := g_ob1 hp
  refine gV_calli C (gsub_cmo_m _ _ rfl rfl) (gV_runV (As := []) (rest := []) C (mt_X4_thrown hl D k cI cJ th_1423 mP mC mR mal mhd mn mg mt mh_1423 mz mset mfr mma mde mls_1423 r1429q hq1429) (cwV 0 C.2.2.2.2.1 gL_law_X4_thrown rfl rfl rfl hdv_X4_thrown ⟨Nat.le_of_ble_eq_true rfl, Nat.le_of_ble_eq_true rfl⟩) (gsub_cmo_m _ _ rfl rfl) 13 rfl rfl rfl rfl (Nat.le_of_ble_eq_true rfl) dL_law_1429 ⟨g_rc (by omega), g_rs (by omega)⟩) (fun _ _ hx => False.elim hx) (fun r1429 w1 hw => ?_)
  obtain ⟨rfl, rfl⟩ := hw
  refine gV_sub (ws' := (cW h cI cJ lc la hr uP uC uR tn pn pg pq rl sr gcb gpb tg tm tl pm ps) ++ ((mW k cI th_1423 mP mC mR mal mhd mn mg mt mh_1423 mz mset mfr mma mde mls_1423) ++ (oW ho cJ ov_1411))) [0, 1, 2, 3, 4, 5, 6, 7, 8, 9, 10, 11, 12, 14, 15, 16, 17, 18, 19, 20, 21, 22, 23, 13] (by decide) rfl rfl ?_
  refine gV_iload C dL_law_1432 1 rfl ?_
  refine gV_icmp_eq (tgt := 1439) C dL_law_1434 (by decide) (fun c1434 => ?_) (fun c1434 => ?_)
  · replace hp := g_ift hp c1434
    refine gV_iload C dL_law_1439 1 rfl ?_
    refine gV_if_ne (tgt := 1463) C dL_law_1441 (by decide) (fun c1441 => ?_) (fun c1441 => ?_)
    · replace hp := g_iff hp c1441
      refine gV_loc [2, 3, 4, 5, 6] rfl ?_
      exact J1463 _ _ (by omega) (by omega) th_1423 mh_1423 mls_1423 ov_1411 hp
    · replace hp := g_ift hp c1441
      refine gV_aload_n C dL_law_1444 rfl 5 rfl ?_
      refine gV_iconst (v := 0) C dL_law_1445 rfl ?_
      obtain ⟨hi1446, hp⟩ := g_idx hp
      refine gV_lald C 23 rfl 1 rfl hi1446 dL_law_1446 ?_
      refine gV_iload C dL_law_1447 0 rfl ?_
      refine gV_if_eq (tgt := 1456) C dL_law_1449 (by decide) (fun c1449 => ?_) (fun c1449 => ?_)
      · replace hp := g_ift hp c1449
        refine gV_lconst (v := 0) C dL_law_1456 rfl ?_
        refine gV_loc [2, 3, 4, 5, 6] rfl ?_
        exact J1457 _ _ (by omega) (by omega) 0 (ov_1411 (0 : Int32).toNatClampNeg) th_1423 mh_1423 mls_1423 ov_1411 hp
      · replace hp := g_iff hp c1449
        refine gV_lconst (v := 1) C dL_law_1452 rfl ?_
        refine gV_goto (tgt := 1457) C dL_law_1453 (by decide) ?_
        refine gV_loc [2, 3, 4, 5, 6] rfl ?_
        exact J1457 _ _ (by omega) (by omega) 1 (ov_1411 (0 : Int32).toNatClampNeg) th_1423 mh_1423 mls_1423 ov_1411 hp
  · replace hp := g_iff hp c1434
    refine gV_iconst (v := 0) C dL_law_1437 rfl ?_
    exact absurd hp (by decide)

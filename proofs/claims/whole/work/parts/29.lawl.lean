def pf_law_sw (kL : Int32 → Int32 → Int32 → Int32 → Int32 → Int32 → Int32 → Int32 → Int32 → Int32 → (Nat → Int32) → (Nat → Int32) → (Nat → Int32) → (Nat → Int64) → (Nat → Int32) → (Nat → Int32) → (Nat → Int32) → (Nat → Int32) → (Nat → Int32) → Int32 → Int32 → Int32 → Int32 → Int32 → Int32 → Int32 → (Nat → Int32) → (Nat → Int32) → (Nat → Int32) → (Nat → Int32) → (Nat → Int32) → (Nat → Int32) → (Nat → Int32) → (Nat → Int32) → (Nat → Int32) → (Nat → Int64) → Option Int32) (L : Nat) (xs : Nat → Int32) (v4 : Int32) (lc : Int32) (la : Int32) (hr : Int32) (uP : Int32) (uC : Int32) (uR : Int32) (tn : Int32) (pn : Int32) (pg : Int32) (pq : Int32) (rl : Nat → Int32) (sr : Nat → Int32) (gcb : Nat → Int32) (gpb : Nat → Int64) (tg : Nat → Int32) (tm : Nat → Int32) (tl : Nat → Int32) (pm : Nat → Int32) (ps : Nat → Int32) (th : Int32) (mP : Int32) (mC : Int32) (mR : Int32) (mal : Int32) (mhd : Int32) (mn : Int32) (mg : Nat → Int32) (mt : Nat → Int32) (mh : Nat → Int32) (mz : Nat → Int32) (mset : Nat → Int32) (mfr : Nat → Int32) (mma : Nat → Int32) (mde : Nat → Int32) (mls : Nat → Int32) (ov : Nat → Int64) : Option Int32 := if (xs v4.toNatClampNeg &&& 31) = 0 then pf_law_c0 kL L xs v4 lc la hr uP uC uR tn pn pg pq rl sr gcb gpb tg tm tl pm ps th mP mC mR mal mhd mn mg mt mh mz mset mfr mma mde mls ov else (if (xs v4.toNatClampNeg &&& 31) = 1 then pf_law_c1 kL L xs v4 lc la hr uP uC uR tn pn pg pq rl sr gcb gpb tg tm tl pm ps th mP mC mR mal mhd mn mg mt mh mz mset mfr mma mde mls ov else (if (xs v4.toNatClampNeg &&& 31) = 2 then pf_law_c2 kL L xs v4 lc la hr uP uC uR tn pn pg pq rl sr gcb gpb tg tm tl pm ps th mP mC mR mal mhd mn mg mt mh mz mset mfr mma mde mls ov else (if (xs v4.toNatClampNeg &&& 31) = 3 then pf_law_c3 kL L xs v4 lc la hr uP uC uR tn pn pg pq rl sr gcb gpb tg tm tl pm ps th mP mC mR mal mhd mn mg mt mh mz mset mfr mma mde mls ov else (if (xs v4.toNatClampNeg &&& 31) = 4 then pf_law_c4 kL L xs v4 lc la hr uP uC uR tn pn pg pq rl sr gcb gpb tg tm tl pm ps th mP mC mR mal mhd mn mg mt mh mz mset mfr mma mde mls ov else (if (xs v4.toNatClampNeg &&& 31) = 5 then pf_law_c5 kL L xs v4 lc la hr uP uC uR tn pn pg pq rl sr gcb gpb tg tm tl pm ps th mP mC mR mal mhd mn mg mt mh mz mset mfr mma mde mls ov else (if (xs v4.toNatClampNeg &&& 31) = 6 then pf_law_c6 kL L xs v4 lc la hr uP uC uR tn pn pg pq rl sr gcb gpb tg tm tl pm ps th mP mC mR mal mhd mn mg mt mh mz mset mfr mma mde mls ov else (if (xs v4.toNatClampNeg &&& 31) = 7 then pf_law_c7 kL L xs v4 lc la hr uP uC uR tn pn pg pq rl sr gcb gpb tg tm tl pm ps th mP mC mR mal mhd mn mg mt mh mz mset mfr mma mde mls ov else (if (xs v4.toNatClampNeg &&& 31) = 8 then pf_law_c8 kL L xs v4 lc la hr uP uC uR tn pn pg pq rl sr gcb gpb tg tm tl pm ps th mP mC mR mal mhd mn mg mt mh mz mset mfr mma mde mls ov else (if (xs v4.toNatClampNeg &&& 31) = 9 then pf_law_c9 kL L xs v4 lc la hr uP uC uR tn pn pg pq rl sr gcb gpb tg tm tl pm ps th mP mC mR mal mhd mn mg mt mh mz mset mfr mma mde mls ov else (if (xs v4.toNatClampNeg &&& 31) = 10 then pf_law_c10 kL L xs v4 lc la hr uP uC uR tn pn pg pq rl sr gcb gpb tg tm tl pm ps th mP mC mR mal mhd mn mg mt mh mz mset mfr mma mde mls ov else (if (xs v4.toNatClampNeg &&& 31) = 11 then pf_law_c11 kL L xs v4 lc la hr uP uC uR tn pn pg pq rl sr gcb gpb tg tm tl pm ps th mP mC mR mal mhd mn mg mt mh mz mset mfr mma mde mls ov else (if (xs v4.toNatClampNeg &&& 31) = 12 then pf_law_c12 kL L xs v4 lc la hr uP uC uR tn pn pg pq rl sr gcb gpb tg tm tl pm ps th mP mC mR mal mhd mn mg mt mh mz mset mfr mma mde mls ov else (if (xs v4.toNatClampNeg &&& 31) = 13 then pf_law_c13 kL L xs v4 lc la hr uP uC uR tn pn pg pq rl sr gcb gpb tg tm tl pm ps th mP mC mR mal mhd mn mg mt mh mz mset mfr mma mde mls ov else (if (xs v4.toNatClampNeg &&& 31) = 14 then pf_law_c14 kL L xs v4 lc la hr uP uC uR tn pn pg pq rl sr gcb gpb tg tm tl pm ps th mP mC mR mal mhd mn mg mt mh mz mset mfr mma mde mls ov else (if (xs v4.toNatClampNeg &&& 31) = 15 then pf_law_c15 kL L xs v4 lc la hr uP uC uR tn pn pg pq rl sr gcb gpb tg tm tl pm ps th mP mC mR mal mhd mn mg mt mh mz mset mfr mma mde mls ov else (if (xs v4.toNatClampNeg &&& 31) = 16 then pf_law_c16 kL L xs v4 lc la hr uP uC uR tn pn pg pq rl sr gcb gpb tg tm tl pm ps th mP mC mR mal mhd mn mg mt mh mz mset mfr mma mde mls ov else (if (xs v4.toNatClampNeg &&& 31) = 17 then pf_law_c17 kL L xs v4 lc la hr uP uC uR tn pn pg pq rl sr gcb gpb tg tm tl pm ps th mP mC mR mal mhd mn mg mt mh mz mset mfr mma mde mls ov else (if (xs v4.toNatClampNeg &&& 31) = 18 then pf_law_c18 kL L xs v4 lc la hr uP uC uR tn pn pg pq rl sr gcb gpb tg tm tl pm ps th mP mC mR mal mhd mn mg mt mh mz mset mfr mma mde mls ov else (if (xs v4.toNatClampNeg &&& 31) = 19 then pf_law_c19 kL L xs v4 lc la hr uP uC uR tn pn pg pq rl sr gcb gpb tg tm tl pm ps th mP mC mR mal mhd mn mg mt mh mz mset mfr mma mde mls ov else (if (xs v4.toNatClampNeg &&& 31) = 20 then pf_law_c20 kL L xs v4 lc la hr uP uC uR tn pn pg pq rl sr gcb gpb tg tm tl pm ps th mP mC mR mal mhd mn mg mt mh mz mset mfr mma mde mls ov else (if (xs v4.toNatClampNeg &&& 31) = 21 then pf_law_c21 kL L xs v4 lc la hr uP uC uR tn pn pg pq rl sr gcb gpb tg tm tl pm ps th mP mC mR mal mhd mn mg mt mh mz mset mfr mma mde mls ov else (if (xs v4.toNatClampNeg &&& 31) = 22 then pf_law_c22 kL L xs v4 lc la hr uP uC uR tn pn pg pq rl sr gcb gpb tg tm tl pm ps th mP mC mR mal mhd mn mg mt mh mz mset mfr mma mde mls ov else (if (xs v4.toNatClampNeg &&& 31) = 23 then pf_law_c23 kL L xs v4 lc la hr uP uC uR tn pn pg pq rl sr gcb gpb tg tm tl pm ps th mP mC mR mal mhd mn mg mt mh mz mset mfr mma mde mls ov else (if (xs v4.toNatClampNeg &&& 31) = 24 then pf_law_c24 kL L xs v4 lc la hr uP uC uR tn pn pg pq rl sr gcb gpb tg tm tl pm ps th mP mC mR mal mhd mn mg mt mh mz mset mfr mma mde mls ov else (if (xs v4.toNatClampNeg &&& 31) = 25 then pf_law_c25 kL L xs v4 lc la hr uP uC uR tn pn pg pq rl sr gcb gpb tg tm tl pm ps th mP mC mR mal mhd mn mg mt mh mz mset mfr mma mde mls ov else kL lc la hr uP uC uR tn pn pg pq rl sr gcb gpb tg tm tl pm ps th mP mC mR mal mhd mn mg mt mh mz mset mfr mma mde mls ov)))))))))))))))))))))))))
def pf_law_L (L : Nat) (xs : Nat → Int32) : Nat → Int32 → Int32 → Int32 → Int32 → Int32 → Int32 → Int32 → Int32 → Int32 → Int32 → Int32 → (Nat → Int32) → (Nat → Int32) → (Nat → Int32) → (Nat → Int64) → (Nat → Int32) → (Nat → Int32) → (Nat → Int32) → (Nat → Int32) → (Nat → Int32) → Int32 → Int32 → Int32 → Int32 → Int32 → Int32 → Int32 → (Nat → Int32) → (Nat → Int32) → (Nat → Int32) → (Nat → Int32) → (Nat → Int32) → (Nat → Int32) → (Nat → Int32) → (Nat → Int32) → (Nat → Int32) → (Nat → Int64) → Option Int32
  | 0, _, _, _, _, _, _, _, _, _, _, _, _, _, _, _, _, _, _, _, _, _, _, _, _, _, _, _, _, _, _, _, _, _, _, _, _, _ => none
  | n + 1, v4, lc, la, hr, uP, uC, uR, tn, pn, pg, pq, rl, sr, gcb, gpb, tg, tm, tl, pm, ps, th, mP, mC, mR, mal, mhd, mn, mg, mt, mh, mz, mset, mfr, mma, mde, mls, ov => if Int32.ofNat L - 3 < v4 then some 1 else gi v4 L (pf_law_sw (fun lc la hr uP uC uR tn pn pg pq rl sr gcb gpb tg tm tl pm ps th mP mC mR mal mhd mn mg mt mh mz mset mfr mma mde mls ov => pf_law_L L xs n (v4 + 3) lc la hr uP uC uR tn pn pg pq rl sr gcb gpb tg tm tl pm ps th mP mC mR mal mhd mn mg mt mh mz mset mfr mma mde mls ov) L xs v4 lc la hr uP uC uR tn pn pg pq rl sr gcb gpb tg tm tl pm ps th mP mC mR mal mhd mn mg mt mh mz mset mfr mma mde mls ov)
set_option maxHeartbeats 4000000 in
set_option maxRecDepth 100000 in
theorem g_swout {x : Int32} (h0 : ¬ x = 0) ( h1 : ¬ x = 1) ( h2 : ¬ x = 2) ( h3 : ¬ x = 3) ( h4 : ¬ x = 4) ( h5 : ¬ x = 5) ( h6 : ¬ x = 6) ( h7 : ¬ x = 7) ( h8 : ¬ x = 8) ( h9 : ¬ x = 9) ( h10 : ¬ x = 10) ( h11 : ¬ x = 11) ( h12 : ¬ x = 12) ( h13 : ¬ x = 13) ( h14 : ¬ x = 14) ( h15 : ¬ x = 15) ( h16 : ¬ x = 16) ( h17 : ¬ x = 17) ( h18 : ¬ x = 18) ( h19 : ¬ x = 19) ( h20 : ¬ x = 20) ( h21 : ¬ x = 21) ( h22 : ¬ x = 22) ( h23 : ¬ x = 23) ( h24 : ¬ x = 24) ( h25 : ¬ x = 25) : x.toInt < 0 ∨ 25 < x.toInt := by
  refine Classical.byContradiction fun q => ?_
  have q1 : 0 ≤ x.toInt := by omega
  have q2 : x.toInt ≤ 25 := by omega
  obtain ⟨j, hj⟩ : ∃ j : Nat, x.toInt = (j : Int) := ⟨x.toInt.toNat, by omega⟩
  have hx : x = Int32.ofInt (j : Int) := by rw [← hj]; exact (Int32.ofInt_toInt x).symm
  have hj2 : j ≤ 25 := by omega
  match j, hj2 with
  | 0, _ => exact h0 (hx.trans (by decide))
  | 1, _ => exact h1 (hx.trans (by decide))
  | 2, _ => exact h2 (hx.trans (by decide))
  | 3, _ => exact h3 (hx.trans (by decide))
  | 4, _ => exact h4 (hx.trans (by decide))
  | 5, _ => exact h5 (hx.trans (by decide))
  | 6, _ => exact h6 (hx.trans (by decide))
  | 7, _ => exact h7 (hx.trans (by decide))
  | 8, _ => exact h8 (hx.trans (by decide))
  | 9, _ => exact h9 (hx.trans (by decide))
  | 10, _ => exact h10 (hx.trans (by decide))
  | 11, _ => exact h11 (hx.trans (by decide))
  | 12, _ => exact h12 (hx.trans (by decide))
  | 13, _ => exact h13 (hx.trans (by decide))
  | 14, _ => exact h14 (hx.trans (by decide))
  | 15, _ => exact h15 (hx.trans (by decide))
  | 16, _ => exact h16 (hx.trans (by decide))
  | 17, _ => exact h17 (hx.trans (by decide))
  | 18, _ => exact h18 (hx.trans (by decide))
  | 19, _ => exact h19 (hx.trans (by decide))
  | 20, _ => exact h20 (hx.trans (by decide))
  | 21, _ => exact h21 (hx.trans (by decide))
  | 22, _ => exact h22 (hx.trans (by decide))
  | 23, _ => exact h23 (hx.trans (by decide))
  | 24, _ => exact h24 (hx.trans (by decide))
  | 25, _ => exact h25 (hx.trans (by decide))
  | k + 26, h => exact absurd h (by omega)
set_option maxHeartbeats 8000000 in
set_option maxRecDepth 100000 in
theorem mt_law_L {p : Program} {l : Launch} (hl : l.stackTraces = false) {e : Env} {s : State} {m : MethodId} {args : Array Value} {below : List Frame} {meth : Method} {c : Code} {A : Nat → Prop} {D : va_G} {Q : State → Prop} (h k : Nat → Nat) (ho : Nat) (cI cJ : ClassId) {b L : Nat} {xs : Nat → Int32} (C : gC p l s m args meth c A D [(cI, .int), (cJ, .long)] 7 RL cL_law wsL_law) (hX : va_X b L xs s s.heap) (hbl : b < s.heap.size) (hbA : ¬ A b) (RET : ∀ (ws : va_W) (lvs : List (Nat × Value)) (K N : Nat), K ≤ 601024 → N ≤ 7293034 → gV p l e room_1 s m args below meth c A D 7 Q ws lvs K N 1473 [.int 1]) : ∀ (n : Nat), n ≤ 600 → ∀ (v4 : Int32) (lc : Int32) (la : Int32) (hr : Int32) (uP : Int32) (uC : Int32) (uR : Int32) (tn : Int32) (pn : Int32) (pg : Int32) (pq : Int32) (rl : Nat → Int32) (sr : Nat → Int32) (gcb : Nat → Int32) (gpb : Nat → Int64) (tg : Nat → Int32) (tm : Nat → Int32) (tl : Nat → Int32) (pm : Nat → Int32) (ps : Nat → Int32) (th : Int32) (mP : Int32) (mC : Int32) (mR : Int32) (mal : Int32) (mhd : Int32) (mn : Int32) (mg : Nat → Int32) (mt : Nat → Int32) (mh : Nat → Int32) (mz : Nat → Int32) (mset : Nat → Int32) (mfr : Nat → Int32) (mma : Nat → Int32) (mde : Nat → Int32) (mls : Nat → Int32) (ov : Nat → Int64), pf_law_L L xs n v4 lc la hr uP uC uR tn pn pg pq rl sr gcb gpb tg tm tl pm ps th mP mC mR mal mhd mn mg mt mh mz mset mfr mma mde mls ov = some 1 → gV p l e room_1 s m args below meth c A D 7 Q ((cW h cI cJ lc la hr uP uC uR tn pn pg pq rl sr gcb gpb tg tm tl pm ps) ++ ((mW k cI th mP mC mR mal mhd mn mg mt mh mz mset mfr mma mde mls) ++ (oW ho cJ ov))) [(0, .ref b), (1, .ref (h 0)), (2, .ref (k 0)), (3, .ref ho), (4, .int v4)] (24 + 8 * (600 - n)) (6076 + 48 * (600 - n)) 23 [] := by
  intro n
  induction n with
  | zero => intro _ v4 lc la hr uP uC uR tn pn pg pq rl sr gcb gpb tg tm tl pm ps th mP mC mR mal mhd mn mg mt mh mz mset mfr mma mde mls ov hp; exact g_none hp
  | succ n ih =>
    intro hn v4 lc la hr uP uC uR tn pn pg pq rl sr gcb gpb tg tm tl pm ps th mP mC mR mal mhd mn mg mt mh mz mset mfr mma mde mls ov hp
    rw [pf_law_L.eq_2] at hp
    refine gV_iload C dL_law_23 4 rfl ?_
    refine gV_aload_n C dL_law_25 rfl 0 rfl ?_
    refine gV_slen C hX hbl hbA dL_law_26 ?_
    refine gV_iconst (v := 3) C dL_law_27 rfl ?_
    refine gV_isub C dL_law_28 ?_
    refine gV_icmp_gt (tgt := 1472) C dL_law_29 (by decide) (fun c29 => ?_) (fun c29 => ?_)
    · refine gV_iconst (v := 1) C dL_law_1472 rfl ?_
      exact RET _ _ _ _ (by omega) (by omega)
    · replace hp := g_iff hp c29
      obtain ⟨hi, hp⟩ := g_idx hp
      refine gV_aload_n C dL_law_32 rfl 0 rfl ?_
      refine gV_iload C dL_law_33 4 rfl ?_
      refine gV_sld C hX hbl hbA hi dL_law_35 ?_
      refine gV_bipush (v := 31) C dL_law_36 rfl ?_
      refine gV_iand C dL_law_38 ?_
      have JE : ∀ (lc : Int32) (la : Int32) (hr : Int32) (uP : Int32) (uC : Int32) (uR : Int32) (tn : Int32) (pn : Int32) (pg : Int32) (pq : Int32) (rl : Nat → Int32) (sr : Nat → Int32) (gcb : Nat → Int32) (gpb : Nat → Int64) (tg : Nat → Int32) (tm : Nat → Int32) (tl : Nat → Int32) (pm : Nat → Int32) (ps : Nat → Int32) (th : Int32) (mP : Int32) (mC : Int32) (mR : Int32) (mal : Int32) (mhd : Int32) (mn : Int32) (mg : Nat → Int32) (mt : Nat → Int32) (mh : Nat → Int32) (mz : Nat → Int32) (mset : Nat → Int32) (mfr : Nat → Int32) (mma : Nat → Int32) (mde : Nat → Int32) (mls : Nat → Int32) (ov : Nat → Int64), pf_law_L L xs n (v4 + 3) lc la hr uP uC uR tn pn pg pq rl sr gcb gpb tg tm tl pm ps th mP mC mR mal mhd mn mg mt mh mz mset mfr mma mde mls ov = some 1 → gV p l e room_1 s m args below meth c A D 7 Q ((cW h cI cJ lc la hr uP uC uR tn pn pg pq rl sr gcb gpb tg tm tl pm ps) ++ ((mW k cI th mP mC mR mal mhd mn mg mt mh mz mset mfr mma mde mls) ++ (oW ho cJ ov))) [(0, .ref b), (1, .ref (h 0)), (2, .ref (k 0)), (3, .ref ho), (4, .int v4)] (24 + 8 * (600 - n)) (6076 + 48 * (600 - n)) 1466 [] := by
        intro lc la hr uP uC uR tn pn pg pq rl sr gcb gpb tg tm tl pm ps th mP mC mR mal mhd mn mg mt mh mz mset mfr mma mde mls ov hp
        refine gV_iinc (v := v4 + 3) (lvs' := [(4, .int (v4 + 3)), (0, .ref b), (1, .ref (h 0)), (2, .ref (k 0)), (3, .ref ho)]) C dL_law_1466 4 rfl rfl (by decide) rfl ?_
        refine gV_goto (tgt := 23) C dL_law_1469 (by decide) ?_
        refine gV_loc [1, 2, 3, 4, 0] rfl ?_
        exact ih (by omega) (v4 + 3) lc la hr uP uC uR tn pn pg pq rl sr gcb gpb tg tm tl pm ps th mP mC mR mal mhd mn mg mt mh mz mset mfr mma mde mls ov hp
      unfold pf_law_sw at hp
      by_cases s0 : (xs v4.toNatClampNeg &&& 31) = 0
      · replace hp := g_ift hp s0
        refine gV_tableIn C 0 s0 dL_law_39 (by decide) (by decide) rfl (tgt := 156) (by decide) ?_
        exact mt_law_c0 hl h k ho cI cJ C hX hbl hbA _ _ _ _ _ (by omega) (by omega) (by omega) (by omega) v4 JE lc la hr uP uC uR tn pn pg pq rl sr gcb gpb tg tm tl pm ps th mP mC mR mal mhd mn mg mt mh mz mset mfr mma mde mls ov hp
      replace hp := g_iff hp s0
      by_cases s1 : (xs v4.toNatClampNeg &&& 31) = 1
      · replace hp := g_ift hp s1
        refine gV_tableIn C 1 s1 dL_law_39 (by decide) (by decide) rfl (tgt := 224) (by decide) ?_
        exact mt_law_c1 hl h k ho cI cJ C hX hbl hbA _ _ _ _ _ (by omega) (by omega) (by omega) (by omega) v4 JE lc la hr uP uC uR tn pn pg pq rl sr gcb gpb tg tm tl pm ps th mP mC mR mal mhd mn mg mt mh mz mset mfr mma mde mls ov hp
      replace hp := g_iff hp s1
      by_cases s2 : (xs v4.toNatClampNeg &&& 31) = 2
      · replace hp := g_ift hp s2
        refine gV_tableIn C 2 s2 dL_law_39 (by decide) (by decide) rfl (tgt := 237) (by decide) ?_
        exact mt_law_c2 hl h k ho cI cJ C hX hbl hbA _ _ _ _ _ (by omega) (by omega) (by omega) (by omega) v4 JE lc la hr uP uC uR tn pn pg pq rl sr gcb gpb tg tm tl pm ps th mP mC mR mal mhd mn mg mt mh mz mset mfr mma mde mls ov hp
      replace hp := g_iff hp s2
      by_cases s3 : (xs v4.toNatClampNeg &&& 31) = 3
      · replace hp := g_ift hp s3
        refine gV_tableIn C 3 s3 dL_law_39 (by decide) (by decide) rfl (tgt := 305) (by decide) ?_
        exact mt_law_c3 hl h k ho cI cJ C hX hbl hbA _ _ _ _ _ (by omega) (by omega) (by omega) (by omega) v4 JE lc la hr uP uC uR tn pn pg pq rl sr gcb gpb tg tm tl pm ps th mP mC mR mal mhd mn mg mt mh mz mset mfr mma mde mls ov hp
      replace hp := g_iff hp s3
      by_cases s4 : (xs v4.toNatClampNeg &&& 31) = 4
      · replace hp := g_ift hp s4
        refine gV_tableIn C 4 s4 dL_law_39 (by decide) (by decide) rfl (tgt := 373) (by decide) ?_
        exact mt_law_c4 hl h k ho cI cJ C hX hbl hbA _ _ _ _ _ (by omega) (by omega) (by omega) (by omega) v4 JE lc la hr uP uC uR tn pn pg pq rl sr gcb gpb tg tm tl pm ps th mP mC mR mal mhd mn mg mt mh mz mset mfr mma mde mls ov hp
      replace hp := g_iff hp s4
      by_cases s5 : (xs v4.toNatClampNeg &&& 31) = 5
      · replace hp := g_ift hp s5
        refine gV_tableIn C 5 s5 dL_law_39 (by decide) (by decide) rfl (tgt := 429) (by decide) ?_
        exact mt_law_c5 hl h k ho cI cJ C hX hbl hbA _ _ _ _ _ (by omega) (by omega) (by omega) (by omega) v4 JE lc la hr uP uC uR tn pn pg pq rl sr gcb gpb tg tm tl pm ps th mP mC mR mal mhd mn mg mt mh mz mset mfr mma mde mls ov hp
      replace hp := g_iff hp s5
      by_cases s6 : (xs v4.toNatClampNeg &&& 31) = 6
      · replace hp := g_ift hp s6
        refine gV_tableIn C 6 s6 dL_law_39 (by decide) (by decide) rfl (tgt := 492) (by decide) ?_
        exact mt_law_c6 hl h k ho cI cJ C hX hbl hbA _ _ _ _ _ (by omega) (by omega) (by omega) (by omega) v4 JE lc la hr uP uC uR tn pn pg pq rl sr gcb gpb tg tm tl pm ps th mP mC mR mal mhd mn mg mt mh mz mset mfr mma mde mls ov hp
      replace hp := g_iff hp s6
      by_cases s7 : (xs v4.toNatClampNeg &&& 31) = 7
      · replace hp := g_ift hp s7
        refine gV_tableIn C 7 s7 dL_law_39 (by decide) (by decide) rfl (tgt := 548) (by decide) ?_
        exact mt_law_c7 hl h k ho cI cJ C hX hbl hbA _ _ _ _ _ (by omega) (by omega) (by omega) (by omega) v4 JE lc la hr uP uC uR tn pn pg pq rl sr gcb gpb tg tm tl pm ps th mP mC mR mal mhd mn mg mt mh mz mset mfr mma mde mls ov hp
      replace hp := g_iff hp s7
      by_cases s8 : (xs v4.toNatClampNeg &&& 31) = 8
      · replace hp := g_ift hp s8
        refine gV_tableIn C 8 s8 dL_law_39 (by decide) (by decide) rfl (tgt := 616) (by decide) ?_
        exact mt_law_c8 hl h k ho cI cJ C hX hbl hbA _ _ _ _ _ (by omega) (by omega) (by omega) (by omega) v4 JE lc la hr uP uC uR tn pn pg pq rl sr gcb gpb tg tm tl pm ps th mP mC mR mal mhd mn mg mt mh mz mset mfr mma mde mls ov hp
      replace hp := g_iff hp s8
      by_cases s9 : (xs v4.toNatClampNeg &&& 31) = 9
      · replace hp := g_ift hp s9
        refine gV_tableIn C 9 s9 dL_law_39 (by decide) (by decide) rfl (tgt := 660) (by decide) ?_
        exact mt_law_c9 hl h k ho cI cJ C hX hbl hbA _ _ _ _ _ (by omega) (by omega) (by omega) (by omega) v4 JE lc la hr uP uC uR tn pn pg pq rl sr gcb gpb tg tm tl pm ps th mP mC mR mal mhd mn mg mt mh mz mset mfr mma mde mls ov hp
      replace hp := g_iff hp s9
      by_cases s10 : (xs v4.toNatClampNeg &&& 31) = 10
      · replace hp := g_ift hp s10
        refine gV_tableIn C 10 s10 dL_law_39 (by decide) (by decide) rfl (tgt := 673) (by decide) ?_
        exact mt_law_c10 hl h k ho cI cJ C hX hbl hbA _ _ _ _ _ (by omega) (by omega) (by omega) (by omega) v4 JE lc la hr uP uC uR tn pn pg pq rl sr gcb gpb tg tm tl pm ps th mP mC mR mal mhd mn mg mt mh mz mset mfr mma mde mls ov hp
      replace hp := g_iff hp s10
      by_cases s11 : (xs v4.toNatClampNeg &&& 31) = 11
      · replace hp := g_ift hp s11
        refine gV_tableIn C 11 s11 dL_law_39 (by decide) (by decide) rfl (tgt := 729) (by decide) ?_
        exact mt_law_c11 hl h k ho cI cJ C hX hbl hbA _ _ _ _ _ (by omega) (by omega) (by omega) (by omega) v4 JE lc la hr uP uC uR tn pn pg pq rl sr gcb gpb tg tm tl pm ps th mP mC mR mal mhd mn mg mt mh mz mset mfr mma mde mls ov hp
      replace hp := g_iff hp s11
      by_cases s12 : (xs v4.toNatClampNeg &&& 31) = 12
      · replace hp := g_ift hp s12
        refine gV_tableIn C 12 s12 dL_law_39 (by decide) (by decide) rfl (tgt := 785) (by decide) ?_
        exact mt_law_c12 hl h k ho cI cJ C hX hbl hbA _ _ _ _ _ (by omega) (by omega) (by omega) (by omega) v4 JE lc la hr uP uC uR tn pn pg pq rl sr gcb gpb tg tm tl pm ps th mP mC mR mal mhd mn mg mt mh mz mset mfr mma mde mls ov hp
      replace hp := g_iff hp s12
      by_cases s13 : (xs v4.toNatClampNeg &&& 31) = 13
      · replace hp := g_ift hp s13
        refine gV_tableIn C 13 s13 dL_law_39 (by decide) (by decide) rfl (tgt := 841) (by decide) ?_
        exact mt_law_c13 hl h k ho cI cJ C hX hbl hbA _ _ _ _ _ (by omega) (by omega) (by omega) (by omega) v4 JE lc la hr uP uC uR tn pn pg pq rl sr gcb gpb tg tm tl pm ps th mP mC mR mal mhd mn mg mt mh mz mset mfr mma mde mls ov hp
      replace hp := g_iff hp s13
      by_cases s14 : (xs v4.toNatClampNeg &&& 31) = 14
      · replace hp := g_ift hp s14
        refine gV_tableIn C 14 s14 dL_law_39 (by decide) (by decide) rfl (tgt := 854) (by decide) ?_
        exact mt_law_c14 hl h k ho cI cJ C hX hbl hbA _ _ _ _ _ (by omega) (by omega) (by omega) (by omega) v4 JE lc la hr uP uC uR tn pn pg pq rl sr gcb gpb tg tm tl pm ps th mP mC mR mal mhd mn mg mt mh mz mset mfr mma mde mls ov hp
      replace hp := g_iff hp s14
      by_cases s15 : (xs v4.toNatClampNeg &&& 31) = 15
      · replace hp := g_ift hp s15
        refine gV_tableIn C 15 s15 dL_law_39 (by decide) (by decide) rfl (tgt := 867) (by decide) ?_
        exact mt_law_c15 hl h k ho cI cJ C hX hbl hbA _ _ _ _ _ (by omega) (by omega) (by omega) (by omega) v4 JE lc la hr uP uC uR tn pn pg pq rl sr gcb gpb tg tm tl pm ps th mP mC mR mal mhd mn mg mt mh mz mset mfr mma mde mls ov hp
      replace hp := g_iff hp s15
      by_cases s16 : (xs v4.toNatClampNeg &&& 31) = 16
      · replace hp := g_ift hp s16
        refine gV_tableIn C 16 s16 dL_law_39 (by decide) (by decide) rfl (tgt := 930) (by decide) ?_
        exact mt_law_c16 hl h k ho cI cJ C hX hbl hbA _ _ _ _ _ (by omega) (by omega) (by omega) (by omega) v4 JE lc la hr uP uC uR tn pn pg pq rl sr gcb gpb tg tm tl pm ps th mP mC mR mal mhd mn mg mt mh mz mset mfr mma mde mls ov hp
      replace hp := g_iff hp s16
      by_cases s17 : (xs v4.toNatClampNeg &&& 31) = 17
      · replace hp := g_ift hp s17
        refine gV_tableIn C 17 s17 dL_law_39 (by decide) (by decide) rfl (tgt := 986) (by decide) ?_
        exact mt_law_c17 hl h k ho cI cJ C hX hbl hbA _ _ _ _ _ (by omega) (by omega) (by omega) (by omega) v4 JE lc la hr uP uC uR tn pn pg pq rl sr gcb gpb tg tm tl pm ps th mP mC mR mal mhd mn mg mt mh mz mset mfr mma mde mls ov hp
      replace hp := g_iff hp s17
      by_cases s18 : (xs v4.toNatClampNeg &&& 31) = 18
      · replace hp := g_ift hp s18
        refine gV_tableIn C 18 s18 dL_law_39 (by decide) (by decide) rfl (tgt := 1042) (by decide) ?_
        exact mt_law_c18 hl h k ho cI cJ C hX hbl hbA _ _ _ _ _ (by omega) (by omega) (by omega) (by omega) v4 JE lc la hr uP uC uR tn pn pg pq rl sr gcb gpb tg tm tl pm ps th mP mC mR mal mhd mn mg mt mh mz mset mfr mma mde mls ov hp
      replace hp := g_iff hp s18
      by_cases s19 : (xs v4.toNatClampNeg &&& 31) = 19
      · replace hp := g_ift hp s19
        refine gV_tableIn C 19 s19 dL_law_39 (by decide) (by decide) rfl (tgt := 1110) (by decide) ?_
        exact mt_law_c19 hl h k ho cI cJ C hX hbl hbA _ _ _ _ _ (by omega) (by omega) (by omega) (by omega) v4 JE lc la hr uP uC uR tn pn pg pq rl sr gcb gpb tg tm tl pm ps th mP mC mR mal mhd mn mg mt mh mz mset mfr mma mde mls ov hp
      replace hp := g_iff hp s19
      by_cases s20 : (xs v4.toNatClampNeg &&& 31) = 20
      · replace hp := g_ift hp s20
        refine gV_tableIn C 20 s20 dL_law_39 (by decide) (by decide) rfl (tgt := 1178) (by decide) ?_
        exact mt_law_c20 hl h k ho cI cJ C hX hbl hbA _ _ _ _ _ (by omega) (by omega) (by omega) (by omega) v4 JE lc la hr uP uC uR tn pn pg pq rl sr gcb gpb tg tm tl pm ps th mP mC mR mal mhd mn mg mt mh mz mset mfr mma mde mls ov hp
      replace hp := g_iff hp s20
      by_cases s21 : (xs v4.toNatClampNeg &&& 31) = 21
      · replace hp := g_ift hp s21
        refine gV_tableIn C 21 s21 dL_law_39 (by decide) (by decide) rfl (tgt := 1234) (by decide) ?_
        exact mt_law_c21 hl h k ho cI cJ C hX hbl hbA _ _ _ _ _ (by omega) (by omega) (by omega) (by omega) v4 JE lc la hr uP uC uR tn pn pg pq rl sr gcb gpb tg tm tl pm ps th mP mC mR mal mhd mn mg mt mh mz mset mfr mma mde mls ov hp
      replace hp := g_iff hp s21
      by_cases s22 : (xs v4.toNatClampNeg &&& 31) = 22
      · replace hp := g_ift hp s22
        refine gV_tableIn C 22 s22 dL_law_39 (by decide) (by decide) rfl (tgt := 1290) (by decide) ?_
        exact mt_law_c22 hl h k ho cI cJ C hX hbl hbA _ _ _ _ _ (by omega) (by omega) (by omega) (by omega) v4 JE lc la hr uP uC uR tn pn pg pq rl sr gcb gpb tg tm tl pm ps th mP mC mR mal mhd mn mg mt mh mz mset mfr mma mde mls ov hp
      replace hp := g_iff hp s22
      by_cases s23 : (xs v4.toNatClampNeg &&& 31) = 23
      · replace hp := g_ift hp s23
        refine gV_tableIn C 23 s23 dL_law_39 (by decide) (by decide) rfl (tgt := 1346) (by decide) ?_
        exact mt_law_c23 hl h k ho cI cJ C hX hbl hbA _ _ _ _ _ (by omega) (by omega) (by omega) (by omega) v4 JE lc la hr uP uC uR tn pn pg pq rl sr gcb gpb tg tm tl pm ps th mP mC mR mal mhd mn mg mt mh mz mset mfr mma mde mls ov hp
      replace hp := g_iff hp s23
      by_cases s24 : (xs v4.toNatClampNeg &&& 31) = 24
      · replace hp := g_ift hp s24
        refine gV_tableIn C 24 s24 dL_law_39 (by decide) (by decide) rfl (tgt := 1390) (by decide) ?_
        exact mt_law_c24 hl h k ho cI cJ C hX hbl hbA _ _ _ _ _ (by omega) (by omega) (by omega) (by omega) v4 JE lc la hr uP uC uR tn pn pg pq rl sr gcb gpb tg tm tl pm ps th mP mC mR mal mhd mn mg mt mh mz mset mfr mma mde mls ov hp
      replace hp := g_iff hp s24
      by_cases s25 : (xs v4.toNatClampNeg &&& 31) = 25
      · replace hp := g_ift hp s25
        refine gV_tableIn C 25 s25 dL_law_39 (by decide) (by decide) rfl (tgt := 1403) (by decide) ?_
        exact mt_law_c25 hl h k ho cI cJ C hX hbl hbA _ _ _ _ _ (by omega) (by omega) (by omega) (by omega) v4 JE lc la hr uP uC uR tn pn pg pq rl sr gcb gpb tg tm tl pm ps th mP mC mR mal mhd mn mg mt mh mz mset mfr mma mde mls ov hp
      replace hp := g_iff hp s25
      refine gV_tableOut C dL_law_39 (g_swout s0 s1 s2 s3 s4 s5 s6 s7 s8 s9 s10 s11 s12 s13 s14 s15 s16 s17 s18 s19 s20 s21 s22 s23 s24 s25) (tgt := 1466) (by decide) ?_
      refine gV_widen (k' := (24 + 8 * (600 - n))) (n' := (6076 + 48 * (600 - n))) (by omega) (by omega) ?_
      exact JE lc la hr uP uC uR tn pn pg pq rl sr gcb gpb tg tm tl pm ps th mP mC mR mal mhd mn mg mt mh mz mset mfr mma mde mls ov hp

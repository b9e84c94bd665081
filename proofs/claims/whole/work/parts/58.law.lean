theorem law_c17 {L i : Nat} {xs : Nat → Int32} {kL : KL} {lc : Int32} {la : Int32} {hr : Int32} {uP : Int32} {uC : Int32} {uR : Int32} {tn : Int32} {pn : Int32} {pg : Int32} {pq : Int32} {rl : Nat → Int32} {sr : Nat → Int32} {gcb : Nat → Int32} {gpb : Nat → Int64} {tg : Nat → Int32} {tm : Nat → Int32} {tl : Nat → Int32} {pm : Nat → Int32} {ps : Nat → Int32} {th : Int32} {mP : Int32} {mC : Int32} {mR : Int32} {mal : Int32} {mhd : Int32} {mn : Int32} {mg : Nat → Int32} {mt : Nat → Int32} {mh : Nat → Int32} {mz : Nat → Int32} {mset : Nat → Int32} {mfr : Nat → Int32} {mma : Nat → Int32} {mde : Nat → Int32} {mls : Nat → Int32} {ov : Nat → Int64} (hi : i + 2 < L) (hL : L ≤ 1536) (hI : LInv lc la hr uP uC uR tn rl gcb gpb tg tm tl mP mC mR mal mhd mn mg mt) (hk : HK kL) : pf_law_c17 kL L xs (nI i) lc la hr uP uC uR tn pn pg pq rl sr gcb gpb tg tm tl pm ps th mP mC mR mal mhd mn mg mt mh mz mset mfr mma mde mls ov = some 1 := by
  have hI0 := hI
  obtain ⟨P, C, n, al, eg, em, hV, hE, ha, hh, rfl, rfl, rfl, rfl, rfl, rfl, hLs, hG, hTE, hLB, rfl, rfl, rfl, rfl, rfl, rfl, hME⟩ := hI
  have hR := hV.2.2.2.2
  have hR2 := R2 hV
  have hP := hV.2.1
  have hn := hE.1
  have hcl := cl_le (still P C n al eg em) (C ^ P)
  rcases row_cases (C ^ P) (xs (i + 1)) with ⟨a, a1, ea⟩ | a1
  · obtain ⟨A, pn1, pg1, pq1, pm1, ps1, mh1, mz1, ms1, e1, e2⟩ := q_parts (al := al) th pn pg pq pm ps mh mz mset hV hG hE ha hME hLs a1
    simp (disch := omega) only [g_lit, nI_add, pk_mul, pk_div, g_sdm, pk_sub, g_clamp, ile_t, ile_f, ilt_t, ilt_f, ieq_t, ieq_f, ieq_r, gi_t, gd_t, gz0, gz1, gl_x, ob0_some, ob1_some, ob2_some, ob3_some, ob4_some, ob5_some, ob6_some, ob7_some, ob8_some, ob9_some, ob10_some, ob11_some, ob12_some, ob13_some, ea, e1, e2, pf_law_c17_j1039, pf_law_c17, pf_L_parts, lg_same, if_true, pf_X4_thrown, nn10, nn20, nn30, nn21, nn31, nn32, if_false, t64_0, t64_1]
    exact hk _ _ _ _ _ _ _ _ _ _ _ _ _ _ _ _ _ _ _ _ _ _ _ _ _ _ _ _ _ _ _ _ _ _ _ _ hI0
  · have e1 := s_asks_f (al := al) (n := n) (mg := mg) (mt := mt) th mh mz mset hV a1
    simp (disch := omega) only [g_lit, nI_add, pk_mul, pk_div, g_sdm, pk_sub, g_clamp, ile_t, ile_f, ilt_t, ilt_f, ieq_t, ieq_f, ieq_r, gi_t, gd_t, gz0, gz1, gl_x, ob0_some, ob1_some, ob2_some, ob3_some, ob4_some, ob5_some, ob6_some, ob7_some, ob8_some, ob9_some, ob10_some, ob11_some, ob12_some, ob13_some, rrow_f hV a1, e1, pf_law_c17_j1039, pf_law_c17, pf_L_parts, pf_X3_parts, pf_X4_parts_j16, pf_X4_parts, lg_same, if_true, pf_X4_thrown, nn10, nn20, nn30, nn21, nn31, nn32, if_false, t64_0, t64_1]
    exact hk _ _ _ _ _ _ _ _ _ _ _ _ _ _ _ _ _ _ _ _ _ _ _ _ _ _ _ _ _ _ _ _ _ _ _ _ hI0
theorem law_c20 {L i : Nat} {xs : Nat → Int32} {kL : KL} {lc : Int32} {la : Int32} {hr : Int32} {uP : Int32} {uC : Int32} {uR : Int32} {tn : Int32} {pn : Int32} {pg : Int32} {pq : Int32} {rl : Nat → Int32} {sr : Nat → Int32} {gcb : Nat → Int32} {gpb : Nat → Int64} {tg : Nat → Int32} {tm : Nat → Int32} {tl : Nat → Int32} {pm : Nat → Int32} {ps : Nat → Int32} {th : Int32} {mP : Int32} {mC : Int32} {mR : Int32} {mal : Int32} {mhd : Int32} {mn : Int32} {mg : Nat → Int32} {mt : Nat → Int32} {mh : Nat → Int32} {mz : Nat → Int32} {mset : Nat → Int32} {mfr : Nat → Int32} {mma : Nat → Int32} {mde : Nat → Int32} {mls : Nat → Int32} {ov : Nat → Int64} (hi : i + 2 < L) (hL : L ≤ 1536) (hI : LInv lc la hr uP uC uR tn rl gcb gpb tg tm tl mP mC mR mal mhd mn mg mt) (hk : HK kL) : pf_law_c20 kL L xs (nI i) lc la hr uP uC uR tn pn pg pq rl sr gcb gpb tg tm tl pm ps th mP mC mR mal mhd mn mg mt mh mz mset mfr mma mde mls ov = some 1 := by
  have hI0 := hI
  obtain ⟨P, C, n, al, eg, em, hV, hE, ha, hh, rfl, rfl, rfl, rfl, rfl, rfl, hLs, hG, hTE, hLB, rfl, rfl, rfl, rfl, rfl, rfl, hME⟩ := hI
  have hR := hV.2.2.2.2
  have hR2 := R2 hV
  have hP := hV.2.1
  have hn := hE.1
  have hcl := cl_le (still P C n al eg em) (C ^ P)
  rcases row_cases (C ^ P) (xs (i + 1)) with ⟨a, a1, ea⟩ | a1
  · obtain ⟨A, pn1, pg1, pq1, pm1, ps1, mh1, mz1, ms1, e1, e2⟩ := q_worst (al := al) th pn pg pq pm ps mh mz mset hV hG hE ha hME hLs a1
    simp (disch := omega) only [g_lit, nI_add, pk_mul, pk_div, g_sdm, pk_sub, g_clamp, ile_t, ile_f, ilt_t, ilt_f, ieq_t, ieq_f, ieq_r, gi_t, gd_t, gz0, gz1, gl_x, ob0_some, ob1_some, ob2_some, ob3_some, ob4_some, ob5_some, ob6_some, ob7_some, ob8_some, ob9_some, ob10_some, ob11_some, ob12_some, ob13_some, ea, e1, e2, pf_law_c20_j1231, pf_law_c20, pf_L_worstCase, lg_same, if_true, pf_X4_thrown, nn10, nn20, nn30, nn21, nn31, nn32, if_false, t64_0, t64_1]
    exact hk _ _ _ _ _ _ _ _ _ _ _ _ _ _ _ _ _ _ _ _ _ _ _ _ _ _ _ _ _ _ _ _ _ _ _ _ hI0
  · have e1 := s_asks_f (al := al) (n := n) (mg := mg) (mt := mt) th mh mz mset hV a1
    simp (disch := omega) only [g_lit, nI_add, pk_mul, pk_div, g_sdm, pk_sub, g_clamp, ile_t, ile_f, ilt_t, ilt_f, ieq_t, ieq_f, ieq_r, gi_t, gd_t, gz0, gz1, gl_x, ob0_some, ob1_some, ob2_some, ob3_some, ob4_some, ob5_some, ob6_some, ob7_some, ob8_some, ob9_some, ob10_some, ob11_some, ob12_some, ob13_some, rrow_f hV a1, e1, pf_law_c20_j1231, pf_law_c20, pf_L_worstCase, pf_X3_worstCase, pf_X4_worstCase_j16, pf_X4_worstCase, lg_same, if_true, pf_X4_thrown, nn10, nn20, nn30, nn21, nn31, nn32, if_false, t64_0, t64_1]
    exact hk _ _ _ _ _ _ _ _ _ _ _ _ _ _ _ _ _ _ _ _ _ _ _ _ _ _ _ _ _ _ _ _ _ _ _ _ hI0
theorem law_c21 {L i : Nat} {xs : Nat → Int32} {kL : KL} {lc : Int32} {la : Int32} {hr : Int32} {uP : Int32} {uC : Int32} {uR : Int32} {tn : Int32} {pn : Int32} {pg : Int32} {pq : Int32} {rl : Nat → Int32} {sr : Nat → Int32} {gcb : Nat → Int32} {gpb : Nat → Int64} {tg : Nat → Int32} {tm : Nat → Int32} {tl : Nat → Int32} {pm : Nat → Int32} {ps : Nat → Int32} {th : Int32} {mP : Int32} {mC : Int32} {mR : Int32} {mal : Int32} {mhd : Int32} {mn : Int32} {mg : Nat → Int32} {mt : Nat → Int32} {mh : Nat → Int32} {mz : Nat → Int32} {mset : Nat → Int32} {mfr : Nat → Int32} {mma : Nat → Int32} {mde : Nat → Int32} {mls : Nat → Int32} {ov : Nat → Int64} (hi : i + 2 < L) (hL : L ≤ 1536) (hI : LInv lc la hr uP uC uR tn rl gcb gpb tg tm tl mP mC mR mal mhd mn mg mt) (hk : HK kL) : pf_law_c21 kL L xs (nI i) lc la hr uP uC uR tn pn pg pq rl sr gcb gpb tg tm tl pm ps th mP mC mR mal mhd mn mg mt mh mz mset mfr mma mde mls ov = some 1 := by
  have hI0 := hI
  obtain ⟨P, C, n, al, eg, em, hV, hE, ha, hh, rfl, rfl, rfl, rfl, rfl, rfl, hLs, hG, hTE, hLB, rfl, rfl, rfl, rfl, rfl, rfl, hME⟩ := hI
  have hR := hV.2.2.2.2
  have hR2 := R2 hV
  have hP := hV.2.1
  have hn := hE.1
  have hcl := cl_le (still P C n al eg em) (C ^ P)
  rcases row_cases (C ^ P) (xs (i + 1)) with ⟨a, a1, ea⟩ | a1
  · obtain ⟨A, pn1, pg1, pq1, pm1, ps1, mh1, mz1, ms1, e1, e2⟩ := q_weight (al := al) th pn pg pq pm ps mh mz mset hV hG hE ha hME hLs a1
    simp (disch := omega) only [g_lit, nI_add, pk_mul, pk_div, g_sdm, pk_sub, g_clamp, ile_t, ile_f, ilt_t, ilt_f, ieq_t, ieq_f, ieq_r, gi_t, gd_t, gz0, gz1, gl_x, ob0_some, ob1_some, ob2_some, ob3_some, ob4_some, ob5_some, ob6_some, ob7_some, ob8_some, ob9_some, ob10_some, ob11_some, ob12_some, ob13_some, ea, e1, e2, pf_law_c21_j1287, pf_law_c21, pf_L_weight, lg_same, if_true, pf_X4_thrown, nn10, nn20, nn30, nn21, nn31, nn32, if_false, t64_0, t64_1]
    exact hk _ _ _ _ _ _ _ _ _ _ _ _ _ _ _ _ _ _ _ _ _ _ _ _ _ _ _ _ _ _ _ _ _ _ _ _ hI0
  · have e1 := s_asks_f (al := al) (n := n) (mg := mg) (mt := mt) th mh mz mset hV a1
    simp (disch := omega) only [g_lit, nI_add, pk_mul, pk_div, g_sdm, pk_sub, g_clamp, ile_t, ile_f, ilt_t, ilt_f, ieq_t, ieq_f, ieq_r, gi_t, gd_t, gz0, gz1, gl_x, ob0_some, ob1_some, ob2_some, ob3_some, ob4_some, ob5_some, ob6_some, ob7_some, ob8_some, ob9_some, ob10_some, ob11_some, ob12_some, ob13_some, rrow_f hV a1, e1, pf_law_c21_j1287, pf_law_c21, pf_L_weight, pf_X3_weight, pf_X4_weight_j16, pf_X4_weight, lg_same, if_true, pf_X4_thrown, nn10, nn20, nn30, nn21, nn31, nn32, if_false, t64_0, t64_1]
    exact hk _ _ _ _ _ _ _ _ _ _ _ _ _ _ _ _ _ _ _ _ _ _ _ _ _ _ _ _ _ _ _ _ _ _ _ _ hI0
theorem law_c18 {L i : Nat} {xs : Nat → Int32} {kL : KL} {lc : Int32} {la : Int32} {hr : Int32} {uP : Int32} {uC : Int32} {uR : Int32} {tn : Int32} {pn : Int32} {pg : Int32} {pq : Int32} {rl : Nat → Int32} {sr : Nat → Int32} {gcb : Nat → Int32} {gpb : Nat → Int64} {tg : Nat → Int32} {tm : Nat → Int32} {tl : Nat → Int32} {pm : Nat → Int32} {ps : Nat → Int32} {th : Int32} {mP : Int32} {mC : Int32} {mR : Int32} {mal : Int32} {mhd : Int32} {mn : Int32} {mg : Nat → Int32} {mt : Nat → Int32} {mh : Nat → Int32} {mz : Nat → Int32} {mset : Nat → Int32} {mfr : Nat → Int32} {mma : Nat → Int32} {mde : Nat → Int32} {mls : Nat → Int32} {ov : Nat → Int64} (hi : i + 2 < L) (hL : L ≤ 1536) (hI : LInv lc la hr uP uC uR tn rl gcb gpb tg tm tl mP mC mR mal mhd mn mg mt) (hk : HK kL) : pf_law_c18 kL L xs (nI i) lc la hr uP uC uR tn pn pg pq rl sr gcb gpb tg tm tl pm ps th mP mC mR mal mhd mn mg mt mh mz mset mfr mma mde mls ov = some 1 := by
  have hI0 := hI
  obtain ⟨P, C, n, al, eg, em, hV, hE, ha, hh, rfl, rfl, rfl, rfl, rfl, rfl, hLs, hG, hTE, hLB, rfl, rfl, rfl, rfl, rfl, rfl, hME⟩ := hI
  have hR := hV.2.2.2.2
  have hR2 := R2 hV
  have hP := hV.2.1
  have hn := hE.1
  have hcl := cl_le (still P C n al eg em) (C ^ P)
  rcases row_cases (C ^ P) (xs (i + 1)) with ⟨a, a1, ea⟩ | a1
  · obtain ⟨pn1, pg1, pq1, pm1, ps1, mh1, mz1, ms1, h⟩ := q_pmark (al := al) th pn pg pq (xs (i + 2)) pm ps mh mz mset hV hG hE ha hME hLs a1
    rcases h with ⟨A, e1, e2⟩ | ⟨e1, e2⟩
    · simp (disch := omega) only [g_lit, nI_add, pk_mul, pk_div, g_sdm, pk_sub, g_clamp, ile_t, ile_f, ilt_t, ilt_f, ieq_t, ieq_f, ieq_r, gi_t, gd_t, gz0, gz1, gl_x, ob0_some, ob1_some, ob2_some, ob3_some, ob4_some, ob5_some, ob6_some, ob7_some, ob8_some, ob9_some, ob10_some, ob11_some, ob12_some, ob13_some, ea, e1, e2, pf_law_c18_j1107, pf_law_c18, pf_L_partMark, lg_same, if_true, pf_X4_thrown, nn10, nn20, nn30, nn21, nn31, nn32, if_false, t64_0, t64_1]
      exact hk _ _ _ _ _ _ _ _ _ _ _ _ _ _ _ _ _ _ _ _ _ _ _ _ _ _ _ _ _ _ _ _ _ _ _ _ hI0
    · simp (disch := omega) only [g_lit, nI_add, pk_mul, pk_div, g_sdm, pk_sub, g_clamp, ile_t, ile_f, ilt_t, ilt_f, ieq_t, ieq_f, ieq_r, gi_t, gd_t, gz0, gz1, gl_x, ob0_some, ob1_some, ob2_some, ob3_some, ob4_some, ob5_some, ob6_some, ob7_some, ob8_some, ob9_some, ob10_some, ob11_some, ob12_some, ob13_some, ea, e1, e2, pf_law_c18_j1107, pf_law_c18, pf_L_partMark, lg_same, if_true, pf_X4_thrown, nn10, nn20, nn30, nn21, nn31, nn32, if_false, t64_0, t64_1]
      exact hk _ _ _ _ _ _ _ _ _ _ _ _ _ _ _ _ _ _ _ _ _ _ _ _ _ _ _ _ _ _ _ _ _ _ _ _ hI0
  · have e1 := s_asks_f (al := al) (n := n) (mg := mg) (mt := mt) th mh mz mset hV a1
    have e2 : pf_L_partMark (nI (cl (still P C n al eg em) (C ^ P))) (nI P) (nI (C ^ P)) pn pg pq rl gcb gpb pm ps ov (xs (i + 1)) (xs (i + 2)) = some (nI 1, pn, pg, pq, pm, ps, ov) := by simp (disch := omega) only [g_lit, nI_add, pk_mul, pk_div, g_sdm, pk_sub, g_clamp, ile_t, ile_f, ilt_t, ilt_f, ieq_t, ieq_f, ieq_r, gi_t, gd_t, gz0, gz1, gl_x, ob0_some, ob1_some, ob2_some, ob3_some, ob4_some, ob5_some, ob6_some, ob7_some, ob8_some, ob9_some, ob10_some, ob11_some, ob12_some, ob13_some, rrow_f hV a1, pf_L_partMark, pf_X3_partMark, lg_same, if_true, pf_X4_thrown, nn10, nn20, nn30, nn21, nn31, nn32, if_false, t64_0, t64_1]
    have e3 : pf_X4_partMark th (nI P) (nI C) (nI (C ^ P)) (nI al) (nI n) mg mt mh mz mset (xs (i + 1)) (xs (i + 2)) = some (nI 0, nI 1, mh, mz, mset) := by
      unfold pf_X4_partMark
      refine (ob5_e e1).trans ?_
      exact if_pos rfl
    simp (disch := omega) only [g_lit, nI_add, pk_mul, pk_div, g_sdm, pk_sub, g_clamp, ile_t, ile_f, ilt_t, ilt_f, ieq_t, ieq_f, ieq_r, gi_t, gd_t, gz0, gz1, gl_x, ob0_some, ob1_some, ob2_some, ob3_some, ob4_some, ob5_some, ob6_some, ob7_some, ob8_some, ob9_some, ob10_some, ob11_some, ob12_some, ob13_some, e2, e3, pf_law_c18_j1107, pf_law_c18, lg_same, if_true, pf_X4_thrown, nn10, nn20, nn30, nn21, nn31, nn32, if_false, t64_0, t64_1]
    exact hk _ _ _ _ _ _ _ _ _ _ _ _ _ _ _ _ _ _ _ _ _ _ _ _ _ _ _ _ _ _ _ _ _ _ _ _ hI0
theorem law_c19 {L i : Nat} {xs : Nat → Int32} {kL : KL} {lc : Int32} {la : Int32} {hr : Int32} {uP : Int32} {uC : Int32} {uR : Int32} {tn : Int32} {pn : Int32} {pg : Int32} {pq : Int32} {rl : Nat → Int32} {sr : Nat → Int32} {gcb : Nat → Int32} {gpb : Nat → Int64} {tg : Nat → Int32} {tm : Nat → Int32} {tl : Nat → Int32} {pm : Nat → Int32} {ps : Nat → Int32} {th : Int32} {mP : Int32} {mC : Int32} {mR : Int32} {mal : Int32} {mhd : Int32} {mn : Int32} {mg : Nat → Int32} {mt : Nat → Int32} {mh : Nat → Int32} {mz : Nat → Int32} {mset : Nat → Int32} {mfr : Nat → Int32} {mma : Nat → Int32} {mde : Nat → Int32} {mls : Nat → Int32} {ov : Nat → Int64} (hi : i + 2 < L) (hL : L ≤ 1536) (hI : LInv lc la hr uP uC uR tn rl gcb gpb tg tm tl mP mC mR mal mhd mn mg mt) (hk : HK kL) : pf_law_c19 kL L xs (nI i) lc la hr uP uC uR tn pn pg pq rl sr gcb gpb tg tm tl pm ps th mP mC mR mal mhd mn mg mt mh mz mset mfr mma mde mls ov = some 1 := by
  have hI0 := hI
  obtain ⟨P, C, n, al, eg, em, hV, hE, ha, hh, rfl, rfl, rfl, rfl, rfl, rfl, hLs, hG, hTE, hLB, rfl, rfl, rfl, rfl, rfl, rfl, hME⟩ := hI
  have hR := hV.2.2.2.2
  have hR2 := R2 hV
  have hP := hV.2.1
  have hn := hE.1
  have hcl := cl_le (still P C n al eg em) (C ^ P)
  rcases row_cases (C ^ P) (xs (i + 1)) with ⟨a, a1, ea⟩ | a1
  · rcases poss_cases hV (xs (i + 2)) with ⟨m, m1, em, p1, p2⟩ | ⟨p1, p2⟩
    · rw [em] at p1 p2
      obtain ⟨A, pn1, pg1, pq1, pm1, ps1, mh1, mz1, ms1, e1, e2⟩ := q_psize (al := al) th pn pg pq pm ps mh mz mset hV hG hE ha hME hLs a1 m1 p1 p2
      simp (disch := omega) only [g_lit, nI_add, pk_mul, pk_div, g_sdm, pk_sub, g_clamp, ile_t, ile_f, ilt_t, ilt_f, ieq_t, ieq_f, ieq_r, gi_t, gd_t, gz0, gz1, gl_x, ob0_some, ob1_some, ob2_some, ob3_some, ob4_some, ob5_some, ob6_some, ob7_some, ob8_some, ob9_some, ob10_some, ob11_some, ob12_some, ob13_some, ea, em, e1, e2, pf_law_c19_j1175, pf_law_c19, pf_L_partSize, lg_same, if_true, pf_X4_thrown, nn10, nn20, nn30, nn21, nn31, nn32, if_false, t64_0, t64_1]
      exact hk _ _ _ _ _ _ _ _ _ _ _ _ _ _ _ _ _ _ _ _ _ _ _ _ _ _ _ _ _ _ _ _ _ _ _ _ hI0
    · simp (disch := omega) only [g_lit, nI_add, pk_mul, pk_div, g_sdm, pk_sub, g_clamp, ile_t, ile_f, ilt_t, ilt_f, ieq_t, ieq_f, ieq_r, gi_t, gd_t, gz0, gz1, gl_x, ob0_some, ob1_some, ob2_some, ob3_some, ob4_some, ob5_some, ob6_some, ob7_some, ob8_some, ob9_some, ob10_some, ob11_some, ob12_some, ob13_some, ea, rrow_t hV a1, irow_t hV a1, p1, p2, pf_X3_requirePossible, pf_law_c19_j1175, pf_law_c19, pf_L_partSize, pf_X3_partSize, pf_X4_partSize_j54, pf_X4_partSize_j53, pf_X4_partSize_j26, pf_X4_partSize, lg_same, if_true, pf_X4_thrown, nn10, nn20, nn30, nn21, nn31, nn32, if_false, t64_0, t64_1]
      exact hk _ _ _ _ _ _ _ _ _ _ _ _ _ _ _ _ _ _ _ _ _ _ _ _ _ _ _ _ _ _ _ _ _ _ _ _ hI0
  · simp (disch := omega) only [g_lit, nI_add, pk_mul, pk_div, g_sdm, pk_sub, g_clamp, ile_t, ile_f, ilt_t, ilt_f, ieq_t, ieq_f, ieq_r, gi_t, gd_t, gz0, gz1, gl_x, ob0_some, ob1_some, ob2_some, ob3_some, ob4_some, ob5_some, ob6_some, ob7_some, ob8_some, ob9_some, ob10_some, ob11_some, ob12_some, ob13_some, rrow_f hV a1, irow_f hV a1, pf_law_c19_j1175, pf_law_c19, pf_L_partSize, pf_X3_partSize, pf_X4_partSize_j54, pf_X4_partSize_j53, pf_X4_partSize_j26, pf_X4_partSize, lg_same, if_true, pf_X4_thrown, nn10, nn20, nn30, nn21, nn31, nn32, if_false, t64_0, t64_1]
    exact hk _ _ _ _ _ _ _ _ _ _ _ _ _ _ _ _ _ _ _ _ _ _ _ _ _ _ _ _ _ _ _ _ _ _ _ _ hI0
theorem law_c22 {L i : Nat} {xs : Nat → Int32} {kL : KL} {lc : Int32} {la : Int32} {hr : Int32} {uP : Int32} {uC : Int32} {uR : Int32} {tn : Int32} {pn : Int32} {pg : Int32} {pq : Int32} {rl : Nat → Int32} {sr : Nat → Int32} {gcb : Nat → Int32} {gpb : Nat → Int64} {tg : Nat → Int32} {tm : Nat → Int32} {tl : Nat → Int32} {pm : Nat → Int32} {ps : Nat → Int32} {th : Int32} {mP : Int32} {mC : Int32} {mR : Int32} {mal : Int32} {mhd : Int32} {mn : Int32} {mg : Nat → Int32} {mt : Nat → Int32} {mh : Nat → Int32} {mz : Nat → Int32} {mset : Nat → Int32} {mfr : Nat → Int32} {mma : Nat → Int32} {mde : Nat → Int32} {mls : Nat → Int32} {ov : Nat → Int64} (hi : i + 2 < L) (hL : L ≤ 1536) (hI : LInv lc la hr uP uC uR tn rl gcb gpb tg tm tl mP mC mR mal mhd mn mg mt) (hk : HK kL) : pf_law_c22 kL L xs (nI i) lc la hr uP uC uR tn pn pg pq rl sr gcb gpb tg tm tl pm ps th mP mC mR mal mhd mn mg mt mh mz mset mfr mma mde mls ov = some 1 := by
  have hI0 := hI
  obtain ⟨P, C, n, al, eg, em, hV, hE, ha, hh, rfl, rfl, rfl, rfl, rfl, rfl, hLs, hG, hTE, hLB, rfl, rfl, rfl, rfl, rfl, rfl, hME⟩ := hI
  have hR := hV.2.2.2.2
  have hR2 := R2 hV
  have hP := hV.2.1
  have hn := hE.1
  have hcl := cl_le (still P C n al eg em) (C ^ P)
  rcases row_cases 3 (xs (i + 1)) with ⟨a, a1, ea⟩ | a1
  · by_cases q : cl (still P C n al eg em) (C ^ P) = 0
    · obtain ⟨mh1, ms1, e1, e2⟩ := q_best0 (al := al) (rl := rl) (gcb := gcb) (gpb := gpb) th pn pg pq pm ps mh mz mset hV hE ha hME (by omega : a ≤ 2) q
      simp (disch := omega) only [g_lit, nI_add, pk_mul, pk_div, g_sdm, pk_sub, g_clamp, ile_t, ile_f, ilt_t, ilt_f, ieq_t, ieq_f, ieq_r, gi_t, gd_t, gz0, gz1, gl_x, ob0_some, ob1_some, ob2_some, ob3_some, ob4_some, ob5_some, ob6_some, ob7_some, ob8_some, ob9_some, ob10_some, ob11_some, ob12_some, ob13_some, ea, e1, e2, pf_law_c22_j1343, pf_law_c22, pf_L_bestGuess, lg_same, if_true, pf_X4_thrown, nn10, nn20, nn30, nn21, nn31, nn32, if_false, t64_0, t64_1]
      exact hk _ _ _ _ _ _ _ _ _ _ _ _ _ _ _ _ _ _ _ _ _ _ _ _ _ _ _ _ _ _ _ _ _ _ _ _ hI0
    · obtain ⟨A, pn1, pg1, pq1, pm1, ps1, mh1, mz1, ms1, e1, e2⟩ := q_best (al := al) th pn pg pq pm ps mh mz mset hV hG hE ha hME hLs (by omega : a ≤ 2) q
      simp (disch := omega) only [g_lit, nI_add, pk_mul, pk_div, g_sdm, pk_sub, g_clamp, ile_t, ile_f, ilt_t, ilt_f, ieq_t, ieq_f, ieq_r, gi_t, gd_t, gz0, gz1, gl_x, ob0_some, ob1_some, ob2_some, ob3_some, ob4_some, ob5_some, ob6_some, ob7_some, ob8_some, ob9_some, ob10_some, ob11_some, ob12_some, ob13_some, ea, e1, e2, pf_law_c22_j1343, pf_law_c22, pf_L_bestGuess, lg_same, if_true, pf_X4_thrown, nn10, nn20, nn30, nn21, nn31, nn32, if_false, t64_0, t64_1]
      exact hk _ _ _ _ _ _ _ _ _ _ _ _ _ _ _ _ _ _ _ _ _ _ _ _ _ _ _ _ _ _ _ _ _ _ _ _ hI0
  · obtain ⟨mh1, ms1, e1, e2⟩ := q_bestf (al := al) (rl := rl) (gcb := gcb) (gpb := gpb) (lc := nI (cl (still P C n al eg em) (C ^ P))) th pn pg pq pm ps mh mz mset hV hE ha hME a1
    simp (disch := omega) only [g_lit, nI_add, pk_mul, pk_div, g_sdm, pk_sub, g_clamp, ile_t, ile_f, ilt_t, ilt_f, ieq_t, ieq_f, ieq_r, gi_t, gd_t, gz0, gz1, gl_x, ob0_some, ob1_some, ob2_some, ob3_some, ob4_some, ob5_some, ob6_some, ob7_some, ob8_some, ob9_some, ob10_some, ob11_some, ob12_some, ob13_some, e1, e2, pf_law_c22_j1343, pf_law_c22, pf_L_bestGuess, lg_same, if_true, pf_X4_thrown, nn10, nn20, nn30, nn21, nn31, nn32, if_false, t64_0, t64_1]
    exact hk _ _ _ _ _ _ _ _ _ _ _ _ _ _ _ _ _ _ _ _ _ _ _ _ _ _ _ _ _ _ _ _ _ _ _ _ hI0
theorem law_c23 {L i : Nat} {xs : Nat → Int32} {kL : KL} {lc : Int32} {la : Int32} {hr : Int32} {uP : Int32} {uC : Int32} {uR : Int32} {tn : Int32} {pn : Int32} {pg : Int32} {pq : Int32} {rl : Nat → Int32} {sr : Nat → Int32} {gcb : Nat → Int32} {gpb : Nat → Int64} {tg : Nat → Int32} {tm : Nat → Int32} {tl : Nat → Int32} {pm : Nat → Int32} {ps : Nat → Int32} {th : Int32} {mP : Int32} {mC : Int32} {mR : Int32} {mal : Int32} {mhd : Int32} {mn : Int32} {mg : Nat → Int32} {mt : Nat → Int32} {mh : Nat → Int32} {mz : Nat → Int32} {mset : Nat → Int32} {mfr : Nat → Int32} {mma : Nat → Int32} {mde : Nat → Int32} {mls : Nat → Int32} {ov : Nat → Int64} (hi : i + 2 < L) (hL : L ≤ 1536) (hI : LInv lc la hr uP uC uR tn rl gcb gpb tg tm tl mP mC mR mal mhd mn mg mt) (hk : HK kL) : pf_law_c23 kL L xs (nI i) lc la hr uP uC uR tn pn pg pq rl sr gcb gpb tg tm tl pm ps th mP mC mR mal mhd mn mg mt mh mz mset mfr mma mde mls ov = some 1 := by
  have hI0 := hI
  obtain ⟨P, C, n, al, eg, em, hV, hE, ha, hh, rfl, rfl, rfl, rfl, rfl, rfl, hLs, hG, hTE, hLB, rfl, rfl, rfl, rfl, rfl, rfl, hME⟩ := hI
  have hR := hV.2.2.2.2
  have hR2 := R2 hV
  have hP := hV.2.1
  have hn := hE.1
  have hcl := cl_le (still P C n al eg em) (C ^ P)
  by_cases q : 1 ≤ cl (still P C n al eg em) (C ^ P) ∧ cl (still P C n al eg em) (C ^ P) ≤ 24
  · obtain ⟨A, pn1, pg1, pq1, sr1, pm1, ps1, mh1, mz1, ms1, mf1, mm1, md1, e1, e2⟩ := q_need (al := al) th pn pg pq sr pm ps mh mz mset mfr mma mde hV hG hE ha hME hLs q.1 q.2
    simp (disch := omega) only [g_lit, nI_add, pk_mul, pk_div, g_sdm, pk_sub, g_clamp, ile_t, ile_f, ilt_t, ilt_f, ieq_t, ieq_f, ieq_r, gi_t, gd_t, gz0, gz1, gl_x, ob0_some, ob1_some, ob2_some, ob3_some, ob4_some, ob5_some, ob6_some, ob7_some, ob8_some, ob9_some, ob10_some, ob11_some, ob12_some, ob13_some, e1, e2, pf_law_c23_j1387, pf_law_c23, pf_L_guessesNeeded, lg_same, if_true, pf_X4_thrown, nn10, nn20, nn30, nn21, nn31, nn32, if_false, t64_0, t64_1]
    exact hk _ _ _ _ _ _ _ _ _ _ _ _ _ _ _ _ _ _ _ _ _ _ _ _ _ _ _ _ _ _ _ _ _ _ _ _ hI0
  · obtain ⟨mh1, ms1, e4, hL2⟩ := s_lays (al := al) mh mset hV hE ha hME
    by_cases q2 : cl (still P C n al eg em) (C ^ P) = 0
    · have e1 : pf_L_guessesNeeded (nI (cl (still P C n al eg em) (C ^ P))) (nI P) (nI (C ^ P)) pn pg pq rl sr gcb gpb pm ps ov = some (nI 1, pn, pg, pq, sr, pm, ps, ov) := by simp (disch := omega) only [g_lit, nI_add, pk_mul, pk_div, g_sdm, pk_sub, g_clamp, ile_t, ile_f, ilt_t, ilt_f, ieq_t, ieq_f, ieq_r, gi_t, gd_t, gz0, gz1, gl_x, ob0_some, ob1_some, ob2_some, ob3_some, ob4_some, ob5_some, ob6_some, ob7_some, ob8_some, ob9_some, ob10_some, ob11_some, ob12_some, ob13_some, pf_L_guessesNeeded, pf_X3_guessesNeeded_j17, pf_X3_guessesNeeded, lg_same, if_true, pf_X4_thrown, nn10, nn20, nn30, nn21, nn31, nn32, if_false, t64_0, t64_1]
      have e2 : pf_X4_guessesNeeded th (nI P) (nI C) (nI (C ^ P)) (nI al) (nI n) mg mt mh mz mset mfr mma mde = some (nI 0, nI 1, mh1, mz, ms1, mfr, mma, mde) := by
        unfold pf_X4_guessesNeeded
        refine (ob3_e e4).trans ?_
        refine (if_pos (by rw [q2]; rfl)).trans ?_
        unfold pf_X4_guessesNeeded_j16 pf_X4_guessesNeeded_j21
        exact if_neg (by decide)
      simp (disch := omega) only [g_lit, nI_add, pk_mul, pk_div, g_sdm, pk_sub, g_clamp, ile_t, ile_f, ilt_t, ilt_f, ieq_t, ieq_f, ieq_r, gi_t, gd_t, gz0, gz1, gl_x, ob0_some, ob1_some, ob2_some, ob3_some, ob4_some, ob5_some, ob6_some, ob7_some, ob8_some, ob9_some, ob10_some, ob11_some, ob12_some, ob13_some, e1, e2, pf_law_c23_j1387, pf_law_c23, lg_same, if_true, pf_X4_thrown, nn10, nn20, nn30, nn21, nn31, nn32, if_false, t64_0, t64_1]
      exact hk _ _ _ _ _ _ _ _ _ _ _ _ _ _ _ _ _ _ _ _ _ _ _ _ _ _ _ _ _ _ _ _ _ _ _ _ hI0
    · have e1 : pf_L_guessesNeeded (nI (cl (still P C n al eg em) (C ^ P))) (nI P) (nI (C ^ P)) pn pg pq rl sr gcb gpb pm ps ov = some (nI 1, pn, pg, pq, sr, pm, ps, ov) := by simp (disch := omega) only [g_lit, nI_add, pk_mul, pk_div, g_sdm, pk_sub, g_clamp, ile_t, ile_f, ilt_t, ilt_f, ieq_t, ieq_f, ieq_r, gi_t, gd_t, gz0, gz1, gl_x, ob0_some, ob1_some, ob2_some, ob3_some, ob4_some, ob5_some, ob6_some, ob7_some, ob8_some, ob9_some, ob10_some, ob11_some, ob12_some, ob13_some, pf_L_guessesNeeded, pf_X3_guessesNeeded_j17, pf_X3_guessesNeeded, lg_same, if_true, pf_X4_thrown, nn10, nn20, nn30, nn21, nn31, nn32, if_false, t64_0, t64_1]
      have e2 : pf_X4_guessesNeeded th (nI P) (nI C) (nI (C ^ P)) (nI al) (nI n) mg mt mh mz mset mfr mma mde = some (nI 0, nI 1, mh1, mz, ms1, mfr, mma, mde) := by
        unfold pf_X4_guessesNeeded
        refine (ob3_e e4).trans ?_
        have g1 : ¬ nI (cl (still P C n al eg em) (C ^ P)) = 0 := fun z => q2 ((nI_eq (b := 0) (by omega) (by omega)).mp z)
        refine (if_neg g1).trans ?_
        have g2 : ¬ nI (cl (still P C n al eg em) (C ^ P)) ≤ nI 24 := nI_ge (by omega) (by omega)
        refine (if_neg g2).trans ?_
        unfold pf_X4_guessesNeeded_j16 pf_X4_guessesNeeded_j21
        exact if_neg (by decide)
      simp (disch := omega) only [g_lit, nI_add, pk_mul, pk_div, g_sdm, pk_sub, g_clamp, ile_t, ile_f, ilt_t, ilt_f, ieq_t, ieq_f, ieq_r, gi_t, gd_t, gz0, gz1, gl_x, ob0_some, ob1_some, ob2_some, ob3_some, ob4_some, ob5_some, ob6_some, ob7_some, ob8_some, ob9_some, ob10_some, ob11_some, ob12_some, ob13_some, e1, e2, pf_law_c23_j1387, pf_law_c23, lg_same, if_true, pf_X4_thrown, nn10, nn20, nn30, nn21, nn31, nn32, if_false, t64_0, t64_1]
      exact hk _ _ _ _ _ _ _ _ _ _ _ _ _ _ _ _ _ _ _ _ _ _ _ _ _ _ _ _ _ _ _ _ _ _ _ _ hI0
theorem law_c24 {L i : Nat} {xs : Nat → Int32} {kL : KL} {lc : Int32} {la : Int32} {hr : Int32} {uP : Int32} {uC : Int32} {uR : Int32} {tn : Int32} {pn : Int32} {pg : Int32} {pq : Int32} {rl : Nat → Int32} {sr : Nat → Int32} {gcb : Nat → Int32} {gpb : Nat → Int64} {tg : Nat → Int32} {tm : Nat → Int32} {tl : Nat → Int32} {pm : Nat → Int32} {ps : Nat → Int32} {th : Int32} {mP : Int32} {mC : Int32} {mR : Int32} {mal : Int32} {mhd : Int32} {mn : Int32} {mg : Nat → Int32} {mt : Nat → Int32} {mh : Nat → Int32} {mz : Nat → Int32} {mset : Nat → Int32} {mfr : Nat → Int32} {mma : Nat → Int32} {mde : Nat → Int32} {mls : Nat → Int32} {ov : Nat → Int64} (hi : i + 2 < L) (hL : L ≤ 1536) (hI : LInv lc la hr uP uC uR tn rl gcb gpb tg tm tl mP mC mR mal mhd mn mg mt) (hk : HK kL) : pf_law_c24 kL L xs (nI i) lc la hr uP uC uR tn pn pg pq rl sr gcb gpb tg tm tl pm ps th mP mC mR mal mhd mn mg mt mh mz mset mfr mma mde mls ov = some 1 := by
  have hI0 := hI
  obtain ⟨P, C, n, al, eg, em, hV, hE, ha, hh, rfl, rfl, rfl, rfl, rfl, rfl, hLs, hG, hTE, hLB, rfl, rfl, rfl, rfl, rfl, rfl, hME⟩ := hI
  have hR := hV.2.2.2.2
  have hR2 := R2 hV
  have hP := hV.2.1
  have hn := hE.1
  have hcl := cl_le (still P C n al eg em) (C ^ P)
  obtain ⟨A, mh1, ml1, e1, e2⟩ := q_psz (al := al) th mh mls hV hE ha hME hLB
  simp (disch := omega) only [g_lit, nI_add, pk_mul, pk_div, g_sdm, pk_sub, g_clamp, ile_t, ile_f, ilt_t, ilt_f, ieq_t, ieq_f, ieq_r, gi_t, gd_t, gz0, gz1, gl_x, ob0_some, ob1_some, ob2_some, ob3_some, ob4_some, ob5_some, ob6_some, ob7_some, ob8_some, ob9_some, ob10_some, ob11_some, ob12_some, ob13_some, e1, e2, pf_law_c24, lg_same, if_true, pf_X4_thrown, nn10, nn20, nn30, nn21, nn31, nn32, if_false, t64_0, t64_1]
  exact hk _ _ _ _ _ _ _ _ _ _ _ _ _ _ _ _ _ _ _ _ _ _ _ _ _ _ _ _ _ _ _ _ _ _ _ _ hI0
theorem law_c25 {L i : Nat} {xs : Nat → Int32} {kL : KL} {lc : Int32} {la : Int32} {hr : Int32} {uP : Int32} {uC : Int32} {uR : Int32} {tn : Int32} {pn : Int32} {pg : Int32} {pq : Int32} {rl : Nat → Int32} {sr : Nat → Int32} {gcb : Nat → Int32} {gpb : Nat → Int64} {tg : Nat → Int32} {tm : Nat → Int32} {tl : Nat → Int32} {pm : Nat → Int32} {ps : Nat → Int32} {th : Int32} {mP : Int32} {mC : Int32} {mR : Int32} {mal : Int32} {mhd : Int32} {mn : Int32} {mg : Nat → Int32} {mt : Nat → Int32} {mh : Nat → Int32} {mz : Nat → Int32} {mset : Nat → Int32} {mfr : Nat → Int32} {mma : Nat → Int32} {mde : Nat → Int32} {mls : Nat → Int32} {ov : Nat → Int64} (hi : i + 2 < L) (hL : L ≤ 1536) (hI : LInv lc la hr uP uC uR tn rl gcb gpb tg tm tl mP mC mR mal mhd mn mg mt) (hk : HK kL) : pf_law_c25 kL L xs (nI i) lc la hr uP uC uR tn pn pg pq rl sr gcb gpb tg tm tl pm ps th mP mC mR mal mhd mn mg mt mh mz mset mfr mma mde mls ov = some 1 := by
  have hI0 := hI
  obtain ⟨P, C, n, al, eg, em, hV, hE, ha, hh, rfl, rfl, rfl, rfl, rfl, rfl, hLs, hG, hTE, hLB, rfl, rfl, rfl, rfl, rfl, rfl, hME⟩ := hI
  have hR := hV.2.2.2.2
  have hR2 := R2 hV
  have hP := hV.2.1
  have hn := hE.1
  have hcl := cl_le (still P C n al eg em) (C ^ P)
  rcases row_cases n (xs (i + 1)) with ⟨a, a1, ea⟩ | a1
  · by_cases q : cl (still P C n al eg em) (C ^ P) = 1
    · obtain ⟨A, mh1, ml1, hA, e1, e2⟩ := q_inp (al := al) th mh mls hV hE ha hME hLB a1 q
      rcases hA with rfl | rfl
      · simp (disch := omega) only [g_lit, nI_add, pk_mul, pk_div, g_sdm, pk_sub, g_clamp, ile_t, ile_f, ilt_t, ilt_f, ieq_t, ieq_f, ieq_r, gi_t, gd_t, gz0, gz1, gl_x, ob0_some, ob1_some, ob2_some, ob3_some, ob4_some, ob5_some, ob6_some, ob7_some, ob8_some, ob9_some, ob10_some, ob11_some, ob12_some, ob13_some, ea, e1, e2, pf_law_c25_j1463, pf_law_c25_j1457, pf_law_c25, pf_L_isInProof_j15, pf_L_isInProof, lg_same, if_true, pf_X4_thrown, nn10, nn20, nn30, nn21, nn31, nn32, if_false, t64_0, t64_1]
        exact hk _ _ _ _ _ _ _ _ _ _ _ _ _ _ _ _ _ _ _ _ _ _ _ _ _ _ _ _ _ _ _ _ _ _ _ _ hI0
      · simp (disch := omega) only [g_lit, nI_add, pk_mul, pk_div, g_sdm, pk_sub, g_clamp, ile_t, ile_f, ilt_t, ilt_f, ieq_t, ieq_f, ieq_r, gi_t, gd_t, gz0, gz1, gl_x, ob0_some, ob1_some, ob2_some, ob3_some, ob4_some, ob5_some, ob6_some, ob7_some, ob8_some, ob9_some, ob10_some, ob11_some, ob12_some, ob13_some, ea, e1, e2, pf_law_c25_j1463, pf_law_c25_j1457, pf_law_c25, pf_L_isInProof_j15, pf_L_isInProof, lg_same, if_true, pf_X4_thrown, nn10, nn20, nn30, nn21, nn31, nn32, if_false, t64_0, t64_1]
        exact hk _ _ _ _ _ _ _ _ _ _ _ _ _ _ _ _ _ _ _ _ _ _ _ _ _ _ _ _ _ _ _ _ _ _ _ _ hI0
    · obtain ⟨mh1, e1, e2⟩ := q_inp2 (al := al) (tl := tl) th mh mls hV hE ha hME a1 q
      simp (disch := omega) only [g_lit, nI_add, pk_mul, pk_div, g_sdm, pk_sub, g_clamp, ile_t, ile_f, ilt_t, ilt_f, ieq_t, ieq_f, ieq_r, gi_t, gd_t, gz0, gz1, gl_x, ob0_some, ob1_some, ob2_some, ob3_some, ob4_some, ob5_some, ob6_some, ob7_some, ob8_some, ob9_some, ob10_some, ob11_some, ob12_some, ob13_some, ea, e1, e2, pf_law_c25_j1463, pf_law_c25_j1457, pf_law_c25, pf_L_isInProof_j15, pf_L_isInProof, lg_same, if_true, pf_X4_thrown, nn10, nn20, nn30, nn21, nn31, nn32, if_false, t64_0, t64_1]
      exact hk _ _ _ _ _ _ _ _ _ _ _ _ _ _ _ _ _ _ _ _ _ _ _ _ _ _ _ _ _ _ _ _ _ _ _ _ hI0
  · obtain ⟨e1, e2⟩ := q_inpf (P := P) (C := C) (al := al) (tl := tl) (mg := mg) (mt := mt) (lc := nI (cl (still P C n al eg em) (C ^ P))) th mh mls hn a1
    simp (disch := omega) only [g_lit, nI_add, pk_mul, pk_div, g_sdm, pk_sub, g_clamp, ile_t, ile_f, ilt_t, ilt_f, ieq_t, ieq_f, ieq_r, gi_t, gd_t, gz0, gz1, gl_x, ob0_some, ob1_some, ob2_some, ob3_some, ob4_some, ob5_some, ob6_some, ob7_some, ob8_some, ob9_some, ob10_some, ob11_some, ob12_some, ob13_some, e1, e2, pf_law_c25_j1463, pf_law_c25_j1457, pf_law_c25, pf_L_isInProof_j15, pf_L_isInProof, lg_same, if_true, pf_X4_thrown, nn10, nn20, nn30, nn21, nn31, nn32, if_false, t64_0, t64_1]
    exact hk _ _ _ _ _ _ _ _ _ _ _ _ _ _ _ _ _ _ _ _ _ _ _ _ _ _ _ _ _ _ _ _ _ _ _ _ hI0

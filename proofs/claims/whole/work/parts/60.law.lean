theorem law_c5 {L i : Nat} {xs : Nat → Int32} {kL : KL} {lc : Int32} {la : Int32} {hr : Int32} {uP : Int32} {uC : Int32} {uR : Int32} {tn : Int32} {pn : Int32} {pg : Int32} {pq : Int32} {rl : Nat → Int32} {sr : Nat → Int32} {gcb : Nat → Int32} {gpb : Nat → Int64} {tg : Nat → Int32} {tm : Nat → Int32} {tl : Nat → Int32} {pm : Nat → Int32} {ps : Nat → Int32} {th : Int32} {mP : Int32} {mC : Int32} {mR : Int32} {mal : Int32} {mhd : Int32} {mn : Int32} {mg : Nat → Int32} {mt : Nat → Int32} {mh : Nat → Int32} {mz : Nat → Int32} {mset : Nat → Int32} {mfr : Nat → Int32} {mma : Nat → Int32} {mde : Nat → Int32} {mls : Nat → Int32} {ov : Nat → Int64} (hi : i + 2 < L) (hL : L ≤ 1536) (hI : LInv lc la hr uP uC uR tn rl gcb gpb tg tm tl mP mC mR mal mhd mn mg mt) (hk : HK kL) : pf_law_c5 kL L xs (nI i) lc la hr uP uC uR tn pn pg pq rl sr gcb gpb tg tm tl pm ps th mP mC mR mal mhd mn mg mt mh mz mset mfr mma mde mls ov = some 1 := by
  have hI0 := hI
  obtain ⟨P, C, n, al, eg, em, hV, hE, ha, hh, rfl, rfl, rfl, rfl, rfl, rfl, hLs, hG, hTE, hLB, rfl, rfl, rfl, rfl, rfl, rfl, hME⟩ := hI
  have hR := hV.2.2.2.2
  have hR2 := R2 hV
  have hP := hV.2.1
  have hn := hE.1
  have hcl := cl_le (still P C n al eg em) (C ^ P)
  rcases row_cases (C ^ P) (xs (i + 1)) with ⟨a, a1, ea⟩ | a1
  · obtain ⟨mh1, e4⟩ := s_isStill (al := al) mh hV hE ha hME a1
    have e5 := s_remains (al := al) hV hn ha a1 hLB
    by_cases q : nl P C eg em n a ≤ al
    · rw [if_pos q] at e4 e5
      rcases hh with rfl | ⟨r, r1, r2, rfl⟩
      · simp (disch := omega) only [g_lit, nI_add, pk_mul, pk_div, g_sdm, pk_sub, g_clamp, ile_t, ile_f, ilt_t, ilt_f, ieq_t, ieq_f, ieq_r, gi_t, gd_t, gz0, gz1, gl_x, ob0_some, ob1_some, ob2_some, ob3_some, ob4_some, ob5_some, ob6_some, ob7_some, ob8_some, ob9_some, ob10_some, ob11_some, ob12_some, ob13_some, ea, rrow_t hV a1, irow_t hV a1, e4, e5, pf_law_c5_j489, pf_law_c5_j483, pf_law_c5, pf_L_hide_j15, pf_L_hide, pf_X3_hide_j36, pf_X3_hide, pf_X4_hide_j51, pf_X4_hide_j26, pf_X4_hide, lg_same, if_true, pf_X4_thrown, nn10, nn20, nn30, nn21, nn31, nn32, if_false, t64_0, t64_1]
        exact hk _ _ _ _ _ _ _ _ _ _ _ _ _ _ _ _ _ _ _ _ _ _ _ _ _ _ _ _ _ _ _ _ _ _ _ _ (⟨P, C, n, al, eg, em, hV, hE, ha, Or.inr ⟨a, a1, q, rfl⟩, rfl, rfl, rfl, rfl, rfl, rfl, hLs, hG, hTE, hLB, rfl, rfl, rfl, rfl, rfl, rfl, hME⟩)
      · have n1 := nI_m1' (by omega : r < 2147483648)
        simp (disch := omega) only [g_lit, nI_add, pk_mul, pk_div, g_sdm, pk_sub, g_clamp, ile_t, ile_f, ilt_t, ilt_f, ieq_t, ieq_f, ieq_r, gi_t, gd_t, gz0, gz1, gl_x, ob0_some, ob1_some, ob2_some, ob3_some, ob4_some, ob5_some, ob6_some, ob7_some, ob8_some, ob9_some, ob10_some, ob11_some, ob12_some, ob13_some, ea, rrow_t hV a1, irow_t hV a1, e4, e5, n1, pf_law_c5_j489, pf_law_c5_j483, pf_law_c5, pf_L_hide_j15, pf_L_hide, pf_X3_hide_j36, pf_X3_hide, pf_X4_hide_j51, pf_X4_hide_j26, pf_X4_hide, lg_same, if_true, pf_X4_thrown, nn10, nn20, nn30, nn21, nn31, nn32, if_false, t64_0, t64_1]
        exact hk _ _ _ _ _ _ _ _ _ _ _ _ _ _ _ _ _ _ _ _ _ _ _ _ _ _ _ _ _ _ _ _ _ _ _ _ (⟨P, C, n, al, eg, em, hV, hE, ha, Or.inr ⟨a, a1, q, rfl⟩, rfl, rfl, rfl, rfl, rfl, rfl, hLs, hG, hTE, hLB, rfl, rfl, rfl, rfl, rfl, rfl, hME⟩)
    · rw [if_neg q] at e4 e5
      simp (disch := omega) only [g_lit, nI_add, pk_mul, pk_div, g_sdm, pk_sub, g_clamp, ile_t, ile_f, ilt_t, ilt_f, ieq_t, ieq_f, ieq_r, gi_t, gd_t, gz0, gz1, gl_x, ob0_some, ob1_some, ob2_some, ob3_some, ob4_some, ob5_some, ob6_some, ob7_some, ob8_some, ob9_some, ob10_some, ob11_some, ob12_some, ob13_some, ea, rrow_t hV a1, irow_t hV a1, e4, e5, pf_law_c5_j489, pf_law_c5_j483, pf_law_c5, pf_L_hide_j15, pf_L_hide, pf_X3_hide_j36, pf_X3_hide, pf_X4_hide_j51, pf_X4_hide_j26, pf_X4_hide, lg_same, if_true, pf_X4_thrown, nn10, nn20, nn30, nn21, nn31, nn32, if_false, t64_0, t64_1]
      exact hk _ _ _ _ _ _ _ _ _ _ _ _ _ _ _ _ _ _ _ _ _ _ _ _ _ _ _ _ _ _ _ _ _ _ _ _ hI0
  · simp (disch := omega) only [g_lit, nI_add, pk_mul, pk_div, g_sdm, pk_sub, g_clamp, ile_t, ile_f, ilt_t, ilt_f, ieq_t, ieq_f, ieq_r, gi_t, gd_t, gz0, gz1, gl_x, ob0_some, ob1_some, ob2_some, ob3_some, ob4_some, ob5_some, ob6_some, ob7_some, ob8_some, ob9_some, ob10_some, ob11_some, ob12_some, ob13_some, rrow_f hV a1, irow_f hV a1, pf_law_c5_j489, pf_law_c5_j483, pf_law_c5, pf_L_hide_j15, pf_L_hide, pf_X3_hide_j36, pf_X3_hide, pf_X4_hide_j51, pf_X4_hide_j26, pf_X4_hide, lg_same, if_true, pf_X4_thrown, nn10, nn20, nn30, nn21, nn31, nn32, if_false, t64_0, t64_1]
    exact hk _ _ _ _ _ _ _ _ _ _ _ _ _ _ _ _ _ _ _ _ _ _ _ _ _ _ _ _ _ _ _ _ _ _ _ _ hI0
theorem law_c6 {L i : Nat} {xs : Nat → Int32} {kL : KL} {lc : Int32} {la : Int32} {hr : Int32} {uP : Int32} {uC : Int32} {uR : Int32} {tn : Int32} {pn : Int32} {pg : Int32} {pq : Int32} {rl : Nat → Int32} {sr : Nat → Int32} {gcb : Nat → Int32} {gpb : Nat → Int64} {tg : Nat → Int32} {tm : Nat → Int32} {tl : Nat → Int32} {pm : Nat → Int32} {ps : Nat → Int32} {th : Int32} {mP : Int32} {mC : Int32} {mR : Int32} {mal : Int32} {mhd : Int32} {mn : Int32} {mg : Nat → Int32} {mt : Nat → Int32} {mh : Nat → Int32} {mz : Nat → Int32} {mset : Nat → Int32} {mfr : Nat → Int32} {mma : Nat → Int32} {mde : Nat → Int32} {mls : Nat → Int32} {ov : Nat → Int64} (hi : i + 2 < L) (hL : L ≤ 1536) (hI : LInv lc la hr uP uC uR tn rl gcb gpb tg tm tl mP mC mR mal mhd mn mg mt) (hk : HK kL) : pf_law_c6 kL L xs (nI i) lc la hr uP uC uR tn pn pg pq rl sr gcb gpb tg tm tl pm ps th mP mC mR mal mhd mn mg mt mh mz mset mfr mma mde mls ov = some 1 := by
  have hI0 := hI
  obtain ⟨P, C, n, al, eg, em, hV, hE, ha, hh, rfl, rfl, rfl, rfl, rfl, rfl, hLs, hG, hTE, hLB, rfl, rfl, rfl, rfl, rfl, rfl, hME⟩ := hI
  have hR := hV.2.2.2.2
  have hR2 := R2 hV
  have hP := hV.2.1
  have hn := hE.1
  have hcl := cl_le (still P C n al eg em) (C ^ P)
  rcases row_cases (C ^ P) (xs (i + 1)) with ⟨a, a1, ea⟩ | a1
  · rcases hh with rfl | ⟨r, r1, r2, rfl⟩
    · simp (disch := omega) only [g_lit, nI_add, pk_mul, pk_div, g_sdm, pk_sub, g_clamp, ile_t, ile_f, ilt_t, ilt_f, ieq_t, ieq_f, ieq_r, gi_t, gd_t, gz0, gz1, gl_x, ob0_some, ob1_some, ob2_some, ob3_some, ob4_some, ob5_some, ob6_some, ob7_some, ob8_some, ob9_some, ob10_some, ob11_some, ob12_some, ob13_some, ea, rrow_t hV a1, irow_t hV a1, pf_law_c6_j545, pf_law_c6, pf_L_guess, pf_X3_guess_j23, pf_X3_guess, pf_X4_guess_j35, pf_X4_guess_j30, pf_X4_guess, lg_same, if_true, pf_X4_thrown, nn10, nn20, nn30, nn21, nn31, nn32, if_false, t64_0, t64_1]
      exact hk _ _ _ _ _ _ _ _ _ _ _ _ _ _ _ _ _ _ _ _ _ _ _ _ _ _ _ _ _ _ _ _ _ _ _ _ hI0
    · have n1 := nI_m1' (by omega : r < 2147483648)
      by_cases hf : n < 10
      · have e1 := q_full hn hf
        have e2 := cmp hV hG a1 r1
        have hm := mk80 hV a r
        obtain ⟨mh1, e3⟩ := mor hV mh a1 r1
        obtain ⟨rl1, tl1, e4, hL1, hB1⟩ := q_add (nI (cl (still P C n al eg em) (C ^ P))) rl tg tm hV hG hf ha a1 (by omega : mk P C a r ≤ 99) hLB
        have e5 := s_madds (g := a) (m := mk P C a r) (mg := mg) (mt := mt) hf
        have hnx := nl_next (P := P) (C := C) (n := n) (g := a) (m := mk P C a r) (h := r) eg em
        rw [if_pos rfl] at hnx
        simp (disch := omega) only [g_lit, nI_add, pk_mul, pk_div, g_sdm, pk_sub, g_clamp, ile_t, ile_f, ilt_t, ilt_f, ieq_t, ieq_f, ieq_r, gi_t, gd_t, gz0, gz1, gl_x, ob0_some, ob1_some, ob2_some, ob3_some, ob4_some, ob5_some, ob6_some, ob7_some, ob8_some, ob9_some, ob10_some, ob11_some, ob12_some, ob13_some, ea, rrow_t hV a1, irow_t hV a1, n1, e1, e2, e3, e4, e5, pf_law_c6_j545, pf_law_c6, pf_L_guess, pf_X3_guess_j23, pf_X3_guess, pf_X4_guess_j35, pf_X4_guess_j30, pf_X4_guess, lg_same, if_true, pf_X4_thrown, nn10, nn20, nn30, nn21, nn31, nn32, if_false, t64_0, t64_1]
        exact hk _ _ _ _ _ _ _ _ _ _ _ _ _ _ _ _ _ _ _ _ _ _ _ _ _ _ _ _ _ _ _ _ _ _ _ _ (⟨P, C, n + 1, al, eup eg n a, eup em n (mk P C a r), hV, ES_up hE hf a1 (by omega), ha, Or.inr ⟨r, r1, by omega, rfl⟩, rfl, rfl, rfl, rfl, rfl, rfl, hL1, hG, ME_up hTE, hB1, rfl, rfl, rfl, rfl, rfl, rfl, ME_up hME⟩)
      · have e : n = 10 := by omega
        subst e
        simp (disch := omega) only [g_lit, nI_add, pk_mul, pk_div, g_sdm, pk_sub, g_clamp, ile_t, ile_f, ilt_t, ilt_f, ieq_t, ieq_f, ieq_r, gi_t, gd_t, gz0, gz1, gl_x, ob0_some, ob1_some, ob2_some, ob3_some, ob4_some, ob5_some, ob6_some, ob7_some, ob8_some, ob9_some, ob10_some, ob11_some, ob12_some, ob13_some, ea, rrow_t hV a1, irow_t hV a1, n1, q_full1, pf_law_c6_j545, pf_law_c6, pf_L_guess, pf_X3_guess_j23, pf_X3_guess, pf_X4_guess_j35, pf_X4_guess_j30, pf_X4_guess, lg_same, if_true, pf_X4_thrown, nn10, nn20, nn30, nn21, nn31, nn32, if_false, t64_0, t64_1]
        exact hk _ _ _ _ _ _ _ _ _ _ _ _ _ _ _ _ _ _ _ _ _ _ _ _ _ _ _ _ _ _ _ _ _ _ _ _ hI0
  · simp (disch := omega) only [g_lit, nI_add, pk_mul, pk_div, g_sdm, pk_sub, g_clamp, ile_t, ile_f, ilt_t, ilt_f, ieq_t, ieq_f, ieq_r, gi_t, gd_t, gz0, gz1, gl_x, ob0_some, ob1_some, ob2_some, ob3_some, ob4_some, ob5_some, ob6_some, ob7_some, ob8_some, ob9_some, ob10_some, ob11_some, ob12_some, ob13_some, rrow_f hV a1, irow_f hV a1, pf_law_c6_j545, pf_law_c6, pf_L_guess, pf_X3_guess_j23, pf_X3_guess, pf_X4_guess_j35, pf_X4_guess_j30, pf_X4_guess, lg_same, if_true, pf_X4_thrown, nn10, nn20, nn30, nn21, nn31, nn32, if_false, t64_0, t64_1]
    exact hk _ _ _ _ _ _ _ _ _ _ _ _ _ _ _ _ _ _ _ _ _ _ _ _ _ _ _ _ _ _ _ _ _ _ _ _ hI0
theorem law_c7 {L i : Nat} {xs : Nat → Int32} {kL : KL} {lc : Int32} {la : Int32} {hr : Int32} {uP : Int32} {uC : Int32} {uR : Int32} {tn : Int32} {pn : Int32} {pg : Int32} {pq : Int32} {rl : Nat → Int32} {sr : Nat → Int32} {gcb : Nat → Int32} {gpb : Nat → Int64} {tg : Nat → Int32} {tm : Nat → Int32} {tl : Nat → Int32} {pm : Nat → Int32} {ps : Nat → Int32} {th : Int32} {mP : Int32} {mC : Int32} {mR : Int32} {mal : Int32} {mhd : Int32} {mn : Int32} {mg : Nat → Int32} {mt : Nat → Int32} {mh : Nat → Int32} {mz : Nat → Int32} {mset : Nat → Int32} {mfr : Nat → Int32} {mma : Nat → Int32} {mde : Nat → Int32} {mls : Nat → Int32} {ov : Nat → Int64} (hi : i + 2 < L) (hL : L ≤ 1536) (hI : LInv lc la hr uP uC uR tn rl gcb gpb tg tm tl mP mC mR mal mhd mn mg mt) (hk : HK kL) : pf_law_c7 kL L xs (nI i) lc la hr uP uC uR tn pn pg pq rl sr gcb gpb tg tm tl pm ps th mP mC mR mal mhd mn mg mt mh mz mset mfr mma mde mls ov = some 1 := by
  have hI0 := hI
  obtain ⟨P, C, n, al, eg, em, hV, hE, ha, hh, rfl, rfl, rfl, rfl, rfl, rfl, hLs, hG, hTE, hLB, rfl, rfl, rfl, rfl, rfl, rfl, hME⟩ := hI
  have hR := hV.2.2.2.2
  have hR2 := R2 hV
  have hP := hV.2.1
  have hn := hE.1
  have hcl := cl_le (still P C n al eg em) (C ^ P)
  rcases row_cases (C ^ P) (xs (i + 1)) with ⟨a, a1, ea⟩ | a1
  · rcases poss_cases hV (xs (i + 2)) with ⟨m, m1, em2, p1, p2⟩ | ⟨p1, p2⟩
    · rw [em2] at p1 p2
      by_cases hf : n < 10
      · have e1 := q_full hn hf
        obtain ⟨rl1, tl1, e4, hL1, hB1⟩ := q_add (nI (cl (still P C n al eg em) (C ^ P))) rl tg tm hV hG hf ha a1 (by omega : m ≤ 99) hLB
        have e5 := s_madds (g := a) (m := m) (mg := mg) (mt := mt) hf
        have hE1 := ES_up hE hf a1 (by omega : m ≤ 99)
        have hM1 := ME_up (g := a) (m := m) hME
        have hT1 := ME_up (g := a) (m := m) hTE
        rcases hh with rfl | ⟨r, r1, r2, rfl⟩
        · obtain ⟨mh1, e6⟩ := s_many (al := al) mh hV hE1 ha hM1
          simp (disch := omega) only [g_lit, nI_add, pk_mul, pk_div, g_sdm, pk_sub, g_clamp, ile_t, ile_f, ilt_t, ilt_f, ieq_t, ieq_f, ieq_r, gi_t, gd_t, gz0, gz1, gl_x, ob0_some, ob1_some, ob2_some, ob3_some, ob4_some, ob5_some, ob6_some, ob7_some, ob8_some, ob9_some, ob10_some, ob11_some, ob12_some, ob13_some, ea, em2, rrow_t hV a1, irow_t hV a1, p1, p2, e1, e4, e5, e6, pf_X3_requirePossible, pf_law_c7_j613, pf_law_c7, pf_L_tell, pf_X3_tell_j29, pf_X3_tell, pf_X3_wouldLoseHidden_j47, pf_X3_wouldLoseHidden_j46, pf_X3_wouldLoseHidden, pf_X4_tell_j100, pf_X4_tell_j85, pf_X4_tell_j39, pf_X4_tell, lg_same, if_true, pf_X4_thrown, nn10, nn20, nn30, nn21, nn31, nn32, if_false, t64_0, t64_1]
          exact hk _ _ _ _ _ _ _ _ _ _ _ _ _ _ _ _ _ _ _ _ _ _ _ _ _ _ _ _ _ _ _ _ _ _ _ _ (⟨P, C, n + 1, al, eup eg n a, eup em n m, hV, hE1, ha, Or.inl m1_neg, rfl, rfl, rfl, rfl, rfl, rfl, hL1, hG, hT1, hB1, rfl, rfl, rfl, rfl, rfl, rfl, hM1⟩)
        · have n1 := nI_m1' (by omega : r < 2147483648)
          have e2 := cmp hV hG a1 r1
          have hm := mk80 hV a r
          have hnl := nl_le P C eg em n r
          have e7 := s_countLies hV hn r1 hLB
          obtain ⟨mh2, e8⟩ := s_lies mh hV hE hME r1
          obtain ⟨mh3, e3⟩ := mor hV mh2 a1 r1
          obtain ⟨mh1, e6⟩ := s_many (al := al) mh3 hV hE1 ha hM1
          have hnx := nl_next (P := P) (C := C) (n := n) (g := a) (m := m) (h := r) eg em
          by_cases q : mk P C a r = m
          · rw [if_pos q] at hnx
            rw [q] at e2 e3
            simp (disch := omega) only [g_lit, nI_add, pk_mul, pk_div, g_sdm, pk_sub, g_clamp, ile_t, ile_f, ilt_t, ilt_f, ieq_t, ieq_f, ieq_r, gi_t, gd_t, gz0, gz1, gl_x, ob0_some, ob1_some, ob2_some, ob3_some, ob4_some, ob5_some, ob6_some, ob7_some, ob8_some, ob9_some, ob10_some, ob11_some, ob12_some, ob13_some, ea, em2, rrow_t hV a1, irow_t hV a1, p1, p2, n1, e1, e2, e3, e4, e5, e6, e7, e8, pf_X3_requirePossible, pf_law_c7_j613, pf_law_c7, pf_L_tell, pf_X3_tell_j29, pf_X3_tell, pf_X3_wouldLoseHidden_j47, pf_X3_wouldLoseHidden_j46, pf_X3_wouldLoseHidden, pf_X4_tell_j100, pf_X4_tell_j85, pf_X4_tell_j39, pf_X4_tell, lg_same, if_true, pf_X4_thrown, nn10, nn20, nn30, nn21, nn31, nn32, if_false, t64_0, t64_1]
            exact hk _ _ _ _ _ _ _ _ _ _ _ _ _ _ _ _ _ _ _ _ _ _ _ _ _ _ _ _ _ _ _ _ _ _ _ _ (⟨P, C, n + 1, al, eup eg n a, eup em n m, hV, hE1, ha, Or.inr ⟨r, r1, by omega, rfl⟩, rfl, rfl, rfl, rfl, rfl, rfl, hL1, hG, hT1, hB1, rfl, rfl, rfl, rfl, rfl, rfl, hM1⟩)
          · rw [if_neg q] at hnx
            by_cases q2 : nl P C eg em n r < al
            · simp (disch := omega) only [g_lit, nI_add, pk_mul, pk_div, g_sdm, pk_sub, g_clamp, ile_t, ile_f, ilt_t, ilt_f, ieq_t, ieq_f, ieq_r, gi_t, gd_t, gz0, gz1, gl_x, ob0_some, ob1_some, ob2_some, ob3_some, ob4_some, ob5_some, ob6_some, ob7_some, ob8_some, ob9_some, ob10_some, ob11_some, ob12_some, ob13_some, ea, em2, rrow_t hV a1, irow_t hV a1, p1, p2, n1, e1, e2, e3, e4, e5, e6, e7, e8, pf_X3_requirePossible, pf_law_c7_j613, pf_law_c7, pf_L_tell, pf_X3_tell_j29, pf_X3_tell, pf_X3_wouldLoseHidden_j47, pf_X3_wouldLoseHidden_j46, pf_X3_wouldLoseHidden, pf_X4_tell_j100, pf_X4_tell_j85, pf_X4_tell_j39, pf_X4_tell, lg_same, if_true, pf_X4_thrown, nn10, nn20, nn30, nn21, nn31, nn32, if_false, t64_0, t64_1]
              exact hk _ _ _ _ _ _ _ _ _ _ _ _ _ _ _ _ _ _ _ _ _ _ _ _ _ _ _ _ _ _ _ _ _ _ _ _ (⟨P, C, n + 1, al, eup eg n a, eup em n m, hV, hE1, ha, Or.inr ⟨r, r1, by omega, rfl⟩, rfl, rfl, rfl, rfl, rfl, rfl, hL1, hG, hT1, hB1, rfl, rfl, rfl, rfl, rfl, rfl, hM1⟩)
            · simp (disch := omega) only [g_lit, nI_add, pk_mul, pk_div, g_sdm, pk_sub, g_clamp, ile_t, ile_f, ilt_t, ilt_f, ieq_t, ieq_f, ieq_r, gi_t, gd_t, gz0, gz1, gl_x, ob0_some, ob1_some, ob2_some, ob3_some, ob4_some, ob5_some, ob6_some, ob7_some, ob8_some, ob9_some, ob10_some, ob11_some, ob12_some, ob13_some, ea, em2, rrow_t hV a1, irow_t hV a1, p1, p2, n1, e1, e2, e3, e4, e5, e6, e7, e8, pf_X3_requirePossible, pf_law_c7_j613, pf_law_c7, pf_L_tell, pf_X3_tell_j29, pf_X3_tell, pf_X3_wouldLoseHidden_j47, pf_X3_wouldLoseHidden_j46, pf_X3_wouldLoseHidden, pf_X4_tell_j100, pf_X4_tell_j85, pf_X4_tell_j39, pf_X4_tell, lg_same, if_true, pf_X4_thrown, nn10, nn20, nn30, nn21, nn31, nn32, if_false, t64_0, t64_1]
              exact hk _ _ _ _ _ _ _ _ _ _ _ _ _ _ _ _ _ _ _ _ _ _ _ _ _ _ _ _ _ _ _ _ _ _ _ _ hI0
      · have e : n = 10 := by omega
        subst e
        simp (disch := omega) only [g_lit, nI_add, pk_mul, pk_div, g_sdm, pk_sub, g_clamp, ile_t, ile_f, ilt_t, ilt_f, ieq_t, ieq_f, ieq_r, gi_t, gd_t, gz0, gz1, gl_x, ob0_some, ob1_some, ob2_some, ob3_some, ob4_some, ob5_some, ob6_some, ob7_some, ob8_some, ob9_some, ob10_some, ob11_some, ob12_some, ob13_some, ea, em2, rrow_t hV a1, irow_t hV a1, p1, p2, q_full1, pf_X3_requirePossible, pf_law_c7_j613, pf_law_c7, pf_L_tell, pf_X3_tell_j29, pf_X3_tell, pf_X4_tell_j100, pf_X4_tell_j85, pf_X4_tell_j39, pf_X4_tell, lg_same, if_true, pf_X4_thrown, nn10, nn20, nn30, nn21, nn31, nn32, if_false, t64_0, t64_1]
        exact hk _ _ _ _ _ _ _ _ _ _ _ _ _ _ _ _ _ _ _ _ _ _ _ _ _ _ _ _ _ _ _ _ _ _ _ _ hI0
    · simp (disch := omega) only [g_lit, nI_add, pk_mul, pk_div, g_sdm, pk_sub, g_clamp, ile_t, ile_f, ilt_t, ilt_f, ieq_t, ieq_f, ieq_r, gi_t, gd_t, gz0, gz1, gl_x, ob0_some, ob1_some, ob2_some, ob3_some, ob4_some, ob5_some, ob6_some, ob7_some, ob8_some, ob9_some, ob10_some, ob11_some, ob12_some, ob13_some, ea, rrow_t hV a1, irow_t hV a1, p1, p2, pf_X3_requirePossible, pf_law_c7_j613, pf_law_c7, pf_L_tell, pf_X3_tell_j29, pf_X3_tell, pf_X4_tell_j100, pf_X4_tell_j85, pf_X4_tell_j39, pf_X4_tell, lg_same, if_true, pf_X4_thrown, nn10, nn20, nn30, nn21, nn31, nn32, if_false, t64_0, t64_1]
      exact hk _ _ _ _ _ _ _ _ _ _ _ _ _ _ _ _ _ _ _ _ _ _ _ _ _ _ _ _ _ _ _ _ _ _ _ _ hI0
  · simp (disch := omega) only [g_lit, nI_add, pk_mul, pk_div, g_sdm, pk_sub, g_clamp, ile_t, ile_f, ilt_t, ilt_f, ieq_t, ieq_f, ieq_r, gi_t, gd_t, gz0, gz1, gl_x, ob0_some, ob1_some, ob2_some, ob3_some, ob4_some, ob5_some, ob6_some, ob7_some, ob8_some, ob9_some, ob10_some, ob11_some, ob12_some, ob13_some, rrow_f hV a1, irow_f hV a1, pf_law_c7_j613, pf_law_c7, pf_L_tell, pf_X3_tell_j29, pf_X3_tell, pf_X4_tell_j100, pf_X4_tell_j85, pf_X4_tell_j39, pf_X4_tell, lg_same, if_true, pf_X4_thrown, nn10, nn20, nn30, nn21, nn31, nn32, if_false, t64_0, t64_1]
    exact hk _ _ _ _ _ _ _ _ _ _ _ _ _ _ _ _ _ _ _ _ _ _ _ _ _ _ _ _ _ _ _ _ _ _ _ _ hI0
theorem law_c8 {L i : Nat} {xs : Nat → Int32} {kL : KL} {lc : Int32} {la : Int32} {hr : Int32} {uP : Int32} {uC : Int32} {uR : Int32} {tn : Int32} {pn : Int32} {pg : Int32} {pq : Int32} {rl : Nat → Int32} {sr : Nat → Int32} {gcb : Nat → Int32} {gpb : Nat → Int64} {tg : Nat → Int32} {tm : Nat → Int32} {tl : Nat → Int32} {pm : Nat → Int32} {ps : Nat → Int32} {th : Int32} {mP : Int32} {mC : Int32} {mR : Int32} {mal : Int32} {mhd : Int32} {mn : Int32} {mg : Nat → Int32} {mt : Nat → Int32} {mh : Nat → Int32} {mz : Nat → Int32} {mset : Nat → Int32} {mfr : Nat → Int32} {mma : Nat → Int32} {mde : Nat → Int32} {mls : Nat → Int32} {ov : Nat → Int64} (hi : i + 2 < L) (hL : L ≤ 1536) (hI : LInv lc la hr uP uC uR tn rl gcb gpb tg tm tl mP mC mR mal mhd mn mg mt) (hk : HK kL) : pf_law_c8 kL L xs (nI i) lc la hr uP uC uR tn pn pg pq rl sr gcb gpb tg tm tl pm ps th mP mC mR mal mhd mn mg mt mh mz mset mfr mma mde mls ov = some 1 := by
  have hI0 := hI
  obtain ⟨P, C, n, al, eg, em, hV, hE, ha, hh, rfl, rfl, rfl, rfl, rfl, rfl, hLs, hG, hTE, hLB, rfl, rfl, rfl, rfl, rfl, rfl, hME⟩ := hI
  have hR := hV.2.2.2.2
  have hR2 := R2 hV
  have hP := hV.2.1
  have hn := hE.1
  have hcl := cl_le (still P C n al eg em) (C ^ P)
  cases n with
  | zero =>
    simp (disch := omega) only [g_lit, nI_add, pk_mul, pk_div, g_sdm, pk_sub, g_clamp, ile_t, ile_f, ilt_t, ilt_f, ieq_t, ieq_f, ieq_r, gi_t, gd_t, gz0, gz1, gl_x, ob0_some, ob1_some, ob2_some, ob3_some, ob4_some, ob5_some, ob6_some, ob7_some, ob8_some, ob9_some, ob10_some, ob11_some, ob12_some, ob13_some, pf_law_c8_j657, pf_law_c8, pf_L_takeBack, pf_X3_takeBack, pf_X4_takeBack_j13, pf_X4_takeBack, lg_same, if_true, pf_X4_thrown, nn10, nn20, nn30, nn21, nn31, nn32, if_false, t64_0, t64_1]
    exact hk _ _ _ _ _ _ _ _ _ _ _ _ _ _ _ _ _ _ _ _ _ _ _ _ _ _ _ _ _ _ _ _ _ _ _ _ hI0
  | succ n =>
    obtain ⟨tl1, e1, hB1⟩ := s_drop hV (by omega : n < 10) hLB
    obtain ⟨rl1, e2, hL1⟩ := s_list (al := al) (nI (cl (still P C (n + 1) al eg em) (C ^ P))) rl hV (by omega) ha hB1
    have hE1 : ES P C n eg em := ⟨by omega, fun i hi => hE.2 i (by omega)⟩
    have hM1 : ME n eg em mg mt := fun i hi => hME i (by omega)
    have hT1 : ME n eg em tg tm := fun i hi => hTE i (by omega)
    obtain ⟨mh1, e3⟩ := s_many (al := al) mh hV hE1 ha hM1
    have e4 : nI (n + 1) - nI 1 = nI n := by rw [pk_sub (by omega)]; congr 1
    have e5 : pf_X4_takeBack th (nI P) (nI C) (nI (C ^ P)) (nI al) (nI (n + 1)) mg mt mh = some (nI (cl (still P C n al eg em) (C ^ P)), nI 0, nI n, mh1) := by
      have g1 : ¬ nI (n + 1) = 0 := fun z => by have := (nI_eq (b := 0) (by omega) (by omega)).mp z; omega
      unfold pf_X4_takeBack
      refine (if_neg g1).trans ?_
      unfold pf_X4_takeBack_j13
      refine (if_pos (by decide)).trans ?_
      show (ob2 (pf_X4_manyLeft (nI P) (nI C) (nI (C ^ P)) (nI al) (nI (n + 1) - nI 1) mg mt mh) fun r36 mh_36 => some (r36, 0, nI (n + 1) - nI 1, mh_36)) = _
      rw [e4, e3]
      rfl
    simp (disch := omega) only [g_lit, nI_add, pk_mul, pk_div, g_sdm, pk_sub, g_clamp, ile_t, ile_f, ilt_t, ilt_f, ieq_t, ieq_f, ieq_r, gi_t, gd_t, gz0, gz1, gl_x, ob0_some, ob1_some, ob2_some, ob3_some, ob4_some, ob5_some, ob6_some, ob7_some, ob8_some, ob9_some, ob10_some, ob11_some, ob12_some, ob13_some, e1, e2, e5, pf_law_c8_j657, pf_law_c8, pf_L_takeBack, pf_X3_takeBack, lg_same, if_true, pf_X4_thrown, nn10, nn20, nn30, nn21, nn31, nn32, if_false, t64_0, t64_1]
    rcases hh with rfl | ⟨r, r1, r2, rfl⟩
    · exact hk _ _ _ _ _ _ _ _ _ _ _ _ _ _ _ _ _ _ _ _ _ _ _ _ _ _ _ _ _ _ _ _ _ _ _ _ (⟨P, C, n, al, eg, em, hV, hE1, ha, Or.inl rfl, rfl, rfl, rfl, rfl, rfl, rfl, hL1, hG, hT1, hB1, rfl, rfl, rfl, rfl, rfl, rfl, hM1⟩)
    · exact hk _ _ _ _ _ _ _ _ _ _ _ _ _ _ _ _ _ _ _ _ _ _ _ _ _ _ _ _ _ _ _ _ _ _ _ _ (⟨P, C, n, al, eg, em, hV, hE1, ha, Or.inr ⟨r, r1, Nat.le_trans (Nat.le_add_right _ _) r2, rfl⟩, rfl, rfl, rfl, rfl, rfl, rfl, hL1, hG, hT1, hB1, rfl, rfl, rfl, rfl, rfl, rfl, hM1⟩)

theorem ob1_e {T1 α : Type} {x : Option T1} {a : T1} {k : T1 → Option α} (h : x = some a) : ob1 x k = k a := by
  rw [h]
  rfl
/-! the law: what holds between the steps -/
def LInv (lc : Int32) (la : Int32) (hr : Int32) (uP : Int32) (uC : Int32) (uR : Int32) (tn : Int32) (rl : Nat → Int32) (gcb : Nat → Int32) (gpb : Nat → Int64) (tg : Nat → Int32) (tm : Nat → Int32) (tl : Nat → Int32) (mP : Int32) (mC : Int32) (mR : Int32) (mal : Int32) (mhd : Int32) (mn : Int32) (mg : Nat → Int32) (mt : Nat → Int32) : Prop := ∃ P C n al eg em, VG P C ∧ ES P C n eg em ∧ al ≤ 3 ∧ (hr = -1 ∨ ∃ r, r < C ^ P ∧ nl P C eg em n r ≤ al ∧ hr = nI r) ∧ lc = nI (cl (still P C n al eg em) (C ^ P)) ∧ la = nI al ∧ uP = nI P ∧ uC = nI C ∧ uR = nI (C ^ P) ∧ tn = nI n ∧ Ls (still P C n al eg em) (C ^ P) rl ∧ laid P C (C ^ P) gcb gpb ∧ ME n eg em tg tm ∧ LB P C n eg em tl ∧ mP = nI P ∧ mC = nI C ∧ mR = nI (C ^ P) ∧ mal = nI al ∧ mhd = hr ∧ mn = nI n ∧ ME n eg em mg mt
abbrev KL : Type := Int32 → Int32 → Int32 → Int32 → Int32 → Int32 → Int32 → Int32 → Int32 → Int32 → (Nat → Int32) → (Nat → Int32) → (Nat → Int32) → (Nat → Int64) → (Nat → Int32) → (Nat → Int32) → (Nat → Int32) → (Nat → Int32) → (Nat → Int32) → Int32 → Int32 → Int32 → Int32 → Int32 → Int32 → Int32 → (Nat → Int32) → (Nat → Int32) → (Nat → Int32) → (Nat → Int32) → (Nat → Int32) → (Nat → Int32) → (Nat → Int32) → (Nat → Int32) → (Nat → Int32) → (Nat → Int64) → Option Int32
def HK (kL : KL) : Prop := ∀ (lc : Int32) (la : Int32) (hr : Int32) (uP : Int32) (uC : Int32) (uR : Int32) (tn : Int32) (pn : Int32) (pg : Int32) (pq : Int32) (rl : Nat → Int32) (sr : Nat → Int32) (gcb : Nat → Int32) (gpb : Nat → Int64) (tg : Nat → Int32) (tm : Nat → Int32) (tl : Nat → Int32) (pm : Nat → Int32) (ps : Nat → Int32) (th : Int32) (mP : Int32) (mC : Int32) (mR : Int32) (mal : Int32) (mhd : Int32) (mn : Int32) (mg : Nat → Int32) (mt : Nat → Int32) (mh : Nat → Int32) (mz : Nat → Int32) (mset : Nat → Int32) (mfr : Nat → Int32) (mma : Nat → Int32) (mde : Nat → Int32) (mls : Nat → Int32) (ov : Nat → Int64), LInv lc la hr uP uC uR tn rl gcb gpb tg tm tl mP mC mR mal mhd mn mg mt → kL lc la hr uP uC uR tn pn pg pq rl sr gcb gpb tg tm tl pm ps th mP mC mR mal mhd mn mg mt mh mz mset mfr mma mde mls ov = some 1
theorem law_c1 {L i : Nat} {xs : Nat → Int32} {kL : KL} {lc : Int32} {la : Int32} {hr : Int32} {uP : Int32} {uC : Int32} {uR : Int32} {tn : Int32} {pn : Int32} {pg : Int32} {pq : Int32} {rl : Nat → Int32} {sr : Nat → Int32} {gcb : Nat → Int32} {gpb : Nat → Int64} {tg : Nat → Int32} {tm : Nat → Int32} {tl : Nat → Int32} {pm : Nat → Int32} {ps : Nat → Int32} {th : Int32} {mP : Int32} {mC : Int32} {mR : Int32} {mal : Int32} {mhd : Int32} {mn : Int32} {mg : Nat → Int32} {mt : Nat → Int32} {mh : Nat → Int32} {mz : Nat → Int32} {mset : Nat → Int32} {mfr : Nat → Int32} {mma : Nat → Int32} {mde : Nat → Int32} {mls : Nat → Int32} {ov : Nat → Int64} (hi : i + 2 < L) (hL : L ≤ 1536) (hI : LInv lc la hr uP uC uR tn rl gcb gpb tg tm tl mP mC mR mal mhd mn mg mt) (hk : HK kL) : pf_law_c1 kL L xs (nI i) lc la hr uP uC uR tn pn pg pq rl sr gcb gpb tg tm tl pm ps th mP mC mR mal mhd mn mg mt mh mz mset mfr mma mde mls ov = some 1 := by
  have hI0 := hI
  obtain ⟨P, C, n, al, eg, em, hV, hE, ha, hh, rfl, rfl, rfl, rfl, rfl, rfl, hLs, hG, hTE, hLB, rfl, rfl, rfl, rfl, rfl, rfl, hME⟩ := hI
  have hR := hV.2.2.2.2
  have hR2 := R2 hV
  have hP := hV.2.1
  have hn := hE.1
  have hcl := cl_le (still P C n al eg em) (C ^ P)
  simp (disch := omega) only [g_lit, nI_add, pk_mul, pk_div, g_sdm, pk_sub, g_clamp, ile_t, ile_f, ilt_t, ilt_f, ieq_t, ieq_f, ieq_r, gi_t, gd_t, gz0, gz1, gl_x, ob0_some, ob1_some, ob2_some, ob3_some, ob4_some, ob5_some, ob6_some, ob7_some, ob8_some, ob9_some, ob10_some, ob11_some, ob12_some, ob13_some, pf_law_c1, pf_X3_rows, pf_X4_rows, lg_same, if_true, pf_X4_thrown, nn10, nn20, nn30, nn21, nn31, nn32, if_false, t64_0, t64_1]
  exact hk _ _ _ _ _ _ _ _ _ _ _ _ _ _ _ _ _ _ _ _ _ _ _ _ _ _ _ _ _ _ _ _ _ _ _ _ hI0
theorem law_c2 {L i : Nat} {xs : Nat → Int32} {kL : KL} {lc : Int32} {la : Int32} {hr : Int32} {uP : Int32} {uC : Int32} {uR : Int32} {tn : Int32} {pn : Int32} {pg : Int32} {pq : Int32} {rl : Nat → Int32} {sr : Nat → Int32} {gcb : Nat → Int32} {gpb : Nat → Int64} {tg : Nat → Int32} {tm : Nat → Int32} {tl : Nat → Int32} {pm : Nat → Int32} {ps : Nat → Int32} {th : Int32} {mP : Int32} {mC : Int32} {mR : Int32} {mal : Int32} {mhd : Int32} {mn : Int32} {mg : Nat → Int32} {mt : Nat → Int32} {mh : Nat → Int32} {mz : Nat → Int32} {mset : Nat → Int32} {mfr : Nat → Int32} {mma : Nat → Int32} {mde : Nat → Int32} {mls : Nat → Int32} {ov : Nat → Int64} (hi : i + 2 < L) (hL : L ≤ 1536) (hI : LInv lc la hr uP uC uR tn rl gcb gpb tg tm tl mP mC mR mal mhd mn mg mt) (hk : HK kL) : pf_law_c2 kL L xs (nI i) lc la hr uP uC uR tn pn pg pq rl sr gcb gpb tg tm tl pm ps th mP mC mR mal mhd mn mg mt mh mz mset mfr mma mde mls ov = some 1 := by
  have hI0 := hI
  obtain ⟨P, C, n, al, eg, em, hV, hE, ha, hh, rfl, rfl, rfl, rfl, rfl, rfl, hLs, hG, hTE, hLB, rfl, rfl, rfl, rfl, rfl, rfl, hME⟩ := hI
  have hR := hV.2.2.2.2
  have hR2 := R2 hV
  have hP := hV.2.1
  have hn := hE.1
  have hcl := cl_le (still P C n al eg em) (C ^ P)
  have hP1 := hV.1
  rcases row_cases (C ^ P) (xs (i + 1)) with ⟨a, a1, ea⟩ | a1
  · rcases row_cases P (xs (i + 2)) with ⟨b, b1, eb⟩ | b1
    · have e1 := s_colourOf hV.2.1 hV.2.2.1 hV.2.2.2.1 hR a1 b1 (fun r hr => (hG r hr).1)
      have e2 := s_mcolour hV.2.1 hV.2.2.1 hV.2.2.2.1 (by omega : a < 256) b1
      simp (disch := omega) only [g_lit, nI_add, pk_mul, pk_div, g_sdm, pk_sub, g_clamp, ile_t, ile_f, ilt_t, ilt_f, ieq_t, ieq_f, ieq_r, gi_t, gd_t, gz0, gz1, gl_x, ob0_some, ob1_some, ob2_some, ob3_some, ob4_some, ob5_some, ob6_some, ob7_some, ob8_some, ob9_some, ob10_some, ob11_some, ob12_some, ob13_some, ea, eb, s_X1_has_t hR a1, irow_t hV a1, e1, e2, in_m_t (by omega : P ≤ 256) b1, pf_law_c2_j302, pf_law_c2, pf_L_colourAt, pf_X3_colourAt_j26, pf_X3_colourAt, pf_X4_colourAt_j48, pf_X4_colourAt_j28, pf_X4_colourAt_j27, pf_X4_colourAt, lg_same, if_true, pf_X4_thrown, nn10, nn20, nn30, nn21, nn31, nn32, if_false, t64_0, t64_1]
      exact hk _ _ _ _ _ _ _ _ _ _ _ _ _ _ _ _ _ _ _ _ _ _ _ _ _ _ _ _ _ _ _ _ _ _ _ _ hI0
    · have e3 := in_m_f hP1 (by omega : P ≤ 256) b1
      rcases b1 with b1 | ⟨q, q1, q2, eb⟩
      · simp (disch := omega) only [g_lit, nI_add, pk_mul, pk_div, g_sdm, pk_sub, g_clamp, ile_t, ile_f, ilt_t, ilt_f, ieq_t, ieq_f, ieq_r, gi_t, gd_t, gz0, gz1, gl_x, ob0_some, ob1_some, ob2_some, ob3_some, ob4_some, ob5_some, ob6_some, ob7_some, ob8_some, ob9_some, ob10_some, ob11_some, ob12_some, ob13_some, ea, s_X1_has_t hR a1, irow_t hV a1, ilt_n b1, e3, pf_law_c2_j302, pf_law_c2, pf_L_colourAt, pf_X3_colourAt_j26, pf_X3_colourAt, pf_X4_colourAt_j48, pf_X4_colourAt_j28, pf_X4_colourAt_j27, pf_X4_colourAt, lg_same, if_true, pf_X4_thrown, nn10, nn20, nn30, nn21, nn31, nn32, if_false, t64_0, t64_1]
        exact hk _ _ _ _ _ _ _ _ _ _ _ _ _ _ _ _ _ _ _ _ _ _ _ _ _ _ _ _ _ _ _ _ _ _ _ _ hI0
      · rw [eb] at e3
        simp (disch := omega) only [g_lit, nI_add, pk_mul, pk_div, g_sdm, pk_sub, g_clamp, ile_t, ile_f, ilt_t, ilt_f, ieq_t, ieq_f, ieq_r, gi_t, gd_t, gz0, gz1, gl_x, ob0_some, ob1_some, ob2_some, ob3_some, ob4_some, ob5_some, ob6_some, ob7_some, ob8_some, ob9_some, ob10_some, ob11_some, ob12_some, ob13_some, ea, eb, s_X1_has_t hR a1, irow_t hV a1, e3, pf_law_c2_j302, pf_law_c2, pf_L_colourAt, pf_X3_colourAt_j26, pf_X3_colourAt, pf_X4_colourAt_j48, pf_X4_colourAt_j28, pf_X4_colourAt_j27, pf_X4_colourAt, lg_same, if_true, pf_X4_thrown, nn10, nn20, nn30, nn21, nn31, nn32, if_false, t64_0, t64_1]
        exact hk _ _ _ _ _ _ _ _ _ _ _ _ _ _ _ _ _ _ _ _ _ _ _ _ _ _ _ _ _ _ _ _ _ _ _ _ hI0
  · simp (disch := omega) only [g_lit, nI_add, pk_mul, pk_div, g_sdm, pk_sub, g_clamp, ile_t, ile_f, ilt_t, ilt_f, ieq_t, ieq_f, ieq_r, gi_t, gd_t, gz0, gz1, gl_x, ob0_some, ob1_some, ob2_some, ob3_some, ob4_some, ob5_some, ob6_some, ob7_some, ob8_some, ob9_some, ob10_some, ob11_some, ob12_some, ob13_some, s_has_no hR a1, irow_f hV a1, pf_law_c2_j302, pf_law_c2, pf_L_colourAt, pf_X3_colourAt_j26, pf_X3_colourAt, pf_X4_colourAt_j48, pf_X4_colourAt_j28, pf_X4_colourAt_j27, pf_X4_colourAt, lg_same, if_true, pf_X4_thrown, nn10, nn20, nn30, nn21, nn31, nn32, if_false, t64_0, t64_1]
    exact hk _ _ _ _ _ _ _ _ _ _ _ _ _ _ _ _ _ _ _ _ _ _ _ _ _ _ _ _ _ _ _ _ _ _ _ _ hI0
theorem law_c3 {L i : Nat} {xs : Nat → Int32} {kL : KL} {lc : Int32} {la : Int32} {hr : Int32} {uP : Int32} {uC : Int32} {uR : Int32} {tn : Int32} {pn : Int32} {pg : Int32} {pq : Int32} {rl : Nat → Int32} {sr : Nat → Int32} {gcb : Nat → Int32} {gpb : Nat → Int64} {tg : Nat → Int32} {tm : Nat → Int32} {tl : Nat → Int32} {pm : Nat → Int32} {ps : Nat → Int32} {th : Int32} {mP : Int32} {mC : Int32} {mR : Int32} {mal : Int32} {mhd : Int32} {mn : Int32} {mg : Nat → Int32} {mt : Nat → Int32} {mh : Nat → Int32} {mz : Nat → Int32} {mset : Nat → Int32} {mfr : Nat → Int32} {mma : Nat → Int32} {mde : Nat → Int32} {mls : Nat → Int32} {ov : Nat → Int64} (hi : i + 2 < L) (hL : L ≤ 1536) (hI : LInv lc la hr uP uC uR tn rl gcb gpb tg tm tl mP mC mR mal mhd mn mg mt) (hk : HK kL) : pf_law_c3 kL L xs (nI i) lc la hr uP uC uR tn pn pg pq rl sr gcb gpb tg tm tl pm ps th mP mC mR mal mhd mn mg mt mh mz mset mfr mma mde mls ov = some 1 := by
  have hI0 := hI
  obtain ⟨P, C, n, al, eg, em, hV, hE, ha, hh, rfl, rfl, rfl, rfl, rfl, rfl, hLs, hG, hTE, hLB, rfl, rfl, rfl, rfl, rfl, rfl, hME⟩ := hI
  have hR := hV.2.2.2.2
  have hR2 := R2 hV
  have hP := hV.2.1
  have hn := hE.1
  have hcl := cl_le (still P C n al eg em) (C ^ P)
  rcases row_cases (C ^ P) (xs (i + 1)) with ⟨a, a1, ea⟩ | a1
  · rcases row_cases (C ^ P) (xs (i + 2)) with ⟨b, b1, eb⟩ | b1
    · obtain ⟨mh1, e4⟩ := mor hV mh a1 b1
      simp (disch := omega) only [g_lit, nI_add, pk_mul, pk_div, g_sdm, pk_sub, g_clamp, ile_t, ile_f, ilt_t, ilt_f, ieq_t, ieq_f, ieq_r, gi_t, gd_t, gz0, gz1, gl_x, ob0_some, ob1_some, ob2_some, ob3_some, ob4_some, ob5_some, ob6_some, ob7_some, ob8_some, ob9_some, ob10_some, ob11_some, ob12_some, ob13_some, ea, eb, s_X1_has_t hR a1, s_X1_has_t hR b1, cmp hV hG a1 b1, irow_t hV a1, irow_t hV b1, e4, pf_law_c3_j370, pf_law_c3, pf_L_mark, pf_X3_mark_j22, pf_X3_mark, pf_X4_mark_j42, pf_X4_mark_j22, pf_X4_mark_j21, pf_X4_mark, lg_same, if_true, pf_X4_thrown, nn10, nn20, nn30, nn21, nn31, nn32, if_false, t64_0, t64_1]
      exact hk _ _ _ _ _ _ _ _ _ _ _ _ _ _ _ _ _ _ _ _ _ _ _ _ _ _ _ _ _ _ _ _ _ _ _ _ hI0
    · simp (disch := omega) only [g_lit, nI_add, pk_mul, pk_div, g_sdm, pk_sub, g_clamp, ile_t, ile_f, ilt_t, ilt_f, ieq_t, ieq_f, ieq_r, gi_t, gd_t, gz0, gz1, gl_x, ob0_some, ob1_some, ob2_some, ob3_some, ob4_some, ob5_some, ob6_some, ob7_some, ob8_some, ob9_some, ob10_some, ob11_some, ob12_some, ob13_some, ea, s_X1_has_t hR a1, s_has_no hR b1, irow_t hV a1, irow_f hV b1, pf_law_c3_j370, pf_law_c3, pf_L_mark, pf_X3_mark_j22, pf_X3_mark, pf_X4_mark_j42, pf_X4_mark_j22, pf_X4_mark_j21, pf_X4_mark, lg_same, if_true, pf_X4_thrown, nn10, nn20, nn30, nn21, nn31, nn32, if_false, t64_0, t64_1]
      exact hk _ _ _ _ _ _ _ _ _ _ _ _ _ _ _ _ _ _ _ _ _ _ _ _ _ _ _ _ _ _ _ _ _ _ _ _ hI0
  · simp (disch := omega) only [g_lit, nI_add, pk_mul, pk_div, g_sdm, pk_sub, g_clamp, ile_t, ile_f, ilt_t, ilt_f, ieq_t, ieq_f, ieq_r, gi_t, gd_t, gz0, gz1, gl_x, ob0_some, ob1_some, ob2_some, ob3_some, ob4_some, ob5_some, ob6_some, ob7_some, ob8_some, ob9_some, ob10_some, ob11_some, ob12_some, ob13_some, s_has_no hR a1, irow_f hV a1, pf_law_c3_j370, pf_law_c3, pf_L_mark, pf_X3_mark_j22, pf_X3_mark, pf_X4_mark_j42, pf_X4_mark_j22, pf_X4_mark_j21, pf_X4_mark, lg_same, if_true, pf_X4_thrown, nn10, nn20, nn30, nn21, nn31, nn32, if_false, t64_0, t64_1]
    exact hk _ _ _ _ _ _ _ _ _ _ _ _ _ _ _ _ _ _ _ _ _ _ _ _ _ _ _ _ _ _ _ _ _ _ _ _ hI0
theorem law_c9 {L i : Nat} {xs : Nat → Int32} {kL : KL} {lc : Int32} {la : Int32} {hr : Int32} {uP : Int32} {uC : Int32} {uR : Int32} {tn : Int32} {pn : Int32} {pg : Int32} {pq : Int32} {rl : Nat → Int32} {sr : Nat → Int32} {gcb : Nat → Int32} {gpb : Nat → Int64} {tg : Nat → Int32} {tm : Nat → Int32} {tl : Nat → Int32} {pm : Nat → Int32} {ps : Nat → Int32} {th : Int32} {mP : Int32} {mC : Int32} {mR : Int32} {mal : Int32} {mhd : Int32} {mn : Int32} {mg : Nat → Int32} {mt : Nat → Int32} {mh : Nat → Int32} {mz : Nat → Int32} {mset : Nat → Int32} {mfr : Nat → Int32} {mma : Nat → Int32} {mde : Nat → Int32} {mls : Nat → Int32} {ov : Nat → Int64} (hi : i + 2 < L) (hL : L ≤ 1536) (hI : LInv lc la hr uP uC uR tn rl gcb gpb tg tm tl mP mC mR mal mhd mn mg mt) (hk : HK kL) : pf_law_c9 kL L xs (nI i) lc la hr uP uC uR tn pn pg pq rl sr gcb gpb tg tm tl pm ps th mP mC mR mal mhd mn mg mt mh mz mset mfr mma mde mls ov = some 1 := by
  have hI0 := hI
  obtain ⟨P, C, n, al, eg, em, hV, hE, ha, hh, rfl, rfl, rfl, rfl, rfl, rfl, hLs, hG, hTE, hLB, rfl, rfl, rfl, rfl, rfl, rfl, hME⟩ := hI
  have hR := hV.2.2.2.2
  have hR2 := R2 hV
  have hP := hV.2.1
  have hn := hE.1
  have hcl := cl_le (still P C n al eg em) (C ^ P)
  simp (disch := omega) only [g_lit, nI_add, pk_mul, pk_div, g_sdm, pk_sub, g_clamp, ile_t, ile_f, ilt_t, ilt_f, ieq_t, ieq_f, ieq_r, gi_t, gd_t, gz0, gz1, gl_x, ob0_some, ob1_some, ob2_some, ob3_some, ob4_some, ob5_some, ob6_some, ob7_some, ob8_some, ob9_some, ob10_some, ob11_some, ob12_some, ob13_some, pf_law_c9, pf_X3_entries, pf_X4_entries, lg_same, if_true, pf_X4_thrown, nn10, nn20, nn30, nn21, nn31, nn32, if_false, t64_0, t64_1]
  exact hk _ _ _ _ _ _ _ _ _ _ _ _ _ _ _ _ _ _ _ _ _ _ _ _ _ _ _ _ _ _ _ _ _ _ _ _ hI0
theorem law_c10 {L i : Nat} {xs : Nat → Int32} {kL : KL} {lc : Int32} {la : Int32} {hr : Int32} {uP : Int32} {uC : Int32} {uR : Int32} {tn : Int32} {pn : Int32} {pg : Int32} {pq : Int32} {rl : Nat → Int32} {sr : Nat → Int32} {gcb : Nat → Int32} {gpb : Nat → Int64} {tg : Nat → Int32} {tm : Nat → Int32} {tl : Nat → Int32} {pm : Nat → Int32} {ps : Nat → Int32} {th : Int32} {mP : Int32} {mC : Int32} {mR : Int32} {mal : Int32} {mhd : Int32} {mn : Int32} {mg : Nat → Int32} {mt : Nat → Int32} {mh : Nat → Int32} {mz : Nat → Int32} {mset : Nat → Int32} {mfr : Nat → Int32} {mma : Nat → Int32} {mde : Nat → Int32} {mls : Nat → Int32} {ov : Nat → Int64} (hi : i + 2 < L) (hL : L ≤ 1536) (hI : LInv lc la hr uP uC uR tn rl gcb gpb tg tm tl mP mC mR mal mhd mn mg mt) (hk : HK kL) : pf_law_c10 kL L xs (nI i) lc la hr uP uC uR tn pn pg pq rl sr gcb gpb tg tm tl pm ps th mP mC mR mal mhd mn mg mt mh mz mset mfr mma mde mls ov = some 1 := by
  have hI0 := hI
  obtain ⟨P, C, n, al, eg, em, hV, hE, ha, hh, rfl, rfl, rfl, rfl, rfl, rfl, hLs, hG, hTE, hLB, rfl, rfl, rfl, rfl, rfl, rfl, hME⟩ := hI
  have hR := hV.2.2.2.2
  have hR2 := R2 hV
  have hP := hV.2.1
  have hn := hE.1
  have hcl := cl_le (still P C n al eg em) (C ^ P)
  rcases row_cases n (xs (i + 1)) with ⟨a, a1, ea⟩ | a1
  · have e1 := (hTE a a1).1
    have e2 := (hME a a1).1
    simp (disch := omega) only [g_lit, nI_add, pk_mul, pk_div, g_sdm, pk_sub, g_clamp, ile_t, ile_f, ilt_t, ilt_f, ieq_t, ieq_f, ieq_r, gi_t, gd_t, gz0, gz1, gl_x, ob0_some, ob1_some, ob2_some, ob3_some, ob4_some, ob5_some, ob6_some, ob7_some, ob8_some, ob9_some, ob10_some, ob11_some, ob12_some, ob13_some, ea, rent_t hn a1, ient_t hn a1, s_eguess hn a1, e1, e2, pf_law_c10_j726, pf_law_c10, pf_L_guessOf, pf_X3_guessOf, pf_X4_guessOf_j34, pf_X4_guessOf_j14, pf_X4_guessOf, lg_same, if_true, pf_X4_thrown, nn10, nn20, nn30, nn21, nn31, nn32, if_false, t64_0, t64_1]
    exact hk _ _ _ _ _ _ _ _ _ _ _ _ _ _ _ _ _ _ _ _ _ _ _ _ _ _ _ _ _ _ _ _ _ _ _ _ hI0
  · simp (disch := omega) only [g_lit, nI_add, pk_mul, pk_div, g_sdm, pk_sub, g_clamp, ile_t, ile_f, ilt_t, ilt_f, ieq_t, ieq_f, ieq_r, gi_t, gd_t, gz0, gz1, gl_x, ob0_some, ob1_some, ob2_some, ob3_some, ob4_some, ob5_some, ob6_some, ob7_some, ob8_some, ob9_some, ob10_some, ob11_some, ob12_some, ob13_some, rent_f hn a1, ient_f hn a1, pf_law_c10_j726, pf_law_c10, pf_L_guessOf, pf_X3_guessOf, pf_X4_guessOf_j34, pf_X4_guessOf_j14, pf_X4_guessOf, lg_same, if_true, pf_X4_thrown, nn10, nn20, nn30, nn21, nn31, nn32, if_false, t64_0, t64_1]
    exact hk _ _ _ _ _ _ _ _ _ _ _ _ _ _ _ _ _ _ _ _ _ _ _ _ _ _ _ _ _ _ _ _ _ _ _ _ hI0
theorem law_c11 {L i : Nat} {xs : Nat → Int32} {kL : KL} {lc : Int32} {la : Int32} {hr : Int32} {uP : Int32} {uC : Int32} {uR : Int32} {tn : Int32} {pn : Int32} {pg : Int32} {pq : Int32} {rl : Nat → Int32} {sr : Nat → Int32} {gcb : Nat → Int32} {gpb : Nat → Int64} {tg : Nat → Int32} {tm : Nat → Int32} {tl : Nat → Int32} {pm : Nat → Int32} {ps : Nat → Int32} {th : Int32} {mP : Int32} {mC : Int32} {mR : Int32} {mal : Int32} {mhd : Int32} {mn : Int32} {mg : Nat → Int32} {mt : Nat → Int32} {mh : Nat → Int32} {mz : Nat → Int32} {mset : Nat → Int32} {mfr : Nat → Int32} {mma : Nat → Int32} {mde : Nat → Int32} {mls : Nat → Int32} {ov : Nat → Int64} (hi : i + 2 < L) (hL : L ≤ 1536) (hI : LInv lc la hr uP uC uR tn rl gcb gpb tg tm tl mP mC mR mal mhd mn mg mt) (hk : HK kL) : pf_law_c11 kL L xs (nI i) lc la hr uP uC uR tn pn pg pq rl sr gcb gpb tg tm tl pm ps th mP mC mR mal mhd mn mg mt mh mz mset mfr mma mde mls ov = some 1 := by
  have hI0 := hI
  obtain ⟨P, C, n, al, eg, em, hV, hE, ha, hh, rfl, rfl, rfl, rfl, rfl, rfl, hLs, hG, hTE, hLB, rfl, rfl, rfl, rfl, rfl, rfl, hME⟩ := hI
  have hR := hV.2.2.2.2
  have hR2 := R2 hV
  have hP := hV.2.1
  have hn := hE.1
  have hcl := cl_le (still P C n al eg em) (C ^ P)
  rcases row_cases n (xs (i + 1)) with ⟨a, a1, ea⟩ | a1
  · have e1 := (hTE a a1).2
    have e2 := (hME a a1).2
    simp (disch := omega) only [g_lit, nI_add, pk_mul, pk_div, g_sdm, pk_sub, g_clamp, ile_t, ile_f, ilt_t, ilt_f, ieq_t, ieq_f, ieq_r, gi_t, gd_t, gz0, gz1, gl_x, ob0_some, ob1_some, ob2_some, ob3_some, ob4_some, ob5_some, ob6_some, ob7_some, ob8_some, ob9_some, ob10_some, ob11_some, ob12_some, ob13_some, ea, rent_t hn a1, ient_t hn a1, s_emark hn a1, e1, e2, pf_law_c11_j782, pf_law_c11, pf_L_markOf, pf_X3_markOf, pf_X4_markOf_j34, pf_X4_markOf_j14, pf_X4_markOf, lg_same, if_true, pf_X4_thrown, nn10, nn20, nn30, nn21, nn31, nn32, if_false, t64_0, t64_1]
    exact hk _ _ _ _ _ _ _ _ _ _ _ _ _ _ _ _ _ _ _ _ _ _ _ _ _ _ _ _ _ _ _ _ _ _ _ _ hI0
  · simp (disch := omega) only [g_lit, nI_add, pk_mul, pk_div, g_sdm, pk_sub, g_clamp, ile_t, ile_f, ilt_t, ilt_f, ieq_t, ieq_f, ieq_r, gi_t, gd_t, gz0, gz1, gl_x, ob0_some, ob1_some, ob2_some, ob3_some, ob4_some, ob5_some, ob6_some, ob7_some, ob8_some, ob9_some, ob10_some, ob11_some, ob12_some, ob13_some, rent_f hn a1, ient_f hn a1, pf_law_c11_j782, pf_law_c11, pf_L_markOf, pf_X3_markOf, pf_X4_markOf_j34, pf_X4_markOf_j14, pf_X4_markOf, lg_same, if_true, pf_X4_thrown, nn10, nn20, nn30, nn21, nn31, nn32, if_false, t64_0, t64_1]
    exact hk _ _ _ _ _ _ _ _ _ _ _ _ _ _ _ _ _ _ _ _ _ _ _ _ _ _ _ _ _ _ _ _ _ _ _ _ hI0
theorem law_c12 {L i : Nat} {xs : Nat → Int32} {kL : KL} {lc : Int32} {la : Int32} {hr : Int32} {uP : Int32} {uC : Int32} {uR : Int32} {tn : Int32} {pn : Int32} {pg : Int32} {pq : Int32} {rl : Nat → Int32} {sr : Nat → Int32} {gcb : Nat → Int32} {gpb : Nat → Int64} {tg : Nat → Int32} {tm : Nat → Int32} {tl : Nat → Int32} {pm : Nat → Int32} {ps : Nat → Int32} {th : Int32} {mP : Int32} {mC : Int32} {mR : Int32} {mal : Int32} {mhd : Int32} {mn : Int32} {mg : Nat → Int32} {mt : Nat → Int32} {mh : Nat → Int32} {mz : Nat → Int32} {mset : Nat → Int32} {mfr : Nat → Int32} {mma : Nat → Int32} {mde : Nat → Int32} {mls : Nat → Int32} {ov : Nat → Int64} (hi : i + 2 < L) (hL : L ≤ 1536) (hI : LInv lc la hr uP uC uR tn rl gcb gpb tg tm tl mP mC mR mal mhd mn mg mt) (hk : HK kL) : pf_law_c12 kL L xs (nI i) lc la hr uP uC uR tn pn pg pq rl sr gcb gpb tg tm tl pm ps th mP mC mR mal mhd mn mg mt mh mz mset mfr mma mde mls ov = some 1 := by
  have hI0 := hI
  obtain ⟨P, C, n, al, eg, em, hV, hE, ha, hh, rfl, rfl, rfl, rfl, rfl, rfl, hLs, hG, hTE, hLB, rfl, rfl, rfl, rfl, rfl, rfl, hME⟩ := hI
  have hR := hV.2.2.2.2
  have hR2 := R2 hV
  have hP := hV.2.1
  have hn := hE.1
  have hcl := cl_le (still P C n al eg em) (C ^ P)
  rcases row_cases (C ^ P) (xs (i + 1)) with ⟨a, a1, ea⟩ | a1
  · obtain ⟨mh1, e4⟩ := s_lies mh hV hE hME a1
    simp (disch := omega) only [g_lit, nI_add, pk_mul, pk_div, g_sdm, pk_sub, g_clamp, ile_t, ile_f, ilt_t, ilt_f, ieq_t, ieq_f, ieq_r, gi_t, gd_t, gz0, gz1, gl_x, ob0_some, ob1_some, ob2_some, ob3_some, ob4_some, ob5_some, ob6_some, ob7_some, ob8_some, ob9_some, ob10_some, ob11_some, ob12_some, ob13_some, ea, rrow_t hV a1, irow_t hV a1, s_countLies hV hn a1 hLB, e4, pf_law_c12_j838, pf_law_c12, pf_L_liesAbout, pf_X3_liesAbout, pf_X4_liesAbout_j33, pf_X4_liesAbout_j14, pf_X4_liesAbout, lg_same, if_true, pf_X4_thrown, nn10, nn20, nn30, nn21, nn31, nn32, if_false, t64_0, t64_1]
    exact hk _ _ _ _ _ _ _ _ _ _ _ _ _ _ _ _ _ _ _ _ _ _ _ _ _ _ _ _ _ _ _ _ _ _ _ _ hI0
  · simp (disch := omega) only [g_lit, nI_add, pk_mul, pk_div, g_sdm, pk_sub, g_clamp, ile_t, ile_f, ilt_t, ilt_f, ieq_t, ieq_f, ieq_r, gi_t, gd_t, gz0, gz1, gl_x, ob0_some, ob1_some, ob2_some, ob3_some, ob4_some, ob5_some, ob6_some, ob7_some, ob8_some, ob9_some, ob10_some, ob11_some, ob12_some, ob13_some, rrow_f hV a1, irow_f hV a1, pf_law_c12_j838, pf_law_c12, pf_L_liesAbout, pf_X3_liesAbout, pf_X4_liesAbout_j33, pf_X4_liesAbout_j14, pf_X4_liesAbout, lg_same, if_true, pf_X4_thrown, nn10, nn20, nn30, nn21, nn31, nn32, if_false, t64_0, t64_1]
    exact hk _ _ _ _ _ _ _ _ _ _ _ _ _ _ _ _ _ _ _ _ _ _ _ _ _ _ _ _ _ _ _ _ _ _ _ _ hI0
theorem law_c13 {L i : Nat} {xs : Nat → Int32} {kL : KL} {lc : Int32} {la : Int32} {hr : Int32} {uP : Int32} {uC : Int32} {uR : Int32} {tn : Int32} {pn : Int32} {pg : Int32} {pq : Int32} {rl : Nat → Int32} {sr : Nat → Int32} {gcb : Nat → Int32} {gpb : Nat → Int64} {tg : Nat → Int32} {tm : Nat → Int32} {tl : Nat → Int32} {pm : Nat → Int32} {ps : Nat → Int32} {th : Int32} {mP : Int32} {mC : Int32} {mR : Int32} {mal : Int32} {mhd : Int32} {mn : Int32} {mg : Nat → Int32} {mt : Nat → Int32} {mh : Nat → Int32} {mz : Nat → Int32} {mset : Nat → Int32} {mfr : Nat → Int32} {mma : Nat → Int32} {mde : Nat → Int32} {mls : Nat → Int32} {ov : Nat → Int64} (hi : i + 2 < L) (hL : L ≤ 1536) (hI : LInv lc la hr uP uC uR tn rl gcb gpb tg tm tl mP mC mR mal mhd mn mg mt) (hk : HK kL) : pf_law_c13 kL L xs (nI i) lc la hr uP uC uR tn pn pg pq rl sr gcb gpb tg tm tl pm ps th mP mC mR mal mhd mn mg mt mh mz mset mfr mma mde mls ov = some 1 := by
  have hI0 := hI
  obtain ⟨P, C, n, al, eg, em, hV, hE, ha, hh, rfl, rfl, rfl, rfl, rfl, rfl, hLs, hG, hTE, hLB, rfl, rfl, rfl, rfl, rfl, rfl, hME⟩ := hI
  have hR := hV.2.2.2.2
  have hR2 := R2 hV
  have hP := hV.2.1
  have hn := hE.1
  have hcl := cl_le (still P C n al eg em) (C ^ P)
  obtain ⟨mh1, e4⟩ := s_many (al := al) mh hV hE ha hME
  simp (disch := omega) only [g_lit, nI_add, pk_mul, pk_div, g_sdm, pk_sub, g_clamp, ile_t, ile_f, ilt_t, ilt_f, ieq_t, ieq_f, ieq_r, gi_t, gd_t, gz0, gz1, gl_x, ob0_some, ob1_some, ob2_some, ob3_some, ob4_some, ob5_some, ob6_some, ob7_some, ob8_some, ob9_some, ob10_some, ob11_some, ob12_some, ob13_some, e4, pf_law_c13, pf_X3_left, pf_X4_left, lg_same, if_true, pf_X4_thrown, nn10, nn20, nn30, nn21, nn31, nn32, if_false, t64_0, t64_1]
  exact hk _ _ _ _ _ _ _ _ _ _ _ _ _ _ _ _ _ _ _ _ _ _ _ _ _ _ _ _ _ _ _ _ _ _ _ _ hI0
theorem law_c14 {L i : Nat} {xs : Nat → Int32} {kL : KL} {lc : Int32} {la : Int32} {hr : Int32} {uP : Int32} {uC : Int32} {uR : Int32} {tn : Int32} {pn : Int32} {pg : Int32} {pq : Int32} {rl : Nat → Int32} {sr : Nat → Int32} {gcb : Nat → Int32} {gpb : Nat → Int64} {tg : Nat → Int32} {tm : Nat → Int32} {tl : Nat → Int32} {pm : Nat → Int32} {ps : Nat → Int32} {th : Int32} {mP : Int32} {mC : Int32} {mR : Int32} {mal : Int32} {mhd : Int32} {mn : Int32} {mg : Nat → Int32} {mt : Nat → Int32} {mh : Nat → Int32} {mz : Nat → Int32} {mset : Nat → Int32} {mfr : Nat → Int32} {mma : Nat → Int32} {mde : Nat → Int32} {mls : Nat → Int32} {ov : Nat → Int64} (hi : i + 2 < L) (hL : L ≤ 1536) (hI : LInv lc la hr uP uC uR tn rl gcb gpb tg tm tl mP mC mR mal mhd mn mg mt) (hk : HK kL) : pf_law_c14 kL L xs (nI i) lc la hr uP uC uR tn pn pg pq rl sr gcb gpb tg tm tl pm ps th mP mC mR mal mhd mn mg mt mh mz mset mfr mma mde mls ov = some 1 := by
  have hI0 := hI
  obtain ⟨P, C, n, al, eg, em, hV, hE, ha, hh, rfl, rfl, rfl, rfl, rfl, rfl, hLs, hG, hTE, hLB, rfl, rfl, rfl, rfl, rfl, rfl, hME⟩ := hI
  have hR := hV.2.2.2.2
  have hR2 := R2 hV
  have hP := hV.2.1
  have hn := hE.1
  have hcl := cl_le (still P C n al eg em) (C ^ P)
  obtain ⟨mh1, e4⟩ := s_many (al := al) mh hV hE ha hME
  simp (disch := omega) only [g_lit, nI_add, pk_mul, pk_div, g_sdm, pk_sub, g_clamp, ile_t, ile_f, ilt_t, ilt_f, ieq_t, ieq_f, ieq_r, gi_t, gd_t, gz0, gz1, gl_x, ob0_some, ob1_some, ob2_some, ob3_some, ob4_some, ob5_some, ob6_some, ob7_some, ob8_some, ob9_some, ob10_some, ob11_some, ob12_some, ob13_some, e4, q_lball (al := al) hV hG hE ha hTE, pf_law_c14, pf_X4_leftByAll, lg_same, if_true, pf_X4_thrown, nn10, nn20, nn30, nn21, nn31, nn32, if_false, t64_0, t64_1]
  exact hk _ _ _ _ _ _ _ _ _ _ _ _ _ _ _ _ _ _ _ _ _ _ _ _ _ _ _ _ _ _ _ _ _ _ _ _ hI0
theorem law_c15 {L i : Nat} {xs : Nat → Int32} {kL : KL} {lc : Int32} {la : Int32} {hr : Int32} {uP : Int32} {uC : Int32} {uR : Int32} {tn : Int32} {pn : Int32} {pg : Int32} {pq : Int32} {rl : Nat → Int32} {sr : Nat → Int32} {gcb : Nat → Int32} {gpb : Nat → Int64} {tg : Nat → Int32} {tm : Nat → Int32} {tl : Nat → Int32} {pm : Nat → Int32} {ps : Nat → Int32} {th : Int32} {mP : Int32} {mC : Int32} {mR : Int32} {mal : Int32} {mhd : Int32} {mn : Int32} {mg : Nat → Int32} {mt : Nat → Int32} {mh : Nat → Int32} {mz : Nat → Int32} {mset : Nat → Int32} {mfr : Nat → Int32} {mma : Nat → Int32} {mde : Nat → Int32} {mls : Nat → Int32} {ov : Nat → Int64} (hi : i + 2 < L) (hL : L ≤ 1536) (hI : LInv lc la hr uP uC uR tn rl gcb gpb tg tm tl mP mC mR mal mhd mn mg mt) (hk : HK kL) : pf_law_c15 kL L xs (nI i) lc la hr uP uC uR tn pn pg pq rl sr gcb gpb tg tm tl pm ps th mP mC mR mal mhd mn mg mt mh mz mset mfr mma mde mls ov = some 1 := by
  have hI0 := hI
  obtain ⟨P, C, n, al, eg, em, hV, hE, ha, hh, rfl, rfl, rfl, rfl, rfl, rfl, hLs, hG, hTE, hLB, rfl, rfl, rfl, rfl, rfl, rfl, hME⟩ := hI
  have hR := hV.2.2.2.2
  have hR2 := R2 hV
  have hP := hV.2.1
  have hn := hE.1
  have hcl := cl_le (still P C n al eg em) (C ^ P)
  rcases row_cases (C ^ P) (xs (i + 1)) with ⟨a, a1, ea⟩ | a1
  · obtain ⟨mh1, e4⟩ := s_isStill (al := al) mh hV hE ha hME a1
    have e5 := s_remains (al := al) hV hn ha a1 hLB
    by_cases q : nl P C eg em n a ≤ al
    · rw [if_pos q] at e4 e5
      simp (disch := omega) only [g_lit, nI_add, pk_mul, pk_div, g_sdm, pk_sub, g_clamp, ile_t, ile_f, ilt_t, ilt_f, ieq_t, ieq_f, ieq_r, gi_t, gd_t, gz0, gz1, gl_x, ob0_some, ob1_some, ob2_some, ob3_some, ob4_some, ob5_some, ob6_some, ob7_some, ob8_some, ob9_some, ob10_some, ob11_some, ob12_some, ob13_some, ea, rrow_t hV a1, irow_t hV a1, e4, e5, pf_law_c15_j927, pf_law_c15_j921, pf_law_c15, pf_L_isLeft_j15, pf_L_isLeft, pf_X3_isLeft, pf_X4_isLeft_j37, pf_X4_isLeft_j36, pf_X4_isLeft_j14, pf_X4_isLeft, lg_same, if_true, pf_X4_thrown, nn10, nn20, nn30, nn21, nn31, nn32, if_false, t64_0, t64_1]
      exact hk _ _ _ _ _ _ _ _ _ _ _ _ _ _ _ _ _ _ _ _ _ _ _ _ _ _ _ _ _ _ _ _ _ _ _ _ hI0
    · rw [if_neg q] at e4 e5
      simp (disch := omega) only [g_lit, nI_add, pk_mul, pk_div, g_sdm, pk_sub, g_clamp, ile_t, ile_f, ilt_t, ilt_f, ieq_t, ieq_f, ieq_r, gi_t, gd_t, gz0, gz1, gl_x, ob0_some, ob1_some, ob2_some, ob3_some, ob4_some, ob5_some, ob6_some, ob7_some, ob8_some, ob9_some, ob10_some, ob11_some, ob12_some, ob13_some, ea, rrow_t hV a1, irow_t hV a1, e4, e5, pf_law_c15_j927, pf_law_c15_j921, pf_law_c15, pf_L_isLeft_j15, pf_L_isLeft, pf_X3_isLeft, pf_X4_isLeft_j37, pf_X4_isLeft_j36, pf_X4_isLeft_j14, pf_X4_isLeft, lg_same, if_true, pf_X4_thrown, nn10, nn20, nn30, nn21, nn31, nn32, if_false, t64_0, t64_1]
      exact hk _ _ _ _ _ _ _ _ _ _ _ _ _ _ _ _ _ _ _ _ _ _ _ _ _ _ _ _ _ _ _ _ _ _ _ _ hI0
  · simp (disch := omega) only [g_lit, nI_add, pk_mul, pk_div, g_sdm, pk_sub, g_clamp, ile_t, ile_f, ilt_t, ilt_f, ieq_t, ieq_f, ieq_r, gi_t, gd_t, gz0, gz1, gl_x, ob0_some, ob1_some, ob2_some, ob3_some, ob4_some, ob5_some, ob6_some, ob7_some, ob8_some, ob9_some, ob10_some, ob11_some, ob12_some, ob13_some, rrow_f hV a1, irow_f hV a1, pf_law_c15_j927, pf_law_c15_j921, pf_law_c15, pf_L_isLeft_j15, pf_L_isLeft, pf_X3_isLeft, pf_X4_isLeft_j37, pf_X4_isLeft_j36, pf_X4_isLeft_j14, pf_X4_isLeft, lg_same, if_true, pf_X4_thrown, nn10, nn20, nn30, nn21, nn31, nn32, if_false, t64_0, t64_1]
    exact hk _ _ _ _ _ _ _ _ _ _ _ _ _ _ _ _ _ _ _ _ _ _ _ _ _ _ _ _ _ _ _ _ _ _ _ _ hI0
theorem law_c16 {L i : Nat} {xs : Nat → Int32} {kL : KL} {lc : Int32} {la : Int32} {hr : Int32} {uP : Int32} {uC : Int32} {uR : Int32} {tn : Int32} {pn : Int32} {pg : Int32} {pq : Int32} {rl : Nat → Int32} {sr : Nat → Int32} {gcb : Nat → Int32} {gpb : Nat → Int64} {tg : Nat → Int32} {tm : Nat → Int32} {tl : Nat → Int32} {pm : Nat → Int32} {ps : Nat → Int32} {th : Int32} {mP : Int32} {mC : Int32} {mR : Int32} {mal : Int32} {mhd : Int32} {mn : Int32} {mg : Nat → Int32} {mt : Nat → Int32} {mh : Nat → Int32} {mz : Nat → Int32} {mset : Nat → Int32} {mfr : Nat → Int32} {mma : Nat → Int32} {mde : Nat → Int32} {mls : Nat → Int32} {ov : Nat → Int64} (hi : i + 2 < L) (hL : L ≤ 1536) (hI : LInv lc la hr uP uC uR tn rl gcb gpb tg tm tl mP mC mR mal mhd mn mg mt) (hk : HK kL) : pf_law_c16 kL L xs (nI i) lc la hr uP uC uR tn pn pg pq rl sr gcb gpb tg tm tl pm ps th mP mC mR mal mhd mn mg mt mh mz mset mfr mma mde mls ov = some 1 := by
  have hI0 := hI
  obtain ⟨P, C, n, al, eg, em, hV, hE, ha, hh, rfl, rfl, rfl, rfl, rfl, rfl, hLs, hG, hTE, hLB, rfl, rfl, rfl, rfl, rfl, rfl, hME⟩ := hI
  have hR := hV.2.2.2.2
  have hR2 := R2 hV
  have hP := hV.2.1
  have hn := hE.1
  have hcl := cl_le (still P C n al eg em) (C ^ P)
  obtain ⟨mh1, ms1, e4, hL2⟩ := s_lays (al := al) mh mset hV hE ha hME
  rcases row_cases (cl (still P C n al eg em) (C ^ P)) (xs (i + 1)) with ⟨a, a1, ea⟩ | a1
  · have e1 := (Sg_Ls hLs a a1).1
    have e2 := (Sg_Ls hL2 a a1).1
    rw [Nat.zero_add] at e1 e2
    have e3 := in_m_t (by omega : cl (still P C n al eg em) (C ^ P) ≤ 256) a1
    simp (disch := omega) only [g_lit, nI_add, pk_mul, pk_div, g_sdm, pk_sub, g_clamp, ile_t, ile_f, ilt_t, ilt_f, ieq_t, ieq_f, ieq_r, gi_t, gd_t, gz0, gz1, gl_x, ob0_some, ob1_some, ob2_some, ob3_some, ob4_some, ob5_some, ob6_some, ob7_some, ob8_some, ob9_some, ob10_some, ob11_some, ob12_some, ob13_some, ea, e1, e2, e3, e4, pf_law_c16_j983, pf_law_c16, pf_L_leftAt, pf_X3_leftAt_j21, pf_X3_leftAt, pf_X4_leftAt_j42, pf_X4_leftAt_j22, pf_X4_leftAt, lg_same, if_true, pf_X4_thrown, nn10, nn20, nn30, nn21, nn31, nn32, if_false, t64_0, t64_1]
    exact hk _ _ _ _ _ _ _ _ _ _ _ _ _ _ _ _ _ _ _ _ _ _ _ _ _ _ _ _ _ _ _ _ _ _ _ _ hI0
  · have e3 := in_n_f (by omega : cl (still P C n al eg em) (C ^ P) ≤ 256) a1
    generalize hz : cl (still P C n al eg em) (C ^ P) = z at *
    rcases a1 with a1 | ⟨q, q1, q2, ea⟩
    · have e5 : pf_L_leftAt (nI z) rl ov (xs (i + 1)) = some (nI 1, ov) := by simp (disch := omega) only [g_lit, nI_add, pk_mul, pk_div, g_sdm, pk_sub, g_clamp, ile_t, ile_f, ilt_t, ilt_f, ieq_t, ieq_f, ieq_r, gi_t, gd_t, gz0, gz1, gl_x, ob0_some, ob1_some, ob2_some, ob3_some, ob4_some, ob5_some, ob6_some, ob7_some, ob8_some, ob9_some, ob10_some, ob11_some, ob12_some, ob13_some, ilt_n a1, pf_L_leftAt, pf_X3_leftAt_j21, pf_X3_leftAt, lg_same, if_true, pf_X4_thrown, nn10, nn20, nn30, nn21, nn31, nn32, if_false, t64_0, t64_1]
      have e6 : pf_X4_leftAt th (nI P) (nI C) (nI (C ^ P)) (nI al) (nI n) mg mt mh mset (xs (i + 1)) = some (nI 0, nI 1, mh1, ms1) := by
        unfold pf_X4_leftAt
        refine (ob3_e e4).trans ?_
        refine (ob1_e e3).trans ?_
        simp (disch := omega) only [g_lit, nI_add, pk_mul, pk_div, g_sdm, pk_sub, g_clamp, ile_t, ile_f, ilt_t, ilt_f, ieq_t, ieq_f, ieq_r, gi_t, gd_t, gz0, gz1, gl_x, ob0_some, ob1_some, ob2_some, ob3_some, ob4_some, ob5_some, ob6_some, ob7_some, ob8_some, ob9_some, ob10_some, ob11_some, ob12_some, ob13_some, pf_X4_leftAt_j42, pf_X4_leftAt_j22, pf_X4_leftAt, lg_same, if_true, pf_X4_thrown, nn10, nn20, nn30, nn21, nn31, nn32, if_false, t64_0, t64_1]
      simp (disch := omega) only [g_lit, nI_add, pk_mul, pk_div, g_sdm, pk_sub, g_clamp, ile_t, ile_f, ilt_t, ilt_f, ieq_t, ieq_f, ieq_r, gi_t, gd_t, gz0, gz1, gl_x, ob0_some, ob1_some, ob2_some, ob3_some, ob4_some, ob5_some, ob6_some, ob7_some, ob8_some, ob9_some, ob10_some, ob11_some, ob12_some, ob13_some, e5, e6, pf_law_c16_j983, pf_law_c16, lg_same, if_true, pf_X4_thrown, nn10, nn20, nn30, nn21, nn31, nn32, if_false, t64_0, t64_1]
      exact hk _ _ _ _ _ _ _ _ _ _ _ _ _ _ _ _ _ _ _ _ _ _ _ _ _ _ _ _ _ _ _ _ _ _ _ _ hI0
    · rw [ea] at e3
      have e5 : pf_L_leftAt (nI z) rl ov (nI q) = some (nI 1, ov) := by simp (disch := omega) only [g_lit, nI_add, pk_mul, pk_div, g_sdm, pk_sub, g_clamp, ile_t, ile_f, ilt_t, ilt_f, ieq_t, ieq_f, ieq_r, gi_t, gd_t, gz0, gz1, gl_x, ob0_some, ob1_some, ob2_some, ob3_some, ob4_some, ob5_some, ob6_some, ob7_some, ob8_some, ob9_some, ob10_some, ob11_some, ob12_some, ob13_some, pf_L_leftAt, pf_X3_leftAt_j21, pf_X3_leftAt, lg_same, if_true, pf_X4_thrown, nn10, nn20, nn30, nn21, nn31, nn32, if_false, t64_0, t64_1]
      have e6 : pf_X4_leftAt th (nI P) (nI C) (nI (C ^ P)) (nI al) (nI n) mg mt mh mset (nI q) = some (nI 0, nI 1, mh1, ms1) := by
        unfold pf_X4_leftAt
        refine (ob3_e e4).trans ?_
        refine (ob1_e e3).trans ?_
        simp (disch := omega) only [g_lit, nI_add, pk_mul, pk_div, g_sdm, pk_sub, g_clamp, ile_t, ile_f, ilt_t, ilt_f, ieq_t, ieq_f, ieq_r, gi_t, gd_t, gz0, gz1, gl_x, ob0_some, ob1_some, ob2_some, ob3_some, ob4_some, ob5_some, ob6_some, ob7_some, ob8_some, ob9_some, ob10_some, ob11_some, ob12_some, ob13_some, pf_X4_leftAt_j42, pf_X4_leftAt_j22, pf_X4_leftAt, lg_same, if_true, pf_X4_thrown, nn10, nn20, nn30, nn21, nn31, nn32, if_false, t64_0, t64_1]
      simp (disch := omega) only [g_lit, nI_add, pk_mul, pk_div, g_sdm, pk_sub, g_clamp, ile_t, ile_f, ilt_t, ilt_f, ieq_t, ieq_f, ieq_r, gi_t, gd_t, gz0, gz1, gl_x, ob0_some, ob1_some, ob2_some, ob3_some, ob4_some, ob5_some, ob6_some, ob7_some, ob8_some, ob9_some, ob10_some, ob11_some, ob12_some, ob13_some, ea, e5, e6, pf_law_c16_j983, pf_law_c16, lg_same, if_true, pf_X4_thrown, nn10, nn20, nn30, nn21, nn31, nn32, if_false, t64_0, t64_1]
      exact hk _ _ _ _ _ _ _ _ _ _ _ _ _ _ _ _ _ _ _ _ _ _ _ _ _ _ _ _ _ _ _ _ _ _ _ _ hI0

theorem nI_m1' {m : Nat} (h : m < 2147483648) : (nI m = -nI 1) = False := eq_false (fun q => nI_m1 h (q.trans (by decide)))
theorem m1_neg : (-nI 1 : Int32) = -1 := by decide
section
variable {P C n al : Nat} {eg em : Nat → Nat} {gcb tg tm tl mg mt : Nat → Int32} {gpb : Nat → Int64}
theorem q_nothing (lc la hr tn : Int32) (rl tl : Nat → Int32) (hV : VG P C) : ∃ rl' tl', pf_X3_tellNothing lc la hr (nI (C ^ P)) tn rl tl = some (nI (cl (still P C 0 0 (fun _ => 0) (fun _ => 0)) (C ^ P)), nI 0, -nI 1, nI 0, rl', tl') ∧ Ls (still P C 0 0 (fun _ => 0) (fun _ => 0)) (C ^ P) rl' ∧ LB P C 0 (fun _ => 0) (fun _ => 0) tl' := by
  have hR := hV.2.2.2.2
  obtain ⟨tl1, e1, h1⟩ := s_fill tl (nI 0) (by decide : 256 < 100000)
  have hl : LB P C 0 (fun _ => 0) (fun _ => 0) tl1 := fun r hr => h1 r (by omega)
  obtain ⟨rl1, e2, h2⟩ := s_list (al := 0) lc rl hV (by omega) (by omega) hl
  exact ⟨rl1, tl1, by simp (disch := omega) only [g_lit, nI_add, pk_mul, pk_div, g_sdm, pk_sub, g_clamp, ile_t, ile_f, ilt_t, ilt_f, ieq_t, ieq_f, ieq_r, gi_t, gd_t, gz0, gz1, gl_x, ob0_some, ob1_some, ob2_some, ob3_some, ob4_some, ob5_some, ob6_some, ob7_some, ob8_some, ob9_some, ob10_some, ob11_some, ob12_some, ob13_some, pf_X3_tellNothing, pf_X0_forgetAll, e1, e2], h2, hl⟩
theorem q_begin (th mP mC mR mal mhd mn : Int32) (hV : VG P C) : pf_X4_begin th mP mC mR mal mhd mn (nI P) (nI C) = some (nI (C ^ P), nI 0, nI P, nI C, nI (C ^ P), nI 0, -nI 1, nI 0) := by
  have hR := hV.2.2.2.2
  simp (disch := omega) only [g_lit, nI_add, pk_mul, pk_div, g_sdm, pk_sub, g_clamp, ile_t, ile_f, ilt_t, ilt_f, ieq_t, ieq_f, ieq_r, gi_t, gd_t, gz0, gz1, gl_x, ob0_some, ob1_some, ob2_some, ob3_some, ob4_some, ob5_some, ob6_some, ob7_some, ob8_some, ob9_some, ob10_some, ob11_some, ob12_some, ob13_some, pf_X4_begin_j37, pf_X4_begin_j36, pf_X4_begin, s_in_t hV.1 hV.2.1, s_in_t hV.2.2.1 hV.2.2.2.1, s_power hV.2.1 hV.2.2.2.1]
theorem q_begin_no {v1 v2 : Int32} (th mP mC mR mal mhd mn : Int32) (h : NG v1 v2) : pf_X4_begin th mP mC mR mal mhd mn v1 v2 = some (nI 0, nI 1, mP, mC, mR, mal, mhd, mn) := by
  have tail : pf_X4_begin_j36 v1 v2 th mP mC mR mal mhd mn = some (nI 0, nI 1, mP, mC, mR, mal, mhd, mn) := by
    unfold pf_X4_begin_j36 pf_X4_begin_j37
    exact if_neg (by decide)
  rcases i32_cases v1 with h1 | ⟨a, a1, rfl⟩
  · simp (disch := omega) only [g_lit, nI_add, pk_mul, pk_div, g_sdm, pk_sub, g_clamp, ile_t, ile_f, ilt_t, ilt_f, ieq_t, ieq_f, ieq_r, gi_t, gd_t, gz0, gz1, gl_x, ob0_some, ob1_some, ob2_some, ob3_some, ob4_some, ob5_some, ob6_some, ob7_some, ob8_some, ob9_some, ob10_some, ob11_some, ob12_some, ob13_some, pf_X4_begin, s_in_lo (by omega : 1 < 2147483648) h1, tail, if_true]
  · by_cases q1 : a < 1 ∨ 8 < a
    · simp (disch := omega) only [g_lit, nI_add, pk_mul, pk_div, g_sdm, pk_sub, g_clamp, ile_t, ile_f, ilt_t, ilt_f, ieq_t, ieq_f, ieq_r, gi_t, gd_t, gz0, gz1, gl_x, ob0_some, ob1_some, ob2_some, ob3_some, ob4_some, ob5_some, ob6_some, ob7_some, ob8_some, ob9_some, ob10_some, ob11_some, ob12_some, ob13_some, pf_X4_begin, s_in_f q1 (by omega) a1, tail, if_true]
    · have i1 := s_in_t (a := 1) (j := a) (b := 8) (by omega) (by omega) (by omega)
      rcases i32_cases v2 with h2 | ⟨b, b1, rfl⟩
      · simp (disch := omega) only [g_lit, nI_add, pk_mul, pk_div, g_sdm, pk_sub, g_clamp, ile_t, ile_f, ilt_t, ilt_f, ieq_t, ieq_f, ieq_r, gi_t, gd_t, gz0, gz1, gl_x, ob0_some, ob1_some, ob2_some, ob3_some, ob4_some, ob5_some, ob6_some, ob7_some, ob8_some, ob9_some, ob10_some, ob11_some, ob12_some, ob13_some, pf_X4_begin, i1, s_in_lo (by omega : 2 < 2147483648) h2, tail, if_true]
      · by_cases q2 : b < 2 ∨ 6 < b
        · simp (disch := omega) only [g_lit, nI_add, pk_mul, pk_div, g_sdm, pk_sub, g_clamp, ile_t, ile_f, ilt_t, ilt_f, ieq_t, ieq_f, ieq_r, gi_t, gd_t, gz0, gz1, gl_x, ob0_some, ob1_some, ob2_some, ob3_some, ob4_some, ob5_some, ob6_some, ob7_some, ob8_some, ob9_some, ob10_some, ob11_some, ob12_some, ob13_some, pf_X4_begin, i1, s_in_f q2 (by omega) b1, tail, if_true]
        · have i2 := s_in_t (a := 2) (j := b) (b := 6) (by omega) (by omega) (by omega)
          have hp := s_power (P := a) (C := b) (by omega) (by omega)
          have h6 := pow6 (C := b) (i := a) (by omega) (by omega)
          have q3 : 256 < b ^ a := by
            by_cases z : b ^ a ≤ 256
            · exact absurd ⟨by omega, by omega, by omega, by omega, z⟩ (h a b rfl rfl)
            · omega
          simp (disch := omega) only [g_lit, nI_add, pk_mul, pk_div, g_sdm, pk_sub, g_clamp, ile_t, ile_f, ilt_t, ilt_f, ieq_t, ieq_f, ieq_r, gi_t, gd_t, gz0, gz1, gl_x, ob0_some, ob1_some, ob2_some, ob3_some, ob4_some, ob5_some, ob6_some, ob7_some, ob8_some, ob9_some, ob10_some, ob11_some, ob12_some, ob13_some, pf_X4_begin, i1, i2, hp, tail]
theorem q_add {g m : Nat} (lc : Int32) (rl tg tm : Nat → Int32) (hV : VG P C) (hG : laid P C (C ^ P) gcb gpb) (hn : n < 10) (ha : al ≤ 3) (hg : g < C ^ P) (hm : m ≤ 99) (hl : LB P C n eg em tl) : ∃ rl' tl', pf_X3_addEntry lc (nI al) (nI P) (nI (C ^ P)) (nI n) rl gcb gpb tg tm tl (nI g) (nI m) = some (nI (cl (still P C (n + 1) al (eup eg n g) (eup em n m)) (C ^ P)), nI (n + 1), rl', upd tg n (nI g), upd tm n (nI m), tl') ∧ Ls (still P C (n + 1) al (eup eg n g) (eup em n m)) (C ^ P) rl' ∧ LB P C (n + 1) (eup eg n g) (eup em n m) tl' := by
  obtain ⟨tl1, e1, h1⟩ := s_add tg tm hV hG hn hg hm hl
  obtain ⟨rl1, e2, h2⟩ := s_list (al := al) lc rl hV (by omega) ha h1
  exact ⟨rl1, tl1, by simp (disch := omega) only [g_lit, nI_add, pk_mul, pk_div, g_sdm, pk_sub, g_clamp, ile_t, ile_f, ilt_t, ilt_f, ieq_t, ieq_f, ieq_r, gi_t, gd_t, gz0, gz1, gl_x, ob0_some, ob1_some, ob2_some, ob3_some, ob4_some, ob5_some, ob6_some, ob7_some, ob8_some, ob9_some, ob10_some, ob11_some, ob12_some, ob13_some, pf_X3_addEntry, e1, e2], h2, h1⟩
theorem nl_next {g m h : Nat} (eg em : Nat → Nat) : nl P C (eup eg n g) (eup em n m) (n + 1) h = nl P C eg em n h + (if mk P C g h = m then 0 else 1) := by
  show nl P C (eup eg n g) (eup em n m) n h + lie P C (eup eg n g) (eup em n m) n h = _
  rw [nl_up n (Nat.le_refl n)]
  unfold lie
  rw [eup_s, eup_s]
theorem q_full (hn : n ≤ 10) (hf : n < 10) : pf_X0_isFull (nI n) = some (nI 0) := by
  have h := s_isFull hn
  rwa [if_pos hf] at h
theorem q_full1 : pf_X0_isFull (nI 10) = some (nI 1) := s_isFull (Nat.le_refl 10)
end
theorem law_c0 {L i : Nat} {xs : Nat → Int32} {kL : KL} {lc : Int32} {la : Int32} {hr : Int32} {uP : Int32} {uC : Int32} {uR : Int32} {tn : Int32} {pn : Int32} {pg : Int32} {pq : Int32} {rl : Nat → Int32} {sr : Nat → Int32} {gcb : Nat → Int32} {gpb : Nat → Int64} {tg : Nat → Int32} {tm : Nat → Int32} {tl : Nat → Int32} {pm : Nat → Int32} {ps : Nat → Int32} {th : Int32} {mP : Int32} {mC : Int32} {mR : Int32} {mal : Int32} {mhd : Int32} {mn : Int32} {mg : Nat → Int32} {mt : Nat → Int32} {mh : Nat → Int32} {mz : Nat → Int32} {mset : Nat → Int32} {mfr : Nat → Int32} {mma : Nat → Int32} {mde : Nat → Int32} {mls : Nat → Int32} {ov : Nat → Int64} (hi : i + 2 < L) (hL : L ≤ 1536) (hI : LInv lc la hr uP uC uR tn rl gcb gpb tg tm tl mP mC mR mal mhd mn mg mt) (hk : HK kL) : pf_law_c0 kL L xs (nI i) lc la hr uP uC uR tn pn pg pq rl sr gcb gpb tg tm tl pm ps th mP mC mR mal mhd mn mg mt mh mz mset mfr mma mde mls ov = some 1 := by
  have hI0 := hI
  obtain ⟨P, C, n, al, eg, em, hV, hE, ha, hh, rfl, rfl, rfl, rfl, rfl, rfl, hLs, hG, hTE, hLB, rfl, rfl, rfl, rfl, rfl, rfl, hME⟩ := hI
  have hR := hV.2.2.2.2
  have hR2 := R2 hV
  have hP := hV.2.1
  have hn := hE.1
  have hcl := cl_le (still P C n al eg em) (C ^ P)
  rcases game_cases (xs (i + 1)) (xs (i + 2)) with ⟨P', C', e1, e2, hV'⟩ | hno
  · obtain ⟨gcb1, gpb1, e3, hG1⟩ := s_lay (nI P) (nI C) (nI (C ^ P)) gcb gpb hV'
    obtain ⟨rl1, tl1, e4, hL1, hB1⟩ := q_nothing (nI (cl (still P C n al eg em) (C ^ P))) (nI al) mhd (nI n) rl tl hV'
    have e5 := q_begin th (nI P) (nI C) (nI (C ^ P)) (nI al) mhd (nI n) hV'
    simp (disch := omega) only [g_lit, nI_add, pk_mul, pk_div, g_sdm, pk_sub, g_clamp, ile_t, ile_f, ilt_t, ilt_f, ieq_t, ieq_f, ieq_r, gi_t, gd_t, gz0, gz1, gl_x, ob0_some, ob1_some, ob2_some, ob3_some, ob4_some, ob5_some, ob6_some, ob7_some, ob8_some, ob9_some, ob10_some, ob11_some, ob12_some, ob13_some, e1, e2, e3, e4, e5, pf_law_c0_j221, pf_law_c0, pf_L_begin, pf_X3_begin, lg_same, if_true, pf_X4_thrown, nn10, nn20, nn30, nn21, nn31, nn32, if_false, t64_0, t64_1]
    exact hk _ _ _ _ _ _ _ _ _ _ _ _ _ _ _ _ _ _ _ _ _ _ _ _ _ _ _ _ _ _ _ _ _ _ _ _ (⟨P', C', 0, 0, fun _ => 0, fun _ => 0, hV', ⟨by omega, fun i hi => absurd hi (Nat.not_lt_zero i)⟩, by omega, Or.inl m1_neg, rfl, rfl, rfl, rfl, rfl, rfl, hL1, hG1, fun i hi => absurd hi (Nat.not_lt_zero i), hB1, rfl, rfl, rfl, rfl, rfl, rfl, fun i hi => absurd hi (Nat.not_lt_zero i)⟩)
  · have e3 := s_lay_no (nI P) (nI C) (nI (C ^ P)) gcb gpb hno
    have e5 := q_begin_no th (nI P) (nI C) (nI (C ^ P)) (nI al) mhd (nI n) hno
    simp (disch := omega) only [g_lit, nI_add, pk_mul, pk_div, g_sdm, pk_sub, g_clamp, ile_t, ile_f, ilt_t, ilt_f, ieq_t, ieq_f, ieq_r, gi_t, gd_t, gz0, gz1, gl_x, ob0_some, ob1_some, ob2_some, ob3_some, ob4_some, ob5_some, ob6_some, ob7_some, ob8_some, ob9_some, ob10_some, ob11_some, ob12_some, ob13_some, e3, e5, pf_law_c0_j221, pf_law_c0, pf_L_begin, pf_X3_begin, lg_same, if_true, pf_X4_thrown, nn10, nn20, nn30, nn21, nn31, nn32, if_false, t64_0, t64_1]
    exact hk _ _ _ _ _ _ _ _ _ _ _ _ _ _ _ _ _ _ _ _ _ _ _ _ _ _ _ _ _ _ _ _ _ _ _ _ hI0
theorem law_c4 {L i : Nat} {xs : Nat → Int32} {kL : KL} {lc : Int32} {la : Int32} {hr : Int32} {uP : Int32} {uC : Int32} {uR : Int32} {tn : Int32} {pn : Int32} {pg : Int32} {pq : Int32} {rl : Nat → Int32} {sr : Nat → Int32} {gcb : Nat → Int32} {gpb : Nat → Int64} {tg : Nat → Int32} {tm : Nat → Int32} {tl : Nat → Int32} {pm : Nat → Int32} {ps : Nat → Int32} {th : Int32} {mP : Int32} {mC : Int32} {mR : Int32} {mal : Int32} {mhd : Int32} {mn : Int32} {mg : Nat → Int32} {mt : Nat → Int32} {mh : Nat → Int32} {mz : Nat → Int32} {mset : Nat → Int32} {mfr : Nat → Int32} {mma : Nat → Int32} {mde : Nat → Int32} {mls : Nat → Int32} {ov : Nat → Int64} (hi : i + 2 < L) (hL : L ≤ 1536) (hI : LInv lc la hr uP uC uR tn rl gcb gpb tg tm tl mP mC mR mal mhd mn mg mt) (hk : HK kL) : pf_law_c4 kL L xs (nI i) lc la hr uP uC uR tn pn pg pq rl sr gcb gpb tg tm tl pm ps th mP mC mR mal mhd mn mg mt mh mz mset mfr mma mde mls ov = some 1 := by
  have hI0 := hI
  obtain ⟨P, C, n, al, eg, em, hV, hE, ha, hh, rfl, rfl, rfl, rfl, rfl, rfl, hLs, hG, hTE, hLB, rfl, rfl, rfl, rfl, rfl, rfl, hME⟩ := hI
  have hR := hV.2.2.2.2
  have hR2 := R2 hV
  have hP := hV.2.1
  have hn := hE.1
  have hcl := cl_le (still P C n al eg em) (C ^ P)
  rcases row_cases 4 (xs (i + 1)) with ⟨a, a1, ea⟩ | a1
  · obtain ⟨rl1, e3, hL1⟩ := s_list (al := a) (nI (cl (still P C n al eg em) (C ^ P))) rl hV hn (by omega) hLB
    have e4 := s_in_t (a := 0) (j := a) (b := 3) (by omega) (by omega) (by omega)
    rcases hh with rfl | ⟨r, r1, r2, rfl⟩
    · simp (disch := omega) only [g_lit, nI_add, pk_mul, pk_div, g_sdm, pk_sub, g_clamp, ile_t, ile_f, ilt_t, ilt_f, ieq_t, ieq_f, ieq_r, gi_t, gd_t, gz0, gz1, gl_x, ob0_some, ob1_some, ob2_some, ob3_some, ob4_some, ob5_some, ob6_some, ob7_some, ob8_some, ob9_some, ob10_some, ob11_some, ob12_some, ob13_some, ea, e3, e4, pf_law_c4_j426, pf_law_c4, pf_L_allowLies, pf_X3_allowLies_j9, pf_X3_allowLies_j52, pf_X3_allowLies, pf_X4_allowLies_j39, pf_X4_allowLies_j38, pf_X4_allowLies, lg_same, if_true, pf_X4_thrown, nn10, nn20, nn30, nn21, nn31, nn32, if_false, t64_0, t64_1]
      exact hk _ _ _ _ _ _ _ _ _ _ _ _ _ _ _ _ _ _ _ _ _ _ _ _ _ _ _ _ _ _ _ _ _ _ _ _ (⟨P, C, n, a, eg, em, hV, hE, by omega, Or.inl m1_neg, rfl, rfl, rfl, rfl, rfl, rfl, hL1, hG, hTE, hLB, rfl, rfl, rfl, rfl, rfl, rfl, hME⟩)
    · have n1 := nI_m1' (by omega : r < 2147483648)
      obtain ⟨mh1, e5⟩ := s_lies mh hV hE hME r1
      have e6 := s_countLies hV hn r1 hLB
      have hnl := nl_le P C eg em n r
      by_cases q : nl P C eg em n r ≤ a
      · simp (disch := omega) only [g_lit, nI_add, pk_mul, pk_div, g_sdm, pk_sub, g_clamp, ile_t, ile_f, ilt_t, ilt_f, ieq_t, ieq_f, ieq_r, gi_t, gd_t, gz0, gz1, gl_x, ob0_some, ob1_some, ob2_some, ob3_some, ob4_some, ob5_some, ob6_some, ob7_some, ob8_some, ob9_some, ob10_some, ob11_some, ob12_some, ob13_some, ea, e3, e4, e5, e6, n1, pf_law_c4_j426, pf_law_c4, pf_L_allowLies, pf_X3_allowLies_j9, pf_X3_allowLies_j52, pf_X3_allowLies, pf_X4_allowLies_j39, pf_X4_allowLies_j38, pf_X4_allowLies, lg_same, if_true, pf_X4_thrown, nn10, nn20, nn30, nn21, nn31, nn32, if_false, t64_0, t64_1]
        exact hk _ _ _ _ _ _ _ _ _ _ _ _ _ _ _ _ _ _ _ _ _ _ _ _ _ _ _ _ _ _ _ _ _ _ _ _ (⟨P, C, n, a, eg, em, hV, hE, by omega, Or.inr ⟨r, r1, q, rfl⟩, rfl, rfl, rfl, rfl, rfl, rfl, hL1, hG, hTE, hLB, rfl, rfl, rfl, rfl, rfl, rfl, hME⟩)
      · simp (disch := omega) only [g_lit, nI_add, pk_mul, pk_div, g_sdm, pk_sub, g_clamp, ile_t, ile_f, ilt_t, ilt_f, ieq_t, ieq_f, ieq_r, gi_t, gd_t, gz0, gz1, gl_x, ob0_some, ob1_some, ob2_some, ob3_some, ob4_some, ob5_some, ob6_some, ob7_some, ob8_some, ob9_some, ob10_some, ob11_some, ob12_some, ob13_some, ea, e3, e4, e5, e6, n1, pf_law_c4_j426, pf_law_c4, pf_L_allowLies, pf_X3_allowLies_j9, pf_X3_allowLies_j52, pf_X3_allowLies, pf_X4_allowLies_j39, pf_X4_allowLies_j38, pf_X4_allowLies, lg_same, if_true, pf_X4_thrown, nn10, nn20, nn30, nn21, nn31, nn32, if_false, t64_0, t64_1]
        exact hk _ _ _ _ _ _ _ _ _ _ _ _ _ _ _ _ _ _ _ _ _ _ _ _ _ _ _ _ _ _ _ _ _ _ _ _ hI0
  · have e4 : pf_X4_in (xs (i + 1)) (nI 0) (nI 3) = some (nI 0) := in_m_f (n := 4) (by omega) (by omega) a1
    have e5 : pf_X3_allowLies (nI (cl (still P C n al eg em) (C ^ P))) (nI al) mhd (nI (C ^ P)) (nI n) rl tl (xs (i + 1)) = some (2, nI 0, nI (cl (still P C n al eg em) (C ^ P)), nI al, rl) := by
      rcases a1 with a1 | ⟨q, q1, q2, ea⟩
      · simp (disch := omega) only [g_lit, nI_add, pk_mul, pk_div, g_sdm, pk_sub, g_clamp, ile_t, ile_f, ilt_t, ilt_f, ieq_t, ieq_f, ieq_r, gi_t, gd_t, gz0, gz1, gl_x, ob0_some, ob1_some, ob2_some, ob3_some, ob4_some, ob5_some, ob6_some, ob7_some, ob8_some, ob9_some, ob10_some, ob11_some, ob12_some, ob13_some, ilt_n a1, pf_X3_allowLies_j9, pf_X3_allowLies_j52, pf_X3_allowLies, lg_same, if_true, pf_X4_thrown, nn10, nn20, nn30, nn21, nn31, nn32, if_false, t64_0, t64_1]
      · rw [ea]
        simp (disch := omega) only [g_lit, nI_add, pk_mul, pk_div, g_sdm, pk_sub, g_clamp, ile_t, ile_f, ilt_t, ilt_f, ieq_t, ieq_f, ieq_r, gi_t, gd_t, gz0, gz1, gl_x, ob0_some, ob1_some, ob2_some, ob3_some, ob4_some, ob5_some, ob6_some, ob7_some, ob8_some, ob9_some, ob10_some, ob11_some, ob12_some, ob13_some, pf_X3_allowLies_j9, pf_X3_allowLies_j52, pf_X3_allowLies, lg_same, if_true, pf_X4_thrown, nn10, nn20, nn30, nn21, nn31, nn32, if_false, t64_0, t64_1]
    simp (disch := omega) only [g_lit, nI_add, pk_mul, pk_div, g_sdm, pk_sub, g_clamp, ile_t, ile_f, ilt_t, ilt_f, ieq_t, ieq_f, ieq_r, gi_t, gd_t, gz0, gz1, gl_x, ob0_some, ob1_some, ob2_some, ob3_some, ob4_some, ob5_some, ob6_some, ob7_some, ob8_some, ob9_some, ob10_some, ob11_some, ob12_some, ob13_some, e4, e5, pf_law_c4_j426, pf_law_c4, pf_L_allowLies, pf_X4_allowLies_j39, pf_X4_allowLies_j38, pf_X4_allowLies, lg_same, if_true, pf_X4_thrown, nn10, nn20, nn30, nn21, nn31, nn32, if_false, t64_0, t64_1]
    exact hk _ _ _ _ _ _ _ _ _ _ _ _ _ _ _ _ _ _ _ _ _ _ _ _ _ _ _ _ _ _ _ _ _ _ _ _ hI0

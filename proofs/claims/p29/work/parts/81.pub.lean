/-! what the calls that keep something answer, and what they keep -/
section
variable {P C n al : Nat} {eg em : Nat → Nat} {gcb : Nat → Int32} {gpb : Nat → Int64} {rl tg tm tl : Nat → Int32}
theorem q_nothing (lc la hr tn : Int32) (rl tl : Nat → Int32) (hV : VG P C) : ∃ rl' tl', pf_X3_tellNothing lc la hr (nI (C ^ P)) tn rl tl = some (nI (cl (still P C 0 0 (fun _ => 0) (fun _ => 0)) (C ^ P)), nI 0, -nI 1, nI 0, rl', tl') ∧ Ls (still P C 0 0 (fun _ => 0) (fun _ => 0)) (C ^ P) rl' ∧ LB P C 0 (fun _ => 0) (fun _ => 0) tl' := by
  have hR := hV.2.2.2.2
  obtain ⟨tl1, e1, h1⟩ := s_fill tl (nI 0) (by decide : 256 < 100000)
  have hl : LB P C 0 (fun _ => 0) (fun _ => 0) tl1 := fun r hr => h1 r (by omega)
  obtain ⟨rl1, e2, h2⟩ := s_list (al := 0) lc rl hV (by omega) (by omega) hl
  exact ⟨rl1, tl1, by simp (disch := omega) only [g_lit, nI_add, pk_mul, pk_div, g_sdm, pk_sub, g_clamp, ile_t, ile_f, ilt_t, ilt_f, ieq_t, ieq_f, ieq_r, gi_t, gd_t, gz0, gz1, gl_x, ob0_some, ob1_some, ob2_some, ob3_some, ob4_some, ob5_some, ob6_some, ob7_some, ob8_some, ob9_some, ob10_some, ob11_some, ob12_some, ob13_some, pf_X3_tellNothing, pf_X0_forgetAll, e1, e2], h2, hl⟩
theorem w_begin_t (lc la hr uP uC uR tn : Int32) (rl gcb : Nat → Int32) (gpb : Nat → Int64) (tl : Nat → Int32) (hV : VG P C) : ∃ rl' gcb' gpb' tl', pf_L_begin lc la hr uP uC uR tn rl gcb gpb tl (nI P) (nI C) = some (nI (C ^ P), nI (cl (still P C 0 0 (fun _ => 0) (fun _ => 0)) (C ^ P)), nI 0, -nI 1, nI P, nI C, nI (C ^ P), nI 0, rl', gcb', gpb', tl') ∧ laid P C (C ^ P) gcb' gpb' ∧ Ls (still P C 0 0 (fun _ => 0) (fun _ => 0)) (C ^ P) rl' ∧ LB P C 0 (fun _ => 0) (fun _ => 0) tl' := by
  obtain ⟨gcb1, gpb1, e1, hG1⟩ := s_lay uP uC uR gcb gpb hV
  obtain ⟨rl1, tl1, e2, hL1, hB1⟩ := q_nothing lc la hr tn rl tl hV
  exact ⟨rl1, gcb1, gpb1, tl1, by simp (disch := omega) only [g_lit, nI_add, pk_mul, pk_div, g_sdm, pk_sub, g_clamp, ile_t, ile_f, ilt_t, ilt_f, ieq_t, ieq_f, ieq_r, gi_t, gd_t, gz0, gz1, gl_x, ob0_some, ob1_some, ob2_some, ob3_some, ob4_some, ob5_some, ob6_some, ob7_some, ob8_some, ob9_some, ob10_some, ob11_some, ob12_some, ob13_some, pf_L_begin, pf_X3_begin, e1, e2, if_true, nn10, nn20, nn30, nn21, nn31, nn32, if_false], hG1, hL1, hB1⟩
theorem w_begin_f (lc la hr uP uC uR tn : Int32) (rl gcb : Nat → Int32) (gpb : Nat → Int64) (tl : Nat → Int32) {v1 v2 : Int32} (h : NG v1 v2) : pf_L_begin lc la hr uP uC uR tn rl gcb gpb tl v1 v2 = some (-nI 72, lc, la, hr, uP, uC, uR, tn, rl, gcb, gpb, tl) := by
  have e := s_lay_no uP uC uR gcb gpb h
  simp (disch := omega) only [g_lit, nI_add, pk_mul, pk_div, g_sdm, pk_sub, g_clamp, ile_t, ile_f, ilt_t, ilt_f, ieq_t, ieq_f, ieq_r, gi_t, gd_t, gz0, gz1, gl_x, ob0_some, ob1_some, ob2_some, ob3_some, ob4_some, ob5_some, ob6_some, ob7_some, ob8_some, ob9_some, ob10_some, ob11_some, ob12_some, ob13_some, pf_L_begin, pf_X3_begin, e, if_true, nn10, nn20, nn30, nn21, nn31, nn32, if_false]
theorem w_allow_t {a : Nat} {hr lc : Int32} (hV : VG P C) (hn : n ≤ 10) (ha : a ≤ 3) (hl : LB P C n eg em tl) (hh : hr = -1 ∨ ∃ r, r < C ^ P ∧ nl P C eg em n r ≤ a ∧ hr = nI r) : ∃ rl', pf_L_allowLies lc (nI al) hr (nI (C ^ P)) (nI n) rl tl (nI a) = some (nI al, nI (cl (still P C n a eg em) (C ^ P)), nI a, rl') ∧ Ls (still P C n a eg em) (C ^ P) rl' := by
  have hR := hV.2.2.2.2
  obtain ⟨rl1, e3, hL1⟩ := s_list (al := a) lc rl hV hn ha hl
  refine ⟨rl1, ?_, hL1⟩
  rcases hh with rfl | ⟨r, r1, q, rfl⟩
  · simp (disch := omega) only [g_lit, nI_add, pk_mul, pk_div, g_sdm, pk_sub, g_clamp, ile_t, ile_f, ilt_t, ilt_f, ieq_t, ieq_f, ieq_r, gi_t, gd_t, gz0, gz1, gl_x, ob0_some, ob1_some, ob2_some, ob3_some, ob4_some, ob5_some, ob6_some, ob7_some, ob8_some, ob9_some, ob10_some, ob11_some, ob12_some, ob13_some, pf_L_allowLies, pf_X3_allowLies_j9, pf_X3_allowLies_j52, pf_X3_allowLies, e3, if_true, nn10, nn20, nn30, nn21, nn31, nn32, if_false]
  · have n1 := nI_m1' (by omega : r < 2147483648)
    have e6 := s_countLies hV hn r1 hl
    have hnl := nl_le P C eg em n r
    simp (disch := omega) only [g_lit, nI_add, pk_mul, pk_div, g_sdm, pk_sub, g_clamp, ile_t, ile_f, ilt_t, ilt_f, ieq_t, ieq_f, ieq_r, gi_t, gd_t, gz0, gz1, gl_x, ob0_some, ob1_some, ob2_some, ob3_some, ob4_some, ob5_some, ob6_some, ob7_some, ob8_some, ob9_some, ob10_some, ob11_some, ob12_some, ob13_some, pf_L_allowLies, pf_X3_allowLies_j9, pf_X3_allowLies_j52, pf_X3_allowLies, e3, n1, e6, if_true, nn10, nn20, nn30, nn21, nn31, nn32, if_false]
theorem w_allow_s {a r : Nat} {lc : Int32} (hV : VG P C) (hn : n ≤ 10) (ha : a ≤ 3) (hl : LB P C n eg em tl) (hr : r < C ^ P) (q : a < nl P C eg em n r) : pf_L_allowLies lc (nI al) (nI r) (nI (C ^ P)) (nI n) rl tl (nI a) = some (-nI 73, lc, nI al, rl) := by
  have hR := hV.2.2.2.2
  have n1 := nI_m1' (by omega : r < 2147483648)
  have e6 := s_countLies hV hn hr hl
  have hnl := nl_le P C eg em n r
  simp (disch := omega) only [g_lit, nI_add, pk_mul, pk_div, g_sdm, pk_sub, g_clamp, ile_t, ile_f, ilt_t, ilt_f, ieq_t, ieq_f, ieq_r, gi_t, gd_t, gz0, gz1, gl_x, ob0_some, ob1_some, ob2_some, ob3_some, ob4_some, ob5_some, ob6_some, ob7_some, ob8_some, ob9_some, ob10_some, ob11_some, ob12_some, ob13_some, pf_L_allowLies, pf_X3_allowLies_j9, pf_X3_allowLies_j52, pf_X3_allowLies, n1, e6, if_true, nn10, nn20, nn30, nn21, nn31, nn32, if_false]
theorem w_allow_f {lc la hr uR tn v : Int32} (h : NR 4 v) : pf_L_allowLies lc la hr uR tn rl tl v = some (-nI 72, lc, la, rl) := by
  rcases h with h | ⟨k, k1, k2, rfl⟩
  · simp (disch := omega) only [g_lit, nI_add, pk_mul, pk_div, g_sdm, pk_sub, g_clamp, ile_t, ile_f, ilt_t, ilt_f, ieq_t, ieq_f, ieq_r, gi_t, gd_t, gz0, gz1, gl_x, ob0_some, ob1_some, ob2_some, ob3_some, ob4_some, ob5_some, ob6_some, ob7_some, ob8_some, ob9_some, ob10_some, ob11_some, ob12_some, ob13_some, pf_L_allowLies, pf_X3_allowLies_j9, pf_X3_allowLies_j52, pf_X3_allowLies, ilt_n h, if_true, nn10, nn20, nn30, nn21, nn31, nn32, if_false]
  · simp (disch := omega) only [g_lit, nI_add, pk_mul, pk_div, g_sdm, pk_sub, g_clamp, ile_t, ile_f, ilt_t, ilt_f, ieq_t, ieq_f, ieq_r, gi_t, gd_t, gz0, gz1, gl_x, ob0_some, ob1_some, ob2_some, ob3_some, ob4_some, ob5_some, ob6_some, ob7_some, ob8_some, ob9_some, ob10_some, ob11_some, ob12_some, ob13_some, pf_L_allowLies, pf_X3_allowLies_j9, pf_X3_allowLies_j52, pf_X3_allowLies, if_true, nn10, nn20, nn30, nn21, nn31, nn32, if_false]
theorem w_hide_t {a : Nat} {hr : Int32} (hV : VG P C) (hn : n ≤ 10) (ha : al ≤ 3) (hl : LB P C n eg em tl) (h1 : a < C ^ P) (q : nl P C eg em n a ≤ al) (hh : hr = -1 ∨ ∃ r, r < C ^ P ∧ hr = nI r) : pf_L_hide (nI al) hr (nI (C ^ P)) (nI n) tl (nI a) = some (nI (if hr = -1 then 0 else 1), nI a) := by
  have hR := hV.2.2.2.2
  have e5 := s_remains hV hn ha h1 hl
  rw [if_pos q] at e5
  rcases hh with rfl | ⟨r, r1, rfl⟩
  · simp (disch := omega) only [g_lit, nI_add, pk_mul, pk_div, g_sdm, pk_sub, g_clamp, ile_t, ile_f, ilt_t, ilt_f, ieq_t, ieq_f, ieq_r, gi_t, gd_t, gz0, gz1, gl_x, ob0_some, ob1_some, ob2_some, ob3_some, ob4_some, ob5_some, ob6_some, ob7_some, ob8_some, ob9_some, ob10_some, ob11_some, ob12_some, ob13_some, pf_L_hide_j26, pf_L_hide, pf_X3_hide_j36, pf_X3_hide, rrow_t hV h1, e5, if_true, nn10, nn20, nn30, nn21, nn31, nn32, if_false]
  · have n1 := nI_m1' (by omega : r < 2147483648)
    simp (disch := omega) only [g_lit, nI_add, pk_mul, pk_div, g_sdm, pk_sub, g_clamp, ile_t, ile_f, ilt_t, ilt_f, ieq_t, ieq_f, ieq_r, gi_t, gd_t, gz0, gz1, gl_x, ob0_some, ob1_some, ob2_some, ob3_some, ob4_some, ob5_some, ob6_some, ob7_some, ob8_some, ob9_some, ob10_some, ob11_some, ob12_some, ob13_some, pf_L_hide_j26, pf_L_hide, pf_X3_hide_j36, pf_X3_hide, rrow_t hV h1, e5, n1, if_true, nn10, nn20, nn30, nn21, nn31, nn32, if_false]
theorem w_hide_s {a : Nat} {hr : Int32} (hV : VG P C) (hn : n ≤ 10) (ha : al ≤ 3) (hl : LB P C n eg em tl) (h1 : a < C ^ P) (q : ¬ nl P C eg em n a ≤ al) : pf_L_hide (nI al) hr (nI (C ^ P)) (nI n) tl (nI a) = some (-nI 73, hr) := by
  have e5 := s_remains hV hn ha h1 hl
  rw [if_neg q] at e5
  simp (disch := omega) only [g_lit, nI_add, pk_mul, pk_div, g_sdm, pk_sub, g_clamp, ile_t, ile_f, ilt_t, ilt_f, ieq_t, ieq_f, ieq_r, gi_t, gd_t, gz0, gz1, gl_x, ob0_some, ob1_some, ob2_some, ob3_some, ob4_some, ob5_some, ob6_some, ob7_some, ob8_some, ob9_some, ob10_some, ob11_some, ob12_some, ob13_some, pf_L_hide_j26, pf_L_hide, pf_X3_hide_j36, pf_X3_hide, rrow_t hV h1, e5, if_true, nn10, nn20, nn30, nn21, nn31, nn32, if_false]
theorem w_hide_f {la hr tn v : Int32} (hV : VG P C) (h : NR (C ^ P) v) : pf_L_hide la hr (nI (C ^ P)) tn tl v = some (-nI 71, hr) := by
  simp (disch := omega) only [g_lit, nI_add, pk_mul, pk_div, g_sdm, pk_sub, g_clamp, ile_t, ile_f, ilt_t, ilt_f, ieq_t, ieq_f, ieq_r, gi_t, gd_t, gz0, gz1, gl_x, ob0_some, ob1_some, ob2_some, ob3_some, ob4_some, ob5_some, ob6_some, ob7_some, ob8_some, ob9_some, ob10_some, ob11_some, ob12_some, ob13_some, pf_L_hide_j26, pf_L_hide, pf_X3_hide_j36, pf_X3_hide, rrow_f hV h, if_true, nn10, nn20, nn30, nn21, nn31, nn32, if_false]
theorem q_full (hn : n ≤ 10) (hf : n < 10) : pf_X0_isFull (nI n) = some (nI 0) := by
  have h := s_isFull hn
  rwa [if_pos hf] at h
theorem q_full1 : pf_X0_isFull (nI 10) = some (nI 1) := s_isFull (Nat.le_refl 10)
theorem q_add {g m : Nat} (lc : Int32) (rl tg tm : Nat → Int32) (hV : VG P C) (hG : laid P C (C ^ P) gcb gpb) (hn : n < 10) (ha : al ≤ 3) (hg : g < C ^ P) (hm : m ≤ 99) (hl : LB P C n eg em tl) : ∃ rl' tl', pf_X3_addEntry lc (nI al) (nI P) (nI (C ^ P)) (nI n) rl gcb gpb tg tm tl (nI g) (nI m) = some (nI (cl (still P C (n + 1) al (eup eg n g) (eup em n m)) (C ^ P)), nI (n + 1), rl', upd tg n (nI g), upd tm n (nI m), tl') ∧ Ls (still P C (n + 1) al (eup eg n g) (eup em n m)) (C ^ P) rl' ∧ LB P C (n + 1) (eup eg n g) (eup em n m) tl' := by
  obtain ⟨tl1, e1, h1⟩ := s_add tg tm hV hG hn hg hm hl
  obtain ⟨rl1, e2, h2⟩ := s_list (al := al) lc rl hV (by omega) ha h1
  exact ⟨rl1, tl1, by simp (disch := omega) only [g_lit, nI_add, pk_mul, pk_div, g_sdm, pk_sub, g_clamp, ile_t, ile_f, ilt_t, ilt_f, ieq_t, ieq_f, ieq_r, gi_t, gd_t, gz0, gz1, gl_x, ob0_some, ob1_some, ob2_some, ob3_some, ob4_some, ob5_some, ob6_some, ob7_some, ob8_some, ob9_some, ob10_some, ob11_some, ob12_some, ob13_some, pf_X3_addEntry, e1, e2], h2, h1⟩
theorem nl_next {g m h : Nat} (eg em : Nat → Nat) : nl P C (eup eg n g) (eup em n m) (n + 1) h = nl P C eg em n h + (if mk P C g h = m then 0 else 1) := by
  show nl P C (eup eg n g) (eup em n m) n h + lie P C (eup eg n g) (eup em n m) n h = _
  rw [nl_up n (Nat.le_refl n)]
  unfold lie
  rw [eup_s, eup_s]
theorem w_guess_t {a r : Nat} {lc : Int32} (hV : VG P C) (hG : laid P C (C ^ P) gcb gpb) (hn : n < 10) (hal : al ≤ 3) (hl : LB P C n eg em tl) (ha : a < C ^ P) (hr : r < C ^ P) : ∃ rl' tl', pf_L_guess lc (nI al) (nI r) (nI P) (nI (C ^ P)) (nI n) rl gcb gpb tg tm tl (nI a) = some (nI (mk P C a r), nI (cl (still P C (n + 1) al (eup eg n a) (eup em n (mk P C a r))) (C ^ P)), nI (n + 1), rl', upd tg n (nI a), upd tm n (nI (mk P C a r)), tl') ∧ Ls (still P C (n + 1) al (eup eg n a) (eup em n (mk P C a r))) (C ^ P) rl' ∧ LB P C (n + 1) (eup eg n a) (eup em n (mk P C a r)) tl' := by
  have hR := hV.2.2.2.2
  have n1 := nI_m1' (by omega : r < 2147483648)
  have e1 := q_full (by omega) hn
  have e2 := cmp hV hG ha hr
  have hm := mk80 hV a r
  obtain ⟨rl1, tl1, e4, hL1, hB1⟩ := q_add lc rl tg tm hV hG hn hal ha (by omega : mk P C a r ≤ 99) hl
  exact ⟨rl1, tl1, by simp (disch := omega) only [g_lit, nI_add, pk_mul, pk_div, g_sdm, pk_sub, g_clamp, ile_t, ile_f, ilt_t, ilt_f, ieq_t, ieq_f, ieq_r, gi_t, gd_t, gz0, gz1, gl_x, ob0_some, ob1_some, ob2_some, ob3_some, ob4_some, ob5_some, ob6_some, ob7_some, ob8_some, ob9_some, ob10_some, ob11_some, ob12_some, ob13_some, pf_L_guess, pf_X3_guess_j23, pf_X3_guess, rrow_t hV ha, n1, e1, e2, e4, if_true, nn10, nn20, nn30, nn21, nn31, nn32, if_false], hL1, hB1⟩
theorem w_guess_s {a : Nat} {lc la hr : Int32} (hV : VG P C) (hn : n ≤ 10) (ha : a < C ^ P) (h : hr = -1 ∨ ((∃ r, r < C ^ P ∧ hr = nI r) ∧ n = 10)) : pf_L_guess lc la hr (nI P) (nI (C ^ P)) (nI n) rl gcb gpb tg tm tl (nI a) = some (-nI 73, lc, nI n, rl, tg, tm, tl) := by
  have hR := hV.2.2.2.2
  rcases h with rfl | ⟨⟨r, r1, rfl⟩, rfl⟩
  · simp (disch := omega) only [g_lit, nI_add, pk_mul, pk_div, g_sdm, pk_sub, g_clamp, ile_t, ile_f, ilt_t, ilt_f, ieq_t, ieq_f, ieq_r, gi_t, gd_t, gz0, gz1, gl_x, ob0_some, ob1_some, ob2_some, ob3_some, ob4_some, ob5_some, ob6_some, ob7_some, ob8_some, ob9_some, ob10_some, ob11_some, ob12_some, ob13_some, pf_L_guess, pf_X3_guess_j23, pf_X3_guess, rrow_t hV ha, if_true, nn10, nn20, nn30, nn21, nn31, nn32, if_false]
  · have n1 := nI_m1' (by omega : r < 2147483648)
    simp (disch := omega) only [g_lit, nI_add, pk_mul, pk_div, g_sdm, pk_sub, g_clamp, ile_t, ile_f, ilt_t, ilt_f, ieq_t, ieq_f, ieq_r, gi_t, gd_t, gz0, gz1, gl_x, ob0_some, ob1_some, ob2_some, ob3_some, ob4_some, ob5_some, ob6_some, ob7_some, ob8_some, ob9_some, ob10_some, ob11_some, ob12_some, ob13_some, pf_L_guess, pf_X3_guess_j23, pf_X3_guess, rrow_t hV ha, n1, q_full1, if_true, nn10, nn20, nn30, nn21, nn31, nn32, if_false]
theorem w_guess_f {lc la hr tn v : Int32} (hV : VG P C) (h : NR (C ^ P) v) : pf_L_guess lc la hr (nI P) (nI (C ^ P)) tn rl gcb gpb tg tm tl v = some (-nI 71, lc, tn, rl, tg, tm, tl) := by
  simp (disch := omega) only [g_lit, nI_add, pk_mul, pk_div, g_sdm, pk_sub, g_clamp, ile_t, ile_f, ilt_t, ilt_f, ieq_t, ieq_f, ieq_r, gi_t, gd_t, gz0, gz1, gl_x, ob0_some, ob1_some, ob2_some, ob3_some, ob4_some, ob5_some, ob6_some, ob7_some, ob8_some, ob9_some, ob10_some, ob11_some, ob12_some, ob13_some, pf_L_guess, pf_X3_guess_j23, pf_X3_guess, rrow_f hV h, if_true, nn10, nn20, nn30, nn21, nn31, nn32, if_false]
theorem w_tell_t {a m : Nat} {lc hr : Int32} (hV : VG P C) (hG : laid P C (C ^ P) gcb gpb) (hn : n < 10) (hal : al ≤ 3) (hl : LB P C n eg em tl) (ha : a < C ^ P) (hm : m ≤ 80) (p1 : pf_X1_allows (nI P) (nI m) = some (nI 1)) (hh : hr = -1 ∨ ∃ r, r < C ^ P ∧ hr = nI r ∧ nl P C eg em n r + (if mk P C a r = m then 0 else 1) ≤ al) : ∃ rl' tl', pf_L_tell lc (nI al) hr (nI P) (nI (C ^ P)) (nI n) rl gcb gpb tg tm tl (nI a) (nI m) = some (nI (cl (still P C (n + 1) al (eup eg n a) (eup em n m)) (C ^ P)), nI (cl (still P C (n + 1) al (eup eg n a) (eup em n m)) (C ^ P)), nI (n + 1), rl', upd tg n (nI a), upd tm n (nI m), tl') ∧ Ls (still P C (n + 1) al (eup eg n a) (eup em n m)) (C ^ P) rl' ∧ LB P C (n + 1) (eup eg n a) (eup em n m) tl' := by
  have hR := hV.2.2.2.2
  have e1 := q_full (by omega) hn
  obtain ⟨rl1, tl1, e4, hL1, hB1⟩ := q_add lc rl tg tm hV hG hn hal ha (by omega : m ≤ 99) hl
  refine ⟨rl1, tl1, ?_, hL1, hB1⟩
  rcases hh with rfl | ⟨r, r1, rfl, q⟩
  · simp (disch := omega) only [g_lit, nI_add, pk_mul, pk_div, g_sdm, pk_sub, g_clamp, ile_t, ile_f, ilt_t, ilt_f, ieq_t, ieq_f, ieq_r, gi_t, gd_t, gz0, gz1, gl_x, ob0_some, ob1_some, ob2_some, ob3_some, ob4_some, ob5_some, ob6_some, ob7_some, ob8_some, ob9_some, ob10_some, ob11_some, ob12_some, ob13_some, pf_L_tell, pf_X3_tell_j29, pf_X3_tell, pf_X3_requirePossible, pf_X3_wouldLoseHidden_j47, pf_X3_wouldLoseHidden_j46, pf_X3_wouldLoseHidden, rrow_t hV ha, p1, e1, e4, if_true, nn10, nn20, nn30, nn21, nn31, nn32, if_false]
  · have n1 := nI_m1' (by omega : r < 2147483648)
    have e2 := cmp hV hG ha r1
    have hmk := mk80 hV a r
    have hnl := nl_le P C eg em n r
    have e7 := s_countLies hV (by omega) r1 hl
    by_cases q1 : mk P C a r = m
    · rw [q1] at e2
      simp (disch := omega) only [g_lit, nI_add, pk_mul, pk_div, g_sdm, pk_sub, g_clamp, ile_t, ile_f, ilt_t, ilt_f, ieq_t, ieq_f, ieq_r, gi_t, gd_t, gz0, gz1, gl_x, ob0_some, ob1_some, ob2_some, ob3_some, ob4_some, ob5_some, ob6_some, ob7_some, ob8_some, ob9_some, ob10_some, ob11_some, ob12_some, ob13_some, pf_L_tell, pf_X3_tell_j29, pf_X3_tell, pf_X3_requirePossible, pf_X3_wouldLoseHidden_j47, pf_X3_wouldLoseHidden_j46, pf_X3_wouldLoseHidden, rrow_t hV ha, p1, e1, e4, n1, e2, e7, if_true, nn10, nn20, nn30, nn21, nn31, nn32, if_false]
    · rw [if_neg q1] at q
      simp (disch := omega) only [g_lit, nI_add, pk_mul, pk_div, g_sdm, pk_sub, g_clamp, ile_t, ile_f, ilt_t, ilt_f, ieq_t, ieq_f, ieq_r, gi_t, gd_t, gz0, gz1, gl_x, ob0_some, ob1_some, ob2_some, ob3_some, ob4_some, ob5_some, ob6_some, ob7_some, ob8_some, ob9_some, ob10_some, ob11_some, ob12_some, ob13_some, pf_L_tell, pf_X3_tell_j29, pf_X3_tell, pf_X3_requirePossible, pf_X3_wouldLoseHidden_j47, pf_X3_wouldLoseHidden_j46, pf_X3_wouldLoseHidden, rrow_t hV ha, p1, e1, e4, n1, e2, e7, if_true, nn10, nn20, nn30, nn21, nn31, nn32, if_false]
theorem w_tell_s {a m : Nat} {lc hr : Int32} (hV : VG P C) (hG : laid P C (C ^ P) gcb gpb) (hn : n ≤ 10) (hal : al ≤ 3) (hl : LB P C n eg em tl) (ha : a < C ^ P) (hm : m ≤ 80) (p1 : pf_X1_allows (nI P) (nI m) = some (nI 1)) (hh : n = 10 ∨ ∃ r, r < C ^ P ∧ hr = nI r ∧ al < nl P C eg em n r + (if mk P C a r = m then 0 else 1) ∧ nl P C eg em n r ≤ al) : pf_L_tell lc (nI al) hr (nI P) (nI (C ^ P)) (nI n) rl gcb gpb tg tm tl (nI a) (nI m) = some (-nI 73, lc, nI n, rl, tg, tm, tl) := by
  have hR := hV.2.2.2.2
  by_cases hf : n = 10
  · subst hf
    simp (disch := omega) only [g_lit, nI_add, pk_mul, pk_div, g_sdm, pk_sub, g_clamp, ile_t, ile_f, ilt_t, ilt_f, ieq_t, ieq_f, ieq_r, gi_t, gd_t, gz0, gz1, gl_x, ob0_some, ob1_some, ob2_some, ob3_some, ob4_some, ob5_some, ob6_some, ob7_some, ob8_some, ob9_some, ob10_some, ob11_some, ob12_some, ob13_some, pf_L_tell, pf_X3_tell_j29, pf_X3_tell, pf_X3_requirePossible, rrow_t hV ha, p1, q_full1, if_true, nn10, nn20, nn30, nn21, nn31, nn32, if_false]
  · have e1 := q_full hn (by omega)
    rcases hh with hh | ⟨r, r1, rfl, q, q0⟩
    · exact absurd hh hf
    · have n1 := nI_m1' (by omega : r < 2147483648)
      have e2 := cmp hV hG ha r1
      have hmk := mk80 hV a r
      have hnl := nl_le P C eg em n r
      have e7 := s_countLies hV (by omega) r1 hl
      by_cases q1 : mk P C a r = m
      · rw [if_pos q1] at q
        omega
      · rw [if_neg q1] at q
        simp (disch := omega) only [g_lit, nI_add, pk_mul, pk_div, g_sdm, pk_sub, g_clamp, ile_t, ile_f, ilt_t, ilt_f, ieq_t, ieq_f, ieq_r, gi_t, gd_t, gz0, gz1, gl_x, ob0_some, ob1_some, ob2_some, ob3_some, ob4_some, ob5_some, ob6_some, ob7_some, ob8_some, ob9_some, ob10_some, ob11_some, ob12_some, ob13_some, pf_L_tell, pf_X3_tell_j29, pf_X3_tell, pf_X3_requirePossible, pf_X3_wouldLoseHidden_j47, pf_X3_wouldLoseHidden_j46, pf_X3_wouldLoseHidden, rrow_t hV ha, p1, e1, n1, e2, e7, if_true, nn10, nn20, nn30, nn21, nn31, nn32, if_false]
theorem w_tell_f1 {lc la hr tn v w : Int32} (hV : VG P C) (h : NR (C ^ P) v) : pf_L_tell lc la hr (nI P) (nI (C ^ P)) tn rl gcb gpb tg tm tl v w = some (-nI 71, lc, tn, rl, tg, tm, tl) := by
  simp (disch := omega) only [g_lit, nI_add, pk_mul, pk_div, g_sdm, pk_sub, g_clamp, ile_t, ile_f, ilt_t, ilt_f, ieq_t, ieq_f, ieq_r, gi_t, gd_t, gz0, gz1, gl_x, ob0_some, ob1_some, ob2_some, ob3_some, ob4_some, ob5_some, ob6_some, ob7_some, ob8_some, ob9_some, ob10_some, ob11_some, ob12_some, ob13_some, pf_L_tell, pf_X3_tell_j29, pf_X3_tell, rrow_f hV h, if_true, nn10, nn20, nn30, nn21, nn31, nn32, if_false]
theorem w_tell_f2 {a : Nat} {lc la hr tn w : Int32} (hV : VG P C) (ha : a < C ^ P) (p1 : pf_X1_allows (nI P) w = some (nI 0)) : pf_L_tell lc la hr (nI P) (nI (C ^ P)) tn rl gcb gpb tg tm tl (nI a) w = some (-nI 72, lc, tn, rl, tg, tm, tl) := by
  simp (disch := omega) only [g_lit, nI_add, pk_mul, pk_div, g_sdm, pk_sub, g_clamp, ile_t, ile_f, ilt_t, ilt_f, ieq_t, ieq_f, ieq_r, gi_t, gd_t, gz0, gz1, gl_x, ob0_some, ob1_some, ob2_some, ob3_some, ob4_some, ob5_some, ob6_some, ob7_some, ob8_some, ob9_some, ob10_some, ob11_some, ob12_some, ob13_some, pf_L_tell, pf_X3_tell_j29, pf_X3_tell, pf_X3_requirePossible, rrow_t hV ha, p1, if_true, nn10, nn20, nn30, nn21, nn31, nn32, if_false]
theorem w_back_0 {lc la uR : Int32} : pf_L_takeBack lc la uR (nI 0) rl tl = some (-nI 73, lc, nI 0, rl, tl) := by
  simp (disch := omega) only [g_lit, nI_add, pk_mul, pk_div, g_sdm, pk_sub, g_clamp, ile_t, ile_f, ilt_t, ilt_f, ieq_t, ieq_f, ieq_r, gi_t, gd_t, gz0, gz1, gl_x, ob0_some, ob1_some, ob2_some, ob3_some, ob4_some, ob5_some, ob6_some, ob7_some, ob8_some, ob9_some, ob10_some, ob11_some, ob12_some, ob13_some, pf_L_takeBack, pf_X3_takeBack, if_true, nn10, nn20, nn30, nn21, nn31, nn32, if_false]
theorem w_back_t {lc : Int32} (hV : VG P C) (hn : n < 10) (hal : al ≤ 3) (hl : LB P C (n + 1) eg em tl) : ∃ rl' tl', pf_L_takeBack lc (nI al) (nI (C ^ P)) (nI (n + 1)) rl tl = some (nI (cl (still P C n al eg em) (C ^ P)), nI (cl (still P C n al eg em) (C ^ P)), nI n, rl', tl') ∧ Ls (still P C n al eg em) (C ^ P) rl' ∧ LB P C n eg em tl' := by
  obtain ⟨tl1, e1, hB1⟩ := s_drop hV hn hl
  obtain ⟨rl1, e2, hL1⟩ := s_list (al := al) lc rl hV (by omega) hal hB1
  exact ⟨rl1, tl1, by simp (disch := omega) only [g_lit, nI_add, pk_mul, pk_div, g_sdm, pk_sub, g_clamp, ile_t, ile_f, ilt_t, ilt_f, ieq_t, ieq_f, ieq_r, gi_t, gd_t, gz0, gz1, gl_x, ob0_some, ob1_some, ob2_some, ob3_some, ob4_some, ob5_some, ob6_some, ob7_some, ob8_some, ob9_some, ob10_some, ob11_some, ob12_some, ob13_some, pf_L_takeBack, pf_X3_takeBack, e1, e2, if_true, nn10, nn20, nn30, nn21, nn31, nn32, if_false], hL1, hB1⟩
end

theorem rrow_t {P C j : Nat} (hV : VG P C) (hj : j < C ^ P) : pf_X3_requireRow (nI (C ^ P)) (nI j) = some 0 := by
  simp (disch := omega) only [g_lit, nI_add, pk_mul, pk_div, g_sdm, pk_sub, g_clamp, ile_t, ile_f, ilt_t, ilt_f, ieq_t, ieq_f, ieq_r, gi_t, gd_t, gz0, gz1, gl_x, ob0_some, ob1_some, ob2_some, ob3_some, ob4_some, ob5_some, ob6_some, ob7_some, ob8_some, ob9_some, ob10_some, ob11_some, ob12_some, ob13_some, pf_X3_requireRow, s_X1_has_t hV.2.2.2.2 hj]
theorem rrow_f {P C : Nat} (hV : VG P C) {v : Int32} (h : NR (C ^ P) v) : pf_X3_requireRow (nI (C ^ P)) v = some 1 := by
  simp (disch := omega) only [g_lit, nI_add, pk_mul, pk_div, g_sdm, pk_sub, g_clamp, ile_t, ile_f, ilt_t, ilt_f, ieq_t, ieq_f, ieq_r, gi_t, gd_t, gz0, gz1, gl_x, ob0_some, ob1_some, ob2_some, ob3_some, ob4_some, ob5_some, ob6_some, ob7_some, ob8_some, ob9_some, ob10_some, ob11_some, ob12_some, ob13_some, pf_X3_requireRow, s_has_no hV.2.2.2.2 h, if_true]
theorem rent_t {n j : Nat} (hn : n ≤ 10) (hj : j < n) : pf_X3_requireEntry (nI n) (nI j) = some 0 := by
  simp (disch := omega) only [g_lit, nI_add, pk_mul, pk_div, g_sdm, pk_sub, g_clamp, ile_t, ile_f, ilt_t, ilt_f, ieq_t, ieq_f, ieq_r, gi_t, gd_t, gz0, gz1, gl_x, ob0_some, ob1_some, ob2_some, ob3_some, ob4_some, ob5_some, ob6_some, ob7_some, ob8_some, ob9_some, ob10_some, ob11_some, ob12_some, ob13_some, pf_X3_requireEntry, s_ehas_t hn hj]
theorem rent_f {n : Nat} (hn : n ≤ 10) {v : Int32} (h : NR n v) : pf_X3_requireEntry (nI n) v = some 1 := by
  simp (disch := omega) only [g_lit, nI_add, pk_mul, pk_div, g_sdm, pk_sub, g_clamp, ile_t, ile_f, ilt_t, ilt_f, ieq_t, ieq_f, ieq_r, gi_t, gd_t, gz0, gz1, gl_x, ob0_some, ob1_some, ob2_some, ob3_some, ob4_some, ob5_some, ob6_some, ob7_some, ob8_some, ob9_some, ob10_some, ob11_some, ob12_some, ob13_some, pf_X3_requireEntry, s_ehas_f hn h, if_true]
theorem lg_same (ov : Nat → Int64) (x : Int64) : lg_cmp (vp_updL ov 0 x 0) x = nI 0 := by
  rw [pk_uLs]
  unfold lg_cmp
  rw [if_neg Int64.lt_irrefl, if_pos rfl]
  rfl

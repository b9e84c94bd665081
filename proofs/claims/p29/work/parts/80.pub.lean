/-! what the class's public methods answer, as the law calls them -/
theorem nI_m1' {m : Nat} (h : m < 2147483648) : (nI m = -nI 1) = False := eq_false (fun q => nI_m1 h (q.trans (by decide)))
theorem m1_neg : (-nI 1 : Int32) = -1 := by decide
theorem m1_eq : ((-nI 1 : Int32) = -nI 1) = True := eq_true rfl
section
variable {P C n al : Nat} {eg em : Nat → Nat} {gcb : Nat → Int32} {gpb : Nat → Int64} {rl tg tm tl : Nat → Int32} {st : Nat → Bool}
theorem w_col_t {r p : Nat} (hV : VG P C) (hG : laid P C (C ^ P) gcb gpb) (hr : r < C ^ P) (hp : p < P) : pf_L_colourAt (nI P) (nI (C ^ P)) gcb (nI r) (nI p) = some (nI (dg C (P - 1 - p) r)) := by
  have hR := hV.2.2.2.2
  have hP := hV.2.1
  have e1 := s_colourOf hV.2.1 hV.2.2.1 hV.2.2.2.1 hR hr hp (fun r h => (hG r h).1)
  simp (disch := omega) only [g_lit, nI_add, pk_mul, pk_div, g_sdm, pk_sub, g_clamp, ile_t, ile_f, ilt_t, ilt_f, ieq_t, ieq_f, ieq_r, gi_t, gd_t, gz0, gz1, gl_x, ob0_some, ob1_some, ob2_some, ob3_some, ob4_some, ob5_some, ob6_some, ob7_some, ob8_some, ob9_some, ob10_some, ob11_some, ob12_some, ob13_some, pf_L_colourAt, pf_X3_colourAt_j26, pf_X3_colourAt, s_X1_has_t hR hr, e1, if_true, nn10, nn20, nn30, nn21, nn31, nn32, if_false]
theorem w_col_f1 {v w : Int32} (hV : VG P C) (h : NR (C ^ P) v) : pf_L_colourAt (nI P) (nI (C ^ P)) gcb v w = some (-nI 71) := by
  simp (disch := omega) only [g_lit, nI_add, pk_mul, pk_div, g_sdm, pk_sub, g_clamp, ile_t, ile_f, ilt_t, ilt_f, ieq_t, ieq_f, ieq_r, gi_t, gd_t, gz0, gz1, gl_x, ob0_some, ob1_some, ob2_some, ob3_some, ob4_some, ob5_some, ob6_some, ob7_some, ob8_some, ob9_some, ob10_some, ob11_some, ob12_some, ob13_some, pf_L_colourAt, pf_X3_colourAt_j26, pf_X3_colourAt, s_has_no hV.2.2.2.2 h, if_true, nn10, nn20, nn30, nn21, nn31, nn32, if_false]
theorem w_col_f2 {r p : Nat} (hV : VG P C) (hr : r < C ^ P) (hp : P ≤ p) (hp2 : p < 2147483648) : pf_L_colourAt (nI P) (nI (C ^ P)) gcb (nI r) (nI p) = some (-nI 71) := by
  have hR := hV.2.2.2.2
  simp (disch := omega) only [g_lit, nI_add, pk_mul, pk_div, g_sdm, pk_sub, g_clamp, ile_t, ile_f, ilt_t, ilt_f, ieq_t, ieq_f, ieq_r, gi_t, gd_t, gz0, gz1, gl_x, ob0_some, ob1_some, ob2_some, ob3_some, ob4_some, ob5_some, ob6_some, ob7_some, ob8_some, ob9_some, ob10_some, ob11_some, ob12_some, ob13_some, pf_L_colourAt, pf_X3_colourAt_j26, pf_X3_colourAt, s_X1_has_t hR hr, if_true, nn10, nn20, nn30, nn21, nn31, nn32, if_false]
theorem w_mark_t {a b : Nat} (hV : VG P C) (hG : laid P C (C ^ P) gcb gpb) (ha : a < C ^ P) (hb : b < C ^ P) : pf_L_mark (nI P) (nI (C ^ P)) gcb gpb (nI a) (nI b) = some (nI (mk P C a b)) := by
  simp (disch := omega) only [g_lit, nI_add, pk_mul, pk_div, g_sdm, pk_sub, g_clamp, ile_t, ile_f, ilt_t, ilt_f, ieq_t, ieq_f, ieq_r, gi_t, gd_t, gz0, gz1, gl_x, ob0_some, ob1_some, ob2_some, ob3_some, ob4_some, ob5_some, ob6_some, ob7_some, ob8_some, ob9_some, ob10_some, ob11_some, ob12_some, ob13_some, pf_L_mark, pf_X3_mark_j22, pf_X3_mark, s_X1_has_t hV.2.2.2.2 ha, s_X1_has_t hV.2.2.2.2 hb, cmp hV hG ha hb, if_true, nn10, nn20, nn30, nn21, nn31, nn32, if_false]
theorem w_mark_f1 {v w : Int32} (hV : VG P C) (h : NR (C ^ P) v) : pf_L_mark (nI P) (nI (C ^ P)) gcb gpb v w = some (-nI 71) := by
  simp (disch := omega) only [g_lit, nI_add, pk_mul, pk_div, g_sdm, pk_sub, g_clamp, ile_t, ile_f, ilt_t, ilt_f, ieq_t, ieq_f, ieq_r, gi_t, gd_t, gz0, gz1, gl_x, ob0_some, ob1_some, ob2_some, ob3_some, ob4_some, ob5_some, ob6_some, ob7_some, ob8_some, ob9_some, ob10_some, ob11_some, ob12_some, ob13_some, pf_L_mark, pf_X3_mark_j22, pf_X3_mark, s_has_no hV.2.2.2.2 h, if_true, nn10, nn20, nn30, nn21, nn31, nn32, if_false]
theorem w_mark_f2 {a : Nat} {w : Int32} (hV : VG P C) (ha : a < C ^ P) (h : NR (C ^ P) w) : pf_L_mark (nI P) (nI (C ^ P)) gcb gpb (nI a) w = some (-nI 71) := by
  simp (disch := omega) only [g_lit, nI_add, pk_mul, pk_div, g_sdm, pk_sub, g_clamp, ile_t, ile_f, ilt_t, ilt_f, ieq_t, ieq_f, ieq_r, gi_t, gd_t, gz0, gz1, gl_x, ob0_some, ob1_some, ob2_some, ob3_some, ob4_some, ob5_some, ob6_some, ob7_some, ob8_some, ob9_some, ob10_some, ob11_some, ob12_some, ob13_some, pf_L_mark, pf_X3_mark_j22, pf_X3_mark, s_X1_has_t hV.2.2.2.2 ha, s_has_no hV.2.2.2.2 h, if_true, nn10, nn20, nn30, nn21, nn31, nn32, if_false]
theorem w_leftAt_t {x : Nat} (hV : VG P C) (hL : Ls st (C ^ P) rl) (hx : x < C ^ P) (hs : st x = true) : pf_L_leftAt (nI (cl st (C ^ P))) rl (nI (cl st x)) = some (nI x) := by
  have hR := hV.2.2.2.2
  have h1 := cl_lt hx hs
  have h2 := cl_le st (C ^ P)
  have h3 := hL x hx hs
  simp (disch := omega) only [g_lit, nI_add, pk_mul, pk_div, g_sdm, pk_sub, g_clamp, ile_t, ile_f, ilt_t, ilt_f, ieq_t, ieq_f, ieq_r, gi_t, gd_t, gz0, gz1, gl_x, ob0_some, ob1_some, ob2_some, ob3_some, ob4_some, ob5_some, ob6_some, ob7_some, ob8_some, ob9_some, ob10_some, ob11_some, ob12_some, ob13_some, pf_L_leftAt, pf_X3_leftAt_j21, pf_X3_leftAt, h3, if_true, nn10, nn20, nn30, nn21, nn31, nn32, if_false]
theorem w_leftAt_f {v : Int32} (hV : VG P C) (h : NR (cl st (C ^ P)) v) : pf_L_leftAt (nI (cl st (C ^ P))) rl v = some (-nI 71) := by
  have hR := hV.2.2.2.2
  have h2 := cl_le st (C ^ P)
  rcases h with h | ⟨k, k1, k2, rfl⟩
  · simp (disch := omega) only [g_lit, nI_add, pk_mul, pk_div, g_sdm, pk_sub, g_clamp, ile_t, ile_f, ilt_t, ilt_f, ieq_t, ieq_f, ieq_r, gi_t, gd_t, gz0, gz1, gl_x, ob0_some, ob1_some, ob2_some, ob3_some, ob4_some, ob5_some, ob6_some, ob7_some, ob8_some, ob9_some, ob10_some, ob11_some, ob12_some, ob13_some, pf_L_leftAt, pf_X3_leftAt_j21, pf_X3_leftAt, ilt_n h, if_true, nn10, nn20, nn30, nn21, nn31, nn32, if_false]
  · simp (disch := omega) only [g_lit, nI_add, pk_mul, pk_div, g_sdm, pk_sub, g_clamp, ile_t, ile_f, ilt_t, ilt_f, ieq_t, ieq_f, ieq_r, gi_t, gd_t, gz0, gz1, gl_x, ob0_some, ob1_some, ob2_some, ob3_some, ob4_some, ob5_some, ob6_some, ob7_some, ob8_some, ob9_some, ob10_some, ob11_some, ob12_some, ob13_some, pf_L_leftAt, pf_X3_leftAt_j21, pf_X3_leftAt, if_true, nn10, nn20, nn30, nn21, nn31, nn32, if_false]
theorem w_markOf_t {i : Nat} (hn : n ≤ 10) (hi : i < n) : pf_L_markOf (nI n) tm (nI i) = some (tm i) := by
  simp (disch := omega) only [g_lit, nI_add, pk_mul, pk_div, g_sdm, pk_sub, g_clamp, ile_t, ile_f, ilt_t, ilt_f, ieq_t, ieq_f, ieq_r, gi_t, gd_t, gz0, gz1, gl_x, ob0_some, ob1_some, ob2_some, ob3_some, ob4_some, ob5_some, ob6_some, ob7_some, ob8_some, ob9_some, ob10_some, ob11_some, ob12_some, ob13_some, pf_L_markOf, pf_X3_markOf, rent_t hn hi, s_emark hn hi, if_true, nn10, nn20, nn30, nn21, nn31, nn32, if_false]
theorem w_markOf_f {v : Int32} (hn : n ≤ 10) (h : NR n v) : pf_L_markOf (nI n) tm v = some (-nI 71) := by
  simp (disch := omega) only [g_lit, nI_add, pk_mul, pk_div, g_sdm, pk_sub, g_clamp, ile_t, ile_f, ilt_t, ilt_f, ieq_t, ieq_f, ieq_r, gi_t, gd_t, gz0, gz1, gl_x, ob0_some, ob1_some, ob2_some, ob3_some, ob4_some, ob5_some, ob6_some, ob7_some, ob8_some, ob9_some, ob10_some, ob11_some, ob12_some, ob13_some, pf_L_markOf, pf_X3_markOf, rent_f hn h, if_true, nn10, nn20, nn30, nn21, nn31, nn32, if_false]
theorem c_guessOf {i : Nat} (hn : n ≤ 10) (hi : i < n) : pf_X3_guessOf (nI n) tg (nI i) = some (0, tg i) := by
  simp (disch := omega) only [g_lit, nI_add, pk_mul, pk_div, g_sdm, pk_sub, g_clamp, ile_t, ile_f, ilt_t, ilt_f, ieq_t, ieq_f, ieq_r, gi_t, gd_t, gz0, gz1, gl_x, ob0_some, ob1_some, ob2_some, ob3_some, ob4_some, ob5_some, ob6_some, ob7_some, ob8_some, ob9_some, ob10_some, ob11_some, ob12_some, ob13_some, pf_X3_guessOf, rent_t hn hi, s_eguess hn hi, if_true, nn10, nn20, nn30, nn21, nn31, nn32, if_false]
theorem c_isLeft {r : Nat} (hV : VG P C) (hn : n ≤ 10) (ha : al ≤ 3) (hr : r < C ^ P) (hl : LB P C n eg em tl) : pf_X3_isLeft (nI al) (nI (C ^ P)) (nI n) tl (nI r) = some (0, nI (if nl P C eg em n r ≤ al then 1 else 0)) := by
  have e1 := s_remains hV hn ha hr hl
  by_cases q : nl P C eg em n r ≤ al
  · rw [if_pos q] at e1 ⊢
    simp (disch := omega) only [g_lit, nI_add, pk_mul, pk_div, g_sdm, pk_sub, g_clamp, ile_t, ile_f, ilt_t, ilt_f, ieq_t, ieq_f, ieq_r, gi_t, gd_t, gz0, gz1, gl_x, ob0_some, ob1_some, ob2_some, ob3_some, ob4_some, ob5_some, ob6_some, ob7_some, ob8_some, ob9_some, ob10_some, ob11_some, ob12_some, ob13_some, pf_X3_isLeft, rrow_t hV hr, e1, if_true, nn10, nn20, nn30, nn21, nn31, nn32, if_false]
  · rw [if_neg q] at e1 ⊢
    simp (disch := omega) only [g_lit, nI_add, pk_mul, pk_div, g_sdm, pk_sub, g_clamp, ile_t, ile_f, ilt_t, ilt_f, ieq_t, ieq_f, ieq_r, gi_t, gd_t, gz0, gz1, gl_x, ob0_some, ob1_some, ob2_some, ob3_some, ob4_some, ob5_some, ob6_some, ob7_some, ob8_some, ob9_some, ob10_some, ob11_some, ob12_some, ob13_some, pf_X3_isLeft, rrow_t hV hr, e1, if_true, nn10, nn20, nn30, nn21, nn31, nn32, if_false]
theorem c_lies {r : Nat} (hV : VG P C) (hn : n ≤ 10) (hr : r < C ^ P) (hl : LB P C n eg em tl) : pf_X3_liesAbout (nI (C ^ P)) (nI n) tl (nI r) = some (0, nI (nl P C eg em n r)) := by
  simp (disch := omega) only [g_lit, nI_add, pk_mul, pk_div, g_sdm, pk_sub, g_clamp, ile_t, ile_f, ilt_t, ilt_f, ieq_t, ieq_f, ieq_r, gi_t, gd_t, gz0, gz1, gl_x, ob0_some, ob1_some, ob2_some, ob3_some, ob4_some, ob5_some, ob6_some, ob7_some, ob8_some, ob9_some, ob10_some, ob11_some, ob12_some, ob13_some, pf_X3_liesAbout, rrow_t hV hr, s_countLies hV hn hr hl, if_true, nn10, nn20, nn30, nn21, nn31, nn32, if_false]
theorem c_parts {g : Nat} (pn pg pq : Int32) (pm ps : Nat → Int32) (hV : VG P C) (hG : laid P C (C ^ P) gcb gpb) (hL : Ls st (C ^ P) rl) (hg : g < C ^ P) : ∃ pn' pg' pq' pm' ps', pf_X3_parts (nI (cl st (C ^ P))) (nI P) (nI (C ^ P)) pn pg pq rl gcb gpb pm ps (nI g) = some (0, nI (pd (mz P C g (rk st (C ^ P))) (cl st (C ^ P))), pn', pg', pq', pm', ps') := by
  obtain ⟨pm1, ps1, e1, _⟩ := s_pleft pn pg pq pm ps hV hG hg hL
  exact ⟨_, _, _, _, _, by simp (disch := omega) only [g_lit, nI_add, pk_mul, pk_div, g_sdm, pk_sub, g_clamp, ile_t, ile_f, ilt_t, ilt_f, ieq_t, ieq_f, ieq_r, gi_t, gd_t, gz0, gz1, gl_x, ob0_some, ob1_some, ob2_some, ob3_some, ob4_some, ob5_some, ob6_some, ob7_some, ob8_some, ob9_some, ob10_some, ob11_some, ob12_some, ob13_some, pf_X3_parts, rrow_t hV hg, e1, if_true, nn10, nn20, nn30, nn21, nn31, nn32, if_false] <;> rfl⟩
theorem c_worst {g : Nat} (pn pg pq : Int32) (pm ps : Nat → Int32) (hV : VG P C) (hG : laid P C (C ^ P) gcb gpb) (hL : Ls st (C ^ P) rl) (hg : g < C ^ P) : ∃ pn' pg' pq' pm' ps', pf_X3_worstCase (nI (cl st (C ^ P))) (nI P) (nI (C ^ P)) pn pg pq rl gcb gpb pm ps (nI g) = some (0, nI (pgr (mz P C g (rk st (C ^ P))) (cl st (C ^ P))), pn', pg', pq', pm', ps') := by
  obtain ⟨pm1, ps1, e1, _⟩ := s_pleft pn pg pq pm ps hV hG hg hL
  exact ⟨_, _, _, _, _, by simp (disch := omega) only [g_lit, nI_add, pk_mul, pk_div, g_sdm, pk_sub, g_clamp, ile_t, ile_f, ilt_t, ilt_f, ieq_t, ieq_f, ieq_r, gi_t, gd_t, gz0, gz1, gl_x, ob0_some, ob1_some, ob2_some, ob3_some, ob4_some, ob5_some, ob6_some, ob7_some, ob8_some, ob9_some, ob10_some, ob11_some, ob12_some, ob13_some, pf_X3_worstCase, rrow_t hV hg, e1, if_true, nn10, nn20, nn30, nn21, nn31, nn32, if_false] <;> rfl⟩
theorem c_weight {g : Nat} (pn pg pq : Int32) (pm ps : Nat → Int32) (hV : VG P C) (hG : laid P C (C ^ P) gcb gpb) (hL : Ls st (C ^ P) rl) (hg : g < C ^ P) : ∃ pn' pg' pq' pm' ps', pf_X3_weight (nI (cl st (C ^ P))) (nI P) (nI (C ^ P)) pn pg pq rl gcb gpb pm ps (nI g) = some (0, nI (pz (mz P C g (rk st (C ^ P))) (cl st (C ^ P))), pn', pg', pq', pm', ps') := by
  obtain ⟨pm1, ps1, e1, _⟩ := s_pleft pn pg pq pm ps hV hG hg hL
  exact ⟨_, _, _, _, _, by simp (disch := omega) only [g_lit, nI_add, pk_mul, pk_div, g_sdm, pk_sub, g_clamp, ile_t, ile_f, ilt_t, ilt_f, ieq_t, ieq_f, ieq_r, gi_t, gd_t, gz0, gz1, gl_x, ob0_some, ob1_some, ob2_some, ob3_some, ob4_some, ob5_some, ob6_some, ob7_some, ob8_some, ob9_some, ob10_some, ob11_some, ob12_some, ob13_some, pf_X3_weight, rrow_t hV hg, e1, if_true, nn10, nn20, nn30, nn21, nn31, nn32, if_false] <;> rfl⟩
theorem w_pmark_t {g i : Nat} (pn pg pq : Int32) (pm ps : Nat → Int32) (hV : VG P C) (hG : laid P C (C ^ P) gcb gpb) (hL : Ls st (C ^ P) rl) (hg : g < C ^ P) (hi : i < cl st (C ^ P)) (h0 : ct (mz P C g (rk st (C ^ P))) i (mz P C g (rk st (C ^ P)) i) = 0) : ∃ pn' pg' pq' pm' ps', pf_L_partMark (nI (cl st (C ^ P))) (nI P) (nI (C ^ P)) pn pg pq rl gcb gpb pm ps (nI g) (nI (pd (mz P C g (rk st (C ^ P))) i)) = some (nI (mz P C g (rk st (C ^ P)) i), pn', pg', pq', pm', ps') := by
  obtain ⟨pm1, ps1, e1, hp⟩ := s_pleft pn pg pq pm ps hV hG hg hL
  have h81 := pd_81 (ms := mz P C g (rk st (C ^ P))) (k := cl st (C ^ P)) (fun i _ => m80 hV i)
  have hlt := pd_lt (ms := mz P C g (rk st (C ^ P))) hi h0
  have e2 := hp.1 i hi h0
  exact ⟨_, _, _, _, _, by simp (disch := omega) only [g_lit, nI_add, pk_mul, pk_div, g_sdm, pk_sub, g_clamp, ile_t, ile_f, ilt_t, ilt_f, ieq_t, ieq_f, ieq_r, gi_t, gd_t, gz0, gz1, gl_x, ob0_some, ob1_some, ob2_some, ob3_some, ob4_some, ob5_some, ob6_some, ob7_some, ob8_some, ob9_some, ob10_some, ob11_some, ob12_some, ob13_some, pf_L_partMark, pf_X3_partMark, pf_X2_has_j26, pf_X2_has_j25, pf_X2_has, pf_X2_markAt_j18, pf_X2_markAt, rrow_t hV hg, e1, e2, if_true, nn10, nn20, nn30, nn21, nn31, nn32, if_false] <;> rfl⟩
theorem w_pmark_f {g : Nat} {v : Int32} (pn pg pq : Int32) (pm ps : Nat → Int32) (hV : VG P C) (hG : laid P C (C ^ P) gcb gpb) (hL : Ls st (C ^ P) rl) (hg : g < C ^ P) (hv : NR (pd (mz P C g (rk st (C ^ P))) (cl st (C ^ P))) v) : ∃ pn' pg' pq' pm' ps', pf_L_partMark (nI (cl st (C ^ P))) (nI P) (nI (C ^ P)) pn pg pq rl gcb gpb pm ps (nI g) v = some (-nI 71, pn', pg', pq', pm', ps') := by
  obtain ⟨pm1, ps1, e1, hp⟩ := s_pleft pn pg pq pm ps hV hG hg hL
  have h81 := pd_81 (ms := mz P C g (rk st (C ^ P))) (k := cl st (C ^ P)) (fun i _ => m80 hV i)
  have hh : pf_X2_has (nI (pd (mz P C g (rk st (C ^ P))) (cl st (C ^ P)))) v = some (nI 0) := by
    rcases hv with hv | ⟨k, k1, k2, rfl⟩
    · simp (disch := omega) only [g_lit, nI_add, pk_mul, pk_div, g_sdm, pk_sub, g_clamp, ile_t, ile_f, ilt_t, ilt_f, ieq_t, ieq_f, ieq_r, gi_t, gd_t, gz0, gz1, gl_x, ob0_some, ob1_some, ob2_some, ob3_some, ob4_some, ob5_some, ob6_some, ob7_some, ob8_some, ob9_some, ob10_some, ob11_some, ob12_some, ob13_some, pf_X2_has_j26, pf_X2_has_j25, pf_X2_has, ilt_n hv]
    · simp (disch := omega) only [g_lit, nI_add, pk_mul, pk_div, g_sdm, pk_sub, g_clamp, ile_t, ile_f, ilt_t, ilt_f, ieq_t, ieq_f, ieq_r, gi_t, gd_t, gz0, gz1, gl_x, ob0_some, ob1_some, ob2_some, ob3_some, ob4_some, ob5_some, ob6_some, ob7_some, ob8_some, ob9_some, ob10_some, ob11_some, ob12_some, ob13_some, pf_X2_has_j26, pf_X2_has_j25, pf_X2_has]
  exact ⟨_, _, _, _, _, by simp (disch := omega) only [g_lit, nI_add, pk_mul, pk_div, g_sdm, pk_sub, g_clamp, ile_t, ile_f, ilt_t, ilt_f, ieq_t, ieq_f, ieq_r, gi_t, gd_t, gz0, gz1, gl_x, ob0_some, ob1_some, ob2_some, ob3_some, ob4_some, ob5_some, ob6_some, ob7_some, ob8_some, ob9_some, ob10_some, ob11_some, ob12_some, ob13_some, pf_L_partMark, pf_X3_partMark, rrow_t hV hg, e1, hh, if_true, nn10, nn20, nn30, nn21, nn31, nn32, if_false] <;> rfl⟩
theorem w_psize_t {g m : Nat} (pn pg pq : Int32) (pm ps : Nat → Int32) (hV : VG P C) (hG : laid P C (C ^ P) gcb gpb) (hL : Ls st (C ^ P) rl) (hg : g < C ^ P) (hm : m ≤ 80) (p1 : pf_X1_allows (nI P) (nI m) = some (nI 1)) : ∃ pn' pg' pq' pm' ps', pf_L_partSize (nI (cl st (C ^ P))) (nI P) (nI (C ^ P)) pn pg pq rl gcb gpb pm ps (nI g) (nI m) = some (nI (ct (mz P C g (rk st (C ^ P))) (cl st (C ^ P)) m), pn', pg', pq', pm', ps') := by
  obtain ⟨pm1, ps1, e1, hp⟩ := s_pleft pn pg pq pm ps hV hG hg hL
  have e3 := hp.2 m (by omega)
  exact ⟨_, _, _, _, _, by simp (disch := omega) only [g_lit, nI_add, pk_mul, pk_div, g_sdm, pk_sub, g_clamp, ile_t, ile_f, ilt_t, ilt_f, ieq_t, ieq_f, ieq_r, gi_t, gd_t, gz0, gz1, gl_x, ob0_some, ob1_some, ob2_some, ob3_some, ob4_some, ob5_some, ob6_some, ob7_some, ob8_some, ob9_some, ob10_some, ob11_some, ob12_some, ob13_some, pf_L_partSize, pf_X3_partSize, pf_X3_requirePossible, pf_X2_sizeWith_j20, pf_X2_sizeWith_j19, pf_X2_sizeWith, rrow_t hV hg, p1, e1, e3, if_true, nn10, nn20, nn30, nn21, nn31, nn32, if_false] <;> rfl⟩
theorem w_psize_f1 {lc pn pg pq v w : Int32} {pm ps : Nat → Int32} (hV : VG P C) (h : NR (C ^ P) v) : pf_L_partSize lc (nI P) (nI (C ^ P)) pn pg pq rl gcb gpb pm ps v w = some (-nI 71, pn, pg, pq, pm, ps) := by
  simp (disch := omega) only [g_lit, nI_add, pk_mul, pk_div, g_sdm, pk_sub, g_clamp, ile_t, ile_f, ilt_t, ilt_f, ieq_t, ieq_f, ieq_r, gi_t, gd_t, gz0, gz1, gl_x, ob0_some, ob1_some, ob2_some, ob3_some, ob4_some, ob5_some, ob6_some, ob7_some, ob8_some, ob9_some, ob10_some, ob11_some, ob12_some, ob13_some, pf_L_partSize, pf_X3_partSize, rrow_f hV h, if_true, nn10, nn20, nn30, nn21, nn31, nn32, if_false]
theorem w_psize_f2 {g : Nat} {lc pn pg pq w : Int32} {pm ps : Nat → Int32} (hV : VG P C) (hg : g < C ^ P) (h : pf_X1_allows (nI P) w = some (nI 0)) : pf_L_partSize lc (nI P) (nI (C ^ P)) pn pg pq rl gcb gpb pm ps (nI g) w = some (-nI 72, pn, pg, pq, pm, ps) := by
  simp (disch := omega) only [g_lit, nI_add, pk_mul, pk_div, g_sdm, pk_sub, g_clamp, ile_t, ile_f, ilt_t, ilt_f, ieq_t, ieq_f, ieq_r, gi_t, gd_t, gz0, gz1, gl_x, ob0_some, ob1_some, ob2_some, ob3_some, ob4_some, ob5_some, ob6_some, ob7_some, ob8_some, ob9_some, ob10_some, ob11_some, ob12_some, ob13_some, pf_L_partSize, pf_X3_partSize, pf_X3_requirePossible, rrow_t hV hg, h, if_true, nn10, nn20, nn30, nn21, nn31, nn32, if_false]
theorem w_best_t {w : Nat} (pn pg pq : Int32) (pm ps : Nat → Int32) (hV : VG P C) (hG : laid P C (C ^ P) gcb gpb) (hL : Ls st (C ^ P) rl) (hw : w ≤ 2) (h0 : cl st (C ^ P) ≠ 0) : ∃ pn' pg' pq' pm' ps', pf_L_bestGuess (nI (cl st (C ^ P))) (nI P) (nI (C ^ P)) pn pg pq rl gcb gpb pm ps (nI w) = some (nI (bs (ky P C w (cl st (C ^ P)) (rk st (C ^ P))) (C ^ P)), pn', pg', pq', pm', ps') := by
  have h1 := cl_le st (C ^ P)
  have hR := hV.2.2.2.2
  obtain ⟨pn1, pg1, pq1, pm1, ps1, e1⟩ := s_best_rl pn pg pq pm ps hV hG hw (by omega) (Sg_Ls hL)
  exact ⟨pn1, pg1, pq1, pm1, ps1, by simp (disch := omega) only [g_lit, nI_add, pk_mul, pk_div, g_sdm, pk_sub, g_clamp, ile_t, ile_f, ilt_t, ilt_f, ieq_t, ieq_f, ieq_r, gi_t, gd_t, gz0, gz1, gl_x, ob0_some, ob1_some, ob2_some, ob3_some, ob4_some, ob5_some, ob6_some, ob7_some, ob8_some, ob9_some, ob10_some, ob11_some, ob12_some, ob13_some, pf_L_bestGuess, pf_X3_bestGuess_j9, pf_X3_bestGuess, e1, if_true, nn10, nn20, nn30, nn21, nn31, nn32, if_false]⟩
theorem w_best_0 {w : Nat} (pn pg pq : Int32) (pm ps : Nat → Int32) (hw : w ≤ 2) (h0 : cl st (C ^ P) = 0) : pf_L_bestGuess (nI (cl st (C ^ P))) (nI P) (nI (C ^ P)) pn pg pq rl gcb gpb pm ps (nI w) = some (-nI 73, pn, pg, pq, pm, ps) := by
  rw [h0]
  simp (disch := omega) only [g_lit, nI_add, pk_mul, pk_div, g_sdm, pk_sub, g_clamp, ile_t, ile_f, ilt_t, ilt_f, ieq_t, ieq_f, ieq_r, gi_t, gd_t, gz0, gz1, gl_x, ob0_some, ob1_some, ob2_some, ob3_some, ob4_some, ob5_some, ob6_some, ob7_some, ob8_some, ob9_some, ob10_some, ob11_some, ob12_some, ob13_some, pf_L_bestGuess, pf_X3_bestGuess_j9, pf_X3_bestGuess, if_true, nn10, nn20, nn30, nn21, nn31, nn32, if_false]
theorem w_best_f {lc : Int32} (pn pg pq : Int32) (pm ps : Nat → Int32) : pf_L_bestGuess lc (nI P) (nI (C ^ P)) pn pg pq rl gcb gpb pm ps (nI 3) = some (-nI 72, pn, pg, pq, pm, ps) := by
  simp (disch := omega) only [g_lit, nI_add, pk_mul, pk_div, g_sdm, pk_sub, g_clamp, ile_t, ile_f, ilt_t, ilt_f, ieq_t, ieq_f, ieq_r, gi_t, gd_t, gz0, gz1, gl_x, ob0_some, ob1_some, ob2_some, ob3_some, ob4_some, ob5_some, ob6_some, ob7_some, ob8_some, ob9_some, ob10_some, ob11_some, ob12_some, ob13_some, pf_L_bestGuess, pf_X3_bestGuess_j9, pf_X3_bestGuess, if_true, nn10, nn20, nn30, nn21, nn31, nn32, if_false]
theorem w_need_t (pn pg pq : Int32) (sr pm ps : Nat → Int32) (hV : VG P C) (hG : laid P C (C ^ P) gcb gpb) (hL : Ls st (C ^ P) rl) (h0 : 1 ≤ cl st (C ^ P)) (h24 : cl st (C ^ P) ≤ 24) : ∃ pn' pg' pq' sr' pm' ps', pf_L_guessesNeeded (nI (cl st (C ^ P))) (nI P) (nI (C ^ P)) pn pg pq rl sr gcb gpb pm ps = some (nI (hh P C 24 (cl st (C ^ P)) (rk st (C ^ P))), pn', pg', pq', sr', pm', ps') := by
  have hS := Sg_Ls hL
  have hA := As_rk st (C ^ P)
  have hB : ∀ i, i < cl st (C ^ P) → rk st (C ^ P) i < C ^ P := fun i hi => (hS i hi).2
  generalize cl st (C ^ P) = s at *
  generalize rk st (C ^ P) = ls at *
  have tr : 2 * 0 + s * (s + 1) ≤ 600 := by
    have : s * (s + 1) ≤ 24 * 25 := Nat.mul_le_mul h24 (by omega)
    omega
  have hS2 : Sg P C (va_cpy rl sr 0 0 s) 0 s ls := fun i hi => by
    refine ⟨?_, hB i hi⟩
    have := (hS i hi).1
    show (if 0 ≤ 0 + i ∧ 0 + i < 0 + s then rl (0 + (0 + i - 0)) else sr (0 + i)) = nI (ls i)
    rw [if_pos ⟨Nat.zero_le _, by omega⟩, show 0 + (0 + i - 0) = 0 + i by omega]
    exact this
  obtain ⟨pn1, pg1, pq1, sr1, pm1, ps1, e2, _⟩ := s_gfor hV hG 30 1 (by omega) 0 s ls (va_cpy rl sr 0 0 s) pn pg pq pm ps h0 (by omega) tr hA hS2
  refine ⟨pn1, pg1, pq1, sr1, pm1, ps1, ?_⟩
  have e4 : pf_X3_guessesFor 30 (nI P) (nI (C ^ P)) pn pg pq (va_cpy rl sr 0 0 s) gcb gpb pm ps (nI 0) (nI s) (nI 1) = some (nI (hh P C (25 - 1) s ls), pn1, pg1, pq1, sr1, pm1, ps1) := e2
  have e5 : ∀ {α : Type} (x : Option α), gcp (nI 0) (nI 0) (nI s) 256 300 x = x := by
    intro α x
    unfold gcp
    rw [if_neg]
    rw [nI_clamp (by omega), nI_clamp (by omega)]
    rintro (q | q | q | q | q)
    · exact nI_pos (by omega) q
    · exact nI_pos (by omega) q
    · exact nI_pos (by omega) q
    · omega
    · omega
  simp (disch := omega) only [g_lit, nI_add, pk_mul, pk_div, g_sdm, pk_sub, g_clamp, ile_t, ile_f, ilt_t, ilt_f, ieq_t, ieq_f, ieq_r, gi_t, gd_t, gz0, gz1, gl_x, ob0_some, ob1_some, ob2_some, ob3_some, ob4_some, ob5_some, ob6_some, ob7_some, ob8_some, ob9_some, ob10_some, ob11_some, ob12_some, ob13_some, pf_L_guessesNeeded, pf_X3_guessesNeeded_j17, pf_X3_guessesNeeded, e5, e4, if_true, nn10, nn20, nn30, nn21, nn31, nn32, if_false]
theorem w_need_f (pn pg pq : Int32) (sr pm ps : Nat → Int32) (hV : VG P C) (h : cl st (C ^ P) = 0 ∨ 24 < cl st (C ^ P)) : pf_L_guessesNeeded (nI (cl st (C ^ P))) (nI P) (nI (C ^ P)) pn pg pq rl sr gcb gpb pm ps = some (-nI 73, pn, pg, pq, sr, pm, ps) := by
  have h1 := cl_le st (C ^ P)
  have hR := hV.2.2.2.2
  rcases h with h | h
  · rw [h]
    simp (disch := omega) only [g_lit, nI_add, pk_mul, pk_div, g_sdm, pk_sub, g_clamp, ile_t, ile_f, ilt_t, ilt_f, ieq_t, ieq_f, ieq_r, gi_t, gd_t, gz0, gz1, gl_x, ob0_some, ob1_some, ob2_some, ob3_some, ob4_some, ob5_some, ob6_some, ob7_some, ob8_some, ob9_some, ob10_some, ob11_some, ob12_some, ob13_some, pf_L_guessesNeeded, pf_X3_guessesNeeded_j17, pf_X3_guessesNeeded, if_true, nn10, nn20, nn30, nn21, nn31, nn32, if_false]
  · simp (disch := omega) only [g_lit, nI_add, pk_mul, pk_div, g_sdm, pk_sub, g_clamp, ile_t, ile_f, ilt_t, ilt_f, ieq_t, ieq_f, ieq_r, gi_t, gd_t, gz0, gz1, gl_x, ob0_some, ob1_some, ob2_some, ob3_some, ob4_some, ob5_some, ob6_some, ob7_some, ob8_some, ob9_some, ob10_some, ob11_some, ob12_some, ob13_some, pf_L_guessesNeeded, pf_X3_guessesNeeded_j17, pf_X3_guessesNeeded, if_true, nn10, nn20, nn30, nn21, nn31, nn32, if_false]
theorem w_proof_1 (hV : VG P C) (hE : ES P C n eg em) (ha : al ≤ 3) (hl : LB P C n eg em tl) : ∃ c, c < 2 ^ n ∧ best_of (cnd P C n al eg em) c ∧ pf_X3_proofSize (nI 1) (nI al) (nI (C ^ P)) (nI n) tl = some (nI (pcn 10 c)) ∧ ∀ j, j < n → pf_L_isInProof (nI 1) (nI al) (nI (C ^ P)) (nI n) tl (nI j) = some (nI (c / 2 ^ (n - 1 - j) % 2)) := by
  have hR := hV.2.2.2.2
  have hn := hE.1
  have h2 := p10 hn
  obtain ⟨c, c1, c2, c3⟩ := s_sproof (al := al) hV hE.1 ha hl
  have b1 := bc (by omega : c < 1024)
  refine ⟨c, c1, c3, by simp (disch := omega) only [g_lit, nI_add, pk_mul, pk_div, g_sdm, pk_sub, g_clamp, ile_t, ile_f, ilt_t, ilt_f, ieq_t, ieq_f, ieq_r, gi_t, gd_t, gz0, gz1, gl_x, ob0_some, ob1_some, ob2_some, ob3_some, ob4_some, ob5_some, ob6_some, ob7_some, ob8_some, ob9_some, ob10_some, ob11_some, ob12_some, ob13_some, pf_X3_proofSize_j19, pf_X3_proofSize, c2, b1, if_true, nn10, nn20, nn30, nn21, nn31, nn32, if_false], ?_⟩
  intro j hj
  have hp : (2 : Nat) ^ (n - 1 - j) ≤ 2 ^ 10 := Nat.pow_le_pow_right (by decide) (by omega)
  have e10 : (2 : Nat) ^ 10 = 1024 := rfl
  have s1 : nI 1 <<< (nI (n - 1 - j) &&& nI 31) = nI (1 * 2 ^ (n - 1 - j)) := shl_m (by omega) (by omega)
  rw [Nat.one_mul] at s1
  have s3 : nI c &&& nI (2 ^ (n - 1 - j)) = nI ((c / 2 ^ (n - 1 - j) % 2) * 2 ^ (n - 1 - j)) := by rw [fa_and, and_pow]
  have bit : pf_X0_bitOf (nI n) (nI j) = some (nI (2 ^ (n - 1 - j))) := by
    simp (disch := omega) only [g_lit, nI_add, pk_mul, pk_div, g_sdm, pk_sub, g_clamp, ile_t, ile_f, ilt_t, ilt_f, ieq_t, ieq_f, ieq_r, gi_t, gd_t, gz0, gz1, gl_x, ob0_some, ob1_some, ob2_some, ob3_some, ob4_some, ob5_some, ob6_some, ob7_some, ob8_some, ob9_some, ob10_some, ob11_some, ob12_some, ob13_some, pf_X0_bitOf_j22, pf_X0_bitOf, s_ehas_t hn hj, s1]
  by_cases q : c / 2 ^ (n - 1 - j) % 2 = 0
  · rw [q, Nat.zero_mul] at s3
    rw [q]
    simp (disch := omega) only [g_lit, nI_add, pk_mul, pk_div, g_sdm, pk_sub, g_clamp, ile_t, ile_f, ilt_t, ilt_f, ieq_t, ieq_f, ieq_r, gi_t, gd_t, gz0, gz1, gl_x, ob0_some, ob1_some, ob2_some, ob3_some, ob4_some, ob5_some, ob6_some, ob7_some, ob8_some, ob9_some, ob10_some, ob11_some, ob12_some, ob13_some, pf_L_isInProof_j26, pf_L_isInProof, pf_X3_isInProof_j44, pf_X3_isInProof, rent_t hn hj, c2, bit, s3, if_true, nn10, nn20, nn30, nn21, nn31, nn32, if_false]
  · have q1 : c / 2 ^ (n - 1 - j) % 2 = 1 := by omega
    rw [q1, Nat.one_mul] at s3
    rw [q1]
    have hpos : 0 < 2 ^ (n - 1 - j) := Nat.two_pow_pos _
    simp (disch := omega) only [g_lit, nI_add, pk_mul, pk_div, g_sdm, pk_sub, g_clamp, ile_t, ile_f, ilt_t, ilt_f, ieq_t, ieq_f, ieq_r, gi_t, gd_t, gz0, gz1, gl_x, ob0_some, ob1_some, ob2_some, ob3_some, ob4_some, ob5_some, ob6_some, ob7_some, ob8_some, ob9_some, ob10_some, ob11_some, ob12_some, ob13_some, pf_L_isInProof_j26, pf_L_isInProof, pf_X3_isInProof_j44, pf_X3_isInProof, rent_t hn hj, c2, bit, s3, if_true, nn10, nn20, nn30, nn21, nn31, nn32, if_false]
theorem w_psz_0 {s : Nat} (hs : s ≤ 256) (h : s ≠ 1) : pf_X3_proofSize (nI s) (nI al) (nI (C ^ P)) (nI n) tl = some (-nI 1) := by
  simp (disch := omega) only [g_lit, nI_add, pk_mul, pk_div, g_sdm, pk_sub, g_clamp, ile_t, ile_f, ilt_t, ilt_f, ieq_t, ieq_f, ieq_r, gi_t, gd_t, gz0, gz1, gl_x, ob0_some, ob1_some, ob2_some, ob3_some, ob4_some, ob5_some, ob6_some, ob7_some, ob8_some, ob9_some, ob10_some, ob11_some, ob12_some, ob13_some, pf_X3_proofSize_j19, pf_X3_proofSize, if_true, nn10, nn20, nn30, nn21, nn31, nn32, if_false]
theorem w_inp_0 {s j : Nat} (hs : s ≤ 256) (h : s ≠ 1) (hn : n ≤ 10) (hj : j < n) : pf_L_isInProof (nI s) (nI al) (nI (C ^ P)) (nI n) tl (nI j) = some (-nI 73) := by
  simp (disch := omega) only [g_lit, nI_add, pk_mul, pk_div, g_sdm, pk_sub, g_clamp, ile_t, ile_f, ilt_t, ilt_f, ieq_t, ieq_f, ieq_r, gi_t, gd_t, gz0, gz1, gl_x, ob0_some, ob1_some, ob2_some, ob3_some, ob4_some, ob5_some, ob6_some, ob7_some, ob8_some, ob9_some, ob10_some, ob11_some, ob12_some, ob13_some, pf_L_isInProof_j26, pf_L_isInProof, pf_X3_isInProof_j44, pf_X3_isInProof, rent_t hn hj, if_true, nn10, nn20, nn30, nn21, nn31, nn32, if_false]
theorem w_inp_f {lc v : Int32} (hn : n ≤ 10) (hv : NR n v) : pf_L_isInProof lc (nI al) (nI (C ^ P)) (nI n) tl v = some (-nI 71) := by
  simp (disch := omega) only [g_lit, nI_add, pk_mul, pk_div, g_sdm, pk_sub, g_clamp, ile_t, ile_f, ilt_t, ilt_f, ieq_t, ieq_f, ieq_r, gi_t, gd_t, gz0, gz1, gl_x, ob0_some, ob1_some, ob2_some, ob3_some, ob4_some, ob5_some, ob6_some, ob7_some, ob8_some, ob9_some, ob10_some, ob11_some, ob12_some, ob13_some, pf_L_isInProof_j26, pf_L_isInProof, pf_X3_isInProof_j44, pf_X3_isInProof, rent_f hn hv, if_true, nn10, nn20, nn30, nn21, nn31, nn32, if_false]
end

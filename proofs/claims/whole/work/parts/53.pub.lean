/-! what the public methods ask first -/
theorem in_n_t {n j : Nat} (hn : n ≤ 256) (hj : j < n) : pf_X4_in (nI j) (nI 0) (nI n - nI 1) = some (nI 1) := by
  rw [pk_sub (by omega)]
  exact s_in_t (Nat.zero_le _) (by omega) (by omega)
theorem in_n_f {n : Nat} (hn : n ≤ 256) {v : Int32} (h : NR n v) : pf_X4_in v (nI 0) (nI n - nI 1) = some (nI 0) := by
  rcases h with h | ⟨k, h1, h2, rfl⟩
  · exact s_in_lo (by omega) h
  · by_cases q : n = 0
    · subst q
      have hm : nI 0 - nI 1 < 0 := by decide
      unfold pf_X4_in
      rw [if_neg (nI_nlt (Nat.zero_le k) h2), if_pos (neg_lt hm h2)]
      simp (disch := omega) only [g_lit, nI_add, pk_mul, pk_div, g_sdm, pk_sub, g_clamp, ile_t, ile_f, ilt_t, ilt_f, ieq_t, ieq_f, ieq_r, gi_t, gd_t, gz0, gz1, gl_x, ob0_some, ob1_some, ob2_some, ob3_some, ob4_some, ob5_some, ob6_some, ob7_some, ob8_some, ob9_some, ob10_some, ob11_some, ob12_some, ob13_some, pf_X4_in_j15, pf_X4_in_j14, pf_X4_in]
    · rw [pk_sub (by omega)]
      exact s_in_f (Or.inr (by omega)) (by omega) h2
theorem ient_t {n j : Nat} (hn : n ≤ 10) (hj : j < n) : pf_X4_isEntry (nI n) (nI j) = some (nI 1) := by
  have e : pf_X4_in (nI j) (nI 0) (nI (n - 1)) = some (nI 1) := s_in_t (Nat.zero_le _) (by omega) (by omega)
  simp (disch := omega) only [g_lit, nI_add, pk_mul, pk_div, g_sdm, pk_sub, g_clamp, ile_t, ile_f, ilt_t, ilt_f, ieq_t, ieq_f, ieq_r, gi_t, gd_t, gz0, gz1, gl_x, ob0_some, ob1_some, ob2_some, ob3_some, ob4_some, ob5_some, ob6_some, ob7_some, ob8_some, ob9_some, ob10_some, ob11_some, ob12_some, ob13_some, pf_X4_isEntry, e]
theorem ient_f {n : Nat} (hn : n ≤ 10) {v : Int32} (h : NR n v) : pf_X4_isEntry (nI n) v = some (nI 0) := by
  simp (disch := omega) only [g_lit, nI_add, pk_mul, pk_div, g_sdm, pk_sub, g_clamp, ile_t, ile_f, ilt_t, ilt_f, ieq_t, ieq_f, ieq_r, gi_t, gd_t, gz0, gz1, gl_x, ob0_some, ob1_some, ob2_some, ob3_some, ob4_some, ob5_some, ob6_some, ob7_some, ob8_some, ob9_some, ob10_some, ob11_some, ob12_some, ob13_some, pf_X4_isEntry, in_n_f (by omega : n ≤ 256) h]
theorem rrow_t {P C j : Nat} (hV : VG P C) (hj : j < C ^ P) : pf_X3_requireRow (nI (C ^ P)) (nI j) = some 0 := by
  simp (disch := omega) only [g_lit, nI_add, pk_mul, pk_div, g_sdm, pk_sub, g_clamp, ile_t, ile_f, ilt_t, ilt_f, ieq_t, ieq_f, ieq_r, gi_t, gd_t, gz0, gz1, gl_x, ob0_some, ob1_some, ob2_some, ob3_some, ob4_some, ob5_some, ob6_some, ob7_some, ob8_some, ob9_some, ob10_some, ob11_some, ob12_some, ob13_some, pf_X3_requireRow, s_X1_has_t hV.2.2.2.2 hj]
theorem rrow_f {P C : Nat} (hV : VG P C) {v : Int32} (h : NR (C ^ P) v) : pf_X3_requireRow (nI (C ^ P)) v = some 1 := by
  simp (disch := omega) only [g_lit, nI_add, pk_mul, pk_div, g_sdm, pk_sub, g_clamp, ile_t, ile_f, ilt_t, ilt_f, ieq_t, ieq_f, ieq_r, gi_t, gd_t, gz0, gz1, gl_x, ob0_some, ob1_some, ob2_some, ob3_some, ob4_some, ob5_some, ob6_some, ob7_some, ob8_some, ob9_some, ob10_some, ob11_some, ob12_some, ob13_some, pf_X3_requireRow, s_has_no hV.2.2.2.2 h, if_true]
theorem rent_t {n j : Nat} (hn : n ≤ 10) (hj : j < n) : pf_X3_requireEntry (nI n) (nI j) = some 0 := by
  simp (disch := omega) only [g_lit, nI_add, pk_mul, pk_div, g_sdm, pk_sub, g_clamp, ile_t, ile_f, ilt_t, ilt_f, ieq_t, ieq_f, ieq_r, gi_t, gd_t, gz0, gz1, gl_x, ob0_some, ob1_some, ob2_some, ob3_some, ob4_some, ob5_some, ob6_some, ob7_some, ob8_some, ob9_some, ob10_some, ob11_some, ob12_some, ob13_some, pf_X3_requireEntry, s_ehas_t hn hj]
theorem rent_f {n : Nat} (hn : n ≤ 10) {v : Int32} (h : NR n v) : pf_X3_requireEntry (nI n) v = some 1 := by
  simp (disch := omega) only [g_lit, nI_add, pk_mul, pk_div, g_sdm, pk_sub, g_clamp, ile_t, ile_f, ilt_t, ilt_f, ieq_t, ieq_f, ieq_r, gi_t, gd_t, gz0, gz1, gl_x, ob0_some, ob1_some, ob2_some, ob3_some, ob4_some, ob5_some, ob6_some, ob7_some, ob8_some, ob9_some, ob10_some, ob11_some, ob12_some, ob13_some, pf_X3_requireEntry, s_ehas_f hn h, if_true]
theorem irow_t {P C j : Nat} (hV : VG P C) (hj : j < C ^ P) : pf_X4_isRow (nI (C ^ P)) (nI j) = some (nI 1) := s_isRow_t hV.2.2.2.2 hj
theorem irow_f {P C : Nat} (hV : VG P C) {v : Int32} (h : NR (C ^ P) v) : pf_X4_isRow (nI (C ^ P)) v = some (nI 0) := s_isRow_f (by have := R2 hV; omega) hV.2.2.2.2 h
theorem poss_cases {P C : Nat} (hV : VG P C) (v : Int32) : (∃ m, m ≤ 80 ∧ v = nI m ∧ pf_X1_allows (nI P) v = some (nI 1) ∧ pf_X4_isPossible (nI P) v = some (nI 1)) ∨ (pf_X1_allows (nI P) v = some (nI 0) ∧ pf_X4_isPossible (nI P) v = some (nI 0)) := by
  have h1 := hV.1
  have h2 := hV.2.1
  rcases i32_cases v with h | ⟨j, hj, rfl⟩
  · refine Or.inr ⟨?_, ?_⟩
    · unfold pf_X1_allows
      exact if_neg (neg_nle (k := 0) h (by omega))
    · unfold pf_X4_isPossible
      rw [if_pos h]
      simp (disch := omega) only [g_lit, nI_add, pk_mul, pk_div, g_sdm, pk_sub, g_clamp, ile_t, ile_f, ilt_t, ilt_f, ieq_t, ieq_f, ieq_r, gi_t, gd_t, gz0, gz1, gl_x, ob0_some, ob1_some, ob2_some, ob3_some, ob4_some, ob5_some, ob6_some, ob7_some, ob8_some, ob9_some, ob10_some, ob11_some, ob12_some, ob13_some, pf_X4_isPossible_j44, pf_X4_isPossible_j43, pf_X4_isPossible_j39, pf_X4_isPossible]
  · by_cases q1 : P < j / 10 + j % 10
    · refine Or.inr ⟨?_, ?_⟩
      · by_cases q2 : j % 10 = 1
        · by_cases q3 : j / 10 = P - 1
          · simp (disch := omega) only [g_lit, nI_add, pk_mul, pk_div, g_sdm, pk_sub, g_clamp, ile_t, ile_f, ilt_t, ilt_f, ieq_t, ieq_f, ieq_r, gi_t, gd_t, gz0, gz1, gl_x, ob0_some, ob1_some, ob2_some, ob3_some, ob4_some, ob5_some, ob6_some, ob7_some, ob8_some, ob9_some, ob10_some, ob11_some, ob12_some, ob13_some, pf_X1_allows_j58, pf_X1_allows_j57, pf_X1_allows_j36, pf_X1_allows_j35, pf_X1_allows, q2, if_true]
          · simp (disch := omega) only [g_lit, nI_add, pk_mul, pk_div, g_sdm, pk_sub, g_clamp, ile_t, ile_f, ilt_t, ilt_f, ieq_t, ieq_f, ieq_r, gi_t, gd_t, gz0, gz1, gl_x, ob0_some, ob1_some, ob2_some, ob3_some, ob4_some, ob5_some, ob6_some, ob7_some, ob8_some, ob9_some, ob10_some, ob11_some, ob12_some, ob13_some, pf_X1_allows_j58, pf_X1_allows_j57, pf_X1_allows_j36, pf_X1_allows_j35, pf_X1_allows, q2, if_true]
        · simp (disch := omega) only [g_lit, nI_add, pk_mul, pk_div, g_sdm, pk_sub, g_clamp, ile_t, ile_f, ilt_t, ilt_f, ieq_t, ieq_f, ieq_r, gi_t, gd_t, gz0, gz1, gl_x, ob0_some, ob1_some, ob2_some, ob3_some, ob4_some, ob5_some, ob6_some, ob7_some, ob8_some, ob9_some, ob10_some, ob11_some, ob12_some, ob13_some, pf_X1_allows_j58, pf_X1_allows_j57, pf_X1_allows_j36, pf_X1_allows_j35, pf_X1_allows]
      · simp (disch := omega) only [g_lit, nI_add, pk_mul, pk_div, g_sdm, pk_sub, g_clamp, ile_t, ile_f, ilt_t, ilt_f, ieq_t, ieq_f, ieq_r, gi_t, gd_t, gz0, gz1, gl_x, ob0_some, ob1_some, ob2_some, ob3_some, ob4_some, ob5_some, ob6_some, ob7_some, ob8_some, ob9_some, ob10_some, ob11_some, ob12_some, ob13_some, pf_X4_isPossible_j44, pf_X4_isPossible_j43, pf_X4_isPossible_j39, pf_X4_isPossible]
    · by_cases q2 : j % 10 = 1
      · by_cases q3 : j / 10 = P - 1
        · refine Or.inr ⟨?_, ?_⟩
          · simp (disch := omega) only [g_lit, nI_add, pk_mul, pk_div, g_sdm, pk_sub, g_clamp, ile_t, ile_f, ilt_t, ilt_f, ieq_t, ieq_f, ieq_r, gi_t, gd_t, gz0, gz1, gl_x, ob0_some, ob1_some, ob2_some, ob3_some, ob4_some, ob5_some, ob6_some, ob7_some, ob8_some, ob9_some, ob10_some, ob11_some, ob12_some, ob13_some, pf_X1_allows_j58, pf_X1_allows_j57, pf_X1_allows_j36, pf_X1_allows_j35, pf_X1_allows, q2, q3, if_true]
          · simp (disch := omega) only [g_lit, nI_add, pk_mul, pk_div, g_sdm, pk_sub, g_clamp, ile_t, ile_f, ilt_t, ilt_f, ieq_t, ieq_f, ieq_r, gi_t, gd_t, gz0, gz1, gl_x, ob0_some, ob1_some, ob2_some, ob3_some, ob4_some, ob5_some, ob6_some, ob7_some, ob8_some, ob9_some, ob10_some, ob11_some, ob12_some, ob13_some, pf_X4_isPossible_j44, pf_X4_isPossible_j43, pf_X4_isPossible_j39, pf_X4_isPossible, q2, q3, if_true]
        · refine Or.inl ⟨j, by omega, rfl, ?_, ?_⟩
          · simp (disch := omega) only [g_lit, nI_add, pk_mul, pk_div, g_sdm, pk_sub, g_clamp, ile_t, ile_f, ilt_t, ilt_f, ieq_t, ieq_f, ieq_r, gi_t, gd_t, gz0, gz1, gl_x, ob0_some, ob1_some, ob2_some, ob3_some, ob4_some, ob5_some, ob6_some, ob7_some, ob8_some, ob9_some, ob10_some, ob11_some, ob12_some, ob13_some, pf_X1_allows_j58, pf_X1_allows_j57, pf_X1_allows_j36, pf_X1_allows_j35, pf_X1_allows, q2, if_true]
          · simp (disch := omega) only [g_lit, nI_add, pk_mul, pk_div, g_sdm, pk_sub, g_clamp, ile_t, ile_f, ilt_t, ilt_f, ieq_t, ieq_f, ieq_r, gi_t, gd_t, gz0, gz1, gl_x, ob0_some, ob1_some, ob2_some, ob3_some, ob4_some, ob5_some, ob6_some, ob7_some, ob8_some, ob9_some, ob10_some, ob11_some, ob12_some, ob13_some, pf_X4_isPossible_j44, pf_X4_isPossible_j43, pf_X4_isPossible_j39, pf_X4_isPossible, q2, if_true]
      · refine Or.inl ⟨j, by omega, rfl, ?_, ?_⟩
        · simp (disch := omega) only [g_lit, nI_add, pk_mul, pk_div, g_sdm, pk_sub, g_clamp, ile_t, ile_f, ilt_t, ilt_f, ieq_t, ieq_f, ieq_r, gi_t, gd_t, gz0, gz1, gl_x, ob0_some, ob1_some, ob2_some, ob3_some, ob4_some, ob5_some, ob6_some, ob7_some, ob8_some, ob9_some, ob10_some, ob11_some, ob12_some, ob13_some, pf_X1_allows_j58, pf_X1_allows_j57, pf_X1_allows_j36, pf_X1_allows_j35, pf_X1_allows, if_true]
        · simp (disch := omega) only [g_lit, nI_add, pk_mul, pk_div, g_sdm, pk_sub, g_clamp, ile_t, ile_f, ilt_t, ilt_f, ieq_t, ieq_f, ieq_r, gi_t, gd_t, gz0, gz1, gl_x, ob0_some, ob1_some, ob2_some, ob3_some, ob4_some, ob5_some, ob6_some, ob7_some, ob8_some, ob9_some, ob10_some, ob11_some, ob12_some, ob13_some, pf_X4_isPossible_j44, pf_X4_isPossible_j43, pf_X4_isPossible_j39, pf_X4_isPossible, if_true]
theorem lg_same (ov : Nat → Int64) (x : Int64) : lg_cmp (vp_updL ov 0 x 0) x = nI 0 := by
  rw [pk_uLs]
  unfold lg_cmp
  rw [if_neg Int64.lt_irrefl, if_pos rfl]
  rfl

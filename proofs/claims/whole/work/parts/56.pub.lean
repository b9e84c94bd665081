theorem nn10 : ((1 : Nat) = 0) = False := eq_false (by decide)
theorem nn20 : ((2 : Nat) = 0) = False := eq_false (by decide)
theorem nn30 : ((3 : Nat) = 0) = False := eq_false (by decide)
theorem nn21 : ((2 : Nat) = 1) = False := eq_false (by decide)
theorem nn31 : ((3 : Nat) = 1) = False := eq_false (by decide)
theorem nn32 : ((3 : Nat) = 2) = False := eq_false (by decide)
section
variable {P C n al : Nat} {eg em : Nat → Nat} {tl mg mt : Nat → Int32}
theorem q_psz (th : Int32) (mh mls : Nat → Int32) (hV : VG P C) (hE : ES P C n eg em) (ha : al ≤ 3) (hM : ME n eg em mg mt) (hl : LB P C n eg em tl) : ∃ A mh' mls', pf_X3_proofSize (nI (cl (still P C n al eg em) (C ^ P))) (nI al) (nI (C ^ P)) (nI n) tl = some A ∧ pf_X4_proofSize th (nI P) (nI C) (nI (C ^ P)) (nI al) (nI n) mg mt mh mls = some (A, nI 0, mh', mls') := by
  have h1 := cl_le (still P C n al eg em) (C ^ P)
  have hR := hV.2.2.2.2
  have h2 := p10 hE.1
  obtain ⟨mh1, e1⟩ := s_many (al := al) mh hV hE ha hM
  by_cases q : cl (still P C n al eg em) (C ^ P) = 1
  · obtain ⟨c, c1, c2, c3⟩ := s_sproof (al := al) hV hE.1 ha hl
    obtain ⟨c', mh2, mls2, d1, d2, d3⟩ := s_mproof (al := al) mh1 mls hV hE ha hM
    have := s_both c3 d3
    subst this
    have b1 := bc (by omega : c < 1024)
    have r1 := rv_lt n c
    have b2 := s_bits (by omega : rv n c < 1024)
    rw [pcn_rv10 hE.1 c1] at b2
    rw [q] at e1 ⊢
    exact ⟨nI (pcn 10 c), mh2, mls2, by simp (disch := omega) only [g_lit, nI_add, pk_mul, pk_div, g_sdm, pk_sub, g_clamp, ile_t, ile_f, ilt_t, ilt_f, ieq_t, ieq_f, ieq_r, gi_t, gd_t, gz0, gz1, gl_x, ob0_some, ob1_some, ob2_some, ob3_some, ob4_some, ob5_some, ob6_some, ob7_some, ob8_some, ob9_some, ob10_some, ob11_some, ob12_some, ob13_some, pf_X3_proofSize_j19, pf_X3_proofSize, c2, b1, if_true], by simp (disch := omega) only [g_lit, nI_add, pk_mul, pk_div, g_sdm, pk_sub, g_clamp, ile_t, ile_f, ilt_t, ilt_f, ieq_t, ieq_f, ieq_r, gi_t, gd_t, gz0, gz1, gl_x, ob0_some, ob1_some, ob2_some, ob3_some, ob4_some, ob5_some, ob6_some, ob7_some, ob8_some, ob9_some, ob10_some, ob11_some, ob12_some, ob13_some, pf_X4_proofSize_j24, pf_X4_proofSize, e1, d2, b2, if_true]⟩
  · exact ⟨-nI 1, mh1, mls, by simp (disch := omega) only [g_lit, nI_add, pk_mul, pk_div, g_sdm, pk_sub, g_clamp, ile_t, ile_f, ilt_t, ilt_f, ieq_t, ieq_f, ieq_r, gi_t, gd_t, gz0, gz1, gl_x, ob0_some, ob1_some, ob2_some, ob3_some, ob4_some, ob5_some, ob6_some, ob7_some, ob8_some, ob9_some, ob10_some, ob11_some, ob12_some, ob13_some, pf_X3_proofSize_j19, pf_X3_proofSize], by simp (disch := omega) only [g_lit, nI_add, pk_mul, pk_div, g_sdm, pk_sub, g_clamp, ile_t, ile_f, ilt_t, ilt_f, ieq_t, ieq_f, ieq_r, gi_t, gd_t, gz0, gz1, gl_x, ob0_some, ob1_some, ob2_some, ob3_some, ob4_some, ob5_some, ob6_some, ob7_some, ob8_some, ob9_some, ob10_some, ob11_some, ob12_some, ob13_some, pf_X4_proofSize_j24, pf_X4_proofSize, e1]⟩
theorem q_inp {j : Nat} (th : Int32) (mh mls : Nat → Int32) (hV : VG P C) (hE : ES P C n eg em) (ha : al ≤ 3) (hM : ME n eg em mg mt) (hl : LB P C n eg em tl) (hj : j < n) (h1 : cl (still P C n al eg em) (C ^ P) = 1) : ∃ A mh' mls', (A = 0 ∨ A = 1) ∧ pf_X3_isInProof (nI (cl (still P C n al eg em) (C ^ P))) (nI al) (nI (C ^ P)) (nI n) tl (nI j) = some (0, nI A) ∧ pf_X4_isInProof th (nI P) (nI C) (nI (C ^ P)) (nI al) (nI n) mg mt mh mls (nI j) = some (nI A, nI 0, mh', mls') := by
  have hR := hV.2.2.2.2
  have hn := hE.1
  have h2 := p10 hn
  obtain ⟨mh1, e1⟩ := s_many (al := al) mh hV hE ha hM
  obtain ⟨c, c1, c2, c3⟩ := s_sproof (al := al) hV hE.1 ha hl
  obtain ⟨c', mh2, mls2, d1, d2, d3⟩ := s_mproof (al := al) mh1 mls hV hE ha hM
  have := s_both c3 d3
  subst this
  have r1 := rv_lt n c
  have hmem := rv_mem (n := n) (c := c) hj
  have hp : (2 : Nat) ^ (n - 1 - j) ≤ 2 ^ 10 := Nat.pow_le_pow_right (by decide) (by omega)
  have e10 : (2 : Nat) ^ 10 = 1024 := rfl
  have s1 : nI 1 <<< (nI (n - 1 - j) &&& nI 31) = nI (1 * 2 ^ (n - 1 - j)) := shl_m (by omega) (by omega)
  rw [Nat.one_mul] at s1
  have s2 : nI (rv n c) >>> (nI j &&& nI 31) = nI (rv n c / 2 ^ j) := shr_m (by omega) (by omega)
  have s3 : nI c &&& nI (2 ^ (n - 1 - j)) = nI ((c / 2 ^ (n - 1 - j) % 2) * 2 ^ (n - 1 - j)) := by rw [fa_and, and_pow]
  have s4 : nI (rv n c / 2 ^ j) &&& nI 1 = nI (c / 2 ^ (n - 1 - j) % 2) := by rw [fa_and, Nat.and_one_is_mod, hmem]
  have bit : pf_X0_bitOf (nI n) (nI j) = some (nI (2 ^ (n - 1 - j))) := by
    simp (disch := omega) only [g_lit, nI_add, pk_mul, pk_div, g_sdm, pk_sub, g_clamp, ile_t, ile_f, ilt_t, ilt_f, ieq_t, ieq_f, ieq_r, gi_t, gd_t, gz0, gz1, gl_x, ob0_some, ob1_some, ob2_some, ob3_some, ob4_some, ob5_some, ob6_some, ob7_some, ob8_some, ob9_some, ob10_some, ob11_some, ob12_some, ob13_some, pf_X0_bitOf_j22, pf_X0_bitOf, s_ehas_t hn hj, s1]
  rw [h1] at e1 ⊢
  have hb := ient_t hn hj
  by_cases q : c / 2 ^ (n - 1 - j) % 2 = 0
  · rw [q, Nat.zero_mul] at s3
    rw [q] at s4
    refine ⟨0, mh2, mls2, Or.inl rfl, ?_, ?_⟩
    · simp (disch := omega) only [g_lit, nI_add, pk_mul, pk_div, g_sdm, pk_sub, g_clamp, ile_t, ile_f, ilt_t, ilt_f, ieq_t, ieq_f, ieq_r, gi_t, gd_t, gz0, gz1, gl_x, ob0_some, ob1_some, ob2_some, ob3_some, ob4_some, ob5_some, ob6_some, ob7_some, ob8_some, ob9_some, ob10_some, ob11_some, ob12_some, ob13_some, pf_X3_isInProof_j44, pf_X3_isInProof, rent_t hn hj, c2, bit, s3, if_true]
    · simp (disch := omega) only [g_lit, nI_add, pk_mul, pk_div, g_sdm, pk_sub, g_clamp, ile_t, ile_f, ilt_t, ilt_f, ieq_t, ieq_f, ieq_r, gi_t, gd_t, gz0, gz1, gl_x, ob0_some, ob1_some, ob2_some, ob3_some, ob4_some, ob5_some, ob6_some, ob7_some, ob8_some, ob9_some, ob10_some, ob11_some, ob12_some, ob13_some, pf_X4_isInProof_j53, pf_X4_isInProof_j52, pf_X4_isInProof_j26, pf_X4_isInProof, hb, e1, d2, s2, s4, if_true]
  · have q1 : c / 2 ^ (n - 1 - j) % 2 = 1 := by omega
    rw [q1, Nat.one_mul] at s3
    rw [q1] at s4
    have hpos : 0 < 2 ^ (n - 1 - j) := Nat.two_pow_pos _
    refine ⟨1, mh2, mls2, Or.inr rfl, ?_, ?_⟩
    · simp (disch := omega) only [g_lit, nI_add, pk_mul, pk_div, g_sdm, pk_sub, g_clamp, ile_t, ile_f, ilt_t, ilt_f, ieq_t, ieq_f, ieq_r, gi_t, gd_t, gz0, gz1, gl_x, ob0_some, ob1_some, ob2_some, ob3_some, ob4_some, ob5_some, ob6_some, ob7_some, ob8_some, ob9_some, ob10_some, ob11_some, ob12_some, ob13_some, pf_X3_isInProof_j44, pf_X3_isInProof, rent_t hn hj, c2, bit, s3, if_true]
    · simp (disch := omega) only [g_lit, nI_add, pk_mul, pk_div, g_sdm, pk_sub, g_clamp, ile_t, ile_f, ilt_t, ilt_f, ieq_t, ieq_f, ieq_r, gi_t, gd_t, gz0, gz1, gl_x, ob0_some, ob1_some, ob2_some, ob3_some, ob4_some, ob5_some, ob6_some, ob7_some, ob8_some, ob9_some, ob10_some, ob11_some, ob12_some, ob13_some, pf_X4_isInProof_j53, pf_X4_isInProof_j52, pf_X4_isInProof_j26, pf_X4_isInProof, hb, e1, d2, s2, s4, if_true]
theorem q_inp2 {j : Nat} (th : Int32) (mh mls : Nat → Int32) (hV : VG P C) (hE : ES P C n eg em) (ha : al ≤ 3) (hM : ME n eg em mg mt) (hj : j < n) (h1 : cl (still P C n al eg em) (C ^ P) ≠ 1) : ∃ mh', pf_X3_isInProof (nI (cl (still P C n al eg em) (C ^ P))) (nI al) (nI (C ^ P)) (nI n) tl (nI j) = some (3, nI 0) ∧ pf_X4_isInProof th (nI P) (nI C) (nI (C ^ P)) (nI al) (nI n) mg mt mh mls (nI j) = some (nI 0, nI 2, mh', mls) := by
  have hR := hV.2.2.2.2
  have h3 := cl_le (still P C n al eg em) (C ^ P)
  have hn := hE.1
  obtain ⟨mh1, e1⟩ := s_many (al := al) mh hV hE ha hM
  exact ⟨mh1, by simp (disch := omega) only [g_lit, nI_add, pk_mul, pk_div, g_sdm, pk_sub, g_clamp, ile_t, ile_f, ilt_t, ilt_f, ieq_t, ieq_f, ieq_r, gi_t, gd_t, gz0, gz1, gl_x, ob0_some, ob1_some, ob2_some, ob3_some, ob4_some, ob5_some, ob6_some, ob7_some, ob8_some, ob9_some, ob10_some, ob11_some, ob12_some, ob13_some, pf_X3_isInProof_j44, pf_X3_isInProof, rent_t hn hj, if_true], by simp (disch := omega) only [g_lit, nI_add, pk_mul, pk_div, g_sdm, pk_sub, g_clamp, ile_t, ile_f, ilt_t, ilt_f, ieq_t, ieq_f, ieq_r, gi_t, gd_t, gz0, gz1, gl_x, ob0_some, ob1_some, ob2_some, ob3_some, ob4_some, ob5_some, ob6_some, ob7_some, ob8_some, ob9_some, ob10_some, ob11_some, ob12_some, ob13_some, pf_X4_isInProof_j53, pf_X4_isInProof_j52, pf_X4_isInProof_j26, pf_X4_isInProof, ient_t hn hj, e1]⟩
theorem q_inpf {v lc : Int32} (th : Int32) (mh mls : Nat → Int32) (hn : n ≤ 10) (hv : NR n v) : pf_X3_isInProof lc (nI al) (nI (C ^ P)) (nI n) tl v = some (1, nI 0) ∧ pf_X4_isInProof th (nI P) (nI C) (nI (C ^ P)) (nI al) (nI n) mg mt mh mls v = some (nI 0, nI 1, mh, mls) := by
  exact ⟨by simp (disch := omega) only [g_lit, nI_add, pk_mul, pk_div, g_sdm, pk_sub, g_clamp, ile_t, ile_f, ilt_t, ilt_f, ieq_t, ieq_f, ieq_r, gi_t, gd_t, gz0, gz1, gl_x, ob0_some, ob1_some, ob2_some, ob3_some, ob4_some, ob5_some, ob6_some, ob7_some, ob8_some, ob9_some, ob10_some, ob11_some, ob12_some, ob13_some, pf_X3_isInProof_j44, pf_X3_isInProof, rent_f hn hv, nn10, if_false], by simp (disch := omega) only [g_lit, nI_add, pk_mul, pk_div, g_sdm, pk_sub, g_clamp, ile_t, ile_f, ilt_t, ilt_f, ieq_t, ieq_f, ieq_r, gi_t, gd_t, gz0, gz1, gl_x, ob0_some, ob1_some, ob2_some, ob3_some, ob4_some, ob5_some, ob6_some, ob7_some, ob8_some, ob9_some, ob10_some, ob11_some, ob12_some, ob13_some, pf_X4_isInProof_j53, pf_X4_isInProof_j52, pf_X4_isInProof_j26, pf_X4_isInProof, ient_f hn hv, if_true]⟩
end

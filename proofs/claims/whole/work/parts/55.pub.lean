section
variable {P C n al : Nat} {eg em : Nat → Nat} {rl gcb tg tm tl mg mt : Nat → Int32} {gpb : Nat → Int64}
theorem q_lball_L (hV : VG P C) (hG : laid P C (C ^ P) gcb gpb) (hE : ES P C n eg em) (ha : al ≤ 3) (hM : ME n eg em tg tm) : ∀ d j, j ≤ C ^ P → C ^ P - j < d → pf_X3_leftByAll_L4 (nI al) (nI P) (nI (C ^ P)) (nI n) gcb gpb tg tm d (nI (cl (still P C n al eg em) j)) (nI j) = some (nI (cl (still P C n al eg em) (C ^ P))) := by
  intro d
  have hR := hV.2.2.2.2
  have h10 := hE.1
  induction d with
  | zero => intro j _ h; omega
  | succ d ih =>
    intro j hj hd
    rw [pf_X3_leftByAll_L4.eq_2]
    by_cases q : j = C ^ P
    · rw [q]
      simp (disch := omega) only [g_lit, nI_add, pk_mul, pk_div, g_sdm, pk_sub, g_clamp, ile_t, ile_f, ilt_t, ilt_f, ieq_t, ieq_f, ieq_r, gi_t, gd_t, gz0, gz1, gl_x, ob0_some, ob1_some, ob2_some, ob3_some, ob4_some, ob5_some, ob6_some, ob7_some, ob8_some, ob9_some, ob10_some, ob11_some, ob12_some, ob13_some]
    · have hr := s_anew hV hG hE hM (by omega : j < C ^ P)
      have hc := cl_le (still P C n al eg em) j
      have hl := nl_le P C eg em n j
      have ih2 := ih (j + 1) (by omega) (by omega)
      by_cases h : nl P C eg em n j ≤ al
      · have hs : still P C n al eg em j = true := decide_eq_true h
        have e : cl (still P C n al eg em) (j + 1) = cl (still P C n al eg em) j + 1 := by simp only [cl, hs, if_true]
        rw [e] at ih2
        rw [← ih2]
        simp (disch := omega) only [g_lit, nI_add, pk_mul, pk_div, g_sdm, pk_sub, g_clamp, ile_t, ile_f, ilt_t, ilt_f, ieq_t, ieq_f, ieq_r, gi_t, gd_t, gz0, gz1, gl_x, ob0_some, ob1_some, ob2_some, ob3_some, ob4_some, ob5_some, ob6_some, ob7_some, ob8_some, ob9_some, ob10_some, ob11_some, ob12_some, ob13_some, hr, pf_X3_leftByAll_j33, pf_X3_leftByAll]
      · have hs : ¬ still P C n al eg em j = true := fun q => h (of_decide_eq_true q)
        have e : cl (still P C n al eg em) (j + 1) = cl (still P C n al eg em) j := by simp only [cl]; rw [if_neg hs]; rfl
        rw [e] at ih2
        rw [← ih2]
        simp (disch := omega) only [g_lit, nI_add, pk_mul, pk_div, g_sdm, pk_sub, g_clamp, ile_t, ile_f, ilt_t, ilt_f, ieq_t, ieq_f, ieq_r, gi_t, gd_t, gz0, gz1, gl_x, ob0_some, ob1_some, ob2_some, ob3_some, ob4_some, ob5_some, ob6_some, ob7_some, ob8_some, ob9_some, ob10_some, ob11_some, ob12_some, ob13_some, hr, pf_X3_leftByAll_j33, pf_X3_leftByAll]
theorem q_lball (hV : VG P C) (hG : laid P C (C ^ P) gcb gpb) (hE : ES P C n eg em) (ha : al ≤ 3) (hM : ME n eg em tg tm) : pf_X3_leftByAll (nI al) (nI P) (nI (C ^ P)) (nI n) gcb gpb tg tm = some (nI (cl (still P C n al eg em) (C ^ P))) :=
  q_lball_L hV hG hE ha hM 100000 0 (Nat.zero_le _) (by have := hV.2.2.2.2; omega)
theorem q_best {w : Nat} (th pn pg pq : Int32) (pm ps mh mza mset : Nat → Int32) (hV : VG P C) (hG : laid P C (C ^ P) gcb gpb) (hE : ES P C n eg em) (ha : al ≤ 3) (hM : ME n eg em mg mt) (hL : Ls (still P C n al eg em) (C ^ P) rl) (hw : w ≤ 2) (h0 : cl (still P C n al eg em) (C ^ P) ≠ 0) : ∃ A pn' pg' pq' pm' ps' mh' mz' mset', pf_X3_bestGuess (nI (cl (still P C n al eg em) (C ^ P))) (nI P) (nI (C ^ P)) pn pg pq rl gcb gpb pm ps (nI w) = some (0, A, pn', pg', pq', pm', ps') ∧ pf_X4_bestGuess th (nI P) (nI C) (nI (C ^ P)) (nI al) (nI n) mg mt mh mza mset (nI w) = some (A, nI 0, mh', mz', mset') := by
  have h1 := cl_le (still P C n al eg em) (C ^ P)
  have hR := hV.2.2.2.2
  obtain ⟨pn1, pg1, pq1, pm1, ps1, e1⟩ := s_best_rl pn pg pq pm ps hV hG hw (by omega) (Sg_Ls hL)
  obtain ⟨mh1, mset1, e2, hL2⟩ := s_lays (al := al) mh mset hV hE ha hM
  obtain ⟨mh2, mz2, e3⟩ := s_mbest mh1 mza hV hw (by omega) (by omega) (Sg_Ls hL2)
  refine ⟨nI (bs (ky P C w (cl (still P C n al eg em) (C ^ P)) (rk (still P C n al eg em) (C ^ P))) (C ^ P)), pn1, pg1, pq1, pm1, ps1, mh2, mz2, mset1, ?_, ?_⟩
  · simp (disch := omega) only [g_lit, nI_add, pk_mul, pk_div, g_sdm, pk_sub, g_clamp, ile_t, ile_f, ilt_t, ilt_f, ieq_t, ieq_f, ieq_r, gi_t, gd_t, gz0, gz1, gl_x, ob0_some, ob1_some, ob2_some, ob3_some, ob4_some, ob5_some, ob6_some, ob7_some, ob8_some, ob9_some, ob10_some, ob11_some, ob12_some, ob13_some, pf_X3_bestGuess_j9, pf_X3_bestGuess, e1]
  · simp (disch := omega) only [g_lit, nI_add, pk_mul, pk_div, g_sdm, pk_sub, g_clamp, ile_t, ile_f, ilt_t, ilt_f, ieq_t, ieq_f, ieq_r, gi_t, gd_t, gz0, gz1, gl_x, ob0_some, ob1_some, ob2_some, ob3_some, ob4_some, ob5_some, ob6_some, ob7_some, ob8_some, ob9_some, ob10_some, ob11_some, ob12_some, ob13_some, pf_X4_bestGuess_j49, pf_X4_bestGuess_j28, pf_X4_bestGuess, e2, e3, s_in_t (Nat.zero_le w) hw (by omega)]
theorem q_best0 {w : Nat} (th pn pg pq : Int32) (pm ps mh mza mset : Nat → Int32) (hV : VG P C) (hE : ES P C n eg em) (ha : al ≤ 3) (hM : ME n eg em mg mt) (hw : w ≤ 2) (h0 : cl (still P C n al eg em) (C ^ P) = 0) : ∃ mh' mset', pf_X3_bestGuess (nI (cl (still P C n al eg em) (C ^ P))) (nI P) (nI (C ^ P)) pn pg pq rl gcb gpb pm ps (nI w) = some (3, nI 0, pn, pg, pq, pm, ps) ∧ pf_X4_bestGuess th (nI P) (nI C) (nI (C ^ P)) (nI al) (nI n) mg mt mh mza mset (nI w) = some (nI 0, nI 2, mh', mza, mset') := by
  obtain ⟨mh1, mset1, e2, hL2⟩ := s_lays (al := al) mh mset hV hE ha hM
  rw [h0] at e2
  refine ⟨mh1, mset1, ?_, ?_⟩
  · rw [h0]
    simp (disch := omega) only [g_lit, nI_add, pk_mul, pk_div, g_sdm, pk_sub, g_clamp, ile_t, ile_f, ilt_t, ilt_f, ieq_t, ieq_f, ieq_r, gi_t, gd_t, gz0, gz1, gl_x, ob0_some, ob1_some, ob2_some, ob3_some, ob4_some, ob5_some, ob6_some, ob7_some, ob8_some, ob9_some, ob10_some, ob11_some, ob12_some, ob13_some, pf_X3_bestGuess_j9, pf_X3_bestGuess, if_true]
  · simp (disch := omega) only [g_lit, nI_add, pk_mul, pk_div, g_sdm, pk_sub, g_clamp, ile_t, ile_f, ilt_t, ilt_f, ieq_t, ieq_f, ieq_r, gi_t, gd_t, gz0, gz1, gl_x, ob0_some, ob1_some, ob2_some, ob3_some, ob4_some, ob5_some, ob6_some, ob7_some, ob8_some, ob9_some, ob10_some, ob11_some, ob12_some, ob13_some, pf_X4_bestGuess_j49, pf_X4_bestGuess_j28, pf_X4_bestGuess, e2, if_true, s_in_t (Nat.zero_le w) hw (by omega)]
theorem q_bestf {v lc : Int32} (th pn pg pq : Int32) (pm ps mh mza mset : Nat → Int32) (hV : VG P C) (hE : ES P C n eg em) (ha : al ≤ 3) (hM : ME n eg em mg mt) (hv : NR 3 v) : ∃ mh' mset', pf_X3_bestGuess lc (nI P) (nI (C ^ P)) pn pg pq rl gcb gpb pm ps v = some (2, nI 0, pn, pg, pq, pm, ps) ∧ pf_X4_bestGuess th (nI P) (nI C) (nI (C ^ P)) (nI al) (nI n) mg mt mh mza mset v = some (nI 0, nI 1, mh', mza, mset') := by
  obtain ⟨mh1, mset1, e2, hL2⟩ := s_lays (al := al) mh mset hV hE ha hM
  have e3 := in_m_f (n := 3) (by omega) (by omega) hv
  refine ⟨mh1, mset1, ?_, ?_⟩
  · rcases hv with hv | ⟨k, k1, k2, rfl⟩
    · simp (disch := omega) only [g_lit, nI_add, pk_mul, pk_div, g_sdm, pk_sub, g_clamp, ile_t, ile_f, ilt_t, ilt_f, ieq_t, ieq_f, ieq_r, gi_t, gd_t, gz0, gz1, gl_x, ob0_some, ob1_some, ob2_some, ob3_some, ob4_some, ob5_some, ob6_some, ob7_some, ob8_some, ob9_some, ob10_some, ob11_some, ob12_some, ob13_some, pf_X3_bestGuess_j9, pf_X3_bestGuess, ilt_n hv]
    · simp (disch := omega) only [g_lit, nI_add, pk_mul, pk_div, g_sdm, pk_sub, g_clamp, ile_t, ile_f, ilt_t, ilt_f, ieq_t, ieq_f, ieq_r, gi_t, gd_t, gz0, gz1, gl_x, ob0_some, ob1_some, ob2_some, ob3_some, ob4_some, ob5_some, ob6_some, ob7_some, ob8_some, ob9_some, ob10_some, ob11_some, ob12_some, ob13_some, pf_X3_bestGuess_j9, pf_X3_bestGuess]
  · have e4 : pf_X4_in v (nI 0) (nI 2) = some (nI 0) := e3
    simp (disch := omega) only [g_lit, nI_add, pk_mul, pk_div, g_sdm, pk_sub, g_clamp, ile_t, ile_f, ilt_t, ilt_f, ieq_t, ieq_f, ieq_r, gi_t, gd_t, gz0, gz1, gl_x, ob0_some, ob1_some, ob2_some, ob3_some, ob4_some, ob5_some, ob6_some, ob7_some, ob8_some, ob9_some, ob10_some, ob11_some, ob12_some, ob13_some, pf_X4_bestGuess_j49, pf_X4_bestGuess_j28, pf_X4_bestGuess, e2, e4, if_true]
theorem q_need (th pn pg pq : Int32) (sr pm ps mh mza mset mfr mma mde : Nat → Int32) (hV : VG P C) (hG : laid P C (C ^ P) gcb gpb) (hE : ES P C n eg em) (ha : al ≤ 3) (hM : ME n eg em mg mt) (hL : Ls (still P C n al eg em) (C ^ P) rl) (h0 : 1 ≤ cl (still P C n al eg em) (C ^ P)) (h24 : cl (still P C n al eg em) (C ^ P) ≤ 24) : ∃ A pn' pg' pq' sr' pm' ps' mh' mz' mset' mfr' mma' mde', pf_X3_guessesNeeded (nI (cl (still P C n al eg em) (C ^ P))) (nI P) (nI (C ^ P)) pn pg pq rl sr gcb gpb pm ps = some (0, A, pn', pg', pq', sr', pm', ps') ∧ pf_X4_guessesNeeded th (nI P) (nI C) (nI (C ^ P)) (nI al) (nI n) mg mt mh mza mset mfr mma mde = some (A, nI 0, mh', mz', mset', mfr', mma', mde') := by
  have hS := Sg_Ls hL
  have hA := As_rk (still P C n al eg em) (C ^ P)
  have hB : ∀ i, i < cl (still P C n al eg em) (C ^ P) → rk (still P C n al eg em) (C ^ P) i < C ^ P := fun i hi => (hS i hi).2
  obtain ⟨mh1, mset1, e1, hL1⟩ := s_lays (al := al) mh mset hV hE ha hM
  have hS1 := Sg_Ls hL1
  generalize cl (still P C n al eg em) (C ^ P) = s at *
  generalize rk (still P C n al eg em) (C ^ P) = ls at *
  have tr : 2 * 0 + s * (s + 1) ≤ 600 := by
    have : s * (s + 1) ≤ 24 * 25 := Nat.mul_le_mul h24 (by omega)
    omega
  have hS2 : Sg P C (va_cpy rl sr 0 0 s) 0 s ls := fun i hi => by
    refine ⟨?_, hB i hi⟩
    have := (hS i hi).1
    show (if 0 ≤ 0 + i ∧ 0 + i < 0 + s then rl (0 + (0 + i - 0)) else sr (0 + i)) = nI (ls i)
    rw [if_pos ⟨Nat.zero_le _, by omega⟩, show 0 + (0 + i - 0) = 0 + i by omega]
    exact this
  obtain ⟨pn1, pg1, pq1, sr1, pm1, ps1, e2, _⟩ := s_gfor hV hG 30 1 (by omega) 0 s ls (va_cpy rl sr 0 0 s) pn pg pq pm ps h0 (by omega) tr hA hS2
  have hVq : max 0 (Vq P C [(1, s, ls)]) = hh P C (25 - 1) s ls := by
    show max 0 (max (1 + hh P C (25 - 1) s ls - 1) 0) = _
    omega
  have hb1 : s * (24 - 1) ≤ 24 * 23 := Nat.mul_le_mul h24 (by omega)
  obtain ⟨mh2, mz2, mset2, mfr2, mma2, mde2, e3⟩ := s_bwalk hV (nI 0) 100000 0 [(1, s, ls)] s 1 0 mh1 mza mset1 (upd mfr 0 (nI 0)) (upd mma 0 (nI s)) (upd mde 0 (nI 1)) ⟨⟨0, pk_us, pk_us, pk_us, by show 0 + s ≤ s; omega, hS1⟩, ⟨Nat.le_refl 1, h0, by show s + 1 ≤ 25; omega, hA⟩, trivial⟩ rfl (by show 1 + (s * (24 - 1) + 0) ≤ 700; omega) (by show s + (s * (24 - 1) + 0) ≤ 2048; omega) (by omega) (by omega)
  rw [hVq] at e3
  refine ⟨nI (hh P C (25 - 1) s ls), pn1, pg1, pq1, sr1, pm1, ps1, mh2, mz2, mset2, mfr2, mma2, mde2, ?_, ?_⟩
  · have e4 : pf_X3_guessesFor 30 (nI P) (nI (C ^ P)) pn pg pq (va_cpy rl sr 0 0 s) gcb gpb pm ps (nI 0) (nI s) (nI 1) = some (nI (hh P C (25 - 1) s ls), pn1, pg1, pq1, sr1, pm1, ps1) := e2
    have e5 : ∀ {α : Type} (x : Option α), gcp (nI 0) (nI 0) (nI s) 256 300 x = x := by
      intro α x
      unfold gcp
      rw [if_neg]
      rw [nI_clamp (by omega), nI_clamp (by omega)]
      rintro (q | q | q | q | q)
      · exact nI_pos (by omega) q
      · exact nI_pos (by omega) q
      · exact nI_pos (by omega) q
      · omega
      · omega
    simp (disch := omega) only [g_lit, nI_add, pk_mul, pk_div, g_sdm, pk_sub, g_clamp, ile_t, ile_f, ilt_t, ilt_f, ieq_t, ieq_f, ieq_r, gi_t, gd_t, gz0, gz1, gl_x, ob0_some, ob1_some, ob2_some, ob3_some, ob4_some, ob5_some, ob6_some, ob7_some, ob8_some, ob9_some, ob10_some, ob11_some, ob12_some, ob13_some, pf_X3_guessesNeeded_j17, pf_X3_guessesNeeded, e5, e4]
  · unfold pf_X4_guessesNeeded
    refine (ob3_e e1).trans ?_
    have g1 : ¬ nI s = 0 := fun q => by have := (nI_eq (b := 0) (by omega) (by omega)).mp q; omega
    refine (if_neg g1).trans ?_
    refine (if_pos (nI_le h24 (by omega))).trans ?_
    unfold pf_X4_guessesNeeded_j21
    refine (if_pos (by decide)).trans ?_
    generalize (100000 : Nat) = F at e3 ⊢
    refine (gi_t (i := 0) (by omega) (by omega)).trans ?_
    refine (gi_t (i := 0) (by omega) (by omega)).trans ?_
    refine (gi_t (i := 0) (by omega) (by omega)).trans ?_
    simp (disch := omega) only [g_lit, nI_add, pk_mul, pk_div, g_sdm, pk_sub, g_clamp, ile_t, ile_f, ilt_t, ilt_f, ieq_t, ieq_f, ieq_r, gi_t, gd_t, gz0, gz1, gl_x, ob0_some, ob1_some, ob2_some, ob3_some, ob4_some, ob5_some, ob6_some, ob7_some, ob8_some, ob9_some, ob10_some, ob11_some, ob12_some, ob13_some]
    exact e3
end

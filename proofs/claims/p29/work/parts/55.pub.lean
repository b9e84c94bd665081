section
variable {P C n al : Nat} {eg em : Nat → Nat} {rl gcb tg tm tl mg mt : Nat → Int32} {gpb : Nat → Int64}
theorem q_lball_L (hV : VG P C) (hG : laid P C (C ^ P) gcb gpb) (hE : ES P C n eg em) (ha : al ≤ 3) (hM : ME n eg em tg tm) : ∀ d j, j ≤ C ^ P → C ^ P - j < d → pf_X3_leftByAll_L4 (nI al) (nI P) (nI (C ^ P)) (nI n) gcb gpb tg tm d (nI (cl (still P C n al eg em) j)) (nI j) = some (nI (cl (still P C n al eg em) (C ^ P))) := by
  intro d
  have hR := hV.2.2.2.2
  have h10 := hE.1
  induction d with
  | zero => intro j _ h; omega
  | succ d ih =>
    intro j hj hd
    rw [pf_X3_leftByAll_L4.eq_2]
    by_cases q : j = C ^ P
    · rw [q]
      simp (disch := omega) only [g_lit, nI_add, pk_mul, pk_div, g_sdm, pk_sub, g_clamp, ile_t, ile_f, ilt_t, ilt_f, ieq_t, ieq_f, ieq_r, gi_t, gd_t, gz0, gz1, gl_x, ob0_some, ob1_some, ob2_some, ob3_some, ob4_some, ob5_some, ob6_some, ob7_some, ob8_some, ob9_some, ob10_some, ob11_some, ob12_some, ob13_some]
    · have hr := s_anew hV hG hE hM (by omega : j < C ^ P)
      have hc := cl_le (still P C n al eg em) j
      have hl := nl_le P C eg em n j
      have ih2 := ih (j + 1) (by omega) (by omega)
      by_cases h : nl P C eg em n j ≤ al
      · have hs : still P C n al eg em j = true := decide_eq_true h
        have e : cl (still P C n al eg em) (j + 1) = cl (still P C n al eg em) j + 1 := by simp only [cl, hs, if_true]
        rw [e] at ih2
        rw [← ih2]
        simp (disch := omega) only [g_lit, nI_add, pk_mul, pk_div, g_sdm, pk_sub, g_clamp, ile_t, ile_f, ilt_t, ilt_f, ieq_t, ieq_f, ieq_r, gi_t, gd_t, gz0, gz1, gl_x, ob0_some, ob1_some, ob2_some, ob3_some, ob4_some, ob5_some, ob6_some, ob7_some, ob8_some, ob9_some, ob10_some, ob11_some, ob12_some, ob13_some, hr, pf_X3_leftByAll_j33, pf_X3_leftByAll]
      · have hs : ¬ still P C n al eg em j = true := fun q => h (of_decide_eq_true q)
        have e : cl (still P C n al eg em) (j + 1) = cl (still P C n al eg em) j := by simp only [cl]; rw [if_neg hs]; rfl
        rw [e] at ih2
        rw [← ih2]
        simp (disch := omega) only [g_lit, nI_add, pk_mul, pk_div, g_sdm, pk_sub, g_clamp, ile_t, ile_f, ilt_t, ilt_f, ieq_t, ieq_f, ieq_r, gi_t, gd_t, gz0, gz1, gl_x, ob0_some, ob1_some, ob2_some, ob3_some, ob4_some, ob5_some, ob6_some, ob7_some, ob8_some, ob9_some, ob10_some, ob11_some, ob12_some, ob13_some, hr, pf_X3_leftByAll_j33, pf_X3_leftByAll]
theorem q_lball (hV : VG P C) (hG : laid P C (C ^ P) gcb gpb) (hE : ES P C n eg em) (ha : al ≤ 3) (hM : ME n eg em tg tm) : pf_X3_leftByAll (nI al) (nI P) (nI (C ^ P)) (nI n) gcb gpb tg tm = some (nI (cl (still P C n al eg em) (C ^ P))) :=
  q_lball_L hV hG hE ha hM 100000 0 (Nat.zero_le _) (by have := hV.2.2.2.2; omega)
end

/-! a shortest proof: the law's search by sizes -/
section
variable {P C al n : Nat} {hid : Int32} {eg em : Nat → Nat} {yg yq ym : Nat → Int32} {yr : Nat → Int64}
/-- lies among the chosen entries, up to entry e -/
def lq (P C n : Nat) (eg em : Nat → Nat) (x r : Nat) : Nat → Nat
  | 0 => 0
  | e + 1 => lq P C n eg em x r e + (x / 2 ^ (n - 1 - e) % 2) * lie P C eg em e r
theorem and_2 (a b : Nat) : (a &&& b) % 2 = (a % 2) * (b % 2) := by
  have h := Nat.and_mod_two_pow (a := a) (b := b) (n := 1)
  rw [Nat.pow_one] at h
  rw [h]
  have ha : a % 2 = 0 ∨ a % 2 = 1 := by omega
  have hb : b % 2 = 0 ∨ b % 2 = 1 := by omega
  rcases ha with ha | ha <;> rcases hb with hb | hb <;> rw [ha, hb] <;> rfl
theorem and_half (a b : Nat) : (a &&& b) / 2 = a / 2 &&& b / 2 := by
  have h := Nat.and_div_two_pow (a := a) (b := b) (n := 1)
  rw [Nat.pow_one] at h
  exact h
theorem lq_pcn {x r : Nat} : ∀ e, e ≤ n → lq P C n eg em x r e = pcn e (lb P C eg em e r &&& x / 2 ^ (n - e))
  | 0, _ => rfl
  | e + 1, h => by
    have ih := lq_pcn (x := x) (r := r) e (by omega)
    show lq P C n eg em x r e + (x / 2 ^ (n - 1 - e) % 2) * lie P C eg em e r = (((2 * lb P C eg em e r + lie P C eg em e r) &&& x / 2 ^ (n - (e + 1))) % 2) + pcn e (((2 * lb P C eg em e r + lie P C eg em e r) &&& x / 2 ^ (n - (e + 1))) / 2)
    have hl := lie_le P C eg em e r
    rw [and_2, and_half, ih]
    have e1 : (2 * lb P C eg em e r + lie P C eg em e r) % 2 = lie P C eg em e r := by omega
    have e2 : (2 * lb P C eg em e r + lie P C eg em e r) / 2 = lb P C eg em e r := by omega
    have e3 : x / 2 ^ (n - (e + 1)) / 2 = x / 2 ^ (n - e) := by
      rw [Nat.div_div_eq_div_mul, ← Nat.pow_succ]
      congr 2
      omega
    rw [e1, e2, e3, show n - (e + 1) = n - 1 - e by omega, Nat.mul_comm]
    omega
theorem lq_n {x r : Nat} (hn : n ≤ 10) : lq P C n eg em x r n = pcn 10 (lb P C eg em n r &&& x) := by
  rw [lq_pcn n (Nat.le_refl n), Nat.sub_self, Nat.pow_zero, Nat.div_one]
  exact (pcn_10 hn (Nat.lt_of_le_of_lt Nat.and_le_left (lb_lt P C eg em n r))).symm
theorem lq_le {x r : Nat} : ∀ e, lq P C n eg em x r e ≤ e
  | 0 => Nat.le_refl 0
  | e + 1 => by
    show lq P C n eg em x r e + (x / 2 ^ (n - 1 - e) % 2) * lie P C eg em e r ≤ e + 1
    have h1 := lq_le (x := x) (r := r) e
    have h2 := lie_le P C eg em e r
    have h3 : (x / 2 ^ (n - 1 - e) % 2) * lie P C eg em e r ≤ 1 * 1 := Nat.mul_le_mul (by omega) h2
    omega
theorem t_lx {x r s : Nat} (kL : Int32 → Int32 → Option Int32) (hG : GI P C al n hid yg) (hV : VG P C) (hR : C ^ P ≤ 64) (hL : Rl P C (C ^ P) yr) (hE : ES P C n eg em) (ha : al ≤ 3) (hM : ME n eg em yq ym) (hr : r < C ^ P) (hx : x < 1024) (hs : s ≤ 2) : ∀ d e, e ≤ n → n - e < d → pf_L_proof_L76 yg yq ym yr (nI x) kL (nI s) (nI r) d (nI (lq P C n eg em x r e)) (nI e) = kL (nI (s + if lq P C n eg em x r n ≤ al then 1 else 0)) (nI (r + 1)) := by
  have hn := hE.1
  intro d
  induction d with
  | zero => intro e _ h; omega
  | succ d ih =>
    intro e h1 h2
    rw [pf_L_proof_L76.eq_2, k5, hG.2.2.2.2.2, k3, hG.2.2.2.1]
    have hle := lq_le (P := P) (C := C) (n := n) (eg := eg) (em := em) (x := x) (r := r) e
    by_cases q : e = n
    · subst q
      by_cases q2 : lq P C e eg em x r e ≤ al
      · rw [show (if lq P C e eg em x r e ≤ al then 1 else 0) = 1 from if_pos q2]
        simp (disch := omega) only [g_lit, nI_add, pk_mul, pk_div, g_sdm, pk_sub, g_clamp, ile_t, ile_f, ilt_t, ilt_f, ieq_t, ieq_f, ieq_r, gi_t, gd_t, gz0, gz1, gl_x, ob0_some, ob1_some, ob2_some, ob3_some, ob4_some, ob5_some, ob6_some, ob7_some, ob8_some, ob9_some, ob10_some, ob11_some, ob12_some, ob13_some, pf_L_proof_j150]
      · rw [show (if lq P C e eg em x r e ≤ al then 1 else 0) = 0 from if_neg q2]
        simp (disch := omega) only [g_lit, nI_add, pk_mul, pk_div, g_sdm, pk_sub, g_clamp, ile_t, ile_f, ilt_t, ilt_f, ieq_t, ieq_f, ieq_r, gi_t, gd_t, gz0, gz1, gl_x, ob0_some, ob1_some, ob2_some, ob3_some, ob4_some, ob5_some, ob6_some, ob7_some, ob8_some, ob9_some, ob10_some, ob11_some, ob12_some, ob13_some, pf_L_proof_j150]
    · have hx2 := ih (e + 1) (by omega) (by omega)
      have e5 : lq P C n eg em x r (e + 1) = lq P C n eg em x r e + (x / 2 ^ (n - 1 - e) % 2) * lie P C eg em e r := rfl
      rw [e5] at hx2
      obtain ⟨e1, e2⟩ := hM e (by omega)
      have e3 := hE.2 e (by omega)
      have e4 : pf_L_pins yg yr (yq e) (nI r) = some (nI (mk P C (eg e) r)) := by
        rw [e1]
        exact t_pins hG hV hR hL e3.1 hr
      have m8 := mk80 hV (eg e) r
      have s2 : nI x >>> (nI (n - 1 - e) &&& nI 31) = nI (x / 2 ^ (n - 1 - e)) := shr_m (by omega) (by omega)
      have s4 : nI (x / 2 ^ (n - 1 - e)) &&& nI 1 = nI (x / 2 ^ (n - 1 - e) % 2) := by rw [fa_and, Nat.and_one_is_mod]
      by_cases b : x / 2 ^ (n - 1 - e) % 2 = 1
      · rw [b] at hx2 s4
        by_cases m : mk P C (eg e) r = em e
        · have e6 : lie P C eg em e r = 0 := if_pos m
          rw [e6] at hx2
          simp (disch := omega) only [g_lit, nI_add, pk_mul, pk_div, g_sdm, pk_sub, g_clamp, ile_t, ile_f, ilt_t, ilt_f, ieq_t, ieq_f, ieq_r, gi_t, gd_t, gz0, gz1, gl_x, ob0_some, ob1_some, ob2_some, ob3_some, ob4_some, ob5_some, ob6_some, ob7_some, ob8_some, ob9_some, ob10_some, ob11_some, ob12_some, ob13_some, s2, s4, e4, e2, m, pf_L_proof_j126, pf_L_proof_j125, if_true]
          exact hx2
        · have e6 : lie P C eg em e r = 1 := if_neg m
          rw [e6] at hx2
          simp (disch := omega) only [g_lit, nI_add, pk_mul, pk_div, g_sdm, pk_sub, g_clamp, ile_t, ile_f, ilt_t, ilt_f, ieq_t, ieq_f, ieq_r, gi_t, gd_t, gz0, gz1, gl_x, ob0_some, ob1_some, ob2_some, ob3_some, ob4_some, ob5_some, ob6_some, ob7_some, ob8_some, ob9_some, ob10_some, ob11_some, ob12_some, ob13_some, s2, s4, e4, e2, pf_L_proof_j126, if_true]
          exact hx2
      · have b0 : x / 2 ^ (n - 1 - e) % 2 = 0 := by omega
        rw [b0, Nat.zero_mul] at hx2
        rw [b0] at s4
        simp (disch := omega) only [g_lit, nI_add, pk_mul, pk_div, g_sdm, pk_sub, g_clamp, ile_t, ile_f, ilt_t, ilt_f, ieq_t, ieq_f, ieq_r, gi_t, gd_t, gz0, gz1, gl_x, ob0_some, ob1_some, ob2_some, ob3_some, ob4_some, ob5_some, ob6_some, ob7_some, ob8_some, ob9_some, ob10_some, ob11_some, ob12_some, ob13_some, s2, s4, pf_L_proof_j126, pf_L_proof_j125]
        exact hx2
theorem t_px {x : Nat} (kL : Int32 → Option Int32) (hG : GI P C al n hid yg) (hV : VG P C) (hR : C ^ P ≤ 64) (hL : Rl P C (C ^ P) yr) (hE : ES P C n eg em) (ha : al ≤ 3) (hM : ME n eg em yq ym) (hx : x < 1024) (h0 : 0 < x) : ∀ d j, j ≤ C ^ P → C ^ P - j < d → cl (sst P C n al eg em x) j ≤ 2 → pf_L_proof_L56 yg yq ym yr kL (nI x) d (nI (cl (sst P C n al eg em x) j)) (nI j) = if cl (sst P C n al eg em x) (C ^ P) = 1 then some (nI x) else kL (nI (x - 1)) := by
  have hdec : nI x + -nI 1 = nI (x - 1) := by
    have := nI_prd (x - 1)
    rw [show x - 1 + 1 = x by omega] at this
    exact this
  intro d
  induction d with
  | zero => intro j _ h; omega
  | succ d ih =>
    intro j h1 h2 h3
    rw [pf_L_proof_L56.eq_2, k2, hG.2.2.1]
    have hend : ∀ s, s ≤ 2 → s = cl (sst P C n al eg em x) (C ^ P) → pf_L_proof_j159 kL (nI x) (nI s) = if cl (sst P C n al eg em x) (C ^ P) = 1 then some (nI x) else kL (nI (x - 1)) := by
      intro s hs e
      rw [← e]
      by_cases q : s = 1
      · rw [if_pos q, q]
        simp (disch := omega) only [g_lit, nI_add, pk_mul, pk_div, g_sdm, pk_sub, g_clamp, ile_t, ile_f, ilt_t, ilt_f, ieq_t, ieq_f, ieq_r, gi_t, gd_t, gz0, gz1, gl_x, ob0_some, ob1_some, ob2_some, ob3_some, ob4_some, ob5_some, ob6_some, ob7_some, ob8_some, ob9_some, ob10_some, ob11_some, ob12_some, ob13_some, pf_L_proof_j159, if_true]
      · rw [if_neg q]
        simp (disch := omega) only [g_lit, nI_add, pk_mul, pk_div, g_sdm, pk_sub, g_clamp, ile_t, ile_f, ilt_t, ilt_f, ieq_t, ieq_f, ieq_r, gi_t, gd_t, gz0, gz1, gl_x, ob0_some, ob1_some, ob2_some, ob3_some, ob4_some, ob5_some, ob6_some, ob7_some, ob8_some, ob9_some, ob10_some, ob11_some, ob12_some, ob13_some, pf_L_proof_j159, pf_L_proof_j168]
        rw [hdec]
    by_cases q : j = C ^ P
    · subst q
      simp (disch := omega) only [g_lit, nI_add, pk_mul, pk_div, g_sdm, pk_sub, g_clamp, ile_t, ile_f, ilt_t, ilt_f, ieq_t, ieq_f, ieq_r, gi_t, gd_t, gz0, gz1, gl_x, ob0_some, ob1_some, ob2_some, ob3_some, ob4_some, ob5_some, ob6_some, ob7_some, ob8_some, ob9_some, ob10_some, ob11_some, ob12_some, ob13_some]
      exact hend _ h3 rfl
    · by_cases q2 : 2 ≤ cl (sst P C n al eg em x) j
      · have hm := cl_mono (sst P C n al eg em x) h1
        have e2 : cl (sst P C n al eg em x) j = 2 := by omega
        simp (disch := omega) only [g_lit, nI_add, pk_mul, pk_div, g_sdm, pk_sub, g_clamp, ile_t, ile_f, ilt_t, ilt_f, ieq_t, ieq_f, ieq_r, gi_t, gd_t, gz0, gz1, gl_x, ob0_some, ob1_some, ob2_some, ob3_some, ob4_some, ob5_some, ob6_some, ob7_some, ob8_some, ob9_some, ob10_some, ob11_some, ob12_some, ob13_some]
        rw [if_neg (by omega : ¬ cl (sst P C n al eg em x) (C ^ P) = 1), e2]
        simp (disch := omega) only [g_lit, nI_add, pk_mul, pk_div, g_sdm, pk_sub, g_clamp, ile_t, ile_f, ilt_t, ilt_f, ieq_t, ieq_f, ieq_r, gi_t, gd_t, gz0, gz1, gl_x, ob0_some, ob1_some, ob2_some, ob3_some, ob4_some, ob5_some, ob6_some, ob7_some, ob8_some, ob9_some, ob10_some, ob11_some, ob12_some, ob13_some, pf_L_proof_j159, pf_L_proof_j168]
        rw [hdec]
      · have hr : j < C ^ P := by omega
        have e4 := t_lx (x := x) (r := j) (s := cl (sst P C n al eg em x) j) (fun v8 v9 => pf_L_proof_L56 yg yq ym yr kL (nI x) d v8 v9) hG hV hR hL hE ha hM hr hx (by omega) 100000 0 (Nat.zero_le _) (by have := hE.1; omega)
        simp (disch := omega) only [g_lit, nI_add, pk_mul, pk_div, g_sdm, pk_sub, g_clamp, ile_t, ile_f, ilt_t, ilt_f, ieq_t, ieq_f, ieq_r, gi_t, gd_t, gz0, gz1, gl_x, ob0_some, ob1_some, ob2_some, ob3_some, ob4_some, ob5_some, ob6_some, ob7_some, ob8_some, ob9_some, ob10_some, ob11_some, ob12_some, ob13_some]
        refine e4.trans ?_
        have e5 : cl (sst P C n al eg em x) j + (if lq P C n eg em x j n ≤ al then 1 else 0) = cl (sst P C n al eg em x) (j + 1) := by
          show _ = cl (sst P C n al eg em x) j + (if sst P C n al eg em x j = true then 1 else 0)
          unfold sst
          rw [lq_n hE.1]
          by_cases q3 : pcn 10 (lb P C eg em n j &&& x) ≤ al <;> simp [q3]
        rw [e5]
        have h4 : cl (sst P C n al eg em x) (j + 1) ≤ 2 := by
          show cl (sst P C n al eg em x) j + (if sst P C n al eg em x j = true then 1 else 0) ≤ 2
          split <;> omega
        exact ih (j + 1) (by omega) (by omega) h4
theorem cl_pcn : ∀ k v, cl (fun i => v.testBit i) k = pcn k v
  | 0, _ => rfl
  | k + 1, v => by
    rw [cl_front]
    have e : (fun i => v.testBit (i + 1)) = (fun i => (v / 2).testBit i) := by
      funext i
      exact Nat.testBit_succ v i
    rw [e, cl_pcn k (v / 2)]
    show _ = v % 2 + pcn k (v / 2)
    congr 1
    rw [Nat.testBit_zero]
    by_cases q : v % 2 = 1
    · rw [decide_eq_true q, q]
      rfl
    · rw [decide_eq_false q, show v % 2 = 0 by omega]
      rfl
theorem t_many_i {v : Nat} (h : v < 1024) : pf_L_many (nI v).toInt64 = some (nI (pcn 10 v)) := by
  have hS : SB (lN v) 10 := fun i hi => by
    rw [bt_lN, Nat.testBit_lt_two_pow (Nat.lt_of_lt_of_le h (Nat.le_trans (by decide : 1024 ≤ 2 ^ 10) (Nat.pow_le_pow_right (by decide) hi))), Bool.and_false]
  rw [nI_l (by omega), t_many (by decide) hS]
  congr 2
  rw [← cl_pcn]
  apply cl_same
  intro i hi
  rw [bt_lN, decide_eq_true (by omega : i < 64), Bool.true_and]
theorem t_size {k : Nat} (kL : Int32 → Option Int32) (hG : GI P C al n hid yg) (hV : VG P C) (hR : C ^ P ≤ 64) (hL : Rl P C (C ^ P) yr) (hE : ES P C n eg em) (ha : al ≤ 3) (hM : ME n eg em yq ym) (hk : k ≤ 11) : ∀ d v, v < 2 ^ n → v < d → (∃ c, c ≤ v ∧ 0 < c ∧ pcn 10 c = k ∧ vld P C n al eg em c ∧ (∀ y, c < y → y ≤ v → pcn 10 y = k → ¬ vld P C n al eg em y) ∧ pf_L_proof_L31 yg yq ym yr kL (nI k) d (nI v) = some (nI c)) ∨ ((∀ y, 0 < y → y ≤ v → pcn 10 y = k → ¬ vld P C n al eg em y) ∧ pf_L_proof_L31 yg yq ym yr kL (nI k) d (nI v) = kL (nI (k + 1))) := by
  have hn := hE.1
  have h2n := p10 hn
  intro d
  induction d with
  | zero => intro v _ h; omega
  | succ d ih =>
    intro v h1 h2
    rw [pf_L_proof_L31.eq_2]
    by_cases q : v = 0
    · subst q
      refine Or.inr ⟨fun y h3 h4 => by omega, ?_⟩
      simp (disch := omega) only [g_lit, nI_add, pk_mul, pk_div, g_sdm, pk_sub, g_clamp, ile_t, ile_f, ilt_t, ilt_f, ieq_t, ieq_f, ieq_r, gi_t, gd_t, gz0, gz1, gl_x, ob0_some, ob1_some, ob2_some, ob3_some, ob4_some, ob5_some, ob6_some, ob7_some, ob8_some, ob9_some, ob10_some, ob11_some, ob12_some, ob13_some]
    · have hm := t_many_i (v := v) (by omega)
      have hdec : nI v + -nI 1 = nI (v - 1) := by
        have := nI_prd (v - 1)
        rw [show v - 1 + 1 = v by omega] at this
        exact this
      have hp := pcn_le 10 v
      by_cases q2 : pcn 10 v = k
      · have e1 := t_px (x := v) (fun v7 => pf_L_proof_L31 yg yq ym yr kL (nI k) d v7) hG hV hR hL hE ha hM (by omega) (by omega) 100000 0 (Nat.zero_le _) (by omega) (Nat.zero_le 2)
        by_cases q3 : vld P C n al eg em v
        · refine Or.inl ⟨v, Nat.le_refl v, by omega, q2, q3, fun y h3 h4 => by omega, ?_⟩
          have q4 : cl (sst P C n al eg em v) (C ^ P) = 1 := q3
          rw [if_pos q4] at e1
          simp (disch := omega) only [g_lit, nI_add, pk_mul, pk_div, g_sdm, pk_sub, g_clamp, ile_t, ile_f, ilt_t, ilt_f, ieq_t, ieq_f, ieq_r, gi_t, gd_t, gz0, gz1, gl_x, ob0_some, ob1_some, ob2_some, ob3_some, ob4_some, ob5_some, ob6_some, ob7_some, ob8_some, ob9_some, ob10_some, ob11_some, ob12_some, ob13_some, hm, q2, if_true]
          exact e1
        · have q4 : ¬ cl (sst P C n al eg em v) (C ^ P) = 1 := q3
          rw [if_neg q4] at e1
          have e2 : (if nI v ≤ nI 0 then kL (nI (k + 1)) else ob1 (pf_L_many (nI v).toInt64) fun r39 => if r39 = nI k then pf_L_proof_L56 yg yq ym yr (fun v7 => pf_L_proof_L31 yg yq ym yr kL (nI k) d v7) (nI v) 100000 (nI 0) (nI 0) else pf_L_proof_j168 (fun v7 => pf_L_proof_L31 yg yq ym yr kL (nI k) d v7) (nI v)) = pf_L_proof_L31 yg yq ym yr kL (nI k) d (nI (v - 1)) := by
            simp (disch := omega) only [g_lit, nI_add, pk_mul, pk_div, g_sdm, pk_sub, g_clamp, ile_t, ile_f, ilt_t, ilt_f, ieq_t, ieq_f, ieq_r, gi_t, gd_t, gz0, gz1, gl_x, ob0_some, ob1_some, ob2_some, ob3_some, ob4_some, ob5_some, ob6_some, ob7_some, ob8_some, ob9_some, ob10_some, ob11_some, ob12_some, ob13_some, hm, q2, if_true]
            exact e1
          have e3 : (if nI v ≤ 0 then kL (nI k + 1) else ob1 (pf_L_many (nI v).toInt64) fun r39 => if r39 = nI k then pf_L_proof_L56 yg yq ym yr (fun v7 => pf_L_proof_L31 yg yq ym yr kL (nI k) d v7) (nI v) 100000 0 0 else pf_L_proof_j168 (fun v7 => pf_L_proof_L31 yg yq ym yr kL (nI k) d v7) (nI v)) = pf_L_proof_L31 yg yq ym yr kL (nI k) d (nI (v - 1)) := by
            rw [show nI k + 1 = nI (k + 1) from nI_add k 1]
            exact e2
          rw [e3]
          rcases ih (v - 1) (by omega) (by omega) with ⟨c, c1, c2, c3, c4, c5, c6⟩ | ⟨c1, c2⟩
          · refine Or.inl ⟨c, by omega, c2, c3, c4, fun y h3 h4 h5 => ?_, c6⟩
            by_cases z : y = v
            · rw [z]
              exact q3
            · exact c5 y h3 (by omega) h5
          · refine Or.inr ⟨fun y h3 h4 h5 => ?_, c2⟩
            by_cases z : y = v
            · rw [z]
              exact q3
            · exact c1 y h3 (by omega) h5
      · have e3 : (if nI v ≤ 0 then kL (nI k + 1) else ob1 (pf_L_many (nI v).toInt64) fun r39 => if r39 = nI k then pf_L_proof_L56 yg yq ym yr (fun v7 => pf_L_proof_L31 yg yq ym yr kL (nI k) d v7) (nI v) 100000 0 0 else pf_L_proof_j168 (fun v7 => pf_L_proof_L31 yg yq ym yr kL (nI k) d v7) (nI v)) = pf_L_proof_L31 yg yq ym yr kL (nI k) d (nI (v - 1)) := by
          simp (disch := omega) only [g_lit, nI_add, pk_mul, pk_div, g_sdm, pk_sub, g_clamp, ile_t, ile_f, ilt_t, ilt_f, ieq_t, ieq_f, ieq_r, gi_t, gd_t, gz0, gz1, gl_x, ob0_some, ob1_some, ob2_some, ob3_some, ob4_some, ob5_some, ob6_some, ob7_some, ob8_some, ob9_some, ob10_some, ob11_some, ob12_some, ob13_some, hm, pf_L_proof_j168]
          rw [hdec]
        rw [e3]
        rcases ih (v - 1) (by omega) (by omega) with ⟨c, c1, c2, c3, c4, c5, c6⟩ | ⟨c1, c2⟩
        · refine Or.inl ⟨c, by omega, c2, c3, c4, fun y h3 h4 h5 => ?_, c6⟩
          by_cases z : y = v
          · exact absurd (z ▸ h5) q2
          · exact c5 y h3 (by omega) h5
        · refine Or.inr ⟨fun y h3 h4 h5 => ?_, c2⟩
          by_cases z : y = v
          · exact absurd (z ▸ h5) q2
          · exact c1 y h3 (by omega) h5
theorem vld_all (hn : n ≤ 10) (h : cl (still P C n al eg em) (C ^ P) = 1) : vld P C n al eg em (2 ^ n - 1) := by
  unfold vld
  refine Eq.trans ?_ h
  apply cl_same
  intro r _
  unfold sst still
  rw [Nat.and_two_pow_sub_one_eq_mod, Nat.mod_eq_of_lt (lb_lt P C eg em n r), pcn_10 hn (lb_lt P C eg em n r), pcn_lb]
theorem t_sizes (hG : GI P C al n hid yg) (hV : VG P C) (hR : C ^ P ≤ 64) (hL : Rl P C (C ^ P) yr) (hE : ES P C n eg em) (ha : al ≤ 3) (hM : ME n eg em yq ym) (hall : vld P C n al eg em (2 ^ n - 1)) : ∀ d k, 1 ≤ k → k ≤ n + 1 → n + 1 - k < d → (∀ y, 0 < y → y < 2 ^ n → pcn 10 y < k → ¬ vld P C n al eg em y) → ∃ c, c < 2 ^ n ∧ best_of (cnd P C n al eg em) c ∧ pf_L_proof_L14 yg yq ym yr d (nI k) = some (nI c) := by
  have hn := hE.1
  have h2n := p10 hn
  have hpos : 0 < 2 ^ n := Nat.two_pow_pos n
  intro d
  induction d with
  | zero => intro k _ _ h; omega
  | succ d ih =>
    intro k h1 h2 h3 h4
    rw [pf_L_proof_L14.eq_2, k5, hG.2.2.2.2.2]
    have hn0 : 0 < 2 ^ n - 1 := by
      apply Classical.byContradiction
      intro z
      have : 2 ^ n - 1 = 0 := by omega
      rw [this] at hall
      exact vld_0 hV hall
    have hpa : pcn 10 (2 ^ n - 1) ≤ n := by
      rw [pcn_10 hn (by omega)]
      exact pcn_le n _
    by_cases q : n < k
    · exact absurd hall (h4 (2 ^ n - 1) hn0 (by omega) (by omega))
    · have s1 : nI 1 <<< (nI n &&& nI 31) = nI (1 * 2 ^ n) := shl_m (by omega) (by omega)
      rw [Nat.one_mul] at s1
      rcases t_size (k := k) (fun v6 => pf_L_proof_L14 yg yq ym yr d v6) hG hV hR hL hE ha hM (by omega) 100000 (2 ^ n - 1) (by omega) (by omega) with ⟨c, c1, c2, c3, c4, c5, c6⟩ | ⟨c1, c2⟩
      · refine ⟨c, by omega, ⟨Or.inr ⟨by omega, c4⟩, ?_⟩, ?_⟩
        · intro y hy hah
          have hy2 : y < 2 ^ n ∧ vld P C n al eg em y := by
            rcases hy with rfl | hy
            · exact ⟨by omega, hall⟩
            · exact hy
          have hy0 : 0 < y := by
            apply Classical.byContradiction
            intro z
            have : y = 0 := by omega
            rw [this] at hy2
            exact vld_0 hV hy2.2
          rcases hah with hah | ⟨hah, hlt⟩
          · exact h4 y hy0 hy2.1 (by omega) hy2.2
          · exact c5 y hlt (by omega) (by omega) hy2.2
        · simp (disch := omega) only [g_lit, nI_add, pk_mul, pk_div, g_sdm, pk_sub, g_clamp, ile_t, ile_f, ilt_t, ilt_f, ieq_t, ieq_f, ieq_r, gi_t, gd_t, gz0, gz1, gl_x, ob0_some, ob1_some, ob2_some, ob3_some, ob4_some, ob5_some, ob6_some, ob7_some, ob8_some, ob9_some, ob10_some, ob11_some, ob12_some, ob13_some, s1]
          exact c6
      · obtain ⟨c, d1, d2, d3⟩ := ih (k + 1) (by omega) (by omega) (by omega) (fun y y1 y2 y3 => by
          by_cases z : pcn 10 y = k
          · exact c1 y y1 (by omega) z
          · exact h4 y y1 y2 (by omega))
        refine ⟨c, d1, d2, ?_⟩
        simp (disch := omega) only [g_lit, nI_add, pk_mul, pk_div, g_sdm, pk_sub, g_clamp, ile_t, ile_f, ilt_t, ilt_f, ieq_t, ieq_f, ieq_r, gi_t, gd_t, gz0, gz1, gl_x, ob0_some, ob1_some, ob2_some, ob3_some, ob4_some, ob5_some, ob6_some, ob7_some, ob8_some, ob9_some, ob10_some, ob11_some, ob12_some, ob13_some, s1]
        exact c2.trans d3
theorem t_proof_1 {S : Int64} (hG : GI P C al n hid yg) (hV : VG P C) (hR : C ^ P ≤ 64) (hL : Rl P C (C ^ P) yr) (hE : ES P C n eg em) (ha : al ≤ 3) (hM : ME n eg em yq ym) (hS : Hs S (still P C n al eg em) (C ^ P)) (h1 : cl (still P C n al eg em) (C ^ P) = 1) : ∃ c, c < 2 ^ n ∧ best_of (cnd P C n al eg em) c ∧ pf_L_proof yg yq ym yr S = some (nI c) := by
  have hn := hE.1
  obtain ⟨c, c1, c2, c3⟩ := t_sizes hG hV hR hL hE ha hM (vld_all hn h1) 100000 1 (Nat.le_refl 1) (by omega) (by omega) (fun y y1 y2 y3 => by
    have hz : pcn 10 y = 0 := by omega
    have hy : y = 0 := by
      have h8 := p10 hn
      have : ∀ z, z < 1024 → pcn 10 z = 0 → z = 0 := by decide +kernel
      exact this y (by omega) hz
    omega)
  refine ⟨c, c1, c2, ?_⟩
  unfold pf_L_proof
  rw [t_many hR (Hs_SB hS), Hs_cl hS, h1, ob1_some]
  exact (if_pos rfl).trans c3
theorem t_proof_0 {S : Int64} (hR : C ^ P ≤ 64) (hS : Hs S (still P C n al eg em) (C ^ P)) (h1 : cl (still P C n al eg em) (C ^ P) ≠ 1) : pf_L_proof yg yq ym yr S = some 0 := by
  have h2 := cl_le (still P C n al eg em) (C ^ P)
  unfold pf_L_proof
  rw [t_many hR (Hs_SB hS), Hs_cl hS, ob1_some]
  exact if_neg (fun z => h1 ((nI_eq (b := 1) (by omega) (by omega)).mp z))
end

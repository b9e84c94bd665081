/-! laying a game's rows; the reference's mark of two rows -/
def VG (P C : Nat) : Prop := 1 ≤ P ∧ P ≤ 8 ∧ 2 ≤ C ∧ C ≤ 6 ∧ C ^ P ≤ 256
theorem i32_cases (v : Int32) : v < 0 ∨ ∃ j : Nat, j < 2147483648 ∧ v = nI j := by
  by_cases h : v < 0
  · exact Or.inl h
  · exact Or.inr (nI_of h)
theorem neg_lt {v : Int32} (h : v < 0) {k : Nat} (hk : k < 2147483648) : v < nI k := Int32.lt_of_lt_of_le h (nI_pos' hk)
theorem neg_nle {v : Int32} (h : v < 0) {k : Nat} (hk : k < 2147483648) : ¬ nI k ≤ v := Int32.not_le.mpr (neg_lt h hk)
theorem or_add {a b k : Nat} (h : a < 2 ^ k) : nI a ||| nI (b * 2 ^ k) = nI (a + b * 2 ^ k) := by
  rw [fa_or, Nat.or_comm, Nat.mul_comm, ← Nat.two_pow_add_eq_or_of_lt h, Nat.add_comm]
theorem shl_m {a k : Nat} (hk : k < 32) (h : a * 2 ^ k < 2 ^ 32) : nI a <<< (nI k &&& nI 31) = nI (a * 2 ^ k) := pk_shlN _ k (s_l k hk) h
theorem shr_m {a k : Nat} (hk : k < 32) (h : a < 2 ^ 31) : nI a >>> (nI k &&& nI 31) = nI (a / 2 ^ k) := pk_shrN h _ k (s_l k hk)
theorem pow6 {C i : Nat} (hC : C ≤ 6) (hi : i ≤ 8) : C ^ i ≤ 1679616 := Nat.le_trans (Nat.pow_le_pow_left hC i) (Nat.le_trans (Nat.pow_le_pow_right (by decide) hi) (by decide))
theorem pow_pos' {C : Nat} (hC : 2 ≤ C) (i : Nat) : 0 < C ^ i := Nat.pow_pos (by omega)
theorem s_layRow_L {P C R r : Nat} {gcb : Nat → Int32} {gpb : Nat → Int64} (h2 : P ≤ 8) (h3 : 2 ≤ C) (h4 : C ≤ 6) (hR : R ≤ 256) (hr : r < R) : ∀ n i, i ≤ P → P - i < n → pf_X1_layRow_L10 (nI r) (nI P) (nI C) (nI R) gcb gpb n (nI (cbs C r i)) (lN (pwr C r i)) (nI (r / C ^ i)) (nI i) = some (upd gcb r (nI (cbs C r P)), vp_updL gpb r (lN (pwr C r P))) := by
  intro n
  induction n with
  | zero => intro i _ h; omega
  | succ n ih =>
    intro i hi hn
    rw [pf_X1_layRow_L10.eq_2]
    by_cases q : i = P
    · subst q
      rw [if_pos (nI_le (Nat.le_refl _) (by omega))]
      simp (disch := omega) only [g_lit, nI_add, pk_mul, pk_div, g_sdm, pk_sub, g_clamp, ile_t, ile_f, ilt_t, ilt_f, ieq_t, ieq_f, ieq_r, gi_t, gd_t, gz0, gz1, gl_x, ob0_some, ob1_some, ob2_some, ob3_some, ob4_some, ob5_some, ob6_some, ob7_some, ob8_some, ob9_some, ob10_some, ob11_some, ob12_some, ob13_some, pf_X1_layRow_j89, pf_X1_layRow_j67, pf_X1_layRow, s_X1_has_t hR hr]
    · have b1 : r / C ^ i ≤ r := Nat.div_le_self _ _
      have b2 := cbs_lt h3 h4 r i
      have b3 := dg_lt h3 i r
      have b4 : 8 ^ (i + 1) ≤ 8 ^ 8 := Nat.pow_le_pow_right (by decide) (by omega)
      have b5 : dg C i r * 8 ^ i ≤ 7 * 8 ^ i := Nat.mul_le_mul_right _ (by omega)
      have b6 : (8 : Nat) ^ 8 = 16777216 := by decide
      rw [Nat.pow_succ] at b4
      have e1 : nI (r / C ^ i % C) <<< (nI (3 * i) &&& nI 31) = nI (dg C i r * 8 ^ i) := by
        rw [p8]
        rw [p8] at b5 b4
        exact shl_m (by omega) (by unfold dg at b5; omega)
      have e2 : nI (cbs C r i) ||| nI (dg C i r * 8 ^ i) = nI (cbs C r (i + 1)) := by
        simp only [cbs]
        rw [p8] at b2 ⊢
        exact or_add b2
      have e3 := pwr_step h3 h4 r (i := i) (by omega)
      unfold dg at e3
      simp (disch := omega) only [g_lit, nI_add, pk_mul, pk_div, g_sdm, pk_sub, g_clamp, ile_t, ile_f, ilt_t, ilt_f, ieq_t, ieq_f, ieq_r, gi_t, gd_t, gz0, gz1, gl_x, ob0_some, ob1_some, ob2_some, ob3_some, ob4_some, ob5_some, ob6_some, ob7_some, ob8_some, ob9_some, ob10_some, ob11_some, ob12_some, ob13_some, e1, e2, e3]
      rw [dg_step]
      exact ih (i + 1) (by omega) (by omega)
theorem s_layRow {P C R r : Nat} {gcb : Nat → Int32} {gpb : Nat → Int64} (h2 : P ≤ 8) (h3 : 2 ≤ C) (h4 : C ≤ 6) (hR : R ≤ 256) (hr : r < R) : pf_X1_layRow (nI P) (nI C) (nI R) gcb gpb (nI r) = some (upd gcb r (nI (cbs C r P)), vp_updL gpb r (lN (pwr C r P))) := by
  have h := s_layRow_L (gcb := gcb) (gpb := gpb) h2 h3 h4 hR hr 100000 0 (Nat.zero_le _) (by omega)
  rw [Nat.pow_zero, Nat.div_one] at h
  exact h
/-- the rows below j are laid -/
def laid (P C j : Nat) (gcb : Nat → Int32) (gpb : Nat → Int64) : Prop := ∀ r, r < j → gcb r = nI (cbs C r P) ∧ gpb r = lN (pwr C r P)
theorem s_lay_L {P C R : Nat} (h2 : P ≤ 8) (h3 : 2 ≤ C) (h4 : C ≤ 6) (hR : R ≤ 256) : ∀ n j gcb gpb, j ≤ R → R - j < n → laid P C j gcb gpb → ∃ gcb' gpb', pf_X1_lay_L72 (nI R) (nI P) (nI C) (nI R) n (nI j) gcb gpb = some (nI 1, nI P, nI C, nI R, gcb', gpb') ∧ laid P C R gcb' gpb' := by
  intro n
  induction n with
  | zero => intro j _ _ _ h; omega
  | succ n ih =>
    intro j gcb gpb hj hn hl
    rw [pf_X1_lay_L72.eq_2]
    by_cases q : j = R
    · subst q
      rw [if_pos (nI_le (Nat.le_refl _) (by omega))]
      exact ⟨gcb, gpb, rfl, hl⟩
    · simp (disch := omega) only [g_lit, nI_add, pk_mul, pk_div, g_sdm, pk_sub, g_clamp, ile_t, ile_f, ilt_t, ilt_f, ieq_t, ieq_f, ieq_r, gi_t, gd_t, gz0, gz1, gl_x, ob0_some, ob1_some, ob2_some, ob3_some, ob4_some, ob5_some, ob6_some, ob7_some, ob8_some, ob9_some, ob10_some, ob11_some, ob12_some, ob13_some, s_layRow h2 h3 h4 hR (by omega : j < R)]
      refine ih (j + 1) _ _ (by omega) (by omega) (fun r hr => ?_)
      by_cases e : r = j
      · subst e
        exact ⟨pk_us, pk_uLs⟩
      · have h := hl r (by omega)
        exact ⟨(pk_un e).trans h.1, (pk_uLn e).trans h.2⟩
theorem s_lay_p {P C : Nat} {uP uC uR : Int32} {gcb : Nat → Int32} {gpb : Nat → Int64} (h2 : P ≤ 8) (h4 : C ≤ 6) : ∀ n i, i ≤ P → P - i < n → pf_X1_lay_L29 (nI P) (nI C) uP uC uR gcb gpb n (nI (C ^ i)) (nI i) = (if C ^ P ≤ 256 then pf_X1_lay_L72 (nI (C ^ P)) (nI P) (nI C) (nI (C ^ P)) 100000 (nI 0) gcb gpb else some (nI 0, uP, uC, uR, gcb, gpb)) := by
  intro n
  induction n with
  | zero => intro i _ h; omega
  | succ n ih =>
    intro i hi hn
    rw [pf_X1_lay_L29.eq_2]
    have hp := pow6 h4 h2
    by_cases q : i = P
    · subst q
      rw [if_pos (nI_le (Nat.le_refl _) (by omega))]
      by_cases e : C ^ i ≤ 256
      · simp (disch := omega) only [g_lit, nI_add, pk_mul, pk_div, g_sdm, pk_sub, g_clamp, ile_t, ile_f, ilt_t, ilt_f, ieq_t, ieq_f, ieq_r, gi_t, gd_t, gz0, gz1, gl_x, ob0_some, ob1_some, ob2_some, ob3_some, ob4_some, ob5_some, ob6_some, ob7_some, ob8_some, ob9_some, ob10_some, ob11_some, ob12_some, ob13_some]
        rw [if_pos e]
      · simp (disch := omega) only [g_lit, nI_add, pk_mul, pk_div, g_sdm, pk_sub, g_clamp, ile_t, ile_f, ilt_t, ilt_f, ieq_t, ieq_f, ieq_r, gi_t, gd_t, gz0, gz1, gl_x, ob0_some, ob1_some, ob2_some, ob3_some, ob4_some, ob5_some, ob6_some, ob7_some, ob8_some, ob9_some, ob10_some, ob11_some, ob12_some, ob13_some]
        rw [if_neg e]
    · simp (disch := omega) only [g_lit, nI_add, pk_mul, pk_div, g_sdm, pk_sub, g_clamp, ile_t, ile_f, ilt_t, ilt_f, ieq_t, ieq_f, ieq_r, gi_t, gd_t, gz0, gz1, gl_x, ob0_some, ob1_some, ob2_some, ob3_some, ob4_some, ob5_some, ob6_some, ob7_some, ob8_some, ob9_some, ob10_some, ob11_some, ob12_some, ob13_some, ← Nat.pow_succ]
      exact ih (i + 1) (by omega) (by omega)
theorem s_lay {P C : Nat} (uP uC uR : Int32) (gcb : Nat → Int32) (gpb : Nat → Int64) (h : VG P C) : ∃ gcb' gpb', pf_X1_lay uP uC uR gcb gpb (nI P) (nI C) = some (nI 1, nI P, nI C, nI (C ^ P), gcb', gpb') ∧ laid P C (C ^ P) gcb' gpb' := by
  obtain ⟨h1, h2, h3, h4, h5⟩ := h
  have e : pf_X1_lay uP uC uR gcb gpb (nI P) (nI C) = pf_X1_lay_L72 (nI (C ^ P)) (nI P) (nI C) (nI (C ^ P)) 100000 (nI 0) gcb gpb := by
    have k := s_lay_p (uP := uP) (uC := uC) (uR := uR) (gcb := gcb) (gpb := gpb) h2 h4 100000 0 (Nat.zero_le _) (by omega)
    rw [Nat.pow_zero, if_pos h5] at k
    rw [← k]
    simp (disch := omega) only [g_lit, nI_add, pk_mul, pk_div, g_sdm, pk_sub, g_clamp, ile_t, ile_f, ilt_t, ilt_f, ieq_t, ieq_f, ieq_r, gi_t, gd_t, gz0, gz1, gl_x, ob0_some, ob1_some, ob2_some, ob3_some, ob4_some, ob5_some, ob6_some, ob7_some, ob8_some, ob9_some, ob10_some, ob11_some, ob12_some, ob13_some, pf_X1_lay_j22, pf_X1_lay]
  rw [e]
  exact s_lay_L h2 h3 h4 h5 100000 0 gcb gpb (Nat.zero_le _) (by omega) (fun r hr => absurd hr (Nat.not_lt_zero r))
/-- no such game -/
def NG (v1 v2 : Int32) : Prop := ∀ P C, v1 = nI P → v2 = nI C → ¬ VG P C
theorem s_lay_no (uP uC uR : Int32) (gcb : Nat → Int32) (gpb : Nat → Int64) {v1 v2 : Int32} (h : NG v1 v2) : pf_X1_lay uP uC uR gcb gpb v1 v2 = some (nI 0, uP, uC, uR, gcb, gpb) := by
  unfold pf_X1_lay
  simp only [g_lit, pf_X1_lay_j22]
  rcases i32_cases v1 with n1 | ⟨P, hP, rfl⟩
  · rw [if_pos (neg_lt n1 (by decide))]
  · by_cases a1 : P < 1
    · simp (disch := omega) only [g_lit, nI_add, pk_mul, pk_div, g_sdm, pk_sub, g_clamp, ile_t, ile_f, ilt_t, ilt_f, ieq_t, ieq_f, ieq_r, gi_t, gd_t, gz0, gz1, gl_x, ob0_some, ob1_some, ob2_some, ob3_some, ob4_some, ob5_some, ob6_some, ob7_some, ob8_some, ob9_some, ob10_some, ob11_some, ob12_some, ob13_some]
    by_cases a2 : 8 < P
    · simp (disch := omega) only [g_lit, nI_add, pk_mul, pk_div, g_sdm, pk_sub, g_clamp, ile_t, ile_f, ilt_t, ilt_f, ieq_t, ieq_f, ieq_r, gi_t, gd_t, gz0, gz1, gl_x, ob0_some, ob1_some, ob2_some, ob3_some, ob4_some, ob5_some, ob6_some, ob7_some, ob8_some, ob9_some, ob10_some, ob11_some, ob12_some, ob13_some]
    rcases i32_cases v2 with n2 | ⟨C, hC, rfl⟩
    · simp (disch := omega) only [g_lit, nI_add, pk_mul, pk_div, g_sdm, pk_sub, g_clamp, ile_t, ile_f, ilt_t, ilt_f, ieq_t, ieq_f, ieq_r, gi_t, gd_t, gz0, gz1, gl_x, ob0_some, ob1_some, ob2_some, ob3_some, ob4_some, ob5_some, ob6_some, ob7_some, ob8_some, ob9_some, ob10_some, ob11_some, ob12_some, ob13_some]
      rw [if_pos (neg_lt n2 (by decide))]
    by_cases a3 : C < 2
    · simp (disch := omega) only [g_lit, nI_add, pk_mul, pk_div, g_sdm, pk_sub, g_clamp, ile_t, ile_f, ilt_t, ilt_f, ieq_t, ieq_f, ieq_r, gi_t, gd_t, gz0, gz1, gl_x, ob0_some, ob1_some, ob2_some, ob3_some, ob4_some, ob5_some, ob6_some, ob7_some, ob8_some, ob9_some, ob10_some, ob11_some, ob12_some, ob13_some]
    by_cases a4 : 6 < C
    · simp (disch := omega) only [g_lit, nI_add, pk_mul, pk_div, g_sdm, pk_sub, g_clamp, ile_t, ile_f, ilt_t, ilt_f, ieq_t, ieq_f, ieq_r, gi_t, gd_t, gz0, gz1, gl_x, ob0_some, ob1_some, ob2_some, ob3_some, ob4_some, ob5_some, ob6_some, ob7_some, ob8_some, ob9_some, ob10_some, ob11_some, ob12_some, ob13_some]
    have k := s_lay_p (uP := uP) (uC := uC) (uR := uR) (gcb := gcb) (gpb := gpb) (by omega : P ≤ 8) (by omega : C ≤ 6) 100000 0 (Nat.zero_le _) (by omega)
    rw [Nat.pow_zero, if_neg (fun e => h P C rfl rfl ⟨by omega, by omega, by omega, by omega, e⟩)] at k
    simp (disch := omega) only [g_lit, nI_add, pk_mul, pk_div, g_sdm, pk_sub, g_clamp, ile_t, ile_f, ilt_t, ilt_f, ieq_t, ieq_f, ieq_r, gi_t, gd_t, gz0, gz1, gl_x, ob0_some, ob1_some, ob2_some, ob3_some, ob4_some, ob5_some, ob6_some, ob7_some, ob8_some, ob9_some, ob10_some, ob11_some, ob12_some, ob13_some, k]
theorem game_cases (v1 v2 : Int32) : (∃ P C, v1 = nI P ∧ v2 = nI C ∧ VG P C) ∨ NG v1 v2 := by
  by_cases h : ∃ P C, v1 = nI P ∧ v2 = nI C ∧ VG P C
  · exact Or.inl h
  · exact Or.inr fun P C e1 e2 hv => h ⟨P, C, e1, e2, hv⟩
theorem cbs_div {C : Nat} (hC : 2 ≤ C) (hC6 : C ≤ 6) (r : Nat) {i k : Nat} (hk : k < i) : cbs C r i / 2 ^ (3 * k) % 2 ^ 3 = dg C k r := by
  have hd := dg_lt hC k r
  apply Nat.eq_of_testBit_eq
  intro s
  rw [Nat.testBit_mod_two_pow, ← Nat.shiftRight_eq_div_pow, Nat.testBit_shiftRight]
  by_cases h : s < 3
  · rw [cbs_tb hC hC6 r i k s hk h, decide_eq_true h, Bool.true_and]
  · rw [decide_eq_false h, Bool.false_and]
    exact (Nat.testBit_lt_two_pow (Nat.lt_of_lt_of_le (by omega : dg C k r < 2 ^ 3) (Nat.pow_le_pow_right (by decide) (by omega)))).symm
theorem s_colourOf {P C R r p : Nat} {gcb : Nat → Int32} (h2 : P ≤ 8) (h3 : 2 ≤ C) (h4 : C ≤ 6) (hR : R ≤ 256) (hr : r < R) (hp : p < P) (h1 : ∀ r, r < R → gcb r = nI (cbs C r P)) : pf_X1_colourOf (nI P) (nI R) gcb (nI r) (nI p) = some (nI (dg C (P - 1 - p) r)) := by
  have b := cbs_lt h3 h4 r P
  have b4 : 8 ^ P ≤ 8 ^ 8 := Nat.pow_le_pow_right (by decide) (by omega)
  have b6 : (8 : Nat) ^ 8 = 16777216 := by decide
  have e : nI (cbs C r P) >>> (nI (3 * (P - 1 - p)) &&& nI 31) = nI (cbs C r P / 2 ^ (3 * (P - 1 - p))) := shr_m (by omega) (by omega)
  unfold pf_X1_colourOf
  simp (disch := omega) only [g_lit, nI_add, pk_mul, pk_div, g_sdm, pk_sub, g_clamp, ile_t, ile_f, ilt_t, ilt_f, ieq_t, ieq_f, ieq_r, gi_t, gd_t, gz0, gz1, gl_x, ob0_some, ob1_some, ob2_some, ob3_some, ob4_some, ob5_some, ob6_some, ob7_some, ob8_some, ob9_some, ob10_some, ob11_some, ob12_some, ob13_some, s_X1_has_t hR hr, h1 r hr, e]
  rw [fa_and]
  congr 2
  rw [← cbs_div h3 h4 r (by omega : P - 1 - p < P)]
  exact Nat.and_two_pow_sub_one_eq_mod _ 3

/-! possible marks, lies, the rows that are left, parts -/
theorem t_poss_n (kL : Int32 → Option Int32) {P b : Nat} {v : Int32} {yg : Nat → Int32} (h0 : yg 0 = nI P) (hP : P ≤ 8) (hb : b ≤ P) : ∀ d w, w ≤ P - b + 1 → P - b + 1 - w < d → (∀ x, w ≤ x → x ≤ P - b → v ≠ nI (10 * b + x)) → pf_L_isPossible_L11 v yg kL (nI b) d (nI w) = kL (nI (b + 1)) := by
  intro d
  induction d with
  | zero => intro w _ h; omega
  | succ d ih =>
    intro w h1 h2 h3
    rw [pf_L_isPossible_L11.eq_2, k0, h0]
    by_cases e : P - b < w
    · simp (disch := omega) only [g_lit, nI_add, pk_mul, pk_div, g_sdm, pk_sub, g_clamp, ile_t, ile_f, ilt_t, ilt_f, ieq_t, ieq_f, ieq_r, gi_t, gd_t, gz0, gz1, gl_x, ob0_some, ob1_some, ob2_some, ob3_some, ob4_some, ob5_some, ob6_some, ob7_some, ob8_some, ob9_some, ob10_some, ob11_some, ob12_some, ob13_some]
    · have hn := h3 w (Nat.le_refl _) (by omega)
      have e2 : ¬ v = nI 10 * nI b + nI w := by
        rw [pk_mul, nI_add]
        exact hn
      rw [show (10 : Int32) = nI 10 from rfl, if_neg e2]
      simp (disch := omega) only [g_lit, nI_add, pk_mul, pk_div, g_sdm, pk_sub, g_clamp, ile_t, ile_f, ilt_t, ilt_f, ieq_t, ieq_f, ieq_r, gi_t, gd_t, gz0, gz1, gl_x, ob0_some, ob1_some, ob2_some, ob3_some, ob4_some, ob5_some, ob6_some, ob7_some, ob8_some, ob9_some, ob10_some, ob11_some, ob12_some, ob13_some]
      exact ih (w + 1) (by omega) (by omega) (fun x hx => h3 x (by omega))
theorem t_poss_y (kL : Int32 → Option Int32) {P b z : Nat} {v : Int32} {yg : Nat → Int32} (h0 : yg 0 = nI P) (hP : P ≤ 8) (h1 : 1 ≤ P) (hb : b ≤ P) (hz : z ≤ P - b) (hv : v = nI (10 * b + z)) : ∀ d w, w ≤ z → z - w < d → pf_L_isPossible_L11 v yg kL (nI b) d (nI w) = some (nI (if z = 1 ∧ b = P - 1 then 0 else 1)) := by
  intro d
  induction d with
  | zero => intro w _ h; omega
  | succ d ih =>
    intro w h2 h3
    rw [pf_L_isPossible_L11.eq_2, k0, h0, hv]
    by_cases e : w = z
    · subst e
      by_cases q : w = 1
      · by_cases q2 : b = P - 1
        · rw [show (if w = 1 ∧ b = P - 1 then (0 : Nat) else 1) = 0 from if_pos ⟨q, q2⟩]
          simp (disch := omega) only [g_lit, nI_add, pk_mul, pk_div, g_sdm, pk_sub, g_clamp, ile_t, ile_f, ilt_t, ilt_f, ieq_t, ieq_f, ieq_r, gi_t, gd_t, gz0, gz1, gl_x, ob0_some, ob1_some, ob2_some, ob3_some, ob4_some, ob5_some, ob6_some, ob7_some, ob8_some, ob9_some, ob10_some, ob11_some, ob12_some, ob13_some, pf_L_isPossible_j49, pf_L_isPossible_j44, q, if_true]
        · rw [show (if w = 1 ∧ b = P - 1 then (0 : Nat) else 1) = 1 from if_neg (fun z => q2 z.2)]
          simp (disch := omega) only [g_lit, nI_add, pk_mul, pk_div, g_sdm, pk_sub, g_clamp, ile_t, ile_f, ilt_t, ilt_f, ieq_t, ieq_f, ieq_r, gi_t, gd_t, gz0, gz1, gl_x, ob0_some, ob1_some, ob2_some, ob3_some, ob4_some, ob5_some, ob6_some, ob7_some, ob8_some, ob9_some, ob10_some, ob11_some, ob12_some, ob13_some, pf_L_isPossible_j49, pf_L_isPossible_j44, q, if_true]
      · rw [show (if w = 1 ∧ b = P - 1 then (0 : Nat) else 1) = 1 from if_neg (fun z => q z.1)]
        simp (disch := omega) only [g_lit, nI_add, pk_mul, pk_div, g_sdm, pk_sub, g_clamp, ile_t, ile_f, ilt_t, ilt_f, ieq_t, ieq_f, ieq_r, gi_t, gd_t, gz0, gz1, gl_x, ob0_some, ob1_some, ob2_some, ob3_some, ob4_some, ob5_some, ob6_some, ob7_some, ob8_some, ob9_some, ob10_some, ob11_some, ob12_some, ob13_some, pf_L_isPossible_j49, pf_L_isPossible_j44, if_true]
    · simp (disch := omega) only [g_lit, nI_add, pk_mul, pk_div, g_sdm, pk_sub, g_clamp, ile_t, ile_f, ilt_t, ilt_f, ieq_t, ieq_f, ieq_r, gi_t, gd_t, gz0, gz1, gl_x, ob0_some, ob1_some, ob2_some, ob3_some, ob4_some, ob5_some, ob6_some, ob7_some, ob8_some, ob9_some, ob10_some, ob11_some, ob12_some, ob13_some]
      rw [← hv]
      exact ih (w + 1) (by omega) (by omega)
theorem t_poss_N {P : Nat} {v : Int32} {yg : Nat → Int32} (h0 : yg 0 = nI P) (hP : P ≤ 8) : ∀ d b, b ≤ P + 1 → P + 1 - b < d → (∀ y x, b ≤ y → y ≤ P → x ≤ P - y → v ≠ nI (10 * y + x)) → pf_L_isPossible_L2 v yg d (nI b) = some (nI 0) := by
  intro d
  induction d with
  | zero => intro b _ h; omega
  | succ d ih =>
    intro b h1 h2 h3
    rw [pf_L_isPossible_L2.eq_2, k0, h0]
    by_cases e : P < b
    · simp (disch := omega) only [g_lit, nI_add, pk_mul, pk_div, g_sdm, pk_sub, g_clamp, ile_t, ile_f, ilt_t, ilt_f, ieq_t, ieq_f, ieq_r, gi_t, gd_t, gz0, gz1, gl_x, ob0_some, ob1_some, ob2_some, ob3_some, ob4_some, ob5_some, ob6_some, ob7_some, ob8_some, ob9_some, ob10_some, ob11_some, ob12_some, ob13_some]
    · simp (disch := omega) only [g_lit, nI_add, pk_mul, pk_div, g_sdm, pk_sub, g_clamp, ile_t, ile_f, ilt_t, ilt_f, ieq_t, ieq_f, ieq_r, gi_t, gd_t, gz0, gz1, gl_x, ob0_some, ob1_some, ob2_some, ob3_some, ob4_some, ob5_some, ob6_some, ob7_some, ob8_some, ob9_some, ob10_some, ob11_some, ob12_some, ob13_some]
      rw [t_poss_n _ h0 hP (by omega) 100000 0 (by omega) (by omega) (fun x _ hx => h3 b x (Nat.le_refl _) (by omega) hx)]
      exact ih (b + 1) (by omega) (by omega) (fun y x hy => h3 y x (by omega))
theorem t_poss_Y {P c z : Nat} {v : Int32} {yg : Nat → Int32} (h0 : yg 0 = nI P) (hP : P ≤ 8) (h1 : 1 ≤ P) (hc : c ≤ P) (hz : z ≤ P - c) (hv : v = nI (10 * c + z)) : ∀ d b, b ≤ c → c - b < d → pf_L_isPossible_L2 v yg d (nI b) = some (nI (if z = 1 ∧ c = P - 1 then 0 else 1)) := by
  intro d
  induction d with
  | zero => intro b _ h; omega
  | succ d ih =>
    intro b h2 h3
    rw [pf_L_isPossible_L2.eq_2, k0, h0]
    by_cases e : b = c
    · subst e
      simp (disch := omega) only [g_lit, nI_add, pk_mul, pk_div, g_sdm, pk_sub, g_clamp, ile_t, ile_f, ilt_t, ilt_f, ieq_t, ieq_f, ieq_r, gi_t, gd_t, gz0, gz1, gl_x, ob0_some, ob1_some, ob2_some, ob3_some, ob4_some, ob5_some, ob6_some, ob7_some, ob8_some, ob9_some, ob10_some, ob11_some, ob12_some, ob13_some]
      exact t_poss_y _ h0 hP h1 hc hz hv 100000 0 (Nat.zero_le _) (by omega)
    · simp (disch := omega) only [g_lit, nI_add, pk_mul, pk_div, g_sdm, pk_sub, g_clamp, ile_t, ile_f, ilt_t, ilt_f, ieq_t, ieq_f, ieq_r, gi_t, gd_t, gz0, gz1, gl_x, ob0_some, ob1_some, ob2_some, ob3_some, ob4_some, ob5_some, ob6_some, ob7_some, ob8_some, ob9_some, ob10_some, ob11_some, ob12_some, ob13_some]
      rw [t_poss_n _ h0 hP (by omega) 100000 0 (by omega) (by omega) (fun x _ hx => by
        rw [hv]
        exact fun q => by
          have := (nI_eq (by omega) (by omega)).mp q
          omega)]
      exact ih (b + 1) (by omega) (by omega)
theorem t_poss {P C al n : Nat} {hid : Int32} {yg : Nat → Int32} (hG : GI P C al n hid yg) (hV : VG P C) (v : Int32) : (∃ m, m ≤ 80 ∧ v = nI m ∧ pf_X1_allows (nI P) v = some (nI 1) ∧ pf_L_isPossible yg v = some (nI 1)) ∨ (pf_X1_allows (nI P) v = some (nI 0) ∧ pf_L_isPossible yg v = some (nI 0)) := by
  have h1 := hV.1
  have h2 := hV.2.1
  have no : (∀ y x, 0 ≤ y → y ≤ P → x ≤ P - y → v ≠ nI (10 * y + x)) → pf_L_isPossible yg v = some (nI 0) := fun h => t_poss_N hG.1 h2 100000 0 (by omega) (by omega) h
  rcases i32_cases v with h | ⟨j, hj, rfl⟩
  · refine Or.inr ⟨?_, no ?_⟩
    · unfold pf_X1_allows
      exact if_neg (neg_nle (k := 0) h (by omega))
    · intro y x _ hy hx q
      have := neg_lt h (k := 10 * y + x) (by omega)
      rw [q] at this
      exact Int32.lt_irrefl this
  · have yes : j / 10 + j % 10 ≤ P → pf_L_isPossible yg (nI j) = some (nI (if j % 10 = 1 ∧ j / 10 = P - 1 then 0 else 1)) := fun h => t_poss_Y (c := j / 10) (z := j % 10) hG.1 h2 h1 (by omega) (by omega) (by congr 1; omega) 100000 0 (Nat.zero_le _) (by omega)
    by_cases q1 : P < j / 10 + j % 10
    · refine Or.inr ⟨?_, no ?_⟩
      · by_cases q2 : j % 10 = 1
        · by_cases q3 : j / 10 = P - 1
          · simp (disch := omega) only [g_lit, nI_add, pk_mul, pk_div, g_sdm, pk_sub, g_clamp, ile_t, ile_f, ilt_t, ilt_f, ieq_t, ieq_f, ieq_r, gi_t, gd_t, gz0, gz1, gl_x, ob0_some, ob1_some, ob2_some, ob3_some, ob4_some, ob5_some, ob6_some, ob7_some, ob8_some, ob9_some, ob10_some, ob11_some, ob12_some, ob13_some, pf_X1_allows_j58, pf_X1_allows_j57, pf_X1_allows_j36, pf_X1_allows_j35, pf_X1_allows, q2, if_true]
          · simp (disch := omega) only [g_lit, nI_add, pk_mul, pk_div, g_sdm, pk_sub, g_clamp, ile_t, ile_f, ilt_t, ilt_f, ieq_t, ieq_f, ieq_r, gi_t, gd_t, gz0, gz1, gl_x, ob0_some, ob1_some, ob2_some, ob3_some, ob4_some, ob5_some, ob6_some, ob7_some, ob8_some, ob9_some, ob10_some, ob11_some, ob12_some, ob13_some, pf_X1_allows_j58, pf_X1_allows_j57, pf_X1_allows_j36, pf_X1_allows_j35, pf_X1_allows, q2, if_true]
        · simp (disch := omega) only [g_lit, nI_add, pk_mul, pk_div, g_sdm, pk_sub, g_clamp, ile_t, ile_f, ilt_t, ilt_f, ieq_t, ieq_f, ieq_r, gi_t, gd_t, gz0, gz1, gl_x, ob0_some, ob1_some, ob2_some, ob3_some, ob4_some, ob5_some, ob6_some, ob7_some, ob8_some, ob9_some, ob10_some, ob11_some, ob12_some, ob13_some, pf_X1_allows_j58, pf_X1_allows_j57, pf_X1_allows_j36, pf_X1_allows_j35, pf_X1_allows]
      · intro y x _ hy hx q
        have := (nI_eq hj (by omega)).mp q
        omega
    · have hy := yes (by omega)
      by_cases q2 : j % 10 = 1
      · by_cases q3 : j / 10 = P - 1
        · rw [if_pos ⟨q2, q3⟩] at hy
          refine Or.inr ⟨?_, hy⟩
          simp (disch := omega) only [g_lit, nI_add, pk_mul, pk_div, g_sdm, pk_sub, g_clamp, ile_t, ile_f, ilt_t, ilt_f, ieq_t, ieq_f, ieq_r, gi_t, gd_t, gz0, gz1, gl_x, ob0_some, ob1_some, ob2_some, ob3_some, ob4_some, ob5_some, ob6_some, ob7_some, ob8_some, ob9_some, ob10_some, ob11_some, ob12_some, ob13_some, pf_X1_allows_j58, pf_X1_allows_j57, pf_X1_allows_j36, pf_X1_allows_j35, pf_X1_allows, q2, q3, if_true]
        · rw [if_neg (fun z => q3 z.2)] at hy
          refine Or.inl ⟨j, by omega, rfl, ?_, hy⟩
          simp (disch := omega) only [g_lit, nI_add, pk_mul, pk_div, g_sdm, pk_sub, g_clamp, ile_t, ile_f, ilt_t, ilt_f, ieq_t, ieq_f, ieq_r, gi_t, gd_t, gz0, gz1, gl_x, ob0_some, ob1_some, ob2_some, ob3_some, ob4_some, ob5_some, ob6_some, ob7_some, ob8_some, ob9_some, ob10_some, ob11_some, ob12_some, ob13_some, pf_X1_allows_j58, pf_X1_allows_j57, pf_X1_allows_j36, pf_X1_allows_j35, pf_X1_allows, q2, if_true]
      · rw [if_neg (fun z => q2 z.1)] at hy
        refine Or.inl ⟨j, by omega, rfl, ?_, hy⟩
        simp (disch := omega) only [g_lit, nI_add, pk_mul, pk_div, g_sdm, pk_sub, g_clamp, ile_t, ile_f, ilt_t, ilt_f, ieq_t, ieq_f, ieq_r, gi_t, gd_t, gz0, gz1, gl_x, ob0_some, ob1_some, ob2_some, ob3_some, ob4_some, ob5_some, ob6_some, ob7_some, ob8_some, ob9_some, ob10_some, ob11_some, ob12_some, ob13_some, pf_X1_allows_j58, pf_X1_allows_j57, pf_X1_allows_j36, pf_X1_allows_j35, pf_X1_allows, if_true]
section
variable {P C al n : Nat} {hid : Int32} {eg em : Nat → Nat} {yg yq ym : Nat → Int32} {yr : Nat → Int64}
theorem t_lies_L {r : Nat} (hG : GI P C al n hid yg) (hV : VG P C) (hR : C ^ P ≤ 64) (hL : Rl P C (C ^ P) yr) (hE : ES P C n eg em) (hM : ME n eg em yq ym) (hr : r < C ^ P) : ∀ d i, i ≤ n → n - i < d → pf_L_lies_L6 (nI r) yg yq ym yr d (nI (nl P C eg em i r)) (nI i) = some (nI (nl P C eg em n r)) := by
  have hn := hE.1
  intro d
  induction d with
  | zero => intro i _ h; omega
  | succ d ih =>
    intro i h1 h2
    rw [pf_L_lies_L6.eq_2, k5, hG.2.2.2.2.2]
    have hle := nl_le P C eg em i r
    by_cases e : i = n
    · subst e
      simp (disch := omega) only [g_lit, nI_add, pk_mul, pk_div, g_sdm, pk_sub, g_clamp, ile_t, ile_f, ilt_t, ilt_f, ieq_t, ieq_f, ieq_r, gi_t, gd_t, gz0, gz1, gl_x, ob0_some, ob1_some, ob2_some, ob3_some, ob4_some, ob5_some, ob6_some, ob7_some, ob8_some, ob9_some, ob10_some, ob11_some, ob12_some, ob13_some]
    · have hi : i < n := by omega
      obtain ⟨e1, e2⟩ := hM i hi
      have e3 := (hE.2 i hi)
      have e4 : pf_L_pins yg yr (yq i) (nI r) = some (nI (mk P C (eg i) r)) := by
        rw [e1]
        exact t_pins hG hV hR hL e3.1 hr
      have m8 := mk80 hV (eg i) r
      have hx := ih (i + 1) (by omega) (by omega)
      have e5 : nl P C eg em (i + 1) r = nl P C eg em i r + lie P C eg em i r := rfl
      rw [e5] at hx
      by_cases q : mk P C (eg i) r = em i
      · have e6 : lie P C eg em i r = 0 := if_pos q
        rw [e6] at hx
        simp (disch := omega) only [g_lit, nI_add, pk_mul, pk_div, g_sdm, pk_sub, g_clamp, ile_t, ile_f, ilt_t, ilt_f, ieq_t, ieq_f, ieq_r, gi_t, gd_t, gz0, gz1, gl_x, ob0_some, ob1_some, ob2_some, ob3_some, ob4_some, ob5_some, ob6_some, ob7_some, ob8_some, ob9_some, ob10_some, ob11_some, ob12_some, ob13_some, e4, e2, q, pf_L_lies_j39]
        exact hx
      · have e6 : lie P C eg em i r = 1 := if_neg q
        rw [e6] at hx
        simp (disch := omega) only [g_lit, nI_add, pk_mul, pk_div, g_sdm, pk_sub, g_clamp, ile_t, ile_f, ilt_t, ilt_f, ieq_t, ieq_f, ieq_r, gi_t, gd_t, gz0, gz1, gl_x, ob0_some, ob1_some, ob2_some, ob3_some, ob4_some, ob5_some, ob6_some, ob7_some, ob8_some, ob9_some, ob10_some, ob11_some, ob12_some, ob13_some, e4, e2, pf_L_lies_j39]
        exact hx
theorem t_lies {r : Nat} (hG : GI P C al n hid yg) (hV : VG P C) (hR : C ^ P ≤ 64) (hL : Rl P C (C ^ P) yr) (hE : ES P C n eg em) (hM : ME n eg em yq ym) (hr : r < C ^ P) : pf_L_lies yg yq ym yr (nI r) = some (nI (nl P C eg em n r)) :=
  t_lies_L hG hV hR hL hE hM hr 100000 0 (Nat.zero_le _) (by have := hE.1; omega)
/-- S holds just those of f below j -/
def Hs (S : Int64) (f : Nat → Bool) (j : Nat) : Prop := ∀ i, bt S i = (decide (i < j) && f i)
theorem Hs_0 (f : Nat → Bool) : Hs 0 f 0 := fun i => by
  rw [bt_0, decide_eq_false (Nat.not_lt_zero i), Bool.false_and]
theorem Hs_no {S : Int64} {f : Nat → Bool} {j : Nat} (h : Hs S f j) (hf : f j = false) : Hs S f (j + 1) := fun i => by
  rw [h i]
  by_cases q : i = j
  · subst q
    rw [hf, Bool.and_false, Bool.and_false]
  · congr 1
    exact decide_eq_decide.mpr (by omega)
theorem Hs_yes {S : Int64} {f : Nat → Bool} {j : Nat} (hj : j < 64) (h : Hs S f j) (hf : f j = true) : Hs (S ||| g_lsl 1 (nI j)) f (j + 1) := fun i => by
  rw [bt_or, h i]
  by_cases hi : i < 64
  · rw [bt_sl hj hi]
    by_cases q : i = j
    · subst q
      rw [hf]
      simp
    · rw [decide_eq_false q, Bool.or_false]
      congr 1
      exact decide_eq_decide.mpr (by omega)
  · rw [bt_hi _ (by omega), decide_eq_false (by omega : ¬ i < j), decide_eq_false (by omega : ¬ i < j + 1)]
    rfl
theorem Hs_SB {S : Int64} {f : Nat → Bool} {j : Nat} (h : Hs S f j) : SB S j := fun i hi => by
  rw [h i, decide_eq_false (by omega), Bool.false_and]
theorem Hs_at {S : Int64} {f : Nat → Bool} {j i : Nat} (h : Hs S f j) (hi : i < j) : bt S i = f i := by
  rw [h i, decide_eq_true hi, Bool.true_and]
theorem t_left_L (hG : GI P C al n hid yg) (hV : VG P C) (hR : C ^ P ≤ 64) (hL : Rl P C (C ^ P) yr) (hE : ES P C n eg em) (ha : al ≤ 3) (hM : ME n eg em yq ym) : ∀ d j S, j ≤ C ^ P → C ^ P - j < d → Hs S (still P C n al eg em) j → ∃ S', pf_L_left_L6 yg yq ym yr d S (nI j) = some S' ∧ Hs S' (still P C n al eg em) (C ^ P) := by
  intro d
  induction d with
  | zero => intro j S _ h; omega
  | succ d ih =>
    intro j S h1 h2 h3
    have hn := hE.1
    rw [pf_L_left_L6.eq_2, k2, hG.2.2.1, k3, hG.2.2.2.1]
    by_cases e : j = C ^ P
    · subst e
      exact ⟨S, by simp (disch := omega) only [g_lit, nI_add, pk_mul, pk_div, g_sdm, pk_sub, g_clamp, ile_t, ile_f, ilt_t, ilt_f, ieq_t, ieq_f, ieq_r, gi_t, gd_t, gz0, gz1, gl_x, ob0_some, ob1_some, ob2_some, ob3_some, ob4_some, ob5_some, ob6_some, ob7_some, ob8_some, ob9_some, ob10_some, ob11_some, ob12_some, ob13_some], h3⟩
    · have e4 := t_lies hG hV hR hL hE hM (r := j) (by omega)
      have hle := nl_le P C eg em n j
      by_cases q : nl P C eg em n j ≤ al
      · obtain ⟨S', x1, x2⟩ := ih (j + 1) (S ||| g_lsl 1 (nI j)) (by omega) (by omega) (Hs_yes (by omega) h3 (decide_eq_true q))
        refine ⟨S', ?_, x2⟩
        simp (disch := omega) only [g_lit, nI_add, pk_mul, pk_div, g_sdm, pk_sub, g_clamp, ile_t, ile_f, ilt_t, ilt_f, ieq_t, ieq_f, ieq_r, gi_t, gd_t, gz0, gz1, gl_x, ob0_some, ob1_some, ob2_some, ob3_some, ob4_some, ob5_some, ob6_some, ob7_some, ob8_some, ob9_some, ob10_some, ob11_some, ob12_some, ob13_some, e4, pf_L_left_j39]
        exact x1
      · obtain ⟨S', x1, x2⟩ := ih (j + 1) S (by omega) (by omega) (Hs_no h3 (decide_eq_false q))
        refine ⟨S', ?_, x2⟩
        have e0 : S ||| 0 = S := bt_ext (fun i _ => by rw [bt_or, bt_0, Bool.or_false])
        simp (disch := omega) only [g_lit, nI_add, pk_mul, pk_div, g_sdm, pk_sub, g_clamp, ile_t, ile_f, ilt_t, ilt_f, ieq_t, ieq_f, ieq_r, gi_t, gd_t, gz0, gz1, gl_x, ob0_some, ob1_some, ob2_some, ob3_some, ob4_some, ob5_some, ob6_some, ob7_some, ob8_some, ob9_some, ob10_some, ob11_some, ob12_some, ob13_some, e4, pf_L_left_j39]
        rw [e0]
        exact x1
theorem t_left (hG : GI P C al n hid yg) (hV : VG P C) (hR : C ^ P ≤ 64) (hL : Rl P C (C ^ P) yr) (hE : ES P C n eg em) (ha : al ≤ 3) (hM : ME n eg em yq ym) : ∃ S, pf_L_left yg yq ym yr = some S ∧ Hs S (still P C n al eg em) (C ^ P) :=
  t_left_L hG hV hR hL hE ha hM 100000 0 0 (Nat.zero_le _) (by omega) (Hs_0 _)
/-- the rows of S with the mark m beside g -/
def pt (P C : Nat) (S : Int64) (g m : Nat) : Nat → Bool := fun x => bt S x && decide (mk P C g x = m)
theorem t_part_L {S : Int64} {g m : Nat} (hG : GI P C al n hid yg) (hV : VG P C) (hR : C ^ P ≤ 64) (hL : Rl P C (C ^ P) yr) (hg : g < C ^ P) (hm : m ≤ 80) : ∀ d j T, j ≤ C ^ P → C ^ P - j < d → Hs T (pt P C S g m) j → ∃ T', pf_L_part_L6 S (nI g) (nI m) yg yr d T (nI j) = some T' ∧ Hs T' (pt P C S g m) (C ^ P) := by
  intro d
  induction d with
  | zero => intro j T _ h; omega
  | succ d ih =>
    intro j T h1 h2 h3
    rw [pf_L_part_L6.eq_2, k2, hG.2.2.1]
    by_cases e : j = C ^ P
    · subst e
      exact ⟨T, by simp (disch := omega) only [g_lit, nI_add, pk_mul, pk_div, g_sdm, pk_sub, g_clamp, ile_t, ile_f, ilt_t, ilt_f, ieq_t, ieq_f, ieq_r, gi_t, gd_t, gz0, gz1, gl_x, ob0_some, ob1_some, ob2_some, ob3_some, ob4_some, ob5_some, ob6_some, ob7_some, ob8_some, ob9_some, ob10_some, ob11_some, ob12_some, ob13_some], h3⟩
    · have e4 := t_has S (r := j) (by omega)
      have e5 := t_pins hG hV hR hL hg (show j < C ^ P by omega)
      have m8 := mk80 hV g j
      cases q : bt S j
      · rw [q] at e4
        obtain ⟨T', x1, x2⟩ := ih (j + 1) T (by omega) (by omega) (Hs_no h3 (by unfold pt; rw [q, Bool.false_and]))
        refine ⟨T', ?_, x2⟩
        have e4 : pf_L_has S (nI j) = some (nI 0) := e4
        simp (disch := omega) only [g_lit, nI_add, pk_mul, pk_div, g_sdm, pk_sub, g_clamp, ile_t, ile_f, ilt_t, ilt_f, ieq_t, ieq_f, ieq_r, gi_t, gd_t, gz0, gz1, gl_x, ob0_some, ob1_some, ob2_some, ob3_some, ob4_some, ob5_some, ob6_some, ob7_some, ob8_some, ob9_some, ob10_some, ob11_some, ob12_some, ob13_some, e4, pf_L_part_j46]
        exact x1
      · rw [q] at e4
        have e4 : pf_L_has S (nI j) = some (nI 1) := e4
        by_cases q2 : mk P C g j = m
        · obtain ⟨T', x1, x2⟩ := ih (j + 1) (T ||| g_lsl 1 (nI j)) (by omega) (by omega) (Hs_yes (by omega) h3 (by unfold pt; rw [q, decide_eq_true q2]; rfl))
          refine ⟨T', ?_, x2⟩
          simp (disch := omega) only [g_lit, nI_add, pk_mul, pk_div, g_sdm, pk_sub, g_clamp, ile_t, ile_f, ilt_t, ilt_f, ieq_t, ieq_f, ieq_r, gi_t, gd_t, gz0, gz1, gl_x, ob0_some, ob1_some, ob2_some, ob3_some, ob4_some, ob5_some, ob6_some, ob7_some, ob8_some, ob9_some, ob10_some, ob11_some, ob12_some, ob13_some, e4, e5, q2, pf_L_part_j46]
          exact x1
        · obtain ⟨T', x1, x2⟩ := ih (j + 1) T (by omega) (by omega) (Hs_no h3 (by unfold pt; rw [q, decide_eq_false q2]; rfl))
          refine ⟨T', ?_, x2⟩
          simp (disch := omega) only [g_lit, nI_add, pk_mul, pk_div, g_sdm, pk_sub, g_clamp, ile_t, ile_f, ilt_t, ilt_f, ieq_t, ieq_f, ieq_r, gi_t, gd_t, gz0, gz1, gl_x, ob0_some, ob1_some, ob2_some, ob3_some, ob4_some, ob5_some, ob6_some, ob7_some, ob8_some, ob9_some, ob10_some, ob11_some, ob12_some, ob13_some, e4, e5, pf_L_part_j46]
          exact x1
theorem t_part {g m : Nat} (S : Int64) (hG : GI P C al n hid yg) (hV : VG P C) (hR : C ^ P ≤ 64) (hL : Rl P C (C ^ P) yr) (hg : g < C ^ P) (hm : m ≤ 80) : ∃ T, pf_L_part yg yr S (nI g) (nI m) = some T ∧ Hs T (pt P C S g m) (C ^ P) :=
  t_part_L hG hV hR hL hg hm 100000 0 0 (Nat.zero_le _) (by omega) (Hs_0 _)
end
/-- how many of S have the mark m beside g -/
def cm (P C : Nat) (S : Int64) (g m : Nat) : Nat := cl (pt P C S g m) (C ^ P)
theorem Hs_cl {T : Int64} {f : Nat → Bool} {j : Nat} (h : Hs T f j) : cl (bt T) j = cl f j := cl_same j (fun i hi => Hs_at h hi)
theorem cm_le (P C : Nat) (S : Int64) (g m : Nat) : cm P C S g m ≤ C ^ P := cl_le _ _
/-- what is left of T when the part is taken off -/
theorem cm_off {P C g m : Nat} {T Tm : Int64} (h : Hs Tm (pt P C T g m) (C ^ P)) (hS : SB T (C ^ P)) : SB (T &&& (Tm ^^^ (-1))) (C ^ P) ∧ (∀ x, bt (T &&& (Tm ^^^ (-1))) x = (bt T x && decide (mk P C g x ≠ m))) ∧ (∀ y, y ≠ m → cm P C (T &&& (Tm ^^^ (-1))) g y = cm P C T g y) ∧ cm P C (T &&& (Tm ^^^ (-1))) g m = 0 := by
  have hb : ∀ x, bt (T &&& (Tm ^^^ (-1))) x = (bt T x && decide (mk P C g x ≠ m)) := by
    intro x
    rw [bt_andn]
    by_cases q : x < C ^ P
    · rw [Hs_at h q]
      unfold pt
      by_cases q2 : mk P C g x = m
      · simp [q2]
      · simp [q2]
    · rw [hS x (by omega), Bool.false_and, Bool.false_and]
  refine ⟨fun i hi => by rw [hb, hS i hi, Bool.false_and], hb, fun y hy => ?_, ?_⟩
  · apply cl_same
    intro i _
    unfold pt
    rw [hb]
    by_cases q2 : mk P C g i = m
    · have q3 : ¬ mk P C g i = y := fun z => hy (z.symm.trans q2)
      rw [decide_eq_false q3, Bool.and_false, Bool.and_false]
    · rw [decide_eq_true (show mk P C g i ≠ m from q2), Bool.and_true]
  · apply cl_none
    intro i _
    unfold pt
    rw [hb]
    by_cases q2 : mk P C g i = m
    · rw [decide_eq_false (show ¬ mk P C g i ≠ m from fun z => z q2), Bool.and_false, Bool.false_and]
    · rw [decide_eq_false q2, Bool.and_false]
/-- the list of a set -/
theorem cl_inj {st : Nat → Bool} {i j : Nat} (hi : st i = true) (hj : st j = true) (h : cl st i = cl st j) : i = j := by
  apply Classical.byContradiction
  intro q
  rcases Nat.lt_or_gt_of_ne q with q | q
  · have := cl_lt q hi
    omega
  · have := cl_lt q hj
    omega
theorem rk_at {st : Nat → Bool} {R i : Nat} (hi : i < R) (hs : st i = true) : rk st R (cl st i) = i := by
  have h1 : cl st i < cl st R := cl_lt hi hs
  obtain ⟨_, h3, h4⟩ := rk_kth st R (cl st i) h1
  exact cl_inj h3 hs h4
theorem ct_list {P C g R m : Nat} {st : Nat → Bool} : ∀ j, j ≤ R → ct (mz P C g (rk st R)) (cl st j) m = cl (fun x => st x && decide (mk P C g x = m)) j
  | 0, _ => rfl
  | j + 1, h => by
    have ih := ct_list (P := P) (C := C) (g := g) (R := R) (m := m) (st := st) j (by omega)
    show ct _ (cl st j + (if st j = true then 1 else 0)) m = cl _ j + (if (st j && decide (mk P C g j = m)) = true then 1 else 0)
    cases q : st j
    · rw [if_neg (by decide), Nat.add_zero, ih, Bool.false_and, if_neg (by decide)]
      rfl
    · rw [if_pos rfl, Bool.true_and]
      show ct _ (cl st j) m + (if mz P C g (rk st R) (cl st j) = m then 1 else 0) = _
      rw [ih]
      have e : mz P C g (rk st R) (cl st j) = mk P C g j := by
        unfold mz
        rw [rk_at (by omega) q]
      rw [e]
      by_cases q2 : mk P C g j = m <;> simp [q2]
theorem ct_cm {P C g m : Nat} {S : Int64} : ct (mz P C g (rk (bt S) (C ^ P))) (cl (bt S) (C ^ P)) m = cm P C S g m := ct_list (C ^ P) (Nat.le_refl _)

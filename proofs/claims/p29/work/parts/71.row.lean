/-! the law's own rows: their digits, how they are laid, and two rows' mark -/
def GI (P C al n : Nat) (hid : Int32) (yg : Nat → Int32) : Prop := yg 0 = nI P ∧ yg 1 = nI C ∧ yg 2 = nI (C ^ P) ∧ yg 3 = nI al ∧ yg 4 = hid ∧ yg 5 = nI n
theorem k0 : (0 : Int32).toNatClampNeg = 0 := by decide
theorem k1 : (1 : Int32).toNatClampNeg = 1 := by decide
theorem k2 : (2 : Int32).toNatClampNeg = 2 := by decide
theorem k3 : (3 : Int32).toNatClampNeg = 3 := by decide
theorem k4 : (4 : Int32).toNatClampNeg = 4 := by decide
theorem k5 : (5 : Int32).toNatClampNeg = 5 := by decide
theorem t_digit_L {P C r q : Nat} {yg : Nat → Int32} (h1 : yg 1 = nI C) (hP : P ≤ 8) (hC : 2 ≤ C) (hC6 : C ≤ 6) (hr : r < 256) (hq : q < P) : ∀ d p, q ≤ p → p < P → p - q < d → pf_L_digit_L9 (nI q) yg d (nI (r / C ^ (P - 1 - p))) (nI p) = some (nI (dg C (P - 1 - q) r)) := by
  intro d
  induction d with
  | zero => intro p _ _ h; omega
  | succ d ih =>
    intro p h2 h3 h4
    have hb : r / C ^ (P - 1 - p) ≤ r := Nat.div_le_self _ _
    rw [pf_L_digit_L9.eq_2, k1, h1]
    by_cases e : p = q
    · subst e
      simp (disch := omega) only [g_lit, nI_add, pk_mul, pk_div, g_sdm, pk_sub, g_clamp, ile_t, ile_f, ilt_t, ilt_f, ieq_t, ieq_f, ieq_r, gi_t, gd_t, gz0, gz1, gl_x, ob0_some, ob1_some, ob2_some, ob3_some, ob4_some, ob5_some, ob6_some, ob7_some, ob8_some, ob9_some, ob10_some, ob11_some, ob12_some, ob13_some]
      rfl
    · have e1 : r / C ^ (P - 1 - p) / C = r / C ^ (P - 1 - (p - 1)) := by
        rw [dg_step]
        congr 2
        omega
      have e2 : nI p + -1 = nI (p - 1) := by
        have := nI_prd (p - 1)
        rw [show p - 1 + 1 = p by omega] at this
        exact this
      rw [e2]
      simp (disch := omega) only [g_lit, nI_add, pk_mul, pk_div, g_sdm, pk_sub, g_clamp, ile_t, ile_f, ilt_t, ilt_f, ieq_t, ieq_f, ieq_r, gi_t, gd_t, gz0, gz1, gl_x, ob0_some, ob1_some, ob2_some, ob3_some, ob4_some, ob5_some, ob6_some, ob7_some, ob8_some, ob9_some, ob10_some, ob11_some, ob12_some, ob13_some]
      rw [e1]
      exact ih (p - 1) (by omega) (by omega) (by omega)
theorem t_digit {P C al n r q : Nat} {hid : Int32} {yg : Nat → Int32} (hG : GI P C al n hid yg) (hV : VG P C) (hr : r < 256) (hq : q < P) : pf_L_digit yg (nI r) (nI q) = some (nI (dg C (P - 1 - q) r)) := by
  have hP := hV.2.1
  have h := t_digit_L (yg := yg) hG.2.1 hV.2.1 hV.2.2.1 hV.2.2.2.1 hr hq 100000 (P - 1) (by omega) (by omega) (by omega)
  rw [show P - 1 - (P - 1) = 0 by omega, Nat.pow_zero, Nat.div_one] at h
  unfold pf_L_digit
  rw [k0, hG.1]
  have hv := hV.1
  simp (disch := omega) only [g_lit, nI_add, pk_mul, pk_div, g_sdm, pk_sub, g_clamp, ile_t, ile_f, ilt_t, ilt_f, ieq_t, ieq_f, ieq_r, gi_t, gd_t, gz0, gz1, gl_x, ob0_some, ob1_some, ob2_some, ob3_some, ob4_some, ob5_some, ob6_some, ob7_some, ob8_some, ob9_some, ob10_some, ob11_some, ob12_some, ob13_some]
  exact h
/-- eights and sixteens of a row's colours -/
def o8 (f : Nat → Nat) : Nat → Nat
  | 0 => 0
  | j + 1 => o8 f j + f j * 8 ^ j
theorem o8_lt {f : Nat → Nat} (h : ∀ k, f k < 8) : ∀ j, o8 f j < 8 ^ j
  | 0 => by show 0 < 1; omega
  | j + 1 => by
    show o8 f j + f j * 8 ^ j < 8 ^ (j + 1)
    have h1 := o8_lt h j
    have h2 := Nat.mul_le_mul_right (8 ^ j) (show f j ≤ 7 by have := h j; omega)
    rw [Nat.pow_succ]
    omega
theorem o8_div {f : Nat → Nat} (h : ∀ k, f k < 8) {k : Nat} : ∀ j, k < j → o8 f j / 8 ^ k % 8 = f k
  | 0, hk => by omega
  | j + 1, hk => by
    have hp : 0 < 8 ^ k := Nat.pow_pos (by omega)
    show (o8 f j + f j * 8 ^ j) / 8 ^ k % 8 = f k
    by_cases q : k = j
    · subst q
      rw [Nat.add_mul_div_right _ _ hp, Nat.div_eq_of_lt (o8_lt h k), Nat.zero_add]
      exact Nat.mod_eq_of_lt (h k)
    · obtain ⟨t, rfl⟩ : ∃ t, j = k + 1 + t := ⟨j - k - 1, by omega⟩
      rw [show f (k + 1 + t) * 8 ^ (k + 1 + t) = (8 * (8 ^ t * f (k + 1 + t))) * 8 ^ k by rw [Nat.pow_add, Nat.pow_succ]; simp only [Nat.mul_comm, Nat.mul_left_comm, Nat.mul_assoc], Nat.add_mul_div_right _ _ hp, Nat.add_mul_mod_self_left]
      exact o8_div h (k + 1 + t) (by omega)
def o16 (f : Nat → Nat) : Nat → Nat
  | 0 => 0
  | j + 1 => o16 f j + 16 ^ f j
def nc (f : Nat → Nat) (c j : Nat) : Nat := cl (fun k => decide (f k = c)) j
theorem nc_s (f : Nat → Nat) (c j : Nat) : nc f c (j + 1) = nc f c j + if f j = c then 1 else 0 := by
  show cl _ j + (if decide (f j = c) = true then 1 else 0) = _
  by_cases q : f j = c <;> simp [q, nc]
theorem o16_nc {f : Nat → Nat} (h : ∀ k, f k < 6) : ∀ j, o16 f j = nc f 0 j + 16 * (nc f 1 j + 16 * (nc f 2 j + 16 * (nc f 3 j + 16 * (nc f 4 j + 16 * nc f 5 j))))
  | 0 => rfl
  | j + 1 => by
    show o16 f j + 16 ^ f j = _
    rw [o16_nc h j]
    simp only [nc_s]
    have hj := h j
    have hc : f j = 0 ∨ f j = 1 ∨ f j = 2 ∨ f j = 3 ∨ f j = 4 ∨ f j = 5 := by omega
    rcases hc with e | e | e | e | e | e <;> rw [e] <;> simp <;> omega
theorem nc_le (f : Nat → Nat) (c j : Nat) : nc f c j ≤ j := cl_le _ j
/-- what the law keeps of a row -/
def rd (P C r : Nat) : Nat → Nat := fun j => dg C (P - 1 - j) r
def pv (P C r j : Nat) : Nat := o8 (rd P C r) j + 2 ^ 24 * o16 (rd P C r) j
theorem rd_lt {P C : Nat} (hC : 2 ≤ C) (hC6 : C ≤ 6) (r k : Nat) : rd P C r k < 6 := Nat.lt_of_lt_of_le (dg_lt hC _ _) hC6
theorem nc_cn {P C : Nat} (r c : Nat) : nc (rd P C r) c P = cn C r c P := by
  have h1 : ∀ j, cn C r c j = cl (fun k => decide (dg C k r = c)) j := by
    intro j
    induction j with
    | zero => rfl
    | succ j ih =>
      show cn C r c j + (if dg C j r = c then 1 else 0) = cl _ j + (if decide (dg C j r = c) = true then 1 else 0)
      rw [ih]
      by_cases q : dg C j r = c <;> simp [q]
  rw [h1]
  exact cl_rev (fun k => decide (dg C k r = c)) P
theorem bl_cl {P C a b : Nat} : cl (fun k => decide (rd P C a k = rd P C b k)) P = bl C a b P := by
  have h1 : ∀ j, bl C a b j = cl (fun k => decide (dg C k a = dg C k b)) j := by
    intro j
    induction j with
    | zero => rfl
    | succ j ih =>
      show bl C a b j + (if dg C j a = dg C j b then 1 else 0) = cl _ j + (if decide (dg C j a = dg C j b) = true then 1 else 0)
      rw [ih]
      by_cases q : dg C j a = dg C j b <;> simp [q]
  rw [h1]
  exact cl_rev (fun k => decide (dg C k a = dg C k b)) P
theorem pv_dig {P C r k : Nat} (hV : VG P C) (hk : k < P) : pv P C r P / 2 ^ (3 * k) % 2 ^ 3 = rd P C r k := by
  have h8 : ∀ k, rd P C r k < 8 := fun k => by have := rd_lt (P := P) hV.2.2.1 hV.2.2.2.1 r k; omega
  have hP := hV.2.1
  obtain ⟨t, ht⟩ : ∃ t, 8 = k + 1 + t := ⟨8 - k - 1, by omega⟩
  have hp : 0 < 8 ^ k := Nat.pow_pos (by omega)
  have e : (2 : Nat) ^ 24 = 8 ^ k * (8 * 8 ^ t) := by
    rw [show (2 : Nat) ^ 24 = 8 ^ (k + 1 + t) by rw [← ht], Nat.pow_add, Nat.pow_succ, Nat.mul_assoc]
  unfold pv
  rw [← p8, e, Nat.mul_assoc, Nat.add_mul_div_left _ _ hp, Nat.mul_assoc, show (2 : Nat) ^ 3 = 8 from rfl, Nat.add_mul_mod_self_left]
  exact o8_div h8 P hk
theorem pv_cnt {P C r c : Nat} (hV : VG P C) (hc : c < 6) : pv P C r P / 2 ^ (24 + 4 * c) % 2 ^ 4 = cn C r c P := by
  have h8 : ∀ k, rd P C r k < 8 := fun k => by have := rd_lt (P := P) hV.2.2.1 hV.2.2.2.1 r k; omega
  have h1 : o8 (rd P C r) P < 2 ^ 24 := Nat.lt_of_lt_of_le (o8_lt h8 P) (Nat.le_trans (Nat.pow_le_pow_right (by omega) hV.2.1) (by decide))
  have h2 := o16_nc (rd_lt (P := P) hV.2.2.1 hV.2.2.2.1 r) P
  have hP := hV.2.1
  have c0 := nc_le (rd P C r) 0 P
  have c1 := nc_le (rd P C r) 1 P
  have c2 := nc_le (rd P C r) 2 P
  have c3 := nc_le (rd P C r) 3 P
  have c4 := nc_le (rd P C r) 4 P
  have c5 := nc_le (rd P C r) 5 P
  rw [← nc_cn]
  unfold pv
  rw [Nat.pow_add, ← Nat.div_div_eq_div_mul, Nat.add_mul_div_left _ _ (by decide), Nat.div_eq_of_lt h1, Nat.zero_add, h2]
  have hcc : c = 0 ∨ c = 1 ∨ c = 2 ∨ c = 3 ∨ c = 4 ∨ c = 5 := by omega
  rcases hcc with e | e | e | e | e | e <;> subst e <;> simp only [Nat.reduceMul, Nat.reducePow] <;> omega
def Rl (P C j : Nat) (yr : Nat → Int64) : Prop := ∀ r, r < j → yr r = lN (pv P C r P)
theorem t_lay_in {P C al n r : Nat} {hid : Int32} {yg : Nat → Int32} (kL : Int32 → (Nat → Int64) → Option (Nat → Int64)) (hG : GI P C al n hid yg) (hV : VG P C) (hr : r < 64) : ∀ d p yr, p ≤ P → P - p < d → yr r = lN (pv P C r p) → pf_L_lay_L15 yg kL (nI r) d (nI p) yr = kL (nI (r + 1)) (vp_updL yr r (lN (pv P C r P))) := by
  have hP := hV.2.1
  intro d
  induction d with
  | zero => intro p yr _ h; omega
  | succ d ih =>
    intro p yr h1 h2 h3
    rw [pf_L_lay_L15.eq_2, k0, hG.1]
    by_cases e : p = P
    · subst e
      simp (disch := omega) only [g_lit, nI_add, pk_mul, pk_div, g_sdm, pk_sub, g_clamp, ile_t, ile_f, ilt_t, ilt_f, ieq_t, ieq_f, ieq_r, gi_t, gd_t, gz0, gz1, gl_x, ob0_some, ob1_some, ob2_some, ob3_some, ob4_some, ob5_some, ob6_some, ob7_some, ob8_some, ob9_some, ob10_some, ob11_some, ob12_some, ob13_some]
      congr 1
      funext j
      unfold vp_updL
      by_cases q : j = r
      · rw [if_pos q, q, h3]
      · rw [if_neg q]
    · have hd := t_digit hG hV (r := r) (q := p) (by omega) (by omega)
      have hdl := rd_lt (P := P) hV.2.2.1 hV.2.2.2.1 r p
      have hdd : dg C (P - 1 - p) r = rd P C r p := rfl
      rw [hd, hdd]
      have e1 : (nI (rd P C r p)).toInt64 = lN (rd P C r p) := nI_l (by omega)
      have e2 : (1 : Int64) = lN 1 := rfl
      have e3 : nI 3 * nI p = nI (3 * p) := pk_mul 3 p
      have e4 : nI 24 + nI 4 * nI (rd P C r p) = nI (24 + 4 * rd P C r p) := by rw [pk_mul, nI_add]
      simp (disch := omega) only [g_lit, nI_add, pk_mul, pk_div, g_sdm, pk_sub, g_clamp, ile_t, ile_f, ilt_t, ilt_f, ieq_t, ieq_f, ieq_r, gi_t, gd_t, gz0, gz1, gl_x, ob0_some, ob1_some, ob2_some, ob3_some, ob4_some, ob5_some, ob6_some, ob7_some, ob8_some, ob9_some, ob10_some, ob11_some, ob12_some, ob13_some, h3, e1, e2]
      rw [lsl_lN _ (by omega), lsl_lN _ (by omega), lN_add, lN_add]
      rw [ih (p + 1) _ (by omega) (by omega) ?_]
      · congr 1
        funext j
        unfold vp_updL
        by_cases q : j = r
        · rw [if_pos q, if_pos q]
        · rw [if_neg q, if_neg q, if_neg q]
      · rw [pk_uLs]
        congr 1
        show o8 (rd P C r) p + 2 ^ 24 * o16 (rd P C r) p + _ = o8 (rd P C r) p + rd P C r p * 8 ^ p + 2 ^ 24 * (o16 (rd P C r) p + 16 ^ rd P C r p)
        rw [p8, Nat.one_mul, Nat.pow_add, show (2 : Nat) ^ (4 * rd P C r p) = 16 ^ rd P C r p by rw [Nat.pow_mul]]
        omega
theorem t_lay_L {P C al n : Nat} {hid : Int32} {yg : Nat → Int32} (hG : GI P C al n hid yg) (hV : VG P C) (hR : C ^ P ≤ 64) : ∀ d r yr, r ≤ C ^ P → C ^ P - r < d → Rl P C r yr → ∃ yr', pf_L_lay_L2 yg d (nI r) yr = some yr' ∧ Rl P C (C ^ P) yr' := by
  intro d
  induction d with
  | zero => intro r yr _ h; omega
  | succ d ih =>
    intro r yr h1 h2 h3
    rw [pf_L_lay_L2.eq_2, k2, hG.2.2.1]
    by_cases e : r = C ^ P
    · subst e
      refine ⟨yr, ?_, h3⟩
      simp (disch := omega) only [g_lit, nI_add, pk_mul, pk_div, g_sdm, pk_sub, g_clamp, ile_t, ile_f, ilt_t, ilt_f, ieq_t, ieq_f, ieq_r, gi_t, gd_t, gz0, gz1, gl_x, ob0_some, ob1_some, ob2_some, ob3_some, ob4_some, ob5_some, ob6_some, ob7_some, ob8_some, ob9_some, ob10_some, ob11_some, ob12_some, ob13_some]
    · simp (disch := omega) only [g_lit, nI_add, pk_mul, pk_div, g_sdm, pk_sub, g_clamp, ile_t, ile_f, ilt_t, ilt_f, ieq_t, ieq_f, ieq_r, gi_t, gd_t, gz0, gz1, gl_x, ob0_some, ob1_some, ob2_some, ob3_some, ob4_some, ob5_some, ob6_some, ob7_some, ob8_some, ob9_some, ob10_some, ob11_some, ob12_some, ob13_some]
      have e0 : (0 : Int64) = lN (pv P C r 0) := rfl
      rw [t_lay_in _ hG hV (r := r) (by omega) 100000 0 _ (Nat.zero_le _) (by have := hV.2.1; omega) (by rw [pk_uLs]; exact e0)]
      refine ih (r + 1) _ (by omega) (by omega) ?_
      intro j hj
      by_cases q : j = r
      · subst q
        rw [pk_uLs]
      · rw [pk_uLn q, pk_uLn q]
        exact h3 j (by omega)
theorem tw_lay {P C al n : Nat} {hid : Int32} {yg : Nat → Int32} (yr : Nat → Int64) (hG : GI P C al n hid yg) (hV : VG P C) (hR : C ^ P ≤ 64) : ∃ yr', pf_L_lay yg yr = some yr' ∧ Rl P C (C ^ P) yr' :=
  t_lay_L hG hV hR 100000 0 yr (Nat.zero_le _) (by omega) (fun r hr => absurd hr (Nat.not_lt_zero r))
/-- a piece of a long -/
theorem lsr_mask (X : Nat) {k m : Nat} (h : k + m ≤ 64) : g_lsr (lN X) (nI k) &&& lN (2 ^ m - 1) = lN (X / 2 ^ k % 2 ^ m) := by
  apply bt_ext
  intro i hi
  rw [bt_and, bt_lN, bt_lN, Nat.testBit_two_pow_sub_one, Nat.testBit_mod_two_pow, Nat.testBit_div_two_pow, decide_eq_true hi, Bool.true_and, Bool.true_and]
  by_cases q : i < m
  · rw [bt_sr _ (by omega), bt_lN, decide_eq_true q, decide_eq_true (by omega : k + i < 64), Bool.and_true, Bool.true_and, Bool.true_and, Nat.add_comm]
  · rw [decide_eq_false q, Bool.and_false, Bool.false_and]
theorem xor8 : ∀ d, d < 8 → ∀ e, e < 8 → (d ^^^ e = 0 ↔ d = e) ∧ d ^^^ e < 8 := by decide +kernel
theorem xor_dig {A B k : Nat} : (A ^^^ B) / 2 ^ (3 * k) % 2 ^ 3 = (A / 2 ^ (3 * k) % 2 ^ 3) ^^^ (B / 2 ^ (3 * k) % 2 ^ 3) := by
  apply Nat.eq_of_testBit_eq
  intro i
  simp only [Nat.testBit_xor, Nat.testBit_mod_two_pow, Nat.testBit_div_two_pow]
  cases decide (i < 3) <;> simp
def mc (C a b P : Nat) : Nat → Nat
  | 0 => 0
  | c + 1 => mc C a b P c + min (cn C a c P) (cn C b c P)
theorem cn_none {C : Nat} (hC : 2 ≤ C) (r c : Nat) (h : C ≤ c) : ∀ j, cn C r c j = 0
  | 0 => rfl
  | j + 1 => by
    show cn C r c j + (if dg C j r = c then 1 else 0) = 0
    have := dg_lt hC j r
    rw [cn_none hC r c h j, if_neg (by omega)]
theorem mc_al {C P a b : Nat} (hC : 2 ≤ C) (hC6 : C ≤ 6) : mc C a b P C = al C P a b := by
  have h : ∀ c, C ≤ c → min (cn C a c P) (cn C b c P) = 0 := fun c hc => by rw [cn_none hC a c hc, cn_none hC b c hc]; rfl
  have h6 : al C P a b = mc C a b P 6 := by
    unfold al
    simp only [mc, Nat.zero_add]
  have hs : ∀ t, C + t ≤ 6 → mc C a b P (C + t) = mc C a b P C := by
    intro t
    induction t with
    | zero => intro _; rfl
    | succ t ih =>
      intro ht
      show mc C a b P (C + t) + min (cn C a (C + t) P) (cn C b (C + t) P) = _
      rw [ih (by omega), h (C + t) (by omega)]
      rfl
  rw [h6, ← hs (6 - C) (by omega)]
  congr 1
  omega
theorem mc_le {C P a b : Nat} : ∀ j, mc C a b P j ≤ j * P
  | 0 => by show 0 ≤ _; omega
  | j + 1 => by
    show mc C a b P j + min (cn C a j P) (cn C b j P) ≤ _
    have h1 := mc_le (C := C) (P := P) (a := a) (b := b) j
    have h2 := cn_le C a j P
    rw [Nat.add_mul, Nat.one_mul]
    omega
theorem t_pins2 {P C al n a b : Nat} {hid : Int32} {yg : Nat → Int32} {yr : Nat → Int64} (v : Nat) (hG : GI P C al n hid yg) (hV : VG P C) (hR : C ^ P ≤ 64) (hL : Rl P C (C ^ P) yr) (ha : a < C ^ P) (hb : b < C ^ P) (hv : v ≤ 8) : ∀ d j, j ≤ C → C - j < d → pf_L_pins_L58 (nI a) (nI b) yg yr (nI v) d (nI (mc C a b P j)) (nI (24 + 4 * j)) = some (nI (9 * v + mc C a b P C)) := by
  have hC6 := hV.2.2.2.1
  have hP := hV.2.1
  intro d
  induction d with
  | zero => intro j _ h; omega
  | succ d ih =>
    intro j h1 h2
    rw [pf_L_pins_L58.eq_2, k1, hG.2.1]
    have hm := mc_le (C := C) (P := P) (a := a) (b := b) j
    have hm2 : j * P ≤ 6 * 8 := Nat.mul_le_mul (by omega) hP
    by_cases e : j = C
    · subst e
      simp (disch := omega) only [g_lit, nI_add, pk_mul, pk_div, g_sdm, pk_sub, g_clamp, ile_t, ile_f, ilt_t, ilt_f, ieq_t, ieq_f, ieq_r, gi_t, gd_t, gz0, gz1, gl_x, ob0_some, ob1_some, ob2_some, ob3_some, ob4_some, ob5_some, ob6_some, ob7_some, ob8_some, ob9_some, ob10_some, ob11_some, ob12_some, ob13_some]
    · have e15 : (15 : Int64) = lN (2 ^ 4 - 1) := rfl
      have g1 : (g_lsr (yr (nI a).toNatClampNeg) (nI (24 + 4 * j)) &&& 15).toInt32 = nI (cn C a j P) := by
        rw [g_clamp (by omega), hL a ha, e15, lsr_mask _ (by omega), pv_cnt hV (by omega), lN_i]
      have g2 : (g_lsr (yr (nI b).toNatClampNeg) (nI (24 + 4 * j)) &&& 15).toInt32 = nI (cn C b j P) := by
        rw [g_clamp (by omega), hL b hb, e15, lsr_mask _ (by omega), pv_cnt hV (by omega), lN_i]
      rw [g1, g2]
      have ca := cn_le C a j P
      have cb := cn_le C b j P
      have hn := ih (j + 1) (by omega) (by omega)
      have e4 : 24 + 4 * j + 4 = 24 + 4 * (j + 1) := by omega
      by_cases q : cn C b j P ≤ cn C a j P
      · simp (disch := omega) only [g_lit, nI_add, pk_mul, pk_div, g_sdm, pk_sub, g_clamp, ile_t, ile_f, ilt_t, ilt_f, ieq_t, ieq_f, ieq_r, gi_t, gd_t, gz0, gz1, gl_x, ob0_some, ob1_some, ob2_some, ob3_some, ob4_some, ob5_some, ob6_some, ob7_some, ob8_some, ob9_some, ob10_some, ob11_some, ob12_some, ob13_some, pf_L_pins_j113, e4]
        have e5 : mc C a b P j + cn C b j P = mc C a b P (j + 1) := by
          show _ = mc C a b P j + min _ _
          omega
        rw [e5]
        exact hn
      · simp (disch := omega) only [g_lit, nI_add, pk_mul, pk_div, g_sdm, pk_sub, g_clamp, ile_t, ile_f, ilt_t, ilt_f, ieq_t, ieq_f, ieq_r, gi_t, gd_t, gz0, gz1, gl_x, ob0_some, ob1_some, ob2_some, ob3_some, ob4_some, ob5_some, ob6_some, ob7_some, ob8_some, ob9_some, ob10_some, ob11_some, ob12_some, ob13_some, pf_L_pins_j113, e4]
        have e5 : mc C a b P j + cn C a j P = mc C a b P (j + 1) := by
          show _ = mc C a b P j + min _ _
          omega
        rw [e5]
        exact hn
theorem t_pins1 {P C al n a b : Nat} {hid : Int32} {yg : Nat → Int32} {yr : Nat → Int64} (hG : GI P C al n hid yg) (hV : VG P C) (hR : C ^ P ≤ 64) (hL : Rl P C (C ^ P) yr) (ha : a < C ^ P) (hb : b < C ^ P) : ∀ d j, j ≤ P → P - j < d → pf_L_pins_L9 (nI a) (nI b) yg yr (nI 0) d (nI (cl (fun k => decide (rd P C a k = rd P C b k)) j)) (nI (3 * j)) = some (nI (mk P C a b)) := by
  have hP := hV.2.1
  intro d
  induction d with
  | zero => intro j _ h; omega
  | succ d ih =>
    intro j h1 h2
    rw [pf_L_pins_L9.eq_2, k0, hG.1]
    have hc := cl_le (fun k => decide (rd P C a k = rd P C b k)) j
    by_cases e : j = P
    · subst e
      simp (disch := omega) only [g_lit, nI_add, pk_mul, pk_div, g_sdm, pk_sub, g_clamp, ile_t, ile_f, ilt_t, ilt_f, ieq_t, ieq_f, ieq_r, gi_t, gd_t, gz0, gz1, gl_x, ob0_some, ob1_some, ob2_some, ob3_some, ob4_some, ob5_some, ob6_some, ob7_some, ob8_some, ob9_some, ob10_some, ob11_some, ob12_some, ob13_some]
      have h3 := t_pins2 (bl C a b j) hG hV hR hL ha hb (by have := bl_le C a b j; omega) 100000 0 (Nat.zero_le _) (by have := hV.2.2.2.1; omega)
      rw [bl_cl]
      refine h3.trans ?_
      have h4 := bl_al hV.2.2.1 hV.2.2.2.1 a b j
      rw [mc_al hV.2.2.1 hV.2.2.2.1]
      unfold mk
      congr 2
      omega
    · have e7 : (7 : Int64) = lN (2 ^ 3 - 1) := rfl
      have ja := rd_lt (P := P) hV.2.2.1 hV.2.2.2.1 a j
      have jb := rd_lt (P := P) hV.2.2.1 hV.2.2.2.1 b j
      have hx := xor8 (rd P C a j) (by omega) (rd P C b j) (by omega)
      have g1 : g_lsr (yr (nI a).toNatClampNeg ^^^ yr (nI b).toNatClampNeg) (nI (3 * j)) &&& 7 = lN (rd P C a j ^^^ rd P C b j) := by
        rw [g_clamp (by omega), g_clamp (by omega), hL a ha, hL b hb, fb_xorL, e7, lsr_mask _ (by omega), xor_dig, pv_dig hV (by omega), pv_dig hV (by omega)]
      rw [g1]
      have hn := ih (j + 1) (by omega) (by omega)
      have e4 : 3 * j + 3 = 3 * (j + 1) := by omega
      have e5 : cl (fun k => decide (rd P C a k = rd P C b k)) (j + 1) = cl (fun k => decide (rd P C a k = rd P C b k)) j + (if decide (rd P C a j = rd P C b j) = true then 1 else 0) := rfl
      by_cases q : rd P C a j = rd P C b j
      · rw [if_pos (lg_eq0 (by rw [hx.1.mpr q]; rfl))]
        rw [e5, decide_eq_true q, if_pos rfl] at hn
        simp (disch := omega) only [g_lit, nI_add, pk_mul, pk_div, g_sdm, pk_sub, g_clamp, ile_t, ile_f, ilt_t, ilt_f, ieq_t, ieq_f, ieq_r, gi_t, gd_t, gz0, gz1, gl_x, ob0_some, ob1_some, ob2_some, ob3_some, ob4_some, ob5_some, ob6_some, ob7_some, ob8_some, ob9_some, ob10_some, ob11_some, ob12_some, ob13_some, pf_L_pins_j45, e4]
        exact hn
      · have ne : lN (rd P C a j ^^^ rd P C b j) ≠ 0 := fun z => q (hx.1.mp ((lN_eq (by omega) (by omega)).mp (show lN _ = lN 0 from z)))
        rw [if_neg (lg_ne0 ne)]
        rw [e5, decide_eq_false q, if_neg (by decide)] at hn
        simp (disch := omega) only [g_lit, nI_add, pk_mul, pk_div, g_sdm, pk_sub, g_clamp, ile_t, ile_f, ilt_t, ilt_f, ieq_t, ieq_f, ieq_r, gi_t, gd_t, gz0, gz1, gl_x, ob0_some, ob1_some, ob2_some, ob3_some, ob4_some, ob5_some, ob6_some, ob7_some, ob8_some, ob9_some, ob10_some, ob11_some, ob12_some, ob13_some, pf_L_pins_j45, e4]
        exact hn
theorem t_pins {P C al n a b : Nat} {hid : Int32} {yg : Nat → Int32} {yr : Nat → Int64} (hG : GI P C al n hid yg) (hV : VG P C) (hR : C ^ P ≤ 64) (hL : Rl P C (C ^ P) yr) (ha : a < C ^ P) (hb : b < C ^ P) : pf_L_pins yg yr (nI a) (nI b) = some (nI (mk P C a b)) :=
  t_pins1 hG hV hR hL ha hb 100000 0 (Nat.zero_le _) (by have := hV.2.1; omega)

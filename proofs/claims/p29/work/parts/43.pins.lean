/-! the pins as bits -/
def pw (k0 k1 k2 k3 k4 k5 : Nat) : Nat := (2 ^ k0 - 1) + 256 * ((2 ^ k1 - 1) + 256 * ((2 ^ k2 - 1) + 256 * ((2 ^ k3 - 1) + 256 * ((2 ^ k4 - 1) + 256 * (2 ^ k5 - 1)))))
theorem all_rg {n : Nat} {p : Nat → Bool} (h : (List.range n).all p = true) {k : Nat} (hk : k < n) : p k = true := List.all_eq_true.mp h k (List.mem_range.mpr hk)
def pinAll (n : Nat) (p : Nat → Nat → Nat → Nat → Nat → Nat → Bool) : Bool := (List.range n).all fun k0 => (List.range (n - k0)).all fun k1 => (List.range (n - k0 - k1)).all fun k2 => (List.range (n - k0 - k1 - k2)).all fun k3 => (List.range (n - k0 - k1 - k2 - k3)).all fun k4 => (List.range (n - k0 - k1 - k2 - k3 - k4)).all fun k5 => p k0 k1 k2 k3 k4 k5
theorem pinAll_of {n : Nat} {p : Nat → Nat → Nat → Nat → Nat → Nat → Bool} (h : pinAll n p = true) {k0 k1 k2 k3 k4 k5 : Nat} (hk : k0 + k1 + k2 + k3 + k4 + k5 < n) : p k0 k1 k2 k3 k4 k5 = true := by
  unfold pinAll at h
  exact all_rg (all_rg (all_rg (all_rg (all_rg (all_rg h (by omega : k0 < n)) (by omega : k1 < n - k0)) (by omega : k2 < n - k0 - k1)) (by omega : k3 < n - k0 - k1 - k2)) (by omega : k4 < n - k0 - k1 - k2 - k3)) (by omega : k5 < n - k0 - k1 - k2 - k3 - k4)
theorem pw_pinB0 : pinAll 8 (fun k0 k1 k2 k3 k4 k5 => decide (pf_X1_withPin (lN (pw k0 k1 k2 k3 k4 k5)) (nI 0) = some (lN (pw (k0 + 1) k1 k2 k3 k4 k5)))) = true := by decide +kernel
theorem pw_pin0 {k0 k1 k2 k3 k4 k5 : Nat} (hk : k0 + k1 + k2 + k3 + k4 + k5 < 8) : pf_X1_withPin (lN (pw k0 k1 k2 k3 k4 k5)) (nI 0) = some (lN (pw (k0 + 1) k1 k2 k3 k4 k5)) := of_decide_eq_true (pinAll_of pw_pinB0 hk)
theorem pw_pinB1 : pinAll 8 (fun k0 k1 k2 k3 k4 k5 => decide (pf_X1_withPin (lN (pw k0 k1 k2 k3 k4 k5)) (nI 1) = some (lN (pw k0 (k1 + 1) k2 k3 k4 k5)))) = true := by decide +kernel
theorem pw_pin1 {k0 k1 k2 k3 k4 k5 : Nat} (hk : k0 + k1 + k2 + k3 + k4 + k5 < 8) : pf_X1_withPin (lN (pw k0 k1 k2 k3 k4 k5)) (nI 1) = some (lN (pw k0 (k1 + 1) k2 k3 k4 k5)) := of_decide_eq_true (pinAll_of pw_pinB1 hk)
theorem pw_pinB2 : pinAll 8 (fun k0 k1 k2 k3 k4 k5 => decide (pf_X1_withPin (lN (pw k0 k1 k2 k3 k4 k5)) (nI 2) = some (lN (pw k0 k1 (k2 + 1) k3 k4 k5)))) = true := by decide +kernel
theorem pw_pin2 {k0 k1 k2 k3 k4 k5 : Nat} (hk : k0 + k1 + k2 + k3 + k4 + k5 < 8) : pf_X1_withPin (lN (pw k0 k1 k2 k3 k4 k5)) (nI 2) = some (lN (pw k0 k1 (k2 + 1) k3 k4 k5)) := of_decide_eq_true (pinAll_of pw_pinB2 hk)
theorem pw_pinB3 : pinAll 8 (fun k0 k1 k2 k3 k4 k5 => decide (pf_X1_withPin (lN (pw k0 k1 k2 k3 k4 k5)) (nI 3) = some (lN (pw k0 k1 k2 (k3 + 1) k4 k5)))) = true := by decide +kernel
theorem pw_pin3 {k0 k1 k2 k3 k4 k5 : Nat} (hk : k0 + k1 + k2 + k3 + k4 + k5 < 8) : pf_X1_withPin (lN (pw k0 k1 k2 k3 k4 k5)) (nI 3) = some (lN (pw k0 k1 k2 (k3 + 1) k4 k5)) := of_decide_eq_true (pinAll_of pw_pinB3 hk)
theorem pw_pinB4 : pinAll 8 (fun k0 k1 k2 k3 k4 k5 => decide (pf_X1_withPin (lN (pw k0 k1 k2 k3 k4 k5)) (nI 4) = some (lN (pw k0 k1 k2 k3 (k4 + 1) k5)))) = true := by decide +kernel
theorem pw_pin4 {k0 k1 k2 k3 k4 k5 : Nat} (hk : k0 + k1 + k2 + k3 + k4 + k5 < 8) : pf_X1_withPin (lN (pw k0 k1 k2 k3 k4 k5)) (nI 4) = some (lN (pw k0 k1 k2 k3 (k4 + 1) k5)) := of_decide_eq_true (pinAll_of pw_pinB4 hk)
theorem pw_pinB5 : pinAll 8 (fun k0 k1 k2 k3 k4 k5 => decide (pf_X1_withPin (lN (pw k0 k1 k2 k3 k4 k5)) (nI 5) = some (lN (pw k0 k1 k2 k3 k4 (k5 + 1))))) = true := by decide +kernel
theorem pw_pin5 {k0 k1 k2 k3 k4 k5 : Nat} (hk : k0 + k1 + k2 + k3 + k4 + k5 < 8) : pf_X1_withPin (lN (pw k0 k1 k2 k3 k4 k5)) (nI 5) = some (lN (pw k0 k1 k2 k3 k4 (k5 + 1))) := of_decide_eq_true (pinAll_of pw_pinB5 hk)
theorem pw_bcB : pinAll 9 (fun k0 k1 k2 k3 k4 k5 => decide (pf_J13_bitCount_95d88 (lN (pw k0 k1 k2 k3 k4 k5)) = some (nI (k0 + k1 + k2 + k3 + k4 + k5)))) = true := by decide +kernel
theorem pw_bc {k0 k1 k2 k3 k4 k5 : Nat} (hk : k0 + k1 + k2 + k3 + k4 + k5 < 9) : pf_J13_bitCount_95d88 (lN (pw k0 k1 k2 k3 k4 k5)) = some (nI (k0 + k1 + k2 + k3 + k4 + k5)) := of_decide_eq_true (pinAll_of pw_bcB hk)
theorem min_and : ∀ i, i < 9 → ∀ j, j < 9 → (2 ^ i - 1) &&& (2 ^ j - 1) = 2 ^ (min i j) - 1 := by decide +kernel
theorem p2_lt : ∀ i, i < 9 → 2 ^ i - 1 < 256 := by decide +kernel
theorem and_split {a b u v : Nat} (ha : a < 256) (hb : b < 256) : (a + 256 * u) &&& (b + 256 * v) = (a &&& b) + 256 * (u &&& v) := by
  have hab : a &&& b < 2 ^ 8 := Nat.and_lt_two_pow _ hb
  apply Nat.eq_of_testBit_eq
  intro j
  have e : (256 : Nat) = 2 ^ 8 := by decide
  rw [e] at ha hb ⊢
  rw [Nat.testBit_and, Nat.add_comm a, Nat.add_comm b, Nat.add_comm (a &&& b), Nat.testBit_two_pow_mul_add _ ha, Nat.testBit_two_pow_mul_add _ hb, Nat.testBit_two_pow_mul_add _ hab]
  by_cases h : j < 8
  · rw [if_pos h, if_pos h, if_pos h, Nat.testBit_and]
  · rw [if_neg h, if_neg h, if_neg h, Nat.testBit_and]
theorem pw_and {k0 k1 k2 k3 k4 k5 l0 l1 l2 l3 l4 l5 : Nat} (h0 : k0 < 9) (h1 : k1 < 9) (h2 : k2 < 9) (h3 : k3 < 9) (h4 : k4 < 9) (h5 : k5 < 9) (g0 : l0 < 9) (g1 : l1 < 9) (g2 : l2 < 9) (g3 : l3 < 9) (g4 : l4 < 9) (g5 : l5 < 9) : pw k0 k1 k2 k3 k4 k5 &&& pw l0 l1 l2 l3 l4 l5 = pw (min k0 l0) (min k1 l1) (min k2 l2) (min k3 l3) (min k4 l4) (min k5 l5) := by
  unfold pw
  rw [and_split (p2_lt _ h0) (p2_lt _ g0), and_split (p2_lt _ h1) (p2_lt _ g1), and_split (p2_lt _ h2) (p2_lt _ g2), and_split (p2_lt _ h3) (p2_lt _ g3), and_split (p2_lt _ h4) (p2_lt _ g4), min_and _ h0 _ g0, min_and _ h1 _ g1, min_and _ h2 _ g2, min_and _ h3 _ g3, min_and _ h4 _ g4, min_and _ h5 _ g5]
/-- the pins of the lowest i places of a row -/
def pwr (C r i : Nat) : Nat := pw (cn C r 0 i) (cn C r 1 i) (cn C r 2 i) (cn C r 3 i) (cn C r 4 i) (cn C r 5 i)
theorem pwr_step {C : Nat} (hC : 2 ≤ C) (hC6 : C ≤ 6) (r : Nat) {i : Nat} (hi : i < 8) : pf_X1_withPin (lN (pwr C r i)) (nI (dg C i r)) = some (lN (pwr C r (i + 1))) := by
  have hs := cn_sum hC hC6 r i
  unfold pwr
  simp only [cn]
  rcases dg_cases hC hC6 i r with e | e | e | e | e | e <;> rw [e]
  · rw [pw_pin0 (by omega)]; rfl
  · rw [pw_pin1 (by omega)]; rfl
  · rw [pw_pin2 (by omega)]; rfl
  · rw [pw_pin3 (by omega)]; rfl
  · rw [pw_pin4 (by omega)]; rfl
  · rw [pw_pin5 (by omega)]; rfl
theorem pwr_bc {C P : Nat} (hC : 2 ≤ C) (hC6 : C ≤ 6) (hP : P ≤ 8) (a b : Nat) : pf_J13_bitCount_95d88 (lN (pwr C a P) &&& lN (pwr C b P)) = some (nI (al C P a b)) := by
  have ha := cn_sum hC hC6 a P
  have hb := cn_sum hC hC6 b P
  rw [fb_andL]
  unfold pwr
  rw [pw_and (by omega) (by omega) (by omega) (by omega) (by omega) (by omega) (by omega) (by omega) (by omega) (by omega) (by omega) (by omega)]
  rw [pw_bc (by omega)]
  rfl
/-- the black pins' way: the unlike places -/
theorem bc_ul {C P : Nat} (hC : 2 ≤ C) (hC6 : C ≤ 6) (hP : P ≤ 8) (a b : Nat) : pf_J6_bitCount_0f7a4 (nI ((((cbs C a P ^^^ cbs C b P) ||| (cbs C a P ^^^ cbs C b P) / 2 ^ 1) ||| (cbs C a P ^^^ cbs C b P) / 2 ^ 2) &&& 2396745)) = some (nI (P - bl C a b P)) := by
  rw [y8_of, y8_bc, ← ul_sum hP a b]
  have h := fun t => ul_of (P := P) hC hC6 a b t
  rw [← h 0, ← h 1, ← h 2, ← h 3, ← h 4, ← h 5, ← h 6, ← h 7]
theorem s_compare {P C R a b : Nat} {gcb : Nat → Int32} {gpb : Nat → Int64} (hC : 2 ≤ C) (hC6 : C ≤ 6) (hP : P ≤ 8) (hR : R ≤ 256) (ha : a < R) (hb : b < R) (h1 : ∀ r, r < R → gcb r = nI (cbs C r P)) (h2 : ∀ r, r < R → gpb r = lN (pwr C r P)) : pf_X1_compare (nI P) (nI R) gcb gpb (nI a) (nI b) = some (nI (mk P C a b)) := by
  have hA := cbs_lt hC hC6 a P
  have hB := cbs_lt hC hC6 b P
  have hp : 8 ^ P ≤ 2 ^ 24 := by rw [p8]; exact Nat.pow_le_pow_right (by decide) (by omega)
  have hX : cbs C a P ^^^ cbs C b P < 2 ^ 24 := Nat.xor_lt_two_pow (by omega) (by omega)
  have l1 := bl_le C a b P
  have l2 := bl_al hC hC6 a b P
  have e1 : nI (cbs C a P ^^^ cbs C b P) >>> nI (1 &&& 31) = nI ((cbs C a P ^^^ cbs C b P) / 2 ^ 1) := by
    rw [← fa_and]
    exact pk_shrN (by omega) _ 1 (s_l 1 (by decide))
  have e2 : nI (cbs C a P ^^^ cbs C b P) >>> nI (2 &&& 31) = nI ((cbs C a P ^^^ cbs C b P) / 2 ^ 2) := by
    rw [← fa_and]
    exact pk_shrN (by omega) _ 2 (s_l 2 (by decide))
  unfold pf_X1_compare
  rw [s_X1_has_t hR ha, s_X1_has_t hR hb]
  simp (disch := omega) only [g_lit, nI_add, pk_mul, pk_div, g_sdm, pk_sub, g_clamp, ile_t, ile_f, ilt_t, ilt_f, ieq_t, ieq_f, ieq_r, gi_t, gd_t, gz0, gz1, gl_x, ob0_some, ob1_some, ob2_some, ob3_some, ob4_some, ob5_some, ob6_some, ob7_some, ob8_some, ob9_some, ob10_some, ob11_some, ob12_some, ob13_some, h1 a ha, h1 b hb, h2 a ha, h2 b hb, fb_xorI, e1, e2, fa_or, fa_and, bc_ul hC hC6 hP, pwr_bc hC hC6 hP]
  congr 2
  unfold mk
  have e3 : P - (P - bl C a b P) = bl C a b P := by omega
  rw [e3]

/-! proofs: sets of entries, bits turned round -/
def rv : Nat → Nat → Nat
  | 0, _ => 0
  | n + 1, x => (x % 2) * 2 ^ n + rv n (x / 2)
theorem rv_lt : ∀ n x, rv n x < 2 ^ n
  | 0, _ => by unfold rv; decide
  | n + 1, x => by
    have h := rv_lt n (x / 2)
    have h2 : (x % 2) * 2 ^ n ≤ 1 * 2 ^ n := Nat.mul_le_mul_right _ (by omega)
    simp only [rv, Nat.pow_succ]
    omega
theorem rv_bit : ∀ n x i, (rv n x).testBit i = (decide (i < n) && x.testBit (n - 1 - i))
  | 0, x, i => by
    simp only [rv, Nat.zero_testBit]
    simp
  | n + 1, x, i => by
    have ih := rv_bit n (x / 2) i
    have h := rv_lt n (x / 2)
    simp only [rv]
    rw [Nat.mul_comm, Nat.testBit_two_pow_mul_add _ h, ih]
    by_cases e : i < n
    · rw [if_pos e, decide_eq_true e, decide_eq_true (by omega : i < n + 1), Bool.true_and, Bool.true_and, Nat.testBit_div_two]
      congr 1
      omega
    · rw [if_neg e]
      by_cases e2 : i = n
      · subst e2
        rw [decide_eq_true (by omega : i < i + 1), Bool.true_and, Nat.sub_self, show i + 1 - 1 - i = 0 by omega, Nat.testBit_zero, Nat.testBit_zero]
        have : x % 2 % 2 = x % 2 := by omega
        rw [this]
      · rw [decide_eq_false (by omega : ¬ i < n + 1), Bool.false_and]
        refine Nat.testBit_lt_two_pow ?_
        have h1 : 2 ≤ 2 ^ (i - n) := by
          calc 2 = 2 ^ 1 := rfl
            _ ≤ 2 ^ (i - n) := Nat.pow_le_pow_right (by decide) (by omega)
        omega
theorem rv_and (n x y : Nat) : rv n (x &&& y) = rv n x &&& rv n y := by
  refine Nat.eq_of_testBit_eq (fun i => ?_)
  rw [Nat.testBit_and, rv_bit, rv_bit, rv_bit, Nat.testBit_and]
  cases decide (i < n) <;> simp
theorem rv_xor (n x y : Nat) : rv n (x ^^^ y) = rv n x ^^^ rv n y := by
  refine Nat.eq_of_testBit_eq (fun i => ?_)
  rw [Nat.testBit_xor, rv_bit, rv_bit, rv_bit, Nat.testBit_xor]
  cases decide (i < n) <;> simp
theorem rv_rv {n x : Nat} (h : x < 2 ^ n) : rv n (rv n x) = x := by
  refine Nat.eq_of_testBit_eq (fun i => ?_)
  rw [rv_bit, rv_bit]
  by_cases e : i < n
  · rw [decide_eq_true e, decide_eq_true (by omega : n - 1 - i < n), Bool.true_and, Bool.true_and]
    congr 1
    omega
  · rw [decide_eq_false e, Bool.false_and]
    exact (Nat.testBit_lt_two_pow (Nat.lt_of_lt_of_le h (Nat.pow_le_pow_right (by decide) (by omega)))).symm
theorem rv_top : ∀ n c y, c ≤ 1 → y < 2 ^ n → rv (n + 1) (c * 2 ^ n + y) = c + 2 * rv n y
  | 0, c, y, hc, hy => by
    have : y = 0 := by have : (2 : Nat) ^ 0 = 1 := rfl; omega
    subst this
    simp only [rv, Nat.pow_zero, Nat.mul_one, Nat.add_zero]
    omega
  | n + 1, c, y, hc, hy => by
    rw [Nat.pow_succ] at hy
    have ih := rv_top n c (y / 2) hc (by omega)
    have e1 : (c * 2 ^ (n + 1) + y) % 2 = y % 2 := by rw [Nat.pow_succ, ← Nat.mul_assoc]; omega
    have e2 : (c * 2 ^ (n + 1) + y) / 2 = c * 2 ^ n + y / 2 := by rw [Nat.pow_succ, ← Nat.mul_assoc]; omega
    show ((c * 2 ^ (n + 1) + y) % 2) * 2 ^ (n + 1) + rv (n + 1) ((c * 2 ^ (n + 1) + y) / 2) = c + 2 * ((y % 2) * 2 ^ n + rv n (y / 2))
    rw [e1, e2, ih, Nat.pow_succ, ← Nat.mul_assoc]
    omega
theorem pcn_top : ∀ n c y, c ≤ 1 → y < 2 ^ n → pcn (n + 1) (c * 2 ^ n + y) = c + pcn n y
  | 0, c, y, hc, hy => by
    have : y = 0 := by have : (2 : Nat) ^ 0 = 1 := rfl; omega
    subst this
    simp only [pcn, Nat.pow_zero, Nat.mul_one, Nat.add_zero]
    omega
  | n + 1, c, y, hc, hy => by
    rw [Nat.pow_succ] at hy
    have ih := pcn_top n c (y / 2) hc (by omega)
    have e1 : (c * 2 ^ (n + 1) + y) % 2 = y % 2 := by rw [Nat.pow_succ, ← Nat.mul_assoc]; omega
    have e2 : (c * 2 ^ (n + 1) + y) / 2 = c * 2 ^ n + y / 2 := by rw [Nat.pow_succ, ← Nat.mul_assoc]; omega
    show (c * 2 ^ (n + 1) + y) % 2 + pcn (n + 1) ((c * 2 ^ (n + 1) + y) / 2) = c + (y % 2 + pcn n (y / 2))
    rw [e1, e2, ih]
    omega
theorem top_of {n x : Nat} (h : x < 2 ^ (n + 1)) : ∃ c y, c ≤ 1 ∧ y < 2 ^ n ∧ x = c * 2 ^ n + y := by
  rw [Nat.pow_succ] at h
  by_cases q : x < 2 ^ n
  · exact ⟨0, x, by omega, q, by omega⟩
  · exact ⟨1, x - 2 ^ n, by omega, by omega, by omega⟩
theorem pcn_rv : ∀ n x, x < 2 ^ n → pcn n (rv n x) = pcn n x
  | 0, _, _ => rfl
  | n + 1, x, h => by
    obtain ⟨c, y, hc, hy, rfl⟩ := top_of h
    rw [rv_top n c y hc hy, pcn_top n c y hc hy]
    show (c + 2 * rv n y) % 2 + pcn n ((c + 2 * rv n y) / 2) = _
    rw [show (c + 2 * rv n y) % 2 = c by omega, show (c + 2 * rv n y) / 2 = rv n y by omega, pcn_rv n y hy]
theorem pcn_rv10 {n x : Nat} (hn : n ≤ 10) (h : x < 2 ^ n) : pcn 10 (rv n x) = pcn 10 x := by
  rw [pcn_10 hn (rv_lt n x), pcn_10 hn h, pcn_rv n x h]
theorem and_cmp {k e : Nat} (h : e < 2 ^ k) : e &&& (2 ^ k - (e + 1)) = 0 := by
  refine Nat.eq_of_testBit_eq (fun i => ?_)
  rw [Nat.testBit_and, Nat.testBit_two_pow_sub_succ h, Nat.zero_testBit]
  cases e.testBit i <;> simp
theorem and_odd (a b : Nat) : (2 * a + 1) &&& (2 * b + 1) = 2 * (a &&& b) + 1 := by
  refine Nat.eq_of_testBit_eq (fun i => ?_)
  cases i with
  | zero => have h1 : (2 * a + 1) % 2 = 1 := by omega
            have h2 : (2 * b + 1) % 2 = 1 := by omega
            have h3 : (2 * (a &&& b) + 1) % 2 = 1 := by omega
            rw [Nat.testBit_and, Nat.testBit_zero, Nat.testBit_zero, Nat.testBit_zero, h1, h2, h3]; rfl
  | succ i =>
    rw [Nat.testBit_and, Nat.testBit_succ, Nat.testBit_succ, Nat.testBit_succ, show (2 * a + 1) / 2 = a by omega, show (2 * b + 1) / 2 = b by omega, show (2 * (a &&& b) + 1) / 2 = a &&& b by omega, Nat.testBit_and]
theorem and_even (c a b : Nat) (hc : c ≤ 1) : (c + 2 * a) &&& (2 * b) = 2 * (a &&& b) := by
  refine Nat.eq_of_testBit_eq (fun i => ?_)
  cases i with
  | zero => have h2 : (2 * b) % 2 = 0 := by omega
            have h3 : (2 * (a &&& b)) % 2 = 0 := by omega
            rw [Nat.testBit_and, Nat.testBit_zero, Nat.testBit_zero, Nat.testBit_zero, h2, h3]; simp
  | succ i =>
    rw [Nat.testBit_and, Nat.testBit_succ, Nat.testBit_succ, Nat.testBit_succ, show (c + 2 * a) / 2 = a by omega, show (2 * b) / 2 = b by omega, show (2 * (a &&& b)) / 2 = a &&& b by omega, Nat.testBit_and]
theorem low_odd {k d : Nat} (h : d < 2 ^ k) (ho : d % 2 = 1) : d &&& (2 ^ k - d) = 1 := by
  cases k with
  | zero => have : (2 : Nat) ^ 0 = 1 := rfl; omega
  | succ k =>
    rw [Nat.pow_succ] at h ⊢
    have e1 : d = 2 * (d / 2) + 1 := by omega
    have e2 : 2 ^ k * 2 - d = 2 * (2 ^ k - (d / 2 + 1)) + 1 := by omega
    rw [e2]
    rw [show d &&& (2 * (2 ^ k - (d / 2 + 1)) + 1) = (2 * (d / 2) + 1) &&& (2 * (2 ^ k - (d / 2 + 1)) + 1) by rw [← e1]]
    rw [and_odd, and_cmp (by omega)]
theorem xor_top {c1 c2 a b : Nat} (h1 : c1 ≤ 1) (h2 : c2 ≤ 1) : (c1 + 2 * a) ^^^ (c2 + 2 * b) = (if c1 = c2 then 0 else 1) + 2 * (a ^^^ b) := by
  refine Nat.eq_of_testBit_eq (fun i => ?_)
  have hx : (if c1 = c2 then 0 else 1) ≤ 1 := by split <;> omega
  cases i with
  | zero =>
    rw [Nat.testBit_xor, Nat.testBit_zero, Nat.testBit_zero, Nat.testBit_zero]
    have a1 : c1 = 0 ∨ c1 = 1 := by omega
    have a2 : c2 = 0 ∨ c2 = 1 := by omega
    rcases a1 with rfl | rfl <;> rcases a2 with rfl | rfl <;> simp <;> omega
  | succ i =>
    rw [Nat.testBit_xor, Nat.testBit_succ, Nat.testBit_succ, Nat.testBit_succ, show (c1 + 2 * a) / 2 = a by omega, show (c2 + 2 * b) / 2 = b by omega, show ((if c1 = c2 then 0 else 1) + 2 * (a ^^^ b)) / 2 = a ^^^ b by omega, Nat.testBit_xor]
/-- which of two sets holds the lowest entry that only one holds -/
theorem ahead_low : ∀ n k a b, n ≤ k → a < 2 ^ n → b < 2 ^ n → (rv n a &&& ((rv n a ^^^ rv n b) &&& (2 ^ k - (rv n a ^^^ rv n b))) ≠ 0 ↔ b < a)
  | 0, k, a, b, _, ha, hb => by
    have h0 : (2 : Nat) ^ 0 = 1 := rfl
    have : a = 0 := by omega
    have : b = 0 := by omega
    subst a b
    simp only [rv, Nat.zero_and]
    omega
  | n + 1, k, a, b, hk, ha, hb => by
    obtain ⟨c1, y1, h1, g1, rfl⟩ := top_of ha
    obtain ⟨c2, y2, h2, g2, rfl⟩ := top_of hb
    rw [rv_top n c1 y1 h1 g1, rv_top n c2 y2 h2 g2, xor_top h1 h2]
    have r1 := rv_lt n y1
    have r2 := rv_lt n y2
    have r3 : rv n y1 ^^^ rv n y2 < 2 ^ n := Nat.xor_lt_two_pow r1 r2
    obtain ⟨k, rfl⟩ : ∃ k', k = k' + 1 := ⟨k - 1, by omega⟩
    have hkn : (2 : Nat) ^ n ≤ 2 ^ k := Nat.pow_le_pow_right (by decide) (by omega)
    by_cases e : c1 = c2
    · subst e
      have ih := ahead_low n k y1 y2 (by omega) g1 g2
      rw [if_pos rfl, Nat.zero_add]
      have e1 : 2 ^ (k + 1) - 2 * (rv n y1 ^^^ rv n y2) = 2 * (2 ^ k - (rv n y1 ^^^ rv n y2)) := by rw [Nat.pow_succ]; omega
      have e2 := and_even 0 (rv n y1 ^^^ rv n y2) (2 ^ k - (rv n y1 ^^^ rv n y2)) (by omega)
      rw [Nat.zero_add] at e2
      rw [e1, e2, and_even c1 _ _ h1]
      constructor
      · intro q
        have := ih.mp (fun z => q (by rw [z]))
        omega
      · intro q
        have := ih.mpr (by omega)
        omega
    · rw [if_neg e, low_odd (k := k + 1) (by rw [Nat.pow_succ]; omega) (by omega), Nat.and_one_is_mod]
      have a1 : c1 = 0 ∨ c1 = 1 := by omega
      have a2 : c2 = 0 ∨ c2 = 1 := by omega
      rcases a1 with rfl | rfl <;> rcases a2 with rfl | rfl <;> omega

theorem rv_mem {n c v : Nat} (hv : v < n) : (rv n c / 2 ^ v) % 2 = (c / 2 ^ (n - 1 - v)) % 2 := by
  have h := rv_bit n c v
  rw [decide_eq_true hv, Bool.true_and, Nat.testBit_eq_decide_div_mod_eq, Nat.testBit_eq_decide_div_mod_eq] at h
  by_cases q : rv n c / 2 ^ v % 2 = 1
  · rw [decide_eq_true q] at h
    have := of_decide_eq_true h.symm
    omega
  · rw [decide_eq_false q] at h
    have := of_decide_eq_false h.symm
    omega
theorem and_pow (c k : Nat) : c &&& 2 ^ k = (c / 2 ^ k % 2) * 2 ^ k := by
  have hb : c.testBit k = decide (c / 2 ^ k % 2 = 1) := Nat.testBit_eq_decide_div_mod_eq
  refine Nat.eq_of_testBit_eq (fun i => ?_)
  rw [Nat.testBit_and, Nat.testBit_two_pow]
  by_cases q : c / 2 ^ k % 2 = 1
  · rw [decide_eq_true q] at hb
    rw [q, Nat.one_mul, Nat.testBit_two_pow]
    by_cases e : k = i
    · subst e
      rw [hb, Bool.true_and]
    · rw [decide_eq_false e, Bool.and_false]
  · rw [decide_eq_false q] at hb
    rw [show c / 2 ^ k % 2 = 0 by omega, Nat.zero_mul, Nat.zero_testBit]
    by_cases e : k = i
    · subst e
      rw [hb, Bool.false_and]
    · rw [decide_eq_false e, Bool.and_false]
/-! the order of the sets: fewer entries first, then the greater number (the class's) -/
def ahd (a b : Nat) : Prop := pcn 10 a < pcn 10 b ∨ (pcn 10 a = pcn 10 b ∧ b < a)
def best_of (cand : Nat → Prop) (c : Nat) : Prop := cand c ∧ ∀ x, cand x → ¬ ahd x c
theorem best_one {cand : Nat → Prop} {c c' : Nat} (h : best_of cand c) (h' : best_of cand c') : c = c' := by
  have h1 := h.2 c' h'.1
  have h2 := h'.2 c h.1
  unfold ahd at h1 h2
  omega
/-- the rows that the entries of the set x leave -/
def sst (P C n al : Nat) (eg em : Nat → Nat) (x r : Nat) : Bool := decide (pcn 10 (lb P C eg em n r &&& x) ≤ al)
def vld (P C n al : Nat) (eg em : Nat → Nat) (x : Nat) : Prop := cl (sst P C n al eg em x) (C ^ P) = 1
theorem pcn_le : ∀ k x, pcn k x ≤ k
  | 0, _ => Nat.le_refl _
  | k + 1, x => by
    have := pcn_le k (x / 2)
    simp only [pcn]
    omega
theorem nI_prd (v : Nat) : nI (v + 1) + -nI 1 = nI v := by
  rw [← nI_add v 1, Int32.add_assoc]
  have : nI 1 + -nI 1 = 0 := by decide
  rw [this, Int32.add_zero]
theorem s_leaves_L {P C n x al : Nat} {eg em : Nat → Nat} {tl : Nat → Int32} (hV : VG P C) (hn : n ≤ 10) (ha : al ≤ 3) (hl : LB P C n eg em tl) : ∀ d j, j ≤ C ^ P → C ^ P - j < d → cl (sst P C n al eg em x) j ≤ 2 → pf_X3_leavesOne_L4 (nI x) (nI al) (nI (C ^ P)) tl d (nI (cl (sst P C n al eg em x) j)) (nI j) = some (nI (if cl (sst P C n al eg em x) (C ^ P) = 1 then 1 else 0)) := by
  intro d
  have hR := hV.2.2.2.2
  induction d with
  | zero => intro j _ h; omega
  | succ d ih =>
    intro j hj hd hc
    rw [pf_X3_leavesOne_L4.eq_2]
    by_cases q : j = C ^ P
    · rw [q] at hc ⊢
      by_cases h : cl (sst P C n al eg em x) (C ^ P) = 1
      · rw [if_pos h]
        simp (disch := omega) only [g_lit, nI_add, pk_mul, pk_div, g_sdm, pk_sub, g_clamp, ile_t, ile_f, ilt_t, ilt_f, ieq_t, ieq_f, ieq_r, gi_t, gd_t, gz0, gz1, gl_x, ob0_some, ob1_some, ob2_some, ob3_some, ob4_some, ob5_some, ob6_some, ob7_some, ob8_some, ob9_some, ob10_some, ob11_some, ob12_some, ob13_some, h, if_true, pf_X3_leavesOne_j55, pf_X3_leavesOne_j45, pf_X3_leavesOne_j39, pf_X3_leavesOne]
      · rw [if_neg h]
        simp (disch := omega) only [g_lit, nI_add, pk_mul, pk_div, g_sdm, pk_sub, g_clamp, ile_t, ile_f, ilt_t, ilt_f, ieq_t, ieq_f, ieq_r, gi_t, gd_t, gz0, gz1, gl_x, ob0_some, ob1_some, ob2_some, ob3_some, ob4_some, ob5_some, ob6_some, ob7_some, ob8_some, ob9_some, ob10_some, ob11_some, ob12_some, ob13_some, pf_X3_leavesOne_j55, pf_X3_leavesOne_j45, pf_X3_leavesOne_j39, pf_X3_leavesOne]
    · by_cases q2 : cl (sst P C n al eg em x) j = 2
      · have hm := cl_mono (sst P C n al eg em x) hj
        have n1 : ¬ cl (sst P C n al eg em x) (C ^ P) = 1 := by omega
        rw [if_neg n1, q2]
        simp (disch := omega) only [g_lit, nI_add, pk_mul, pk_div, g_sdm, pk_sub, g_clamp, ile_t, ile_f, ilt_t, ilt_f, ieq_t, ieq_f, ieq_r, gi_t, gd_t, gz0, gz1, gl_x, ob0_some, ob1_some, ob2_some, ob3_some, ob4_some, ob5_some, ob6_some, ob7_some, ob8_some, ob9_some, ob10_some, ob11_some, ob12_some, ob13_some, pf_X3_leavesOne_j55, pf_X3_leavesOne_j45, pf_X3_leavesOne_j39, pf_X3_leavesOne]
      · have e1 := s_countLiesIn (x := x) hV hn (by omega : j < C ^ P) hl
        have h1 := lb_lt P C eg em n j
        have h2 := p10 hn
        have h3 : lb P C eg em n j &&& x ≤ lb P C eg em n j := Nat.and_le_left
        have h4 : pcn 10 (lb P C eg em n j &&& x) ≤ 10 := pcn_le 10 _
        by_cases h : pcn 10 (lb P C eg em n j &&& x) ≤ al
        · have hs : sst P C n al eg em x j = true := decide_eq_true h
          have e : cl (sst P C n al eg em x) (j + 1) = cl (sst P C n al eg em x) j + 1 := by simp only [cl, hs, if_true]
          have ih2 := ih (j + 1) (by omega) (by omega) (by omega)
          rw [e] at ih2
          rw [← ih2]
          simp (disch := omega) only [g_lit, nI_add, pk_mul, pk_div, g_sdm, pk_sub, g_clamp, ile_t, ile_f, ilt_t, ilt_f, ieq_t, ieq_f, ieq_r, gi_t, gd_t, gz0, gz1, gl_x, ob0_some, ob1_some, ob2_some, ob3_some, ob4_some, ob5_some, ob6_some, ob7_some, ob8_some, ob9_some, ob10_some, ob11_some, ob12_some, ob13_some, e1, pf_X3_leavesOne_j55, pf_X3_leavesOne_j45, pf_X3_leavesOne_j39, pf_X3_leavesOne]
        · have hs : ¬ sst P C n al eg em x j = true := fun q => h (of_decide_eq_true q)
          have e : cl (sst P C n al eg em x) (j + 1) = cl (sst P C n al eg em x) j := by simp only [cl]; rw [if_neg hs]; rfl
          have ih2 := ih (j + 1) (by omega) (by omega) (by omega)
          rw [e] at ih2
          rw [← ih2]
          simp (disch := omega) only [g_lit, nI_add, pk_mul, pk_div, g_sdm, pk_sub, g_clamp, ile_t, ile_f, ilt_t, ilt_f, ieq_t, ieq_f, ieq_r, gi_t, gd_t, gz0, gz1, gl_x, ob0_some, ob1_some, ob2_some, ob3_some, ob4_some, ob5_some, ob6_some, ob7_some, ob8_some, ob9_some, ob10_some, ob11_some, ob12_some, ob13_some, e1, pf_X3_leavesOne_j55, pf_X3_leavesOne_j45, pf_X3_leavesOne_j39, pf_X3_leavesOne]
theorem s_leaves {P C n al : Nat} (x : Nat) {eg em : Nat → Nat} {tl : Nat → Int32} (hV : VG P C) (hn : n ≤ 10) (ha : al ≤ 3) (hl : LB P C n eg em tl) : pf_X3_leavesOne (nI al) (nI (C ^ P)) tl (nI x) = some (nI (if cl (sst P C n al eg em x) (C ^ P) = 1 then 1 else 0)) :=
  s_leaves_L hV hn ha hl 100000 0 (Nat.zero_le _) (by have := hV.2.2.2.2; omega) (Nat.zero_le _)
/-- what the class chooses from -/
def cnd (P C n al : Nat) (eg em : Nat → Nat) (x : Nat) : Prop := x = 2 ^ n - 1 ∨ (x < 2 ^ n ∧ vld P C n al eg em x)
theorem vld_0 {P C n al : Nat} {eg em : Nat → Nat} (hV : VG P C) : ¬ vld P C n al eg em 0 := by
  have h2 := R2 hV
  have e : ∀ j, cl (sst P C n al eg em 0) j = j := by
    intro j
    induction j with
    | zero => rfl
    | succ j ih =>
      have hs : sst P C n al eg em 0 j = true := by
        unfold sst
        rw [Nat.and_zero]
        exact decide_eq_true (Nat.zero_le _)
      simp only [cl, hs, if_true, ih]
  unfold vld
  rw [e]
  omega
theorem s_sproof_L {P C n al : Nat} {eg em : Nat → Nat} {tl : Nat → Int32} (hV : VG P C) (hn : n ≤ 10) (ha : al ≤ 3) (hl : LB P C n eg em tl) : ∀ d v b, v < d → v < b → b < 2 ^ n → cnd P C n al eg em b → (∀ y, cnd P C n al eg em y → v < y → ¬ ahd y b) → ∃ c, c < 2 ^ n ∧ pf_X3_shortestProof_L18 (nI al) (nI (C ^ P)) tl d (nI b) (nI v) = some (nI c) ∧ best_of (cnd P C n al eg em) c := by
  intro d
  induction d with
  | zero => intro v b h; omega
  | succ d ih =>
    intro v b hd hvb hb hc hI
    have h2 := p10 hn
    rw [pf_X3_shortestProof_L18.eq_2]
    cases v with
    | zero =>
      refine ⟨b, hb, ?_, hc, fun y hy => ?_⟩
      · simp (disch := omega) only [g_lit, nI_add, pk_mul, pk_div, g_sdm, pk_sub, g_clamp, ile_t, ile_f, ilt_t, ilt_f, ieq_t, ieq_f, ieq_r, gi_t, gd_t, gz0, gz1, gl_x, ob0_some, ob1_some, ob2_some, ob3_some, ob4_some, ob5_some, ob6_some, ob7_some, ob8_some, ob9_some, ob10_some, ob11_some, ob12_some, ob13_some]
      · by_cases q : y = 0
        · subst q
          rcases hy with h | ⟨_, h⟩
          · unfold ahd
            have e2 : b = 0 := by omega
            omega
          · exact absurd h (vld_0 hV)
        · exact hI y hy (by omega)
    | succ v =>
      have b1 := bc (by omega : v + 1 < 1024)
      have b2 := bc (by omega : b < 1024)
      have p1 := pcn_le 10 (v + 1)
      have p2 := pcn_le 10 b
      have e1 := s_leaves (v + 1) hV hn ha hl
      have em1 := nI_prd v
      by_cases h : pcn 10 b ≤ pcn 10 (v + 1)
      · obtain ⟨c, c1, c2, c3⟩ := ih v b (by omega) (by omega) hb hc (fun y hy hv => by
          by_cases e : y = v + 1
          · subst e
            unfold ahd
            omega
          · exact hI y hy (by omega))
        refine ⟨c, c1, ?_, c3⟩
        rw [← c2]
        simp (disch := omega) only [g_lit, nI_add, pk_mul, pk_div, g_sdm, pk_sub, g_clamp, ile_t, ile_f, ilt_t, ilt_f, ieq_t, ieq_f, ieq_r, gi_t, gd_t, gz0, gz1, gl_x, ob0_some, ob1_some, ob2_some, ob3_some, ob4_some, ob5_some, ob6_some, ob7_some, ob8_some, ob9_some, ob10_some, ob11_some, ob12_some, ob13_some, b1, b2, em1, pf_X3_shortestProof_j43, pf_X3_shortestProof]
      · by_cases hv : cl (sst P C n al eg em (v + 1)) (C ^ P) = 1
        · rw [if_pos hv] at e1
          obtain ⟨c, c1, c2, c3⟩ := ih v (v + 1) (by omega) (by omega) (by omega) (Or.inr ⟨by omega, hv⟩) (fun y hy hvy => by
            by_cases e : y = v + 1
            · subst e
              unfold ahd
              omega
            · have := hI y hy (by omega)
              unfold ahd at this ⊢
              omega)
          refine ⟨c, c1, ?_, c3⟩
          rw [← c2]
          simp (disch := omega) only [g_lit, nI_add, pk_mul, pk_div, g_sdm, pk_sub, g_clamp, ile_t, ile_f, ilt_t, ilt_f, ieq_t, ieq_f, ieq_r, gi_t, gd_t, gz0, gz1, gl_x, ob0_some, ob1_some, ob2_some, ob3_some, ob4_some, ob5_some, ob6_some, ob7_some, ob8_some, ob9_some, ob10_some, ob11_some, ob12_some, ob13_some, b1, b2, em1, e1, pf_X3_shortestProof_j43, pf_X3_shortestProof]
        · rw [if_neg hv] at e1
          obtain ⟨c, c1, c2, c3⟩ := ih v b (by omega) (by omega) hb hc (fun y hy hvy => by
            by_cases e : y = v + 1
            · subst e
              rcases hy with q | ⟨_, q⟩
              · omega
              · exact absurd q hv
            · exact hI y hy (by omega))
          refine ⟨c, c1, ?_, c3⟩
          rw [← c2]
          simp (disch := omega) only [g_lit, nI_add, pk_mul, pk_div, g_sdm, pk_sub, g_clamp, ile_t, ile_f, ilt_t, ilt_f, ieq_t, ieq_f, ieq_r, gi_t, gd_t, gz0, gz1, gl_x, ob0_some, ob1_some, ob2_some, ob3_some, ob4_some, ob5_some, ob6_some, ob7_some, ob8_some, ob9_some, ob10_some, ob11_some, ob12_some, ob13_some, b1, b2, em1, e1, if_true, pf_X3_shortestProof_j43, pf_X3_shortestProof]
theorem s_sproof {P C n al : Nat} {eg em : Nat → Nat} {tl : Nat → Int32} (hV : VG P C) (hn : n ≤ 10) (ha : al ≤ 3) (hl : LB P C n eg em tl) : ∃ c, c < 2 ^ n ∧ pf_X3_shortestProof (nI al) (nI (C ^ P)) (nI n) tl = some (nI c) ∧ best_of (cnd P C n al eg em) c := by
  have h2 := p10 hn
  have h0 : 0 < 2 ^ n := Nat.two_pow_pos n
  by_cases q : n = 0
  · subst q
    refine ⟨0, by decide, ?_, Or.inl rfl, fun y hy => ?_⟩
    · have e : nI (2 ^ 0 - 1) - nI 1 ≤ nI 0 := by decide
      have e1 : pf_X3_shortestProof_L18 (nI al) (nI (C ^ P)) tl 100000 (nI (2 ^ 0 - 1)) (nI (2 ^ 0 - 1) - nI 1) = some (nI 0) := by
        rw [pf_X3_shortestProof_L18.eq_2]
        exact if_pos e
      rw [← e1]
      simp (disch := omega) only [g_lit, nI_add, pk_mul, pk_div, g_sdm, pk_sub, g_clamp, ile_t, ile_f, ilt_t, ilt_f, ieq_t, ieq_f, ieq_r, gi_t, gd_t, gz0, gz1, gl_x, ob0_some, ob1_some, ob2_some, ob3_some, ob4_some, ob5_some, ob6_some, ob7_some, ob8_some, ob9_some, ob10_some, ob11_some, ob12_some, ob13_some, s_allBits (n := 0) (by omega), pf_X3_shortestProof_j43, pf_X3_shortestProof]
    · have : y = 0 := by
        rcases hy with h | ⟨h, _⟩
        · exact h
        · have : (2 : Nat) ^ 0 = 1 := rfl
          omega
      subst this
      unfold ahd
      omega
  · have h4 : 2 ≤ 2 ^ n := by
      calc 2 = 2 ^ 1 := rfl
        _ ≤ 2 ^ n := Nat.pow_le_pow_right (by decide) (by omega)
    obtain ⟨c, c1, c2, c3⟩ := s_sproof_L hV hn ha hl 100000 (2 ^ n - 1 - 1) (2 ^ n - 1) (by omega) (by omega) (by omega) (Or.inl rfl) (fun y hy hv => by
      have : y = 2 ^ n - 1 := by
        rcases hy with h | ⟨h, _⟩
        · exact h
        · omega
      subst this
      unfold ahd
      omega)
    refine ⟨c, c1, ?_, c3⟩
    rw [← c2]
    simp (disch := omega) only [g_lit, nI_add, pk_mul, pk_div, g_sdm, pk_sub, g_clamp, ile_t, ile_f, ilt_t, ilt_f, ieq_t, ieq_f, ieq_r, gi_t, gd_t, gz0, gz1, gl_x, ob0_some, ob1_some, ob2_some, ob3_some, ob4_some, ob5_some, ob6_some, ob7_some, ob8_some, ob9_some, ob10_some, ob11_some, ob12_some, ob13_some, s_allBits hn, pf_X3_shortestProof_j43, pf_X3_shortestProof]
theorem nI_neg {d : Nat} (h : d ≤ 2 ^ 32) : -(nI d) = nI (2 ^ 32 - d) := by
  apply Int32.toBitVec_inj.1
  show -(BitVec.ofNat 32 d) = BitVec.ofNat 32 (2 ^ 32 - d)
  apply BitVec.eq_of_toNat_eq
  rw [BitVec.toNat_neg, BitVec.toNat_ofNat, BitVec.toNat_ofNat]
  by_cases e : d = 2 ^ 32
  · subst e
    decide
  · rw [Nat.mod_eq_of_lt (by omega : d < 2 ^ 32)]
theorem rv_lb {P C e r : Nat} {eg em : Nat → Nat} : rv (e + 1) (lb P C eg em (e + 1) r) = rv e (lb P C eg em e r) + lie P C eg em e r * 2 ^ e := by
  have h := lie_le P C eg em e r
  show (lb P C eg em (e + 1) r % 2) * 2 ^ e + rv e (lb P C eg em (e + 1) r / 2) = _
  have e1 : lb P C eg em (e + 1) r % 2 = lie P C eg em e r := by simp only [lb]; omega
  have e2 : lb P C eg em (e + 1) r / 2 = lb P C eg em e r := by simp only [lb]; omega
  rw [e1, e2]
  omega
theorem rv_all : ∀ n, rv n (2 ^ n - 1) = 2 ^ n - 1
  | 0 => rfl
  | n + 1 => by
    have h := rv_all n
    have h0 : 0 < 2 ^ n := Nat.two_pow_pos n
    show ((2 ^ (n + 1) - 1) % 2) * 2 ^ n + rv n ((2 ^ (n + 1) - 1) / 2) = _
    rw [Nat.pow_succ, show (2 ^ n * 2 - 1) % 2 = 1 by omega, show (2 ^ n * 2 - 1) / 2 = 2 ^ n - 1 by omega, h]
    omega
theorem ob2_e {T1 T2 α : Type} {x : Option (T1 × T2)} {a : T1} {b : T2} {k : T1 → T2 → Option α} (h : x = some (a, b)) : ob2 x k = k a b := by
  rw [h]
  rfl
/-- the two proofs are the same -/
theorem s_both {P C n al c c' : Nat} {eg em : Nat → Nat} (h : best_of (cnd P C n al eg em) c) (h' : best_of (cnd P C n al eg em) c') : c = c' := best_one h h'

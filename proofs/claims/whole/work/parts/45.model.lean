/-! the reference's small functions, and its mark of two rows -/
/-- no number below R -/
def NR (R : Nat) (v : Int32) : Prop := v < 0 ∨ ∃ k, R ≤ k ∧ k < 2147483648 ∧ v = nI k
theorem row_cases (R : Nat) (v : Int32) : (∃ j, j < R ∧ v = nI j) ∨ NR R v := by
  rcases i32_cases v with h | ⟨k, hk, rfl⟩
  · exact Or.inr (Or.inl h)
  · by_cases q : k < R
    · exact Or.inl ⟨k, q, rfl⟩
    · exact Or.inr (Or.inr ⟨k, by omega, hk, rfl⟩)
theorem ilt_n {α : Sort _} {x y : α} {v : Int32} (h : v < 0) {k : Nat} (hk : k < 2147483648) [Decidable (v < nI k)] : (if v < nI k then x else y) = x := if_pos (neg_lt h hk)
theorem s_has_no {R : Nat} (hR : R ≤ 256) {v : Int32} (h : NR R v) : pf_X1_has (nI R) v = some (nI 0) := by
  refine s_X1_has_f hR ?_
  rcases h with h | ⟨k, h1, h2, rfl⟩
  · exact Or.inl h
  · exact Or.inr (nI_le h1 h2)
theorem s_in_t {a j b : Nat} (h1 : a ≤ j) (h2 : j ≤ b) (hb : b < 2147483648) : pf_X4_in (nI j) (nI a) (nI b) = some (nI 1) := by
  simp (disch := omega) only [g_lit, nI_add, pk_mul, pk_div, g_sdm, pk_sub, g_clamp, ile_t, ile_f, ilt_t, ilt_f, ieq_t, ieq_f, ieq_r, gi_t, gd_t, gz0, gz1, gl_x, ob0_some, ob1_some, ob2_some, ob3_some, ob4_some, ob5_some, ob6_some, ob7_some, ob8_some, ob9_some, ob10_some, ob11_some, ob12_some, ob13_some, pf_X4_in_j15, pf_X4_in_j14, pf_X4_in]
theorem s_in_lo {a : Nat} (ha : a < 2147483648) {v hi : Int32} (h : v < 0) : pf_X4_in v (nI a) hi = some (nI 0) := by
  unfold pf_X4_in
  rw [if_pos (neg_lt h ha)]
  simp (disch := omega) only [g_lit, nI_add, pk_mul, pk_div, g_sdm, pk_sub, g_clamp, ile_t, ile_f, ilt_t, ilt_f, ieq_t, ieq_f, ieq_r, gi_t, gd_t, gz0, gz1, gl_x, ob0_some, ob1_some, ob2_some, ob3_some, ob4_some, ob5_some, ob6_some, ob7_some, ob8_some, ob9_some, ob10_some, ob11_some, ob12_some, ob13_some, pf_X4_in_j15, pf_X4_in_j14, pf_X4_in]
theorem s_in_f {a j b : Nat} (h : j < a ∨ b < j) (ha : a < 2147483648) (hj : j < 2147483648) : pf_X4_in (nI j) (nI a) (nI b) = some (nI 0) := by
  rcases h with h | h
  · simp (disch := omega) only [g_lit, nI_add, pk_mul, pk_div, g_sdm, pk_sub, g_clamp, ile_t, ile_f, ilt_t, ilt_f, ieq_t, ieq_f, ieq_r, gi_t, gd_t, gz0, gz1, gl_x, ob0_some, ob1_some, ob2_some, ob3_some, ob4_some, ob5_some, ob6_some, ob7_some, ob8_some, ob9_some, ob10_some, ob11_some, ob12_some, ob13_some, pf_X4_in_j15, pf_X4_in_j14, pf_X4_in]
  · by_cases q : j < a
    · simp (disch := omega) only [g_lit, nI_add, pk_mul, pk_div, g_sdm, pk_sub, g_clamp, ile_t, ile_f, ilt_t, ilt_f, ieq_t, ieq_f, ieq_r, gi_t, gd_t, gz0, gz1, gl_x, ob0_some, ob1_some, ob2_some, ob3_some, ob4_some, ob5_some, ob6_some, ob7_some, ob8_some, ob9_some, ob10_some, ob11_some, ob12_some, ob13_some, pf_X4_in_j15, pf_X4_in_j14, pf_X4_in]
    · simp (disch := omega) only [g_lit, nI_add, pk_mul, pk_div, g_sdm, pk_sub, g_clamp, ile_t, ile_f, ilt_t, ilt_f, ieq_t, ieq_f, ieq_r, gi_t, gd_t, gz0, gz1, gl_x, ob0_some, ob1_some, ob2_some, ob3_some, ob4_some, ob5_some, ob6_some, ob7_some, ob8_some, ob9_some, ob10_some, ob11_some, ob12_some, ob13_some, pf_X4_in_j15, pf_X4_in_j14, pf_X4_in]
theorem s_isRow_t {R j : Nat} (hR : R ≤ 256) (hj : j < R) : pf_X4_isRow (nI R) (nI j) = some (nI 1) := by
  simp (disch := omega) only [g_lit, nI_add, pk_mul, pk_div, g_sdm, pk_sub, g_clamp, ile_t, ile_f, ilt_t, ilt_f, ieq_t, ieq_f, ieq_r, gi_t, gd_t, gz0, gz1, gl_x, ob0_some, ob1_some, ob2_some, ob3_some, ob4_some, ob5_some, ob6_some, ob7_some, ob8_some, ob9_some, ob10_some, ob11_some, ob12_some, ob13_some, pf_X4_isRow, s_in_t (Nat.zero_le j) (by omega : j ≤ R - 1)]
theorem s_isRow_f {R : Nat} (h0 : 0 < R) (hR : R ≤ 256) {v : Int32} (h : NR R v) : pf_X4_isRow (nI R) v = some (nI 0) := by
  rcases h with h | ⟨k, h1, h2, rfl⟩
  · simp (disch := omega) only [g_lit, nI_add, pk_mul, pk_div, g_sdm, pk_sub, g_clamp, ile_t, ile_f, ilt_t, ilt_f, ieq_t, ieq_f, ieq_r, gi_t, gd_t, gz0, gz1, gl_x, ob0_some, ob1_some, ob2_some, ob3_some, ob4_some, ob5_some, ob6_some, ob7_some, ob8_some, ob9_some, ob10_some, ob11_some, ob12_some, ob13_some, pf_X4_isRow, s_in_lo (by decide : (0 : Nat) < 2147483648) h]
  · simp (disch := omega) only [g_lit, nI_add, pk_mul, pk_div, g_sdm, pk_sub, g_clamp, ile_t, ile_f, ilt_t, ilt_f, ieq_t, ieq_f, ieq_r, gi_t, gd_t, gz0, gz1, gl_x, ob0_some, ob1_some, ob2_some, ob3_some, ob4_some, ob5_some, ob6_some, ob7_some, ob8_some, ob9_some, ob10_some, ob11_some, ob12_some, ob13_some, pf_X4_isRow, s_in_f (Or.inr (by omega : R - 1 < k))]
theorem s_power_L {P C : Nat} (hP : P ≤ 8) (hC : C ≤ 6) : ∀ n i, i ≤ P → P - i < n → pf_X4_power_L4 (nI C) (nI P) n (nI (C ^ i)) (nI i) = some (nI (C ^ P)) := by
  intro n
  induction n with
  | zero => intro i _ h; omega
  | succ n ih =>
    intro i hi hn
    rw [pf_X4_power_L4.eq_2]
    by_cases q : i = P
    · subst q
      simp (disch := omega) only [g_lit, nI_add, pk_mul, pk_div, g_sdm, pk_sub, g_clamp, ile_t, ile_f, ilt_t, ilt_f, ieq_t, ieq_f, ieq_r, gi_t, gd_t, gz0, gz1, gl_x, ob0_some, ob1_some, ob2_some, ob3_some, ob4_some, ob5_some, ob6_some, ob7_some, ob8_some, ob9_some, ob10_some, ob11_some, ob12_some, ob13_some]
    · simp (disch := omega) only [g_lit, nI_add, pk_mul, pk_div, g_sdm, pk_sub, g_clamp, ile_t, ile_f, ilt_t, ilt_f, ieq_t, ieq_f, ieq_r, gi_t, gd_t, gz0, gz1, gl_x, ob0_some, ob1_some, ob2_some, ob3_some, ob4_some, ob5_some, ob6_some, ob7_some, ob8_some, ob9_some, ob10_some, ob11_some, ob12_some, ob13_some, ← Nat.pow_succ]
      exact ih (i + 1) (by omega) (by omega)
theorem s_power {P C : Nat} (hP : P ≤ 8) (hC : C ≤ 6) : pf_X4_power (nI C) (nI P) = some (nI (C ^ P)) := by
  have h := s_power_L hP hC 100000 0 (Nat.zero_le _) (by omega)
  rw [Nat.pow_zero] at h
  exact h
theorem s_mcolour {P C r p : Nat} (h2 : P ≤ 8) (h3 : 2 ≤ C) (h4 : C ≤ 6) (hr : r < 256) (hp : p < P) : pf_X4_colour (nI P) (nI C) (nI r) (nI p) = some (nI (dg C (P - 1 - p) r)) := by
  have b1 := pow_pos' h3 (P - 1 - p)
  have b2 := pow6 h4 (by omega : P - 1 - p ≤ 8)
  have b3 : r / C ^ (P - 1 - p) ≤ r := Nat.div_le_self _ _
  simp (disch := omega) only [g_lit, nI_add, pk_mul, pk_div, g_sdm, pk_sub, g_clamp, ile_t, ile_f, ilt_t, ilt_f, ieq_t, ieq_f, ieq_r, gi_t, gd_t, gz0, gz1, gl_x, ob0_some, ob1_some, ob2_some, ob3_some, ob4_some, ob5_some, ob6_some, ob7_some, ob8_some, ob9_some, ob10_some, ob11_some, ob12_some, ob13_some, pf_X4_colour, s_power (by omega : P - 1 - p ≤ 8) h4]
  rfl
def alm (C P a b i : Nat) : Nat := min (cn C a 0 P) (cn C b 0 i) + min (cn C a 1 P) (cn C b 1 i) + min (cn C a 2 P) (cn C b 2 i) + min (cn C a 3 P) (cn C b 3 i) + min (cn C a 4 P) (cn C b 4 i) + min (cn C a 5 P) (cn C b 5 i)
theorem alm_up {C P a b i : Nat} (hC : 2 ≤ C) (hC6 : C ≤ 6) (h : cn C b (dg C i b) i < cn C a (dg C i b) P) : alm C P a b (i + 1) = alm C P a b i + 1 := by
  unfold alm
  simp only [cn]
  rcases dg_cases hC hC6 i b with e | e | e | e | e | e <;> rw [e] at h <;> simp only [e] <;> simp <;> omega
theorem alm_eq {C P a b i : Nat} (hC : 2 ≤ C) (hC6 : C ≤ 6) (h : cn C a (dg C i b) P ≤ cn C b (dg C i b) i) : alm C P a b (i + 1) = alm C P a b i := by
  unfold alm
  simp only [cn]
  rcases dg_cases hC hC6 i b with e | e | e | e | e | e <;> rw [e] at h <;> simp only [e] <;> simp <;> omega
theorem alm_le {C : Nat} (hC : 2 ≤ C) (hC6 : C ≤ 6) (P a b i : Nat) : alm C P a b i ≤ P := by
  have h := cn_sum hC hC6 a P
  unfold alm
  omega
theorem s_mor3 {P C a b : Nat} (hP : P ≤ 8) (hC : 2 ≤ C) (hC6 : C ≤ 6) (hb : b < 256) : ∀ n i mh, i ≤ P → P - i < n → (∀ c, c < C → mh c = nI (cn C a c P - min (cn C a c P) (cn C b c i))) → ∃ mh', pf_X4_markOfRows_L117 (nI P) (nI C) (nI (bl C a b P)) n (nI (alm C P a b i)) (nI (b / C ^ i)) (nI i) mh = some (nI (mk P C a b), mh') := by
  intro n
  induction n with
  | zero => intro i mh _ h; omega
  | succ n ih =>
    intro i mh hi hn hm
    rw [pf_X4_markOfRows_L117.eq_2]
    by_cases q : i = P
    · subst q
      have l1 := bl_le C a b i
      have l2 := bl_al hC hC6 a b i
      have l3 : alm C i a b i = al C i a b := rfl
      refine ⟨mh, ?_⟩
      simp (disch := omega) only [g_lit, nI_add, pk_mul, pk_div, g_sdm, pk_sub, g_clamp, ile_t, ile_f, ilt_t, ilt_f, ieq_t, ieq_f, ieq_r, gi_t, gd_t, gz0, gz1, gl_x, ob0_some, ob1_some, ob2_some, ob3_some, ob4_some, ob5_some, ob6_some, ob7_some, ob8_some, ob9_some, ob10_some, ob11_some, ob12_some, ob13_some]
      congr 3
      unfold mk
      omega
    · have b1 : b / C ^ i ≤ b := Nat.div_le_self _ _
      have b3 := dg_lt hC i b
      have b4 := alm_le hC hC6 P a b i
      have hd := hm _ b3
      have c1 := cn_le C a (dg C i b) P
      have ed : b / C ^ i % C = dg C i b := rfl
      by_cases hc : cn C b (dg C i b) i < cn C a (dg C i b) P
      · have hmin : min (cn C a (dg C i b) P) (cn C b (dg C i b) i) = cn C b (dg C i b) i := by omega
        rw [hmin] at hd
        simp (disch := omega) only [g_lit, nI_add, pk_mul, pk_div, g_sdm, pk_sub, g_clamp, ile_t, ile_f, ilt_t, ilt_f, ieq_t, ieq_f, ieq_r, gi_t, gd_t, gz0, gz1, gl_x, ob0_some, ob1_some, ob2_some, ob3_some, ob4_some, ob5_some, ob6_some, ob7_some, ob8_some, ob9_some, ob10_some, ob11_some, ob12_some, ob13_some, ed, hd, pf_X4_markOfRows_j160, pf_X4_markOfRows_j69, pf_X4_markOfRows]
        rw [dg_step, ← alm_up hC hC6 hc]
        refine ih (i + 1) _ (by omega) (by omega) (fun c hcC => ?_)
        by_cases e : c = dg C i b
        · subst e
          rw [pk_us]
          simp only [cn]
          congr 1
          simp
          omega
        · rw [pk_un e, hm c hcC]
          simp only [cn]
          rw [if_neg (fun h => e h.symm)]
          rfl
      · have hmin : min (cn C a (dg C i b) P) (cn C b (dg C i b) i) = cn C a (dg C i b) P := by omega
        rw [hmin, Nat.sub_self] at hd
        simp (disch := omega) only [g_lit, nI_add, pk_mul, pk_div, g_sdm, pk_sub, g_clamp, ile_t, ile_f, ilt_t, ilt_f, ieq_t, ieq_f, ieq_r, gi_t, gd_t, gz0, gz1, gl_x, ob0_some, ob1_some, ob2_some, ob3_some, ob4_some, ob5_some, ob6_some, ob7_some, ob8_some, ob9_some, ob10_some, ob11_some, ob12_some, ob13_some, ed, hd, pf_X4_markOfRows_j160, pf_X4_markOfRows_j69, pf_X4_markOfRows]
        rw [dg_step, ← alm_eq hC hC6 (by omega : cn C a (dg C i b) P ≤ cn C b (dg C i b) i)]
        refine ih (i + 1) _ (by omega) (by omega) (fun c hcC => ?_)
        by_cases e : c = dg C i b
        · subst e
          rw [hm _ hcC]
          simp only [cn]
          congr 1
          simp
          omega
        · rw [hm c hcC]
          simp only [cn]
          rw [if_neg (fun h => e h.symm)]
          rfl
theorem s_mor2 {P C a b : Nat} (hP : P ≤ 8) (hC : 2 ≤ C) (hC6 : C ≤ 6) (ha : a < 256) (hb : b < 256) : ∀ n i mh, i ≤ P → P - i < n → (∀ c, c < C → mh c = nI (cn C a c i)) → ∃ mh', pf_X4_markOfRows_L37 (nI b) (nI P) (nI C) (nI 0) n (nI (bl C a b i)) (nI (a / C ^ i)) (nI (b / C ^ i)) (nI i) mh = some (nI (mk P C a b), mh') := by
  intro n
  induction n with
  | zero => intro i mh _ h; omega
  | succ n ih =>
    intro i mh hi hn hm
    rw [pf_X4_markOfRows_L37.eq_2]
    by_cases q : i = P
    · subst q
      simp (disch := omega) only [g_lit, nI_add, pk_mul, pk_div, g_sdm, pk_sub, g_clamp, ile_t, ile_f, ilt_t, ilt_f, ieq_t, ieq_f, ieq_r, gi_t, gd_t, gz0, gz1, gl_x, ob0_some, ob1_some, ob2_some, ob3_some, ob4_some, ob5_some, ob6_some, ob7_some, ob8_some, ob9_some, ob10_some, ob11_some, ob12_some, ob13_some]
      have h := s_mor3 (a := a) hP hC hC6 hb 100000 0 mh (Nat.zero_le _) (by omega) (fun c hc => by rw [hm c hc]; simp only [cn]; congr 1; omega)
      have e0 : alm C i a b 0 = 0 := by unfold alm; simp only [cn]; omega
      rw [Nat.pow_zero, Nat.div_one, e0] at h
      exact h
    · have b1 : b / C ^ i ≤ b := Nat.div_le_self _ _
      have b2 : a / C ^ i ≤ a := Nat.div_le_self _ _
      have b3 := dg_lt hC i b
      have b5 := dg_lt hC i a
      have b4 := bl_le C a b i
      have hd := hm _ b5
      have c1 := cn_le C a (dg C i a) i
      have ed : b / C ^ i % C = dg C i b := rfl
      have ea : a / C ^ i % C = dg C i a := rfl
      have nxt : ∀ c, c < C → upd mh (dg C i a) (nI (cn C a (dg C i a) i + 1)) c = nI (cn C a c (i + 1)) := by
        intro c hcC
        by_cases e : c = dg C i a
        · subst e
          rw [pk_us]
          simp only [cn]
          simp
        · rw [pk_un e, hm c hcC]
          simp only [cn]
          rw [if_neg (fun h => e h.symm)]
          rfl
      by_cases e : dg C i a = dg C i b
      · have eb : bl C a b i + 1 = bl C a b (i + 1) := by simp only [bl]; rw [if_pos e]
        have e' : dg C i b = dg C i a := e.symm
        rw [e'] at ed
        simp (disch := omega) only [g_lit, nI_add, pk_mul, pk_div, g_sdm, pk_sub, g_clamp, ile_t, ile_f, ilt_t, ilt_f, ieq_t, ieq_f, ieq_r, gi_t, gd_t, gz0, gz1, gl_x, ob0_some, ob1_some, ob2_some, ob3_some, ob4_some, ob5_some, ob6_some, ob7_some, ob8_some, ob9_some, ob10_some, ob11_some, ob12_some, ob13_some, ed, ea, hd, pf_X4_markOfRows_j160, pf_X4_markOfRows_j69, pf_X4_markOfRows]
        rw [dg_step, dg_step, eb]
        exact ih (i + 1) _ (by omega) (by omega) nxt
      · have eb : bl C a b i + 0 = bl C a b (i + 1) := by simp only [bl]; rw [if_neg e]
        simp (disch := omega) only [g_lit, nI_add, pk_mul, pk_div, g_sdm, pk_sub, g_clamp, ile_t, ile_f, ilt_t, ilt_f, ieq_t, ieq_f, ieq_r, gi_t, gd_t, gz0, gz1, gl_x, ob0_some, ob1_some, ob2_some, ob3_some, ob4_some, ob5_some, ob6_some, ob7_some, ob8_some, ob9_some, ob10_some, ob11_some, ob12_some, ob13_some, ed, ea, hd, pf_X4_markOfRows_j160, pf_X4_markOfRows_j69, pf_X4_markOfRows]
        rw [dg_step, dg_step, eb]
        exact ih (i + 1) _ (by omega) (by omega) nxt
theorem s_mor1 {P C a b : Nat} (hP : P ≤ 8) (hC : 2 ≤ C) (hC6 : C ≤ 6) (ha : a < 256) (hb : b < 256) : ∀ n j mh, j ≤ C → C - j < n → (∀ c, c < j → mh c = nI 0) → ∃ mh', pf_X4_markOfRows_L2 (nI a) (nI b) (nI P) (nI C) n (nI j) mh = some (nI (mk P C a b), mh') := by
  intro n
  induction n with
  | zero => intro i mh _ h; omega
  | succ n ih =>
    intro j mh hj hn hm
    rw [pf_X4_markOfRows_L2.eq_2]
    by_cases q : j = C
    · subst q
      simp (disch := omega) only [g_lit, nI_add, pk_mul, pk_div, g_sdm, pk_sub, g_clamp, ile_t, ile_f, ilt_t, ilt_f, ieq_t, ieq_f, ieq_r, gi_t, gd_t, gz0, gz1, gl_x, ob0_some, ob1_some, ob2_some, ob3_some, ob4_some, ob5_some, ob6_some, ob7_some, ob8_some, ob9_some, ob10_some, ob11_some, ob12_some, ob13_some]
      have h := s_mor2 hP hC hC6 ha hb 100000 0 mh (Nat.zero_le _) (by omega) (fun c hc => by rw [hm c hc]; rfl)
      rw [Nat.pow_zero, Nat.div_one, Nat.div_one] at h
      exact h
    · simp (disch := omega) only [g_lit, nI_add, pk_mul, pk_div, g_sdm, pk_sub, g_clamp, ile_t, ile_f, ilt_t, ilt_f, ieq_t, ieq_f, ieq_r, gi_t, gd_t, gz0, gz1, gl_x, ob0_some, ob1_some, ob2_some, ob3_some, ob4_some, ob5_some, ob6_some, ob7_some, ob8_some, ob9_some, ob10_some, ob11_some, ob12_some, ob13_some]
      refine ih (j + 1) _ (by omega) (by omega) (fun c hc => ?_)
      by_cases e : c = j
      · subst e
        exact pk_us
      · rw [pk_un e]
        exact hm c (by omega)
theorem s_mor {P C a b : Nat} (mh : Nat → Int32) (hP : P ≤ 8) (hC : 2 ≤ C) (hC6 : C ≤ 6) (ha : a < 256) (hb : b < 256) : ∃ mh', pf_X4_markOfRows (nI P) (nI C) mh (nI a) (nI b) = some (nI (mk P C a b), mh') :=
  s_mor1 hP hC hC6 ha hb 100000 0 mh (Nat.zero_le _) (by omega) (fun c hc => absurd hc (Nat.not_lt_zero c))

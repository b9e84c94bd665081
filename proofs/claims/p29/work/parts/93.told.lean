/-! what is told is what the class tells -/
def TO (x : Option (Int32 × Int32 × Int32 × Int32 × (Nat → Int32) × (Nat → Int32) × (Nat → Int32) × (Nat → Int64) × (Nat → Int32))) : Prop := ∃ pn pg pq sr pm ps yw yh, x = some (nI 1, pn, pg, pq, sr, pm, ps, yw, yh)
theorem TO_i {pn : Int32} {pg : Int32} {pq : Int32} {sr : Nat → Int32} {pm : Nat → Int32} {ps : Nat → Int32} {yw : Nat → Int64} {yh : Nat → Int32} : TO (some (nI 1, pn, pg, pq, sr, pm, ps, yw, yh)) := ⟨_, _, _, _, _, _, _, _, rfl⟩
theorem TO_of {x y : Option (Int32 × Int32 × Int32 × Int32 × (Nat → Int32) × (Nat → Int32) × (Nat → Int32) × (Nat → Int64) × (Nat → Int32))} (h : x = y) (k : TO y) : TO x := by
  rw [h]
  exact k
theorem oe2 {α T0 T1 : Type} {x : Option (T0 × T1)} {a0 : T0} {a1 : T1} {k : T0 → T1 → Option α} (h : x = some (a0, a1)) : ob2 x k = k a0 a1 := by
  rw [h]
  rfl
theorem oe3 {α T0 T1 T2 : Type} {x : Option (T0 × T1 × T2)} {a0 : T0} {a1 : T1} {a2 : T2} {k : T0 → T1 → T2 → Option α} (h : x = some (a0, a1, a2)) : ob3 x k = k a0 a1 a2 := by
  rw [h]
  rfl
theorem oe6 {α T0 T1 T2 T3 T4 T5 : Type} {x : Option (T0 × T1 × T2 × T3 × T4 × T5)} {a0 : T0} {a1 : T1} {a2 : T2} {a3 : T3} {a4 : T4} {a5 : T5} {k : T0 → T1 → T2 → T3 → T4 → T5 → Option α} (h : x = some (a0, a1, a2, a3, a4, a5)) : ob6 x k = k a0 a1 a2 a3 a4 a5 := by
  rw [h]
  rfl
theorem oe7 {α T0 T1 T2 T3 T4 T5 T6 : Type} {x : Option (T0 × T1 × T2 × T3 × T4 × T5 × T6)} {a0 : T0} {a1 : T1} {a2 : T2} {a3 : T3} {a4 : T4} {a5 : T5} {a6 : T6} {k : T0 → T1 → T2 → T3 → T4 → T5 → T6 → Option α} (h : x = some (a0, a1, a2, a3, a4, a5, a6)) : ob7 x k = k a0 a1 a2 a3 a4 a5 a6 := by
  rw [h]
  rfl
/-- a mark of two rows is a possible mark -/
theorem bl_cn {C a b : Nat} (hC : 2 ≤ C) (hC6 : C ≤ 6) : ∀ i, (bl C a b i = i → ∀ c, cn C a c i = cn C b c i) ∧ (bl C a b i + 1 = i → ∃ c, c < 6 ∧ cn C a c i = cn C b c i + 1)
  | 0 => ⟨fun _ _ => rfl, fun h => by omega⟩
  | i + 1 => by
    obtain ⟨h1, h2⟩ := bl_cn (C := C) (a := a) (b := b) hC hC6 i
    have hle := bl_le C a b i
    have e1 : bl C a b (i + 1) = bl C a b i + if dg C i a = dg C i b then 1 else 0 := rfl
    have e2 : ∀ r c, cn C r c (i + 1) = cn C r c i + if dg C i r = c then 1 else 0 := fun _ _ => rfl
    by_cases q : dg C i a = dg C i b
    · rw [if_pos q] at e1
      refine ⟨fun h c => ?_, fun h => ?_⟩
      · rw [e2, e2, h1 (by omega) c, q]
      · obtain ⟨c, c1, c2⟩ := h2 (by omega)
        refine ⟨c, c1, ?_⟩
        rw [e2, e2, c2, q]
        omega
    · rw [if_neg q] at e1
      refine ⟨fun h => by omega, fun h => ?_⟩
      have h3 := h1 (by omega) (dg C i a)
      refine ⟨dg C i a, Nat.lt_of_lt_of_le (dg_lt hC i a) hC6, ?_⟩
      rw [e2, e2, if_pos rfl, if_neg (fun z => q z.symm), h3]
theorem bl_al2 {P C a b : Nat} (hC : 2 ≤ C) (hC6 : C ≤ 6) (h : bl C a b P + 1 = P) : al C P a b < P := by
  obtain ⟨c, c1, c2⟩ := (bl_cn (a := a) (b := b) hC hC6 P).2 h
  have hs := cn_sum hC hC6 a P
  have hb := cn_sum hC hC6 b P
  unfold al
  have hc : c = 0 ∨ c = 1 ∨ c = 2 ∨ c = 3 ∨ c = 4 ∨ c = 5 := by omega
  rcases hc with rfl | rfl | rfl | rfl | rfl | rfl <;> omega
theorem mk_allow {P C : Nat} (hV : VG P C) (a b : Nat) : pf_X1_allows (nI P) (nI (mk P C a b)) = some (nI 1) := by
  have hP := hV.2.1
  have hP1 := hV.1
  have h1 := bl_al hV.2.2.1 hV.2.2.2.1 a b P
  have h2 := al_le hV.2.2.1 hV.2.2.2.1 P a b
  have h3 := bl_le C a b P
  have h4 : bl C a b P + 1 = P → al C P a b < P := bl_al2 hV.2.2.1 hV.2.2.2.1
  unfold mk
  generalize bl C a b P = x at *
  generalize al C P a b = y at *
  have e1 : (10 * x + (y - x)) / 10 = x := by omega
  have e2 : (10 * x + (y - x)) % 10 = y - x := by omega
  generalize 10 * x + (y - x) = m at *
  subst e1
  by_cases q : m % 10 = 1
  · by_cases q2 : m / 10 = P - 1
    · have := h4 (by omega)
      omega
    · simp (disch := omega) only [g_lit, nI_add, pk_mul, pk_div, g_sdm, pk_sub, g_clamp, ile_t, ile_f, ilt_t, ilt_f, ieq_t, ieq_f, ieq_r, gi_t, gd_t, gz0, gz1, gl_x, ob0_some, ob1_some, ob2_some, ob3_some, ob4_some, ob5_some, ob6_some, ob7_some, ob8_some, ob9_some, ob10_some, ob11_some, ob12_some, ob13_some, pf_X1_allows_j58, pf_X1_allows_j57, pf_X1_allows_j36, pf_X1_allows_j35, pf_X1_allows, q, if_true]
  · simp (disch := omega) only [g_lit, nI_add, pk_mul, pk_div, g_sdm, pk_sub, g_clamp, ile_t, ile_f, ilt_t, ilt_f, ieq_t, ieq_f, ieq_r, gi_t, gd_t, gz0, gz1, gl_x, ob0_some, ob1_some, ob2_some, ob3_some, ob4_some, ob5_some, ob6_some, ob7_some, ob8_some, ob9_some, ob10_some, ob11_some, ob12_some, ob13_some, pf_X1_allows_j58, pf_X1_allows_j57, pf_X1_allows_j36, pf_X1_allows_j35, pf_X1_allows, if_true]
theorem allow_f {P : Nat} (h1 : 1 ≤ P) (hP : P ≤ 8) : pf_X1_allows (nI P) (nI (10 * P - 9)) = some (nI 0) := by
  have e1 : (10 * P - 9) / 10 = P - 1 := by omega
  have e2 : (10 * P - 9) % 10 = 1 := by omega
  simp (disch := omega) only [g_lit, nI_add, pk_mul, pk_div, g_sdm, pk_sub, g_clamp, ile_t, ile_f, ilt_t, ilt_f, ieq_t, ieq_f, ieq_r, gi_t, gd_t, gz0, gz1, gl_x, ob0_some, ob1_some, ob2_some, ob3_some, ob4_some, ob5_some, ob6_some, ob7_some, ob8_some, ob9_some, ob10_some, ob11_some, ob12_some, ob13_some, pf_X1_allows_j58, pf_X1_allows_j57, pf_X1_allows_j36, pf_X1_allows_j35, pf_X1_allows, e1, e2, if_true]
section
variable {P C n al : Nat} {eg em : Nat → Nat} {hr pn pg pq : Int32} {rl sr gcb tg tm tl pm ps yg yq ym yh : Nat → Int32} {gpb yr yw : Nat → Int64} {st : Nat → Bool} {S : Int64}
theorem Hs_rk {R : Nat} (h : Hs S st R) : rk (bt S) R = rk st R := rk_same R (fun i hi => Hs_at h hi)
/-- the entries of the proof -/
theorem m_inp {s c : Nat} (hg : GI P C al n hr yg) (hn : n ≤ 10) (hs : s ≤ 64) (hc : c < 1024) (h : ∀ j, j < n → pf_L_isInProof (nI s) (nI al) (nI (C ^ P)) (nI n) tl (nI j) = some (if s = 1 then nI (c / 2 ^ (n - 1 - j) % 2) else -nI 73)) : ∀ d j, j ≤ n → n - j < d → TO (pf_L_isTold_L720 (nI s) (nI al) (nI (C ^ P)) (nI n) tl yg (nI s) (nI c) pn pg pq sr pm ps yw yh d (nI j)) := by
  obtain ⟨g0, g1, g2, g3, g4, g5⟩ := hg
  intro d
  induction d with
  | zero => intro j _ h; omega
  | succ d ih =>
    intro j h1 h2
    rw [pf_L_isTold_L720.eq_2]
    by_cases e : j = n
    · subst e
      simp (disch := omega) only [g_lit, nI_add, pk_mul, pk_div, g_sdm, pk_sub, g_clamp, ile_t, ile_f, ilt_t, ilt_f, ieq_t, ieq_f, ieq_r, gi_t, gd_t, gz0, gz1, gl_x, ob0_some, ob1_some, ob2_some, ob3_some, ob4_some, ob5_some, ob6_some, ob7_some, ob8_some, ob9_some, ob10_some, ob11_some, ob12_some, ob13_some, g5, pk_un, pk_us, if_true, if_false, nn10, nn20, nn30, nn21, nn31, nn32]
      exact TO_i
    · have hj := h j (by omega)
      have hx := ih (j + 1) (by omega) (by omega)
      by_cases q : s = 1
      · rw [if_pos q] at hj
        have s2 : nI c >>> (nI (n - 1 - j) &&& nI 31) = nI (c / 2 ^ (n - 1 - j)) := shr_m (by omega) (by omega)
        have s4 : nI (c / 2 ^ (n - 1 - j)) &&& nI 1 = nI (c / 2 ^ (n - 1 - j) % 2) := by rw [fa_and, Nat.and_one_is_mod]
        rw [q] at hj hx ⊢
        simp (disch := omega) only [g_lit, nI_add, pk_mul, pk_div, g_sdm, pk_sub, g_clamp, ile_t, ile_f, ilt_t, ilt_f, ieq_t, ieq_f, ieq_r, gi_t, gd_t, gz0, gz1, gl_x, ob0_some, ob1_some, ob2_some, ob3_some, ob4_some, ob5_some, ob6_some, ob7_some, ob8_some, ob9_some, ob10_some, ob11_some, ob12_some, ob13_some, g5, hj, s2, s4, pf_L_isTold_j758, pk_un, pk_us, if_true, if_false, nn10, nn20, nn30, nn21, nn31, nn32]
        exact hx
      · rw [if_neg q] at hj
        simp (disch := omega) only [g_lit, nI_add, pk_mul, pk_div, g_sdm, pk_sub, g_clamp, ile_t, ile_f, ilt_t, ilt_f, ieq_t, ieq_f, ieq_r, gi_t, gd_t, gz0, gz1, gl_x, ob0_some, ob1_some, ob2_some, ob3_some, ob4_some, ob5_some, ob6_some, ob7_some, ob8_some, ob9_some, ob10_some, ob11_some, ob12_some, ob13_some, g5, hj, pf_L_isTold_j758, pk_un, pk_us, if_true, if_false, nn10, nn20, nn30, nn21, nn31, nn32]
        exact hx
theorem m_proof (s0 : Int32) (hS : Hs S (still P C n al eg em) (C ^ P)) (hB : BI P C n al eg em hr rl gcb gpb tg tm tl yg yq ym yr) : TO (pf_L_isTold_j652 (nI (cl (still P C n al eg em) (C ^ P))) (nI al) (nI (C ^ P)) (nI n) tl yg yq ym yr S (nI (cl (still P C n al eg em) (C ^ P))) s0 s0 pn pg pq sr pm ps yw yh) := by
  have hB0 := hB
  obtain ⟨hV, hR, hE, ha, hid0, hLs, hG, hTE, hLB, hg, hq, hL⟩ := hB
  have hg0 := hg
  obtain ⟨g0, g1, g2, g3, g4, g5⟩ := hg
  have hR2 := R2 hV
  have hP1 := hV.1
  have hP := hV.2.1
  have hn := hE.1
  have hcl := cl_le (still P C n al eg em) (C ^ P)
  have b1 := w_inp_f (P := P) (C := C) (al := al) (tl := tl) (lc := nI (cl (still P C n al eg em) (C ^ P))) hn (nr_R (R := n) (by omega))
  have b2 := w_inp_f (P := P) (C := C) (al := al) (tl := tl) (lc := nI (cl (still P C n al eg em) (C ^ P))) hn (nr_m1 n)
  by_cases q : (cl (still P C n al eg em) (C ^ P)) = 1
  · obtain ⟨c, c1, c2, c3⟩ := t_proof_1 hg0 hV hR hL hE ha hq hS q
    obtain ⟨c', d1, d2, d3, d4⟩ := w_proof_1 hV hE ha hLB
    have := best_one c2 d2
    subst this
    have h2 := p10 hn
    have e5 := t_many_i (v := c) (by omega)
    have hx := m_inp (s := (cl (still P C n al eg em) (C ^ P))) (c := c) (tl := tl) (pn := pn) (pg := pg) (pq := pq) (sr := sr) (pm := pm) (ps := ps) (yw := yw) (yh := yh) hg0 hn (by omega) (by omega) (fun j hj => by rw [if_pos q, q]; exact d4 j hj) 70 0 (Nat.zero_le _) (by omega)
    rw [q] at b1 b2 hx ⊢
    simp (disch := omega) only [g_lit, nI_add, pk_mul, pk_div, g_sdm, pk_sub, g_clamp, ile_t, ile_f, ilt_t, ilt_f, ieq_t, ieq_f, ieq_r, gi_t, gd_t, gz0, gz1, gl_x, ob0_some, ob1_some, ob2_some, ob3_some, ob4_some, ob5_some, ob6_some, ob7_some, ob8_some, ob9_some, ob10_some, ob11_some, ob12_some, ob13_some, pf_L_isTold_j652, pf_L_isTold_j690, c3, d3, e5, b1, b2, g5, pk_un, pk_us, if_true, if_false, nn10, nn20, nn30, nn21, nn31, nn32]
    exact hx
  · have e1 := t_proof_0 (yg := yg) (yq := yq) (ym := ym) (yr := yr) hR hS q
    have e2 := w_psz_0 (P := P) (C := C) (n := n) (al := al) (tl := tl) (s := (cl (still P C n al eg em) (C ^ P))) (by omega) q
    have hx := m_inp (s := (cl (still P C n al eg em) (C ^ P))) (c := 0) (tl := tl) (pn := pn) (pg := pg) (pq := pq) (sr := sr) (pm := pm) (ps := ps) (yw := yw) (yh := yh) hg0 hn (by omega) (by omega) (fun j hj => by rw [if_neg q]; exact w_inp_0 (by omega) q hn hj) 70 0 (Nat.zero_le _) (by omega)
    simp (disch := omega) only [g_lit, nI_add, pk_mul, pk_div, g_sdm, pk_sub, g_clamp, ile_t, ile_f, ilt_t, ilt_f, ieq_t, ieq_f, ieq_r, gi_t, gd_t, gz0, gz1, gl_x, ob0_some, ob1_some, ob2_some, ob3_some, ob4_some, ob5_some, ob6_some, ob7_some, ob8_some, ob9_some, ob10_some, ob11_some, ob12_some, ob13_some, pf_L_isTold_j652, pf_L_isTold_j690, e1, e2, b1, b2, g5, pk_un, pk_us, if_true, if_false, nn10, nn20, nn30, nn21, nn31, nn32]
    exact hx
theorem m_need {row : Nat} (s0 : Int32) (hrow : row < C ^ P) (hS : Hs S (still P C n al eg em) (C ^ P)) (hB : BI P C n al eg em hr rl gcb gpb tg tm tl yg yq ym yr) : TO (pf_L_isTold_j572 (nI (cl (still P C n al eg em) (C ^ P))) (nI al) (nI P) (nI (C ^ P)) (nI n) rl gcb gpb tl yg yq ym yr S (nI (cl (still P C n al eg em) (C ^ P))) (nI row) s0 s0 pn pg pq sr pm ps yw yh) := by
  have hB0 := hB
  obtain ⟨hV, hR, hE, ha, hid0, hLs, hG, hTE, hLB, hg, hq, hL⟩ := hB
  have hg0 := hg
  obtain ⟨g0, g1, g2, g3, g4, g5⟩ := hg
  have hR2 := R2 hV
  have hP1 := hV.1
  have hP := hV.2.1
  have hn := hE.1
  have hcl := cl_le (still P C n al eg em) (C ^ P)
  have b1 := fun pn pg pq pm ps => w_best_f (P := P) (C := C) (rl := rl) (gcb := gcb) (gpb := gpb) (lc := nI (cl (still P C n al eg em) (C ^ P))) pn pg pq pm ps
  have b2 := fun pn pg pq pm ps w => w_psize_f1 (rl := rl) (gcb := gcb) (gpb := gpb) (lc := nI (cl (still P C n al eg em) (C ^ P))) (pn := pn) (pg := pg) (pq := pq) (pm := pm) (ps := ps) (w := w) hV (nr_R (R := C ^ P) (by omega))
  have b3 := fun pn pg pq pm ps => w_psize_f2 (rl := rl) (gcb := gcb) (gpb := gpb) (lc := nI (cl (still P C n al eg em) (C ^ P))) (pn := pn) (pg := pg) (pq := pq) (pm := pm) (ps := ps) hV hrow (allow_f hP1 hP)
  have eC := Hs_cl hS
  have eR := Hs_rk hS
  by_cases q0 : (cl (still P C n al eg em) (C ^ P)) = 0
  · have e1 := w_need_f (rl := rl) (gcb := gcb) (gpb := gpb) pn pg pq sr pm ps hV (Or.inl q0)
    have hx := m_proof (pn := pn) (pg := pg) (pq := pq) (sr := sr) (pm := pm) (ps := ps) (yw := yw) (yh := yh) (-nI 73) hS hB0
    simp (disch := omega) only [g_lit, nI_add, pk_mul, pk_div, g_sdm, pk_sub, g_clamp, ile_t, ile_f, ilt_t, ilt_f, ieq_t, ieq_f, ieq_r, gi_t, gd_t, gz0, gz1, gl_x, ob0_some, ob1_some, ob2_some, ob3_some, ob4_some, ob5_some, ob6_some, ob7_some, ob8_some, ob9_some, ob10_some, ob11_some, ob12_some, ob13_some, pf_L_isTold_j572, pf_L_isTold_j636, b1, b2, b3, g0, g2, e1, pk_un, pk_us, if_true, if_false, nn10, nn20, nn30, nn21, nn31, nn32]
    exact hx
  · by_cases q1 : (cl (still P C n al eg em) (C ^ P)) ≤ 24
    · obtain ⟨pn1, pg1, pq1, sr1, pm1, ps1, e1⟩ := w_need_t pn pg pq sr pm ps hV hG hLs (by omega) q1
      obtain ⟨yw1, yh1, e2⟩ := t_need (S := S) yw yh hg0 hV hR hL (Hs_SB hS) (by rw [eC]; omega) (by rw [eC]; omega)
      rw [eC, eR] at e2
      have hx := m_proof (pn := pn1) (pg := pg1) (pq := pq1) (sr := sr1) (pm := pm1) (ps := ps1) (yw := yw1) (yh := yh1) (nI (hh P C 24 (cl (still P C n al eg em) (C ^ P)) (rk (still P C n al eg em) (C ^ P)))) hS hB0
      simp (disch := omega) only [g_lit, nI_add, pk_mul, pk_div, g_sdm, pk_sub, g_clamp, ile_t, ile_f, ilt_t, ilt_f, ieq_t, ieq_f, ieq_r, gi_t, gd_t, gz0, gz1, gl_x, ob0_some, ob1_some, ob2_some, ob3_some, ob4_some, ob5_some, ob6_some, ob7_some, ob8_some, ob9_some, ob10_some, ob11_some, ob12_some, ob13_some, pf_L_isTold_j572, b1, b2, b3, g0, g2, e1, e2, pk_un, pk_us, if_true, if_false, nn10, nn20, nn30, nn21, nn31, nn32]
      exact hx
    · have e1 := w_need_f (rl := rl) (gcb := gcb) (gpb := gpb) pn pg pq sr pm ps hV (Or.inr (by omega : 24 < (cl (still P C n al eg em) (C ^ P))))
      have hx := m_proof (pn := pn) (pg := pg) (pq := pq) (sr := sr) (pm := pm) (ps := ps) (yw := yw) (yh := yh) (-nI 73) hS hB0
      simp (disch := omega) only [g_lit, nI_add, pk_mul, pk_div, g_sdm, pk_sub, g_clamp, ile_t, ile_f, ilt_t, ilt_f, ieq_t, ieq_f, ieq_r, gi_t, gd_t, gz0, gz1, gl_x, ob0_some, ob1_some, ob2_some, ob3_some, ob4_some, ob5_some, ob6_some, ob7_some, ob8_some, ob9_some, ob10_some, ob11_some, ob12_some, ob13_some, pf_L_isTold_j572, pf_L_isTold_j636, b1, b2, b3, g0, g2, e1, pk_un, pk_us, if_true, if_false, nn10, nn20, nn30, nn21, nn31, nn32]
      exact hx
/-- the mark m begins no part before the k-th -/
def frk (ms : Nat → Nat) (s m k : Nat) : Prop := ∀ i, i < s → ct ms i m = 0 → ms i = m → k ≤ pd ms i
theorem ct_no {ms : Nat → Nat} {m : Nat} : ∀ i, (∀ j, j < i → ms j ≠ m) → ct ms i m = 0
  | 0, _ => rfl
  | i + 1, h => by
    show ct ms i m + (if ms i = m then 1 else 0) = 0
    rw [ct_no i (fun j hj => h j (by omega)), if_neg (h i (by omega))]
theorem ct_yes {ms : Nat → Nat} {m : Nat} : ∀ i j, j < i → ms j = m → 0 < ct ms i m
  | 0, j, h, _ => absurd h (Nat.not_lt_zero j)
  | i + 1, j, h, e => by
    show 0 < ct ms i m + (if ms i = m then 1 else 0)
    by_cases q : j = i
    · subst q
      rw [if_pos e]
      omega
    · have := ct_yes i j (by omega) e
      omega
theorem frk_new {ms : Nat → Nat} {s m k i : Nat} (h0 : ct ms i (ms i) = 0) (hk : pd ms i = k) : (frk ms s m k ∧ m ≠ ms i) → frk ms s m (k + 1) := by
  rintro ⟨h, hne⟩ j hj hc hm
  have h1 := h j hj hc hm
  rcases Nat.lt_trichotomy i j with q | q | q
  · have := pd_lt q h0
    omega
  · subst q
    exact absurd hm.symm hne
  · have := pd_lt (ms := ms) q (by rw [hm]; exact hc)
    omega
theorem m_low {g k x0 : Nat} {T : Int64} (hV : VG P C) (hS : Hs S st (C ^ P)) (hT : ∀ x, bt T x = true ↔ bt S x = true ∧ frk (mz P C g (rk st (C ^ P))) (cl st (C ^ P)) (mk P C g x) k) (h1 : bt T x0 = true) (h2 : ∀ i, i < x0 → bt T i = false) : x0 < C ^ P ∧ st x0 = true ∧ mz P C g (rk st (C ^ P)) (cl st x0) = mk P C g x0 ∧ cl st x0 < cl st (C ^ P) ∧ ct (mz P C g (rk st (C ^ P))) (cl st x0) (mz P C g (rk st (C ^ P)) (cl st x0)) = 0 ∧ pd (mz P C g (rk st (C ^ P))) (cl st x0) = k := by
  obtain ⟨b1, b2⟩ := (hT x0).mp h1
  have hx := SB_lt (Hs_SB hS) b1
  have hst : st x0 = true := by rw [← Hs_at hS hx]; exact b1
  have hlt := cl_lt hx hst
  have hrk := rk_at (R := C ^ P) hx hst
  have hmz : mz P C g (rk st (C ^ P)) (cl st x0) = mk P C g x0 := by
    unfold mz
    rw [hrk]
  -- a smaller index is a smaller row of S
  have hsm : ∀ i, i < cl st x0 → rk st (C ^ P) i < x0 ∧ bt S (rk st (C ^ P) i) = true := by
    intro i hi
    have hi2 : i < cl st (C ^ P) := by omega
    obtain ⟨r1, r2, r3⟩ := rk_kth st (C ^ P) i hi2
    refine ⟨?_, by rw [Hs_at hS r1]; exact r2⟩
    have := As_rk st (C ^ P) i (cl st x0) hi hlt
    rw [hrk] at this
    exact this
  have h0 : ct (mz P C g (rk st (C ^ P))) (cl st x0) (mk P C g x0) = 0 := by
    apply ct_no
    intro j hj e
    obtain ⟨c1, c2⟩ := hsm j hj
    have e2 : mk P C g (rk st (C ^ P) j) = mk P C g x0 := e
    have : bt T (rk st (C ^ P) j) = true := (hT _).mpr ⟨c2, by rw [e2]; exact b2⟩
    rw [h2 _ c1] at this
    cases this
  refine ⟨hx, hst, hmz, hlt, by rw [hmz]; exact h0, ?_⟩
  have hge := b2 (cl st x0) hlt h0 hmz
  apply Classical.byContradiction
  intro hne
  obtain ⟨i, i1, i2, i3⟩ := pd_kth (mz P C g (rk st (C ^ P))) (cl st x0) k (by omega)
  obtain ⟨c1, c2⟩ := hsm i i1
  have : bt T (rk st (C ^ P) i) = true := by
    refine (hT _).mpr ⟨c2, ?_⟩
    intro j hj hc hm
    have e2 : mk P C g (rk st (C ^ P) i) = mz P C g (rk st (C ^ P)) i := rfl
    rw [e2] at hc hm
    have : j = i := by
      rcases Nat.lt_trichotomy j i with q | q | q
      · have := ct_yes i j q hm
        omega
      · exact q
      · have := ct_yes (ms := mz P C g (rk st (C ^ P))) (m := mz P C g (rk st (C ^ P)) i) j i q rfl
        omega
    rw [this, i3]
    exact Nat.le_refl k
  rw [h2 _ c1] at this
  cases this
theorem m_part {g k x0 : Nat} {T : Int64} (kL : Int64 → Int32 → Int32 → Int32 → Int32 → (Nat → Int32) → (Nat → Int32) → Option (Int32 × Int32 × Int32 × Int32 × (Nat → Int32) × (Nat → Int32) × (Nat → Int32) × (Nat → Int64) × (Nat → Int32))) (hg : GI P C al n hr yg) (hV : VG P C) (hR : C ^ P ≤ 64) (hL : Rl P C (C ^ P) yr) (hG : laid P C (C ^ P) gcb gpb) (hLs : Ls st (C ^ P) rl) (hS : Hs S st (C ^ P)) (hgl : g < C ^ P) (hk : k ≤ 100) (hT : ∀ x, bt T x = true ↔ bt S x = true ∧ frk (mz P C g (rk st (C ^ P))) (cl st (C ^ P)) (mk P C g x) k) (h1 : bt T x0 = true) (h2 : ∀ i, i < x0 → bt T i = false) : ∀ d j, j ≤ x0 → x0 - j < d → ∃ Tm pn' pg' pq' pm' ps', Hs Tm (pt P C T g (mk P C g x0)) (C ^ P) ∧ pf_L_isTold_L373 (nI (cl st (C ^ P))) (nI P) (nI (C ^ P)) rl gcb gpb yg yr (nI g) sr yw yh kL T (nI k) pn pg pq pm ps d (nI j) = kL (T &&& (Tm ^^^ (-1))) (nI (k + 1)) pn' pg' pq' pm' ps' := by
  obtain ⟨x1, x2, x3, x4, x5, x6⟩ := m_low hV hS hT h1 h2
  intro d
  induction d with
  | zero => intro j _ h; omega
  | succ d ih =>
    intro j h3 h4
    rw [pf_L_isTold_L373.eq_2]
    have e4 := t_has T (r := j) (by omega)
    by_cases e : j = x0
    · subst e
      rw [h1] at e4
      have e4 : pf_L_has T (nI j) = some (nI 1) := e4
      have e5 := t_pins hg hV hR hL hgl x1
      have m8 := mk80 hV g j
      obtain ⟨Tm, y1, y2⟩ := t_part T hg hV hR hL hgl m8
      obtain ⟨pn1, pg1, pq1, pm1, ps1, e6⟩ := w_pmark_t pn pg pq pm ps hV hG hLs hgl x4 x5
      rw [x6, x3] at e6
      obtain ⟨pn2, pg2, pq2, pm2, ps2, e7⟩ := w_psize_t pn1 pg1 pq1 pm1 ps1 hV hG hLs hgl m8 (mk_allow hV g j)
      have e8 := t_many hR (Hs_SB y2)
      rw [Hs_cl y2] at e8
      have e9 : ct (mz P C g (rk st (C ^ P))) (cl st (C ^ P)) (mk P C g j) = cl (pt P C T g (mk P C g j)) (C ^ P) := by
        rw [← Hs_cl hS, ← Hs_rk hS, ct_cm]
        apply cl_same
        intro i hi
        unfold pt
        by_cases z : mk P C g i = mk P C g j
        · rw [decide_eq_true z, Bool.and_true, Bool.and_true]
          have hb := (hT j).mp h1
          cases z2 : bt S i
          · cases z3 : bt T i
            · rfl
            · rw [((hT i).mp z3).1] at z2
              cases z2
          · exact ((hT i).mpr ⟨z2, by rw [z]; exact hb.2⟩).symm
        · rw [decide_eq_false z, Bool.and_false, Bool.and_false]
      rw [e9] at e7
      refine ⟨Tm, pn2, pg2, pq2, pm2, ps2, y2, ?_⟩
      simp (disch := omega) only [g_lit, nI_add, pk_mul, pk_div, g_sdm, pk_sub, g_clamp, ile_t, ile_f, ilt_t, ilt_f, ieq_t, ieq_f, ieq_r, gi_t, gd_t, gz0, gz1, gl_x, ob0_some, ob1_some, ob2_some, ob3_some, ob4_some, ob5_some, ob6_some, ob7_some, ob8_some, ob9_some, ob10_some, ob11_some, ob12_some, ob13_some, e4, e5, y1, e6, e7, e8, pk_un, pk_us, if_true, if_false, nn10, nn20, nn30, nn21, nn31, nn32]
    · rw [h2 j (by omega)] at e4
      have e4 : pf_L_has T (nI j) = some (nI 0) := e4
      obtain ⟨Tm, pn2, pg2, pq2, pm2, ps2, y2, y1⟩ := ih (j + 1) (by omega) (by omega)
      refine ⟨Tm, pn2, pg2, pq2, pm2, ps2, y2, ?_⟩
      simp (disch := omega) only [g_lit, nI_add, pk_mul, pk_div, g_sdm, pk_sub, g_clamp, ile_t, ile_f, ilt_t, ilt_f, ieq_t, ieq_f, ieq_r, gi_t, gd_t, gz0, gz1, gl_x, ob0_some, ob1_some, ob2_some, ob3_some, ob4_some, ob5_some, ob6_some, ob7_some, ob8_some, ob9_some, ob10_some, ob11_some, ob12_some, ob13_some, e4, pk_un, pk_us, if_true, if_false, nn10, nn20, nn30, nn21, nn31, nn32]
      exact y1
theorem m_parts {row : Nat} (v1 : Int32) (hrow : row < C ^ P) (hS : Hs S (still P C n al eg em) (C ^ P)) (hB : BI P C n al eg em hr rl gcb gpb tg tm tl yg yq ym yr) : ∀ d k T pn pg pq pm ps, k ≤ pd (mz P C row (rk (still P C n al eg em) (C ^ P))) (cl (still P C n al eg em) (C ^ P)) → pd (mz P C row (rk (still P C n al eg em) (C ^ P))) (cl (still P C n al eg em) (C ^ P)) - k < d → SB T (C ^ P) → (∀ x, bt T x = true ↔ bt S x = true ∧ frk (mz P C row (rk (still P C n al eg em) (C ^ P))) (cl (still P C n al eg em) (C ^ P)) (mk P C row x) k) → TO (pf_L_isTold_L363 v1 (nI (cl (still P C n al eg em) (C ^ P))) (nI al) (nI P) (nI (C ^ P)) (nI n) rl gcb gpb tl yg yq ym yr S (nI (cl (still P C n al eg em) (C ^ P))) (nI row) sr yw yh d T (nI k) pn pg pq pm ps) := by
  have hB0 := hB
  obtain ⟨hV, hR, hE, ha, hid0, hLs, hG, hTE, hLB, hg, hq, hL⟩ := hB
  have hg0 := hg
  obtain ⟨g0, g1, g2, g3, g4, g5⟩ := hg
  have hR2 := R2 hV
  have hP1 := hV.1
  have hP := hV.2.1
  have hn := hE.1
  have hcl := cl_le (still P C n al eg em) (C ^ P)
  have hpd := pd_le (mz P C row (rk (still P C n al eg em) (C ^ P))) (cl (still P C n al eg em) (C ^ P))
  intro d
  induction d with
  | zero => intro k T pn pg pq pm ps _ h; omega
  | succ d ih =>
    intro k T pn pg pq pm ps hk hd hTB hT
    rw [pf_L_isTold_L363.eq_2]
    by_cases q : T = 0
    · rw [if_pos (lg_eq0 q)]
      have hkk : k = pd (mz P C row (rk (still P C n al eg em) (C ^ P))) (cl (still P C n al eg em) (C ^ P)) := by
        apply Classical.byContradiction
        intro hne
        obtain ⟨i, i1, i2, i3⟩ := pd_kth (mz P C row (rk (still P C n al eg em) (C ^ P))) (cl (still P C n al eg em) (C ^ P)) k (by omega)
        obtain ⟨r1, r2, r3⟩ := rk_kth (still P C n al eg em) (C ^ P) i i1
        have : bt T (rk (still P C n al eg em) (C ^ P) i) = true := by
          refine (hT _).mpr ⟨by rw [Hs_at hS r1]; exact r2, ?_⟩
          intro j hj hc hm
          have e2 : mk P C row (rk (still P C n al eg em) (C ^ P) i) = (mz P C row (rk (still P C n al eg em) (C ^ P))) i := rfl
          rw [e2] at hc hm
          have : j = i := by
            rcases Nat.lt_trichotomy j i with z | z | z
            · have := ct_yes i j z hm
              omega
            · exact z
            · have := ct_yes (ms := (mz P C row (rk (still P C n al eg em) (C ^ P)))) (m := (mz P C row (rk (still P C n al eg em) (C ^ P))) i) j i z rfl
              omega
          rw [this, i3]
          exact Nat.le_refl k
        rw [q, bt_0] at this
        cases this
      obtain ⟨w, hw, ew⟩ := low_ok (v1 >>> (nI 16 &&& nI 31)) (m := 3) (by omega) (by omega)
      obtain ⟨pn1, pg1, pq1, pm1, ps1, e1⟩ := c_parts pn pg pq pm ps hV hG hLs hrow
      obtain ⟨pn2, pg2, pq2, pm2, ps2, e2⟩ := w_pmark_f pn1 pg1 pq1 pm1 ps1 hV hG hLs hrow (nr_R (R := pd (mz P C row (rk (still P C n al eg em) (C ^ P))) (cl (still P C n al eg em) (C ^ P))) (by omega))
      obtain ⟨pn3, pg3, pq3, pm3, ps3, e3⟩ := w_pmark_f pn2 pg2 pq2 pm2 ps2 hV hG hLs hrow (nr_m1 _)
      obtain ⟨pn4, pg4, pq4, pm4, ps4, e4⟩ := c_worst pn3 pg3 pq3 pm3 ps3 hV hG hLs hrow
      obtain ⟨pn5, pg5, pq5, pm5, ps5, e5⟩ := c_weight pn4 pg4 pq4 pm4 ps4 hV hG hLs hrow
      have eC := Hs_cl hS
      have eR := Hs_rk hS
      have e6 := t_worth (g := row) (w := 0) hg0 hV hR hL (Hs_SB hS) hrow (by omega)
      have e7 := t_worth (g := row) (w := 1) hg0 hV hR hL (Hs_SB hS) hrow (by omega)
      rw [eC, eR] at e6 e7
      have e6 : pf_L_worth yg yr S (nI row) (nI 0) = some (nI (pgr (mz P C row (rk (still P C n al eg em) (C ^ P))) (cl (still P C n al eg em) (C ^ P)))) := e6.trans (congrArg some (nI_iI _).symm)
      have e7 : pf_L_worth yg yr S (nI row) (nI 1) = some (nI (pz (mz P C row (rk (still P C n al eg em) (C ^ P))) (cl (still P C n al eg em) (C ^ P)))) := e7.trans (congrArg some (nI_iI _).symm)
      rw [hkk]
      by_cases q0 : (cl (still P C n al eg em) (C ^ P)) = 0
      · have hS0 : S = 0 := (set_none (Hs_SB hS)).mpr (by rw [eC]; exact q0)
        have e8 := w_best_0 (rl := rl) (gcb := gcb) (gpb := gpb) pn5 pg5 pq5 pm5 ps5 (show w ≤ 2 by omega) q0
        have hx := m_need (pn := pn5) (pg := pg5) (pq := pq5) (sr := sr) (pm := pm5) (ps := ps5) (yw := yw) (yh := yh) (-nI 73) hrow hS hB0
        refine TO_of (oe1 ew) ?_
        refine TO_of (oe7 e1) ?_
        refine TO_of (if_pos rfl) ?_
        refine TO_of (if_pos rfl) ?_
        refine TO_of (oe6 e2) ?_
        refine TO_of (if_pos (by decide : -nI 71 = -71)) ?_
        refine TO_of (oe6 e3) ?_
        refine TO_of (if_pos (by decide : -nI 71 = -71)) ?_
        refine TO_of (oe7 e4) ?_
        refine TO_of (if_pos rfl) ?_
        refine TO_of (oe1 e6) ?_
        refine TO_of (if_pos rfl) ?_
        refine TO_of (oe7 e5) ?_
        refine TO_of (if_pos rfl) ?_
        refine TO_of (oe1 e7) ?_
        refine TO_of (if_pos rfl) ?_
        refine TO_of (oe6 e8) ?_
        refine TO_of (if_pos (lg_eq0 hS0)) ?_
        exact hx
      · have hS0 : S ≠ 0 := fun z => q0 (by rw [← eC]; exact (set_none (Hs_SB hS)).mp z)
        obtain ⟨pn6, pg6, pq6, pm6, ps6, e8⟩ := w_best_t pn5 pg5 pq5 pm5 ps5 hV hG hLs (show w ≤ 2 by omega) q0
        have e9 := t_best (S := S) (w := w) hg0 hV hR hL (Hs_SB hS) (by omega)
        rw [eC, eR] at e9
        have hx := m_need (pn := pn6) (pg := pg6) (pq := pq6) (sr := sr) (pm := pm6) (ps := ps6) (yw := yw) (yh := yh) (nI (bs (ky P C w (cl (still P C n al eg em) (C ^ P)) (rk (still P C n al eg em) (C ^ P))) (C ^ P))) hrow hS hB0
        refine TO_of (oe1 ew) ?_
        refine TO_of (oe7 e1) ?_
        refine TO_of (if_pos rfl) ?_
        refine TO_of (if_pos rfl) ?_
        refine TO_of (oe6 e2) ?_
        refine TO_of (if_pos (by decide : -nI 71 = -71)) ?_
        refine TO_of (oe6 e3) ?_
        refine TO_of (if_pos (by decide : -nI 71 = -71)) ?_
        refine TO_of (oe7 e4) ?_
        refine TO_of (if_pos rfl) ?_
        refine TO_of (oe1 e6) ?_
        refine TO_of (if_pos rfl) ?_
        refine TO_of (oe7 e5) ?_
        refine TO_of (if_pos rfl) ?_
        refine TO_of (oe1 e7) ?_
        refine TO_of (if_pos rfl) ?_
        refine TO_of (oe6 e8) ?_
        refine TO_of (if_neg (lg_ne0 hS0)) ?_
        refine TO_of (oe1 e9) ?_
        exact hx
    · rw [if_neg (lg_ne0 q)]
      obtain ⟨x0, _, h5, h6⟩ := low_bit q
      obtain ⟨x1, x2, x3, x4, x5, x6⟩ := m_low hV hS hT h5 h6
      obtain ⟨Tm, pn1, pg1, pq1, pm1, ps1, y1, y2⟩ := m_part (pn := pn) (pg := pg) (pq := pq) (pm := pm) (ps := ps) (sr := sr) (yw := yw) (yh := yh) (fun v14 v16 pn pg pq pm ps => pf_L_isTold_L363 v1 (nI (cl (still P C n al eg em) (C ^ P))) (nI al) (nI P) (nI (C ^ P)) (nI n) rl gcb gpb tl yg yq ym yr S (nI (cl (still P C n al eg em) (C ^ P))) (nI row) sr yw yh d v14 v16 pn pg pq pm ps) hg0 hV hR hL hG hLs hS hrow (by omega) hT h5 h6 100000 0 (Nat.zero_le _) (by omega)
      obtain ⟨z1, z2, z3, z4⟩ := cm_off y1 hTB
      have hlt := pd_lt x4 x5
      have hx := ih (k + 1) (T &&& (Tm ^^^ (-1))) pn1 pg1 pq1 pm1 ps1 (by omega) (by omega) z1 (by
        intro x
        rw [z2, Bool.and_eq_true, decide_eq_true_eq]
        constructor
        · rintro ⟨w1, w2⟩
          obtain ⟨w3, w4⟩ := (hT x).mp w1
          exact ⟨w3, frk_new x5 x6 ⟨w4, by rw [x3]; exact w2⟩⟩
        · rintro ⟨w1, w2⟩
          refine ⟨(hT x).mpr ⟨w1, fun i hi hc hm => by have := w2 i hi hc hm; omega⟩, ?_⟩
          intro w3
          rw [w3] at w2
          have := w2 (cl (still P C n al eg em) x0) x4 (by rw [← x3]; exact x5) x3
          omega)
      rw [show (pf_L_isTold_L373 (nI (cl (still P C n al eg em) (C ^ P))) (nI P) (nI (C ^ P)) rl gcb gpb yg yr (nI row) sr yw yh (fun v14 v16 pn pg pq pm ps => pf_L_isTold_L363 v1 (nI (cl (still P C n al eg em) (C ^ P))) (nI al) (nI P) (nI (C ^ P)) (nI n) rl gcb gpb tl yg yq ym yr S (nI (cl (still P C n al eg em) (C ^ P))) (nI row) sr yw yh d v14 v16 pn pg pq pm ps) T (nI k) pn pg pq pm ps 100000 0) = _ from y2]
      exact hx
theorem m_ents (v1 : Int32) (hS : Hs S (still P C n al eg em) (C ^ P)) (hB : BI P C n al eg em hr rl gcb gpb tg tm tl yg yq ym yr) : ∀ d j, j ≤ n → n - j < d → TO (pf_L_isTold_L115 v1 (nI (cl (still P C n al eg em) (C ^ P))) (nI al) (nI P) (nI (C ^ P)) (nI n) rl gcb gpb tg tm tl yg yq ym yr S (nI (cl (still P C n al eg em) (C ^ P))) pn pg pq sr pm ps yw yh d (nI j)) := by
  have hB0 := hB
  obtain ⟨hV, hR, hE, ha, hid0, hLs, hG, hTE, hLB, hg, hq, hL⟩ := hB
  have hg0 := hg
  obtain ⟨g0, g1, g2, g3, g4, g5⟩ := hg
  have hR2 := R2 hV
  have hP1 := hV.1
  have hP := hV.2.1
  have hn := hE.1
  have hcl := cl_le (still P C n al eg em) (C ^ P)
  intro d
  induction d with
  | zero => intro j _ h; omega
  | succ d ih =>
    intro j h1 h2
    rw [pf_L_isTold_L115.eq_2]
    by_cases e : j = n
    · subst e
      obtain ⟨row, hrow, er⟩ := low_ok v1 (m := C ^ P) (by omega) (by omega)
      obtain ⟨oth, hoth, eo⟩ := low_ok (v1 >>> (nI 7 &&& nI 31)) (m := C ^ P) (by omega) (by omega)
      obtain ⟨q, hqp, ep⟩ := low_ok (v1 >>> (nI 13 &&& nI 31)) (m := P) (by omega) (by omega)
      have b1 := w_markOf_f (tm := tm) hn (nr_R (R := j) (by omega))
      have b2 := w_leftAt_f (st := (still P C j al eg em)) (rl := rl) hV (nr_R (R := (cl (still P C j al eg em) (C ^ P))) (by omega))
      have b3 := w_leftAt_f (st := (still P C j al eg em)) (rl := rl) hV (nr_m1 (cl (still P C j al eg em) (C ^ P)))
      have b4 := q_lball hV hG hE ha hTE
      have b5 := w_col_t hV hG hrow hqp
      have b6 := t_digit hg0 hV (r := row) (q := q) (by omega) hqp
      have b7 := w_col_f1 (gcb := gcb) (w := nI 0) hV (nr_R (R := C ^ P) (by omega))
      have b8 := w_col_f2 (gcb := gcb) (r := 0) (p := P) hV (by omega) (Nat.le_refl P) (by omega)
      have b9 := w_mark_t hV hG hrow hoth
      have b10 := t_pins hg0 hV hR hL hrow hoth
      have b11 := w_mark_f2 (gcb := gcb) (gpb := gpb) hV hrow (nr_R (R := C ^ P) (by omega))
      have b12 := w_mark_f1 (gcb := gcb) (gpb := gpb) (w := nI row) hV (nr_m1 (C ^ P))
      have hpd := pd_le (mz P C row (rk (still P C j al eg em) (C ^ P))) (cl (still P C j al eg em) (C ^ P))
      have hx := m_parts (sr := sr) (yw := yw) (yh := yh) v1 hrow hS hB0 70 0 S pn pg pq pm ps (Nat.zero_le _) (by omega) (Hs_SB hS) (fun x => ⟨fun h => ⟨h, fun _ _ _ _ => Nat.zero_le _⟩, fun h => h.1⟩)
      rw [k0, k2, k5, g0, g2, g5]
      refine TO_of (gi_t (i := 5) (by omega) (by omega)) ?_
      refine TO_of (if_pos (nI_le (Nat.le_refl _) (by omega))) ?_
      refine TO_of (gi_t (i := 2) (by omega) (by omega)) ?_
      refine TO_of (oe1 er) ?_
      refine TO_of (gi_t (i := 2) (by omega) (by omega)) ?_
      refine TO_of (oe1 eo) ?_
      refine TO_of (gi_t (i := 0) (by omega) (by omega)) ?_
      refine TO_of (oe1 ep) ?_
      refine TO_of (oe1 (rfl : pf_X3_rows (nI (C ^ P)) = some (nI (C ^ P)))) ?_
      refine TO_of (gi_t (i := 2) (by omega) (by omega)) ?_
      refine TO_of (if_pos rfl) ?_
      refine TO_of (oe1 (rfl : pf_X3_entries (nI j) = some (nI j))) ?_
      refine TO_of (gi_t (i := 5) (by omega) (by omega)) ?_
      refine TO_of (if_pos rfl) ?_
      refine TO_of (gi_t (i := 5) (by omega) (by omega)) ?_
      refine TO_of (oe1 b1) ?_
      refine TO_of (if_pos (by decide : -nI 71 = -71)) ?_
      refine TO_of (oe1 b2) ?_
      refine TO_of (if_pos (by decide : -nI 71 = -71)) ?_
      refine TO_of (oe1 b3) ?_
      refine TO_of (if_pos (by decide : -nI 71 = -71)) ?_
      refine TO_of (oe1 rfl) ?_
      refine TO_of (if_pos rfl) ?_
      refine TO_of (oe1 b4) ?_
      refine TO_of (if_pos rfl) ?_
      refine TO_of (oe1 b5) ?_
      refine TO_of (oe1 b6) ?_
      refine TO_of (if_pos rfl) ?_
      refine TO_of (gi_t (i := 2) (by omega) (by omega)) ?_
      refine TO_of (oe1 b7) ?_
      refine TO_of (if_pos (by decide : -nI 71 = -71)) ?_
      refine TO_of (gi_t (i := 0) (by omega) (by omega)) ?_
      refine TO_of (oe1 b8) ?_
      refine TO_of (if_pos (by decide : -nI 71 = -71)) ?_
      refine TO_of (oe1 b9) ?_
      refine TO_of (oe1 b10) ?_
      refine TO_of (if_pos rfl) ?_
      refine TO_of (gi_t (i := 2) (by omega) (by omega)) ?_
      refine TO_of (oe1 b11) ?_
      refine TO_of (if_pos (by decide : -nI 71 = -71)) ?_
      refine TO_of (oe1 b12) ?_
      refine TO_of (if_pos (by decide : -nI 71 = -71)) ?_
      exact hx
    · have b1 := c_guessOf (tg := tg) hn (show j < n by omega)
      have b2 := w_markOf_t (tm := tm) hn (show j < n by omega)
      obtain ⟨t1, t2⟩ := hTE j (by omega)
      obtain ⟨q1, q2⟩ := hq j (by omega)
      have hx := ih (j + 1) (by omega) (by omega)
      rw [k5, g5]
      refine TO_of (gi_t (i := 5) (by omega) (by omega)) ?_
      refine TO_of (if_neg (nI_ge (by omega) (by omega))) ?_
      refine TO_of (oe2 b1) ?_
      refine TO_of (if_pos rfl) ?_
      refine TO_of (gi_t (by omega) (by omega)) ?_
      refine TO_of (if_pos (by rw [g_clamp (by omega), t1, q1])) ?_
      refine TO_of (oe1 b2) ?_
      refine TO_of (gi_t (by omega) (by omega)) ?_
      refine TO_of (if_pos (by rw [g_clamp (by omega), t2, q2])) ?_
      rw [show nI j + 1 = nI (j + 1) from nI_add j 1]
      exact hx
theorem m_rows (v1 : Int32) (hS : Hs S (still P C n al eg em) (C ^ P)) (hB : BI P C n al eg em hr rl gcb gpb tg tm tl yg yq ym yr) : ∀ d j, j ≤ C ^ P → C ^ P - j < d → TO (pf_L_isTold_L17 v1 (nI (cl (still P C n al eg em) (C ^ P))) (nI al) (nI P) (nI (C ^ P)) (nI n) rl gcb gpb tg tm tl yg yq ym yr S pn pg pq sr pm ps yw yh d (nI (cl (still P C n al eg em) j)) (nI j)) := by
  have hB0 := hB
  obtain ⟨hV, hR, hE, ha, hid0, hLs, hG, hTE, hLB, hg, hq, hL⟩ := hB
  have hg0 := hg
  obtain ⟨g0, g1, g2, g3, g4, g5⟩ := hg
  have hR2 := R2 hV
  have hP1 := hV.1
  have hP := hV.2.1
  have hn := hE.1
  have hcl := cl_le (still P C n al eg em) (C ^ P)
  intro d
  induction d with
  | zero => intro j _ h; omega
  | succ d ih =>
    intro j h1 h2
    rw [pf_L_isTold_L17.eq_2]
    by_cases e : j = C ^ P
    · have hx := m_ents (pn := pn) (pg := pg) (pq := pq) (sr := sr) (pm := pm) (ps := ps) (yw := yw) (yh := yh) v1 hS hB0 70 0 (Nat.zero_le _) (by omega)
      rw [e]
      simp (disch := omega) only [g_lit, nI_add, pk_mul, pk_div, g_sdm, pk_sub, g_clamp, ile_t, ile_f, ilt_t, ilt_f, ieq_t, ieq_f, ieq_r, gi_t, gd_t, gz0, gz1, gl_x, ob0_some, ob1_some, ob2_some, ob3_some, ob4_some, ob5_some, ob6_some, ob7_some, ob8_some, ob9_some, ob10_some, ob11_some, ob12_some, ob13_some, g2, pk_un, pk_us, if_true, if_false, nn10, nn20, nn30, nn21, nn31, nn32]
      exact hx
    · have hj : j < C ^ P := by omega
      have e4 := t_has S (r := j) (by omega)
      have hst := Hs_at hS hj
      have b1 := c_isLeft hV hn ha hj hLB
      have b2 := c_lies hV hn hj hLB
      have b3 := t_lies hg0 hV hR hL hE hq hj
      have hnl := nl_le P C eg em n j
      have hx := ih (j + 1) (by omega) (by omega)
      have hclj := cl_le (still P C n al eg em) j
      have es : cl (still P C n al eg em) (j + 1) = cl (still P C n al eg em) j + (if (still P C n al eg em) j = true then 1 else 0) := rfl
      by_cases q : nl P C eg em n j ≤ al
      · have q2 : (still P C n al eg em) j = true := decide_eq_true q
        rw [hst, q2] at e4
        have e4 : pf_L_has S (nI j) = some (nI 1) := e4
        rw [if_pos q] at b1
        rw [q2, if_pos rfl] at es
        rw [es] at hx
        have b4 := w_leftAt_t hV hLs hj q2
        simp (disch := omega) only [g_lit, nI_add, pk_mul, pk_div, g_sdm, pk_sub, g_clamp, ile_t, ile_f, ilt_t, ilt_f, ieq_t, ieq_f, ieq_r, gi_t, gd_t, gz0, gz1, gl_x, ob0_some, ob1_some, ob2_some, ob3_some, ob4_some, ob5_some, ob6_some, ob7_some, ob8_some, ob9_some, ob10_some, ob11_some, ob12_some, ob13_some, g2, e4, b1, b2, b3, b4, pf_L_isTold_j86, pf_L_isTold_j103, pk_un, pk_us, if_true, if_false, nn10, nn20, nn30, nn21, nn31, nn32]
        exact hx
      · have q2 : (still P C n al eg em) j = false := decide_eq_false q
        rw [hst, q2] at e4
        have e4 : pf_L_has S (nI j) = some (nI 0) := e4
        rw [if_neg q] at b1
        rw [q2, if_neg (by decide)] at es
        rw [es] at hx
        simp (disch := omega) only [g_lit, nI_add, pk_mul, pk_div, g_sdm, pk_sub, g_clamp, ile_t, ile_f, ilt_t, ilt_f, ieq_t, ieq_f, ieq_r, gi_t, gd_t, gz0, gz1, gl_x, ob0_some, ob1_some, ob2_some, ob3_some, ob4_some, ob5_some, ob6_some, ob7_some, ob8_some, ob9_some, ob10_some, ob11_some, ob12_some, ob13_some, g2, e4, b1, b2, b3, pf_L_isTold_j86, pf_L_isTold_j103, pk_un, pk_us, if_true, if_false, nn10, nn20, nn30, nn21, nn31, nn32]
        exact hx
theorem m_all (v1 : Int32) (hB : BI P C n al eg em hr rl gcb gpb tg tm tl yg yq ym yr) : TO (pf_L_isTold (nI (cl (still P C n al eg em) (C ^ P))) (nI al) (nI P) (nI (C ^ P)) (nI n) pn pg pq rl sr gcb gpb tg tm tl pm ps yg yq ym yw yh yr v1) := by
  have hB0 := hB
  obtain ⟨hV, hR, hE, ha, hid0, hLs, hG, hTE, hLB, hg, hq, hL⟩ := hB
  have hg0 := hg
  obtain ⟨g0, g1, g2, g3, g4, g5⟩ := hg
  have hR2 := R2 hV
  have hP1 := hV.1
  have hP := hV.2.1
  have hn := hE.1
  have hcl := cl_le (still P C n al eg em) (C ^ P)
  obtain ⟨S, eS, hS⟩ := t_left hg0 hV hR hL hE ha hq
  have hx := m_rows (pn := pn) (pg := pg) (pq := pq) (sr := sr) (pm := pm) (ps := ps) (yw := yw) (yh := yh) v1 hS hB0 70 0 (Nat.zero_le _) (by omega)
  unfold pf_L_isTold
  rw [eS, ob1_some]
  exact hx
end

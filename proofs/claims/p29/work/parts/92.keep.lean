/-! what the law keeps beside the class: the calls that keep something -/
def BI (P C n al : Nat) (eg em : Nat → Nat) (hr : Int32) (rl gcb : Nat → Int32) (gpb : Nat → Int64) (tg tm tl yg yq ym : Nat → Int32) (yr : Nat → Int64) : Prop := VG P C ∧ C ^ P ≤ 64 ∧ ES P C n eg em ∧ al ≤ 3 ∧ (hr = -nI 1 ∨ ∃ r, r < C ^ P ∧ nl P C eg em n r ≤ al ∧ hr = nI r) ∧ Ls (still P C n al eg em) (C ^ P) rl ∧ laid P C (C ^ P) gcb gpb ∧ ME n eg em tg tm ∧ LB P C n eg em tl ∧ GI P C al n hr yg ∧ ME n eg em yq ym ∧ Rl P C (C ^ P) yr
def LI (lc : Int32) (la : Int32) (hr : Int32) (uP : Int32) (uC : Int32) (uR : Int32) (tn : Int32) (rl : Nat → Int32) (gcb : Nat → Int32) (gpb : Nat → Int64) (tg : Nat → Int32) (tm : Nat → Int32) (tl : Nat → Int32) (yg : Nat → Int32) (yq : Nat → Int32) (ym : Nat → Int32) (yr : Nat → Int64) : Prop := ∃ P C n al eg em, BI P C n al eg em hr rl gcb gpb tg tm tl yg yq ym yr ∧ lc = nI (cl (still P C n al eg em) (C ^ P)) ∧ la = nI al ∧ uP = nI P ∧ uC = nI C ∧ uR = nI (C ^ P) ∧ tn = nI n
def KO (x : Option (Int32 × Int32 × Int32 × Int32 × Int32 × Int32 × Int32 × Int32 × Int32 × Int32 × Int32 × (Nat → Int32) × (Nat → Int32) × (Nat → Int64) × (Nat → Int32) × (Nat → Int32) × (Nat → Int32) × (Nat → Int32) × (Nat → Int32) × (Nat → Int32) × (Nat → Int32) × (Nat → Int32) × (Nat → Int64))) : Prop := ∃ lc la hr uP uC uR tn pn pg pq rl gcb gpb tg tm tl pm ps yg yq ym yr, x = some (nI 1, lc, la, hr, uP, uC, uR, tn, pn, pg, pq, rl, gcb, gpb, tg, tm, tl, pm, ps, yg, yq, ym, yr) ∧ LI lc la hr uP uC uR tn rl gcb gpb tg tm tl yg yq ym yr
theorem KO_i {lc : Int32} {la : Int32} {hr : Int32} {uP : Int32} {uC : Int32} {uR : Int32} {tn : Int32} {pn : Int32} {pg : Int32} {pq : Int32} {rl : Nat → Int32} {gcb : Nat → Int32} {gpb : Nat → Int64} {tg : Nat → Int32} {tm : Nat → Int32} {tl : Nat → Int32} {pm : Nat → Int32} {ps : Nat → Int32} {yg : Nat → Int32} {yq : Nat → Int32} {ym : Nat → Int32} {yr : Nat → Int64} (h : LI lc la hr uP uC uR tn rl gcb gpb tg tm tl yg yq ym yr) : KO (some (nI 1, lc, la, hr, uP, uC, uR, tn, pn, pg, pq, rl, gcb, gpb, tg, tm, tl, pm, ps, yg, yq, ym, yr)) := ⟨_, _, _, _, _, _, _, _, _, _, _, _, _, _, _, _, _, _, _, _, _, _, rfl, h⟩
theorem KO_of {x y : Option (Int32 × Int32 × Int32 × Int32 × Int32 × Int32 × Int32 × Int32 × Int32 × Int32 × Int32 × (Nat → Int32) × (Nat → Int32) × (Nat → Int64) × (Nat → Int32) × (Nat → Int32) × (Nat → Int32) × (Nat → Int32) × (Nat → Int32) × (Nat → Int32) × (Nat → Int32) × (Nat → Int32) × (Nat → Int64))} (h : x = y) (k : KO y) : KO x := by
  rw [h]
  exact k
theorem oe12 {α T0 T1 T2 T3 T4 T5 T6 T7 T8 T9 T10 T11 : Type} {x : Option (T0 × T1 × T2 × T3 × T4 × T5 × T6 × T7 × T8 × T9 × T10 × T11)} {a0 : T0} {a1 : T1} {a2 : T2} {a3 : T3} {a4 : T4} {a5 : T5} {a6 : T6} {a7 : T7} {a8 : T8} {a9 : T9} {a10 : T10} {a11 : T11} {k : T0 → T1 → T2 → T3 → T4 → T5 → T6 → T7 → T8 → T9 → T10 → T11 → Option α} (h : x = some (a0, a1, a2, a3, a4, a5, a6, a7, a8, a9, a10, a11)) : ob12 x k = k a0 a1 a2 a3 a4 a5 a6 a7 a8 a9 a10 a11 := by
  rw [h]
  rfl
theorem oe1 {α T0 : Type} {x : Option T0} {a : T0} {k : T0 → Option α} (h : x = some a) : ob1 x k = k a := by
  rw [h]
  rfl
theorem LI_i {P C n al : Nat} {eg em : Nat → Nat} {hr : Int32} {rl gcb tg tm tl yg yq ym : Nat → Int32} {gpb yr : Nat → Int64} (h : BI P C n al eg em hr rl gcb gpb tg tm tl yg yq ym yr) : LI (nI (cl (still P C n al eg em) (C ^ P))) (nI al) hr (nI P) (nI C) (nI (C ^ P)) (nI n) rl gcb gpb tg tm tl yg yq ym yr := ⟨P, C, n, al, eg, em, h, rfl, rfl, rfl, rfl, rfl, rfl⟩
theorem nI_bv (v : Int32) : ∃ t, t < 2 ^ 32 ∧ v = nI t := by
  refine ⟨v.toBitVec.toNat, v.toBitVec.isLt, Int32.toBitVec_inj.1 ?_⟩
  show v.toBitVec = BitVec.ofNat 32 v.toBitVec.toNat
  rw [BitVec.ofNat_toNat, BitVec.setWidth_eq]
theorem low_ok (v : Int32) {m : Nat} (h0 : 0 < m) (hm : m < 2147483648) : ∃ k, k < m ∧ pf_L_low v (nI m) = some (nI k) := by
  obtain ⟨t, ht, rfl⟩ := nI_bv v
  have e : g_ush (nI t) 1 = nI (t / 2) := by
    have := pk_ushrN ht (nI 1) 1 (by decide)
    rw [Nat.pow_one] at this
    exact this
  refine ⟨t / 2 % m, Nat.mod_lt _ h0, ?_⟩
  unfold pf_L_low
  rw [e]
  have ht2 : t / 2 < 2147483648 := by omega
  simp (disch := omega) only [g_lit, nI_add, pk_mul, pk_div, g_sdm, pk_sub, g_clamp, ile_t, ile_f, ilt_t, ilt_f, ieq_t, ieq_f, ieq_r, gi_t, gd_t, gz0, gz1, gl_x, ob0_some, ob1_some, ob2_some, ob3_some, ob4_some, ob5_some, ob6_some, ob7_some, ob8_some, ob9_some, ob10_some, ob11_some, ob12_some, ob13_some]
theorem nr_m1 (R : Nat) : NR R (-nI 1) := Or.inl (by decide)
theorem nr_R {R : Nat} (h : R < 2147483648) : NR R (nI R) := Or.inr ⟨R, Nat.le_refl R, h, rfl⟩
theorem m1_lt : (-nI 1 < nI 0) = True := eq_true (by decide)
theorem GI_n {P C al n k : Nat} {hr : Int32} {yg : Nat → Int32} (h : GI P C al n hr yg) : GI P C al k hr (upd yg 5 (nI k)) := by
  obtain ⟨g0, g1, g2, g3, g4, g5⟩ := h
  exact ⟨(pk_un (by omega)).trans g0, (pk_un (by omega)).trans g1, (pk_un (by omega)).trans g2, (pk_un (by omega)).trans g3, (pk_un (by omega)).trans g4, pk_us⟩
theorem GI_al {P C al n k : Nat} {hr : Int32} {yg : Nat → Int32} (h : GI P C al n hr yg) : GI P C k n hr (upd yg 3 (nI k)) := by
  obtain ⟨g0, g1, g2, g3, g4, g5⟩ := h
  exact ⟨(pk_un (by omega)).trans g0, (pk_un (by omega)).trans g1, (pk_un (by omega)).trans g2, pk_us, (pk_un (by omega)).trans g4, (pk_un (by omega)).trans g5⟩
theorem GI_h {P C al n : Nat} {hr h2 : Int32} {yg : Nat → Int32} (h : GI P C al n hr yg) : GI P C al n h2 (upd yg 4 h2) := by
  obtain ⟨g0, g1, g2, g3, g4, g5⟩ := h
  exact ⟨(pk_un (by omega)).trans g0, (pk_un (by omega)).trans g1, (pk_un (by omega)).trans g2, (pk_un (by omega)).trans g3, pk_us, (pk_un (by omega)).trans g5⟩
theorem ng_of {a b : Nat} (ha : a < 100) (hb : b < 100) (h : ¬ VG a b) : NG (nI a) (nI b) := by
  intro P C e1 e2 hV
  have hP := hV.2.1
  have hC := hV.2.2.2.1
  have h1 := (nI_eq (by omega) (by omega)).mp e1
  have h2 := (nI_eq (by omega) (by omega)).mp e2
  subst h1
  subst h2
  exact h hV
section
variable {P C n al : Nat} {eg em : Nat → Nat} {hr pn pg pq : Int32} {rl gcb tg tm tl pm ps yg yq ym : Nat → Int32} {gpb yr : Nat → Int64}
theorem k_begin_f (v2 : Int32) (h6 : ¬ (v2 &&& nI 6) ≤ nI 0) (hB : BI P C n al eg em hr rl gcb gpb tg tm tl yg yq ym yr) : KO (pf_L_keeps (nI (cl (still P C n al eg em) (C ^ P))) (nI al) hr (nI P) (nI C) (nI (C ^ P)) (nI n) pn pg pq rl gcb gpb tg tm tl pm ps yg yq ym yr (nI 0) v2) := by
  have hB0 := hB
  obtain ⟨hV, hR, hE, ha, hh, hLs, hG, hTE, hLB, hg, hq, hL⟩ := hB
  have hg0 := hg
  obtain ⟨g0, g1, g2, g3, g4, g5⟩ := hg
  have hR2 := R2 hV
  have hP1 := hV.1
  have hP := hV.2.1
  have hn := hE.1
  have hcl := cl_le (still P C n al eg em) (C ^ P)
  obtain ⟨row, hrow, er⟩ := low_ok v2 (m := C ^ P) (by omega) (by omega)
  obtain ⟨S, eS, hS⟩ := t_left hg0 hV hR hL hE ha hq
  have b0 := fun lc la hr tn rl gcb gpb tl => w_begin_f lc la hr (nI P) (nI C) (nI (C ^ P)) tn rl gcb gpb tl (ng_of (a := 9) (b := 2) (by omega) (by omega) (by unfold VG; decide))
  have b1 := fun lc la hr tn rl gcb gpb tl => w_begin_f lc la hr (nI P) (nI C) (nI (C ^ P)) tn rl gcb gpb tl (ng_of (a := 3) (b := 7) (by omega) (by omega) (by unfold VG; decide))
  have b2 := fun lc la hr tn rl gcb gpb tl => w_begin_f lc la hr (nI P) (nI C) (nI (C ^ P)) tn rl gcb gpb tl (ng_of (a := 8) (b := 3) (by omega) (by omega) (by unfold VG; decide))
  have b3 := fun lc la hr tn rl gcb gpb tl => w_begin_f lc la hr (nI P) (nI C) (nI (C ^ P)) tn rl gcb gpb tl (ng_of (a := 5) (b := 4) (by omega) (by omega) (by unfold VG; decide))
  have b4 := fun lc la hr tn rl gcb gpb tl => w_begin_f lc la hr (nI P) (nI C) (nI (C ^ P)) tn rl gcb gpb tl (ng_of (a := 0) (b := 2) (by omega) (by omega) (by unfold VG; decide))
  have er2 : pf_L_low v2 (yg (2 : Int32).toNatClampNeg) = some (nI row) := by
    rw [k2, g2]
    exact er
  unfold pf_L_keeps
  refine KO_of (gi_t (i := 2) (by omega) (by omega)) ?_
  refine KO_of (oe1 er2) ?_
  refine KO_of (oe1 eS) ?_
  refine KO_of (if_pos (rfl : nI 0 = 0)) ?_
  refine KO_of (if_neg (show ¬ (v2 &&& 6) ≤ 0 from h6)) ?_
  refine KO_of (oe12 (b0 _ _ _ _ _ _ _ _)) ?_
  refine KO_of (if_pos (by decide : -nI 72 = -72)) ?_
  refine KO_of (oe12 (b1 _ _ _ _ _ _ _ _)) ?_
  refine KO_of (if_pos (by decide : -nI 72 = -72)) ?_
  refine KO_of (oe12 (b2 _ _ _ _ _ _ _ _)) ?_
  refine KO_of (if_pos (by decide : -nI 72 = -72)) ?_
  refine KO_of (oe12 (b3 _ _ _ _ _ _ _ _)) ?_
  refine KO_of (if_pos (by decide : -nI 72 = -72)) ?_
  refine KO_of (oe12 (b4 _ _ _ _ _ _ _ _)) ?_
  refine KO_of (if_pos (by decide : -nI 72 = -72)) ?_
  simp (disch := omega) only [g_lit, nI_add, pk_mul, pk_div, g_sdm, pk_sub, g_clamp, ile_t, ile_f, ilt_t, ilt_f, ieq_t, ieq_f, ieq_r, gi_t, gd_t, gz0, gz1, gl_x, ob0_some, ob1_some, ob2_some, ob3_some, ob4_some, ob5_some, ob6_some, ob7_some, ob8_some, ob9_some, ob10_some, ob11_some, ob12_some, ob13_some, pf_L_keeps_j105, pf_X3_rows, g2, pk_un, pk_us, if_true, if_false, nn10, nn20, nn30, nn21, nn31, nn32]
  exact KO_i (LI_i hB0)
theorem k_games (w : Nat) (hw : w < 9) : ∃ P' C', VG P' C' ∧ C' ^ P' ≤ 64 ∧ P' = (if w < 3 then 3 else if w < 5 then 2 else if w < 8 then w - 1 else 1) ∧ C' = (if w < 3 then 2 + w else if w < 5 then 2 * w - 2 else if w < 8 then 2 else 6) := by
  have hc : w = 0 ∨ w = 1 ∨ w = 2 ∨ w = 3 ∨ w = 4 ∨ w = 5 ∨ w = 6 ∨ w = 7 ∨ w = 8 := by omega
  rcases hc with rfl | rfl | rfl | rfl | rfl | rfl | rfl | rfl | rfl <;> exact ⟨_, _, by unfold VG; decide, by decide, rfl, rfl⟩
theorem k_begin_L {P' C' : Nat} (hV' : VG P' C') (hR' : C' ^ P' ≤ 64) (hB : BI P C n al eg em hr rl gcb gpb tg tm tl yg yq ym yr) : ∀ d j yf, j ≤ P' → P' - j < d → yf 0 = nI P' → yf 1 = nI C' → yf 2 = nI (C' ^ j) → KO (pf_L_keeps_L205 (nI (cl (still P C n al eg em) (C ^ P))) (nI al) hr (nI P) (nI C) (nI (C ^ P)) (nI n) pn pg pq rl gcb gpb tg tm tl pm ps yq ym yr d (nI j) yf) := by
  have hB0 := hB
  obtain ⟨hV, hR, hE, ha, hh, hLs, hG, hTE, hLB, hg, hq, hL⟩ := hB
  have hg0 := hg
  obtain ⟨g0, g1, g2, g3, g4, g5⟩ := hg
  have hR2 := R2 hV
  have hP1 := hV.1
  have hP := hV.2.1
  have hn := hE.1
  have hcl := cl_le (still P C n al eg em) (C ^ P)
  have hP' := hV'.2.1
  have hC' := hV'.2.2.2.1
  intro d
  induction d with
  | zero => intro j yf _ h; omega
  | succ d ih =>
    intro j yf h1 h2 f0 f1 f2
    have hpw := pow6 hC' (show j ≤ 8 by omega)
    rw [pf_L_keeps_L205.eq_2]
    by_cases e : j = P'
    · subst e
      have hGI : GI j C' 0 0 (-nI 1) (upd (upd (upd yf 3 (nI 0)) 4 (-nI 1)) 5 (nI 0)) := ⟨((pk_un (by omega)).trans ((pk_un (by omega)).trans (pk_un (by omega)))).trans f0, ((pk_un (by omega)).trans ((pk_un (by omega)).trans (pk_un (by omega)))).trans f1, ((pk_un (by omega)).trans ((pk_un (by omega)).trans (pk_un (by omega)))).trans f2, (pk_un (by omega)).trans ((pk_un (by omega)).trans pk_us), (pk_un (by omega)).trans pk_us, pk_us⟩
      obtain ⟨yr', e1, hL'⟩ := tw_lay yr hGI hV' hR'
      obtain ⟨rl', gcb', gpb', tl', e2, hG', hLs', hLB'⟩ := w_begin_t (nI (cl (still P C n al eg em) (C ^ P))) (nI al) hr (nI P) (nI C) (nI (C ^ P)) (nI n) rl gcb gpb tl hV'
      simp (disch := omega) only [g_lit, nI_add, pk_mul, pk_div, g_sdm, pk_sub, g_clamp, ile_t, ile_f, ilt_t, ilt_f, ieq_t, ieq_f, ieq_r, gi_t, gd_t, gz0, gz1, gl_x, ob0_some, ob1_some, ob2_some, ob3_some, ob4_some, ob5_some, ob6_some, ob7_some, ob8_some, ob9_some, ob10_some, ob11_some, ob12_some, ob13_some, f0, f1, f2, e1, e2, pf_L_keeps_j267, pk_un, pk_us, if_true, if_false, nn10, nn20, nn30, nn21, nn31, nn32]
      exact KO_i (LI_i ⟨hV', hR', ⟨by omega, fun i hi => absurd hi (Nat.not_lt_zero i)⟩, by omega, Or.inl rfl, hLs', hG', fun i hi => absurd hi (Nat.not_lt_zero i), hLB', hGI, fun i hi => absurd hi (Nat.not_lt_zero i), hL'⟩)
    · have e3 : C' ^ j * C' = C' ^ (j + 1) := (Nat.pow_succ _ _).symm
      simp (disch := omega) only [g_lit, nI_add, pk_mul, pk_div, g_sdm, pk_sub, g_clamp, ile_t, ile_f, ilt_t, ilt_f, ieq_t, ieq_f, ieq_r, gi_t, gd_t, gz0, gz1, gl_x, ob0_some, ob1_some, ob2_some, ob3_some, ob4_some, ob5_some, ob6_some, ob7_some, ob8_some, ob9_some, ob10_some, ob11_some, ob12_some, ob13_some, f0, f1, f2, e3, pk_un, pk_us, if_true, if_false, nn10, nn20, nn30, nn21, nn31, nn32]
      exact ih (j + 1) _ (by omega) (by omega) ((pk_un (by omega)).trans f0) ((pk_un (by omega)).trans f1) pk_us
theorem k_begin_t (v2 : Int32) (h6 : (v2 &&& nI 6) ≤ nI 0) (hB : BI P C n al eg em hr rl gcb gpb tg tm tl yg yq ym yr) : KO (pf_L_keeps (nI (cl (still P C n al eg em) (C ^ P))) (nI al) hr (nI P) (nI C) (nI (C ^ P)) (nI n) pn pg pq rl gcb gpb tg tm tl pm ps yg yq ym yr (nI 0) v2) := by
  have hB0 := hB
  obtain ⟨hV, hR, hE, ha, hh, hLs, hG, hTE, hLB, hg, hq, hL⟩ := hB
  have hg0 := hg
  obtain ⟨g0, g1, g2, g3, g4, g5⟩ := hg
  have hR2 := R2 hV
  have hP1 := hV.1
  have hP := hV.2.1
  have hn := hE.1
  have hcl := cl_le (still P C n al eg em) (C ^ P)
  obtain ⟨row, hrow, er⟩ := low_ok v2 (m := C ^ P) (by omega) (by omega)
  obtain ⟨S, eS, hS⟩ := t_left hg0 hV hR hL hE ha hq
  obtain ⟨w, hw, ew⟩ := low_ok (v2 >>> (nI 3 &&& nI 31)) (m := 9) (by omega) (by omega)
  have er2 : pf_L_low v2 (yg (2 : Int32).toNatClampNeg) = some (nI row) := by
    rw [k2, g2]
    exact er
  unfold pf_L_keeps
  refine KO_of (gi_t (i := 2) (by omega) (by omega)) ?_
  refine KO_of (oe1 er2) ?_
  refine KO_of (oe1 eS) ?_
  refine KO_of (if_pos (rfl : nI 0 = 0)) ?_
  refine KO_of (if_pos (show (v2 &&& 6) ≤ 0 from h6)) ?_
  refine KO_of (oe1 (show pf_L_low (v2 >>> (3 &&& 31)) 9 = some (nI w) from ew)) ?_
  have hc : w = 0 ∨ w = 1 ∨ w = 2 ∨ w = 3 ∨ w = 4 ∨ w = 5 ∨ w = 6 ∨ w = 7 ∨ w = 8 := by omega
  rcases hc with rfl | rfl | rfl | rfl | rfl | rfl | rfl | rfl | rfl
  · refine KO_of (if_neg (by decide : ¬ (3 : Int32) ≤ nI 0)) ?_
    unfold pf_L_keeps_j153
    refine KO_of (gi_t (i := 0) (by omega) (by omega)) ?_
    refine KO_of (if_neg (by decide : ¬ (3 : Int32) ≤ nI 0)) ?_
    unfold pf_L_keeps_j197
    refine KO_of (gi_t (i := 1) (by omega) (by omega)) ?_
    refine KO_of (gi_t (i := 2) (by omega) (by omega)) ?_
    rw [k0, k1, k2]
    exact k_begin_L (P' := 3) (C' := 2) (by unfold VG; decide) (by decide) hB0 100000 0 _ (Nat.zero_le _) (by omega) ((pk_un (by omega)).trans ((pk_un (by omega)).trans (pk_us.trans (by decide : (3 : Int32) = nI 3)))) ((pk_un (by omega)).trans (pk_us.trans (by decide : (2 + nI 0 : Int32) = nI 2))) pk_us
  · refine KO_of (if_neg (by decide : ¬ (3 : Int32) ≤ nI 1)) ?_
    unfold pf_L_keeps_j153
    refine KO_of (gi_t (i := 0) (by omega) (by omega)) ?_
    refine KO_of (if_neg (by decide : ¬ (3 : Int32) ≤ nI 1)) ?_
    unfold pf_L_keeps_j197
    refine KO_of (gi_t (i := 1) (by omega) (by omega)) ?_
    refine KO_of (gi_t (i := 2) (by omega) (by omega)) ?_
    rw [k0, k1, k2]
    exact k_begin_L (P' := 3) (C' := 3) (by unfold VG; decide) (by decide) hB0 100000 0 _ (Nat.zero_le _) (by omega) ((pk_un (by omega)).trans ((pk_un (by omega)).trans (pk_us.trans (by decide : (3 : Int32) = nI 3)))) ((pk_un (by omega)).trans (pk_us.trans (by decide : (2 + nI 1 : Int32) = nI 3))) pk_us
  · refine KO_of (if_neg (by decide : ¬ (3 : Int32) ≤ nI 2)) ?_
    unfold pf_L_keeps_j153
    refine KO_of (gi_t (i := 0) (by omega) (by omega)) ?_
    refine KO_of (if_neg (by decide : ¬ (3 : Int32) ≤ nI 2)) ?_
    unfold pf_L_keeps_j197
    refine KO_of (gi_t (i := 1) (by omega) (by omega)) ?_
    refine KO_of (gi_t (i := 2) (by omega) (by omega)) ?_
    rw [k0, k1, k2]
    exact k_begin_L (P' := 3) (C' := 4) (by unfold VG; decide) (by decide) hB0 100000 0 _ (Nat.zero_le _) (by omega) ((pk_un (by omega)).trans ((pk_un (by omega)).trans (pk_us.trans (by decide : (3 : Int32) = nI 3)))) ((pk_un (by omega)).trans (pk_us.trans (by decide : (2 + nI 2 : Int32) = nI 4))) pk_us
  · refine KO_of (if_pos (by decide : (3 : Int32) ≤ nI 3)) ?_
    refine KO_of (if_neg (by decide : ¬ (5 : Int32) ≤ nI 3)) ?_
    unfold pf_L_keeps_j153
    refine KO_of (gi_t (i := 0) (by omega) (by omega)) ?_
    refine KO_of (if_pos (by decide : (3 : Int32) ≤ nI 3)) ?_
    refine KO_of (if_neg (by decide : ¬ (5 : Int32) ≤ nI 3)) ?_
    unfold pf_L_keeps_j197
    refine KO_of (gi_t (i := 1) (by omega) (by omega)) ?_
    refine KO_of (gi_t (i := 2) (by omega) (by omega)) ?_
    rw [k0, k1, k2]
    exact k_begin_L (P' := 2) (C' := 4) (by unfold VG; decide) (by decide) hB0 100000 0 _ (Nat.zero_le _) (by omega) ((pk_un (by omega)).trans ((pk_un (by omega)).trans (pk_us.trans (by decide : (2 : Int32) = nI 2)))) ((pk_un (by omega)).trans (pk_us.trans (by decide : (2 * nI 3 - 2 : Int32) = nI 4))) pk_us
  · refine KO_of (if_pos (by decide : (3 : Int32) ≤ nI 4)) ?_
    refine KO_of (if_neg (by decide : ¬ (5 : Int32) ≤ nI 4)) ?_
    unfold pf_L_keeps_j153
    refine KO_of (gi_t (i := 0) (by omega) (by omega)) ?_
    refine KO_of (if_pos (by decide : (3 : Int32) ≤ nI 4)) ?_
    refine KO_of (if_neg (by decide : ¬ (5 : Int32) ≤ nI 4)) ?_
    unfold pf_L_keeps_j197
    refine KO_of (gi_t (i := 1) (by omega) (by omega)) ?_
    refine KO_of (gi_t (i := 2) (by omega) (by omega)) ?_
    rw [k0, k1, k2]
    exact k_begin_L (P' := 2) (C' := 6) (by unfold VG; decide) (by decide) hB0 100000 0 _ (Nat.zero_le _) (by omega) ((pk_un (by omega)).trans ((pk_un (by omega)).trans (pk_us.trans (by decide : (2 : Int32) = nI 2)))) ((pk_un (by omega)).trans (pk_us.trans (by decide : (2 * nI 4 - 2 : Int32) = nI 6))) pk_us
  · refine KO_of (if_pos (by decide : (3 : Int32) ≤ nI 5)) ?_
    refine KO_of (if_pos (by decide : (5 : Int32) ≤ nI 5)) ?_
    refine KO_of (if_neg (by decide : ¬ (8 : Int32) ≤ nI 5)) ?_
    unfold pf_L_keeps_j153
    refine KO_of (gi_t (i := 0) (by omega) (by omega)) ?_
    refine KO_of (if_pos (by decide : (3 : Int32) ≤ nI 5)) ?_
    refine KO_of (if_pos (by decide : (5 : Int32) ≤ nI 5)) ?_
    refine KO_of (if_neg (by decide : ¬ (8 : Int32) ≤ nI 5)) ?_
    unfold pf_L_keeps_j197
    refine KO_of (gi_t (i := 1) (by omega) (by omega)) ?_
    refine KO_of (gi_t (i := 2) (by omega) (by omega)) ?_
    rw [k0, k1, k2]
    exact k_begin_L (P' := 4) (C' := 2) (by unfold VG; decide) (by decide) hB0 100000 0 _ (Nat.zero_le _) (by omega) ((pk_un (by omega)).trans ((pk_un (by omega)).trans (pk_us.trans (by decide : (nI 5 - 1 : Int32) = nI 4)))) ((pk_un (by omega)).trans (pk_us.trans (by decide : (2 : Int32) = nI 2))) pk_us
  · refine KO_of (if_pos (by decide : (3 : Int32) ≤ nI 6)) ?_
    refine KO_of (if_pos (by decide : (5 : Int32) ≤ nI 6)) ?_
    refine KO_of (if_neg (by decide : ¬ (8 : Int32) ≤ nI 6)) ?_
    unfold pf_L_keeps_j153
    refine KO_of (gi_t (i := 0) (by omega) (by omega)) ?_
    refine KO_of (if_pos (by decide : (3 : Int32) ≤ nI 6)) ?_
    refine KO_of (if_pos (by decide : (5 : Int32) ≤ nI 6)) ?_
    refine KO_of (if_neg (by decide : ¬ (8 : Int32) ≤ nI 6)) ?_
    unfold pf_L_keeps_j197
    refine KO_of (gi_t (i := 1) (by omega) (by omega)) ?_
    refine KO_of (gi_t (i := 2) (by omega) (by omega)) ?_
    rw [k0, k1, k2]
    exact k_begin_L (P' := 5) (C' := 2) (by unfold VG; decide) (by decide) hB0 100000 0 _ (Nat.zero_le _) (by omega) ((pk_un (by omega)).trans ((pk_un (by omega)).trans (pk_us.trans (by decide : (nI 6 - 1 : Int32) = nI 5)))) ((pk_un (by omega)).trans (pk_us.trans (by decide : (2 : Int32) = nI 2))) pk_us
  · refine KO_of (if_pos (by decide : (3 : Int32) ≤ nI 7)) ?_
    refine KO_of (if_pos (by decide : (5 : Int32) ≤ nI 7)) ?_
    refine KO_of (if_neg (by decide : ¬ (8 : Int32) ≤ nI 7)) ?_
    unfold pf_L_keeps_j153
    refine KO_of (gi_t (i := 0) (by omega) (by omega)) ?_
    refine KO_of (if_pos (by decide : (3 : Int32) ≤ nI 7)) ?_
    refine KO_of (if_pos (by decide : (5 : Int32) ≤ nI 7)) ?_
    refine KO_of (if_neg (by decide : ¬ (8 : Int32) ≤ nI 7)) ?_
    unfold pf_L_keeps_j197
    refine KO_of (gi_t (i := 1) (by omega) (by omega)) ?_
    refine KO_of (gi_t (i := 2) (by omega) (by omega)) ?_
    rw [k0, k1, k2]
    exact k_begin_L (P' := 6) (C' := 2) (by unfold VG; decide) (by decide) hB0 100000 0 _ (Nat.zero_le _) (by omega) ((pk_un (by omega)).trans ((pk_un (by omega)).trans (pk_us.trans (by decide : (nI 7 - 1 : Int32) = nI 6)))) ((pk_un (by omega)).trans (pk_us.trans (by decide : (2 : Int32) = nI 2))) pk_us
  · refine KO_of (if_pos (by decide : (3 : Int32) ≤ nI 8)) ?_
    refine KO_of (if_pos (by decide : (5 : Int32) ≤ nI 8)) ?_
    refine KO_of (if_pos (by decide : (8 : Int32) ≤ nI 8)) ?_
    unfold pf_L_keeps_j153
    refine KO_of (gi_t (i := 0) (by omega) (by omega)) ?_
    refine KO_of (if_pos (by decide : (3 : Int32) ≤ nI 8)) ?_
    refine KO_of (if_pos (by decide : (5 : Int32) ≤ nI 8)) ?_
    refine KO_of (if_pos (by decide : (8 : Int32) ≤ nI 8)) ?_
    unfold pf_L_keeps_j197
    refine KO_of (gi_t (i := 1) (by omega) (by omega)) ?_
    refine KO_of (gi_t (i := 2) (by omega) (by omega)) ?_
    rw [k0, k1, k2]
    exact k_begin_L (P' := 1) (C' := 6) (by unfold VG; decide) (by decide) hB0 100000 0 _ (Nat.zero_le _) (by omega) ((pk_un (by omega)).trans ((pk_un (by omega)).trans (pk_us.trans (by decide : (1 : Int32) = nI 1)))) ((pk_un (by omega)).trans (pk_us.trans (by decide : (6 : Int32) = nI 6))) pk_us
theorem k_allow_j {k : Nat} (v : Int32) (hk : k = 4 ∨ k = 2) (hB : BI P C n al eg em hr rl gcb gpb tg tm tl yg yq ym yr) : KO (pf_L_keeps_j287 (nI k) v (nI (cl (still P C n al eg em) (C ^ P))) (nI al) hr (nI P) (nI C) (nI (C ^ P)) (nI n) pn pg pq rl gcb gpb tg tm tl pm ps yg yq ym yr) := by
  have hB0 := hB
  obtain ⟨hV, hR, hE, ha, hh, hLs, hG, hTE, hLB, hg, hq, hL⟩ := hB
  have hg0 := hg
  obtain ⟨g0, g1, g2, g3, g4, g5⟩ := hg
  have hR2 := R2 hV
  have hP1 := hV.1
  have hP := hV.2.1
  have hn := hE.1
  have hcl := cl_le (still P C n al eg em) (C ^ P)
  obtain ⟨a, hak, ea⟩ := low_ok v (m := k) (by omega) (by omega)
  have ha3 : a ≤ 3 := by omega
  have b1 := w_allow_f (lc := nI (cl (still P C n al eg em) (C ^ P))) (la := nI al) (hr := hr) (uR := nI (C ^ P)) (tn := nI n) (rl := rl) (tl := tl) (v := nI 4) (nr_R (by omega))
  have b2 := w_allow_f (lc := nI (cl (still P C n al eg em) (C ^ P))) (la := nI al) (hr := hr) (uR := nI (C ^ P)) (tn := nI n) (rl := rl) (tl := tl) (v := -nI 1) (nr_m1 4)
  rcases hh with rfl | ⟨r, r1, r2, rfl⟩
  · obtain ⟨rl1, e1, hL1⟩ := w_allow_t (a := a) (al := al) (lc := nI (cl (still P C n al eg em) (C ^ P))) (rl := rl) hV hn ha3 hLB (Or.inl m1_neg)
    simp (disch := omega) only [g_lit, nI_add, pk_mul, pk_div, g_sdm, pk_sub, g_clamp, ile_t, ile_f, ilt_t, ilt_f, ieq_t, ieq_f, ieq_r, gi_t, gd_t, gz0, gz1, gl_x, ob0_some, ob1_some, ob2_some, ob3_some, ob4_some, ob5_some, ob6_some, ob7_some, ob8_some, ob9_some, ob10_some, ob11_some, ob12_some, ob13_some, pf_L_keeps_j287, pf_L_keeps_j358, pf_L_keeps_j379, ea, g3, g4, e1, m1_lt, pk_un, pk_us, if_true, if_false, nn10, nn20, nn30, nn21, nn31, nn32]
    exact KO_i (LI_i ⟨hV, hR, hE, ha3, Or.inl rfl, hL1, hG, hTE, hLB, GI_al hg0, hq, hL⟩)
  · have e3 := t_lies hg0 hV hR hL hE hq r1
    have hnl := nl_le P C eg em n r
    by_cases q : nl P C eg em n r ≤ a
    · obtain ⟨rl1, e1, hL1⟩ := w_allow_t (a := a) (al := al) (lc := nI (cl (still P C n al eg em) (C ^ P))) (rl := rl) hV hn ha3 hLB (Or.inr ⟨r, r1, q, rfl⟩)
      simp (disch := omega) only [g_lit, nI_add, pk_mul, pk_div, g_sdm, pk_sub, g_clamp, ile_t, ile_f, ilt_t, ilt_f, ieq_t, ieq_f, ieq_r, gi_t, gd_t, gz0, gz1, gl_x, ob0_some, ob1_some, ob2_some, ob3_some, ob4_some, ob5_some, ob6_some, ob7_some, ob8_some, ob9_some, ob10_some, ob11_some, ob12_some, ob13_some, pf_L_keeps_j287, pf_L_keeps_j358, pf_L_keeps_j379, ea, g3, g4, e1, e3, pk_un, pk_us, if_true, if_false, nn10, nn20, nn30, nn21, nn31, nn32]
      exact KO_i (LI_i ⟨hV, hR, hE, ha3, Or.inr ⟨r, r1, q, rfl⟩, hL1, hG, hTE, hLB, GI_al hg0, hq, hL⟩)
    · have e1 := w_allow_s (a := a) (al := al) (lc := nI (cl (still P C n al eg em) (C ^ P))) (rl := rl) hV hn ha3 hLB r1 (by omega)
      simp (disch := omega) only [g_lit, nI_add, pk_mul, pk_div, g_sdm, pk_sub, g_clamp, ile_t, ile_f, ilt_t, ilt_f, ieq_t, ieq_f, ieq_r, gi_t, gd_t, gz0, gz1, gl_x, ob0_some, ob1_some, ob2_some, ob3_some, ob4_some, ob5_some, ob6_some, ob7_some, ob8_some, ob9_some, ob10_some, ob11_some, ob12_some, ob13_some, pf_L_keeps_j287, pf_L_keeps_j357, ea, g3, g4, e1, e3, b1, b2, pk_un, pk_us, if_true, if_false, nn10, nn20, nn30, nn21, nn31, nn32]
      exact KO_i (LI_i hB0)
theorem k_allow (v2 : Int32) (hB : BI P C n al eg em hr rl gcb gpb tg tm tl yg yq ym yr) : KO (pf_L_keeps (nI (cl (still P C n al eg em) (C ^ P))) (nI al) hr (nI P) (nI C) (nI (C ^ P)) (nI n) pn pg pq rl gcb gpb tg tm tl pm ps yg yq ym yr (nI 1) v2) := by
  have hB0 := hB
  obtain ⟨hV, hR, hE, ha, hh, hLs, hG, hTE, hLB, hg, hq, hL⟩ := hB
  have hg0 := hg
  obtain ⟨g0, g1, g2, g3, g4, g5⟩ := hg
  have hR2 := R2 hV
  have hP1 := hV.1
  have hP := hV.2.1
  have hn := hE.1
  have hcl := cl_le (still P C n al eg em) (C ^ P)
  obtain ⟨row, hrow, er⟩ := low_ok v2 (m := C ^ P) (by omega) (by omega)
  obtain ⟨S, eS, hS⟩ := t_left hg0 hV hR hL hE ha hq
  have h4 := k_allow_j (pn := pn) (pg := pg) (pq := pq) (pm := pm) (ps := ps) (k := 4) (v2 >>> (nI 3 &&& nI 31)) (Or.inl rfl) hB0
  have h2 := k_allow_j (pn := pn) (pg := pg) (pq := pq) (pm := pm) (ps := ps) (k := 2) (v2 >>> (nI 3 &&& nI 31)) (Or.inr rfl) hB0
  by_cases q : (v2 &&& nI 2) = nI 0
  · have qf : ((v2 &&& nI 2) = nI 0) = True := eq_true q
    have er2 : pf_L_low v2 (yg (2 : Int32).toNatClampNeg) = some (nI row) := by
      rw [k2, g2]
      exact er
    unfold pf_L_keeps
    refine KO_of (gi_t (i := 2) (by omega) (by omega)) ?_
    refine KO_of (oe1 er2) ?_
    refine KO_of (oe1 eS) ?_
    refine KO_of (if_neg (by decide : ¬ nI 1 = 0)) ?_
    refine KO_of (if_pos (rfl : nI 1 = 1)) ?_
    refine KO_of (if_pos (show (v2 &&& 2) = 0 from q)) ?_
    exact h4
  · have qf : ((v2 &&& nI 2) = nI 0) = False := eq_false q
    have er2 : pf_L_low v2 (yg (2 : Int32).toNatClampNeg) = some (nI row) := by
      rw [k2, g2]
      exact er
    unfold pf_L_keeps
    refine KO_of (gi_t (i := 2) (by omega) (by omega)) ?_
    refine KO_of (oe1 er2) ?_
    refine KO_of (oe1 eS) ?_
    refine KO_of (if_neg (by decide : ¬ nI 1 = 0)) ?_
    refine KO_of (if_pos (rfl : nI 1 = 1)) ?_
    refine KO_of (if_neg (show ¬ (v2 &&& 2) = 0 from q)) ?_
    exact h2
theorem k_hide_j {row : Nat} {S : Int64} (hrow : row < C ^ P) (hS : Hs S (still P C n al eg em) (C ^ P)) (hB : BI P C n al eg em hr rl gcb gpb tg tm tl yg yq ym yr) : KO (pf_L_keeps_j429 (nI row) S (nI (cl (still P C n al eg em) (C ^ P))) (nI al) hr (nI P) (nI C) (nI (C ^ P)) (nI n) pn pg pq rl gcb gpb tg tm tl pm ps yg yq ym yr) := by
  have hB0 := hB
  obtain ⟨hV, hR, hE, ha, hh, hLs, hG, hTE, hLB, hg, hq, hL⟩ := hB
  have hg0 := hg
  obtain ⟨g0, g1, g2, g3, g4, g5⟩ := hg
  have hR2 := R2 hV
  have hP1 := hV.1
  have hP := hV.2.1
  have hn := hE.1
  have hcl := cl_le (still P C n al eg em) (C ^ P)
  have e4 := t_has S (r := row) (by omega)
  have hst := Hs_at hS hrow
  have b1 := w_hide_f (la := nI al) (hr := hr) (tn := nI n) (tl := tl) hV (nr_R (R := C ^ P) (by omega))
  by_cases q : nl P C eg em n row ≤ al
  · have e5 : bt S row = true := hst.trans (decide_eq_true q)
    rw [e5] at e4
    have e4 : pf_L_has S (nI row) = some (nI 1) := e4
    rcases hh with rfl | ⟨r, r1, r2, rfl⟩
    · have e6 := w_hide_t hV hn ha hLB hrow q (Or.inl m1_neg)
      rw [if_pos m1_neg] at e6
      simp (disch := omega) only [g_lit, nI_add, pk_mul, pk_div, g_sdm, pk_sub, g_clamp, ile_t, ile_f, ilt_t, ilt_f, ieq_t, ieq_f, ieq_r, gi_t, gd_t, gz0, gz1, gl_x, ob0_some, ob1_some, ob2_some, ob3_some, ob4_some, ob5_some, ob6_some, ob7_some, ob8_some, ob9_some, ob10_some, ob11_some, ob12_some, ob13_some, pf_L_keeps_j429, pf_L_keeps_j479, pf_L_keeps_j502, pf_L_keeps_j510, e4, e6, g4, m1_lt, pk_un, pk_us, if_true, if_false, nn10, nn20, nn30, nn21, nn31, nn32]
      exact KO_i (LI_i ⟨hV, hR, hE, ha, Or.inr ⟨row, hrow, q, rfl⟩, hLs, hG, hTE, hLB, GI_h hg0, hq, hL⟩)
    · have e6 := w_hide_t hV hn ha hLB hrow q (Or.inr ⟨r, r1, rfl⟩)
      rw [if_neg (nI_m1 (by omega : r < 2147483648))] at e6
      simp (disch := omega) only [g_lit, nI_add, pk_mul, pk_div, g_sdm, pk_sub, g_clamp, ile_t, ile_f, ilt_t, ilt_f, ieq_t, ieq_f, ieq_r, gi_t, gd_t, gz0, gz1, gl_x, ob0_some, ob1_some, ob2_some, ob3_some, ob4_some, ob5_some, ob6_some, ob7_some, ob8_some, ob9_some, ob10_some, ob11_some, ob12_some, ob13_some, pf_L_keeps_j429, pf_L_keeps_j479, pf_L_keeps_j502, pf_L_keeps_j510, e4, e6, g4, pk_un, pk_us, if_true, if_false, nn10, nn20, nn30, nn21, nn31, nn32]
      exact KO_i (LI_i ⟨hV, hR, hE, ha, Or.inr ⟨row, hrow, q, rfl⟩, hLs, hG, hTE, hLB, GI_h hg0, hq, hL⟩)
  · have e5 : bt S row = false := hst.trans (decide_eq_false q)
    rw [e5] at e4
    have e4 : pf_L_has S (nI row) = some (nI 0) := e4
    have e6 := w_hide_s (hr := hr) hV hn ha hLB hrow q
    simp (disch := omega) only [g_lit, nI_add, pk_mul, pk_div, g_sdm, pk_sub, g_clamp, ile_t, ile_f, ilt_t, ilt_f, ieq_t, ieq_f, ieq_r, gi_t, gd_t, gz0, gz1, gl_x, ob0_some, ob1_some, ob2_some, ob3_some, ob4_some, ob5_some, ob6_some, ob7_some, ob8_some, ob9_some, ob10_some, ob11_some, ob12_some, ob13_some, pf_L_keeps_j429, pf_L_keeps_j467, e4, e6, b1, g2, pk_un, pk_us, if_true, if_false, nn10, nn20, nn30, nn21, nn31, nn32]
    exact KO_i (LI_i hB0)
theorem k_hide_L {S : Int64} (v2 : Int32) (hS : Hs S (still P C n al eg em) (C ^ P)) (hB : BI P C n al eg em hr rl gcb gpb tg tm tl yg yq ym yr) : ∀ d j row, j ≤ C ^ P → C ^ P - j < d → row < C ^ P → KO (pf_L_keeps_L388 v2 S (nI (cl (still P C n al eg em) (C ^ P))) (nI al) hr (nI P) (nI C) (nI (C ^ P)) (nI n) pn pg pq rl gcb gpb tg tm tl pm ps yg yq ym yr d (nI row) (nI j)) := by
  have hB0 := hB
  obtain ⟨hV, hR, hE, ha, hh, hLs, hG, hTE, hLB, hg, hq, hL⟩ := hB
  have hg0 := hg
  obtain ⟨g0, g1, g2, g3, g4, g5⟩ := hg
  have hR2 := R2 hV
  have hP1 := hV.1
  have hP := hV.2.1
  have hn := hE.1
  have hcl := cl_le (still P C n al eg em) (C ^ P)
  intro d
  induction d with
  | zero => intro j row _ h; omega
  | succ d ih =>
    intro j row h1 h2 hrow
    have hx := k_hide_j (pn := pn) (pg := pg) (pq := pq) (pm := pm) (ps := ps) hrow hS hB0
    rw [pf_L_keeps_L388.eq_2]
    have e4 := t_has S (r := row) (by omega)
    by_cases e : j = C ^ P
    · subst e
      simp (disch := omega) only [g_lit, nI_add, pk_mul, pk_div, g_sdm, pk_sub, g_clamp, ile_t, ile_f, ilt_t, ilt_f, ieq_t, ieq_f, ieq_r, gi_t, gd_t, gz0, gz1, gl_x, ob0_some, ob1_some, ob2_some, ob3_some, ob4_some, ob5_some, ob6_some, ob7_some, ob8_some, ob9_some, ob10_some, ob11_some, ob12_some, ob13_some, g2, pk_un, pk_us, if_true, if_false, nn10, nn20, nn30, nn21, nn31, nn32]
      exact hx
    · cases q : bt S row
      · rw [q] at e4
        have e4 : pf_L_has S (nI row) = some (nI 0) := e4
        by_cases q2 : (v2 &&& nI 196608) ≤ nI 0
        · have qf : ((v2 &&& nI 196608) ≤ nI 0) = True := eq_true q2
          simp (disch := omega) only [g_lit, nI_add, pk_mul, pk_div, g_sdm, pk_sub, g_clamp, ile_t, ile_f, ilt_t, ilt_f, ieq_t, ieq_f, ieq_r, gi_t, gd_t, gz0, gz1, gl_x, ob0_some, ob1_some, ob2_some, ob3_some, ob4_some, ob5_some, ob6_some, ob7_some, ob8_some, ob9_some, ob10_some, ob11_some, ob12_some, ob13_some, g2, e4, qf, pk_un, pk_us, if_true, if_false, nn10, nn20, nn30, nn21, nn31, nn32]
          exact hx
        · have qf : ((v2 &&& nI 196608) ≤ nI 0) = False := eq_false q2
          simp (disch := omega) only [g_lit, nI_add, pk_mul, pk_div, g_sdm, pk_sub, g_clamp, ile_t, ile_f, ilt_t, ilt_f, ieq_t, ieq_f, ieq_r, gi_t, gd_t, gz0, gz1, gl_x, ob0_some, ob1_some, ob2_some, ob3_some, ob4_some, ob5_some, ob6_some, ob7_some, ob8_some, ob9_some, ob10_some, ob11_some, ob12_some, ob13_some, g2, e4, qf, pk_un, pk_us, if_true, if_false, nn10, nn20, nn30, nn21, nn31, nn32]
          exact ih (j + 1) _ (by omega) (by omega) (Nat.mod_lt _ (by omega))
      · rw [q] at e4
        have e4 : pf_L_has S (nI row) = some (nI 1) := e4
        simp (disch := omega) only [g_lit, nI_add, pk_mul, pk_div, g_sdm, pk_sub, g_clamp, ile_t, ile_f, ilt_t, ilt_f, ieq_t, ieq_f, ieq_r, gi_t, gd_t, gz0, gz1, gl_x, ob0_some, ob1_some, ob2_some, ob3_some, ob4_some, ob5_some, ob6_some, ob7_some, ob8_some, ob9_some, ob10_some, ob11_some, ob12_some, ob13_some, g2, e4, pk_un, pk_us, if_true, if_false, nn10, nn20, nn30, nn21, nn31, nn32]
        exact hx
theorem k_hide (v2 : Int32) (hB : BI P C n al eg em hr rl gcb gpb tg tm tl yg yq ym yr) : KO (pf_L_keeps (nI (cl (still P C n al eg em) (C ^ P))) (nI al) hr (nI P) (nI C) (nI (C ^ P)) (nI n) pn pg pq rl gcb gpb tg tm tl pm ps yg yq ym yr (nI 2) v2) := by
  have hB0 := hB
  obtain ⟨hV, hR, hE, ha, hh, hLs, hG, hTE, hLB, hg, hq, hL⟩ := hB
  have hg0 := hg
  obtain ⟨g0, g1, g2, g3, g4, g5⟩ := hg
  have hR2 := R2 hV
  have hP1 := hV.1
  have hP := hV.2.1
  have hn := hE.1
  have hcl := cl_le (still P C n al eg em) (C ^ P)
  obtain ⟨row, hrow, er⟩ := low_ok v2 (m := C ^ P) (by omega) (by omega)
  obtain ⟨S, eS, hS⟩ := t_left hg0 hV hR hL hE ha hq
  have hx := k_hide_L (pn := pn) (pg := pg) (pq := pq) (pm := pm) (ps := ps) v2 hS hB0 100000 0 row (Nat.zero_le _) (by omega) hrow
  have er2 : pf_L_low v2 (yg (2 : Int32).toNatClampNeg) = some (nI row) := by
    rw [k2, g2]
    exact er
  unfold pf_L_keeps
  refine KO_of (gi_t (i := 2) (by omega) (by omega)) ?_
  refine KO_of (oe1 er2) ?_
  refine KO_of (oe1 eS) ?_
  refine KO_of (if_neg (by decide : ¬ nI 2 = 0)) ?_
  refine KO_of (if_neg (by decide : ¬ nI 2 = 1)) ?_
  refine KO_of (if_pos (rfl : nI 2 = 2)) ?_
  exact hx
theorem k_guess3 (v2 : Int32) (hB : BI P C n al eg em hr rl gcb gpb tg tm tl yg yq ym yr) : KO (pf_L_keeps (nI (cl (still P C n al eg em) (C ^ P))) (nI al) hr (nI P) (nI C) (nI (C ^ P)) (nI n) pn pg pq rl gcb gpb tg tm tl pm ps yg yq ym yr (nI 3) v2) := by
  have hB0 := hB
  obtain ⟨hV, hR, hE, ha, hh, hLs, hG, hTE, hLB, hg, hq, hL⟩ := hB
  have hg0 := hg
  obtain ⟨g0, g1, g2, g3, g4, g5⟩ := hg
  have hR2 := R2 hV
  have hP1 := hV.1
  have hP := hV.2.1
  have hn := hE.1
  have hcl := cl_le (still P C n al eg em) (C ^ P)
  obtain ⟨row, hrow, er⟩ := low_ok v2 (m := C ^ P) (by omega) (by omega)
  obtain ⟨S, eS, hS⟩ := t_left hg0 hV hR hL hE ha hq
  have b1 := w_guess_f (lc := nI (cl (still P C n al eg em) (C ^ P))) (la := nI al) (hr := hr) (tn := nI n) (rl := rl) (gcb := gcb) (gpb := gpb) (tg := tg) (tm := tm) (tl := tl) hV (nr_R (R := C ^ P) (by omega))
  have er2 : pf_L_low v2 (yg (2 : Int32).toNatClampNeg) = some (nI row) := by
    rw [k2, g2]
    exact er
  unfold pf_L_keeps
  refine KO_of (gi_t (i := 2) (by omega) (by omega)) ?_
  refine KO_of (oe1 er2) ?_
  refine KO_of (oe1 eS) ?_
  refine KO_of (if_neg (by decide : ¬ nI 3 = 0)) ?_
  refine KO_of (if_neg (by decide : ¬ nI 3 = 1)) ?_
  refine KO_of (if_neg (by decide : ¬ nI 3 = 2)) ?_
  refine KO_of (if_neg (by decide : ¬ (5 : Int32) ≤ nI 3)) ?_
  rcases hh with rfl | ⟨r, r1, r2, rfl⟩
  · have e6 := w_guess_s (lc := nI (cl (still P C n al eg em) (C ^ P))) (la := nI al) (rl := rl) (gcb := gcb) (gpb := gpb) (tg := tg) (tm := tm) (tl := tl) hV hn hrow (Or.inl m1_neg)
    simp (disch := omega) only [g_lit, nI_add, pk_mul, pk_div, g_sdm, pk_sub, g_clamp, ile_t, ile_f, ilt_t, ilt_f, ieq_t, ieq_f, ieq_r, gi_t, gd_t, gz0, gz1, gl_x, ob0_some, ob1_some, ob2_some, ob3_some, ob4_some, ob5_some, ob6_some, ob7_some, ob8_some, ob9_some, ob10_some, ob11_some, ob12_some, ob13_some, pf_L_keeps_j530, pf_L_keeps_j558, e6, b1, g2, g4, m1_lt, pk_un, pk_us, if_true, if_false, nn10, nn20, nn30, nn21, nn31, nn32]
    exact KO_i (LI_i hB0)
  · by_cases hf : n = 10
    · have e6 := w_guess_s (lc := nI (cl (still P C n al eg em) (C ^ P))) (la := nI al) (hr := nI r) (rl := rl) (gcb := gcb) (gpb := gpb) (tg := tg) (tm := tm) (tl := tl) hV hn hrow (Or.inr ⟨⟨r, r1, rfl⟩, hf⟩)
      simp (disch := omega) only [g_lit, nI_add, pk_mul, pk_div, g_sdm, pk_sub, g_clamp, ile_t, ile_f, ilt_t, ilt_f, ieq_t, ieq_f, ieq_r, gi_t, gd_t, gz0, gz1, gl_x, ob0_some, ob1_some, ob2_some, ob3_some, ob4_some, ob5_some, ob6_some, ob7_some, ob8_some, ob9_some, ob10_some, ob11_some, ob12_some, ob13_some, pf_L_keeps_j530, pf_L_keeps_j558, e6, b1, g2, g4, g5, pk_un, pk_us, if_true, if_false, nn10, nn20, nn30, nn21, nn31, nn32]
      exact KO_i (LI_i hB0)
    · obtain ⟨rl1, tl1, e6, hL1, hB1⟩ := w_guess_t (lc := nI (cl (still P C n al eg em) (C ^ P))) (rl := rl) (tg := tg) (tm := tm) hV hG (by omega) ha hLB hrow r1
      have e7 := t_pins hg0 hV hR hL hrow r1
      have hm := mk80 hV row r
      have hnx := nl_next (P := P) (C := C) (n := n) (g := row) (m := mk P C row r) (h := r) eg em
      rw [if_pos rfl] at hnx
      have e8 : nI (n + 1) - nI 1 = nI n := by rw [pk_sub (by omega)]; congr 1
      simp (disch := omega) only [g_lit, nI_add, pk_mul, pk_div, g_sdm, pk_sub, g_clamp, ile_t, ile_f, ilt_t, ilt_f, ieq_t, ieq_f, ieq_r, gi_t, gd_t, gz0, gz1, gl_x, ob0_some, ob1_some, ob2_some, ob3_some, ob4_some, ob5_some, ob6_some, ob7_some, ob8_some, ob9_some, ob10_some, ob11_some, ob12_some, ob13_some, pf_L_keeps_j613, e6, e7, e8, g4, g5, pk_us, pk_un, pk_us, if_true, if_false, nn10, nn20, nn30, nn21, nn31, nn32]
      exact KO_i (LI_i ⟨hV, hR, ES_up hE (by omega) hrow (by omega), ha, Or.inr ⟨r, r1, by omega, rfl⟩, hL1, hG, ME_up hTE, hB1, GI_n hg0, ME_up hq, hL⟩)
theorem k_guess4 (v2 : Int32) (hB : BI P C n al eg em hr rl gcb gpb tg tm tl yg yq ym yr) : KO (pf_L_keeps (nI (cl (still P C n al eg em) (C ^ P))) (nI al) hr (nI P) (nI C) (nI (C ^ P)) (nI n) pn pg pq rl gcb gpb tg tm tl pm ps yg yq ym yr (nI 4) v2) := by
  have hB0 := hB
  obtain ⟨hV, hR, hE, ha, hh, hLs, hG, hTE, hLB, hg, hq, hL⟩ := hB
  have hg0 := hg
  obtain ⟨g0, g1, g2, g3, g4, g5⟩ := hg
  have hR2 := R2 hV
  have hP1 := hV.1
  have hP := hV.2.1
  have hn := hE.1
  have hcl := cl_le (still P C n al eg em) (C ^ P)
  obtain ⟨row, hrow, er⟩ := low_ok v2 (m := C ^ P) (by omega) (by omega)
  obtain ⟨S, eS, hS⟩ := t_left hg0 hV hR hL hE ha hq
  have b1 := w_guess_f (lc := nI (cl (still P C n al eg em) (C ^ P))) (la := nI al) (hr := hr) (tn := nI n) (rl := rl) (gcb := gcb) (gpb := gpb) (tg := tg) (tm := tm) (tl := tl) hV (nr_R (R := C ^ P) (by omega))
  have er2 : pf_L_low v2 (yg (2 : Int32).toNatClampNeg) = some (nI row) := by
    rw [k2, g2]
    exact er
  unfold pf_L_keeps
  refine KO_of (gi_t (i := 2) (by omega) (by omega)) ?_
  refine KO_of (oe1 er2) ?_
  refine KO_of (oe1 eS) ?_
  refine KO_of (if_neg (by decide : ¬ nI 4 = 0)) ?_
  refine KO_of (if_neg (by decide : ¬ nI 4 = 1)) ?_
  refine KO_of (if_neg (by decide : ¬ nI 4 = 2)) ?_
  refine KO_of (if_neg (by decide : ¬ (5 : Int32) ≤ nI 4)) ?_
  rcases hh with rfl | ⟨r, r1, r2, rfl⟩
  · have e6 := w_guess_s (lc := nI (cl (still P C n al eg em) (C ^ P))) (la := nI al) (rl := rl) (gcb := gcb) (gpb := gpb) (tg := tg) (tm := tm) (tl := tl) hV hn hrow (Or.inl m1_neg)
    simp (disch := omega) only [g_lit, nI_add, pk_mul, pk_div, g_sdm, pk_sub, g_clamp, ile_t, ile_f, ilt_t, ilt_f, ieq_t, ieq_f, ieq_r, gi_t, gd_t, gz0, gz1, gl_x, ob0_some, ob1_some, ob2_some, ob3_some, ob4_some, ob5_some, ob6_some, ob7_some, ob8_some, ob9_some, ob10_some, ob11_some, ob12_some, ob13_some, pf_L_keeps_j530, pf_L_keeps_j558, e6, b1, g2, g4, m1_lt, pk_un, pk_us, if_true, if_false, nn10, nn20, nn30, nn21, nn31, nn32]
    exact KO_i (LI_i hB0)
  · by_cases hf : n = 10
    · have e6 := w_guess_s (lc := nI (cl (still P C n al eg em) (C ^ P))) (la := nI al) (hr := nI r) (rl := rl) (gcb := gcb) (gpb := gpb) (tg := tg) (tm := tm) (tl := tl) hV hn hrow (Or.inr ⟨⟨r, r1, rfl⟩, hf⟩)
      simp (disch := omega) only [g_lit, nI_add, pk_mul, pk_div, g_sdm, pk_sub, g_clamp, ile_t, ile_f, ilt_t, ilt_f, ieq_t, ieq_f, ieq_r, gi_t, gd_t, gz0, gz1, gl_x, ob0_some, ob1_some, ob2_some, ob3_some, ob4_some, ob5_some, ob6_some, ob7_some, ob8_some, ob9_some, ob10_some, ob11_some, ob12_some, ob13_some, pf_L_keeps_j530, pf_L_keeps_j558, e6, b1, g2, g4, g5, pk_un, pk_us, if_true, if_false, nn10, nn20, nn30, nn21, nn31, nn32]
      exact KO_i (LI_i hB0)
    · obtain ⟨rl1, tl1, e6, hL1, hB1⟩ := w_guess_t (lc := nI (cl (still P C n al eg em) (C ^ P))) (rl := rl) (tg := tg) (tm := tm) hV hG (by omega) ha hLB hrow r1
      have e7 := t_pins hg0 hV hR hL hrow r1
      have hm := mk80 hV row r
      have hnx := nl_next (P := P) (C := C) (n := n) (g := row) (m := mk P C row r) (h := r) eg em
      rw [if_pos rfl] at hnx
      have e8 : nI (n + 1) - nI 1 = nI n := by rw [pk_sub (by omega)]; congr 1
      simp (disch := omega) only [g_lit, nI_add, pk_mul, pk_div, g_sdm, pk_sub, g_clamp, ile_t, ile_f, ilt_t, ilt_f, ieq_t, ieq_f, ieq_r, gi_t, gd_t, gz0, gz1, gl_x, ob0_some, ob1_some, ob2_some, ob3_some, ob4_some, ob5_some, ob6_some, ob7_some, ob8_some, ob9_some, ob10_some, ob11_some, ob12_some, ob13_some, pf_L_keeps_j613, e6, e7, e8, g4, g5, pk_us, pk_un, pk_us, if_true, if_false, nn10, nn20, nn30, nn21, nn31, nn32]
      exact KO_i (LI_i ⟨hV, hR, ES_up hE (by omega) hrow (by omega), ha, Or.inr ⟨r, r1, by omega, rfl⟩, hL1, hG, ME_up hTE, hB1, GI_n hg0, ME_up hq, hL⟩)
theorem k_tell_j {row : Nat} (v : Int32) (hrow : row < C ^ P) (hB : BI P C n al eg em hr rl gcb gpb tg tm tl yg yq ym yr) : KO (pf_L_keeps_j741 (nI row) v (nI (cl (still P C n al eg em) (C ^ P))) (nI al) hr (nI P) (nI C) (nI (C ^ P)) (nI n) pn pg pq rl gcb gpb tg tm tl pm ps yg yq ym yr) := by
  have hB0 := hB
  obtain ⟨hV, hR, hE, ha, hh, hLs, hG, hTE, hLB, hg, hq, hL⟩ := hB
  have hg0 := hg
  obtain ⟨g0, g1, g2, g3, g4, g5⟩ := hg
  have hR2 := R2 hV
  have hP1 := hV.1
  have hP := hV.2.1
  have hn := hE.1
  have hcl := cl_le (still P C n al eg em) (C ^ P)
  have b1 := fun w => w_tell_f1 (w := w) (lc := nI (cl (still P C n al eg em) (C ^ P))) (la := nI al) (hr := hr) (tn := nI n) (rl := rl) (gcb := gcb) (gpb := gpb) (tg := tg) (tm := tm) (tl := tl) hV (nr_R (R := C ^ P) (by omega))
  have b2 := fun w => w_tell_f1 (w := w) (lc := nI (cl (still P C n al eg em) (C ^ P))) (la := nI al) (hr := hr) (tn := nI n) (rl := rl) (gcb := gcb) (gpb := gpb) (tg := tg) (tm := tm) (tl := tl) hV (nr_m1 (C ^ P))
  have pm1 : pf_X1_allows (nI P) (-nI 1) = some (nI 0) := by
    unfold pf_X1_allows
    exact if_neg (by decide)
  have b3 := w_tell_f2 (lc := nI (cl (still P C n al eg em) (C ^ P))) (la := nI al) (hr := hr) (tn := nI n) (rl := rl) (gcb := gcb) (gpb := gpb) (tg := tg) (tm := tm) (tl := tl) hV hrow pm1
  rcases t_poss hg0 hV v with ⟨m, m1, rfl, p1, p2⟩ | ⟨p1, p2⟩
  · have no : (n = 10 ∨ ∃ r, r < C ^ P ∧ hr = nI r ∧ al < nl P C eg em n r + (if mk P C row r = m then 0 else 1) ∧ nl P C eg em n r ≤ al) → KO (pf_L_keeps_j855 (nI row) (nI m) (nI (cl (still P C n al eg em) (C ^ P))) (nI al) hr (nI P) (nI C) (nI (C ^ P)) (nI n) pn pg pq rl gcb gpb tg tm tl pm ps yg yq ym yr) := by
      intro hc
      have e6 := w_tell_s (lc := nI (cl (still P C n al eg em) (C ^ P))) (rl := rl) (tg := tg) (tm := tm) hV hG hn ha hLB hrow m1 p1 hc
      simp (disch := omega) only [g_lit, nI_add, pk_mul, pk_div, g_sdm, pk_sub, g_clamp, ile_t, ile_f, ilt_t, ilt_f, ieq_t, ieq_f, ieq_r, gi_t, gd_t, gz0, gz1, gl_x, ob0_some, ob1_some, ob2_some, ob3_some, ob4_some, ob5_some, ob6_some, ob7_some, ob8_some, ob9_some, ob10_some, ob11_some, ob12_some, ob13_some, pf_L_keeps_j855, pf_L_keeps_j856, pf_L_keeps_j907, e6, b1, b3, g2, pk_un, pk_us, if_true, if_false, nn10, nn20, nn30, nn21, nn31, nn32]
      exact KO_i (LI_i hB0)
    have yes : n < 10 → (hr = -nI 1 ∨ ∃ r, r < C ^ P ∧ hr = nI r ∧ nl P C eg em n r + (if mk P C row r = m then 0 else 1) ≤ al) → KO (pf_L_keeps_j851 (nI row) (nI m) (nI (cl (still P C n al eg em) (C ^ P))) (nI al) hr (nI P) (nI C) (nI (C ^ P)) (nI n) pn pg pq rl gcb gpb tg tm tl pm ps yg yq ym yr) := by
      intro hf hc
      have hc2 : hr = -1 ∨ ∃ r, r < C ^ P ∧ hr = nI r ∧ nl P C eg em n r + (if mk P C row r = m then 0 else 1) ≤ al := hc.imp (fun z => z.trans m1_neg) id
      obtain ⟨rl1, tl1, e6, hL1, hB1⟩ := w_tell_t (lc := nI (cl (still P C n al eg em) (C ^ P))) (rl := rl) (tg := tg) (tm := tm) hV hG hf ha hLB hrow m1 p1 hc2
      have hE1 := ES_up hE hf hrow (by omega : m ≤ 99)
      have hGn : GI P C al (n + 1) hr (upd yg 5 (nI (n + 1))) := GI_n hg0
      obtain ⟨S, eS, hS⟩ := t_left hGn hV hR hL hE1 ha (ME_up hq)
      have e7 := t_many hR (Hs_SB hS)
      rw [Hs_cl hS] at e7
      simp (disch := omega) only [g_lit, nI_add, pk_mul, pk_div, g_sdm, pk_sub, g_clamp, ile_t, ile_f, ilt_t, ilt_f, ieq_t, ieq_f, ieq_r, gi_t, gd_t, gz0, gz1, gl_x, ob0_some, ob1_some, ob2_some, ob3_some, ob4_some, ob5_some, ob6_some, ob7_some, ob8_some, ob9_some, ob10_some, ob11_some, ob12_some, ob13_some, pf_L_keeps_j851, pf_L_keeps_j856, pf_L_keeps_j960, e6, eS, e7, g5, pk_un, pk_us, if_true, if_false, nn10, nn20, nn30, nn21, nn31, nn32]
      refine KO_i (LI_i ⟨hV, hR, hE1, ha, ?_, hL1, hG, ME_up hTE, hB1, hGn, ME_up hq, hL⟩)
      refine hc.imp id ?_
      rintro ⟨r, r1, r2, r3⟩
      have hnx := nl_next (P := P) (C := C) (n := n) (g := row) (m := m) (h := r) eg em
      exact ⟨r, r1, by omega, r2⟩
    by_cases hf : n = 10
    · have hx := no (Or.inl hf)
      simp (disch := omega) only [g_lit, nI_add, pk_mul, pk_div, g_sdm, pk_sub, g_clamp, ile_t, ile_f, ilt_t, ilt_f, ieq_t, ieq_f, ieq_r, gi_t, gd_t, gz0, gz1, gl_x, ob0_some, ob1_some, ob2_some, ob3_some, ob4_some, ob5_some, ob6_some, ob7_some, ob8_some, ob9_some, ob10_some, ob11_some, ob12_some, ob13_some, pf_L_keeps_j741, p2, g5, pk_un, pk_us, if_true, if_false, nn10, nn20, nn30, nn21, nn31, nn32]
      exact hx
    · rcases hh with rfl | ⟨r, r1, r2, rfl⟩
      · have hx := yes (by omega) (Or.inl rfl)
        simp (disch := omega) only [g_lit, nI_add, pk_mul, pk_div, g_sdm, pk_sub, g_clamp, ile_t, ile_f, ilt_t, ilt_f, ieq_t, ieq_f, ieq_r, gi_t, gd_t, gz0, gz1, gl_x, ob0_some, ob1_some, ob2_some, ob3_some, ob4_some, ob5_some, ob6_some, ob7_some, ob8_some, ob9_some, ob10_some, ob11_some, ob12_some, ob13_some, pf_L_keeps_j741, p2, g4, g5, m1_lt, pk_un, pk_us, if_true, if_false, nn10, nn20, nn30, nn21, nn31, nn32]
        exact hx
      · have e3 := t_lies hg0 hV hR hL hE hq r1
        have e7 := t_pins hg0 hV hR hL hrow r1
        have hm := mk80 hV row r
        have hnl := nl_le P C eg em n r
        by_cases q1 : mk P C row r = m
        · have hx := yes (by omega) (Or.inr ⟨r, r1, rfl, by rw [if_pos q1]; omega⟩)
          simp (disch := omega) only [g_lit, nI_add, pk_mul, pk_div, g_sdm, pk_sub, g_clamp, ile_t, ile_f, ilt_t, ilt_f, ieq_t, ieq_f, ieq_r, gi_t, gd_t, gz0, gz1, gl_x, ob0_some, ob1_some, ob2_some, ob3_some, ob4_some, ob5_some, ob6_some, ob7_some, ob8_some, ob9_some, ob10_some, ob11_some, ob12_some, ob13_some, pf_L_keeps_j741, pf_L_keeps_j844, p2, g3, g4, g5, e3, e7, q1, pk_un, pk_us, if_true, if_false, nn10, nn20, nn30, nn21, nn31, nn32]
          exact hx
        · by_cases q2 : nl P C eg em n r + 1 ≤ al
          · have hx := yes (by omega) (Or.inr ⟨r, r1, rfl, by rw [if_neg q1]; omega⟩)
            simp (disch := omega) only [g_lit, nI_add, pk_mul, pk_div, g_sdm, pk_sub, g_clamp, ile_t, ile_f, ilt_t, ilt_f, ieq_t, ieq_f, ieq_r, gi_t, gd_t, gz0, gz1, gl_x, ob0_some, ob1_some, ob2_some, ob3_some, ob4_some, ob5_some, ob6_some, ob7_some, ob8_some, ob9_some, ob10_some, ob11_some, ob12_some, ob13_some, pf_L_keeps_j741, pf_L_keeps_j844, p2, g3, g4, g5, e3, e7, pk_un, pk_us, if_true, if_false, nn10, nn20, nn30, nn21, nn31, nn32]
            exact hx
          · have hx := no (Or.inr ⟨r, r1, rfl, by rw [if_neg q1]; omega, r2⟩)
            simp (disch := omega) only [g_lit, nI_add, pk_mul, pk_div, g_sdm, pk_sub, g_clamp, ile_t, ile_f, ilt_t, ilt_f, ieq_t, ieq_f, ieq_r, gi_t, gd_t, gz0, gz1, gl_x, ob0_some, ob1_some, ob2_some, ob3_some, ob4_some, ob5_some, ob6_some, ob7_some, ob8_some, ob9_some, ob10_some, ob11_some, ob12_some, ob13_some, pf_L_keeps_j741, pf_L_keeps_j844, p2, g3, g4, g5, e3, e7, pk_un, pk_us, if_true, if_false, nn10, nn20, nn30, nn21, nn31, nn32]
            exact hx
  · have e6 := w_tell_f2 (lc := nI (cl (still P C n al eg em) (C ^ P))) (la := nI al) (hr := hr) (tn := nI n) (rl := rl) (gcb := gcb) (gpb := gpb) (tg := tg) (tm := tm) (tl := tl) hV hrow p1
    have e8 := w_psize_f2 (lc := nI (cl (still P C n al eg em) (C ^ P))) (pn := pn) (pg := pg) (pq := pq) (pm := pm) (ps := ps) (rl := rl) (gcb := gcb) (gpb := gpb) hV hrow p1
    simp (disch := omega) only [g_lit, nI_add, pk_mul, pk_div, g_sdm, pk_sub, g_clamp, ile_t, ile_f, ilt_t, ilt_f, ieq_t, ieq_f, ieq_r, gi_t, gd_t, gz0, gz1, gl_x, ob0_some, ob1_some, ob2_some, ob3_some, ob4_some, ob5_some, ob6_some, ob7_some, ob8_some, ob9_some, ob10_some, ob11_some, ob12_some, ob13_some, pf_L_keeps_j741, pf_L_keeps_j795, p2, e6, b2, e8, pk_un, pk_us, if_true, if_false, nn10, nn20, nn30, nn21, nn31, nn32]
    exact KO_i (LI_i hB0)
theorem k_tell_k {row oth : Nat} (v2 : Int32) (hrow : row < C ^ P) (ho : oth < C ^ P) (hB : BI P C n al eg em hr rl gcb gpb tg tm tl yg yq ym yr) : KO (pf_L_keeps_j676 v2 (nI row) (nI oth) (nI (cl (still P C n al eg em) (C ^ P))) (nI al) hr (nI P) (nI C) (nI (C ^ P)) (nI n) pn pg pq rl gcb gpb tg tm tl pm ps yg yq ym yr) := by
  have hB0 := hB
  obtain ⟨hV, hR, hE, ha, hh, hLs, hG, hTE, hLB, hg, hq, hL⟩ := hB
  have hg0 := hg
  obtain ⟨g0, g1, g2, g3, g4, g5⟩ := hg
  have hR2 := R2 hV
  have hP1 := hV.1
  have hP := hV.2.1
  have hn := hE.1
  have hcl := cl_le (still P C n al eg em) (C ^ P)
  have hx := fun v => k_tell_j (pn := pn) (pg := pg) (pq := pq) (pm := pm) (ps := ps) v hrow hB0
  by_cases q : (v2 &&& nI 786432) = nI 0
  · obtain ⟨x, hx1, ex⟩ := low_ok (v2 >>> (nI 20 &&& nI 31)) (m := P + 1) (by omega) (by omega)
    obtain ⟨y, hy1, ey⟩ := low_ok (v2 >>> (nI 24 &&& nI 31)) (m := 4) (by omega) (by omega)
    have qf : ((v2 &&& nI 786432) = nI 0) = True := eq_true q
    simp (disch := omega) only [g_lit, nI_add, pk_mul, pk_div, g_sdm, pk_sub, g_clamp, ile_t, ile_f, ilt_t, ilt_f, ieq_t, ieq_f, ieq_r, gi_t, gd_t, gz0, gz1, gl_x, ob0_some, ob1_some, ob2_some, ob3_some, ob4_some, ob5_some, ob6_some, ob7_some, ob8_some, ob9_some, ob10_some, ob11_some, ob12_some, ob13_some, pf_L_keeps_j676, qf, g0, ex, ey, pk_un, pk_us, if_true, if_false, nn10, nn20, nn30, nn21, nn31, nn32]
    exact hx _
  · have qf : ((v2 &&& nI 786432) = nI 0) = False := eq_false q
    have e1 := t_pins hg0 hV hR hL hrow ho
    rcases hh with rfl | ⟨r, r1, r2, rfl⟩
    · simp (disch := omega) only [g_lit, nI_add, pk_mul, pk_div, g_sdm, pk_sub, g_clamp, ile_t, ile_f, ilt_t, ilt_f, ieq_t, ieq_f, ieq_r, gi_t, gd_t, gz0, gz1, gl_x, ob0_some, ob1_some, ob2_some, ob3_some, ob4_some, ob5_some, ob6_some, ob7_some, ob8_some, ob9_some, ob10_some, ob11_some, ob12_some, ob13_some, pf_L_keeps_j676, pf_L_keeps_j736, pf_L_keeps_j738, qf, g4, m1_lt, e1, pk_un, pk_us, if_true, if_false, nn10, nn20, nn30, nn21, nn31, nn32]
      exact hx _
    · have e2 := t_pins hg0 hV hR hL hrow r1
      by_cases q2 : (v2 &&& nI 3145728) ≤ nI 0
      · have qg : ((v2 &&& nI 3145728) ≤ nI 0) = True := eq_true q2
        simp (disch := omega) only [g_lit, nI_add, pk_mul, pk_div, g_sdm, pk_sub, g_clamp, ile_t, ile_f, ilt_t, ilt_f, ieq_t, ieq_f, ieq_r, gi_t, gd_t, gz0, gz1, gl_x, ob0_some, ob1_some, ob2_some, ob3_some, ob4_some, ob5_some, ob6_some, ob7_some, ob8_some, ob9_some, ob10_some, ob11_some, ob12_some, ob13_some, pf_L_keeps_j676, pf_L_keeps_j736, pf_L_keeps_j738, qf, qg, g4, e1, pk_un, pk_us, if_true, if_false, nn10, nn20, nn30, nn21, nn31, nn32]
        exact hx _
      · have qg : ((v2 &&& nI 3145728) ≤ nI 0) = False := eq_false q2
        simp (disch := omega) only [g_lit, nI_add, pk_mul, pk_div, g_sdm, pk_sub, g_clamp, ile_t, ile_f, ilt_t, ilt_f, ieq_t, ieq_f, ieq_r, gi_t, gd_t, gz0, gz1, gl_x, ob0_some, ob1_some, ob2_some, ob3_some, ob4_some, ob5_some, ob6_some, ob7_some, ob8_some, ob9_some, ob10_some, ob11_some, ob12_some, ob13_some, pf_L_keeps_j676, pf_L_keeps_j736, pf_L_keeps_j738, qf, qg, g4, e2, pk_un, pk_us, if_true, if_false, nn10, nn20, nn30, nn21, nn31, nn32]
        exact hx _
theorem k_tell_L {S : Int64} {row : Nat} (v2 : Int32) (hrow : row < C ^ P) (hB : BI P C n al eg em hr rl gcb gpb tg tm tl yg yq ym yr) : ∀ d j oth, j ≤ C ^ P → C ^ P - j < d → oth < C ^ P → KO (pf_L_keeps_L635 v2 (nI row) S (nI (cl (still P C n al eg em) (C ^ P))) (nI al) hr (nI P) (nI C) (nI (C ^ P)) (nI n) pn pg pq rl gcb gpb tg tm tl pm ps yg yq ym yr d (nI oth) (nI j)) := by
  have hB0 := hB
  obtain ⟨hV, hR, hE, ha, hh, hLs, hG, hTE, hLB, hg, hq, hL⟩ := hB
  have hg0 := hg
  obtain ⟨g0, g1, g2, g3, g4, g5⟩ := hg
  have hR2 := R2 hV
  have hP1 := hV.1
  have hP := hV.2.1
  have hn := hE.1
  have hcl := cl_le (still P C n al eg em) (C ^ P)
  intro d
  induction d with
  | zero => intro j oth _ h; omega
  | succ d ih =>
    intro j oth h1 h2 ho
    have hx := k_tell_k (pn := pn) (pg := pg) (pq := pq) (pm := pm) (ps := ps) v2 hrow ho hB0
    rw [pf_L_keeps_L635.eq_2]
    have e4 := t_has S (r := oth) (by omega)
    by_cases e : j = C ^ P
    · subst e
      simp (disch := omega) only [g_lit, nI_add, pk_mul, pk_div, g_sdm, pk_sub, g_clamp, ile_t, ile_f, ilt_t, ilt_f, ieq_t, ieq_f, ieq_r, gi_t, gd_t, gz0, gz1, gl_x, ob0_some, ob1_some, ob2_some, ob3_some, ob4_some, ob5_some, ob6_some, ob7_some, ob8_some, ob9_some, ob10_some, ob11_some, ob12_some, ob13_some, g2, pk_un, pk_us, if_true, if_false, nn10, nn20, nn30, nn21, nn31, nn32]
      exact hx
    · cases q : bt S oth
      · rw [q] at e4
        have e4 : pf_L_has S (nI oth) = some (nI 0) := e4
        by_cases q2 : (v2 &&& nI 196608) ≤ nI 0
        · have qf : ((v2 &&& nI 196608) ≤ nI 0) = True := eq_true q2
          simp (disch := omega) only [g_lit, nI_add, pk_mul, pk_div, g_sdm, pk_sub, g_clamp, ile_t, ile_f, ilt_t, ilt_f, ieq_t, ieq_f, ieq_r, gi_t, gd_t, gz0, gz1, gl_x, ob0_some, ob1_some, ob2_some, ob3_some, ob4_some, ob5_some, ob6_some, ob7_some, ob8_some, ob9_some, ob10_some, ob11_some, ob12_some, ob13_some, g2, e4, qf, pk_un, pk_us, if_true, if_false, nn10, nn20, nn30, nn21, nn31, nn32]
          exact hx
        · have qf : ((v2 &&& nI 196608) ≤ nI 0) = False := eq_false q2
          simp (disch := omega) only [g_lit, nI_add, pk_mul, pk_div, g_sdm, pk_sub, g_clamp, ile_t, ile_f, ilt_t, ilt_f, ieq_t, ieq_f, ieq_r, gi_t, gd_t, gz0, gz1, gl_x, ob0_some, ob1_some, ob2_some, ob3_some, ob4_some, ob5_some, ob6_some, ob7_some, ob8_some, ob9_some, ob10_some, ob11_some, ob12_some, ob13_some, g2, e4, qf, pk_un, pk_us, if_true, if_false, nn10, nn20, nn30, nn21, nn31, nn32]
          exact ih (j + 1) _ (by omega) (by omega) (Nat.mod_lt _ (by omega))
      · rw [q] at e4
        have e4 : pf_L_has S (nI oth) = some (nI 1) := e4
        simp (disch := omega) only [g_lit, nI_add, pk_mul, pk_div, g_sdm, pk_sub, g_clamp, ile_t, ile_f, ilt_t, ilt_f, ieq_t, ieq_f, ieq_r, gi_t, gd_t, gz0, gz1, gl_x, ob0_some, ob1_some, ob2_some, ob3_some, ob4_some, ob5_some, ob6_some, ob7_some, ob8_some, ob9_some, ob10_some, ob11_some, ob12_some, ob13_some, g2, e4, pk_un, pk_us, if_true, if_false, nn10, nn20, nn30, nn21, nn31, nn32]
        exact hx
theorem k_tell5 (v2 : Int32) (hB : BI P C n al eg em hr rl gcb gpb tg tm tl yg yq ym yr) : KO (pf_L_keeps (nI (cl (still P C n al eg em) (C ^ P))) (nI al) hr (nI P) (nI C) (nI (C ^ P)) (nI n) pn pg pq rl gcb gpb tg tm tl pm ps yg yq ym yr (nI 5) v2) := by
  have hB0 := hB
  obtain ⟨hV, hR, hE, ha, hh, hLs, hG, hTE, hLB, hg, hq, hL⟩ := hB
  have hg0 := hg
  obtain ⟨g0, g1, g2, g3, g4, g5⟩ := hg
  have hR2 := R2 hV
  have hP1 := hV.1
  have hP := hV.2.1
  have hn := hE.1
  have hcl := cl_le (still P C n al eg em) (C ^ P)
  obtain ⟨row, hrow, er⟩ := low_ok v2 (m := C ^ P) (by omega) (by omega)
  obtain ⟨oth, hoth, eo⟩ := low_ok (v2 >>> (nI 7 &&& nI 31)) (m := C ^ P) (by omega) (by omega)
  obtain ⟨S, eS, hS⟩ := t_left hg0 hV hR hL hE ha hq
  have hx := k_tell_L (pn := pn) (pg := pg) (pq := pq) (pm := pm) (ps := ps) (S := S) v2 hrow hB0 100000 0 oth (Nat.zero_le _) (by omega) hoth
  have er2 : pf_L_low v2 (yg (2 : Int32).toNatClampNeg) = some (nI row) := by
    rw [k2, g2]
    exact er
  unfold pf_L_keeps
  refine KO_of (gi_t (i := 2) (by omega) (by omega)) ?_
  refine KO_of (oe1 er2) ?_
  refine KO_of (oe1 eS) ?_
  refine KO_of (if_neg (by decide : ¬ nI 5 = 0)) ?_
  refine KO_of (if_neg (by decide : ¬ nI 5 = 1)) ?_
  refine KO_of (if_neg (by decide : ¬ nI 5 = 2)) ?_
  refine KO_of (if_pos (by decide : (5 : Int32) ≤ nI 5)) ?_
  refine KO_of (if_neg (by decide : ¬ (9 : Int32) ≤ nI 5)) ?_
  simp (disch := omega) only [g_lit, nI_add, pk_mul, pk_div, g_sdm, pk_sub, g_clamp, ile_t, ile_f, ilt_t, ilt_f, ieq_t, ieq_f, ieq_r, gi_t, gd_t, gz0, gz1, gl_x, ob0_some, ob1_some, ob2_some, ob3_some, ob4_some, ob5_some, ob6_some, ob7_some, ob8_some, ob9_some, ob10_some, ob11_some, ob12_some, ob13_some, eo, g2, pk_un, pk_us, if_true, if_false, nn10, nn20, nn30, nn21, nn31, nn32]
  exact hx
theorem k_tell6 (v2 : Int32) (hB : BI P C n al eg em hr rl gcb gpb tg tm tl yg yq ym yr) : KO (pf_L_keeps (nI (cl (still P C n al eg em) (C ^ P))) (nI al) hr (nI P) (nI C) (nI (C ^ P)) (nI n) pn pg pq rl gcb gpb tg tm tl pm ps yg yq ym yr (nI 6) v2) := by
  have hB0 := hB
  obtain ⟨hV, hR, hE, ha, hh, hLs, hG, hTE, hLB, hg, hq, hL⟩ := hB
  have hg0 := hg
  obtain ⟨g0, g1, g2, g3, g4, g5⟩ := hg
  have hR2 := R2 hV
  have hP1 := hV.1
  have hP := hV.2.1
  have hn := hE.1
  have hcl := cl_le (still P C n al eg em) (C ^ P)
  obtain ⟨row, hrow, er⟩ := low_ok v2 (m := C ^ P) (by omega) (by omega)
  obtain ⟨oth, hoth, eo⟩ := low_ok (v2 >>> (nI 7 &&& nI 31)) (m := C ^ P) (by omega) (by omega)
  obtain ⟨S, eS, hS⟩ := t_left hg0 hV hR hL hE ha hq
  have hx := k_tell_L (pn := pn) (pg := pg) (pq := pq) (pm := pm) (ps := ps) (S := S) v2 hrow hB0 100000 0 oth (Nat.zero_le _) (by omega) hoth
  have er2 : pf_L_low v2 (yg (2 : Int32).toNatClampNeg) = some (nI row) := by
    rw [k2, g2]
    exact er
  unfold pf_L_keeps
  refine KO_of (gi_t (i := 2) (by omega) (by omega)) ?_
  refine KO_of (oe1 er2) ?_
  refine KO_of (oe1 eS) ?_
  refine KO_of (if_neg (by decide : ¬ nI 6 = 0)) ?_
  refine KO_of (if_neg (by decide : ¬ nI 6 = 1)) ?_
  refine KO_of (if_neg (by decide : ¬ nI 6 = 2)) ?_
  refine KO_of (if_pos (by decide : (5 : Int32) ≤ nI 6)) ?_
  refine KO_of (if_neg (by decide : ¬ (9 : Int32) ≤ nI 6)) ?_
  simp (disch := omega) only [g_lit, nI_add, pk_mul, pk_div, g_sdm, pk_sub, g_clamp, ile_t, ile_f, ilt_t, ilt_f, ieq_t, ieq_f, ieq_r, gi_t, gd_t, gz0, gz1, gl_x, ob0_some, ob1_some, ob2_some, ob3_some, ob4_some, ob5_some, ob6_some, ob7_some, ob8_some, ob9_some, ob10_some, ob11_some, ob12_some, ob13_some, eo, g2, pk_un, pk_us, if_true, if_false, nn10, nn20, nn30, nn21, nn31, nn32]
  exact hx
theorem k_tell7 (v2 : Int32) (hB : BI P C n al eg em hr rl gcb gpb tg tm tl yg yq ym yr) : KO (pf_L_keeps (nI (cl (still P C n al eg em) (C ^ P))) (nI al) hr (nI P) (nI C) (nI (C ^ P)) (nI n) pn pg pq rl gcb gpb tg tm tl pm ps yg yq ym yr (nI 7) v2) := by
  have hB0 := hB
  obtain ⟨hV, hR, hE, ha, hh, hLs, hG, hTE, hLB, hg, hq, hL⟩ := hB
  have hg0 := hg
  obtain ⟨g0, g1, g2, g3, g4, g5⟩ := hg
  have hR2 := R2 hV
  have hP1 := hV.1
  have hP := hV.2.1
  have hn := hE.1
  have hcl := cl_le (still P C n al eg em) (C ^ P)
  obtain ⟨row, hrow, er⟩ := low_ok v2 (m := C ^ P) (by omega) (by omega)
  obtain ⟨oth, hoth, eo⟩ := low_ok (v2 >>> (nI 7 &&& nI 31)) (m := C ^ P) (by omega) (by omega)
  obtain ⟨S, eS, hS⟩ := t_left hg0 hV hR hL hE ha hq
  have hx := k_tell_L (pn := pn) (pg := pg) (pq := pq) (pm := pm) (ps := ps) (S := S) v2 hrow hB0 100000 0 oth (Nat.zero_le _) (by omega) hoth
  have er2 : pf_L_low v2 (yg (2 : Int32).toNatClampNeg) = some (nI row) := by
    rw [k2, g2]
    exact er
  unfold pf_L_keeps
  refine KO_of (gi_t (i := 2) (by omega) (by omega)) ?_
  refine KO_of (oe1 er2) ?_
  refine KO_of (oe1 eS) ?_
  refine KO_of (if_neg (by decide : ¬ nI 7 = 0)) ?_
  refine KO_of (if_neg (by decide : ¬ nI 7 = 1)) ?_
  refine KO_of (if_neg (by decide : ¬ nI 7 = 2)) ?_
  refine KO_of (if_pos (by decide : (5 : Int32) ≤ nI 7)) ?_
  refine KO_of (if_neg (by decide : ¬ (9 : Int32) ≤ nI 7)) ?_
  simp (disch := omega) only [g_lit, nI_add, pk_mul, pk_div, g_sdm, pk_sub, g_clamp, ile_t, ile_f, ilt_t, ilt_f, ieq_t, ieq_f, ieq_r, gi_t, gd_t, gz0, gz1, gl_x, ob0_some, ob1_some, ob2_some, ob3_some, ob4_some, ob5_some, ob6_some, ob7_some, ob8_some, ob9_some, ob10_some, ob11_some, ob12_some, ob13_some, eo, g2, pk_un, pk_us, if_true, if_false, nn10, nn20, nn30, nn21, nn31, nn32]
  exact hx
theorem k_tell8 (v2 : Int32) (hB : BI P C n al eg em hr rl gcb gpb tg tm tl yg yq ym yr) : KO (pf_L_keeps (nI (cl (still P C n al eg em) (C ^ P))) (nI al) hr (nI P) (nI C) (nI (C ^ P)) (nI n) pn pg pq rl gcb gpb tg tm tl pm ps yg yq ym yr (nI 8) v2) := by
  have hB0 := hB
  obtain ⟨hV, hR, hE, ha, hh, hLs, hG, hTE, hLB, hg, hq, hL⟩ := hB
  have hg0 := hg
  obtain ⟨g0, g1, g2, g3, g4, g5⟩ := hg
  have hR2 := R2 hV
  have hP1 := hV.1
  have hP := hV.2.1
  have hn := hE.1
  have hcl := cl_le (still P C n al eg em) (C ^ P)
  obtain ⟨row, hrow, er⟩ := low_ok v2 (m := C ^ P) (by omega) (by omega)
  obtain ⟨oth, hoth, eo⟩ := low_ok (v2 >>> (nI 7 &&& nI 31)) (m := C ^ P) (by omega) (by omega)
  obtain ⟨S, eS, hS⟩ := t_left hg0 hV hR hL hE ha hq
  have hx := k_tell_L (pn := pn) (pg := pg) (pq := pq) (pm := pm) (ps := ps) (S := S) v2 hrow hB0 100000 0 oth (Nat.zero_le _) (by omega) hoth
  have er2 : pf_L_low v2 (yg (2 : Int32).toNatClampNeg) = some (nI row) := by
    rw [k2, g2]
    exact er
  unfold pf_L_keeps
  refine KO_of (gi_t (i := 2) (by omega) (by omega)) ?_
  refine KO_of (oe1 er2) ?_
  refine KO_of (oe1 eS) ?_
  refine KO_of (if_neg (by decide : ¬ nI 8 = 0)) ?_
  refine KO_of (if_neg (by decide : ¬ nI 8 = 1)) ?_
  refine KO_of (if_neg (by decide : ¬ nI 8 = 2)) ?_
  refine KO_of (if_pos (by decide : (5 : Int32) ≤ nI 8)) ?_
  refine KO_of (if_neg (by decide : ¬ (9 : Int32) ≤ nI 8)) ?_
  simp (disch := omega) only [g_lit, nI_add, pk_mul, pk_div, g_sdm, pk_sub, g_clamp, ile_t, ile_f, ilt_t, ilt_f, ieq_t, ieq_f, ieq_r, gi_t, gd_t, gz0, gz1, gl_x, ob0_some, ob1_some, ob2_some, ob3_some, ob4_some, ob5_some, ob6_some, ob7_some, ob8_some, ob9_some, ob10_some, ob11_some, ob12_some, ob13_some, eo, g2, pk_un, pk_us, if_true, if_false, nn10, nn20, nn30, nn21, nn31, nn32]
  exact hx
theorem k_back (v2 : Int32) (hB : BI P C n al eg em hr rl gcb gpb tg tm tl yg yq ym yr) : KO (pf_L_keeps (nI (cl (still P C n al eg em) (C ^ P))) (nI al) hr (nI P) (nI C) (nI (C ^ P)) (nI n) pn pg pq rl gcb gpb tg tm tl pm ps yg yq ym yr (nI 9) v2) := by
  have hB0 := hB
  obtain ⟨hV, hR, hE, ha, hh, hLs, hG, hTE, hLB, hg, hq, hL⟩ := hB
  have hg0 := hg
  obtain ⟨g0, g1, g2, g3, g4, g5⟩ := hg
  have hR2 := R2 hV
  have hP1 := hV.1
  have hP := hV.2.1
  have hn := hE.1
  have hcl := cl_le (still P C n al eg em) (C ^ P)
  obtain ⟨row, hrow, er⟩ := low_ok v2 (m := C ^ P) (by omega) (by omega)
  obtain ⟨S, eS, hS⟩ := t_left hg0 hV hR hL hE ha hq
  cases n with
  | zero =>
    have e6 := w_back_0 (lc := nI (cl (still P C 0 al eg em) (C ^ P))) (la := nI al) (uR := nI (C ^ P)) (rl := rl) (tl := tl)
    have er2 : pf_L_low v2 (yg (2 : Int32).toNatClampNeg) = some (nI row) := by
      rw [k2, g2]
      exact er
    unfold pf_L_keeps
    refine KO_of (gi_t (i := 2) (by omega) (by omega)) ?_
    refine KO_of (oe1 er2) ?_
    refine KO_of (oe1 eS) ?_
    refine KO_of (if_neg (by decide : ¬ nI 9 = 0)) ?_
    refine KO_of (if_neg (by decide : ¬ nI 9 = 1)) ?_
    refine KO_of (if_neg (by decide : ¬ nI 9 = 2)) ?_
    refine KO_of (if_pos (by decide : (5 : Int32) ≤ nI 9)) ?_
    refine KO_of (if_pos (by decide : (9 : Int32) ≤ nI 9)) ?_
    simp (disch := omega) only [g_lit, nI_add, pk_mul, pk_div, g_sdm, pk_sub, g_clamp, ile_t, ile_f, ilt_t, ilt_f, ieq_t, ieq_f, ieq_r, gi_t, gd_t, gz0, gz1, gl_x, ob0_some, ob1_some, ob2_some, ob3_some, ob4_some, ob5_some, ob6_some, ob7_some, ob8_some, ob9_some, ob10_some, ob11_some, ob12_some, ob13_some, pf_L_keeps_j981, e6, g5, pk_un, pk_us, if_true, if_false, nn10, nn20, nn30, nn21, nn31, nn32]
    exact KO_i (LI_i hB0)
  | succ n =>
    obtain ⟨rl1, tl1, e6, hL1, hB1⟩ := w_back_t (lc := nI (cl (still P C (n + 1) al eg em) (C ^ P))) (rl := rl) hV (by omega) ha hLB
    have hE1 : ES P C n eg em := ⟨by omega, fun i hi => hE.2 i (by omega)⟩
    have hq1 : ME n eg em yq ym := fun i hi => hq i (by omega)
    have hT1 : ME n eg em tg tm := fun i hi => hTE i (by omega)
    have hGn : GI P C al n hr (upd yg 5 (nI n)) := GI_n hg0
    obtain ⟨S2, eS2, hS2⟩ := t_left hGn hV hR hL hE1 ha hq1
    have e7 := t_many hR (Hs_SB hS2)
    rw [Hs_cl hS2] at e7
    have e8 : nI (n + 1) - nI 1 = nI n := by rw [pk_sub (by omega)]; congr 1
    have er2 : pf_L_low v2 (yg (2 : Int32).toNatClampNeg) = some (nI row) := by
      rw [k2, g2]
      exact er
    unfold pf_L_keeps
    refine KO_of (gi_t (i := 2) (by omega) (by omega)) ?_
    refine KO_of (oe1 er2) ?_
    refine KO_of (oe1 eS) ?_
    refine KO_of (if_neg (by decide : ¬ nI 9 = 0)) ?_
    refine KO_of (if_neg (by decide : ¬ nI 9 = 1)) ?_
    refine KO_of (if_neg (by decide : ¬ nI 9 = 2)) ?_
    refine KO_of (if_pos (by decide : (5 : Int32) ≤ nI 9)) ?_
    refine KO_of (if_pos (by decide : (9 : Int32) ≤ nI 9)) ?_
    simp (disch := omega) only [g_lit, nI_add, pk_mul, pk_div, g_sdm, pk_sub, g_clamp, ile_t, ile_f, ilt_t, ilt_f, ieq_t, ieq_f, ieq_r, gi_t, gd_t, gz0, gz1, gl_x, ob0_some, ob1_some, ob2_some, ob3_some, ob4_some, ob5_some, ob6_some, ob7_some, ob8_some, ob9_some, ob10_some, ob11_some, ob12_some, ob13_some, pf_L_keeps_j1014, e6, eS2, e7, e8, g5, pk_un, pk_us, if_true, if_false, nn10, nn20, nn30, nn21, nn31, nn32]
    refine KO_i (LI_i ⟨hV, hR, hE1, ha, ?_, hL1, hG, hT1, hB1, hGn, hq1, hL⟩)
    refine hh.imp id ?_
    rintro ⟨r, r1, r2, r3⟩
    exact ⟨r, r1, Nat.le_trans (Nat.le_add_right _ _) r2, r3⟩
theorem k_all {a : Nat} (v2 : Int32) (h9 : a ≤ 9) (hB : BI P C n al eg em hr rl gcb gpb tg tm tl yg yq ym yr) : KO (pf_L_keeps (nI (cl (still P C n al eg em) (C ^ P))) (nI al) hr (nI P) (nI C) (nI (C ^ P)) (nI n) pn pg pq rl gcb gpb tg tm tl pm ps yg yq ym yr (nI a) v2) := by
  have hB0 := hB
  obtain ⟨hV, hR, hE, ha, hh, hLs, hG, hTE, hLB, hg, hq, hL⟩ := hB
  have hg0 := hg
  obtain ⟨g0, g1, g2, g3, g4, g5⟩ := hg
  have hR2 := R2 hV
  have hP1 := hV.1
  have hP := hV.2.1
  have hn := hE.1
  have hcl := cl_le (still P C n al eg em) (C ^ P)
  have hc : a = 0 ∨ a = 1 ∨ a = 2 ∨ a = 3 ∨ a = 4 ∨ a = 5 ∨ a = 6 ∨ a = 7 ∨ a = 8 ∨ a = 9 := by omega
  rcases hc with rfl | rfl | rfl | rfl | rfl | rfl | rfl | rfl | rfl | rfl
  · by_cases q : (v2 &&& nI 6) ≤ nI 0
    · exact k_begin_t v2 q hB0
    · exact k_begin_f v2 q hB0
  · exact k_allow v2 hB0
  · exact k_hide v2 hB0
  · exact k_guess3 v2 hB0
  · exact k_guess4 v2 hB0
  · exact k_tell5 v2 hB0
  · exact k_tell6 v2 hB0
  · exact k_tell7 v2 hB0
  · exact k_tell8 v2 hB0
  · exact k_back v2 hB0
end

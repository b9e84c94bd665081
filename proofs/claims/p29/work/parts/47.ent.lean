/-! an entry more, an entry less; the lies told anew -/
theorem upd_low {f : Nat → Int32} {k j : Nat} {x : Int32} (h : j < k) : upd f k x j = f j := pk_un (by omega)
/-- entries with one more -/
def eup (f : Nat → Nat) (n x : Nat) : Nat → Nat := fun i => if i = n then x else f i
theorem eup_s (f : Nat → Nat) (n x : Nat) : eup f n x n = x := if_pos rfl
theorem eup_n {f : Nat → Nat} {n x i : Nat} (h : i ≠ n) : eup f n x i = f i := if_neg h
theorem lie_up {P C : Nat} {eg em : Nat → Nat} {n g m i r : Nat} (h : i < n) : lie P C (eup eg n g) (eup em n m) i r = lie P C eg em i r := by
  unfold lie
  rw [eup_n (by omega), eup_n (by omega)]
theorem nl_up {P C : Nat} {eg em : Nat → Nat} {n g m r : Nat} : ∀ i, i ≤ n → nl P C (eup eg n g) (eup em n m) i r = nl P C eg em i r
  | 0, _ => rfl
  | i + 1, h => by
    simp only [nl]
    rw [nl_up i (by omega), lie_up (by omega)]
theorem lb_up {P C : Nat} {eg em : Nat → Nat} {n g m r : Nat} : ∀ i, i ≤ n → lb P C (eup eg n g) (eup em n m) i r = lb P C eg em i r
  | 0, _ => rfl
  | i + 1, h => by
    simp only [lb]
    rw [lb_up i (by omega), lie_up (by omega)]
theorem ES_up {P C n g m : Nat} {eg em : Nat → Nat} (h : ES P C n eg em) (hn : n < 10) (hg : g < C ^ P) (hm : m ≤ 99) : ES P C (n + 1) (eup eg n g) (eup em n m) := by
  refine ⟨by omega, fun i hi => ?_⟩
  by_cases e : i = n
  · subst e
    rw [eup_s, eup_s]
    exact ⟨hg, hm⟩
  · rw [eup_n e, eup_n e]
    exact h.2 i (by omega)
theorem ME_up {n g m : Nat} {eg em : Nat → Nat} {mg mt : Nat → Int32} (h : ME n eg em mg mt) : ME (n + 1) (eup eg n g) (eup em n m) (upd mg n (nI g)) (upd mt n (nI m)) := by
  intro i hi
  by_cases e : i = n
  · subst e
    rw [eup_s, eup_s, pk_us, pk_us]
    exact ⟨rfl, rfl⟩
  · rw [eup_n e, eup_n e, pk_un e, pk_un e]
    exact h i (by omega)
theorem s_add_L {P C n g m : Nat} {eg em : Nat → Nat} {gcb : Nat → Int32} {gpb : Nat → Int64} (tn : Int32) (tg tm : Nat → Int32) (hV : VG P C) (hG : laid P C (C ^ P) gcb gpb) (hn : n < 10) (hg : g < C ^ P) (hm : m ≤ 99) : ∀ d j tl, j ≤ C ^ P → C ^ P - j < d → (∀ r, r < C ^ P → tl r = nI (if r < j then lb P C (eup eg n g) (eup em n m) (n + 1) r else lb P C eg em n r)) → ∃ tl', pf_X0_add_L47 (nI g) (nI m) (nI P) (nI (C ^ P)) gcb gpb tn tg tm d (nI j) tl = some (tn, tg, tm, tl') ∧ LB P C (n + 1) (eup eg n g) (eup em n m) tl' := by
  intro d
  have hR := hV.2.2.2.2
  induction d with
  | zero => intro j tl _ h; omega
  | succ d ih =>
    intro j tl hj hd hl
    rw [pf_X0_add_L47.eq_2]
    by_cases q : j = C ^ P
    · rw [q] at hl ⊢
      refine ⟨tl, ?_, fun r hr => ?_⟩
      · simp (disch := omega) only [g_lit, nI_add, pk_mul, pk_div, g_sdm, pk_sub, g_clamp, ile_t, ile_f, ilt_t, ilt_f, ieq_t, ieq_f, ieq_r, gi_t, gd_t, gz0, gz1, gl_x, ob0_some, ob1_some, ob2_some, ob3_some, ob4_some, ob5_some, ob6_some, ob7_some, ob8_some, ob9_some, ob10_some, ob11_some, ob12_some, ob13_some, pf_X0_add_j14, pf_X0_add_j108, pf_X0_add_j83, pf_X0_add]
      · rw [hl r hr, if_pos hr]
    · have e1 := cmp hV hG hg (by omega : j < C ^ P)
      have b1 := mk80 hV g j
      have e2 := hl j (by omega)
      rw [if_neg (Nat.lt_irrefl j)] at e2
      have b2 := lb_lt P C eg em n j
      have b3 := p10 (by omega : n ≤ 10)
      have e3 : nI (lb P C eg em n j) <<< (nI 1 &&& nI 31) = nI (lb P C eg em n j * 2 ^ 1) := shl_m (by decide) (by omega)
      have key : ∀ b : Nat, b = lie P C (eup eg n g) (eup em n m) n j → b ≤ 1 → nI (lb P C eg em n j * 2 ^ 1) ||| nI b = nI (lb P C (eup eg n g) (eup em n m) (n + 1) j) := by
        intro b hb hb1
        have h1 := or_add (a := b) (b := lb P C eg em n j) (k := 1) (by omega)
        have h2 : nI (lb P C eg em n j * 2 ^ 1) ||| nI b = nI b ||| nI (lb P C eg em n j * 2 ^ 1) := by rw [fa_or, fa_or, Nat.or_comm]
        rw [h2, h1]
        congr 1
        simp only [lb]
        rw [lb_up n (Nat.le_refl n), ← hb]
        omega
      have nxt : ∀ b : Nat, b = lie P C (eup eg n g) (eup em n m) n j → b ≤ 1 → ∀ r, r < C ^ P → upd tl j (nI (lb P C eg em n j * 2 ^ 1) ||| nI b) r = nI (if r < j + 1 then lb P C (eup eg n g) (eup em n m) (n + 1) r else lb P C eg em n r) := by
        intro b hb hb1 r hr
        rw [key b hb hb1]
        by_cases e : r = j
        · subst e
          rw [pk_us, if_pos (Nat.lt_succ_self r)]
        · rw [pk_un e, hl r hr]
          congr 1
          by_cases e4 : r < j
          · rw [if_pos e4, if_pos (by omega)]
          · rw [if_neg e4, if_neg (by omega)]
      by_cases h : mk P C g j = m
      · have hb : 0 = lie P C (eup eg n g) (eup em n m) n j := by unfold lie; rw [eup_s, eup_s, if_pos h]
        simp (disch := omega) only [g_lit, nI_add, pk_mul, pk_div, g_sdm, pk_sub, g_clamp, ile_t, ile_f, ilt_t, ilt_f, ieq_t, ieq_f, ieq_r, gi_t, gd_t, gz0, gz1, gl_x, ob0_some, ob1_some, ob2_some, ob3_some, ob4_some, ob5_some, ob6_some, ob7_some, ob8_some, ob9_some, ob10_some, ob11_some, ob12_some, ob13_some, e1, e2, e3, pf_X0_add_j14, pf_X0_add_j108, pf_X0_add_j83, pf_X0_add]
        exact ih (j + 1) _ (by omega) (by omega) (nxt 0 hb (by decide))
      · have hb : 1 = lie P C (eup eg n g) (eup em n m) n j := by unfold lie; rw [eup_s, eup_s, if_neg h]
        simp (disch := omega) only [g_lit, nI_add, pk_mul, pk_div, g_sdm, pk_sub, g_clamp, ile_t, ile_f, ilt_t, ilt_f, ieq_t, ieq_f, ieq_r, gi_t, gd_t, gz0, gz1, gl_x, ob0_some, ob1_some, ob2_some, ob3_some, ob4_some, ob5_some, ob6_some, ob7_some, ob8_some, ob9_some, ob10_some, ob11_some, ob12_some, ob13_some, e1, e2, e3, pf_X0_add_j14, pf_X0_add_j108, pf_X0_add_j83, pf_X0_add]
        exact ih (j + 1) _ (by omega) (by omega) (nxt 1 hb (by decide))
theorem s_add {P C n g m : Nat} {eg em : Nat → Nat} {gcb : Nat → Int32} {gpb : Nat → Int64} {tl : Nat → Int32} (tg tm : Nat → Int32) (hV : VG P C) (hG : laid P C (C ^ P) gcb gpb) (hn : n < 10) (hg : g < C ^ P) (hm : m ≤ 99) (hl : LB P C n eg em tl) : ∃ tl', pf_X0_add (nI P) (nI (C ^ P)) (nI n) gcb gpb tg tm tl (nI g) (nI m) = some (nI (n + 1), upd tg n (nI g), upd tm n (nI m), tl') ∧ LB P C (n + 1) (eup eg n g) (eup em n m) tl' := by
  obtain ⟨tl', e, h⟩ := s_add_L (eg := eg) (em := em) (nI (n + 1)) (upd tg n (nI g)) (upd tm n (nI m)) hV hG hn hg hm 100000 0 tl (Nat.zero_le _) (by have := hV.2.2.2.2; omega) (fun r hr => by rw [hl r hr, if_neg (Nat.not_lt_zero r)])
  refine ⟨tl', ?_, h⟩
  have hf := s_isFull (by omega : n ≤ 10)
  rw [if_pos hn] at hf
  rw [← e]
  unfold pf_X0_add
  simp (disch := omega) only [g_lit, nI_add, pk_mul, pk_div, g_sdm, pk_sub, g_clamp, ile_t, ile_f, ilt_t, ilt_f, ieq_t, ieq_f, ieq_r, gi_t, gd_t, gz0, gz1, gl_x, ob0_some, ob1_some, ob2_some, ob3_some, ob4_some, ob5_some, ob6_some, ob7_some, ob8_some, ob9_some, ob10_some, ob11_some, ob12_some, ob13_some, hf, if_true]
theorem s_drop_L {P C n : Nat} {eg em : Nat → Nat} (tn : Int32) (hV : VG P C) (hn : n < 10) : ∀ d j tl, j ≤ C ^ P → C ^ P - j < d → (∀ r, r < C ^ P → tl r = nI (if r < j then lb P C eg em n r else lb P C eg em (n + 1) r)) → ∃ tl', pf_X0_dropLatest_L12 (nI (C ^ P)) tn d (nI j) tl = some (tn, tl') ∧ LB P C n eg em tl' := by
  intro d
  have hR := hV.2.2.2.2
  induction d with
  | zero => intro j tl _ h; omega
  | succ d ih =>
    intro j tl hj hd hl
    rw [pf_X0_dropLatest_L12.eq_2]
    by_cases q : j = C ^ P
    · rw [q] at hl ⊢
      refine ⟨tl, ?_, fun r hr => ?_⟩
      · simp (disch := omega) only [g_lit, nI_add, pk_mul, pk_div, g_sdm, pk_sub, g_clamp, ile_t, ile_f, ilt_t, ilt_f, ieq_t, ieq_f, ieq_r, gi_t, gd_t, gz0, gz1, gl_x, ob0_some, ob1_some, ob2_some, ob3_some, ob4_some, ob5_some, ob6_some, ob7_some, ob8_some, ob9_some, ob10_some, ob11_some, ob12_some, ob13_some, pf_X0_dropLatest_j46, pf_X0_dropLatest]
      · rw [hl r hr, if_pos hr]
    · have e2 := hl j (by omega)
      rw [if_neg (Nat.lt_irrefl j)] at e2
      have b2 := lb_lt P C eg em (n + 1) j
      have b3 := p10 (by omega : n + 1 ≤ 10)
      have e3 : nI (lb P C eg em (n + 1) j) >>> (nI 1 &&& nI 31) = nI (lb P C eg em (n + 1) j / 2 ^ 1) := shr_m (by decide) (by omega)
      have e4 : lb P C eg em (n + 1) j / 2 ^ 1 = lb P C eg em n j := by
        have := lie_le P C eg em n j
        simp only [lb]
        omega
      simp (disch := omega) only [g_lit, nI_add, pk_mul, pk_div, g_sdm, pk_sub, g_clamp, ile_t, ile_f, ilt_t, ilt_f, ieq_t, ieq_f, ieq_r, gi_t, gd_t, gz0, gz1, gl_x, ob0_some, ob1_some, ob2_some, ob3_some, ob4_some, ob5_some, ob6_some, ob7_some, ob8_some, ob9_some, ob10_some, ob11_some, ob12_some, ob13_some, e2, e3]
      rw [e4]
      refine ih (j + 1) _ (by omega) (by omega) (fun r hr => ?_)
      by_cases e : r = j
      · subst e
        rw [pk_us, if_pos (Nat.lt_succ_self r)]
      · rw [pk_un e, hl r hr]
        congr 1
        by_cases e4 : r < j
        · rw [if_pos e4, if_pos (by omega)]
        · rw [if_neg e4, if_neg (by omega)]
theorem s_drop {P C n : Nat} {eg em : Nat → Nat} {tl : Nat → Int32} (hV : VG P C) (hn : n < 10) (hl : LB P C (n + 1) eg em tl) : ∃ tl', pf_X0_dropLatest (nI (C ^ P)) (nI (n + 1)) tl = some (nI n, tl') ∧ LB P C n eg em tl' := by
  obtain ⟨tl', e, h⟩ := s_drop_L (eg := eg) (em := em) (nI n) hV hn 100000 0 tl (Nat.zero_le _) (by have := hV.2.2.2.2; omega) (fun r hr => by rw [hl r hr, if_neg (Nat.not_lt_zero r)])
  refine ⟨tl', ?_, h⟩
  rw [← e]
  unfold pf_X0_dropLatest
  simp (disch := omega) only [g_lit, nI_add, pk_mul, pk_div, g_sdm, pk_sub, g_clamp, ile_t, ile_f, ilt_t, ilt_f, ieq_t, ieq_f, ieq_r, gi_t, gd_t, gz0, gz1, gl_x, ob0_some, ob1_some, ob2_some, ob3_some, ob4_some, ob5_some, ob6_some, ob7_some, ob8_some, ob9_some, ob10_some, ob11_some, ob12_some, ob13_some]
  rw [Nat.add_sub_cancel]
/-- the class's entries -/
theorem s_anew_L {P C n r : Nat} {eg em : Nat → Nat} {gcb : Nat → Int32} {gpb : Nat → Int64} {tg tm : Nat → Int32} (hV : VG P C) (hG : laid P C (C ^ P) gcb gpb) (hE : ES P C n eg em) (hM : ME n eg em tg tm) (hr : r < C ^ P) : ∀ d i, i ≤ n → n - i < d → pf_X0_countLiesAnew_L4 (nI r) (nI P) (nI (C ^ P)) (nI n) gcb gpb tg tm d (nI (nl P C eg em i r)) (nI i) = some (nI (nl P C eg em n r)) := by
  intro d
  have h10 := hE.1
  induction d with
  | zero => intro i _ h; omega
  | succ d ih =>
    intro i hi hd
    rw [pf_X0_countLiesAnew_L4.eq_2]
    by_cases q : i = n
    · subst q
      simp (disch := omega) only [g_lit, nI_add, pk_mul, pk_div, g_sdm, pk_sub, g_clamp, ile_t, ile_f, ilt_t, ilt_f, ieq_t, ieq_f, ieq_r, gi_t, gd_t, gz0, gz1, gl_x, ob0_some, ob1_some, ob2_some, ob3_some, ob4_some, ob5_some, ob6_some, ob7_some, ob8_some, ob9_some, ob10_some, ob11_some, ob12_some, ob13_some, pf_X0_countLiesAnew_j50, pf_X0_countLiesAnew_j44, pf_X0_countLiesAnew]
    · obtain ⟨e1, e2⟩ := hM i (by omega)
      obtain ⟨g1, g2⟩ := hE.2 i (by omega)
      have e3 := cmp hV hG g1 hr
      have hk := mk80 hV (eg i) r
      by_cases h : mk P C (eg i) r = em i
      · have el : nl P C eg em (i + 1) r = nl P C eg em i r + 0 := by simp only [nl, lie]; rw [if_pos h]
        rw [← h] at e2
        simp (disch := omega) only [g_lit, nI_add, pk_mul, pk_div, g_sdm, pk_sub, g_clamp, ile_t, ile_f, ilt_t, ilt_f, ieq_t, ieq_f, ieq_r, gi_t, gd_t, gz0, gz1, gl_x, ob0_some, ob1_some, ob2_some, ob3_some, ob4_some, ob5_some, ob6_some, ob7_some, ob8_some, ob9_some, ob10_some, ob11_some, ob12_some, ob13_some, e1, e2, e3, pf_X0_countLiesAnew_j50, pf_X0_countLiesAnew_j44, pf_X0_countLiesAnew]
        rw [← Nat.add_zero (nl P C eg em i r), ← el]
        exact ih (i + 1) (by omega) (by omega)
      · have el : nl P C eg em (i + 1) r = nl P C eg em i r + 1 := by simp only [nl, lie]; rw [if_neg h]
        simp (disch := omega) only [g_lit, nI_add, pk_mul, pk_div, g_sdm, pk_sub, g_clamp, ile_t, ile_f, ilt_t, ilt_f, ieq_t, ieq_f, ieq_r, gi_t, gd_t, gz0, gz1, gl_x, ob0_some, ob1_some, ob2_some, ob3_some, ob4_some, ob5_some, ob6_some, ob7_some, ob8_some, ob9_some, ob10_some, ob11_some, ob12_some, ob13_some, e1, e2, e3, pf_X0_countLiesAnew_j50, pf_X0_countLiesAnew_j44, pf_X0_countLiesAnew]
        rw [← el]
        exact ih (i + 1) (by omega) (by omega)
theorem s_anew {P C n r : Nat} {eg em : Nat → Nat} {gcb : Nat → Int32} {gpb : Nat → Int64} {tg tm : Nat → Int32} (hV : VG P C) (hG : laid P C (C ^ P) gcb gpb) (hE : ES P C n eg em) (hM : ME n eg em tg tm) (hr : r < C ^ P) : pf_X0_countLiesAnew (nI P) (nI (C ^ P)) (nI n) gcb gpb tg tm (nI r) = some (nI (nl P C eg em n r)) :=
  s_anew_L hV hG hE hM hr 100000 0 (Nat.zero_le _) (by have := hE.1; omega)
theorem s_eguess {n i : Nat} {tg : Nat → Int32} (hn : n ≤ 10) (hi : i < n) : pf_X0_guessAt (nI n) tg (nI i) = some (tg i) := by
  simp (disch := omega) only [g_lit, nI_add, pk_mul, pk_div, g_sdm, pk_sub, g_clamp, ile_t, ile_f, ilt_t, ilt_f, ieq_t, ieq_f, ieq_r, gi_t, gd_t, gz0, gz1, gl_x, ob0_some, ob1_some, ob2_some, ob3_some, ob4_some, ob5_some, ob6_some, ob7_some, ob8_some, ob9_some, ob10_some, ob11_some, ob12_some, ob13_some, pf_X0_guessAt_j18, pf_X0_guessAt, s_ehas_t hn hi]
theorem s_emark {n i : Nat} {tm : Nat → Int32} (hn : n ≤ 10) (hi : i < n) : pf_X0_markAt (nI n) tm (nI i) = some (tm i) := by
  simp (disch := omega) only [g_lit, nI_add, pk_mul, pk_div, g_sdm, pk_sub, g_clamp, ile_t, ile_f, ilt_t, ilt_f, ieq_t, ieq_f, ieq_r, gi_t, gd_t, gz0, gz1, gl_x, ob0_some, ob1_some, ob2_some, ob3_some, ob4_some, ob5_some, ob6_some, ob7_some, ob8_some, ob9_some, ob10_some, ob11_some, ob12_some, ob13_some, pf_X0_markAt_j18, pf_X0_markAt, s_ehas_t hn hi]
/-- forgetting all: the row of noughts -/
theorem s_fill_L {N : Nat} {v : Int32} (hN : N < 2147483648) : ∀ d j f, j ≤ N → N - j < d → (∀ i, i < j → f i = v) → ∃ f', pf_J7_fill_53178_L5 v N (nI N) d (nI j) f = some f' ∧ ∀ i, i < N → f' i = v := by
  intro d
  induction d with
  | zero => intro j f _ h; omega
  | succ d ih =>
    intro j f hj hd hl
    rw [pf_J7_fill_53178_L5.eq_2]
    by_cases q : j = N
    · subst q
      refine ⟨f, ?_, hl⟩
      simp (disch := omega) only [g_lit, nI_add, pk_mul, pk_div, g_sdm, pk_sub, g_clamp, ile_t, ile_f, ilt_t, ilt_f, ieq_t, ieq_f, ieq_r, gi_t, gd_t, gz0, gz1, gl_x, ob0_some, ob1_some, ob2_some, ob3_some, ob4_some, ob5_some, ob6_some, ob7_some, ob8_some, ob9_some, ob10_some, ob11_some, ob12_some, ob13_some]
    · simp (disch := omega) only [g_lit, nI_add, pk_mul, pk_div, g_sdm, pk_sub, g_clamp, ile_t, ile_f, ilt_t, ilt_f, ieq_t, ieq_f, ieq_r, gi_t, gd_t, gz0, gz1, gl_x, ob0_some, ob1_some, ob2_some, ob3_some, ob4_some, ob5_some, ob6_some, ob7_some, ob8_some, ob9_some, ob10_some, ob11_some, ob12_some, ob13_some]
      refine ih (j + 1) _ (by omega) (by omega) (fun i hi => ?_)
      by_cases e : i = j
      · subst e
        exact pk_us
      · rw [pk_un e]
        exact hl i (by omega)
theorem s_fill {N : Nat} (f : Nat → Int32) (v : Int32) (hN : N < 100000) : ∃ f', pf_J7_fill_53178 N f v = some f' ∧ ∀ i, i < N → f' i = v := by
  obtain ⟨f', e, h⟩ := s_fill_L (v := v) (by omega : N < 2147483648) 100000 0 f (Nat.zero_le _) (by omega) (fun i hi => absurd hi (Nat.not_lt_zero i))
  exact ⟨f', e, h⟩

/-! the best guess -/
def iI (z : Int) : Int32 := Int32.ofInt z
theorem nI_iI (n : Nat) : nI n = iI n := (Int32.ofInt_eq_ofNat).symm
theorem iI_toInt {z : Int} (h1 : -2147483648 ≤ z) (h2 : z < 2147483648) : (iI z).toInt = z := Int32.toInt_ofInt_of_le h1 h2
theorem iI_lt {a b : Int} (h1 : -2147483648 ≤ a) (h2 : a < 2147483648) (h3 : -2147483648 ≤ b) (h4 : b < 2147483648) : iI a < iI b ↔ a < b := by
  rw [Int32.lt_iff_toInt_lt, iI_toInt h1 h2, iI_toInt h3 h4]
theorem iI_le {a b : Int} (h1 : -2147483648 ≤ a) (h2 : a < 2147483648) (h3 : -2147483648 ≤ b) (h4 : b < 2147483648) : iI a ≤ iI b ↔ a ≤ b := by
  rw [Int32.le_iff_toInt_le, iI_toInt h1 h2, iI_toInt h3 h4]
theorem iI_eq {a b : Int} (h1 : -2147483648 ≤ a) (h2 : a < 2147483648) (h3 : -2147483648 ≤ b) (h4 : b < 2147483648) : iI a = iI b ↔ a = b := by
  rw [← Int32.toInt_inj, iI_toInt h1 h2, iI_toInt h3 h4]
theorem iI_neg (a : Nat) : -(nI a) = iI (-(a : Int)) := by
  rw [nI_iI]
  exact (Int32.ofInt_neg _).symm
theorem iI_key (z : Int) (l : Nat) : nI 2 * iI z - nI l = iI (2 * z - l) := by
  rw [nI_iI, nI_iI]
  unfold iI
  rw [Int32.ofInt_sub, Int32.ofInt_mul]
  rfl
/-- the lowest number with the least key -/
def bs (key : Nat → Int) : Nat → Nat
  | 0 => 0
  | j + 1 => if key j < key (bs key j) then j else bs key j
theorem bs_lt (key : Nat → Int) : ∀ j, 0 < j → bs key j < j
  | 0, h => absurd h (Nat.lt_irrefl 0)
  | j + 1, _ => by
    simp only [bs]
    by_cases q : key j < key (bs key j)
    · rw [if_pos q]
      omega
    · rw [if_neg q]
      cases j with
      | zero => exact Nat.zero_lt_one
      | succ j => have := bs_lt key (j + 1) (by omega); omega
def sc (P C w s : Nat) (ls : Nat → Nat) (r : Nat) : Int := if w = 0 then pgr (mz P C r ls) s else if w = 1 then pz (mz P C r ls) s else -(pd (mz P C r ls) s : Int)
def li (P C s : Nat) (ls : Nat → Nat) (r : Nat) : Nat := if ct (mz P C r ls) s (10 * P) = 0 then 0 else 1
def ky (P C w s : Nat) (ls : Nat → Nat) (r : Nat) : Int := 2 * sc P C w s ls r - li P C s ls r
theorem sc_b {P C w s : Nat} (ls : Nat → Nat) (r : Nat) (hs : s ≤ 300) : -300 ≤ sc P C w s ls r ∧ sc P C w s ls r ≤ 90000 := by
  have h1 := pgr_le (mz P C r ls) s
  have h2 := pz_le (mz P C r ls) s
  have h3 := pd_le (mz P C r ls) s
  have h4 : s * s ≤ 300 * 300 := Nat.mul_le_mul hs hs
  unfold sc
  by_cases q : w = 0
  · rw [if_pos q]
    omega
  · rw [if_neg q]
    by_cases q1 : w = 1
    · rw [if_pos q1]
      omega
    · rw [if_neg q1]
      omega
theorem li_b (P C s : Nat) (ls : Nat → Nat) (r : Nat) : li P C s ls r ≤ 1 := by
  unfold li
  split <;> omega
theorem s_score {P C w s r : Nat} {ls : Nat → Nat} (hw : w ≤ 2) : pf_X2_score (nI (pd (mz P C r ls) s)) (nI (pgr (mz P C r ls) s)) (nI (pz (mz P C r ls) s)) (nI w) = some (iI (sc P C w s ls r)) := by
  have hc : w = 0 ∨ w = 1 ∨ w = 2 := by omega
  rcases hc with rfl | rfl | rfl
  · simp (disch := omega) only [g_lit, nI_add, pk_mul, pk_div, g_sdm, pk_sub, g_clamp, ile_t, ile_f, ilt_t, ilt_f, ieq_t, ieq_f, ieq_r, gi_t, gd_t, gz0, gz1, gl_x, ob0_some, ob1_some, ob2_some, ob3_some, ob4_some, ob5_some, ob6_some, ob7_some, ob8_some, ob9_some, ob10_some, ob11_some, ob12_some, ob13_some, pf_X2_score_j26, pf_X2_score]
    rw [nI_iI]
    rfl
  · simp (disch := omega) only [g_lit, nI_add, pk_mul, pk_div, g_sdm, pk_sub, g_clamp, ile_t, ile_f, ilt_t, ilt_f, ieq_t, ieq_f, ieq_r, gi_t, gd_t, gz0, gz1, gl_x, ob0_some, ob1_some, ob2_some, ob3_some, ob4_some, ob5_some, ob6_some, ob7_some, ob8_some, ob9_some, ob10_some, ob11_some, ob12_some, ob13_some, pf_X2_score_j26, pf_X2_score]
    rw [nI_iI]
    rfl
  · simp (disch := omega) only [g_lit, nI_add, pk_mul, pk_div, g_sdm, pk_sub, g_clamp, ile_t, ile_f, ilt_t, ilt_f, ieq_t, ieq_f, ieq_r, gi_t, gd_t, gz0, gz1, gl_x, ob0_some, ob1_some, ob2_some, ob3_some, ob4_some, ob5_some, ob6_some, ob7_some, ob8_some, ob9_some, ob10_some, ob11_some, ob12_some, ob13_some, pf_X2_score_j26, pf_X2_score]
    rw [iI_neg]
    rfl
theorem s_step_rl (kL : Int32 → Int32 → Int32 → Int32 → Int32 → Int32 → Int32 → (Nat → Int32) → (Nat → Int32) → Option (Int32 × Int32 × Int32 × Int32 × (Nat → Int32) × (Nat → Int32))) (v5 v6 v7 v8 v9 s0 pn pg pq : Int32) (pm ps : Nat → Int32) : pf_X3_bestFor_rl_j66 kL v5 v6 v7 v8 v9 s0 pn pg pq pm ps = if v5 = -1 ∨ v9 < v6 ∨ (v9 = v6 ∧ ¬ s0 = 0 ∧ v7 = 0) then kL v8 v9 s0 (v8 + 1) pn pg pq pm ps else kL v5 v6 v7 (v8 + 1) pn pg pq pm ps := by
  unfold pf_X3_bestFor_rl_j66 pf_X3_bestFor_rl_j89 pf_X3_bestFor_rl_j90 pf_X3_bestFor_rl_j110 pf_X3_bestFor_rl_j122
  have n1 : ¬ (1 : Int32) = 0 := by decide
  by_cases h1 : v9 = v6 <;> by_cases h2 : s0 = 0 <;> by_cases h3 : v7 = 0 <;> by_cases h4 : v5 = -1 <;> by_cases h5 : v9 < v6 <;> simp only [h1, h2, h3, h4, h5, n1, if_true, if_false, true_or, or_true, false_or, true_and, and_true, false_and, and_false, not_true, not_false_iff, or_false, ite_self]
theorem s_best_rl_L {P C a s w : Nat} {ls : Nat → Nat} {f gcb : Nat → Int32} {gpb : Nat → Int64} (hV : VG P C) (hG : laid P C (C ^ P) gcb gpb) (hw : w ≤ 2) (hb : a + s ≤ 256) (hs : Sg P C f a s ls) : ∀ d j v5 v6 v7 pn pg pq pm ps, j ≤ C ^ P → C ^ P - j < d → ((j = 0 ∧ v5 = -1) ∨ (0 < j ∧ v5 = nI (bs (ky P C w s ls) j) ∧ v6 = iI (sc P C w s ls (bs (ky P C w s ls) j)) ∧ v7 = nI (li P C s ls (bs (ky P C w s ls) j)))) → ∃ pn' pg' pq' pm' ps', pf_X3_bestFor_rl_L12 (nI w) (nI a) (nI s) (nI P) (nI (C ^ P)) f gcb gpb d v5 v6 v7 (nI j) pn pg pq pm ps = some (nI (bs (ky P C w s ls) (C ^ P)), pn', pg', pq', pm', ps') := by
  intro d
  have hR := hV.2.2.2.2
  have hP := hV.2.1
  have hR2 := R2 hV
  induction d with
  | zero => intro j _ _ _ _ _ _ _ _ _ h; omega
  | succ d ih =>
    intro j v5 v6 v7 pn pg pq pm ps hj hd hI
    rw [pf_X3_bestFor_rl_L12.eq_2]
    by_cases q : j = C ^ P
    · rcases hI with ⟨h1, _⟩ | ⟨_, h1, _, _⟩
      · omega
      · subst q
        refine ⟨pn, pg, pq, pm, ps, ?_⟩
        rw [if_pos (nI_le (Nat.le_refl _) (by omega)), h1]
    · obtain ⟨pm1, ps1, e1, hP1⟩ := s_part_rl (g := j) pn pg pq pm ps hV hG (by omega) hb hs
      have e2 := s_score (P := P) (C := C) (w := w) (s := s) (r := j) (ls := ls) hw
      have e3 := hP1.2 (10 * P) (by omega)
      have h3 := ct_le (mz P C j ls) s (10 * P)
      have b1 := sc_b (P := P) (C := C) (w := w) ls j (by omega : s ≤ 300)
      have b2 := sc_b (P := P) (C := C) (w := w) ls (bs (ky P C w s ls) j) (by omega : s ≤ 300)
      have c1 := li_b P C s ls j
      have c2 := li_b P C s ls (bs (ky P C w s ls) j)
      have key : pf_X3_bestFor_rl_j66 (fun v5 v6 v7 v8 pn pg pq pm ps => pf_X3_bestFor_rl_L12 (nI w) (nI a) (nI s) (nI P) (nI (C ^ P)) f gcb gpb d v5 v6 v7 v8 pn pg pq pm ps) v5 v6 v7 (nI j) (iI (sc P C w s ls j)) (nI (li P C s ls j)) (nI (pd (mz P C j ls) s)) (nI (pgr (mz P C j ls) s)) (nI (pz (mz P C j ls) s)) pm1 ps1 = if ky P C w s ls j < ky P C w s ls (bs (ky P C w s ls) j) ∨ j = 0 then pf_X3_bestFor_rl_L12 (nI w) (nI a) (nI s) (nI P) (nI (C ^ P)) f gcb gpb d (nI j) (iI (sc P C w s ls j)) (nI (li P C s ls j)) (nI (j + 1)) (nI (pd (mz P C j ls) s)) (nI (pgr (mz P C j ls) s)) (nI (pz (mz P C j ls) s)) pm1 ps1 else pf_X3_bestFor_rl_L12 (nI w) (nI a) (nI s) (nI P) (nI (C ^ P)) f gcb gpb d v5 v6 v7 (nI (j + 1)) (nI (pd (mz P C j ls) s)) (nI (pgr (mz P C j ls) s)) (nI (pz (mz P C j ls) s)) pm1 ps1 := by
        rw [s_step_rl]
        have e9 : nI j + 1 = nI (j + 1) := nI_add j 1
        rw [e9]
        rcases hI with ⟨h1, h2⟩ | ⟨h0, h1, h2, h4⟩
        · rw [if_pos (Or.inl h2), if_pos (Or.inr h1)]
        · have hlt := bs_lt (ky P C w s ls) j h0
          have n5 : ¬ v5 = -1 := by rw [h1]; exact nI_m1 (by omega)
          have q1 : (iI (sc P C w s ls j) < v6) ↔ sc P C w s ls j < sc P C w s ls (bs (ky P C w s ls) j) := by
            rw [h2]
            exact iI_lt (by omega) (by omega) (by omega) (by omega)
          have q2 : (iI (sc P C w s ls j) = v6) ↔ sc P C w s ls j = sc P C w s ls (bs (ky P C w s ls) j) := by
            rw [h2]
            exact iI_eq (by omega) (by omega) (by omega) (by omega)
          have q3 : (nI (li P C s ls j) = 0) ↔ li P C s ls j = 0 := nI_eq (b := 0) (by omega) (by omega)
          have q4 : (v7 = 0) ↔ li P C s ls (bs (ky P C w s ls) j) = 0 := by
            rw [h4]
            exact nI_eq (b := 0) (by omega) (by omega)
          have k1 : ky P C w s ls j = 2 * sc P C w s ls j - (li P C s ls j : Int) := rfl
          have k2 : ky P C w s ls (bs (ky P C w s ls) j) = 2 * sc P C w s ls (bs (ky P C w s ls) j) - (li P C s ls (bs (ky P C w s ls) j) : Int) := rfl
          have cond : (v5 = -1 ∨ iI (sc P C w s ls j) < v6 ∨ (iI (sc P C w s ls j) = v6 ∧ ¬ nI (li P C s ls j) = 0 ∧ v7 = 0)) ↔ ky P C w s ls j < ky P C w s ls (bs (ky P C w s ls) j) ∨ j = 0 := by
            rw [q1, q2, q3, q4]
            constructor
            · rintro (z | z)
              · exact absurd z n5
              · omega
            · rintro z
              exact Or.inr (by omega)
          by_cases h : ky P C w s ls j < ky P C w s ls (bs (ky P C w s ls) j) ∨ j = 0
          · rw [if_pos h, if_pos (cond.mpr h)]
          · rw [if_neg h, if_neg (fun z => h (cond.mp z))]
      have fin : ∃ pn' pg' pq' pm' ps', (if ky P C w s ls j < ky P C w s ls (bs (ky P C w s ls) j) ∨ j = 0 then pf_X3_bestFor_rl_L12 (nI w) (nI a) (nI s) (nI P) (nI (C ^ P)) f gcb gpb d (nI j) (iI (sc P C w s ls j)) (nI (li P C s ls j)) (nI (j + 1)) (nI (pd (mz P C j ls) s)) (nI (pgr (mz P C j ls) s)) (nI (pz (mz P C j ls) s)) pm1 ps1 else pf_X3_bestFor_rl_L12 (nI w) (nI a) (nI s) (nI P) (nI (C ^ P)) f gcb gpb d v5 v6 v7 (nI (j + 1)) (nI (pd (mz P C j ls) s)) (nI (pgr (mz P C j ls) s)) (nI (pz (mz P C j ls) s)) pm1 ps1) = some (nI (bs (ky P C w s ls) (C ^ P)), pn', pg', pq', pm', ps') := by
        by_cases h : ky P C w s ls j < ky P C w s ls (bs (ky P C w s ls) j) ∨ j = 0
        · have e5 : bs (ky P C w s ls) (j + 1) = j := by
            simp only [bs]
            rcases h with h | h
            · exact if_pos h
            · subst h
              split <;> rfl
          rw [if_pos h]
          refine ih (j + 1) _ _ _ _ _ _ _ _ (by omega) (by omega) (Or.inr ⟨by omega, ?_, ?_, ?_⟩)
          · rw [e5]
          · rw [e5]
          · rw [e5]
        · have e5 : bs (ky P C w s ls) (j + 1) = bs (ky P C w s ls) j := by
            simp only [bs]
            exact if_neg (fun z => h (Or.inl z))
          rw [if_neg h]
          rcases hI with ⟨h1, h2⟩ | ⟨h0, h1, h2, h4⟩
          · exact absurd (Or.inr h1) h
          · refine ih (j + 1) _ _ _ _ _ _ _ _ (by omega) (by omega) (Or.inr ⟨by omega, ?_, ?_, ?_⟩)
            · rw [e5, h1]
            · rw [e5, h2]
            · rw [e5, h4]
      obtain ⟨pn2, pg2, pq2, pm2, ps2, e6⟩ := fin
      refine ⟨pn2, pg2, pq2, pm2, ps2, ?_⟩
      rw [← e6, ← key]
      by_cases h : ct (mz P C j ls) s (10 * P) = 0
      · have e7 : li P C s ls j = 0 := if_pos h
        rw [e7]
        simp (disch := omega) only [g_lit, nI_add, pk_mul, pk_div, g_sdm, pk_sub, g_clamp, ile_t, ile_f, ilt_t, ilt_f, ieq_t, ieq_f, ieq_r, gi_t, gd_t, gz0, gz1, gl_x, ob0_some, ob1_some, ob2_some, ob3_some, ob4_some, ob5_some, ob6_some, ob7_some, ob8_some, ob9_some, ob10_some, ob11_some, ob12_some, ob13_some, e1, e2, e3, pf_X1_allBlack, pf_X2_sizeWith_j20, pf_X2_sizeWith_j19, pf_X2_sizeWith]
      · have e7 : li P C s ls j = 1 := if_neg h
        rw [e7]
        simp (disch := omega) only [g_lit, nI_add, pk_mul, pk_div, g_sdm, pk_sub, g_clamp, ile_t, ile_f, ilt_t, ilt_f, ieq_t, ieq_f, ieq_r, gi_t, gd_t, gz0, gz1, gl_x, ob0_some, ob1_some, ob2_some, ob3_some, ob4_some, ob5_some, ob6_some, ob7_some, ob8_some, ob9_some, ob10_some, ob11_some, ob12_some, ob13_some, e1, e2, e3, pf_X1_allBlack, pf_X2_sizeWith_j20, pf_X2_sizeWith_j19, pf_X2_sizeWith]
theorem s_best_rl {P C a s w : Nat} {ls : Nat → Nat} {f gcb : Nat → Int32} {gpb : Nat → Int64} (pn pg pq : Int32) (pm ps : Nat → Int32) (hV : VG P C) (hG : laid P C (C ^ P) gcb gpb) (hw : w ≤ 2) (hb : a + s ≤ 256) (hs : Sg P C f a s ls) : ∃ pn' pg' pq' pm' ps', pf_X3_bestFor_rl (nI P) (nI (C ^ P)) pn pg pq f gcb gpb pm ps (nI w) (nI a) (nI s) = some (nI (bs (ky P C w s ls) (C ^ P)), pn', pg', pq', pm', ps') :=
  s_best_rl_L hV hG hw hb hs 100000 0 (-1) 0 0 pn pg pq pm ps (Nat.zero_le _) (by have := hV.2.2.2.2; omega) (Or.inl ⟨rfl, rfl⟩)
theorem s_step_sr (kL : Int32 → Int32 → Int32 → Int32 → Int32 → Int32 → Int32 → (Nat → Int32) → (Nat → Int32) → Option (Int32 × Int32 × Int32 × Int32 × (Nat → Int32) × (Nat → Int32))) (v5 v6 v7 v8 v9 s0 pn pg pq : Int32) (pm ps : Nat → Int32) : pf_X3_bestFor_sr_j66 kL v5 v6 v7 v8 v9 s0 pn pg pq pm ps = if v5 = -1 ∨ v9 < v6 ∨ (v9 = v6 ∧ ¬ s0 = 0 ∧ v7 = 0) then kL v8 v9 s0 (v8 + 1) pn pg pq pm ps else kL v5 v6 v7 (v8 + 1) pn pg pq pm ps := by
  unfold pf_X3_bestFor_sr_j66 pf_X3_bestFor_sr_j89 pf_X3_bestFor_sr_j90 pf_X3_bestFor_sr_j110 pf_X3_bestFor_sr_j122
  have n1 : ¬ (1 : Int32) = 0 := by decide
  by_cases h1 : v9 = v6 <;> by_cases h2 : s0 = 0 <;> by_cases h3 : v7 = 0 <;> by_cases h4 : v5 = -1 <;> by_cases h5 : v9 < v6 <;> simp only [h1, h2, h3, h4, h5, n1, if_true, if_false, true_or, or_true, false_or, true_and, and_true, false_and, and_false, not_true, not_false_iff, or_false, ite_self]
theorem s_best_sr_L {P C a s w : Nat} {ls : Nat → Nat} {f gcb : Nat → Int32} {gpb : Nat → Int64} (hV : VG P C) (hG : laid P C (C ^ P) gcb gpb) (hw : w ≤ 2) (hb : a + s ≤ 300) (hs : Sg P C f a s ls) : ∀ d j v5 v6 v7 pn pg pq pm ps, j ≤ C ^ P → C ^ P - j < d → ((j = 0 ∧ v5 = -1) ∨ (0 < j ∧ v5 = nI (bs (ky P C w s ls) j) ∧ v6 = iI (sc P C w s ls (bs (ky P C w s ls) j)) ∧ v7 = nI (li P C s ls (bs (ky P C w s ls) j)))) → ∃ pn' pg' pq' pm' ps', pf_X3_bestFor_sr_L12 (nI w) (nI a) (nI s) (nI P) (nI (C ^ P)) f gcb gpb d v5 v6 v7 (nI j) pn pg pq pm ps = some (nI (bs (ky P C w s ls) (C ^ P)), pn', pg', pq', pm', ps') := by
  intro d
  have hR := hV.2.2.2.2
  have hP := hV.2.1
  have hR2 := R2 hV
  induction d with
  | zero => intro j _ _ _ _ _ _ _ _ _ h; omega
  | succ d ih =>
    intro j v5 v6 v7 pn pg pq pm ps hj hd hI
    rw [pf_X3_bestFor_sr_L12.eq_2]
    by_cases q : j = C ^ P
    · rcases hI with ⟨h1, _⟩ | ⟨_, h1, _, _⟩
      · omega
      · subst q
        refine ⟨pn, pg, pq, pm, ps, ?_⟩
        rw [if_pos (nI_le (Nat.le_refl _) (by omega)), h1]
    · obtain ⟨pm1, ps1, e1, hP1⟩ := s_part_sr (g := j) pn pg pq pm ps hV hG (by omega) hb hs
      have e2 := s_score (P := P) (C := C) (w := w) (s := s) (r := j) (ls := ls) hw
      have e3 := hP1.2 (10 * P) (by omega)
      have h3 := ct_le (mz P C j ls) s (10 * P)
      have b1 := sc_b (P := P) (C := C) (w := w) ls j (by omega : s ≤ 300)
      have b2 := sc_b (P := P) (C := C) (w := w) ls (bs (ky P C w s ls) j) (by omega : s ≤ 300)
      have c1 := li_b P C s ls j
      have c2 := li_b P C s ls (bs (ky P C w s ls) j)
      have key : pf_X3_bestFor_sr_j66 (fun v5 v6 v7 v8 pn pg pq pm ps => pf_X3_bestFor_sr_L12 (nI w) (nI a) (nI s) (nI P) (nI (C ^ P)) f gcb gpb d v5 v6 v7 v8 pn pg pq pm ps) v5 v6 v7 (nI j) (iI (sc P C w s ls j)) (nI (li P C s ls j)) (nI (pd (mz P C j ls) s)) (nI (pgr (mz P C j ls) s)) (nI (pz (mz P C j ls) s)) pm1 ps1 = if ky P C w s ls j < ky P C w s ls (bs (ky P C w s ls) j) ∨ j = 0 then pf_X3_bestFor_sr_L12 (nI w) (nI a) (nI s) (nI P) (nI (C ^ P)) f gcb gpb d (nI j) (iI (sc P C w s ls j)) (nI (li P C s ls j)) (nI (j + 1)) (nI (pd (mz P C j ls) s)) (nI (pgr (mz P C j ls) s)) (nI (pz (mz P C j ls) s)) pm1 ps1 else pf_X3_bestFor_sr_L12 (nI w) (nI a) (nI s) (nI P) (nI (C ^ P)) f gcb gpb d v5 v6 v7 (nI (j + 1)) (nI (pd (mz P C j ls) s)) (nI (pgr (mz P C j ls) s)) (nI (pz (mz P C j ls) s)) pm1 ps1 := by
        rw [s_step_sr]
        have e9 : nI j + 1 = nI (j + 1) := nI_add j 1
        rw [e9]
        rcases hI with ⟨h1, h2⟩ | ⟨h0, h1, h2, h4⟩
        · rw [if_pos (Or.inl h2), if_pos (Or.inr h1)]
        · have hlt := bs_lt (ky P C w s ls) j h0
          have n5 : ¬ v5 = -1 := by rw [h1]; exact nI_m1 (by omega)
          have q1 : (iI (sc P C w s ls j) < v6) ↔ sc P C w s ls j < sc P C w s ls (bs (ky P C w s ls) j) := by
            rw [h2]
            exact iI_lt (by omega) (by omega) (by omega) (by omega)
          have q2 : (iI (sc P C w s ls j) = v6) ↔ sc P C w s ls j = sc P C w s ls (bs (ky P C w s ls) j) := by
            rw [h2]
            exact iI_eq (by omega) (by omega) (by omega) (by omega)
          have q3 : (nI (li P C s ls j) = 0) ↔ li P C s ls j = 0 := nI_eq (b := 0) (by omega) (by omega)
          have q4 : (v7 = 0) ↔ li P C s ls (bs (ky P C w s ls) j) = 0 := by
            rw [h4]
            exact nI_eq (b := 0) (by omega) (by omega)
          have k1 : ky P C w s ls j = 2 * sc P C w s ls j - (li P C s ls j : Int) := rfl
          have k2 : ky P C w s ls (bs (ky P C w s ls) j) = 2 * sc P C w s ls (bs (ky P C w s ls) j) - (li P C s ls (bs (ky P C w s ls) j) : Int) := rfl
          have cond : (v5 = -1 ∨ iI (sc P C w s ls j) < v6 ∨ (iI (sc P C w s ls j) = v6 ∧ ¬ nI (li P C s ls j) = 0 ∧ v7 = 0)) ↔ ky P C w s ls j < ky P C w s ls (bs (ky P C w s ls) j) ∨ j = 0 := by
            rw [q1, q2, q3, q4]
            constructor
            · rintro (z | z)
              · exact absurd z n5
              · omega
            · rintro z
              exact Or.inr (by omega)
          by_cases h : ky P C w s ls j < ky P C w s ls (bs (ky P C w s ls) j) ∨ j = 0
          · rw [if_pos h, if_pos (cond.mpr h)]
          · rw [if_neg h, if_neg (fun z => h (cond.mp z))]
      have fin : ∃ pn' pg' pq' pm' ps', (if ky P C w s ls j < ky P C w s ls (bs (ky P C w s ls) j) ∨ j = 0 then pf_X3_bestFor_sr_L12 (nI w) (nI a) (nI s) (nI P) (nI (C ^ P)) f gcb gpb d (nI j) (iI (sc P C w s ls j)) (nI (li P C s ls j)) (nI (j + 1)) (nI (pd (mz P C j ls) s)) (nI (pgr (mz P C j ls) s)) (nI (pz (mz P C j ls) s)) pm1 ps1 else pf_X3_bestFor_sr_L12 (nI w) (nI a) (nI s) (nI P) (nI (C ^ P)) f gcb gpb d v5 v6 v7 (nI (j + 1)) (nI (pd (mz P C j ls) s)) (nI (pgr (mz P C j ls) s)) (nI (pz (mz P C j ls) s)) pm1 ps1) = some (nI (bs (ky P C w s ls) (C ^ P)), pn', pg', pq', pm', ps') := by
        by_cases h : ky P C w s ls j < ky P C w s ls (bs (ky P C w s ls) j) ∨ j = 0
        · have e5 : bs (ky P C w s ls) (j + 1) = j := by
            simp only [bs]
            rcases h with h | h
            · exact if_pos h
            · subst h
              split <;> rfl
          rw [if_pos h]
          refine ih (j + 1) _ _ _ _ _ _ _ _ (by omega) (by omega) (Or.inr ⟨by omega, ?_, ?_, ?_⟩)
          · rw [e5]
          · rw [e5]
          · rw [e5]
        · have e5 : bs (ky P C w s ls) (j + 1) = bs (ky P C w s ls) j := by
            simp only [bs]
            exact if_neg (fun z => h (Or.inl z))
          rw [if_neg h]
          rcases hI with ⟨h1, h2⟩ | ⟨h0, h1, h2, h4⟩
          · exact absurd (Or.inr h1) h
          · refine ih (j + 1) _ _ _ _ _ _ _ _ (by omega) (by omega) (Or.inr ⟨by omega, ?_, ?_, ?_⟩)
            · rw [e5, h1]
            · rw [e5, h2]
            · rw [e5, h4]
      obtain ⟨pn2, pg2, pq2, pm2, ps2, e6⟩ := fin
      refine ⟨pn2, pg2, pq2, pm2, ps2, ?_⟩
      rw [← e6, ← key]
      by_cases h : ct (mz P C j ls) s (10 * P) = 0
      · have e7 : li P C s ls j = 0 := if_pos h
        rw [e7]
        simp (disch := omega) only [g_lit, nI_add, pk_mul, pk_div, g_sdm, pk_sub, g_clamp, ile_t, ile_f, ilt_t, ilt_f, ieq_t, ieq_f, ieq_r, gi_t, gd_t, gz0, gz1, gl_x, ob0_some, ob1_some, ob2_some, ob3_some, ob4_some, ob5_some, ob6_some, ob7_some, ob8_some, ob9_some, ob10_some, ob11_some, ob12_some, ob13_some, e1, e2, e3, pf_X1_allBlack, pf_X2_sizeWith_j20, pf_X2_sizeWith_j19, pf_X2_sizeWith]
      · have e7 : li P C s ls j = 1 := if_neg h
        rw [e7]
        simp (disch := omega) only [g_lit, nI_add, pk_mul, pk_div, g_sdm, pk_sub, g_clamp, ile_t, ile_f, ilt_t, ilt_f, ieq_t, ieq_f, ieq_r, gi_t, gd_t, gz0, gz1, gl_x, ob0_some, ob1_some, ob2_some, ob3_some, ob4_some, ob5_some, ob6_some, ob7_some, ob8_some, ob9_some, ob10_some, ob11_some, ob12_some, ob13_some, e1, e2, e3, pf_X1_allBlack, pf_X2_sizeWith_j20, pf_X2_sizeWith_j19, pf_X2_sizeWith]
theorem s_best_sr {P C a s w : Nat} {ls : Nat → Nat} {f gcb : Nat → Int32} {gpb : Nat → Int64} (pn pg pq : Int32) (pm ps : Nat → Int32) (hV : VG P C) (hG : laid P C (C ^ P) gcb gpb) (hw : w ≤ 2) (hb : a + s ≤ 300) (hs : Sg P C f a s ls) : ∃ pn' pg' pq' pm' ps', pf_X3_bestFor_sr (nI P) (nI (C ^ P)) pn pg pq f gcb gpb pm ps (nI w) (nI a) (nI s) = some (nI (bs (ky P C w s ls) (C ^ P)), pn', pg', pq', pm', ps') :=
  s_best_sr_L hV hG hw hb hs 100000 0 (-1) 0 0 pn pg pq pm ps (Nat.zero_le _) (by have := hV.2.2.2.2; omega) (Or.inl ⟨rfl, rfl⟩)
/-! the reference's best guess -/
def am (ls : Nat → Nat) (j : Nat) : Nat → Nat
  | 0 => 0
  | k + 1 => if am ls j k = 0 then (if ls k = j then 1 else 0) else 1
theorem am_01 (ls : Nat → Nat) (j : Nat) : ∀ k, am ls j k = 0 ∨ am ls j k = 1
  | 0 => Or.inl rfl
  | k + 1 => by
    simp only [am]
    split
    · split
      · exact Or.inr rfl
      · exact Or.inl rfl
    · exact Or.inr rfl
theorem am_ct {P C s j : Nat} {ls : Nat → Nat} (hV : VG P C) (hj : j < C ^ P) (hs : ∀ i, i < s → ls i < C ^ P) : ∀ k, k ≤ s → (am ls j k = 0 ↔ ct (mz P C j ls) k (10 * P) = 0)
  | 0, _ => Iff.intro (fun _ => rfl) (fun _ => rfl)
  | k + 1, hk => by
    have ih := am_ct hV hj hs k (by omega)
    have h1 : mk P C j (ls k) = 10 * P ↔ j = ls k := mk_full hV.2.2.1 hV.2.2.2.1 hj (hs k (by omega))
    have e : ct (mz P C j ls) (k + 1) (10 * P) = ct (mz P C j ls) k (10 * P) + (if mk P C j (ls k) = 10 * P then 1 else 0) := rfl
    rw [e]
    simp only [am]
    by_cases q : am ls j k = 0
    · have q2 := ih.mp q
      rw [if_pos q, q2]
      by_cases h : ls k = j
      · rw [if_pos h, if_pos (h1.mpr h.symm)]
      · rw [if_neg h, if_neg (fun z => h (h1.mp z).symm)]
    · have q2 : ¬ ct (mz P C j ls) k (10 * P) = 0 := fun z => q (ih.mpr z)
      rw [if_neg q]
      omega
theorem am_li {P C s j : Nat} {ls : Nat → Nat} (hV : VG P C) (hj : j < C ^ P) (hs : ∀ i, i < s → ls i < C ^ P) : am ls j s = li P C s ls j := by
  have h := am_ct hV hj hs s (Nat.le_refl s)
  unfold li
  by_cases q : ct (mz P C j ls) s (10 * P) = 0
  · rw [if_pos q, h.mpr q]
  · rw [if_neg q]
    rcases am_01 ls j s with z | z
    · exact absurd (h.mp z) q
    · exact z

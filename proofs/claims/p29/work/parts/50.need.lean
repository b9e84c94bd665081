/-! how many guesses are needed: the height of the tree of best guesses; the class -/
theorem bs_min (key : Nat → Int) : ∀ n j, j < n → key (bs key n) ≤ key j
  | 0, j, h => absurd h (Nat.not_lt_zero j)
  | n + 1, j, h => by
    simp only [bs]
    by_cases q : key n < key (bs key n)
    · rw [if_pos q]
      by_cases e : j = n
      · rw [e]
        exact Int.le_refl _
      · have := bs_min key n j (by omega)
        omega
    · rw [if_neg q]
      by_cases e : j = n
      · subst e
        omega
      · exact bs_min key n j (by omega)
theorem le_mx (c : Nat → Nat) : ∀ M m, m < M → c m ≤ mx c M
  | 0, m, h => absurd h (Nat.not_lt_zero m)
  | M + 1, m, h => by
    simp only [mx]
    by_cases e : m = M
    · rw [e]
      exact Nat.le_max_right _ _
    · have := le_mx c M m (by omega)
      omega
theorem mx_zero {c : Nat → Nat} : ∀ M, (∀ m, m < M → c m = 0) → mx c M = 0
  | 0, _ => rfl
  | M + 1, h => by
    simp only [mx]
    rw [mx_zero M (fun m hm => h m (by omega)), h M (by omega)]
    rfl
theorem ct_lt {ms : Nat → Nat} {i m : Nat} (hne : ms i ≠ m) : ∀ s, i < s → ct ms s m < s
  | 0, h => absurd h (Nat.not_lt_zero i)
  | s + 1, h => by
    simp only [ct]
    by_cases e : i = s
    · subst e
      rw [if_neg hne]
      have := ct_le ms i m
      omega
    · have := ct_lt hne s (by omega)
      split <;> omega
/-- the part of the mark m, listed -/
def fl (ls ms : Nat → Nat) (m : Nat) : Nat → Nat → Nat
  | 0, _ => 0
  | j + 1, k => if ms j = m ∧ k = ct ms j m then ls j else fl ls ms m j k
theorem fl_kth (ls ms : Nat → Nat) (m : Nat) : ∀ s k, k < ct ms s m → ∃ i, i < s ∧ ms i = m ∧ ct ms i m = k ∧ fl ls ms m s k = ls i
  | 0, k, h => absurd h (Nat.not_lt_zero k)
  | s + 1, k, h => by
    simp only [ct] at h
    by_cases e : ms s = m ∧ k = ct ms s m
    · exact ⟨s, by omega, e.1, e.2.symm, by simp only [fl]; exact if_pos e⟩
    · have h2 : k < ct ms s m := by
        by_cases q : ms s = m
        · have : k ≠ ct ms s m := fun z => e ⟨q, z⟩
          rw [if_pos q] at h
          omega
        · rw [if_neg q] at h
          omega
      obtain ⟨i, h3, h4, h5, h6⟩ := fl_kth ls ms m s k h2
      exact ⟨i, by omega, h4, h5, by simp only [fl]; rw [if_neg e]; exact h6⟩
theorem fl_end (ls ms : Nat → Nat) (m j : Nat) : ∀ s, j ≤ s → ct ms j m = ct ms s m → fl ls ms m s = fl ls ms m j
  | 0, h, _ => by
    have : j = 0 := by omega
    rw [this]
  | s + 1, h, hc => by
    by_cases e : j = s + 1
    · rw [e]
    · have h1 := ct_mono ms m (by omega : j ≤ s)
      have h2 := ct_mono ms m (by omega : s ≤ s + 1)
      have ih := fl_end ls ms m j s (by omega) (by omega)
      rw [← ih]
      funext k
      simp only [fl]
      by_cases q : ms s = m
      · have : ct ms (s + 1) m = ct ms s m + 1 := by simp only [ct]; rw [if_pos q]
        omega
      · rw [if_neg (fun z => q z.1)]
/-- rising rows -/
def As (ls : Nat → Nat) (s : Nat) : Prop := ∀ i k, i < k → k < s → ls i < ls k
theorem As_fl {ls ms : Nat → Nat} {m s : Nat} (h : As ls s) : As (fl ls ms m s) (ct ms s m) := by
  intro k k' h1 h2
  obtain ⟨i, a1, a2, a3, a4⟩ := fl_kth ls ms m s k (by omega)
  obtain ⟨i', b1, b2, b3, b4⟩ := fl_kth ls ms m s k' h2
  rw [a4, b4]
  refine h i i' ?_ b1
  by_cases q : i < i'
  · exact q
  · have := ct_mono ms m (by omega : i' ≤ i)
    omega
theorem Bd_fl {ls ms : Nat → Nat} {m s R : Nat} (h : ∀ i, i < s → ls i < R) : ∀ k, k < ct ms s m → fl ls ms m s k < R := by
  intro k hk
  obtain ⟨i, a1, a2, a3, a4⟩ := fl_kth ls ms m s k hk
  rw [a4]
  exact h i a1
/-- the best guess of a list (by the worst case) -/
def gb (P C s : Nat) (ls : Nat → Nat) : Nat := bs (ky P C 0 s ls) (C ^ P)
theorem gb_lt {P C : Nat} (hV : VG P C) (s : Nat) (ls : Nat → Nat) : gb P C s ls < C ^ P := bs_lt _ _ (by have := R2 hV; omega)
theorem gb_small {P C s m : Nat} {ls : Nat → Nat} (hV : VG P C) (hs2 : 2 ≤ s) (hsz : s ≤ 300) (hA : As ls s) (hB : ∀ i, i < s → ls i < C ^ P) (hm : m < 100) : ct (mz P C (gb P C s ls) ls) s m ≤ s - 1 := by
  have h1 := bs_min (ky P C 0 s ls) (C ^ P) (ls 0) (hB 0 (by omega))
  have k1 : ky P C 0 s ls (bs (ky P C 0 s ls) (C ^ P)) = 2 * (pgr (mz P C (gb P C s ls) ls) s : Int) - (li P C s ls (gb P C s ls) : Int) := rfl
  have k2 : ky P C 0 s ls (ls 0) = 2 * (pgr (mz P C (ls 0) ls) s : Int) - (li P C s ls (ls 0) : Int) := rfl
  have c1 := li_b P C s ls (gb P C s ls)
  have h80 : ∀ g i, i < s → mz P C g ls i < 100 := fun g i _ => by have : mz P C g ls i ≤ 80 := mk80 hV g (ls i); omega
  have e1 : mz P C (ls 0) ls 0 = 10 * P := (mk_full hV.2.2.1 hV.2.2.2.1 (hB 0 (by omega)) (hB 0 (by omega))).mpr rfl
  have e2 : mz P C (ls 0) ls 1 ≠ 10 * P := fun z => by
    have := (mk_full hV.2.2.1 hV.2.2.2.1 (hB 0 (by omega)) (hB 1 (by omega))).mp z
    have := hA 0 1 (by omega) (by omega)
    omega
  have c2 : li P C s ls (ls 0) = 1 := by
    unfold li
    refine if_neg (fun z => ?_)
    have := ct_mono (mz P C (ls 0) ls) (10 * P) (by omega : 1 ≤ s)
    have h0 : ct (mz P C (ls 0) ls) 1 (10 * P) = 1 := by
      show 0 + (if mz P C (ls 0) ls 0 = 10 * P then 1 else 0) = 1
      rw [if_pos e1]
    omega
  have h3 : pgr (mz P C (ls 0) ls) s ≤ s - 1 := by
    rw [pgr_mx (M := 100) s (h80 (ls 0))]
    refine mx_le (fun x => ?_) 100
    by_cases q : x = 10 * P
    · subst q
      have := ct_lt e2 s (by omega)
      omega
    · have := ct_lt (ms := mz P C (ls 0) ls) (i := 0) (m := x) (by rw [e1]; exact fun z => q z.symm) s (by omega)
      omega
  have h4 := le_mx (ct (mz P C (gb P C s ls) ls) s) 100 m hm
  rw [← pgr_mx (M := 100) s (h80 (gb P C s ls))] at h4
  omega
theorem gb_one {P C : Nat} {ls : Nat → Nat} (hV : VG P C) (hB : ls 0 < C ^ P) : gb P C 1 ls = ls 0 := by
  have h1 := bs_min (ky P C 0 1 ls) (C ^ P) (ls 0) hB
  have k1 : ∀ r, ky P C 0 1 ls r = 2 * 1 - (li P C 1 ls r : Int) := fun r => rfl
  have c1 : ∀ r, li P C 1 ls r = if 0 + (if mz P C r ls 0 = 10 * P then 1 else 0) = 0 then 0 else 1 := fun r => rfl
  have hg := gb_lt hV 1 ls
  by_cases q : gb P C 1 ls = ls 0
  · exact q
  · have e1 : mz P C (ls 0) ls 0 = 10 * P := (mk_full hV.2.2.1 hV.2.2.2.1 hB hB).mpr rfl
    have e2 : ¬ mz P C (gb P C 1 ls) ls 0 = 10 * P := fun z => q ((mk_full hV.2.2.1 hV.2.2.2.1 hg hB).mp z)
    have c2 := c1 (ls 0)
    rw [if_pos e1, if_neg (by omega)] at c2
    have c3 := c1 (gb P C 1 ls)
    rw [if_neg e2, if_pos (by omega)] at c3
    rw [k1, k1, c2] at h1
    unfold gb at c3
    rw [c3] at h1
    omega
def hh (P C : Nat) : Nat → Nat → (Nat → Nat) → Nat
  | 0, _, _ => 1
  | n + 1, s, ls => if s ≤ 1 then 1 else 1 + mx (fun m => if ct (mz P C (gb P C s ls) ls) s m = 0 then 0 else hh P C n (ct (mz P C (gb P C s ls) ls) s m) (fl ls (mz P C (gb P C s ls) ls) m s)) (10 * P)
theorem hh_le (P C : Nat) : ∀ n s ls, hh P C n s ls ≤ n + 1
  | 0, _, _ => Nat.le_refl _
  | n + 1, s, ls => by
    simp only [hh]
    split
    · omega
    · have h := mx_le (c := fun m => if ct (mz P C (gb P C s ls) ls) s m = 0 then 0 else hh P C n (ct (mz P C (gb P C s ls) ls) s m) (fl ls (mz P C (gb P C s ls) ls) m s)) (b := n + 1) (fun m => by
        show (if ct (mz P C (gb P C s ls) ls) s m = 0 then 0 else hh P C n (ct (mz P C (gb P C s ls) ls) s m) (fl ls (mz P C (gb P C s ls) ls) m s)) ≤ n + 1
        split
        · omega
        · exact hh_le P C n _ _) (10 * P)
      omega
theorem hh_pos (P C : Nat) : ∀ n s ls, 1 ≤ hh P C n s ls
  | 0, _, _ => Nat.le_refl _
  | n + 1, s, ls => by
    simp only [hh]
    split <;> omega
theorem hh_eq {P C n s : Nat} {ls : Nat → Nat} (hV : VG P C) (h1 : 1 ≤ s) (hB : ∀ i, i < s → ls i < C ^ P) : hh P C (n + 1) s ls = 1 + mx (fun m => if ct (mz P C (gb P C s ls) ls) s m = 0 then 0 else hh P C n (ct (mz P C (gb P C s ls) ls) s m) (fl ls (mz P C (gb P C s ls) ls) m s)) (10 * P) := by
  simp only [hh]
  by_cases q : s ≤ 1
  · have e : s = 1 := by omega
    subst e
    rw [if_pos q, mx_zero]
    intro m hm
    refine if_pos ?_
    rw [gb_one hV (hB 0 (by omega))]
    have e1 : mz P C (ls 0) ls 0 = 10 * P := (mk_full hV.2.2.1 hV.2.2.2.1 (hB 0 (by omega)) (hB 0 (by omega))).mpr rfl
    show 0 + (if mz P C (ls 0) ls 0 = m then 1 else 0) = 0
    rw [if_neg (by omega)]
  · rw [if_neg q]
/-! the class's walk -/
theorem s_opens_L {P C g a s k : Nat} {ls : Nat → Nat} {sr gcb : Nat → Int32} {gpb : Nat → Int64} (hV : VG P C) (hG : laid P C (C ^ P) gcb gpb) (hg : g < C ^ P) (hb : a + s ≤ 300) (hs : Sg P C sr a s ls) (hk : k < s) : ∀ d j, j ≤ k → k - j < d → ct (mz P C g ls) j (mz P C g ls k) = 0 → pf_X3_opensPart_L19 (nI g) (nI (a + k)) (nI P) (nI (C ^ P)) sr gcb gpb (nI (mz P C g ls k)) d (nI (a + j)) = some (nI (if ct (mz P C g ls) k (mz P C g ls k) = 0 then 1 else 0)) := by
  intro d
  induction d with
  | zero => intro j _ h; omega
  | succ d ih =>
    intro j hj hd hc
    rw [pf_X3_opensPart_L19.eq_2]
    by_cases q : j = k
    · subst q
      rw [if_pos hc]
      simp (disch := omega) only [g_lit, nI_add, pk_mul, pk_div, g_sdm, pk_sub, g_clamp, ile_t, ile_f, ilt_t, ilt_f, ieq_t, ieq_f, ieq_r, gi_t, gd_t, gz0, gz1, gl_x, ob0_some, ob1_some, ob2_some, ob3_some, ob4_some, ob5_some, ob6_some, ob7_some, ob8_some, ob9_some, ob10_some, ob11_some, ob12_some, ob13_some]
    · obtain ⟨e1, e2⟩ := hs j (by omega)
      have e3 : pf_X1_compare (nI P) (nI (C ^ P)) gcb gpb (nI g) (nI (ls j)) = some (nI (mz P C g ls j)) := cmp hV hG hg e2
      have b1 : mz P C g ls j ≤ 80 := mk80 hV g (ls j)
      have b2 : mz P C g ls k ≤ 80 := mk80 hV g (ls k)
      by_cases h : mz P C g ls j = mz P C g ls k
      · have h2 := ct_mono (mz P C g ls) (mz P C g ls k) (by omega : j + 1 ≤ k)
        have h3 : ct (mz P C g ls) (j + 1) (mz P C g ls k) = ct (mz P C g ls) j (mz P C g ls k) + 1 := by simp only [ct]; rw [if_pos h]
        have n0 : ¬ ct (mz P C g ls) k (mz P C g ls k) = 0 := by omega
        rw [if_neg n0]
        rw [h] at e3
        simp (disch := omega) only [g_lit, nI_add, pk_mul, pk_div, g_sdm, pk_sub, g_clamp, ile_t, ile_f, ilt_t, ilt_f, ieq_t, ieq_f, ieq_r, gi_t, gd_t, gz0, gz1, gl_x, ob0_some, ob1_some, ob2_some, ob3_some, ob4_some, ob5_some, ob6_some, ob7_some, ob8_some, ob9_some, ob10_some, ob11_some, ob12_some, ob13_some, e1, e3, if_true]
      · have h3 : ct (mz P C g ls) (j + 1) (mz P C g ls k) = 0 := by simp only [ct]; rw [if_neg h, hc]
        have ih2 := ih (j + 1) (by omega) (by omega) h3
        rw [← ih2]
        simp (disch := omega) only [g_lit, nI_add, pk_mul, pk_div, g_sdm, pk_sub, g_clamp, ile_t, ile_f, ilt_t, ilt_f, ieq_t, ieq_f, ieq_r, gi_t, gd_t, gz0, gz1, gl_x, ob0_some, ob1_some, ob2_some, ob3_some, ob4_some, ob5_some, ob6_some, ob7_some, ob8_some, ob9_some, ob10_some, ob11_some, ob12_some, ob13_some, e1, e3, Nat.add_assoc]
theorem s_opens {P C g a s k : Nat} {ls : Nat → Nat} {sr gcb : Nat → Int32} {gpb : Nat → Int64} (hV : VG P C) (hG : laid P C (C ^ P) gcb gpb) (hg : g < C ^ P) (hb : a + s ≤ 300) (hs : Sg P C sr a s ls) (hk : k < s) : pf_X3_opensPart (nI P) (nI (C ^ P)) sr gcb gpb (nI g) (nI a) (nI (a + k)) = some (nI (if ct (mz P C g ls) k (mz P C g ls k) = 0 then 1 else 0)) := by
  obtain ⟨e1, e2⟩ := hs k hk
  have e3 : pf_X1_compare (nI P) (nI (C ^ P)) gcb gpb (nI g) (nI (ls k)) = some (nI (mz P C g ls k)) := cmp hV hG hg e2
  have e4 := s_opens_L hV hG hg hb hs hk 100000 0 (Nat.zero_le _) (by omega) rfl
  rw [← e4]
  simp (disch := omega) only [g_lit, nI_add, pk_mul, pk_div, g_sdm, pk_sub, g_clamp, ile_t, ile_f, ilt_t, ilt_f, ieq_t, ieq_f, ieq_r, gi_t, gd_t, gz0, gz1, gl_x, ob0_some, ob1_some, ob2_some, ob3_some, ob4_some, ob5_some, ob6_some, ob7_some, ob8_some, ob9_some, ob10_some, ob11_some, ob12_some, ob13_some, e1, e3, pf_X3_opensPart]
  rfl

theorem s_gpart_L {P C g a s b m N : Nat} {ls : Nat → Nat} {gcb : Nat → Int32} {gpb : Nat → Int64} (rf : Int32 → Int32 → Int32 → Int32 → Int32 → (Nat → Int32) → (Nat → Int32) → (Nat → Int64) → (Nat → Int32) → (Nat → Int32) → Int32 → Int32 → Int32 → Option (Int32 × Int32 × Int32 × Int32 × (Nat → Int32) × (Nat → Int32) × (Nat → Int32))) (v5 pn pg pq : Int32) (pm ps : Nat → Int32) (hV : VG P C) (hG : laid P C (C ^ P) gcb gpb) (hg : g < C ^ P) (hm : m ≤ 80) (hb : b = a + s) (hN : N = ct (mz P C g ls) s m) (hbb : b + N ≤ 300) : ∀ d j sr, j ≤ s → s - j < d → Sg P C sr a s ls → Sg P C sr b (ct (mz P C g ls) j m) (fl ls (mz P C g ls) m j) → ∃ sr', pf_X3_guessesForPart_L13 (nI g) (nI m) v5 (nI P) (nI (C ^ P)) gcb gpb rf (nI b) pn pg pq pm ps d (nI (b + ct (mz P C g ls) j m)) (nI (a + j)) sr = pf_X3_guessesForPart_j72 v5 (nI P) (nI (C ^ P)) gcb gpb rf (nI b) (nI (b + N)) pn pg pq sr' pm ps ∧ Sg P C sr' b N (fl ls (mz P C g ls) m s) ∧ ∀ p, p < b → sr' p = sr p := by
  intro d
  induction d with
  | zero => intro j _ _ h; omega
  | succ d ih =>
    intro j sr hj hd hS hT
    rw [pf_X3_guessesForPart_L13.eq_2]
    have hcm := ct_mono (mz P C g ls) m hj
    by_cases q : j = s
    · subst q
      refine ⟨sr, ?_, ?_, fun p _ => rfl⟩
      · rw [← hb, ← hN]
        simp (disch := omega) only [g_lit, nI_add, pk_mul, pk_div, g_sdm, pk_sub, g_clamp, ile_t, ile_f, ilt_t, ilt_f, ieq_t, ieq_f, ieq_r, gi_t, gd_t, gz0, gz1, gl_x, ob0_some, ob1_some, ob2_some, ob3_some, ob4_some, ob5_some, ob6_some, ob7_some, ob8_some, ob9_some, ob10_some, ob11_some, ob12_some, ob13_some]
      · rw [hN]
        exact hT
    · by_cases q2 : 300 ≤ b + ct (mz P C g ls) j m
      · have e : ct (mz P C g ls) j m = N := by omega
        refine ⟨sr, ?_, ?_, fun p _ => rfl⟩
        · rw [e]
          simp (disch := omega) only [g_lit, nI_add, pk_mul, pk_div, g_sdm, pk_sub, g_clamp, ile_t, ile_f, ilt_t, ilt_f, ieq_t, ieq_f, ieq_r, gi_t, gd_t, gz0, gz1, gl_x, ob0_some, ob1_some, ob2_some, ob3_some, ob4_some, ob5_some, ob6_some, ob7_some, ob8_some, ob9_some, ob10_some, ob11_some, ob12_some, ob13_some]
        · rw [fl_end ls (mz P C g ls) m j s hj (by omega)]
          rw [e] at hT
          exact hT
      · obtain ⟨e1, e2⟩ := hS j (by omega)
        have e3 : pf_X1_compare (nI P) (nI (C ^ P)) gcb gpb (nI g) (nI (ls j)) = some (nI (mz P C g ls j)) := cmp hV hG hg e2
        have b1 : mz P C g ls j ≤ 80 := mk80 hV g (ls j)
        by_cases h : mz P C g ls j = m
        · have h3 : ct (mz P C g ls) (j + 1) m = ct (mz P C g ls) j m + 1 := by simp only [ct]; rw [if_pos h]
          obtain ⟨sr', e4, hT', hF⟩ := ih (j + 1) (upd sr (b + ct (mz P C g ls) j m) (nI (ls j))) (by omega) (by omega) (fun i hi => by
            rw [pk_un (by omega)]
            exact hS i hi) (fun i hi => by
            rw [h3] at hi
            by_cases e : i = ct (mz P C g ls) j m
            · rw [e, pk_us]
              have : fl ls (mz P C g ls) m (j + 1) (ct (mz P C g ls) j m) = ls j := if_pos ⟨h, rfl⟩
              rw [this]
              exact ⟨rfl, e2⟩
            · rw [pk_un (by omega)]
              have : fl ls (mz P C g ls) m (j + 1) i = fl ls (mz P C g ls) m j i := by simp only [fl]; exact if_neg (fun z => e z.2)
              rw [this]
              exact hT i (by omega))
          refine ⟨sr', ?_, hT', fun p hp => ?_⟩
          · rw [← e4, h3]
            rw [h] at e3
            simp (disch := omega) only [g_lit, nI_add, pk_mul, pk_div, g_sdm, pk_sub, g_clamp, ile_t, ile_f, ilt_t, ilt_f, ieq_t, ieq_f, ieq_r, gi_t, gd_t, gz0, gz1, gl_x, ob0_some, ob1_some, ob2_some, ob3_some, ob4_some, ob5_some, ob6_some, ob7_some, ob8_some, ob9_some, ob10_some, ob11_some, ob12_some, ob13_some, e1, e3, if_true, Nat.add_assoc, pf_X3_guessesForPart_j72, pf_X3_guessesForPart_j66, pf_X3_guessesForPart]
          · rw [hF p hp, pk_un (by omega)]
        · have h3 : ct (mz P C g ls) (j + 1) m = ct (mz P C g ls) j m := by simp only [ct]; rw [if_neg h]; rfl
          have h4 : fl ls (mz P C g ls) m (j + 1) = fl ls (mz P C g ls) m j := by
            funext i
            simp only [fl]
            exact if_neg (fun z => h z.1)
          obtain ⟨sr', e4, hT', hF⟩ := ih (j + 1) sr (by omega) (by omega) hS (by rw [h3, h4]; exact hT)
          refine ⟨sr', ?_, hT', hF⟩
          rw [← e4, h3]
          simp (disch := omega) only [g_lit, nI_add, pk_mul, pk_div, g_sdm, pk_sub, g_clamp, ile_t, ile_f, ilt_t, ilt_f, ieq_t, ieq_f, ieq_r, gi_t, gd_t, gz0, gz1, gl_x, ob0_some, ob1_some, ob2_some, ob3_some, ob4_some, ob5_some, ob6_some, ob7_some, ob8_some, ob9_some, ob10_some, ob11_some, ob12_some, ob13_some, e1, e3, Nat.add_assoc, pf_X3_guessesForPart_j72, pf_X3_guessesForPart_j66, pf_X3_guessesForPart]

/-- what the walk does one deeper -/
def HR (P C : Nat) (gcb : Nat → Int32) (gpb : Nat → Int64) (rf : Int32 → Int32 → Int32 → Int32 → Int32 → (Nat → Int32) → (Nat → Int32) → (Nat → Int64) → (Nat → Int32) → (Nat → Int32) → Int32 → Int32 → Int32 → Option (Int32 × Int32 × Int32 × Int32 × (Nat → Int32) × (Nat → Int32) × (Nat → Int32))) (d : Nat) : Prop := ∀ a s ls sr pn pg pq pm ps, 1 ≤ s → s + d ≤ 25 → 2 * a + s * (s + 1) ≤ 600 → As ls s → Sg P C sr a s ls → ∃ pn' pg' pq' sr' pm' ps', rf (nI P) (nI (C ^ P)) pn pg pq sr gcb gpb pm ps (nI a) (nI s) (nI d) = some (nI (hh P C (25 - d) s ls), pn', pg', pq', sr', pm', ps') ∧ ∀ p, p < a → sr' p = sr p
theorem tri {s a : Nat} (h1 : 1 ≤ s) (h : 2 * a + s * (s + 1) ≤ 600) : a + s ≤ 300 := by
  obtain ⟨t, rfl⟩ : ∃ t, s = t + 1 := ⟨s - 1, by omega⟩
  have e1 : (t + 1) * (t + 1 + 1) = t * t + 3 * t + 2 := by
    rw [Nat.add_mul, Nat.mul_add, Nat.mul_add]
    omega
  have e3 : 0 ≤ t * t := Nat.zero_le _
  omega
theorem tri2 {s a N : Nat} (hN : N ≤ s - 1) (h1 : 1 ≤ s) (h : 2 * a + s * (s + 1) ≤ 600) : 2 * (a + s) + N * (N + 1) ≤ 600 := by
  obtain ⟨t, rfl⟩ : ∃ t, s = t + 1 := ⟨s - 1, by omega⟩
  have e1 : (t + 1) * (t + 1 + 1) = t * t + 3 * t + 2 := by
    rw [Nat.add_mul, Nat.mul_add, Nat.mul_add]
    omega
  have e2 : t * (t + 1) = t * t + t := by rw [Nat.mul_add, Nat.mul_one]
  have e3 : N * (N + 1) ≤ t * (t + 1) := Nat.mul_le_mul (by omega) (by omega)
  omega
theorem s_gpart {P C g a s m d : Nat} {ls : Nat → Nat} {sr gcb : Nat → Int32} {gpb : Nat → Int64} {rf : Int32 → Int32 → Int32 → Int32 → Int32 → (Nat → Int32) → (Nat → Int32) → (Nat → Int64) → (Nat → Int32) → (Nat → Int32) → Int32 → Int32 → Int32 → Option (Int32 × Int32 × Int32 × Int32 × (Nat → Int32) × (Nat → Int32) × (Nat → Int32))} (pn pg pq : Int32) (pm ps : Nat → Int32) (hV : VG P C) (hG : laid P C (C ^ P) gcb gpb) (hg : g < C ^ P) (hm : m ≤ 80) (h1 : 1 ≤ s) (hd : s + d ≤ 25) (ht : 2 * a + s * (s + 1) ≤ 600) (hA : As ls s) (hS : Sg P C sr a s ls) (hN1 : 1 ≤ ct (mz P C g ls) s m) (hN2 : ct (mz P C g ls) s m ≤ s - 1) (hrf : HR P C gcb gpb rf (d + 1)) : ∃ pn' pg' pq' sr' pm' ps', pf_X3_guessesForPart rf (nI P) (nI (C ^ P)) pn pg pq sr gcb gpb pm ps (nI g) (nI m) (nI a) (nI s) (nI d) = some (nI (hh P C (25 - (d + 1)) (ct (mz P C g ls) s m) (fl ls (mz P C g ls) m s)), pn', pg', pq', sr', pm', ps') ∧ ∀ p, p < a + s → sr' p = sr p := by
  have t1 := tri h1 ht
  have t2 := tri2 hN2 h1 ht
  have t3 := tri hN1 t2
  obtain ⟨sr1, e1, hT, hF⟩ := s_gpart_L rf (nI d) pn pg pq pm ps hV hG hg hm rfl rfl t3 100000 0 sr (Nat.zero_le _) (by omega) hS (fun i hi => absurd hi (Nat.not_lt_zero i))
  obtain ⟨pn2, pg2, pq2, sr2, pm2, ps2, e2, hF2⟩ := hrf (a + s) (ct (mz P C g ls) s m) (fl ls (mz P C g ls) m s) sr1 pn pg pq pm ps hN1 (by omega) t2 (As_fl hA) hT
  refine ⟨pn2, pg2, pq2, sr2, pm2, ps2, ?_, fun p hp => by rw [hF2 p hp, hF p hp]⟩
  have e3 : nI (a + s) = nI a + nI s := (nI_add a s).symm
  have e4 : nI (a + s + ct (mz P C g ls) s m) - nI (a + s) = nI (ct (mz P C g ls) s m) := by
    rw [pk_sub (by omega)]
    congr 1
    omega
  have e5 : nI d + 1 = nI (d + 1) := nI_add d 1
  have e6 : pf_X3_guessesForPart rf (nI P) (nI (C ^ P)) pn pg pq sr gcb gpb pm ps (nI g) (nI m) (nI a) (nI s) (nI d) = pf_X3_guessesForPart_j72 (nI d) (nI P) (nI (C ^ P)) gcb gpb rf (nI (a + s)) (nI (a + s + ct (mz P C g ls) s m)) pn pg pq sr1 pm ps := by
    rw [← e1]
    unfold pf_X3_guessesForPart
    rw [← e3]
    rfl
  rw [e6]
  unfold pf_X3_guessesForPart_j72
  rw [e4, e5, e2, ob7_some]
theorem s_gfor_L {P C g a s d : Nat} {ls : Nat → Nat} {gcb : Nat → Int32} {gpb : Nat → Int64} {rf : Int32 → Int32 → Int32 → Int32 → Int32 → (Nat → Int32) → (Nat → Int32) → (Nat → Int64) → (Nat → Int32) → (Nat → Int32) → Int32 → Int32 → Int32 → Option (Int32 × Int32 × Int32 × Int32 × (Nat → Int32) × (Nat → Int32) × (Nat → Int32))} (hV : VG P C) (hG : laid P C (C ^ P) gcb gpb) (hg : g < C ^ P) (h1 : 1 ≤ s) (hd : s + d ≤ 25) (ht : 2 * a + s * (s + 1) ≤ 600) (hA : As ls s) (hN2 : ∀ m, m < 100 → ct (mz P C g ls) s m ≤ s - 1) (hrf : HR P C gcb gpb rf (d + 1)) : ∀ f k pn pg pq sr pm ps, k ≤ s → s - k < f → Sg P C sr a s ls → ∃ pn' pg' pq' sr' pm' ps', pf_X3_guessesForB_L32 (nI a) (nI s) (nI d) (nI P) (nI (C ^ P)) gcb gpb rf (nI g) f (nI (mx (fun m => if ct (mz P C g ls) k m = 0 then 0 else hh P C (25 - (d + 1)) (ct (mz P C g ls) s m) (fl ls (mz P C g ls) m s)) (10 * P))) (nI (a + k)) pn pg pq sr pm ps = some (nI (1 + mx (fun m => if ct (mz P C g ls) s m = 0 then 0 else hh P C (25 - (d + 1)) (ct (mz P C g ls) s m) (fl ls (mz P C g ls) m s)) (10 * P)), pn', pg', pq', sr', pm', ps') ∧ ∀ p, p < a + s → sr' p = sr p := by
  have t1 := tri h1 ht
  have hP := hV.2.1
  have bnd : ∀ k, mx (fun m => if ct (mz P C g ls) k m = 0 then 0 else hh P C (25 - (d + 1)) (ct (mz P C g ls) s m) (fl ls (mz P C g ls) m s)) (10 * P) ≤ 25 := fun k => mx_le (fun m => by
    show (if ct (mz P C g ls) k m = 0 then 0 else hh P C (25 - (d + 1)) (ct (mz P C g ls) s m) (fl ls (mz P C g ls) m s)) ≤ 25
    have := hh_le P C (25 - (d + 1)) (ct (mz P C g ls) s m) (fl ls (mz P C g ls) m s)
    split <;> omega) _
  intro f
  induction f with
  | zero => intro k _ _ _ _ _ _ _ h; omega
  | succ f ih =>
    intro k pn pg pq sr pm ps hk hf hS
    rw [pf_X3_guessesForB_L32.eq_2]
    have bk := bnd k
    by_cases q : k = s
    · subst q
      refine ⟨pn, pg, pq, sr, pm, ps, ?_, fun p _ => rfl⟩
      simp (disch := omega) only [g_lit, nI_add, pk_mul, pk_div, g_sdm, pk_sub, g_clamp, ile_t, ile_f, ilt_t, ilt_f, ieq_t, ieq_f, ieq_r, gi_t, gd_t, gz0, gz1, gl_x, ob0_some, ob1_some, ob2_some, ob3_some, ob4_some, ob5_some, ob6_some, ob7_some, ob8_some, ob9_some, ob10_some, ob11_some, ob12_some, ob13_some, pf_X3_guessesForB_j11, pf_X3_guessesForB_j116, pf_X3_guessesForB_j110, pf_X3_guessesForB]
    · obtain ⟨e1, e2⟩ := hS k (by omega)
      have e3 : pf_X1_compare (nI P) (nI (C ^ P)) gcb gpb (nI g) (nI (ls k)) = some (nI (mz P C g ls k)) := cmp hV hG hg e2
      have b1 : mz P C g ls k ≤ 80 := mk80 hV g (ls k)
      have hR := hV.2.2.2.2
      have b10 : mz P C g ls k ≤ 10 * P := mk_le hV.2.2.1 hV.2.2.2.1 g (ls k)
      have full : mz P C g ls k = 10 * P ↔ g = ls k := mk_full hV.2.2.1 hV.2.2.2.1 hg e2
      by_cases hgk : ls k = g
      · have same : mx (fun m => if ct (mz P C g ls) (k + 1) m = 0 then 0 else hh P C (25 - (d + 1)) (ct (mz P C g ls) s m) (fl ls (mz P C g ls) m s)) (10 * P) = mx (fun m => if ct (mz P C g ls) k m = 0 then 0 else hh P C (25 - (d + 1)) (ct (mz P C g ls) s m) (fl ls (mz P C g ls) m s)) (10 * P) := mx_same _ (fun m hm => by
          have := full.mpr hgk.symm
          show (if ct (mz P C g ls) (k + 1) m = 0 then 0 else _) = (if ct (mz P C g ls) k m = 0 then 0 else _)
          rw [ct_else (by omega)])
        obtain ⟨pn1, pg1, pq1, sr1, pm1, ps1, e4, hF⟩ := ih (k + 1) pn pg pq sr pm ps (by omega) (by omega) hS
        refine ⟨pn1, pg1, pq1, sr1, pm1, ps1, ?_, hF⟩
        rw [← e4, same]
        rw [hgk] at e1
        simp (disch := omega) only [g_lit, nI_add, pk_mul, pk_div, g_sdm, pk_sub, g_clamp, ile_t, ile_f, ilt_t, ilt_f, ieq_t, ieq_f, ieq_r, gi_t, gd_t, gz0, gz1, gl_x, ob0_some, ob1_some, ob2_some, ob3_some, ob4_some, ob5_some, ob6_some, ob7_some, ob8_some, ob9_some, ob10_some, ob11_some, ob12_some, ob13_some, e1, if_true, Nat.add_assoc, pf_X3_guessesForB_j11, pf_X3_guessesForB_j116, pf_X3_guessesForB_j110, pf_X3_guessesForB]
      · have hm10 : mz P C g ls k < 10 * P := by
          by_cases z : mz P C g ls k = 10 * P
          · exact absurd (full.mp z).symm hgk
          · omega
        have e5 := s_opens hV hG hg t1 hS (by omega : k < s)
        by_cases hnew : ct (mz P C g ls) k (mz P C g ls k) = 0
        · rw [if_pos hnew] at e5
          have hc1 := ct_mono (mz P C g ls) (mz P C g ls k) (by omega : k + 1 ≤ s)
          rw [ct_here] at hc1
          obtain ⟨pn1, pg1, pq1, sr1, pm1, ps1, e6, hF1⟩ := s_gpart pn pg pq pm ps hV hG hg b1 h1 hd ht hA hS (by omega) (hN2 _ (by omega)) hrf
          have up : mx (fun m => if ct (mz P C g ls) (k + 1) m = 0 then 0 else hh P C (25 - (d + 1)) (ct (mz P C g ls) s m) (fl ls (mz P C g ls) m s)) (10 * P) = max (mx (fun m => if ct (mz P C g ls) k m = 0 then 0 else hh P C (25 - (d + 1)) (ct (mz P C g ls) s m) (fl ls (mz P C g ls) m s)) (10 * P)) (hh P C (25 - (d + 1)) (ct (mz P C g ls) s (mz P C g ls k)) (fl ls (mz P C g ls) (mz P C g ls k) s)) := by
            have z := mx_up (c := fun m => if ct (mz P C g ls) k m = 0 then 0 else hh P C (25 - (d + 1)) (ct (mz P C g ls) s m) (fl ls (mz P C g ls) m s)) (c' := fun m => if ct (mz P C g ls) (k + 1) m = 0 then 0 else hh P C (25 - (d + 1)) (ct (mz P C g ls) s m) (fl ls (mz P C g ls) m s)) (x := mz P C g ls k) (fun m hm => by
              show (if ct (mz P C g ls) (k + 1) m = 0 then 0 else _) = (if ct (mz P C g ls) k m = 0 then 0 else _)
              rw [ct_else hm]) (by
              show (if ct (mz P C g ls) k (mz P C g ls k) = 0 then 0 else _) ≤ _
              rw [if_pos hnew]
              exact Nat.zero_le _) (10 * P) hm10
            rw [z]
            show max _ (if ct (mz P C g ls) (k + 1) (mz P C g ls k) = 0 then 0 else _) = _
            rw [if_neg (by rw [ct_here]; omega)]
          have hl := hh_le P C (25 - (d + 1)) (ct (mz P C g ls) s (mz P C g ls k)) (fl ls (mz P C g ls) (mz P C g ls k) s)
          obtain ⟨pn2, pg2, pq2, sr2, pm2, ps2, e7, hF2⟩ := ih (k + 1) pn1 pg1 pq1 sr1 pm1 ps1 (by omega) (by omega) (fun i hi => by rw [hF1 _ (by omega)]; exact hS i hi)
          refine ⟨pn2, pg2, pq2, sr2, pm2, ps2, ?_, fun p hp => by rw [hF2 p hp, hF1 p hp]⟩
          rw [← e7, up, ← nI_gmax (by omega) (by omega)]
          simp (disch := omega) only [g_lit, nI_add, pk_mul, pk_div, g_sdm, pk_sub, g_clamp, ile_t, ile_f, ilt_t, ilt_f, ieq_t, ieq_f, ieq_r, gi_t, gd_t, gz0, gz1, gl_x, ob0_some, ob1_some, ob2_some, ob3_some, ob4_some, ob5_some, ob6_some, ob7_some, ob8_some, ob9_some, ob10_some, ob11_some, ob12_some, ob13_some, e1, e3, e5, e6, if_true, Nat.add_assoc, pf_X3_guessesForB_j11, pf_X3_guessesForB_j116, pf_X3_guessesForB_j110, pf_X3_guessesForB]
        · rw [if_neg hnew] at e5
          have same : mx (fun m => if ct (mz P C g ls) (k + 1) m = 0 then 0 else hh P C (25 - (d + 1)) (ct (mz P C g ls) s m) (fl ls (mz P C g ls) m s)) (10 * P) = mx (fun m => if ct (mz P C g ls) k m = 0 then 0 else hh P C (25 - (d + 1)) (ct (mz P C g ls) s m) (fl ls (mz P C g ls) m s)) (10 * P) := mx_same _ (fun m hm => by
            show (if ct (mz P C g ls) (k + 1) m = 0 then 0 else _) = (if ct (mz P C g ls) k m = 0 then 0 else _)
            by_cases z : m = mz P C g ls k
            · subst z
              rw [if_neg hnew, if_neg (by rw [ct_here]; omega)]
            · rw [ct_else z])
          obtain ⟨pn1, pg1, pq1, sr1, pm1, ps1, e4, hF⟩ := ih (k + 1) pn pg pq sr pm ps (by omega) (by omega) hS
          refine ⟨pn1, pg1, pq1, sr1, pm1, ps1, ?_, hF⟩
          rw [← e4, same]
          simp (disch := omega) only [g_lit, nI_add, pk_mul, pk_div, g_sdm, pk_sub, g_clamp, ile_t, ile_f, ilt_t, ilt_f, ieq_t, ieq_f, ieq_r, gi_t, gd_t, gz0, gz1, gl_x, ob0_some, ob1_some, ob2_some, ob3_some, ob4_some, ob5_some, ob6_some, ob7_some, ob8_some, ob9_some, ob10_some, ob11_some, ob12_some, ob13_some, e1, e5, if_true, Nat.add_assoc, pf_X3_guessesForB_j11, pf_X3_guessesForB_j116, pf_X3_guessesForB_j110, pf_X3_guessesForB]
theorem ob6_e {T1 T2 T3 T4 T5 T6 α : Type} {x : Option (T1 × T2 × T3 × T4 × T5 × T6)} {a : T1} {b : T2} {c : T3} {d : T4} {e : T5} {f : T6} {k : T1 → T2 → T3 → T4 → T5 → T6 → Option α} (h : x = some (a, b, c, d, e, f)) : ob6 x k = k a b c d e f := by
  rw [h]
  rfl
theorem s_gfor {P C : Nat} {gcb : Nat → Int32} {gpb : Nat → Int64} (hV : VG P C) (hG : laid P C (C ^ P) gcb gpb) : ∀ dd d, 25 - d ≤ dd → HR P C gcb gpb (fun a0 a1 a2 a3 a4 a5 a6 a7 a8 a9 a10 a11 a12 => pf_X3_guessesFor dd a0 a1 a2 a3 a4 a5 a6 a7 a8 a9 a10 a11 a12) d := by
  intro dd
  induction dd with
  | zero => intro d h a s ls sr pn pg pq pm ps h1 h2; omega
  | succ dd ih =>
    intro d h a s ls sr pn pg pq pm ps h1 h2 ht hA hS
    have t1 := tri h1 ht
    show ∃ pn' pg' pq' sr' pm' ps', pf_X3_guessesFor (dd + 1) (nI P) (nI (C ^ P)) pn pg pq sr gcb gpb pm ps (nI a) (nI s) (nI d) = _ ∧ _
    rw [pf_X3_guessesFor.eq_2]
    by_cases q : s ≤ 1
    · refine ⟨pn, pg, pq, sr, pm, ps, ?_, fun p _ => rfl⟩
      have e : hh P C (25 - d) s ls = 1 := by
        obtain ⟨n, hn⟩ : ∃ n, 25 - d = n + 1 := ⟨24 - d, by omega⟩
        rw [hn]
        simp only [hh]
        exact if_pos q
      rw [e]
      simp (disch := omega) only [g_lit, nI_add, pk_mul, pk_div, g_sdm, pk_sub, g_clamp, ile_t, ile_f, ilt_t, ilt_f, ieq_t, ieq_f, ieq_r, gi_t, gd_t, gz0, gz1, gl_x, ob0_some, ob1_some, ob2_some, ob3_some, ob4_some, ob5_some, ob6_some, ob7_some, ob8_some, ob9_some, ob10_some, ob11_some, ob12_some, ob13_some, pf_X3_guessesForB_j11, pf_X3_guessesForB_j116, pf_X3_guessesForB_j110, pf_X3_guessesForB]
    · obtain ⟨pn1, pg1, pq1, pm1, ps1, e1⟩ := s_best_sr (w := 0) pn pg pq pm ps hV hG (by omega) t1 hS
      have hB : ∀ i, i < s → ls i < C ^ P := fun i hi => (hS i hi).2
      obtain ⟨pn2, pg2, pq2, sr2, pm2, ps2, e2, hF⟩ := s_gfor_L (g := gb P C s ls) hV hG (gb_lt hV s ls) h1 h2 ht hA (fun m hm => gb_small hV (by omega) (by omega) hA hB hm) (ih (d + 1) (by omega)) 100000 0 pn1 pg1 pq1 sr pm1 ps1 (Nat.zero_le _) (by omega) hS
      refine ⟨pn2, pg2, pq2, sr2, pm2, ps2, ?_, fun p hp => hF p (by omega)⟩
      have e3 : hh P C (25 - d) s ls = 1 + mx (fun m => if ct (mz P C (gb P C s ls) ls) s m = 0 then 0 else hh P C (25 - (d + 1)) (ct (mz P C (gb P C s ls) ls) s m) (fl ls (mz P C (gb P C s ls) ls) m s)) (10 * P) := by
        rw [show 25 - d = (25 - (d + 1)) + 1 by omega]
        exact hh_eq hV h1 hB
      have e4 : mx (fun m => if ct (mz P C (gb P C s ls) ls) 0 m = 0 then 0 else hh P C (25 - (d + 1)) (ct (mz P C (gb P C s ls) ls) s m) (fl ls (mz P C (gb P C s ls) ls) m s)) (10 * P) = 0 := mx_zero _ (fun m _ => if_pos rfl)
      rw [e4, Nat.add_zero] at e2
      have e5 : pf_X3_bestFor_sr (nI P) (nI (C ^ P)) pn pg pq sr gcb gpb pm ps (nI 0) (nI a) (nI s) = some (nI (gb P C s ls), pn1, pg1, pq1, pm1, ps1) := e1
      rw [e3]
      refine Eq.trans ?_ e2
      have n1 : ¬ nI s ≤ nI 1 := nI_ge (by omega) (by omega)
      have n2 : nI d < nI 24 := nI_lt (by omega) (by omega)
      unfold pf_X3_guessesForB
      refine (if_neg n1).trans ((if_pos n2).trans ?_)
      refine (ob6_e e5).trans ?_
      generalize (100000 : Nat) = F
      rfl

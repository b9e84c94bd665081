/-! entries, lies about a row, the rows that are left -/
theorem cmp {P C a b : Nat} {gcb : Nat → Int32} {gpb : Nat → Int64} (hV : VG P C) (hL : laid P C (C ^ P) gcb gpb) (ha : a < C ^ P) (hb : b < C ^ P) : pf_X1_compare (nI P) (nI (C ^ P)) gcb gpb (nI a) (nI b) = some (nI (mk P C a b)) :=
  s_compare hV.2.2.1 hV.2.2.2.1 hV.2.1 hV.2.2.2.2 ha hb (fun r hr => (hL r hr).1) (fun r hr => (hL r hr).2)
theorem mk80 {P C : Nat} (hV : VG P C) (a b : Nat) : mk P C a b ≤ 80 := by
  have h := mk_le (P := P) hV.2.2.1 hV.2.2.2.1 a b
  have := hV.2.1
  omega
theorem R2 {P C : Nat} (hV : VG P C) : 2 ≤ C ^ P := by
  have h1 := hV.1
  have h2 := hV.2.2.1
  calc 2 ≤ C := h2
    _ = C ^ 1 := (Nat.pow_one C).symm
    _ ≤ C ^ P := Nat.pow_le_pow_right (by omega) h1
/-- the entries: n of them, their guesses and marks -/
def ES (P C n : Nat) (eg em : Nat → Nat) : Prop := n ≤ 10 ∧ ∀ i, i < n → eg i < C ^ P ∧ em i ≤ 99
/-- is the entry i a lie about the row r? -/
def lie (P C : Nat) (eg em : Nat → Nat) (i r : Nat) : Nat := if mk P C (eg i) r = em i then 0 else 1
def nl (P C : Nat) (eg em : Nat → Nat) : Nat → Nat → Nat
  | 0, _ => 0
  | i + 1, r => nl P C eg em i r + lie P C eg em i r
def lb (P C : Nat) (eg em : Nat → Nat) : Nat → Nat → Nat
  | 0, _ => 0
  | i + 1, r => 2 * lb P C eg em i r + lie P C eg em i r
theorem lie_le (P C : Nat) (eg em : Nat → Nat) (i r : Nat) : lie P C eg em i r ≤ 1 := by
  unfold lie
  split <;> omega
theorem nl_le (P C : Nat) (eg em : Nat → Nat) : ∀ n r, nl P C eg em n r ≤ n
  | 0, _ => Nat.le_refl _
  | n + 1, r => by
    have h := nl_le P C eg em n r
    have := lie_le P C eg em n r
    simp only [nl]
    omega
theorem lb_lt (P C : Nat) (eg em : Nat → Nat) : ∀ n r, lb P C eg em n r < 2 ^ n
  | 0, _ => by unfold lb; decide
  | n + 1, r => by
    have h := lb_lt P C eg em n r
    have := lie_le P C eg em n r
    simp only [lb, Nat.pow_succ]
    omega
def pcn : Nat → Nat → Nat
  | 0, _ => 0
  | k + 1, x => x % 2 + pcn k (x / 2)
theorem bc_all : (List.range 1024).all (fun x => decide (pf_J6_bitCount_0f7a4 (nI x) = some (nI (pcn 10 x)))) = true := by decide +kernel
theorem bc {x : Nat} (h : x < 1024) : pf_J6_bitCount_0f7a4 (nI x) = some (nI (pcn 10 x)) := of_decide_eq_true (all_rg bc_all h)
theorem pcn_up : ∀ (k x : Nat), x < 2 ^ k → pcn (k + 1) x = pcn k x
  | 0, x, h => by
    have : x = 0 := by have : (2 : Nat) ^ 0 = 1 := rfl; omega
    subst this
    rfl
  | k + 1, x, h => by
    rw [Nat.pow_succ] at h
    have e := pcn_up k (x / 2) (by omega)
    show x % 2 + pcn (k + 1) (x / 2) = x % 2 + pcn k (x / 2)
    rw [e]
theorem pcn_ge : ∀ (d k x : Nat), x < 2 ^ k → pcn (k + d) x = pcn k x
  | 0, _, _, _ => rfl
  | d + 1, k, x, h => by
    have h2 : x < 2 ^ (k + d) := Nat.lt_of_lt_of_le h (Nat.pow_le_pow_right (by decide) (by omega))
    rw [show k + (d + 1) = k + d + 1 from rfl, pcn_up _ _ h2, pcn_ge d k x h]
theorem pcn_10 {k x : Nat} (hk : k ≤ 10) (h : x < 2 ^ k) : pcn 10 x = pcn k x := by
  have := pcn_ge (10 - k) k x h
  rwa [show k + (10 - k) = 10 by omega] at this
theorem pcn_lb (P C : Nat) (eg em : Nat → Nat) (r : Nat) : ∀ n, pcn n (lb P C eg em n r) = nl P C eg em n r
  | 0 => rfl
  | n + 1 => by
    have h := pcn_lb P C eg em r n
    have hl := lie_le P C eg em n r
    simp only [lb, nl, pcn]
    have e1 : (2 * lb P C eg em n r + lie P C eg em n r) % 2 = lie P C eg em n r := by omega
    have e2 : (2 * lb P C eg em n r + lie P C eg em n r) / 2 = lb P C eg em n r := by omega
    rw [e1, e2, h]
    omega
theorem s_ehas_t {n i : Nat} (hn : n ≤ 10) (hi : i < n) : pf_X0_has (nI n) (nI i) = some (nI 1) := by
  simp (disch := omega) only [g_lit, nI_add, pk_mul, pk_div, g_sdm, pk_sub, g_clamp, ile_t, ile_f, ilt_t, ilt_f, ieq_t, ieq_f, ieq_r, gi_t, gd_t, gz0, gz1, gl_x, ob0_some, ob1_some, ob2_some, ob3_some, ob4_some, ob5_some, ob6_some, ob7_some, ob8_some, ob9_some, ob10_some, ob11_some, ob12_some, ob13_some, pf_X0_has_j23, pf_X0_has_j22, pf_X0_has]
theorem s_ehas_f {n : Nat} (hn : n ≤ 10) {v : Int32} (h : NR n v) : pf_X0_has (nI n) v = some (nI 0) := by
  rcases h with h | ⟨k, h1, h2, rfl⟩
  · unfold pf_X0_has
    rw [if_pos h]
    simp (disch := omega) only [g_lit, nI_add, pk_mul, pk_div, g_sdm, pk_sub, g_clamp, ile_t, ile_f, ilt_t, ilt_f, ieq_t, ieq_f, ieq_r, gi_t, gd_t, gz0, gz1, gl_x, ob0_some, ob1_some, ob2_some, ob3_some, ob4_some, ob5_some, ob6_some, ob7_some, ob8_some, ob9_some, ob10_some, ob11_some, ob12_some, ob13_some, pf_X0_has_j23, pf_X0_has_j22, pf_X0_has]
  · simp (disch := omega) only [g_lit, nI_add, pk_mul, pk_div, g_sdm, pk_sub, g_clamp, ile_t, ile_f, ilt_t, ilt_f, ieq_t, ieq_f, ieq_r, gi_t, gd_t, gz0, gz1, gl_x, ob0_some, ob1_some, ob2_some, ob3_some, ob4_some, ob5_some, ob6_some, ob7_some, ob8_some, ob9_some, ob10_some, ob11_some, ob12_some, ob13_some, pf_X0_has_j23, pf_X0_has_j22, pf_X0_has]
theorem s_isFull {n : Nat} (hn : n ≤ 10) : pf_X0_isFull (nI n) = some (nI (if n < 10 then 0 else 1)) := by
  by_cases h : n < 10
  · rw [if_pos h]
    simp (disch := omega) only [g_lit, nI_add, pk_mul, pk_div, g_sdm, pk_sub, g_clamp, ile_t, ile_f, ilt_t, ilt_f, ieq_t, ieq_f, ieq_r, gi_t, gd_t, gz0, gz1, gl_x, ob0_some, ob1_some, ob2_some, ob3_some, ob4_some, ob5_some, ob6_some, ob7_some, ob8_some, ob9_some, ob10_some, ob11_some, ob12_some, ob13_some, pf_X0_isFull_j14, pf_X0_isFull]
  · rw [if_neg h]
    simp (disch := omega) only [g_lit, nI_add, pk_mul, pk_div, g_sdm, pk_sub, g_clamp, ile_t, ile_f, ilt_t, ilt_f, ieq_t, ieq_f, ieq_r, gi_t, gd_t, gz0, gz1, gl_x, ob0_some, ob1_some, ob2_some, ob3_some, ob4_some, ob5_some, ob6_some, ob7_some, ob8_some, ob9_some, ob10_some, ob11_some, ob12_some, ob13_some, pf_X0_isFull_j14, pf_X0_isFull]
theorem p10 {n : Nat} (hn : n ≤ 10) : 2 ^ n ≤ 1024 := Nat.pow_le_pow_right (by decide) hn
theorem s_allBits {n : Nat} (hn : n ≤ 10) : pf_X0_allBits (nI n) = some (nI (2 ^ n - 1)) := by
  have h := p10 hn
  have h0 : 0 < 2 ^ n := Nat.two_pow_pos n
  have e : nI 1 <<< (nI n &&& nI 31) = nI (1 * 2 ^ n) := shl_m (by omega) (by omega)
  rw [Nat.one_mul] at e
  simp (disch := omega) only [g_lit, nI_add, pk_mul, pk_div, g_sdm, pk_sub, g_clamp, ile_t, ile_f, ilt_t, ilt_f, ieq_t, ieq_f, ieq_r, gi_t, gd_t, gz0, gz1, gl_x, ob0_some, ob1_some, ob2_some, ob3_some, ob4_some, ob5_some, ob6_some, ob7_some, ob8_some, ob9_some, ob10_some, ob11_some, ob12_some, ob13_some, pf_X0_allBits, e]
/-- the class's bits of the lies -/
def LB (P C n : Nat) (eg em : Nat → Nat) (tl : Nat → Int32) : Prop := ∀ r, r < C ^ P → tl r = nI (lb P C eg em n r)
theorem s_countLiesIn {P C n r x : Nat} {eg em : Nat → Nat} {tl : Nat → Int32} (hV : VG P C) (hn : n ≤ 10) (hr : r < C ^ P) (hl : LB P C n eg em tl) : pf_X0_countLiesIn (nI (C ^ P)) tl (nI x) (nI r) = some (nI (pcn 10 (lb P C eg em n r &&& x))) := by
  have h1 := lb_lt P C eg em n r
  have h2 := p10 hn
  have h3 : lb P C eg em n r &&& x ≤ lb P C eg em n r := Nat.and_le_left
  have hR := hV.2.2.2.2
  simp (disch := omega) only [g_lit, nI_add, pk_mul, pk_div, g_sdm, pk_sub, g_clamp, ile_t, ile_f, ilt_t, ilt_f, ieq_t, ieq_f, ieq_r, gi_t, gd_t, gz0, gz1, gl_x, ob0_some, ob1_some, ob2_some, ob3_some, ob4_some, ob5_some, ob6_some, ob7_some, ob8_some, ob9_some, ob10_some, ob11_some, ob12_some, ob13_some, pf_X0_countLiesIn_j26, pf_X0_countLiesIn, s_X1_has_t hR hr, hl r hr, fa_and, bc (by omega : lb P C eg em n r &&& x < 1024)]
theorem s_countLies {P C n r : Nat} {eg em : Nat → Nat} {tl : Nat → Int32} (hV : VG P C) (hn : n ≤ 10) (hr : r < C ^ P) (hl : LB P C n eg em tl) : pf_X0_countLies (nI (C ^ P)) (nI n) tl (nI r) = some (nI (nl P C eg em n r)) := by
  have h1 := lb_lt P C eg em n r
  simp (disch := omega) only [g_lit, nI_add, pk_mul, pk_div, g_sdm, pk_sub, g_clamp, ile_t, ile_f, ilt_t, ilt_f, ieq_t, ieq_f, ieq_r, gi_t, gd_t, gz0, gz1, gl_x, ob0_some, ob1_some, ob2_some, ob3_some, ob4_some, ob5_some, ob6_some, ob7_some, ob8_some, ob9_some, ob10_some, ob11_some, ob12_some, ob13_some, pf_X0_countLies, s_allBits hn, s_countLiesIn hV hn hr hl]
  rw [Nat.and_two_pow_sub_one_eq_mod, Nat.mod_eq_of_lt h1, pcn_10 hn h1, pcn_lb]
theorem s_remains {P C n r al : Nat} {eg em : Nat → Nat} {tl : Nat → Int32} (hV : VG P C) (hn : n ≤ 10) (ha : al ≤ 3) (hr : r < C ^ P) (hl : LB P C n eg em tl) : pf_X3_remains (nI al) (nI (C ^ P)) (nI n) tl (nI r) = some (nI (if nl P C eg em n r ≤ al then 1 else 0)) := by
  have h1 := nl_le P C eg em n r
  by_cases h : nl P C eg em n r ≤ al
  · rw [if_pos h]
    simp (disch := omega) only [g_lit, nI_add, pk_mul, pk_div, g_sdm, pk_sub, g_clamp, ile_t, ile_f, ilt_t, ilt_f, ieq_t, ieq_f, ieq_r, gi_t, gd_t, gz0, gz1, gl_x, ob0_some, ob1_some, ob2_some, ob3_some, ob4_some, ob5_some, ob6_some, ob7_some, ob8_some, ob9_some, ob10_some, ob11_some, ob12_some, ob13_some, pf_X3_remains_j20, pf_X3_remains, s_countLies hV hn hr hl]
  · rw [if_neg h]
    simp (disch := omega) only [g_lit, nI_add, pk_mul, pk_div, g_sdm, pk_sub, g_clamp, ile_t, ile_f, ilt_t, ilt_f, ieq_t, ieq_f, ieq_r, gi_t, gd_t, gz0, gz1, gl_x, ob0_some, ob1_some, ob2_some, ob3_some, ob4_some, ob5_some, ob6_some, ob7_some, ob8_some, ob9_some, ob10_some, ob11_some, ob12_some, ob13_some, pf_X3_remains_j20, pf_X3_remains, s_countLies hV hn hr hl]
/-- how many rows below j are left -/
def cl (st : Nat → Bool) : Nat → Nat
  | 0 => 0
  | j + 1 => cl st j + if st j then 1 else 0
theorem cl_le (st : Nat → Bool) : ∀ j, cl st j ≤ j
  | 0 => Nat.le_refl _
  | j + 1 => by
    have h := cl_le st j
    simp only [cl]
    split <;> omega
theorem cl_mono (st : Nat → Bool) : ∀ {i j : Nat}, i ≤ j → cl st i ≤ cl st j
  | i, 0, h => by
    have : i = 0 := by omega
    rw [this]
    exact Nat.le_refl _
  | i, j + 1, h => by
    by_cases e : i = j + 1
    · rw [e]
      exact Nat.le_refl _
    · have := cl_mono st (by omega : i ≤ j)
      simp only [cl]
      omega
theorem cl_lt {st : Nat → Bool} {i j : Nat} (h : i < j) (hs : st i = true) : cl st i < cl st j := by
  have h2 := cl_mono st (by omega : i + 1 ≤ j)
  simp only [cl, hs, if_true] at h2
  omega
/-- f lists the rows below j that are left, by rising numbers -/
def Ls (st : Nat → Bool) (j : Nat) (f : Nat → Int32) : Prop := ∀ r, r < j → st r = true → f (cl st r) = nI r
theorem Ls_upd {st : Nat → Bool} {j : Nat} {f : Nat → Int32} (h : Ls st j f) : Ls st (j + 1) (upd f (cl st j) (nI j)) := by
  intro r hr hs
  by_cases e : r = j
  · subst e
    exact pk_us
  · have h1 := cl_lt (by omega : r < j) hs
    rw [pk_un (by omega)]
    exact h r (by omega) hs
theorem Ls_no {st : Nat → Bool} {j : Nat} {f : Nat → Int32} (h : Ls st j f) (hs : ¬ st j = true) : Ls st (j + 1) f := by
  intro r hr hs2
  by_cases e : r = j
  · subst e
    exact absurd hs2 hs
  · exact h r (by omega) hs2
/-- which row stands at the place k -/
theorem cl_kth (st : Nat → Bool) : ∀ (j k : Nat), k < cl st j → ∃ r, r < j ∧ st r = true ∧ cl st r = k
  | 0, k, h => absurd h (Nat.not_lt_zero k)
  | j + 1, k, h => by
    simp only [cl] at h
    by_cases q : k < cl st j
    · obtain ⟨r, h1, h2, h3⟩ := cl_kth st j k q
      exact ⟨r, by omega, h2, h3⟩
    · by_cases hs : st j = true
      · rw [if_pos hs] at h
        exact ⟨j, by omega, hs, by omega⟩
      · rw [if_neg hs] at h
        omega
def still (P C n al : Nat) (eg em : Nat → Nat) (r : Nat) : Bool := decide (nl P C eg em n r ≤ al)
theorem s_list_L {P C n al : Nat} {eg em : Nat → Nat} {tl : Nat → Int32} (hV : VG P C) (hn : n ≤ 10) (ha : al ≤ 3) (hl : LB P C n eg em tl) : ∀ d j rl, j ≤ C ^ P → C ^ P - j < d → Ls (still P C n al eg em) j rl → ∃ rl', pf_X3_listRowsLeft_L7 (nI al) (nI (C ^ P)) (nI n) tl d (nI j) (nI (cl (still P C n al eg em) j)) rl = some (nI (cl (still P C n al eg em) (C ^ P)), rl') ∧ Ls (still P C n al eg em) (C ^ P) rl' := by
  intro d
  have hR := hV.2.2.2.2
  induction d with
  | zero => intro j rl _ h; omega
  | succ d ih =>
    intro j rl hj hd hL
    rw [pf_X3_listRowsLeft_L7.eq_2]
    by_cases q : j = C ^ P
    · rw [q] at hL ⊢
      refine ⟨rl, ?_, hL⟩
      simp (disch := omega) only [g_lit, nI_add, pk_mul, pk_div, g_sdm, pk_sub, g_clamp, ile_t, ile_f, ilt_t, ilt_f, ieq_t, ieq_f, ieq_r, gi_t, gd_t, gz0, gz1, gl_x, ob0_some, ob1_some, ob2_some, ob3_some, ob4_some, ob5_some, ob6_some, ob7_some, ob8_some, ob9_some, ob10_some, ob11_some, ob12_some, ob13_some]
    · have hc := cl_le (still P C n al eg em) j
      have hr := s_remains hV hn ha (by omega : j < C ^ P) hl
      by_cases h : nl P C eg em n j ≤ al
      · have hs : still P C n al eg em j = true := decide_eq_true h
        rw [if_pos h] at hr
        have e : cl (still P C n al eg em) j + 1 = cl (still P C n al eg em) (j + 1) := by simp only [cl, hs, if_true]
        simp (disch := omega) only [g_lit, nI_add, pk_mul, pk_div, g_sdm, pk_sub, g_clamp, ile_t, ile_f, ilt_t, ilt_f, ieq_t, ieq_f, ieq_r, gi_t, gd_t, gz0, gz1, gl_x, ob0_some, ob1_some, ob2_some, ob3_some, ob4_some, ob5_some, ob6_some, ob7_some, ob8_some, ob9_some, ob10_some, ob11_some, ob12_some, ob13_some, hr, pf_X3_listRowsLeft_j58, pf_X3_listRowsLeft]
        rw [e]
        exact ih (j + 1) _ (by omega) (by omega) (Ls_upd hL)
      · have hs : ¬ still P C n al eg em j = true := fun q => h (of_decide_eq_true q)
        rw [if_neg h] at hr
        have e : cl (still P C n al eg em) j + 0 = cl (still P C n al eg em) (j + 1) := by simp only [cl]; rw [if_neg hs]
        simp (disch := omega) only [g_lit, nI_add, pk_mul, pk_div, g_sdm, pk_sub, g_clamp, ile_t, ile_f, ilt_t, ilt_f, ieq_t, ieq_f, ieq_r, gi_t, gd_t, gz0, gz1, gl_x, ob0_some, ob1_some, ob2_some, ob3_some, ob4_some, ob5_some, ob6_some, ob7_some, ob8_some, ob9_some, ob10_some, ob11_some, ob12_some, ob13_some, hr, pf_X3_listRowsLeft_j58, pf_X3_listRowsLeft]
        rw [← Nat.add_zero (cl (still P C n al eg em) j), e]
        exact ih (j + 1) _ (by omega) (by omega) (Ls_no hL hs)
theorem s_list {P C n al : Nat} {eg em : Nat → Nat} {tl : Nat → Int32} (lc : Int32) (rl : Nat → Int32) (hV : VG P C) (hn : n ≤ 10) (ha : al ≤ 3) (hl : LB P C n eg em tl) : ∃ rl', pf_X3_listRowsLeft lc (nI al) (nI (C ^ P)) (nI n) rl tl = some (nI (cl (still P C n al eg em) (C ^ P)), rl') ∧ Ls (still P C n al eg em) (C ^ P) rl' :=
  s_list_L hV hn ha hl 100000 0 rl (Nat.zero_le _) (by have := hV.2.2.2.2; omega) (fun r hr => absurd hr (Nat.not_lt_zero r))
/-! the reference's -/
/-- the reference's entries -/
def ME (n : Nat) (eg em : Nat → Nat) (mg mt : Nat → Int32) : Prop := ∀ i, i < n → mg i = nI (eg i) ∧ mt i = nI (em i)

/-! marks counted: the parts of a list of rows -/
/-- how many of the first k marks are m -/
def ct (ms : Nat → Nat) : Nat → Nat → Nat
  | 0, _ => 0
  | k + 1, m => ct ms k m + if ms k = m then 1 else 0
theorem ct_le (ms : Nat → Nat) : ∀ k m, ct ms k m ≤ k
  | 0, _ => Nat.le_refl _
  | k + 1, m => by
    have h := ct_le ms k m
    simp only [ct]
    split <;> omega
theorem ct_here (ms : Nat → Nat) (k : Nat) : ct ms (k + 1) (ms k) = ct ms k (ms k) + 1 := by
  show ct ms k (ms k) + (if ms k = ms k then 1 else 0) = _
  rw [if_pos rfl]
theorem ct_else {ms : Nat → Nat} {k m : Nat} (h : m ≠ ms k) : ct ms (k + 1) m = ct ms k m := by
  simp only [ct]
  rw [if_neg (fun e => h e.symm)]
  rfl
/-- distinct marks; the greatest count; the sum of the squares -/
def pd (ms : Nat → Nat) : Nat → Nat
  | 0 => 0
  | k + 1 => pd ms k + if ct ms k (ms k) = 0 then 1 else 0
def pgr (ms : Nat → Nat) : Nat → Nat
  | 0 => 0
  | k + 1 => max (pgr ms k) (ct ms k (ms k) + 1)
def pz (ms : Nat → Nat) : Nat → Nat
  | 0 => 0
  | k + 1 => pz ms k + (2 * (ct ms k (ms k) + 1) - 1)
theorem pd_le (ms : Nat → Nat) : ∀ k, pd ms k ≤ k
  | 0 => Nat.le_refl _
  | k + 1 => by
    have h := pd_le ms k
    simp only [pd]
    split <;> omega
theorem pgr_le (ms : Nat → Nat) : ∀ k, pgr ms k ≤ k
  | 0 => Nat.le_refl _
  | k + 1 => by
    have h := pgr_le ms k
    have h2 := ct_le ms k (ms k)
    simp only [pgr]
    omega
theorem pz_le (ms : Nat → Nat) : ∀ k, pz ms k ≤ k * k
  | 0 => Nat.le_refl _
  | k + 1 => by
    have h := pz_le ms k
    have h2 := ct_le ms k (ms k)
    have e : (k + 1) * (k + 1) = k * k + 2 * k + 1 := by rw [Nat.add_mul, Nat.mul_add]; omega
    simp only [pz]
    omega
theorem pd_mono (ms : Nat → Nat) : ∀ {i j : Nat}, i ≤ j → pd ms i ≤ pd ms j
  | i, 0, h => by
    have : i = 0 := by omega
    rw [this]
    exact Nat.le_refl _
  | i, j + 1, h => by
    by_cases e : i = j + 1
    · rw [e]
      exact Nat.le_refl _
    · have := pd_mono ms (by omega : i ≤ j)
      simp only [pd]
      omega
theorem pd_lt {ms : Nat → Nat} {i j : Nat} (h : i < j) (hs : ct ms i (ms i) = 0) : pd ms i < pd ms j := by
  have h2 := pd_mono ms (by omega : i + 1 ≤ j)
  simp only [pd, hs, if_true] at h2
  omega
/-- sums and the greatest over the marks below M -/
def sm (F : Nat → Nat) (c : Nat → Nat) : Nat → Nat
  | 0 => 0
  | M + 1 => sm F c M + F (c M)
def mx (c : Nat → Nat) : Nat → Nat
  | 0 => 0
  | M + 1 => max (mx c M) (c M)
def pos (n : Nat) : Nat := if n = 0 then 0 else 1
def sq (n : Nat) : Nat := n * n
theorem sm_same {F : Nat → Nat} {c c' : Nat → Nat} : ∀ M, (∀ m, m < M → c' m = c m) → sm F c' M = sm F c M
  | 0, _ => rfl
  | M + 1, h => by
    simp only [sm]
    rw [sm_same M (fun m hm => h m (by omega)), h M (by omega)]
theorem sm_up {F : Nat → Nat} {c c' : Nat → Nat} {x : Nat} (hx : ∀ m, m ≠ x → c' m = c m) : ∀ M, x < M → sm F c' M + F (c x) = sm F c M + F (c' x)
  | 0, h => absurd h (Nat.not_lt_zero x)
  | M + 1, h => by
    simp only [sm]
    by_cases e : x = M
    · subst e
      rw [sm_same x (fun m hm => hx m (by omega))]
      omega
    · have := sm_up (F := F) hx M (by omega)
      rw [hx M (fun q => e q.symm)]
      omega
theorem mx_same {c c' : Nat → Nat} : ∀ M, (∀ m, m < M → c' m = c m) → mx c' M = mx c M
  | 0, _ => rfl
  | M + 1, h => by
    simp only [mx]
    rw [mx_same M (fun m hm => h m (by omega)), h M (by omega)]
theorem mx_up {c c' : Nat → Nat} {x : Nat} (hx : ∀ m, m ≠ x → c' m = c m) (hb : c x ≤ c' x) : ∀ M, x < M → mx c' M = max (mx c M) (c' x)
  | 0, h => absurd h (Nat.not_lt_zero x)
  | M + 1, h => by
    simp only [mx]
    by_cases e : x = M
    · subst e
      rw [mx_same x (fun m hm => hx m (by omega))]
      omega
    · have := mx_up hx hb M (by omega)
      rw [hx M (fun q => e q.symm)]
      omega
theorem sm_pos (c : Nat → Nat) : ∀ M, sm pos c M ≤ M
  | 0 => Nat.le_refl _
  | M + 1 => by
    have h := sm_pos c M
    have h2 : pos (c M) ≤ 1 := by unfold pos; split <;> omega
    simp only [sm]
    omega
theorem pd_sm {ms : Nat → Nat} {M : Nat} : ∀ k, (∀ i, i < k → ms i < M) → pd ms k = sm pos (ct ms k) M
  | 0, _ => by
    have : ∀ M, sm pos (ct ms 0) M = 0 := by
      intro M
      induction M with
      | zero => rfl
      | succ M ih => simp only [sm, ih]; rfl
    exact (this M).symm
  | k + 1, h => by
    have h1 := pd_sm k (fun i hi => h i (by omega))
    have h2 := sm_up (F := pos) (c := ct ms k) (c' := ct ms (k + 1)) (x := ms k) (fun m hm => ct_else hm) M (h k (by omega))
    rw [ct_here] at h2
    simp only [pd]
    have e : pos (ct ms k (ms k) + 1) = 1 := if_neg (by omega)
    by_cases q : ct ms k (ms k) = 0
    · have e2 : pos (ct ms k (ms k)) = 0 := if_pos q
      rw [if_pos q]
      omega
    · have e2 : pos (ct ms k (ms k)) = 1 := if_neg q
      rw [if_neg q]
      omega
theorem pz_sm {ms : Nat → Nat} {M : Nat} : ∀ k, (∀ i, i < k → ms i < M) → pz ms k = sm sq (ct ms k) M
  | 0, _ => by
    have : ∀ M, sm sq (ct ms 0) M = 0 := by
      intro M
      induction M with
      | zero => rfl
      | succ M ih => simp only [sm, ih]; rfl
    exact (this M).symm
  | k + 1, h => by
    have h1 := pz_sm k (fun i hi => h i (by omega))
    have h2 := sm_up (F := sq) (c := ct ms k) (c' := ct ms (k + 1)) (x := ms k) (fun m hm => ct_else hm) M (h k (by omega))
    rw [ct_here] at h2
    have e : sq (ct ms k (ms k) + 1) = sq (ct ms k (ms k)) + 2 * ct ms k (ms k) + 1 := by
      unfold sq
      rw [Nat.add_mul, Nat.mul_add]
      omega
    simp only [pz]
    omega
theorem pgr_mx {ms : Nat → Nat} {M : Nat} : ∀ k, (∀ i, i < k → ms i < M) → pgr ms k = mx (ct ms k) M
  | 0, _ => by
    have : ∀ M, mx (ct ms 0) M = 0 := by
      intro M
      induction M with
      | zero => rfl
      | succ M ih => simp only [mx, ih]; rfl
    exact (this M).symm
  | k + 1, h => by
    have h1 := pgr_mx k (fun i hi => h i (by omega))
    have h2 := mx_up (c := ct ms k) (c' := ct ms (k + 1)) (x := ms k) (fun m hm => ct_else hm) (by rw [ct_here]; omega) M (h k (by omega))
    rw [ct_here] at h2
    simp only [pgr]
    omega
theorem pd_81 {ms : Nat → Nat} {k : Nat} (hm : ∀ i, i < k → ms i ≤ 80) : pd ms k ≤ 81 := by
  rw [pd_sm (M := 81) k (fun i hi => by have := hm i hi; omega)]
  exact sm_pos _ _
/-- the Parting after k marks -/
def Pt (ms : Nat → Nat) (k : Nat) (pm ps : Nat → Int32) : Prop := (∀ i, i < k → ct ms i (ms i) = 0 → pm (pd ms i) = nI (ms i)) ∧ ∀ m, m < 81 → ps m = nI (ct ms k m)
theorem nI_gmax {a b : Nat} (ha : a < 2147483648) (hb : b < 2147483648) : g_max (nI a) (nI b) = nI (max a b) := by
  unfold g_max
  by_cases h : a < b
  · rw [ilt_t h hb, Nat.max_eq_right (by omega)]
  · rw [ilt_f (by omega) ha, Nat.max_eq_left (by omega)]
theorem s_padd {ms : Nat → Nat} {k : Nat} {pm ps : Nat → Int32} (hk : k < 300) (hm : ∀ i, i ≤ k → ms i ≤ 80) (h : Pt ms k pm ps) : ∃ pm' ps', pf_X2_add (nI (pd ms k)) (nI (pgr ms k)) (nI (pz ms k)) pm ps (nI (ms k)) = some (nI (pd ms (k + 1)), nI (pgr ms (k + 1)), nI (pz ms (k + 1)), pm', ps') ∧ Pt ms (k + 1) pm' ps' := by
  have h1 := pd_le ms k
  have h2 := pgr_le ms k
  have h3 := pz_le ms k
  have h4 := ct_le ms k (ms k)
  have h5 := hm k (Nat.le_refl k)
  have h6 : k * k ≤ 300 * 300 := Nat.mul_le_mul (by omega) (by omega)
  have h7 := pd_81 (k := k + 1) (fun i hi => hm i (by omega))
  have e := h.2 (ms k) (by omega)
  have psx : ∀ m, m < 81 → upd ps (ms k) (nI (ct ms k (ms k) + 1)) m = nI (ct ms (k + 1) m) := by
    intro m hm2
    by_cases q : m = ms k
    · subst q
      rw [pk_us, ct_here]
    · rw [pk_un q, ct_else q]
      exact h.2 m hm2
  by_cases q : ct ms k (ms k) = 0
  · have epd : pd ms (k + 1) = pd ms k + 1 := by simp only [pd, q, if_true]
    refine ⟨upd pm (pd ms k) (nI (ms k)), upd ps (ms k) (nI (ct ms k (ms k) + 1)), ?_, ?_, psx⟩
    · rw [epd] at h7 ⊢
      simp (disch := omega) only [g_lit, nI_add, pk_mul, pk_div, g_sdm, pk_sub, g_clamp, ile_t, ile_f, ilt_t, ilt_f, ieq_t, ieq_f, ieq_r, gi_t, gd_t, gz0, gz1, gl_x, ob0_some, ob1_some, ob2_some, ob3_some, ob4_some, ob5_some, ob6_some, ob7_some, ob8_some, ob9_some, ob10_some, ob11_some, ob12_some, ob13_some, e, nI_gmax, pf_X2_add_j10, pf_X2_add_j59, pf_X2_add, pgr, pz]
    · intro i hi hs
      by_cases e2 : i = k
      · subst e2
        exact pk_us
      · have := pd_lt (by omega : i < k) hs
        rw [pk_un (by omega)]
        exact h.1 i (by omega) hs
  · have epd : pd ms (k + 1) = pd ms k := by simp only [pd]; rw [if_neg q]; rfl
    refine ⟨pm, upd ps (ms k) (nI (ct ms k (ms k) + 1)), ?_, ?_, psx⟩
    · rw [epd]
      simp (disch := omega) only [g_lit, nI_add, pk_mul, pk_div, g_sdm, pk_sub, g_clamp, ile_t, ile_f, ilt_t, ilt_f, ieq_t, ieq_f, ieq_r, gi_t, gd_t, gz0, gz1, gl_x, ob0_some, ob1_some, ob2_some, ob3_some, ob4_some, ob5_some, ob6_some, ob7_some, ob8_some, ob9_some, ob10_some, ob11_some, ob12_some, ob13_some, e, nI_gmax, pf_X2_add_j10, pf_X2_add_j59, pf_X2_add, pgr, pz]
    · intro i hi hs
      by_cases e2 : i = k
      · subst e2
        exact absurd hs q
      · exact h.1 i (by omega) hs
/-- a list of rows at a place of an array -/
def Sg (P C : Nat) (f : Nat → Int32) (a s : Nat) (ls : Nat → Nat) : Prop := ∀ i, i < s → f (a + i) = nI (ls i) ∧ ls i < C ^ P
def mz (P C g : Nat) (ls : Nat → Nat) : Nat → Nat := fun i => mk P C g (ls i)
theorem s_part_rl_L {P C g a s : Nat} {ls : Nat → Nat} {f gcb : Nat → Int32} {gpb : Nat → Int64} (hV : VG P C) (hG : laid P C (C ^ P) gcb gpb) (hg : g < C ^ P) (hb : a + s ≤ 256) (hs : Sg P C f a s ls) : ∀ d k pm ps, k ≤ s → s - k < d → Pt (mz P C g ls) k pm ps → ∃ pm' ps', pf_X3_partRows_rl_L10 (nI g) (nI a) (nI s) (nI P) (nI (C ^ P)) f gcb gpb d (nI (a + k)) (nI (pd (mz P C g ls) k)) (nI (pgr (mz P C g ls) k)) (nI (pz (mz P C g ls) k)) pm ps = some (nI (pd (mz P C g ls) s), nI (pgr (mz P C g ls) s), nI (pz (mz P C g ls) s), pm', ps') ∧ Pt (mz P C g ls) s pm' ps' := by
  intro d
  induction d with
  | zero => intro k _ _ _ h; omega
  | succ d ih =>
    intro k pm ps hk hd hP
    rw [pf_X3_partRows_rl_L10.eq_2]
    by_cases q : k = s
    · subst q
      refine ⟨pm, ps, ?_, hP⟩
      simp (disch := omega) only [g_lit, nI_add, pk_mul, pk_div, g_sdm, pk_sub, g_clamp, ile_t, ile_f, ilt_t, ilt_f, ieq_t, ieq_f, ieq_r, gi_t, gd_t, gz0, gz1, gl_x, ob0_some, ob1_some, ob2_some, ob3_some, ob4_some, ob5_some, ob6_some, ob7_some, ob8_some, ob9_some, ob10_some, ob11_some, ob12_some, ob13_some, pf_X3_partRows_rl_j51, pf_X3_partRows_rl]
    · obtain ⟨e1, e2⟩ := hs k (by omega)
      have e3 : pf_X1_compare (nI P) (nI (C ^ P)) gcb gpb (nI g) (nI (ls k)) = some (nI (mz P C g ls k)) := cmp hV hG hg e2
      obtain ⟨pm1, ps1, e4, hP1⟩ := s_padd (ms := mz P C g ls) (by omega) (fun i hi => mk80 hV g (ls i)) hP
      obtain ⟨pm2, ps2, e5, hP2⟩ := ih (k + 1) pm1 ps1 (by omega) (by omega) hP1
      refine ⟨pm2, ps2, ?_, hP2⟩
      rw [← e5]
      simp (disch := omega) only [g_lit, nI_add, pk_mul, pk_div, g_sdm, pk_sub, g_clamp, ile_t, ile_f, ilt_t, ilt_f, ieq_t, ieq_f, ieq_r, gi_t, gd_t, gz0, gz1, gl_x, ob0_some, ob1_some, ob2_some, ob3_some, ob4_some, ob5_some, ob6_some, ob7_some, ob8_some, ob9_some, ob10_some, ob11_some, ob12_some, ob13_some, e1, e3, e4, Nat.add_assoc]
theorem s_part_rl {P C g a s : Nat} {ls : Nat → Nat} {f gcb : Nat → Int32} {gpb : Nat → Int64} (pn pg pq : Int32) (pm ps : Nat → Int32) (hV : VG P C) (hG : laid P C (C ^ P) gcb gpb) (hg : g < C ^ P) (hb : a + s ≤ 256) (hs : Sg P C f a s ls) : ∃ pm' ps', pf_X3_partRows_rl (nI P) (nI (C ^ P)) pn pg pq f gcb gpb pm ps (nI g) (nI a) (nI s) = some (nI (pd (mz P C g ls) s), nI (pgr (mz P C g ls) s), nI (pz (mz P C g ls) s), pm', ps') ∧ Pt (mz P C g ls) s pm' ps' := by
  obtain ⟨ps0, e0, h0⟩ := s_fill ps (nI 0) (by decide : 81 < 100000)
  obtain ⟨pm1, ps1, e1, h1⟩ := s_part_rl_L hV hG hg hb hs 100000 0 pm ps0 (Nat.zero_le _) (by omega) ⟨fun i hi => absurd hi (Nat.not_lt_zero i), h0⟩
  refine ⟨pm1, ps1, ?_, h1⟩
  rw [← e1]
  simp (disch := omega) only [g_lit, nI_add, pk_mul, pk_div, g_sdm, pk_sub, g_clamp, ile_t, ile_f, ilt_t, ilt_f, ieq_t, ieq_f, ieq_r, gi_t, gd_t, gz0, gz1, gl_x, ob0_some, ob1_some, ob2_some, ob3_some, ob4_some, ob5_some, ob6_some, ob7_some, ob8_some, ob9_some, ob10_some, ob11_some, ob12_some, ob13_some, e0, pf_X3_partRows_rl_j51, pf_X3_partRows_rl, pf_X2_clear]
  rfl
theorem s_part_sr_L {P C g a s : Nat} {ls : Nat → Nat} {f gcb : Nat → Int32} {gpb : Nat → Int64} (hV : VG P C) (hG : laid P C (C ^ P) gcb gpb) (hg : g < C ^ P) (hb : a + s ≤ 300) (hs : Sg P C f a s ls) : ∀ d k pm ps, k ≤ s → s - k < d → Pt (mz P C g ls) k pm ps → ∃ pm' ps', pf_X3_partRows_sr_L10 (nI g) (nI a) (nI s) (nI P) (nI (C ^ P)) f gcb gpb d (nI (a + k)) (nI (pd (mz P C g ls) k)) (nI (pgr (mz P C g ls) k)) (nI (pz (mz P C g ls) k)) pm ps = some (nI (pd (mz P C g ls) s), nI (pgr (mz P C g ls) s), nI (pz (mz P C g ls) s), pm', ps') ∧ Pt (mz P C g ls) s pm' ps' := by
  intro d
  induction d with
  | zero => intro k _ _ _ h; omega
  | succ d ih =>
    intro k pm ps hk hd hP
    rw [pf_X3_partRows_sr_L10.eq_2]
    by_cases q : k = s
    · subst q
      refine ⟨pm, ps, ?_, hP⟩
      simp (disch := omega) only [g_lit, nI_add, pk_mul, pk_div, g_sdm, pk_sub, g_clamp, ile_t, ile_f, ilt_t, ilt_f, ieq_t, ieq_f, ieq_r, gi_t, gd_t, gz0, gz1, gl_x, ob0_some, ob1_some, ob2_some, ob3_some, ob4_some, ob5_some, ob6_some, ob7_some, ob8_some, ob9_some, ob10_some, ob11_some, ob12_some, ob13_some, pf_X3_partRows_sr_j51, pf_X3_partRows_sr]
    · obtain ⟨e1, e2⟩ := hs k (by omega)
      have e3 : pf_X1_compare (nI P) (nI (C ^ P)) gcb gpb (nI g) (nI (ls k)) = some (nI (mz P C g ls k)) := cmp hV hG hg e2
      obtain ⟨pm1, ps1, e4, hP1⟩ := s_padd (ms := mz P C g ls) (by omega) (fun i hi => mk80 hV g (ls i)) hP
      obtain ⟨pm2, ps2, e5, hP2⟩ := ih (k + 1) pm1 ps1 (by omega) (by omega) hP1
      refine ⟨pm2, ps2, ?_, hP2⟩
      rw [← e5]
      simp (disch := omega) only [g_lit, nI_add, pk_mul, pk_div, g_sdm, pk_sub, g_clamp, ile_t, ile_f, ilt_t, ilt_f, ieq_t, ieq_f, ieq_r, gi_t, gd_t, gz0, gz1, gl_x, ob0_some, ob1_some, ob2_some, ob3_some, ob4_some, ob5_some, ob6_some, ob7_some, ob8_some, ob9_some, ob10_some, ob11_some, ob12_some, ob13_some, e1, e3, e4, Nat.add_assoc]
theorem s_part_sr {P C g a s : Nat} {ls : Nat → Nat} {f gcb : Nat → Int32} {gpb : Nat → Int64} (pn pg pq : Int32) (pm ps : Nat → Int32) (hV : VG P C) (hG : laid P C (C ^ P) gcb gpb) (hg : g < C ^ P) (hb : a + s ≤ 300) (hs : Sg P C f a s ls) : ∃ pm' ps', pf_X3_partRows_sr (nI P) (nI (C ^ P)) pn pg pq f gcb gpb pm ps (nI g) (nI a) (nI s) = some (nI (pd (mz P C g ls) s), nI (pgr (mz P C g ls) s), nI (pz (mz P C g ls) s), pm', ps') ∧ Pt (mz P C g ls) s pm' ps' := by
  obtain ⟨ps0, e0, h0⟩ := s_fill ps (nI 0) (by decide : 81 < 100000)
  obtain ⟨pm1, ps1, e1, h1⟩ := s_part_sr_L hV hG hg hb hs 100000 0 pm ps0 (Nat.zero_le _) (by omega) ⟨fun i hi => absurd hi (Nat.not_lt_zero i), h0⟩
  refine ⟨pm1, ps1, ?_, h1⟩
  rw [← e1]
  simp (disch := omega) only [g_lit, nI_add, pk_mul, pk_div, g_sdm, pk_sub, g_clamp, ile_t, ile_f, ilt_t, ilt_f, ieq_t, ieq_f, ieq_r, gi_t, gd_t, gz0, gz1, gl_x, ob0_some, ob1_some, ob2_some, ob3_some, ob4_some, ob5_some, ob6_some, ob7_some, ob8_some, ob9_some, ob10_some, ob11_some, ob12_some, ob13_some, e0, pf_X3_partRows_sr_j51, pf_X3_partRows_sr, pf_X2_clear]
  rfl
theorem mx_le {c : Nat → Nat} {b : Nat} (h : ∀ m, c m ≤ b) : ∀ M, mx c M ≤ b
  | 0 => Nat.zero_le _
  | M + 1 => by
    have h1 := mx_le h M
    have h2 := h M
    simp only [mx]
    omega
theorem sm_le {c : Nat → Nat} {b : Nat} (h : ∀ m, c m ≤ b) : ∀ M, sm sq c M ≤ M * (b * b)
  | 0 => Nat.zero_le _
  | M + 1 => by
    have h1 := sm_le h M
    have h2 : sq (c M) ≤ b * b := Nat.mul_le_mul (h M) (h M)
    simp only [sm]
    rw [Nat.add_mul]
    omega
/-! which mark comes as the j-th -/
def fo (ms : Nat → Nat) (v : Int32) : Nat → Int32
  | 0 => -1
  | k + 1 => if ct ms k (ms k) = 0 ∧ nI (pd ms k) = v then nI (ms k) else fo ms v k
theorem fo_hit {ms : Nat → Nat} {i : Nat} (hs : ct ms i (ms i) = 0) : ∀ k, k ≤ 300 → i < k → fo ms (nI (pd ms i)) k = nI (ms i)
  | 0, _, h => absurd h (Nat.not_lt_zero i)
  | k + 1, hk, h => by
    simp only [fo]
    by_cases e : i = k
    · subst e
      exact if_pos ⟨hs, rfl⟩
    · have h1 := pd_lt (by omega : i < k) hs
      have h2 := pd_le ms k
      rw [if_neg (fun q => by
        have := (nI_eq (by omega) (by omega)).mp q.2
        omega)]
      exact fo_hit hs k (by omega) (by omega)
theorem fo_miss {ms : Nat → Nat} {v : Int32} : ∀ k, k ≤ 300 → NR (pd ms k) v → fo ms v k = -1
  | 0, _, _ => rfl
  | k + 1, hk, h => by
    have h2 := pd_le ms k
    have h3 := pd_mono ms (by omega : k ≤ k + 1)
    simp only [fo]
    rw [if_neg, fo_miss k (by omega)]
    · rcases h with h | ⟨j, h4, h5, h6⟩
      · exact Or.inl h
      · exact Or.inr ⟨j, by omega, h5, h6⟩
    · rintro ⟨q1, q2⟩
      have h7 := pd_lt (by omega : k < k + 1) q1
      rcases h with h | ⟨j, h4, h5, h6⟩
      · rw [← q2] at h
        exact nI_pos (by omega) h
      · rw [h6] at q2
        have := (nI_eq (by omega) (by omega)).mp q2
        omega
theorem pd_kth (ms : Nat → Nat) : ∀ (k j : Nat), j < pd ms k → ∃ i, i < k ∧ ct ms i (ms i) = 0 ∧ pd ms i = j
  | 0, j, h => absurd h (Nat.not_lt_zero j)
  | k + 1, j, h => by
    simp only [pd] at h
    by_cases q : j < pd ms k
    · obtain ⟨i, h1, h2, h3⟩ := pd_kth ms k j q
      exact ⟨i, by omega, h2, h3⟩
    · by_cases hs : ct ms k (ms k) = 0
      · rw [if_pos hs] at h
        exact ⟨k, by omega, hs, by omega⟩
      · rw [if_neg hs] at h
        omega
theorem ct_mono (ms : Nat → Nat) (m : Nat) : ∀ {i j : Nat}, i ≤ j → ct ms i m ≤ ct ms j m
  | i, 0, h => by
    have : i = 0 := by omega
    rw [this]
    exact Nat.le_refl _
  | i, j + 1, h => by
    by_cases e : i = j + 1
    · rw [e]
      exact Nat.le_refl _
    · have := ct_mono ms m (by omega : i ≤ j)
      simp only [ct]
      omega
theorem fo_ok {ms : Nat → Nat} {v : Int32} (hm : ∀ i, ms i ≤ 80) : ∀ k, fo ms v k = -1 ∨ ∃ m, m ≤ 80 ∧ fo ms v k = nI m
  | 0 => Or.inl rfl
  | k + 1 => by
    simp only [fo]
    by_cases h : ct ms k (ms k) = 0 ∧ nI (pd ms k) = v
    · rw [if_pos h]
      exact Or.inr ⟨ms k, hm k, rfl⟩
    · rw [if_neg h]
      exact fo_ok hm k
theorem nI_m1 {m : Nat} (h : m < 2147483648) : nI m ≠ -1 := by
  intro q
  have h1 : nI m < 0 := by rw [q]; decide
  exact nI_pos h h1

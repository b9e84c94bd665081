theorem in_m_t {n j : Nat} (hn : n ≤ 256) (hj : j < n) : pf_X4_in (nI j) (nI 0) (nI (n - 1)) = some (nI 1) := s_in_t (Nat.zero_le _) (by omega) (by omega)
theorem in_m_f {n : Nat} (h1 : 1 ≤ n) (hn : n ≤ 256) {v : Int32} (h : NR n v) : pf_X4_in v (nI 0) (nI (n - 1)) = some (nI 0) := by
  rcases h with h | ⟨k, h1, h2, rfl⟩
  · exact s_in_lo (by omega) h
  · exact s_in_f (Or.inr (by omega)) (by omega) h2
theorem t64_0 : (nI 0).toInt64 = 0 := by decide
theorem t64_1 : (nI 1).toInt64 = 1 := by decide
/-- the row at the place k -/
def rk (st : Nat → Bool) : Nat → Nat → Nat
  | 0, _ => 0
  | j + 1, k => if st j = true ∧ cl st j = k then j else rk st j k
theorem rk_kth (st : Nat → Bool) : ∀ j k, k < cl st j → rk st j k < j ∧ st (rk st j k) = true ∧ cl st (rk st j k) = k
  | 0, k, h => absurd h (Nat.not_lt_zero k)
  | j + 1, k, h => by
    simp only [cl] at h
    by_cases e : st j = true ∧ cl st j = k
    · have e2 : rk st (j + 1) k = j := if_pos e
      rw [e2]
      exact ⟨by omega, e.1, e.2⟩
    · have e2 : rk st (j + 1) k = rk st j k := if_neg e
      have h2 : k < cl st j := by
        by_cases q : st j = true
        · have : cl st j ≠ k := fun z => e ⟨q, z⟩
          rw [if_pos q] at h
          omega
        · rw [if_neg q] at h
          omega
      obtain ⟨h3, h4, h5⟩ := rk_kth st j k h2
      rw [e2]
      exact ⟨by omega, h4, h5⟩
theorem Sg_Ls {P C : Nat} {st : Nat → Bool} {f : Nat → Int32} (h : Ls st (C ^ P) f) : Sg P C f 0 (cl st (C ^ P)) (rk st (C ^ P)) := by
  intro k hk
  obtain ⟨h1, h2, h3⟩ := rk_kth st (C ^ P) k hk
  have h4 := h _ h1 h2
  rw [h3] at h4
  rw [Nat.zero_add]
  exact ⟨h4, h1⟩
theorem As_rk (st : Nat → Bool) (R : Nat) : As (rk st R) (cl st R) := by
  intro i k hik hk
  obtain ⟨h1, h2, h3⟩ := rk_kth st R i (by omega)
  obtain ⟨h4, h5, h6⟩ := rk_kth st R k hk
  by_cases q : rk st R i < rk st R k
  · exact q
  · have := cl_mono st (by omega : rk st R k ≤ rk st R i)
    omega
theorem ob5_e {T1 T2 T3 T4 T5 α : Type} {x : Option (T1 × T2 × T3 × T4 × T5)} {a : T1} {b : T2} {c : T3} {d : T4} {e : T5} {k : T1 → T2 → T3 → T4 → T5 → Option α} (h : x = some (a, b, c, d, e)) : ob5 x k = k a b c d e := by
  rw [h]
  rfl
section
variable {P C n al : Nat} {eg em : Nat → Nat} {rl gcb tg tm tl mg mt : Nat → Int32} {gpb : Nat → Int64}
theorem s_pleft {st : Nat → Bool} {g : Nat} (pn pg pq : Int32) (pm ps : Nat → Int32) (hV : VG P C) (hG : laid P C (C ^ P) gcb gpb) (hg : g < C ^ P) (hL : Ls st (C ^ P) rl) : ∃ pm' ps', pf_X3_partLeft (nI (cl st (C ^ P))) (nI P) (nI (C ^ P)) pn pg pq rl gcb gpb pm ps (nI g) = some (nI (pd (mz P C g (rk st (C ^ P))) (cl st (C ^ P))), nI (pgr (mz P C g (rk st (C ^ P))) (cl st (C ^ P))), nI (pz (mz P C g (rk st (C ^ P))) (cl st (C ^ P))), pm', ps') ∧ Pt (mz P C g (rk st (C ^ P))) (cl st (C ^ P)) pm' ps' := by
  have h1 := cl_le st (C ^ P)
  have hR := hV.2.2.2.2
  obtain ⟨pm1, ps1, e, h⟩ := s_part_rl pn pg pq pm ps hV hG hg (by omega) (Sg_Ls hL)
  exact ⟨pm1, ps1, by simp (disch := omega) only [g_lit, nI_add, pk_mul, pk_div, g_sdm, pk_sub, g_clamp, ile_t, ile_f, ilt_t, ilt_f, ieq_t, ieq_f, ieq_r, gi_t, gd_t, gz0, gz1, gl_x, ob0_some, ob1_some, ob2_some, ob3_some, ob4_some, ob5_some, ob6_some, ob7_some, ob8_some, ob9_some, ob10_some, ob11_some, ob12_some, ob13_some, pf_X3_partLeft, e], h⟩
theorem s_asks_t {g : Nat} (th : Int32) (mh mza mset : Nat → Int32) (hV : VG P C) (hE : ES P C n eg em) (ha : al ≤ 3) (hM : ME n eg em mg mt) (hg : g < C ^ P) : ∃ mh' mz' mset', pf_X4_asks th (nI P) (nI C) (nI (C ^ P)) (nI al) (nI n) mg mt mh mza mset (nI g) = some (nI 1, nI 0, mh', mz', mset') ∧ (∀ m, m < 100 → mz' m = nI (ct (mz P C g (rk (still P C n al eg em) (C ^ P))) (cl (still P C n al eg em) (C ^ P)) m)) := by
  have h1 := cl_le (still P C n al eg em) (C ^ P)
  have hR := hV.2.2.2.2
  obtain ⟨mh1, mset1, e1, hL⟩ := s_lays mh mset hV hE ha hM
  obtain ⟨mh2, mz2, e2, h2⟩ := s_mparts mh1 mza hV hg (by omega) (by omega) (Sg_Ls hL)
  exact ⟨mh2, mz2, mset1, by simp (disch := omega) only [g_lit, nI_add, pk_mul, pk_div, g_sdm, pk_sub, g_clamp, ile_t, ile_f, ilt_t, ilt_f, ieq_t, ieq_f, ieq_r, gi_t, gd_t, gz0, gz1, gl_x, ob0_some, ob1_some, ob2_some, ob3_some, ob4_some, ob5_some, ob6_some, ob7_some, ob8_some, ob9_some, ob10_some, ob11_some, ob12_some, ob13_some, pf_X4_asks_j48, pf_X4_asks_j36, pf_X4_asks_j14, pf_X4_asks, irow_t hV hg, e1, e2, if_true], h2⟩
theorem s_asks_f (th : Int32) (mh mza mset : Nat → Int32) (hV : VG P C) {v : Int32} (h : NR (C ^ P) v) : pf_X4_asks th (nI P) (nI C) (nI (C ^ P)) (nI al) (nI n) mg mt mh mza mset v = some (nI 0, nI 1, mh, mza, mset) := by
  simp (disch := omega) only [g_lit, nI_add, pk_mul, pk_div, g_sdm, pk_sub, g_clamp, ile_t, ile_f, ilt_t, ilt_f, ieq_t, ieq_f, ieq_r, gi_t, gd_t, gz0, gz1, gl_x, ob0_some, ob1_some, ob2_some, ob3_some, ob4_some, ob5_some, ob6_some, ob7_some, ob8_some, ob9_some, ob10_some, ob11_some, ob12_some, ob13_some, pf_X4_asks_j48, pf_X4_asks_j36, pf_X4_asks_j14, pf_X4_asks, irow_f hV h, if_true]
theorem m80 {g : Nat} {ls : Nat → Nat} (hV : VG P C) (i : Nat) : mz P C g ls i ≤ 80 := mk80 hV g (ls i)
theorem q_parts {g : Nat} (th pn pg pq : Int32) (pm ps mh mza mset : Nat → Int32) (hV : VG P C) (hG : laid P C (C ^ P) gcb gpb) (hE : ES P C n eg em) (ha : al ≤ 3) (hM : ME n eg em mg mt) (hL : Ls (still P C n al eg em) (C ^ P) rl) (hg : g < C ^ P) : ∃ A pn' pg' pq' pm' ps' mh' mz' mset', pf_X3_parts (nI (cl (still P C n al eg em) (C ^ P))) (nI P) (nI (C ^ P)) pn pg pq rl gcb gpb pm ps (nI g) = some (0, A, pn', pg', pq', pm', ps') ∧ pf_X4_parts th (nI P) (nI C) (nI (C ^ P)) (nI al) (nI n) mg mt mh mza mset (nI g) = some (A, nI 0, mh', mz', mset') := by
  have h1 := cl_le (still P C n al eg em) (C ^ P)
  have hR := hV.2.2.2.2
  obtain ⟨pm1, ps1, e1, _⟩ := s_pleft pn pg pq pm ps hV hG hg hL
  obtain ⟨mh2, mz2, mset2, e2, h2⟩ := s_asks_t (al := al) th mh mza mset hV hE ha hM hg
  have e3 := s_mcount (fun m => Nat.le_trans (ct_le _ _ _) (by omega)) h2
  rw [← pd_sm (M := 100) _ (fun i _ => by have := m80 (g := g) (ls := rk (still P C n al eg em) (C ^ P)) hV i; omega)] at e3
  exact ⟨_, _, _, _, _, _, mh2, mz2, mset2, by simp (disch := omega) only [g_lit, nI_add, pk_mul, pk_div, g_sdm, pk_sub, g_clamp, ile_t, ile_f, ilt_t, ilt_f, ieq_t, ieq_f, ieq_r, gi_t, gd_t, gz0, gz1, gl_x, ob0_some, ob1_some, ob2_some, ob3_some, ob4_some, ob5_some, ob6_some, ob7_some, ob8_some, ob9_some, ob10_some, ob11_some, ob12_some, ob13_some, pf_X3_parts, rrow_t hV hg, e1, if_true] <;> rfl, by simp (disch := omega) only [g_lit, nI_add, pk_mul, pk_div, g_sdm, pk_sub, g_clamp, ile_t, ile_f, ilt_t, ilt_f, ieq_t, ieq_f, ieq_r, gi_t, gd_t, gz0, gz1, gl_x, ob0_some, ob1_some, ob2_some, ob3_some, ob4_some, ob5_some, ob6_some, ob7_some, ob8_some, ob9_some, ob10_some, ob11_some, ob12_some, ob13_some, pf_X4_parts_j16, pf_X4_parts, e2, e3, if_true] <;> rfl⟩
theorem q_worst {g : Nat} (th pn pg pq : Int32) (pm ps mh mza mset : Nat → Int32) (hV : VG P C) (hG : laid P C (C ^ P) gcb gpb) (hE : ES P C n eg em) (ha : al ≤ 3) (hM : ME n eg em mg mt) (hL : Ls (still P C n al eg em) (C ^ P) rl) (hg : g < C ^ P) : ∃ A pn' pg' pq' pm' ps' mh' mz' mset', pf_X3_worstCase (nI (cl (still P C n al eg em) (C ^ P))) (nI P) (nI (C ^ P)) pn pg pq rl gcb gpb pm ps (nI g) = some (0, A, pn', pg', pq', pm', ps') ∧ pf_X4_worstCase th (nI P) (nI C) (nI (C ^ P)) (nI al) (nI n) mg mt mh mza mset (nI g) = some (A, nI 0, mh', mz', mset') := by
  have h1 := cl_le (still P C n al eg em) (C ^ P)
  have hR := hV.2.2.2.2
  obtain ⟨pm1, ps1, e1, _⟩ := s_pleft pn pg pq pm ps hV hG hg hL
  obtain ⟨mh2, mz2, mset2, e2, h2⟩ := s_asks_t (al := al) th mh mza mset hV hE ha hM hg
  have e3 := s_worst (fun m => Nat.le_trans (ct_le _ _ _) (by omega)) h2
  rw [← pgr_mx (M := 100) _ (fun i _ => by have := m80 (g := g) (ls := rk (still P C n al eg em) (C ^ P)) hV i; omega)] at e3
  exact ⟨_, _, _, _, _, _, mh2, mz2, mset2, by simp (disch := omega) only [g_lit, nI_add, pk_mul, pk_div, g_sdm, pk_sub, g_clamp, ile_t, ile_f, ilt_t, ilt_f, ieq_t, ieq_f, ieq_r, gi_t, gd_t, gz0, gz1, gl_x, ob0_some, ob1_some, ob2_some, ob3_some, ob4_some, ob5_some, ob6_some, ob7_some, ob8_some, ob9_some, ob10_some, ob11_some, ob12_some, ob13_some, pf_X3_worstCase, rrow_t hV hg, e1, if_true] <;> rfl, by simp (disch := omega) only [g_lit, nI_add, pk_mul, pk_div, g_sdm, pk_sub, g_clamp, ile_t, ile_f, ilt_t, ilt_f, ieq_t, ieq_f, ieq_r, gi_t, gd_t, gz0, gz1, gl_x, ob0_some, ob1_some, ob2_some, ob3_some, ob4_some, ob5_some, ob6_some, ob7_some, ob8_some, ob9_some, ob10_some, ob11_some, ob12_some, ob13_some, pf_X4_worstCase_j16, pf_X4_worstCase, e2, e3, if_true] <;> rfl⟩
theorem q_weight {g : Nat} (th pn pg pq : Int32) (pm ps mh mza mset : Nat → Int32) (hV : VG P C) (hG : laid P C (C ^ P) gcb gpb) (hE : ES P C n eg em) (ha : al ≤ 3) (hM : ME n eg em mg mt) (hL : Ls (still P C n al eg em) (C ^ P) rl) (hg : g < C ^ P) : ∃ A pn' pg' pq' pm' ps' mh' mz' mset', pf_X3_weight (nI (cl (still P C n al eg em) (C ^ P))) (nI P) (nI (C ^ P)) pn pg pq rl gcb gpb pm ps (nI g) = some (0, A, pn', pg', pq', pm', ps') ∧ pf_X4_weight th (nI P) (nI C) (nI (C ^ P)) (nI al) (nI n) mg mt mh mza mset (nI g) = some (A, nI 0, mh', mz', mset') := by
  have h1 := cl_le (still P C n al eg em) (C ^ P)
  have hR := hV.2.2.2.2
  obtain ⟨pm1, ps1, e1, _⟩ := s_pleft pn pg pq pm ps hV hG hg hL
  obtain ⟨mh2, mz2, mset2, e2, h2⟩ := s_asks_t (al := al) th mh mza mset hV hE ha hM hg
  have e3 := s_squares (fun m => Nat.le_trans (ct_le _ _ _) (by omega)) h2
  rw [← pz_sm (M := 100) _ (fun i _ => by have := m80 (g := g) (ls := rk (still P C n al eg em) (C ^ P)) hV i; omega)] at e3
  exact ⟨_, _, _, _, _, _, mh2, mz2, mset2, by simp (disch := omega) only [g_lit, nI_add, pk_mul, pk_div, g_sdm, pk_sub, g_clamp, ile_t, ile_f, ilt_t, ilt_f, ieq_t, ieq_f, ieq_r, gi_t, gd_t, gz0, gz1, gl_x, ob0_some, ob1_some, ob2_some, ob3_some, ob4_some, ob5_some, ob6_some, ob7_some, ob8_some, ob9_some, ob10_some, ob11_some, ob12_some, ob13_some, pf_X3_weight, rrow_t hV hg, e1, if_true] <;> rfl, by simp (disch := omega) only [g_lit, nI_add, pk_mul, pk_div, g_sdm, pk_sub, g_clamp, ile_t, ile_f, ilt_t, ilt_f, ieq_t, ieq_f, ieq_r, gi_t, gd_t, gz0, gz1, gl_x, ob0_some, ob1_some, ob2_some, ob3_some, ob4_some, ob5_some, ob6_some, ob7_some, ob8_some, ob9_some, ob10_some, ob11_some, ob12_some, ob13_some, pf_X4_weight_j16, pf_X4_weight, e2, e3, if_true] <;> rfl⟩
theorem q_psize {g m : Nat} (th pn pg pq : Int32) (pm ps mh mza mset : Nat → Int32) (hV : VG P C) (hG : laid P C (C ^ P) gcb gpb) (hE : ES P C n eg em) (ha : al ≤ 3) (hM : ME n eg em mg mt) (hL : Ls (still P C n al eg em) (C ^ P) rl) (hg : g < C ^ P) (hm : m ≤ 80) (p1 : pf_X1_allows (nI P) (nI m) = some (nI 1)) (p2 : pf_X4_isPossible (nI P) (nI m) = some (nI 1)) : ∃ A pn' pg' pq' pm' ps' mh' mz' mset', pf_X3_partSize (nI (cl (still P C n al eg em) (C ^ P))) (nI P) (nI (C ^ P)) pn pg pq rl gcb gpb pm ps (nI g) (nI m) = some (0, A, pn', pg', pq', pm', ps') ∧ pf_X4_partSize th (nI P) (nI C) (nI (C ^ P)) (nI al) (nI n) mg mt mh mza mset (nI g) (nI m) = some (A, nI 0, mh', mz', mset') := by
  obtain ⟨pm1, ps1, e1, hp⟩ := s_pleft pn pg pq pm ps hV hG hg hL
  obtain ⟨mh2, mz2, mset2, e2, h2⟩ := s_asks_t (al := al) (nI 0) mh mza mset hV hE ha hM hg
  have e3 := hp.2 m (by omega)
  have e4 := h2 m (by omega)
  exact ⟨_, _, _, _, _, _, mh2, mz2, mset2, by simp (disch := omega) only [g_lit, nI_add, pk_mul, pk_div, g_sdm, pk_sub, g_clamp, ile_t, ile_f, ilt_t, ilt_f, ieq_t, ieq_f, ieq_r, gi_t, gd_t, gz0, gz1, gl_x, ob0_some, ob1_some, ob2_some, ob3_some, ob4_some, ob5_some, ob6_some, ob7_some, ob8_some, ob9_some, ob10_some, ob11_some, ob12_some, ob13_some, pf_X3_partSize, pf_X3_requirePossible, pf_X2_sizeWith_j20, pf_X2_sizeWith_j19, pf_X2_sizeWith, rrow_t hV hg, p1, e1, e3, if_true] <;> rfl, by simp (disch := omega) only [g_lit, nI_add, pk_mul, pk_div, g_sdm, pk_sub, g_clamp, ile_t, ile_f, ilt_t, ilt_f, ieq_t, ieq_f, ieq_r, gi_t, gd_t, gz0, gz1, gl_x, ob0_some, ob1_some, ob2_some, ob3_some, ob4_some, ob5_some, ob6_some, ob7_some, ob8_some, ob9_some, ob10_some, ob11_some, ob12_some, ob13_some, pf_X4_partSize_j54, pf_X4_partSize_j53, pf_X4_partSize_j26, pf_X4_partSize, irow_t hV hg, p2, e2, e4, if_true] <;> rfl⟩
theorem q_pmark {g : Nat} (th pn pg pq v : Int32) (pm ps mh mza mset : Nat → Int32) (hV : VG P C) (hG : laid P C (C ^ P) gcb gpb) (hE : ES P C n eg em) (ha : al ≤ 3) (hM : ME n eg em mg mt) (hL : Ls (still P C n al eg em) (C ^ P) rl) (hg : g < C ^ P) : ∃ pn' pg' pq' pm' ps' mh' mz' mset', (∃ A, pf_X3_partMark (nI (cl (still P C n al eg em) (C ^ P))) (nI P) (nI (C ^ P)) pn pg pq rl gcb gpb pm ps (nI g) v = some (0, A, pn', pg', pq', pm', ps') ∧ pf_X4_partMark th (nI P) (nI C) (nI (C ^ P)) (nI al) (nI n) mg mt mh mza mset (nI g) v = some (A, nI 0, mh', mz', mset')) ∨ (pf_X3_partMark (nI (cl (still P C n al eg em) (C ^ P))) (nI P) (nI (C ^ P)) pn pg pq rl gcb gpb pm ps (nI g) v = some (1, nI 0, pn', pg', pq', pm', ps') ∧ pf_X4_partMark th (nI P) (nI C) (nI (C ^ P)) (nI al) (nI n) mg mt mh mza mset (nI g) v = some (nI 0, nI 1, mh', mz', mset')) := by
  have h1 := cl_le (still P C n al eg em) (C ^ P)
  have hR := hV.2.2.2.2
  obtain ⟨pm1, ps1, e1, hp⟩ := s_pleft pn pg pq pm ps hV hG hg hL
  obtain ⟨mh2, mz2, mset2, e2, h2⟩ := s_asks_t (al := al) th mh mza mset hV hE ha hM hg
  obtain ⟨mh3, mset3, e3, hL3⟩ := s_lays (al := al) mh2 mset2 hV hE ha hM
  obtain ⟨mh4, mz4, t, r, e4, h4⟩ := s_pmark_L v hV hg (by omega) (Sg_Ls hL3) 100000 0 mh3 mz2 (Nat.zero_le _) (by omega) (fun m hm => by rw [h2 m hm]; exact congrArg nI (if_pos rfl).symm)
  have e6 : pf_X4_partMark th (nI P) (nI C) (nI (C ^ P)) (nI al) (nI n) mg mt mh mza mset (nI g) v = some (r, t, mh4, mz4, mset3) := by
    unfold pf_X4_partMark
    refine (ob5_e e2).trans ?_
    refine (if_neg (by decide : ¬ nI 1 = 0)).trans ?_
    refine (ob3_e e3).trans ?_
    generalize (100000 : Nat) = F at e4 ⊢
    exact e4
  have h81 := pd_81 (ms := mz P C g (rk (still P C n al eg em) (C ^ P))) (k := cl (still P C n al eg em) (C ^ P)) (fun i _ => m80 hV i)
  have hpd := pd_le (mz P C g (rk (still P C n al eg em) (C ^ P))) (cl (still P C n al eg em) (C ^ P))
  refine ⟨nI (pd (mz P C g (rk (still P C n al eg em) (C ^ P))) (cl (still P C n al eg em) (C ^ P))), nI (pgr (mz P C g (rk (still P C n al eg em) (C ^ P))) (cl (still P C n al eg em) (C ^ P))), nI (pz (mz P C g (rk (still P C n al eg em) (C ^ P))) (cl (still P C n al eg em) (C ^ P))), pm1, ps1, mh4, mz4, mset3, ?_⟩
  rcases row_cases (pd (mz P C g (rk (still P C n al eg em) (C ^ P))) (cl (still P C n al eg em) (C ^ P))) v with ⟨j, hj, rfl⟩ | hj
  · obtain ⟨i, i1, i2, i3⟩ := pd_kth _ _ _ hj
    have f1 := fo_hit (ms := mz P C g (rk (still P C n al eg em) (C ^ P))) i2 (cl (still P C n al eg em) (C ^ P)) (by omega) i1
    have f2 := hp.1 i i1 i2
    have f3 := m80 (g := g) (ls := rk (still P C n al eg em) (C ^ P)) hV i
    rw [i3] at f1 f2
    rw [f1] at h4
    rcases h4 with ⟨q, _⟩ | ⟨_, rfl, rfl⟩
    · exact absurd q (nI_m1 (by omega))
    · refine Or.inl ⟨_, ?_, e6⟩
      simp (disch := omega) only [g_lit, nI_add, pk_mul, pk_div, g_sdm, pk_sub, g_clamp, ile_t, ile_f, ilt_t, ilt_f, ieq_t, ieq_f, ieq_r, gi_t, gd_t, gz0, gz1, gl_x, ob0_some, ob1_some, ob2_some, ob3_some, ob4_some, ob5_some, ob6_some, ob7_some, ob8_some, ob9_some, ob10_some, ob11_some, ob12_some, ob13_some, pf_X3_partMark, pf_X2_has_j26, pf_X2_has_j25, pf_X2_has, pf_X2_markAt_j18, pf_X2_markAt, rrow_t hV hg, e1, f2, if_true]
  · rw [fo_miss _ (by omega) hj] at h4
    rcases h4 with ⟨_, rfl, rfl⟩ | ⟨q, _⟩
    · refine Or.inr ⟨?_, e6⟩
      have hh : pf_X2_has (nI (pd (mz P C g (rk (still P C n al eg em) (C ^ P))) (cl (still P C n al eg em) (C ^ P)))) v = some (nI 0) := by
        rcases hj with hj | ⟨k, k1, k2, rfl⟩
        · simp (disch := omega) only [g_lit, nI_add, pk_mul, pk_div, g_sdm, pk_sub, g_clamp, ile_t, ile_f, ilt_t, ilt_f, ieq_t, ieq_f, ieq_r, gi_t, gd_t, gz0, gz1, gl_x, ob0_some, ob1_some, ob2_some, ob3_some, ob4_some, ob5_some, ob6_some, ob7_some, ob8_some, ob9_some, ob10_some, ob11_some, ob12_some, ob13_some, pf_X2_has_j26, pf_X2_has_j25, pf_X2_has, ilt_n hj]
        · simp (disch := omega) only [g_lit, nI_add, pk_mul, pk_div, g_sdm, pk_sub, g_clamp, ile_t, ile_f, ilt_t, ilt_f, ieq_t, ieq_f, ieq_r, gi_t, gd_t, gz0, gz1, gl_x, ob0_some, ob1_some, ob2_some, ob3_some, ob4_some, ob5_some, ob6_some, ob7_some, ob8_some, ob9_some, ob10_some, ob11_some, ob12_some, ob13_some, pf_X2_has_j26, pf_X2_has_j25, pf_X2_has]
      simp (disch := omega) only [g_lit, nI_add, pk_mul, pk_div, g_sdm, pk_sub, g_clamp, ile_t, ile_f, ilt_t, ilt_f, ieq_t, ieq_f, ieq_r, gi_t, gd_t, gz0, gz1, gl_x, ob0_some, ob1_some, ob2_some, ob3_some, ob4_some, ob5_some, ob6_some, ob7_some, ob8_some, ob9_some, ob10_some, ob11_some, ob12_some, ob13_some, pf_X3_partMark, rrow_t hV hg, e1, hh, if_true]
    · exact absurd rfl q
end

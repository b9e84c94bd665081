theorem g_ite {c : Prop} [Decidable c] {a b : Option Int32} (ha : a = some 1) (hb : b = some 1) : (if c then a else b) = some 1 := by
  by_cases h : c
  · rw [if_pos h]
    exact ha
  · rw [if_neg h]
    exact hb
theorem law_sw {L i : Nat} {xs : Nat → Int32} {kL : KL} {lc : Int32} {la : Int32} {hr : Int32} {uP : Int32} {uC : Int32} {uR : Int32} {tn : Int32} {pn : Int32} {pg : Int32} {pq : Int32} {rl : Nat → Int32} {sr : Nat → Int32} {gcb : Nat → Int32} {gpb : Nat → Int64} {tg : Nat → Int32} {tm : Nat → Int32} {tl : Nat → Int32} {pm : Nat → Int32} {ps : Nat → Int32} {th : Int32} {mP : Int32} {mC : Int32} {mR : Int32} {mal : Int32} {mhd : Int32} {mn : Int32} {mg : Nat → Int32} {mt : Nat → Int32} {mh : Nat → Int32} {mz : Nat → Int32} {mset : Nat → Int32} {mfr : Nat → Int32} {mma : Nat → Int32} {mde : Nat → Int32} {mls : Nat → Int32} {ov : Nat → Int64} (hi : i + 2 < L) (hL : L ≤ 1536) (hI : LInv lc la hr uP uC uR tn rl gcb gpb tg tm tl mP mC mR mal mhd mn mg mt) (hk : HK kL) : pf_law_sw kL L xs (nI i) lc la hr uP uC uR tn pn pg pq rl sr gcb gpb tg tm tl pm ps th mP mC mR mal mhd mn mg mt mh mz mset mfr mma mde mls ov = some 1 := by
  unfold pf_law_sw
  exact (g_ite (law_c0 hi hL hI hk) (g_ite (law_c1 hi hL hI hk) (g_ite (law_c2 hi hL hI hk) (g_ite (law_c3 hi hL hI hk) (g_ite (law_c4 hi hL hI hk) (g_ite (law_c5 hi hL hI hk) (g_ite (law_c6 hi hL hI hk) (g_ite (law_c7 hi hL hI hk) (g_ite (law_c8 hi hL hI hk) (g_ite (law_c9 hi hL hI hk) (g_ite (law_c10 hi hL hI hk) (g_ite (law_c11 hi hL hI hk) (g_ite (law_c12 hi hL hI hk) (g_ite (law_c13 hi hL hI hk) (g_ite (law_c14 hi hL hI hk) (g_ite (law_c15 hi hL hI hk) (g_ite (law_c16 hi hL hI hk) (g_ite (law_c17 hi hL hI hk) (g_ite (law_c18 hi hL hI hk) (g_ite (law_c19 hi hL hI hk) (g_ite (law_c20 hi hL hI hk) (g_ite (law_c21 hi hL hI hk) (g_ite (law_c22 hi hL hI hk) (g_ite (law_c23 hi hL hI hk) (g_ite (law_c24 hi hL hI hk) (g_ite (law_c25 hi hL hI hk) (hk _ _ _ _ _ _ _ _ _ _ _ _ _ _ _ _ _ _ _ _ _ _ _ _ _ _ _ _ _ _ _ _ _ _ _ _ hI)))))))))))))))))))))))))))
theorem law_loop {L : Nat} (hL : L ≤ 1536) (xs : Nat → Int32) : ∀ (f i : Nat) (v4 : Int32) (lc : Int32) (la : Int32) (hr : Int32) (uP : Int32) (uC : Int32) (uR : Int32) (tn : Int32) (pn : Int32) (pg : Int32) (pq : Int32) (rl : Nat → Int32) (sr : Nat → Int32) (gcb : Nat → Int32) (gpb : Nat → Int64) (tg : Nat → Int32) (tm : Nat → Int32) (tl : Nat → Int32) (pm : Nat → Int32) (ps : Nat → Int32) (th : Int32) (mP : Int32) (mC : Int32) (mR : Int32) (mal : Int32) (mhd : Int32) (mn : Int32) (mg : Nat → Int32) (mt : Nat → Int32) (mh : Nat → Int32) (mz : Nat → Int32) (mset : Nat → Int32) (mfr : Nat → Int32) (mma : Nat → Int32) (mde : Nat → Int32) (mls : Nat → Int32) (ov : Nat → Int64), v4 = nI i → i ≤ L → L + 3 ≤ i + 3 * f → LInv lc la hr uP uC uR tn rl gcb gpb tg tm tl mP mC mR mal mhd mn mg mt → pf_law_L L xs f v4 lc la hr uP uC uR tn pn pg pq rl sr gcb gpb tg tm tl pm ps th mP mC mR mal mhd mn mg mt mh mz mset mfr mma mde mls ov = some 1 := by
  intro f
  induction f with
  | zero => intro i v4 lc la hr uP uC uR tn pn pg pq rl sr gcb gpb tg tm tl pm ps th mP mC mR mal mhd mn mg mt mh mz mset mfr mma mde mls ov _ h1 h2; omega
  | succ f ih =>
    intro i v4 lc la hr uP uC uR tn pn pg pq rl sr gcb gpb tg tm tl pm ps th mP mC mR mal mhd mn mg mt mh mz mset mfr mma mde mls ov hv h1 h2 hI
    subst hv
    rw [pf_law_L.eq_2]
    by_cases q : i + 2 < L
    · have e1 : Int32.ofNat L - 3 = nI (L - 3) := by
        show nI L - nI 3 = _
        exact pk_sub (by omega)
      have n1 : ¬ nI (L - 3) < nI i := nI_nlt (by omega) (by omega)
      rw [e1, if_neg n1, gi_t (by omega) (by omega)]
      refine law_sw q hL hI ?_
      intro lc la hr uP uC uR tn pn pg pq rl sr gcb gpb tg tm tl pm ps th mP mC mR mal mhd mn mg mt mh mz mset mfr mma mde mls ov hI2
      exact ih (i + 3) _ _ _ _ _ _ _ _ _ _ _ _ _ _ _ _ _ _ _ _ _ _ _ _ _ _ _ _ _ _ _ _ _ _ _ _ _ (nI_add i 3) (by omega) (by omega) hI2
    · refine if_pos ?_
      by_cases q2 : 3 ≤ L
      · have e1 : Int32.ofNat L - 3 = nI (L - 3) := by
          show nI L - nI 3 = _
          exact pk_sub q2
        rw [e1]
        exact nI_lt (by omega) (by omega)
      · have hc : L = 0 ∨ L = 1 ∨ L = 2 := by omega
        have hneg : Int32.ofNat L - 3 < 0 := by
          rcases hc with rfl | rfl | rfl <;> decide
        exact neg_lt hneg (by omega)
theorem VG34 : VG 3 4 := by unfold VG; decide
theorem pf_law_ok (L : Nat) (hL : L ≤ 1536) (xs : Nat → Int32) : pf_law L xs = some 1 := by
  obtain ⟨gcb1, gpb1, e1, hG1⟩ := s_lay (nI 0) (nI 0) (nI 0) (fun _ => nI 0) (fun _ => 0) VG34
  obtain ⟨rl1, tl1, e2, hL1, hB1⟩ := q_nothing (nI 0) (nI 0) (nI 0) (nI 0) (fun _ => nI 0) (fun _ => nI 0) VG34
  have e3 : pf_X3_init = some (nI (cl (still 3 4 0 0 (fun _ => 0) (fun _ => 0)) (4 ^ 3)), nI 0, -nI 1, nI 3, nI 4, nI (4 ^ 3), nI 0, rl1, gcb1, gpb1, tl1) := by
    unfold pf_X3_init
    refine (ob6_e e1).trans ?_
    exact (ob6_e e2).trans rfl
  unfold pf_law
  rw [e3, ob11_some]
  have hf : L + 3 ≤ 0 + 3 * 600 := by omega
  generalize (600 : Nat) = F at hf ⊢
  exact law_loop hL xs F 0 _ _ _ _ _ _ _ _ _ _ _ _ _ _ _ _ _ _ _ _ _ _ _ _ _ _ _ _ _ _ _ _ _ _ _ _ _ rfl (Nat.zero_le _) hf ⟨3, 4, 0, 0, fun _ => 0, fun _ => 0, VG34, ⟨by omega, fun i hi => absurd hi (Nat.not_lt_zero i)⟩, by omega, Or.inl m1_neg, rfl, rfl, rfl, rfl, rfl, rfl, hL1, hG1, fun i hi => absurd hi (Nat.not_lt_zero i), hB1, rfl, rfl, by decide, rfl, by decide, rfl, fun i hi => absurd hi (Nat.not_lt_zero i)⟩

theorem t64_0 : (nI 0).toInt64 = 0 := by decide
theorem t64_1 : (nI 1).toInt64 = 1 := by decide
/-- the row at the place k -/
def rk (st : Nat → Bool) : Nat → Nat → Nat
  | 0, _ => 0
  | j + 1, k => if st j = true ∧ cl st j = k then j else rk st j k
theorem rk_kth (st : Nat → Bool) : ∀ j k, k < cl st j → rk st j k < j ∧ st (rk st j k) = true ∧ cl st (rk st j k) = k
  | 0, k, h => absurd h (Nat.not_lt_zero k)
  | j + 1, k, h => by
    simp only [cl] at h
    by_cases e : st j = true ∧ cl st j = k
    · have e2 : rk st (j + 1) k = j := if_pos e
      rw [e2]
      exact ⟨by omega, e.1, e.2⟩
    · have e2 : rk st (j + 1) k = rk st j k := if_neg e
      have h2 : k < cl st j := by
        by_cases q : st j = true
        · have : cl st j ≠ k := fun z => e ⟨q, z⟩
          rw [if_pos q] at h
          omega
        · rw [if_neg q] at h
          omega
      obtain ⟨h3, h4, h5⟩ := rk_kth st j k h2
      rw [e2]
      exact ⟨by omega, h4, h5⟩
theorem Sg_Ls {P C : Nat} {st : Nat → Bool} {f : Nat → Int32} (h : Ls st (C ^ P) f) : Sg P C f 0 (cl st (C ^ P)) (rk st (C ^ P)) := by
  intro k hk
  obtain ⟨h1, h2, h3⟩ := rk_kth st (C ^ P) k hk
  have h4 := h _ h1 h2
  rw [h3] at h4
  rw [Nat.zero_add]
  exact ⟨h4, h1⟩
theorem As_rk (st : Nat → Bool) (R : Nat) : As (rk st R) (cl st R) := by
  intro i k hik hk
  obtain ⟨h1, h2, h3⟩ := rk_kth st R i (by omega)
  obtain ⟨h4, h5, h6⟩ := rk_kth st R k hk
  by_cases q : rk st R i < rk st R k
  · exact q
  · have := cl_mono st (by omega : rk st R k ≤ rk st R i)
    omega
theorem ob5_e {T1 T2 T3 T4 T5 α : Type} {x : Option (T1 × T2 × T3 × T4 × T5)} {a : T1} {b : T2} {c : T3} {d : T4} {e : T5} {k : T1 → T2 → T3 → T4 → T5 → Option α} (h : x = some (a, b, c, d, e)) : ob5 x k = k a b c d e := by
  rw [h]
  rfl
section
variable {P C n al : Nat} {eg em : Nat → Nat} {rl gcb tg tm tl mg mt : Nat → Int32} {gpb : Nat → Int64}
theorem s_pleft {st : Nat → Bool} {g : Nat} (pn pg pq : Int32) (pm ps : Nat → Int32) (hV : VG P C) (hG : laid P C (C ^ P) gcb gpb) (hg : g < C ^ P) (hL : Ls st (C ^ P) rl) : ∃ pm' ps', pf_X3_partLeft (nI (cl st (C ^ P))) (nI P) (nI (C ^ P)) pn pg pq rl gcb gpb pm ps (nI g) = some (nI (pd (mz P C g (rk st (C ^ P))) (cl st (C ^ P))), nI (pgr (mz P C g (rk st (C ^ P))) (cl st (C ^ P))), nI (pz (mz P C g (rk st (C ^ P))) (cl st (C ^ P))), pm', ps') ∧ Pt (mz P C g (rk st (C ^ P))) (cl st (C ^ P)) pm' ps' := by
  have h1 := cl_le st (C ^ P)
  have hR := hV.2.2.2.2
  obtain ⟨pm1, ps1, e, h⟩ := s_part_rl pn pg pq pm ps hV hG hg (by omega) (Sg_Ls hL)
  exact ⟨pm1, ps1, by simp (disch := omega) only [g_lit, nI_add, pk_mul, pk_div, g_sdm, pk_sub, g_clamp, ile_t, ile_f, ilt_t, ilt_f, ieq_t, ieq_f, ieq_r, gi_t, gd_t, gz0, gz1, gl_x, ob0_some, ob1_some, ob2_some, ob3_some, ob4_some, ob5_some, ob6_some, ob7_some, ob8_some, ob9_some, ob10_some, ob11_some, ob12_some, ob13_some, pf_X3_partLeft, e], h⟩
theorem m80 {g : Nat} {ls : Nat → Nat} (hV : VG P C) (i : Nat) : mz P C g ls i ≤ 80 := mk80 hV g (ls i)
end

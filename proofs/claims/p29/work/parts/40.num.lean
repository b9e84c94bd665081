/-! numbers, and the shape of the functions' steps -/
theorem g_lit (n : Nat) : (OfNat.ofNat n : Int32) = nI n := id rfl
theorem g_clamp {n : Nat} (h : n < 2147483648) : (nI n).toNatClampNeg = n := nI_clamp h
theorem g_sdm (a d : Nat) : nI a - nI (a / d * d) = nI (a % d) := by
  rw [pk_sub (Nat.div_mul_le_self a d)]
  congr 1
  have := Nat.div_add_mod a d
  rw [Nat.mul_comm d (a / d)] at this
  omega
section
variable {α : Sort _} {x y : α} {a b : Nat}
theorem ile_t [Decidable (nI a ≤ nI b)] (h : a ≤ b) (hb : b < 2147483648) : (if nI a ≤ nI b then x else y) = x := if_pos (nI_le h hb)
theorem ile_f [Decidable (nI a ≤ nI b)] (h : b < a) (hb : a < 2147483648) : (if nI a ≤ nI b then x else y) = y := if_neg (nI_ge h hb)
theorem ilt_t [Decidable (nI a < nI b)] (h : a < b) (hb : b < 2147483648) : (if nI a < nI b then x else y) = x := if_pos (nI_lt h hb)
theorem ilt_f [Decidable (nI a < nI b)] (h : b ≤ a) (hb : a < 2147483648) : (if nI a < nI b then x else y) = y := if_neg (nI_nlt h hb)
theorem ieq_t [Decidable (nI a = nI b)] (h : a = b) : (if nI a = nI b then x else y) = x := if_pos (by rw [h])
theorem ieq_f [Decidable (nI a = nI b)] (h : a ≠ b) (ha : a < 2147483648) (hb : b < 2147483648) : (if nI a = nI b then x else y) = y := if_neg (fun e => h ((nI_eq ha hb).mp e))
theorem ieq_r (i : Int32) [Decidable (i = i)] : (if i = i then x else y) = x := if_pos rfl
end
theorem gi_t {α : Type} {x : Option α} {i n : Nat} (h : i < n) (hi : i < 2147483648) : gi (nI i) n x = x := by
  unfold gi
  rw [if_neg]
  rw [nI_clamp hi]
  intro q
  rcases q with q | q
  · exact nI_pos hi q
  · omega
theorem gd_t {α : Type} {x : Option α} {d : Nat} (h : 0 < d) (hd : d < 2147483648) : gd (nI d) x = x := by
  unfold gd
  rw [if_neg (nI_ne0 h hd)]
theorem gz0 {α : Type} {x : Option α} : gz (nI 0) x = x := by
  exact if_pos (Or.inl rfl)
theorem gz1 {α : Type} {x : Option α} : gz (nI 1) x = x := by
  exact if_pos (Or.inr rfl)
theorem gl_x {γ α : Type} (x : γ) (f : γ → Option α) : gl x f = f x := rfl
theorem s_X1_has_t {R j : Nat} (hR : R ≤ 256) (hj : j < R) : pf_X1_has (nI R) (nI j) = some (nI 1) := by
  simp (disch := omega) only [g_lit, nI_add, pk_mul, pk_div, g_sdm, pk_sub, g_clamp, ile_t, ile_f, ilt_t, ilt_f, ieq_t, ieq_f, ieq_r, gi_t, gd_t, gz0, gz1, gl_x, ob0_some, ob1_some, ob2_some, ob3_some, ob4_some, ob5_some, ob6_some, ob7_some, ob8_some, ob9_some, ob10_some, ob11_some, ob12_some, ob13_some, pf_X1_has_j24, pf_X1_has_j23, pf_X1_has]
theorem s_X1_has_f {R : Nat} (hR : R ≤ 256) {v : Int32} (h : v < 0 ∨ nI R ≤ v) : pf_X1_has (nI R) v = some (nI 0) := by
  unfold pf_X1_has
  by_cases h0 : v < 0
  · rw [if_pos h0]
    simp (disch := omega) only [g_lit, nI_add, pk_mul, pk_div, g_sdm, pk_sub, g_clamp, ile_t, ile_f, ilt_t, ilt_f, ieq_t, ieq_f, ieq_r, gi_t, gd_t, gz0, gz1, gl_x, ob0_some, ob1_some, ob2_some, ob3_some, ob4_some, ob5_some, ob6_some, ob7_some, ob8_some, ob9_some, ob10_some, ob11_some, ob12_some, ob13_some, pf_X1_has_j24, pf_X1_has_j23, pf_X1_has]
  · rw [if_neg h0, if_pos (h.resolve_left h0)]
    simp (disch := omega) only [g_lit, nI_add, pk_mul, pk_div, g_sdm, pk_sub, g_clamp, ile_t, ile_f, ilt_t, ilt_f, ieq_t, ieq_f, ieq_r, gi_t, gd_t, gz0, gz1, gl_x, ob0_some, ob1_some, ob2_some, ob3_some, ob4_some, ob5_some, ob6_some, ob7_some, ob8_some, ob9_some, ob10_some, ob11_some, ob12_some, ob13_some, pf_X1_has_j24, pf_X1_has_j23, pf_X1_has]
-- pasted from kit/laws (NUMBERS, COUNTS, BITS)
theorem fa_and (a b : Nat) : nI a &&& nI b = nI (a &&& b) := by
  apply Int32.toBitVec_inj.1
  show BitVec.ofNat 32 a &&& BitVec.ofNat 32 b = BitVec.ofNat 32 (a &&& b)
  apply BitVec.eq_of_getLsbD_eq
  intro i hi
  simp [hi]
theorem fa_or (a b : Nat) : nI a ||| nI b = nI (a ||| b) := by
  apply Int32.toBitVec_inj.1
  show BitVec.ofNat 32 a ||| BitVec.ofNat 32 b = BitVec.ofNat 32 (a ||| b)
  apply BitVec.eq_of_getLsbD_eq
  intro i hi
  simp [hi]
/-- a remainder by a power of two, as a mask -/
theorem fb_andL (a b : Nat) : lN a &&& lN b = lN (a &&& b) := by
  apply Int64.toBitVec_inj.1
  show BitVec.ofNat 64 a &&& BitVec.ofNat 64 b = BitVec.ofNat 64 (a &&& b)
  apply BitVec.eq_of_getLsbD_eq
  intro i hi
  simp [hi]
theorem fb_orL (a b : Nat) : lN a ||| lN b = lN (a ||| b) := by
  apply Int64.toBitVec_inj.1
  show BitVec.ofNat 64 a ||| BitVec.ofNat 64 b = BitVec.ofNat 64 (a ||| b)
  apply BitVec.eq_of_getLsbD_eq
  intro i hi
  simp [hi]
theorem fb_xorL (a b : Nat) : lN a ^^^ lN b = lN (a ^^^ b) := by
  apply Int64.toBitVec_inj.1
  show BitVec.ofNat 64 a ^^^ BitVec.ofNat 64 b = BitVec.ofNat 64 (a ^^^ b)
  apply BitVec.eq_of_getLsbD_eq
  intro i hi
  simp [hi]
theorem fb_xorI (a b : Nat) : nI a ^^^ nI b = nI (a ^^^ b) := by
  apply Int32.toBitVec_inj.1
  show BitVec.ofNat 32 a ^^^ BitVec.ofNat 32 b = BitVec.ofNat 32 (a ^^^ b)
  apply BitVec.eq_of_getLsbD_eq
  intro i hi
  simp [hi]
theorem fb_maskL (n k : Nat) : lN n &&& lN (2 ^ k - 1) = lN (n % 2 ^ k) := by rw [fb_andL, Nat.and_two_pow_sub_one_eq_mod]
theorem s_l : ∀ n, n < 32 → ((nI n &&& 31).toBitVec.smod 32).toNat = n := by decide +kernel

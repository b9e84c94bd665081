/-! the bits of a row's colours, the marks' black pins -/
def y8 (b0 b1 b2 b3 b4 b5 b6 b7 : Bool) : Nat := b0.toNat + 8 * b1.toNat + 64 * b2.toNat + 512 * b3.toNat + 4096 * b4.toNat + 32768 * b5.toNat + 262144 * b6.toNat + 2097152 * b7.toNat
theorem y8_bc : ∀ b0 b1 b2 b3 b4 b5 b6 b7 : Bool, pf_J6_bitCount_0f7a4 (nI (y8 b0 b1 b2 b3 b4 b5 b6 b7)) = some (nI (b0.toNat + b1.toNat + b2.toNat + b3.toNat + b4.toNat + b5.toNat + b6.toNat + b7.toNat)) := by decide +kernel
theorem y8_tb : ∀ b0 b1 b2 b3 b4 b5 b6 b7 : Bool, ∀ j, j < 24 → (y8 b0 b1 b2 b3 b4 b5 b6 b7).testBit j = (decide (j % 3 = 0) && [b0, b1, b2, b3, b4, b5, b6, b7].getD (j / 3) false) := by decide +kernel
theorem y8_lt (b0 b1 b2 b3 b4 b5 b6 b7 : Bool) : y8 b0 b1 b2 b3 b4 b5 b6 b7 < 2 ^ 24 := by
  have h : ∀ b : Bool, b.toNat ≤ 1 := fun b => by cases b <;> decide
  have h0 := h b0
  have h1 := h b1
  have h2 := h b2
  have h3 := h b3
  have h4 := h b4
  have h5 := h b5
  have h6 := h b6
  have h7 := h b7
  unfold y8
  omega
theorem mask_tb : ∀ j, j < 24 → (2396745 : Nat).testBit j = decide (j % 3 = 0) := by decide +kernel
theorem y8_of (y : Nat) : y &&& 2396745 = y8 (y.testBit 0) (y.testBit 3) (y.testBit 6) (y.testBit 9) (y.testBit 12) (y.testBit 15) (y.testBit 18) (y.testBit 21) := by
  apply Nat.eq_of_testBit_eq
  intro j
  rw [Nat.testBit_and]
  by_cases hj : j < 24
  · rw [y8_tb _ _ _ _ _ _ _ _ j hj, mask_tb j hj]
    by_cases h3 : j % 3 = 0
    · rw [decide_eq_true h3, Bool.and_true, Bool.true_and]
      have h8 : j / 3 < 8 := by omega
      have e : j = 3 * (j / 3) := by omega
      generalize j / 3 = t at h8 e
      subst e
      match t, h8 with
      | 0, _ => rfl
      | 1, _ => rfl
      | 2, _ => rfl
      | 3, _ => rfl
      | 4, _ => rfl
      | 5, _ => rfl
      | 6, _ => rfl
      | 7, _ => rfl
      | t + 8, h => omega
    · rw [decide_eq_false h3, Bool.and_false, Bool.false_and]
  · have h1 : (2 : Nat) ^ 24 ≤ 2 ^ j := Nat.pow_le_pow_right (by decide) (by omega)
    rw [Nat.testBit_lt_two_pow (Nat.lt_of_lt_of_le (y8_lt _ _ _ _ _ _ _ _) h1), Nat.testBit_lt_two_pow (Nat.lt_of_lt_of_le (by decide : (2396745 : Nat) < 2 ^ 24) h1), Bool.and_false]
theorem p8 (i : Nat) : 8 ^ i = 2 ^ (3 * i) := by rw [Nat.pow_mul]
theorem cbs_tb {C : Nat} (hC : 2 ≤ C) (hC6 : C ≤ 6) (r : Nat) : ∀ i t s, t < i → s < 3 → (cbs C r i).testBit (3 * t + s) = (dg C t r).testBit s
  | 0, t, s, ht, _ => absurd ht (Nat.not_lt_zero t)
  | i + 1, t, s, ht, hs => by
    have h := cbs_lt hC hC6 r i
    simp only [cbs]
    rw [p8] at h ⊢
    rw [Nat.add_comm, Nat.mul_comm, Nat.testBit_two_pow_mul_add _ h]
    by_cases q : t < i
    · rw [if_pos (by omega)]
      exact cbs_tb hC hC6 r i t s q hs
    · have e : t = i := by omega
      rw [if_neg (by omega), e]
      congr 1
      omega
theorem cbs_hi {C : Nat} (hC : 2 ≤ C) (hC6 : C ≤ 6) (r : Nat) {i t s : Nat} (ht : i ≤ t) : (cbs C r i).testBit (3 * t + s) = false := by
  have h := cbs_lt hC hC6 r i
  rw [p8] at h
  exact Nat.testBit_lt_two_pow (Nat.lt_of_lt_of_le h (Nat.pow_le_pow_right (by decide) (by omega)))
theorem xor3 : ∀ d, d < 6 → ∀ e, e < 6 → (((d.testBit 0 ^^ e.testBit 0) || (d.testBit 1 ^^ e.testBit 1)) || (d.testBit 2 ^^ e.testBit 2)) = decide (¬ d = e) := by decide +kernel
/-- are the rows unlike at the place t (from the lowest)? -/
def ul (C P a b t : Nat) : Bool := decide (t < P ∧ ¬ dg C t a = dg C t b)
theorem ul_of {C P : Nat} (hC : 2 ≤ C) (hC6 : C ≤ 6) (a b t : Nat) : ((((cbs C a P ^^^ cbs C b P) ||| (cbs C a P ^^^ cbs C b P) / 2 ^ 1) ||| (cbs C a P ^^^ cbs C b P) / 2 ^ 2)).testBit (3 * t) = ul C P a b t := by
  rw [← Nat.shiftRight_eq_div_pow, ← Nat.shiftRight_eq_div_pow]
  simp only [Nat.testBit_or, Nat.testBit_shiftRight, Nat.testBit_xor]
  rw [Nat.add_comm 1, Nat.add_comm 2]
  have e0 : 3 * t = 3 * t + 0 := rfl
  unfold ul
  by_cases h : t < P
  · rw [cbs_tb hC hC6 a P t 1 h (by decide), cbs_tb hC hC6 b P t 1 h (by decide), cbs_tb hC hC6 a P t 2 h (by decide), cbs_tb hC hC6 b P t 2 h (by decide)]
    rw [e0, cbs_tb hC hC6 a P t 0 h (by decide), cbs_tb hC hC6 b P t 0 h (by decide)]
    rw [xor3 _ (by have := dg_lt hC t a; omega) _ (by have := dg_lt hC t b; omega)]
    simp [h]
  · rw [cbs_hi hC hC6 a (by omega : P ≤ t), cbs_hi hC hC6 b (by omega : P ≤ t), cbs_hi hC hC6 a (by omega : P ≤ t), cbs_hi hC hC6 b (by omega : P ≤ t)]
    rw [e0, cbs_hi hC hC6 a (by omega : P ≤ t), cbs_hi hC hC6 b (by omega : P ≤ t)]
    simp [h]
theorem ul_sum {C P : Nat} (hP : P ≤ 8) (a b : Nat) : (ul C P a b 0).toNat + (ul C P a b 1).toNat + (ul C P a b 2).toNat + (ul C P a b 3).toNat + (ul C P a b 4).toNat + (ul C P a b 5).toNat + (ul C P a b 6).toNat + (ul C P a b 7).toNat = P - bl C a b P := by
  have key : ∀ t, t < P → (ul C P a b t).toNat + (if dg C t a = dg C t b then 1 else 0) = 1 := by
    intro t ht
    unfold ul
    by_cases e : dg C t a = dg C t b <;> simp [e, ht]
  have out : ∀ t, P ≤ t → (ul C P a b t).toNat = 0 := by
    intro t ht
    unfold ul
    rw [decide_eq_false (by omega)]
    rfl
  have h8 : P = 0 ∨ P = 1 ∨ P = 2 ∨ P = 3 ∨ P = 4 ∨ P = 5 ∨ P = 6 ∨ P = 7 ∨ P = 8 := by omega
  have k0 := key 0
  have k1 := key 1
  have k2 := key 2
  have k3 := key 3
  have k4 := key 4
  have k5 := key 5
  have k6 := key 6
  have k7 := key 7
  have o0 := out 0
  have o1 := out 1
  have o2 := out 2
  have o3 := out 3
  have o4 := out 4
  have o5 := out 5
  have o6 := out 6
  have o7 := out 7
  generalize (ul C P a b 0).toNat = u0 at *
  generalize (ul C P a b 1).toNat = u1 at *
  generalize (ul C P a b 2).toNat = u2 at *
  generalize (ul C P a b 3).toNat = u3 at *
  generalize (ul C P a b 4).toNat = u4 at *
  generalize (ul C P a b 5).toNat = u5 at *
  generalize (ul C P a b 6).toNat = u6 at *
  generalize (ul C P a b 7).toNat = u7 at *
  rcases h8 with rfl | rfl | rfl | rfl | rfl | rfl | rfl | rfl | rfl <;> simp only [bl] <;> omega

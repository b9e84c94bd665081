/-! the reference's small functions, and its mark of two rows -/
/-- no number below R -/
def NR (R : Nat) (v : Int32) : Prop := v < 0 ∨ ∃ k, R ≤ k ∧ k < 2147483648 ∧ v = nI k
theorem row_cases (R : Nat) (v : Int32) : (∃ j, j < R ∧ v = nI j) ∨ NR R v := by
  rcases i32_cases v with h | ⟨k, hk, rfl⟩
  · exact Or.inr (Or.inl h)
  · by_cases q : k < R
    · exact Or.inl ⟨k, q, rfl⟩
    · exact Or.inr (Or.inr ⟨k, by omega, hk, rfl⟩)
theorem ilt_n {α : Sort _} {x y : α} {v : Int32} (h : v < 0) {k : Nat} (hk : k < 2147483648) [Decidable (v < nI k)] : (if v < nI k then x else y) = x := if_pos (neg_lt h hk)
theorem s_has_no {R : Nat} (hR : R ≤ 256) {v : Int32} (h : NR R v) : pf_X1_has (nI R) v = some (nI 0) := by
  refine s_X1_has_f hR ?_
  rcases h with h | ⟨k, h1, h2, rfl⟩
  · exact Or.inl h
  · exact Or.inr (nI_le h1 h2)
def alm (C P a b i : Nat) : Nat := min (cn C a 0 P) (cn C b 0 i) + min (cn C a 1 P) (cn C b 1 i) + min (cn C a 2 P) (cn C b 2 i) + min (cn C a 3 P) (cn C b 3 i) + min (cn C a 4 P) (cn C b 4 i) + min (cn C a 5 P) (cn C b 5 i)
theorem alm_up {C P a b i : Nat} (hC : 2 ≤ C) (hC6 : C ≤ 6) (h : cn C b (dg C i b) i < cn C a (dg C i b) P) : alm C P a b (i + 1) = alm C P a b i + 1 := by
  unfold alm
  simp only [cn]
  rcases dg_cases hC hC6 i b with e | e | e | e | e | e <;> rw [e] at h <;> simp only [e] <;> simp <;> omega
theorem alm_eq {C P a b i : Nat} (hC : 2 ≤ C) (hC6 : C ≤ 6) (h : cn C a (dg C i b) P ≤ cn C b (dg C i b) i) : alm C P a b (i + 1) = alm C P a b i := by
  unfold alm
  simp only [cn]
  rcases dg_cases hC hC6 i b with e | e | e | e | e | e <;> rw [e] at h <;> simp only [e] <;> simp <;> omega
theorem alm_le {C : Nat} (hC : 2 ≤ C) (hC6 : C ≤ 6) (P a b i : Nat) : alm C P a b i ≤ P := by
  have h := cn_sum hC hC6 a P
  unfold alm
  omega

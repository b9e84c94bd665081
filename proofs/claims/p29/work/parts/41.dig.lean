/-! digits of a row, pins, the mark of two rows -/
def dg (C i r : Nat) : Nat := r / C ^ i % C
def cbs (C r : Nat) : Nat → Nat
  | 0 => 0
  | i + 1 => cbs C r i + dg C i r * 8 ^ i
def cn (C r c : Nat) : Nat → Nat
  | 0 => 0
  | i + 1 => cn C r c i + if dg C i r = c then 1 else 0
def bl (C a b : Nat) : Nat → Nat
  | 0 => 0
  | i + 1 => bl C a b i + if dg C i a = dg C i b then 1 else 0
def al (C P a b : Nat) : Nat := min (cn C a 0 P) (cn C b 0 P) + min (cn C a 1 P) (cn C b 1 P) + min (cn C a 2 P) (cn C b 2 P) + min (cn C a 3 P) (cn C b 3 P) + min (cn C a 4 P) (cn C b 4 P) + min (cn C a 5 P) (cn C b 5 P)
def mk (P C a b : Nat) : Nat := 10 * bl C a b P + (al C P a b - bl C a b P)
theorem dg_lt {C : Nat} (hC : 2 ≤ C) (i r : Nat) : dg C i r < C := Nat.mod_lt _ (by omega)
theorem dg_cases {C : Nat} (hC : 2 ≤ C) (hC6 : C ≤ 6) (i r : Nat) : dg C i r = 0 ∨ dg C i r = 1 ∨ dg C i r = 2 ∨ dg C i r = 3 ∨ dg C i r = 4 ∨ dg C i r = 5 := by
  have := dg_lt hC i r
  omega
theorem cn_le (C r c : Nat) : ∀ i, cn C r c i ≤ i
  | 0 => Nat.le_refl _
  | i + 1 => by
    have h := cn_le C r c i
    simp only [cn]
    split <;> omega
theorem cn_sum {C : Nat} (hC : 2 ≤ C) (hC6 : C ≤ 6) (r : Nat) : ∀ i, cn C r 0 i + cn C r 1 i + cn C r 2 i + cn C r 3 i + cn C r 4 i + cn C r 5 i = i
  | 0 => rfl
  | i + 1 => by
    have h := cn_sum hC hC6 r i
    simp only [cn]
    rcases dg_cases hC hC6 i r with e | e | e | e | e | e <;> simp only [e] <;> simp <;> omega
theorem bl_le (C a b : Nat) : ∀ i, bl C a b i ≤ i
  | 0 => Nat.le_refl _
  | i + 1 => by
    have h := bl_le C a b i
    simp only [bl]
    split <;> omega
theorem al_le {C : Nat} (hC : 2 ≤ C) (hC6 : C ≤ 6) (P a b : Nat) : al C P a b ≤ P := by
  have h := cn_sum hC hC6 a P
  unfold al
  omega
theorem bl_al {C : Nat} (hC : 2 ≤ C) (hC6 : C ≤ 6) (a b : Nat) : ∀ P, bl C a b P ≤ al C P a b
  | 0 => Nat.zero_le _
  | P + 1 => by
    have h := bl_al hC hC6 a b P
    unfold al at h ⊢
    simp only [cn, bl]
    by_cases e : dg C P a = dg C P b
    · rw [if_pos e, e]
      rcases dg_cases hC hC6 P b with q | q | q | q | q | q <;> simp only [q] <;> simp <;> omega
    · rw [if_neg e]
      rcases dg_cases hC hC6 P a with q | q | q | q | q | q <;> rcases dg_cases hC hC6 P b with u | u | u | u | u | u <;> simp only [q, u] <;> simp <;> omega
theorem mk_le {P C : Nat} (hC : 2 ≤ C) (hC6 : C ≤ 6) (a b : Nat) : mk P C a b ≤ 10 * P := by
  have h1 := bl_le C a b P
  have h2 := al_le hC hC6 P a b
  have h3 := bl_al hC hC6 a b P
  unfold mk
  omega
theorem bl_eq {C a b : Nat} : ∀ {P : Nat}, bl C a b P = P → ∀ i, i < P → dg C i a = dg C i b
  | 0, _, i, hi => absurd hi (Nat.not_lt_zero i)
  | P + 1, h, i, hi => by
    have h1 := bl_le C a b P
    simp only [bl] at h
    by_cases e : dg C P a = dg C P b
    · rw [if_pos e] at h
      rcases Nat.lt_or_ge i P with q | q
      · exact bl_eq (by omega) i q
      · have : i = P := by omega
        rw [this]; exact e
    · rw [if_neg e] at h
      omega
theorem mod_of_dg {C a b : Nat} : ∀ {P : Nat}, (∀ i, i < P → dg C i a = dg C i b) → a % C ^ P = b % C ^ P
  | 0, _ => by rw [Nat.pow_zero, Nat.mod_one, Nat.mod_one]
  | P + 1, h => by
    have h1 := mod_of_dg (P := P) (fun i hi => h i (by omega))
    have h2 := h P (Nat.lt_succ_self P)
    unfold dg at h2
    rw [Nat.mod_pow_succ, Nat.mod_pow_succ, h1, h2]
theorem bl_self (C a : Nat) : ∀ P, bl C a a P = P
  | 0 => rfl
  | P + 1 => by simp only [bl, bl_self C a P]; simp
theorem mk_self {P C : Nat} (hC : 2 ≤ C) (hC6 : C ≤ 6) (a : Nat) : mk P C a a = 10 * P := by
  have h1 := bl_self C a P
  have h2 := cn_sum hC hC6 a P
  have h3 : al C P a a = P := by
    unfold al
    simp only [Nat.min_self]
    omega
  unfold mk
  omega
theorem mk_full {P C a b : Nat} (hC : 2 ≤ C) (hC6 : C ≤ 6) (ha : a < C ^ P) (hb : b < C ^ P) : mk P C a b = 10 * P ↔ a = b := by
  constructor
  · intro h
    have h1 := bl_le C a b P
    have h2 := al_le hC hC6 P a b
    have h3 := bl_al hC hC6 a b P
    unfold mk at h
    have h4 : bl C a b P = P := by omega
    have h5 := mod_of_dg (bl_eq h4)
    rwa [Nat.mod_eq_of_lt ha, Nat.mod_eq_of_lt hb] at h5
  · intro h
    rw [h]
    exact mk_self hC hC6 b
theorem dg_0 (C r : Nat) : dg C 0 r = r % C := by unfold dg; rw [Nat.pow_zero, Nat.div_one]
theorem dg_step (C i r : Nat) : r / C ^ i / C = r / C ^ (i + 1) := by rw [Nat.div_div_eq_div_mul, Nat.pow_succ]
theorem cbs_lt {C : Nat} (hC : 2 ≤ C) (hC6 : C ≤ 6) (r : Nat) : ∀ i, cbs C r i < 8 ^ i
  | 0 => by unfold cbs; decide
  | i + 1 => by
    have h := cbs_lt hC hC6 r i
    have h2 := dg_lt hC i r
    have h3 : dg C i r * 8 ^ i ≤ 5 * 8 ^ i := Nat.mul_le_mul_right _ (by omega)
    simp only [cbs, Nat.pow_succ]
    omega

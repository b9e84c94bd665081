/-! sets of rows as longs, bit by bit -/
def bt (S : Int64) (i : Nat) : Bool := S.toBitVec.getLsbD i
theorem bt_ext {S T : Int64} (h : ∀ i, i < 64 → bt S i = bt T i) : S = T := Int64.toBitVec_inj.1 (BitVec.eq_of_getLsbD_eq (fun i hi => h i hi))
theorem bt_hi (S : Int64) {i : Nat} (h : 64 ≤ i) : bt S i = false := BitVec.getLsbD_of_ge _ _ h
theorem bt_0 (i : Nat) : bt 0 i = false := by
  show (0#64).getLsbD i = false
  simp
theorem bt_and (S T : Int64) (i : Nat) : bt (S &&& T) i = (bt S i && bt T i) := by
  show (S.toBitVec &&& T.toBitVec).getLsbD i = _
  simp [bt]
theorem bt_or (S T : Int64) (i : Nat) : bt (S ||| T) i = (bt S i || bt T i) := by
  show (S.toBitVec ||| T.toBitVec).getLsbD i = _
  simp [bt]
theorem bt_xor (S T : Int64) (i : Nat) : bt (S ^^^ T) i = (bt S i ^^ bt T i) := by
  show (S.toBitVec ^^^ T.toBitVec).getLsbD i = _
  simp [bt]
theorem bt_m1 {i : Nat} (h : i < 64) : bt (-1) i = true := by
  have e : (-1 : Int64).toBitVec = BitVec.allOnes 64 := by decide
  show (-1 : Int64).toBitVec.getLsbD i = true
  rw [e, BitVec.getLsbD_allOnes]
  exact decide_eq_true h
theorem bt_andn (S T : Int64) (i : Nat) : bt (S &&& (T ^^^ (-1))) i = (bt S i && !bt T i) := by
  rw [bt_and, bt_xor]
  by_cases h : i < 64
  · rw [bt_m1 h, Bool.xor_true]
  · rw [bt_hi S (by omega), Bool.false_and, Bool.false_and]
theorem bt_lN (n i : Nat) : bt (lN n) i = (decide (i < 64) && n.testBit i) := by
  show (BitVec.ofNat 64 n).getLsbD i = _
  rw [BitVec.getLsbD_ofNat]
theorem sl64 : ∀ n, n < 64 → (((nI n).toInt64 &&& 63).toBitVec.smod 64).toNat = n := by decide +kernel
theorem lsl_lN (n : Nat) {k : Nat} (hk : k < 64) : g_lsl (lN n) (nI k) = lN (n * 2 ^ k) := by
  unfold g_lsl
  apply Int64.toBitVec_inj.1
  rw [Int64.toBitVec_shiftLeft, BitVec.shiftLeft_eq', sl64 k hk]
  show BitVec.ofNat 64 n <<< k = BitVec.ofNat 64 (n * 2 ^ k)
  apply BitVec.eq_of_toNat_eq
  rw [BitVec.toNat_shiftLeft, BitVec.toNat_ofNat, BitVec.toNat_ofNat, Nat.shiftLeft_eq, Nat.mod_mul_mod]
theorem bt_sl {r : Nat} (hr : r < 64) {i : Nat} (hi : i < 64) : bt (g_lsl 1 (nI r)) i = decide (i = r) := by
  have e : (1 : Int64) = lN 1 := rfl
  rw [e, lsl_lN 1 hr, Nat.one_mul, bt_lN, Nat.testBit_two_pow, decide_eq_true hi, Bool.true_and]
  exact decide_eq_decide.mpr ⟨fun h => h.symm, fun h => h.symm⟩
theorem bt_sr (S : Int64) {r i : Nat} (h : r + i < 64) : bt (g_lsr S (nI r)) i = bt S (r + i) := by
  unfold g_lsr bt
  rw [Int64.toBitVec_shiftRight, BitVec.sshiftRight_eq', sl64 r (by omega), BitVec.getLsbD_sshiftRight]
  simp [h]
  omega
theorem and_1 (S : Int64) : S &&& 1 = lN (if bt S 0 then 1 else 0) := by
  apply bt_ext
  intro i hi
  have e : (1 : Int64) = lN 1 := rfl
  rw [bt_and, e, bt_lN, bt_lN, decide_eq_true hi, Bool.true_and, Bool.true_and]
  by_cases h : i = 0
  · subst h
    cases bt S 0 <;> rfl
  · have t1 : Nat.testBit 1 i = false := by
      rw [show (1 : Nat) = 2 ^ 0 from rfl, Nat.testBit_two_pow]
      exact decide_eq_false (fun z => h z.symm)
    rw [t1, Bool.and_false]
    cases bt S 0
    · exact (Nat.zero_testBit i).symm
    · exact t1.symm
theorem lg_eq0 {x y : Int64} (h : x = y) : lg_cmp x y = 0 := (lg_cmp_eq x y).mpr h
theorem lg_ne0 {x y : Int64} (h : x ≠ y) : ¬ lg_cmp x y = 0 := fun e => h ((lg_cmp_eq x y).mp e)
theorem t_has (S : Int64) {r : Nat} (hr : r < 64) : pf_L_has S (nI r) = some (nI (if bt S r then 1 else 0)) := by
  unfold pf_L_has pf_L_has_j15
  rw [and_1, bt_sr S (i := 0) hr, Nat.add_zero]
  cases h : bt S r
  · rw [if_neg (lg_ne0 (by decide))]
    exact gz0
  · rw [if_pos (lg_eq0 (show lN (if true = true then 1 else 0) = 1 from rfl))]
    exact gz1
/-- the lowest bit -/
theorem low_bit {S : Int64} (h : S ≠ 0) : ∃ k, k < 64 ∧ bt S k = true ∧ ∀ i, i < k → bt S i = false := by
  have h1 : ∃ k, bt S k = true := by
    apply Classical.byContradiction
    intro q
    apply h
    apply bt_ext
    intro i hi
    rw [bt_0]
    cases e : bt S i
    · rfl
    · exact absurd ⟨i, e⟩ q
  have h2 : ∀ n, bt S n = true → ∃ k, bt S k = true ∧ ∀ i, i < k → bt S i = false := by
    intro n
    induction n using Nat.strongRecOn with
    | _ n ih =>
      intro hn
      by_cases q : ∃ j, j < n ∧ bt S j = true
      · obtain ⟨j, hj, e⟩ := q
        exact ih j hj e
      · refine ⟨n, hn, fun i hi => ?_⟩
        cases e : bt S i
        · rfl
        · exact absurd ⟨i, hi, e⟩ q
  obtain ⟨n, hn⟩ := h1
  obtain ⟨k, hk, hl⟩ := h2 n hn
  refine ⟨k, ?_, hk, hl⟩
  apply Classical.byContradiction
  intro q
  rw [bt_hi S (by omega)] at hk
  cases hk
theorem bt_ne {S : Int64} {k : Nat} (h : bt S k = true) : S ≠ 0 := by
  intro e
  rw [e, bt_0] at h
  cases h
/-- one below: the lowest bit falls, those below it rise -/
theorem nat_low {n k : Nat} (h1 : n.testBit k = true) (h2 : ∀ i, i < k → n.testBit i = false) : ∃ m, n = 2 ^ k * (2 * m + 1) := by
  have h3 : n % 2 ^ k = 0 := by
    apply Nat.eq_of_testBit_eq
    intro i
    rw [Nat.testBit_mod_two_pow, Nat.zero_testBit]
    by_cases q : i < k
    · rw [h2 i q, Bool.and_false]
    · rw [decide_eq_false q, Bool.false_and]
  have h4 : n / 2 ^ k % 2 = 1 := by
    rw [Nat.testBit_eq_decide_div_mod_eq] at h1
    exact of_decide_eq_true h1
  refine ⟨n / 2 ^ k / 2, ?_⟩
  have h5 := Nat.div_add_mod n (2 ^ k)
  have h6 : 2 * (n / 2 ^ k / 2) + 1 = n / 2 ^ k := by omega
  rw [h6]
  omega
theorem nat_low1 {m k : Nat} (i : Nat) : ((2 ^ k * (2 * m + 1)) &&& (2 ^ k * (2 * m + 1) - 1)).testBit i = ((2 ^ k * (2 * m + 1)).testBit i && decide (i ≠ k)) := by
  have hp : 0 < 2 ^ k := Nat.two_pow_pos k
  have e1 : 2 ^ k * (2 * m + 1) - 1 = 2 ^ k * (2 * m) + (2 ^ k - 1) := by
    rw [Nat.mul_add, Nat.mul_one]
    omega
  rw [Nat.testBit_and, e1, Nat.testBit_two_pow_mul_add _ (by omega), Nat.testBit_two_pow_mul]
  by_cases q : i < k
  · rw [decide_eq_false (by omega : ¬ i ≥ k), Bool.false_and, Bool.false_and, Bool.false_and]
  · rw [if_neg q]
    by_cases q2 : i = k
    · subst q2
      simp
    · obtain ⟨j, hj⟩ : ∃ j, i - k = j + 1 := ⟨i - k - 1, by omega⟩
      rw [hj, Nat.testBit_succ, Nat.testBit_succ]
      have e2 : (2 * m + 1) / 2 = m := by omega
      have e3 : 2 * m / 2 = m := by omega
      rw [e2, e3]
      simp [q2]
theorem bt_drop {S : Int64} {k : Nat} (h1 : bt S k = true) (h2 : ∀ i, i < k → bt S i = false) (i : Nat) : bt (S &&& (S - 1)) i = (bt S i && decide (i ≠ k)) := by
  have hk : k < 64 := by
    apply Classical.byContradiction
    intro q
    rw [bt_hi S (by omega)] at h1
    cases h1
  have hlt := S.toBitVec.isLt
  have eS : S = lN S.toBitVec.toNat := Int64.toBitVec_inj.1 (BitVec.eq_of_toNat_eq (by show _ = (BitVec.ofNat 64 _).toNat; rw [BitVec.toNat_ofNat, Nat.mod_eq_of_lt hlt]))
  generalize hn : S.toBitVec.toNat = n at *
  have b1 : n.testBit k = true := by
    rw [eS, bt_lN, decide_eq_true hk, Bool.true_and] at h1
    exact h1
  have b2 : ∀ i, i < k → n.testBit i = false := by
    intro i hi
    have := h2 i hi
    rw [eS, bt_lN, decide_eq_true (by omega), Bool.true_and] at this
    exact this
  obtain ⟨m, hm⟩ := nat_low b1 b2
  have hpos : 1 ≤ n := by
    apply Classical.byContradiction
    intro q
    have : n = 0 := by omega
    rw [this, Nat.zero_testBit] at b1
    cases b1
  have e1 : (1 : Int64) = lN 1 := rfl
  rw [eS, e1, lN_sub hpos, fb_andL, bt_lN, bt_lN]
  have := nat_low1 (m := m) (k := k) i
  rw [← hm] at this
  rw [this, Bool.and_assoc]
/-- how many -/
theorem cl_none {f : Nat → Bool} : ∀ j, (∀ i, i < j → f i = false) → cl f j = 0
  | 0, _ => rfl
  | j + 1, h => by
    show cl f j + (if f j = true then 1 else 0) = 0
    rw [cl_none j (fun i hi => h i (by omega)), h j (by omega)]
    rfl
theorem cl_same {f g : Nat → Bool} : ∀ j, (∀ i, i < j → f i = g i) → cl f j = cl g j
  | 0, _ => rfl
  | j + 1, h => by
    show cl f j + (if f j = true then 1 else 0) = cl g j + (if g j = true then 1 else 0)
    rw [cl_same j (fun i hi => h i (by omega)), h j (by omega)]
theorem cl_less {f g : Nat → Bool} {k : Nat} (hk : f k = true) (hg : ∀ i, g i = (f i && decide (i ≠ k))) : ∀ j, cl f j = cl g j + (if k < j then 1 else 0)
  | 0 => rfl
  | j + 1 => by
    show cl f j + (if f j = true then 1 else 0) = cl g j + (if g j = true then 1 else 0) + _
    rw [cl_less hk hg j, hg j]
    by_cases q : j = k
    · subst q
      rw [hk]
      simp
    · by_cases q2 : k < j
      · rw [if_pos q2, if_pos (by omega : k < j + 1)]
        simp [q]
        omega
      · rw [if_neg q2, if_neg (by omega : ¬ k < j + 1)]
        simp [q]
theorem t_many_L : ∀ d (S : Int64) (a : Nat), cl (bt S) 64 < d → pf_L_many_L4 d (nI a) S = some (nI (a + cl (bt S) 64)) := by
  intro d
  induction d with
  | zero => intro S a h; omega
  | succ d ih =>
    intro S a h
    rw [pf_L_many_L4.eq_2]
    by_cases q : S = 0
    · subst q
      rw [if_pos (lg_eq0 rfl), cl_none 64 (fun i _ => bt_0 i)]
      rfl
    · rw [if_neg (lg_ne0 q)]
      obtain ⟨k, hk, h1, h2⟩ := low_bit q
      have e := cl_less h1 (fun i => bt_drop h1 h2 i) 64
      rw [if_pos hk] at e
      rw [show nI a + 1 = nI (a + 1) from nI_add a 1, ih _ (a + 1) (by omega), e]
      congr 2
      omega
theorem t_many64 (S : Int64) : pf_L_many S = some (nI (cl (bt S) 64)) := by
  have h := t_many_L 100000 S 0 (by have := cl_le (bt S) 64; omega)
  rw [Nat.zero_add] at h
  exact h
/-- a set of rows below R -/
def SB (S : Int64) (R : Nat) : Prop := ∀ i, R ≤ i → bt S i = false
theorem cl_ext {f : Nat → Bool} {a : Nat} (h : ∀ i, a ≤ i → f i = false) : ∀ b, a ≤ b → cl f b = cl f a
  | 0, hb => by rw [show a = 0 by omega]
  | b + 1, hb => by
    by_cases q : a = b + 1
    · rw [q]
    · show cl f b + (if f b = true then 1 else 0) = _
      rw [h b (by omega), cl_ext h b (by omega)]
      rfl
theorem t_many {S : Int64} {R : Nat} (hR : R ≤ 64) (h : SB S R) : pf_L_many S = some (nI (cl (bt S) R)) := by
  rw [t_many64, cl_ext h 64 hR]
theorem SB_lt {S : Int64} {R i : Nat} (h : SB S R) (hb : bt S i = true) : i < R := by
  apply Classical.byContradiction
  intro q
  rw [h i (by omega)] at hb
  cases hb
theorem cl_zero {f : Nat → Bool} : ∀ j, cl f j = 0 → ∀ i, i < j → f i = false
  | 0, _, i, hi => absurd hi (Nat.not_lt_zero i)
  | j + 1, h, i, hi => by
    have h : cl f j + (if f j = true then 1 else 0) = 0 := h
    by_cases q : i = j
    · subst q
      cases e : f i
      · rfl
      · rw [e] at h
        simp at h
    · exact cl_zero j (by omega) i (by omega)
theorem set_none {S : Int64} {R : Nat} (h : SB S R) : S = 0 ↔ cl (bt S) R = 0 := by
  constructor
  · intro e
    subst e
    exact cl_none R (fun i _ => bt_0 i)
  · intro e
    apply bt_ext
    intro i hi
    rw [bt_0]
    by_cases q : i < R
    · exact cl_zero R e i q
    · exact h i (by omega)
/-- sums from the other end -/
theorem cl_front (f : Nat → Bool) : ∀ n, cl f (n + 1) = (if f 0 then 1 else 0) + cl (fun i => f (i + 1)) n
  | 0 => (Nat.zero_add _).trans (Nat.add_zero _).symm
  | n + 1 => by
    show cl f (n + 1) + (if f (n + 1) = true then 1 else 0) = _ + (cl (fun i => f (i + 1)) n + (if f (n + 1) = true then 1 else 0))
    rw [cl_front f n]
    omega
theorem cl_rev (f : Nat → Bool) : ∀ n, cl (fun j => f (n - 1 - j)) n = cl f n
  | 0 => rfl
  | n + 1 => by
    rw [cl_front]
    have e : cl (fun i => f (n + 1 - 1 - (i + 1))) n = cl (fun j => f (n - 1 - j)) n := cl_same n (fun i _ => congrArg f (by omega))
    show (if f (n + 1 - 1 - 0) = true then 1 else 0) + cl (fun i => f (n + 1 - 1 - (i + 1))) n = cl f n + (if f n = true then 1 else 0)
    rw [e, cl_rev f n]
    simp
    omega

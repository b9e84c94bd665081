/-! what a rule tells of a guess, and the best guess -/
section
variable {P C al n : Nat} {hid : Int32} {yg : Nat → Int32} {yr : Nat → Int64}
theorem mx_at {c : Nat → Nat} {M m : Nat} (h : m < M) : c m ≤ mx c M := le_mx c M m h
theorem cm_pos {g k : Nat} {T : Int64} (hk : k < C ^ P) (h : bt T k = true) : 0 < cm P C T g (mk P C g k) := by
  apply Classical.byContradiction
  intro q
  have := cl_zero (C ^ P) (show cm P C T g (mk P C g k) = 0 by omega) k hk
  unfold pt at this
  rw [h, decide_eq_true rfl] at this
  cases this
theorem t_worth_in {g k a b c : Nat} {T : Int64} (kL : Int32 → Int32 → Int32 → Int64 → Option Int32) (hG : GI P C al n hid yg) (hV : VG P C) (hR : C ^ P ≤ 64) (hL : Rl P C (C ^ P) yr) (hT : SB T (C ^ P)) (hg : g < C ^ P) (hk : k < C ^ P) (h1 : bt T k = true) (h2 : ∀ i, i < k → bt T i = false) (ha : a ≤ 64) (hb : b ≤ 100000) (hc : c ≤ 100) : ∀ d j, j ≤ k → k - j < d → ∃ Tm, Hs Tm (pt P C T g (mk P C g k)) (C ^ P) ∧ pf_L_worth_L22 (nI g) yg yr kL (nI a) (nI b) (nI c) T d (nI j) = kL (nI (max a (cm P C T g (mk P C g k)))) (nI (b + cm P C T g (mk P C g k) * cm P C T g (mk P C g k))) (nI (c + 1)) (T &&& (Tm ^^^ (-1))) := by
  intro d
  induction d with
  | zero => intro j _ h; omega
  | succ d ih =>
    intro j h3 h4
    rw [pf_L_worth_L22.eq_2]
    have e4 := t_has T (r := j) (by omega)
    by_cases e : j = k
    · subst e
      rw [h1] at e4
      have e4 : pf_L_has T (nI j) = some (nI 1) := e4
      have e5 := t_pins hG hV hR hL hg hk
      have m8 := mk80 hV g j
      obtain ⟨Tm, x1, x2⟩ := t_part T hG hV hR hL hg m8
      refine ⟨Tm, x2, ?_⟩
      have e6 : pf_L_many Tm = some (nI (cm P C T g (mk P C g j))) := by
        rw [t_many hR (Hs_SB x2), Hs_cl x2]
        rfl
      have hz := cm_le P C T g (mk P C g j)
      have e7 : nI b + nI (cm P C T g (mk P C g j)) * nI (cm P C T g (mk P C g j)) = nI (b + cm P C T g (mk P C g j) * cm P C T g (mk P C g j)) := by rw [pk_mul, nI_add]
      by_cases q : cm P C T g (mk P C g j) ≤ a
      · simp (disch := omega) only [g_lit, nI_add, pk_mul, pk_div, g_sdm, pk_sub, g_clamp, ile_t, ile_f, ilt_t, ilt_f, ieq_t, ieq_f, ieq_r, gi_t, gd_t, gz0, gz1, gl_x, ob0_some, ob1_some, ob2_some, ob3_some, ob4_some, ob5_some, ob6_some, ob7_some, ob8_some, ob9_some, ob10_some, ob11_some, ob12_some, ob13_some, e4, e5, x1, e6, pf_L_worth_j79]
        rw [Nat.max_eq_left q]
      · simp (disch := omega) only [g_lit, nI_add, pk_mul, pk_div, g_sdm, pk_sub, g_clamp, ile_t, ile_f, ilt_t, ilt_f, ieq_t, ieq_f, ieq_r, gi_t, gd_t, gz0, gz1, gl_x, ob0_some, ob1_some, ob2_some, ob3_some, ob4_some, ob5_some, ob6_some, ob7_some, ob8_some, ob9_some, ob10_some, ob11_some, ob12_some, ob13_some, e4, e5, x1, e6, pf_L_worth_j79]
        rw [Nat.max_eq_right (by omega)]
    · rw [h2 j (by omega)] at e4
      have e4 : pf_L_has T (nI j) = some (nI 0) := e4
      obtain ⟨Tm, x2, x1⟩ := ih (j + 1) (by omega) (by omega)
      refine ⟨Tm, x2, ?_⟩
      simp (disch := omega) only [g_lit, nI_add, pk_mul, pk_div, g_sdm, pk_sub, g_clamp, ile_t, ile_f, ilt_t, ilt_f, ieq_t, ieq_f, ieq_r, gi_t, gd_t, gz0, gz1, gl_x, ob0_some, ob1_some, ob2_some, ob3_some, ob4_some, ob5_some, ob6_some, ob7_some, ob8_some, ob9_some, ob10_some, ob11_some, ob12_some, ob13_some, e4]
      exact x1
theorem sm_none {F c : Nat → Nat} (hF : F 0 = 0) : ∀ M, (∀ m, m < M → c m = 0) → sm F c M = 0
  | 0, _ => rfl
  | M + 1, h => by
    show sm F c M + F (c M) = 0
    rw [sm_none hF M (fun m hm => h m (by omega)), h M (by omega), hF]
theorem t_worth_L {g w W Q K : Nat} (hG : GI P C al n hid yg) (hV : VG P C) (hR : C ^ P ≤ 64) (hL : Rl P C (C ^ P) yr) (hg : g < C ^ P) (hw : w ≤ 2) (hW : W ≤ 64) (hQ : Q ≤ 100000) (hK : K ≤ 100) : ∀ d T a b c, SB T (C ^ P) → sm pos (cm P C T g) 81 < d → max a (mx (cm P C T g) 81) = W → b + sm sq (cm P C T g) 81 = Q → c + sm pos (cm P C T g) 81 = K → pf_L_worth_L12 (nI g) (nI w) yg yr d (nI a) (nI b) (nI c) T = some (if w = 0 then nI W else if w = 1 then nI Q else -(nI K)) := by
  intro d
  induction d with
  | zero => intro T a b c _ h; omega
  | succ d ih =>
    intro T a b c hT h1 h2 h3 h4
    rw [pf_L_worth_L12.eq_2]
    by_cases q : T = 0
    · have hz : ∀ m, m < 81 → cm P C T g m = 0 := fun m _ => by
        apply cl_none
        intro i _
        unfold pt
        rw [q, bt_0, Bool.false_and]
      rw [if_pos (lg_eq0 q)]
      rw [mx_zero 81 hz] at h2
      rw [sm_none rfl 81 hz] at h3 h4
      have ea : a = W := by omega
      have eb : b = Q := by omega
      have ec : c = K := by omega
      subst ea
      subst eb
      subst ec
      have hw3 : w = 0 ∨ w = 1 ∨ w = 2 := by omega
      rcases hw3 with rfl | rfl | rfl
      · rfl
      · rfl
      · rfl
    · rw [if_neg (lg_ne0 q)]
      obtain ⟨k, hk, h5, h6⟩ := low_bit q
      have hkR := SB_lt hT h5
      obtain ⟨Tm, x1, x2⟩ := t_worth_in (a := a) (b := b) (c := c) (fun v6 v7 v8 v9 => pf_L_worth_L12 (nI g) (nI w) yg yr d v6 v7 v8 v9) hG hV hR hL hT hg hkR h5 h6 (by omega) (by omega) (by omega) 100000 0 (Nat.zero_le _) (by omega)
      obtain ⟨y1, y2, y3, y4⟩ := cm_off x1 hT
      have m8 := mk80 hV g k
      have hp := cm_pos (g := g) hkR h5
      have hx : ∀ m, m ≠ mk P C g k → cm P C T g m = cm P C (T &&& (Tm ^^^ (-1))) g m := fun m hm => (y3 m hm).symm
      have u1 := sm_up (F := pos) hx 81 (by omega)
      have u2 := sm_up (F := sq) hx 81 (by omega)
      have u3 := mx_up hx (by rw [y4]; omega) 81 (by omega)
      rw [y4] at u1 u2
      have z1 : pos (cm P C T g (mk P C g k)) = 1 := if_neg (by omega)
      have z2 : pos 0 = 0 := rfl
      have z3 : sq 0 = 0 := rfl
      have z4 : sq (cm P C T g (mk P C g k)) = cm P C T g (mk P C g k) * cm P C T g (mk P C g k) := rfl
      rw [z1, z2] at u1
      rw [z3, z4] at u2
      refine x2.trans ?_
      exact ih _ _ _ _ y1 (by omega) (by omega) (by omega) (by omega)
theorem t_worth {g w : Nat} {S : Int64} (hG : GI P C al n hid yg) (hV : VG P C) (hR : C ^ P ≤ 64) (hL : Rl P C (C ^ P) yr) (hS : SB S (C ^ P)) (hg : g < C ^ P) (hw : w ≤ 2) : pf_L_worth yg yr S (nI g) (nI w) = some (iI (sc P C w (cl (bt S) (C ^ P)) (rk (bt S) (C ^ P)) g)) := by
  have hs := cl_le (bt S) (C ^ P)
  have hm : ∀ i, i < cl (bt S) (C ^ P) → mz P C g (rk (bt S) (C ^ P)) i < 81 := fun i _ => by
    have := mk80 hV g (rk (bt S) (C ^ P) i)
    unfold mz
    omega
  have e1 := pgr_mx _ hm
  have e2 := pz_sm _ hm
  have e3 := pd_sm _ hm
  have hc : ct (mz P C g (rk (bt S) (C ^ P))) (cl (bt S) (C ^ P)) = cm P C S g := by
    funext m
    exact ct_cm
  rw [hc] at e1 e2 e3
  have b1 := pgr_le (mz P C g (rk (bt S) (C ^ P))) (cl (bt S) (C ^ P))
  have b2 := pz_le (mz P C g (rk (bt S) (C ^ P))) (cl (bt S) (C ^ P))
  have b3 := pd_le (mz P C g (rk (bt S) (C ^ P))) (cl (bt S) (C ^ P))
  have b4 : cl (bt S) (C ^ P) * cl (bt S) (C ^ P) ≤ 64 * 64 := Nat.mul_le_mul (by omega) (by omega)
  have h := t_worth_L (g := g) (w := w) (W := mx (cm P C S g) 81) (Q := sm sq (cm P C S g) 81) (K := sm pos (cm P C S g) 81) hG hV hR hL hg hw (by omega) (by omega) (by omega) 100000 S 0 0 0 hS (by omega) (by omega) (by omega) (by omega)
  refine h.trans ?_
  unfold sc
  rw [e1, e2, e3]
  have hw3 : w = 0 ∨ w = 1 ∨ w = 2 := by omega
  rcases hw3 with rfl | rfl | rfl
  · exact congrArg some (nI_iI _)
  · exact congrArg some (nI_iI _)
  · exact congrArg some (iI_neg _)
/-- the first least -/
def fst_of (Q : Nat → Prop) (key : Nat → Int) (r : Nat) : Prop := Q r ∧ ∀ x, Q x → key r ≤ key x ∧ (key x = key r → r ≤ x)
theorem fst_one {Q : Nat → Prop} {key : Nat → Int} {r r' : Nat} (h : fst_of Q key r) (h' : fst_of Q key r') : r = r' := by
  obtain ⟨a1, a2⟩ := h
  obtain ⟨b1, b2⟩ := h'
  obtain ⟨c1, c2⟩ := a2 r' b1
  obtain ⟨d1, d2⟩ := b2 r a1
  have e : key r = key r' := Int.le_antisymm c1 d1
  exact Nat.le_antisymm (c2 e.symm) (d2 e)
theorem bs_fst (key : Nat → Int) : ∀ j, 0 < j → fst_of (fun x => x < j) key (bs key j)
  | 0, h => absurd h (by omega)
  | j + 1, _ => by
    show fst_of _ key (if key j < key (bs key j) then j else bs key j)
    by_cases h0 : j = 0
    · subst h0
      have e : (if key 0 < key (bs key 0) then 0 else bs key 0) = 0 := by
        show (if key 0 < key 0 then 0 else 0) = 0
        split <;> rfl
      rw [e]
      exact ⟨by omega, fun x hx => by have : x = 0 := by omega
                                      subst this
                                      exact ⟨Int.le_refl _, fun _ => Nat.le_refl _⟩⟩
    · obtain ⟨a1, a2⟩ := bs_fst key j (by omega)
      by_cases q : key j < key (bs key j)
      · rw [if_pos q]
        refine ⟨by omega, fun x hx => ?_⟩
        by_cases e : x = j
        · subst e
          exact ⟨Int.le_refl _, fun _ => Nat.le_refl _⟩
        · have h1 := (a2 x (by omega)).1
          exact ⟨by omega, fun z => by omega⟩
      · rw [if_neg q]
        refine ⟨by omega, fun x hx => ?_⟩
        by_cases e : x = j
        · subst e
          exact ⟨by omega, fun _ => by omega⟩
        · exact a2 x (by omega)
/-- the state of the search: nothing yet, or the first least of Q -/
def Fbest (P C w s : Nat) (ls : Nat → Nat) (Q : Nat → Prop) (v5 v6 : Int32) : Prop := (v5 = -1 ∧ ∀ x, ¬ Q x) ∨ ∃ r, r < C ^ P ∧ v5 = nI r ∧ v6 = iI (sc P C w s ls r) ∧ fst_of Q (ky P C w s ls) r
theorem Fbest_same {w s : Nat} {ls : Nat → Nat} {Q Q' : Nat → Prop} {v5 v6 : Int32} (h : Fbest P C w s ls Q v5 v6) (hq : ∀ x, Q x ↔ Q' x) : Fbest P C w s ls Q' v5 v6 := by
  have : Q = Q' := funext fun x => propext (hq x)
  subst this
  exact h
theorem neg1 : (-1 : Int32) < 0 := by decide
theorem t_best_j {w j : Nat} {S : Int64} {Q : Nat → Prop} (kL : Int32 → Int32 → Int32 → Option Int32) (v5 v6 : Int32) (s0 : Int32) (hG : GI P C al n hid yg) (hV : VG P C) (hR : C ^ P ≤ 64) (hL : Rl P C (C ^ P) yr) (hS : SB S (C ^ P)) (hw : w ≤ 2) (hj : j < C ^ P) (hF : Fbest P C w (cl (bt S) (C ^ P)) (rk (bt S) (C ^ P)) Q v5 v6)
    (hlt : ∀ r, r < C ^ P → fst_of Q (ky P C w (cl (bt S) (C ^ P)) (rk (bt S) (C ^ P))) r → sc P C w (cl (bt S) (C ^ P)) (rk (bt S) (C ^ P)) j < sc P C w (cl (bt S) (C ^ P)) (rk (bt S) (C ^ P)) r → ky P C w (cl (bt S) (C ^ P)) (rk (bt S) (C ^ P)) j < ky P C w (cl (bt S) (C ^ P)) (rk (bt S) (C ^ P)) r)
    (hge : ∀ r, r < C ^ P → fst_of Q (ky P C w (cl (bt S) (C ^ P)) (rk (bt S) (C ^ P))) r → ¬ sc P C w (cl (bt S) (C ^ P)) (rk (bt S) (C ^ P)) j < sc P C w (cl (bt S) (C ^ P)) (rk (bt S) (C ^ P)) r → ky P C w (cl (bt S) (C ^ P)) (rk (bt S) (C ^ P)) r ≤ ky P C w (cl (bt S) (C ^ P)) (rk (bt S) (C ^ P)) j ∧ (ky P C w (cl (bt S) (C ^ P)) (rk (bt S) (C ^ P)) j = ky P C w (cl (bt S) (C ^ P)) (rk (bt S) (C ^ P)) r → r ≤ j)) :
    ∃ v5' v6', pf_L_best_j42 S (nI w) yg yr kL v5 v6 (nI j) s0 s0 = kL v5' v6' (nI (j + 1)) ∧ Fbest P C w (cl (bt S) (C ^ P)) (rk (bt S) (C ^ P)) (fun x => Q x ∨ x = j) v5' v6' := by
  have hs := cl_le (bt S) (C ^ P)
  have e1 := t_worth hG hV hR hL hS hj hw
  have bj := sc_b (P := P) (C := C) (w := w) (s := cl (bt S) (C ^ P)) (rk (bt S) (C ^ P)) j (by omega)
  unfold pf_L_best_j42
  rw [if_pos rfl, e1, ob1_some]
  rcases hF with ⟨rfl, hq⟩ | ⟨r, hr, rfl, rfl, hf⟩
  · refine ⟨nI j, _, ?_, Or.inr ⟨j, hj, rfl, rfl, Or.inr rfl, ?_⟩⟩
    · rw [if_pos neg1]
      simp (disch := omega) only [g_lit, nI_add, pk_mul, pk_div, g_sdm, pk_sub, g_clamp, ile_t, ile_f, ilt_t, ilt_f, ieq_t, ieq_f, ieq_r, gi_t, gd_t, gz0, gz1, gl_x, ob0_some, ob1_some, ob2_some, ob3_some, ob4_some, ob5_some, ob6_some, ob7_some, ob8_some, ob9_some, ob10_some, ob11_some, ob12_some, ob13_some, pf_L_best_j75, pf_L_best_j83]
    · intro x hx
      rcases hx with hx | rfl
      · exact absurd hx (hq x)
      · exact ⟨Int.le_refl _, fun _ => Nat.le_refl _⟩
  · have br := sc_b (P := P) (C := C) (w := w) (s := cl (bt S) (C ^ P)) (rk (bt S) (C ^ P)) r (by omega)
    have n5 : ¬ nI r < 0 := nI_pos (by omega)
    rw [if_neg n5]
    by_cases q : sc P C w (cl (bt S) (C ^ P)) (rk (bt S) (C ^ P)) j < sc P C w (cl (bt S) (C ^ P)) (rk (bt S) (C ^ P)) r
    · rw [if_pos ((iI_lt (by omega) (by omega) (by omega) (by omega)).mpr q)]
      refine ⟨nI j, _, ?_, Or.inr ⟨j, hj, rfl, rfl, Or.inr rfl, ?_⟩⟩
      · simp (disch := omega) only [g_lit, nI_add, pk_mul, pk_div, g_sdm, pk_sub, g_clamp, ile_t, ile_f, ilt_t, ilt_f, ieq_t, ieq_f, ieq_r, gi_t, gd_t, gz0, gz1, gl_x, ob0_some, ob1_some, ob2_some, ob3_some, ob4_some, ob5_some, ob6_some, ob7_some, ob8_some, ob9_some, ob10_some, ob11_some, ob12_some, ob13_some, pf_L_best_j75, pf_L_best_j83]
      · intro x hx
        have hk := hlt r hr hf q
        rcases hx with hx | rfl
        · have := (hf.2 x hx).1
          exact ⟨by omega, fun z => by omega⟩
        · exact ⟨Int.le_refl _, fun _ => Nat.le_refl _⟩
    · rw [if_neg (fun z => q ((iI_lt (by omega) (by omega) (by omega) (by omega)).mp z))]
      refine ⟨nI r, _, ?_, Or.inr ⟨r, hr, rfl, rfl, Or.inl hf.1, ?_⟩⟩
      · simp (disch := omega) only [g_lit, nI_add, pk_mul, pk_div, g_sdm, pk_sub, g_clamp, ile_t, ile_f, ilt_t, ilt_f, ieq_t, ieq_f, ieq_r, gi_t, gd_t, gz0, gz1, gl_x, ob0_some, ob1_some, ob2_some, ob3_some, ob4_some, ob5_some, ob6_some, ob7_some, ob8_some, ob9_some, ob10_some, ob11_some, ob12_some, ob13_some, pf_L_best_j83]
      · intro x hx
        rcases hx with hx | rfl
        · exact hf.2 x hx
        · exact hge r hr hf q
theorem li_bt {j : Nat} {S : Int64} (hV : VG P C) (hj : j < C ^ P) : li P C (cl (bt S) (C ^ P)) (rk (bt S) (C ^ P)) j = if bt S j = true then 1 else 0 := by
  unfold li
  rw [ct_cm]
  cases q : bt S j
  · refine Eq.trans (if_pos ?_) (if_neg (by decide)).symm
    apply cl_none
    intro i hi
    unfold pt
    by_cases q2 : mk P C j i = 10 * P
    · have := (mk_full hV.2.2.1 hV.2.2.2.1 hj hi).mp q2
      subst this
      rw [q, Bool.false_and]
    · rw [decide_eq_false q2, Bool.and_false]
  · refine Eq.trans (if_neg ?_) (if_pos rfl).symm
    intro z
    have := cl_zero (C ^ P) z j hj
    unfold pt at this
    rw [q, decide_eq_true (mk_self hV.2.2.1 hV.2.2.2.1 j)] at this
    cases this
theorem t_best_0 {w : Nat} {S : Int64} (kL : Int32 → Int32 → Int32 → Option Int32) (hG : GI P C al n hid yg) (hV : VG P C) (hR : C ^ P ≤ 64) (hL : Rl P C (C ^ P) yr) (hS : SB S (C ^ P)) (hw : w ≤ 2) : ∀ d j v5 v6, j ≤ C ^ P → C ^ P - j < d → Fbest P C w (cl (bt S) (C ^ P)) (rk (bt S) (C ^ P)) (fun x => x < j ∧ bt S x = true) v5 v6 → ∃ v5' v6', pf_L_best_L18 S (nI w) yg yr kL (nI 0) d v5 v6 (nI j) = kL v5' v6' (nI 1) ∧ Fbest P C w (cl (bt S) (C ^ P)) (rk (bt S) (C ^ P)) (fun x => bt S x = true) v5' v6' := by
  intro d
  induction d with
  | zero => intro j v5 v6 _ h; omega
  | succ d ih =>
    intro j v5 v6 h1 h2 hF
    rw [pf_L_best_L18.eq_2, k2, hG.2.2.1]
    by_cases e : j = C ^ P
    · refine ⟨v5, v6, ?_, Fbest_same hF fun x => ⟨fun h => h.2, fun h => ⟨by rw [e]; exact SB_lt hS h, h⟩⟩⟩
      simp (disch := omega) only [g_lit, nI_add, pk_mul, pk_div, g_sdm, pk_sub, g_clamp, ile_t, ile_f, ilt_t, ilt_f, ieq_t, ieq_f, ieq_r, gi_t, gd_t, gz0, gz1, gl_x, ob0_some, ob1_some, ob2_some, ob3_some, ob4_some, ob5_some, ob6_some, ob7_some, ob8_some, ob9_some, ob10_some, ob11_some, ob12_some, ob13_some]
    · have e4 := t_has S (r := j) (by omega)
      cases q : bt S j
      · rw [q] at e4
        have e4 : pf_L_has S (nI j) = some (nI 0) := e4
        obtain ⟨a, b, x1, x2⟩ := ih (j + 1) v5 v6 (by omega) (by omega) (Fbest_same hF fun x => ⟨fun h => ⟨by omega, h.2⟩, fun h => ⟨by
          have : x ≠ j := fun z => by rw [z, q] at h; exact absurd h.2 (by decide)
          omega, h.2⟩⟩)
        refine ⟨a, b, ?_, x2⟩
        simp (disch := omega) only [g_lit, nI_add, pk_mul, pk_div, g_sdm, pk_sub, g_clamp, ile_t, ile_f, ilt_t, ilt_f, ieq_t, ieq_f, ieq_r, gi_t, gd_t, gz0, gz1, gl_x, ob0_some, ob1_some, ob2_some, ob3_some, ob4_some, ob5_some, ob6_some, ob7_some, ob8_some, ob9_some, ob10_some, ob11_some, ob12_some, ob13_some, e4, pf_L_best_j42, pf_L_best_j83]
        exact x1
      · rw [q] at e4
        have e4 : pf_L_has S (nI j) = some (nI 1) := e4
        have lj := li_bt (S := S) hV (show j < C ^ P by omega)
        rw [q, if_pos rfl] at lj
        obtain ⟨a, b, x1, x2⟩ := t_best_j (fun v5 v6 v8 => pf_L_best_L18 S (nI w) yg yr kL (nI 0) d v5 v6 v8) v5 v6 (nI 1) hG hV hR hL hS hw (show j < C ^ P by omega) hF
          (fun r hr hf h => by
            have lr := li_bt (S := S) hV hr
            rw [hf.1.2, if_pos rfl] at lr
            unfold ky
            rw [lj, lr]
            omega)
          (fun r hr hf h => by
            have lr := li_bt (S := S) hV hr
            rw [hf.1.2, if_pos rfl] at lr
            have := hf.1.1
            unfold ky
            rw [lj, lr]
            exact ⟨by omega, fun _ => by omega⟩)
        obtain ⟨a2, b2, x3, x4⟩ := ih (j + 1) a b (by omega) (by omega) (Fbest_same x2 fun x => ⟨fun h => by
          rcases h with h | rfl
          · exact ⟨by omega, h.2⟩
          · exact ⟨by omega, q⟩, fun h => by
          by_cases z : x = j
          · exact Or.inr z
          · exact Or.inl ⟨by omega, h.2⟩⟩)
        refine ⟨a2, b2, ?_, x4⟩
        refine (gi_t (i := 2) (by omega) (by omega)).trans ?_
        rw [ile_f (by omega) (by omega), e4, ob1_some]
        refine (if_pos (rfl : nI 0 = 0)).trans ?_
        exact x1.trans x3
theorem t_best_1 {w : Nat} {S : Int64} (kL : Int32 → Int32 → Int32 → Option Int32) (hG : GI P C al n hid yg) (hV : VG P C) (hR : C ^ P ≤ 64) (hL : Rl P C (C ^ P) yr) (hS : SB S (C ^ P)) (hw : w ≤ 2) : ∀ d j v5 v6, j ≤ C ^ P → C ^ P - j < d → Fbest P C w (cl (bt S) (C ^ P)) (rk (bt S) (C ^ P)) (fun x => x < j ∨ bt S x = true) v5 v6 → ∃ v5' v6', pf_L_best_L18 S (nI w) yg yr kL (nI 1) d v5 v6 (nI j) = kL v5' v6' (nI 2) ∧ Fbest P C w (cl (bt S) (C ^ P)) (rk (bt S) (C ^ P)) (fun x => x < C ^ P) v5' v6' := by
  intro d
  induction d with
  | zero => intro j v5 v6 _ h; omega
  | succ d ih =>
    intro j v5 v6 h1 h2 hF
    rw [pf_L_best_L18.eq_2, k2, hG.2.2.1]
    by_cases e : j = C ^ P
    · refine ⟨v5, v6, ?_, Fbest_same hF fun x => ⟨fun h => by
        rcases h with h | h
        · omega
        · exact SB_lt hS h, fun h => Or.inl (by omega)⟩⟩
      simp (disch := omega) only [g_lit, nI_add, pk_mul, pk_div, g_sdm, pk_sub, g_clamp, ile_t, ile_f, ilt_t, ilt_f, ieq_t, ieq_f, ieq_r, gi_t, gd_t, gz0, gz1, gl_x, ob0_some, ob1_some, ob2_some, ob3_some, ob4_some, ob5_some, ob6_some, ob7_some, ob8_some, ob9_some, ob10_some, ob11_some, ob12_some, ob13_some]
    · have e4 := t_has S (r := j) (by omega)
      cases q : bt S j
      · rw [q] at e4
        have e4 : pf_L_has S (nI j) = some (nI 0) := e4
        have lj := li_bt (S := S) hV (show j < C ^ P by omega)
        rw [q, if_neg (by decide)] at lj
        obtain ⟨a, b, x1, x2⟩ := t_best_j (fun v5 v6 v8 => pf_L_best_L18 S (nI w) yg yr kL (nI 1) d v5 v6 v8) v5 v6 (nI 0) hG hV hR hL hS hw (show j < C ^ P by omega) hF
          (fun r hr hf h => by
            have lr := li_b P C (cl (bt S) (C ^ P)) (rk (bt S) (C ^ P)) r
            unfold ky
            rw [lj]
            omega)
          (fun r hr hf h => by
            have lr := li_bt (S := S) hV hr
            unfold ky
            rw [lj]
            cases q2 : bt S r
            · rw [q2, if_neg (by decide)] at lr
              have this : r < j ∨ bt S r = true := hf.1
              rw [q2] at this
              rcases this with this | this
              · rw [lr]
                exact ⟨by omega, fun _ => by omega⟩
              · cases this
            · rw [q2, if_pos rfl] at lr
              rw [lr]
              exact ⟨by omega, fun z => by omega⟩)
        obtain ⟨a2, b2, x3, x4⟩ := ih (j + 1) a b (by omega) (by omega) (Fbest_same x2 fun x => ⟨fun h => by
          rcases h with (h | h) | rfl
          · exact Or.inl (by omega)
          · exact Or.inr h
          · exact Or.inl (by omega), fun h => by
          rcases h with h | h
          · by_cases z : x = j
            · exact Or.inr z
            · exact Or.inl (Or.inl (by omega))
          · exact Or.inl (Or.inr h)⟩)
        refine ⟨a2, b2, ?_, x4⟩
        refine (gi_t (i := 2) (by omega) (by omega)).trans ?_
        rw [ile_f (by omega) (by omega), e4, ob1_some]
        refine (if_neg (by decide : ¬ nI 1 = 0)).trans ?_
        exact x1.trans x3
      · rw [q] at e4
        have e4 : pf_L_has S (nI j) = some (nI 1) := e4
        obtain ⟨a, b, x1, x2⟩ := ih (j + 1) v5 v6 (by omega) (by omega) (Fbest_same hF fun x => ⟨fun h => by
          rcases h with h | h
          · exact Or.inl (by omega)
          · exact Or.inr h, fun h => by
          rcases h with h | h
          · by_cases z : x = j
            · exact Or.inr (z ▸ q)
            · exact Or.inl (by omega)
          · exact Or.inr h⟩)
        refine ⟨a, b, ?_, x2⟩
        simp (disch := omega) only [g_lit, nI_add, pk_mul, pk_div, g_sdm, pk_sub, g_clamp, ile_t, ile_f, ilt_t, ilt_f, ieq_t, ieq_f, ieq_r, gi_t, gd_t, gz0, gz1, gl_x, ob0_some, ob1_some, ob2_some, ob3_some, ob4_some, ob5_some, ob6_some, ob7_some, ob8_some, ob9_some, ob10_some, ob11_some, ob12_some, ob13_some, e4, pf_L_best_j42, pf_L_best_j83]
        exact x1
theorem t_best {w : Nat} {S : Int64} (hG : GI P C al n hid yg) (hV : VG P C) (hR : C ^ P ≤ 64) (hL : Rl P C (C ^ P) yr) (hS : SB S (C ^ P)) (hw : w ≤ 2) : pf_L_best yg yr S (nI w) = some (nI (bs (ky P C w (cl (bt S) (C ^ P)) (rk (bt S) (C ^ P))) (C ^ P))) := by
  have hR2 := R2 hV
  unfold pf_L_best
  have hd : (100000 : Nat) = 99997 + 1 + 1 + 1 := rfl
  have key : ∀ F, pf_L_best_L9 S (nI w) yg yr (F + 1 + 1 + 1) (-1) 0 0 = some (nI (bs (ky P C w (cl (bt S) (C ^ P)) (rk (bt S) (C ^ P))) (C ^ P))) := by
    intro F
    rw [pf_L_best_L9.eq_2, show (0 : Int32) = nI 0 from rfl, show (2 : Int32) = nI 2 from rfl, ile_f (by omega) (by omega)]
    obtain ⟨a, b, x1, x2⟩ := t_best_0 (fun v5 v6 v7 => pf_L_best_L9 S (nI w) yg yr (F + 1 + 1) v5 v6 v7) hG hV hR hL hS hw 100000 0 (-1) (nI 0) (Nat.zero_le _) (by omega) (Or.inl ⟨rfl, fun x h => absurd h.1 (Nat.not_lt_zero x)⟩)
    refine x1.trans ?_
    show pf_L_best_L9 S (nI w) yg yr (F + 1 + 1) a b (nI 1) = _
    rw [pf_L_best_L9.eq_2, show (0 : Int32) = nI 0 from rfl, show (2 : Int32) = nI 2 from rfl, ile_f (by omega) (by omega)]
    obtain ⟨a2, b2, x3, x4⟩ := t_best_1 (fun v5 v6 v7 => pf_L_best_L9 S (nI w) yg yr (F + 1) v5 v6 v7) hG hV hR hL hS hw 100000 0 a b (Nat.zero_le _) (by omega) (Fbest_same x2 fun x => ⟨Or.inr, fun h => h.resolve_left (Nat.not_lt_zero x)⟩)
    refine x3.trans ?_
    show pf_L_best_L9 S (nI w) yg yr (F + 1) a2 b2 (nI 2) = _
    rw [pf_L_best_L9.eq_2, show (2 : Int32) = nI 2 from rfl, ile_t (by omega) (by omega)]
    rcases x4 with ⟨_, hq⟩ | ⟨r, hr, rfl, _, hf⟩
    · exact absurd (show 0 < C ^ P by omega) (hq 0)
    · rw [fst_one hf (bs_fst _ _ (by omega))]
  exact key 99997
end

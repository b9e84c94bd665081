/-! how many guesses are needed: the law's walk over sets -/
theorem rk_same {f g : Nat → Bool} : ∀ j, (∀ i, i < j → f i = g i) → rk f j = rk g j
  | 0, _ => rfl
  | j + 1, h => by
    funext k
    show (if f j = true ∧ cl f j = k then j else rk f j k) = (if g j = true ∧ cl g j = k then j else rk g j k)
    rw [h j (by omega), cl_same j (fun i hi => h i (by omega)), rk_same j (fun i hi => h i (by omega))]
theorem fl_list {P C g R m : Nat} {st : Nat → Bool} : ∀ j, j ≤ R → fl (rk st R) (mz P C g (rk st R)) m (cl st j) = rk (fun x => st x && decide (mk P C g x = m)) j
  | 0, _ => rfl
  | j + 1, h => by
    have ih := fl_list (P := P) (C := C) (g := g) (R := R) (m := m) (st := st) j (by omega)
    have ic := ct_list (P := P) (C := C) (g := g) (R := R) (m := m) (st := st) j (by omega)
    funext k
    show fl _ _ m (cl st j + (if st j = true then 1 else 0)) k = (if (st j && decide (mk P C g j = m)) = true ∧ cl (fun x => st x && decide (mk P C g x = m)) j = k then j else rk (fun x => st x && decide (mk P C g x = m)) j k)
    cases q : st j
    · rw [if_neg (by decide), Nat.add_zero, ih, if_neg (by simp)]
    · rw [if_pos rfl]
      have e : rk st R (cl st j) = j := rk_at (by omega) q
      show (if mz P C g (rk st R) (cl st j) = m ∧ k = ct (mz P C g (rk st R)) (cl st j) m then rk st R (cl st j) else fl _ _ m (cl st j) k) = _
      have e2 : mz P C g (rk st R) (cl st j) = mk P C g j := by
        unfold mz
        rw [e]
      rw [ih, ic, e2, e, Bool.true_and]
      by_cases q2 : mk P C g j = m
      · by_cases q3 : cl (fun x => st x && decide (mk P C g x = m)) j = k
        · rw [if_pos ⟨q2, q3.symm⟩, if_pos ⟨decide_eq_true q2, q3⟩]
        · rw [if_neg (fun z => q3 z.2.symm), if_neg (fun z => q3 z.2)]
      · rw [if_neg (fun z => q2 z.1), if_neg (fun z => q2 (of_decide_eq_true z.1))]
/-- the height of a set, and the guess that parts it -/
def HF (P C d : Nat) (S : Int64) : Nat := hh P C d (cl (bt S) (C ^ P)) (rk (bt S) (C ^ P))
def gS (P C : Nat) (S : Int64) : Nat := gb P C (cl (bt S) (C ^ P)) (rk (bt S) (C ^ P))
def hfn (P C d : Nat) (f : Nat → Bool) : Nat := hh P C d (cl f (C ^ P)) (rk f (C ^ P))
theorem rk_R {P C : Nat} {S : Int64} : ∀ i, i < cl (bt S) (C ^ P) → rk (bt S) (C ^ P) i < C ^ P := fun i hi => (rk_kth _ _ _ hi).1
theorem HF_eq {P C d : Nat} {S : Int64} (hV : VG P C) (h1 : 1 ≤ cl (bt S) (C ^ P)) : HF P C (d + 1) S = 1 + mx (fun m => if cm P C S (gS P C S) m = 0 then 0 else hfn P C d (pt P C S (gS P C S) m)) (10 * P) := by
  unfold HF
  rw [hh_eq hV h1 rk_R]
  congr 2
  funext m
  rw [ct_cm]
  show (if cm P C S (gS P C S) m = 0 then 0 else hh P C d (cm P C S (gS P C S) m) (fl (rk (bt S) (C ^ P)) (mz P C (gS P C S) (rk (bt S) (C ^ P))) m (cl (bt S) (C ^ P)))) = _
  rw [fl_list (C ^ P) (Nat.le_refl _)]
  rfl
theorem gS_lt {P C : Nat} (hV : VG P C) (S : Int64) : gS P C S < C ^ P := gb_lt hV _ _
theorem gS_small {P C m : Nat} {S : Int64} (hV : VG P C) (h2 : 2 ≤ cl (bt S) (C ^ P)) (hm : m < 100) : cm P C S (gS P C S) m ≤ cl (bt S) (C ^ P) - 1 := by
  have h := gb_small (m := m) hV h2 (by have := cl_le (bt S) (C ^ P); have := hV.2.2.2.2; omega) (As_rk (bt S) (C ^ P)) rk_R hm
  rw [ct_cm] at h
  exact h
theorem gS_one {P C : Nat} {S : Int64} (hV : VG P C) (h1 : cl (bt S) (C ^ P) = 1) : bt S (gS P C S) = true := by
  have h := rk_kth (bt S) (C ^ P) 0 (by omega)
  unfold gS
  rw [h1, gb_one hV h.1]
  exact h.2.1
theorem pt_bt {P C g m : Nat} {T Tm : Int64} (h : Hs Tm (pt P C T g m) (C ^ P)) (hS : SB T (C ^ P)) : bt Tm = pt P C T g m := by
  funext i
  rw [h i]
  by_cases q : i < C ^ P
  · rw [decide_eq_true q, Bool.true_and]
  · unfold pt
    rw [hS i (by omega), Bool.false_and, Bool.and_false]
theorem pt_off {P C g m y : Nat} {T Tm : Int64} (h : ∀ x, bt (T &&& (Tm ^^^ (-1))) x = (bt T x && decide (mk P C g x ≠ m))) (hy : y ≠ m) : pt P C (T &&& (Tm ^^^ (-1))) g y = pt P C T g y := by
  funext i
  unfold pt
  rw [h]
  by_cases q2 : mk P C g i = m
  · have q3 : ¬ mk P C g i = y := fun z => hy (z.symm.trans q2)
    rw [decide_eq_false q3, Bool.and_false, Bool.and_false]
  · rw [decide_eq_true (show mk P C g i ≠ m from q2), Bool.and_true]
theorem cl_split (f : Nat → Bool) (p : Nat → Prop) [DecidablePred p] : ∀ j, cl f j = cl (fun x => f x && decide (p x)) j + cl (fun x => f x && decide (¬ p x)) j
  | 0 => rfl
  | j + 1 => by
    show cl f j + (if f j = true then 1 else 0) = (cl _ j + (if (f j && decide (p j)) = true then 1 else 0)) + (cl _ j + (if (f j && decide (¬ p j)) = true then 1 else 0))
    rw [cl_split f p j]
    cases f j <;> by_cases q : p j <;> simp [q] <;> omega
theorem sm_pos1 {c : Nat → Nat} {m : Nat} : ∀ M, m < M → 0 < c m → 1 ≤ sm pos c M
  | 0, h, _ => absurd h (Nat.not_lt_zero m)
  | M + 1, h, hc => by
    show 1 ≤ sm pos c M + pos (c M)
    by_cases q : m = M
    · subst q
      have : pos (c m) = 1 := if_neg (by omega)
      omega
    · have := sm_pos1 M (by omega) hc
      omega
theorem sm_pos2 {c : Nat → Nat} {m k M : Nat} (hm : m < M) (hk : k < M) (hne : m ≠ k) (h1 : 0 < c m) (h2 : 0 < c k) : 2 ≤ sm pos c M := by
  have u := sm_up (F := pos) (c := fun x => if x = m then 0 else c x) (c' := c) (x := m) (fun y hy => (if_neg hy).symm) M hm
  have v := sm_pos1 (c := fun x => if x = m then 0 else c x) (m := k) M hk (by
    show 0 < (if k = m then 0 else c k)
    rw [if_neg (fun z => hne z.symm)]
    exact h2)
  have e1 : pos (c m) = 1 := if_neg (by omega)
  have e2 : pos ((fun x => if x = m then 0 else c x) m) = 0 := by
    show pos (if m = m then 0 else c m) = 0
    rw [if_pos rfl]
    rfl
  rw [e1, e2] at u
  omega
section
variable {P C al n : Nat} {hid : Int32} {yg : Nat → Int32} {yr : Nat → Int64}
/-- the sets that wait, from place x on -/
def Qq (P C : Nat) (yw : Nat → Int64) (yh : Nat → Int32) : Nat → List (Nat × Int64) → Prop
  | _, [] => True
  | x, q :: Q => (yw x = q.2 ∧ yh x = nI q.1 ∧ 1 ≤ q.1 ∧ q.1 + cl (bt q.2) (C ^ P) ≤ 25 ∧ 1 ≤ cl (bt q.2) (C ^ P) ∧ SB q.2 (C ^ P)) ∧ Qq P C yw yh (x + 1) Q
def Vw (P C : Nat) : List (Nat × Int64) → Nat
  | [] => 0
  | q :: Q => max (q.1 + HF P C (25 - q.1) q.2 - 1) (Vw P C Q)
def Pw (P C : Nat) : List (Nat × Int64) → Nat
  | [] => 0
  | q :: Q => 2 * (cl (bt q.2) (C ^ P) - 1) + Pw P C Q
theorem Vw_app (P C : Nat) (q : Nat × Int64) : ∀ Q, Vw P C (Q ++ [q]) = max (Vw P C Q) (q.1 + HF P C (25 - q.1) q.2 - 1)
  | [] => by
    show max _ 0 = max 0 _
    omega
  | r :: Q => by
    show max _ (Vw P C (Q ++ [q])) = max (max _ (Vw P C Q)) _
    rw [Vw_app P C q Q]
    omega
theorem Pw_app (P C : Nat) (q : Nat × Int64) : ∀ Q, Pw P C (Q ++ [q]) = Pw P C Q + 2 * (cl (bt q.2) (C ^ P) - 1)
  | [] => by
    show _ + 0 = 0 + _
    omega
  | r :: Q => by
    show _ + Pw P C (Q ++ [q]) = _ + Pw P C Q + _
    rw [Pw_app P C q Q]
    omega
theorem Qq_frame {yw yw' : Nat → Int64} {yh yh' : Nat → Int32} : ∀ Q x, (∀ y, y < x + Q.length → yw' y = yw y ∧ yh' y = yh y) → Qq P C yw yh x Q → Qq P C yw' yh' x Q
  | [], _, _, _ => trivial
  | q :: Q, x, h, hq => by
    obtain ⟨⟨a1, a2, a3⟩, hq⟩ := hq
    have hx := h x (by simp only [List.length_cons]; omega)
    exact ⟨⟨hx.1.trans a1, hx.2.trans a2, a3⟩, Qq_frame Q (x + 1) (fun y hy => h y (by simp only [List.length_cons]; omega)) hq⟩
theorem Qq_app {yw : Nat → Int64} {yh : Nat → Int32} (q : Nat × Int64) : ∀ Q x, Qq P C yw yh x Q → Qq P C yw yh (x + Q.length) [q] → Qq P C yw yh x (Q ++ [q])
  | [], x, _, h => h
  | r :: Q, x, hq, h => by
    refine ⟨hq.1, Qq_app q Q (x + 1) hq.2 ?_⟩
    rw [List.length_cons] at h
    rw [show x + 1 + Q.length = x + (Q.length + 1) by omega]
    exact h
theorem t_need_in {g k x v6 d : Nat} {T : Int64} {v7 : Int32} {yw : Nat → Int64} {yh : Nat → Int32} (kL : Int32 → Int64 → (Nat → Int64) → (Nat → Int32) → Option (Int32 × (Nat → Int64) × (Nat → Int32))) (hG : GI P C al n hid yg) (hV : VG P C) (hR : C ^ P ≤ 64) (hL : Rl P C (C ^ P) yr) (hT : SB T (C ^ P)) (hg : g < C ^ P) (hk : k < C ^ P) (h1 : bt T k = true) (h2 : ∀ i, i < k → bt T i = false) (hx : x < 64) (hv : v6 < 64) (hd : yh x = nI d) : ∀ f j, j ≤ k → k - j < f → ∃ Tm, Hs Tm (pt P C T g (mk P C g k)) (C ^ P) ∧ pf_L_needed_L87 yg yr (nI x) (nI g) kL (nI v6) T yw yh f (nI j) = kL (nI (v6 + 1)) (T &&& (Tm ^^^ (-1))) (vp_updL yw v6 Tm) (upd yh v6 (nI (d + 1))) := by
  intro f
  induction f with
  | zero => intro j _ h; omega
  | succ f ih =>
    intro j h3 h4
    rw [pf_L_needed_L87.eq_2]
    have e4 := t_has T (r := j) (by omega)
    by_cases e : j = k
    · subst e
      rw [h1] at e4
      have e4 : pf_L_has T (nI j) = some (nI 1) := e4
      have e5 := t_pins hG hV hR hL hg hk
      have m8 := mk80 hV g j
      obtain ⟨Tm, x1, x2⟩ := t_part T hG hV hR hL hg m8
      refine ⟨Tm, x2, ?_⟩
      simp (disch := omega) only [g_lit, nI_add, pk_mul, pk_div, g_sdm, pk_sub, g_clamp, ile_t, ile_f, ilt_t, ilt_f, ieq_t, ieq_f, ieq_r, gi_t, gd_t, gz0, gz1, gl_x, ob0_some, ob1_some, ob2_some, ob3_some, ob4_some, ob5_some, ob6_some, ob7_some, ob8_some, ob9_some, ob10_some, ob11_some, ob12_some, ob13_some, e4, e5, x1, pk_uLs, hd]
    · rw [h2 j (by omega)] at e4
      have e4 : pf_L_has T (nI j) = some (nI 0) := e4
      obtain ⟨Tm, x2, x1⟩ := ih (j + 1) (by omega) (by omega)
      refine ⟨Tm, x2, ?_⟩
      simp (disch := omega) only [g_lit, nI_add, pk_mul, pk_div, g_sdm, pk_sub, g_clamp, ile_t, ile_f, ilt_t, ilt_f, ieq_t, ieq_f, ieq_r, gi_t, gd_t, gz0, gz1, gl_x, ob0_some, ob1_some, ob2_some, ob3_some, ob4_some, ob5_some, ob6_some, ob7_some, ob8_some, ob9_some, ob10_some, ob11_some, ob12_some, ob13_some, e4]
      exact x1
theorem t_need_c {g x d W : Nat} {v7 : Int32} (kL : Int32 → Int32 → Int32 → (Nat → Int64) → (Nat → Int32) → Option (Int32 × (Nat → Int64) × (Nat → Int32))) (hG : GI P C al n hid yg) (hV : VG P C) (hR : C ^ P ≤ 64) (hL : Rl P C (C ^ P) yr) (hg : g < C ^ P) (hx : x < 64) (hd : d ≤ 24) : ∀ f T Q v6 yw yh, SB T (C ^ P) → bt T g = false → (∀ m, cm P C T g m + d + 1 ≤ 25) → sm pos (cm P C T g) 81 < f → Qq P C yw yh (x + 1) Q → yh x = nI d → v6 = x + 1 + Q.length → v6 + Pw P C Q + 2 * cl (bt T) (C ^ P) ≤ 49 → W = max (Vw P C Q) (mx (fun m => if cm P C T g m = 0 then 0 else d + hfn P C (24 - d) (pt P C T g m)) (10 * P)) → ∃ v6' yw' yh' Q', pf_L_needed_L77 yg yr kL v7 (nI x) (nI g) f (nI v6) T yw yh = kL (nI v6') v7 (nI (x + 1)) yw' yh' ∧ Qq P C yw' yh' (x + 1) Q' ∧ v6' = x + 1 + Q'.length ∧ v6' + Pw P C Q' + sm pos (cm P C T g) 81 = v6 + Pw P C Q + 2 * cl (bt T) (C ^ P) ∧ Vw P C Q' = W := by
  intro f
  induction f with
  | zero => intro T Q v6 yw yh _ _ _ h; omega
  | succ f ih =>
    intro T Q v6 yw yh hT hTg hs hf hq hyh hv hb hW
    rw [pf_L_needed_L77.eq_2]
    by_cases q : T = 0
    · have hz : ∀ m, cm P C T g m = 0 := fun m => by
        apply cl_none
        intro i _
        unfold pt
        rw [q, bt_0, Bool.false_and]
      rw [if_pos (lg_eq0 q)]
      refine ⟨v6, yw, yh, Q, ?_, hq, hv, ?_, ?_⟩
      · rw [show nI x + 1 = nI (x + 1) from nI_add x 1]
      · rw [sm_none rfl 81 (fun m _ => hz m), (set_none hT).mp q]
      · rw [mx_zero _ (fun m _ => if_pos (hz m))] at hW
        omega
    · rw [if_neg (lg_ne0 q)]
      obtain ⟨k, hk, h5, h6⟩ := low_bit q
      have hkR := SB_lt hT h5
      obtain ⟨Tm, x1, x2⟩ := t_need_in (v7 := v7) (v6 := v6) (d := d) (yw := yw) (yh := yh) (fun v6 v10 yw yh => pf_L_needed_L77 yg yr kL v7 (nI x) (nI g) f v6 v10 yw yh) hG hV hR hL hT hg hkR h5 h6 hx (by omega) hyh 100000 0 (Nat.zero_le _) (by omega)
      obtain ⟨y1, y2, y3, y4⟩ := cm_off x1 hT
      have m8 := mk80 hV g k
      have hp := cm_pos (g := g) hkR h5
      have hP1 := hV.1
      have mlt : mk P C g k < 10 * P := by
        have h8 := mk_le (P := P) hV.2.2.1 hV.2.2.2.1 g k
        have h9 : mk P C g k ≠ 10 * P := fun z => by
          have := (mk_full hV.2.2.1 hV.2.2.2.1 hg hkR).mp z
          rw [this, h5] at hTg
          cases hTg
        omega
      have hxx : ∀ m, m ≠ mk P C g k → cm P C T g m = cm P C (T &&& (Tm ^^^ (-1))) g m := fun m hm => (y3 m hm).symm
      have u1 := sm_up (F := pos) hxx 81 (by omega)
      rw [y4] at u1
      have z1 : pos (cm P C T g (mk P C g k)) = 1 := if_neg (by omega)
      have z2 : pos 0 = 0 := rfl
      rw [z1, z2] at u1
      have hTm := pt_bt x1 hT
      have csz : cl (bt Tm) (C ^ P) = cm P C T g (mk P C g k) := by
        rw [hTm]
        rfl
      have csp : cl (bt T) (C ^ P) = cm P C T g (mk P C g k) + cl (bt (T &&& (Tm ^^^ (-1)))) (C ^ P) := by
        rw [cl_split (bt T) (fun x => mk P C g x = mk P C g k) (C ^ P)]
        congr 1
        apply cl_same
        intro i _
        rw [y2]
      have u3 := mx_up (c := fun m => if cm P C (T &&& (Tm ^^^ (-1))) g m = 0 then 0 else d + hfn P C (24 - d) (pt P C (T &&& (Tm ^^^ (-1))) g m)) (c' := fun m => if cm P C T g m = 0 then 0 else d + hfn P C (24 - d) (pt P C T g m)) (x := mk P C g k) (fun m hm => by
        show (if cm P C T g m = 0 then 0 else d + hfn P C (24 - d) (pt P C T g m)) = (if cm P C (T &&& (Tm ^^^ (-1))) g m = 0 then 0 else d + hfn P C (24 - d) (pt P C (T &&& (Tm ^^^ (-1))) g m))
        rw [y3 m hm, pt_off y2 hm]) (by
        show (if cm P C (T &&& (Tm ^^^ (-1))) g (mk P C g k) = 0 then 0 else _) ≤ _
        rw [if_pos y4]
        exact Nat.zero_le _) (10 * P) mlt
      have hsm := hs (mk P C g k)
      have vnew : Vw P C (Q ++ [(d + 1, Tm)]) = max (Vw P C Q) (d + hfn P C (24 - d) (pt P C T g (mk P C g k))) := by
        rw [Vw_app]
        congr 1
        show d + 1 + HF P C (25 - (d + 1)) Tm - 1 = _
        unfold HF
        rw [hTm]
        unfold hfn
        rw [show 25 - (d + 1) = 24 - d by omega]
        omega
      have pnew : Pw P C (Q ++ [(d + 1, Tm)]) = Pw P C Q + 2 * (cm P C T g (mk P C g k) - 1) := by
        rw [Pw_app]
        show Pw P C Q + 2 * (cl (bt Tm) (C ^ P) - 1) = _
        rw [csz]
      have qnew : Qq P C (vp_updL yw v6 Tm) (upd yh v6 (nI (d + 1))) (x + 1) (Q ++ [(d + 1, Tm)]) := by
        refine Qq_app _ Q (x + 1) (Qq_frame Q (x + 1) (fun y hy => ⟨pk_uLn (by omega), pk_un (by omega)⟩) hq) ?_
        rw [← hv]
        refine ⟨⟨pk_uLs, pk_us, by show 1 ≤ d + 1; omega, ?_, ?_, Hs_SB x1⟩, trivial⟩
        · show d + 1 + cl (bt Tm) (C ^ P) ≤ 25
          omega
        · show 1 ≤ cl (bt Tm) (C ^ P)
          omega
      obtain ⟨v6', yw', yh', Q', r1, r2, r3, r4, r5⟩ := ih (T &&& (Tm ^^^ (-1))) (Q ++ [(d + 1, Tm)]) (v6 + 1) (vp_updL yw v6 Tm) (upd yh v6 (nI (d + 1))) y1 (by rw [y2, hTg, Bool.false_and]) (fun m => by
        by_cases e : m = mk P C g k
        · rw [e, y4]
          omega
        · rw [y3 m e]
          exact hs m) (by omega) qnew ((pk_un (by omega)).trans hyh) (by rw [List.length_append, List.length_singleton]; omega) (by omega) (by
        rw [vnew, hW, u3]
        have e9 : (if cm P C T g (mk P C g k) = 0 then 0 else d + hfn P C (24 - d) (pt P C T g (mk P C g k))) = d + hfn P C (24 - d) (pt P C T g (mk P C g k)) := if_neg (by omega)
        rw [e9]
        omega)
      refine ⟨v6', yw', yh', Q', ?_, r2, r3, by omega, r5⟩
      refine x2.trans ?_
      exact r1
theorem mx_add {c : Nat → Nat} (d : Nat) (p : Nat → Bool) : ∀ M, max d (mx (fun m => if p m = true then 0 else d + c m) M) = d + mx (fun m => if p m = true then 0 else c m) M
  | 0 => by show max d 0 = d + 0; omega
  | M + 1 => by
    have ih := mx_add (c := c) d p M
    show max d (max (mx _ M) (if p M = true then 0 else d + c M)) = d + max (mx _ M) (if p M = true then 0 else c M)
    cases p M <;> simp <;> omega
theorem t_need_w (hG : GI P C al n hid yg) (hV : VG P C) (hR : C ^ P ≤ 64) (hL : Rl P C (C ^ P) yr) : ∀ f x Q v6 v7 yw yh, Qq P C yw yh x Q → v6 = x + Q.length → v6 + Pw P C Q ≤ 47 → v7 ≤ 25 → 64 - x < f → x ≤ 64 → ∃ yw' yh', pf_L_needed_L19 yg yr f (nI v6) (nI v7) (nI x) yw yh = some (nI (max v7 (Vw P C Q)), yw', yh') := by
  intro f
  induction f with
  | zero => intro x Q v6 v7 yw yh _ _ _ _ h; omega
  | succ f ih =>
    intro x Q v6 v7 yw yh hq hv hb h7 hf hx
    rw [pf_L_needed_L19.eq_2]
    cases Q with
    | nil =>
      have e : v6 = x := hv
      subst e
      refine ⟨yw, yh, ?_⟩
      rw [if_pos (nI_le (Nat.le_refl _) (by omega))]
      show some (nI v7, yw, yh) = some (nI (max v7 0), yw, yh)
      rw [Nat.max_eq_left (Nat.zero_le _)]
    | cons q Q =>
      obtain ⟨d, S⟩ := q
      obtain ⟨⟨a1, a2, a3, a4, a5, a6⟩, hq⟩ := hq
      have a1 : yw x = S := a1
      have a2 : yh x = nI d := a2
      have a3 : 1 ≤ d := a3
      have a4 : d + cl (bt S) (C ^ P) ≤ 25 := a4
      have a5 : 1 ≤ cl (bt S) (C ^ P) := a5
      have a6 : SB S (C ^ P) := a6
      have hb : v6 + (2 * (cl (bt S) (C ^ P) - 1) + Pw P C Q) ≤ 47 := hb
      rw [List.length_cons] at hv
      have hgl := gS_lt hV S
      have e1 : pf_L_best yg yr (yw (nI x).toNatClampNeg) 0 = some (nI (gS P C S)) := by
        rw [g_clamp (by omega), a1]
        exact t_best (w := 0) hG hV hR hL a6 (by omega)
      have hT : ∀ i, bt (S &&& (g_lsl 1 (nI (gS P C S)) ^^^ (-1))) i = (bt S i && decide (i ≠ gS P C S)) := by
        intro i
        rw [bt_andn]
        by_cases h : i < 64
        · rw [bt_sl (by omega) h]
          by_cases z : i = gS P C S <;> simp [z]
        · rw [bt_hi S (by omega), Bool.false_and, Bool.false_and]
      have hTS : SB (S &&& (g_lsl 1 (nI (gS P C S)) ^^^ (-1))) (C ^ P) := fun i hi => by rw [hT, a6 i hi, Bool.false_and]
      have hTg : bt (S &&& (g_lsl 1 (nI (gS P C S)) ^^^ (-1))) (gS P C S) = false := by rw [hT]; simp
      -- marks below ten times the places: the guess itself has no part in them
      have hpt : ∀ m, m < 10 * P → pt P C (S &&& (g_lsl 1 (nI (gS P C S)) ^^^ (-1))) (gS P C S) m = pt P C S (gS P C S) m := by
        intro m hm
        funext i
        unfold pt
        rw [hT]
        by_cases z : i = gS P C S
        · have z2 : ¬ mk P C (gS P C S) i = m := by
            rw [z, mk_self hV.2.2.1 hV.2.2.2.1]
            omega
          rw [decide_eq_false z2, Bool.and_false, Bool.and_false]
        · rw [decide_eq_true (show i ≠ gS P C S from z), Bool.and_true]
      have hcm : ∀ m, m < 10 * P → cm P C (S &&& (g_lsl 1 (nI (gS P C S)) ^^^ (-1))) (gS P C S) m = cm P C S (gS P C S) m := fun m hm => by
        unfold cm
        rw [hpt m hm]
      have hbig : ∀ m, 10 * P ≤ m → cm P C (S &&& (g_lsl 1 (nI (gS P C S)) ^^^ (-1))) (gS P C S) m = 0 := by
        intro m hm
        apply cl_none
        intro i hi
        unfold pt
        by_cases z : i = gS P C S
        · rw [z, hTg, Bool.false_and]
        · have z2 : ¬ mk P C (gS P C S) i = m := by
            have h8 := mk_le (P := P) hV.2.2.1 hV.2.2.2.1 (gS P C S) i
            intro z3
            have := (mk_full hV.2.2.1 hV.2.2.2.1 hgl hi).mp (by omega)
            exact z this.symm
          rw [decide_eq_false z2, Bool.and_false]
      have hP8 := hV.2.1
      have hsz : ∀ m, cm P C (S &&& (g_lsl 1 (nI (gS P C S)) ^^^ (-1))) (gS P C S) m + d + 1 ≤ 25 := by
        intro m
        by_cases z : m < 10 * P
        · rw [hcm m z]
          by_cases z2 : 2 ≤ cl (bt S) (C ^ P)
          · have := gS_small (m := m) hV z2 (by omega)
            omega
          · have h1 : cl (bt S) (C ^ P) = 1 := by omega
            have h2 := gS_one hV h1
            have h3 : cm P C S (gS P C S) m = 0 := by
              rw [← hcm m z]
              have h4 := cl_less (f := bt S) h2 hT (C ^ P)
              rw [if_pos hgl] at h4
              have h5 := cl_zero (C ^ P) (show cl (bt (S &&& (g_lsl 1 (nI (gS P C S)) ^^^ (-1)))) (C ^ P) = 0 by omega)
              apply cl_none
              intro i hi
              unfold pt
              rw [h5 i hi, Bool.false_and]
            omega
        · rw [hbig m (by omega)]
          omega
      -- the bound
      have hcl : (bt S (gS P C S) = true ∧ cl (bt (S &&& (g_lsl 1 (nI (gS P C S)) ^^^ (-1)))) (C ^ P) + 1 = cl (bt S) (C ^ P)) ∨ (bt S (gS P C S) = false ∧ cl (bt (S &&& (g_lsl 1 (nI (gS P C S)) ^^^ (-1)))) (C ^ P) = cl (bt S) (C ^ P) ∧ 2 ≤ sm pos (cm P C (S &&& (g_lsl 1 (nI (gS P C S)) ^^^ (-1))) (gS P C S)) 81) := by
        cases z : bt S (gS P C S)
        · refine Or.inr ⟨rfl, ?_, ?_⟩
          · apply cl_same
            intro i _
            rw [hT]
            by_cases z2 : i = gS P C S
            · rw [z2, z, Bool.false_and]
            · rw [decide_eq_true (show i ≠ gS P C S from z2), Bool.and_true]
          · have h2 : 2 ≤ cl (bt S) (C ^ P) := by
              apply Classical.byContradiction
              intro z2
              have := gS_one hV (show cl (bt S) (C ^ P) = 1 by omega)
              rw [z] at this
              cases this
            have hne : S ≠ 0 := fun z3 => by
              have := (set_none a6).mp z3
              omega
            obtain ⟨k, hk, h5, h6⟩ := low_bit hne
            have hkR := SB_lt a6 h5
            have m8 := mk80 hV (gS P C S) k
            have hs2 := gS_small (m := mk P C (gS P C S) k) hV h2 (by omega)
            have hsp := cl_split (bt S) (fun x => mk P C (gS P C S) x = mk P C (gS P C S) k) (C ^ P)
            have hex : ∃ j, j < C ^ P ∧ bt S j = true ∧ mk P C (gS P C S) j ≠ mk P C (gS P C S) k := by
              apply Classical.byContradiction
              intro z4
              have : cl (fun x => bt S x && decide (¬ mk P C (gS P C S) x = mk P C (gS P C S) k)) (C ^ P) = 0 := by
                apply cl_none
                intro i hi
                cases z5 : bt S i
                · rw [Bool.false_and]
                · by_cases z6 : mk P C (gS P C S) i = mk P C (gS P C S) k
                  · rw [decide_eq_false (fun z7 => z7 z6), Bool.and_false]
                  · exact absurd ⟨i, hi, z5, z6⟩ z4
              have hs3 : cl (fun x => bt S x && decide (mk P C (gS P C S) x = mk P C (gS P C S) k)) (C ^ P) ≤ cl (bt S) (C ^ P) - 1 := hs2
              omega
            obtain ⟨j, hj, j1, j2⟩ := hex
            have mlt : ∀ i, i < C ^ P → bt S i = true → mk P C (gS P C S) i < 10 * P := by
              intro i hi hbi
              have h8 := mk_le (P := P) hV.2.2.1 hV.2.2.2.1 (gS P C S) i
              have h9 : mk P C (gS P C S) i ≠ 10 * P := fun z8 => by
                have := (mk_full hV.2.2.1 hV.2.2.2.1 hgl hi).mp z8
                rw [← this, z] at hbi
                cases hbi
              omega
            have mk1 := mlt k hkR h5
            have mj1 := mlt j hj j1
            have mj8 := mk80 hV (gS P C S) j
            refine sm_pos2 (m := mk P C (gS P C S) j) (k := mk P C (gS P C S) k) (by omega) (by omega) j2 ?_ ?_
            · rw [hcm _ mj1]
              exact cm_pos hj j1
            · rw [hcm _ mk1]
              exact cm_pos hkR h5
        · have h4 := cl_less (f := bt S) z hT (C ^ P)
          rw [if_pos hgl] at h4
          exact Or.inl ⟨rfl, h4.symm⟩
      have hsm81 := sm_pos (cm P C (S &&& (g_lsl 1 (nI (gS P C S)) ^^^ (-1))) (gS P C S)) 81
      obtain ⟨v6', yw', yh', Q', r1, r2, r3, r4, r5⟩ := t_need_c (v7 := nI (max v7 d)) (W := _) (fun v6 v7 v8 yw yh => pf_L_needed_L19 yg yr f v6 v7 v8 yw yh) hG hV hR hL hgl (show x < 64 by omega) (show d ≤ 24 by omega) 100000 _ Q v6 yw yh hTS hTg hsz (by omega) hq a2 (by omega) (by omega) rfl
      have hb' : v6' + Pw P C Q' ≤ 47 := by omega
      obtain ⟨yw2, yh2, r6⟩ := ih (x + 1) Q' v6' (max v7 d) yw' yh' r2 r3 hb' (by omega) (by omega) (by omega)
      refine ⟨yw2, yh2, ?_⟩
      have e2 : (gi (nI x) 64 (gl (yw (nI x).toNatClampNeg &&& (g_lsl 1 (nI (gS P C S)) ^^^ -1)) fun v10_75 => pf_L_needed_L77 yg yr (fun v6 v7 v8 yw yh => pf_L_needed_L19 yg yr f v6 v7 v8 yw yh) (nI (max v7 d)) (nI x) (nI (gS P C S)) 100000 (nI v6) v10_75 yw yh)) = some (nI (max (max v7 d) (Vw P C Q')), yw2, yh2) := by
        rw [gi_t (by omega) (by omega), g_clamp (by omega), a1]
        exact r1.trans r6
      have e3 : max (max v7 d) (Vw P C Q') = max v7 (Vw P C ((d, S) :: Q)) := by
        rw [r5]
        show _ = max v7 (max (d + HF P C (25 - d) S - 1) (Vw P C Q))
        obtain ⟨t, ht⟩ : ∃ t, 25 - d = t + 1 := ⟨24 - d, by omega⟩
        have ht2 : 24 - d = t := by omega
        rw [ht, HF_eq hV a5, ht2]
        have h9 : ∀ M, M ≤ 10 * P → mx (fun m => if cm P C (S &&& (g_lsl 1 (nI (gS P C S)) ^^^ (-1))) (gS P C S) m = 0 then 0 else d + hfn P C t (pt P C (S &&& (g_lsl 1 (nI (gS P C S)) ^^^ (-1))) (gS P C S) m)) M = mx (fun m => if decide (cm P C S (gS P C S) m = 0) = true then 0 else d + hfn P C t (pt P C S (gS P C S) m)) M := by
          intro M hM
          apply mx_same
          intro m hm
          show (if cm P C (S &&& (g_lsl 1 (nI (gS P C S)) ^^^ (-1))) (gS P C S) m = 0 then 0 else d + hfn P C t (pt P C (S &&& (g_lsl 1 (nI (gS P C S)) ^^^ (-1))) (gS P C S) m)) = (if decide (cm P C S (gS P C S) m = 0) = true then 0 else d + hfn P C t (pt P C S (gS P C S) m))
          rw [hcm m (by omega), hpt m (by omega)]
          by_cases z : cm P C S (gS P C S) m = 0 <;> simp [z]
        have h10 : mx (fun m => if cm P C S (gS P C S) m = 0 then 0 else hfn P C t (pt P C S (gS P C S) m)) (10 * P) = mx (fun m => if decide (cm P C S (gS P C S) m = 0) = true then 0 else hfn P C t (pt P C S (gS P C S) m)) (10 * P) := by
          apply mx_same
          intro m _
          show _ = (if decide (cm P C S (gS P C S) m = 0) = true then 0 else _)
          by_cases z : cm P C S (gS P C S) m = 0 <;> simp [z]
        rw [h9 _ (Nat.le_refl _), h10]
        have h11 := mx_add (c := fun m => hfn P C t (pt P C S (gS P C S) m)) d (fun m => decide (cm P C S (gS P C S) m = 0)) (10 * P)
        omega
      rw [← e3]
      have n1 : ¬ nI v6 ≤ nI x := nI_ge (by omega) (by omega)
      rw [if_neg n1, gi_t (by omega) (by omega), e1, ob1_some, gi_t (by omega) (by omega), g_clamp (by omega), a2]
      by_cases z : d ≤ v7
      · rw [if_pos (nI_le z (by omega))]
        rw [Nat.max_eq_left z] at e2 ⊢
        exact e2
      · rw [if_neg (nI_ge (by omega) (by omega)), gi_t (by omega) (by omega)]
        rw [Nat.max_eq_right (by omega : v7 ≤ d)] at e2 ⊢
        exact e2
theorem t_need {S : Int64} (yw : Nat → Int64) (yh : Nat → Int32) (hG : GI P C al n hid yg) (hV : VG P C) (hR : C ^ P ≤ 64) (hL : Rl P C (C ^ P) yr) (hS : SB S (C ^ P)) (h1 : 1 ≤ cl (bt S) (C ^ P)) (h24 : cl (bt S) (C ^ P) ≤ 24) : ∃ yw' yh', pf_L_needed yg yw yh yr S = some (nI (hh P C 24 (cl (bt S) (C ^ P)) (rk (bt S) (C ^ P))), yw', yh') := by
  obtain ⟨yw', yh', r⟩ := t_need_w hG hV hR hL 100000 0 [(1, S)] 1 0 (vp_updL yw 0 S) (upd yh 0 (nI 1)) ⟨⟨pk_uLs, pk_us, Nat.le_refl 1, by show 1 + cl (bt S) (C ^ P) ≤ 25; omega, h1, hS⟩, trivial⟩ rfl (by show 1 + (2 * (cl (bt S) (C ^ P) - 1) + 0) ≤ 47; omega) (by omega) (by omega) (by omega)
  refine ⟨yw', yh', ?_⟩
  have e : max 0 (Vw P C [(1, S)]) = hh P C 24 (cl (bt S) (C ^ P)) (rk (bt S) (C ^ P)) := by
    show max 0 (max (1 + HF P C (25 - 1) S - 1) 0) = _
    have : HF P C (25 - 1) S = hh P C 24 (cl (bt S) (C ^ P)) (rk (bt S) (C ^ P)) := rfl
    omega
  rw [e] at r
  unfold pf_L_needed
  refine (gi_t (i := 0) (by omega) (by omega)).trans ?_
  refine (gi_t (i := 0) (by omega) (by omega)).trans ?_
  rw [k0]
  exact r
end

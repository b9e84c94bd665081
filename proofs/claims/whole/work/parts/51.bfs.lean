/-! how many guesses are needed: the reference's walk -/
abbrev Nd : Type := Nat × Nat × (Nat → Nat)
/-- the nodes that wait, from the place x on -/
def Qs (P C : Nat) (mset mfr mma mde : Nat → Int32) (v2 : Nat) : Nat → List Nd → Prop
  | _, [] => True
  | x, q :: Q => (∃ fr, mfr x = nI fr ∧ mma x = nI q.2.1 ∧ mde x = nI q.1 ∧ fr + q.2.1 ≤ v2 ∧ Sg P C mset fr q.2.1 q.2.2) ∧ (1 ≤ q.1 ∧ 1 ≤ q.2.1 ∧ q.2.1 + q.1 ≤ 25 ∧ As q.2.2 q.2.1) ∧ Qs P C mset mfr mma mde v2 (x + 1) Q
def Vq (P C : Nat) : List Nd → Nat
  | [] => 0
  | q :: Q => max (q.1 + hh P C (25 - q.1) q.2.1 q.2.2 - 1) (Vq P C Q)
def Pq : List Nd → Nat
  | [] => 0
  | q :: Q => q.2.1 * (24 - q.1) + Pq Q
theorem Vq_app (P C : Nat) (q : Nd) : ∀ Q, Vq P C (Q ++ [q]) = max (Vq P C Q) (q.1 + hh P C (25 - q.1) q.2.1 q.2.2 - 1)
  | [] => by
    show max _ 0 = max 0 _
    omega
  | r :: Q => by
    show max _ (Vq P C (Q ++ [q])) = max (max _ (Vq P C Q)) _
    rw [Vq_app P C q Q]
    omega
theorem Pq_app (q : Nd) : ∀ Q, Pq (Q ++ [q]) = Pq Q + q.2.1 * (24 - q.1)
  | [] => by
    show _ + 0 = 0 + _
    omega
  | r :: Q => by
    show _ + Pq (Q ++ [q]) = _ + Pq Q + _
    rw [Pq_app q Q]
    omega
/-- more room, more nodes, the old ones stand -/
theorem Qs_frame {P C : Nat} {mset mfr mma mde mset' mfr' mma' mde' : Nat → Int32} {v2 v2' : Nat} (h2 : v2 ≤ v2') (hm : ∀ p, p < v2 → mset' p = mset p) : ∀ Q x, (∀ y, y < x + Q.length → mfr' y = mfr y ∧ mma' y = mma y ∧ mde' y = mde y) → Qs P C mset mfr mma mde v2 x Q → Qs P C mset' mfr' mma' mde' v2' x Q
  | [], _, _, _ => trivial
  | q :: Q, x, hn, h => by
    obtain ⟨⟨fr, a1, a2, a3, a4, a5⟩, b, c⟩ := h
    obtain ⟨n1, n2, n3⟩ := hn x (by simp only [List.length_cons]; omega)
    refine ⟨⟨fr, by rw [n1, a1], by rw [n2, a2], by rw [n3, a3], by omega, fun i hi => ?_⟩, b, Qs_frame h2 hm Q (x + 1) (fun y hy => hn y (by simp only [List.length_cons]; omega)) c⟩
    rw [hm _ (by omega)]
    exact a5 i hi
theorem Qs_app {P C : Nat} {mset mfr mma mde : Nat → Int32} {v2 : Nat} (q : Nd) : ∀ Q x, Qs P C mset mfr mma mde v2 x Q → Qs P C mset mfr mma mde v2 (x + Q.length) [q] → Qs P C mset mfr mma mde v2 x (Q ++ [q])
  | [], _, _, h => h
  | r :: Q, x, h, hq => by
    obtain ⟨a, b, c⟩ := h
    refine ⟨a, b, Qs_app q Q (x + 1) c ?_⟩
    have e : x + 1 + Q.length = x + (r :: Q).length := by simp only [List.length_cons]; omega
    rw [e]
    exact hq
/-- one mark: the part is laid at the end of the set, and a node for it if it is not empty -/
theorem s_bpart {P C x g a s m v2 v3 d : Nat} {ls : Nat → Nat} {mfr mma mde : Nat → Int32} (kL : Int32 → Int32 → Int32 → (Nat → Int32) → (Nat → Int32) → (Nat → Int32) → (Nat → Int32) → (Nat → Int32) → Option (Int32 × Int32 × (Nat → Int32) × (Nat → Int32) × (Nat → Int32) × (Nat → Int32) × (Nat → Int32) × (Nat → Int32))) (hV : VG P C) (hg : g < C ^ P) (hm : m ≤ 80) (hsz : s ≤ 300) (hx : x < 700) (hd : d ≤ 25) (hfr : mfr x = nI a) (hma : mma x = nI s) (hde : mde x = nI d) (hav : a + s ≤ v2) (hv2 : v2 + ct (mz P C g ls) s m ≤ 2048) (hv3 : ct (mz P C g ls) s m ≠ 0 → v3 < 700) (hv3b : v3 ≤ 700) : ∀ f j mh mset, j ≤ s → s - j < f → Sg P C mset a s ls → Sg P C mset v2 (ct (mz P C g ls) j m) (fl ls (mz P C g ls) m j) → ∃ mh' mset', pf_X4_guessesNeeded_L144 (nI P) (nI C) (nI x) (nI g) kL (nI v3) (nI m) (nI v2) mfr mma mde f (nI (v2 + ct (mz P C g ls) j m)) (nI (a + j)) mh mset = (if ct (mz P C g ls) s m = 0 then kL (nI v2) (nI v3) (nI (m + 1)) mh' mset' mfr mma mde else kL (nI (v2 + ct (mz P C g ls) s m)) (nI (v3 + 1)) (nI (m + 1)) mh' mset' (upd mfr v3 (nI v2)) (upd mma v3 (nI (ct (mz P C g ls) s m))) (upd mde v3 (nI (d + 1)))) ∧ Sg P C mset' v2 (ct (mz P C g ls) s m) (fl ls (mz P C g ls) m s) ∧ ∀ p, p < v2 → mset' p = mset p := by
  intro f
  induction f with
  | zero => intro j _ _ _ h; omega
  | succ f ih =>
    intro j mh mset hj hf hS hT
    rw [pf_X4_guessesNeeded_L144.eq_2]
    have hcm := ct_mono (mz P C g ls) m hj
    by_cases q : j = s
    · subst q
      refine ⟨mh, mset, ?_, hT, fun p _ => rfl⟩
      by_cases h : ct (mz P C g ls) j m = 0
      · rw [if_pos h, h]
        simp (disch := omega) only [g_lit, nI_add, pk_mul, pk_div, g_sdm, pk_sub, g_clamp, ile_t, ile_f, ilt_t, ilt_f, ieq_t, ieq_f, ieq_r, gi_t, gd_t, gz0, gz1, gl_x, ob0_some, ob1_some, ob2_some, ob3_some, ob4_some, ob5_some, ob6_some, ob7_some, ob8_some, ob9_some, ob10_some, ob11_some, ob12_some, ob13_some, hfr, hma, Nat.add_zero, pf_X4_guessesNeeded_j246, pf_X4_guessesNeeded_j198, pf_X4_guessesNeeded_j115, pf_X4_guessesNeeded_j21, pf_X4_guessesNeeded_j16, pf_X4_guessesNeeded]
      · have h3 := hv3 h
        rw [if_neg h]
        have e : v2 + ct (mz P C g ls) j m - v2 = ct (mz P C g ls) j m := by omega
        simp (disch := omega) only [g_lit, nI_add, pk_mul, pk_div, g_sdm, pk_sub, g_clamp, ile_t, ile_f, ilt_t, ilt_f, ieq_t, ieq_f, ieq_r, gi_t, gd_t, gz0, gz1, gl_x, ob0_some, ob1_some, ob2_some, ob3_some, ob4_some, ob5_some, ob6_some, ob7_some, ob8_some, ob9_some, ob10_some, ob11_some, ob12_some, ob13_some, hfr, hma, hde, e, pf_X4_guessesNeeded_j246, pf_X4_guessesNeeded_j198, pf_X4_guessesNeeded_j115, pf_X4_guessesNeeded_j21, pf_X4_guessesNeeded_j16, pf_X4_guessesNeeded]
    · obtain ⟨e1, e2⟩ := hS j (by omega)
      obtain ⟨mh1, e3⟩ : ∃ mh', pf_X4_markOfRows (nI P) (nI C) mh (nI g) (nI (ls j)) = some (nI (mz P C g ls j), mh') := mor hV mh hg e2
      have b1 : mz P C g ls j ≤ 80 := mk80 hV g (ls j)
      by_cases h : mz P C g ls j = m
      · have h3 : ct (mz P C g ls) (j + 1) m = ct (mz P C g ls) j m + 1 := by simp only [ct]; rw [if_pos h]
        have h4 := ct_mono (mz P C g ls) m (by omega : j + 1 ≤ s)
        obtain ⟨mh2, sr', e4, hT', hF⟩ := ih (j + 1) mh1 (upd mset (v2 + ct (mz P C g ls) j m) (nI (ls j))) (by omega) (by omega) (fun i hi => by
          rw [pk_un (by omega)]
          exact hS i hi) (fun i hi => by
          rw [h3] at hi
          by_cases e : i = ct (mz P C g ls) j m
          · rw [e, pk_us]
            have : fl ls (mz P C g ls) m (j + 1) (ct (mz P C g ls) j m) = ls j := if_pos ⟨h, rfl⟩
            rw [this]
            exact ⟨rfl, e2⟩
          · rw [pk_un (by omega)]
            have : fl ls (mz P C g ls) m (j + 1) i = fl ls (mz P C g ls) m j i := by simp only [fl]; exact if_neg (fun z => e z.2)
            rw [this]
            exact hT i (by omega))
        refine ⟨mh2, sr', ?_, hT', fun p hp => ?_⟩
        · rw [← e4, h3]
          rw [h] at e3
          simp (disch := omega) only [g_lit, nI_add, pk_mul, pk_div, g_sdm, pk_sub, g_clamp, ile_t, ile_f, ilt_t, ilt_f, ieq_t, ieq_f, ieq_r, gi_t, gd_t, gz0, gz1, gl_x, ob0_some, ob1_some, ob2_some, ob3_some, ob4_some, ob5_some, ob6_some, ob7_some, ob8_some, ob9_some, ob10_some, ob11_some, ob12_some, ob13_some, hfr, hma, e1, e3, if_true, Nat.add_assoc, pf_X4_guessesNeeded_j246, pf_X4_guessesNeeded_j198, pf_X4_guessesNeeded_j115, pf_X4_guessesNeeded_j21, pf_X4_guessesNeeded_j16, pf_X4_guessesNeeded]
        · rw [hF p hp, pk_un (by omega)]
      · have h3 : ct (mz P C g ls) (j + 1) m = ct (mz P C g ls) j m := by simp only [ct]; rw [if_neg h]; rfl
        have h4 : fl ls (mz P C g ls) m (j + 1) = fl ls (mz P C g ls) m j := by
          funext i
          simp only [fl]
          exact if_neg (fun z => h z.1)
        obtain ⟨mh2, sr', e4, hT', hF⟩ := ih (j + 1) mh1 mset (by omega) (by omega) hS (by rw [h3, h4]; exact hT)
        refine ⟨mh2, sr', ?_, hT', hF⟩
        rw [← e4, h3]
        simp (disch := omega) only [g_lit, nI_add, pk_mul, pk_div, g_sdm, pk_sub, g_clamp, ile_t, ile_f, ilt_t, ilt_f, ieq_t, ieq_f, ieq_r, gi_t, gd_t, gz0, gz1, gl_x, ob0_some, ob1_some, ob2_some, ob3_some, ob4_some, ob5_some, ob6_some, ob7_some, ob8_some, ob9_some, ob10_some, ob11_some, ob12_some, ob13_some, hfr, hma, e1, e3, Nat.add_assoc, pf_X4_guessesNeeded_j246, pf_X4_guessesNeeded_j198, pf_X4_guessesNeeded_j115, pf_X4_guessesNeeded_j21, pf_X4_guessesNeeded_j16, pf_X4_guessesNeeded]
theorem sm_id_le (ms : Nat → Nat) (M : Nat) : ∀ s, sm (fun x => x) (ct ms s) M ≤ s
  | 0 => by
    have : ∀ M, sm (fun x => x) (ct ms 0) M = 0 := by
      intro M
      induction M with
      | zero => rfl
      | succ M ih => simp only [sm, ih]; rfl
    rw [this M]
    exact Nat.le_refl _
  | s + 1 => by
    have ih := sm_id_le ms M s
    by_cases h : ms s < M
    · have z := sm_up (F := fun x => x) (c := ct ms s) (c' := ct ms (s + 1)) (x := ms s) (fun m hm => ct_else hm) M h
      rw [ct_here] at z
      omega
    · rw [sm_same (c := ct ms s) M (fun m hm => ct_else (by omega))]
      omega
theorem gb_part {P C s m : Nat} {ls : Nat → Nat} (hV : VG P C) (h1 : 1 ≤ s) (hsz : s ≤ 300) (hA : As ls s) (hB : ∀ i, i < s → ls i < C ^ P) (hm : m < 10 * P) : ct (mz P C (gb P C s ls) ls) s m ≤ s - 1 := by
  have hP := hV.2.1
  by_cases q : s = 1
  · subst q
    rw [gb_one hV (hB 0 (by omega))]
    have e1 : mz P C (ls 0) ls 0 = 10 * P := (mk_full hV.2.2.1 hV.2.2.2.1 (hB 0 (by omega)) (hB 0 (by omega))).mpr rfl
    show 0 + (if mz P C (ls 0) ls 0 = m then 1 else 0) ≤ 0
    rw [if_neg (by omega)]
    exact Nat.le_refl _
  · exact gb_small hV (by omega) hsz hA hB (by omega)
theorem s_bmarks {P C x a s d V : Nat} {ls : Nat → Nat} {mza : Nat → Int32} (v4 : Int32) (kL : Int32 → Int32 → Int32 → Int32 → (Nat → Int32) → (Nat → Int32) → (Nat → Int32) → (Nat → Int32) → (Nat → Int32) → (Nat → Int32) → Option (Int32 × Int32 × (Nat → Int32) × (Nat → Int32) × (Nat → Int32) × (Nat → Int32) × (Nat → Int32) × (Nat → Int32))) (hV : VG P C) (h1 : 1 ≤ s) (hsd : s + d ≤ 25) (hA : As ls s) (hB : ∀ i, i < s → ls i < C ^ P) : ∀ f m v2 v3 W Q mh mset mfr mma mde, m ≤ 10 * P → 10 * P - m < f → mfr x = nI a → mma x = nI s → mde x = nI d → a + s ≤ v2 → Sg P C mset a s ls → v3 = x + 1 + Q.length → Qs P C mset mfr mma mde v2 (x + 1) Q → W + sm (fun x => x) (ct (mz P C (gb P C s ls) ls) s) m = s → v3 + Pq Q + W * (24 - d) ≤ 700 → v2 + Pq Q + W * (24 - d) ≤ 2048 → max d (Vq P C Q) = max (d + mx (fun m => if ct (mz P C (gb P C s ls) ls) s m = 0 then 0 else hh P C (25 - (d + 1)) (ct (mz P C (gb P C s ls) ls) s m) (fl ls (mz P C (gb P C s ls) ls) m s)) m) V → ∃ v2' v3' Q' mh' mset' mfr' mma' mde', pf_X4_guessesNeeded_L120 (nI P) (nI C) kL v4 (nI x) (nI (gb P C s ls)) mza f (nI v2) (nI v3) (nI m) mh mset mfr mma mde = kL (nI v2') (nI v3') v4 (nI (x + 1)) mh' mza mset' mfr' mma' mde' ∧ v3' = x + 1 + Q'.length ∧ Qs P C mset' mfr' mma' mde' v2' (x + 1) Q' ∧ v3' + Pq Q' ≤ 700 ∧ v2' + Pq Q' ≤ 2048 ∧ max d (Vq P C Q') = max (d + mx (fun m => if ct (mz P C (gb P C s ls) ls) s m = 0 then 0 else hh P C (25 - (d + 1)) (ct (mz P C (gb P C s ls) ls) s m) (fl ls (mz P C (gb P C s ls) ls) m s)) (10 * P)) V := by
  have hP := hV.2.1
  intro f
  induction f with
  | zero => intro m _ _ _ _ _ _ _ _ _ _ h; omega
  | succ f ih =>
    intro m v2 v3 W Q mh mset mfr mma mde hm hf hfr hma hde hav hS hv3 hQ hW hb3 hb2 hval
    rw [pf_X4_guessesNeeded_L120.eq_2]
    by_cases q : m = 10 * P
    · subst q
      refine ⟨v2, v3, Q, mh, mset, mfr, mma, mde, ?_, hv3, hQ, by omega, by omega, hval⟩
      simp (disch := omega) only [g_lit, nI_add, pk_mul, pk_div, g_sdm, pk_sub, g_clamp, ile_t, ile_f, ilt_t, ilt_f, ieq_t, ieq_f, ieq_r, gi_t, gd_t, gz0, gz1, gl_x, ob0_some, ob1_some, ob2_some, ob3_some, ob4_some, ob5_some, ob6_some, ob7_some, ob8_some, ob9_some, ob10_some, ob11_some, ob12_some, ob13_some]
    · have hg := gb_lt hV s ls
      have hN := gb_part hV h1 (by omega) hA hB (by omega : m < 10 * P)
      have hW1 := sm_id_le (mz P C (gb P C s ls) ls) (m + 1) s
      have hW2 : sm (fun x => x) (ct (mz P C (gb P C s ls) ls) s) (m + 1) = sm (fun x => x) (ct (mz P C (gb P C s ls) ls) s) m + ct (mz P C (gb P C s ls) ls) s m := rfl
      have hmxs : mx (fun m => if ct (mz P C (gb P C s ls) ls) s m = 0 then 0 else hh P C (25 - (d + 1)) (ct (mz P C (gb P C s ls) ls) s m) (fl ls (mz P C (gb P C s ls) ls) m s)) (m + 1) = max (mx (fun m => if ct (mz P C (gb P C s ls) ls) s m = 0 then 0 else hh P C (25 - (d + 1)) (ct (mz P C (gb P C s ls) ls) s m) (fl ls (mz P C (gb P C s ls) ls) m s)) m) (if ct (mz P C (gb P C s ls) ls) s m = 0 then 0 else hh P C (25 - (d + 1)) (ct (mz P C (gb P C s ls) ls) s m) (fl ls (mz P C (gb P C s ls) ls) m s)) := rfl
      have hcW : ct (mz P C (gb P C s ls) ls) s m ≤ W := by omega
      have eW : W * (24 - d) = (W - ct (mz P C (gb P C s ls) ls) s m) * (24 - d) + ct (mz P C (gb P C s ls) ls) s m * (24 - d) := by
        rw [← Nat.add_mul]
        congr 1
        omega
      have eC : ct (mz P C (gb P C s ls) ls) s m ≠ 0 → ct (mz P C (gb P C s ls) ls) s m * (24 - d) = ct (mz P C (gb P C s ls) ls) s m * (24 - (d + 1)) + ct (mz P C (gb P C s ls) ls) s m := fun z => by
        rw [show 24 - d = 24 - (d + 1) + 1 by omega, Nat.mul_add, Nat.mul_one]
      have hroom : v2 + ct (mz P C (gb P C s ls) ls) s m ≤ 2048 := by
        by_cases z : ct (mz P C (gb P C s ls) ls) s m = 0
        · omega
        · have := eC z
          omega
      obtain ⟨mh1, mset1, e1, hT, hF⟩ := s_bpart (x := x) (mfr := mfr) (mma := mma) (mde := mde) (v2 := v2) (v3 := v3) (d := d) (m := m) (fun v2 v3 v7 mh mset mfr mma mde => pf_X4_guessesNeeded_L120 (nI P) (nI C) kL v4 (nI x) (nI (gb P C s ls)) mza f v2 v3 v7 mh mset mfr mma mde) hV hg (by omega) (by omega) (by omega) (by omega) hfr hma hde hav hroom (fun z => by have := eC z; omega) (by omega) 100000 0 mh mset (Nat.zero_le _) (by omega) hS (fun i hi => absurd hi (Nat.not_lt_zero i))
      have e2 : pf_X4_guessesNeeded_L144 (nI P) (nI C) (nI x) (nI (gb P C s ls)) (fun v2 v3 v7 mh mset mfr mma mde => pf_X4_guessesNeeded_L120 (nI P) (nI C) kL v4 (nI x) (nI (gb P C s ls)) mza f v2 v3 v7 mh mset mfr mma mde) (nI v3) (nI m) (nI v2) mfr mma mde 100000 (nI v2) (nI a) mh mset = _ := e1
      clear e1
      generalize (100000 : Nat) = F at e2 ⊢
      have hS1 : Sg P C mset1 a s ls := fun i hi => by rw [hF _ (by omega)]; exact hS i hi
      by_cases z : ct (mz P C (gb P C s ls) ls) s m = 0
      · rw [if_pos z] at e2
        obtain ⟨v2', v3', Q', mh', mset', mfr', mma', mde', e3, r⟩ := ih (m + 1) v2 v3 W Q mh1 mset1 mfr mma mde (by omega) (by omega) hfr hma hde hav hS1 hv3 (Qs_frame (Nat.le_refl v2) hF Q (x + 1) (fun _ _ => ⟨rfl, rfl, rfl⟩) hQ) (by omega) hb3 hb2 (by rw [hmxs, if_pos z, hval]; omega)
        refine ⟨v2', v3', Q', mh', mset', mfr', mma', mde', ?_, r⟩
        rw [← e3, ← e2]
        simp (disch := omega) only [g_lit, nI_add, pk_mul, pk_div, g_sdm, pk_sub, g_clamp, ile_t, ile_f, ilt_t, ilt_f, ieq_t, ieq_f, ieq_r, gi_t, gd_t, gz0, gz1, gl_x, ob0_some, ob1_some, ob2_some, ob3_some, ob4_some, ob5_some, ob6_some, ob7_some, ob8_some, ob9_some, ob10_some, ob11_some, ob12_some, ob13_some, hfr]
      · rw [if_neg z] at e2
        have hz := eC z
        have fr : ∀ y, y < x + 1 + Q.length → upd mfr v3 (nI v2) y = mfr y ∧ upd mma v3 (nI (ct (mz P C (gb P C s ls) ls) s m)) y = mma y ∧ upd mde v3 (nI (d + 1)) y = mde y := fun y hy => ⟨pk_un (by omega), pk_un (by omega), pk_un (by omega)⟩
        have hpos := hh_pos P C (25 - (d + 1)) (ct (mz P C (gb P C s ls) ls) s m) (fl ls (mz P C (gb P C s ls) ls) m s)
        obtain ⟨v2', v3', Q', mh', mset', mfr', mma', mde', e3, r⟩ := ih (m + 1) (v2 + ct (mz P C (gb P C s ls) ls) s m) (v3 + 1) (W - ct (mz P C (gb P C s ls) ls) s m) (Q ++ [(d + 1, ct (mz P C (gb P C s ls) ls) s m, fl ls (mz P C (gb P C s ls) ls) m s)]) mh1 mset1 (upd mfr v3 (nI v2)) (upd mma v3 (nI (ct (mz P C (gb P C s ls) ls) s m))) (upd mde v3 (nI (d + 1))) (by omega) (by omega) (by rw [pk_un (by omega)]; exact hfr) (by rw [pk_un (by omega)]; exact hma) (by rw [pk_un (by omega)]; exact hde) (by omega) hS1 (by rw [List.length_append]; show v3 + 1 = x + 1 + (Q.length + 1); omega)
          (Qs_app _ Q (x + 1) (Qs_frame (Nat.le_add_right v2 _) hF Q (x + 1) fr hQ) ⟨⟨v2, by rw [← hv3]; exact pk_us, by rw [← hv3]; exact pk_us, by rw [← hv3]; exact pk_us, Nat.le_refl _, hT⟩, ⟨by show 1 ≤ d + 1; omega, by show 1 ≤ ct (mz P C (gb P C s ls) ls) s m; omega, by show ct (mz P C (gb P C s ls) ls) s m + (d + 1) ≤ 25; omega, As_fl hA⟩, trivial⟩)
          (by omega) (by rw [Pq_app]; show v3 + 1 + (Pq Q + ct (mz P C (gb P C s ls) ls) s m * (24 - (d + 1))) + _ ≤ 700; omega) (by rw [Pq_app]; show v2 + ct (mz P C (gb P C s ls) ls) s m + (Pq Q + ct (mz P C (gb P C s ls) ls) s m * (24 - (d + 1))) + _ ≤ 2048; omega)
          (by
            rw [Vq_app, hmxs, if_neg z]
            show max d (max (Vq P C Q) (d + 1 + hh P C (25 - (d + 1)) (ct (mz P C (gb P C s ls) ls) s m) (fl ls (mz P C (gb P C s ls) ls) m s) - 1)) = _
            omega)
        refine ⟨v2', v3', Q', mh', mset', mfr', mma', mde', ?_, r⟩
        rw [← e3, ← e2]
        simp (disch := omega) only [g_lit, nI_add, pk_mul, pk_div, g_sdm, pk_sub, g_clamp, ile_t, ile_f, ilt_t, ilt_f, ieq_t, ieq_f, ieq_r, gi_t, gd_t, gz0, gz1, gl_x, ob0_some, ob1_some, ob2_some, ob3_some, ob4_some, ob5_some, ob6_some, ob7_some, ob8_some, ob9_some, ob10_some, ob11_some, ob12_some, ob13_some, hfr]
theorem ob3_e {T1 T2 T3 α : Type} {x : Option (T1 × T2 × T3)} {a : T1} {b : T2} {c : T3} {k : T1 → T2 → T3 → Option α} (h : x = some (a, b, c)) : ob3 x k = k a b c := by
  rw [h]
  rfl
theorem s_bwalk {P C : Nat} (hV : VG P C) (th : Int32) : ∀ f x Q v2 v3 v4 mh mza mset mfr mma mde, Qs P C mset mfr mma mde v2 x Q → v3 = x + Q.length → v3 + Pq Q ≤ 700 → v2 + Pq Q ≤ 2048 → v4 ≤ 25 → 700 - x < f → ∃ mh' mza' mset' mfr' mma' mde', pf_X4_guessesNeeded_L64 (nI P) (nI C) (nI (C ^ P)) th f (nI v2) (nI v3) (nI v4) (nI x) mh mza mset mfr mma mde = some (nI (max v4 (Vq P C Q)), th, mh', mza', mset', mfr', mma', mde') := by
  intro f
  induction f with
  | zero => intro x Q v2 v3 v4 mh mza mset mfr mma mde _ _ _ _ _ h; omega
  | succ f ih =>
    intro x Q v2 v3 v4 mh mza mset mfr mma mde hQ hv3 hb3 hb2 hv4 hf
    rw [pf_X4_guessesNeeded_L64.eq_2]
    cases Q with
    | nil =>
      have e : v3 = x := hv3
      subst e
      refine ⟨mh, mza, mset, mfr, mma, mde, ?_⟩
      have e2 : max v4 (Vq P C []) = v4 := Nat.max_eq_left (Nat.zero_le _)
      rw [e2]
      simp (disch := omega) only [g_lit, nI_add, pk_mul, pk_div, g_sdm, pk_sub, g_clamp, ile_t, ile_f, ilt_t, ilt_f, ieq_t, ieq_f, ieq_r, gi_t, gd_t, gz0, gz1, gl_x, ob0_some, ob1_some, ob2_some, ob3_some, ob4_some, ob5_some, ob6_some, ob7_some, ob8_some, ob9_some, ob10_some, ob11_some, ob12_some, ob13_some]
    | cons q Q =>
      obtain ⟨d, s, ls⟩ := q
      obtain ⟨⟨a, n1, n2, n3, n4, hS⟩, ⟨c1, c2, c3, c4⟩, hQ2⟩ := hQ
      have n2 : mma x = nI s := n2
      have n3 : mde x = nI d := n3
      have n4 : a + s ≤ v2 := n4
      have hS : Sg P C mset a s ls := hS
      have c2 : 1 ≤ s := c2
      have c3 : s + d ≤ 25 := c3
      have c4 : As ls s := c4
      have hv3 : v3 = x + (Q.length + 1) := hv3
      have hb3 : v3 + (s * (24 - d) + Pq Q) ≤ 700 := hb3
      have hb2 : v2 + (s * (24 - d) + Pq Q) ≤ 2048 := hb2
      have hB : ∀ i, i < s → ls i < C ^ P := fun i hi => (hS i hi).2
      obtain ⟨mh1, mz1, e1⟩ := s_mbest (w := 0) mh mza hV (by omega) (by omega) (by omega) hS
      have e1 : pf_X4_best (nI P) (nI C) (nI (C ^ P)) mh mza mset (nI 0) (nI a) (nI s) = some (nI (gb P C s ls), mh1, mz1) := e1
      obtain ⟨v2', v3', Q', mh2, mset', mfr', mma', mde', e2, r1, r2, r3, r4, r5⟩ := s_bmarks (x := x) (a := a) (d := d) (mza := mz1) (V := max d (Vq P C Q)) (nI (max v4 d)) (fun v2 v3 v4 v5 mh mz mset mfr mma mde => pf_X4_guessesNeeded_L64 (nI P) (nI C) (nI (C ^ P)) th f v2 v3 v4 v5 mh mz mset mfr mma mde) hV c2 c3 c4 hB 100000 0 v2 v3 s Q mh1 mset mfr mma mde (Nat.zero_le _) (by have := hV.2.1; omega) n1 n2 n3 n4 hS (by omega) hQ2 rfl (by omega) (by omega) (by
        show max d (Vq P C Q) = max (d + 0) (max d (Vq P C Q))
        omega)
      have e3 := hh_eq (n := 25 - (d + 1)) hV c2 hB
      rw [show 25 - (d + 1) + 1 = 25 - d by omega] at e3
      obtain ⟨mh3, mz3, mset3, mfr3, mma3, mde3, e4⟩ := ih (x + 1) Q' v2' v3' (max v4 d) mh2 mz1 mset' mfr' mma' mde' r2 r1 r3 r4 (by omega) (by omega)
      refine ⟨mh3, mz3, mset3, mfr3, mma3, mde3, ?_⟩
      have e5 : max v4 (Vq P C ((d, s, ls) :: Q)) = max (max v4 d) (Vq P C Q') := by
        show max v4 (max (d + hh P C (25 - d) s ls - 1) (Vq P C Q)) = _
        rw [e3]
        omega
      rw [e5, ← e4]
      refine Eq.trans ?_ e2
      have g1 : ¬ nI v3 ≤ nI x := nI_ge (by omega) (by omega)
      have g2 : x < 700 := by omega
      have g3 : x < 2147483648 := by omega
      have g4 : (nI x).toNatClampNeg = x := g_clamp g3
      have e7 : pf_X4_best (nI P) (nI C) (nI (C ^ P)) mh mza mset (0 : Int32) (mfr (nI x).toNatClampNeg) (mma (nI x).toNatClampNeg) = some (nI (gb P C s ls), mh1, mz1) := by
        rw [g4, n1, n2]
        exact e1
      refine (if_neg g1).trans ?_
      refine (gi_t g2 g3).trans ?_
      refine (gi_t g2 g3).trans ?_
      refine (ob3_e e7).trans ?_
      refine (gi_t g2 g3).trans ?_
      rw [g4, n3]
      by_cases h : d ≤ v4
      · have e6 : max v4 d = v4 := by omega
        rw [e6]
        refine (if_pos (nI_le h (by omega))).trans ?_
        unfold pf_X4_guessesNeeded_j115
        generalize (100000 : Nat) = F
        rfl
      · have e6 : max v4 d = d := by omega
        rw [e6]
        refine (if_neg (nI_ge (by omega) (by omega))).trans ?_
        refine (gi_t g2 g3).trans ?_
        unfold pf_X4_guessesNeeded_j115
        generalize (100000 : Nat) = F
        rfl

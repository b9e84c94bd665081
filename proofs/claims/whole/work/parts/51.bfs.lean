/-! how many guesses are needed: the reference's walk -/
abbrev Nd : Type := Nat × Nat × (Nat → Nat)
/-- the nodes that wait, from the place x on -/
def Qs (P C : Nat) (mset mfr mma mde : Nat → Int32) (v2 : Nat) : Nat → List Nd → Prop
  | _, [] => True
  | x, q :: Q => (∃ fr, mfr x = nI fr ∧ mma x = nI q.2.1 ∧ mde x = nI q.1 ∧ fr + q.2.1 ≤ v2 ∧ Sg P C mset fr q.2.1 q.2.2) ∧ (1 ≤ q.1 ∧ 1 ≤ q.2.1 ∧ q.2.1 + q.1 ≤ 25 ∧ As q.2.2 q.2.1) ∧ Qs P C mset mfr mma mde v2 (x + 1) Q
def Vq (P C : Nat) : List Nd → Nat
  | [] => 0
  | q :: Q => max (q.1 + hh P C (25 - q.1) q.2.1 q.2.2 - 1) (Vq P C Q)
def Pq : List Nd → Nat
  | [] => 0
  | q :: Q => q.2.1 * (24 - q.1) + Pq Q
theorem Vq_app (P C : Nat) (q : Nd) : ∀ Q, Vq P C (Q ++ [q]) = max (Vq P C Q) (q.1 + hh P C (25 - q.1) q.2.1 q.2.2 - 1)
  | [] => by
    show max _ 0 = max 0 _
    omega
  | r :: Q => by
    show max _ (Vq P C (Q ++ [q])) = max (max _ (Vq P C Q)) _
    rw [Vq_app P C q Q]
    omega
theorem Pq_app (q : Nd) : ∀ Q, Pq (Q ++ [q]) = Pq Q + q.2.1 * (24 - q.1)
  | [] => by
    show _ + 0 = 0 + _
    omega
  | r :: Q => by
    show _ + Pq (Q ++ [q]) = _ + Pq Q + _
    rw [Pq_app q Q]
    omega
/-- more room, more nodes, the old ones stand -/
theorem Qs_frame {P C : Nat} {mset mfr mma mde mset' mfr' mma' mde' : Nat → Int32} {v2 v2' : Nat} (h2 : v2 ≤ v2') (hm : ∀ p, p < v2 → mset' p = mset p) : ∀ Q x, (∀ y, y < x + Q.length → mfr' y = mfr y ∧ mma' y = mma y ∧ mde' y = mde y) → Qs P C mset mfr mma mde v2 x Q → Qs P C mset' mfr' mma' mde' v2' x Q
  | [], _, _, _ => trivial
  | q :: Q, x, hn, h => by
    obtain ⟨⟨fr, a1, a2, a3, a4, a5⟩, b, c⟩ := h
    obtain ⟨n1, n2, n3⟩ := hn x (by simp only [List.length_cons]; omega)
    refine ⟨⟨fr, by rw [n1, a1], by rw [n2, a2], by rw [n3, a3], by omega, fun i hi => ?_⟩, b, Qs_frame h2 hm Q (x + 1) (fun y hy => hn y (by simp only [List.length_cons]; omega)) c⟩
    rw [hm _ (by omega)]
    exact a5 i hi
theorem Qs_app {P C : Nat} {mset mfr mma mde : Nat → Int32} {v2 : Nat} (q : Nd) : ∀ Q x, Qs P C mset mfr mma mde v2 x Q → Qs P C mset mfr mma mde v2 (x + Q.length) [q] → Qs P C mset mfr mma mde v2 x (Q ++ [q])
  | [], _, _, h => h
  | r :: Q, x, h, hq => by
    obtain ⟨a, b, c⟩ := h
    refine ⟨a, b, Qs_app q Q (x + 1) c ?_⟩
    have e : x + 1 + Q.length = x + (r :: Q).length := by simp only [List.length_cons]; omega
    rw [e]
    exact hq
/-- one mark: the part is laid at the end of the set, and a node for it if it is not empty -/
theorem s_bpart {P C x g a s m v2 v3 d : Nat} {ls : Nat → Nat} {mfr mma mde : Nat → Int32} (kL : Int32 → Int32 → Int32 → (Nat → Int32) → (Nat → Int32) → (Nat → Int32) → (Nat → Int32) → (Nat → Int32) → Option (Int32 × Int32 × (Nat → Int32) × (Nat → Int32) × (Nat → Int32) × (Nat → Int32) × (Nat → Int32) × (Nat → Int32))) (hV : VG P C) (hg : g < C ^ P) (hm : m ≤ 80) (hsz : s ≤ 300) (hx : x < 700) (hd : d ≤ 25) (hfr : mfr x = nI a) (hma : mma x = nI s) (hde : mde x = nI d) (hav : a + s ≤ v2) (hv2 : v2 + ct (mz P C g ls) s m ≤ 2048) (hv3 : ct (mz P C g ls) s m ≠ 0 → v3 < 700) (hv3b : v3 ≤ 700) : ∀ f j mh mset, j ≤ s → s - j < f → Sg P C mset a s ls → Sg P C mset v2 (ct (mz P C g ls) j m) (fl ls (mz P C g ls) m j) → ∃ mh' mset', pf_X4_guessesNeeded_L144 (nI P) (nI C) (nI x) (nI g) kL (nI v3) (nI m) (nI v2) mfr mma mde f (nI (v2 + ct (mz P C g ls) j m)) (nI (a + j)) mh mset = (if ct (mz P C g ls) s m = 0 then kL (nI v2) (nI v3) (nI (m + 1)) mh' mset' mfr mma mde else kL (nI (v2 + ct (mz P C g ls) s m)) (nI (v3 + 1)) (nI (m + 1)) mh' mset' (upd mfr v3 (nI v2)) (upd mma v3 (nI (ct (mz P C g ls) s m))) (upd mde v3 (nI (d + 1)))) ∧ Sg P C mset' v2 (ct (mz P C g ls) s m) (fl ls (mz P C g ls) m s) ∧ ∀ p, p < v2 → mset' p = mset p := by
  intro f
  induction f with
  | zero => intro j _ _ _ h; omega
  | succ f ih =>
    intro j mh mset hj hf hS hT
    rw [pf_X4_guessesNeeded_L144.eq_2]
    have hcm := ct_mono (mz P C g ls) m hj
    by_cases q : j = s
    · subst q
      refine ⟨mh, mset, ?_, hT, fun p _ => rfl⟩
      by_cases h : ct (mz P C g ls) j m = 0
      · rw [if_pos h, h]
        simp (disch := omega) only [g_lit, nI_add, pk_mul, pk_div, g_sdm, pk_sub, g_clamp, ile_t, ile_f, ilt_t, ilt_f, ieq_t, ieq_f, ieq_r, gi_t, gd_t, gz0, gz1, gl_x, ob0_some, ob1_some, ob2_some, ob3_some, ob4_some, ob5_some, ob6_some, ob7_some, ob8_some, ob9_some, ob10_some, ob11_some, ob12_some, ob13_some, hfr, hma, Nat.add_zero, pf_X4_guessesNeeded_j246, pf_X4_guessesNeeded_j198, pf_X4_guessesNeeded_j115, pf_X4_guessesNeeded_j21, pf_X4_guessesNeeded_j16, pf_X4_guessesNeeded]
      · have h3 := hv3 h
        rw [if_neg h]
        have e : v2 + ct (mz P C g ls) j m - v2 = ct (mz P C g ls) j m := by omega
        simp (disch := omega) only [g_lit, nI_add, pk_mul, pk_div, g_sdm, pk_sub, g_clamp, ile_t, ile_f, ilt_t, ilt_f, ieq_t, ieq_f, ieq_r, gi_t, gd_t, gz0, gz1, gl_x, ob0_some, ob1_some, ob2_some, ob3_some, ob4_some, ob5_some, ob6_some, ob7_some, ob8_some, ob9_some, ob10_some, ob11_some, ob12_some, ob13_some, hfr, hma, hde, e, pf_X4_guessesNeeded_j246, pf_X4_guessesNeeded_j198, pf_X4_guessesNeeded_j115, pf_X4_guessesNeeded_j21, pf_X4_guessesNeeded_j16, pf_X4_guessesNeeded]
    · obtain ⟨e1, e2⟩ := hS j (by omega)
      obtain ⟨mh1, e3⟩ : ∃ mh', pf_X4_markOfRows (nI P) (nI C) mh (nI g) (nI (ls j)) = some (nI (mz P C g ls j), mh') := mor hV mh hg e2
      have b1 : mz P C g ls j ≤ 80 := mk80 hV g (ls j)
      by_cases h : mz P C g ls j = m
      · have h3 : ct (mz P C g ls) (j + 1) m = ct (mz P C g ls) j m + 1 := by simp only [ct]; rw [if_pos h]
        have h4 := ct_mono (mz P C g ls) m (by omega : j + 1 ≤ s)
        obtain ⟨mh2, sr', e4, hT', hF⟩ := ih (j + 1) mh1 (upd mset (v2 + ct (mz P C g ls) j m) (nI (ls j))) (by omega) (by omega) (fun i hi => by
          rw [pk_un (by omega)]
          exact hS i hi) (fun i hi => by
          rw [h3] at hi
          by_cases e : i = ct (mz P C g ls) j m
          · rw [e, pk_us]
            have : fl ls (mz P C g ls) m (j + 1) (ct (mz P C g ls) j m) = ls j := if_pos ⟨h, rfl⟩
            rw [this]
            exact ⟨rfl, e2⟩
          · rw [pk_un (by omega)]
            have : fl ls (mz P C g ls) m (j + 1) i = fl ls (mz P C g ls) m j i := by simp only [fl]; exact if_neg (fun z => e z.2)
            rw [this]
            exact hT i (by omega))
        refine ⟨mh2, sr', ?_, hT', fun p hp => ?_⟩
        · rw [← e4, h3]
          rw [h] at e3
          simp (disch := omega) only [g_lit, nI_add, pk_mul, pk_div, g_sdm, pk_sub, g_clamp, ile_t, ile_f, ilt_t, ilt_f, ieq_t, ieq_f, ieq_r, gi_t, gd_t, gz0, gz1, gl_x, ob0_some, ob1_some, ob2_some, ob3_some, ob4_some, ob5_some, ob6_some, ob7_some, ob8_some, ob9_some, ob10_some, ob11_some, ob12_some, ob13_some, hfr, hma, e1, e3, if_true, Nat.add_assoc, pf_X4_guessesNeeded_j246, pf_X4_guessesNeeded_j198, pf_X4_guessesNeeded_j115, pf_X4_guessesNeeded_j21, pf_X4_guessesNeeded_j16, pf_X4_guessesNeeded]
        · rw [hF p hp, pk_un (by omega)]
      · have h3 : ct (mz P C g ls) (j + 1) m = ct (mz P C g ls) j m := by simp only [ct]; rw [if_neg h]; rfl
        have h4 : fl ls (mz P C g ls) m (j + 1) = fl ls (mz P C g ls) m j := by
          funext i
          simp only [fl]
          exact if_neg (fun z => h z.1)
        obtain ⟨mh2, sr', e4, hT', hF⟩ := ih (j + 1) mh1 mset (by omega) (by omega) hS (by rw [h3, h4]; exact hT)
        refine ⟨mh2, sr', ?_, hT', hF⟩
        rw [← e4, h3]
        simp (disch := omega) only [g_lit, nI_add, pk_mul, pk_div, g_sdm, pk_sub, g_clamp, ile_t, ile_f, ilt_t, ilt_f, ieq_t, ieq_f, ieq_r, gi_t, gd_t, gz0, gz1, gl_x, ob0_some, ob1_some, ob2_some, ob3_some, ob4_some, ob5_some, ob6_some, ob7_some, ob8_some, ob9_some, ob10_some, ob11_some, ob12_some, ob13_some, hfr, hma, e1, e3, Nat.add_assoc, pf_X4_guessesNeeded_j246, pf_X4_guessesNeeded_j198, pf_X4_guessesNeeded_j115, pf_X4_guessesNeeded_j21, pf_X4_guessesNeeded_j16, pf_X4_guessesNeeded]

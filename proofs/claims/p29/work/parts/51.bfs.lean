/-! how many guesses are needed: the reference's walk -/
abbrev Nd : Type := Nat × Nat × (Nat → Nat)
def Vq (P C : Nat) : List Nd → Nat
  | [] => 0
  | q :: Q => max (q.1 + hh P C (25 - q.1) q.2.1 q.2.2 - 1) (Vq P C Q)
def Pq : List Nd → Nat
  | [] => 0
  | q :: Q => q.2.1 * (24 - q.1) + Pq Q
theorem Vq_app (P C : Nat) (q : Nd) : ∀ Q, Vq P C (Q ++ [q]) = max (Vq P C Q) (q.1 + hh P C (25 - q.1) q.2.1 q.2.2 - 1)
  | [] => by
    show max _ 0 = max 0 _
    omega
  | r :: Q => by
    show max _ (Vq P C (Q ++ [q])) = max (max _ (Vq P C Q)) _
    rw [Vq_app P C q Q]
    omega
theorem Pq_app (q : Nd) : ∀ Q, Pq (Q ++ [q]) = Pq Q + q.2.1 * (24 - q.1)
  | [] => by
    show _ + 0 = 0 + _
    omega
  | r :: Q => by
    show _ + Pq (Q ++ [q]) = _ + Pq Q + _
    rw [Pq_app q Q]
    omega
theorem sm_id_le (ms : Nat → Nat) (M : Nat) : ∀ s, sm (fun x => x) (ct ms s) M ≤ s
  | 0 => by
    have : ∀ M, sm (fun x => x) (ct ms 0) M = 0 := by
      intro M
      induction M with
      | zero => rfl
      | succ M ih => simp only [sm, ih]; rfl
    rw [this M]
    exact Nat.le_refl _
  | s + 1 => by
    have ih := sm_id_le ms M s
    by_cases h : ms s < M
    · have z := sm_up (F := fun x => x) (c := ct ms s) (c' := ct ms (s + 1)) (x := ms s) (fun m hm => ct_else hm) M h
      rw [ct_here] at z
      omega
    · rw [sm_same (c := ct ms s) M (fun m hm => ct_else (by omega))]
      omega
theorem gb_part {P C s m : Nat} {ls : Nat → Nat} (hV : VG P C) (h1 : 1 ≤ s) (hsz : s ≤ 300) (hA : As ls s) (hB : ∀ i, i < s → ls i < C ^ P) (hm : m < 10 * P) : ct (mz P C (gb P C s ls) ls) s m ≤ s - 1 := by
  have hP := hV.2.1
  by_cases q : s = 1
  · subst q
    rw [gb_one hV (hB 0 (by omega))]
    have e1 : mz P C (ls 0) ls 0 = 10 * P := (mk_full hV.2.2.1 hV.2.2.2.1 (hB 0 (by omega)) (hB 0 (by omega))).mpr rfl
    show 0 + (if mz P C (ls 0) ls 0 = m then 1 else 0) ≤ 0
    rw [if_neg (by omega)]
    exact Nat.le_refl _
  · exact gb_small hV (by omega) hsz hA hB (by omega)
theorem ob3_e {T1 T2 T3 α : Type} {x : Option (T1 × T2 × T3)} {a : T1} {b : T2} {c : T3} {k : T1 → T2 → T3 → Option α} (h : x = some (a, b, c)) : ob3 x k = k a b c := by
  rw [h]
  rfl

/-! the reference: another path than then -/
theorem other_spec {a n1 n2 : Nat} (ha : a < 8) {s1 s2 : Nat → Nat} {M1 R1 M2 R2 : Nat → Int32} (h1 : n1 ≤ 8) (h2 : n2 ≤ 8) (l1 : M1 a = nI n1) (l2 : M2 a = nI n2) (r1 : ∀ k, k < n1 → s1 k < 8 ∧ R1 (8 * a + k) = nI (s1 k)) (r2 : ∀ k, k < n2 → s2 k < 8 ∧ R2 (8 * a + k) = nI (s2 k)) : P_M_isOther (nI a) M1 R1 R2 M2 ∧ ((f_M_isOther (nI a) M1 R1 R2 M2 = 0) ↔ (n1 = n2 ∧ ∀ k, k < n1 → s1 k = s2 k)) := by
  let P : Nat → Int32 → Prop := fun j v => (v = 0 ∧ n1 = n2 ∧ j ≤ n1 ∧ ∀ k, k < j → s1 k = s2 k) ∨ (v = 1 ∧ ¬ (n1 = n2 ∧ ∀ k, k < n1 → s1 k = s2 k))
  have i0 : P 0 (iF (M1 (nI a).toNatClampNeg = M2 (nI a).toNatClampNeg) 0 1) := by
    rw [cl (by omega), l1, l2]
    by_cases e : n1 = n2
    · rw [iF_pos (by rw [e])]; exact Or.inl ⟨rfl, e, by omega, fun k hk => by omega⟩
    · rw [iF_neg (nI_ne (by omega) (by omega) e)]; exact Or.inr ⟨rfl, fun q => e q.1⟩
  have stop : ∀ j v, j ≤ 9 → n1 ≤ j → b_M_isOther_1 M1 (nI a) R1 R2 (0 + j) v = .inr v := fun j v h9 hj => by
    unfold b_M_isOther_1
    rw [Nat.zero_add, cl (by omega), l1, iF_pos ((leN (by omega) (by omega)).mpr hj)]
  have step : ∀ j u u', j < 9 → P j u → b_M_isOther_1 M1 (nI a) R1 R2 (0 + j) u = .inl u' → P (j + 1) u' := fun j u u' h9 hu hf => by
    by_cases hj : n1 ≤ j
    · rw [stop j u (by omega) hj] at hf; cases hf
    · unfold b_M_isOther_1 at hf
      rw [Nat.zero_add, cl (by omega), l1, iF_neg (fun q => hj ((leN (by omega) (by omega)).mp q)), ix2 ha (by omega), cl (by omega)] at hf
      rcases hu with ⟨u0, e, u1, u2⟩ | ⟨u0, -⟩
      · rw [iF_pos u0, (r1 j (by omega)).2, (r2 j (by omega)).2] at hf
        have a1 := (r1 j (by omega)).1
        have a2 := (r2 j (by omega)).1
        cases hf
        by_cases q : s1 j = s2 j
        · rw [iF_pos (by rw [q])]
          refine Or.inl ⟨rfl, e, by omega, fun k hk => ?_⟩
          by_cases e' : k = j
          · rw [e']; exact q
          · exact u2 k (by omega)
        · rw [iF_neg (nI_ne (by omega) (by omega) q)]
          exact Or.inr ⟨rfl, fun c => q (c.2 j (by omega))⟩
      · rw [iF_neg (by rw [u0]; decide)] at hf; cases hf
  obtain ⟨i1, i2⟩ := forX_inv (f := b_M_isOther_1 M1 (nI a) R1 R2) (a := 0) (n := 9) P i0 step
  have hend := forX_end (f := b_M_isOther_1 M1 (nI a) R1 R2) (a := 0) (n := 9) (N := n1) P i0 step (by omega) (fun u hu => ⟨_, stop n1 u (by omega) (Nat.le_refl _)⟩)
  obtain ⟨z, hz⟩ := id hend
  obtain ⟨j, u, hj, hu, -, hfz⟩ := i2 z hz
  have hres : f_M_isOther (nI a) M1 R1 R2 M2 = z := by
    show unX (forX (b_M_isOther_1 M1 (nI a) R1 R2) 0 9 (iF (M1 (nI a).toNatClampNeg = M2 (nI a).toNatClampNeg) 0 1)) = z
    rw [hz]; rfl
  have fin : (z = 0 ∧ (n1 = n2 ∧ ∀ k, k < n1 → s1 k = s2 k)) ∨ (z = 1 ∧ ¬ (n1 = n2 ∧ ∀ k, k < n1 → s1 k = s2 k)) := by
    have zu : z = u := by
      unfold b_M_isOther_1 at hfz
      rcases iFrr hfz with ⟨-, q⟩ | ⟨-, hfz⟩
      · exact q.symm
      · by_cases c : u = 0
        · rw [iF_pos c] at hfz; cases hfz
        · rw [iF_neg c] at hfz; cases hfz; rfl
    subst zu
    rcases hu with ⟨u0, e, u1, u2⟩ | q
    · refine Or.inl ⟨u0, e, ?_⟩
      by_cases hj' : n1 ≤ j
      · exact fun k hk => u2 k (by omega)
      · exfalso
        unfold b_M_isOther_1 at hfz
        rw [Nat.zero_add, cl (by omega), l1, iF_neg (fun q => hj' ((leN (by omega) (by omega)).mp q)), iF_pos u0] at hfz
        cases hfz
    · exact Or.inr q
  refine ⟨⟨in8 ha, in8 ha, hend, fun q u hq hfq => ?_, ?_, trivial⟩, ?_⟩
  · rw [Nat.zero_add]
    unfold P_M_isOther_1
    rw [cl (by omega), l1]
    refine ⟨in8 ha, pif (fun _ => trivial) (fun c => ?_)⟩
    have c' : q < n1 := by
      rcases Nat.lt_or_ge q n1 with r | r
      · exact r
      · exact absurd ((leN (by omega) (by omega)).mpr r) c
    rw [ix2 ha (by omega)]
    exact pif (fun _ => ⟨in64 (by omega), in64 (by omega), trivial⟩) (fun _ => trivial)
  · have hres' : unX (forX (b_M_isOther_1 M1 (nI a) R1 R2) 0 9 (iF (M1 (nI a).toNatClampNeg = M2 (nI a).toNatClampNeg) 0 1)) = z := hres
    rw [hres']
    rcases fin with ⟨e, -⟩ | ⟨e, -⟩ <;> rw [e] <;> decide
  · rw [hres]
    rcases fin with ⟨e, q⟩ | ⟨e, q⟩
    · rw [e]; exact ⟨fun _ => q, fun _ => rfl⟩
    · rw [e]; exact ⟨fun c => absurd c (by decide), fun c => absurd c q⟩

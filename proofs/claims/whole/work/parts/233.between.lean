/-! the nodes between the ends of a route -/
theorem between_spec {L : Nat} {s : Nat → Nat} (hL : L ≤ 7) (s8 : ∀ k, k ≤ L → s k < 8) {rw : Nat → Int32} (hr : ∀ k, k ≤ L → rw k = nI (s k)) : P_Route_between (nI (L + 1)) rw ∧ ∀ x, x < 8 → (bt (f_Route_between (nI (L + 1)) rw) x = true ↔ (∃ k, 0 < k ∧ k < L ∧ s k = x) ∧ x ≠ s 0 ∧ x ≠ s L) := by
  let P : Nat → Int32 → Prop := fun q v => (q + 1 ≤ L ∨ q = 0) ∧ ∀ x, x < 8 → (bt v x = true ↔ ∃ k, 0 < k ∧ k ≤ q ∧ s k = x)
  have i0 : P 0 0 := ⟨Or.inr rfl, fun x hx => ⟨fun q => (by rw [b_0] at q; cases q), fun ⟨k, h1, h2, _⟩ => by omega⟩⟩
  have stop : ∀ q v, q ≤ 9 → L ≤ 1 + q → b_Route_between_1 (nI (L + 1)) rw (1 + q) v = .inr v := fun q v h9 hq => by
    unfold b_Route_between_1
    rw [nI_pred, iF_pos ((leN (by omega) (by omega)).mpr hq)]
  have go : ∀ q v, 1 + q < L → b_Route_between_1 (nI (L + 1)) rw (1 + q) v = .inl (v ||| f_C_bit (nI (s (1 + q)))) := fun q v hq => by
    unfold b_Route_between_1
    rw [nI_pred, iF_neg (fun c => by rw [leN (by omega) (by omega)] at c; omega), cl (by omega), hr (1 + q) (by omega)]
  have step : ∀ q u u', q < 9 → P q u → b_Route_between_1 (nI (L + 1)) rw (1 + q) u = .inl u' → P (q + 1) u' := fun q u u' h9 hu hf => by
    by_cases hq : 1 + q < L
    · rw [go q u hq] at hf
      cases hf
      refine ⟨Or.inl (by omega), fun x hx => ?_⟩
      rw [b_or, b_bit (s8 (1 + q) (by omega)), Bool.or_eq_true, hu.2 x hx, decide_eq_true_eq]
      constructor
      · rintro (⟨k, k1, k2, k3⟩ | e)
        · exact ⟨k, k1, by omega, k3⟩
        · exact ⟨1 + q, by omega, by omega, e.symm⟩
      · rintro ⟨k, k1, k2, k3⟩
        by_cases e : k = 1 + q
        · rw [e] at k3; exact Or.inr k3.symm
        · exact Or.inl ⟨k, k1, by omega, k3⟩
    · rw [stop q u (by omega) (by omega)] at hf; cases hf
  obtain ⟨i1, i2⟩ := forX_inv (f := b_Route_between_1 (nI (L + 1)) rw) (a := 1) (n := 9) P i0 step
  have hend := forX_end (f := b_Route_between_1 (nI (L + 1)) rw) (a := 1) (n := 9) (N := L - 1) P i0 step (by omega) (fun u hu => ⟨_, stop (L - 1) u (by omega) (by omega)⟩)
  obtain ⟨z, hz⟩ := id hend
  obtain ⟨q, u, hq, hu, -, hfz⟩ := i2 z hz
  have hzu : z = u ∧ L ≤ 1 + q := by
    by_cases c : 1 + q < L
    · rw [go q u c] at hfz; cases hfz
    · rw [stop q u (by omega) (by omega)] at hfz
      cases hfz; exact ⟨rfl, by omega⟩
  obtain ⟨rfl, hq'⟩ := hzu
  have r0 : P_Route_nodeAt 0 (nI (L + 1)) rw ∧ f_Route_nodeAt 0 (nI (L + 1)) rw = nI (s 0) := rnode_k hL hr (show 0 ≤ L by omega)
  obtain ⟨l1, l2⟩ := last_k hL hr
  refine ⟨⟨hend, fun q u hq hfq => ?_, r0.1, l1, trivial⟩, fun x hx => ?_⟩
  · unfold P_Route_between_1
    rw [nI_pred]
    exact pif (fun _ => trivial) (fun c => ⟨in8 (by
      rcases Nat.lt_or_ge (1 + q) 8 with r | r
      · exact r
      · exact absurd ((leN (by omega) (by omega)).mpr (by omega)) c), trivial⟩)
  · have e : f_Route_between (nI (L + 1)) rw = (z &&& (f_C_bit (nI (s 0)) ^^^ -1)) &&& (f_C_bit (nI (s L)) ^^^ -1) := by
      unfold f_Route_between
      rw [hz, r0.2, l2]; rfl
    rw [e, b_and, b_and, b_not _ (by omega), b_not _ (by omega), b_bit (s8 0 (by omega)), b_bit (s8 L (Nat.le_refl L)), Bool.and_eq_true, Bool.and_eq_true, hu.2 x hx, Bool.not_eq_true', Bool.not_eq_true', decide_eq_false_iff_not, decide_eq_false_iff_not]
    constructor
    · rintro ⟨⟨⟨k, k1, k2, k3⟩, h1⟩, h2⟩
      exact ⟨⟨k, k1, by have := hu.1; omega, k3⟩, h1, h2⟩
    · rintro ⟨⟨k, k1, k2, k3⟩, h1, h2⟩
      exact ⟨⟨⟨k, k1, by omega, k3⟩, h1⟩, h2⟩

theorem isBetween_spec {L x : Nat} {s : Nat → Nat} (hL : L ≤ 7) (hx : x < 8) (s8 : ∀ k, k ≤ L → s k < 8) {rt : Nat → Int32} (hr : ∀ k, k ≤ L → rt k = nI (s k)) : P_M_isBetween (nI x) (nI (L + 1)) rt ∧ ((f_M_isBetween (nI x) (nI (L + 1)) rt = 0) ↔ ¬ ((∃ k, 0 < k ∧ k < L ∧ s k = x) ∧ x ≠ s 0 ∧ x ≠ s L)) := by
  let P : Nat → Int32 → Prop := fun q v => (q + 1 ≤ L ∨ q = 0) ∧ ((v = 0 ∧ ∀ k, 0 < k → k ≤ q → s k ≠ x) ∨ (v = 1 ∧ ∃ k, 0 < k ∧ k ≤ q ∧ s k = x))
  have i0 : P 0 0 := ⟨Or.inr rfl, Or.inl ⟨rfl, fun k h1 h2 => by omega⟩⟩
  have cnd : ∀ q, q ≤ 9 → ((nI (L + 1) ≤ nI (1 + q) + 1) ↔ L ≤ 1 + q) := fun q h9 => by
    rw [nI_1, leN (by omega) (by omega)]; omega
  have stop : ∀ q v, q ≤ 9 → L ≤ 1 + q → b_M_isBetween_1 (nI (L + 1)) rt (nI x) (1 + q) v = .inr v := fun q v h9 hq => by
    unfold b_M_isBetween_1
    rw [iF_pos ((cnd q h9).mpr hq)]
  have go : ∀ q v, 1 + q < L → b_M_isBetween_1 (nI (L + 1)) rt (nI x) (1 + q) v = .inl (iF (v = 0) (iF (s (1 + q) = x) 1 0) 1) := fun q v hq => by
    unfold b_M_isBetween_1
    have := s8 (1 + q) (by omega)
    rw [iF_neg (fun c => by have := (cnd q (by omega)).mp c; omega), cl (by omega), hr (1 + q) (by omega), iF_c (nI_eq (show s (1 + q) < 2 ^ 31 by omega) (show x < 2 ^ 31 by omega))]
  have step : ∀ q u u', q < 9 → P q u → b_M_isBetween_1 (nI (L + 1)) rt (nI x) (1 + q) u = .inl u' → P (q + 1) u' := fun q u u' h9 hu hf => by
    by_cases hq : 1 + q < L
    · rw [go q u hq] at hf
      cases hf
      refine ⟨Or.inl (by omega), ?_⟩
      rcases hu.2 with ⟨u0, un⟩ | ⟨u1, k, k1, k2, k3⟩
      · rw [iF_pos u0]
        by_cases c : s (1 + q) = x
        · rw [iF_pos c]; exact Or.inr ⟨rfl, 1 + q, by omega, by omega, c⟩
        · rw [iF_neg c]
          refine Or.inl ⟨rfl, fun k h1 h2 => ?_⟩
          by_cases e : k = 1 + q
          · rw [e]; exact c
          · exact un k h1 (by omega)
      · rw [iF_neg (by rw [u1]; decide)]; exact Or.inr ⟨rfl, k, k1, by omega, k3⟩
    · rw [stop q u (by omega) (by omega)] at hf; cases hf
  obtain ⟨i1, i2⟩ := forX_inv (f := b_M_isBetween_1 (nI (L + 1)) rt (nI x)) (a := 1) (n := 9) P i0 step
  have hend := forX_end (f := b_M_isBetween_1 (nI (L + 1)) rt (nI x)) (a := 1) (n := 9) (N := L - 1) P i0 step (by omega) (fun u hu => ⟨_, stop (L - 1) u (by omega) (by omega)⟩)
  obtain ⟨z, hz⟩ := id hend
  obtain ⟨q, u, hq, hu, -, hfz⟩ := i2 z hz
  have hzu : z = u ∧ L ≤ 1 + q := by
    by_cases c : 1 + q < L
    · rw [go q u c] at hfz; cases hfz
    · rw [stop q u (by omega) (by omega)] at hfz
      cases hfz; exact ⟨rfl, by omega⟩
  obtain ⟨rfl, hq'⟩ := hzu
  have hres : unX (forX (b_M_isBetween_1 (nI (L + 1)) rt (nI x)) 1 9 0) = z := by rw [hz]; rfl
  have e0 : rt (0 : Int32).toNatClampNeg = nI (s 0) := by
    rw [show (0 : Int32).toNatClampNeg = 0 by decide, hr 0 (by omega)]
  have a0 := s8 0 (by omega)
  have aL := s8 L (Nat.le_refl L)
  unfold P_M_isBetween f_M_isBetween
  rw [hres, nI_pred, cl (by omega), e0, hr L (Nat.le_refl L)]
  refine ⟨⟨hend, fun q u hq hfq => ?_, pif (fun _ => trivial) (fun _ => pif (fun _ => trivial) (fun _ => ⟨in1024 (by omega), trivial⟩))⟩, ?_⟩
  · exact pif (fun _ => trivial) (fun _ => pif (fun _ => ⟨in1024 (by omega), trivial⟩) (fun _ => trivial))
  · rw [iF_c (nI_eq (show x < 2 ^ 31 by omega) (show s 0 < 2 ^ 31 by omega)), iF_c (nI_eq (show x < 2 ^ 31 by omega) (show s L < 2 ^ 31 by omega))]
    rcases hu.2 with ⟨z0, zn⟩ | ⟨z1, k, k1, k2, k3⟩
    · rw [iF_pos z0]
      exact ⟨fun _ q => by obtain ⟨⟨k, h1, h2, h3⟩, -⟩ := q; exact zn k h1 (by omega) h3, fun _ => rfl⟩
    · rw [iF_neg (by rw [z1]; decide)]
      have hk : ∃ k, 0 < k ∧ k < L ∧ s k = x := ⟨k, k1, by have := hu.1; omega, k3⟩
      by_cases c1 : x = s 0
      · rw [iF_pos c1]; exact ⟨fun _ q => q.2.1 c1, fun _ => rfl⟩
      · rw [iF_neg c1]
        by_cases c2 : x = s L
        · rw [iF_pos c2]; exact ⟨fun _ q => q.2.2 c2, fun _ => rfl⟩
        · rw [iF_neg c2]; exact ⟨fun q => absurd q (by decide), fun q => absurd ⟨hk, c1, c2⟩ q⟩

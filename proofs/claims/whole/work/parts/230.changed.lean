/-! changed: two meshes, each with its paths laid both ways -/
section M
variable {up1 up2 : Int32} {nm1 lk1 nm2 lk2 len1 row1 pl1 M1 R1 len2 row2 pl2 M2 R2 : Nat → Int32}
/-- what a laid path is, both ways: how many, which -/
theorem lay_nodes {up : Int32} {nm lk len row pl M R : Nat → Int32} (h : CR up nm lk len row pl M R) {a : Nat} (ha : a < 8) : ∃ (n : Nat) (s : Nat → Nat), n ≤ 8 ∧ len a = nI n ∧ M a = nI n ∧ ∀ k, k < n → s k < 8 ∧ row (8 * a + k) = nI (s k) ∧ R (8 * a + k) = nI (s k) := by
  rcases both (h.1 a ha) (h.2 a ha) with ⟨-, h2, h3⟩ | ⟨e, -, -, -, h8, h5, h6, h7, h9, -⟩
  · exact ⟨0, fun _ => 0, by omega, h2, h3, fun k hk => by omega⟩
  · have m8 := mD_8 h8
    exact ⟨mD up lk a e + 1, sq up lk a e, by omega, h5, h6, fun k hk => ⟨(sq_spec ha h8 k (by omega)).1, h7 k (by omega), h9 k (by omega)⟩⟩
theorem nodeAt_n {a n : Nat} (ha : a < 8) {s : Nat → Nat} {len row : Nat → Int32} (hn : n ≤ 8) (hl : len a = nI n) (hs : ∀ k, k < n → row (8 * a + k) = nI (s k)) {k : Nat} (hk : k < n) : P_Paths_nodeAt (nI a) (nI k) len row ∧ f_Paths_nodeAt (nI a) (nI k) len row = nI (s k) := by
  unfold P_Paths_nodeAt f_Paths_nodeAt
  have c1 : ¬ nI k < 0 := nI_n0 (by omega)
  have c2 : ¬ nI n ≤ nI k := fun q => by rw [leN (by omega) (by omega)] at q; omega
  rw [cl (by omega), hl, iF_neg c1, iF_neg c2, ix1 ha (by omega), cl (by omega), hs k hk]
  exact ⟨pif (fun _ => trivial) (fun _ => ⟨in8 ha, pif (fun _ => trivial) (fun _ => ⟨in64 (by omega), trivial⟩)⟩), rfl⟩
theorem alike_spec {a n1 n2 : Nat} (ha : a < 8) {s1 s2 : Nat → Nat} (h1 : n1 ≤ 8) (h2 : n2 ≤ 8) (l1 : len1 a = nI n1) (l2 : len2 a = nI n2) (r1 : ∀ k, k < n1 → s1 k < 8 ∧ row1 (8 * a + k) = nI (s1 k)) (r2 : ∀ k, k < n2 → s2 k < 8 ∧ row2 (8 * a + k) = nI (s2 k)) : P_Paths_isLaidAlike (nI a) len1 len2 row1 row2 ∧ ((f_Paths_isLaidAlike (nI a) len1 len2 row1 row2 = 0) ↔ ¬ (n1 = n2 ∧ ∀ k, k < n1 → s1 k = s2 k)) := by
  unfold P_Paths_isLaidAlike f_Paths_isLaidAlike
  rw [cl (by omega), l1, l2]
  by_cases e : n1 = n2
  · subst e
    let P : Nat → Unit → Prop := fun j _ => j ≤ n1 ∧ ∀ k, k < j → s1 k = s2 k
    have i0 : P 0 () := ⟨by omega, fun k hk => by omega⟩
    have stop : ∀ j u, j ≤ 9 → n1 ≤ j → b_Paths_isLaidAlike_1 len1 (nI a) row1 len2 row2 (0 + j) u = .inr 1 := fun j u h9 hj => by
      unfold b_Paths_isLaidAlike_1
      rw [Nat.zero_add, cl (by omega), l1, iF_pos ((leN (by omega) (by omega)).mpr hj)]
    have go : ∀ j u, j < n1 → b_Paths_isLaidAlike_1 len1 (nI a) row1 len2 row2 (0 + j) u = if s1 j = s2 j then .inl () else .inr 0 := fun j u hj => by
      unfold b_Paths_isLaidAlike_1
      rw [Nat.zero_add, cl (by omega), l1, iF_neg (fun q => by rw [leN (by omega) (by omega)] at q; omega), (nodeAt_n ha h1 l1 (fun k hk => (r1 k hk).2) hj).2, (nodeAt_n ha h2 l2 (fun k hk => (r2 k hk).2) hj).2]
      by_cases q : s1 j = s2 j
      · rw [iF_pos (by rw [q]), if_pos q]
      · rw [iF_neg (nI_ne (by have := (r1 j hj).1; omega) (by have := (r2 j hj).1; omega) q), if_neg q]
    have step : ∀ j u u', j < 9 → P j u → b_Paths_isLaidAlike_1 len1 (nI a) row1 len2 row2 (0 + j) u = .inl u' → P (j + 1) u' := fun j u u' h9 hu hf => by
      by_cases hj : j < n1
      · rw [go j u hj] at hf
        by_cases q : s1 j = s2 j
        · refine ⟨by omega, fun k hk => ?_⟩
          by_cases e : k = j
          · rw [e]; exact q
          · exact hu.2 k (by omega)
        · rw [if_neg q] at hf; cases hf
      · rw [stop j u (by omega) (by omega)] at hf; cases hf
    obtain ⟨i1, i2⟩ := forX_inv (f := b_Paths_isLaidAlike_1 len1 (nI a) row1 len2 row2) (a := 0) (n := 9) (v := ()) P i0 step
    have hend := forX_end (f := b_Paths_isLaidAlike_1 len1 (nI a) row1 len2 row2) (a := 0) (n := 9) (N := n1) (v := ()) P i0 step (by omega) (fun u hu => ⟨_, stop n1 u (by omega) (Nat.le_refl _)⟩)
    obtain ⟨z, hz⟩ := id hend
    obtain ⟨j, u, hj, hu, -, hfz⟩ := i2 z hz
    refine ⟨⟨in8 ha, in8 ha, pif (fun _ => ⟨hend, fun q u hq hfq => ?_, trivial⟩) (fun _ => trivial)⟩, ?_⟩
    · rw [Nat.zero_add]
      unfold P_Paths_isLaidAlike_1
      rw [cl (by omega), l1]
      refine ⟨in8 ha, pif (fun _ => trivial) (fun c => ?_)⟩
      have c' : q < n1 := by
        rcases Nat.lt_or_ge q n1 with r | r
        · exact r
        · exact absurd ((leN (by omega) (by omega)).mpr r) c
      exact ⟨(nodeAt_n ha h1 l1 (fun k hk => (r1 k hk).2) c').1, (nodeAt_n ha h2 l2 (fun k hk => (r2 k hk).2) c').1, trivial⟩
    · rw [iF_pos rfl, hz]
      show z = 0 ↔ _
      by_cases hj' : j < n1
      · rw [go j u hj'] at hfz
        by_cases q : s1 j = s2 j
        · rw [if_pos q] at hfz; cases hfz
        · rw [if_neg q] at hfz
          cases hfz
          exact ⟨fun _ c => q (c.2 j hj'), fun _ => rfl⟩
      · rw [stop j u (by omega) (by omega)] at hfz
        cases hfz
        exact ⟨fun q => absurd q (by decide), fun q => absurd ⟨rfl, fun k hk => hu.2 k (by omega)⟩ q⟩
  · have ne : ¬ nI n1 = nI n2 := nI_ne (by omega) (by omega) e
    rw [iF_neg ne]
    exact ⟨⟨in8 ha, in8 ha, pif (fun q => absurd q ne) (fun _ => trivial)⟩, ⟨fun _ q => e q.1, fun _ => rfl⟩⟩
end M

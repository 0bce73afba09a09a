/-! both lay the same route -/
section M
variable {up : Int32} {nm lk st len row pl M R N nx : Nat → Int32}
theorem follow_spec {x : Nat} {n L : Nat} {s : Nat → Nat} (hn : n < 8) (hL : L ≤ 7) (hT : RT up lk (fun n => (f_Route_hopFrom (nI n) (nI x) pl len nm row nx).1) n L s) (hP : ∀ n, mU up n → P_Route_hopFrom (nI n) (nI x) pl len nm row nx) (rw0 : Nat → Int32) (br fl hop : Int32) : P_Route_follow (nI n) (nI x) pl len nm row nx rw0 br fl hop ∧ (f_Route_follow (nI n) (nI x) pl len nm row nx rw0 br fl hop).2.1 = nI (L + 1) ∧ ∀ k, k ≤ L → (f_Route_follow (nI n) (nI x) pl len nm row nx rw0 br fl hop).1 k = nI (s k) := by
  obtain ⟨t1, t2, t3, t4⟩ := hT
  let P : Nat → (Int32 × (Nat → Int32) × Int32 × Int32 × Int32 × Int32) → Prop := fun j v => j ≤ L + 1 ∧ v.1 = (if j ≤ L then nI (s j) else -6) ∧ (∀ k, k < j → v.2.1 k = nI (s k)) ∧ v.2.2.1 = nI j
  have i0 : P 0 (nI n, rw0, 0, br, fl, hop) := ⟨by omega, by rw [if_pos (by omega), t1], fun k hk => by omega, rfl⟩
  have stop : ∀ u, P (L + 1) u → b_Route_follow_1 (nI x) pl len nm row nx (0 + (L + 1)) u = .inr u := fun u hu => by
    rw [Nat.zero_add]
    unfold b_Route_follow_1
    have h2 := hu.2.1
    rw [if_neg (by omega)] at h2
    by_cases c : (8 : Int32) ≤ nI (L + 1)
    · rw [iF_pos c]
    · rw [iF_neg c, iF_pos (by rw [h2]; exact isNode_m6)]
  have go : ∀ j u, j ≤ L → P j u → ¬ (8 : Int32) ≤ nI j ∧ u.1 = nI (s j) ∧ ¬ f_C_isNode u.1 = 0 := fun j u hj hu => by
    have h2 := hu.2.1
    rw [if_pos hj] at h2
    exact ⟨fun c => by rw [le8 (by omega)] at c; omega, h2, by rw [h2]; exact isNode_1 (t2 j hj).1⟩
  have step : ∀ j u u', j < 9 → P j u → b_Route_follow_1 (nI x) pl len nm row nx (0 + j) u = .inl u' → P (j + 1) u' := fun j u u' hj9 hu hf => by
    by_cases hj : j ≤ L
    · obtain ⟨g1, g2, g3⟩ := go j u hj hu
      rw [Nat.zero_add] at hf
      unfold b_Route_follow_1 at hf
      rw [iF_neg g1, iF_neg g3, g2] at hf
      cases hf
      refine ⟨by omega, ?_, fun k hk => ?_, ?_⟩
      · show (f_Route_hopFrom (nI (s j)) (nI x) pl len nm row nx).1 = _
        by_cases c : j + 1 ≤ L
        · rw [if_pos c]; exact (t3 j (by omega)).1
        · rw [if_neg c, show j = L by omega]; exact t4
      · show upd u.2.1 (nI j).toNatClampNeg (nI (s j)) k = _
        rw [cl (by omega), upd_eq]
        by_cases c : k = j
        · rw [if_pos c, c]
        · rw [if_neg c]; exact hu.2.2.1 k (by omega)
      · exact nI_1 j
    · have e : j = L + 1 := by have := hu.1; omega
      subst e
      rw [stop u hu] at hf; cases hf
  obtain ⟨i1, i2⟩ := forX_inv (f := b_Route_follow_1 (nI x) pl len nm row nx) (a := 0) (n := 9) P i0 step
  have hend := forX_end (f := b_Route_follow_1 (nI x) pl len nm row nx) (a := 0) (n := 9) (N := L + 1) P i0 step (by omega) (fun u hu => ⟨_, stop u hu⟩)
  obtain ⟨y, hy⟩ := id hend
  obtain ⟨j, u, hj, hu, -, hfy⟩ := i2 y hy
  have hyu : y = u ∧ j = L + 1 := by
    by_cases hj' : j ≤ L
    · obtain ⟨g1, g2, g3⟩ := go j u hj' hu
      rw [Nat.zero_add] at hfy
      unfold b_Route_follow_1 at hfy
      rw [iF_neg g1, iF_neg g3] at hfy
      cases hfy
    · have e : j = L + 1 := by have := hu.1; omega
      subst e
      rw [stop u hu] at hfy
      cases hfy
      exact ⟨rfl, rfl⟩
  obtain ⟨rfl, rfl⟩ := hyu
  have hres : unX (forX (b_Route_follow_1 (nI x) pl len nm row nx) 0 9 (nI n, rw0, 0, br, fl, hop)) = y := by rw [hy]; rfl
  refine ⟨⟨hend, fun q u hq hfq => ?_, trivial⟩, ?_, fun k hk => ?_⟩
  · have hu' := i1 q u (by omega) hfq
    rw [Nat.zero_add]
    refine pif (fun _ => trivial) (fun c1 => pif (fun _ => trivial) (fun c2 => ?_))
    have c1' : q < 8 := by
      rcases Nat.lt_or_ge q 8 with r | r
      · exact r
      · exact absurd ((le8 (by omega)).mpr r) c1
    by_cases hq' : q ≤ L
    · rw [(go q u hq' hu').2.1]
      exact ⟨in8 c1', hP _ (t2 q hq'), trivial⟩
    · exfalso
      have h2 := hu'.2.1
      rw [if_neg hq'] at h2
      exact c2 (by rw [h2]; exact isNode_m6)
  · show (unX (forX (b_Route_follow_1 (nI x) pl len nm row nx) 0 9 (nI n, rw0, 0, br, fl, hop))).2.2.1 = _
    rw [hres]; exact hu.2.2.2
  · show (unX (forX (b_Route_follow_1 (nI x) pl len nm row nx) 0 9 (nI n, rw0, 0, br, fl, hop))).2.1 k = _
    rw [hres]; exact hu.2.2.1 k (by omega)
theorem in1024 {n : Nat} (h : n < 1024) : vp_in (nI n) 1024 := vp_in_nI h (by decide)
theorem layRoute_spec (hR : Rel up nm lk st) (h : CR up nm lk len row pl M R) (hN : ∀ a, a < 8 → N a = SN up nm lk a) (hx' : ∀ a, a < 8 → nx a = SN up nm lk a) {x : Nat} (hx : x < 256) {n L : Nat} {s : Nat → Nat} (hn : n < 8) (hL : L ≤ 7) (hT : RT up lk (fun n => (f_Route_hopFrom (nI n) (nI x) pl len nm row nx).1) n L s) (rt0 : Nat → Int32) : P_M_layRoute (nI n) (nI x) R M N st rt0 ∧ (f_M_layRoute (nI n) (nI x) R M N st rt0).2 = nI (L + 1) ∧ ∀ k, k ≤ L → (f_M_layRoute (nI n) (nI x) R M N st rt0).1 k = nI (s k) := by
  obtain ⟨t1, t2, t3, t4⟩ := hT
  let T : Nat → Int32 := fun a => f_M_nearest (f_M_knownAt (nI a) M R N ||| ((1 : Int32) <<< (nI a &&& 31))) (nI x) st
  let P : Nat → (Int32 × Int32 × (Nat → Int32) × Int32) → Prop := fun j v => j ≤ L ∧ v.1 = nI (s j) ∧ v.2.1 = T (s j) ∧ (∀ k, k ≤ j → v.2.2.1 k = nI (s k)) ∧ v.2.2.2 = nI (j + 1)
  have i0 : P 0 (nI n, T n, upd rt0 (0 : Int32).toNatClampNeg (nI n), 1) := ⟨by omega, by rw [t1], by rw [t1], fun k hk => by
    show upd rt0 (0 : Int32).toNatClampNeg (nI n) k = _
    rw [show (0 : Int32).toNatClampNeg = 0 by decide, upd_eq, if_pos (by omega), show k = 0 by omega, t1], rfl⟩
  have stop : ∀ u, P L u → b_M_layRoute_1 R M N (nI x) st (0 + L) u = .inr u := fun u hu => by
    unfold b_M_layRoute_1
    obtain ⟨-, -, -, m, m1, H, -⟩ := hop_spec hR h hN hx' (t2 L (Nat.le_refl L)) hx
    rw [iF_pos]
    rw [hu.2.1, hu.2.2.1]
    show f_M_nearest _ _ _ = _
    rw [m1]
    rcases H.2.2.2.2 with ⟨q, -⟩ | ⟨-, i, l, h', c1, c2, -⟩
    · rw [q]
    · have t4' : (f_Route_hopFrom (nI (s L)) (nI x) pl len nm row nx).1 = -6 := t4
      rw [t4'] at c2
      exact absurd c2.symm (nI_ne6 (by have := (LF_up c1).2.2.1; omega))
  have go : ∀ j u, j < L → P j u → ∃ m, T (s j) = nI m ∧ ¬ u.2.1 = u.1 ∧ f_M_goOn (nI (s j)) (nI m) R M N = nI (s (j + 1)) ∧ P_M_goOn (nI (s j)) (nI m) R M N := fun j u hj hu => by
    obtain ⟨-, -, -, m, m1, H, mg⟩ := hop_spec hR h hN hx' (t2 j (by omega)) hx
    have t3' : (f_Route_hopFrom (nI (s j)) (nI x) pl len nm row nx).1 = nI (s (j + 1)) := (t3 j hj).1
    have s8 := (t2 (j + 1) (by omega)).1
    have s8' := (t2 j (by omega)).1
    have mm := H.1.1
    rcases H.2.2.2.2 with ⟨q, q2, -⟩ | ⟨hne, i, l, h', c1, c2, -, c3, -⟩
    · rw [t3'] at q2; exact absurd q2 (nI_ne6 (by omega))
    · refine ⟨m, m1, ?_, ?_, mg hne⟩
      · rw [hu.2.1, hu.2.2.1]
        show ¬ f_M_nearest _ _ _ = _
        rw [m1]
        exact nI_ne (by omega) (by omega) hne
      · rw [c3, ← c2, t3']
  have step : ∀ j u u', j < 12 → P j u → b_M_layRoute_1 R M N (nI x) st (0 + j) u = .inl u' → P (j + 1) u' := fun j u u' hj9 hu hf => by
    by_cases hj : j < L
    · obtain ⟨m, m1, m2, m3, -⟩ := go j u hj hu
      unfold b_M_layRoute_1 at hf
      rw [iF_neg m2, hu.2.1, hu.2.2.1, m1, m3, hu.2.2.2.2] at hf
      cases hf
      refine ⟨by omega, rfl, rfl, fun k hk => ?_, nI_1 _⟩
      show upd u.2.2.1 (nI (j + 1)).toNatClampNeg (nI (s (j + 1))) k = _
      rw [cl (by omega), upd_eq]
      by_cases c : k = j + 1
      · rw [if_pos c, c]
      · rw [if_neg c]; exact hu.2.2.2.1 k (by omega)
    · have e : j = L := by have := hu.1; omega
      subst e
      rw [stop u hu] at hf; cases hf
  obtain ⟨i1, i2⟩ := forX_inv (f := b_M_layRoute_1 R M N (nI x) st) (a := 0) (n := 12) P i0 step
  have hend := forX_end (f := b_M_layRoute_1 R M N (nI x) st) (a := 0) (n := 12) (N := L) P i0 step (by omega) (fun u hu => ⟨_, stop u hu⟩)
  obtain ⟨y, hy⟩ := id hend
  obtain ⟨j, u, hj, hu, -, hfy⟩ := i2 y hy
  have hyu : y = u ∧ j = L := by
    by_cases hj' : j < L
    · obtain ⟨m, m1, m2, m3, -⟩ := go j u hj' hu
      unfold b_M_layRoute_1 at hfy
      rw [iF_neg m2] at hfy
      cases hfy
    · have e : j = L := by have := hu.1; omega
      subst e
      rw [stop u hu] at hfy
      cases hfy
      exact ⟨rfl, rfl⟩
  obtain ⟨rfl, rfl⟩ := hyu
  have hres : unX (forX (b_M_layRoute_1 R M N (nI x) st) 0 12 (nI n, T n, upd rt0 (0 : Int32).toNatClampNeg (nI n), 1)) = y := by rw [hy]; rfl
  have un : mU up n := by rw [← t1]; exact t2 0 (by omega)
  obtain ⟨-, n2, n3, -⟩ := hop_spec hR h hN hx' un hx
  refine ⟨⟨n2, n3, hend, fun q u hq hfq => ?_, trivial⟩, ?_, fun k hk => ?_⟩
  · have hu' := i1 q u (by omega) hfq
    refine pif (fun _ => trivial) (fun c => ?_)
    by_cases hq' : q < j
    · obtain ⟨m, m1, m2, m3, m4⟩ := go q u hq' hu'
      obtain ⟨-, k2, k3, -⟩ := hop_spec hR h hN hx' (t2 (q + 1) (by omega)) hx
      rw [hu'.2.1, hu'.2.2.1, m1, m3, hu'.2.2.2.2]
      exact ⟨m4, in1024 (by omega), k2, k3, trivial⟩
    · exfalso
      have e : q = j := by have := hu'.1; omega
      subst e
      have := stop u hu'
      unfold b_M_layRoute_1 at this
      rw [iF_neg c] at this
      cases this
  · show (unX (forX (b_M_layRoute_1 R M N (nI x) st) 0 12 (nI n, T n, upd rt0 (0 : Int32).toNatClampNeg (nI n), 1))).2.2.2 = _
    rw [hres]; exact hu.2.2.2.2
  · show (unX (forX (b_M_layRoute_1 R M N (nI x) st) 0 12 (nI n, T n, upd rt0 (0 : Int32).toNatClampNeg (nI n), 1))).2.2.1 k = _
    rw [hres]; exact hu.2.2.2.1 k (by omega)
end M

/-! routes -/
section M
variable {up : Int32} {nm lk st len row pl M R N nx : Nat → Int32}
theorem mG_sym (hR : Rel up nm lk st) {a b : Nat} (h : mG up lk a b) : mG up lk b a := by
  obtain ⟨h1, h2, h3, h4, h5⟩ := h
  exact ⟨h2, h1, h4, h3, by rw [← hR.2.2.2.2.2.2.2.1 a b h1 h2]; exact h5⟩
theorem LF_next (hR : Rel up nm lk st) {i n m l h : Nat} (hl : LF up nm lk i n m l h) : mG up lk n h ∧ ((h = m) ∨ ∃ h', LF up nm lk i h m (l - 1) h') := by
  obtain ⟨hi, e, p, ⟨o1, o2, o3, o4, o5, o6⟩, c⟩ := hl
  rcases c with ⟨c1, c2, c3, c4⟩ | ⟨c1, c2, c3, c4⟩
  · have a := (sq_spec hi o4 p o5).2.2 c2
    refine ⟨by rw [← o6, c4]; exact a, ?_⟩
    rcases Nat.lt_or_ge (p + 1) (mD up lk i e) with q | q
    · exact Or.inr ⟨_, hi, e, p + 1, ⟨o1, o2, o3, o4, by omega, c4.symm⟩, Or.inl ⟨c1, q, by omega, rfl⟩⟩
    · refine Or.inl ?_
      rw [c4, c1, show p + 1 = mD up lk i e by omega, sq_last hi o4]
  · have a := (sq_spec hi o4 (p - 1) (by omega)).2.2 (by omega)
    rw [show p - 1 + 1 = p by omega] at a
    refine ⟨by rw [← o6, c4]; exact mG_sym hR a, ?_⟩
    rcases Nat.eq_zero_or_pos (p - 1) with q | q
    · refine Or.inl ?_
      rw [c4, q, c1]; rfl
    · exact Or.inr ⟨_, hi, e, p - 1, ⟨o1, o2, o3, o4, by omega, c4.symm⟩, Or.inr ⟨c1, q, by omega, rfl⟩⟩
/-- a measure that falls with each hop -/
def Wt (F : Int32 × Int32 × Int32 × Int32) : Nat := F.2.1.toNatClampNeg * 8 + F.2.2.1.toNatClampNeg
theorem hop_falls (hR : Rel up nm lk st) {n h x m m' : Nat} (hx : x < 256) {F F' : Int32 × Int32 × Int32 × Int32} {g g' : Int32} (hn : mU up n) (h8 : h < 8) (H : hopS up nm lk n x m F g) (H' : hopS up nm lk h x m' F' g') (e : F.1 = nI h) : mU up h ∧ mG up lk n h ∧ Wt F' < Wt F := by
  obtain ⟨a1, a2, a3, a4, a5⟩ := H
  obtain ⟨b1, b2, b3, b4, b5⟩ := H'
  have la := RK_lt hR hx a1
  have lb := RK_lt hR hx b1
  rcases a5 with ⟨-, q, -⟩ | ⟨hne, i, l, h0, c1, c2, c3, c4, c5⟩
  · rw [e] at q; exact absurd q (nI_ne6 (by omega))
  · obtain ⟨-, -, h08, l0, l8, -, -, -, uh, -⟩ := LF_up c1
    rw [e] at c2
    have := nI_inj (by omega) (by omega) c2
    subst this
    obtain ⟨g1, g2⟩ := LF_next hR c1
    refine ⟨uh, g1, ?_⟩
    have W1 : Wt F = RK nm x m * 8 + l := by
      unfold Wt
      rw [a2, c3, nI_clamp (by omega), cl (by omega)]
    have l' : ∃ q, q < 8 ∧ F'.2.2.1 = nI q ∧ (m' = h → q = 0) := by
      rcases b5 with ⟨d0, -, d⟩ | ⟨d0, i', q, h', d1, -, d2, -⟩
      · exact ⟨0, by omega, d, fun _ => rfl⟩
      · obtain ⟨-, -, -, -, q8, -⟩ := LF_up d1
        exact ⟨q, q8, d2, fun q' => absurd q' d0⟩
    obtain ⟨q, q8, q1, q2⟩ := l'
    have W2 : Wt F' = RK nm x m' * 8 + q := by
      unfold Wt
      rw [b2, q1, nI_clamp (by omega), cl (by omega)]
    rw [W1, W2]
    have hle : RK nm x m' ≤ RK nm x m := by
      rcases g2 with g2 | ⟨h', g2⟩
      · rw [← g2]; exact b3
      · exact b4 m ⟨i, (LF_up g2).1, _, _, g2⟩
    rcases Nat.lt_or_ge (RK nm x m') (RK nm x m) with r | r
    · omega
    · have em := RK_inj hR hx b1 a1 (by omega)
      subst em
      rcases g2 with g2 | ⟨h', g2⟩
      · rw [q2 g2.symm]; omega
      · rcases b5 with ⟨d0, -, d⟩ | ⟨d0, i', q', h'', d1, -, d2, -, d3⟩
        · exact absurd d0 (LF_up g2).2.2.2.2.2.2.2.2.2
        · have := d3 i (l - 1) h' g2
          rw [d2] at q1
          have := nI_inj (by have := (LF_up d1).2.2.2.2.1; omega) (by omega) q1
          omega
/-- a route: its nodes -/
def RT (up : Int32) (lk : Nat → Int32) (hp : Nat → Int32) (n L : Nat) (s : Nat → Nat) : Prop := s 0 = n ∧ (∀ k, k ≤ L → mU up (s k)) ∧ (∀ k, k < L → hp (s k) = nI (s (k + 1)) ∧ mG up lk (s k) (s (k + 1))) ∧ hp (s L) = -6
theorem route_ex (hR : Rel up nm lk st) (h : CR up nm lk len row pl M R) (hN : ∀ a, a < 8 → N a = SN up nm lk a) (hx' : ∀ a, a < 8 → nx a = SN up nm lk a) {x : Nat} (hx : x < 256) : ∀ w n, mU up n → Wt (f_Route_hopFrom (nI n) (nI x) pl len nm row nx) ≤ w → ∃ L s, RT up lk (fun n => (f_Route_hopFrom (nI n) (nI x) pl len nm row nx).1) n L s ∧ ∀ k, k < L → Wt (f_Route_hopFrom (nI (s (k + 1))) (nI x) pl len nm row nx) < Wt (f_Route_hopFrom (nI (s k)) (nI x) pl len nm row nx) := by
  intro w
  induction w with
  | zero =>
    intro n hn hw
    obtain ⟨-, -, -, m, -, H, -⟩ := hop_spec hR h hN hx' hn hx
    rcases id H.2.2.2.2 with ⟨-, q, -⟩ | ⟨-, i, l, h', c1, c2, c3, -⟩
    · exact ⟨0, fun _ => n, ⟨rfl, fun _ _ => hn, fun k hk => by omega, q⟩, fun k hk => by omega⟩
    · exfalso
      obtain ⟨-, -, -, l0, l8, -⟩ := LF_up c1
      have : Wt (f_Route_hopFrom (nI n) (nI x) pl len nm row nx) ≥ l := by
        unfold Wt
        rw [c3, cl (by omega)]
        omega
      omega
  | succ w ih =>
    intro n hn hw
    obtain ⟨-, -, -, m, -, H, -⟩ := hop_spec hR h hN hx' hn hx
    rcases id H.2.2.2.2 with ⟨-, q, -⟩ | ⟨-, i, l, h', c1, c2, c3, -⟩
    · exact ⟨0, fun _ => n, ⟨rfl, fun _ _ => hn, fun k hk => by omega, q⟩, fun k hk => by omega⟩
    · obtain ⟨-, -, h8, -, -, -, -, -, uh, -⟩ := LF_up c1
      obtain ⟨-, -, -, m', -, H', -⟩ := hop_spec hR h hN hx' uh hx
      obtain ⟨-, g1, g2⟩ := hop_falls hR hx hn h8 H H' c2
      obtain ⟨L, s, ⟨s1, s2, s3, s4⟩, s5⟩ := ih h' uh (by omega)
      refine ⟨L + 1, fun k => match k with | 0 => n | k + 1 => s k, ⟨rfl, fun k hk => ?_, fun k hk => ?_, s4⟩, fun k hk => ?_⟩
      · cases k with
        | zero => exact hn
        | succ k => exact s2 k (by omega)
      · cases k with
        | zero =>
          show _ = nI (s 0) ∧ mG up lk n (s 0)
          rw [s1]; exact ⟨c2, g1⟩
        | succ k => exact s3 k (by omega)
      · cases k with
        | zero =>
          show Wt (f_Route_hopFrom (nI (s 0)) (nI x) pl len nm row nx) < _
          rw [s1]; exact g2
        | succ k => exact s5 k (by omega)
theorem falls_inj {s : Nat → Nat} {w : Nat → Nat} {L : Nat} (h : ∀ k, k < L → w (s (k + 1)) < w (s k)) : ∀ i j, i < j → j ≤ L → w (s j) < w (s i) := by
  intro i j hij
  induction j with
  | zero => omega
  | succ j ih =>
    intro hj
    have h1 := h j (by omega)
    by_cases e : i = j
    · rw [e]; exact h1
    · have := ih (by omega) (by omega); omega
theorem RT_L {hp : Nat → Int32} {n L : Nat} {s : Nat → Nat} (h : RT up lk hp n L s) (hi : ∀ i j, i < j → j ≤ L → s i ≠ s j) : L ≤ 7 := by
  rcases Nat.lt_or_ge 7 L with q | q
  · exfalso
    obtain ⟨i, j, h1, h2, h3⟩ := php 8 s (fun k hk => (h.2.1 k (by omega)).1)
    exact hi i j h1 (by omega) h3
  · exact q
end M

/-! torn -/
def sbP (s : Nat → Nat) (n x y q : Nat) (v : Int32) : Prop := (q + 1 ≤ n ∨ q = 0) ∧ ((v = 0 ∧ ∀ k, 0 < k → k ≤ q → ¬ ((s (k - 1) = x ∧ s k = y) ∨ (s (k - 1) = y ∧ s k = x))) ∨ (v = 1 ∧ ∃ k, 0 < k ∧ k ≤ q ∧ ((s (k - 1) = x ∧ s k = y) ∨ (s (k - 1) = y ∧ s k = x))))
theorem side_gen {a x y n : Nat} (ha : a < 8) (hx : x < 8) (hy : y < 8) {s : Nat → Nat} {M R : Nat → Int32} (hM : M a = nI n) (hn : n ≤ 8) (hs : ∀ k, k < n → s k < 8 ∧ R (8 * a + k) = nI (s k)) : P_M_isSideBySide (nI a) (nI x) (nI y) M R ∧ ((f_M_isSideBySide (nI a) (nI x) (nI y) M R = 0) ↔ ∀ k, 0 < k → k < n → ¬ ((s (k - 1) = x ∧ s k = y) ∨ (s (k - 1) = y ∧ s k = x))) := by
  have i0 : sbP s n x y 0 0 := ⟨Or.inr rfl, Or.inl ⟨rfl, fun k h1 h2 => by omega⟩⟩
  have stop : ∀ q v, q ≤ 9 → n ≤ 1 + q → b_M_isSideBySide_1 M (nI a) R (nI x) (nI y) (1 + q) v = .inr v := fun q v h9 hq => by
    unfold b_M_isSideBySide_1
    rw [cl (by omega), hM, iF_pos ((leN (by omega) (by omega)).mpr hq)]
  have ixm : ∀ q, 1 + q < 8 → (8 * nI a + nI (1 + q)) - 1 = nI (8 * a + q) := fun q hq => by
    rw [ix2 ha hq, show 8 * a + (1 + q) = (8 * a + q) + 1 by omega, nI_pred]
  have step : ∀ q v v', q < 9 → sbP s n x y q v → b_M_isSideBySide_1 M (nI a) R (nI x) (nI y) (1 + q) v = .inl v' → sbP s n x y (q + 1) v' := fun q v v' h9 hv hf => by
    by_cases hq : n ≤ 1 + q
    · rw [stop q v (by omega) hq] at hf; cases hf
    · unfold b_M_isSideBySide_1 at hf
      rw [cl (by omega), hM, iF_neg (fun c => hq ((leN (by omega) (by omega)).mp c)), ixm q (by omega), ix2 ha (by omega), cl (by omega), cl (by omega), (hs q (by omega)).2, (hs (1 + q) (by omega)).2] at hf
      have s1 := (hs q (by omega)).1
      have s2 := (hs (1 + q) (by omega)).1
      cases hf
      refine ⟨Or.inl (by omega), ?_⟩
      have key : ∀ u v : Nat, u < 8 → v < 8 → ((nI u = nI v) ↔ u = v) := fun u v hu hv => nI_eq (by omega) (by omega)
      rcases hv.2 with ⟨v0, vn⟩ | ⟨v1, k, k1, k2, k3⟩
      · rw [iF_pos v0, iF_c (key _ _ s1 hx), iF_c (key _ _ s1 hy), iF_c (key _ _ s2 hx), iF_c (key _ _ s2 hy)]
        by_cases hit : (s q = x ∧ s (1 + q) = y) ∨ (s q = y ∧ s (1 + q) = x)
        · refine Or.inr ⟨?_, q + 1, by omega, by omega, ?_⟩
          · rcases hit with ⟨c1, c2⟩ | ⟨c1, c2⟩
            · rw [iF_pos c1, iF_pos c2]
            · rw [iF_pos (c := s q = y) c1, iF_pos (c := s (1 + q) = x) c2]
              by_cases d1 : s q = x
              · rw [iF_pos d1]
                by_cases d2 : s (1 + q) = y
                · rw [iF_pos d2]
                · rw [iF_neg d2]
              · rw [iF_neg d1]
          · rw [show q + 1 - 1 = q by omega, show q + 1 = 1 + q by omega]; exact hit
        · refine Or.inl ⟨?_, fun k h1 h2 => ?_⟩
          · by_cases c1 : s q = x
            · have c2 : ¬ s (1 + q) = y := fun c2 => hit (Or.inl ⟨c1, c2⟩)
              rw [iF_pos c1, iF_neg c2]
              by_cases c3 : s q = y
              · rw [iF_pos c3, iF_neg (fun c4 => hit (Or.inr ⟨c3, c4⟩))]
              · rw [iF_neg c3]
            · rw [iF_neg c1]
              by_cases c3 : s q = y
              · rw [iF_pos c3, iF_neg (fun c4 => hit (Or.inr ⟨c3, c4⟩))]
              · rw [iF_neg c3]
          · by_cases e : k = q + 1
            · rw [e, show q + 1 - 1 = q by omega, show q + 1 = 1 + q by omega]; exact hit
            · exact vn k h1 (by omega)
      · rw [iF_neg (by rw [v1]; decide)]
        exact Or.inr ⟨rfl, k, k1, by omega, k3⟩
  obtain ⟨i1, i2⟩ := forX_inv (f := b_M_isSideBySide_1 M (nI a) R (nI x) (nI y)) (a := 1) (n := 9) (sbP s n x y) i0 step
  have hend := forX_end (f := b_M_isSideBySide_1 M (nI a) R (nI x) (nI y)) (a := 1) (n := 9) (N := n - 1) (sbP s n x y) i0 step (by omega) (fun u hu => ⟨_, stop (n - 1) u (by omega) (by omega)⟩)
  obtain ⟨z, hz⟩ := id hend
  obtain ⟨q, u, hq, hu, -, hfz⟩ := i2 z hz
  have hzu : z = u ∧ n ≤ 1 + q := by
    by_cases c : n ≤ 1 + q
    · rw [stop q u (by omega) c] at hfz
      cases hfz; exact ⟨rfl, c⟩
    · unfold b_M_isSideBySide_1 at hfz
      rw [cl (by omega), hM, iF_neg (fun c' => c ((leN (by omega) (by omega)).mp c'))] at hfz
      cases hfz
  obtain ⟨rfl, hq'⟩ := hzu
  have hres : f_M_isSideBySide (nI a) (nI x) (nI y) M R = z := by
    show unX (forX (b_M_isSideBySide_1 M (nI a) R (nI x) (nI y)) 1 9 0) = z
    rw [hz]; rfl
  refine ⟨⟨hend, fun q u hq hfq => ?_, ?_, trivial⟩, ?_⟩
  · unfold P_M_isSideBySide_1
    rw [cl (by omega), hM]
    refine ⟨in8 ha, pif (fun _ => trivial) (fun c => ?_)⟩
    have c' : ¬ n ≤ 1 + q := fun q' => c ((leN (by omega) (by omega)).mpr q')
    rw [ixm q (by omega), ix2 ha (by omega)]
    exact ⟨in64 (by omega), in64 (by omega), trivial⟩
  · have hres' : unX (forX (b_M_isSideBySide_1 M (nI a) R (nI x) (nI y)) 1 9 0) = z := hres
    rw [hres']
    rcases hu.2 with ⟨e, -⟩ | ⟨e, -⟩ <;> rw [e] <;> decide
  · rw [hres]
    rcases hu.2 with ⟨e, hno⟩ | ⟨e, k, k1, k2, k3⟩
    · rw [e]; exact ⟨fun _ k h1 h2 => hno k h1 (by omega), fun _ => rfl⟩
    · rw [e]
      refine ⟨fun h => absurd h (by decide), fun h => absurd k3 (h k k1 ?_)⟩
      have := hu.1; omega
section M
variable {up : Int32} {nm lk st len row pl M R N nx : Nat → Int32}
theorem along_spec (h : CR up nm lk len row pl M R) {x y : Nat} (hx : x < 8) (hy : y < 8) (hne : x ≠ y) : P_Paths_laidAlong (nI x) (nI y) pl ∧ (∀ q, q < 8 → P_M_torn_1 (nI x) (nI y) M R (0 + q) (forN (b_M_torn_1 (nI x) (nI y) M R) 0 q 0)) ∧ f_Paths_laidAlong (nI x) (nI y) pl = forN (b_M_torn_1 (nI x) (nI y) M R) 0 8 0 := by
  have gen : ∀ j, j < 8 → ∃ n s, M j = nI n ∧ n ≤ 8 ∧ (∀ k, k < n → s k < 8 ∧ R (8 * j + k) = nI (s k)) ∧ ((n = 0 ∧ SN up nm lk j = -6) ∨ ∃ e, SN up nm lk j = nI e ∧ e < 8 ∧ mD up lk j e < 1000 ∧ n = mD up lk j e + 1 ∧ s = sq up lk j e) := fun j hj => by
    rcases h.2 j hj with ⟨r1, r2⟩ | ⟨e, he, r1, hne, h8, r2, r3⟩
    · exact ⟨0, fun _ => 0, r2, by omega, fun k hk => by omega, Or.inl ⟨rfl, r1⟩⟩
    · have m8 := mD_8 h8
      exact ⟨mD up lk j e + 1, sq up lk j e, r2, by omega, fun k hk => ⟨(sq_spec hj h8 k (by omega)).1, r3 k (by omega)⟩, Or.inr ⟨e, r1, he, h8, rfl, rfl⟩⟩
  refine ⟨⟨fun q hq => ?_, trivial⟩, fun q hq => ?_, ?_⟩
  · rw [Nat.zero_add]
    exact ⟨P_over hq hx pl, pif (fun _ => trivial) (fun _ => ⟨P_over hq hy pl, pif (fun _ => trivial) (fun _ => ⟨(P_over hq hx pl).1, (P_over hq hy pl).1, trivial⟩)⟩)⟩
  · rw [Nat.zero_add]
    obtain ⟨n, s, g1, g2, g3, -⟩ := gen q hq
    exact ⟨(side_gen hq hx hy g1 g2 g3).1, trivial⟩
  · unfold f_Paths_laidAlong
    refine forN_congr (fun j v _ hj' => ?_)
    have hj : j < 8 := by omega
    unfold b_Paths_laidAlong_1 b_M_torn_1
    obtain ⟨n, s, g1, g2, g3, g4⟩ := gen j hj
    rw [iF_c (side_gen hj hx hy g1 g2 g3).2]
    have e0 : v ||| 0 = v := b_ext fun i _ => by rw [b_or, b_0, Bool.or_false]
    rcases g4 with ⟨g4, g5⟩ | ⟨e, g4, g5, g6, g7, g8⟩
    · rw [iF_pos (fun k h1 h2 => by omega), e0]
      rcases at_cases hj hx h with ⟨a1, -⟩ | ⟨e, p, ho, -⟩
      · rw [iF_pos a1]
      · obtain ⟨o1, o2, -⟩ := ho
        rw [g5] at o2
        exact absurd o2.symm (nI_ne6 (by omega))
    · subst g7; subst g8
      have m8 := mD_8 g6
      rcases at_cases hj hx h with ⟨a1, -, a3⟩ | ⟨e1, p, ho, a1, a2, -⟩
      · rw [iF_pos a1, iF_pos, e0]
        rintro k k1 k2 (⟨q, -⟩ | ⟨-, q⟩)
        · exact a3 e (k - 1) ⟨g5, g4, fun c => by subst c; have := mD_self (lk := lk) (mD_up g6).1; omega, g6, by omega, q⟩
        · exact a3 e k ⟨g5, g4, fun c => by subst c; have := mD_self (lk := lk) (mD_up g6).1; omega, g6, by omega, q⟩
      · have ee : e1 = e := by
          have := ho.2.1; rw [g4] at this
          exact (nI_inj (by omega) (by have := ho.1; omega) this).symm
        subst ee
        rw [iF_neg a1]
        rcases at_cases hj hy h with ⟨b1, -, b3⟩ | ⟨e2, p', ho', b1, b2, -⟩
        · rw [iF_pos b1, iF_pos, e0]
          rintro k k1 k2 (⟨-, q⟩ | ⟨q, -⟩)
          · exact b3 e1 k ⟨g5, g4, ho.2.2.1, g6, by omega, q⟩
          · exact b3 e1 (k - 1) ⟨g5, g4, ho.2.2.1, g6, by omega, q⟩
        · have ee : e2 = e1 := by
            have := ho'.2.1; rw [g4] at this
            exact (nI_inj (by omega) (by have := ho'.1; omega) this).symm
          subst ee
          have p8 := ho.2.2.2.2.1
          have p8' := ho'.2.2.2.2.1
          rw [iF_neg b1, a2, b2, abs_eq (by omega) (by omega)]
          have sx := ho.2.2.2.2.2
          have sy := ho'.2.2.2.2.2
          by_cases c : (if p' ≤ p then p - p' else p' - p) = 1
          · rw [iF_pos (by rw [c]; rfl), iF_neg]
            · rfl
            · intro hno
              by_cases c' : p' ≤ p
              · rw [if_pos c'] at c
                exact hno p (by omega) (by omega) (Or.inr ⟨by rw [show p - 1 = p' by omega]; exact sy, sx⟩)
              · rw [if_neg c'] at c
                exact hno p' (by omega) (by omega) (Or.inl ⟨by rw [show p' - 1 = p by omega]; exact sx, sy⟩)
          · rw [iF_neg (c := nI (if p' ≤ p then p - p' else p' - p) = 1) (fun q => c (nI_inj (b := 1) (by split <;> omega) (by omega) q)), iF_pos, e0]
            rintro k k1 k2 (⟨q1, q2⟩ | ⟨q1, q2⟩)
            · have r1 := sq_inj hj g6 p8 (by omega) (sx.trans q1.symm)
              have r2 := sq_inj hj g6 p8' (by omega) (sy.trans q2.symm)
              apply c; split <;> omega
            · have r1 := sq_inj hj g6 p8' (by omega) (sy.trans q1.symm)
              have r2 := sq_inj hj g6 p8 (by omega) (sx.trans q2.symm)
              apply c; split <;> omega
end M
section M
variable {up : Int32} {nm lk st parts nexts befores steps len row pl : Nat → Int32}
theorem cb_0 (h : Rel up nm lk st) {a b : Nat} (ha : a < 8) (hb : b < 8) : (f_M_counts (nI a) (nI b) st = 0) ↔ f_Mesh_countsBetween (nI a) (nI b) up lk = 0 := by
  unfold f_Mesh_countsBetween
  rw [counts_0 h ha hb, has_0 hb]
  cases hc : bt (f_Mesh_neighbours (nI a) up lk) b
  · exact ⟨fun _ => rfl, fun _ q => by rw [(nb_G ha hb).mpr q] at hc; cases hc⟩
  · exact ⟨fun q => absurd ((nb_G ha hb).mp hc) q, fun q => by cases q⟩
theorem q_torn (h : Rel up nm lk st) (hP : PO up nm lk parts nexts befores steps len row pl) (x1 x2 : Int32) (S N R M : Nat → Int32) : P_C_torn x1 x2 up lk pl ∧ P_M_torn x1 x2 S N R M st ∧ f_C_torn x1 x2 up lk pl = (f_M_torn x1 x2 S N R M st).1 := by
  obtain ⟨lp, hO⟩ := layPaths_spec h S N R M
  have hC : CR up nm lk len row pl (f_M_layPaths st S N R M).2.2.2 (f_M_layPaths st S N R M).2.2.1 := ⟨hP.2.2.2.2, hO.2.2⟩
  unfold P_M_torn f_M_torn P_C_torn f_C_torn
  generalize f_M_layPaths st S N R M = Y at *
  rw [mNode, mNode]
  by_cases c1 : f_C_isNode x1 = 0
  · rw [iF_pos c1, iF_pos c1]
    exact ⟨pif (fun _ => trivial) (fun q => absurd c1 q), pif (fun _ => trivial) (fun q => absurd c1 q), rfl⟩
  obtain ⟨a, ha, rfl⟩ := isNode_of c1
  rw [iF_neg c1, iF_neg c1]
  by_cases c2 : f_C_isNode x2 = 0
  · rw [iF_pos c2, iF_pos c2]
    exact ⟨pif (fun _ => trivial) (fun _ => pif (fun _ => trivial) (fun q => absurd c2 q)), pif (fun _ => trivial) (fun _ => pif (fun _ => trivial) (fun q => absurd c2 q)), rfl⟩
  obtain ⟨b, hb, rfl⟩ := isNode_of c2
  rw [iF_neg c2, iF_neg c2]
  by_cases c3 : nI a = nI b
  · rw [iF_pos c3, iF_pos c3]
    exact ⟨pif (fun _ => trivial) (fun _ => pif (fun _ => trivial) (fun _ => pif (fun _ => trivial) (fun q => absurd c3 q))), pif (fun _ => trivial) (fun _ => pif (fun _ => trivial) (fun _ => pif (fun _ => trivial) (fun q => absurd c3 q))), rfl⟩
  obtain ⟨k1, k2, k3⟩ := along_spec hC ha hb (fun q => c3 (by rw [q]))
  rw [iF_neg c3, iF_neg c3, iF_c (cb_0 h ha hb)]
  refine ⟨pif (fun _ => trivial) (fun _ => pif (fun _ => trivial) (fun _ => pif (fun _ => trivial) (fun _ => ⟨⟨P_nb ha, trivial⟩, pif (fun _ => trivial) (fun _ => ⟨k1, trivial⟩)⟩))), pif (fun _ => trivial) (fun _ => pif (fun _ => trivial) (fun _ => pif (fun _ => trivial) (fun _ => ⟨P_cnt ha hb st, pif (fun _ => trivial) (fun _ => ⟨lp, k2, trivial⟩)⟩))), ?_⟩
  by_cases c4 : f_Mesh_countsBetween (nI a) (nI b) up lk = 0
  · rw [iF_pos c4, iF_pos c4]
  · rw [iF_neg c4, iF_neg c4]; exact k3
end M

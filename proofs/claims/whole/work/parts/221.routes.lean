/-! route, spare -/
section M
variable {up : Int32} {nm lk st len row pl M R N nx S steps : Nat → Int32}
/-- a laid route: n to the end, both ways -/
def RB (up : Int32) (lk : Nat → Int32) (n L : Nat) (s : Nat → Nat) : Prop := L ≤ 7 ∧ s 0 = n ∧ (∀ k, k ≤ L → mU up (s k)) ∧ mD up lk n (s L) < 1000 ∧ ∀ i j, i < j → j ≤ L → s i ≠ s j
theorem route_both (hR : Rel up nm lk st) (h : CR up nm lk len row pl M R) (hN : ∀ a, a < 8 → N a = SN up nm lk a) (hx' : ∀ a, a < 8 → nx a = SN up nm lk a) {x : Nat} (hx : x < 256) {n : Nat} (hn : mU up n) : ∃ L s, RB up lk n L s ∧ (∀ rw0 br fl hop, P_Route_follow (nI n) (nI x) pl len nm row nx rw0 br fl hop ∧ (f_Route_follow (nI n) (nI x) pl len nm row nx rw0 br fl hop).2.1 = nI (L + 1) ∧ ∀ k, k ≤ L → (f_Route_follow (nI n) (nI x) pl len nm row nx rw0 br fl hop).1 k = nI (s k)) ∧ ∀ rt0, P_M_layRoute (nI n) (nI x) R M N st rt0 ∧ (f_M_layRoute (nI n) (nI x) R M N st rt0).2 = nI (L + 1) ∧ ∀ k, k ≤ L → (f_M_layRoute (nI n) (nI x) R M N st rt0).1 k = nI (s k) := by
  obtain ⟨L, s, hT, hf⟩ := route_ex hR h hN hx' hx _ n hn (Nat.le_refl _)
  have fi := falls_inj (w := fun a => Wt (f_Route_hopFrom (nI a) (nI x) pl len nm row nx)) hf
  have inj : ∀ i j, i < j → j ≤ L → s i ≠ s j := fun i j h1 h2 e => by
    have q : Wt (f_Route_hopFrom (nI (s j)) (nI x) pl len nm row nx) < Wt (f_Route_hopFrom (nI (s i)) (nI x) pl len nm row nx) := fi i j h1 h2
    rw [e] at q; omega
  have hL := RT_L hT inj
  have far : ∀ k, k ≤ L → mD up lk n (s k) < 1000 := by
    intro k
    induction k with
    | zero => intro _; rw [hT.1, mD_self hn]; decide
    | succ k ih =>
      intro hk
      have h1 := ih (by omega)
      have h2 := mD_step h1 (hT.2.2.1 k (by omega)).2
      have h3 := mD_8 h1
      omega
  exact ⟨L, s, ⟨hL, hT.1, hT.2.1, far L (Nat.le_refl L), inj⟩, fun rw0 br fl hop => follow_spec hn.1 hL hT (fun a ha => (hop_spec hR h hN hx' ha hx).1) rw0 br fl hop, fun rt0 => layRoute_spec hR h hN hx' hx hn.1 hL hT rt0⟩
theorem rnode_spec {L : Nat} {s : Nat → Nat} (hL : L ≤ 7) {rw : Nat → Int32} (hr : ∀ k, k ≤ L → rw k = nI (s k)) {x : Int32} (hx : ¬ x < 0) : P_Route_nodeAt x (nI (L + 1)) rw ∧ (nI (L + 1) ≤ x → f_Route_nodeAt x (nI (L + 1)) rw = -6) ∧ (¬ nI (L + 1) ≤ x → ∃ k, k ≤ L ∧ x = nI k ∧ f_Route_nodeAt x (nI (L + 1)) rw = nI (s k)) := by
  unfold P_Route_nodeAt f_Route_nodeAt
  rw [iF_neg hx]
  obtain ⟨k, hk, rfl⟩ := nI_of hx
  by_cases q : nI (L + 1) ≤ nI k
  · rw [iF_pos q]
    exact ⟨pif (fun _ => trivial) (fun _ => pif (fun _ => trivial) (fun q' => absurd q q')), fun _ => rfl, fun q' => absurd q q'⟩
  · have hk' : k ≤ L := by rw [nI_leI (by omega) hk] at q; omega
    rw [iF_neg q, cl (by omega), hr k hk']
    exact ⟨pif (fun _ => trivial) (fun _ => pif (fun _ => trivial) (fun _ => ⟨in8 (by omega), trivial⟩)), fun q' => absurd q' q, fun _ => ⟨k, hk', rfl, rfl⟩⟩
theorem rnode_k {L : Nat} {s : Nat → Nat} (hL : L ≤ 7) {rw : Nat → Int32} (hr : ∀ k, k ≤ L → rw k = nI (s k)) {k : Nat} (hk : k ≤ L) : P_Route_nodeAt (nI k) (nI (L + 1)) rw ∧ f_Route_nodeAt (nI k) (nI (L + 1)) rw = nI (s k) := by
  obtain ⟨h1, -, h3⟩ := rnode_spec hL hr (x := nI k) (nI_n0 (by omega))
  obtain ⟨k', k1, k2, k3⟩ := h3 (fun q => by rw [leN (by omega) (by omega)] at q; omega)
  have := nI_inj (by omega) (by omega) k2
  subst this
  exact ⟨h1, k3⟩
theorem last_k {L : Nat} {s : Nat → Nat} (hL : L ≤ 7) {rw : Nat → Int32} (hr : ∀ k, k ≤ L → rw k = nI (s k)) : P_Route_lastNode (nI (L + 1)) rw ∧ f_Route_lastNode (nI (L + 1)) rw = nI (s L) := by
  unfold P_Route_lastNode f_Route_lastNode
  rw [nI_pred]
  exact ⟨⟨(rnode_k hL hr (Nat.le_refl L)).1, trivial⟩, (rnode_k hL hr (Nat.le_refl L)).2⟩
theorem spare_eq (hS : exS up lk S) (hs : ∀ a, a < 8 → ∀ b, b < 8 → steps (8 * a + b) = stC up lk a b) {n L : Nat} {s : Nat → Nat} (hb : RB up lk n L s) {rw rt : Nat → Int32} (hr : ∀ k, k ≤ L → rw k = nI (s k)) (ht : ∀ k, k ≤ L → rt k = nI (s k)) : P_Route_countSpare (nI (L + 1)) rw steps ∧ P_M_spareNow (nI (L + 1)) S rt ∧ f_Route_countSpare (nI (L + 1)) rw steps = nI L - nI (mD up lk n (s L)) ∧ f_M_spareNow (nI (L + 1)) S rt = nI L - nI (mD up lk n (s L)) := by
  obtain ⟨b1, b2, b3, b4, b5⟩ := hb
  have n8 : n < 8 := by rw [← b2]; exact (b3 0 (by omega)).1
  have l8 := (b3 L (Nat.le_refl L)).1
  have r0 : P_Route_nodeAt 0 (nI (L + 1)) rw ∧ f_Route_nodeAt 0 (nI (L + 1)) rw = nI n := by
    rw [← b2]; exact rnode_k b1 hr (show 0 ≤ L by omega)
  obtain ⟨l1, l2⟩ := last_k b1 hr
  have e0 : rt (0 : Int32).toNatClampNeg = nI n := by
    rw [show (0 : Int32).toNatClampNeg = 0 by decide, ht 0 (by omega), b2]
  unfold P_Route_countSpare P_M_spareNow f_Route_countSpare f_M_spareNow f_Route_countSteps
  rw [r0.2, l2, nI_pred, cl (by omega), e0, ht L (Nat.le_refl L), iF_neg (isNode_1 n8), iF_neg (isNode_1 l8), ix1 n8 l8, ix2 n8 l8, cl (by omega), hs n n8 (s L) l8, hS n (s L) n8 l8]
  have es : stC up lk n (s L) = nI (mD up lk n (s L)) := by unfold stC; rw [if_pos b4]
  rw [es]
  exact ⟨⟨r0.1, l1, pif (fun _ => trivial) (fun _ => pif (fun _ => trivial) (fun _ => ⟨in64 (by omega), trivial⟩))⟩, ⟨in1024 (by omega), in64 (by omega), trivial⟩, rfl, rfl⟩
end M
section M
variable {up : Int32} {nm lk st parts nexts befores steps len row pl : Nat → Int32}
theorem q_route (h : Rel up nm lk st) (hP : PO up nm lk parts nexts befores steps len row pl) (x1 x2 x3 : Int32) (S N R M rt : Nat → Int32) (rm : Int32) (rw0 : Nat → Int32) (ln br fl hop : Int32) : P_C_route x1 x2 x3 rw0 ln br fl hop up pl len nm row nexts ∧ P_M_route x1 x2 x3 S N R M rt rm st ∧ (f_C_route x1 x2 x3 rw0 ln br fl hop up pl len nm row nexts).1 = (f_M_route x1 x2 x3 S N R M rt rm st).1 := by
  obtain ⟨lp, hO⟩ := layPaths_spec h S N R M
  have hC : CR up nm lk len row pl (f_M_layPaths st S N R M).2.2.2 (f_M_layPaths st S N R M).2.2.1 := ⟨hP.2.2.2.2, hO.2.2⟩
  unfold P_M_route f_M_route P_C_route f_C_route
  generalize f_M_layPaths st S N R M = Y at *
  rw [mNode, mName]
  by_cases c1 : f_C_isNode x1 = 0
  · rw [iF_pos c1, iF_pos c1]
    exact ⟨pif (fun _ => trivial) (fun q => absurd c1 q), pif (fun _ => trivial) (fun q => absurd c1 q), rfl⟩
  obtain ⟨a, ha, rfl⟩ := isNode_of c1
  rw [iF_neg c1, iF_neg c1]
  have rp : f_C_refusePacket (nI a) x2 up = iF (f_C_isName x2 = 0) (-2) (iF (f_Mesh_isUp (nI a) up = 0) (-3) 0) := by
    unfold f_C_refusePacket; rw [iF_neg c1]
  rw [rp]
  by_cases c2 : f_C_isName x2 = 0
  · rw [iF_pos c2, iF_pos c2, iF_neg (c := (-2 : Int32) = 0) (by decide)]
    refine ⟨pif (fun _ => trivial) (fun _ => pif (fun _ => pif (fun q => absurd q (by decide)) (fun _ => trivial)) (fun _ => trivial)), pif (fun _ => trivial) (fun _ => pif (fun _ => trivial) (fun q => absurd c2 q)), ?_⟩
    by_cases c3 : -1 ≤ x3
    · rw [iF_pos c3]
    · rw [iF_neg c3]
  obtain ⟨x, hx, rfl⟩ := isName_of c2
  rw [iF_neg c2, iF_neg c2]
  by_cases c3 : -1 ≤ x3
  · rw [iF_pos c3, iF_pos c3, iF_c (cUp h ha)]
    by_cases c4 : f_Mesh_isUp (nI a) up = 0
    · rw [iF_pos c4, iF_pos c4, iF_neg (c := (-3 : Int32) = 0) (by decide)]
      exact ⟨pif (fun _ => trivial) (fun _ => pif (fun _ => pif (fun q => absurd q (by decide)) (fun _ => trivial)) (fun _ => trivial)), pif (fun _ => trivial) (fun _ => pif (fun _ => trivial) (fun _ => pif (fun _ => ⟨P_mUp ha st, pif (fun _ => trivial) (fun q => absurd ((cUp h ha).mpr c4) q)⟩) (fun _ => trivial))), rfl⟩
    · have hua : mU up a := ⟨ha, by
        cases hb : bt up a
        · exact absurd ((isUp_0 ha up).mpr hb) c4
        · rfl⟩
      obtain ⟨L, s, hb, hf, hm⟩ := route_both h hC hO.2.1 hP.2.1 hx hua
      obtain ⟨f1, f2, f3⟩ := hf rw0 br fl hop
      obtain ⟨m1, m2, m3⟩ := hm rt
      have l7 := hb.1
      rw [iF_neg c4, iF_neg c4, iF_pos (c := (0 : Int32) = 0) rfl, f2, m2]
      by_cases c6 : x3 = -1
      · rw [iF_pos c6, iF_pos c6]
        exact ⟨pif (fun _ => trivial) (fun _ => pif (fun _ => pif (fun _ => ⟨f1, pif (fun _ => trivial) (fun q => absurd c6 q)⟩) (fun _ => trivial)) (fun _ => trivial)), pif (fun _ => trivial) (fun _ => pif (fun _ => trivial) (fun _ => pif (fun _ => ⟨P_mUp ha st, pif (fun _ => trivial) (fun _ => ⟨lp, m1, pif (fun _ => trivial) (fun q => absurd c6 q)⟩)⟩) (fun _ => trivial))), rfl⟩
      · obtain ⟨n1, n2, n3⟩ := rnode_spec l7 f3 (m1_cases c3 c6)
        rw [iF_neg c6, iF_neg c6]
        refine ⟨pif (fun _ => trivial) (fun _ => pif (fun _ => pif (fun _ => ⟨f1, pif (fun q => absurd q c6) (fun _ => ⟨n1, trivial⟩)⟩) (fun _ => trivial)) (fun _ => trivial)), pif (fun _ => trivial) (fun _ => pif (fun _ => trivial) (fun _ => pif (fun _ => ⟨P_mUp ha st, pif (fun _ => trivial) (fun _ => ⟨lp, m1, pif (fun q => absurd q c6) (fun _ => pif (fun _ => trivial) (fun q => ⟨?_, trivial⟩))⟩)⟩) (fun _ => trivial))), ?_⟩
        · obtain ⟨k, k1, k2, k3⟩ := n3 q
          rw [k2]; exact in1024 (by omega)
        · show f_Route_nodeAt _ _ _ = iF _ _ _
          by_cases q : nI (L + 1) ≤ x3
          · rw [iF_pos q]; exact n2 q
          · obtain ⟨k, k1, k2, k3⟩ := n3 q
            rw [iF_neg q, k3, k2, cl (by omega), m3 k k1]
  · rw [iF_neg c3, iF_neg c3]
    exact ⟨pif (fun _ => trivial) (fun _ => pif (fun q => absurd q c3) (fun _ => trivial)), pif (fun _ => trivial) (fun _ => pif (fun _ => trivial) (fun _ => pif (fun q => absurd q c3) (fun _ => trivial))), rfl⟩
theorem q_spare (h : Rel up nm lk st) (hP : PO up nm lk parts nexts befores steps len row pl) (x1 x2 : Int32) (S N R M rt : Nat → Int32) (rm : Int32) (rw0 : Nat → Int32) (ln br fl hop : Int32) : P_C_spare x1 x2 up pl len nm row nexts rw0 br fl hop steps ln ∧ P_M_spare x1 x2 S N R M rt rm st ∧ (f_C_spare x1 x2 up pl len nm row nexts rw0 br fl hop steps ln).1 = (f_M_spare x1 x2 S N R M rt rm st).1 := by
  obtain ⟨lp, hO⟩ := layPaths_spec h S N R M
  have hC : CR up nm lk len row pl (f_M_layPaths st S N R M).2.2.2 (f_M_layPaths st S N R M).2.2.1 := ⟨hP.2.2.2.2, hO.2.2⟩
  unfold P_M_spare f_M_spare P_C_spare f_C_spare f_C_refusePacket
  generalize f_M_layPaths st S N R M = Y at *
  rw [mNode, mName]
  by_cases c1 : f_C_isNode x1 = 0
  · rw [iF_pos c1, iF_pos c1, iF_neg (c := (-1 : Int32) = 0) (by decide)]
    exact ⟨pif (fun q => absurd q (by decide)) (fun _ => trivial), pif (fun _ => trivial) (fun q => absurd c1 q), rfl⟩
  obtain ⟨a, ha, rfl⟩ := isNode_of c1
  rw [iF_neg c1, iF_neg c1]
  by_cases c2 : f_C_isName x2 = 0
  · rw [iF_pos c2, iF_pos c2, iF_neg (c := (-2 : Int32) = 0) (by decide)]
    exact ⟨pif (fun q => absurd q (by decide)) (fun _ => trivial), pif (fun _ => trivial) (fun _ => pif (fun _ => trivial) (fun q => absurd c2 q)), rfl⟩
  obtain ⟨x, hx, rfl⟩ := isName_of c2
  rw [iF_neg c2, iF_neg c2, iF_c (cUp h ha)]
  by_cases c4 : f_Mesh_isUp (nI a) up = 0
  · rw [iF_pos c4, iF_pos c4, iF_neg (c := (-3 : Int32) = 0) (by decide)]
    exact ⟨pif (fun q => absurd q (by decide)) (fun _ => trivial), pif (fun _ => trivial) (fun _ => pif (fun _ => trivial) (fun _ => ⟨P_mUp ha st, pif (fun _ => trivial) (fun q => absurd ((cUp h ha).mpr c4) q)⟩)), rfl⟩
  · have hua : mU up a := ⟨ha, by
      cases hb : bt up a
      · exact absurd ((isUp_0 ha up).mpr hb) c4
      · rfl⟩
    obtain ⟨L, s, hb, hf, hm⟩ := route_both h hC hO.2.1 hP.2.1 hx hua
    obtain ⟨f1, f2, f3⟩ := hf rw0 br fl hop
    obtain ⟨m1, m2, m3⟩ := hm rt
    obtain ⟨e1, e2, e3, e4⟩ := spare_eq hO.1 hP.2.2.2.1 hb f3 m3
    rw [iF_neg c4, iF_neg c4, iF_pos (c := (0 : Int32) = 0) rfl, f2, m2]
    exact ⟨pif (fun _ => ⟨f1, e1, trivial⟩) (fun _ => trivial), pif (fun _ => trivial) (fun _ => pif (fun _ => trivial) (fun _ => ⟨P_mUp ha st, pif (fun _ => trivial) (fun _ => ⟨lp, m1, e2, trivial⟩)⟩)), e3.trans e4.symm⟩
end M

/-! path, over -/
section M
variable {up : Int32} {nm lk st parts nexts befores steps len row pl : Nat → Int32}
theorem both {a : Nat} {l l' : Int32} {r r' p : Nat → Int32} (hl : laidIs up nm lk a l r p) (hr : rlIs up nm lk a l' r') : (SN up nm lk a = -6 ∧ l = 0 ∧ l' = 0) ∨ ∃ e, e < 8 ∧ SN up nm lk a = nI e ∧ e ≠ a ∧ mD up lk a e < 1000 ∧ l = nI (mD up lk a e + 1) ∧ l' = nI (mD up lk a e + 1) ∧ (∀ k, k ≤ mD up lk a e → r k = nI (sq up lk a e k)) ∧ (∀ k, k ≤ mD up lk a e → r' k = nI (sq up lk a e k)) ∧ plIs up lk a e (mD up lk a e + 1) p := by
  rcases hl with ⟨h1, h2, h3⟩ | ⟨e, h1, h2, h3, h4, h5, h6, h7⟩
  · rcases hr with ⟨g1, g2⟩ | ⟨e, g1, g2, -⟩
    · exact Or.inl ⟨h1, h2, g2⟩
    · rw [h1] at g2; exact absurd g2.symm (nI_ne6 (by omega))
  · rcases hr with ⟨g1, g2⟩ | ⟨e', g1, g2, -, -, g3, g4⟩
    · rw [h2] at g1; exact absurd g1 (nI_ne6 (by omega))
    · rw [h2] at g2
      have := nI_inj (by omega) (by omega) g2
      subst this
      exact Or.inr ⟨e, h1, h2, h3, h4, h5, g3, h6, g4, h7⟩
theorem m1_cases {x : Int32} (h : -1 ≤ x) (h1 : ¬ x = -1) : ¬ x < 0 := fun q => h1 (Int32.toInt_inj.mp (by
  rw [Int32.le_iff_toInt_le] at h
  rw [Int32.lt_iff_toInt_lt] at q
  have e1 : (-1 : Int32).toInt = -1 := by decide
  have e2 : (0 : Int32).toInt = 0 := by decide
  rw [e1] at h ⊢
  rw [e2] at q
  omega))
theorem laid_0 {a : Nat} (ha : a < 8) {l' : Int32} {r r' p : Nat → Int32} (hl : laidIs up nm lk a (len a) r p) (hr : rlIs up nm lk a l' r') : (f_Paths_isLaid (nI a) len = 0) ↔ ¬ (0 : Int32) ≤ SN up nm lk a := by
  unfold f_Paths_isLaid
  rw [cl (by omega)]
  rcases both hl hr with ⟨h1, h2, h3⟩ | ⟨e, h1, h2, -, h8, h5, -⟩
  · rw [h1, h2, iF_pos (by decide)]
    exact ⟨fun _ => by decide, fun _ => rfl⟩
  · have m8 := mD_8 h8
    rw [h5, h2, iF_neg (fun q => by
      have q' : nI (mD up lk a e + 1) ≤ nI 0 := q
      rw [leN (by omega) (by omega)] at q'; omega)]
    exact ⟨fun q => absurd q (by decide), fun q => absurd (nI_pos' (by omega)) q⟩
theorem nodeAt_spec {a : Nat} (ha : a < 8) {l' : Int32} {r' p : Nat → Int32} (hl : laidIs up nm lk a (len a) (fun k => row (8 * a + k)) p) (hr : rlIs up nm lk a l' r') {x : Int32} (hx : ¬ x < 0) : P_Paths_nodeAt (nI a) x len row ∧ (l' ≤ x → f_Paths_nodeAt (nI a) x len row = -6) ∧ (¬ l' ≤ x → ∃ k e, k < 8 ∧ x = nI k ∧ SN up nm lk a = nI e ∧ k ≤ mD up lk a e ∧ r' k = nI (sq up lk a e k) ∧ f_Paths_nodeAt (nI a) x len row = nI (sq up lk a e k)) := by
  unfold P_Paths_nodeAt f_Paths_nodeAt
  rw [cl (by omega), iF_neg hx]
  obtain ⟨k, hk, rfl⟩ := nI_of hx
  rcases both hl hr with ⟨h1, h2, h3⟩ | ⟨e, h1, h2, -, h8, h5, h6, h7, h9, -⟩
  · have q : (0 : Int32) ≤ nI k := nI_pos' hk
    rw [h2, h3]
    exact ⟨pif (fun _ => trivial) (fun _ => ⟨in8 ha, pif (fun _ => trivial) (fun q' => absurd q q')⟩), fun _ => by rw [iF_pos q], fun q' => absurd q q'⟩
  · have m8 := mD_8 h8
    rw [h5, h6]
    by_cases q : nI (mD up lk a e + 1) ≤ nI k
    · rw [iF_pos q]
      exact ⟨pif (fun _ => trivial) (fun _ => ⟨in8 ha, pif (fun _ => trivial) (fun q' => absurd q q')⟩), fun _ => rfl, fun q' => absurd q q'⟩
    · have hk8 : k ≤ mD up lk a e := by
        rw [nI_leI (by omega) hk] at q; omega
      rw [iF_neg q, ix1 ha (by omega), cl (by omega)]
      exact ⟨pif (fun _ => trivial) (fun _ => ⟨in8 ha, pif (fun _ => trivial) (fun _ => ⟨in64 (by omega), trivial⟩)⟩), fun q' => absurd q' q, fun _ => ⟨k, e, by omega, rfl, h2, hk8, h9 k hk8, h7 k hk8⟩⟩
theorem q_path (h : Rel up nm lk st) (hP : PO up nm lk parts nexts befores steps len row pl) (x1 x2 : Int32) (S N R M : Nat → Int32) : P_C_path x1 x2 up len row ∧ P_M_path x1 x2 S N R M st ∧ f_C_path x1 x2 up len row = (f_M_path x1 x2 S N R M st).1 := by
  obtain ⟨lp, hO⟩ := layPaths_spec h S N R M
  unfold P_M_path f_M_path P_C_path f_C_path
  generalize f_M_layPaths st S N R M = L at *
  rw [mNode]
  by_cases c1 : f_C_isNode x1 = 0
  · rw [iF_pos c1, iF_pos c1]
    exact ⟨pif (fun _ => trivial) (fun q => absurd c1 q), pif (fun _ => trivial) (fun q => absurd c1 q), rfl⟩
  obtain ⟨a, ha, rfl⟩ := isNode_of c1
  have hca : (nI a).toNatClampNeg = a := cl (by omega)
  rw [iF_neg c1, iF_neg c1, hca]
  by_cases c2 : -1 ≤ x2
  · rw [iF_pos c2, iF_pos c2, iF_c (cUp h ha)]
    by_cases c4 : f_Mesh_isUp (nI a) up = 0
    · rw [iF_pos c4, iF_pos c4]
      exact ⟨pif (fun _ => trivial) (fun _ => pif (fun _ => pif (fun _ => trivial) (fun q => absurd c4 q)) (fun _ => trivial)), pif (fun _ => trivial) (fun _ => pif (fun _ => ⟨P_mUp ha st, pif (fun _ => trivial) (fun q => absurd ((cUp h ha).mpr c4) q)⟩) (fun _ => trivial)), rfl⟩
    · rw [iF_neg c4, iF_neg c4, hO.2.1 a ha, iF_c (laid_0 ha (hP.2.2.2.2 a ha) (hO.2.2 a ha))]
      have hl := laid_0 ha (hP.2.2.2.2 a ha) (hO.2.2 a ha)
      by_cases c5 : (0 : Int32) ≤ SN up nm lk a
      · rw [iF_neg (fun q => q c5), iF_pos c5]
        by_cases c6 : x2 = -1
        · rw [iF_pos c6, iF_pos c6]
          refine ⟨pif (fun _ => trivial) (fun _ => pif (fun _ => pif (fun _ => trivial) (fun _ => ⟨⟨in8 ha, trivial⟩, pif (fun _ => trivial) (fun _ => pif (fun _ => ⟨in8 ha, trivial⟩) (fun q => absurd c6 q))⟩)) (fun _ => trivial)), pif (fun _ => trivial) (fun _ => pif (fun _ => ⟨P_mUp ha st, pif (fun _ => trivial) (fun _ => ⟨lp, in8 ha, pif (fun _ => pif (fun _ => ⟨in8 ha, trivial⟩) (fun q => absurd c6 q)) (fun q => absurd c5 q)⟩)⟩) (fun _ => trivial)), ?_⟩
          rcases both (hP.2.2.2.2 a ha) (hO.2.2 a ha) with ⟨h1, h2, h3⟩ | ⟨e, h1, h2, -, h8, h5, h6, -⟩
          · show len a = L.2.2.2 a
            rw [h2, h3]
          · show len a = L.2.2.2 a
            rw [h5, h6]
        · obtain ⟨n1, n2, n3⟩ := nodeAt_spec ha (hP.2.2.2.2 a ha) (hO.2.2 a ha) (m1_cases c2 c6)
          rw [iF_neg c6, iF_neg c6]
          refine ⟨pif (fun _ => trivial) (fun _ => pif (fun _ => pif (fun _ => trivial) (fun _ => ⟨⟨in8 ha, trivial⟩, pif (fun _ => trivial) (fun _ => pif (fun q => absurd q c6) (fun _ => ⟨n1, trivial⟩))⟩)) (fun _ => trivial)), pif (fun _ => trivial) (fun _ => pif (fun _ => ⟨P_mUp ha st, pif (fun _ => trivial) (fun _ => ⟨lp, in8 ha, pif (fun _ => pif (fun q => absurd q c6) (fun _ => ⟨in8 ha, pif (fun _ => trivial) (fun q => ⟨?_, trivial⟩)⟩)) (fun q => absurd c5 q)⟩)⟩) (fun _ => trivial)), ?_⟩
          · obtain ⟨k, e, k1, k2, -⟩ := n3 q
            rw [k2, ix2 ha k1]; exact in64 (by omega)
          · by_cases q : L.2.2.2 a ≤ x2
            · rw [iF_pos q]; exact n2 q
            · obtain ⟨k, e, k1, k2, k3, k4, k5, k6⟩ := n3 q
              rw [iF_neg q, k6, k2, ix2 ha k1, cl (by omega)]
              exact k5.symm
      · rw [iF_pos c5, iF_neg c5]
        exact ⟨pif (fun _ => trivial) (fun _ => pif (fun _ => pif (fun _ => trivial) (fun _ => ⟨⟨in8 ha, trivial⟩, pif (fun _ => trivial) (fun q => absurd (hl.mpr c5) q)⟩)) (fun _ => trivial)), pif (fun _ => trivial) (fun _ => pif (fun _ => ⟨P_mUp ha st, pif (fun _ => trivial) (fun _ => ⟨lp, in8 ha, pif (fun q => absurd q c5) (fun _ => trivial)⟩)⟩) (fun _ => trivial)), rfl⟩
  · rw [iF_neg c2, iF_neg c2]
    exact ⟨pif (fun _ => trivial) (fun _ => pif (fun q => absurd q c2) (fun _ => trivial)), pif (fun _ => trivial) (fun _ => pif (fun q => absurd q c2) (fun _ => trivial)), rfl⟩
theorem q_over (h : Rel up nm lk st) (hP : PO up nm lk parts nexts befores steps len row pl) (x1 x2 : Int32) (S N R M : Nat → Int32) : P_C_over x1 x2 up len pl ∧ P_M_over x1 x2 S N R M st ∧ f_C_over x1 x2 up len pl = (f_M_over x1 x2 S N R M st).1 := by
  obtain ⟨lp, hO⟩ := layPaths_spec h S N R M
  unfold P_M_over f_M_over P_C_over f_C_over
  generalize f_M_layPaths st S N R M = L at *
  rw [mNode, mNode]
  by_cases c1 : f_C_isNode x1 = 0
  · rw [iF_pos c1, iF_pos c1]
    exact ⟨pif (fun _ => trivial) (fun q => absurd c1 q), pif (fun _ => trivial) (fun q => absurd c1 q), rfl⟩
  obtain ⟨a, ha, rfl⟩ := isNode_of c1
  have hca : (nI a).toNatClampNeg = a := cl (by omega)
  rw [iF_neg c1, iF_neg c1, hca]
  by_cases c2 : f_C_isNode x2 = 0
  · rw [iF_pos c2, iF_pos c2]
    exact ⟨pif (fun _ => trivial) (fun _ => pif (fun _ => trivial) (fun q => absurd c2 q)), pif (fun _ => trivial) (fun _ => pif (fun _ => trivial) (fun q => absurd c2 q)), rfl⟩
  obtain ⟨b, hb, rfl⟩ := isNode_of c2
  rw [iF_neg c2, iF_neg c2, iF_c (cUp h ha)]
  by_cases c4 : f_Mesh_isUp (nI a) up = 0
  · rw [iF_pos c4, iF_pos c4]
    exact ⟨pif (fun _ => trivial) (fun _ => pif (fun _ => trivial) (fun _ => pif (fun _ => trivial) (fun q => absurd c4 q))), pif (fun _ => trivial) (fun _ => pif (fun _ => trivial) (fun _ => ⟨P_mUp ha st, pif (fun _ => trivial) (fun q => absurd ((cUp h ha).mpr c4) q)⟩)), rfl⟩
  have hl := laid_0 ha (hP.2.2.2.2 a ha) (hO.2.2 a ha)
  rw [iF_neg c4, iF_neg c4, hO.2.1 a ha, iF_c hl]
  refine ⟨pif (fun _ => trivial) (fun _ => pif (fun _ => trivial) (fun _ => pif (fun _ => trivial) (fun _ => ⟨⟨in8 ha, trivial⟩, pif (fun _ => trivial) (fun _ => ⟨P_over ha hb pl, trivial⟩)⟩))), pif (fun _ => trivial) (fun _ => pif (fun _ => trivial) (fun _ => ⟨P_mUp ha st, pif (fun _ => trivial) (fun _ => ⟨lp, in8 ha, pif (fun _ => ⟨(place_spec ha hb (hO.2.2 a ha) (hP.2.2.2.2 a ha)).1, trivial⟩) (fun _ => trivial)⟩)⟩)), ?_⟩
  by_cases c5 : (0 : Int32) ≤ SN up nm lk a
  · rw [iF_neg (fun q => q c5), iF_pos c5]
    show _ = iF _ _ _
    rw [iF_c (pl_0 ha hb (hO.2.2 a ha) (hP.2.2.2.2 a ha))]
  · rw [iF_pos c5, iF_neg c5]
end M

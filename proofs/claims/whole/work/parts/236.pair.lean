/-! one pair of the survey -/
theorem max_eq (x y : Int32) : f_J_max x y = iF (y ≤ x) x y := by
  unfold f_J_max
  by_cases q : y ≤ x
  · rw [iF_pos q, iF_neg (fun c => by rw [Int32.lt_iff_toInt_lt] at c; rw [Int32.le_iff_toInt_le] at q; omega)]
  · rw [iF_neg q, iF_pos (i32_nle q)]
def WR (c : (Nat → Int32) × (Nat → Int32) × Int32 × Int32 × Int32 × Int32 × Int32 × Int32 × Int32) (v : (Nat → Int32) × (Nat → Int32) × Int32 × Int32 × Int32 × Int32) : Prop := (∀ k, k < 8 → c.2.1 k = v.2.1 k) ∧ c.2.2.2.2.2.2.1 = v.2.2.2.1 ∧ c.2.2.2.2.2.2.2.1 = v.2.2.2.2.1 ∧ c.2.2.2.2.2.2.2.2 = v.2.2.2.2.2
section M
variable {up : Int32} {nm lk st len row pl M R N nx S steps parts : Nat → Int32}
theorem pair_s (hR : Rel up nm lk st) (h : CR up nm lk len row pl M R) (hN : ∀ a, a < 8 → N a = SN up nm lk a) (hx' : ∀ a, a < 8 → nx a = SN up nm lk a) (hS : exS up lk S) (hs : ∀ a, a < 8 → ∀ b, b < 8 → steps (8 * a + b) = stC up lk a b) (hp : ∀ a, a < 8 → parts a = PT up lk a) {a b : Nat} (ha : a < 8) (hb : b < 8) {c : (Nat → Int32) × (Nat → Int32) × Int32 × Int32 × Int32 × Int32 × Int32 × Int32 × Int32} {v : (Nat → Int32) × (Nat → Int32) × Int32 × Int32 × Int32 × Int32} (hw : WR c v) : WR (b_Survey_take_2 (nI a) parts nm pl len row nx steps b c) (b_M_worst_2 S st R M N (8 * a + b) v) ∧ P_Survey_take_2 (nI a) parts nm pl len row nx steps b c ∧ P_M_worst_2 S st R M N (8 * a + b) v := by
  unfold b_Survey_take_2 b_M_worst_2 P_Survey_take_2 P_M_worst_2
  rw [(dv8 (8 * a + b) (by omega)).2, (dv8 (8 * a + b) (by omega)).1, show (8 * a + b) / 8 = a by omega, show (8 * a + b) % 8 = b by omega, cl (show a < 2048 by omega), cl (show b < 2048 by omega), hp a ha]
  by_cases c1 : nI b = nI a
  · have c1' : nI a = nI b := c1.symm
    simp only [iF_pos c1, iF_pos c1']
    exact ⟨hw, pif (fun _ => trivial) (fun q => absurd c1 q), pif (fun _ => trivial) (fun q => absurd c1' q)⟩
  have c1' : ¬ nI a = nI b := fun q => c1 q.symm
  simp only [iF_neg c1, iF_neg c1']
  by_cases c2 : mD up lk a b < 1000
  · have d1 : ¬ f_C_has (PT up lk a) (nI b) = 0 := fun q' => by
      have := (has_0 hb _).mp q'
      rw [((PT_spec (lk := lk) hR.1 ha).2 b hb).mpr c2] at this
      cases this
    have d2 : ¬ f_M_areTogether (nI a) (nI b) S = 0 := fun q => (tog_0 hS ha hb).mp q c2
    obtain ⟨ua, ub⟩ := mD_up c2
    obtain ⟨x8, ex, es⟩ := nm_up hR ub
    obtain ⟨L, s, hB, hf, hm⟩ := route_both hR h hN hx' x8 ua
    rw [← ex] at hf hm
    obtain ⟨f1, f2, f3⟩ := hf c.1 c.2.2.2.1 c.2.2.2.2.1 c.2.2.2.2.2.1
    obtain ⟨m1, m2, m3⟩ := hm v.1
    obtain ⟨e1, e2, e3, e4⟩ := spare_eq hS hs hB f3 m3
    have s8 : ∀ k, k ≤ L → s k < 8 := fun k hk => (hB.2.2.1 k hk).1
    have hst : st (8 + nI b).toNatClampNeg = nm b := by rw [e_nI, cl (by omega), es]
    simp only [iF_neg d1, iF_neg d2]
    unfold f_M_count2 P_M_count2 f_Survey_note P_Survey_note
    simp only [hst, f2, m2]
    obtain ⟨w1, w2, w3, w4⟩ := hw
    refine ⟨⟨visits_met hB.1 s8 f3 m3 w1, ?_, ?_, ?_⟩, pif (fun q => absurd q c1) (fun _ => ⟨in8 ha, pif (fun q => absurd q d1) (fun _ => ⟨f1, ⟨e1, (between_spec hB.1 s8 f3).1, trivial⟩, trivial⟩)⟩), pif (fun q => absurd q c1') (fun _ => ⟨P_tog ha hb S, pif (fun q => absurd q d2) (fun _ => ⟨⟨by rw [e_nI]; exact in80 (by omega), m1, e2, fun q hq => ?_, trivial⟩, trivial⟩)⟩)⟩
    · show f_J_max c.2.2.2.2.2.2.1 _ = iF _ _ _
      rw [max_eq, e3, e4, w2]
    · show c.2.2.2.2.2.2.2.1 + _ = v.2.2.2.2.1 + _
      rw [e3, e4, w3]
    · show f_J_max c.2.2.2.2.2.2.2.2 _ = iF _ _ _
      rw [max_eq, w4]; rfl
    · rw [Nat.zero_add]
      exact ⟨(isBetween_spec hB.1 hq s8 m3).1, trivial⟩
  · have d1 : f_C_has (PT up lk a) (nI b) = 0 := (has_0 hb _).mpr (by
      cases hb' : bt (PT up lk a) b
      · rfl
      · exact absurd (((PT_spec (lk := lk) hR.1 ha).2 b hb).mp hb') c2)
    have d2 : f_M_areTogether (nI a) (nI b) S = 0 := (tog_0 hS ha hb).mpr c2
    simp only [iF_pos d1, iF_pos d2]
    exact ⟨hw, pif (fun _ => trivial) (fun _ => ⟨in8 ha, pif (fun _ => trivial) (fun q => absurd d1 q)⟩), pif (fun _ => trivial) (fun _ => ⟨P_tog ha hb S, pif (fun _ => trivial) (fun q => absurd d2 q)⟩)⟩
end M

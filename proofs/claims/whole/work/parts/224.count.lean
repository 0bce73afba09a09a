/-! counts of all -/
section M
variable {up : Int32} {nm lk st S parts len row pl M R : Nat → Int32}
theorem ups_spec (hR : Rel up nm lk st) : P_M_ups st ∧ f_J_bitCount up = f_M_ups st := by
  refine ⟨⟨fun q hq => ?_, trivial⟩, ?_⟩
  · rw [Nat.zero_add]; exact ⟨by rw [z_nI]; exact in80 (by omega), trivial⟩
  · rw [bc_eq hR.1]
    symm
    refine cnt_spec (f := b_M_ups_1 st) (fun j v hj => ?_)
    unfold b_M_ups_1
    rw [z_nI, cl (by omega), hR.2.2.1 j hj]
    cases bt up j
    · exact Int32.add_zero v
    · rfl
theorem parts_spec (hR : Rel up nm lk st) (hS : exS up lk S) (hp : ∀ a, a < 8 → parts a = PT up lk a) : P_M_parts st S ∧ f_Paths_countParts up parts = f_M_parts st S := by
  refine ⟨⟨fun q hq => ?_, trivial⟩, ?_⟩
  · rw [Nat.zero_add]; exact ⟨P_mUp hq st, pif (fun _ => trivial) (fun _ => ⟨(partOf_spec hR.1 hS hq).1, trivial⟩)⟩
  · unfold f_Paths_countParts f_M_parts
    refine forN_congr (fun j v _ hj' => ?_)
    have hj : j < 8 := by omega
    unfold b_Paths_countParts_1 b_M_parts_1
    rw [iF_c (cUp hR hj), cl (by omega), hp j hj, (partOf_spec hR.1 hS hj).2]
    by_cases q : f_Mesh_isUp (nI j) up = 0
    · rw [iF_pos q, iF_pos q, Int32.add_zero]
    · rw [iF_neg q, iF_neg q]
      show _ = v + iF (PT up lk j &&& (f_C_bit (nI j) - 1) = 0) 1 0
      by_cases q2 : PT up lk j &&& (f_C_bit (nI j) - 1) = 0
      · rw [iF_pos q2, iF_pos q2]
      · rw [iF_neg q2, iF_neg q2, Int32.add_zero]
theorem lens (h : CR up nm lk len row pl M R) : ∀ a, a < 8 → len a = M a := fun a ha => by
  rcases both (h.1 a ha) (h.2 a ha) with ⟨-, h2, h3⟩ | ⟨e, -, -, -, -, h5, h6, -⟩
  · rw [h2, h3]
  · rw [h5, h6]
theorem paths_spec (h : CR up nm lk len row pl M R) : P_Paths_countPaths len ∧ f_Paths_countPaths len = f_M_paths M := by
  refine ⟨⟨fun q hq => ?_, trivial⟩, ?_⟩
  · rw [Nat.zero_add]; exact ⟨⟨in8 hq, trivial⟩, trivial⟩
  · unfold f_Paths_countPaths f_M_paths
    refine forN_congr (fun j v _ hj' => ?_)
    have hj : j < 8 := by omega
    unfold b_Paths_countPaths_1 b_M_paths_1 f_Paths_isLaid
    rw [cl (by omega), lens h j hj]
    by_cases q : M j ≤ 0
    · rw [iF_pos q, iF_pos rfl, Int32.add_zero]
    · rw [iF_neg q, iF_neg (by decide)]
theorem rows_spec (h : CR up nm lk len row pl M R) : f_Paths_countNodesOfPaths len = f_M_allRows M := by
  unfold f_Paths_countNodesOfPaths f_M_allRows
  refine forN_congr (fun j v _ hj' => ?_)
  have hj : j < 8 := by omega
  unfold b_Paths_countNodesOfPaths_1 b_M_allRows_1
  rw [cl (by omega), lens h j hj]
theorem upSet_spec (hR : Rel up nm lk st) : P_M_upSet st ∧ up = f_M_upSet st := by
  refine ⟨⟨fun q hq => ?_, trivial⟩, ?_⟩
  · rw [Nat.zero_add]; exact ⟨P_mUp hq st, trivial⟩
  · have h := forN_ind (f := b_M_upSet_1 st) (a := 0) (n := 8) (v := 0) (fun j v => S8 v ∧ ∀ b, b < 8 → (bt v b = true ↔ b < j ∧ bt up b = true)) ⟨S8_0, fun b _ => ⟨fun q => (by rw [b_0] at q; cases q), fun q => (by omega)⟩⟩ (fun j v hj hv => by
      obtain ⟨v1, v2⟩ := hv
      rw [Nat.zero_add]
      unfold b_M_upSet_1
      cases hu : bt up j
      · rw [iF_pos ((mUp_0 hR hj).mpr hu)]
        have e : v ||| 0 = v := b_ext fun i _ => by rw [b_or, b_0, Bool.or_false]
        rw [e]
        refine ⟨v1, fun b hb => (v2 b hb).trans ⟨fun ⟨q1, q2⟩ => ⟨by omega, q2⟩, fun ⟨q1, q2⟩ => ⟨?_, q2⟩⟩⟩
        by_cases e : b = j
        · rw [e, hu] at q2; cases q2
        · omega
      · rw [iF_neg (fun q => by rw [(mUp_0 hR hj).mp q] at hu; cases hu)]
        refine ⟨S8_or v1 (S8_bit hj), fun b hb => ?_⟩
        show bt (v ||| f_C_bit (nI j)) b = true ↔ _
        rw [b_or, b_bit hj, Bool.or_eq_true, v2 b hb, decide_eq_true_eq]
        constructor
        · rintro (⟨q1, q2⟩ | q1)
          · exact ⟨by omega, q2⟩
          · rw [q1]; exact ⟨by omega, hu⟩
        · rintro ⟨q1, q2⟩
          by_cases e : b = j
          · exact Or.inr e
          · exact Or.inl ⟨by omega, q2⟩)
    refine S8_ext hR.1 h.1 (fun i hi => ?_)
    have h2 : bt (f_M_upSet st) i = true ↔ i < 8 ∧ bt up i = true := h.2 i hi
    show _ = bt (f_M_upSet st) i
    cases h3 : bt up i <;> cases h4 : bt (f_M_upSet st) i <;> simp [h3, h4, hi] at h2 ⊢
end M
/-- which images are kept -/
def KB (v : Int32) (kp : Nat → Int32) : Prop := (∀ i, i < 2 → kp i = if bt v i then 1 else 0) ∧ ∀ i, 2 ≤ i → bt v i = false
theorem b_23 : ∀ i, i < 32 → bt 2 i = decide (i = 1) ∧ bt 3 i = decide (i < 2) := by decide +kernel
theorem KB_v {v : Int32} {kp : Nat → Int32} (h : KB v kp) : v = (iF (kp (0 : Int32).toNatClampNeg = 0) (0 : Int32) (1 : Int32)) + (iF (kp (1 : Int32).toNatClampNeg = 0) (0 : Int32) (2 : Int32)) := by
  rw [show (0 : Int32).toNatClampNeg = 0 by decide, show (1 : Int32).toNatClampNeg = 1 by decide, h.1 0 (by omega), h.1 1 (by omega)]
  have key : ∀ w : Int32, (∀ i, i < 32 → bt w i = if i = 0 then bt v 0 else if i = 1 then bt v 1 else false) → v = w := fun w hw => b_ext fun i hi => by
    rw [hw i hi]
    by_cases e : i = 0
    · rw [e, if_pos rfl]
    · rw [if_neg e]
      by_cases e1 : i = 1
      · rw [e1, if_pos rfl]
      · rw [if_neg e1, h.2 i (by omega)]
  cases h0 : bt v 0 <;> cases h1 : bt v 1
  · rw [if_neg (by decide), iF_pos rfl, iF_pos rfl]
    exact key _ (fun i hi => by rw [h0, h1]; show bt 0 i = _; rw [b_0]; simp)
  · rw [if_neg (by decide), if_pos rfl, iF_pos rfl, iF_neg (by decide)]
    exact key _ (fun i hi => by
      rw [h0, h1]; show bt 2 i = _; rw [(b_23 i hi).1]
      by_cases e : i = 0
      · rw [if_pos e, e]; rfl
      · rw [if_neg e]
        by_cases e1 : i = 1
        · rw [if_pos e1, e1]; rfl
        · rw [if_neg e1, decide_eq_false e1])
  · rw [if_pos rfl, if_neg (by decide), iF_neg (by decide), iF_pos rfl]
    exact key _ (fun i hi => by
      rw [h0, h1]; show bt 1 i = _; rw [b_1]
      by_cases e : i = 0
      · rw [if_pos e, e]; rfl
      · rw [if_neg e, decide_eq_false e]; split <;> rfl)
  · rw [if_pos rfl, iF_neg (by decide), iF_neg (by decide)]
    exact key _ (fun i hi => by
      rw [h0, h1]; show bt 3 i = _; rw [(b_23 i hi).2]
      by_cases e : i = 0
      · rw [if_pos e, e]; rfl
      · rw [if_neg e]
        by_cases e1 : i = 1
        · rw [if_pos e1, e1]; rfl
        · rw [if_neg e1, decide_eq_false (by omega)])
section M
variable {up : Int32} {nm lk st parts nexts befores steps len row pl : Nat → Int32}
theorem q_count (h : Rel up nm lk st) (hP : PO up nm lk parts nexts befores steps len row pl) {kv : Int32} {kp : Nat → Int32} (hk : KB kv kp) (x1 : Int32) (S N R M : Nat → Int32) : P_C_count x1 up lk parts len kv ∧ P_M_count x1 st S N R M kp ∧ f_C_count x1 up lk parts len kv = (f_M_count x1 st S N R M kp).1 := by
  obtain ⟨lp, hO⟩ := layPaths_spec h S N R M
  have hC : CR up nm lk len row pl (f_M_layPaths st S N R M).2.2.2 (f_M_layPaths st S N R M).2.2.1 := ⟨hP.2.2.2.2, hO.2.2⟩
  unfold P_M_count f_M_count P_C_count f_C_count
  generalize f_M_layPaths st S N R M = Y at *
  obtain ⟨a1, a2⟩ := ups_spec h
  obtain ⟨b1, b2⟩ := links_spec h
  obtain ⟨c1, c2, c3⟩ := counting_spec h
  obtain ⟨d1, d2⟩ := parts_spec h hO.1 hP.1
  obtain ⟨e1, e2⟩ := paths_spec hC
  have f2 := rows_spec hC
  obtain ⟨g1, g2⟩ := upSet_spec h
  refine ⟨pif (fun _ => trivial) (fun _ => pif (fun _ => trivial) (fun _ => pif (fun _ => ⟨c1, trivial⟩) (fun _ => pif (fun _ => trivial) (fun _ => pif (fun _ => ⟨e1, trivial⟩) (fun _ => trivial))))), ⟨lp, pif (fun _ => ⟨a1, trivial⟩) (fun _ => pif (fun _ => ⟨b1, trivial⟩) (fun _ => pif (fun _ => ⟨c2, trivial⟩) (fun _ => pif (fun _ => ⟨d1, trivial⟩) (fun _ => pif (fun _ => trivial) (fun _ => pif (fun _ => trivial) (fun _ => pif (fun _ => ⟨g1, trivial⟩) (fun _ => trivial)))))))⟩, ?_⟩
  by_cases q0 : x1 = 0
  · rw [iF_pos q0, iF_pos q0]; exact a2
  rw [iF_neg q0, iF_neg q0]
  by_cases q1 : x1 = 1
  · rw [iF_pos q1, iF_pos q1]; exact b2
  rw [iF_neg q1, iF_neg q1]
  by_cases q2 : x1 = 2
  · rw [iF_pos q2, iF_pos q2]; exact c3
  rw [iF_neg q2, iF_neg q2]
  by_cases q3 : x1 = 3
  · rw [iF_pos q3, iF_pos q3]; exact d2
  rw [iF_neg q3, iF_neg q3]
  by_cases q4 : x1 = 4
  · rw [iF_pos q4, iF_pos q4]; exact e2
  rw [iF_neg q4, iF_neg q4]
  by_cases q5 : x1 = 5
  · rw [iF_pos q5, iF_pos q5]; exact f2
  rw [iF_neg q5, iF_neg q5]
  by_cases q6 : x1 = 6
  · rw [iF_pos q6, iF_pos q6]; exact g2
  rw [iF_neg q6, iF_neg q6]
  by_cases q7 : x1 = 7
  · rw [iF_pos q7, iF_pos q7]; exact KB_v hk
  rw [iF_neg q7, iF_neg q7]
end M

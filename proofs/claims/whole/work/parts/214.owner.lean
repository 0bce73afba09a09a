/-! the owner of a name -/
def AW' (a b : Nat) : Nat := let d := if b ≤ a then a - b else b - a
  if 256 - d < d then 256 - d else d
theorem AW_lt {a b : Nat} (ha : a < 256) (hb : b < 256) : AW' a b < 256 := by
  unfold AW'
  by_cases q : b ≤ a <;> simp only [q, if_true, if_false] <;> split <;> omega
theorem neg_nI : ∀ d, d < 256 → 0 < d → ¬ (0 : Int32) ≤ -(nI d) ∧ - -(nI d) = nI d := by decide +kernel
theorem i256 {d : Nat} (h : d ≤ 256) : (256 : Int32) - nI d = nI (256 - d) := nI_subL (b := 256) h
theorem abs_eq {a b : Nat} (ha : a < 256) (hb : b < 256) : f_J_abs (nI a - nI b) = nI (if b ≤ a then a - b else b - a) := by
  unfold f_J_abs
  by_cases q : b ≤ a
  · rw [nI_subL q, iF_pos (nI_pos' (by omega)), if_pos q]
  · obtain ⟨h1, h2⟩ := neg_nI (b - a) (by omega) (by omega)
    rw [nI_subR (by omega), iF_neg h1, h2, if_neg q]
theorem rank_eq {a b : Nat} (ha : a < 256) (hb : b < 256) : f_C_rank (nI a) (nI b) = nI (AW' a b * 256 + a) := by
  unfold f_C_rank f_J_min AW'
  rw [abs_eq ha hb]
  generalize hd : (if b ≤ a then a - b else b - a) = d
  have hd' : d < 256 := by rw [← hd]; split <;> omega
  rw [i256 (by omega)]
  show iF _ _ _ * nI 256 + nI a = nI ((if 256 - d < d then 256 - d else d) * 256 + a)
  by_cases q : 256 - d < d
  · rw [iF_pos ((ltN (by omega) (by omega)).mpr q), if_pos q]
    show nI (256 - d) * nI 256 + nI a = _
    rw [show nI (256 - d) * nI 256 = nI ((256 - d) * 256) from (Int32.ofNat_mul _ _).symm, nI_add]
  · rw [iF_neg (fun q' => q ((ltN (by omega) (by omega)).mp q')), if_neg q]
    rw [show nI d * nI 256 = nI (d * 256) from (Int32.ofNat_mul _ _).symm, nI_add]
theorem away_eq {a b : Nat} (ha : a < 256) (hb : b < 256) : f_M_away (nI a) (nI b) = nI (AW' a b) := by
  unfold f_M_away f_M_less AW'
  have e : (iF (nI b ≤ nI a) (nI a - nI b) (nI b - nI a)) = nI (if b ≤ a then a - b else b - a) := by
    by_cases q : b ≤ a
    · rw [iF_pos ((leN (by omega) (by omega)).mpr q), if_pos q, nI_subL q]
    · rw [iF_neg (fun q' => q ((leN (by omega) (by omega)).mp q')), if_neg q, nI_subL (by omega)]
  rw [e]
  generalize hd : (if b ≤ a then a - b else b - a) = d
  have hd' : d < 256 := by rw [← hd]; split <;> omega
  rw [i256 (by omega)]
  show iF (nI (256 - d) ≤ nI d) (nI (256 - d)) (nI d) = nI (if 256 - d < d then 256 - d else d)
  by_cases q : 256 - d ≤ d
  · rw [iF_pos ((leN (by omega) (by omega)).mpr q)]
    by_cases q2 : 256 - d < d
    · rw [if_pos q2]
    · rw [if_neg q2]; congr 1; omega
  · rw [iF_neg (fun q' => q ((leN (by omega) (by omega)).mp q')), if_neg (by omega)]
/-- the rank of a node for a name -/
def RK (nm : Nat → Int32) (x n : Nat) : Nat := AW' (nm n).toNatClampNeg x * 256 + (nm n).toNatClampNeg
section M
variable {up : Int32} {nm lk st : Nat → Int32}
theorem nm_up (h : Rel up nm lk st) {n : Nat} (hn : mU up n) : (nm n).toNatClampNeg < 256 ∧ nm n = nI (nm n).toNatClampNeg ∧ st (8 + n) = nm n := by
  obtain ⟨h1, k, h2, h3⟩ := h.2.2.2.1 n hn.1 hn.2
  rw [h3, cl (by omega)]
  exact ⟨h2, rfl, by rw [h1, h3]⟩
theorem RK_lt (h : Rel up nm lk st) {x n : Nat} (hx : x < 256) (hn : mU up n) : RK nm x n < 65536 := by
  have h1 := (nm_up h hn).1
  have h2 := AW_lt h1 hx
  unfold RK; omega
theorem RK_inj (h : Rel up nm lk st) {x n m : Nat} (hx : x < 256) (hn : mU up n) (hm : mU up m) (e : RK nm x n = RK nm x m) : n = m := by
  obtain ⟨h1, h2, -⟩ := nm_up h hn
  obtain ⟨g1, g2, -⟩ := nm_up h hm
  unfold RK at e
  exact h.2.2.2.2.1 n m hn.1 hm.1 hn.2 hm.2 (by rw [h2, g2]; congr 1; omega)
theorem rank_RK (h : Rel up nm lk st) {x n : Nat} (hx : x < 256) (hn : mU up n) : f_C_rank (nm n) (nI x) = nI (RK nm x n) := by
  obtain ⟨h1, h2, -⟩ := nm_up h hn
  rw [h2, rank_eq h1 hx]
  rfl
theorem isNearer_0 (h : Rel up nm lk st) {x j m : Nat} (hx : x < 256) (hj : mU up j) (hm : mU up m) : (f_M_isNearer (nI j) (nI m) (nI x) st = 0) ↔ RK nm x m ≤ RK nm x j := by
  have j8 := hj.1
  have m8 := hm.1
  obtain ⟨h1, h2, h3⟩ := nm_up h hj
  obtain ⟨g1, g2, g3⟩ := nm_up h hm
  unfold f_M_isNearer
  rw [iF_pos (c := (0 : Int32) ≤ nI m) (nI_pos' (by omega)), e_nI, e_nI, cl (by omega), cl (by omega), h3, g3, h2, g2, away_eq h1 hx, away_eq g1 hx]
  unfold RK
  have a1 := AW_lt h1 hx
  have a2 := AW_lt g1 hx
  rw [← h2, ← g2]
  by_cases q1 : AW' (nm j).toNatClampNeg x < AW' (nm m).toNatClampNeg x
  · rw [iF_pos ((ltN (by omega) (by omega)).mpr q1)]
    exact ⟨fun q => absurd q (by decide), fun q => by omega⟩
  · rw [iF_neg (fun q => q1 ((ltN (by omega) (by omega)).mp q))]
    by_cases q2 : AW' (nm j).toNatClampNeg x = AW' (nm m).toNatClampNeg x
    · rw [iF_pos (by rw [q2]), h2, g2]
      by_cases q3 : (nm m).toNatClampNeg ≤ (nm j).toNatClampNeg
      · rw [iF_pos ((leN (by omega) (by omega)).mpr q3), ← h2, ← g2]
        exact ⟨fun _ => by omega, fun _ => rfl⟩
      · rw [iF_neg (fun q => q3 ((leN (by omega) (by omega)).mp q)), ← h2, ← g2]
        exact ⟨fun q => absurd q (by decide), fun q => by omega⟩
    · rw [iF_neg (nI_ne (by omega) (by omega) q2)]
      exact ⟨fun _ => by omega, fun _ => rfl⟩
theorem P_isNearer {j m : Nat} (hj : j < 8) (hm : m < 8) (x : Int32) (st : Nat → Int32) : P_M_isNearer (nI j) (nI m) x st := by
  have i1 : vp_in (8 + nI j) 80 := by rw [e_nI]; exact in80 (by omega)
  have i2 : vp_in (8 + nI m) 80 := by rw [e_nI]; exact in80 (by omega)
  exact pif (fun _ => ⟨i1, i2, pif (fun _ => trivial) (fun _ => pif (fun _ => ⟨i1, i2, trivial⟩) (fun _ => trivial))⟩) (fun _ => trivial)
theorem P_isNearer6 (j x : Int32) (st : Nat → Int32) : P_M_isNearer j (-6) x st := pif (fun q => absurd q (by decide)) (fun _ => trivial)
def nrI (up : Int32) (nm : Nat → Int32) (E : Int32) (x j : Nat) (v : Int32) : Prop := (v = -6 ∧ ∀ i, i < j → bt E i = false) ∨ ∃ m, m < 8 ∧ bt E m = true ∧ v = nI m ∧ ∀ i, i < j → bt E i = true → RK nm x m ≤ RK nm x i
theorem near1_s (h : Rel up nm lk st) {E : Int32} (hE : ∀ i, i < 8 → bt E i = true → bt up i = true) {x : Nat} (hx : x < 256) {j : Nat} (hj : j < 8) {v : Int32} (hv : nrI up nm E x j v) : nrI up nm E x (j + 1) (b_M_nearest_1 E (nI x) st j v) ∧ P_M_nearest_1 E (nI x) st j v := by
  unfold b_M_nearest_1 P_M_nearest_1
  rw [b_sh hj]
  cases hb : bt E j
  · rw [if_neg (by decide), iF_neg (by decide)]
    refine ⟨?_, pif (fun q => absurd q (by decide)) (fun _ => trivial)⟩
    rcases hv with ⟨v1, v2⟩ | ⟨m, m1, m2, m3, m4⟩
    · refine Or.inl ⟨v1, fun i hi => ?_⟩
      by_cases e : i = j
      · rw [e]; exact hb
      · exact v2 i (by omega)
    · refine Or.inr ⟨m, m1, m2, m3, fun i hi hi2 => ?_⟩
      by_cases e : i = j
      · rw [e, hb] at hi2; cases hi2
      · exact m4 i (by omega) hi2
  · rw [if_pos rfl, iF_pos rfl]
    rcases hv with ⟨v1, v2⟩ | ⟨m, m1, m2, m3, m4⟩
    · rw [v1]
      refine ⟨?_, pif (fun _ => ⟨P_isNearer6 _ _ st, trivial⟩) (fun _ => trivial)⟩
      have : f_M_isNearer (nI j) (-6) (nI x) st = 1 := by unfold f_M_isNearer; rw [iF_neg (by decide)]
      rw [this, iF_neg (by decide)]
      refine Or.inr ⟨j, hj, hb, rfl, fun i hi hi2 => ?_⟩
      by_cases e : i = j
      · rw [e]; exact Nat.le_refl _
      · rw [v2 i (by omega)] at hi2; cases hi2
    · rw [m3]
      refine ⟨?_, pif (fun _ => ⟨P_isNearer hj m1 _ st, trivial⟩) (fun _ => trivial)⟩
      rw [iF_c (isNearer_0 h hx ⟨hj, hE j hj hb⟩ ⟨m1, hE m m1 m2⟩)]
      by_cases q : RK nm x m ≤ RK nm x j
      · rw [iF_pos q]
        refine Or.inr ⟨m, m1, m2, rfl, fun i hi hi2 => ?_⟩
        by_cases e : i = j
        · rw [e]; exact q
        · exact m4 i (by omega) hi2
      · rw [iF_neg q]
        refine Or.inr ⟨j, hj, hb, rfl, fun i hi hi2 => ?_⟩
        by_cases e : i = j
        · rw [e]; exact Nat.le_refl _
        · have := m4 i (by omega) hi2; omega
theorem nearest_spec (h : Rel up nm lk st) {E : Int32} (hE : ∀ i, i < 8 → bt E i = true → bt up i = true) {x : Nat} (hx : x < 256) : P_M_nearest E (nI x) st ∧ nrI up nm E x 8 (f_M_nearest E (nI x) st) := by
  have key : ∀ q, q ≤ 8 → nrI up nm E x q (forN (b_M_nearest_1 E (nI x) st) 0 q (-6)) := fun q hq => forN_ind (f := b_M_nearest_1 E (nI x) st) (a := 0) (n := q) (v := -6) (nrI up nm E x) (Or.inl ⟨rfl, fun i hi => by omega⟩) (fun j v hj hv => by rw [Nat.zero_add]; exact (near1_s h hE hx (by omega) hv).1)
  exact ⟨⟨fun q hq => by rw [Nat.zero_add]; exact (near1_s h hE hx hq (key q (by omega))).2, trivial⟩, key 8 (Nat.le_refl 8)⟩
theorem inPart_spec (h : Rel up nm lk st) {parts : Nat → Int32} {a : Nat} (ha : mU up a) (hp : parts a = PT up lk a) {x : Nat} (hx : x < 256) : P_Paths_nearestInPart (nI a) (nI x) parts nm ∧ ∃ m, m < 8 ∧ mD up lk a m < 1000 ∧ f_Paths_nearestInPart (nI a) (nI x) parts nm = nI m ∧ ∀ i, i < 8 → mD up lk a i < 1000 → RK nm x m ≤ RK nm x i := by
  have a8 := ha.1
  have step : ∀ j v, j < 8 → (∃ m, m < 8 ∧ mD up lk a m < 1000 ∧ v = nI m ∧ ∀ i, i < j → mD up lk a i < 1000 → RK nm x m ≤ RK nm x i) → (∃ m, m < 8 ∧ mD up lk a m < 1000 ∧ b_Paths_nearestInPart_1 parts (nI a) nm (nI x) j v = nI m ∧ ∀ i, i < j + 1 → mD up lk a i < 1000 → RK nm x m ≤ RK nm x i) ∧ P_Paths_nearestInPart_1 parts (nI a) nm (nI x) j v := fun j v hj ⟨m, m1, m2, m3, m4⟩ => by
    unfold b_Paths_nearestInPart_1 P_Paths_nearestInPart_1
    rw [m3, cl (by omega), cl (by omega), cl (by omega), hp]
    refine ⟨?_, in8 a8, pif (fun _ => trivial) (fun _ => ⟨in8 m1, trivial⟩)⟩
    by_cases q : mD up lk a j < 1000
    · have c : ¬ f_C_has (PT up lk a) (nI j) = 0 := fun q' => by
        have := (has_0 hj _).mp q'
        rw [((PT_spec (lk := lk) h.1 a8).2 j hj).mpr q] at this
        cases this
      rw [iF_neg c, rank_RK h hx (mD_up m2).2, rank_RK h hx (mD_up q).2]
      have l1 := RK_lt h hx (mD_up m2).2
      have l2 := RK_lt h hx (mD_up q).2
      by_cases q2 : RK nm x m ≤ RK nm x j
      · rw [iF_pos ((nI_leI (by omega) (by omega)).mpr q2)]
        refine ⟨m, m1, m2, rfl, fun i hi hi2 => ?_⟩
        by_cases e : i = j
        · rw [e]; exact q2
        · exact m4 i (by omega) hi2
      · rw [iF_neg (fun q' => q2 ((nI_leI (by omega) (by omega)).mp q'))]
        refine ⟨j, hj, q, rfl, fun i hi hi2 => ?_⟩
        by_cases e : i = j
        · rw [e]; exact Nat.le_refl _
        · have := m4 i (by omega) hi2; omega
    · have c : f_C_has (PT up lk a) (nI j) = 0 := (has_0 hj _).mpr (by
        cases hb : bt (PT up lk a) j
        · rfl
        · exact absurd (((PT_spec (lk := lk) h.1 a8).2 j hj).mp hb) q)
      rw [iF_pos c]
      refine ⟨m, m1, m2, rfl, fun i hi hi2 => ?_⟩
      by_cases e : i = j
      · rw [e] at hi2; exact absurd hi2 q
      · exact m4 i (by omega) hi2
  have key : ∀ q, q ≤ 8 → ∃ m, m < 8 ∧ mD up lk a m < 1000 ∧ forN (b_Paths_nearestInPart_1 parts (nI a) nm (nI x)) 0 q (nI a) = nI m ∧ ∀ i, i < q → mD up lk a i < 1000 → RK nm x m ≤ RK nm x i := fun q hq => forN_ind (f := b_Paths_nearestInPart_1 parts (nI a) nm (nI x)) (a := 0) (n := q) (v := nI a) (fun j v => ∃ m, m < 8 ∧ mD up lk a m < 1000 ∧ v = nI m ∧ ∀ i, i < j → mD up lk a i < 1000 → RK nm x m ≤ RK nm x i) ⟨a, a8, by rw [mD_self ha]; decide, rfl, fun i hi => by omega⟩ (fun j v hj hv => by rw [Nat.zero_add]; exact (step j v (by omega) hv).1)
  exact ⟨⟨fun q hq => by rw [Nat.zero_add]; exact (step q _ hq (key q (by omega))).2, trivial⟩, key 8 (Nat.le_refl 8)⟩
theorem PT_sub (hu : S8 up) {a : Nat} (ha : a < 8) : ∀ i, i < 8 → bt (PT up lk a) i = true → bt up i = true := fun i hi q => (mD_up (((PT_spec (lk := lk) hu ha).2 i hi).mp q)).2.2
theorem owner_eq (h : Rel up nm lk st) {parts : Nat → Int32} {a : Nat} (ha : mU up a) (hp : parts a = PT up lk a) {x : Nat} (hx : x < 256) : f_Paths_nearestInPart (nI a) (nI x) parts nm = f_M_nearest (PT up lk a) (nI x) st := by
  obtain ⟨-, m, m1, m2, m3, m4⟩ := inPart_spec h ha hp hx
  obtain ⟨-, n⟩ := nearest_spec h (PT_sub (lk := lk) h.1 ha.1) hx
  have hP := (PT_spec (lk := lk) h.1 ha.1).2
  rcases n with ⟨-, n2⟩ | ⟨k, k1, k2, k3, k4⟩
  · have := n2 m m1
    rw [(hP m m1).mpr m2] at this; cases this
  · have e1 := m4 k k1 ((hP k k1).mp k2)
    have e2 := k4 m m1 ((hP m m1).mpr m2)
    rw [m3, k3, RK_inj h hx (mD_up m2).2 (mD_up ((hP k k1).mp k2)).2 (by omega)]
theorem q_owner (h : Rel up nm lk st) {parts : Nat → Int32} (hp : ∀ a, a < 8 → parts a = PT up lk a) (x1 x2 : Int32) (S : Nat → Int32) : P_C_owner x1 x2 up parts nm ∧ P_M_owner x1 x2 S st ∧ f_C_owner x1 x2 up parts nm = (f_M_owner x1 x2 S st).1 := by
  obtain ⟨lp, hS⟩ := laySteps_spec h S
  unfold P_M_owner f_M_owner P_C_owner f_C_owner f_C_refusePacket
  generalize f_M_laySteps st S = L at *
  rw [mNode, mName]
  by_cases c1 : f_C_isNode x1 = 0
  · rw [iF_pos c1, iF_pos c1]
    rw [iF_neg (show ¬ (-1 : Int32) = 0 by decide)]
    exact ⟨pif (fun q => absurd q (by decide)) (fun _ => trivial), pif (fun _ => trivial) (fun q => absurd c1 q), rfl⟩
  obtain ⟨a, ha, rfl⟩ := isNode_of c1
  rw [iF_neg c1, iF_neg c1]
  by_cases c2 : f_C_isName x2 = 0
  · rw [iF_pos c2, iF_pos c2]
    rw [iF_neg (show ¬ (-2 : Int32) = 0 by decide)]
    exact ⟨pif (fun q => absurd q (by decide)) (fun _ => trivial), pif (fun _ => trivial) (fun _ => pif (fun _ => trivial) (fun q => absurd c2 q)), rfl⟩
  obtain ⟨x, hx, rfl⟩ := isName_of c2
  rw [iF_neg c2, iF_neg c2, iF_c (cUp h ha)]
  by_cases c4 : f_Mesh_isUp (nI a) up = 0
  · rw [iF_pos c4, iF_pos c4]
    rw [iF_neg (show ¬ (-3 : Int32) = 0 by decide)]
    exact ⟨pif (fun q => absurd q (by decide)) (fun _ => trivial), pif (fun _ => trivial) (fun _ => pif (fun _ => trivial) (fun _ => ⟨P_mUp ha st, pif (fun _ => trivial) (fun q => absurd ((cUp h ha).mpr c4) q)⟩)), rfl⟩
  have hua : mU up a := ⟨ha, by
    cases hb : bt up a
    · exact absurd ((isUp_0 ha up).mpr hb) c4
    · rfl⟩
  obtain ⟨t1, t2⟩ := partOf_spec h.1 hS ha
  rw [iF_neg c4, iF_neg c4, iF_pos (show (0 : Int32) = 0 from rfl), t2]
  exact ⟨pif (fun _ => ⟨(inPart_spec h hua (hp a ha) hx).1, trivial⟩) (fun _ => trivial), pif (fun _ => trivial) (fun _ => pif (fun _ => trivial) (fun _ => ⟨P_mUp ha st, pif (fun _ => trivial) (fun _ => ⟨lp, t1, (nearest_spec h (PT_sub (lk := lk) h.1 ha) hx).1, trivial⟩)⟩)), owner_eq h hua (hp a ha) hx⟩
end M

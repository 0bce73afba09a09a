theorem isNode_1 {n : Nat} (hn : n < 8) : ¬ f_C_isNode (nI n) = 0 := by
  unfold f_C_isNode
  rw [iF_neg (nI_n0 (by omega)), iF_neg (fun q => by rw [le8 (by omega)] at q; omega)]
  decide
theorem isNode_m6 : f_C_isNode (-6) = 0 := by
  unfold f_C_isNode
  rw [iF_pos m6_lt]
theorem isNode_of {x : Int32} (h : ¬ f_C_isNode x = 0) : ∃ n, n < 8 ∧ x = nI n := by
  unfold f_C_isNode at h
  by_cases h1 : x < 0
  · rw [iF_pos h1] at h; exact absurd rfl h
  · rw [iF_neg h1] at h
    by_cases h2 : (8 : Int32) ≤ x
    · rw [iF_pos h2] at h; exact absurd rfl h
    · obtain ⟨j, hj, rfl⟩ := nI_of h1
      refine ⟨j, ?_, rfl⟩
      rcases Nat.lt_or_ge j 8 with q | q
      · exact q
      · exact absurd (nI_le (a := 8) q hj) h2
/-- where a node is in a row -/
def plIs (up : Int32) (lk : Nat → Int32) (a e n : Nat) (F : Nat → Int32) : Prop := (∀ k, k < n → F (sq up lk a e k) = nI k) ∧ ∀ b, b < 8 → (∀ k, k < n → sq up lk a e k ≠ b) → F b = -6
/-- what is laid from a node -/
def laidIs (up : Int32) (nm lk : Nat → Int32) (a : Nat) (len : Int32) (row pl : Nat → Int32) : Prop := (SN up nm lk a = -6 ∧ len = 0 ∧ ∀ b, b < 8 → pl b = -6) ∨ (∃ e, e < 8 ∧ SN up nm lk a = nI e ∧ e ≠ a ∧ mD up lk a e < 1000 ∧ len = nI (mD up lk a e + 1) ∧ (∀ k, k ≤ mD up lk a e → row k = nI (sq up lk a e k)) ∧ plIs up lk a e (mD up lk a e + 1) pl)
/-- one row changed: lengths, rows, places -/
def oneRow (a : Nat) (L L0 : Nat → Int32) (R R0 Pl Pl0 : Nat → Int32) : Prop := (∀ i, i ≠ a → L i = L0 i) ∧ (∀ i, (i < 8 * a ∨ 8 * a + 8 ≤ i) → R i = R0 i) ∧ ∀ i, (i < 8 * a ∨ 8 * a + 8 ≤ i) → Pl i = Pl0 i
def lfP (up : Int32) (lk : Nat → Int32) (a e : Nat) (L0 R0 Pl0 : Nat → Int32) (j : Nat) (v : Int32 × (Nat → Int32) × (Nat → Int32) × (Nat → Int32)) : Prop := j ≤ mD up lk a e + 1 ∧ v.1 = (if j ≤ mD up lk a e then nI (sq up lk a e j) else -6) ∧ v.2.1 a = nI j ∧ (∀ k, k < j → v.2.2.1 (8 * a + k) = nI (sq up lk a e k)) ∧ plIs up lk a e j (fun b => v.2.2.2 (8 * a + b)) ∧ oneRow a v.2.1 L0 v.2.2.1 R0 v.2.2.2 Pl0
theorem layFrom_spec {up : Int32} {nm lk S : Nat → Int32} (hu : S8 up) (hS : ∀ a, a < 8 → ∀ b, b < 8 → S (8 * a + b) = stC up lk a b) {a : Nat} (ha : a < 8) (hN : SN up nm lk a = -6 ∨ ∃ e, e < 8 ∧ SN up nm lk a = nI e ∧ e ≠ a ∧ mD up lk a e < 1000) (L R Pl : Nat → Int32) : P_Paths_layFrom (nI a) (SN up nm lk a) S up lk L R Pl ∧ laidIs up nm lk a ((f_Paths_layFrom (nI a) (SN up nm lk a) S up lk L R Pl).1 a) (fun k => (f_Paths_layFrom (nI a) (SN up nm lk a) S up lk L R Pl).2.1 (8 * a + k)) (fun b => (f_Paths_layFrom (nI a) (SN up nm lk a) S up lk L R Pl).2.2 (8 * a + b)) ∧ oneRow a (f_Paths_layFrom (nI a) (SN up nm lk a) S up lk L R Pl).1 L (f_Paths_layFrom (nI a) (SN up nm lk a) S up lk L R Pl).2.1 R (f_Paths_layFrom (nI a) (SN up nm lk a) S up lk L R Pl).2.2 Pl := by
  have hcl := clear_spec (f := b_Paths_layFrom_1) (fun _ _ _ => rfl) ha Pl 8 (Nat.le_refl 8)
  have hP1 : ∀ q, q < 8 → P_Paths_layFrom_1 (nI a) (0 + q) (forN (b_Paths_layFrom_1 (nI a)) 0 q Pl) := fun q hq => by
    rw [Nat.zero_add]
    exact ⟨by rw [ix1 ha hq]; exact in64 (by omega), trivial⟩
  rcases hN with hN | ⟨e, he, hN, hne, hd⟩
  · rw [hN]
    have hf1 : forX (b_Paths_layFrom_2 (-6) S up lk (nI a)) 0 1 ((iF ((f_C_isNode (-6)) = 0) (-6) (nI a)), (upd L (nI a).toNatClampNeg 0), R, (forN (b_Paths_layFrom_1 (nI a)) 0 8 Pl)) = .inr (-6, upd L (nI a).toNatClampNeg 0, R, forN (b_Paths_layFrom_1 (nI a)) 0 8 Pl) := by
      rw [forX_l (forX_0 _ _ _), iF_pos isNode_m6]
      unfold b_Paths_layFrom_2
      rw [iF_neg (fun q => by rw [le8 (by decide)] at q; omega), iF_pos isNode_m6]
    have hr : ∀ n, forX (b_Paths_layFrom_2 (-6) S up lk (nI a)) 0 (1 + n) ((iF ((f_C_isNode (-6)) = 0) (-6) (nI a)), (upd L (nI a).toNatClampNeg 0), R, (forN (b_Paths_layFrom_1 (nI a)) 0 8 Pl)) = .inr (-6, upd L (nI a).toNatClampNeg 0, R, forN (b_Paths_layFrom_1 (nI a)) 0 8 Pl) := by
      intro n
      induction n with
      | zero => exact hf1
      | succ n ih => exact forX_r ih
    have hres : f_Paths_layFrom (nI a) (-6) S up lk L R Pl = (upd L a 0, R, forN (b_Paths_layFrom_1 (nI a)) 0 8 Pl) := by
      unfold f_Paths_layFrom
      rw [show (9 : Nat) = 1 + 8 from rfl, hr 8, cl (by omega)]
      rfl
    rw [hres]
    refine ⟨⟨in8 ha, hP1, ⟨_, hr 8⟩, fun q u hq hfq => ?_, trivial⟩, Or.inl ⟨hN, ?_, fun b hb => ?_⟩, fun i hi => ?_, fun i _ => rfl, fun i hi => hcl.2 i hi⟩
    · cases q with
      | zero =>
        rw [forX_0] at hfq
        cases hfq
        refine ⟨⟨fun _ => trivial, fun _ => ⟨⟨fun _ => trivial, fun c => ?_⟩, trivial⟩⟩, trivial⟩
        rw [iF_pos isNode_m6] at c
        exact absurd isNode_m6 c
      | succ q =>
        rw [show q + 1 = 1 + q by omega, hr q] at hfq
        cases hfq
    · show upd L a 0 a = 0
      rw [upd_eq, if_pos rfl]
    · show forN (b_Paths_layFrom_1 (nI a)) 0 8 Pl (8 * a + b) = -6
      rw [hcl.1 b hb]; exact if_pos hb
    · show upd L a 0 i = L i
      rw [upd_eq, if_neg hi]
  · rw [hN]
    have hD8 := mD_8 hd
    have hD0 : 0 < mD up lk a e := by
      rcases Nat.eq_zero_or_pos (mD up lk a e) with q | q
      · exact absurd (mD_0 q).1 hne
      · exact q
    have hsq := sq_spec ha hd
    have h00 : lfP up lk a e L R Pl 0 ((iF ((f_C_isNode (nI e)) = 0) (-6) (nI a)), (upd L (nI a).toNatClampNeg 0), R, (forN (b_Paths_layFrom_1 (nI a)) 0 8 Pl)) := by
      refine ⟨by omega, ?_, ?_, fun k hk => by omega, ⟨fun k hk => by omega, fun b hb _ => ?_⟩, fun i hi => ?_, fun i _ => rfl, fun i hi => hcl.2 i hi⟩
      · rw [if_pos (by omega)]
        exact iF_neg (isNode_1 he)
      · show upd L (nI a).toNatClampNeg 0 a = nI 0
        rw [cl (by omega), upd_eq, if_pos rfl]; rfl
      · show forN (b_Paths_layFrom_1 (nI a)) 0 8 Pl (8 * a + b) = -6
        rw [hcl.1 b hb]; exact if_pos hb
      · show upd L (nI a).toNatClampNeg 0 i = L i
        rw [cl (by omega), upd_eq, if_neg hi]
    have hss : ∀ (j : Nat) (v v' : Int32 × (Nat → Int32) × (Nat → Int32) × (Nat → Int32)), j < 9 → lfP up lk a e L R Pl j v → b_Paths_layFrom_2 (nI e) S up lk (nI a) (0 + j) v = .inl v' → lfP up lk a e L R Pl (j + 1) v' := by
      intro j v v' hj9 ⟨h1, h2, h3, h4, h5, h6⟩ hf
      unfold b_Paths_layFrom_2 at hf
      rw [Nat.zero_add] at hf
      obtain ⟨c1, hf⟩ := iFrl hf
      obtain ⟨c2, hf⟩ := iFrl hf
      rw [le8 (by omega)] at c1
      cases hf
      have hjD : j ≤ mD up lk a e := by
        rcases Nat.lt_or_ge (mD up lk a e) j with q | q
        · rw [if_neg (by omega)] at h2
          rw [h2] at c2
          exact absurd isNode_m6 c2
        · exact q
      rw [if_pos hjD] at h2
      obtain ⟨s1, s2, s3⟩ := hsq j hjD
      refine ⟨by omega, ?_, ?_, fun k hk => ?_, ⟨fun k hk => ?_, fun b hb hk => ?_⟩, fun i hi => ?_, fun i hi => ?_, fun i hi => ?_⟩
      · show f_Paths_firstNearer v.1 (nI e) S up lk = _
        rw [h2]
        obtain ⟨-, n1, n2⟩ := near_spec hu hS s1 he
        by_cases hq : j + 1 ≤ mD up lk a e
        · rw [if_pos hq, n1 (by omega)]; rfl
        · rw [if_neg hq, n2 (by omega)]
      · show upd v.2.1 (nI a).toNatClampNeg (nI j + 1) a = _
        rw [cl (by omega), upd_eq, if_pos rfl, nI_1]
      · show upd v.2.2.1 ((nI a * 8) + nI j).toNatClampNeg v.1 (8 * a + k) = _
        rw [ix1 ha (by omega), cl (by omega), upd_eq]
        by_cases ek : k = j
        · rw [if_pos (by omega), h2, ek]
        · rw [if_neg (by omega)]; exact h4 k (by omega)
      · show upd v.2.2.2 ((nI a * 8) + v.1).toNatClampNeg (nI j) (8 * a + sq up lk a e k) = _
        rw [h2, ix1 ha s1, cl (by omega), upd_eq]
        by_cases ek : k = j
        · rw [if_pos (by rw [ek]), ek]
        · rw [if_neg (fun q => ek (sq_inj ha hd (by omega) hjD (by omega)))]; exact h5.1 k (by omega)
      · show upd v.2.2.2 ((nI a * 8) + v.1).toNatClampNeg (nI j) (8 * a + b) = _
        rw [h2, ix1 ha s1, cl (by omega), upd_eq, if_neg (fun q => hk j (by omega) (by omega))]
        exact h5.2 b hb (fun k hk' => hk k (by omega))
      · show upd v.2.1 (nI a).toNatClampNeg (nI j + 1) i = _
        rw [cl (by omega), upd_eq, if_neg hi]; exact h6.1 i hi
      · show upd v.2.2.1 ((nI a * 8) + nI j).toNatClampNeg v.1 i = _
        rw [ix1 ha (by omega), cl (by omega), upd_eq, if_neg (by omega)]; exact h6.2.1 i hi
      · show upd v.2.2.2 ((nI a * 8) + v.1).toNatClampNeg (nI j) i = _
        rw [h2, ix1 ha s1, cl (by omega), upd_eq, if_neg (by omega)]; exact h6.2.2 i hi
    have hend := forX_end (f := b_Paths_layFrom_2 (nI e) S up lk (nI a)) (a := 0) (n := 9) (N := 8) (lfP up lk a e L R Pl) h00 hss (by decide) (fun u _ => ⟨_, iF_pos ((le8 (by decide)).mpr (by decide))⟩)
    obtain ⟨i1, i2⟩ := forX_inv (f := b_Paths_layFrom_2 (nI e) S up lk (nI a)) (a := 0) (n := 9) (lfP up lk a e L R Pl) h00 hss
    obtain ⟨x, hx⟩ := id hend
    obtain ⟨j, u, hj, ⟨p1, p2, p3, p4, p5, p6⟩, -, hf⟩ := i2 x hx
    have hxu : x = u ∧ j = mD up lk a e + 1 := by
      unfold b_Paths_layFrom_2 at hf
      rw [Nat.zero_add] at hf
      rcases iFrr hf with ⟨c1, c2⟩ | ⟨c1, hf⟩
      · rw [le8 (by omega)] at c1
        exact ⟨c2.symm, by omega⟩
      · rcases iFrr hf with ⟨c2, c3⟩ | ⟨c2, hf⟩
        · refine ⟨c3.symm, ?_⟩
          rcases Nat.lt_or_ge (mD up lk a e) j with q | q
          · omega
          · rw [if_pos q] at p2
            rw [p2] at c2
            exact absurd c2 (isNode_1 (hsq j q).1)
        · cases hf
    obtain ⟨rfl, rfl⟩ := hxu
    have hres : f_Paths_layFrom (nI a) (nI e) S up lk L R Pl = (x.2.1, x.2.2.1, x.2.2.2) := by
      unfold f_Paths_layFrom
      rw [hx]
      rfl
    rw [hres]
    refine ⟨⟨in8 ha, hP1, hend, fun q u hq hfq => ?_, trivial⟩, Or.inr ⟨e, he, hN, hne, hd, p3, fun k hk => p4 k (by omega), p5⟩, p6⟩
    rw [Nat.zero_add]
    refine ⟨⟨fun _ => trivial, fun c1 => ⟨⟨fun _ => trivial, fun c2 => ?_⟩, trivial⟩⟩, trivial⟩
    rw [le8 (by omega)] at c1
    obtain ⟨n, hn, hun⟩ := isNode_of c2
    refine ⟨by rw [ix1 ha (by omega)]; exact in64 (by omega), by rw [hun, ix1 ha hn]; exact in64 (by omega), in8 ha, ?_, trivial⟩
    rw [hun]
    exact (near_spec hu hS hn he).1

/-! bridges -/
section M
variable {up : Int32} {nm lk st : Nat → Int32}
noncomputable abbrev cut (lk : Nat → Int32) (a b : Nat) : Nat → Int32 := f_Mesh_setLink (nI a) (nI b) 0 lk
theorem cut_G {a b : Nat} (ha : a < 8) (hb : b < 8) (hne : a ≠ b) {x y : Nat} : mG up (cut lk a b) x y ↔ mG up lk x y ∧ ¬ ((x = a ∧ y = b) ∨ (x = b ∧ y = a)) := by
  unfold mG
  constructor
  · rintro ⟨h1, h2, h3, h4, h5⟩
    rw [set_bt ha hb hne (f := 0) (on := false) ⟨fun _ => rfl, fun _ => rfl⟩ lk h1 (by omega)] at h5
    by_cases e : (x = a ∧ y = b) ∨ (x = b ∧ y = a)
    · rw [if_pos e] at h5; cases h5
    · rw [if_neg e] at h5; exact ⟨⟨h1, h2, h3, h4, h5⟩, e⟩
  · rintro ⟨⟨h1, h2, h3, h4, h5⟩, e⟩
    refine ⟨h1, h2, h3, h4, ?_⟩
    rw [set_bt ha hb hne (f := 0) (on := false) ⟨fun _ => rfl, fun _ => rfl⟩ lk h1 (by omega), if_neg e]
    exact h5
def hwP (up : Int32) (lk' : Nat → Int32) (a j : Nat) (v : Int32 × Int32) : Prop := j ≤ 8 ∧ (∀ c, c < 8 → (bt v.1 c = true ↔ mD up lk' a c < j + 1)) ∧ ∀ c, c < 8 → (bt v.2 c = true ↔ mD up lk' a c = j + 1)
theorem hold_spec (h : Rel up nm lk st) {a b : Nat} (ha : mU up a) (hb : b < 8) (hne : a ≠ b) : P_Mesh_holdsWithout (nI a) (nI b) up lk ∧ ((f_Mesh_holdsWithout (nI a) (nI b) up lk = 0) ↔ ¬ mD up (cut lk a b) a b < 1000) := by
  have a8 := ha.1
  have i0 : hwP up (cut lk a b) a 0 (f_C_bit (nI a), f_Mesh_neighbours (nI a) up lk &&& (f_C_bit (nI b) ^^^ -1)) := by
    refine ⟨by omega, fun c hc => ?_, fun c hc => ?_⟩
    · show bt (f_C_bit (nI a)) c = true ↔ _
      rw [b_bit a8, decide_eq_true_eq]
      constructor
      · rintro rfl; rw [mD_self ha]; omega
      · intro q; exact (mD_0 (show mD up (cut lk a b) a c = 0 by omega)).1
    · show bt (f_Mesh_neighbours (nI a) up lk &&& (f_C_bit (nI b) ^^^ -1)) c = true ↔ _
      rw [b_and, b_not _ (by omega), b_bit hb, Bool.and_eq_true, nb_G a8 hc, Bool.not_eq_true', decide_eq_false_iff_not]
      constructor
      · rintro ⟨q1, q2⟩
        have g : mG up (cut lk a b) a c := (cut_G a8 hb hne).mpr ⟨q1, fun q => q.elim (fun q => q2 q.2) (fun q => hne q.1)⟩
        have s1 := mD_step (a := a) (b := a) (by rw [mD_self ha]; omega) g
        rw [mD_self ha] at s1
        rcases Nat.eq_zero_or_pos (mD up (cut lk a b) a c) with r | r
        · have := (mD_0 r).1
          subst this
          have := q1.2.2.2.2
          rw [h.2.2.2.2.2.2.2.2 c a8] at this; cases this
        · omega
      · intro q
        obtain ⟨d, d1, d2, d3⟩ := mD_pred q (by omega)
        have := (mD_0 d3).1
        subst this
        obtain ⟨g1, g2⟩ := (cut_G a8 hb hne).mp d2
        exact ⟨g1, fun e => g2 (Or.inl ⟨rfl, e⟩)⟩
  have step : ∀ j u u', j < 9 → hwP up (cut lk a b) a j u → b_Mesh_holdsWithout_1 up lk (0 + j) u = .inl u' → hwP up (cut lk a b) a (j + 1) u' := fun j u u' hj9 hu hf => by
    obtain ⟨p1, p2, p3⟩ := hu
    unfold b_Mesh_holdsWithout_1 at hf
    rw [Nat.zero_add] at hf
    obtain ⟨c1, hf⟩ := iFrl hf
    obtain ⟨c2, hf⟩ := iFrl hf
    rw [le8 (by omega)] at c1
    cases hf
    obtain ⟨-, n2⟩ := noa (lk := lk) h.1 u.2
    refine ⟨by omega, fun c hc => ?_, fun c hc => ?_⟩
    · show bt (u.1 ||| u.2) c = true ↔ _
      rw [b_or, Bool.or_eq_true, p2 c hc, p3 c hc]; omega
    · show bt (f_Mesh_neighboursOfAll u.2 up lk &&& ((u.1 ||| u.2) ^^^ -1)) c = true ↔ _
      rw [b_and, b_not _ (by omega), b_or, Bool.and_eq_true, n2 c hc]
      have e1 : (!(bt u.1 c || bt u.2 c)) = true ↔ ¬ mD up (cut lk a b) a c < j + 2 := by
        rw [Bool.not_eq_true', Bool.or_eq_false_iff]
        have a1 := p2 c hc
        have a2 := p3 c hc
        cases hb1 : bt u.1 c <;> cases hb2 : bt u.2 c <;> simp only [hb1, hb2] at a1 a2 <;> simp at a1 a2 ⊢ <;> omega
      rw [e1]
      constructor
      · rintro ⟨⟨d, d1, d2, d3⟩, h6⟩
        have h7 := (p3 d d1).mp d2
        have g : mG up (cut lk a b) d c := (cut_G a8 hb hne).mpr ⟨d3, fun q => by
          rcases q with ⟨q, -⟩ | ⟨-, q⟩
          · rw [q, mD_self ha] at h7; omega
          · rw [q, mD_self ha] at h6; omega⟩
        have h8 := mD_step (a := a) (b := d) (c := c) (by omega) g
        omega
      · intro h6
        refine ⟨?_, by omega⟩
        obtain ⟨d, w1, w2, w3⟩ := mD_pred h6 (by omega)
        exact ⟨d, w1, (p3 d w1).mpr w3, ((cut_G a8 hb hne).mp w2).1⟩
  obtain ⟨i1, i2⟩ := forX_inv (f := b_Mesh_holdsWithout_1 up lk) (a := 0) (n := 9) (hwP up (cut lk a b) a) i0 step
  have hend := forX_end (f := b_Mesh_holdsWithout_1 up lk) (a := 0) (n := 9) (N := 8) (hwP up (cut lk a b) a) i0 step (by decide) (fun u hu => ⟨_, iF_pos ((le8 (by decide)).mpr (by decide))⟩)
  obtain ⟨x, hx⟩ := id hend
  obtain ⟨j, u, hj, ⟨p1, p2, p3⟩, -, hfx⟩ := i2 x hx
  have hxu : x = u ∧ (j = 8 ∨ u.2 = 0) := by
    unfold b_Mesh_holdsWithout_1 at hfx
    rw [Nat.zero_add] at hfx
    rcases iFrr hfx with ⟨c1, c2⟩ | ⟨c1, hfx⟩
    · rw [le8 (by omega)] at c1
      exact ⟨c2.symm, Or.inl (by omega)⟩
    · rcases iFrr hfx with ⟨c1, c2⟩ | ⟨c1, hfx⟩
      · exact ⟨c2.symm, Or.inr c1⟩
      · cases hfx
  obtain ⟨rfl, hex⟩ := hxu
  refine ⟨⟨P_nb a8, hend, fun q u hq hfq => ?_, trivial⟩, ?_⟩
  · exact pif (fun _ => trivial) (fun _ => pif (fun _ => trivial) (fun _ => ⟨P_noa up lk _, trivial⟩))
  · have e : f_Mesh_holdsWithout (nI a) (nI b) up lk = f_C_has x.1 (nI b) := by
      unfold f_Mesh_holdsWithout
      rw [hx]; rfl
    rw [e, has_0 hb]
    have hb' := p2 b hb
    have hall : mD up (cut lk a b) a b < j + 1 ↔ mD up (cut lk a b) a b < 1000 := by
      refine ⟨fun q => by omega, fun q => ?_⟩
      rcases hex with e | e
      · have := mD_8 q; omega
      · rcases Nat.lt_or_ge (mD up (cut lk a b) a b) (j + 1) with r | r
        · exact r
        · exfalso
          obtain ⟨c, l1, l3⟩ := mD_level q r
          have l4 := (p3 c l1).mpr l3
          rw [e, b_0] at l4
          cases l4
    rw [hall] at hb'
    cases hc : bt x.1 b
    · rw [hc] at hb'
      exact ⟨fun _ q => (by have := hb'.mpr q; cases this), fun _ => rfl⟩
    · rw [hc] at hb'
      exact ⟨fun q => (by cases q), fun q => absurd (hb'.mp rfl) q⟩
end M
theorem forN_sim' {U V : Type} {f : Nat → U → U} {g : Nat → V → V} {a n : Nat} {u : U} {v : V} (R : U → V → Prop) (h0 : R u v) (hs : ∀ j u v, a ≤ j → j < a + n → R u v → R (f j u) (g j v)) : ∀ q, q ≤ n → R (forN f a q u) (forN g a q v) := by
  intro q
  induction q with
  | zero => intro _; rw [forN_0, forN_0]; exact h0
  | succ q ih => intro hq; rw [forN_s, forN_s]; exact hs _ _ _ (by omega) (by omega) (ih (by omega))
section M
variable {up : Int32} {nm lk st : Nat → Int32}
def brR (st : Nat → Int32) (u : Int32) (v : Int32 × (Nat → Int32) × (Nat → Int32)) : Prop := v.1 = u ∧ v.2.1 = st
theorem br2_s (h : Rel up nm lk st) {a b : Nat} (hab : a < b) (hb : b < 8) {u : Int32} {v : Int32 × (Nat → Int32) × (Nat → Int32)} (hr : brR st u v) : brR st (b_C_bridges_2 (nI a) up lk b u) (b_M_bridges_2 (nI a) b v) ∧ P_C_bridges_2 (nI a) up lk b u ∧ P_M_bridges_2 (nI a) b v := by
  obtain ⟨r1, r2⟩ := hr
  have ha : a < 8 := by omega
  unfold b_C_bridges_2 b_M_bridges_2 P_C_bridges_2 P_M_bridges_2
  rw [r1, r2, iF_c (cb_0 h ha hb), iF_c (cb_0 h ha hb), iF_c (cb_0 h ha hb)]
  by_cases c : f_Mesh_countsBetween (nI a) (nI b) up lk = 0
  · rw [iF_pos c, iF_pos c, iF_pos c, iF_pos c]
    exact ⟨⟨Int32.add_zero u, rfl⟩, ⟨⟨P_nb ha, trivial⟩, pif (fun _ => trivial) (fun q => absurd c q)⟩, P_cnt ha hb st, pif (fun _ => trivial) (fun q => absurd ((cb_0 h ha hb).mpr c) q)⟩
  · have g : mG up lk a b := Classical.not_not.mp (fun q => c ((cb_0 h ha hb).mp ((counts_0 h ha hb).mpr q)))
    have ua := (mGU a b g).1
    obtain ⟨k1, k2⟩ := hold_spec h ua hb (by omega : a ≠ b)
    have hD := Rel_link h ha hb (by omega : a ≠ b) (f := 0) (x3 := 0) (on := false) ⟨fun _ => rfl, fun _ => rfl⟩ rfl
    obtain ⟨l1, l2⟩ := laySteps_spec hD v.2.2
    have t0 := tog_0 l2 ha hb
    have e : upd (upd st (f_M_pair (nI a) (nI b)).toNatClampNeg 0) (f_M_pair (nI a) (nI b)).toNatClampNeg 1 = st := by
      funext i
      rw [upd_eq, upd_eq]
      by_cases q : i = (f_M_pair (nI a) (nI b)).toNatClampNeg
      · rw [if_pos q, q, st_pair h ha hb (by omega), g.2.2.2.2]; rfl
      · rw [if_neg q, if_neg q]
    rw [iF_neg c, iF_neg c, iF_neg c, iF_neg c]
    refine ⟨⟨?_, e⟩, ⟨⟨P_nb ha, trivial⟩, pif (fun _ => trivial) (fun _ => ⟨k1, trivial⟩)⟩, P_cnt ha hb st, pif (fun _ => trivial) (fun _ => ⟨⟨in_pair ha hb, l1, in_pair ha hb, P_tog ha hb _, trivial⟩, trivial⟩)⟩
    show u + iF (iF (f_M_areTogether (nI a) (nI b) (f_M_laySteps (upd st (f_M_pair (nI a) (nI b)).toNatClampNeg 0) v.2.2) = 0) (1 : Int32) 0 = 0) 0 1 = _
    rw [iF_c t0, iF_c k2]
    by_cases q : ¬ mD up (cut lk a b) a b < 1000
    · rw [iF_pos q, iF_neg (c := (1 : Int32) = 0) (by decide), iF_pos q]
    · rw [iF_neg q, iF_pos (c := (0 : Int32) = 0) rfl, Int32.add_zero, iF_neg q]
theorem q_bridges (h : Rel up nm lk st) (S : Nat → Int32) : P_C_bridges up lk ∧ P_M_bridges st S ∧ f_C_bridges up lk = (f_M_bridges st S).1 ∧ (f_M_bridges st S).2.1 = st := by
  have in2 : ∀ j, j < 8 → ∀ u v, brR st u v → ∀ q, q ≤ 8 - (j + 1) → brR st (forN (b_C_bridges_2 (nI j) up lk) (j + 1) q u) (forN (b_M_bridges_2 (nI j)) (j + 1) q v) := fun j hj u v hr => forN_sim' (f := b_C_bridges_2 (nI j) up lk) (g := b_M_bridges_2 (nI j)) (brR st) hr (fun b u v h1 h2 hr => (br2_s h (by omega) (by omega) hr).1)
  have out : ∀ q, q ≤ 8 → brR st (forN (b_C_bridges_1 up lk) 0 q 0) (forN b_M_bridges_1 0 q (0, st, S)) := forN_sim' (f := b_C_bridges_1 up lk) (g := b_M_bridges_1) (brR st) ⟨rfl, rfl⟩ (fun j u v h1 h2 hr => in2 j (by omega) u v hr _ (Nat.le_refl _))
  refine ⟨⟨fun q hq => ⟨fun r hr => ?_, trivial⟩, trivial⟩, ⟨fun q hq => ⟨fun r hr => ?_, trivial⟩, trivial⟩, (out 8 (Nat.le_refl 8)).1.symm, (out 8 (Nat.le_refl 8)).2⟩
  · rw [Nat.zero_add] at hr ⊢
    exact (br2_s h (by omega) (by omega) (in2 q hq _ _ (out q (by omega)) r (by omega))).2.1
  · rw [Nat.zero_add] at hr ⊢
    exact (br2_s h (by omega) (by omega) (in2 q hq _ _ (out q (by omega)) r (by omega))).2.2
end M

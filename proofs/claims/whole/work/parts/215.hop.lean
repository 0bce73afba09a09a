/-! a hop: the class weighs all ends at once, the reference takes the nearest end and goes on -/
section M
variable {up : Int32} {nm lk st len row pl M R N nx : Nat → Int32}
/-- the path of i, which ends at e, goes over n at place p -/
def OV (up : Int32) (nm lk : Nat → Int32) (i n e p : Nat) : Prop := e < 8 ∧ SN up nm lk i = nI e ∧ e ≠ i ∧ mD up lk i e < 1000 ∧ p ≤ mD up lk i e ∧ sq up lk i e p = n
def LF (up : Int32) (nm lk : Nat → Int32) (i n t l h : Nat) : Prop := i < 8 ∧ ∃ e p, OV up nm lk i n e p ∧ ((t = e ∧ p < mD up lk i e ∧ l = mD up lk i e - p ∧ h = sq up lk i e (p + 1)) ∨ (t = i ∧ 0 < p ∧ l = p ∧ h = sq up lk i e (p - 1)))
theorem OV_uniq {i n e p e' p' : Nat} (hi : i < 8) (h : OV up nm lk i n e p) (h' : OV up nm lk i n e' p') : e' = e ∧ p' = p := by
  obtain ⟨h1, h2, h3, h4, h5, h6⟩ := h
  obtain ⟨g1, g2, g3, g4, g5, g6⟩ := h'
  rw [h2] at g2
  have := nI_inj (by omega) (by omega) g2
  subst this
  exact ⟨rfl, sq_inj hi h4 g5 h5 (g6.trans h6.symm)⟩
theorem at_cases {i n : Nat} (hi : i < 8) (hn : n < 8) (h : CR up nm lk len row pl M R) : (f_Paths_goesOver (nI i) (nI n) pl = 0 ∧ f_M_placeIn (nI i) (nI n) M R = -6 ∧ ∀ e p, ¬ OV up nm lk i n e p) ∨ ∃ e p, OV up nm lk i n e p ∧ ¬ f_Paths_goesOver (nI i) (nI n) pl = 0 ∧ f_Paths_placeOf (nI i) (nI n) pl = nI p ∧ f_M_placeIn (nI i) (nI n) M R = nI p ∧ len i = nI (mD up lk i e + 1) ∧ M i = nI (mD up lk i e + 1) ∧ (∀ k, k ≤ mD up lk i e → row (8 * i + k) = nI (sq up lk i e k)) ∧ ∀ k, k ≤ mD up lk i e → R (8 * i + k) = nI (sq up lk i e k) := by
  obtain ⟨-, pe, -⟩ := place_spec hi hn (h.2 i hi) (h.1 i hi)
  have pe' : f_M_placeIn (nI i) (nI n) M R = pl (8 * i + n) := pe
  have ov := over_0 hi hn pl
  have po : f_Paths_placeOf (nI i) (nI n) pl = pl (8 * i + n) := by unfold f_Paths_placeOf; rw [ix1 hi hn, cl (by omega)]
  rcases both (h.1 i hi) (h.2 i hi) with ⟨h1, -, -⟩ | ⟨e, h1, h2, h3, h4, h5, h6, h7, h8, h9, h10⟩
  · rcases h.1 i hi with ⟨-, -, g⟩ | ⟨e, g1, g2, -⟩
    · have g' : pl (8 * i + n) = -6 := g n hn
      exact Or.inl ⟨ov.mpr g', by rw [pe', g'], fun e p ho => by obtain ⟨o1, o2, -⟩ := ho; rw [h1] at o2; exact absurd o2.symm (nI_ne6 (by omega))⟩
    · rw [h1] at g2; exact absurd g2.symm (nI_ne6 (by omega))
  · have m8 := mD_8 h4
    by_cases q : ∃ p, p ≤ mD up lk i e ∧ sq up lk i e p = n
    · obtain ⟨p, p1, p2⟩ := q
      have g : pl (8 * i + n) = nI p := by rw [← p2]; exact h9 p (by omega)
      exact Or.inr ⟨e, p, ⟨h1, h2, h3, h4, p1, p2⟩, fun q => by rw [ov, g] at q; exact absurd q (nI_ne6 (by omega)), by rw [po, g], by rw [pe', g], h5, h6, h7, h8⟩
    · have g : pl (8 * i + n) = -6 := h10 n hn (fun k hk e' => q ⟨k, by omega, e'⟩)
      refine Or.inl ⟨ov.mpr g, by rw [pe', g], fun e' p ho => ?_⟩
      obtain ⟨o1, o2, o3, o4, o5, o6⟩ := ho
      rw [h2] at o2
      have := nI_inj (by omega) (by omega) o2
      subst this
      exact q ⟨p, o5, o6⟩
/-- what is left on the path of j to t, for the reference -/
theorem leftOn_spec (h : CR up nm lk len row pl M R) (hN : ∀ a, a < 8 → N a = SN up nm lk a) {i n t : Nat} (hi : i < 8) (hn : n < 8) (ht : t < 8) (hne : t ≠ n) : P_M_leftOn (nI i) (nI n) (nI t) M R N ∧ ((f_M_leftOn (nI i) (nI n) (nI t) M R N = 1000 ∧ ∀ l h, ¬ LF up nm lk i n t l h) ∨ ∃ l h, LF up nm lk i n t l h ∧ l < 8 ∧ f_M_leftOn (nI i) (nI n) (nI t) M R N = nI l) := by
  have hpl := (place_spec hi hn (h.2 i hi) (h.1 i hi)).1
  refine ⟨⟨hpl, pif (fun _ => ⟨in8 hi, pif (fun _ => ⟨in8 hi, trivial⟩) (fun _ => trivial)⟩) (fun _ => trivial)⟩, ?_⟩
  unfold f_M_leftOn
  rw [cl (by omega), hN i hi]
  rcases at_cases hi hn h with ⟨-, a2, a3⟩ | ⟨e, p, ho, a1, a2, a3, a4, a5, a6, a7⟩
  · rw [a2, iF_neg (by decide)]
    exact Or.inl ⟨rfl, fun l h' ⟨_, e, p, q, _⟩ => a3 e p q⟩
  · obtain ⟨o1, o2, o3, o4, o5, o6⟩ := id ho
    have m8 := mD_8 o4
    rw [a3, iF_pos (nI_pos' (by omega)), o2, a5]
    by_cases c1 : t = e
    · rw [iF_pos (by rw [c1])]
      have hp : p < mD up lk i e := by
        rcases Nat.lt_or_ge p (mD up lk i e) with q | q
        · exact q
        · exfalso
          have : p = mD up lk i e := by omega
          rw [this, sq_last hi o4] at o6
          omega
      refine Or.inr ⟨mD up lk i e - p, _, ⟨hi, e, p, ho, Or.inl ⟨c1, hp, rfl, rfl⟩⟩, by omega, ?_⟩
      rw [nI_pred, nI_subL (by omega)]
    · rw [iF_neg (nI_ne (by omega) (by omega) c1)]
      by_cases c2 : t = i
      · rw [iF_pos (by rw [c2])]
        have hp : 0 < p := by
          rcases Nat.eq_zero_or_pos p with q | q
          · exfalso
            rw [q] at o6
            have o6' : i = n := o6
            omega
          · exact q
        exact Or.inr ⟨p, _, ⟨hi, e, p, ho, Or.inr ⟨c2, hp, rfl, rfl⟩⟩, by omega, rfl⟩
      · rw [iF_neg (nI_ne (by omega) (by omega) c2)]
        refine Or.inl ⟨rfl, fun l h' ⟨_, e', p', q, r⟩ => ?_⟩
        obtain ⟨rfl, rfl⟩ := OV_uniq hi ho q
        rcases r with ⟨r, -⟩ | ⟨r, -⟩
        · exact c1 r
        · exact c2 r
theorem LF_uniq {i n t l h l' h' : Nat} (a : LF up nm lk i n t l h) (b : LF up nm lk i n t l' h') : l' = l ∧ h' = h := by
  obtain ⟨hi, e, p, o, c⟩ := a
  obtain ⟨-, e', p', o', c'⟩ := b
  obtain ⟨rfl, rfl⟩ := OV_uniq hi o o'
  have ne := o.2.2.1
  rcases c with ⟨c1, c2, c3, c4⟩ | ⟨c1, c2, c3, c4⟩ <;> rcases c' with ⟨d1, d2, d3, d4⟩ | ⟨d1, d2, d3, d4⟩
  · exact ⟨by omega, by rw [c4, d4]⟩
  · omega
  · omega
  · exact ⟨by omega, by rw [c4, d4]⟩
theorem LF_up {i n t l h : Nat} (a : LF up nm lk i n t l h) : i < 8 ∧ n < 8 ∧ h < 8 ∧ 0 < l ∧ l < 8 ∧ mU up i ∧ mU up n ∧ mU up t ∧ mU up h ∧ t ≠ n := by
  obtain ⟨hi, e, p, ⟨o1, o2, o3, o4, o5, o6⟩, c⟩ := a
  have m8 := mD_8 o4
  have upk : ∀ k, k ≤ mD up lk i e → mU up (sq up lk i e k) := fun k hk => by
    obtain ⟨-, s2, -⟩ := sq_spec hi o4 k hk
    exact (mD_up (show mD up lk (sq up lk i e k) e < 1000 by omega)).1
  have un : mU up n := by rw [← o6]; exact upk p o5
  obtain ⟨u1, u2⟩ := mD_up o4
  rcases c with ⟨c1, c2, c3, c4⟩ | ⟨c1, c2, c3, c4⟩
  · have uh : mU up h := by rw [c4]; exact upk (p + 1) (by omega)
    refine ⟨hi, un.1, uh.1, by omega, by omega, u1, un, by rw [c1]; exact u2, uh, fun q => ?_⟩
    have := sq_inj hi o4 o5 (Nat.le_refl _) (by rw [o6, sq_last hi o4, ← q, c1])
    omega
  · have uh : mU up h := by rw [c4]; exact upk (p - 1) (by omega)
    refine ⟨hi, un.1, uh.1, by omega, by omega, u1, un, by rw [c1]; exact u1, uh, fun q => ?_⟩
    have := sq_inj hi o4 o5 (show 0 ≤ _ by omega) (by rw [o6]; show n = i; omega)
    omega
end M

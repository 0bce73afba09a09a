/-! the class weighs -/
theorem weigh_take {r l h br fl hop : Int32} (q : r < br ∨ (r = br ∧ ¬ fl ≤ l)) : f_Route_weigh r l h br fl hop = (r, l, h) := by
  unfold f_Route_weigh
  by_cases c1 : r < br
  · rw [iF_pos c1, iF_pos c1, iF_pos c1]
  · obtain ⟨c2, c3⟩ := q.resolve_left c1
    rw [iF_neg c1, iF_neg c1, iF_neg c1, iF_pos c2, iF_pos c2, iF_pos c2, iF_neg c3, iF_neg c3, iF_neg c3]
theorem weigh_keep {r l h br fl hop : Int32} (q1 : ¬ r < br) (q2 : r = br → fl ≤ l) : f_Route_weigh r l h br fl hop = (br, fl, hop) := by
  unfold f_Route_weigh
  rw [iF_neg q1, iF_neg q1, iF_neg q1]
  by_cases c2 : r = br
  · rw [iF_pos c2, iF_pos c2, iF_pos c2, iF_pos (q2 c2), iF_pos (q2 c2), iF_pos (q2 c2)]
  · rw [iF_neg c2, iF_neg c2, iF_neg c2]
section M
variable {up : Int32} {nm lk st len row pl M R N nx : Nat → Int32}
/-- where the weighing stands: K, the ends seen; G t, what the reference holds of t; c, what the class holds -/
def HI (up : Int32) (nm lk : Nat → Int32) (n x : Nat) (K : Nat → Prop) (G : Nat → Int32 × Int32) (c : Int32 × Int32 × Int32) : Prop :=
  (∀ t, t < 8 → ¬ K t → G t = (-6, 1000)) ∧ (∀ t, t < 8 → K t → ∃ i l h, G t = (nI i, nI l) ∧ LF up nm lk i n t l h) ∧ (∀ t, K t → mU up t ∧ t ≠ n) ∧
  ∃ m, mU up m ∧ c.1 = nI (RK nm x m) ∧ RK nm x m ≤ RK nm x n ∧ (∀ t, K t → RK nm x m ≤ RK nm x t) ∧ ((m = n ∧ c.2 = (0, -6)) ∨ (K m ∧ ∃ i l h, G m = (nI i, nI l) ∧ LF up nm lk i n m l h ∧ c.2 = (nI l, nI h)))
theorem HI_offer (hR : Rel up nm lk st) {n x : Nat} (hx : x < 256) {K : Nat → Prop} {G G' : Nat → Int32 × Int32} {c : Int32 × Int32 × Int32} (h : HI up nm lk n x K G c) {i t l h' : Nat} (hl : LF up nm lk i n t l h') (hG : ∀ s, s < 8 → s ≠ t → G' s = G s) (hGt : G' t = if (G t).2 ≤ nI l then G t else (nI i, nI l)) : HI up nm lk n x (fun s => K s ∨ s = t) G' (f_Route_weigh (nI (RK nm x t)) (nI l) (nI h') c.1 c.2.1 c.2.2) := by
  obtain ⟨h1, h2, h3, m, m1, m2, m3, m4, m5⟩ := h
  obtain ⟨u1, u2, u3, u4, u5, u6, u7, u8, u9, u10⟩ := LF_up hl
  have lm := RK_lt hR hx m1
  have lt := RK_lt hR hx u8
  -- what the reference holds of t after
  have Gt : ∃ i l h, G' t = (nI i, nI l) ∧ LF up nm lk i n t l h := by
    by_cases hk : K t
    · obtain ⟨i', l', h'', g1, g2⟩ := h2 t u8.1 hk
      rw [hGt, g1]
      by_cases q : nI l' ≤ nI l
      · rw [if_pos q]; exact ⟨i', l', h'', rfl, g2⟩
      · rw [if_neg q]; exact ⟨i, l, h', rfl, hl⟩
    · rw [hGt, h1 t u8.1 hk, if_neg (fun q => by
        have q' : nI 1000 ≤ nI l := q
        rw [leN (by omega) (by omega)] at q'; omega)]
      exact ⟨i, l, h', rfl, hl⟩
  refine ⟨fun s hs hk => ?_, fun s hs hk => ?_, fun s hk => ?_, ?_⟩
  · rw [hG s hs (fun q => hk (Or.inr q))]
    exact h1 s hs (fun q => hk (Or.inl q))
  · by_cases e : s = t
    · rw [e]; exact Gt
    · rw [hG s hs e]
      exact h2 s hs (hk.resolve_right e)
  · rcases hk with q | q
    · exact h3 s q
    · rw [q]; exact ⟨u8, u10⟩
  · rcases Nat.lt_trichotomy (RK nm x t) (RK nm x m) with q | q | q
    · -- nearer than all so far
      have hk : ¬ K t := fun k => by have := m4 t k; omega
      have g : G' t = (nI i, nI l) := by
        rw [hGt, h1 t u8.1 hk, if_neg (fun q => by
          have q' : nI 1000 ≤ nI l := q
          rw [leN (by omega) (by omega)] at q'; omega)]
      rw [weigh_take (Or.inl (by rw [m2]; exact (nI_ltI (by omega) (by omega)).mpr q))]
      refine ⟨t, u8, rfl, by omega, fun s hs => ?_, Or.inr ⟨Or.inr rfl, i, l, h', g, hl, rfl⟩⟩
      rcases hs with r | r
      · have := m4 s r; omega
      · rw [r]; exact Nat.le_refl _
    · have e := RK_inj hR hx u8 m1 q
      subst e
      rcases m5 with ⟨m5, -⟩ | ⟨k, i', l', h'', g1, g2, g3⟩
      · exact absurd m5 u10
      · obtain ⟨v1, v2, v3, v4, v5, -⟩ := LF_up g2
        have c21 : c.2.1 = nI l' := by rw [g3]
        have c22 : c.2.2 = nI h'' := by rw [g3]
        by_cases q2 : l' ≤ l
        · have qq : nI l' ≤ nI l := (leN (by omega) (by omega)).mpr q2
          rw [weigh_keep (by rw [m2]; exact fun q => by rw [nI_ltI (by omega) (by omega)] at q; omega) (fun _ => by rw [c21]; exact qq)]
          refine ⟨t, u8, m2, m3, fun s hs => ?_, Or.inr ⟨Or.inr rfl, i', l', h'', by rw [hGt, g1, if_pos qq], g2, g3⟩⟩
          rcases hs with r | r
          · exact m4 s r
          · rw [r]; exact Nat.le_refl _
        · have qq : ¬ nI l' ≤ nI l := fun q => q2 ((leN (by omega) (by omega)).mp q)
          rw [weigh_take (Or.inr ⟨m2.symm, by rw [c21]; exact qq⟩)]
          refine ⟨t, u8, rfl, m3, fun s hs => ?_, Or.inr ⟨Or.inr rfl, i, l, h', by rw [hGt, g1, if_neg qq], hl, rfl⟩⟩
          rcases hs with r | r
          · exact m4 s r
          · rw [r]; exact Nat.le_refl _
    · have hne : m ≠ t := fun e => by rw [e] at q; omega
      rw [weigh_keep (by rw [m2]; exact fun q' => by rw [nI_ltI (by omega) (by omega)] at q'; omega) (fun q' => by
        rw [m2] at q'
        have := (nI_eq (by omega) (by omega)).mp q'
        omega)]
      refine ⟨m, m1, m2, m3, fun s hs => ?_, ?_⟩
      · rcases hs with r | r
        · exact m4 s r
        · rw [r]; omega
      · rcases m5 with ⟨m5, m6⟩ | ⟨k, i', l', h'', g1, g2, g3⟩
        · exact Or.inl ⟨m5, m6⟩
        · exact Or.inr ⟨Or.inl k, i', l', h'', by rw [hG m m1.1 hne, g1], g2, g3⟩
theorem HI_same {n x : Nat} {K K' : Nat → Prop} {G G' : Nat → Int32 × Int32} {c : Int32 × Int32 × Int32} (h : HI up nm lk n x K G c) (hK : ∀ t, K' t ↔ K t) (hG : ∀ s, s < 8 → s ≠ n → G' s = G s) (hn : G n = (-6, 1000) → G' n = (-6, 1000)) : HI up nm lk n x K' G' c := by
  obtain ⟨h1, h2, h3, m, m1, m2, m3, m4, m5⟩ := h
  refine ⟨fun t ht hk => ?_, fun t ht hk => ?_, fun t hk => h3 t ((hK t).mp hk), m, m1, m2, m3, fun t hk => m4 t ((hK t).mp hk), ?_⟩
  · by_cases e : t = n
    · rw [e]; rw [e] at ht hk; exact hn (h1 n ht (fun q => hk ((hK n).mpr q)))
    · rw [hG t ht e]; exact h1 t ht (fun q => hk ((hK t).mpr q))
  · have e : t ≠ n := (h3 t ((hK t).mp hk)).2
    rw [hG t ht e]; exact h2 t ht ((hK t).mp hk)
  · rcases m5 with q | ⟨k, i, l, h', g1, g2, g3⟩
    · exact Or.inl q
    · exact Or.inr ⟨(hK m).mpr k, i, l, h', by rw [hG m m1.1 (h3 m k).2, g1], g2, g3⟩
end M

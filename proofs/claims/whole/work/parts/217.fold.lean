/-! the weighing of all paths over a node -/
section M
variable {up : Int32} {nm lk st len row pl M R N nx : Nat → Int32}
theorem nodeAt_k {i e k : Nat} (hi : i < 8) (h8 : mD up lk i e < 1000) (hl : len i = nI (mD up lk i e + 1)) (hr : ∀ k, k ≤ mD up lk i e → row (8 * i + k) = nI (sq up lk i e k)) (hk : k ≤ mD up lk i e) : P_Paths_nodeAt (nI i) (nI k) len row ∧ f_Paths_nodeAt (nI i) (nI k) len row = nI (sq up lk i e k) := by
  have m8 := mD_8 h8
  unfold P_Paths_nodeAt f_Paths_nodeAt
  have c1 : ¬ nI k < 0 := nI_n0 (by omega)
  have c2 : ¬ nI (mD up lk i e + 1) ≤ nI k := fun q => by rw [leN (by omega) (by omega)] at q; omega
  rw [cl (by omega), hl, iF_neg c1, iF_neg c2, ix1 hi (by omega), cl (by omega), hr k hk]
  exact ⟨pif (fun _ => trivial) (fun _ => ⟨in8 hi, pif (fun _ => trivial) (fun _ => ⟨in64 (by omega), trivial⟩)⟩), rfl⟩
theorem we_spec (hR : Rel up nm lk st) (hx' : ∀ a, a < 8 → nx a = SN up nm lk a) {x : Nat} (hx : x < 256) {i n e p : Nat} (hi : i < 8) (ho : OV up nm lk i n e p) (hl : len i = nI (mD up lk i e + 1)) (hr : ∀ k, k ≤ mD up lk i e → row (8 * i + k) = nI (sq up lk i e k)) (br fl hop : Int32) : P_Route_weighEnds (nI i) (nI p) (nI x) len br nm row fl hop nx ∧ ∃ c1, (c1 = if 0 < p then f_Route_weigh (nI (RK nm x i)) (nI p) (nI (sq up lk i e (p - 1))) br fl hop else (br, fl, hop)) ∧ f_Route_weighEnds (nI i) (nI p) (nI x) len br nm row fl hop nx = if p < mD up lk i e then f_Route_weigh (nI (RK nm x e)) (nI (mD up lk i e - p)) (nI (sq up lk i e (p + 1))) c1.1 c1.2.1 c1.2.2 else c1 := by
  obtain ⟨o1, o2, o3, o4, o5, o6⟩ := ho
  have m8 := mD_8 o4
  obtain ⟨ui, ue⟩ := mD_up o4
  have hc : (nI i).toNatClampNeg = i := cl (by omega)
  have hce : (nI e).toNatClampNeg = e := cl (by omega)
  have n1 : ¬ f_C_isNode (nI e) = 0 := isNode_1 o1
  have r1 := rank_RK hR hx ui
  have r2 := rank_RK hR hx ue
  have l1 : nI (mD up lk i e + 1) - 1 = nI (mD up lk i e) := nI_pred _
  have l2 : nI (mD up lk i e) - nI p = nI (mD up lk i e - p) := nI_subL o5
  have c1 : (nI p ≤ 0) ↔ ¬ 0 < p := by
    show nI p ≤ nI 0 ↔ _
    rw [leN (by omega) (by omega)]; omega
  have c2 : (nI (mD up lk i e) ≤ nI p) ↔ ¬ p < mD up lk i e := by
    rw [leN (by omega) (by omega)]; omega
  have p1 : nI p + 1 = nI (p + 1) := nI_1 p
  have a1 : 0 < p → P_Paths_nodeAt (nI i) (nI p - 1) len row ∧ f_Paths_nodeAt (nI i) (nI p - 1) len row = nI (sq up lk i e (p - 1)) := fun hp => by
    rw [show nI p - 1 = nI (p - 1) from nI_subL (a := 1) hp]
    exact nodeAt_k hi o4 hl hr (by omega)
  have a2 : p < mD up lk i e → P_Paths_nodeAt (nI i) (nI p + 1) len row ∧ f_Paths_nodeAt (nI i) (nI p + 1) len row = nI (sq up lk i e (p + 1)) := fun hp => by
    rw [p1]; exact nodeAt_k hi o4 hl hr (by omega)
  constructor
  · unfold P_Route_weighEnds
    rw [hc, hx' i hi, o2, hl, l1]
    exact ⟨in8 hi, in8 hi, pif' (fun _ => trivial) (fun q => ⟨in8 hi, (a1 (Classical.not_not.mp (fun q' => q (c1.mpr q')))).1, trivial⟩), pif (fun _ => trivial) (fun q => pif (fun _ => trivial) (fun _ => ⟨in8 o1, (a2 (Classical.not_not.mp (fun q' => q (c2.mpr q')))).1, trivial⟩))⟩
  · refine ⟨_, rfl, ?_⟩
    unfold f_Route_weighEnds
    rw [hc, hx' i hi, o2, hl, l1, hce, r1, r2, l2]
    by_cases q1 : 0 < p
    · have d1 : ¬ nI p ≤ 0 := fun q => c1.mp q q1
      simp only [iF_neg d1, (a1 q1).2, if_pos q1]
      by_cases q2 : p < mD up lk i e
      · have d2 : ¬ nI (mD up lk i e) ≤ nI p := fun q => c2.mp q q2
        simp only [iF_neg d2, iF_neg n1, (a2 q2).2, if_pos q2]
      · simp only [iF_pos (c2.mpr q2), if_neg q2]
    · have d1 : nI p ≤ 0 := c1.mpr q1
      simp only [iF_pos d1, if_neg q1]
      by_cases q2 : p < mD up lk i e
      · have d2 : ¬ nI (mD up lk i e) ≤ nI p := fun q => c2.mp q q2
        simp only [iF_neg d2, iF_neg n1, (a2 q2).2, if_pos q2]
      · simp only [iF_pos (c2.mpr q2), if_neg q2]
/-- what the reference holds of t after j paths -/
noncomputable def GG (n : Nat) (M R N : Nat → Int32) (j t : Nat) : Int32 × Int32 := if t = n then (-6, 1000) else forN (b_M_goOn_1 (nI n) (nI t) M R N) 0 j (-6, 1000)
def KK (up : Int32) (nm lk : Nat → Int32) (n j t : Nat) : Prop := ∃ i, i < j ∧ ∃ l h, LF up nm lk i n t l h
theorem GG_s (h : CR up nm lk len row pl M R) (hN : ∀ a, a < 8 → N a = SN up nm lk a) {n j : Nat} (hn : n < 8) (hj : j < 8) {x : Nat} {c : Int32 × Int32 × Int32} (hi : HI up nm lk n x (KK up nm lk n j) (GG n M R N j) c) : (∀ t, t < 8 → t ≠ n → (∀ l h, ¬ LF up nm lk j n t l h) → GG n M R N (j + 1) t = GG n M R N j t) ∧ ∀ t l h, LF up nm lk j n t l h → GG n M R N (j + 1) t = if (GG n M R N j t).2 ≤ nI l then GG n M R N j t else (nI j, nI l) := by
  have g : ∀ t, t ≠ n → GG n M R N (j + 1) t = b_M_goOn_1 (nI n) (nI t) M R N j (GG n M R N j t) := fun t hne => by
    unfold GG
    rw [if_neg hne, if_neg hne, forN_s, Nat.zero_add]
  have b : ∀ (t : Nat) (v : Int32 × Int32), b_M_goOn_1 (nI n) (nI t) M R N j v = if v.2 ≤ f_M_leftOn (nI j) (nI n) (nI t) M R N then v else (nI j, f_M_leftOn (nI j) (nI n) (nI t) M R N) := fun t v => by
    unfold b_M_goOn_1 f_M_less
    by_cases q : v.2 ≤ f_M_leftOn (nI j) (nI n) (nI t) M R N
    · rw [iF_pos q, iF_pos q, if_pos q]
    · rw [iF_neg q, iF_neg q, if_neg q]
  constructor
  · intro t ht hne hno
    rw [g t hne, b]
    rcases (leftOn_spec h hN hj hn ht hne).2 with ⟨q, -⟩ | ⟨l, h', q, -⟩
    · rw [q, if_pos]
      by_cases hk : KK up nm lk n j t
      · obtain ⟨i, l, h', e1, e2⟩ := hi.2.1 t ht hk
        rw [e1]
        obtain ⟨-, -, -, -, l8, -⟩ := LF_up e2
        show nI l ≤ nI 1000
        rw [leN (by omega) (by omega)]; omega
      · rw [hi.1 t ht hk]
        exact i32_rf _
    · exact absurd q (hno l h')
  · intro t l h' hl
    obtain ⟨-, -, -, -, -, -, -, ut, -, hne⟩ := LF_up hl
    rw [g t hne, b]
    rcases (leftOn_spec h hN hj hn ut.1 hne).2 with ⟨-, q⟩ | ⟨l', h'', q, -, q2⟩
    · exact absurd hl (q l h')
    · rw [q2, (LF_uniq hl q).1]
theorem HI_s (hR : Rel up nm lk st) (h : CR up nm lk len row pl M R) (hN : ∀ a, a < 8 → N a = SN up nm lk a) (hx' : ∀ a, a < 8 → nx a = SN up nm lk a) {n j : Nat} (hn : n < 8) (hj : j < 8) {x : Nat} (hx : x < 256) {c : Int32 × Int32 × Int32} (hi : HI up nm lk n x (KK up nm lk n j) (GG n M R N j) c) : HI up nm lk n x (KK up nm lk n (j + 1)) (GG n M R N (j + 1)) (b_Route_hopFrom_1 (nI n) pl (nI x) len nm row nx j c) ∧ P_Route_hopFrom_1 (nI n) pl (nI x) len nm row nx j c := by
  obtain ⟨g1, g2⟩ := GG_s h hN hn hj hi
  have gn : GG n M R N (j + 1) n = (-6, 1000) := if_pos rfl
  have gn' : GG n M R N j n = (-6, 1000) := if_pos rfl
  have kk : ∀ t, KK up nm lk n (j + 1) t ↔ KK up nm lk n j t ∨ ∃ l h, LF up nm lk j n t l h := fun t => by
    constructor
    · rintro ⟨i, hi', q⟩
      by_cases e : i = j
      · rw [e] at q; exact Or.inr q
      · exact Or.inl ⟨i, by omega, q⟩
    · rintro (⟨i, hi', q⟩ | q)
      · exact ⟨i, by omega, q⟩
      · exact ⟨j, by omega, q⟩
  unfold b_Route_hopFrom_1 P_Route_hopFrom_1
  rcases at_cases hj hn h with ⟨a1, a2, a3⟩ | ⟨e, p, ho, a1, a2, a3, a4, a5, a6, a7⟩
  · have nl : ∀ t l h', ¬ LF up nm lk j n t l h' := fun t l h' ⟨_, e, p, q, _⟩ => a3 e p q
    rw [iF_pos a1, iF_pos a1, iF_pos a1]
    refine ⟨HI_same hi (fun t => (kk t).trans ⟨fun q => q.elim id (fun ⟨l, h', q⟩ => absurd q (nl t l h')), Or.inl⟩) (fun s hs hne => g1 s hs hne (nl s)) (fun _ => gn), P_over hj hn pl, pif (fun _ => trivial) (fun q => absurd a1 q)⟩
  · rw [iF_neg a1, iF_neg a1, iF_neg a1, a2]
    obtain ⟨w1, c1, w2, w3⟩ := we_spec hR hx' hx hj ho a4 a6 c.1 c.2.1 c.2.2
    refine ⟨?_, P_over hj hn pl, pif (fun _ => trivial) (fun _ => ⟨(P_over hj hn pl).1, w1, trivial⟩)⟩
    show HI up nm lk n x (KK up nm lk n (j + 1)) (GG n M R N (j + 1)) (f_Route_weighEnds (nI j) (nI p) (nI x) len c.1 nm row c.2.1 c.2.2 nx)
    rw [w3]
    obtain ⟨o1, o2, o3, o4, o5, o6⟩ := id ho
    have L1 : 0 < p → LF up nm lk j n j p (sq up lk j e (p - 1)) := fun hp => ⟨hj, e, p, ho, Or.inr ⟨rfl, hp, rfl, rfl⟩⟩
    have L2 : p < mD up lk j e → LF up nm lk j n e (mD up lk j e - p) (sq up lk j e (p + 1)) := fun hp => ⟨hj, e, p, ho, Or.inl ⟨rfl, hp, rfl, rfl⟩⟩
    have Lx : ∀ t l h', LF up nm lk j n t l h' → (t = j ∧ 0 < p) ∨ (t = e ∧ p < mD up lk j e) := by
      rintro t l h' ⟨_, e', p', q, r⟩
      obtain ⟨rfl, rfl⟩ := OV_uniq hj ho q
      rcases r with ⟨r1, r2, -⟩ | ⟨r1, r2, -⟩
      · exact Or.inr ⟨r1, r2⟩
      · exact Or.inl ⟨r1, r2⟩
    -- the start
    have s1 : HI up nm lk n x (fun t => KK up nm lk n j t ∨ (t = j ∧ 0 < p)) (fun t => if t = j ∧ 0 < p then GG n M R N (j + 1) t else GG n M R N j t) c1 := by
      by_cases hp : 0 < p
      · rw [w2, if_pos hp]
        have := HI_offer hR hx hi (L1 hp) (G' := fun t => if t = j ∧ 0 < p then GG n M R N (j + 1) t else GG n M R N j t) (fun s hs hne => if_neg (fun q => hne q.1)) (by
          show (if j = j ∧ 0 < p then GG n M R N (j + 1) j else GG n M R N j j) = _
          rw [if_pos ⟨rfl, hp⟩, g2 j _ _ (L1 hp)])
        refine HI_same this (fun t => ⟨fun q => q.elim Or.inl (fun q => Or.inr q.1), fun q => q.elim Or.inl (fun q => Or.inr ⟨q, hp⟩)⟩) (fun _ _ _ => rfl) id
      · rw [w2, if_neg hp]
        refine HI_same hi (fun t => ⟨fun q => q.elim id (fun q => absurd q.2 hp), Or.inl⟩) (fun s hs hne => if_neg (fun q => hp q.2)) (fun q => ?_)
        show (if n = j ∧ 0 < p then GG n M R N (j + 1) n else GG n M R N j n) = _
        rw [if_neg (fun q => hp q.2), gn']
    -- the end
    by_cases hp : p < mD up lk j e
    · rw [if_pos hp]
      have := HI_offer hR hx s1 (L2 hp) (G' := GG n M R N (j + 1)) (fun s hs hne => by
        show _ = if s = j ∧ 0 < p then GG n M R N (j + 1) s else GG n M R N j s
        by_cases q : s = j ∧ 0 < p
        · rw [if_pos q]
        · rw [if_neg q]
          by_cases q2 : s = n
          · rw [q2, gn, gn']
          · exact g1 s hs q2 (fun l h' hl => (Lx s l h' hl).elim q (fun r => hne r.1))) (by
        show _ = if (if e = j ∧ 0 < p then GG n M R N (j + 1) e else GG n M R N j e).2 ≤ nI (mD up lk j e - p) then (if e = j ∧ 0 < p then GG n M R N (j + 1) e else GG n M R N j e) else (nI j, nI (mD up lk j e - p))
        rw [if_neg (c := e = j ∧ 0 < p) (fun q => o3 q.1), g2 e _ _ (L2 hp)])
      refine HI_same this (fun t => (kk t).trans ⟨fun q => ?_, fun q => ?_⟩) (fun _ _ _ => rfl) id
      · rcases q with q | ⟨l, h', q⟩
        · exact Or.inl (Or.inl q)
        · exact (Lx t l h' q).elim (fun r => Or.inl (Or.inr r)) (fun r => Or.inr r.1)
      · rcases q with (q | ⟨q, q'⟩) | q
        · exact Or.inl q
        · rw [q]; exact Or.inr ⟨_, _, L1 q'⟩
        · rw [q]; exact Or.inr ⟨_, _, L2 hp⟩
    · rw [if_neg hp]
      refine HI_same s1 (fun t => (kk t).trans ⟨fun q => ?_, fun q => ?_⟩) (fun s hs hne => ?_) (fun _ => gn)
      · rcases q with q | ⟨l, h', q⟩
        · exact Or.inl q
        · exact (Lx t l h' q).elim Or.inr (fun r => absurd r.2 hp)
      · rcases q with q | ⟨q, q'⟩
        · exact Or.inl q
        · rw [q]; exact Or.inr ⟨_, _, L1 q'⟩
      · show _ = if s = j ∧ 0 < p then GG n M R N (j + 1) s else GG n M R N j s
        by_cases q : s = j ∧ 0 < p
        · rw [if_pos q]
        · rw [if_neg q]
          exact g1 s hs hne (fun l h' hl => (Lx s l h' hl).elim q (fun r => hp r.2))
end M

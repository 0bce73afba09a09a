/-! one hop, both ways -/
section M
variable {up : Int32} {nm lk st len row pl M R N nx : Nat → Int32}
theorem HI_all (hR : Rel up nm lk st) (h : CR up nm lk len row pl M R) (hN : ∀ a, a < 8 → N a = SN up nm lk a) (hx' : ∀ a, a < 8 → nx a = SN up nm lk a) {n : Nat} (hn : mU up n) {x : Nat} (hx : x < 256) : ∀ j, j ≤ 8 → HI up nm lk n x (KK up nm lk n j) (GG n M R N j) (forN (b_Route_hopFrom_1 (nI n) pl (nI x) len nm row nx) 0 j (f_C_rank (nm (nI n).toNatClampNeg) (nI x), 0, -6)) := by
  intro j
  have n8 := hn.1
  induction j with
  | zero =>
    intro _
    rw [forN_0, cl (by omega), rank_RK hR hx hn]
    refine ⟨fun t ht _ => ?_, fun t ht ⟨i, hi, _⟩ => by omega, fun t ⟨i, hi, _⟩ => by omega, n, hn, rfl, Nat.le_refl _, fun t ⟨i, hi, _⟩ => by omega, Or.inl ⟨rfl, rfl⟩⟩
    unfold GG
    by_cases e : t = n
    · rw [if_pos e]
    · rw [if_neg e, forN_0]
  | succ j ih =>
    intro hj
    rw [forN_s, Nat.zero_add]
    exact (HI_s hR h hN hx' n8 (by omega) hx (ih (by omega))).1
theorem GG_min (hR : Rel up nm lk st) (h : CR up nm lk len row pl M R) (hN : ∀ a, a < 8 → N a = SN up nm lk a) (hx' : ∀ a, a < 8 → nx a = SN up nm lk a) {n : Nat} (hn : mU up n) {x : Nat} (hx : x < 256) : ∀ j, j ≤ 8 → ∀ i t l h', i < j → LF up nm lk i n t l h' → (GG n M R N j t).2 ≤ nI l := by
  intro j
  induction j with
  | zero => intro _ i t l h' hi; omega
  | succ j ih =>
    intro hj i t l h' hi hl
    have H := HI_all hR h hN hx' hn hx j (by omega)
    obtain ⟨g1, g2⟩ := GG_s h hN hn.1 (show j < 8 by omega) H
    obtain ⟨-, -, -, -, l8, -, -, ut, -, hne⟩ := LF_up hl
    by_cases q : ∃ l' h'', LF up nm lk j n t l' h''
    · obtain ⟨l', h'', q⟩ := q
      obtain ⟨-, -, -, -, l8', -⟩ := LF_up q
      rw [g2 t l' h'' q]
      by_cases e : i = j
      · subst e
        obtain ⟨e1, -⟩ := LF_uniq hl q
        subst e1
        by_cases c : (GG n M R N i t).2 ≤ nI l'
        · rw [if_pos c]; exact c
        · rw [if_neg c]; exact i32_rf _
      · have r := ih (by omega) i t l h' (by omega) hl
        by_cases c : (GG n M R N j t).2 ≤ nI l'
        · rw [if_pos c]; exact r
        · rw [if_neg c]
          exact i32_le_trans (i32_lt_le' (i32_nle c)) r
    · have e : i ≠ j := fun e => q ⟨l, h', by rw [← e]; exact hl⟩
      rw [g1 t ut.1 hne (fun l' h'' hl' => q ⟨l', h'', hl'⟩)]
      exact ih (by omega) i t l h' (by omega) hl
theorem known_bt (h : CR up nm lk len row pl M R) (hN : ∀ a, a < 8 → N a = SN up nm lk a) {n : Nat} (hn : n < 8) : ∀ t, t < 8 → (bt (f_M_knownAt (nI n) M R N) t = true ↔ ∃ i, i < 8 ∧ ∃ e p, OV up nm lk i n e p ∧ (t = i ∨ t = e)) := by
  refine forN_ind (f := b_M_knownAt_1 (nI n) M R N) (a := 0) (n := 8) (v := 0) (fun j v => ∀ t, t < 8 → (bt v t = true ↔ ∃ i, i < j ∧ ∃ e p, OV up nm lk i n e p ∧ (t = i ∨ t = e))) (fun t _ => ⟨fun q => (by rw [b_0] at q; cases q), fun ⟨i, hi, _⟩ => by omega⟩) (fun j v hj hv t ht => ?_)
  rw [Nat.zero_add]
  unfold b_M_knownAt_1
  rw [cl (by omega), hN j hj]
  rcases at_cases hj hn h with ⟨-, a2, a3⟩ | ⟨e, p, ho, a1, a2, a3, -⟩
  · rw [a2, iF_pos (by decide), b_or, b_0, Bool.or_false, hv t ht]
    constructor
    · rintro ⟨i, hi, q⟩; exact ⟨i, by omega, q⟩
    · rintro ⟨i, hi, e, p, q, r⟩
      by_cases c : i = j
      · rw [c] at q; exact absurd q (a3 e p)
      · exact ⟨i, by omega, e, p, q, r⟩
  · have p8 := mD_8 ho.2.2.2.1
    have hp := ho.2.2.2.2.1
    rw [a3, iF_neg (nI_n0 (by omega)), ho.2.1]
    show bt (v ||| (f_C_bit (nI j) ||| f_C_bit (nI e))) t = true ↔ _
    rw [b_or, b_or, b_bit hj, b_bit ho.1, Bool.or_eq_true, Bool.or_eq_true, decide_eq_true_eq, decide_eq_true_eq, hv t ht]
    constructor
    · rintro (⟨i, hi, q⟩ | q)
      · exact ⟨i, by omega, q⟩
      · exact ⟨j, by omega, e, p, ho, q⟩
    · rintro ⟨i, hi, e', p', q, r⟩
      by_cases c : i = j
      · subst c
        obtain ⟨rfl, rfl⟩ := OV_uniq hj ho q
        exact Or.inr r
      · exact Or.inl ⟨i, by omega, e', p', q, r⟩
theorem known_KK (h : CR up nm lk len row pl M R) (hN : ∀ a, a < 8 → N a = SN up nm lk a) {n : Nat} (hn : n < 8) {t : Nat} (ht : t < 8) : bt (f_M_knownAt (nI n) M R N ||| ((1 : Int32) <<< (nI n &&& 31))) t = true ↔ t = n ∨ KK up nm lk n 8 t := by
  show bt (f_M_knownAt (nI n) M R N ||| f_C_bit (nI n)) t = true ↔ _
  rw [b_or, b_bit hn, Bool.or_eq_true, decide_eq_true_eq, known_bt h hN hn t ht]
  constructor
  · rintro (⟨i, hi, e, p, ho, q⟩ | q)
    · obtain ⟨o1, o2, o3, o4, o5, o6⟩ := id ho
      rcases q with q | q
      · rcases Nat.eq_zero_or_pos p with hp | hp
        · rw [hp] at o6
          have o6' : i = n := o6
          exact Or.inl (by omega)
        · exact Or.inr ⟨i, hi, p, _, hi, e, p, ho, Or.inr ⟨q, hp, rfl, rfl⟩⟩
      · rcases Nat.lt_or_ge p (mD up lk i e) with hp | hp
        · exact Or.inr ⟨i, hi, _, _, hi, e, p, ho, Or.inl ⟨q, hp, rfl, rfl⟩⟩
        · have : p = mD up lk i e := by omega
          rw [this, sq_last hi o4] at o6
          exact Or.inl (by omega)
    · exact Or.inl q
  · rintro (q | ⟨i, hi, l, h', _, e, p, ho, q⟩)
    · exact Or.inr q
    · refine Or.inl ⟨i, hi, e, p, ho, ?_⟩
      rcases q with ⟨q, -⟩ | ⟨q, -⟩
      · exact Or.inr q
      · exact Or.inl q
def hopS (up : Int32) (nm lk : Nat → Int32) (n x m : Nat) (F : Int32 × Int32 × Int32 × Int32) (g : Int32) : Prop := mU up m ∧ F.2.1 = nI (RK nm x m) ∧ RK nm x m ≤ RK nm x n ∧ (∀ t, KK up nm lk n 8 t → RK nm x m ≤ RK nm x t) ∧ ((m = n ∧ F.1 = -6 ∧ F.2.2.1 = 0) ∨ (m ≠ n ∧ ∃ i l h, LF up nm lk i n m l h ∧ F.1 = nI h ∧ F.2.2.1 = nI l ∧ g = nI h ∧ ∀ i' l' h', LF up nm lk i' n m l' h' → l ≤ l'))
theorem hop_spec (hR : Rel up nm lk st) (h : CR up nm lk len row pl M R) (hN : ∀ a, a < 8 → N a = SN up nm lk a) (hx' : ∀ a, a < 8 → nx a = SN up nm lk a) {n : Nat} (hn : mU up n) {x : Nat} (hx : x < 256) : P_Route_hopFrom (nI n) (nI x) pl len nm row nx ∧ P_M_knownAt (nI n) M R N ∧ P_M_nearest (f_M_knownAt (nI n) M R N ||| ((1 : Int32) <<< (nI n &&& 31))) (nI x) st ∧ ∃ m, f_M_nearest (f_M_knownAt (nI n) M R N ||| ((1 : Int32) <<< (nI n &&& 31))) (nI x) st = nI m ∧ hopS up nm lk n x m (f_Route_hopFrom (nI n) (nI x) pl len nm row nx) (f_M_goOn (nI n) (nI m) R M N) ∧ (m ≠ n → P_M_goOn (nI n) (nI m) R M N) := by
  have n8 := hn.1
  have HA := HI_all hR h hN hx' hn hx
  obtain ⟨h1, h2, h3, m, m1, m2, m3, m4, m5⟩ := HA 8 (Nat.le_refl 8)
  have hE : ∀ i, i < 8 → bt (f_M_knownAt (nI n) M R N ||| ((1 : Int32) <<< (nI n &&& 31))) i = true → bt up i = true := fun i hi q => by
    rcases (known_KK h hN n8 hi).mp q with q | q
    · rw [q]; exact hn.2
    · exact (h3 i q).1.2
  obtain ⟨np, ns⟩ := nearest_spec hR hE hx
  refine ⟨⟨in8 n8, fun q hq => ?_, trivial⟩, ⟨fun q hq => ?_, trivial⟩, np, m, ?_, ?_, ?_⟩
  · rw [Nat.zero_add]
    exact (HI_s hR h hN hx' n8 hq hx (HA q (by omega))).2
  · rw [Nat.zero_add]; exact ⟨(place_spec hq n8 (h.2 q hq) (h.1 q hq)).1, trivial⟩
  · rcases ns with ⟨-, q⟩ | ⟨k, k1, k2, k3, k4⟩
    · have := q n n8
      rw [(known_KK h hN n8 n8).mpr (Or.inl rfl)] at this
      cases this
    · rw [k3]
      have a1 : RK nm x k ≤ RK nm x m := by
        rcases m5 with ⟨e, -⟩ | ⟨e, -⟩
        · exact k4 m m1.1 ((known_KK h hN n8 m1.1).mpr (Or.inl e))
        · exact k4 m m1.1 ((known_KK h hN n8 m1.1).mpr (Or.inr e))
      have a2 : RK nm x m ≤ RK nm x k := by
        rcases (known_KK h hN n8 k1).mp k2 with e | e
        · rw [e]; exact m3
        · exact m4 k e
      rw [RK_inj hR hx ⟨k1, hE k k1 k2⟩ m1 (by omega)]
  all_goals (
    have gg : m ≠ n → ∀ i l h', GG n M R N 8 m = (nI i, nI l) → LF up nm lk i n m l h' → P_M_goOn (nI n) (nI m) R M N ∧ f_M_goOn (nI n) (nI m) R M N = nI h' := fun hne i l h' e hl => by
      have e' : forN (b_M_goOn_1 (nI n) (nI m) M R N) 0 8 (-6, 1000) = (nI i, nI l) := by
        have : GG n M R N 8 m = forN (b_M_goOn_1 (nI n) (nI m) M R N) 0 8 (-6, 1000) := if_neg hne
        rw [← this, e]
      have cases1 : ∀ q, q < 8 → P_M_goOn_1 (nI n) (nI m) M R N (0 + q) (forN (b_M_goOn_1 (nI n) (nI m) M R N) 0 q (-6, 1000)) := fun q hq => by
        rw [Nat.zero_add]; exact ⟨(leftOn_spec h hN hq n8 m1.1 hne).1, trivial⟩
      unfold P_M_goOn f_M_goOn
      rw [e']
      obtain ⟨hi, e0, p0, ho, hc⟩ := id hl
      show (_ ∧ P_M_placeIn (nI i) (nI n) M R ∧ vp_in (nI i) 8 ∧ vp_in (8 * nI i + iF (nI m = N (nI i).toNatClampNeg) (f_M_placeIn (nI i) (nI n) M R + 1) (f_M_placeIn (nI i) (nI n) M R - 1)) 64 ∧ True) ∧ R (8 * nI i + iF (nI m = N (nI i).toNatClampNeg) (f_M_placeIn (nI i) (nI n) M R + 1) (f_M_placeIn (nI i) (nI n) M R - 1)).toNatClampNeg = nI h'
      rw [cl (by omega), hN i hi]
      rcases at_cases hi n8 h with ⟨-, -, a3⟩ | ⟨e1, p1, ho1, -, -, a3, -, -, -, a7⟩
      · exact absurd ho (a3 e0 p0)
      · obtain ⟨rfl, rfl⟩ := OV_uniq hi ho ho1
        have m8 := mD_8 ho.2.2.2.1
        have p8 := ho.2.2.2.2.1
        have e8 := ho.1
        rw [a3, ho.2.1]
        have pp := (place_spec hi n8 (h.2 i hi) (h.1 i hi)).1
        rcases hc with ⟨c1, c2, c3, c4⟩ | ⟨c1, c2, c3, c4⟩
        · rw [iF_pos (by rw [c1]), nI_1, ix2 hi (by omega), cl (by omega), a7 _ (by omega), c4]
          exact ⟨⟨cases1, pp, in8 hi, in64 (by omega), trivial⟩, rfl⟩
        · have ne := ho.2.2.1
          rw [iF_neg (nI_ne (by omega) (by omega) (by omega)), show nI p1 - 1 = nI (p1 - 1) from nI_subL (a := 1) c2, ix2 hi (by omega), cl (by omega), a7 _ (by omega), c4]
          exact ⟨⟨cases1, pp, in8 hi, in64 (by omega), trivial⟩, rfl⟩)
  · refine ⟨m1, m2, m3, m4, ?_⟩
    rcases m5 with ⟨e, c⟩ | ⟨k, i, l, h', g1, g2, g3⟩
    · refine Or.inl ⟨e, ?_, ?_⟩
      · show (forN (b_Route_hopFrom_1 (nI n) pl (nI x) len nm row nx) 0 8 (f_C_rank (nm (nI n).toNatClampNeg) (nI x), 0, -6)).2.2 = -6
        rw [c]
      · show (forN (b_Route_hopFrom_1 (nI n) pl (nI x) len nm row nx) 0 8 (f_C_rank (nm (nI n).toNatClampNeg) (nI x), 0, -6)).2.1 = 0
        rw [c]
    · have hne := (h3 m k).2
      refine Or.inr ⟨hne, i, l, h', g2, ?_, ?_, (gg hne i l h' g1 g2).2, fun i' l' h'' hl' => ?_⟩
      · show (forN (b_Route_hopFrom_1 (nI n) pl (nI x) len nm row nx) 0 8 (f_C_rank (nm (nI n).toNatClampNeg) (nI x), 0, -6)).2.2 = nI h'
        rw [g3]
      · show (forN (b_Route_hopFrom_1 (nI n) pl (nI x) len nm row nx) 0 8 (f_C_rank (nm (nI n).toNatClampNeg) (nI x), 0, -6)).2.1 = nI l
        rw [g3]
      · have q := GG_min hR h hN hx' hn hx 8 (Nat.le_refl 8) i' m l' h'' (LF_up hl').1 hl'
        rw [g1] at q
        have q' : nI l ≤ nI l' := q
        obtain ⟨-, -, -, -, l8, -⟩ := LF_up hl'
        obtain ⟨-, -, -, -, l9, -⟩ := LF_up g2
        rw [leN (by omega) (by omega)] at q'
        exact q'
  · intro hne
    rcases m5 with ⟨e, c⟩ | ⟨k, i, l, h', g1, g2, g3⟩
    · exact absurd e hne
    · exact (gg hne i l h' g1 g2).1
end M

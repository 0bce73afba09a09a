/-! the reference's rows -/
section M
variable {up : Int32} {nm lk st S : Nat → Int32}
def nePj (up : Int32) (lk : Nat → Int32) (p e j : Nat) (v : Int32 × Int32) : Prop := j ≤ 8 ∧ v.2 = (if j < 8 then nI (7 - j) else -1) ∧ ((v.1 = -6 ∧ ∀ c, c < 8 → 8 - j ≤ c → ¬ nrP up lk p e c) ∨ ∃ c, c < 8 ∧ 8 - j ≤ c ∧ v.1 = nI c ∧ nrP up lk p e c ∧ ∀ d, 8 - j ≤ d → d < c → ¬ nrP up lk p e d)
theorem m1_down : ∀ j, j < 8 → nI (7 - j) + -1 = (if j + 1 < 8 then nI (7 - (j + 1)) else -1) := by decide +kernel
theorem ne_s (h : Rel up nm lk st) (hS : exS up lk S) {p e : Nat} (hp : p < 8) (he : e < 8) (h0 : 0 < mD up lk p e) (h8 : mD up lk p e < 1000) (j : Nat) (u u' : Int32 × Int32) (hu : nePj up lk p e j u) (hf : b_M_nearer_1 (nI p) st S (nI e) (0 + j) u = .inl u') : nePj up lk p e (j + 1) u' := by
  obtain ⟨p1, p2, p3⟩ := hu
  unfold b_M_nearer_1 at hf
  obtain ⟨c1, hf⟩ := iFrl hf
  cases hf
  have hj : j < 8 := by
    by_cases q : j < 8
    · exact q
    · rw [if_neg q] at p2
      exact absurd (by rw [p2]; decide) c1
  rw [if_pos hj] at p2
  refine ⟨by omega, ?_, ?_⟩
  · show u.2 + -1 = _
    rw [p2, m1_down j hj]
  · show ((iF _ _ _ : Int32) = -6 ∧ _) ∨ ∃ c, c < 8 ∧ _ ∧ (iF _ _ _ : Int32) = nI c ∧ _
    rw [p2, ix2 (by omega) he, ix2 hp he, cl (by omega), cl (by omega), hS _ _ (by omega) he, hS p e hp he]
    have e1 : nI (mD up lk p e) - 1 = nI (mD up lk p e - 1) := nI_subL (a := 1) (by omega)
    rw [e1]
    have hm := mD_1000 up lk (7 - j) e
    by_cases q : nrP up lk p e (7 - j)
    · rw [iF_neg (fun q' => (counts_0 h hp (by omega)).mp q' q.1), iF_pos (by rw [← q.2]; rfl)]
      exact Or.inr ⟨7 - j, by omega, by omega, rfl, q, fun d d1 d2 => by omega⟩
    · have keep : ((u.1 = -6 ∧ ∀ c, c < 8 → 8 - (j + 1) ≤ c → ¬ nrP up lk p e c) ∨ ∃ c, c < 8 ∧ 8 - (j + 1) ≤ c ∧ u.1 = nI c ∧ nrP up lk p e c ∧ ∀ d, 8 - (j + 1) ≤ d → d < c → ¬ nrP up lk p e d) := by
        rcases p3 with ⟨r1, r2⟩ | ⟨c, r1, r2, r3, r4, r5⟩
        · refine Or.inl ⟨r1, fun c hc hc' => ?_⟩
          by_cases e2 : c = 7 - j
          · rw [e2]; exact q
          · exact r2 c hc (by omega)
        · refine Or.inr ⟨c, r1, by omega, r3, r4, fun d d1 d2 => ?_⟩
          by_cases e2 : d = 7 - j
          · rw [e2]; exact q
          · exact r5 d (by omega) d2
      by_cases q2 : f_M_counts (nI p) (nI (7 - j)) st = 0
      · rw [iF_pos q2]; exact keep
      · rw [iF_neg q2, iF_neg (fun q3 => by
          have q4 := nI_inj (by omega) (by omega) q3
          exact q2 ((counts_0 h hp (by omega)).mpr (fun q5 => q ⟨q5, by omega⟩)))]
        exact keep
theorem nearer_spec (h : Rel up nm lk st) (hS : exS up lk S) {p e : Nat} (hp : p < 8) (he : e < 8) (h0 : 0 < mD up lk p e) (h8 : mD up lk p e < 1000) : P_M_nearer (nI p) (nI e) st S ∧ f_M_nearer (nI p) (nI e) st S = nI (nr up lk p e) := by
  have i0 : nePj up lk p e 0 (-6, 7) := ⟨by omega, rfl, Or.inl ⟨rfl, fun c h1 h2 => by omega⟩⟩
  obtain ⟨i1, i2⟩ := forX_inv (f := b_M_nearer_1 (nI p) st S (nI e)) (a := 0) (n := 9) (nePj up lk p e) i0 (fun j u u' _ hu hf => ne_s h hS hp he h0 h8 j u u' hu hf)
  have hend := forX_end (f := b_M_nearer_1 (nI p) st S (nI e)) (a := 0) (n := 9) (N := 8) (nePj up lk p e) i0 (fun j u u' _ hu hf => ne_s h hS hp he h0 h8 j u u' hu hf) (by decide) (fun u hu => ⟨_, iF_pos (by rw [hu.2.1]; decide)⟩)
  obtain ⟨x, hx⟩ := id hend
  obtain ⟨j, u, hj, ⟨u1, u2, u3⟩, -, hfx⟩ := i2 x hx
  have hxu : x = u ∧ j = 8 := by
    unfold b_M_nearer_1 at hfx
    rcases iFrr hfx with ⟨c1, c2⟩ | ⟨c1, hfx⟩
    · refine ⟨c2.symm, ?_⟩
      by_cases q : j < 8
      · rw [u2, if_pos q] at c1
        exact absurd c1 (nI_n0 (by omega))
      · omega
    · cases hfx
  obtain ⟨rfl, rfl⟩ := hxu
  refine ⟨⟨hend, fun q u hq hfq => ?_, trivial⟩, ?_⟩
  · obtain ⟨w1, w2, -⟩ := i1 q u (by omega) hfq
    refine ⟨⟨fun _ => trivial, fun c1 => ?_⟩, trivial⟩
    have hq8 : q < 8 := by
      by_cases q' : q < 8
      · exact q'
      · rw [if_neg q'] at w2
        exact absurd (by rw [w2]; decide) c1
    rw [w2, if_pos hq8]
    exact ⟨P_cnt hp (by omega) st, ⟨fun _ => trivial, fun _ => ⟨by rw [ix2 (by omega) he]; exact in64 (by omega), by rw [ix2 hp he]; exact in64 (by omega), trivial⟩⟩, trivial⟩
  · have e1 : f_M_nearer (nI p) (nI e) st S = x.1 := by
      show (unX (forX (b_M_nearer_1 (nI p) st S (nI e)) 0 9 (-6, 7))).1 = _
      rw [hx]; rfl
    rw [e1]
    obtain ⟨n1, n2⟩ := nr_spec h0 h8
    rcases u3 with ⟨-, r2⟩ | ⟨c, r1, r2, r3, r4, r5⟩
    · exact absurd n1 (r2 _ n1.1.2.1 (by omega))
    · rw [r3, nr_uniq h0 h8 r4 (fun d hd => r5 d (by omega) hd)]
/-- what the reference lays of one node -/
def rlIs (up : Int32) (nm lk : Nat → Int32) (a : Nat) (len : Int32) (row : Nat → Int32) : Prop := (SN up nm lk a = -6 ∧ len = 0) ∨ (∃ e, e < 8 ∧ SN up nm lk a = nI e ∧ e ≠ a ∧ mD up lk a e < 1000 ∧ len = nI (mD up lk a e + 1) ∧ ∀ k, k ≤ mD up lk a e → row k = nI (sq up lk a e k))
def lrP (up : Int32) (lk : Nat → Int32) (a e : Nat) (R0 M0 : Nat → Int32) (j : Nat) (v : Int32 × (Nat → Int32) × (Nat → Int32)) : Prop := j ≤ mD up lk a e ∧ v.1 = nI (sq up lk a e j) ∧ v.2.2 a = nI (j + 1) ∧ (∀ k, k ≤ j → v.2.1 (8 * a + k) = nI (sq up lk a e k)) ∧ (∀ i, (i < 8 * a ∨ 8 * a + 8 ≤ i) → v.2.1 i = R0 i) ∧ ∀ i, i ≠ a → v.2.2 i = M0 i
theorem lr_0 {a e : Nat} (R M : Nat → Int32) : lrP up lk a e R M 0 (nI a, upd R (8 * a) (nI a), upd (upd M a 0) a 1) := by
  refine ⟨by omega, rfl, ?_, fun k hk => ?_, fun i hi => ?_, fun i hi => ?_⟩
  · show upd (upd M a 0) a 1 a = _
    rw [upd_eq, if_pos rfl]; rfl
  · show upd R (8 * a) (nI a) (8 * a + k) = _
    rw [show k = 0 by omega, upd_eq, if_pos (by omega)]; rfl
  · show upd R (8 * a) (nI a) i = _
    rw [upd_eq, if_neg (by omega)]
  · show upd (upd M a 0) a 1 i = _
    rw [upd_eq, if_neg hi, upd_eq, if_neg hi]
theorem lr_s (h : Rel up nm lk st) (hS : exS up lk S) {N : Nat → Int32} {a e : Nat} (ha : a < 8) (he : e < 8) (hN : N a = nI e) (h8 : mD up lk a e < 1000) {R M : Nat → Int32} (j : Nat) (u u' : Int32 × (Nat → Int32) × (Nat → Int32)) (hu : lrP up lk a e R M j u) (hf : b_M_layRow_1 N (nI a) st S (0 + j) u = .inl u') : lrP up lk a e R M (j + 1) u' ∧ P_M_layRow_1 N (nI a) st S (0 + j) u := by
  obtain ⟨p1, p2, p3, p4, p5, p6⟩ := hu
  have m8 := mD_8 h8
  obtain ⟨s1, s2, s3⟩ := sq_spec ha h8 j p1
  unfold b_M_layRow_1 at hf
  rw [cl (by omega), hN, p2] at hf
  obtain ⟨c1, hf⟩ := iFrl hf
  have hj : j < mD up lk a e := by
    by_cases q : j < mD up lk a e
    · exact q
    · exact absurd (by rw [show j = mD up lk a e by omega, sq_last ha h8]) c1
  obtain ⟨n1, n2⟩ := nearer_spec h hS s1 he (by omega) (by omega)
  have n3 : nr up lk (sq up lk a e j) e = sq up lk a e (j + 1) := rfl
  rw [n2, n3, p3, ix2 ha (by omega), cl (by omega), nI_1] at hf
  cases hf
  refine ⟨⟨by omega, rfl, ?_, fun k hk => ?_, fun i hi => ?_, fun i hi => ?_⟩, ?_⟩
  · show upd u.2.2 a _ a = _
    rw [upd_eq, if_pos rfl]
  · show upd u.2.1 (8 * a + (j + 1)) _ (8 * a + k) = _
    rw [upd_eq]
    by_cases q : k = j + 1
    · rw [q, if_pos rfl]
    · rw [if_neg (by omega)]; exact p4 k (by omega)
  · show upd u.2.1 (8 * a + (j + 1)) _ i = _
    rw [upd_eq, if_neg (by omega)]; exact p5 i hi
  · show upd u.2.2 a _ i = _
    rw [upd_eq, if_neg hi]; exact p6 i hi
  · unfold P_M_layRow_1
    rw [cl (by omega), hN, p2, p3, ix2 ha (by omega)]
    exact ⟨in8 ha, ⟨fun _ => trivial, fun _ => ⟨in8 ha, n1, in8 ha, in64 (by omega), in8 ha, in8 ha, trivial⟩⟩, trivial⟩
theorem layRow_spec (h : Rel up nm lk st) (hS : exS up lk S) {N : Nat → Int32} {a : Nat} (ha : a < 8) (hN : N a = SN up nm lk a) (R M : Nat → Int32) : P_M_layRow (nI a) N st S R M ∧ rlIs up nm lk a ((f_M_layRow (nI a) N st S R M).2 a) (fun k => (f_M_layRow (nI a) N st S R M).1 (8 * a + k)) ∧ (∀ i, (i < 8 * a ∨ 8 * a + 8 ≤ i) → (f_M_layRow (nI a) N st S R M).1 i = R i) ∧ ∀ i, i ≠ a → (f_M_layRow (nI a) N st S R M).2 i = M i := by
  have hc : (nI a).toNatClampNeg = a := cl (by omega)
  have h8a : (8 * nI a) = nI (8 * a) := by
    have q := ix2 ha (show 0 < 8 by decide)
    rw [show nI 0 = 0 from rfl, Int32.add_zero] at q
    exact q
  have hc8 : (8 * nI a).toNatClampNeg = 8 * a := by rw [h8a, cl (by omega)]
  unfold P_M_layRow f_M_layRow
  rw [hc, hc8]
  rcases SN_cases (nm := nm) (lk := lk) h.1 ha with q | ⟨e, he, q, hne, h8⟩
  · have hn : ¬ (0 : Int32) ≤ N a := by rw [hN, q]; decide
    rw [iF_neg hn]
    refine ⟨⟨in8 ha, in8 ha, ⟨fun q' => absurd q' hn, fun _ => trivial⟩, trivial⟩, Or.inl ⟨q, ?_⟩, fun i _ => rfl, fun i hi => ?_⟩
    · show upd M a 0 a = 0
      rw [upd_eq, if_pos rfl]
    · show upd M a 0 i = _
      rw [upd_eq, if_neg hi]
  · have hn : (0 : Int32) ≤ N a := by rw [hN, q]; exact nI_pos' (by omega)
    have hNe : N a = nI e := by rw [hN, q]
    rw [iF_pos hn]
    have m8 := mD_8 h8
    obtain ⟨i1, i2⟩ := forX_inv (f := b_M_layRow_1 N (nI a) st S) (a := 0) (n := 9) (lrP up lk a e R M) (lr_0 R M) (fun j u u' _ hu hf => (lr_s h hS ha he hNe h8 j u u' hu hf).1)
    have hstop : ∀ j u, lrP up lk a e R M j u → ¬ j < mD up lk a e → b_M_layRow_1 N (nI a) st S (0 + j) u = .inr u := fun j u hu hj => by
      unfold b_M_layRow_1
      rw [cl (by omega), hNe, iF_pos]
      have := hu.1
      rw [hu.2.1, show j = mD up lk a e by omega, sq_last ha h8]
    have hend := forX_end (f := b_M_layRow_1 N (nI a) st S) (a := 0) (n := 9) (N := mD up lk a e) (lrP up lk a e R M) (lr_0 R M) (fun j u u' _ hu hf => (lr_s h hS ha he hNe h8 j u u' hu hf).1) (by omega) (fun u hu => ⟨_, hstop _ u hu (by omega)⟩)
    obtain ⟨x, hx⟩ := id hend
    obtain ⟨j, u, hj, hu, -, hfx⟩ := i2 x hx
    have hxu : x = u ∧ j = mD up lk a e := by
      have hu1 := hu.1
      by_cases q' : j < mD up lk a e
      · exfalso
        unfold b_M_layRow_1 at hfx
        rcases iFrr hfx with ⟨c1, c2⟩ | ⟨c1, hfx⟩
        · rw [cl (by omega), hNe, hu.2.1] at c1
          obtain ⟨s1, -, -⟩ := sq_spec ha h8 j hu1
          have := nI_inj (by omega) (by omega) c1
          have := sq_inj ha h8 hu1 (Nat.le_refl _) (this.trans (sq_last ha h8).symm)
          omega
        · cases hfx
      · rw [hstop j u hu q'] at hfx
        cases hfx
        exact ⟨rfl, by omega⟩
    obtain ⟨rfl, rfl⟩ := hxu
    have hres : unX (forX (b_M_layRow_1 N (nI a) st S) 0 9 (nI a, upd R (8 * a) (nI a), upd (upd M a 0) a 1)) = x := by rw [hx]; rfl
    rw [hres]
    obtain ⟨-, -, p3, p4, p5, p6⟩ := hu
    refine ⟨⟨in8 ha, in8 ha, ⟨fun _ => ⟨by rw [h8a]; exact in64 (by omega), in8 ha, hend, fun q u hq hfq => ?_, trivial⟩, fun q' => absurd hn q'⟩, trivial⟩, Or.inr ⟨e, he, q, hne, h8, p3, p4⟩, p5, p6⟩
    have hu := i1 q u (by omega) hfq
    cases hf : b_M_layRow_1 N (nI a) st S (0 + q) u with
    | inl u' => exact (lr_s h hS ha he hNe h8 q u u' hu hf).2
    | inr y =>
      unfold P_M_layRow_1
      rw [cl (by omega), hNe]
      unfold b_M_layRow_1 at hf
      rcases iFrr hf with ⟨c1, -⟩ | ⟨-, hf⟩
      · rw [cl (by omega), hNe] at c1
        exact ⟨in8 ha, ⟨fun _ => trivial, fun q' => absurd c1 q'⟩, trivial⟩
      · cases hf
/-- all that the reference lays -/
def RO (up : Int32) (nm lk S N R M : Nat → Int32) : Prop := exS up lk S ∧ (∀ a, a < 8 → N a = SN up nm lk a) ∧ ∀ a, a < 8 → rlIs up nm lk a (M a) (fun k => R (8 * a + k))
theorem rlIs_congr {a : Nat} (ha : a < 8) {l l' : Int32} {r r' : Nat → Int32} (h : rlIs up nm lk a l r) (hl : l' = l) (hr : ∀ k, k < 8 → r' k = r k) : rlIs up nm lk a l' r' := by
  rcases h with ⟨h1, h2⟩ | ⟨e, h1, h2, h3, h4, h5, h6⟩
  · exact Or.inl ⟨h1, hl.trans h2⟩
  · exact Or.inr ⟨e, h1, h2, h3, h4, hl.trans h5, fun k hk => by rw [hr k (by have := mD_8 h4; omega), h6 k hk]⟩
theorem layPaths_spec (h : Rel up nm lk st) (S N R M : Nat → Int32) : P_M_layPaths st S N R M ∧ RO up nm lk (f_M_layPaths st S N R M).1 (f_M_layPaths st S N R M).2.1 (f_M_layPaths st S N R M).2.2.1 (f_M_layPaths st S N R M).2.2.2 := by
  obtain ⟨p1, hS⟩ := laySteps_spec h S
  have hnx : ∀ q, q ≤ 8 → ∀ a, a < q → forN (b_M_layPaths_1 st (f_M_laySteps st S)) 0 q N a = SN up nm lk a := by
    intro q hq
    refine forN_ind (f := b_M_layPaths_1 st (f_M_laySteps st S)) (a := 0) (n := q) (v := N) (fun j v => ∀ a, a < j → v a = SN up nm lk a) (fun a ha => by omega) (fun j v hj hv a ha => ?_)
    rw [Nat.zero_add]
    show upd v (nI j).toNatClampNeg _ a = _
    rw [cl (by omega), upd_eq]
    by_cases e : a = j
    · subst e
      rw [if_pos rfl]
      cases hb : bt up a
      · rw [iF_pos ((mUp_0 h (by omega)).mpr hb), SN_up h.1 (by omega) hb]
      · rw [iF_neg (fun q => by rw [(mUp_0 h (by omega)).mp q] at hb; cases hb), (nextOf_spec h hS ⟨by omega, hb⟩).2]
    · rw [if_neg e]; exact hv a (by omega)
  have hN := hnx 8 (Nat.le_refl 8)
  have hrow : ∀ q, q ≤ 8 → ∀ a, a < q → rlIs up nm lk a ((forN (b_M_layPaths_2 (forN (b_M_layPaths_1 st (f_M_laySteps st S)) 0 8 N) st (f_M_laySteps st S)) 0 q (R, M)).2 a) (fun k => (forN (b_M_layPaths_2 (forN (b_M_layPaths_1 st (f_M_laySteps st S)) 0 8 N) st (f_M_laySteps st S)) 0 q (R, M)).1 (8 * a + k)) := by
    intro q hq
    refine forN_ind (f := b_M_layPaths_2 (forN (b_M_layPaths_1 st (f_M_laySteps st S)) 0 8 N) st (f_M_laySteps st S)) (a := 0) (n := q) (v := (R, M)) (fun j v => ∀ a, a < j → rlIs up nm lk a (v.2 a) (fun k => v.1 (8 * a + k))) (fun a ha => by omega) (fun j v hj hv a ha => ?_)
    rw [Nat.zero_add]
    obtain ⟨-, l1, l2, l3⟩ := layRow_spec h hS (show j < 8 by omega) (hN j (by omega)) v.1 v.2
    by_cases e : a = j
    · subst e; exact l1
    · exact rlIs_congr (by omega) (hv a (by omega)) (l3 a e) (fun k hk => l2 (8 * a + k) (by omega))
  refine ⟨⟨p1, fun q hq => ?_, fun q hq => ?_, trivial⟩, hS, hN, hrow 8 (Nat.le_refl 8)⟩
  · rw [Nat.zero_add]
    refine ⟨P_mUp hq st, ⟨fun _ => trivial, fun c => ⟨(nextOf_spec h hS ⟨hq, ?_⟩).1, trivial⟩⟩, trivial⟩
    cases hb : bt up q
    · exact absurd ((mUp_0 h hq).mpr hb) c
    · rfl
  · rw [Nat.zero_add]
    exact ⟨(layRow_spec h hS hq (hN q hq) _ _).1, trivial⟩
end M

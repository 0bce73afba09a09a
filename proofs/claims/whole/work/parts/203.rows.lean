/-! the part of a node, the next on its ring, the row to it -/
noncomputable def PT (up : Int32) (lk : Nat → Int32) (a : Nat) : Int32 := (f_Paths_measureFrom (nI a) (fun _ => 0) up lk (fun _ => 0)).1 a
theorem PT_spec {up : Int32} {lk : Nat → Int32} (hu : S8 up) {a : Nat} (ha : a < 8) : S8 (PT up lk a) ∧ ∀ b, b < 8 → (bt (PT up lk a) b = true ↔ mD up lk a b < 1000) := by
  obtain ⟨-, ⟨R, h1, h2, h3⟩, -⟩ := measure_spec (lk := lk) hu ha (fun _ => 0) (fun _ => 0)
  have e : PT up lk a = R := by
    unfold PT
    rw [h1, upd_eq, if_pos rfl]
  rw [e]
  exact ⟨h2, h3⟩
theorem PT_eq {up : Int32} {lk : Nat → Int32} (hu : S8 up) {a : Nat} (ha : a < 8) {R : Int32} (h1 : S8 R) (h2 : ∀ b, b < 8 → (bt R b = true ↔ mD up lk a b < 1000)) : R = PT up lk a := by
  obtain ⟨p1, p2⟩ := PT_spec (lk := lk) hu ha
  refine S8_ext h1 p1 (fun b hb => ?_)
  exact Bool.eq_iff_iff.mpr ((h2 b hb).trans (p2 b hb).symm)
noncomputable def SN (up : Int32) (nm lk : Nat → Int32) (a : Nat) : Int32 := f_Paths_nextOnRing (nI a) (PT up lk) nm
theorem lay1_spec {up : Int32} {lk : Nat → Int32} (hu : S8 up) (parts befores S : Nat → Int32) : ((∀ a, a < 8 → (forN (b_Paths_lay_1 up lk) 0 8 (parts, befores, S)).1 a = PT up lk a) ∧ (∀ a, a < 8 → (forN (b_Paths_lay_1 up lk) 0 8 (parts, befores, S)).2.1 a = -6) ∧ ∀ a, a < 8 → ∀ b, b < 8 → (forN (b_Paths_lay_1 up lk) 0 8 (parts, befores, S)).2.2 (8 * a + b) = stC up lk a b) ∧ ∀ q, q < 8 → P_Paths_lay_1 up lk (0 + q) (forN (b_Paths_lay_1 up lk) 0 q (parts, befores, S)) := by
  refine ⟨?_, fun q hq => ?_⟩
  · have h := forN_ind (f := b_Paths_lay_1 up lk) (a := 0) (n := 8) (v := (parts, befores, S)) (fun j v => (∀ a, a < j → v.1 a = PT up lk a) ∧ (∀ a, a < j → v.2.1 a = -6) ∧ ∀ a, a < j → ∀ b, b < 8 → v.2.2 (8 * a + b) = stC up lk a b) ⟨fun a h => by omega, fun a h => by omega, fun a h => by omega⟩ (fun j v hj h => by
      obtain ⟨h1, h2, h3⟩ := h
      rw [Nat.zero_add]
      obtain ⟨-, ⟨R, m1, m2, m3⟩, m4⟩ := measure_spec (lk := lk) hu hj v.1 v.2.2
      refine ⟨fun a ha => ?_, fun a ha => ?_, fun a ha b hb => ?_⟩
      · show (f_Paths_measureFrom (nI j) v.1 up lk v.2.2).1 a = _
        rw [m1, upd_eq]
        by_cases e : a = j
        · rw [if_pos e, e]; exact PT_eq hu hj m2 m3
        · rw [if_neg e]; exact h1 a (by omega)
      · show upd v.2.1 (nI j).toNatClampNeg (-6) a = -6
        rw [cl (by omega), upd_eq]
        by_cases e : a = j
        · rw [if_pos e]
        · rw [if_neg e]; exact h2 a (by omega)
      · show (f_Paths_measureFrom (nI j) v.1 up lk v.2.2).2 (8 * a + b) = _
        by_cases e : a = j
        · subst e; exact m4.1 b hb
        · rw [m4.2 _ (by omega)]; exact h3 a (by omega) b hb)
    exact h
  · rw [Nat.zero_add]
    exact ⟨(measure_spec (lk := lk) hu hq _ _).1, trivial⟩
/-- the least node by a link that is one nearer -/
def nrP (up : Int32) (lk : Nat → Int32) (at_ e c : Nat) : Prop := mG up lk at_ c ∧ mD up lk c e + 1 = mD up lk at_ e
noncomputable def nr (up : Int32) (lk : Nat → Int32) (at_ e : Nat) : Nat := @dite Nat (∃ c, nrP up lk at_ e c) (Classical.propDecidable _) (fun h => Classical.choose (pk_least _ h)) (fun _ => 8)
theorem nr_spec {up : Int32} {lk : Nat → Int32} {at_ e : Nat} (h0 : 0 < mD up lk at_ e) (h8 : mD up lk at_ e < 1000) : nrP up lk at_ e (nr up lk at_ e) ∧ ∀ c, c < nr up lk at_ e → ¬ nrP up lk at_ e c := by
  obtain ⟨c, -, h1, h2⟩ := mD_near h0 h8
  have h : ∃ c, nrP up lk at_ e c := ⟨c, h1, h2⟩
  have e1 : nr up lk at_ e = Classical.choose (pk_least _ h) := by
    unfold nr
    exact dif_pos h
  rw [e1]
  exact Classical.choose_spec (pk_least _ h)
theorem nr_uniq {up : Int32} {lk : Nat → Int32} {at_ e c : Nat} (h0 : 0 < mD up lk at_ e) (h8 : mD up lk at_ e < 1000) (h : nrP up lk at_ e c) (hl : ∀ d, d < c → ¬ nrP up lk at_ e d) : c = nr up lk at_ e := by
  obtain ⟨h1, h2⟩ := nr_spec h0 h8
  rcases Nat.lt_trichotomy c (nr up lk at_ e) with q | q | q
  · exact absurd h (h2 c q)
  · exact q
  · exact absurd h1 (hl _ q)
theorem stC_m1 {up : Int32} {lk : Nat → Int32} {a b : Nat} (h0 : 0 < mD up lk a b) (h8 : mD up lk a b < 1000) : stC up lk a b - 1 = nI (mD up lk a b - 1) := by
  unfold stC
  rw [if_pos h8]
  obtain ⟨k, hk⟩ : ∃ k, mD up lk a b = k + 1 := ⟨mD up lk a b - 1, by omega⟩
  rw [hk]
  exact nI_pred k
theorem stC_neg {up : Int32} {lk : Nat → Int32} {a b : Nat} (h : ¬ (0 < mD up lk a b ∧ mD up lk a b < 1000)) : stC up lk a b - 1 < 0 := by
  unfold stC
  by_cases h8 : mD up lk a b < 1000
  · rw [if_pos h8, show mD up lk a b = 0 by omega]; decide
  · rw [if_neg h8]; decide
theorem stC_ix {up : Int32} {lk : Nat → Int32} {c e k : Nat} (hk : k < 8) : stC up lk c e = nI k ↔ mD up lk c e = k := by
  unfold stC
  by_cases h8 : mD up lk c e < 1000
  · rw [if_pos h8]
    exact ⟨fun h => nI_inj (by omega) (by omega) h, fun h => by rw [h]⟩
  · rw [if_neg h8]
    exact ⟨fun h => absurd h.symm (nI_ne6 (by omega)), fun h => by omega⟩
theorem near_spec {up : Int32} {lk S : Nat → Int32} (hu : S8 up) (hS : ∀ a, a < 8 → ∀ b, b < 8 → S (8 * a + b) = stC up lk a b) {at_ e : Nat} (ha : at_ < 8) (he : e < 8) : P_Paths_firstNearer (nI at_) (nI e) S up lk ∧ (0 < mD up lk at_ e ∧ mD up lk at_ e < 1000 → f_Paths_firstNearer (nI at_) (nI e) S up lk = nI (nr up lk at_ e)) ∧ (¬ (0 < mD up lk at_ e ∧ mD up lk at_ e < 1000) → f_Paths_firstNearer (nI at_) (nI e) S up lk = -6) := by
  have hl : S ((nI at_ * 8) + nI e).toNatClampNeg - 1 = stC up lk at_ e - 1 := by rw [ix1 ha he, cl (by omega), hS at_ ha e he]
  have hss : ∀ (j : Nat) (u u' : Unit), j < 9 → (j ≤ 8 ∧ ∀ c, c < j → (0 < mD up lk at_ e ∧ mD up lk at_ e < 1000) → ¬ nrP up lk at_ e c) → b_Paths_firstNearer_1 (stC up lk at_ e - 1) (f_Mesh_neighbours (nI at_) up lk) S (nI e) (0 + j) u = .inl u' → (j + 1 ≤ 8 ∧ ∀ c, c < j + 1 → (0 < mD up lk at_ e ∧ mD up lk at_ e < 1000) → ¬ nrP up lk at_ e c) := by
    intro j u u' hj9 h hf
    unfold b_Paths_firstNearer_1 at hf
    rw [Nat.zero_add] at hf
    obtain ⟨c1, hf⟩ := iFrl hf
    obtain ⟨c2, hf⟩ := iFrl hf
    rw [le8 (by omega)] at c1
    refine ⟨by omega, fun c hc hd hn => ?_⟩
    by_cases ec : c = j
    · subst ec
      have hg := (nb_G ha hn.1.2.1).mpr hn.1
      rw [iF_neg (fun q => by rw [(has_0 hn.1.2.1 _).mp q] at hg; cases hg)] at hf
      rw [ix1 hn.1.2.1 he, cl (by omega), hS c hn.1.2.1 e he, stC_m1 hd.1 hd.2] at hf
      have h8 := mD_8 hd.2
      rw [iF_pos ((stC_ix (by omega)).mpr (by have := hn.2; omega))] at hf
      cases hf
    · exact h.2 c (by omega) hd hn
  have h00 : (0 ≤ 8 ∧ ∀ c, c < 0 → (0 < mD up lk at_ e ∧ mD up lk at_ e < 1000) → ¬ nrP up lk at_ e c) := ⟨by omega, fun c h => by omega⟩
  have hend := forX_end (f := b_Paths_firstNearer_1 (stC up lk at_ e - 1) (f_Mesh_neighbours (nI at_) up lk) S (nI e)) (a := 0) (n := 9) (N := 8) (v := ()) (fun j _ => j ≤ 8 ∧ ∀ c, c < j → (0 < mD up lk at_ e ∧ mD up lk at_ e < 1000) → ¬ nrP up lk at_ e c) h00 hss (by decide) (fun u _ => ⟨_, iF_pos ((le8 (by decide)).mpr (by decide))⟩)
  obtain ⟨i1, i2⟩ := forX_inv (f := b_Paths_firstNearer_1 (stC up lk at_ e - 1) (f_Mesh_neighbours (nI at_) up lk) S (nI e)) (a := 0) (n := 9) (v := ()) (fun j _ => j ≤ 8 ∧ ∀ c, c < j → (0 < mD up lk at_ e ∧ mD up lk at_ e < 1000) → ¬ nrP up lk at_ e c) h00 hss
  obtain ⟨x, hx⟩ := id hend
  have hres : f_Paths_firstNearer (nI at_) (nI e) S up lk = x := by
    unfold f_Paths_firstNearer
    rw [hl, hx]
    rfl
  refine ⟨⟨by rw [ix1 ha he]; exact in64 (by omega), P_nb ha, by rw [hl]; exact hend, fun q u hq hfq => ?_, trivial⟩, fun hd => ?_, fun hd => ?_⟩
  · rw [Nat.zero_add]
    refine ⟨⟨fun _ => trivial, fun c1 => ⟨⟨fun _ => trivial, fun _ => ⟨⟨fun _ => trivial, fun _ => ⟨?_, trivial⟩⟩, trivial⟩⟩, trivial⟩⟩, trivial⟩
    rw [le8 (by omega)] at c1
    rw [ix1 (by omega) he]
    exact in64 (by omega)
  · rw [hres]
    obtain ⟨j, u, hj, ⟨p1, p2⟩, -, hf⟩ := i2 x hx
    unfold b_Paths_firstNearer_1 at hf
    rw [Nat.zero_add] at hf
    rcases iFrr hf with ⟨c1, c2⟩ | ⟨c1, hf⟩
    · rw [le8 (by omega)] at c1
      exfalso
      obtain ⟨n1, -⟩ := nr_spec hd.1 hd.2
      exact p2 _ (by have := n1.1.2.1; omega) hd n1
    · rw [le8 (by omega)] at c1
      rcases iFrr hf with ⟨c2, c3⟩ | ⟨c2, hf⟩
      · rw [stC_m1 hd.1 hd.2] at c2
        exact absurd c2 (nI_n0 (by have := mD_8 hd.2; omega))
      · by_cases c4 : f_C_has (f_Mesh_neighbours (nI at_) up lk) (nI j) = 0
        · rw [iF_pos c4] at hf; cases hf
        · rw [iF_neg c4] at hf
          rcases iFrr hf with ⟨c5, c6⟩ | ⟨c5, hf⟩
          · rw [← c6]
            have hg : bt (f_Mesh_neighbours (nI at_) up lk) j = true := by
              cases hb : bt (f_Mesh_neighbours (nI at_) up lk) j
              · exact absurd ((has_0 (by omega) _).mpr hb) c4
              · rfl
            have hG := (nb_G ha (by omega)).mp hg
            rw [ix1 (by omega) he, cl (by omega), hS j (by omega) e he, stC_m1 hd.1 hd.2, stC_ix (by have := mD_8 hd.2; omega)] at c5
            rw [nr_uniq hd.1 hd.2 ⟨hG, by omega⟩ (fun d hdj => p2 d hdj hd)]
          · cases hf
  · rw [hres]
    obtain ⟨j, u, hj, -, -, hf⟩ := i2 x hx
    unfold b_Paths_firstNearer_1 at hf
    rcases iFrr hf with ⟨c1, c2⟩ | ⟨c1, hf⟩
    · exact c2.symm
    · rcases iFrr hf with ⟨c2, c3⟩ | ⟨c2, hf⟩
      · exact c3.symm
      · exact absurd (stC_neg hd) c2
/-- the row of nodes -/
noncomputable def sq (up : Int32) (lk : Nat → Int32) (a e : Nat) : Nat → Nat
  | 0 => a
  | k + 1 => nr up lk (sq up lk a e k) e
theorem sq_spec {up : Int32} {lk : Nat → Int32} {a e : Nat} (ha : a < 8) (h8 : mD up lk a e < 1000) : ∀ k, k ≤ mD up lk a e → sq up lk a e k < 8 ∧ mD up lk (sq up lk a e k) e + k = mD up lk a e ∧ (k < mD up lk a e → mG up lk (sq up lk a e k) (sq up lk a e (k + 1))) := by
  have step : ∀ k, sq up lk a e k < 8 → mD up lk (sq up lk a e k) e + k = mD up lk a e → k < mD up lk a e → nrP up lk (sq up lk a e k) e (sq up lk a e (k + 1)) := fun k _ h2 h3 => (nr_spec (by omega) (by omega)).1
  intro k
  induction k with
  | zero => intro _; exact ⟨ha, by show mD up lk a e + 0 = _; omega, fun h => (step 0 ha (by show mD up lk a e + 0 = _; omega) h).1⟩
  | succ k ih =>
    intro hk
    obtain ⟨h1, h2, -⟩ := ih (by omega)
    have h3 := step k h1 h2 (by omega)
    have h4 : sq up lk a e (k + 1) < 8 := h3.1.2.1
    have h5 : mD up lk (sq up lk a e (k + 1)) e + (k + 1) = mD up lk a e := by have := h3.2; omega
    exact ⟨h4, h5, fun h => (step (k + 1) h4 h5 h).1⟩
theorem sq_inj {up : Int32} {lk : Nat → Int32} {a e : Nat} (ha : a < 8) (h8 : mD up lk a e < 1000) {i j : Nat} (hi : i ≤ mD up lk a e) (hj : j ≤ mD up lk a e) (h : sq up lk a e i = sq up lk a e j) : i = j := by
  have h1 := (sq_spec ha h8 i hi).2.1
  have h2 := (sq_spec ha h8 j hj).2.1
  rw [h] at h1
  omega
theorem sq_last {up : Int32} {lk : Nat → Int32} {a e : Nat} (ha : a < 8) (h8 : mD up lk a e < 1000) : sq up lk a e (mD up lk a e) = e := by
  have h1 := (sq_spec ha h8 _ (Nat.le_refl _)).2.1
  exact (mD_0 (up := up) (lk := lk) (by omega : mD up lk (sq up lk a e (mD up lk a e)) e = 0)).1.symm

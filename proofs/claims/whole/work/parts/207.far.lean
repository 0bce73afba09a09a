/-! the reference lays its steps: they are how far -/
theorem dv8 : ∀ j, j < 64 → nI j / 8 = nI (j / 8) ∧ nI j - nI j / 8 * 8 = nI (j % 8) := by decide +kernel
def exS (up : Int32) (lk S : Nat → Int32) : Prop := ∀ a b, a < 8 → b < 8 → S (8 * a + b) = nI (mD up lk a b)
theorem mD_1000 (up : Int32) (lk : Nat → Int32) (a b : Nat) : mD up lk a b ≤ 1000 := by
  rcases mD_cases up lk a b with ⟨w, -⟩ | ⟨w, -⟩ <;> omega
theorem JS_ge {up : Int32} {lk S : Nat → Int32} (h : JS up lk S) {a b : Nat} (ha : a < 8) (hb : b < 8) : ∃ k, k ≤ 1000 ∧ S (8 * a + b) = nI k ∧ mD up lk a b ≤ k := by
  obtain ⟨k, h1, h2, h3⟩ := h.1 a b ha hb
  refine ⟨k, h1, h2, ?_⟩
  rcases h3 with q | q
  · rw [q]; exact mD_1000 up lk a b
  · exact dd_le q
theorem JS_ex {up : Int32} {lk S : Nat → Int32} (h : JS up lk S) (h7 : ∀ a b, a < 8 → b < 8 → mD up lk a b ≤ 7 → S (8 * a + b) = nI (mD up lk a b)) : exS up lk S := by
  intro a b ha hb
  by_cases q : mD up lk a b < 1000
  · exact h7 a b ha hb (by have := mD_8 q; omega)
  · obtain ⟨k, h1, h2, h3⟩ := JS_ge h ha hb
    rw [h2, show k = mD up lk a b by have := mD_1000 up lk a b; omega]
theorem ex_MS {up : Int32} {lk S0 : Nat → Int32} (h0 : exS up lk S0) {v : Int32 × (Nat → Int32)} (h : MS up lk S0 v) : v.1 = 0 := by
  obtain ⟨h1, h2, h3 | ⟨-, a, b, ha, hb, q⟩⟩ := h
  · exact h3.1
  · exfalso
    obtain ⟨k, k1, k2, k3⟩ := JS_ge h1 ha hb
    rw [k2, h0 a b ha hb, ltN (by omega) (by have := mD_1000 up lk a b; omega)] at q
    omega
section M
variable {up : Int32} {nm lk st : Nat → Int32}
def lsP (up : Int32) (lk : Nat → Int32) (j : Nat) (v : Int32 × (Nat → Int32)) : Prop := JS up lk v.2 ∧ (v.1 = 0 → ∀ a b c, a < 8 → mG up lk b c → v.2 (8 * a + c) ≤ v.2 (8 * a + b) + 1) ∧ (∀ a b, a < 8 → b < 8 → mD up lk a b ≤ j → v.2 (8 * a + b) = nI (mD up lk a b)) ∧ (8 ≤ j → v.1 = 0)
theorem ls1 (h : Rel up nm lk st) (S : Nat → Int32) : ∀ a b, a < 8 → b < 8 → (forN (b_M_laySteps_1 st) 0 64 S) (8 * a + b) = if a = b ∧ bt up a = true then 0 else 1000 := by
  have h1 := forN_ind (f := b_M_laySteps_1 st) (a := 0) (n := 64) (v := S) (fun j v => ∀ i, i < j → v i = if i / 8 = i % 8 ∧ bt up (i / 8) = true then 0 else 1000) (fun i hi => by omega) (fun j v hj hv => by
    intro i hi
    rw [Nat.zero_add]
    unfold b_M_laySteps_1
    rw [cl (by omega), upd_eq]
    by_cases e : i = j
    · subst e
      rw [if_pos rfl, (dv8 i hj).2, (dv8 i hj).1]
      by_cases e2 : i / 8 = i % 8
      · rw [iF_pos (by rw [e2])]
        cases hu : bt up (i / 8)
        · rw [iF_pos ((mUp_0 h (by omega)).mpr hu), if_neg (by simp)]
        · rw [iF_neg (fun q => by rw [(mUp_0 h (by omega)).mp q] at hu; cases hu), if_pos ⟨e2, rfl⟩]
      · rw [iF_neg (nI_ne (by omega) (by omega) e2), if_neg (fun q => e2 q.1)]
    · rw [if_neg e]
      exact hv i (by omega))
  intro a b ha hb
  rw [h1 (8 * a + b) (by omega), show (8 * a + b) / 8 = a by omega, show (8 * a + b) % 8 = b by omega]
theorem ls_0 (h : Rel up nm lk st) (S : Nat → Int32) : lsP up lk 0 (1, forN (b_M_laySteps_1 st) 0 64 S) := by
  have h1 := ls1 h S
  refine ⟨⟨fun a b ha hb => ?_, fun a ha => ?_⟩, fun q => absurd (show (1 : Int32) = 0 from q) (by decide), fun a b ha hb q => ?_, fun q => by omega⟩
  · show ∃ k, k ≤ 1000 ∧ (forN (b_M_laySteps_1 st) 0 64 S) (8 * a + b) = nI k ∧ _
    rw [h1 a b ha hb]
    by_cases e : a = b ∧ bt up a = true
    · rw [if_pos e]
      exact ⟨0, by omega, rfl, Or.inr ⟨e.1.symm, ha, e.2⟩⟩
    · rw [if_neg e]
      exact ⟨1000, by omega, rfl, Or.inl rfl⟩
  · show (forN (b_M_laySteps_1 st) 0 64 S) (8 * a + a) = 0
    rw [h1 a a ha.1 ha.1, if_pos ⟨rfl, ha.2⟩]
  · show (forN (b_M_laySteps_1 st) 0 64 S) (8 * a + b) = _
    have q0 : mD up lk a b = 0 := by omega
    obtain ⟨q1, q2⟩ := mD_0 q0
    rw [h1 a b ha hb, if_pos ⟨q1.symm, q2.2⟩, q0]
    rfl
theorem ls_s (h : Rel up nm lk st) (j : Nat) (u u' : Int32 × (Nat → Int32)) (hu : lsP up lk j u) (hf : b_M_laySteps_2 st (0 + j) u = .inl u') : lsP up lk (j + 1) u' := by
  obtain ⟨p1, p2, p3, p4⟩ := hu
  unfold b_M_laySteps_2 at hf
  obtain ⟨c1, hf⟩ := iFrl hf
  cases hf
  obtain ⟨m, r⟩ := sh0 h p1
  refine ⟨m.1, fun q a b c ha hg => ?_, fun a b ha hb q => ?_, fun q => ?_⟩
  · show (f_M_shortenOnce st u.2).2 (8 * a + c) ≤ (f_M_shortenOnce st u.2).2 (8 * a + b) + 1
    rcases m.2.2 with ⟨-, e⟩ | ⟨e, -⟩
    · rw [e a b ha (mG8 b c hg).1]
      exact r a b c ha hg
    · have q' : (f_M_shortenOnce st u.2).1 = 0 := q
      rw [e] at q'
      exact absurd q' (by decide)
  · show (f_M_shortenOnce st u.2).2 (8 * a + b) = _
    obtain ⟨k, k1, k2, k3⟩ := JS_ge m.1 ha hb
    have hm := mD_1000 up lk a b
    have hk : k ≤ mD up lk a b := by
      by_cases q' : mD up lk a b ≤ j
      · have q1 := m.2.1 a b ha hb
        rw [p3 a b ha hb q', k2, leN (by omega) (by omega)] at q1
        exact q1
      · by_cases q2 : j < 900
        · obtain ⟨c, c1', c2, c3⟩ := mD_pred (show mD up lk a b = j + 1 by omega) q2
          have q3 := r a c b ha c2
          rw [p3 a c ha c1' (by omega), c3, k2, nI_1, leN (by omega) (by omega)] at q3
          omega
        · by_cases q3 : mD up lk a b < 1000
          · have := mD_8 q3; omega
          · omega
    rw [k2, show k = mD up lk a b by omega]
  · show (f_M_shortenOnce st u.2).1 = 0
    by_cases q' : 8 ≤ j
    · exact absurd (p4 q') c1
    · exact ex_MS (JS_ex p1 (fun a b ha hb q2 => p3 a b ha hb (by omega))) m
theorem ls_x (h : Rel up nm lk st) {u : Int32 × (Nat → Int32)} (j : Nat) (hu : lsP up lk j u) (h0 : u.1 = 0) : exS up lk u.2 := by
  obtain ⟨p1, p2, -, -⟩ := hu
  intro a b ha hb
  have hk : ∀ c, c < 8 → ∃ k, k ≤ 1000 ∧ u.2 (8 * a + c) = nI k ∧ (k = 1000 ∨ Wk (mU up) (mG up lk) a k c) ∧ (u.2 (8 * a + c)).toNatClampNeg = k := fun c hc => by
    obtain ⟨k, h1, h2, h3⟩ := p1.1 a c ha hc
    exact ⟨k, h1, h2, h3, by rw [h2, cl (by omega)]⟩
  have e := dd_uniq (U := mU up) (G := mG up lk) mU8 mG8 (a := a) (S := fun c => (u.2 (8 * a + c)).toNatClampNeg) (fun q => by
      show (u.2 (8 * a + a)).toNatClampNeg = 0
      rw [p1.2 a q]; rfl) (fun c d hg hc => by
      have hc' : (u.2 (8 * a + c)).toNatClampNeg < 1000 := hc
      show (u.2 (8 * a + d)).toNatClampNeg ≤ (u.2 (8 * a + c)).toNatClampNeg + 1
      obtain ⟨g1, g2⟩ := mG8 c d hg
      obtain ⟨k, k1, k2, -, k4⟩ := hk c g1
      obtain ⟨l, l1, l2, -, l4⟩ := hk d g2
      have q := p2 h0 a c d ha hg
      rw [k2, l2, nI_1, leN (by omega) (by omega)] at q
      rw [k4, l4]; exact q) (fun c hc => by
      obtain ⟨k, k1, k2, k3, k4⟩ := hk c hc
      show (u.2 (8 * a + c)).toNatClampNeg = 1000 ∨ Wk _ _ a (u.2 (8 * a + c)).toNatClampNeg c
      rw [k4]; exact k3) hb
  obtain ⟨k, k1, k2, k3, k4⟩ := hk b hb
  have e' : (u.2 (8 * a + b)).toNatClampNeg = mD up lk a b := e
  rw [k4] at e'
  rw [k2, e']
theorem laySteps_spec (h : Rel up nm lk st) (S : Nat → Int32) : P_M_laySteps st S ∧ exS up lk (f_M_laySteps st S) := by
  obtain ⟨i1, i2⟩ := forX_inv (f := b_M_laySteps_2 st) (a := 0) (n := 20) (lsP up lk) (ls_0 h S) (fun j u u' _ hu hf => ls_s h j u u' hu hf)
  have hend := forX_end (f := b_M_laySteps_2 st) (a := 0) (n := 20) (N := 8) (lsP up lk) (ls_0 h S) (fun j u u' _ hu hf => ls_s h j u u' hu hf) (by decide) (fun u hu => ⟨_, iF_pos (hu.2.2.2 (Nat.le_refl 8))⟩)
  obtain ⟨x, hx⟩ := id hend
  obtain ⟨j, u, hj, hu, -, hfx⟩ := i2 x hx
  have hxu : x = u ∧ u.1 = 0 := by
    unfold b_M_laySteps_2 at hfx
    rcases iFrr hfx with ⟨c1, c2⟩ | ⟨c1, hfx⟩
    · exact ⟨c2.symm, c1⟩
    · cases hfx
  obtain ⟨rfl, h0⟩ := hxu
  refine ⟨⟨fun q hq => ?_, hend, fun q u hq hfq => ?_, trivial⟩, ?_⟩
  · rw [Nat.zero_add]
    refine ⟨⟨fun _ => ⟨?_, trivial⟩, fun _ => trivial⟩, trivial⟩
    rw [(dv8 q hq).1]
    exact P_mUp (by omega) st
  · exact ⟨⟨fun _ => trivial, fun _ => ⟨P_sh h (i1 q u (by omega) hfq).1, trivial⟩⟩, trivial⟩
  · have e : f_M_laySteps st S = x.2 := by
      show (unX (forX (b_M_laySteps_2 st) 0 20 (1, forN (b_M_laySteps_1 st) 0 64 S))).2 = _
      rw [hx]; rfl
    rw [e]
    exact ls_x h j hu h0
end M

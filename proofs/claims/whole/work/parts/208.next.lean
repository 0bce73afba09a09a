/-! the reference's next on the ring is the class's -/
theorem nI_subL {a b : Nat} (h : a ≤ b) : nI b - nI a = nI (b - a) := by
  have e : nI b = nI (b - a) + nI a := by rw [nI_add]; congr 1; omega
  rw [e, Int32.add_sub_cancel]
theorem nI_subR {a b : Nat} (h : b ≤ a) : nI b - nI a = -(nI (a - b)) := by rw [← Int32.neg_sub, nI_subL h]
theorem fm_p : ∀ d, d < 256 → (0 : Int32) ≤ (nI d ^^^ 256) ∧ nI d - nI d / 256 * 256 = nI d ∧ nI d + 256 - (nI d + 256) / 256 * 256 = nI d := by decide +kernel
theorem fm_n : ∀ d, d < 256 → 0 < d → (¬ (0 : Int32) ≤ (-(nI d) ^^^ 256)) ∧ -(nI d) - -(nI d) / 256 * 256 = -(nI d) ∧ ¬ -(nI d) = 0 ∧ -(nI d) + 256 = nI (256 - d) ∧ (-(nI d) + 256) - (-(nI d) + 256) / 256 * 256 = nI (256 - d) := by decide +kernel
def AH (a b : Nat) : Nat := if a ≤ b then b - a else 256 - (a - b)
theorem AH_lt {a b : Nat} (ha : a < 256) (hb : b < 256) : AH a b < 256 := by unfold AH; split <;> omega
theorem AH_inj {a b c : Nat} (ha : a < 256) (hb : b < 256) (hc : c < 256) (h : AH a b = AH a c) : b = c := by
  unfold AH at h
  by_cases q1 : a ≤ b <;> by_cases q2 : a ≤ c <;> simp only [q1, q2, if_true, if_false] at h <;> omega
theorem fm_eq {a b : Nat} (ha : a < 256) (hb : b < 256) : f_J_floorMod (nI b - nI a) 256 = nI (AH a b) := by
  unfold f_J_floorMod AH
  by_cases h : a ≤ b
  · obtain ⟨h1, h2, -⟩ := fm_p (b - a) (by omega)
    rw [nI_subL h, iF_pos h1, h2, if_pos h]
  · obtain ⟨h1, h2, h3, h4, -⟩ := fm_n (a - b) (by omega) (by omega)
    rw [nI_subR (by omega), iF_neg h1, h2, iF_neg h3, h4, if_neg h]
theorem am_eq {a b : Nat} (ha : a < 256) (hb : b < 256) : (nI b - nI a + 256) - (nI b - nI a + 256) / 256 * 256 = nI (AH a b) := by
  unfold AH
  by_cases h : a ≤ b
  · obtain ⟨-, -, h3⟩ := fm_p (b - a) (by omega)
    rw [nI_subL h, h3, if_pos h]
  · obtain ⟨-, -, -, -, h5⟩ := fm_n (a - b) (by omega) (by omega)
    rw [nI_subR (by omega), h5, if_neg h]
section M
variable {up : Int32} {nm lk st S : Nat → Int32}
theorem tog_0 (hS : exS up lk S) {a b : Nat} (ha : a < 8) (hb : b < 8) : (f_M_areTogether (nI a) (nI b) S = 0) ↔ ¬ mD up lk a b < 1000 := by
  unfold f_M_areTogether
  rw [ix2 ha hb, cl (by omega), hS a b ha hb]
  have hm := mD_1000 up lk a b
  by_cases q : mD up lk a b < 1000
  · rw [iF_neg (fun h => by
      have h' : nI 1000 ≤ nI (mD up lk a b) := h
      rw [leN (by omega) (by omega)] at h'; omega)]
    exact ⟨fun h => absurd h (by decide), fun h => absurd q h⟩
  · rw [iF_pos (c := (1000 : Int32) ≤ nI (mD up lk a b)) (show nI 1000 ≤ nI (mD up lk a b) from (leN (by omega) (by omega)).mpr (by omega))]
    exact ⟨fun _ => q, fun _ => rfl⟩
theorem P_tog {a b : Nat} (ha : a < 8) (hb : b < 8) (S : Nat → Int32) : P_M_areTogether (nI a) (nI b) S := ⟨by rw [ix2 ha hb]; exact in64 (by omega), trivial⟩
theorem P_ah {a b : Nat} (ha : a < 8) (hb : b < 8) (st : Nat → Int32) : P_M_ahead (nI a) (nI b) st := ⟨by rw [e_nI]; exact in80 (by omega), by rw [e_nI]; exact in80 (by omega), trivial⟩
theorem ah_eq (h : Rel up nm lk st) {a b ka kb : Nat} (ha : mU up a) (hb : mU up b) (h1 : ka < 256) (h2 : kb < 256) (e1 : nm a = nI ka) (e2 : nm b = nI kb) : f_M_ahead (nI a) (nI b) st = nI (AH ka kb) := by
  unfold f_M_ahead
  have a8 := ha.1
  have b8 := hb.1
  rw [e_nI, e_nI, cl (by omega), cl (by omega), (h.2.2.2.1 a ha.1 ha.2).1, (h.2.2.2.1 b hb.1 hb.2).1, e1, e2, am_eq h1 h2]
def noP (up : Int32) (nm : Nat → Int32) (ka : Nat) (u : Int32) (v : Int32 × Int32) : Prop := v.1 = u ∧ ((u = -6 ∧ v.2 = 256) ∨ ∃ e k, mU up e ∧ k < 256 ∧ nm e = nI k ∧ u = nI e ∧ v.2 = nI (AH ka k))
theorem no_s (h : Rel up nm lk st) (hS : exS up lk S) {a : Nat} (ha : mU up a) {ka : Nat} (h1 : ka < 256) (e1 : nm a = nI ka) {j : Nat} (hj : j < 8) {u : Int32} {v : Int32 × Int32} (hi : noP up nm ka u v) : noP up nm ka (b_M_nextOf_1 (nI a) S st j u) (b_Paths_nextOnRing_1 (nI a) (PT up lk) nm j v) ∧ P_M_nextOf_1 (nI a) S st j u := by
  have a8 := ha.1
  refine ⟨?_, ⟨fun _ => trivial, fun _ => ⟨P_tog a8 hj S, ⟨fun _ => trivial, fun _ => ⟨⟨fun _ => trivial, fun q => ⟨P_ah a8 hj st, ?_, trivial⟩⟩, trivial⟩⟩, trivial⟩⟩, trivial⟩
  · unfold b_M_nextOf_1 b_Paths_nextOnRing_1
    by_cases c1 : nI j = nI a
    · rw [iF_pos c1, iF_pos c1, iF_pos c1]; exact hi
    · rw [iF_neg c1, iF_neg c1, iF_neg c1, cl (by omega), cl (by omega)]
      by_cases c2 : mD up lk a j < 1000
      · have hju := (mD_up c2).2
        obtain ⟨-, kj, hk, ek⟩ := h.2.2.2.1 j hj hju.2
        have c3 : ¬ f_C_has (PT up lk a) (nI j) = 0 := fun q => by
          have := (has_0 hj _).mp q
          rw [((PT_spec (lk := lk) h.1 a8).2 j hj).mpr c2] at this
          cases this
        rw [iF_neg (fun q => (tog_0 hS a8 hj).mp q c2), iF_neg c3, iF_neg c3, ek, e1, fm_eq h1 hk]
        have hah := AH_lt h1 hk
        have new : noP up nm ka (nI j) (nI j, nI (AH ka kj)) := ⟨rfl, Or.inr ⟨j, kj, hju, hk, ek, rfl, rfl⟩⟩
        obtain ⟨i1, ⟨i2, i3⟩ | ⟨e, k, i2, i3, i4, i5, i6⟩⟩ := hi
        · rw [iF_pos (c := u < 0) (by rw [i2]; decide), i3]
          have c4 : ¬ (256 : Int32) ≤ nI (AH ka kj) := fun q => by
            have q' : nI 256 ≤ nI (AH ka kj) := q
            rw [leN (by omega) (by omega)] at q'; omega
          rw [iF_neg c4, iF_neg c4]
          exact new
        · have e8 := i2.1
          rw [iF_neg (c := u < 0) (by rw [i5]; exact nI_n0 (by omega)), i5, i6, ah_eq h ha i2 h1 i3 e1 i4, ah_eq h ha hju h1 hk e1 ek]
          have hak := AH_lt h1 i3
          by_cases c5 : nI (AH ka k) ≤ nI (AH ka kj)
          · rw [iF_pos c5, iF_pos c5, iF_pos c5]
            exact ⟨by rw [i1, i5], Or.inr ⟨e, k, i2, i3, i4, rfl, rfl⟩⟩
          · rw [iF_neg c5, iF_neg c5, iF_neg c5]
            exact new
      · have c3 : f_C_has (PT up lk a) (nI j) = 0 := (has_0 hj _).mpr (by
          cases hb : bt (PT up lk a) j
          · rfl
          · exact absurd (((PT_spec (lk := lk) h.1 a8).2 j hj).mp hb) c2)
        rw [iF_pos ((tog_0 hS a8 hj).mpr c2), iF_pos c3, iF_pos c3]
        exact hi
  · obtain ⟨i1, ⟨i2, i3⟩ | ⟨e, k, i2, i3, i4, i5, i6⟩⟩ := hi
    · exact absurd (by rw [i2]; decide) q
    · rw [i5]; exact P_ah a8 i2.1 st
theorem forN_sim {U V : Type} {f : Nat → U → U} {g : Nat → V → V} {n : Nat} {u : U} {v : V} (R : U → V → Prop) (h0 : R u v) (hs : ∀ j u v, j < n → R u v → R (f j u) (g j v)) : ∀ q, q ≤ n → R (forN f 0 q u) (forN g 0 q v) := by
  intro q
  induction q with
  | zero => intro _; rw [forN_0, forN_0]; exact h0
  | succ q ih => intro hq; rw [forN_s, forN_s, Nat.zero_add]; exact hs q _ _ (by omega) (ih (by omega))
theorem nextOf_spec (h : Rel up nm lk st) (hS : exS up lk S) {a : Nat} (ha : mU up a) : P_M_nextOf (nI a) S st ∧ f_M_nextOf (nI a) S st = SN up nm lk a := by
  obtain ⟨-, ka, h1, e1⟩ := h.2.2.2.1 a ha.1 ha.2
  have hsim := forN_sim (f := b_M_nextOf_1 (nI a) S st) (g := b_Paths_nextOnRing_1 (nI a) (PT up lk) nm) (n := 8) (u := -6) (v := (-6, 256)) (noP up nm ka) ⟨rfl, Or.inl ⟨rfl, rfl⟩⟩ (fun j u v hj hi => (no_s h hS ha h1 e1 hj hi).1)
  refine ⟨⟨fun q hq => ?_, trivial⟩, ?_⟩
  · rw [Nat.zero_add]
    exact (no_s h hS ha h1 e1 hq (hsim q (by omega))).2
  · exact (hsim 8 (Nat.le_refl 8)).1.symm
theorem SN_up {up : Int32} {nm lk : Nat → Int32} (hu : S8 up) {a : Nat} (ha : a < 8) (h : bt up a = false) : SN up nm lk a = -6 := by
  rcases SN_cases (nm := nm) (lk := lk) hu ha with q | ⟨e, -, -, -, q⟩
  · exact q
  · have := (mD_up q).1.2
    rw [h] at this; cases this
end M

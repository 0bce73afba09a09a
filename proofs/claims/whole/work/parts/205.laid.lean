theorem nor_congr {a : Nat} (ha : a < 8) {p1 p2 nm : Nat → Int32} (h : p1 a = p2 a) : f_Paths_nextOnRing (nI a) p1 nm = f_Paths_nextOnRing (nI a) p2 nm := by
  unfold f_Paths_nextOnRing
  have hb : b_Paths_nextOnRing_1 (nI a) p1 nm = b_Paths_nextOnRing_1 (nI a) p2 nm := by
    funext j v
    unfold b_Paths_nextOnRing_1
    rw [cl (by omega), h]
  rw [hb]
theorem P_nor {a : Nat} (ha : a < 8) (p nm : Nat → Int32) : P_Paths_nextOnRing (nI a) p nm := ⟨fun q hq => by
  rw [Nat.zero_add]
  exact ⟨⟨fun _ => trivial, fun _ => ⟨in8 ha, ⟨fun _ => trivial, fun _ => ⟨in8 ha, ⟨by decide, trivial⟩, trivial⟩⟩, trivial⟩⟩, trivial⟩, trivial⟩
theorem SN_cases {up : Int32} {nm lk : Nat → Int32} (hu : S8 up) {a : Nat} (ha : a < 8) : SN up nm lk a = -6 ∨ ∃ e, e < 8 ∧ SN up nm lk a = nI e ∧ e ≠ a ∧ mD up lk a e < 1000 := by
  have h := forN_ind (f := b_Paths_nextOnRing_1 (nI a) (PT up lk) nm) (a := 0) (n := 8) (v := (-6, 256)) (fun j v => v.1 = -6 ∨ ∃ e, e < 8 ∧ v.1 = nI e ∧ e ≠ a ∧ mD up lk a e < 1000) (Or.inl rfl) (fun j v hj h => by
    rw [Nat.zero_add]
    show iF _ _ _ = (-6 : Int32) ∨ ∃ e, e < 8 ∧ iF _ _ _ = nI e ∧ e ≠ a ∧ mD up lk a e < 1000
    by_cases c1 : nI j = nI a
    · rw [iF_pos c1]; exact h
    · rw [iF_neg c1]
      by_cases c2 : f_C_has (PT up lk (nI a).toNatClampNeg) (nI j) = 0
      · rw [iF_pos c2]; exact h
      · rw [iF_neg c2]
        by_cases c3 : v.2 ≤ (f_J_floorMod ((nm (nI j).toNatClampNeg) - (nm (nI a).toNatClampNeg)) 256)
        · rw [iF_pos c3]; exact h
        · rw [iF_neg c3]
          refine Or.inr ⟨j, hj, rfl, fun q => c1 (by rw [q]), ?_⟩
          rw [cl (by omega)] at c2
          refine ((PT_spec (lk := lk) hu ha).2 j hj).mp ?_
          cases hb : bt (PT up lk a) j
          · exact absurd ((has_0 hj _).mpr hb) c2
          · rfl)
  exact h
/-- the last node whose next is this one -/
noncomputable def BF (up : Int32) (nm lk : Nat → Int32) (b : Nat) : Nat → Int32
  | 0 => -6
  | n + 1 => iF (SN up nm lk n = nI b) (nI n) (BF up nm lk b n)
/-- all that is laid of a mesh -/
def PO (up : Int32) (nm lk parts nexts befores steps lengths rows places : Nat → Int32) : Prop := (∀ a, a < 8 → parts a = PT up lk a) ∧ (∀ a, a < 8 → nexts a = SN up nm lk a) ∧ (∀ a, a < 8 → befores a = BF up nm lk a 8) ∧ (∀ a, a < 8 → ∀ b, b < 8 → steps (8 * a + b) = stC up lk a b) ∧ ∀ a, a < 8 → laidIs up nm lk a (lengths a) (fun k => rows (8 * a + k)) (fun b => places (8 * a + b))
theorem laidIs_congr {up : Int32} {nm lk : Nat → Int32} {a : Nat} (ha : a < 8) {l l' : Int32} {r r' p p' : Nat → Int32} (h : laidIs up nm lk a l r p) (hl : l' = l) (hr : ∀ k, k < 8 → r' k = r k) (hp : ∀ b, b < 8 → p' b = p b) : laidIs up nm lk a l' r' p' := by
  rcases h with ⟨h1, h2, h3⟩ | ⟨e, h1, h2, h3, h4, h5, h6, h7, h8⟩
  · exact Or.inl ⟨h1, hl.trans h2, fun b hb => by rw [hp b hb, h3 b hb]⟩
  · refine Or.inr ⟨e, h1, h2, h3, h4, hl.trans h5, fun k hk => ?_, fun k hk => ?_, fun b hb hk => ?_⟩
    · rw [hr k (by have := mD_8 h4; omega), h6 k hk]
    · rw [hp _ (sq_spec ha h4 k (by omega)).1, h7 k hk]
    · rw [hp b hb, h8 b hb hk]
theorem lay2_spec {up : Int32} {nm lk parts S : Nat → Int32} (hu : S8 up) (hp : ∀ a, a < 8 → parts a = PT up lk a) (hS : ∀ a, a < 8 → ∀ b, b < 8 → S (8 * a + b) = stC up lk a b) (N B L R Pl : Nat → Int32) (hB : ∀ a, a < 8 → B a = -6) : (∀ q, q < 8 → P_Paths_lay_2 parts nm S up lk (0 + q) (forN (b_Paths_lay_2 parts nm S up lk) 0 q (N, B, L, R, Pl))) ∧ (∀ a, a < 8 → (forN (b_Paths_lay_2 parts nm S up lk) 0 8 (N, B, L, R, Pl)).1 a = SN up nm lk a) ∧ (∀ a, a < 8 → (forN (b_Paths_lay_2 parts nm S up lk) 0 8 (N, B, L, R, Pl)).2.1 a = BF up nm lk a 8) ∧ ∀ a, a < 8 → laidIs up nm lk a ((forN (b_Paths_lay_2 parts nm S up lk) 0 8 (N, B, L, R, Pl)).2.2.1 a) (fun k => (forN (b_Paths_lay_2 parts nm S up lk) 0 8 (N, B, L, R, Pl)).2.2.2.1 (8 * a + k)) (fun b => (forN (b_Paths_lay_2 parts nm S up lk) 0 8 (N, B, L, R, Pl)).2.2.2.2 (8 * a + b)) := by
  have hsn : ∀ j, j < 8 → f_Paths_nextOnRing (nI j) parts nm = SN up nm lk j := fun j hj => nor_congr hj (hp j hj)
  refine ⟨fun q hq => ?_, ?_⟩
  · rw [Nat.zero_add]
    refine ⟨P_nor hq _ _, ?_, ?_, trivial⟩
    · refine ⟨fun _ => trivial, fun c => ⟨?_, trivial⟩⟩
      obtain ⟨n, hn, he⟩ := isNode_of c
      rw [he]
      exact in8 hn
    · rw [hsn q hq]
      exact (layFrom_spec hu hS hq (SN_cases hu hq) _ _ _).1
  · have h := forN_ind (f := b_Paths_lay_2 parts nm S up lk) (a := 0) (n := 8) (v := (N, B, L, R, Pl)) (fun j v => (∀ a, a < j → v.1 a = SN up nm lk a) ∧ (∀ a, a < 8 → v.2.1 a = BF up nm lk a j) ∧ ∀ a, a < j → laidIs up nm lk a (v.2.2.1 a) (fun k => v.2.2.2.1 (8 * a + k)) (fun b => v.2.2.2.2 (8 * a + b))) ⟨fun a h => by omega, fun a ha => hB a ha, fun a h => by omega⟩ (fun j v hj h => by
      obtain ⟨h1, h2, h3⟩ := h
      rw [Nat.zero_add]
      obtain ⟨-, l1, l2⟩ := layFrom_spec hu hS hj (SN_cases (nm := nm) hu hj) v.2.2.1 v.2.2.2.1 v.2.2.2.2
      refine ⟨fun a ha => ?_, fun a ha => ?_, fun a ha => ?_⟩
      · show upd v.1 (nI j).toNatClampNeg (f_Paths_nextOnRing (nI j) parts nm) a = _
        rw [cl (by omega), hsn j hj, upd_eq]
        by_cases e : a = j
        · rw [if_pos e, e]
        · rw [if_neg e]; exact h1 a (by omega)
      · show iF (f_C_isNode (f_Paths_nextOnRing (nI j) parts nm) = 0) v.2.1 (upd v.2.1 (f_Paths_nextOnRing (nI j) parts nm).toNatClampNeg (nI j)) a = iF (SN up nm lk j = nI a) (nI j) (BF up nm lk a j)
        rw [hsn j hj, ← h2 a ha]
        rcases SN_cases (nm := nm) (lk := lk) hu hj with q | ⟨e, he, q, -, -⟩
        · rw [q, iF_pos isNode_m6, iF_neg (fun z => nI_ne6 (by omega) z.symm)]
        · rw [q, iF_neg (isNode_1 he), cl (by omega), upd_eq]
          by_cases e2 : a = e
          · rw [if_pos e2, iF_pos (by rw [e2])]
          · rw [if_neg e2, iF_neg (fun z => e2 (nI_inj (by omega) (by omega) z).symm)]
      · show laidIs up nm lk a ((f_Paths_layFrom (nI j) (f_Paths_nextOnRing (nI j) parts nm) S up lk v.2.2.1 v.2.2.2.1 v.2.2.2.2).1 a) (fun k => (f_Paths_layFrom (nI j) (f_Paths_nextOnRing (nI j) parts nm) S up lk v.2.2.1 v.2.2.2.1 v.2.2.2.2).2.1 (8 * a + k)) (fun b => (f_Paths_layFrom (nI j) (f_Paths_nextOnRing (nI j) parts nm) S up lk v.2.2.1 v.2.2.2.1 v.2.2.2.2).2.2 (8 * a + b))
        rw [hsn j hj]
        by_cases e : a = j
        · subst e; exact l1
        · refine laidIs_congr (by omega) (h3 a (by omega)) (l2.1 a e) (fun k hk => l2.2.1 _ (by omega)) (fun b hb => l2.2.2 _ (by omega)))
    exact h
/-- the class lays all anew -/
theorem lay_spec {up : Int32} (hu : S8 up) (nm lk parts befores S N L R Pl : Nat → Int32) : P_Paths_lay up lk parts befores S nm N L R Pl ∧ PO up nm lk (f_Paths_lay up lk parts befores S nm N L R Pl).1 (f_Paths_lay up lk parts befores S nm N L R Pl).2.1 (f_Paths_lay up lk parts befores S nm N L R Pl).2.2.1 (f_Paths_lay up lk parts befores S nm N L R Pl).2.2.2.1 (f_Paths_lay up lk parts befores S nm N L R Pl).2.2.2.2.1 (f_Paths_lay up lk parts befores S nm N L R Pl).2.2.2.2.2.1 (f_Paths_lay up lk parts befores S nm N L R Pl).2.2.2.2.2.2 := by
  obtain ⟨⟨a1, a2, a3⟩, a4⟩ := lay1_spec (lk := lk) hu parts befores S
  obtain ⟨b1, b2, b3, b4⟩ := lay2_spec (nm := nm) hu a1 a3 N _ L R Pl a2
  exact ⟨⟨a4, b1, trivial⟩, a1, b2, b3, a3, b4⟩

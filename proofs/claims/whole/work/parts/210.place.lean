/-! where a node stands on a path; sets and counts -/
def piP (s : Nat → Nat) (n b j : Nat) (v : Int32) : Prop := j ≤ n ∧ ((∃ k, k < j ∧ s k = b ∧ v = nI k) ∨ (v = -6 ∧ ∀ k, k < j → s k ≠ b))
theorem place_gen {a b n : Nat} (ha : a < 8) (hb : b < 8) {s : Nat → Nat} {M R : Nat → Int32} (hM : M a = nI n) (hn : n ≤ 8) (hs : ∀ k, k < n → s k < 8 ∧ R (8 * a + k) = nI (s k)) : P_M_placeIn (nI a) (nI b) M R ∧ piP s n b n (f_M_placeIn (nI a) (nI b) M R) := by
  have i0 : piP s n b 0 (-6) := ⟨by omega, Or.inr ⟨rfl, fun k hk => by omega⟩⟩
  have stop : ∀ j v, j ≤ 9 → n ≤ j → b_M_placeIn_1 M (nI a) R (nI b) (0 + j) v = .inr v := fun j v hj9 hj => by
    rw [Nat.zero_add]
    unfold b_M_placeIn_1
    rw [cl (by omega), hM, iF_pos ((leN (by omega) (by omega)).mpr hj)]
  have step : ∀ j v v', j < 9 → piP s n b j v → b_M_placeIn_1 M (nI a) R (nI b) (0 + j) v = .inl v' → piP s n b (j + 1) v' := fun j v v' hj9 hv hf => by
    by_cases hj : n ≤ j
    · rw [stop j v (by omega) hj] at hf; cases hf
    · rw [Nat.zero_add] at hf
      unfold b_M_placeIn_1 at hf
      rw [cl (by omega), hM, iF_neg (fun q => hj ((leN (by omega) (by omega)).mp q)), ix2 ha (by omega), cl (by omega), (hs j (by omega)).2] at hf
      have h8 := (hs j (by omega)).1
      cases hf
      refine ⟨by omega, ?_⟩
      by_cases e : s j = b
      · rw [iF_pos (by rw [e])]
        exact Or.inl ⟨j, by omega, e, rfl⟩
      · rw [iF_neg (nI_ne (by omega) (by omega) e)]
        rcases hv.2 with ⟨k, k1, k2, k3⟩ | ⟨k1, k2⟩
        · exact Or.inl ⟨k, by omega, k2, k3⟩
        · refine Or.inr ⟨k1, fun k hk => ?_⟩
          by_cases e2 : k = j
          · rw [e2]; exact e
          · exact k2 k (by omega)
  obtain ⟨i1, i2⟩ := forX_inv (f := b_M_placeIn_1 M (nI a) R (nI b)) (a := 0) (n := 9) (piP s n b) i0 step
  have hend := forX_end (f := b_M_placeIn_1 M (nI a) R (nI b)) (a := 0) (n := 9) (N := n) (piP s n b) i0 step (by omega) (fun u hu => ⟨_, stop n u (by omega) (Nat.le_refl n)⟩)
  obtain ⟨x, hx⟩ := id hend
  obtain ⟨j, u, hj, hu, -, hfx⟩ := i2 x hx
  have hxu : x = u ∧ j = n := by
    have := hu.1
    by_cases q : n ≤ j
    · rw [stop j u (by omega) q] at hfx
      cases hfx
      exact ⟨rfl, by omega⟩
    · rw [Nat.zero_add] at hfx
      unfold b_M_placeIn_1 at hfx
      rw [cl (by omega), hM, iF_neg (fun q' => q ((leN (by omega) (by omega)).mp q'))] at hfx
      cases hfx
  obtain ⟨rfl, rfl⟩ := hxu
  refine ⟨⟨hend, fun q u hq hfq => ?_, trivial⟩, ?_⟩
  · rw [Nat.zero_add]
    unfold P_M_placeIn_1
    rw [cl (by omega), hM]
    refine ⟨in8 ha, ⟨fun _ => trivial, fun c => ⟨?_, trivial⟩⟩, trivial⟩
    have : ¬ j ≤ q := fun q' => c ((leN (by omega) (by omega)).mpr q')
    rw [ix2 ha (by omega)]
    exact in64 (by omega)
  · have e : f_M_placeIn (nI a) (nI b) M R = x := by
      show unX (forX (b_M_placeIn_1 M (nI a) R (nI b)) 0 9 (-6)) = x
      rw [hx]; rfl
    rw [e]; exact hu
section M
variable {up : Int32} {nm lk : Nat → Int32}
theorem place_spec {a b : Nat} (ha : a < 8) (hb : b < 8) {M R : Nat → Int32} {len : Int32} {row pl : Nat → Int32} (hr : rlIs up nm lk a (M a) (fun k => R (8 * a + k))) (hc : laidIs up nm lk a len row pl) : P_M_placeIn (nI a) (nI b) M R ∧ f_M_placeIn (nI a) (nI b) M R = pl b ∧ (pl b = -6 ∨ ∃ k, k < 8 ∧ pl b = nI k) := by
  rcases hr with ⟨r1, r2⟩ | ⟨e, he, r1, hne, h8, r2, r3⟩
  · obtain ⟨p1, -, p2⟩ := place_gen (n := 0) (s := fun _ => 0) (R := R) ha hb r2 (by omega) (fun k hk => by omega)
    rcases hc with ⟨-, -, c3⟩ | ⟨e, he, c1, -⟩
    · rcases p2 with ⟨k, hk, -⟩ | ⟨p2, -⟩
      · omega
      · exact ⟨p1, by rw [p2, c3 b hb], Or.inl (c3 b hb)⟩
    · rw [r1] at c1; exact absurd c1.symm (nI_ne6 (by omega))
  · have m8 := mD_8 h8
    obtain ⟨p1, -, p2⟩ := place_gen (n := mD up lk a e + 1) (s := sq up lk a e) (R := R) ha hb r2 (by omega) (fun k hk => ⟨(sq_spec ha h8 k (by omega)).1, r3 k (by omega)⟩)
    rcases hc with ⟨c1, -⟩ | ⟨e', he', c1, -, -, -, -, c2, c3⟩
    · rw [r1] at c1; exact absurd c1 (nI_ne6 (by omega))
    · rw [r1] at c1
      have := nI_inj (by omega) (by omega) c1
      subst this
      rcases p2 with ⟨k, k1, k2, k3⟩ | ⟨p2, p3⟩
      · have := c2 k k1
        rw [k2] at this
        exact ⟨p1, by rw [k3, this], Or.inr ⟨k, by omega, this⟩⟩
      · exact ⟨p1, by rw [p2, c3 b hb p3], Or.inl (c3 b hb p3)⟩
theorem over_0 {a b : Nat} (ha : a < 8) (hb : b < 8) (Pl : Nat → Int32) : (f_Paths_goesOver (nI a) (nI b) Pl = 0) ↔ Pl (8 * a + b) = -6 := by
  unfold f_Paths_goesOver f_Paths_placeOf
  rw [ix1 ha hb, cl (by omega)]
  by_cases q : Pl (8 * a + b) = -6
  · rw [iF_pos q]; exact ⟨fun _ => q, fun _ => rfl⟩
  · rw [iF_neg q]; exact ⟨fun h => absurd h (by decide), fun h => absurd h q⟩
theorem P_over {a b : Nat} (ha : a < 8) (hb : b < 8) (Pl : Nat → Int32) : P_Paths_goesOver (nI a) (nI b) Pl := ⟨⟨by rw [ix1 ha hb]; exact in64 (by omega), trivial⟩, trivial⟩
/-- both agree that a path goes over a node -/
theorem pl_0 {a b : Nat} (ha : a < 8) (hb : b < 8) {M R Pl : Nat → Int32} {len : Int32} {row : Nat → Int32} (hr : rlIs up nm lk a (M a) (fun k => R (8 * a + k))) (hc : laidIs up nm lk a len row (fun b => Pl (8 * a + b))) : (f_M_placeIn (nI a) (nI b) M R < 0) ↔ f_Paths_goesOver (nI a) (nI b) Pl = 0 := by
  obtain ⟨-, h1, h2⟩ := place_spec ha hb hr hc
  rw [over_0 ha hb, h1]
  show (Pl (8 * a + b) < 0) ↔ Pl (8 * a + b) = -6
  rcases h2 with q | ⟨k, hk, q⟩
  · have q' : Pl (8 * a + b) = -6 := q
    rw [q']; exact ⟨fun _ => rfl, fun _ => by decide⟩
  · have q' : Pl (8 * a + b) = nI k := q
    rw [q']; exact ⟨fun h => absurd h (nI_n0 (by omega)), fun h => absurd h (nI_ne6 (by omega))⟩
end M
theorem mNode (x : Int32) : f_M_isNode x = f_C_isNode x := by
  unfold f_M_isNode f_M_in f_C_isNode
  have : (7 < x) ↔ (8 ≤ x) := by
    rw [Int32.lt_iff_toInt_lt, Int32.le_iff_toInt_le]
    show (7 : Int) < _ ↔ (8 : Int) ≤ _
    omega
  rw [iF_c this]
theorem mName (x : Int32) : f_M_isName x = f_C_isName x := by
  unfold f_M_isName f_M_in f_C_isName
  have : (255 < x) ↔ (256 ≤ x) := by
    rw [Int32.lt_iff_toInt_lt, Int32.le_iff_toInt_le]
    show (255 : Int) < _ ↔ (256 : Int) ≤ _
    omega
  rw [iF_c this]
theorem isName_of {x : Int32} (h : ¬ f_C_isName x = 0) : ∃ n, n < 256 ∧ x = nI n := by
  unfold f_C_isName at h
  by_cases c1 : x < 0
  · rw [iF_pos c1] at h; exact absurd rfl h
  · rw [iF_neg c1] at h
    by_cases c2 : 256 ≤ x
    · rw [iF_pos c2] at h; exact absurd rfl h
    · obtain ⟨j, h1, h2⟩ := nI_of c1
      refine ⟨j, ?_, h2⟩
      rw [h2] at c2
      rcases Nat.lt_or_ge j 256 with q | q
      · exact q
      · exact absurd (show nI 256 ≤ nI j from nI_le q h1) c2

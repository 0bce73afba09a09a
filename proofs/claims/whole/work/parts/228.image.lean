/-! images: copies of a mesh -/
section M
variable {up : Int32} {nm lk st nm' lk' st' : Nat → Int32}
theorem Rel_congr (h : Rel up nm lk st) (hn : ∀ n, n < 8 → nm' n = nm n) (hl : ∀ n, n < 8 → lk' n = lk n) (hs : ∀ k, k < 80 → st' k = st k) : Rel up nm' lk' st' := by
  obtain ⟨h1, h2, h3, h4, h5, h6, h7, h8, h9⟩ := h
  refine ⟨h1, fun a ha => by rw [hl a ha]; exact h2 a ha, fun n hn' => by rw [hs n (by omega)]; exact h3 n hn', fun n hn' q => by rw [hs (8 + n) (by omega), hn n hn']; exact h4 n hn' q, fun a b ha hb q1 q2 e => h5 a b ha hb q1 q2 (by rw [← hn a ha, ← hn b hb]; exact e), fun a b ha hb q => by rw [hs _ (by omega), hl a ha]; exact h6 a b ha hb q, fun a b ha hb q => by rw [hs _ (by omega)]; exact h7 a b ha hb q, fun a b ha hb => by rw [hl a ha, hl b hb]; exact h8 a b ha hb, fun a ha => by rw [hl a ha]; exact h9 a ha⟩
theorem become_spec (n1 l1 n2 l2 : Nat → Int32) (u : Int32) : (∀ n, n < 8 → (f_Mesh_become n1 l1 n2 l2 u).1 n = n1 n) ∧ (∀ n, n < 8 → (f_Mesh_become n1 l1 n2 l2 u).2.1 n = l1 n) ∧ (f_Mesh_become n1 l1 n2 l2 u).2.2 = u := by
  have h := forN_ind (f := b_Mesh_become_1 n1 l1) (a := 0) (n := 8) (v := (n2, l2)) (fun j v => (∀ n, n < j → v.1 n = n1 n) ∧ ∀ n, n < j → v.2 n = l1 n) ⟨fun n hn => by omega, fun n hn => by omega⟩ (fun j v hj hv => by
    rw [Nat.zero_add]
    unfold b_Mesh_become_1
    rw [cl (by omega)]
    refine ⟨fun n hn => ?_, fun n hn => ?_⟩
    · show upd v.1 j (n1 j) n = _
      rw [upd_eq]
      by_cases e : n = j
      · rw [if_pos e, e]
      · rw [if_neg e]; exact hv.1 n (by omega)
    · show upd v.2 j (l1 j) n = _
      rw [upd_eq]
      by_cases e : n = j
      · rw [if_pos e, e]
      · rw [if_neg e]; exact hv.2 n (by omega))
  exact ⟨h.1, h.2, rfl⟩
theorem ix80 {i k : Nat} (hi : i < 3) (hk : k < 80) : (80 : Int32) * nI i + nI k = nI (80 * i + k) := by
  show nI 80 * nI i + nI k = _
  rw [show nI 80 * nI i = nI (80 * i) from (Int32.ofNat_mul _ _).symm, nI_add]
theorem in240 {n : Nat} (h : n < 240) : vp_in (nI n) 240 := vp_in_nI h (by decide)
theorem save_spec {i : Nat} (hi : i < 3) (st im : Nat → Int32) : P_M_save (nI i) st im ∧ (∀ k, k < 80 → f_M_save (nI i) st im (80 * i + k) = st k) ∧ ∀ j, (j < 80 * i ∨ 80 * i + 80 ≤ j) → f_M_save (nI i) st im j = im j := by
  have h := forN_ind (f := b_M_save_1 (nI i) st) (a := 0) (n := 80) (v := im) (fun j v => (∀ k, k < j → v (80 * i + k) = st k) ∧ ∀ k, (k < 80 * i ∨ 80 * i + 80 ≤ k) → v k = im k) ⟨fun k hk => by omega, fun _ _ => rfl⟩ (fun j v hj hv => by
    rw [Nat.zero_add]
    unfold b_M_save_1
    rw [ix80 hi hj, cl (by omega), cl (by omega)]
    refine ⟨fun k hk => ?_, fun k hk => ?_⟩
    · rw [upd_eq]
      by_cases e : k = j
      · rw [if_pos (by omega), e]
      · rw [if_neg (by omega)]; exact hv.1 k (by omega)
    · rw [upd_eq, if_neg (by omega)]; exact hv.2 k hk)
  exact ⟨⟨fun q hq => by rw [Nat.zero_add]; exact ⟨by rw [ix80 hi hq]; exact in240 (by omega), trivial⟩, trivial⟩, h.1, h.2⟩
theorem load_spec {i : Nat} (hi : i < 3) (st im : Nat → Int32) : P_M_load (nI i) im st ∧ ∀ k, k < 80 → f_M_load (nI i) im st k = im (80 * i + k) := by
  have h := forN_ind (f := b_M_load_1 im (nI i)) (a := 0) (n := 80) (v := st) (fun j v => ∀ k, k < j → v k = im (80 * i + k)) (fun k hk => by omega) (fun j v hj hv k hk => by
    rw [Nat.zero_add]
    unfold b_M_load_1
    rw [ix80 hi hj, cl (by omega), cl (by omega), upd_eq]
    by_cases e : k = j
    · rw [if_pos e, e]
    · rw [if_neg e]; exact hv k (by omega))
  exact ⟨⟨fun q hq => by rw [Nat.zero_add]; exact ⟨by rw [ix80 hi hq]; exact in240 (by omega), trivial⟩, trivial⟩, h⟩
end M

/-! visits and met -/
theorem visits_spec (E : Int32) (v0 : Nat → Int32) : ∀ k, k < 8 → forN (b_Survey_note_1 E) 0 8 v0 k = if bt E k then v0 k + 1 else v0 k := by
  have h := forN_ind (f := b_Survey_note_1 E) (a := 0) (n := 8) (v := v0) (fun j v => (∀ k, k < j → v k = if bt E k then v0 k + 1 else v0 k) ∧ ∀ k, j ≤ k → v k = v0 k) ⟨fun k hk => by omega, fun _ _ => rfl⟩ (fun j v hj hv => by
    rw [Nat.zero_add]
    unfold b_Survey_note_1
    rw [cl (by omega)]
    cases hb : bt E j
    · rw [iF_pos ((has_0 hj E).mpr hb)]
      refine ⟨fun k hk => ?_, fun k hk => hv.2 k (by omega)⟩
      by_cases e : k = j
      · rw [e, hb, if_neg (by decide)]; exact hv.2 j (Nat.le_refl j)
      · exact hv.1 k (by omega)
    · rw [iF_neg (fun q => by rw [(has_0 hj E).mp q] at hb; cases hb)]
      refine ⟨fun k hk => ?_, fun k hk => ?_⟩
      · rw [upd_eq]
        by_cases e : k = j
        · rw [if_pos e, e, hb, if_pos rfl, hv.2 j (Nat.le_refl j)]
        · rw [if_neg e]; exact hv.1 k (by omega)
      · rw [upd_eq, if_neg (by omega)]; exact hv.2 k (by omega))
  exact h.1
theorem met_spec (rm : Int32) (rt v0 : Nat → Int32) : ∀ k, k < 8 → forN (b_M_count2_1 rm rt) 0 8 v0 k = v0 k + iF (f_M_isBetween (nI k) rm rt = 0) 0 1 := by
  have h := forN_ind (f := b_M_count2_1 rm rt) (a := 0) (n := 8) (v := v0) (fun j v => (∀ k, k < j → v k = v0 k + iF (f_M_isBetween (nI k) rm rt = 0) 0 1) ∧ ∀ k, j ≤ k → v k = v0 k) ⟨fun k hk => by omega, fun _ _ => rfl⟩ (fun j v hj hv => by
    rw [Nat.zero_add]
    unfold b_M_count2_1
    rw [cl (by omega)]
    refine ⟨fun k hk => ?_, fun k hk => ?_⟩
    · rw [upd_eq]
      by_cases e : k = j
      · rw [if_pos e, e, hv.2 j (Nat.le_refl j)]
      · rw [if_neg e]; exact hv.1 k (by omega)
    · rw [upd_eq, if_neg (by omega)]; exact hv.2 k (by omega))
  exact h.1
theorem visits_met {L : Nat} {s : Nat → Nat} (hL : L ≤ 7) (s8 : ∀ k, k ≤ L → s k < 8) {rw rt : Nat → Int32} (hr : ∀ k, k ≤ L → rw k = nI (s k)) (ht : ∀ k, k ≤ L → rt k = nI (s k)) {vi me : Nat → Int32} (h : ∀ k, k < 8 → vi k = me k) : ∀ k, k < 8 → forN (b_Survey_note_1 (f_Route_between (nI (L + 1)) rw)) 0 8 vi k = forN (b_M_count2_1 (nI (L + 1)) rt) 0 8 me k := fun k hk => by
  rw [visits_spec _ _ k hk, met_spec _ _ _ k hk, h k hk, iF_c (isBetween_spec hL hk s8 ht).2]
  have b := (between_spec hL s8 hr).2 k hk
  cases hb : bt (f_Route_between (nI (L + 1)) rw) k
  · rw [if_neg (by decide), iF_pos (fun q => by rw [b.mpr q] at hb; cases hb), Int32.add_zero]
  · rw [if_pos rfl, iF_neg (fun q => q (b.mp hb))]

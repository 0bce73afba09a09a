/-! how many paths are not as then -/
section M
variable {up up2 : Int32} {nm lk st nm2 lk2 len1 row1 pl1 M1 R1 len2 row2 pl2 M2 R2 : Nat → Int32}
theorem unlike_1 (hR : Rel up nm lk st) (h1 : CR up nm lk len1 row1 pl1 M1 R1) (h2 : CR up2 nm2 lk2 len2 row2 pl2 M2 R2) {j : Nat} (hj : j < 8) (v : Int32) : P_Paths_countUnlike_1 up len1 len2 row1 row2 j v ∧ P_M_changed_3 st M1 R1 R2 M2 j v ∧ b_Paths_countUnlike_1 up len1 len2 row1 row2 j v = b_M_changed_3 st M1 R1 R2 M2 j v := by
  obtain ⟨n1, s1, a1, a2, a3, a4⟩ := lay_nodes h1 hj
  obtain ⟨n2, s2, b1, b2, b3, b4⟩ := lay_nodes h2 hj
  obtain ⟨p1, p2⟩ := alike_spec (row1 := row1) (row2 := row2) hj a1 b1 a2 b2 (fun k hk => ⟨(a4 k hk).1, (a4 k hk).2.1⟩) (fun k hk => ⟨(b4 k hk).1, (b4 k hk).2.1⟩)
  obtain ⟨q1, q2⟩ := other_spec (R1 := R1) (R2 := R2) hj a1 b1 a3 b3 (fun k hk => ⟨(a4 k hk).1, (a4 k hk).2.2⟩) (fun k hk => ⟨(b4 k hk).1, (b4 k hk).2.2⟩)
  refine ⟨pif (fun _ => trivial) (fun _ => ⟨p1, trivial⟩), ⟨P_mUp hj st, pif (fun _ => trivial) (fun _ => ⟨q1, trivial⟩)⟩, ?_⟩
  unfold b_Paths_countUnlike_1 b_M_changed_3
  rw [iF_c (cUp hR hj), iF_c p2, iF_c q2]
  by_cases c : f_Mesh_isUp (nI j) up = 0
  · rw [iF_pos c, iF_pos c, Int32.add_zero]
  · rw [iF_neg c, iF_neg c]
    by_cases d : n1 = n2 ∧ ∀ k, k < n1 → s1 k = s2 k
    · rw [iF_neg (fun q => q d), iF_pos d, Int32.add_zero]
    · rw [iF_pos d, iF_neg d]
theorem unlike_spec (hR : Rel up nm lk st) (h1 : CR up nm lk len1 row1 pl1 M1 R1) (h2 : CR up2 nm2 lk2 len2 row2 pl2 M2 R2) : P_Paths_countUnlike up len1 len2 row1 row2 ∧ (∀ q, q < 8 → P_M_changed_3 st M1 R1 R2 M2 (0 + q) (forN (b_M_changed_3 st M1 R1 R2 M2) 0 q 0)) ∧ f_Paths_countUnlike up len1 len2 row1 row2 = forN (b_M_changed_3 st M1 R1 R2 M2) 0 8 0 := by
  refine ⟨⟨fun q hq => ?_, trivial⟩, fun q hq => ?_, forN_congr (fun j v _ hj => (unlike_1 hR h1 h2 (by omega) v).2.2)⟩
  · rw [Nat.zero_add]; exact (unlike_1 hR h1 h2 hq _).1
  · rw [Nat.zero_add]; exact (unlike_1 hR h1 h2 hq _).2.1
theorem copy64 {f : Nat → (Nat → Int32) → (Nat → Int32)} {r : Nat → Int32} (hf : ∀ j v, f j v = upd v (nI j).toNatClampNeg (r (nI j).toNatClampNeg)) {n : Nat} (hn : n ≤ 64) (v0 : Nat → Int32) : ∀ k, k < n → forN f 0 n v0 k = r k :=
  forN_ind (f := f) (a := 0) (n := n) (v := v0) (fun j v => ∀ k, k < j → v k = r k) (fun k hk => by omega) (fun j v hj hv k hk => by
    rw [Nat.zero_add, hf, cl (by omega), upd_eq]
    by_cases e : k = j
    · rw [if_pos e, e]
    · rw [if_neg e]; exact hv k (by omega))
theorem CR_congr (h : CR up nm lk len1 row1 pl1 M1 R1) (hM : ∀ k, k < 8 → M2 k = M1 k) (hr : ∀ k, k < 64 → R2 k = R1 k) : CR up nm lk len1 row1 pl1 M2 R2 := ⟨h.1, fun a ha => rlIs_congr ha (h.2 a ha) (hM a ha) (fun k hk => hr (8 * a + k) (by omega))⟩
end M

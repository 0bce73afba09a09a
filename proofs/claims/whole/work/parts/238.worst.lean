/-! worst -/
theorem zero8 {f : Nat → (Nat → Int32) → (Nat → Int32)} (hf : ∀ j v, f j v = upd v (nI j).toNatClampNeg 0) (v0 : Nat → Int32) : ∀ k, k < 8 → forN f 0 8 v0 k = 0 :=
  forN_ind (f := f) (a := 0) (n := 8) (v := v0) (fun j v => ∀ k, k < j → v k = 0) (fun k hk => by omega) (fun j v hj hv k hk => by
    rw [Nat.zero_add, hf, cl (by omega), upd_eq]
    by_cases e : k = j
    · rw [if_pos e]
    · rw [if_neg e]; exact hv k (by omega))
section M
variable {up : Int32} {nm lk st parts nexts befores steps len row pl : Nat → Int32}
theorem q_worst (h : Rel up nm lk st) (hP : PO up nm lk parts nexts befores steps len row pl) (x1 : Int32) (S N R M rt me : Nat → Int32) (rm ms as lo : Int32) (rw0 vi : Nat → Int32) (ln br fl hop gs al mo : Int32) : P_C_worst x1 rw0 vi ln br fl hop gs al mo parts nm pl len row nexts steps ∧ P_M_worst x1 S N R M rt me rm ms as lo st ∧ (f_C_worst x1 rw0 vi ln br fl hop gs al mo parts nm pl len row nexts steps).1 = (f_M_worst x1 S N R M rt me rm ms as lo st).1 := by
  obtain ⟨lp, hO⟩ := layPaths_spec h S N R M
  have hC : CR up nm lk len row pl (f_M_layPaths st S N R M).2.2.2 (f_M_layPaths st S N R M).2.2.1 := ⟨hP.2.2.2.2, hO.2.2⟩
  unfold P_M_worst f_M_worst P_C_worst f_C_worst
  generalize f_M_layPaths st S N R M = Y at *
  have w0 : WR (rw0, (f_Survey_clear vi).1, ln, br, fl, hop, (f_Survey_clear vi).2.1, (f_Survey_clear vi).2.2.1, (f_Survey_clear vi).2.2.2) (rt, forN b_M_worst_1 0 8 me, rm, 0, 0, 0) := ⟨fun k hk => (zero8 (f := b_Survey_clear_1) (fun _ _ => rfl) vi k hk).trans (zero8 (f := b_M_worst_1) (fun _ _ => rfl) me k hk).symm, rfl, rfl, rfl⟩
  have A := survey_all (S := Y.1) h hC hO.2.1 hP.2.1 hO.1 hP.2.2.2.1 hP.1 w0
  have W : WR (f_Survey_take parts nm pl len row nexts steps rw0 vi ln br fl hop) (forN (b_M_worst_2 Y.1 st Y.2.2.1 Y.2.2.2 Y.2.1) 0 64 (rt, forN b_M_worst_1 0 8 me, rm, 0, 0, 0)) := A 8 (Nat.le_refl 8)
  have PC : P_Survey_take parts nm pl len row nexts steps rw0 vi ln br fl hop := ⟨fun a ha => ⟨fun b hb => by
    rw [Nat.zero_add, Nat.zero_add]
    exact (pair_s h hC hO.2.1 hP.2.1 hO.1 hP.2.2.2.1 hP.1 ha hb (survey_s (S := Y.1) h hC hO.2.1 hP.2.1 hO.1 hP.2.2.2.1 hP.1 ha (A a (by omega)) b (by omega))).2.1, trivial⟩, trivial⟩
  have PM : ∀ q, q < 64 → P_M_worst_2 Y.1 st Y.2.2.1 Y.2.2.2 Y.2.1 (0 + q) (forN (b_M_worst_2 Y.1 st Y.2.2.1 Y.2.2.2 Y.2.1) 0 q (rt, forN b_M_worst_1 0 8 me, rm, 0, 0, 0)) := fun q hq => by
    rw [Nat.zero_add]
    have e : q = 8 * (q / 8) + q % 8 := by omega
    have := (pair_s h hC hO.2.1 hP.2.1 hO.1 hP.2.2.2.1 hP.1 (show q / 8 < 8 by omega) (show q % 8 < 8 by omega) (survey_s (S := Y.1) h hC hO.2.1 hP.2.1 hO.1 hP.2.2.2.1 hP.1 (show q / 8 < 8 by omega) (A (q / 8) (by omega)) (q % 8) (by omega))).2.2
    rw [← e] at this
    exact this
  generalize f_Survey_take parts nm pl len row nexts steps rw0 vi ln br fl hop = C at *
  have hin : (f_M_in x1 0 3 = 0) ↔ (x1 < 0 ∨ ¬ x1 ≤ 3) := by
    unfold f_M_in
    by_cases q1 : x1 < 0
    · rw [iF_pos q1]; exact ⟨fun _ => Or.inl q1, fun _ => rfl⟩
    · rw [iF_neg q1]
      by_cases q2 : x1 ≤ 3
      · rw [iF_neg (fun q => by rw [Int32.lt_iff_toInt_lt] at q; rw [Int32.le_iff_toInt_le] at q2; omega)]
        exact ⟨fun q => absurd q (by decide), fun q => q.elim (fun q => absurd q q1) (fun q => absurd q2 q)⟩
      · rw [iF_pos (i32_nle q2)]; exact ⟨fun _ => Or.inr q2, fun _ => rfl⟩
  refine ⟨pif (fun _ => trivial) (fun _ => pif (fun _ => ⟨PC, trivial⟩) (fun _ => trivial)), pif (fun _ => trivial) (fun _ => ⟨lp, PM, trivial⟩), ?_⟩
  rw [iF_c hin]
  by_cases c2 : x1 < 0
  · rw [iF_pos c2, iF_pos (Or.inl c2)]
  rw [iF_neg c2]
  by_cases c3 : x1 ≤ 3
  · rw [iF_pos c3, iF_neg (fun q : x1 < 0 ∨ ¬ x1 ≤ 3 => q.elim c2 (fun q => q c3))]
    obtain ⟨w1, w2, w3, w4⟩ := W
    show _ = iF _ _ _
    by_cases d0 : x1 = 0
    · rw [iF_pos d0, iF_pos d0]; exact w2
    rw [iF_neg d0, iF_neg d0]
    by_cases d1 : x1 = 1
    · rw [iF_pos d1, iF_pos d1]; exact w3
    rw [iF_neg d1, iF_neg d1]
    by_cases d2 : x1 = 2
    · rw [iF_pos d2, iF_pos d2]; exact w4
    rw [iF_neg d2, iF_neg d2]
    show f_Survey_busiest C.2.1 = f_M_mostMet _
    unfold f_Survey_busiest f_M_mostMet
    refine congrArg Prod.fst (forN_congr (fun j u _ hj => ?_))
    unfold b_Survey_busiest_1 b_M_mostMet_1
    rw [cl (by omega), w1 j (by omega)]
  · rw [iF_neg c3, iF_pos (Or.inr c3)]
end M

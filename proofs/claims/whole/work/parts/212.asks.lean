/-! of, path, over -/
theorem pif {c A B : Prop} (h1 : c → A) (h2 : ¬ c → B) : ((c → A) ∧ (¬ c → B)) ∧ True := ⟨⟨h1, h2⟩, trivial⟩
theorem pif' {c A B : Prop} (h1 : c → A) (h2 : ¬ c → B) : ((c → A) ∧ (¬ c → B)) := ⟨h1, h2⟩
section M
variable {up : Int32} {nm lk st S len row pl M R N nx : Nat → Int32}
theorem laid_pl {a b : Nat} (ha : a < 8) (hb : b < 8) {l : Int32} {r p : Nat → Int32} (h : laidIs up nm lk a l r p) (hp : ¬ p b = -6) : ∃ e, e < 8 ∧ SN up nm lk a = nI e := by
  rcases h with ⟨-, -, q⟩ | ⟨e, h1, h2, -⟩
  · exact absurd (q b hb) hp
  · exact ⟨e, h1, h2⟩
theorem known_spec (h : CR up nm lk len row pl M R) (hN : ∀ a, a < 8 → N a = SN up nm lk a) (hx : ∀ a, a < 8 → nx a = SN up nm lk a) {b : Nat} (hb : b < 8) : P_Paths_countKnown (nI b) pl nx ∧ P_M_knownAt (nI b) M R N ∧ f_Paths_countKnown (nI b) pl nx = f_M_size ((f_M_knownAt (nI b) M R N) &&& (((1 : Int32) <<< (nI b &&& 31)) ^^^ (-1 : Int32))) := by
  refine ⟨⟨fun q hq => ?_, trivial⟩, ⟨fun q hq => ?_, trivial⟩, ?_⟩
  · rw [Nat.zero_add]; exact ⟨P_over hq hb pl, trivial⟩
  · rw [Nat.zero_add]; exact ⟨(place_spec hq hb (h.2 q hq) (h.1 q hq)).1, trivial⟩
  · have e : f_M_knownAt (nI b) M R N = forN (b_Paths_countKnown_1 (nI b) pl nx) 0 8 0 := by
      unfold f_M_knownAt
      refine forN_congr (fun j v _ hj' => ?_)
      have hj : j < 8 := by omega
      unfold b_Paths_countKnown_1 b_M_knownAt_1
      rw [iF_c (pl_0 hj hb (h.2 j hj) (h.1 j hj)), cl (by omega), hN j hj, hx j hj]
      by_cases q : f_Paths_goesOver (nI j) (nI b) pl = 0
      · rw [iF_pos q, iF_pos q]
        exact b_ext fun i _ => by rw [b_or, b_0, Bool.or_false]
      · rw [iF_neg q, iF_neg q]
        rfl
    have s8 : S8 (forN (b_Paths_countKnown_1 (nI b) pl nx) 0 8 0) := forN_ind (f := b_Paths_countKnown_1 (nI b) pl nx) (a := 0) (n := 8) (v := 0) (fun _ v => S8 v) S8_0 (fun j v hj hv => by
      rw [Nat.zero_add]
      unfold b_Paths_countKnown_1
      by_cases q : f_Paths_goesOver (nI j) (nI b) pl = 0
      · rw [iF_pos q]; exact hv
      · rw [iF_neg q, cl (by omega), hx j hj]
        rw [over_0 hj hb] at q
        obtain ⟨e, he, hs⟩ := laid_pl hj hb (h.1 j hj) q
        rw [hs]
        exact S8_or hv (S8_or (S8_bit hj) (S8_bit he)))
    rw [e, sz_eq]
    exact bc_eq (S8_and s8)
end M
section M
variable {up : Int32} {nm lk st parts nexts befores steps len row pl : Nat → Int32}
theorem cUp (h : Rel up nm lk st) {n : Nat} (hn : n < 8) : (f_M_isUp (nI n) st = 0) ↔ f_Mesh_isUp (nI n) up = 0 := (mUp_0 h hn).trans (isUp_0 hn up).symm
theorem q_of (h : Rel up nm lk st) (hP : PO up nm lk parts nexts befores steps len row pl) (x1 x2 : Int32) (S N R M : Nat → Int32) : P_C_of x1 x2 up nm parts nexts befores lk pl ∧ P_M_of x1 x2 S N R M st ∧ f_C_of x1 x2 up nm parts nexts befores lk pl = (f_M_of x1 x2 S N R M st).1 := by
  obtain ⟨lp, hO⟩ := layPaths_spec h S N R M
  have hC : CR up nm lk len row pl (f_M_layPaths st S N R M).2.2.2 (f_M_layPaths st S N R M).2.2.1 := ⟨hP.2.2.2.2, hO.2.2⟩
  unfold P_M_of f_M_of P_C_of f_C_of
  generalize f_M_layPaths st S N R M = L at *
  rw [mNode]
  by_cases c1 : f_C_isNode x1 = 0
  · rw [iF_pos c1, iF_pos c1]
    exact ⟨pif (fun _ => trivial) (fun q => absurd c1 q), pif (fun _ => trivial) (fun q => absurd c1 q), rfl⟩
  · obtain ⟨a, ha, rfl⟩ := isNode_of c1
    have hca : (nI a).toNatClampNeg = a := cl (by omega)
    have hin : (f_M_in x2 0 6 = 0) ↔ (x2 < 0 ∨ ¬ x2 ≤ 6) := by
      unfold f_M_in
      by_cases q1 : x2 < 0
      · rw [iF_pos q1]; exact ⟨fun _ => Or.inl q1, fun _ => rfl⟩
      · rw [iF_neg q1]
        by_cases q2 : x2 ≤ 6
        · rw [iF_neg (fun q => by rw [Int32.lt_iff_toInt_lt] at q; rw [Int32.le_iff_toInt_le] at q2; omega)]
          exact ⟨fun q => absurd q (by decide), fun q => q.elim (fun q => absurd q q1) (fun q => absurd q2 q)⟩
        · rw [iF_pos (i32_nle q2)]; exact ⟨fun _ => Or.inr q2, fun _ => rfl⟩
    rw [iF_neg c1, iF_neg c1, hca]
    rw [iF_c (hin)]
    by_cases c2 : x2 < 0
    · rw [iF_pos c2, iF_pos (Or.inl c2)]
      exact ⟨pif (fun _ => trivial) (fun _ => pif (fun _ => trivial) (fun q => absurd c2 q)), pif (fun _ => trivial) (fun _ => pif (fun _ => trivial) (fun q => absurd (hin.mpr (Or.inl c2)) q)), rfl⟩
    · rw [iF_neg c2]
      by_cases c3 : x2 ≤ 6
      · have c23 : ¬ (x2 < 0 ∨ ¬ x2 ≤ 6) := fun q => q.elim c2 (fun q => q c3)
        rw [iF_pos c3, iF_neg c23, iF_c (cUp h ha)]
        by_cases c4 : f_Mesh_isUp (nI a) up = 0
        · rw [iF_pos c4, iF_pos c4]
          exact ⟨pif (fun _ => trivial) (fun _ => pif (fun _ => trivial) (fun _ => pif (fun _ => pif (fun _ => trivial) (fun q => absurd c4 q)) (fun _ => trivial))), pif (fun _ => trivial) (fun _ => pif (fun _ => trivial) (fun _ => ⟨P_mUp ha st, pif (fun _ => trivial) (fun q => absurd ((cUp h ha).mpr c4) q)⟩)), rfl⟩
        · have hua : bt up a = true := by
            cases hb : bt up a
            · exact absurd ((isUp_0 ha up).mpr hb) c4
            · rfl
          obtain ⟨o1, o2, o3⟩ := linksOf_spec h ha |>.elim fun x y => (⟨x, y, trivial⟩ : _ ∧ _ ∧ True)
          obtain ⟨t1, t2⟩ := partOf_spec h.1 hO.1 ha
          obtain ⟨u1, u2, u3⟩ := pathsOver_spec hC ha
          obtain ⟨w1, w2, w3⟩ := known_spec hC hO.2.1 hP.2.1 ha
          refine ⟨pif (fun _ => trivial) (fun _ => pif (fun _ => trivial) (fun _ => pif (fun _ => pif (fun _ => trivial) (fun _ => pif (fun _ => ⟨in8 ha, trivial⟩) (fun _ => pif (fun _ => ⟨in8 ha, trivial⟩) (fun _ => pif (fun _ => ⟨in8 ha, trivial⟩) (fun _ => pif (fun _ => ⟨in8 ha, trivial⟩) (fun _ => pif (fun _ => ⟨P_nb ha, trivial⟩) (fun _ => pif (fun _ => ⟨u1, trivial⟩) (fun _ => ⟨w1, trivial⟩)))))))) (fun _ => trivial))), pif (fun _ => trivial) (fun _ => pif (fun _ => trivial) (fun _ => ⟨P_mUp ha st, pif (fun _ => trivial) (fun _ => ⟨lp, pif (fun _ => ⟨by rw [e_nI]; exact in80 (by omega), trivial⟩) (fun _ => pif (fun _ => ⟨t1, trivial⟩) (fun _ => pif (fun _ => ⟨in8 ha, trivial⟩) (fun _ => pif (fun _ => trivial) (fun _ => pif (fun _ => ⟨o1, trivial⟩) (fun _ => pif (fun _ => ⟨u2, trivial⟩) (fun _ => ⟨w2, trivial⟩))))))⟩)⟩)), ?_⟩
          rw [iF_neg c4, iF_neg c4]
          by_cases d0 : x2 = 0
          · rw [iF_pos d0, iF_pos d0, e_nI, cl (by omega)]
            exact (h.2.2.2.1 a ha hua).1.symm
          rw [iF_neg d0, iF_neg d0]
          by_cases d1 : x2 = 1
          · rw [iF_pos d1, iF_pos d1, t2]; exact hP.1 a ha
          rw [iF_neg d1, iF_neg d1]
          by_cases d2 : x2 = 2
          · rw [iF_pos d2, iF_pos d2]
            show nexts a = L.2.1 a
            rw [hP.2.1 a ha, hO.2.1 a ha]
          rw [iF_neg d2, iF_neg d2]
          by_cases d3 : x2 = 3
          · rw [iF_pos d3, iF_pos d3, hP.2.2.1 a ha]
            exact (before_spec hO.2.1).symm
          rw [iF_neg d3, iF_neg d3]
          by_cases d4 : x2 = 4
          · rw [iF_pos d4, iF_pos d4]; exact o2
          rw [iF_neg d4, iF_neg d4]
          by_cases d5 : x2 = 5
          · rw [iF_pos d5, iF_pos d5]; exact u3
          rw [iF_neg d5, iF_neg d5]
          exact w3
      · rw [iF_neg c3, iF_pos (Or.inr c3)]
        exact ⟨pif (fun _ => trivial) (fun _ => pif (fun _ => trivial) (fun _ => pif (fun q => absurd q c3) (fun _ => trivial))), pif (fun _ => trivial) (fun _ => pif (fun _ => trivial) (fun q => absurd (hin.mpr (Or.inr c3)) q)), rfl⟩
end M

/-! link -/
section M
variable {up : Int32} {nm lk st parts nexts befores steps len row pl : Nat → Int32}
theorem set_bt {a b : Nat} (ha : a < 8) (hb : b < 8) (hne : a ≠ b) {f : Int32} {on : Bool} (hf : (f = 0) ↔ on = false) (lk : Nat → Int32) {x i : Nat} (hx : x < 8) (hi : i < 32) : bt (f_Mesh_setLink (nI a) (nI b) f lk x) i = if (x = a ∧ i = b) ∨ (x = b ∧ i = a) then on else bt (lk x) i := by
  unfold f_Mesh_setLink
  rw [cl (by omega), cl (by omega)]
  cases on
  · rw [iF_pos (hf.mpr rfl), upd_eq, upd_eq, upd_eq, if_neg (show ¬ b = a by omega)]
    by_cases e1 : x = b
    · rw [if_pos e1, b_and, b_not _ hi, b_bit ha]
      by_cases e2 : i = a
      · rw [if_pos (Or.inr ⟨e1, e2⟩), decide_eq_true e2, Bool.not_true, Bool.and_false]
      · rw [if_neg (fun q => q.elim (fun q => by omega) (fun q => e2 q.2)), decide_eq_false e2, Bool.not_false, Bool.and_true, e1]
    · rw [if_neg e1]
      by_cases e3 : x = a
      · rw [if_pos e3, b_and, b_not _ hi, b_bit hb]
        by_cases e2 : i = b
        · rw [if_pos (Or.inl ⟨e3, e2⟩), decide_eq_true e2, Bool.not_true, Bool.and_false]
        · rw [if_neg (fun q => q.elim (fun q => e2 q.2) (fun q => e1 q.1)), decide_eq_false e2, Bool.not_false, Bool.and_true, e3]
      · rw [if_neg e3, if_neg (fun q => q.elim (fun q => e3 q.1) (fun q => e1 q.1))]
  · rw [iF_neg (fun q => by have := hf.mp q; cases this), upd_eq, upd_eq, upd_eq, if_neg (show ¬ b = a by omega)]
    by_cases e1 : x = b
    · rw [if_pos e1, b_or, b_bit ha]
      by_cases e2 : i = a
      · rw [if_pos (Or.inr ⟨e1, e2⟩), decide_eq_true e2, Bool.or_true]
      · rw [if_neg (fun q => q.elim (fun q => by omega) (fun q => e2 q.2)), decide_eq_false e2, Bool.or_false, e1]
    · rw [if_neg e1]
      by_cases e3 : x = a
      · rw [if_pos e3, b_or, b_bit hb]
        by_cases e2 : i = b
        · rw [if_pos (Or.inl ⟨e3, e2⟩), decide_eq_true e2, Bool.or_true]
        · rw [if_neg (fun q => q.elim (fun q => e2 q.2) (fun q => e1 q.1)), decide_eq_false e2, Bool.or_false, e3]
      · rw [if_neg e3, if_neg (fun q => q.elim (fun q => e3 q.1) (fun q => e1 q.1))]
theorem Rel_link (h : Rel up nm lk st) {a b : Nat} (ha : a < 8) (hb : b < 8) (hne : a ≠ b) {f x3 : Int32} {on : Bool} (hf : (f = 0) ↔ on = false) (h3 : x3 = if on then 1 else 0) : Rel up nm (f_Mesh_setLink (nI a) (nI b) f lk) (upd st (f_M_pair (nI a) (nI b)).toNatClampNeg x3) := by
  obtain ⟨h1, h2, h3', h4, h5, h6, h7, h8, h9⟩ := h
  have hp : ∃ p, (f_M_pair (nI a) (nI b)).toNatClampNeg = 16 + p ∧ p = (if b ≤ a then 8 * b + a else 8 * a + b) := ⟨_, by rw [pair_eq ha hb, cl (by split <;> omega)], rfl⟩
  obtain ⟨p, hp, hp2⟩ := hp
  rw [hp]
  have sb := fun {x i : Nat} (hx : x < 8) (hi : i < 32) => set_bt (lk := lk) ha hb hne hf hx hi
  refine ⟨h1, fun x hx i hi => ?_, fun n hn => ?_, fun n hn q => ?_, h5, fun x y hx hy hxy => ?_, fun x y hx hy hxy => ?_, fun x y hx hy => ?_, fun x hx => ?_⟩
  · by_cases hi' : i < 32
    · rw [sb hx hi', if_neg (by omega)]; exact h2 x hx i hi
    · exact b_big (by omega)
  · rw [upd_eq, if_neg (by omega)]; exact h3' n hn
  · rw [upd_eq, if_neg (by omega)]; exact h4 n hn q
  · rw [upd_eq, sb hx (by omega)]
    by_cases e : (x = a ∧ y = b) ∨ (x = b ∧ y = a)
    · rw [if_pos e, if_pos (by rw [hp2]; split <;> omega), h3]
    · rw [if_neg e, if_neg (by rw [hp2]; split <;> omega)]; exact h6 x y hx hy hxy
  · rw [upd_eq, if_neg (by rw [hp2]; split <;> omega)]; exact h7 x y hx hy hxy
  · rw [sb hx (by omega), sb hy (by omega)]
    by_cases e : (x = a ∧ y = b) ∨ (x = b ∧ y = a)
    · rw [if_pos e, if_pos (by omega)]
    · rw [if_neg e, if_neg (by omega)]; exact h8 x y hx hy
  · rw [sb hx (by omega), if_neg (by omega)]; exact h9 x hx
theorem in01 (x : Int32) : (f_M_in x 0 1 = 0) ↔ (x < 0 ∨ 1 < x) := by
  unfold f_M_in
  by_cases q1 : x < 0
  · rw [iF_pos q1]; exact ⟨fun _ => Or.inl q1, fun _ => rfl⟩
  · rw [iF_neg q1]
    by_cases q2 : 1 < x
    · rw [iF_pos q2]; exact ⟨fun _ => Or.inr q2, fun _ => rfl⟩
    · rw [iF_neg q2]; exact ⟨fun q => absurd q (by decide), fun q => q.elim (fun q => absurd q q1) (fun q => absurd q q2)⟩
theorem of01 {x : Int32} (h1 : ¬ x < 0) (h2 : ¬ 1 < x) : x = 0 ∨ x = 1 := by
  obtain ⟨k, hk, rfl⟩ := nI_of h1
  have : k ≤ 1 := by
    rcases Nat.lt_or_ge 1 k with q | q
    · exact absurd (show nI 1 < nI k from nI_lt q hk) h2
    · exact q
  rcases (show k = 0 ∨ k = 1 by omega) with q | q
  · exact Or.inl (by rw [q]; rfl)
  · exact Or.inr (by rw [q]; rfl)
theorem P_set {a b : Nat} (ha : a < 8) (hb : b < 8) (f : Int32) (lk : Nat → Int32) : P_Mesh_setLink (nI a) (nI b) f lk := pif (fun _ => ⟨in8 ha, in8 ha, in8 hb, in8 hb, trivial⟩) (fun _ => ⟨in8 ha, in8 ha, in8 hb, in8 hb, trivial⟩)
theorem q_link (h : Rel up nm lk st) (hP : PO up nm lk parts nexts befores steps len row pl) (x1 x2 x3 : Int32) : P_C_link x1 x2 x3 lk parts nexts befores steps len row pl up nm ∧ P_M_link x1 x2 x3 st ∧ (f_C_link x1 x2 x3 lk parts nexts befores steps len row pl up nm).1 = (f_M_link x1 x2 x3 st).1 ∧ Rel up nm (f_C_link x1 x2 x3 lk parts nexts befores steps len row pl up nm).2.1 (f_M_link x1 x2 x3 st).2 ∧ PO up nm (f_C_link x1 x2 x3 lk parts nexts befores steps len row pl up nm).2.1 (f_C_link x1 x2 x3 lk parts nexts befores steps len row pl up nm).2.2.1 (f_C_link x1 x2 x3 lk parts nexts befores steps len row pl up nm).2.2.2.1 (f_C_link x1 x2 x3 lk parts nexts befores steps len row pl up nm).2.2.2.2.1 (f_C_link x1 x2 x3 lk parts nexts befores steps len row pl up nm).2.2.2.2.2.1 (f_C_link x1 x2 x3 lk parts nexts befores steps len row pl up nm).2.2.2.2.2.2.1 (f_C_link x1 x2 x3 lk parts nexts befores steps len row pl up nm).2.2.2.2.2.2.2.1 (f_C_link x1 x2 x3 lk parts nexts befores steps len row pl up nm).2.2.2.2.2.2.2.2 := by
  unfold P_C_link P_M_link f_C_link f_M_link
  rw [mNode, mNode]
  by_cases c1 : f_C_isNode x1 = 0
  · rw [iF_pos c1, iF_pos c1]
    exact ⟨pif (fun _ => trivial) (fun q => absurd c1 q), pif (fun _ => trivial) (fun q => absurd c1 q), rfl, h, hP⟩
  obtain ⟨a, ha, rfl⟩ := isNode_of c1
  rw [iF_neg c1, iF_neg c1]
  by_cases c2 : f_C_isNode x2 = 0
  · rw [iF_pos c2, iF_pos c2]
    exact ⟨pif (fun _ => trivial) (fun _ => pif (fun _ => trivial) (fun q => absurd c2 q)), pif (fun _ => trivial) (fun _ => pif (fun _ => trivial) (fun q => absurd c2 q)), rfl, h, hP⟩
  obtain ⟨b, hb, rfl⟩ := isNode_of c2
  rw [iF_neg c2, iF_neg c2, iF_c (in01 x3)]
  by_cases c3 : x3 < 0
  · rw [iF_pos c3, iF_pos (Or.inl c3)]
    exact ⟨pif (fun _ => trivial) (fun _ => pif (fun _ => trivial) (fun _ => pif (fun _ => trivial) (fun q => absurd c3 q))), pif (fun _ => trivial) (fun _ => pif (fun _ => trivial) (fun _ => pif (fun _ => trivial) (fun q => absurd ((in01 x3).mpr (Or.inl c3)) q))), rfl, h, hP⟩
  rw [iF_neg c3]
  by_cases c4 : 1 < x3
  · rw [iF_pos c4, iF_pos (Or.inr c4)]
    exact ⟨pif (fun _ => trivial) (fun _ => pif (fun _ => trivial) (fun _ => pif (fun _ => trivial) (fun _ => pif (fun _ => trivial) (fun q => absurd c4 q)))), pif (fun _ => trivial) (fun _ => pif (fun _ => trivial) (fun _ => pif (fun _ => trivial) (fun q => absurd ((in01 x3).mpr (Or.inr c4)) q))), rfl, h, hP⟩
  rw [iF_neg c4, iF_neg (fun q : x3 < 0 ∨ 1 < x3 => q.elim c3 c4)]
  by_cases c5 : nI a = nI b
  · rw [iF_pos c5, iF_pos c5]
    exact ⟨pif (fun _ => trivial) (fun _ => pif (fun _ => trivial) (fun _ => pif (fun _ => trivial) (fun _ => pif (fun _ => trivial) (fun _ => pif (fun _ => trivial) (fun q => absurd c5 q))))), pif (fun _ => trivial) (fun _ => pif (fun _ => trivial) (fun _ => pif (fun _ => trivial) (fun _ => pif (fun _ => trivial) (fun q => absurd c5 q)))), rfl, h, hP⟩
  rw [iF_neg c5, iF_neg c5]
  have hon : ∃ on : Bool, ((iF (x3 = 1) (1 : Int32) 0 = 0) ↔ on = false) ∧ x3 = if on then 1 else 0 := by
    rcases of01 c3 c4 with q | q
    · exact ⟨false, by rw [iF_neg (by rw [q]; decide)]; simp, q⟩
    · exact ⟨true, by rw [iF_pos q]; simp, q⟩
  obtain ⟨on, on1, on2⟩ := hon
  have hD := Rel_link h ha hb (fun q => c5 (by rw [q])) on1 on2
  obtain ⟨l1, l2⟩ := lay_spec hD.1 nm (f_Mesh_setLink (nI a) (nI b) (iF (x3 = 1) 1 0) lk) parts befores steps nexts len row pl
  obtain ⟨k1, k2⟩ := links_spec hD
  exact ⟨pif (fun _ => trivial) (fun _ => pif (fun _ => trivial) (fun _ => pif (fun _ => trivial) (fun _ => pif (fun _ => trivial) (fun _ => pif (fun _ => trivial) (fun _ => ⟨P_set ha hb _ lk, l1, trivial⟩))))), pif (fun _ => trivial) (fun _ => pif (fun _ => trivial) (fun _ => pif (fun _ => trivial) (fun _ => pif (fun _ => trivial) (fun _ => ⟨in_pair ha hb, k1, trivial⟩)))), k2, hD, l2⟩
end M

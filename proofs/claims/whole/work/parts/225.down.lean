/-! down -/
section M
variable {up : Int32} {nm lk st parts nexts befores steps len row pl : Nat → Int32}
theorem low_bt {a : Nat} (ha : a < 8) (up : Int32) {i : Nat} (hi : i < 32) : bt (f_Mesh_lower (nI a) up) i = (bt up i && !decide (i = a)) := by
  unfold f_Mesh_lower
  rw [b_and, b_not _ hi, b_bit ha]
theorem Rel_down (h : Rel up nm lk st) {a : Nat} (ha : a < 8) : Rel (f_Mesh_lower (nI a) up) nm lk (upd (upd st a 0) (8 + a) 0) := by
  obtain ⟨h1, h2, h3, h4, h5, h6, h7, h8, h9⟩ := h
  have sub : ∀ n, n < 8 → bt (f_Mesh_lower (nI a) up) n = true → bt up n = true ∧ n ≠ a := fun n hn q => by
    rw [low_bt ha up (by omega), Bool.and_eq_true, Bool.not_eq_true', decide_eq_false_iff_not] at q
    exact q
  refine ⟨S8_and h1, h2, fun n hn => ?_, fun n hn q => ?_, fun x y hx hy q1 q2 e => h5 x y hx hy (sub x hx q1).1 (sub y hy q2).1 e, fun x y hx hy hxy => ?_, fun x y hx hy hxy => ?_, h8, h9⟩
  · rw [upd_eq, if_neg (by omega), upd_eq, low_bt ha up (by omega)]
    by_cases e : n = a
    · rw [if_pos e, decide_eq_true e, Bool.not_true, Bool.and_false]; rfl
    · rw [if_neg e, decide_eq_false e, Bool.not_false, Bool.and_true]; exact h3 n hn
  · obtain ⟨q1, q2⟩ := sub n hn q
    rw [upd_eq, if_neg (by omega), upd_eq, if_neg (by omega)]
    exact h4 n hn q1
  · rw [upd_eq, if_neg (by omega), upd_eq, if_neg (by omega)]; exact h6 x y hx hy hxy
  · rw [upd_eq, if_neg (by omega), upd_eq, if_neg (by omega)]; exact h7 x y hx hy hxy
theorem q_down (h : Rel up nm lk st) (hP : PO up nm lk parts nexts befores steps len row pl) (x1 : Int32) : P_C_down x1 parts nexts befores steps len row pl up nm lk ∧ P_M_down x1 st ∧ (f_C_down x1 parts nexts befores steps len row pl up nm lk).1 = (f_M_down x1 st).1 ∧ Rel (f_C_down x1 parts nexts befores steps len row pl up nm lk).2.2.2.2.2.2.2.2 nm lk (f_M_down x1 st).2 ∧ PO (f_C_down x1 parts nexts befores steps len row pl up nm lk).2.2.2.2.2.2.2.2 nm lk (f_C_down x1 parts nexts befores steps len row pl up nm lk).2.1 (f_C_down x1 parts nexts befores steps len row pl up nm lk).2.2.1 (f_C_down x1 parts nexts befores steps len row pl up nm lk).2.2.2.1 (f_C_down x1 parts nexts befores steps len row pl up nm lk).2.2.2.2.1 (f_C_down x1 parts nexts befores steps len row pl up nm lk).2.2.2.2.2.1 (f_C_down x1 parts nexts befores steps len row pl up nm lk).2.2.2.2.2.2.1 (f_C_down x1 parts nexts befores steps len row pl up nm lk).2.2.2.2.2.2.2.1 := by
  unfold P_C_down P_M_down f_C_down f_M_down
  rw [mNode]
  by_cases c1 : f_C_isNode x1 = 0
  · rw [iF_pos c1, iF_pos c1]
    exact ⟨pif (fun _ => trivial) (fun q => absurd c1 q), pif (fun _ => trivial) (fun q => absurd c1 q), rfl, h, hP⟩
  obtain ⟨a, ha, rfl⟩ := isNode_of c1
  rw [iF_neg c1, iF_neg c1, iF_c (cUp h ha)]
  by_cases c4 : f_Mesh_isUp (nI a) up = 0
  · rw [iF_pos c4, iF_pos c4]
    exact ⟨pif (fun _ => trivial) (fun _ => pif (fun _ => trivial) (fun q => absurd c4 q)), pif (fun _ => trivial) (fun _ => ⟨P_mUp ha st, pif (fun _ => trivial) (fun q => absurd ((cUp h ha).mpr c4) q)⟩), rfl, h, hP⟩
  have hua : bt up a = true := by
    cases hb : bt up a
    · exact absurd ((isUp_0 ha up).mpr hb) c4
    · rfl
  have hD := Rel_down h ha
  obtain ⟨l1, l2⟩ := lay_spec hD.1 nm lk parts befores steps nexts len row pl
  rw [iF_neg c4, iF_neg c4, z_nI, e_nI, cl (by omega), cl (by omega)]
  exact ⟨pif (fun _ => trivial) (fun _ => pif (fun _ => trivial) (fun _ => ⟨in8 ha, l1, trivial⟩)), pif (fun _ => trivial) (fun _ => ⟨P_mUp ha st, pif (fun _ => trivial) (fun _ => ⟨in80 (by omega), in80 (by omega), in80 (by omega), trivial⟩)⟩), (h.2.2.2.1 a ha hua).1.symm, hD, l2⟩
end M

/-! up -/
section M
variable {up : Int32} {nm lk st parts nexts befores steps len row pl : Nat → Int32}
theorem taken_C (x : Int32) (up : Int32) (nm : Nat → Int32) : P_Mesh_isTaken x up nm ∧ ((f_Mesh_isTaken x up nm = 0) ↔ ∀ n, n < 8 → bt up n = true → nm n ≠ x) := by
  let P : Nat → Unit → Prop := fun j _ => j ≤ 8 ∧ ∀ n, n < j → bt up n = true → nm n ≠ x
  have i0 : P 0 () := ⟨by omega, fun n hn => by omega⟩
  have stop : ∀ u, b_Mesh_isTaken_1 up nm x (0 + 8) u = .inr 0 := fun u => by
    unfold b_Mesh_isTaken_1
    exact iF_pos (by decide)
  have step : ∀ j u u', j < 9 → P j u → b_Mesh_isTaken_1 up nm x (0 + j) u = .inl u' → P (j + 1) u' := fun j u u' hj9 hu hf => by
    by_cases e : j = 8
    · subst e; rw [stop u] at hf; cases hf
    · have hj : j < 8 := by have := hu.1; omega
      refine ⟨by omega, fun n hn q => ?_⟩
      by_cases e2 : n = j
      · subst e2
        intro e3
        rw [Nat.zero_add] at hf
        unfold b_Mesh_isTaken_1 at hf
        rw [iF_neg (fun c => by rw [le8 (by omega)] at c; omega), iF_neg (fun c => by rw [(isUp_0 hj up).mp c] at q; cases q), cl (by omega), iF_pos e3] at hf
        cases hf
      · exact hu.2 n (by omega) q
  obtain ⟨i1, i2⟩ := forX_inv (f := b_Mesh_isTaken_1 up nm x) (a := 0) (n := 9) (v := ()) P i0 step
  have hend := forX_end (f := b_Mesh_isTaken_1 up nm x) (a := 0) (n := 9) (N := 8) (v := ()) P i0 step (by omega) (fun u hu => ⟨_, stop u⟩)
  obtain ⟨z, hz⟩ := id hend
  obtain ⟨j, u, hj, hu, -, hfz⟩ := i2 z hz
  have hres : f_Mesh_isTaken x up nm = z := by
    show exB 0 (forX (b_Mesh_isTaken_1 up nm x) 0 9 ()) = z
    rw [hz]; rfl
  refine ⟨⟨hend, fun q u hq hfq => ?_, trivial⟩, ?_⟩
  · rw [Nat.zero_add]
    exact pif (fun _ => trivial) (fun c => pif (fun _ => trivial) (fun _ => ⟨in8 (by
      rcases Nat.lt_or_ge q 8 with r | r
      · exact r
      · exact absurd ((le8 (by omega)).mpr r) c), trivial⟩))
  · rw [hres]
    by_cases e : j = 8
    · subst e
      rw [stop u] at hfz
      cases hfz
      exact ⟨fun _ => hu.2, fun _ => rfl⟩
    · have hj8 : j < 8 := by have := hu.1; omega
      rw [Nat.zero_add] at hfz
      unfold b_Mesh_isTaken_1 at hfz
      rw [iF_neg (fun c => by rw [le8 (by omega)] at c; omega)] at hfz
      by_cases c1 : f_Mesh_isUp (nI j) up = 0
      · rw [iF_pos c1] at hfz; cases hfz
      · rw [iF_neg c1, cl (by omega)] at hfz
        by_cases c2 : nm j = x
        · rw [iF_pos c2] at hfz
          cases hfz
          refine ⟨fun q => absurd q (by decide), fun q => absurd c2 (q j hj8 ?_)⟩
          cases hb : bt up j
          · exact absurd ((isUp_0 hj8 up).mpr hb) c1
          · rfl
        · rw [iF_neg c2] at hfz; cases hfz
theorem taken_M (h : Rel up nm lk st) (x : Int32) : P_M_isTaken x st ∧ ((f_M_isTaken x st = 0) ↔ ∀ n, n < 8 → bt up n = true → nm n ≠ x) := by
  have key : ∀ q, q ≤ 8 → (forN (b_M_isTaken_1 st x) 0 q 0 = 0 ∧ ∀ n, n < q → bt up n = true → nm n ≠ x) ∨ (forN (b_M_isTaken_1 st x) 0 q 0 = 1 ∧ ∃ n, n < q ∧ bt up n = true ∧ nm n = x) := fun q hq => forN_ind (f := b_M_isTaken_1 st x) (a := 0) (n := q) (v := 0) (fun j v => (v = 0 ∧ ∀ n, n < j → bt up n = true → nm n ≠ x) ∨ (v = 1 ∧ ∃ n, n < j ∧ bt up n = true ∧ nm n = x)) (Or.inl ⟨rfl, fun n hn => by omega⟩) (fun j v hj hv => by
    have hj8 : j < 8 := by omega
    rw [Nat.zero_add]
    unfold b_M_isTaken_1
    rcases hv with ⟨v0, vn⟩ | ⟨v1, n, n1, n2, n3⟩
    · rw [iF_pos v0]
      cases hu : bt up j
      · rw [iF_pos ((mUp_0 h hj8).mpr hu)]
        refine Or.inl ⟨rfl, fun n hn q => ?_⟩
        by_cases e : n = j
        · rw [e, hu] at q; cases q
        · exact vn n (by omega) q
      · rw [iF_neg (fun q => by rw [(mUp_0 h hj8).mp q] at hu; cases hu), e_nI, cl (by omega), (h.2.2.2.1 j hj8 hu).1]
        by_cases c : nm j = x
        · rw [iF_pos c]; exact Or.inr ⟨rfl, j, by omega, hu, c⟩
        · rw [iF_neg c]
          refine Or.inl ⟨rfl, fun n hn q => ?_⟩
          by_cases e : n = j
          · rw [e]; exact c
          · exact vn n (by omega) q
    · rw [iF_neg (by rw [v1]; decide)]
      exact Or.inr ⟨rfl, n, by omega, n2, n3⟩)
  refine ⟨⟨fun q hq => ?_, ?_, trivial⟩, ?_⟩
  · rw [Nat.zero_add]
    exact pif (fun _ => ⟨P_mUp hq st, pif (fun _ => trivial) (fun _ => ⟨by rw [e_nI]; exact in80 (by omega), trivial⟩)⟩) (fun _ => trivial)
  · rcases key 8 (Nat.le_refl 8) with ⟨e, -⟩ | ⟨e, -⟩ <;> rw [e] <;> decide
  · show (forN (b_M_isTaken_1 st x) 0 8 0 = 0) ↔ _
    rcases key 8 (Nat.le_refl 8) with ⟨e, hn⟩ | ⟨e, n, n1, n2, n3⟩
    · rw [e]; exact ⟨fun _ => hn, fun _ => rfl⟩
    · rw [e]; exact ⟨fun q => absurd q (by decide), fun q => absurd n3 (q n n1 n2)⟩
theorem Rel_up (h : Rel up nm lk st) {a x : Nat} (ha : a < 8) (hx : x < 256) (hn : ∀ n, n < 8 → bt up n = true → nm n ≠ nI x) : Rel (up ||| f_C_bit (nI a)) (upd nm a (nI x)) lk (upd (upd st a 1) (8 + a) (nI x)) := by
  obtain ⟨h1, h2, h3, h4, h5, h6, h7, h8, h9⟩ := h
  have ub : ∀ n, bt (up ||| f_C_bit (nI a)) n = true ↔ bt up n = true ∨ n = a := fun n => by
    rw [b_or, b_bit ha, Bool.or_eq_true, decide_eq_true_eq]
  refine ⟨S8_or h1 (S8_bit ha), h2, fun n hn' => ?_, fun n hn' q => ?_, fun y z hy hz q1 q2 e => ?_, fun y z hy hz hyz => ?_, fun y z hy hz hyz => ?_, h8, h9⟩
  · rw [upd_eq, if_neg (by omega), upd_eq]
    by_cases e : n = a
    · rw [if_pos e, if_pos ((ub n).mpr (Or.inr e))]
    · rw [if_neg e, h3 n hn']
      cases hb : bt up n
      · rw [if_neg (by decide), if_neg (fun q => ((ub n).mp q).elim (fun q => by rw [hb] at q; cases q) e)]
      · rw [if_pos rfl, if_pos ((ub n).mpr (Or.inl hb))]
  · rw [upd_eq _ _ _ (8 + n), upd_eq nm]
    by_cases e : n = a
    · rw [if_pos (show 8 + n = 8 + a by omega), if_pos e]
      exact ⟨rfl, x, hx, rfl⟩
    · rw [if_neg (show ¬ 8 + n = 8 + a by omega), if_neg e, upd_eq, if_neg (by omega)]
      exact h4 n hn' (((ub n).mp q).resolve_right e)
  · rw [upd_eq, upd_eq] at e
    by_cases e1 : y = a <;> by_cases e2 : z = a
    · omega
    · rw [if_pos e1, if_neg e2] at e
      exact absurd e.symm (hn z hz (((ub z).mp q2).resolve_right e2))
    · rw [if_neg e1, if_pos e2] at e
      exact absurd e (hn y hy (((ub y).mp q1).resolve_right e1))
    · rw [if_neg e1, if_neg e2] at e
      exact h5 y z hy hz (((ub y).mp q1).resolve_right e1) (((ub z).mp q2).resolve_right e2) e
  · rw [upd_eq, if_neg (by omega), upd_eq, if_neg (by omega)]; exact h6 y z hy hz hyz
  · rw [upd_eq, if_neg (by omega), upd_eq, if_neg (by omega)]; exact h7 y z hy hz hyz
theorem q_up (h : Rel up nm lk st) (hP : PO up nm lk parts nexts befores steps len row pl) (x1 x2 : Int32) : P_C_up x1 x2 nm parts nexts befores steps len row pl up lk ∧ P_M_up x1 x2 st ∧ (f_C_up x1 x2 nm parts nexts befores steps len row pl up lk).1 = (f_M_up x1 x2 st).1 ∧ Rel (f_C_up x1 x2 nm parts nexts befores steps len row pl up lk).2.2.2.2.2.2.2.2.2 (f_C_up x1 x2 nm parts nexts befores steps len row pl up lk).2.1 lk (f_M_up x1 x2 st).2 ∧ PO (f_C_up x1 x2 nm parts nexts befores steps len row pl up lk).2.2.2.2.2.2.2.2.2 (f_C_up x1 x2 nm parts nexts befores steps len row pl up lk).2.1 lk (f_C_up x1 x2 nm parts nexts befores steps len row pl up lk).2.2.1 (f_C_up x1 x2 nm parts nexts befores steps len row pl up lk).2.2.2.1 (f_C_up x1 x2 nm parts nexts befores steps len row pl up lk).2.2.2.2.1 (f_C_up x1 x2 nm parts nexts befores steps len row pl up lk).2.2.2.2.2.1 (f_C_up x1 x2 nm parts nexts befores steps len row pl up lk).2.2.2.2.2.2.1 (f_C_up x1 x2 nm parts nexts befores steps len row pl up lk).2.2.2.2.2.2.2.1 (f_C_up x1 x2 nm parts nexts befores steps len row pl up lk).2.2.2.2.2.2.2.2.1 := by
  unfold P_C_up P_M_up f_C_up f_M_up
  rw [mNode, mName]
  by_cases c1 : f_C_isNode x1 = 0
  · rw [iF_pos c1, iF_pos c1]
    exact ⟨pif (fun _ => trivial) (fun q => absurd c1 q), pif (fun _ => trivial) (fun q => absurd c1 q), rfl, h, hP⟩
  obtain ⟨a, ha, rfl⟩ := isNode_of c1
  rw [iF_neg c1, iF_neg c1]
  by_cases c2 : f_C_isName x2 = 0
  · rw [iF_pos c2, iF_pos c2]
    exact ⟨pif (fun _ => trivial) (fun _ => pif (fun _ => trivial) (fun q => absurd c2 q)), pif (fun _ => trivial) (fun _ => pif (fun _ => trivial) (fun q => absurd c2 q)), rfl, h, hP⟩
  obtain ⟨x, hx, rfl⟩ := isName_of c2
  rw [iF_neg c2, iF_neg c2, iF_c (cUp h ha)]
  by_cases c4 : f_Mesh_isUp (nI a) up = 0
  · obtain ⟨t1, t2⟩ := taken_C (nI x) up nm
    obtain ⟨s1, s2⟩ := taken_M h (nI x)
    rw [iF_pos c4, iF_pos c4, iF_c (s2.trans t2.symm)]
    by_cases c5 : f_Mesh_isTaken (nI x) up nm = 0
    · have hD := Rel_up h ha hx (t2.mp c5)
      have er : f_Mesh_raise (nI a) (nI x) nm up = (upd nm a (nI x), up ||| f_C_bit (nI a)) := by
        unfold f_Mesh_raise; rw [cl (by omega)]
      obtain ⟨l1, l2⟩ := lay_spec hD.1 (upd nm a (nI x)) lk parts befores steps nexts len row pl
      obtain ⟨k1, k2⟩ := ups_spec hD
      rw [iF_pos c5, iF_pos c5, er, z_nI, e_nI, cl (by omega), cl (by omega)]
      exact ⟨pif (fun _ => trivial) (fun _ => pif (fun _ => trivial) (fun _ => pif (fun _ => ⟨t1, pif (fun _ => ⟨⟨in8 ha, trivial⟩, l1, trivial⟩) (fun _ => trivial)⟩) (fun _ => trivial))), pif (fun _ => trivial) (fun _ => pif (fun _ => trivial) (fun _ => ⟨P_mUp ha st, pif (fun _ => ⟨s1, pif (fun _ => ⟨in80 (by omega), in80 (by omega), k1, trivial⟩) (fun _ => trivial)⟩) (fun _ => trivial)⟩)), k2, hD, l2⟩
    · rw [iF_neg c5, iF_neg c5]
      exact ⟨pif (fun _ => trivial) (fun _ => pif (fun _ => trivial) (fun _ => pif (fun _ => ⟨t1, pif (fun q => absurd q c5) (fun _ => trivial)⟩) (fun _ => trivial))), pif (fun _ => trivial) (fun _ => pif (fun _ => trivial) (fun _ => ⟨P_mUp ha st, pif (fun _ => ⟨s1, pif (fun q => absurd (t2.mpr (s2.mp q)) c5) (fun _ => trivial)⟩) (fun _ => trivial)⟩)), rfl, h, hP⟩
  · rw [iF_neg c4, iF_neg c4]
    exact ⟨pif (fun _ => trivial) (fun _ => pif (fun _ => trivial) (fun _ => pif (fun q => absurd q c4) (fun _ => trivial))), pif (fun _ => trivial) (fun _ => pif (fun _ => trivial) (fun _ => ⟨P_mUp ha st, pif (fun q => absurd ((cUp h ha).mp q) c4) (fun _ => trivial)⟩)), rfl, h, hP⟩
end M

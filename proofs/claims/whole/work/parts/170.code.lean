/-! OF MeshNamesModel.away(II)I -/
noncomputable def f_M_away (x1 : Int32) (x2 : Int32) : Int32 := (f_M_less (iF (x2 ≤ x1) (x1 - x2) (x2 - x1)) ((256 : Int32) - (iF (x2 ≤ x1) (x1 - x2) (x2 - x1))))
set_option maxRecDepth 8000 in
set_option maxHeartbeats 4000000 in
theorem e_M_away (w : AW) (x1 x2 : Int32)  : Ev none 77 (0, [some (vI x1), some (vI x2), none], [], w, (0, 0)) (some (f_M_away x1 x2), w) := by
  suffices hh : ∀ (r : Option Int32 × AW) (K : (Int32) → Prop), K = (fun o : Int32 => (some o, w) = r) → K (f_M_less (iF (x2 ≤ x1) (x1 - x2) (x2 - x1)) ((256 : Int32) - (iF (x2 ≤ x1) (x1 - x2) (x2 - x1)))) → Ev none 77 (0, [some (vI x1), some (vI x2), none], [], w, (0, 0)) r from hh _ _ rfl rfl
  intro r K hK k
  refine Ev.go (st' := (if x2 ≤ x1 then 11 else 5, [some (vI x1), some (vI x2), none], [], w, (0, 0))) 3 rfl trivial ?_
  have kJ1 : Ev none 77 (14, [none, none, none], [vI (iF (x2 ≤ x1) (x1 - x2) (x2 - x1))], w, (0, 0)) r := by
    refine Ev.go (st' := (21, [none, none, some (vI (iF (x2 ≤ x1) (x1 - x2) (x2 - x1)))], [vI ((256 : Int32) - (iF (x2 ≤ x1) (x1 - x2) (x2 - x1))), vI (iF (x2 ≤ x1) (x1 - x2) (x2 - x1))], w, (0, 0))) 5 rfl trivial ?_
    refine Ev.callI (a := 76) (As := [vI (iF (x2 ≤ x1) (x1 - x2) (x2 - x1)), vI ((256 : Int32) - (iF (x2 ≤ x1) (x1 - x2) (x2 - x1)))]) [] (f_M_less (iF (x2 ≤ x1) (x1 - x2) (x2 - x1)) ((256 : Int32) - (iF (x2 ≤ x1) (x1 - x2) (x2 - x1)))) (w) rfl (e_M_less (w) (iF (x2 ≤ x1) (x1 - x2) (x2 - x1)) ((256 : Int32) - (iF (x2 ≤ x1) (x1 - x2) (x2 - x1)))) ?_
    rw [hK] at k
    have k3 : (some (f_M_less (iF (x2 ≤ x1) (x1 - x2) (x2 - x1)) ((256 : Int32) - (iF (x2 ≤ x1) (x1 - x2) (x2 - x1)))), w) = r := k
    rw [← k3]
    exact Ev.ireti rfl rfl
  refine Ev.br (fun h1 => ?_) (fun h1 => ?_)
  · refine Ev.go (st' := (14, [some (vI x1), some (vI x2), none], [vI (x1 - x2)], w, (0, 0))) 3 rfl trivial ?_
    exact Ev.wk (Lle.n (Lle.n (Lle.n Lle.z))) (Ev.to kJ1 (by simp only [iF_pos h1]))
  · refine Ev.go (st' := (14, [some (vI x1), some (vI x2), none], [vI (x2 - x1)], w, (0, 0))) 4 rfl trivial ?_
    exact Ev.wk (Lle.n (Lle.n (Lle.n Lle.z))) (Ev.to kJ1 (by simp only [iF_neg h1]))

/-! OF MeshNamesModel.pair(II)I -/
noncomputable def f_M_pair (x1 : Int32) (x2 : Int32) : Int32 := ((16 : Int32) + (iF (x2 ≤ x1) (((8 : Int32) * x2) + x1) (((8 : Int32) * x1) + x2)))
set_option maxRecDepth 8000 in
set_option maxHeartbeats 4000000 in
theorem e_M_pair (w : AW) (x1 x2 : Int32)  : Ev none 38 (0, [some (vI x1), some (vI x2)], [], w, (0, 0)) (some (f_M_pair x1 x2), w) := by
  suffices hh : ∀ (r : Option Int32 × AW) (K : (Int32) → Prop), K = (fun o : Int32 => (some o, w) = r) → K ((16 : Int32) + (iF (x2 ≤ x1) (((8 : Int32) * x2) + x1) (((8 : Int32) * x1) + x2))) → Ev none 38 (0, [some (vI x1), some (vI x2)], [], w, (0, 0)) r from hh _ _ rfl rfl
  intro r K hK k
  refine Ev.go (st' := (if x2 ≤ x1 then 16 else 7, [some (vI x1), some (vI x2)], [vI (16 : Int32)], w, (0, 0))) 4 rfl trivial ?_
  have kJ1 : Ev none 38 (22, [none, none], [vI (iF (x2 ≤ x1) (((8 : Int32) * x2) + x1) (((8 : Int32) * x1) + x2)), vI (16 : Int32)], w, (0, 0)) r := by
    refine Ev.go (st' := (23, [none, none], [vI ((16 : Int32) + (iF (x2 ≤ x1) (((8 : Int32) * x2) + x1) (((8 : Int32) * x1) + x2)))], w, (0, 0))) 1 rfl trivial ?_
    rw [hK] at k
    have k3 : (some ((16 : Int32) + (iF (x2 ≤ x1) (((8 : Int32) * x2) + x1) (((8 : Int32) * x1) + x2))), w) = r := k
    rw [← k3]
    exact Ev.ireti rfl rfl
  refine Ev.br (fun h1 => ?_) (fun h1 => ?_)
  · refine Ev.go (st' := (22, [some (vI x1), some (vI x2)], [vI (((8 : Int32) * x2) + x1), vI (16 : Int32)], w, (0, 0))) 5 rfl trivial ?_
    exact Ev.wk (Lle.n (Lle.n Lle.z)) (Ev.to kJ1 (by simp only [iF_pos h1]))
  · refine Ev.go (st' := (22, [some (vI x1), some (vI x2)], [vI (((8 : Int32) * x1) + x2), vI (16 : Int32)], w, (0, 0))) 6 rfl trivial ?_
    exact Ev.wk (Lle.n (Lle.n Lle.z)) (Ev.to kJ1 (by simp only [iF_neg h1]))

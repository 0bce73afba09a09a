/-! OF MeshNames.isNode(I)Z -/
noncomputable def f_C_isNode (x1 : Int32) : Int32 := (iF (x1 < 0) (0 : Int32) (iF ((8 : Int32) ≤ x1) (0 : Int32) (1 : Int32)))
theorem z_C_isNode (x1 : Int32) : (f_C_isNode x1) &&& 1 = f_C_isNode x1 := (z_iF rfl (z_iF rfl rfl))
set_option maxRecDepth 8000 in
set_option maxHeartbeats 4000000 in
theorem e_C_isNode (w : AW) (x1 : Int32)  : Ev none 14 (0, [some (vI x1)], [], w, (0, 0)) (some (f_C_isNode x1), w) := by
  suffices hh : ∀ (r : Option Int32 × AW) (K : (Int32) → Prop), K = (fun o : Int32 => (some o, w) = r) → K (iF (x1 < 0) (0 : Int32) (iF ((8 : Int32) ≤ x1) (0 : Int32) (1 : Int32))) → Ev none 14 (0, [some (vI x1)], [], w, (0, 0)) r from hh _ _ rfl rfl
  intro r K hK k
  refine Ev.go (st' := (if x1 < 0 then 14 else 4, [some (vI x1)], [], w, (0, 0))) 2 rfl trivial ?_
  have kJ1 : Ev none 14 (15, [none], [vI (iF (x1 < 0) (0 : Int32) (iF ((8 : Int32) ≤ x1) (0 : Int32) (1 : Int32)))], w, (0, 0)) r := by
    rw [hK] at k
    have k3 : (some (iF (x1 < 0) (0 : Int32) (iF ((8 : Int32) ≤ x1) (0 : Int32) (1 : Int32))), w) = r := k
    rw [← k3]
    exact Ev.iretz rfl rfl (by exact (z_iF rfl (z_iF rfl rfl)))
  refine Ev.br (fun h1 => ?_) (fun h1 => ?_)
  · refine Ev.go (st' := (15, [some (vI x1)], [vI (0 : Int32)], w, (0, 0))) 1 rfl trivial ?_
    exact Ev.wk (Lle.n Lle.z) (Ev.to kJ1 (by simp only [iF_pos h1]))
  · refine Ev.go (st' := (if (8 : Int32) ≤ x1 then 14 else 10, [some (vI x1)], [], w, (0, 0))) 3 rfl trivial ?_
    have kJ2 : Ev none 14 (15, [none], [vI (iF ((8 : Int32) ≤ x1) (0 : Int32) (1 : Int32))], w, (0, 0)) r := by
      exact Ev.wk (Lle.n Lle.z) (Ev.to kJ1 (by simp only [iF_neg h1]))
    refine Ev.br (fun h2 => ?_) (fun h2 => ?_)
    · refine Ev.go (st' := (15, [some (vI x1)], [vI (0 : Int32)], w, (0, 0))) 1 rfl trivial ?_
      exact Ev.wk (Lle.n Lle.z) (Ev.to kJ2 (by simp only [iF_pos h2]))
    · refine Ev.go (st' := (15, [some (vI x1)], [vI (1 : Int32)], w, (0, 0))) 2 rfl trivial ?_
      exact Ev.wk (Lle.n Lle.z) (Ev.to kJ2 (by simp only [iF_neg h2]))

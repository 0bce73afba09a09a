/-! OF MeshNamesModel.isNode(I)Z -/
noncomputable def f_M_isNode (x1 : Int32) : Int32 := (f_M_in x1 (0 : Int32) (7 : Int32))
theorem z_M_isNode (x1 : Int32) : (f_M_isNode x1) &&& 1 = f_M_isNode x1 := (z_M_in _ _ _)
set_option maxRecDepth 8000 in
set_option maxHeartbeats 4000000 in
theorem e_M_isNode (w : AW) (x1 : Int32)  : Ev none 26 (0, [some (vI x1)], [], w, (0, 0)) (some (f_M_isNode x1), w) := by
  suffices hh : ∀ (r : Option Int32 × AW) (K : (Int32) → Prop), K = (fun o : Int32 => (some o, w) = r) → K (f_M_in x1 (0 : Int32) (7 : Int32)) → Ev none 26 (0, [some (vI x1)], [], w, (0, 0)) r from hh _ _ rfl rfl
  intro r K hK k
  refine Ev.go (st' := (4, [some (vI x1)], [vI (7 : Int32), vI (0 : Int32), vI x1], w, (0, 0))) 3 rfl trivial ?_
  refine Ev.callI (a := 25) (As := [vI x1, vI (0 : Int32), vI (7 : Int32)]) [] (f_M_in x1 (0 : Int32) (7 : Int32)) (w) rfl (e_M_in (w) x1 (0 : Int32) (7 : Int32)) ?_
  rw [hK] at k
  have k3 : (some (f_M_in x1 (0 : Int32) (7 : Int32)), w) = r := k
  rw [← k3]
  exact Ev.iretz rfl rfl (by exact (z_M_in _ _ _))

/-! OF MeshNames$Mesh.isUp(I)Z -/
noncomputable def f_Mesh_isUp (x1 : Int32) (upSet : Int32) : Int32 := (f_C_has upSet x1)
theorem z_Mesh_isUp (x1 : Int32) (upSet : Int32) : (f_Mesh_isUp x1 upSet) &&& 1 = f_Mesh_isUp x1 upSet := by
  unfold f_Mesh_isUp
  (repeat' split) <;> first | rfl | exact z_C_has _ _
set_option maxRecDepth 8000 in
set_option maxHeartbeats 4000000 in
theorem e_Mesh_isUp_1 (σ : Sg) (md : AW) (x1 : Int32)  : Ev none 8 (0, [some (vR 1), some (vI x1)], [], wd σ md, (0, 0)) (some (f_Mesh_isUp x1 (σ.2 1)), wd σ md) := by
  suffices hh : ∀ (r : Option Int32 × AW) (K : (Int32) → Prop), K = (fun o : Int32 => (some o, wd σ md) = r) → K (f_C_has (σ.2 1) x1) → Ev none 8 (0, [some (vR 1), some (vI x1)], [], wd σ md, (0, 0)) r from hh _ _ rfl rfl
  intro r K hK k
  refine Ev.go (st' := (5, [some (vR 1), some (vI x1)], [vI x1, vI (σ.2 1)], wd σ md, (0, 0))) 3 rfl trivial ?_
  refine Ev.callI (a := 6) (As := [vI (σ.2 1), vI x1]) [] (f_C_has (σ.2 1) x1) (wd σ md) rfl (e_C_has (wd σ md) (σ.2 1) x1) ?_
  rw [hK] at k
  have k3 : (some (f_C_has (σ.2 1) x1), wd σ md) = r := k
  rw [← k3]
  exact Ev.iretz rfl rfl (by exact z_C_has (σ.2 1) x1)

/-! OF MeshNames$Mesh.neighbours(I)I -/
noncomputable def f_Mesh_neighbours (x1 : Int32) (upSet : Int32) (links : Nat → Int32) : Int32 := (if (f_Mesh_isUp x1 upSet) = 0 then (0 : Int32) else ((links x1.toNatClampNeg) &&& upSet))
def P_Mesh_neighbours (x1 : Int32) (upSet : Int32) (links : Nat → Int32) : Prop := (((f_Mesh_isUp x1 upSet) = 0 → True) ∧ (¬ ((f_Mesh_isUp x1 upSet) = 0) → (vp_in x1 8 ∧ True))) ∧ True
set_option maxRecDepth 8000 in
set_option maxHeartbeats 4000000 in
theorem e_Mesh_neighbours_1 (σ : Sg) (md : AW) (x1 : Int32) (hP : P_Mesh_neighbours x1 (σ.2 1) (σ.1 3))  : Ev none 9 (0, [some (vR 1), some (vI x1)], [], wd σ md, (0, 0)) (some (f_Mesh_neighbours x1 (σ.2 1) (σ.1 3)), wd σ md) := by
  suffices hh : ∀ (r : Option Int32 × AW) (K : (Int32) → Prop), K = (fun o : Int32 => (some o, wd σ md) = r) → K (if (f_Mesh_isUp x1 (σ.2 1)) = 0 then (0 : Int32) else (((σ.1 3) x1.toNatClampNeg) &&& (σ.2 1))) → Ev none 9 (0, [some (vR 1), some (vI x1)], [], wd σ md, (0, 0)) r from hh _ _ rfl rfl
  intro r K hK k
  refine Ev.go (st' := (2, [some (vR 1), some (vI x1)], [vI x1, vR 1], wd σ md, (0, 0))) 2 rfl trivial ?_
  refine Ev.callI (a := 8) (As := [vR 1, vI x1]) [] (f_Mesh_isUp x1 (σ.2 1)) (wd σ md) rfl (e_Mesh_isUp_1 σ md x1) ?_
  refine Ev.go (st' := (if (f_Mesh_isUp x1 (σ.2 1)) = 0 then 22 else 8, [some (vR 1), some (vI x1)], [], wd σ md, (0, 0))) 1 rfl trivial ?_
  have kJ1 : Ev none 9 (23, [none, none], [vI (if (f_Mesh_isUp x1 (σ.2 1)) = 0 then (0 : Int32) else (((σ.1 3) x1.toNatClampNeg) &&& (σ.2 1)))], wd σ md, (0, 0)) r := by
    rw [hK] at k
    have k3 : (some (if (f_Mesh_isUp x1 (σ.2 1)) = 0 then (0 : Int32) else (((σ.1 3) x1.toNatClampNeg) &&& (σ.2 1))), wd σ md) = r := k
    rw [← k3]
    exact Ev.ireti rfl rfl
  refine Ev.br (fun h1 => ?_) (fun h1 => ?_)
  · refine Ev.go (st' := (23, [some (vR 1), some (vI x1)], [vI (0 : Int32)], wd σ md, (0, 0))) 1 rfl trivial ?_
    exact Ev.wk (Lle.n (Lle.n Lle.z)) (Ev.to kJ1 (by simp only [if_pos h1]))
  · refine Ev.go (st' := (23, [some (vR 1), some (vI x1)], [vI (((σ.1 3) x1.toNatClampNeg) &&& (σ.2 1))], wd σ md, (0, 0))) 8 rfl ⟨(hP.1.2 h1).1, trivial⟩ ?_
    exact Ev.wk (Lle.n (Lle.n Lle.z)) (Ev.to kJ1 (by simp only [if_neg h1]))

/-! OF MeshNames$Mesh.raise(II)V -/
noncomputable def f_Mesh_raise (x1 : Int32) (x2 : Int32) (names : Nat → Int32) (upSet : Int32) : (Nat → Int32) × Int32 := ((upd names x1.toNatClampNeg x2), (upSet ||| (f_C_bit x1)))
def P_Mesh_raise (x1 : Int32) (x2 : Int32) (names : Nat → Int32) (upSet : Int32) : Prop := vp_in x1 8 ∧ True
set_option maxRecDepth 8000 in
set_option maxHeartbeats 4000000 in
theorem e_Mesh_raise_1 (σ : Sg) (md : AW) (x1 x2 : Int32) (hP : P_Mesh_raise x1 x2 (σ.1 2) (σ.2 1))  : Ev none 22 (0, [some (vR 1), some (vI x1), some (vI x2)], [], wd σ md, (0, 0)) (none, wd (sA 2 (f_Mesh_raise x1 x2 (σ.1 2) (σ.2 1)).1 (sV 1 (f_Mesh_raise x1 x2 (σ.1 2) (σ.2 1)).2 σ)) md) := by
  suffices hh : ∀ (r : Option Int32 × AW) (K : ((Nat → Int32) × Int32) → Prop), K = (fun o : (Nat → Int32) × Int32 => (none, wd (sA 2 o.1 (sV 1 o.2 σ)) md) = r) → K ((upd (σ.1 2) x1.toNatClampNeg x2), ((σ.2 1) ||| (f_C_bit x1))) → Ev none 22 (0, [some (vR 1), some (vI x1), some (vI x2)], [], wd σ md, (0, 0)) r from hh _ _ rfl rfl
  intro r K hK k
  refine Ev.go (st' := (6, [some (vR 1), some (vI x1), some (vI x2)], [vI x1, vI (σ.2 1), vR 1], wd σ md, (0, 0))) 4 rfl trivial ?_
  refine Ev.callI (a := 5) (As := [vI x1]) [vI (σ.2 1), vR 1] (f_C_bit x1) (wd σ md) rfl (e_C_bit (wd σ md) x1) ?_
  refine Ev.go (st' := (20, [some (vR 1), some (vI x1), some (vI x2)], [], wd (sA 2 (upd (σ.1 2) x1.toNatClampNeg x2) (sV 1 ((σ.2 1) ||| (f_C_bit x1)) σ)) md, (0, 0))) 7 rfl ⟨hP.1, trivial⟩ ?_
  rw [hK] at k
  have k3 : (none, wd (sA 2 (upd (σ.1 2) x1.toNatClampNeg x2) (sV 1 ((σ.2 1) ||| (f_C_bit x1)) σ)) md) = r := k
  rw [← k3]
  exact Ev.retv rfl rfl

/-! OF MeshNames$Mesh.raise(II)V -/
noncomputable def f_Mesh_raise (x1 : Int32) (x2 : Int32) (names : Nat → Int32) (upSet : Int32) : (Nat → Int32) × Int32 := ((upd names x1.toNatClampNeg x2), (upSet ||| (f_C_bit x1)))
def P_Mesh_raise (x1 : Int32) (x2 : Int32) (names : Nat → Int32) (upSet : Int32) : Prop := vp_in x1 8 ∧ True
set_option maxRecDepth 8000 in
set_option maxHeartbeats 4000000 in
theorem e_Mesh_raise_1 (a2 a3 a5 a6 a7 a8 a9 a10 a11 a13 a15 a19 a20 a21 a22 a23 a24 a25 a26 a27 a30 a31 a32 a33 a34 a35 a36 a37 a38 : Nat → Int32) (v0 v1 v2 v3 v4 v5 v6 v7 v8 v9 v10 : Int32) (md : AW) (x1 x2 : Int32) (hP : P_Mesh_raise x1 x2 a2 v1)  : Ev none 22 (0, [some (vR 1), some (vI x1), some (vI x2)], [], wC a2 a3 a5 a6 a7 a8 a9 a10 a11 a13 a15 a19 a20 a21 a22 a23 a24 a25 a26 a27 a30 a31 a32 a33 a34 a35 a36 a37 a38 v0 v1 v2 v3 v4 v5 v6 v7 v8 v9 v10 md, (0, 0)) (none, wC (f_Mesh_raise x1 x2 a2 v1).1 a3 a5 a6 a7 a8 a9 a10 a11 a13 a15 a19 a20 a21 a22 a23 a24 a25 a26 a27 a30 a31 a32 a33 a34 a35 a36 a37 a38 v0 (f_Mesh_raise x1 x2 a2 v1).2 v2 v3 v4 v5 v6 v7 v8 v9 v10 md) := by
  suffices hh : ∀ (r : Option Int32 × AW) (K : ((Nat → Int32) × Int32) → Prop), K = (fun o : (Nat → Int32) × Int32 => (none, wC o.1 a3 a5 a6 a7 a8 a9 a10 a11 a13 a15 a19 a20 a21 a22 a23 a24 a25 a26 a27 a30 a31 a32 a33 a34 a35 a36 a37 a38 v0 o.2 v2 v3 v4 v5 v6 v7 v8 v9 v10 md) = r) → K ((upd a2 x1.toNatClampNeg x2), (v1 ||| (f_C_bit x1))) → Ev none 22 (0, [some (vR 1), some (vI x1), some (vI x2)], [], wC a2 a3 a5 a6 a7 a8 a9 a10 a11 a13 a15 a19 a20 a21 a22 a23 a24 a25 a26 a27 a30 a31 a32 a33 a34 a35 a36 a37 a38 v0 v1 v2 v3 v4 v5 v6 v7 v8 v9 v10 md, (0, 0)) r from hh _ _ rfl rfl
  intro r K hK k
  refine Ev.go (st' := (6, [some (vR 1), some (vI x1), some (vI x2)], [vI x1, vI v1, vR 1], wC a2 a3 a5 a6 a7 a8 a9 a10 a11 a13 a15 a19 a20 a21 a22 a23 a24 a25 a26 a27 a30 a31 a32 a33 a34 a35 a36 a37 a38 v0 v1 v2 v3 v4 v5 v6 v7 v8 v9 v10 md, (0, 0))) 4 rfl trivial ?_
  refine Ev.callI (a := 5) (As := [vI x1]) [vI v1, vR 1] (f_C_bit x1) (wC a2 a3 a5 a6 a7 a8 a9 a10 a11 a13 a15 a19 a20 a21 a22 a23 a24 a25 a26 a27 a30 a31 a32 a33 a34 a35 a36 a37 a38 v0 v1 v2 v3 v4 v5 v6 v7 v8 v9 v10 md) rfl (e_C_bit (wC a2 a3 a5 a6 a7 a8 a9 a10 a11 a13 a15 a19 a20 a21 a22 a23 a24 a25 a26 a27 a30 a31 a32 a33 a34 a35 a36 a37 a38 v0 v1 v2 v3 v4 v5 v6 v7 v8 v9 v10 md) x1) ?_
  refine Ev.go (st' := (13, [some (vR 1), some (vI x1), some (vI x2)], [], wC a2 a3 a5 a6 a7 a8 a9 a10 a11 a13 a15 a19 a20 a21 a22 a23 a24 a25 a26 a27 a30 a31 a32 a33 a34 a35 a36 a37 a38 v0 (v1 ||| (f_C_bit x1)) v2 v3 v4 v5 v6 v7 v8 v9 v10 md, (0, 0))) 2 rfl trivial ?_
  refine Ev.go (st' := (20, [some (vR 1), some (vI x1), some (vI x2)], [], wC (upd a2 x1.toNatClampNeg x2) a3 a5 a6 a7 a8 a9 a10 a11 a13 a15 a19 a20 a21 a22 a23 a24 a25 a26 a27 a30 a31 a32 a33 a34 a35 a36 a37 a38 v0 (v1 ||| (f_C_bit x1)) v2 v3 v4 v5 v6 v7 v8 v9 v10 md, (0, 0))) 5 rfl ⟨hP.1, trivial⟩ ?_
  rw [hK] at k
  have k3 : (none, wC (upd a2 x1.toNatClampNeg x2) a3 a5 a6 a7 a8 a9 a10 a11 a13 a15 a19 a20 a21 a22 a23 a24 a25 a26 a27 a30 a31 a32 a33 a34 a35 a36 a37 a38 v0 (v1 ||| (f_C_bit x1)) v2 v3 v4 v5 v6 v7 v8 v9 v10 md) = r := k
  rw [← k3]
  exact Ev.retv rfl rfl

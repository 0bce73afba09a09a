/-! OF MeshNames$Paths.placeOf(II)I -/
noncomputable def f_Paths_placeOf (x1 : Int32) (x2 : Int32) (places : Nat → Int32) : Int32 := (places ((x1 * (8 : Int32)) + x2).toNatClampNeg)
def P_Paths_placeOf (x1 : Int32) (x2 : Int32) (places : Nat → Int32) : Prop := vp_in ((x1 * (8 : Int32)) + x2) 64 ∧ True
set_option maxRecDepth 8000 in
set_option maxHeartbeats 4000000 in
theorem e_Paths_placeOf_4 (a2 a3 a5 a6 a7 a8 a9 a10 a11 a13 a15 a19 a20 a21 a22 a23 a24 a25 a26 a27 a30 a31 a32 a33 a34 a35 a36 a37 a38 : Nat → Int32) (v0 v1 v2 v3 v4 v5 v6 v7 v8 v9 v10 : Int32) (md : AW) (x1 x2 : Int32) (hP : P_Paths_placeOf x1 x2 a11)  : Ev none 41 (0, [some (vR 4), some (vI x1), some (vI x2)], [], wC a2 a3 a5 a6 a7 a8 a9 a10 a11 a13 a15 a19 a20 a21 a22 a23 a24 a25 a26 a27 a30 a31 a32 a33 a34 a35 a36 a37 a38 v0 v1 v2 v3 v4 v5 v6 v7 v8 v9 v10 md, (0, 0)) (some (f_Paths_placeOf x1 x2 a11), wC a2 a3 a5 a6 a7 a8 a9 a10 a11 a13 a15 a19 a20 a21 a22 a23 a24 a25 a26 a27 a30 a31 a32 a33 a34 a35 a36 a37 a38 v0 v1 v2 v3 v4 v5 v6 v7 v8 v9 v10 md) := by
  suffices hh : ∀ (r : Option Int32 × AW) (K : (Int32) → Prop), K = (fun o : Int32 => (some o, wC a2 a3 a5 a6 a7 a8 a9 a10 a11 a13 a15 a19 a20 a21 a22 a23 a24 a25 a26 a27 a30 a31 a32 a33 a34 a35 a36 a37 a38 v0 v1 v2 v3 v4 v5 v6 v7 v8 v9 v10 md) = r) → K (a11 ((x1 * (8 : Int32)) + x2).toNatClampNeg) → Ev none 41 (0, [some (vR 4), some (vI x1), some (vI x2)], [], wC a2 a3 a5 a6 a7 a8 a9 a10 a11 a13 a15 a19 a20 a21 a22 a23 a24 a25 a26 a27 a30 a31 a32 a33 a34 a35 a36 a37 a38 v0 v1 v2 v3 v4 v5 v6 v7 v8 v9 v10 md, (0, 0)) r from hh _ _ rfl rfl
  intro r K hK k
  refine Ev.go (st' := (11, [some (vR 4), some (vI x1), some (vI x2)], [vI (a11 ((x1 * (8 : Int32)) + x2).toNatClampNeg)], wC a2 a3 a5 a6 a7 a8 a9 a10 a11 a13 a15 a19 a20 a21 a22 a23 a24 a25 a26 a27 a30 a31 a32 a33 a34 a35 a36 a37 a38 v0 v1 v2 v3 v4 v5 v6 v7 v8 v9 v10 md, (0, 0))) 8 rfl ⟨hP.1, trivial⟩ ?_
  rw [hK] at k
  have k3 : (some (a11 ((x1 * (8 : Int32)) + x2).toNatClampNeg), wC a2 a3 a5 a6 a7 a8 a9 a10 a11 a13 a15 a19 a20 a21 a22 a23 a24 a25 a26 a27 a30 a31 a32 a33 a34 a35 a36 a37 a38 v0 v1 v2 v3 v4 v5 v6 v7 v8 v9 v10 md) = r := k
  rw [← k3]
  exact Ev.ireti rfl rfl

/-! OF MeshNames$Route.nodeAt(I)I -/
noncomputable def f_Route_nodeAt (x1 : Int32) (length : Int32) (row : Nat → Int32) : Int32 := (iF (x1 < 0) (-6 : Int32) (iF (length ≤ x1) (-6 : Int32) (row x1.toNatClampNeg)))
def P_Route_nodeAt (x1 : Int32) (length : Int32) (row : Nat → Int32) : Prop := ((x1 < 0 → True) ∧ (¬ (x1 < 0) → (((length ≤ x1 → True) ∧ (¬ (length ≤ x1) → (vp_in x1 8 ∧ True))) ∧ True))) ∧ True
set_option maxRecDepth 8000 in
set_option maxHeartbeats 4000000 in
theorem e_Route_nodeAt_12 (a2 a3 a5 a6 a7 a8 a9 a10 a11 a13 a15 a19 a20 a21 a22 a23 a24 a25 a26 a27 a30 a31 a32 a33 a34 a35 a36 a37 a38 : Nat → Int32) (v0 v1 v2 v3 v4 v5 v6 v7 v8 v9 v10 : Int32) (md : AW) (x1 : Int32) (hP : P_Route_nodeAt x1 v4 a13)  : Ev none 86 (0, [some (vR 12), some (vI x1)], [], wC a2 a3 a5 a6 a7 a8 a9 a10 a11 a13 a15 a19 a20 a21 a22 a23 a24 a25 a26 a27 a30 a31 a32 a33 a34 a35 a36 a37 a38 v0 v1 v2 v3 v4 v5 v6 v7 v8 v9 v10 md, (0, 0)) (some (f_Route_nodeAt x1 v4 a13), wC a2 a3 a5 a6 a7 a8 a9 a10 a11 a13 a15 a19 a20 a21 a22 a23 a24 a25 a26 a27 a30 a31 a32 a33 a34 a35 a36 a37 a38 v0 v1 v2 v3 v4 v5 v6 v7 v8 v9 v10 md) := by
  suffices hh : ∀ (r : Option Int32 × AW) (K : (Int32) → Prop), K = (fun o : Int32 => (some o, wC a2 a3 a5 a6 a7 a8 a9 a10 a11 a13 a15 a19 a20 a21 a22 a23 a24 a25 a26 a27 a30 a31 a32 a33 a34 a35 a36 a37 a38 v0 v1 v2 v3 v4 v5 v6 v7 v8 v9 v10 md) = r) → K (iF (x1 < 0) (-6 : Int32) (iF (v4 ≤ x1) (-6 : Int32) (a13 x1.toNatClampNeg))) → Ev none 86 (0, [some (vR 12), some (vI x1)], [], wC a2 a3 a5 a6 a7 a8 a9 a10 a11 a13 a15 a19 a20 a21 a22 a23 a24 a25 a26 a27 a30 a31 a32 a33 a34 a35 a36 a37 a38 v0 v1 v2 v3 v4 v5 v6 v7 v8 v9 v10 md, (0, 0)) r from hh _ _ rfl rfl
  intro r K hK k
  refine Ev.go (st' := (if x1 < 0 then 21 else 4, [some (vR 12), some (vI x1)], [], wC a2 a3 a5 a6 a7 a8 a9 a10 a11 a13 a15 a19 a20 a21 a22 a23 a24 a25 a26 a27 a30 a31 a32 a33 a34 a35 a36 a37 a38 v0 v1 v2 v3 v4 v5 v6 v7 v8 v9 v10 md, (0, 0))) 2 rfl trivial ?_
  have kJ1 : Ev none 86 (23, [none, none], [vI (iF (x1 < 0) (-6 : Int32) (iF (v4 ≤ x1) (-6 : Int32) (a13 x1.toNatClampNeg)))], wC a2 a3 a5 a6 a7 a8 a9 a10 a11 a13 a15 a19 a20 a21 a22 a23 a24 a25 a26 a27 a30 a31 a32 a33 a34 a35 a36 a37 a38 v0 v1 v2 v3 v4 v5 v6 v7 v8 v9 v10 md, (0, 0)) r := by
    rw [hK] at k
    have k3 : (some (iF (x1 < 0) (-6 : Int32) (iF (v4 ≤ x1) (-6 : Int32) (a13 x1.toNatClampNeg))), wC a2 a3 a5 a6 a7 a8 a9 a10 a11 a13 a15 a19 a20 a21 a22 a23 a24 a25 a26 a27 a30 a31 a32 a33 a34 a35 a36 a37 a38 v0 v1 v2 v3 v4 v5 v6 v7 v8 v9 v10 md) = r := k
    rw [← k3]
    exact Ev.ireti rfl rfl
  refine Ev.br (fun h1 => ?_) (fun h1 => ?_)
  · refine Ev.go (st' := (23, [some (vR 12), some (vI x1)], [vI (-6 : Int32)], wC a2 a3 a5 a6 a7 a8 a9 a10 a11 a13 a15 a19 a20 a21 a22 a23 a24 a25 a26 a27 a30 a31 a32 a33 a34 a35 a36 a37 a38 v0 v1 v2 v3 v4 v5 v6 v7 v8 v9 v10 md, (0, 0))) 1 rfl trivial ?_
    exact Ev.wk (Lle.n (Lle.n Lle.z)) (Ev.to kJ1 (by simp only [iF_pos h1]))
  · refine Ev.go (st' := (if v4 ≤ x1 then 21 else 12, [some (vR 12), some (vI x1)], [], wC a2 a3 a5 a6 a7 a8 a9 a10 a11 a13 a15 a19 a20 a21 a22 a23 a24 a25 a26 a27 a30 a31 a32 a33 a34 a35 a36 a37 a38 v0 v1 v2 v3 v4 v5 v6 v7 v8 v9 v10 md, (0, 0))) 4 rfl trivial ?_
    have kJ2 : Ev none 86 (23, [none, none], [vI (iF (v4 ≤ x1) (-6 : Int32) (a13 x1.toNatClampNeg))], wC a2 a3 a5 a6 a7 a8 a9 a10 a11 a13 a15 a19 a20 a21 a22 a23 a24 a25 a26 a27 a30 a31 a32 a33 a34 a35 a36 a37 a38 v0 v1 v2 v3 v4 v5 v6 v7 v8 v9 v10 md, (0, 0)) r := by
      exact Ev.wk (Lle.n (Lle.n Lle.z)) (Ev.to kJ1 (by simp only [iF_neg h1]))
    refine Ev.br (fun h2 => ?_) (fun h2 => ?_)
    · refine Ev.go (st' := (23, [some (vR 12), some (vI x1)], [vI (-6 : Int32)], wC a2 a3 a5 a6 a7 a8 a9 a10 a11 a13 a15 a19 a20 a21 a22 a23 a24 a25 a26 a27 a30 a31 a32 a33 a34 a35 a36 a37 a38 v0 v1 v2 v3 v4 v5 v6 v7 v8 v9 v10 md, (0, 0))) 1 rfl trivial ?_
      exact Ev.wk (Lle.n (Lle.n Lle.z)) (Ev.to kJ2 (by simp only [iF_pos h2]))
    · refine Ev.go (st' := (23, [some (vR 12), some (vI x1)], [vI (a13 x1.toNatClampNeg)], wC a2 a3 a5 a6 a7 a8 a9 a10 a11 a13 a15 a19 a20 a21 a22 a23 a24 a25 a26 a27 a30 a31 a32 a33 a34 a35 a36 a37 a38 v0 v1 v2 v3 v4 v5 v6 v7 v8 v9 v10 md, (0, 0))) 5 rfl ⟨((hP.1.2 h1).1.2 h2).1, trivial⟩ ?_
      exact Ev.wk (Lle.n (Lle.n Lle.z)) (Ev.to kJ2 (by simp only [iF_neg h2]))

/-! OF MeshNames$Paths.nodeAt(II)I -/
noncomputable def f_Paths_nodeAt (x1 : Int32) (x2 : Int32) (lengths : Nat → Int32) (rows : Nat → Int32) : Int32 := (iF (x2 < 0) (-6 : Int32) (iF ((lengths x1.toNatClampNeg) ≤ x2) (-6 : Int32) (rows ((x1 * (8 : Int32)) + x2).toNatClampNeg)))
def P_Paths_nodeAt (x1 : Int32) (x2 : Int32) (lengths : Nat → Int32) (rows : Nat → Int32) : Prop := ((x2 < 0 → True) ∧ (¬ (x2 < 0) → (vp_in x1 8 ∧ (((lengths x1.toNatClampNeg) ≤ x2 → True) ∧ (¬ ((lengths x1.toNatClampNeg) ≤ x2) → (vp_in ((x1 * (8 : Int32)) + x2) 64 ∧ True))) ∧ True))) ∧ True
set_option maxRecDepth 8000 in
set_option maxHeartbeats 4000000 in
theorem e_Paths_nodeAt_4 (a2 a3 a5 a6 a7 a8 a9 a10 a11 a13 a15 a19 a20 a21 a22 a23 a24 a25 a26 a27 a30 a31 a32 a33 a34 a35 a36 a37 a38 : Nat → Int32) (v0 v1 v2 v3 v4 v5 v6 v7 v8 v9 v10 : Int32) (md : AW) (x1 x2 : Int32) (hP : P_Paths_nodeAt x1 x2 a9 a10)  : Ev none 65 (0, [some (vR 4), some (vI x1), some (vI x2)], [], wC a2 a3 a5 a6 a7 a8 a9 a10 a11 a13 a15 a19 a20 a21 a22 a23 a24 a25 a26 a27 a30 a31 a32 a33 a34 a35 a36 a37 a38 v0 v1 v2 v3 v4 v5 v6 v7 v8 v9 v10 md, (0, 0)) (some (f_Paths_nodeAt x1 x2 a9 a10), wC a2 a3 a5 a6 a7 a8 a9 a10 a11 a13 a15 a19 a20 a21 a22 a23 a24 a25 a26 a27 a30 a31 a32 a33 a34 a35 a36 a37 a38 v0 v1 v2 v3 v4 v5 v6 v7 v8 v9 v10 md) := by
  suffices hh : ∀ (r : Option Int32 × AW) (K : (Int32) → Prop), K = (fun o : Int32 => (some o, wC a2 a3 a5 a6 a7 a8 a9 a10 a11 a13 a15 a19 a20 a21 a22 a23 a24 a25 a26 a27 a30 a31 a32 a33 a34 a35 a36 a37 a38 v0 v1 v2 v3 v4 v5 v6 v7 v8 v9 v10 md) = r) → K (iF (x2 < 0) (-6 : Int32) (iF ((a9 x1.toNatClampNeg) ≤ x2) (-6 : Int32) (a10 ((x1 * (8 : Int32)) + x2).toNatClampNeg))) → Ev none 65 (0, [some (vR 4), some (vI x1), some (vI x2)], [], wC a2 a3 a5 a6 a7 a8 a9 a10 a11 a13 a15 a19 a20 a21 a22 a23 a24 a25 a26 a27 a30 a31 a32 a33 a34 a35 a36 a37 a38 v0 v1 v2 v3 v4 v5 v6 v7 v8 v9 v10 md, (0, 0)) r from hh _ _ rfl rfl
  intro r K hK k
  refine Ev.go (st' := (if x2 < 0 then 28 else 4, [some (vR 4), some (vI x1), some (vI x2)], [], wC a2 a3 a5 a6 a7 a8 a9 a10 a11 a13 a15 a19 a20 a21 a22 a23 a24 a25 a26 a27 a30 a31 a32 a33 a34 a35 a36 a37 a38 v0 v1 v2 v3 v4 v5 v6 v7 v8 v9 v10 md, (0, 0))) 2 rfl trivial ?_
  have kJ1 : Ev none 65 (30, [none, none, none], [vI (iF (x2 < 0) (-6 : Int32) (iF ((a9 x1.toNatClampNeg) ≤ x2) (-6 : Int32) (a10 ((x1 * (8 : Int32)) + x2).toNatClampNeg)))], wC a2 a3 a5 a6 a7 a8 a9 a10 a11 a13 a15 a19 a20 a21 a22 a23 a24 a25 a26 a27 a30 a31 a32 a33 a34 a35 a36 a37 a38 v0 v1 v2 v3 v4 v5 v6 v7 v8 v9 v10 md, (0, 0)) r := by
    rw [hK] at k
    have k3 : (some (iF (x2 < 0) (-6 : Int32) (iF ((a9 x1.toNatClampNeg) ≤ x2) (-6 : Int32) (a10 ((x1 * (8 : Int32)) + x2).toNatClampNeg))), wC a2 a3 a5 a6 a7 a8 a9 a10 a11 a13 a15 a19 a20 a21 a22 a23 a24 a25 a26 a27 a30 a31 a32 a33 a34 a35 a36 a37 a38 v0 v1 v2 v3 v4 v5 v6 v7 v8 v9 v10 md) = r := k
    rw [← k3]
    exact Ev.ireti rfl rfl
  refine Ev.br (fun h1 => ?_) (fun h1 => ?_)
  · refine Ev.go (st' := (30, [some (vR 4), some (vI x1), some (vI x2)], [vI (-6 : Int32)], wC a2 a3 a5 a6 a7 a8 a9 a10 a11 a13 a15 a19 a20 a21 a22 a23 a24 a25 a26 a27 a30 a31 a32 a33 a34 a35 a36 a37 a38 v0 v1 v2 v3 v4 v5 v6 v7 v8 v9 v10 md, (0, 0))) 1 rfl trivial ?_
    exact Ev.wk (Lle.n (Lle.n (Lle.n Lle.z))) (Ev.to kJ1 (by simp only [iF_pos h1]))
  · refine Ev.go (st' := (if (a9 x1.toNatClampNeg) ≤ x2 then 28 else 14, [some (vR 4), some (vI x1), some (vI x2)], [], wC a2 a3 a5 a6 a7 a8 a9 a10 a11 a13 a15 a19 a20 a21 a22 a23 a24 a25 a26 a27 a30 a31 a32 a33 a34 a35 a36 a37 a38 v0 v1 v2 v3 v4 v5 v6 v7 v8 v9 v10 md, (0, 0))) 6 rfl ⟨(hP.1.2 h1).1, trivial⟩ ?_
    have kJ2 : Ev none 65 (30, [none, none, none], [vI (iF ((a9 x1.toNatClampNeg) ≤ x2) (-6 : Int32) (a10 ((x1 * (8 : Int32)) + x2).toNatClampNeg))], wC a2 a3 a5 a6 a7 a8 a9 a10 a11 a13 a15 a19 a20 a21 a22 a23 a24 a25 a26 a27 a30 a31 a32 a33 a34 a35 a36 a37 a38 v0 v1 v2 v3 v4 v5 v6 v7 v8 v9 v10 md, (0, 0)) r := by
      exact Ev.wk (Lle.n (Lle.n (Lle.n Lle.z))) (Ev.to kJ1 (by simp only [iF_neg h1]))
    refine Ev.br (fun h2 => ?_) (fun h2 => ?_)
    · refine Ev.go (st' := (30, [some (vR 4), some (vI x1), some (vI x2)], [vI (-6 : Int32)], wC a2 a3 a5 a6 a7 a8 a9 a10 a11 a13 a15 a19 a20 a21 a22 a23 a24 a25 a26 a27 a30 a31 a32 a33 a34 a35 a36 a37 a38 v0 v1 v2 v3 v4 v5 v6 v7 v8 v9 v10 md, (0, 0))) 1 rfl trivial ?_
      exact Ev.wk (Lle.n (Lle.n (Lle.n Lle.z))) (Ev.to kJ2 (by simp only [iF_pos h2]))
    · refine Ev.go (st' := (30, [some (vR 4), some (vI x1), some (vI x2)], [vI (a10 ((x1 * (8 : Int32)) + x2).toNatClampNeg)], wC a2 a3 a5 a6 a7 a8 a9 a10 a11 a13 a15 a19 a20 a21 a22 a23 a24 a25 a26 a27 a30 a31 a32 a33 a34 a35 a36 a37 a38 v0 v1 v2 v3 v4 v5 v6 v7 v8 v9 v10 md, (0, 0))) 9 rfl ⟨((hP.1.2 h1).2.1.2 h2).1, trivial⟩ ?_
      exact Ev.wk (Lle.n (Lle.n (Lle.n Lle.z))) (Ev.to kJ2 (by simp only [iF_neg h2]))

/-! OF MeshNames.torn(II)I -/
noncomputable def f_C_torn (x1 : Int32) (x2 : Int32) (upSet : Int32) (links : Nat → Int32) (places : Nat → Int32) : Int32 := (iF ((f_C_isNode x1) = 0) (-1 : Int32) (iF ((f_C_isNode x2) = 0) (-1 : Int32) (iF (x1 = x2) (-2 : Int32) (iF ((f_Mesh_countsBetween x1 x2 upSet links) = 0) (-5 : Int32) (f_Paths_laidAlong x1 x2 places)))))
def P_C_torn (x1 : Int32) (x2 : Int32) (upSet : Int32) (links : Nat → Int32) (places : Nat → Int32) : Prop := (((f_C_isNode x1) = 0 → True) ∧ (¬ ((f_C_isNode x1) = 0) → ((((f_C_isNode x2) = 0 → True) ∧ (¬ ((f_C_isNode x2) = 0) → (((x1 = x2 → True) ∧ (¬ (x1 = x2) → ((P_Mesh_countsBetween x1 x2 upSet links) ∧ (((f_Mesh_countsBetween x1 x2 upSet links) = 0 → True) ∧ (¬ ((f_Mesh_countsBetween x1 x2 upSet links) = 0) → ((P_Paths_laidAlong x1 x2 places) ∧ True))) ∧ True))) ∧ True))) ∧ True))) ∧ True
set_option maxRecDepth 8000 in
set_option maxHeartbeats 4000000 in
theorem e_C_torn_0 (a2 a3 a5 a6 a7 a8 a9 a10 a11 a13 a15 a19 a20 a21 a22 a23 a24 a25 a26 a27 a30 a31 a32 a33 a34 a35 a36 a37 a38 : Nat → Int32) (v0 v1 v2 v3 v4 v5 v6 v7 v8 v9 v10 : Int32) (md : AW) (x1 x2 : Int32) (hP : P_C_torn x1 x2 v1 a3 a11)  : Ev none 109 (0, [some (vR 0), some (vI x1), some (vI x2)], [], wC a2 a3 a5 a6 a7 a8 a9 a10 a11 a13 a15 a19 a20 a21 a22 a23 a24 a25 a26 a27 a30 a31 a32 a33 a34 a35 a36 a37 a38 v0 v1 v2 v3 v4 v5 v6 v7 v8 v9 v10 md, (0, 0)) (some (f_C_torn x1 x2 v1 a3 a11), wC a2 a3 a5 a6 a7 a8 a9 a10 a11 a13 a15 a19 a20 a21 a22 a23 a24 a25 a26 a27 a30 a31 a32 a33 a34 a35 a36 a37 a38 v0 v1 v2 v3 v4 v5 v6 v7 v8 v9 v10 md) := by
  suffices hh : ∀ (r : Option Int32 × AW) (K : (Int32) → Prop), K = (fun o : Int32 => (some o, wC a2 a3 a5 a6 a7 a8 a9 a10 a11 a13 a15 a19 a20 a21 a22 a23 a24 a25 a26 a27 a30 a31 a32 a33 a34 a35 a36 a37 a38 v0 v1 v2 v3 v4 v5 v6 v7 v8 v9 v10 md) = r) → K (iF ((f_C_isNode x1) = 0) (-1 : Int32) (iF ((f_C_isNode x2) = 0) (-1 : Int32) (iF (x1 = x2) (-2 : Int32) (iF ((f_Mesh_countsBetween x1 x2 v1 a3) = 0) (-5 : Int32) (f_Paths_laidAlong x1 x2 a11))))) → Ev none 109 (0, [some (vR 0), some (vI x1), some (vI x2)], [], wC a2 a3 a5 a6 a7 a8 a9 a10 a11 a13 a15 a19 a20 a21 a22 a23 a24 a25 a26 a27 a30 a31 a32 a33 a34 a35 a36 a37 a38 v0 v1 v2 v3 v4 v5 v6 v7 v8 v9 v10 md, (0, 0)) r from hh _ _ rfl rfl
  intro r K hK k
  refine Ev.go (st' := (1, [some (vR 0), some (vI x1), some (vI x2)], [vI x1], wC a2 a3 a5 a6 a7 a8 a9 a10 a11 a13 a15 a19 a20 a21 a22 a23 a24 a25 a26 a27 a30 a31 a32 a33 a34 a35 a36 a37 a38 v0 v1 v2 v3 v4 v5 v6 v7 v8 v9 v10 md, (0, 0))) 1 rfl trivial ?_
  refine Ev.callI (a := 14) (As := [vI x1]) [] (f_C_isNode x1) (wC a2 a3 a5 a6 a7 a8 a9 a10 a11 a13 a15 a19 a20 a21 a22 a23 a24 a25 a26 a27 a30 a31 a32 a33 a34 a35 a36 a37 a38 v0 v1 v2 v3 v4 v5 v6 v7 v8 v9 v10 md) rfl (e_C_isNode (wC a2 a3 a5 a6 a7 a8 a9 a10 a11 a13 a15 a19 a20 a21 a22 a23 a24 a25 a26 a27 a30 a31 a32 a33 a34 a35 a36 a37 a38 v0 v1 v2 v3 v4 v5 v6 v7 v8 v9 v10 md) x1) ?_
  refine Ev.go (st' := (if (f_C_isNode x1) = 0 then 14 else 7, [some (vR 0), some (vI x1), some (vI x2)], [], wC a2 a3 a5 a6 a7 a8 a9 a10 a11 a13 a15 a19 a20 a21 a22 a23 a24 a25 a26 a27 a30 a31 a32 a33 a34 a35 a36 a37 a38 v0 v1 v2 v3 v4 v5 v6 v7 v8 v9 v10 md, (0, 0))) 1 rfl trivial ?_
  refine Ev.brK (K := K) k (fun h1 k => ?_) (fun h1 k => ?_)
  · refine Ev.go (st' := (15, [some (vR 0), some (vI x1), some (vI x2)], [vI (-1 : Int32)], wC a2 a3 a5 a6 a7 a8 a9 a10 a11 a13 a15 a19 a20 a21 a22 a23 a24 a25 a26 a27 a30 a31 a32 a33 a34 a35 a36 a37 a38 v0 v1 v2 v3 v4 v5 v6 v7 v8 v9 v10 md, (0, 0))) 1 rfl trivial ?_
    rw [hK] at k
    have k3 : (some (-1 : Int32), wC a2 a3 a5 a6 a7 a8 a9 a10 a11 a13 a15 a19 a20 a21 a22 a23 a24 a25 a26 a27 a30 a31 a32 a33 a34 a35 a36 a37 a38 v0 v1 v2 v3 v4 v5 v6 v7 v8 v9 v10 md) = r := k
    rw [← k3]
    exact Ev.ireti rfl rfl
  · refine Ev.go (st' := (8, [some (vR 0), some (vI x1), some (vI x2)], [vI x2], wC a2 a3 a5 a6 a7 a8 a9 a10 a11 a13 a15 a19 a20 a21 a22 a23 a24 a25 a26 a27 a30 a31 a32 a33 a34 a35 a36 a37 a38 v0 v1 v2 v3 v4 v5 v6 v7 v8 v9 v10 md, (0, 0))) 1 rfl trivial ?_
    refine Ev.callI (a := 14) (As := [vI x2]) [] (f_C_isNode x2) (wC a2 a3 a5 a6 a7 a8 a9 a10 a11 a13 a15 a19 a20 a21 a22 a23 a24 a25 a26 a27 a30 a31 a32 a33 a34 a35 a36 a37 a38 v0 v1 v2 v3 v4 v5 v6 v7 v8 v9 v10 md) rfl (e_C_isNode (wC a2 a3 a5 a6 a7 a8 a9 a10 a11 a13 a15 a19 a20 a21 a22 a23 a24 a25 a26 a27 a30 a31 a32 a33 a34 a35 a36 a37 a38 v0 v1 v2 v3 v4 v5 v6 v7 v8 v9 v10 md) x2) ?_
    refine Ev.go (st' := (if (f_C_isNode x2) = 0 then 14 else 16, [some (vR 0), some (vI x1), some (vI x2)], [], wC a2 a3 a5 a6 a7 a8 a9 a10 a11 a13 a15 a19 a20 a21 a22 a23 a24 a25 a26 a27 a30 a31 a32 a33 a34 a35 a36 a37 a38 v0 v1 v2 v3 v4 v5 v6 v7 v8 v9 v10 md, (0, 0))) 1 rfl trivial ?_
    refine Ev.brK (K := K) k (fun h2 k => ?_) (fun h2 k => ?_)
    · refine Ev.go (st' := (15, [some (vR 0), some (vI x1), some (vI x2)], [vI (-1 : Int32)], wC a2 a3 a5 a6 a7 a8 a9 a10 a11 a13 a15 a19 a20 a21 a22 a23 a24 a25 a26 a27 a30 a31 a32 a33 a34 a35 a36 a37 a38 v0 v1 v2 v3 v4 v5 v6 v7 v8 v9 v10 md, (0, 0))) 1 rfl trivial ?_
      rw [hK] at k
      have k3 : (some (-1 : Int32), wC a2 a3 a5 a6 a7 a8 a9 a10 a11 a13 a15 a19 a20 a21 a22 a23 a24 a25 a26 a27 a30 a31 a32 a33 a34 a35 a36 a37 a38 v0 v1 v2 v3 v4 v5 v6 v7 v8 v9 v10 md) = r := k
      rw [← k3]
      exact Ev.ireti rfl rfl
    · refine Ev.go (st' := (if x1 = x2 then 21 else 24, [some (vR 0), some (vI x1), some (vI x2)], [], wC a2 a3 a5 a6 a7 a8 a9 a10 a11 a13 a15 a19 a20 a21 a22 a23 a24 a25 a26 a27 a30 a31 a32 a33 a34 a35 a36 a37 a38 v0 v1 v2 v3 v4 v5 v6 v7 v8 v9 v10 md, (0, 0))) 3 rfl trivial ?_
      refine Ev.brK (K := K) k (fun h3 k => ?_) (fun h3 k => ?_)
      · refine Ev.go (st' := (23, [some (vR 0), some (vI x1), some (vI x2)], [vI (-2 : Int32)], wC a2 a3 a5 a6 a7 a8 a9 a10 a11 a13 a15 a19 a20 a21 a22 a23 a24 a25 a26 a27 a30 a31 a32 a33 a34 a35 a36 a37 a38 v0 v1 v2 v3 v4 v5 v6 v7 v8 v9 v10 md, (0, 0))) 1 rfl trivial ?_
        rw [hK] at k
        have k3 : (some (-2 : Int32), wC a2 a3 a5 a6 a7 a8 a9 a10 a11 a13 a15 a19 a20 a21 a22 a23 a24 a25 a26 a27 a30 a31 a32 a33 a34 a35 a36 a37 a38 v0 v1 v2 v3 v4 v5 v6 v7 v8 v9 v10 md) = r := k
        rw [← k3]
        exact Ev.ireti rfl rfl
      · refine Ev.go (st' := (30, [some (vR 0), some (vI x1), some (vI x2)], [vI x2, vI x1, vR 1], wC a2 a3 a5 a6 a7 a8 a9 a10 a11 a13 a15 a19 a20 a21 a22 a23 a24 a25 a26 a27 a30 a31 a32 a33 a34 a35 a36 a37 a38 v0 v1 v2 v3 v4 v5 v6 v7 v8 v9 v10 md, (0, 0))) 4 rfl trivial ?_
        refine Ev.callI (a := 107) (As := [vR 1, vI x1, vI x2]) [] (f_Mesh_countsBetween x1 x2 v1 a3) (wC a2 a3 a5 a6 a7 a8 a9 a10 a11 a13 a15 a19 a20 a21 a22 a23 a24 a25 a26 a27 a30 a31 a32 a33 a34 a35 a36 a37 a38 v0 v1 v2 v3 v4 v5 v6 v7 v8 v9 v10 md) rfl (e_Mesh_countsBetween_1 a2 a3 a5 a6 a7 a8 a9 a10 a11 a13 a15 a19 a20 a21 a22 a23 a24 a25 a26 a27 a30 a31 a32 a33 a34 a35 a36 a37 a38 v0 v1 v2 v3 v4 v5 v6 v7 v8 v9 v10 md x1 x2 (((hP.1.2 h1).1.2 h2).1.2 h3).1) ?_
        refine Ev.go (st' := (if (f_Mesh_countsBetween x1 x2 v1 a3) = 0 then 36 else 39, [some (vR 0), some (vI x1), some (vI x2)], [], wC a2 a3 a5 a6 a7 a8 a9 a10 a11 a13 a15 a19 a20 a21 a22 a23 a24 a25 a26 a27 a30 a31 a32 a33 a34 a35 a36 a37 a38 v0 v1 v2 v3 v4 v5 v6 v7 v8 v9 v10 md, (0, 0))) 1 rfl trivial ?_
        refine Ev.brK (K := K) k (fun h4 k => ?_) (fun h4 k => ?_)
        · refine Ev.go (st' := (38, [some (vR 0), some (vI x1), some (vI x2)], [vI (-5 : Int32)], wC a2 a3 a5 a6 a7 a8 a9 a10 a11 a13 a15 a19 a20 a21 a22 a23 a24 a25 a26 a27 a30 a31 a32 a33 a34 a35 a36 a37 a38 v0 v1 v2 v3 v4 v5 v6 v7 v8 v9 v10 md, (0, 0))) 1 rfl trivial ?_
          rw [hK] at k
          have k3 : (some (-5 : Int32), wC a2 a3 a5 a6 a7 a8 a9 a10 a11 a13 a15 a19 a20 a21 a22 a23 a24 a25 a26 a27 a30 a31 a32 a33 a34 a35 a36 a37 a38 v0 v1 v2 v3 v4 v5 v6 v7 v8 v9 v10 md) = r := k
          rw [← k3]
          exact Ev.ireti rfl rfl
        · refine Ev.go (st' := (45, [some (vR 0), some (vI x1), some (vI x2)], [vI x2, vI x1, vR 4], wC a2 a3 a5 a6 a7 a8 a9 a10 a11 a13 a15 a19 a20 a21 a22 a23 a24 a25 a26 a27 a30 a31 a32 a33 a34 a35 a36 a37 a38 v0 v1 v2 v3 v4 v5 v6 v7 v8 v9 v10 md, (0, 0))) 4 rfl trivial ?_
          refine Ev.callI (a := 108) (As := [vR 4, vI x1, vI x2]) [] (f_Paths_laidAlong x1 x2 a11) (wC a2 a3 a5 a6 a7 a8 a9 a10 a11 a13 a15 a19 a20 a21 a22 a23 a24 a25 a26 a27 a30 a31 a32 a33 a34 a35 a36 a37 a38 v0 v1 v2 v3 v4 v5 v6 v7 v8 v9 v10 md) rfl (e_Paths_laidAlong_4 a2 a3 a5 a6 a7 a8 a9 a10 a11 a13 a15 a19 a20 a21 a22 a23 a24 a25 a26 a27 a30 a31 a32 a33 a34 a35 a36 a37 a38 v0 v1 v2 v3 v4 v5 v6 v7 v8 v9 v10 md x1 x2 ((((hP.1.2 h1).1.2 h2).1.2 h3).2.1.2 h4).1) ?_
          rw [hK] at k
          have k3 : (some (f_Paths_laidAlong x1 x2 a11), wC a2 a3 a5 a6 a7 a8 a9 a10 a11 a13 a15 a19 a20 a21 a22 a23 a24 a25 a26 a27 a30 a31 a32 a33 a34 a35 a36 a37 a38 v0 v1 v2 v3 v4 v5 v6 v7 v8 v9 v10 md) = r := k
          rw [← k3]
          exact Ev.ireti rfl rfl

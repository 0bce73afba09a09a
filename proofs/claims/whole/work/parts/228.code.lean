/-! OF MeshNames.count(I)I -/
noncomputable def f_C_count (x1 : Int32) (upSet : Int32) (links : Nat → Int32) (parts : Nat → Int32) (lengths : Nat → Int32) (keptImages : Int32) : Int32 := (iF (x1 = (0 : Int32)) (f_J_bitCount upSet) (iF (x1 = (1 : Int32)) (f_Mesh_countLinks links) (iF (x1 = (2 : Int32)) (f_Mesh_countLinksThatCount upSet links) (iF (x1 = (3 : Int32)) (f_Paths_countParts upSet parts) (iF (x1 = (4 : Int32)) (f_Paths_countPaths lengths) (iF (x1 = (5 : Int32)) (f_Paths_countNodesOfPaths lengths) (iF (x1 = (6 : Int32)) upSet (iF (x1 = (7 : Int32)) keptImages (-2 : Int32)))))))))
def P_C_count (x1 : Int32) (upSet : Int32) (links : Nat → Int32) (parts : Nat → Int32) (lengths : Nat → Int32) (keptImages : Int32) : Prop := ((x1 = (0 : Int32) → True) ∧ (¬ (x1 = (0 : Int32)) → (((x1 = (1 : Int32) → True) ∧ (¬ (x1 = (1 : Int32)) → (((x1 = (2 : Int32) → ((P_Mesh_countLinksThatCount upSet links) ∧ True)) ∧ (¬ (x1 = (2 : Int32)) → (((x1 = (3 : Int32) → True) ∧ (¬ (x1 = (3 : Int32)) → (((x1 = (4 : Int32) → ((P_Paths_countPaths lengths) ∧ True)) ∧ (¬ (x1 = (4 : Int32)) → True)) ∧ True))) ∧ True))) ∧ True))) ∧ True))) ∧ True
set_option maxRecDepth 8000 in
set_option maxHeartbeats 4000000 in
theorem e_C_count_0 (a2 a3 a5 a6 a7 a8 a9 a10 a11 a13 a15 a19 a20 a21 a22 a23 a24 a25 a26 a27 a30 a31 a32 a33 a34 a35 a36 a37 a38 : Nat → Int32) (v0 v1 v2 v3 v4 v5 v6 v7 v8 v9 v10 : Int32) (md : AW) (x1 : Int32) (hP : P_C_count x1 v1 a3 a5 a9 v0)  : Ev none 134 (0, [some (vR 0), some (vI x1)], [], wC a2 a3 a5 a6 a7 a8 a9 a10 a11 a13 a15 a19 a20 a21 a22 a23 a24 a25 a26 a27 a30 a31 a32 a33 a34 a35 a36 a37 a38 v0 v1 v2 v3 v4 v5 v6 v7 v8 v9 v10 md, (0, 0)) (some (f_C_count x1 v1 a3 a5 a9 v0), wC a2 a3 a5 a6 a7 a8 a9 a10 a11 a13 a15 a19 a20 a21 a22 a23 a24 a25 a26 a27 a30 a31 a32 a33 a34 a35 a36 a37 a38 v0 v1 v2 v3 v4 v5 v6 v7 v8 v9 v10 md) := by
  suffices hh : ∀ (r : Option Int32 × AW) (K : (Int32) → Prop), K = (fun o : Int32 => (some o, wC a2 a3 a5 a6 a7 a8 a9 a10 a11 a13 a15 a19 a20 a21 a22 a23 a24 a25 a26 a27 a30 a31 a32 a33 a34 a35 a36 a37 a38 v0 v1 v2 v3 v4 v5 v6 v7 v8 v9 v10 md) = r) → K (iF (x1 = (0 : Int32)) (f_J_bitCount v1) (iF (x1 = (1 : Int32)) (f_Mesh_countLinks a3) (iF (x1 = (2 : Int32)) (f_Mesh_countLinksThatCount v1 a3) (iF (x1 = (3 : Int32)) (f_Paths_countParts v1 a5) (iF (x1 = (4 : Int32)) (f_Paths_countPaths a9) (iF (x1 = (5 : Int32)) (f_Paths_countNodesOfPaths a9) (iF (x1 = (6 : Int32)) v1 (iF (x1 = (7 : Int32)) v0 (-2 : Int32))))))))) → Ev none 134 (0, [some (vR 0), some (vI x1)], [], wC a2 a3 a5 a6 a7 a8 a9 a10 a11 a13 a15 a19 a20 a21 a22 a23 a24 a25 a26 a27 a30 a31 a32 a33 a34 a35 a36 a37 a38 v0 v1 v2 v3 v4 v5 v6 v7 v8 v9 v10 md, (0, 0)) r from hh _ _ rfl rfl
  intro r K hK k
  refine Ev.go (st' := (s_sw x1 0 [48, 59, 67, 75, 83, 91, 99, 107] 112, [some (vR 0), some (vI x1)], [], wC a2 a3 a5 a6 a7 a8 a9 a10 a11 a13 a15 a19 a20 a21 a22 a23 a24 a25 a26 a27 a30 a31 a32 a33 a34 a35 a36 a37 a38 v0 v1 v2 v3 v4 v5 v6 v7 v8 v9 v10 md, (0, 0))) 2 rfl trivial ?_
  refine Ev.swK (K := K) (0 : Int32) rfl k (fun h1 k => ?_) (fun h1 k => ?_)
  · refine Ev.go (st' := (55, [some (vR 0), some (vI x1)], [vI v1], wC a2 a3 a5 a6 a7 a8 a9 a10 a11 a13 a15 a19 a20 a21 a22 a23 a24 a25 a26 a27 a30 a31 a32 a33 a34 a35 a36 a37 a38 v0 v1 v2 v3 v4 v5 v6 v7 v8 v9 v10 md, (0, 0))) 3 rfl trivial ?_
    refine Ev.callI (a := 23) (As := [vI v1]) [] (f_J_bitCount v1) (wC a2 a3 a5 a6 a7 a8 a9 a10 a11 a13 a15 a19 a20 a21 a22 a23 a24 a25 a26 a27 a30 a31 a32 a33 a34 a35 a36 a37 a38 v0 v1 v2 v3 v4 v5 v6 v7 v8 v9 v10 md) rfl (e_J_bitCount (wC a2 a3 a5 a6 a7 a8 a9 a10 a11 a13 a15 a19 a20 a21 a22 a23 a24 a25 a26 a27 a30 a31 a32 a33 a34 a35 a36 a37 a38 v0 v1 v2 v3 v4 v5 v6 v7 v8 v9 v10 md) v1) ?_
    rw [hK] at k
    have k3 : (some (f_J_bitCount v1), wC a2 a3 a5 a6 a7 a8 a9 a10 a11 a13 a15 a19 a20 a21 a22 a23 a24 a25 a26 a27 a30 a31 a32 a33 a34 a35 a36 a37 a38 v0 v1 v2 v3 v4 v5 v6 v7 v8 v9 v10 md) = r := k
    rw [← k3]
    exact Ev.ireti rfl rfl
  refine Ev.swK (K := K) (1 : Int32) rfl k (fun h2 k => ?_) (fun h2 k => ?_)
  · refine Ev.go (st' := (63, [some (vR 0), some (vI x1)], [vR 1], wC a2 a3 a5 a6 a7 a8 a9 a10 a11 a13 a15 a19 a20 a21 a22 a23 a24 a25 a26 a27 a30 a31 a32 a33 a34 a35 a36 a37 a38 v0 v1 v2 v3 v4 v5 v6 v7 v8 v9 v10 md, (0, 0))) 2 rfl trivial ?_
    refine Ev.callI (a := 36) (As := [vR 1]) [] (f_Mesh_countLinks a3) (wC a2 a3 a5 a6 a7 a8 a9 a10 a11 a13 a15 a19 a20 a21 a22 a23 a24 a25 a26 a27 a30 a31 a32 a33 a34 a35 a36 a37 a38 v0 v1 v2 v3 v4 v5 v6 v7 v8 v9 v10 md) rfl (e_Mesh_countLinks_1 a2 a3 a5 a6 a7 a8 a9 a10 a11 a13 a15 a19 a20 a21 a22 a23 a24 a25 a26 a27 a30 a31 a32 a33 a34 a35 a36 a37 a38 v0 v1 v2 v3 v4 v5 v6 v7 v8 v9 v10 md) ?_
    rw [hK] at k
    have k3 : (some (f_Mesh_countLinks a3), wC a2 a3 a5 a6 a7 a8 a9 a10 a11 a13 a15 a19 a20 a21 a22 a23 a24 a25 a26 a27 a30 a31 a32 a33 a34 a35 a36 a37 a38 v0 v1 v2 v3 v4 v5 v6 v7 v8 v9 v10 md) = r := k
    rw [← k3]
    exact Ev.ireti rfl rfl
  refine Ev.swK (K := K) (2 : Int32) rfl k (fun h3 k => ?_) (fun h3 k => ?_)
  · refine Ev.go (st' := (71, [some (vR 0), some (vI x1)], [vR 1], wC a2 a3 a5 a6 a7 a8 a9 a10 a11 a13 a15 a19 a20 a21 a22 a23 a24 a25 a26 a27 a30 a31 a32 a33 a34 a35 a36 a37 a38 v0 v1 v2 v3 v4 v5 v6 v7 v8 v9 v10 md, (0, 0))) 2 rfl trivial ?_
    refine Ev.callI (a := 130) (As := [vR 1]) [] (f_Mesh_countLinksThatCount v1 a3) (wC a2 a3 a5 a6 a7 a8 a9 a10 a11 a13 a15 a19 a20 a21 a22 a23 a24 a25 a26 a27 a30 a31 a32 a33 a34 a35 a36 a37 a38 v0 v1 v2 v3 v4 v5 v6 v7 v8 v9 v10 md) rfl (e_Mesh_countLinksThatCount_1 a2 a3 a5 a6 a7 a8 a9 a10 a11 a13 a15 a19 a20 a21 a22 a23 a24 a25 a26 a27 a30 a31 a32 a33 a34 a35 a36 a37 a38 v0 v1 v2 v3 v4 v5 v6 v7 v8 v9 v10 md (((hP.1.2 h1).1.2 h2).1.1 h3).1) ?_
    rw [hK] at k
    have k3 : (some (f_Mesh_countLinksThatCount v1 a3), wC a2 a3 a5 a6 a7 a8 a9 a10 a11 a13 a15 a19 a20 a21 a22 a23 a24 a25 a26 a27 a30 a31 a32 a33 a34 a35 a36 a37 a38 v0 v1 v2 v3 v4 v5 v6 v7 v8 v9 v10 md) = r := k
    rw [← k3]
    exact Ev.ireti rfl rfl
  refine Ev.swK (K := K) (3 : Int32) rfl k (fun h4 k => ?_) (fun h4 k => ?_)
  · refine Ev.go (st' := (79, [some (vR 0), some (vI x1)], [vR 4], wC a2 a3 a5 a6 a7 a8 a9 a10 a11 a13 a15 a19 a20 a21 a22 a23 a24 a25 a26 a27 a30 a31 a32 a33 a34 a35 a36 a37 a38 v0 v1 v2 v3 v4 v5 v6 v7 v8 v9 v10 md, (0, 0))) 2 rfl trivial ?_
    refine Ev.callI (a := 131) (As := [vR 4]) [] (f_Paths_countParts v1 a5) (wC a2 a3 a5 a6 a7 a8 a9 a10 a11 a13 a15 a19 a20 a21 a22 a23 a24 a25 a26 a27 a30 a31 a32 a33 a34 a35 a36 a37 a38 v0 v1 v2 v3 v4 v5 v6 v7 v8 v9 v10 md) rfl (e_Paths_countParts_4 a2 a3 a5 a6 a7 a8 a9 a10 a11 a13 a15 a19 a20 a21 a22 a23 a24 a25 a26 a27 a30 a31 a32 a33 a34 a35 a36 a37 a38 v0 v1 v2 v3 v4 v5 v6 v7 v8 v9 v10 md) ?_
    rw [hK] at k
    have k3 : (some (f_Paths_countParts v1 a5), wC a2 a3 a5 a6 a7 a8 a9 a10 a11 a13 a15 a19 a20 a21 a22 a23 a24 a25 a26 a27 a30 a31 a32 a33 a34 a35 a36 a37 a38 v0 v1 v2 v3 v4 v5 v6 v7 v8 v9 v10 md) = r := k
    rw [← k3]
    exact Ev.ireti rfl rfl
  refine Ev.swK (K := K) (4 : Int32) rfl k (fun h5 k => ?_) (fun h5 k => ?_)
  · refine Ev.go (st' := (87, [some (vR 0), some (vI x1)], [vR 4], wC a2 a3 a5 a6 a7 a8 a9 a10 a11 a13 a15 a19 a20 a21 a22 a23 a24 a25 a26 a27 a30 a31 a32 a33 a34 a35 a36 a37 a38 v0 v1 v2 v3 v4 v5 v6 v7 v8 v9 v10 md, (0, 0))) 2 rfl trivial ?_
    refine Ev.callI (a := 132) (As := [vR 4]) [] (f_Paths_countPaths a9) (wC a2 a3 a5 a6 a7 a8 a9 a10 a11 a13 a15 a19 a20 a21 a22 a23 a24 a25 a26 a27 a30 a31 a32 a33 a34 a35 a36 a37 a38 v0 v1 v2 v3 v4 v5 v6 v7 v8 v9 v10 md) rfl (e_Paths_countPaths_4 a2 a3 a5 a6 a7 a8 a9 a10 a11 a13 a15 a19 a20 a21 a22 a23 a24 a25 a26 a27 a30 a31 a32 a33 a34 a35 a36 a37 a38 v0 v1 v2 v3 v4 v5 v6 v7 v8 v9 v10 md (((((hP.1.2 h1).1.2 h2).1.2 h3).1.2 h4).1.1 h5).1) ?_
    rw [hK] at k
    have k3 : (some (f_Paths_countPaths a9), wC a2 a3 a5 a6 a7 a8 a9 a10 a11 a13 a15 a19 a20 a21 a22 a23 a24 a25 a26 a27 a30 a31 a32 a33 a34 a35 a36 a37 a38 v0 v1 v2 v3 v4 v5 v6 v7 v8 v9 v10 md) = r := k
    rw [← k3]
    exact Ev.ireti rfl rfl
  refine Ev.swK (K := K) (5 : Int32) rfl k (fun h6 k => ?_) (fun h6 k => ?_)
  · refine Ev.go (st' := (95, [some (vR 0), some (vI x1)], [vR 4], wC a2 a3 a5 a6 a7 a8 a9 a10 a11 a13 a15 a19 a20 a21 a22 a23 a24 a25 a26 a27 a30 a31 a32 a33 a34 a35 a36 a37 a38 v0 v1 v2 v3 v4 v5 v6 v7 v8 v9 v10 md, (0, 0))) 2 rfl trivial ?_
    refine Ev.callI (a := 133) (As := [vR 4]) [] (f_Paths_countNodesOfPaths a9) (wC a2 a3 a5 a6 a7 a8 a9 a10 a11 a13 a15 a19 a20 a21 a22 a23 a24 a25 a26 a27 a30 a31 a32 a33 a34 a35 a36 a37 a38 v0 v1 v2 v3 v4 v5 v6 v7 v8 v9 v10 md) rfl (e_Paths_countNodesOfPaths_4 a2 a3 a5 a6 a7 a8 a9 a10 a11 a13 a15 a19 a20 a21 a22 a23 a24 a25 a26 a27 a30 a31 a32 a33 a34 a35 a36 a37 a38 v0 v1 v2 v3 v4 v5 v6 v7 v8 v9 v10 md) ?_
    rw [hK] at k
    have k3 : (some (f_Paths_countNodesOfPaths a9), wC a2 a3 a5 a6 a7 a8 a9 a10 a11 a13 a15 a19 a20 a21 a22 a23 a24 a25 a26 a27 a30 a31 a32 a33 a34 a35 a36 a37 a38 v0 v1 v2 v3 v4 v5 v6 v7 v8 v9 v10 md) = r := k
    rw [← k3]
    exact Ev.ireti rfl rfl
  refine Ev.swK (K := K) (6 : Int32) rfl k (fun h7 k => ?_) (fun h7 k => ?_)
  · refine Ev.go (st' := (106, [some (vR 0), some (vI x1)], [vI v1], wC a2 a3 a5 a6 a7 a8 a9 a10 a11 a13 a15 a19 a20 a21 a22 a23 a24 a25 a26 a27 a30 a31 a32 a33 a34 a35 a36 a37 a38 v0 v1 v2 v3 v4 v5 v6 v7 v8 v9 v10 md, (0, 0))) 3 rfl trivial ?_
    rw [hK] at k
    have k3 : (some v1, wC a2 a3 a5 a6 a7 a8 a9 a10 a11 a13 a15 a19 a20 a21 a22 a23 a24 a25 a26 a27 a30 a31 a32 a33 a34 a35 a36 a37 a38 v0 v1 v2 v3 v4 v5 v6 v7 v8 v9 v10 md) = r := k
    rw [← k3]
    exact Ev.ireti rfl rfl
  refine Ev.swK (K := K) (7 : Int32) rfl k (fun h8 k => ?_) (fun h8 k => ?_)
  · refine Ev.go (st' := (111, [some (vR 0), some (vI x1)], [vI v0], wC a2 a3 a5 a6 a7 a8 a9 a10 a11 a13 a15 a19 a20 a21 a22 a23 a24 a25 a26 a27 a30 a31 a32 a33 a34 a35 a36 a37 a38 v0 v1 v2 v3 v4 v5 v6 v7 v8 v9 v10 md, (0, 0))) 2 rfl trivial ?_
    rw [hK] at k
    have k3 : (some v0, wC a2 a3 a5 a6 a7 a8 a9 a10 a11 a13 a15 a19 a20 a21 a22 a23 a24 a25 a26 a27 a30 a31 a32 a33 a34 a35 a36 a37 a38 v0 v1 v2 v3 v4 v5 v6 v7 v8 v9 v10 md) = r := k
    rw [← k3]
    exact Ev.ireti rfl rfl
  refine Ev.go (st' := (114, [some (vR 0), some (vI x1)], [vI (-2 : Int32)], wC a2 a3 a5 a6 a7 a8 a9 a10 a11 a13 a15 a19 a20 a21 a22 a23 a24 a25 a26 a27 a30 a31 a32 a33 a34 a35 a36 a37 a38 v0 v1 v2 v3 v4 v5 v6 v7 v8 v9 v10 md, (0, 0))) 1 rfl trivial ?_
  rw [hK] at k
  have k3 : (some (-2 : Int32), wC a2 a3 a5 a6 a7 a8 a9 a10 a11 a13 a15 a19 a20 a21 a22 a23 a24 a25 a26 a27 a30 a31 a32 a33 a34 a35 a36 a37 a38 v0 v1 v2 v3 v4 v5 v6 v7 v8 v9 v10 md) = r := k
  rw [← k3]
  exact Ev.ireti rfl rfl

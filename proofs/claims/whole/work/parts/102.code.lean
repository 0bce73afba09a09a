/-! OF MeshNames.of(II)I -/
noncomputable def f_C_of (x1 : Int32) (x2 : Int32) (upSet : Int32) (names : Nat → Int32) (parts : Nat → Int32) (nexts : Nat → Int32) (befores : Nat → Int32) (links : Nat → Int32) (places : Nat → Int32) : Int32 := (iF ((f_C_isNode x1) = 0) (-1 : Int32) (iF (x2 < 0) (-2 : Int32) (iF (x2 ≤ (6 : Int32)) (iF ((f_Mesh_isUp x1 upSet) = 0) (-3 : Int32) (iF (x2 = (0 : Int32)) (names x1.toNatClampNeg) (iF (x2 = (1 : Int32)) (parts x1.toNatClampNeg) (iF (x2 = (2 : Int32)) (nexts x1.toNatClampNeg) (iF (x2 = (3 : Int32)) (befores x1.toNatClampNeg) (iF (x2 = (4 : Int32)) (f_J_bitCount (f_Mesh_neighbours x1 upSet links)) (iF (x2 = (5 : Int32)) (f_Paths_countOver x1 places) (f_Paths_countKnown x1 places nexts)))))))) (-2 : Int32))))
def P_C_of (x1 : Int32) (x2 : Int32) (upSet : Int32) (names : Nat → Int32) (parts : Nat → Int32) (nexts : Nat → Int32) (befores : Nat → Int32) (links : Nat → Int32) (places : Nat → Int32) : Prop := (((f_C_isNode x1) = 0 → True) ∧ (¬ ((f_C_isNode x1) = 0) → (((x2 < 0 → True) ∧ (¬ (x2 < 0) → (((x2 ≤ (6 : Int32) → ((((f_Mesh_isUp x1 upSet) = 0 → True) ∧ (¬ ((f_Mesh_isUp x1 upSet) = 0) → (((x2 = (0 : Int32) → (vp_in x1 8 ∧ True)) ∧ (¬ (x2 = (0 : Int32)) → (((x2 = (1 : Int32) → (vp_in x1 8 ∧ True)) ∧ (¬ (x2 = (1 : Int32)) → (((x2 = (2 : Int32) → (vp_in x1 8 ∧ True)) ∧ (¬ (x2 = (2 : Int32)) → (((x2 = (3 : Int32) → (vp_in x1 8 ∧ True)) ∧ (¬ (x2 = (3 : Int32)) → (((x2 = (4 : Int32) → ((P_Mesh_neighbours x1 upSet links) ∧ True)) ∧ (¬ (x2 = (4 : Int32)) → (((x2 = (5 : Int32) → ((P_Paths_countOver x1 places) ∧ True)) ∧ (¬ (x2 = (5 : Int32)) → ((P_Paths_countKnown x1 places nexts) ∧ True))) ∧ True))) ∧ True))) ∧ True))) ∧ True))) ∧ True))) ∧ True))) ∧ True)) ∧ (¬ (x2 ≤ (6 : Int32)) → True)) ∧ True))) ∧ True))) ∧ True
set_option maxRecDepth 8000 in
set_option maxHeartbeats 4000000 in
theorem e_C_of_0 (a2 a3 a5 a6 a7 a8 a9 a10 a11 a13 a15 a19 a20 a21 a22 a23 a24 a25 a26 a27 a30 a31 a32 a33 a34 a35 a36 a37 a38 : Nat → Int32) (v0 v1 v2 v3 v4 v5 v6 v7 v8 v9 v10 : Int32) (md : AW) (x1 x2 : Int32) (hP : P_C_of x1 x2 v1 a2 a5 a6 a7 a3 a11)  : Ev none 45 (0, [some (vR 0), some (vI x1), some (vI x2)], [], wC a2 a3 a5 a6 a7 a8 a9 a10 a11 a13 a15 a19 a20 a21 a22 a23 a24 a25 a26 a27 a30 a31 a32 a33 a34 a35 a36 a37 a38 v0 v1 v2 v3 v4 v5 v6 v7 v8 v9 v10 md, (0, 0)) (some (f_C_of x1 x2 v1 a2 a5 a6 a7 a3 a11), wC a2 a3 a5 a6 a7 a8 a9 a10 a11 a13 a15 a19 a20 a21 a22 a23 a24 a25 a26 a27 a30 a31 a32 a33 a34 a35 a36 a37 a38 v0 v1 v2 v3 v4 v5 v6 v7 v8 v9 v10 md) := by
  suffices hh : ∀ (r : Option Int32 × AW) (K : (Int32) → Prop), K = (fun o : Int32 => (some o, wC a2 a3 a5 a6 a7 a8 a9 a10 a11 a13 a15 a19 a20 a21 a22 a23 a24 a25 a26 a27 a30 a31 a32 a33 a34 a35 a36 a37 a38 v0 v1 v2 v3 v4 v5 v6 v7 v8 v9 v10 md) = r) → K (iF ((f_C_isNode x1) = 0) (-1 : Int32) (iF (x2 < 0) (-2 : Int32) (iF (x2 ≤ (6 : Int32)) (iF ((f_Mesh_isUp x1 v1) = 0) (-3 : Int32) (iF (x2 = (0 : Int32)) (a2 x1.toNatClampNeg) (iF (x2 = (1 : Int32)) (a5 x1.toNatClampNeg) (iF (x2 = (2 : Int32)) (a6 x1.toNatClampNeg) (iF (x2 = (3 : Int32)) (a7 x1.toNatClampNeg) (iF (x2 = (4 : Int32)) (f_J_bitCount (f_Mesh_neighbours x1 v1 a3)) (iF (x2 = (5 : Int32)) (f_Paths_countOver x1 a11) (f_Paths_countKnown x1 a11 a6)))))))) (-2 : Int32)))) → Ev none 45 (0, [some (vR 0), some (vI x1), some (vI x2)], [], wC a2 a3 a5 a6 a7 a8 a9 a10 a11 a13 a15 a19 a20 a21 a22 a23 a24 a25 a26 a27 a30 a31 a32 a33 a34 a35 a36 a37 a38 v0 v1 v2 v3 v4 v5 v6 v7 v8 v9 v10 md, (0, 0)) r from hh _ _ rfl rfl
  intro r K hK k
  refine Ev.go (st' := (1, [some (vR 0), some (vI x1), some (vI x2)], [vI x1], wC a2 a3 a5 a6 a7 a8 a9 a10 a11 a13 a15 a19 a20 a21 a22 a23 a24 a25 a26 a27 a30 a31 a32 a33 a34 a35 a36 a37 a38 v0 v1 v2 v3 v4 v5 v6 v7 v8 v9 v10 md, (0, 0))) 1 rfl trivial ?_
  refine Ev.callI (a := 14) (As := [vI x1]) [] (f_C_isNode x1) (wC a2 a3 a5 a6 a7 a8 a9 a10 a11 a13 a15 a19 a20 a21 a22 a23 a24 a25 a26 a27 a30 a31 a32 a33 a34 a35 a36 a37 a38 v0 v1 v2 v3 v4 v5 v6 v7 v8 v9 v10 md) rfl (e_C_isNode (wC a2 a3 a5 a6 a7 a8 a9 a10 a11 a13 a15 a19 a20 a21 a22 a23 a24 a25 a26 a27 a30 a31 a32 a33 a34 a35 a36 a37 a38 v0 v1 v2 v3 v4 v5 v6 v7 v8 v9 v10 md) x1) ?_
  refine Ev.go (st' := (if (f_C_isNode x1) = 0 then 7 else 9, [some (vR 0), some (vI x1), some (vI x2)], [], wC a2 a3 a5 a6 a7 a8 a9 a10 a11 a13 a15 a19 a20 a21 a22 a23 a24 a25 a26 a27 a30 a31 a32 a33 a34 a35 a36 a37 a38 v0 v1 v2 v3 v4 v5 v6 v7 v8 v9 v10 md, (0, 0))) 1 rfl trivial ?_
  refine Ev.brK (K := K) k (fun h1 k => ?_) (fun h1 k => ?_)
  · refine Ev.go (st' := (8, [some (vR 0), some (vI x1), some (vI x2)], [vI (-1 : Int32)], wC a2 a3 a5 a6 a7 a8 a9 a10 a11 a13 a15 a19 a20 a21 a22 a23 a24 a25 a26 a27 a30 a31 a32 a33 a34 a35 a36 a37 a38 v0 v1 v2 v3 v4 v5 v6 v7 v8 v9 v10 md, (0, 0))) 1 rfl trivial ?_
    rw [hK] at k
    have k3 : (some (-1 : Int32), wC a2 a3 a5 a6 a7 a8 a9 a10 a11 a13 a15 a19 a20 a21 a22 a23 a24 a25 a26 a27 a30 a31 a32 a33 a34 a35 a36 a37 a38 v0 v1 v2 v3 v4 v5 v6 v7 v8 v9 v10 md) = r := k
    rw [← k3]
    exact Ev.ireti rfl rfl
  · refine Ev.go (st' := (if x2 < 0 then 19 else 13, [some (vR 0), some (vI x1), some (vI x2)], [], wC a2 a3 a5 a6 a7 a8 a9 a10 a11 a13 a15 a19 a20 a21 a22 a23 a24 a25 a26 a27 a30 a31 a32 a33 a34 a35 a36 a37 a38 v0 v1 v2 v3 v4 v5 v6 v7 v8 v9 v10 md, (0, 0))) 2 rfl trivial ?_
    refine Ev.brK (K := K) k (fun h2 k => ?_) (fun h2 k => ?_)
    · refine Ev.go (st' := (21, [some (vR 0), some (vI x1), some (vI x2)], [vI (-2 : Int32)], wC a2 a3 a5 a6 a7 a8 a9 a10 a11 a13 a15 a19 a20 a21 a22 a23 a24 a25 a26 a27 a30 a31 a32 a33 a34 a35 a36 a37 a38 v0 v1 v2 v3 v4 v5 v6 v7 v8 v9 v10 md, (0, 0))) 1 rfl trivial ?_
      rw [hK] at k
      have k3 : (some (-2 : Int32), wC a2 a3 a5 a6 a7 a8 a9 a10 a11 a13 a15 a19 a20 a21 a22 a23 a24 a25 a26 a27 a30 a31 a32 a33 a34 a35 a36 a37 a38 v0 v1 v2 v3 v4 v5 v6 v7 v8 v9 v10 md) = r := k
      rw [← k3]
      exact Ev.ireti rfl rfl
    · refine Ev.go (st' := (if x2 ≤ (6 : Int32) then 22 else 19, [some (vR 0), some (vI x1), some (vI x2)], [], wC a2 a3 a5 a6 a7 a8 a9 a10 a11 a13 a15 a19 a20 a21 a22 a23 a24 a25 a26 a27 a30 a31 a32 a33 a34 a35 a36 a37 a38 v0 v1 v2 v3 v4 v5 v6 v7 v8 v9 v10 md, (0, 0))) 3 rfl trivial ?_
      refine Ev.brK (K := K) k (fun h3 k => ?_) (fun h3 k => ?_)
      · refine Ev.go (st' := (27, [some (vR 0), some (vI x1), some (vI x2)], [vI x1, vR 1], wC a2 a3 a5 a6 a7 a8 a9 a10 a11 a13 a15 a19 a20 a21 a22 a23 a24 a25 a26 a27 a30 a31 a32 a33 a34 a35 a36 a37 a38 v0 v1 v2 v3 v4 v5 v6 v7 v8 v9 v10 md, (0, 0))) 3 rfl trivial ?_
        refine Ev.callI (a := 8) (As := [vR 1, vI x1]) [] (f_Mesh_isUp x1 v1) (wC a2 a3 a5 a6 a7 a8 a9 a10 a11 a13 a15 a19 a20 a21 a22 a23 a24 a25 a26 a27 a30 a31 a32 a33 a34 a35 a36 a37 a38 v0 v1 v2 v3 v4 v5 v6 v7 v8 v9 v10 md) rfl (e_Mesh_isUp_1 a2 a3 a5 a6 a7 a8 a9 a10 a11 a13 a15 a19 a20 a21 a22 a23 a24 a25 a26 a27 a30 a31 a32 a33 a34 a35 a36 a37 a38 v0 v1 v2 v3 v4 v5 v6 v7 v8 v9 v10 md x1) ?_
        refine Ev.go (st' := (if (f_Mesh_isUp x1 v1) = 0 then 33 else 36, [some (vR 0), some (vI x1), some (vI x2)], [], wC a2 a3 a5 a6 a7 a8 a9 a10 a11 a13 a15 a19 a20 a21 a22 a23 a24 a25 a26 a27 a30 a31 a32 a33 a34 a35 a36 a37 a38 v0 v1 v2 v3 v4 v5 v6 v7 v8 v9 v10 md, (0, 0))) 1 rfl trivial ?_
        refine Ev.brK (K := K) k (fun h4 k => ?_) (fun h4 k => ?_)
        · refine Ev.go (st' := (35, [some (vR 0), some (vI x1), some (vI x2)], [vI (-3 : Int32)], wC a2 a3 a5 a6 a7 a8 a9 a10 a11 a13 a15 a19 a20 a21 a22 a23 a24 a25 a26 a27 a30 a31 a32 a33 a34 a35 a36 a37 a38 v0 v1 v2 v3 v4 v5 v6 v7 v8 v9 v10 md, (0, 0))) 1 rfl trivial ?_
          rw [hK] at k
          have k3 : (some (-3 : Int32), wC a2 a3 a5 a6 a7 a8 a9 a10 a11 a13 a15 a19 a20 a21 a22 a23 a24 a25 a26 a27 a30 a31 a32 a33 a34 a35 a36 a37 a38 v0 v1 v2 v3 v4 v5 v6 v7 v8 v9 v10 md) = r := k
          rw [← k3]
          exact Ev.ireti rfl rfl
        · refine Ev.go (st' := (s_sw x2 0 [76, 86, 96, 106, 116, 128] 137, [some (vR 0), some (vI x1), some (vI x2)], [], wC a2 a3 a5 a6 a7 a8 a9 a10 a11 a13 a15 a19 a20 a21 a22 a23 a24 a25 a26 a27 a30 a31 a32 a33 a34 a35 a36 a37 a38 v0 v1 v2 v3 v4 v5 v6 v7 v8 v9 v10 md, (0, 0))) 2 rfl trivial ?_
          refine Ev.swK (K := K) (0 : Int32) rfl k (fun h5 k => ?_) (fun h5 k => ?_)
          · refine Ev.go (st' := (85, [some (vR 0), some (vI x1), some (vI x2)], [vI (a2 x1.toNatClampNeg)], wC a2 a3 a5 a6 a7 a8 a9 a10 a11 a13 a15 a19 a20 a21 a22 a23 a24 a25 a26 a27 a30 a31 a32 a33 a34 a35 a36 a37 a38 v0 v1 v2 v3 v4 v5 v6 v7 v8 v9 v10 md, (0, 0))) 5 rfl ⟨(((((hP.1.2 h1).1.2 h2).1.1 h3).1.2 h4).1.1 h5).1, trivial⟩ ?_
            rw [hK] at k
            have k3 : (some (a2 x1.toNatClampNeg), wC a2 a3 a5 a6 a7 a8 a9 a10 a11 a13 a15 a19 a20 a21 a22 a23 a24 a25 a26 a27 a30 a31 a32 a33 a34 a35 a36 a37 a38 v0 v1 v2 v3 v4 v5 v6 v7 v8 v9 v10 md) = r := k
            rw [← k3]
            exact Ev.ireti rfl rfl
          refine Ev.swK (K := K) (1 : Int32) rfl k (fun h6 k => ?_) (fun h6 k => ?_)
          · refine Ev.go (st' := (95, [some (vR 0), some (vI x1), some (vI x2)], [vI (a5 x1.toNatClampNeg)], wC a2 a3 a5 a6 a7 a8 a9 a10 a11 a13 a15 a19 a20 a21 a22 a23 a24 a25 a26 a27 a30 a31 a32 a33 a34 a35 a36 a37 a38 v0 v1 v2 v3 v4 v5 v6 v7 v8 v9 v10 md, (0, 0))) 5 rfl ⟨((((((hP.1.2 h1).1.2 h2).1.1 h3).1.2 h4).1.2 h5).1.1 h6).1, trivial⟩ ?_
            rw [hK] at k
            have k3 : (some (a5 x1.toNatClampNeg), wC a2 a3 a5 a6 a7 a8 a9 a10 a11 a13 a15 a19 a20 a21 a22 a23 a24 a25 a26 a27 a30 a31 a32 a33 a34 a35 a36 a37 a38 v0 v1 v2 v3 v4 v5 v6 v7 v8 v9 v10 md) = r := k
            rw [← k3]
            exact Ev.ireti rfl rfl
          refine Ev.swK (K := K) (2 : Int32) rfl k (fun h7 k => ?_) (fun h7 k => ?_)
          · refine Ev.go (st' := (105, [some (vR 0), some (vI x1), some (vI x2)], [vI (a6 x1.toNatClampNeg)], wC a2 a3 a5 a6 a7 a8 a9 a10 a11 a13 a15 a19 a20 a21 a22 a23 a24 a25 a26 a27 a30 a31 a32 a33 a34 a35 a36 a37 a38 v0 v1 v2 v3 v4 v5 v6 v7 v8 v9 v10 md, (0, 0))) 5 rfl ⟨(((((((hP.1.2 h1).1.2 h2).1.1 h3).1.2 h4).1.2 h5).1.2 h6).1.1 h7).1, trivial⟩ ?_
            rw [hK] at k
            have k3 : (some (a6 x1.toNatClampNeg), wC a2 a3 a5 a6 a7 a8 a9 a10 a11 a13 a15 a19 a20 a21 a22 a23 a24 a25 a26 a27 a30 a31 a32 a33 a34 a35 a36 a37 a38 v0 v1 v2 v3 v4 v5 v6 v7 v8 v9 v10 md) = r := k
            rw [← k3]
            exact Ev.ireti rfl rfl
          refine Ev.swK (K := K) (3 : Int32) rfl k (fun h8 k => ?_) (fun h8 k => ?_)
          · refine Ev.go (st' := (115, [some (vR 0), some (vI x1), some (vI x2)], [vI (a7 x1.toNatClampNeg)], wC a2 a3 a5 a6 a7 a8 a9 a10 a11 a13 a15 a19 a20 a21 a22 a23 a24 a25 a26 a27 a30 a31 a32 a33 a34 a35 a36 a37 a38 v0 v1 v2 v3 v4 v5 v6 v7 v8 v9 v10 md, (0, 0))) 5 rfl ⟨((((((((hP.1.2 h1).1.2 h2).1.1 h3).1.2 h4).1.2 h5).1.2 h6).1.2 h7).1.1 h8).1, trivial⟩ ?_
            rw [hK] at k
            have k3 : (some (a7 x1.toNatClampNeg), wC a2 a3 a5 a6 a7 a8 a9 a10 a11 a13 a15 a19 a20 a21 a22 a23 a24 a25 a26 a27 a30 a31 a32 a33 a34 a35 a36 a37 a38 v0 v1 v2 v3 v4 v5 v6 v7 v8 v9 v10 md) = r := k
            rw [← k3]
            exact Ev.ireti rfl rfl
          refine Ev.swK (K := K) (4 : Int32) rfl k (fun h9 k => ?_) (fun h9 k => ?_)
          · refine Ev.go (st' := (121, [some (vR 0), some (vI x1), some (vI x2)], [vI x1, vR 1], wC a2 a3 a5 a6 a7 a8 a9 a10 a11 a13 a15 a19 a20 a21 a22 a23 a24 a25 a26 a27 a30 a31 a32 a33 a34 a35 a36 a37 a38 v0 v1 v2 v3 v4 v5 v6 v7 v8 v9 v10 md, (0, 0))) 3 rfl trivial ?_
            refine Ev.callI (a := 9) (As := [vR 1, vI x1]) [] (f_Mesh_neighbours x1 v1 a3) (wC a2 a3 a5 a6 a7 a8 a9 a10 a11 a13 a15 a19 a20 a21 a22 a23 a24 a25 a26 a27 a30 a31 a32 a33 a34 a35 a36 a37 a38 v0 v1 v2 v3 v4 v5 v6 v7 v8 v9 v10 md) rfl (e_Mesh_neighbours_1 a2 a3 a5 a6 a7 a8 a9 a10 a11 a13 a15 a19 a20 a21 a22 a23 a24 a25 a26 a27 a30 a31 a32 a33 a34 a35 a36 a37 a38 v0 v1 v2 v3 v4 v5 v6 v7 v8 v9 v10 md x1 (((((((((hP.1.2 h1).1.2 h2).1.1 h3).1.2 h4).1.2 h5).1.2 h6).1.2 h7).1.2 h8).1.1 h9).1) ?_
            refine Ev.callI (a := 23) (As := [vI (f_Mesh_neighbours x1 v1 a3)]) [] (f_J_bitCount (f_Mesh_neighbours x1 v1 a3)) (wC a2 a3 a5 a6 a7 a8 a9 a10 a11 a13 a15 a19 a20 a21 a22 a23 a24 a25 a26 a27 a30 a31 a32 a33 a34 a35 a36 a37 a38 v0 v1 v2 v3 v4 v5 v6 v7 v8 v9 v10 md) rfl (e_J_bitCount (wC a2 a3 a5 a6 a7 a8 a9 a10 a11 a13 a15 a19 a20 a21 a22 a23 a24 a25 a26 a27 a30 a31 a32 a33 a34 a35 a36 a37 a38 v0 v1 v2 v3 v4 v5 v6 v7 v8 v9 v10 md) (f_Mesh_neighbours x1 v1 a3)) ?_
            rw [hK] at k
            have k3 : (some (f_J_bitCount (f_Mesh_neighbours x1 v1 a3)), wC a2 a3 a5 a6 a7 a8 a9 a10 a11 a13 a15 a19 a20 a21 a22 a23 a24 a25 a26 a27 a30 a31 a32 a33 a34 a35 a36 a37 a38 v0 v1 v2 v3 v4 v5 v6 v7 v8 v9 v10 md) = r := k
            rw [← k3]
            exact Ev.ireti rfl rfl
          refine Ev.swK (K := K) (5 : Int32) rfl k (fun h10 k => ?_) (fun h10 k => ?_)
          · refine Ev.go (st' := (133, [some (vR 0), some (vI x1), some (vI x2)], [vI x1, vR 4], wC a2 a3 a5 a6 a7 a8 a9 a10 a11 a13 a15 a19 a20 a21 a22 a23 a24 a25 a26 a27 a30 a31 a32 a33 a34 a35 a36 a37 a38 v0 v1 v2 v3 v4 v5 v6 v7 v8 v9 v10 md, (0, 0))) 3 rfl trivial ?_
            refine Ev.callI (a := 43) (As := [vR 4, vI x1]) [] (f_Paths_countOver x1 a11) (wC a2 a3 a5 a6 a7 a8 a9 a10 a11 a13 a15 a19 a20 a21 a22 a23 a24 a25 a26 a27 a30 a31 a32 a33 a34 a35 a36 a37 a38 v0 v1 v2 v3 v4 v5 v6 v7 v8 v9 v10 md) rfl (e_Paths_countOver_4 a2 a3 a5 a6 a7 a8 a9 a10 a11 a13 a15 a19 a20 a21 a22 a23 a24 a25 a26 a27 a30 a31 a32 a33 a34 a35 a36 a37 a38 v0 v1 v2 v3 v4 v5 v6 v7 v8 v9 v10 md x1 ((((((((((hP.1.2 h1).1.2 h2).1.1 h3).1.2 h4).1.2 h5).1.2 h6).1.2 h7).1.2 h8).1.2 h9).1.1 h10).1) ?_
            rw [hK] at k
            have k3 : (some (f_Paths_countOver x1 a11), wC a2 a3 a5 a6 a7 a8 a9 a10 a11 a13 a15 a19 a20 a21 a22 a23 a24 a25 a26 a27 a30 a31 a32 a33 a34 a35 a36 a37 a38 v0 v1 v2 v3 v4 v5 v6 v7 v8 v9 v10 md) = r := k
            rw [← k3]
            exact Ev.ireti rfl rfl
          refine Ev.go (st' := (142, [some (vR 0), some (vI x1), some (vI x2)], [vI x1, vR 4], wC a2 a3 a5 a6 a7 a8 a9 a10 a11 a13 a15 a19 a20 a21 a22 a23 a24 a25 a26 a27 a30 a31 a32 a33 a34 a35 a36 a37 a38 v0 v1 v2 v3 v4 v5 v6 v7 v8 v9 v10 md, (0, 0))) 3 rfl trivial ?_
          refine Ev.callI (a := 44) (As := [vR 4, vI x1]) [] (f_Paths_countKnown x1 a11 a6) (wC a2 a3 a5 a6 a7 a8 a9 a10 a11 a13 a15 a19 a20 a21 a22 a23 a24 a25 a26 a27 a30 a31 a32 a33 a34 a35 a36 a37 a38 v0 v1 v2 v3 v4 v5 v6 v7 v8 v9 v10 md) rfl (e_Paths_countKnown_4 a2 a3 a5 a6 a7 a8 a9 a10 a11 a13 a15 a19 a20 a21 a22 a23 a24 a25 a26 a27 a30 a31 a32 a33 a34 a35 a36 a37 a38 v0 v1 v2 v3 v4 v5 v6 v7 v8 v9 v10 md x1 ((((((((((hP.1.2 h1).1.2 h2).1.1 h3).1.2 h4).1.2 h5).1.2 h6).1.2 h7).1.2 h8).1.2 h9).1.2 h10).1) ?_
          rw [hK] at k
          have k3 : (some (f_Paths_countKnown x1 a11 a6), wC a2 a3 a5 a6 a7 a8 a9 a10 a11 a13 a15 a19 a20 a21 a22 a23 a24 a25 a26 a27 a30 a31 a32 a33 a34 a35 a36 a37 a38 v0 v1 v2 v3 v4 v5 v6 v7 v8 v9 v10 md) = r := k
          rw [← k3]
          exact Ev.ireti rfl rfl
      · refine Ev.go (st' := (21, [some (vR 0), some (vI x1), some (vI x2)], [vI (-2 : Int32)], wC a2 a3 a5 a6 a7 a8 a9 a10 a11 a13 a15 a19 a20 a21 a22 a23 a24 a25 a26 a27 a30 a31 a32 a33 a34 a35 a36 a37 a38 v0 v1 v2 v3 v4 v5 v6 v7 v8 v9 v10 md, (0, 0))) 1 rfl trivial ?_
        rw [hK] at k
        have k3 : (some (-2 : Int32), wC a2 a3 a5 a6 a7 a8 a9 a10 a11 a13 a15 a19 a20 a21 a22 a23 a24 a25 a26 a27 a30 a31 a32 a33 a34 a35 a36 a37 a38 v0 v1 v2 v3 v4 v5 v6 v7 v8 v9 v10 md) = r := k
        rw [← k3]
        exact Ev.ireti rfl rfl
/-! OF MeshNamesModel.isLink(II)Z -/
noncomputable def f_M_isLink (x1 : Int32) (x2 : Int32) (state_ : Nat → Int32) : Int32 := (iF (x1 = x2) (0 : Int32) (iF ((state_ (f_M_pair x1 x2).toNatClampNeg) = (1 : Int32)) (1 : Int32) (0 : Int32)))
def P_M_isLink (x1 : Int32) (x2 : Int32) (state_ : Nat → Int32) : Prop := ((x1 = x2 → True) ∧ (¬ (x1 = x2) → (vp_in (f_M_pair x1 x2) 80 ∧ True))) ∧ True
theorem z_M_isLink (x1 : Int32) (x2 : Int32) (state_ : Nat → Int32) : (f_M_isLink x1 x2 state_) &&& 1 = f_M_isLink x1 x2 state_ := (z_iF rfl (z_iF rfl rfl))
set_option maxRecDepth 8000 in
set_option maxHeartbeats 4000000 in
theorem e_M_isLink_39 (κ : Sg) (a40 a41 a42 a43 a44 a45 a46 a47 a48 a49 a50 : Nat → Int32) (v11 v12 v13 v14 : Int32) (x1 x2 : Int32) (hP : P_M_isLink x1 x2 a40)  : Ev none 46 (0, [some (vR 39), some (vI x1), some (vI x2)], [], wd κ (mM a40 a41 a42 a43 a44 a45 a46 a47 a48 a49 a50 v11 v12 v13 v14), (0, 0)) (some (f_M_isLink x1 x2 a40), wd κ (mM a40 a41 a42 a43 a44 a45 a46 a47 a48 a49 a50 v11 v12 v13 v14)) := by
  suffices hh : ∀ (r : Option Int32 × AW) (K : (Int32) → Prop), K = (fun o : Int32 => (some o, wd κ (mM a40 a41 a42 a43 a44 a45 a46 a47 a48 a49 a50 v11 v12 v13 v14)) = r) → K (iF (x1 = x2) (0 : Int32) (iF ((a40 (f_M_pair x1 x2).toNatClampNeg) = (1 : Int32)) (1 : Int32) (0 : Int32))) → Ev none 46 (0, [some (vR 39), some (vI x1), some (vI x2)], [], wd κ (mM a40 a41 a42 a43 a44 a45 a46 a47 a48 a49 a50 v11 v12 v13 v14), (0, 0)) r from hh _ _ rfl rfl
  intro r K hK k
  refine Ev.go (st' := (if x1 = x2 then 23 else 5, [some (vR 39), some (vI x1), some (vI x2)], [], wd κ (mM a40 a41 a42 a43 a44 a45 a46 a47 a48 a49 a50 v11 v12 v13 v14), (0, 0))) 3 rfl trivial ?_
  have kJ1 : Ev none 46 (24, [none, none, none], [vI (iF (x1 = x2) (0 : Int32) (iF ((a40 (f_M_pair x1 x2).toNatClampNeg) = (1 : Int32)) (1 : Int32) (0 : Int32)))], wd κ (mM a40 a41 a42 a43 a44 a45 a46 a47 a48 a49 a50 v11 v12 v13 v14), (0, 0)) r := by
    rw [hK] at k
    have k3 : (some (iF (x1 = x2) (0 : Int32) (iF ((a40 (f_M_pair x1 x2).toNatClampNeg) = (1 : Int32)) (1 : Int32) (0 : Int32))), wd κ (mM a40 a41 a42 a43 a44 a45 a46 a47 a48 a49 a50 v11 v12 v13 v14)) = r := k
    rw [← k3]
    exact Ev.iretz rfl rfl (by exact (z_iF rfl (z_iF rfl rfl)))
  refine Ev.br (fun h1 => ?_) (fun h1 => ?_)
  · refine Ev.go (st' := (24, [some (vR 39), some (vI x1), some (vI x2)], [vI (0 : Int32)], wd κ (mM a40 a41 a42 a43 a44 a45 a46 a47 a48 a49 a50 v11 v12 v13 v14), (0, 0))) 1 rfl trivial ?_
    exact Ev.wk (Lle.n (Lle.n (Lle.n Lle.z))) (Ev.to kJ1 (by simp only [iF_pos h1]))
  · refine Ev.go (st' := (11, [some (vR 39), some (vI x1), some (vI x2)], [vI x2, vI x1, vR 40], wd κ (mM a40 a41 a42 a43 a44 a45 a46 a47 a48 a49 a50 v11 v12 v13 v14), (0, 0))) 4 rfl trivial ?_
    refine Ev.callI (a := 38) (As := [vI x1, vI x2]) [vR 40] (f_M_pair x1 x2) (wd κ (mM a40 a41 a42 a43 a44 a45 a46 a47 a48 a49 a50 v11 v12 v13 v14)) rfl (e_M_pair (wd κ (mM a40 a41 a42 a43 a44 a45 a46 a47 a48 a49 a50 v11 v12 v13 v14)) x1 x2) ?_
    refine Ev.go (st' := (if (a40 (f_M_pair x1 x2).toNatClampNeg) = (1 : Int32) then 19 else 23, [some (vR 39), some (vI x1), some (vI x2)], [], wd κ (mM a40 a41 a42 a43 a44 a45 a46 a47 a48 a49 a50 v11 v12 v13 v14), (0, 0))) 3 rfl ⟨(hP.1.2 h1).1, trivial⟩ ?_
    have kJ2 : Ev none 46 (24, [none, none, none], [vI (iF ((a40 (f_M_pair x1 x2).toNatClampNeg) = (1 : Int32)) (1 : Int32) (0 : Int32))], wd κ (mM a40 a41 a42 a43 a44 a45 a46 a47 a48 a49 a50 v11 v12 v13 v14), (0, 0)) r := by
      exact Ev.wk (Lle.n (Lle.n (Lle.n Lle.z))) (Ev.to kJ1 (by simp only [iF_neg h1]))
    refine Ev.br (fun h2 => ?_) (fun h2 => ?_)
    · refine Ev.go (st' := (24, [some (vR 39), some (vI x1), some (vI x2)], [vI (1 : Int32)], wd κ (mM a40 a41 a42 a43 a44 a45 a46 a47 a48 a49 a50 v11 v12 v13 v14), (0, 0))) 2 rfl trivial ?_
      exact Ev.wk (Lle.n (Lle.n (Lle.n Lle.z))) (Ev.to kJ2 (by simp only [iF_pos h2]))
    · refine Ev.go (st' := (24, [some (vR 39), some (vI x1), some (vI x2)], [vI (0 : Int32)], wd κ (mM a40 a41 a42 a43 a44 a45 a46 a47 a48 a49 a50 v11 v12 v13 v14), (0, 0))) 1 rfl trivial ?_
      exact Ev.wk (Lle.n (Lle.n (Lle.n Lle.z))) (Ev.to kJ2 (by simp only [iF_neg h2]))
/-! OF MeshNamesModel.counts(II)Z -/
noncomputable def f_M_counts (x1 : Int32) (x2 : Int32) (state_ : Nat → Int32) : Int32 := (iF ((f_M_isLink x1 x2 state_) = 0) (0 : Int32) (iF ((f_M_isUp x1 state_) = 0) (0 : Int32) (iF ((f_M_isUp x2 state_) = 0) (0 : Int32) (1 : Int32))))
def P_M_counts (x1 : Int32) (x2 : Int32) (state_ : Nat → Int32) : Prop := (P_M_isLink x1 x2 state_) ∧ (((f_M_isLink x1 x2 state_) = 0 → True) ∧ (¬ ((f_M_isLink x1 x2 state_) = 0) → ((P_M_isUp x1 state_) ∧ (((f_M_isUp x1 state_) = 0 → True) ∧ (¬ ((f_M_isUp x1 state_) = 0) → ((P_M_isUp x2 state_) ∧ True))) ∧ True))) ∧ True
theorem z_M_counts (x1 : Int32) (x2 : Int32) (state_ : Nat → Int32) : (f_M_counts x1 x2 state_) &&& 1 = f_M_counts x1 x2 state_ := (z_iF rfl (z_iF rfl (z_iF rfl rfl)))
set_option maxRecDepth 8000 in
set_option maxHeartbeats 4000000 in
theorem e_M_counts_39 (κ : Sg) (a40 a41 a42 a43 a44 a45 a46 a47 a48 a49 a50 : Nat → Int32) (v11 v12 v13 v14 : Int32) (x1 x2 : Int32) (hP : P_M_counts x1 x2 a40)  : Ev none 47 (0, [some (vR 39), some (vI x1), some (vI x2)], [], wd κ (mM a40 a41 a42 a43 a44 a45 a46 a47 a48 a49 a50 v11 v12 v13 v14), (0, 0)) (some (f_M_counts x1 x2 a40), wd κ (mM a40 a41 a42 a43 a44 a45 a46 a47 a48 a49 a50 v11 v12 v13 v14)) := by
  suffices hh : ∀ (r : Option Int32 × AW) (K : (Int32) → Prop), K = (fun o : Int32 => (some o, wd κ (mM a40 a41 a42 a43 a44 a45 a46 a47 a48 a49 a50 v11 v12 v13 v14)) = r) → K (iF ((f_M_isLink x1 x2 a40) = 0) (0 : Int32) (iF ((f_M_isUp x1 a40) = 0) (0 : Int32) (iF ((f_M_isUp x2 a40) = 0) (0 : Int32) (1 : Int32)))) → Ev none 47 (0, [some (vR 39), some (vI x1), some (vI x2)], [], wd κ (mM a40 a41 a42 a43 a44 a45 a46 a47 a48 a49 a50 v11 v12 v13 v14), (0, 0)) r from hh _ _ rfl rfl
  intro r K hK k
  refine Ev.go (st' := (3, [some (vR 39), some (vI x1), some (vI x2)], [vI x2, vI x1, vR 39], wd κ (mM a40 a41 a42 a43 a44 a45 a46 a47 a48 a49 a50 v11 v12 v13 v14), (0, 0))) 3 rfl trivial ?_
  refine Ev.callI (a := 46) (As := [vR 39, vI x1, vI x2]) [] (f_M_isLink x1 x2 a40) (wd κ (mM a40 a41 a42 a43 a44 a45 a46 a47 a48 a49 a50 v11 v12 v13 v14)) rfl (e_M_isLink_39 κ a40 a41 a42 a43 a44 a45 a46 a47 a48 a49 a50 v11 v12 v13 v14 x1 x2 hP.1) ?_
  refine Ev.go (st' := (if (f_M_isLink x1 x2 a40) = 0 then 29 else 9, [some (vR 39), some (vI x1), some (vI x2)], [], wd κ (mM a40 a41 a42 a43 a44 a45 a46 a47 a48 a49 a50 v11 v12 v13 v14), (0, 0))) 1 rfl trivial ?_
  have kJ1 : Ev none 47 (30, [none, none, none], [vI (iF ((f_M_isLink x1 x2 a40) = 0) (0 : Int32) (iF ((f_M_isUp x1 a40) = 0) (0 : Int32) (iF ((f_M_isUp x2 a40) = 0) (0 : Int32) (1 : Int32))))], wd κ (mM a40 a41 a42 a43 a44 a45 a46 a47 a48 a49 a50 v11 v12 v13 v14), (0, 0)) r := by
    rw [hK] at k
    have k3 : (some (iF ((f_M_isLink x1 x2 a40) = 0) (0 : Int32) (iF ((f_M_isUp x1 a40) = 0) (0 : Int32) (iF ((f_M_isUp x2 a40) = 0) (0 : Int32) (1 : Int32)))), wd κ (mM a40 a41 a42 a43 a44 a45 a46 a47 a48 a49 a50 v11 v12 v13 v14)) = r := k
    rw [← k3]
    exact Ev.iretz rfl rfl (by exact (z_iF rfl (z_iF rfl (z_iF rfl rfl))))
  refine Ev.br (fun h1 => ?_) (fun h1 => ?_)
  · refine Ev.go (st' := (30, [some (vR 39), some (vI x1), some (vI x2)], [vI (0 : Int32)], wd κ (mM a40 a41 a42 a43 a44 a45 a46 a47 a48 a49 a50 v11 v12 v13 v14), (0, 0))) 1 rfl trivial ?_
    exact Ev.wk (Lle.n (Lle.n (Lle.n Lle.z))) (Ev.to kJ1 (by simp only [iF_pos h1]))
  · refine Ev.go (st' := (11, [some (vR 39), some (vI x1), some (vI x2)], [vI x1, vR 39], wd κ (mM a40 a41 a42 a43 a44 a45 a46 a47 a48 a49 a50 v11 v12 v13 v14), (0, 0))) 2 rfl trivial ?_
    refine Ev.callI (a := 28) (As := [vR 39, vI x1]) [] (f_M_isUp x1 a40) (wd κ (mM a40 a41 a42 a43 a44 a45 a46 a47 a48 a49 a50 v11 v12 v13 v14)) rfl (e_M_isUp_39 κ a40 a41 a42 a43 a44 a45 a46 a47 a48 a49 a50 v11 v12 v13 v14 x1 (hP.2.1.2 h1).1) ?_
    refine Ev.go (st' := (if (f_M_isUp x1 a40) = 0 then 29 else 17, [some (vR 39), some (vI x1), some (vI x2)], [], wd κ (mM a40 a41 a42 a43 a44 a45 a46 a47 a48 a49 a50 v11 v12 v13 v14), (0, 0))) 1 rfl trivial ?_
    have kJ2 : Ev none 47 (30, [none, none, none], [vI (iF ((f_M_isUp x1 a40) = 0) (0 : Int32) (iF ((f_M_isUp x2 a40) = 0) (0 : Int32) (1 : Int32)))], wd κ (mM a40 a41 a42 a43 a44 a45 a46 a47 a48 a49 a50 v11 v12 v13 v14), (0, 0)) r := by
      exact Ev.wk (Lle.n (Lle.n (Lle.n Lle.z))) (Ev.to kJ1 (by simp only [iF_neg h1]))
    refine Ev.br (fun h2 => ?_) (fun h2 => ?_)
    · refine Ev.go (st' := (30, [some (vR 39), some (vI x1), some (vI x2)], [vI (0 : Int32)], wd κ (mM a40 a41 a42 a43 a44 a45 a46 a47 a48 a49 a50 v11 v12 v13 v14), (0, 0))) 1 rfl trivial ?_
      exact Ev.wk (Lle.n (Lle.n (Lle.n Lle.z))) (Ev.to kJ2 (by simp only [iF_pos h2]))
    · refine Ev.go (st' := (19, [some (vR 39), some (vI x1), some (vI x2)], [vI x2, vR 39], wd κ (mM a40 a41 a42 a43 a44 a45 a46 a47 a48 a49 a50 v11 v12 v13 v14), (0, 0))) 2 rfl trivial ?_
      refine Ev.callI (a := 28) (As := [vR 39, vI x2]) [] (f_M_isUp x2 a40) (wd κ (mM a40 a41 a42 a43 a44 a45 a46 a47 a48 a49 a50 v11 v12 v13 v14)) rfl (e_M_isUp_39 κ a40 a41 a42 a43 a44 a45 a46 a47 a48 a49 a50 v11 v12 v13 v14 x2 ((hP.2.1.2 h1).2.1.2 h2).1) ?_
      refine Ev.go (st' := (if (f_M_isUp x2 a40) = 0 then 29 else 25, [some (vR 39), some (vI x1), some (vI x2)], [], wd κ (mM a40 a41 a42 a43 a44 a45 a46 a47 a48 a49 a50 v11 v12 v13 v14), (0, 0))) 1 rfl trivial ?_
      have kJ3 : Ev none 47 (30, [none, none, none], [vI (iF ((f_M_isUp x2 a40) = 0) (0 : Int32) (1 : Int32))], wd κ (mM a40 a41 a42 a43 a44 a45 a46 a47 a48 a49 a50 v11 v12 v13 v14), (0, 0)) r := by
        exact Ev.wk (Lle.n (Lle.n (Lle.n Lle.z))) (Ev.to kJ2 (by simp only [iF_neg h2]))
      refine Ev.br (fun h3 => ?_) (fun h3 => ?_)
      · refine Ev.go (st' := (30, [some (vR 39), some (vI x1), some (vI x2)], [vI (0 : Int32)], wd κ (mM a40 a41 a42 a43 a44 a45 a46 a47 a48 a49 a50 v11 v12 v13 v14), (0, 0))) 1 rfl trivial ?_
        exact Ev.wk (Lle.n (Lle.n (Lle.n Lle.z))) (Ev.to kJ3 (by simp only [iF_pos h3]))
      · refine Ev.go (st' := (30, [some (vR 39), some (vI x1), some (vI x2)], [vI (1 : Int32)], wd κ (mM a40 a41 a42 a43 a44 a45 a46 a47 a48 a49 a50 v11 v12 v13 v14), (0, 0))) 2 rfl trivial ?_
        exact Ev.wk (Lle.n (Lle.n (Lle.n Lle.z))) (Ev.to kJ3 (by simp only [iF_neg h3]))
/-! OF MeshNamesModel.shortenOnce()Z -/
noncomputable def b_M_shortenOnce_3 (p1 : Int32) (state_ : Nat → Int32) (p2 : Int32) (j : Nat) (v : Int32 × (Nat → Int32)) : Int32 × (Nat → Int32) := ((iF ((f_M_counts p1 (nI j) state_) = 0) v.1 (iF ((v.2 (((8 : Int32) * p2) + (nI j)).toNatClampNeg) ≤ ((v.2 (((8 : Int32) * p2) + p1).toNatClampNeg) + (1 : Int32))) v.1 (1 : Int32))), (iF ((f_M_counts p1 (nI j) state_) = 0) v.2 (iF ((v.2 (((8 : Int32) * p2) + (nI j)).toNatClampNeg) ≤ ((v.2 (((8 : Int32) * p2) + p1).toNatClampNeg) + (1 : Int32))) v.2 (upd v.2 (((8 : Int32) * p2) + (nI j)).toNatClampNeg ((v.2 (((8 : Int32) * p2) + p1).toNatClampNeg) + (1 : Int32))))))
def P_M_shortenOnce_3 (p1 : Int32) (state_ : Nat → Int32) (p2 : Int32) (j : Nat) (v : Int32 × (Nat → Int32)) : Prop := (P_M_counts p1 (nI j) state_) ∧ (((f_M_counts p1 (nI j) state_) = 0 → True) ∧ (¬ ((f_M_counts p1 (nI j) state_) = 0) → (vp_in (((8 : Int32) * p2) + p1) 64 ∧ vp_in (((8 : Int32) * p2) + (nI j)) 64 ∧ (((v.2 (((8 : Int32) * p2) + (nI j)).toNatClampNeg) ≤ ((v.2 (((8 : Int32) * p2) + p1).toNatClampNeg) + (1 : Int32)) → True) ∧ (¬ ((v.2 (((8 : Int32) * p2) + (nI j)).toNatClampNeg) ≤ ((v.2 (((8 : Int32) * p2) + p1).toNatClampNeg) + (1 : Int32))) → (vp_in (((8 : Int32) * p2) + p1) 64 ∧ vp_in (((8 : Int32) * p2) + (nI j)) 64 ∧ True))) ∧ True))) ∧ True
noncomputable def b_M_shortenOnce_2 (state_ : Nat → Int32) (p1 : Int32) (j : Nat) (v : Int32 × (Nat → Int32)) : Int32 × (Nat → Int32) := ((forN (b_M_shortenOnce_3 (nI j) state_ p1) 0 8 (v.1, v.2)).1, (forN (b_M_shortenOnce_3 (nI j) state_ p1) 0 8 (v.1, v.2)).2)
def P_M_shortenOnce_2 (state_ : Nat → Int32) (p1 : Int32) (j : Nat) (v : Int32 × (Nat → Int32)) : Prop := (∀ q, q < 8 → P_M_shortenOnce_3 (nI j) state_ p1 (0 + q) (forN (b_M_shortenOnce_3 (nI j) state_ p1) 0 q (v.1, v.2))) ∧ True
noncomputable def b_M_shortenOnce_1 (state_ : Nat → Int32) (j : Nat) (v : Int32 × (Nat → Int32)) : Int32 × (Nat → Int32) := ((forN (b_M_shortenOnce_2 state_ (nI j)) 0 8 (v.1, v.2)).1, (forN (b_M_shortenOnce_2 state_ (nI j)) 0 8 (v.1, v.2)).2)
def P_M_shortenOnce_1 (state_ : Nat → Int32) (j : Nat) (v : Int32 × (Nat → Int32)) : Prop := (∀ q, q < 8 → P_M_shortenOnce_2 state_ (nI j) (0 + q) (forN (b_M_shortenOnce_2 state_ (nI j)) 0 q (v.1, v.2))) ∧ True
noncomputable def f_M_shortenOnce (state_ : Nat → Int32) (steps : Nat → Int32) : Int32 × (Nat → Int32) := ((forN (b_M_shortenOnce_1 state_) 0 8 ((0 : Int32), steps)).1, (forN (b_M_shortenOnce_1 state_) 0 8 ((0 : Int32), steps)).2)
def P_M_shortenOnce (state_ : Nat → Int32) (steps : Nat → Int32) : Prop := (∀ q, q < 8 → P_M_shortenOnce_1 state_ (0 + q) (forN (b_M_shortenOnce_1 state_) 0 q ((0 : Int32), steps))) ∧ ((forN (b_M_shortenOnce_1 state_) 0 8 ((0 : Int32), steps)).1 &&& 1 = (forN (b_M_shortenOnce_1 state_) 0 8 ((0 : Int32), steps)).1) ∧ True
set_option maxRecDepth 8000 in
set_option maxHeartbeats 4000000 in
theorem e_M_shortenOnce_39 (κ : Sg) (a40 a41 a42 a43 a44 a45 a46 a47 a48 a49 a50 : Nat → Int32) (v11 v12 v13 v14 : Int32) (hP : P_M_shortenOnce a40 a43)  : Ev none 48 (0, [some (vR 39), none, none, none, none], [], wd κ (mM a40 a41 a42 a43 a44 a45 a46 a47 a48 a49 a50 v11 v12 v13 v14), (0, 0)) (some (f_M_shortenOnce a40 a43).1, wd κ (mM a40 a41 a42 (f_M_shortenOnce a40 a43).2 a44 a45 a46 a47 a48 a49 a50 v11 v12 v13 v14)) := by
  suffices hh : ∀ (r : Option Int32 × AW) (K : (Int32 × (Nat → Int32)) → Prop), K = (fun o : Int32 × (Nat → Int32) => (some o.1, wd κ (mM a40 a41 a42 o.2 a44 a45 a46 a47 a48 a49 a50 v11 v12 v13 v14)) = r) → K ((forN (b_M_shortenOnce_1 a40) 0 8 ((0 : Int32), a43)).1, (forN (b_M_shortenOnce_1 a40) 0 8 ((0 : Int32), a43)).2) → Ev none 48 (0, [some (vR 39), none, none, none, none], [], wd κ (mM a40 a41 a42 a43 a44 a45 a46 a47 a48 a49 a50 v11 v12 v13 v14), (0, 0)) r from hh _ _ rfl rfl
  intro r K hK k
  refine Ev.go (st' := (4, [some (vR 39), some (vI (0 : Int32)), some (vI (0 : Int32)), none, none], [], wd κ (mM a40 a41 a42 a43 a44 a45 a46 a47 a48 a49 a50 v11 v12 v13 v14), (0, 0))) 4 rfl trivial ?_
  refine Ev.wk (Lle.s (Lle.s (Lle.s (Lle.n (Lle.n Lle.z))))) ?_
  refine Ev.loopN (fun c v => (4, [some (vR 39), some (vI v.1), some (vI c), none, none], [], wd κ (mM a40 a41 a42 v.2 a44 a45 a46 a47 a48 a49 a50 v11 v12 v13 v14), (0, 0))) (b_M_shortenOnce_1 a40) 0 8 8 ((0 : Int32), a43) (c0 := (0 : Int32)) rfl (by omega) (fun j hj k2 => ?_) ?_
  · have hp1 := hP.1 j hj
    have hi1 : 0 + j < 8 := by omega
    clear hj
    generalize forN (b_M_shortenOnce_1 a40) 0 j ((0 : Int32), a43) = u1 at hp1 k2 ⊢
    generalize 0 + j = i1 at hi1 hp1 k2 ⊢
    show Ev none 48 (4, [some (vR 39), some (vI u1.1), some (vI (nI i1)), none, none], [], wd κ (mM a40 a41 a42 u1.2 a44 a45 a46 a47 a48 a49 a50 v11 v12 v13 v14), (0, 0)) r
    refine Ev.go (st' := (if (8 : Int32) ≤ nI i1 then 111 else 10, [some (vR 39), some (vI u1.1), some (vI (nI i1)), none, none], [], wd κ (mM a40 a41 a42 u1.2 a44 a45 a46 a47 a48 a49 a50 v11 v12 v13 v14), (0, 0))) 3 rfl trivial (Ev.brF (nI_ge hi1 (by decide)) ?_)
    refine Ev.go (st' := (12, [some (vR 39), some (vI u1.1), some (vI (nI i1)), some (vI (0 : Int32)), none], [], wd κ (mM a40 a41 a42 u1.2 a44 a45 a46 a47 a48 a49 a50 v11 v12 v13 v14), (0, 0))) 2 rfl trivial ?_
    refine Ev.wk (Lle.s (Lle.s (Lle.s (Lle.s (Lle.n Lle.z))))) ?_
    refine Ev.loopN (fun c v => (12, [some (vR 39), some (vI v.1), some (vI (nI i1)), some (vI c), none], [], wd κ (mM a40 a41 a42 v.2 a44 a45 a46 a47 a48 a49 a50 v11 v12 v13 v14), (0, 0))) (b_M_shortenOnce_2 a40 (nI i1)) 0 8 8 (u1.1, u1.2) (c0 := (0 : Int32)) rfl (by omega) (fun j hj k2 => ?_) ?_
    · have hp2 := hp1.1 j hj
      have hi2 : 0 + j < 8 := by omega
      clear hj
      generalize forN (b_M_shortenOnce_2 a40 (nI i1)) 0 j (u1.1, u1.2) = u2 at hp2 k2 ⊢
      generalize 0 + j = i2 at hi2 hp2 k2 ⊢
      show Ev none 48 (12, [some (vR 39), some (vI u2.1), some (vI (nI i1)), some (vI (nI i2)), none], [], wd κ (mM a40 a41 a42 u2.2 a44 a45 a46 a47 a48 a49 a50 v11 v12 v13 v14), (0, 0)) r
      refine Ev.go (st' := (if (8 : Int32) ≤ nI i2 then 105 else 18, [some (vR 39), some (vI u2.1), some (vI (nI i1)), some (vI (nI i2)), none], [], wd κ (mM a40 a41 a42 u2.2 a44 a45 a46 a47 a48 a49 a50 v11 v12 v13 v14), (0, 0))) 3 rfl trivial (Ev.brF (nI_ge hi2 (by decide)) ?_)
      refine Ev.go (st' := (21, [some (vR 39), some (vI u2.1), some (vI (nI i1)), some (vI (nI i2)), some (vI (0 : Int32))], [], wd κ (mM a40 a41 a42 u2.2 a44 a45 a46 a47 a48 a49 a50 v11 v12 v13 v14), (0, 0))) 2 rfl trivial ?_
      refine Ev.wk (Lle.s (Lle.s (Lle.s (Lle.s (Lle.s Lle.z))))) ?_
      refine Ev.loopN (fun c v => (21, [some (vR 39), some (vI v.1), some (vI (nI i1)), some (vI (nI i2)), some (vI c)], [], wd κ (mM a40 a41 a42 v.2 a44 a45 a46 a47 a48 a49 a50 v11 v12 v13 v14), (0, 0))) (b_M_shortenOnce_3 (nI i2) a40 (nI i1)) 0 8 8 (u2.1, u2.2) (c0 := (0 : Int32)) rfl (by omega) (fun j hj k2 => ?_) ?_
      · have hp3 := hp2.1 j hj
        have hi3 : 0 + j < 8 := by omega
        clear hj
        generalize forN (b_M_shortenOnce_3 (nI i2) a40 (nI i1)) 0 j (u2.1, u2.2) = u3 at hp3 k2 ⊢
        generalize 0 + j = i3 at hi3 hp3 k2 ⊢
        show Ev none 48 (21, [some (vR 39), some (vI u3.1), some (vI (nI i1)), some (vI (nI i2)), some (vI (nI i3))], [], wd κ (mM a40 a41 a42 u3.2 a44 a45 a46 a47 a48 a49 a50 v11 v12 v13 v14), (0, 0)) r
        refine Ev.go (st' := (if (8 : Int32) ≤ nI i3 then 99 else 28, [some (vR 39), some (vI u3.1), some (vI (nI i1)), some (vI (nI i2)), some (vI (nI i3))], [], wd κ (mM a40 a41 a42 u3.2 a44 a45 a46 a47 a48 a49 a50 v11 v12 v13 v14), (0, 0))) 3 rfl trivial (Ev.brF (nI_ge hi3 (by decide)) ?_)
        refine Ev.go (st' := (32, [some (vR 39), some (vI u3.1), some (vI (nI i1)), some (vI (nI i2)), some (vI (nI i3))], [vI (nI i3), vI (nI i2), vR 39], wd κ (mM a40 a41 a42 u3.2 a44 a45 a46 a47 a48 a49 a50 v11 v12 v13 v14), (0, 0))) 3 rfl trivial ?_
        refine Ev.callI (a := 47) (As := [vR 39, vI (nI i2), vI (nI i3)]) [] (f_M_counts (nI i2) (nI i3) a40) (wd κ (mM a40 a41 a42 u3.2 a44 a45 a46 a47 a48 a49 a50 v11 v12 v13 v14)) rfl (e_M_counts_39 κ a40 a41 a42 u3.2 a44 a45 a46 a47 a48 a49 a50 v11 v12 v13 v14 (nI i2) (nI i3) hp3.1) ?_
        refine Ev.go (st' := (if (f_M_counts (nI i2) (nI i3) a40) = 0 then 93 else 38, [some (vR 39), some (vI u3.1), some (vI (nI i1)), some (vI (nI i2)), some (vI (nI i3))], [], wd κ (mM a40 a41 a42 u3.2 a44 a45 a46 a47 a48 a49 a50 v11 v12 v13 v14), (0, 0))) 1 rfl trivial ?_
        have kJ4 : Ev none 48 (93, [some (vR 39), some (vI (iF ((f_M_counts (nI i2) (nI i3) a40) = 0) u3.1 (iF ((u3.2 (((8 : Int32) * (nI i1)) + (nI i3)).toNatClampNeg) ≤ ((u3.2 (((8 : Int32) * (nI i1)) + (nI i2)).toNatClampNeg) + (1 : Int32))) u3.1 (1 : Int32)))), some (vI (nI i1)), some (vI (nI i2)), some (vI (nI i3))], [], wd κ (mM a40 a41 a42 (iF ((f_M_counts (nI i2) (nI i3) a40) = 0) u3.2 (iF ((u3.2 (((8 : Int32) * (nI i1)) + (nI i3)).toNatClampNeg) ≤ ((u3.2 (((8 : Int32) * (nI i1)) + (nI i2)).toNatClampNeg) + (1 : Int32))) u3.2 (upd u3.2 (((8 : Int32) * (nI i1)) + (nI i3)).toNatClampNeg ((u3.2 (((8 : Int32) * (nI i1)) + (nI i2)).toNatClampNeg) + (1 : Int32))))) a44 a45 a46 a47 a48 a49 a50 v11 v12 v13 v14), (0, 0)) r := by
          refine Ev.go (st' := (21, [some (vR 39), some (vI (iF ((f_M_counts (nI i2) (nI i3) a40) = 0) u3.1 (iF ((u3.2 (((8 : Int32) * (nI i1)) + (nI i3)).toNatClampNeg) ≤ ((u3.2 (((8 : Int32) * (nI i1)) + (nI i2)).toNatClampNeg) + (1 : Int32))) u3.1 (1 : Int32)))), some (vI (nI i1)), some (vI (nI i2)), some (vI ((nI i3) + (1 : Int32)))], [], wd κ (mM a40 a41 a42 (iF ((f_M_counts (nI i2) (nI i3) a40) = 0) u3.2 (iF ((u3.2 (((8 : Int32) * (nI i1)) + (nI i3)).toNatClampNeg) ≤ ((u3.2 (((8 : Int32) * (nI i1)) + (nI i2)).toNatClampNeg) + (1 : Int32))) u3.2 (upd u3.2 (((8 : Int32) * (nI i1)) + (nI i3)).toNatClampNeg ((u3.2 (((8 : Int32) * (nI i1)) + (nI i2)).toNatClampNeg) + (1 : Int32))))) a44 a45 a46 a47 a48 a49 a50 v11 v12 v13 v14), (0, 0))) 2 rfl trivial ?_
          exact Ev.wk (Lle.s (Lle.s (Lle.s (Lle.s (Lle.s Lle.z))))) (show Ev none 48 (21, [some (vR 39), some (vI (iF ((f_M_counts (nI i2) (nI i3) a40) = 0) u3.1 (iF ((u3.2 (((8 : Int32) * (nI i1)) + (nI i3)).toNatClampNeg) ≤ ((u3.2 (((8 : Int32) * (nI i1)) + (nI i2)).toNatClampNeg) + (1 : Int32))) u3.1 (1 : Int32)))), some (vI (nI i1)), some (vI (nI i2)), some (vI ((nI i3) + (1 : Int32)))], [], wd κ (mM a40 a41 a42 (iF ((f_M_counts (nI i2) (nI i3) a40) = 0) u3.2 (iF ((u3.2 (((8 : Int32) * (nI i1)) + (nI i3)).toNatClampNeg) ≤ ((u3.2 (((8 : Int32) * (nI i1)) + (nI i2)).toNatClampNeg) + (1 : Int32))) u3.2 (upd u3.2 (((8 : Int32) * (nI i1)) + (nI i3)).toNatClampNeg ((u3.2 (((8 : Int32) * (nI i1)) + (nI i2)).toNatClampNeg) + (1 : Int32))))) a44 a45 a46 a47 a48 a49 a50 v11 v12 v13 v14), (0, 0)) r from k2)
        refine Ev.br (fun h4 => ?_) (fun h4 => ?_)
        · exact Ev.wk (Lle.s (Lle.s (Lle.s (Lle.s (Lle.s Lle.z))))) (Ev.to kJ4 (by simp only [iF_pos h4]))
        · refine Ev.go (st' := (if (u3.2 (((8 : Int32) * (nI i1)) + (nI i3)).toNatClampNeg) ≤ ((u3.2 (((8 : Int32) * (nI i1)) + (nI i2)).toNatClampNeg) + (1 : Int32)) then 93 else 66, [some (vR 39), some (vI u3.1), some (vI (nI i1)), some (vI (nI i2)), some (vI (nI i3))], [], wd κ (mM a40 a41 a42 u3.2 a44 a45 a46 a47 a48 a49 a50 v11 v12 v13 v14), (0, 0))) 19 rfl ⟨(hp3.2.1.2 h4).1, (hp3.2.1.2 h4).2.1, trivial⟩ ?_
          have kJ5 : Ev none 48 (93, [some (vR 39), some (vI (iF ((u3.2 (((8 : Int32) * (nI i1)) + (nI i3)).toNatClampNeg) ≤ ((u3.2 (((8 : Int32) * (nI i1)) + (nI i2)).toNatClampNeg) + (1 : Int32))) u3.1 (1 : Int32))), some (vI (nI i1)), some (vI (nI i2)), some (vI (nI i3))], [], wd κ (mM a40 a41 a42 (iF ((u3.2 (((8 : Int32) * (nI i1)) + (nI i3)).toNatClampNeg) ≤ ((u3.2 (((8 : Int32) * (nI i1)) + (nI i2)).toNatClampNeg) + (1 : Int32))) u3.2 (upd u3.2 (((8 : Int32) * (nI i1)) + (nI i3)).toNatClampNeg ((u3.2 (((8 : Int32) * (nI i1)) + (nI i2)).toNatClampNeg) + (1 : Int32)))) a44 a45 a46 a47 a48 a49 a50 v11 v12 v13 v14), (0, 0)) r := by
            exact Ev.wk (Lle.s (Lle.s (Lle.s (Lle.s (Lle.s Lle.z))))) (Ev.to kJ4 (by simp only [iF_neg h4]))
          refine Ev.br (fun h5 => ?_) (fun h5 => ?_)
          · exact Ev.wk (Lle.s (Lle.s (Lle.s (Lle.s (Lle.s Lle.z))))) (Ev.to kJ5 (by simp only [iF_pos h5]))
          · refine Ev.go (st' := (91, [some (vR 39), some (vI u3.1), some (vI (nI i1)), some (vI (nI i2)), some (vI (nI i3))], [], wd κ (mM a40 a41 a42 (upd u3.2 (((8 : Int32) * (nI i1)) + (nI i3)).toNatClampNeg ((u3.2 (((8 : Int32) * (nI i1)) + (nI i2)).toNatClampNeg) + (1 : Int32))) a44 a45 a46 a47 a48 a49 a50 v11 v12 v13 v14), (0, 0))) 18 rfl ⟨((hp3.2.1.2 h4).2.2.1.2 h5).1, ((hp3.2.1.2 h4).2.2.1.2 h5).2.1, trivial⟩ ?_
            refine Ev.go (st' := (93, [some (vR 39), some (vI (1 : Int32)), some (vI (nI i1)), some (vI (nI i2)), some (vI (nI i3))], [], wd κ (mM a40 a41 a42 (upd u3.2 (((8 : Int32) * (nI i1)) + (nI i3)).toNatClampNeg ((u3.2 (((8 : Int32) * (nI i1)) + (nI i2)).toNatClampNeg) + (1 : Int32))) a44 a45 a46 a47 a48 a49 a50 v11 v12 v13 v14), (0, 0))) 2 rfl trivial ?_
            exact Ev.wk (Lle.s (Lle.s (Lle.s (Lle.s (Lle.s Lle.z))))) (Ev.to kJ5 (by simp only [iF_neg h5]))
      · refine Ev.go (st' := (if (8 : Int32) ≤ nI 8 then 99 else 28, [some (vR 39), some (vI (forN (b_M_shortenOnce_3 (nI i2) a40 (nI i1)) 0 8 (u2.1, u2.2)).1), some (vI (nI i1)), some (vI (nI i2)), some (vI (nI 8))], [], wd κ (mM a40 a41 a42 (forN (b_M_shortenOnce_3 (nI i2) a40 (nI i1)) 0 8 (u2.1, u2.2)).2 a44 a45 a46 a47 a48 a49 a50 v11 v12 v13 v14), (0, 0))) 3 rfl trivial (Ev.brN (by decide) ?_)
        refine Ev.wk (Lle.s (Lle.s (Lle.s (Lle.s (Lle.n Lle.z))))) ?_
        refine Ev.go (st' := (12, [some (vR 39), some (vI (forN (b_M_shortenOnce_3 (nI i2) a40 (nI i1)) 0 8 (u2.1, u2.2)).1), some (vI (nI i1)), some (vI ((nI i2) + (1 : Int32))), none], [], wd κ (mM a40 a41 a42 (forN (b_M_shortenOnce_3 (nI i2) a40 (nI i1)) 0 8 (u2.1, u2.2)).2 a44 a45 a46 a47 a48 a49 a50 v11 v12 v13 v14), (0, 0))) 2 rfl trivial ?_
        exact Ev.wk (Lle.s (Lle.s (Lle.s (Lle.s (Lle.n Lle.z))))) (show Ev none 48 (12, [some (vR 39), some (vI (forN (b_M_shortenOnce_3 (nI i2) a40 (nI i1)) 0 8 (u2.1, u2.2)).1), some (vI (nI i1)), some (vI ((nI i2) + (1 : Int32))), none], [], wd κ (mM a40 a41 a42 (forN (b_M_shortenOnce_3 (nI i2) a40 (nI i1)) 0 8 (u2.1, u2.2)).2 a44 a45 a46 a47 a48 a49 a50 v11 v12 v13 v14), (0, 0)) r from k2)
    · refine Ev.go (st' := (if (8 : Int32) ≤ nI 8 then 105 else 18, [some (vR 39), some (vI (forN (b_M_shortenOnce_2 a40 (nI i1)) 0 8 (u1.1, u1.2)).1), some (vI (nI i1)), some (vI (nI 8)), none], [], wd κ (mM a40 a41 a42 (forN (b_M_shortenOnce_2 a40 (nI i1)) 0 8 (u1.1, u1.2)).2 a44 a45 a46 a47 a48 a49 a50 v11 v12 v13 v14), (0, 0))) 3 rfl trivial (Ev.brN (by decide) ?_)
      refine Ev.wk (Lle.s (Lle.s (Lle.s (Lle.n (Lle.n Lle.z))))) ?_
      refine Ev.go (st' := (4, [some (vR 39), some (vI (forN (b_M_shortenOnce_2 a40 (nI i1)) 0 8 (u1.1, u1.2)).1), some (vI ((nI i1) + (1 : Int32))), none, none], [], wd κ (mM a40 a41 a42 (forN (b_M_shortenOnce_2 a40 (nI i1)) 0 8 (u1.1, u1.2)).2 a44 a45 a46 a47 a48 a49 a50 v11 v12 v13 v14), (0, 0))) 2 rfl trivial ?_
      exact Ev.wk (Lle.s (Lle.s (Lle.s (Lle.n (Lle.n Lle.z))))) (show Ev none 48 (4, [some (vR 39), some (vI (forN (b_M_shortenOnce_2 a40 (nI i1)) 0 8 (u1.1, u1.2)).1), some (vI ((nI i1) + (1 : Int32))), none, none], [], wd κ (mM a40 a41 a42 (forN (b_M_shortenOnce_2 a40 (nI i1)) 0 8 (u1.1, u1.2)).2 a44 a45 a46 a47 a48 a49 a50 v11 v12 v13 v14), (0, 0)) r from k2)
  · refine Ev.go (st' := (if (8 : Int32) ≤ nI 8 then 111 else 10, [some (vR 39), some (vI (forN (b_M_shortenOnce_1 a40) 0 8 ((0 : Int32), a43)).1), some (vI (nI 8)), none, none], [], wd κ (mM a40 a41 a42 (forN (b_M_shortenOnce_1 a40) 0 8 ((0 : Int32), a43)).2 a44 a45 a46 a47 a48 a49 a50 v11 v12 v13 v14), (0, 0))) 3 rfl trivial (Ev.brN (by decide) ?_)
    refine Ev.wk (Lle.n (Lle.s (Lle.n (Lle.n (Lle.n Lle.z))))) ?_
    refine Ev.go (st' := (112, [none, some (vI (forN (b_M_shortenOnce_1 a40) 0 8 ((0 : Int32), a43)).1), none, none, none], [vI (forN (b_M_shortenOnce_1 a40) 0 8 ((0 : Int32), a43)).1], wd κ (mM a40 a41 a42 (forN (b_M_shortenOnce_1 a40) 0 8 ((0 : Int32), a43)).2 a44 a45 a46 a47 a48 a49 a50 v11 v12 v13 v14), (0, 0))) 1 rfl trivial ?_
    rw [hK] at k
    have k3 : (some (forN (b_M_shortenOnce_1 a40) 0 8 ((0 : Int32), a43)).1, wd κ (mM a40 a41 a42 (forN (b_M_shortenOnce_1 a40) 0 8 ((0 : Int32), a43)).2 a44 a45 a46 a47 a48 a49 a50 v11 v12 v13 v14)) = r := k
    rw [← k3]
    exact Ev.iretz rfl rfl hP.2.1
/-! OF MeshNamesModel.laySteps()V -/
noncomputable def b_M_laySteps_1 (state_ : Nat → Int32) (j : Nat) (v : Nat → Int32) : Nat → Int32 := (upd v (nI j).toNatClampNeg (iF (((nI j) / (8 : Int32)) = ((nI j) - (nI j) / (8 : Int32) * (8 : Int32))) (iF ((f_M_isUp ((nI j) / (8 : Int32)) state_) = 0) (1000 : Int32) (0 : Int32)) (1000 : Int32)))
def P_M_laySteps_1 (state_ : Nat → Int32) (j : Nat) (v : Nat → Int32) : Prop := ((((nI j) / (8 : Int32)) = ((nI j) - (nI j) / (8 : Int32) * (8 : Int32)) → ((P_M_isUp ((nI j) / (8 : Int32)) state_) ∧ True)) ∧ (¬ (((nI j) / (8 : Int32)) = ((nI j) - (nI j) / (8 : Int32) * (8 : Int32))) → True)) ∧ True
noncomputable def b_M_laySteps_2 (state_ : Nat → Int32) (j : Nat) (v : Int32 × (Nat → Int32)) : (Int32 × (Nat → Int32)) ⊕ (Int32 × (Nat → Int32)) := (iF (v.1 = 0) (.inr (v.1, v.2)) (.inl ((f_M_shortenOnce state_ v.2).1, (f_M_shortenOnce state_ v.2).2)))
def P_M_laySteps_2 (state_ : Nat → Int32) (j : Nat) (v : Int32 × (Nat → Int32)) : Prop := ((v.1 = 0 → True) ∧ (¬ (v.1 = 0) → ((P_M_shortenOnce state_ v.2) ∧ True))) ∧ True
noncomputable def f_M_laySteps (state_ : Nat → Int32) (steps : Nat → Int32) : Nat → Int32 := (unX (forX (b_M_laySteps_2 state_) 0 20 ((1 : Int32), (forN (b_M_laySteps_1 state_) 0 64 steps)))).2
def P_M_laySteps (state_ : Nat → Int32) (steps : Nat → Int32) : Prop := (∀ q, q < 64 → P_M_laySteps_1 state_ (0 + q) (forN (b_M_laySteps_1 state_) 0 q steps)) ∧ (∃ u, forX (b_M_laySteps_2 state_) 0 20 ((1 : Int32), (forN (b_M_laySteps_1 state_) 0 64 steps)) = .inr u) ∧ (∀ q u, q < 20 → forX (b_M_laySteps_2 state_) 0 q ((1 : Int32), (forN (b_M_laySteps_1 state_) 0 64 steps)) = .inl u → P_M_laySteps_2 state_ (0 + q) u) ∧ True
set_option maxRecDepth 8000 in
set_option maxHeartbeats 4000000 in
theorem e_M_laySteps_39 (κ : Sg) (a40 a41 a42 a43 a44 a45 a46 a47 a48 a49 a50 : Nat → Int32) (v11 v12 v13 v14 : Int32) (hP : P_M_laySteps a40 a43)  : Ev none 49 (0, [some (vR 39), none], [], wd κ (mM a40 a41 a42 a43 a44 a45 a46 a47 a48 a49 a50 v11 v12 v13 v14), (0, 0)) (none, wd κ (mM a40 a41 a42 (f_M_laySteps a40 a43) a44 a45 a46 a47 a48 a49 a50 v11 v12 v13 v14)) := by
  suffices hh : ∀ (r : Option Int32 × AW) (K : (Nat → Int32) → Prop), K = (fun o : Nat → Int32 => (none, wd κ (mM a40 a41 a42 o a44 a45 a46 a47 a48 a49 a50 v11 v12 v13 v14)) = r) → K (unX (forX (b_M_laySteps_2 a40) 0 20 ((1 : Int32), (forN (b_M_laySteps_1 a40) 0 64 a43)))).2 → Ev none 49 (0, [some (vR 39), none], [], wd κ (mM a40 a41 a42 a43 a44 a45 a46 a47 a48 a49 a50 v11 v12 v13 v14), (0, 0)) r from hh _ _ rfl rfl
  intro r K hK k
  refine Ev.go (st' := (2, [some (vR 39), some (vI (0 : Int32))], [], wd κ (mM a40 a41 a42 a43 a44 a45 a46 a47 a48 a49 a50 v11 v12 v13 v14), (0, 0))) 2 rfl trivial ?_
  refine Ev.wk (Lle.s (Lle.s Lle.z)) ?_
  refine Ev.loopN (fun c v => (2, [some (vR 39), some (vI c)], [], wd κ (mM a40 a41 a42 v a44 a45 a46 a47 a48 a49 a50 v11 v12 v13 v14), (0, 0))) (b_M_laySteps_1 a40) 0 64 64 a43 (c0 := (0 : Int32)) rfl (by omega) (fun j hj k2 => ?_) ?_
  · have hp1 := hP.1 j hj
    have hi1 : 0 + j < 64 := by omega
    clear hj
    generalize forN (b_M_laySteps_1 a40) 0 j a43 = u1 at hp1 k2 ⊢
    generalize 0 + j = i1 at hi1 hp1 k2 ⊢
    show Ev none 49 (2, [some (vR 39), some (vI (nI i1))], [], wd κ (mM a40 a41 a42 u1 a44 a45 a46 a47 a48 a49 a50 v11 v12 v13 v14), (0, 0)) r
    refine Ev.go (st' := (if (64 : Int32) ≤ nI i1 then 49 else 8, [some (vR 39), some (vI (nI i1))], [], wd κ (mM a40 a41 a42 u1 a44 a45 a46 a47 a48 a49 a50 v11 v12 v13 v14), (0, 0))) 3 rfl trivial (Ev.brF (nI_ge hi1 (by decide)) ?_)
    refine Ev.go (st' := (if ((nI i1) / (8 : Int32)) = ((nI i1) - (nI i1) / (8 : Int32) * (8 : Int32)) then 24 else 39, [some (vR 39), some (vI (nI i1))], [vI (nI i1), vR 43], wd κ (mM a40 a41 a42 u1 a44 a45 a46 a47 a48 a49 a50 v11 v12 v13 v14), (0, 0))) 10 rfl ⟨(by decide), (by decide), trivial⟩ ?_
    have kJ2 : Ev none 49 (42, [some (vR 39), some (vI (nI i1))], [vI (iF (((nI i1) / (8 : Int32)) = ((nI i1) - (nI i1) / (8 : Int32) * (8 : Int32))) (iF ((f_M_isUp ((nI i1) / (8 : Int32)) a40) = 0) (1000 : Int32) (0 : Int32)) (1000 : Int32)), vI (nI i1), vR 43], wd κ (mM a40 a41 a42 u1 a44 a45 a46 a47 a48 a49 a50 v11 v12 v13 v14), (0, 0)) r := by
      refine Ev.go (st' := (43, [some (vR 39), some (vI (nI i1))], [], wd κ (mM a40 a41 a42 (upd u1 (nI i1).toNatClampNeg (iF (((nI i1) / (8 : Int32)) = ((nI i1) - (nI i1) / (8 : Int32) * (8 : Int32))) (iF ((f_M_isUp ((nI i1) / (8 : Int32)) a40) = 0) (1000 : Int32) (0 : Int32)) (1000 : Int32))) a44 a45 a46 a47 a48 a49 a50 v11 v12 v13 v14), (0, 0))) 1 rfl ⟨(vp_in_nI (by omega) (by decide)), trivial⟩ ?_
      refine Ev.go (st' := (2, [some (vR 39), some (vI ((nI i1) + (1 : Int32)))], [], wd κ (mM a40 a41 a42 (upd u1 (nI i1).toNatClampNeg (iF (((nI i1) / (8 : Int32)) = ((nI i1) - (nI i1) / (8 : Int32) * (8 : Int32))) (iF ((f_M_isUp ((nI i1) / (8 : Int32)) a40) = 0) (1000 : Int32) (0 : Int32)) (1000 : Int32))) a44 a45 a46 a47 a48 a49 a50 v11 v12 v13 v14), (0, 0))) 2 rfl trivial ?_
      exact Ev.wk (Lle.s (Lle.s Lle.z)) (show Ev none 49 (2, [some (vR 39), some (vI ((nI i1) + (1 : Int32)))], [], wd κ (mM a40 a41 a42 (upd u1 (nI i1).toNatClampNeg (iF (((nI i1) / (8 : Int32)) = ((nI i1) - (nI i1) / (8 : Int32) * (8 : Int32))) (iF ((f_M_isUp ((nI i1) / (8 : Int32)) a40) = 0) (1000 : Int32) (0 : Int32)) (1000 : Int32))) a44 a45 a46 a47 a48 a49 a50 v11 v12 v13 v14), (0, 0)) r from k2)
    refine Ev.br (fun h2 => ?_) (fun h2 => ?_)
    · refine Ev.go (st' := (29, [some (vR 39), some (vI (nI i1))], [vI ((nI i1) / (8 : Int32)), vR 39, vI (nI i1), vR 43], wd κ (mM a40 a41 a42 u1 a44 a45 a46 a47 a48 a49 a50 v11 v12 v13 v14), (0, 0))) 4 rfl ⟨(by decide), trivial⟩ ?_
      refine Ev.callI (a := 28) (As := [vR 39, vI ((nI i1) / (8 : Int32))]) [vI (nI i1), vR 43] (f_M_isUp ((nI i1) / (8 : Int32)) a40) (wd κ (mM a40 a41 a42 u1 a44 a45 a46 a47 a48 a49 a50 v11 v12 v13 v14)) rfl (e_M_isUp_39 κ a40 a41 a42 u1 a44 a45 a46 a47 a48 a49 a50 v11 v12 v13 v14 ((nI i1) / (8 : Int32)) (hp1.1.1 h2).1) ?_
      refine Ev.go (st' := (if (f_M_isUp ((nI i1) / (8 : Int32)) a40) = 0 then 39 else 35, [some (vR 39), some (vI (nI i1))], [vI (nI i1), vR 43], wd κ (mM a40 a41 a42 u1 a44 a45 a46 a47 a48 a49 a50 v11 v12 v13 v14), (0, 0))) 1 rfl trivial ?_
      have kJ3 : Ev none 49 (42, [some (vR 39), some (vI (nI i1))], [vI (iF ((f_M_isUp ((nI i1) / (8 : Int32)) a40) = 0) (1000 : Int32) (0 : Int32)), vI (nI i1), vR 43], wd κ (mM a40 a41 a42 u1 a44 a45 a46 a47 a48 a49 a50 v11 v12 v13 v14), (0, 0)) r := by
        exact Ev.wk (Lle.s (Lle.s Lle.z)) (Ev.to kJ2 (by simp only [iF_pos h2]))
      refine Ev.br (fun h3 => ?_) (fun h3 => ?_)
      · refine Ev.go (st' := (42, [some (vR 39), some (vI (nI i1))], [vI (1000 : Int32), vI (nI i1), vR 43], wd κ (mM a40 a41 a42 u1 a44 a45 a46 a47 a48 a49 a50 v11 v12 v13 v14), (0, 0))) 1 rfl trivial ?_
        exact Ev.wk (Lle.s (Lle.s Lle.z)) (Ev.to kJ3 (by simp only [iF_pos h3]))
      · refine Ev.go (st' := (42, [some (vR 39), some (vI (nI i1))], [vI (0 : Int32), vI (nI i1), vR 43], wd κ (mM a40 a41 a42 u1 a44 a45 a46 a47 a48 a49 a50 v11 v12 v13 v14), (0, 0))) 2 rfl trivial ?_
        exact Ev.wk (Lle.s (Lle.s Lle.z)) (Ev.to kJ3 (by simp only [iF_neg h3]))
    · refine Ev.go (st' := (42, [some (vR 39), some (vI (nI i1))], [vI (1000 : Int32), vI (nI i1), vR 43], wd κ (mM a40 a41 a42 u1 a44 a45 a46 a47 a48 a49 a50 v11 v12 v13 v14), (0, 0))) 1 rfl trivial ?_
      exact Ev.wk (Lle.s (Lle.s Lle.z)) (Ev.to kJ2 (by simp only [iF_neg h2]))
  · refine Ev.go (st' := (if (64 : Int32) ≤ nI 64 then 49 else 8, [some (vR 39), some (vI (nI 64))], [], wd κ (mM a40 a41 a42 (forN (b_M_laySteps_1 a40) 0 64 a43) a44 a45 a46 a47 a48 a49 a50 v11 v12 v13 v14), (0, 0))) 3 rfl trivial (Ev.brN (by decide) ?_)
    refine Ev.wk (Lle.s (Lle.n Lle.z)) ?_
    refine Ev.go (st' := (51, [some (vR 39), some (vI (1 : Int32))], [], wd κ (mM a40 a41 a42 (forN (b_M_laySteps_1 a40) 0 64 a43) a44 a45 a46 a47 a48 a49 a50 v11 v12 v13 v14), (0, 0))) 2 rfl trivial ?_
    refine Ev.wk (Lle.s (Lle.s Lle.z)) ?_
    refine Ev.loopA (fun c v => (51, [some (vR 39), some (vI v.1)], [], wd κ (mM a40 a41 a42 v.2 a44 a45 a46 a47 a48 a49 a50 v11 v12 v13 v14), (0, 0))) (fun v => (63, [none, none], [], wd κ (mM a40 a41 a42 v.2 a44 a45 a46 a47 a48 a49 a50 v11 v12 v13 v14), (0, 0))) (b_M_laySteps_2 a40) 0 20 ((1 : Int32), (forN (b_M_laySteps_1 a40) 0 64 a43)) (c0 := (0 : Int32)) rfl hP.2.1 (fun j u4 hj hv K4 hK4 k => ?_) ?_
    · have hp4 := hP.2.2.1 j u4 hj hv
      have hi4 : 0 + j < 0 + 20 := by omega
      clear hj hv
      generalize 0 + j = i4 at hi4 hK4 hp4 k ⊢
      replace k : K4 (iF (u4.1 = 0) (.inr (u4.1, u4.2)) (.inl ((f_M_shortenOnce a40 u4.2).1, (f_M_shortenOnce a40 u4.2).2))) := k
      show Ev none 49 (51, [some (vR 39), some (vI u4.1)], [], wd κ (mM a40 a41 a42 u4.2 a44 a45 a46 a47 a48 a49 a50 v11 v12 v13 v14), (0, 0)) r
      refine Ev.go (st' := (if u4.1 = 0 then 63 else 55, [some (vR 39), some (vI u4.1)], [], wd κ (mM a40 a41 a42 u4.2 a44 a45 a46 a47 a48 a49 a50 v11 v12 v13 v14), (0, 0))) 2 rfl trivial ?_
      refine Ev.brK (K := K4) k (fun h5 k => ?_) (fun h5 k => ?_)
      · rw [hK4] at k
        exact Ev.wk (Lle.n (Lle.n Lle.z)) (show Ev none 49 (63, [none, none], [], wd κ (mM a40 a41 a42 u4.2 a44 a45 a46 a47 a48 a49 a50 v11 v12 v13 v14), (0, 0)) r from k)
      · refine Ev.go (st' := (56, [some (vR 39), some (vI u4.1)], [vR 39], wd κ (mM a40 a41 a42 u4.2 a44 a45 a46 a47 a48 a49 a50 v11 v12 v13 v14), (0, 0))) 1 rfl trivial ?_
        refine Ev.callI (a := 48) (As := [vR 39]) [] (f_M_shortenOnce a40 u4.2).1 (wd κ (mM a40 a41 a42 (f_M_shortenOnce a40 u4.2).2 a44 a45 a46 a47 a48 a49 a50 v11 v12 v13 v14)) rfl (e_M_shortenOnce_39 κ a40 a41 a42 u4.2 a44 a45 a46 a47 a48 a49 a50 v11 v12 v13 v14 (hp4.1.2 h5).1) ?_
        refine Ev.go (st' := (51, [some (vR 39), some (vI (f_M_shortenOnce a40 u4.2).1)], [], wd κ (mM a40 a41 a42 (f_M_shortenOnce a40 u4.2).2 a44 a45 a46 a47 a48 a49 a50 v11 v12 v13 v14), (0, 0))) 2 rfl trivial ?_
        rw [hK4] at k
        exact Ev.wk (Lle.s (Lle.s Lle.z)) (show Ev none 49 (51, [some (vR 39), some (vI (f_M_shortenOnce a40 u4.2).1)], [], wd κ (mM a40 a41 a42 (f_M_shortenOnce a40 u4.2).2 a44 a45 a46 a47 a48 a49 a50 v11 v12 v13 v14), (0, 0)) r from k)
    · show Ev none 49 (63, [none, none], [], wd κ (mM a40 a41 a42 (unX (forX (b_M_laySteps_2 a40) 0 20 ((1 : Int32), (forN (b_M_laySteps_1 a40) 0 64 a43)))).2 a44 a45 a46 a47 a48 a49 a50 v11 v12 v13 v14), (0, 0)) r
      rw [hK] at k
      have k3 : (none, wd κ (mM a40 a41 a42 (unX (forX (b_M_laySteps_2 a40) 0 20 ((1 : Int32), (forN (b_M_laySteps_1 a40) 0 64 a43)))).2 a44 a45 a46 a47 a48 a49 a50 v11 v12 v13 v14)) = r := k
      rw [← k3]
      exact Ev.retv rfl rfl
/-! OF MeshNamesModel.areTogether(II)Z -/
noncomputable def f_M_areTogether (x1 : Int32) (x2 : Int32) (steps : Nat → Int32) : Int32 := (iF ((1000 : Int32) ≤ (steps (((8 : Int32) * x1) + x2).toNatClampNeg)) (0 : Int32) (1 : Int32))
def P_M_areTogether (x1 : Int32) (x2 : Int32) (steps : Nat → Int32) : Prop := vp_in (((8 : Int32) * x1) + x2) 64 ∧ True
theorem z_M_areTogether (x1 : Int32) (x2 : Int32) (steps : Nat → Int32) : (f_M_areTogether x1 x2 steps) &&& 1 = f_M_areTogether x1 x2 steps := (z_iF rfl rfl)
set_option maxRecDepth 8000 in
set_option maxHeartbeats 4000000 in
theorem e_M_areTogether_39 (κ : Sg) (a40 a41 a42 a43 a44 a45 a46 a47 a48 a49 a50 : Nat → Int32) (v11 v12 v13 v14 : Int32) (x1 x2 : Int32) (hP : P_M_areTogether x1 x2 a43)  : Ev none 50 (0, [some (vR 39), some (vI x1), some (vI x2)], [], wd κ (mM a40 a41 a42 a43 a44 a45 a46 a47 a48 a49 a50 v11 v12 v13 v14), (0, 0)) (some (f_M_areTogether x1 x2 a43), wd κ (mM a40 a41 a42 a43 a44 a45 a46 a47 a48 a49 a50 v11 v12 v13 v14)) := by
  suffices hh : ∀ (r : Option Int32 × AW) (K : (Int32) → Prop), K = (fun o : Int32 => (some o, wd κ (mM a40 a41 a42 a43 a44 a45 a46 a47 a48 a49 a50 v11 v12 v13 v14)) = r) → K (iF ((1000 : Int32) ≤ (a43 (((8 : Int32) * x1) + x2).toNatClampNeg)) (0 : Int32) (1 : Int32)) → Ev none 50 (0, [some (vR 39), some (vI x1), some (vI x2)], [], wd κ (mM a40 a41 a42 a43 a44 a45 a46 a47 a48 a49 a50 v11 v12 v13 v14), (0, 0)) r from hh _ _ rfl rfl
  intro r K hK k
  refine Ev.go (st' := (if (1000 : Int32) ≤ (a43 (((8 : Int32) * x1) + x2).toNatClampNeg) then 21 else 17, [some (vR 39), some (vI x1), some (vI x2)], [], wd κ (mM a40 a41 a42 a43 a44 a45 a46 a47 a48 a49 a50 v11 v12 v13 v14), (0, 0))) 10 rfl ⟨hP.1, trivial⟩ ?_
  have kJ1 : Ev none 50 (22, [none, none, none], [vI (iF ((1000 : Int32) ≤ (a43 (((8 : Int32) * x1) + x2).toNatClampNeg)) (0 : Int32) (1 : Int32))], wd κ (mM a40 a41 a42 a43 a44 a45 a46 a47 a48 a49 a50 v11 v12 v13 v14), (0, 0)) r := by
    rw [hK] at k
    have k3 : (some (iF ((1000 : Int32) ≤ (a43 (((8 : Int32) * x1) + x2).toNatClampNeg)) (0 : Int32) (1 : Int32)), wd κ (mM a40 a41 a42 a43 a44 a45 a46 a47 a48 a49 a50 v11 v12 v13 v14)) = r := k
    rw [← k3]
    exact Ev.iretz rfl rfl (by exact (z_iF rfl rfl))
  refine Ev.br (fun h1 => ?_) (fun h1 => ?_)
  · refine Ev.go (st' := (22, [some (vR 39), some (vI x1), some (vI x2)], [vI (0 : Int32)], wd κ (mM a40 a41 a42 a43 a44 a45 a46 a47 a48 a49 a50 v11 v12 v13 v14), (0, 0))) 1 rfl trivial ?_
    exact Ev.wk (Lle.n (Lle.n (Lle.n Lle.z))) (Ev.to kJ1 (by simp only [iF_pos h1]))
  · refine Ev.go (st' := (22, [some (vR 39), some (vI x1), some (vI x2)], [vI (1 : Int32)], wd κ (mM a40 a41 a42 a43 a44 a45 a46 a47 a48 a49 a50 v11 v12 v13 v14), (0, 0))) 2 rfl trivial ?_
    exact Ev.wk (Lle.n (Lle.n (Lle.n Lle.z))) (Ev.to kJ1 (by simp only [iF_neg h1]))
/-! OF MeshNamesModel.ahead(II)I -/
noncomputable def f_M_ahead (x1 : Int32) (x2 : Int32) (state_ : Nat → Int32) : Int32 := ((((state_ ((8 : Int32) + x2).toNatClampNeg) - (state_ ((8 : Int32) + x1).toNatClampNeg)) + (256 : Int32)) - (((state_ ((8 : Int32) + x2).toNatClampNeg) - (state_ ((8 : Int32) + x1).toNatClampNeg)) + (256 : Int32)) / (256 : Int32) * (256 : Int32))
def P_M_ahead (x1 : Int32) (x2 : Int32) (state_ : Nat → Int32) : Prop := vp_in ((8 : Int32) + x2) 80 ∧ vp_in ((8 : Int32) + x1) 80 ∧ True
set_option maxRecDepth 8000 in
set_option maxHeartbeats 4000000 in
theorem e_M_ahead_39 (κ : Sg) (a40 a41 a42 a43 a44 a45 a46 a47 a48 a49 a50 : Nat → Int32) (v11 v12 v13 v14 : Int32) (x1 x2 : Int32) (hP : P_M_ahead x1 x2 a40)  : Ev none 51 (0, [some (vR 39), some (vI x1), some (vI x2)], [], wd κ (mM a40 a41 a42 a43 a44 a45 a46 a47 a48 a49 a50 v11 v12 v13 v14), (0, 0)) (some (f_M_ahead x1 x2 a40), wd κ (mM a40 a41 a42 a43 a44 a45 a46 a47 a48 a49 a50 v11 v12 v13 v14)) := by
  suffices hh : ∀ (r : Option Int32 × AW) (K : (Int32) → Prop), K = (fun o : Int32 => (some o, wd κ (mM a40 a41 a42 a43 a44 a45 a46 a47 a48 a49 a50 v11 v12 v13 v14)) = r) → K ((((a40 ((8 : Int32) + x2).toNatClampNeg) - (a40 ((8 : Int32) + x1).toNatClampNeg)) + (256 : Int32)) - (((a40 ((8 : Int32) + x2).toNatClampNeg) - (a40 ((8 : Int32) + x1).toNatClampNeg)) + (256 : Int32)) / (256 : Int32) * (256 : Int32)) → Ev none 51 (0, [some (vR 39), some (vI x1), some (vI x2)], [], wd κ (mM a40 a41 a42 a43 a44 a45 a46 a47 a48 a49 a50 v11 v12 v13 v14), (0, 0)) r from hh _ _ rfl rfl
  intro r K hK k
  refine Ev.go (st' := (27, [some (vR 39), some (vI x1), some (vI x2)], [vI ((((a40 ((8 : Int32) + x2).toNatClampNeg) - (a40 ((8 : Int32) + x1).toNatClampNeg)) + (256 : Int32)) - (((a40 ((8 : Int32) + x2).toNatClampNeg) - (a40 ((8 : Int32) + x1).toNatClampNeg)) + (256 : Int32)) / (256 : Int32) * (256 : Int32))], wd κ (mM a40 a41 a42 a43 a44 a45 a46 a47 a48 a49 a50 v11 v12 v13 v14), (0, 0))) 17 rfl ⟨hP.1, hP.2.1, (by decide), trivial⟩ ?_
  rw [hK] at k
  have k3 : (some ((((a40 ((8 : Int32) + x2).toNatClampNeg) - (a40 ((8 : Int32) + x1).toNatClampNeg)) + (256 : Int32)) - (((a40 ((8 : Int32) + x2).toNatClampNeg) - (a40 ((8 : Int32) + x1).toNatClampNeg)) + (256 : Int32)) / (256 : Int32) * (256 : Int32)), wd κ (mM a40 a41 a42 a43 a44 a45 a46 a47 a48 a49 a50 v11 v12 v13 v14)) = r := k
  rw [← k3]
  exact Ev.ireti rfl rfl
/-! OF MeshNamesModel.nextOf(I)I -/
noncomputable def b_M_nextOf_1 (p1 : Int32) (steps : Nat → Int32) (state_ : Nat → Int32) (j : Nat) (v : Int32) : Int32 := (iF ((nI j) = p1) v (iF ((f_M_areTogether p1 (nI j) steps) = 0) v (iF (v < 0) (nI j) (iF ((f_M_ahead p1 v state_) ≤ (f_M_ahead p1 (nI j) state_)) v (nI j)))))
def P_M_nextOf_1 (p1 : Int32) (steps : Nat → Int32) (state_ : Nat → Int32) (j : Nat) (v : Int32) : Prop := (((nI j) = p1 → True) ∧ (¬ ((nI j) = p1) → ((P_M_areTogether p1 (nI j) steps) ∧ (((f_M_areTogether p1 (nI j) steps) = 0 → True) ∧ (¬ ((f_M_areTogether p1 (nI j) steps) = 0) → (((v < 0 → True) ∧ (¬ (v < 0) → ((P_M_ahead p1 (nI j) state_) ∧ (P_M_ahead p1 v state_) ∧ True))) ∧ True))) ∧ True))) ∧ True
noncomputable def f_M_nextOf (x1 : Int32) (steps : Nat → Int32) (state_ : Nat → Int32) : Int32 := (forN (b_M_nextOf_1 x1 steps state_) 0 8 (-6 : Int32))
def P_M_nextOf (x1 : Int32) (steps : Nat → Int32) (state_ : Nat → Int32) : Prop := (∀ q, q < 8 → P_M_nextOf_1 x1 steps state_ (0 + q) (forN (b_M_nextOf_1 x1 steps state_) 0 q (-6 : Int32))) ∧ True
set_option maxRecDepth 8000 in
set_option maxHeartbeats 4000000 in
theorem e_M_nextOf_39 (κ : Sg) (a40 a41 a42 a43 a44 a45 a46 a47 a48 a49 a50 : Nat → Int32) (v11 v12 v13 v14 : Int32) (x1 : Int32) (hP : P_M_nextOf x1 a43 a40)  : Ev none 52 (0, [some (vR 39), some (vI x1), none, none], [], wd κ (mM a40 a41 a42 a43 a44 a45 a46 a47 a48 a49 a50 v11 v12 v13 v14), (0, 0)) (some (f_M_nextOf x1 a43 a40), wd κ (mM a40 a41 a42 a43 a44 a45 a46 a47 a48 a49 a50 v11 v12 v13 v14)) := by
  suffices hh : ∀ (r : Option Int32 × AW) (K : (Int32) → Prop), K = (fun o : Int32 => (some o, wd κ (mM a40 a41 a42 a43 a44 a45 a46 a47 a48 a49 a50 v11 v12 v13 v14)) = r) → K (forN (b_M_nextOf_1 x1 a43 a40) 0 8 (-6 : Int32)) → Ev none 52 (0, [some (vR 39), some (vI x1), none, none], [], wd κ (mM a40 a41 a42 a43 a44 a45 a46 a47 a48 a49 a50 v11 v12 v13 v14), (0, 0)) r from hh _ _ rfl rfl
  intro r K hK k
  refine Ev.go (st' := (5, [some (vR 39), some (vI x1), some (vI (-6 : Int32)), some (vI (0 : Int32))], [], wd κ (mM a40 a41 a42 a43 a44 a45 a46 a47 a48 a49 a50 v11 v12 v13 v14), (0, 0))) 4 rfl trivial ?_
  refine Ev.wk (Lle.s (Lle.s (Lle.s (Lle.s Lle.z)))) ?_
  refine Ev.loopN (fun c v => (5, [some (vR 39), some (vI x1), some (vI v), some (vI c)], [], wd κ (mM a40 a41 a42 a43 a44 a45 a46 a47 a48 a49 a50 v11 v12 v13 v14), (0, 0))) (b_M_nextOf_1 x1 a43 a40) 0 8 8 (-6 : Int32) (c0 := (0 : Int32)) rfl (by omega) (fun j hj k2 => ?_) ?_
  · have hp1 := hP.1 j hj
    have hi1 : 0 + j < 8 := by omega
    clear hj
    generalize forN (b_M_nextOf_1 x1 a43 a40) 0 j (-6 : Int32) = u1 at hp1 k2 ⊢
    generalize 0 + j = i1 at hi1 hp1 k2 ⊢
    show Ev none 52 (5, [some (vR 39), some (vI x1), some (vI u1), some (vI (nI i1))], [], wd κ (mM a40 a41 a42 a43 a44 a45 a46 a47 a48 a49 a50 v11 v12 v13 v14), (0, 0)) r
    refine Ev.go (st' := (if (8 : Int32) ≤ nI i1 then 56 else 11, [some (vR 39), some (vI x1), some (vI u1), some (vI (nI i1))], [], wd κ (mM a40 a41 a42 a43 a44 a45 a46 a47 a48 a49 a50 v11 v12 v13 v14), (0, 0))) 3 rfl trivial (Ev.brF (nI_ge hi1 (by decide)) ?_)
    refine Ev.go (st' := (if (nI i1) = x1 then 50 else 16, [some (vR 39), some (vI x1), some (vI u1), some (vI (nI i1))], [], wd κ (mM a40 a41 a42 a43 a44 a45 a46 a47 a48 a49 a50 v11 v12 v13 v14), (0, 0))) 3 rfl trivial ?_
    have kJ2 : Ev none 52 (50, [some (vR 39), some (vI x1), some (vI (iF ((nI i1) = x1) u1 (iF ((f_M_areTogether x1 (nI i1) a43) = 0) u1 (iF (u1 < 0) (nI i1) (iF ((f_M_ahead x1 u1 a40) ≤ (f_M_ahead x1 (nI i1) a40)) u1 (nI i1)))))), some (vI (nI i1))], [], wd κ (mM a40 a41 a42 a43 a44 a45 a46 a47 a48 a49 a50 v11 v12 v13 v14), (0, 0)) r := by
      refine Ev.go (st' := (5, [some (vR 39), some (vI x1), some (vI (iF ((nI i1) = x1) u1 (iF ((f_M_areTogether x1 (nI i1) a43) = 0) u1 (iF (u1 < 0) (nI i1) (iF ((f_M_ahead x1 u1 a40) ≤ (f_M_ahead x1 (nI i1) a40)) u1 (nI i1)))))), some (vI ((nI i1) + (1 : Int32)))], [], wd κ (mM a40 a41 a42 a43 a44 a45 a46 a47 a48 a49 a50 v11 v12 v13 v14), (0, 0))) 2 rfl trivial ?_
      exact Ev.wk (Lle.s (Lle.s (Lle.s (Lle.s Lle.z)))) (show Ev none 52 (5, [some (vR 39), some (vI x1), some (vI (iF ((nI i1) = x1) u1 (iF ((f_M_areTogether x1 (nI i1) a43) = 0) u1 (iF (u1 < 0) (nI i1) (iF ((f_M_ahead x1 u1 a40) ≤ (f_M_ahead x1 (nI i1) a40)) u1 (nI i1)))))), some (vI ((nI i1) + (1 : Int32)))], [], wd κ (mM a40 a41 a42 a43 a44 a45 a46 a47 a48 a49 a50 v11 v12 v13 v14), (0, 0)) r from k2)
    refine Ev.br (fun h2 => ?_) (fun h2 => ?_)
    · exact Ev.wk (Lle.s (Lle.s (Lle.s (Lle.s Lle.z)))) (Ev.to kJ2 (by simp only [iF_pos h2]))
    · refine Ev.go (st' := (19, [some (vR 39), some (vI x1), some (vI u1), some (vI (nI i1))], [vI (nI i1), vI x1, vR 39], wd κ (mM a40 a41 a42 a43 a44 a45 a46 a47 a48 a49 a50 v11 v12 v13 v14), (0, 0))) 3 rfl trivial ?_
      refine Ev.callI (a := 50) (As := [vR 39, vI x1, vI (nI i1)]) [] (f_M_areTogether x1 (nI i1) a43) (wd κ (mM a40 a41 a42 a43 a44 a45 a46 a47 a48 a49 a50 v11 v12 v13 v14)) rfl (e_M_areTogether_39 κ a40 a41 a42 a43 a44 a45 a46 a47 a48 a49 a50 v11 v12 v13 v14 x1 (nI i1) (hp1.1.2 h2).1) ?_
      refine Ev.go (st' := (if (f_M_areTogether x1 (nI i1) a43) = 0 then 50 else 25, [some (vR 39), some (vI x1), some (vI u1), some (vI (nI i1))], [], wd κ (mM a40 a41 a42 a43 a44 a45 a46 a47 a48 a49 a50 v11 v12 v13 v14), (0, 0))) 1 rfl trivial ?_
      have kJ3 : Ev none 52 (50, [some (vR 39), some (vI x1), some (vI (iF ((f_M_areTogether x1 (nI i1) a43) = 0) u1 (iF (u1 < 0) (nI i1) (iF ((f_M_ahead x1 u1 a40) ≤ (f_M_ahead x1 (nI i1) a40)) u1 (nI i1))))), some (vI (nI i1))], [], wd κ (mM a40 a41 a42 a43 a44 a45 a46 a47 a48 a49 a50 v11 v12 v13 v14), (0, 0)) r := by
        exact Ev.wk (Lle.s (Lle.s (Lle.s (Lle.s Lle.z)))) (Ev.to kJ2 (by simp only [iF_neg h2]))
      refine Ev.br (fun h3 => ?_) (fun h3 => ?_)
      · exact Ev.wk (Lle.s (Lle.s (Lle.s (Lle.s Lle.z)))) (Ev.to kJ3 (by simp only [iF_pos h3]))
      · refine Ev.go (st' := (if u1 < 0 then 44 else 29, [some (vR 39), some (vI x1), some (vI u1), some (vI (nI i1))], [], wd κ (mM a40 a41 a42 a43 a44 a45 a46 a47 a48 a49 a50 v11 v12 v13 v14), (0, 0))) 2 rfl trivial ?_
        have kJ4 : Ev none 52 (49, [some (vR 39), some (vI x1), none, some (vI (nI i1))], [vI (iF (u1 < 0) (nI i1) (iF ((f_M_ahead x1 u1 a40) ≤ (f_M_ahead x1 (nI i1) a40)) u1 (nI i1)))], wd κ (mM a40 a41 a42 a43 a44 a45 a46 a47 a48 a49 a50 v11 v12 v13 v14), (0, 0)) r := by
          refine Ev.go (st' := (50, [some (vR 39), some (vI x1), some (vI (iF (u1 < 0) (nI i1) (iF ((f_M_ahead x1 u1 a40) ≤ (f_M_ahead x1 (nI i1) a40)) u1 (nI i1)))), some (vI (nI i1))], [], wd κ (mM a40 a41 a42 a43 a44 a45 a46 a47 a48 a49 a50 v11 v12 v13 v14), (0, 0))) 1 rfl trivial ?_
          exact Ev.wk (Lle.s (Lle.s (Lle.s (Lle.s Lle.z)))) (Ev.to kJ3 (by simp only [iF_neg h3]))
        refine Ev.br (fun h4 => ?_) (fun h4 => ?_)
        · refine Ev.go (st' := (49, [some (vR 39), some (vI x1), some (vI u1), some (vI (nI i1))], [vI (nI i1)], wd κ (mM a40 a41 a42 a43 a44 a45 a46 a47 a48 a49 a50 v11 v12 v13 v14), (0, 0))) 2 rfl trivial ?_
          exact Ev.wk (Lle.s (Lle.s (Lle.n (Lle.s Lle.z)))) (Ev.to kJ4 (by simp only [iF_pos h4]))
        · refine Ev.go (st' := (32, [some (vR 39), some (vI x1), some (vI u1), some (vI (nI i1))], [vI (nI i1), vI x1, vR 39], wd κ (mM a40 a41 a42 a43 a44 a45 a46 a47 a48 a49 a50 v11 v12 v13 v14), (0, 0))) 3 rfl trivial ?_
          refine Ev.callI (a := 51) (As := [vR 39, vI x1, vI (nI i1)]) [] (f_M_ahead x1 (nI i1) a40) (wd κ (mM a40 a41 a42 a43 a44 a45 a46 a47 a48 a49 a50 v11 v12 v13 v14)) rfl (e_M_ahead_39 κ a40 a41 a42 a43 a44 a45 a46 a47 a48 a49 a50 v11 v12 v13 v14 x1 (nI i1) (((hp1.1.2 h2).2.1.2 h3).1.2 h4).1) ?_
          refine Ev.go (st' := (38, [some (vR 39), some (vI x1), some (vI u1), some (vI (nI i1))], [vI u1, vI x1, vR 39, vI (f_M_ahead x1 (nI i1) a40)], wd κ (mM a40 a41 a42 a43 a44 a45 a46 a47 a48 a49 a50 v11 v12 v13 v14), (0, 0))) 3 rfl trivial ?_
          refine Ev.callI (a := 51) (As := [vR 39, vI x1, vI u1]) [vI (f_M_ahead x1 (nI i1) a40)] (f_M_ahead x1 u1 a40) (wd κ (mM a40 a41 a42 a43 a44 a45 a46 a47 a48 a49 a50 v11 v12 v13 v14)) rfl (e_M_ahead_39 κ a40 a41 a42 a43 a44 a45 a46 a47 a48 a49 a50 v11 v12 v13 v14 x1 u1 (((hp1.1.2 h2).2.1.2 h3).1.2 h4).2.1) ?_
          refine Ev.go (st' := (if (f_M_ahead x1 u1 a40) ≤ (f_M_ahead x1 (nI i1) a40) then 48 else 44, [some (vR 39), some (vI x1), some (vI u1), some (vI (nI i1))], [], wd κ (mM a40 a41 a42 a43 a44 a45 a46 a47 a48 a49 a50 v11 v12 v13 v14), (0, 0))) 1 rfl trivial ?_
          have kJ5 : Ev none 52 (49, [some (vR 39), some (vI x1), none, some (vI (nI i1))], [vI (iF ((f_M_ahead x1 u1 a40) ≤ (f_M_ahead x1 (nI i1) a40)) u1 (nI i1))], wd κ (mM a40 a41 a42 a43 a44 a45 a46 a47 a48 a49 a50 v11 v12 v13 v14), (0, 0)) r := by
            exact Ev.wk (Lle.s (Lle.s (Lle.n (Lle.s Lle.z)))) (Ev.to kJ4 (by simp only [iF_neg h4]))
          refine Ev.br (fun h5 => ?_) (fun h5 => ?_)
          · refine Ev.go (st' := (49, [some (vR 39), some (vI x1), some (vI u1), some (vI (nI i1))], [vI u1], wd κ (mM a40 a41 a42 a43 a44 a45 a46 a47 a48 a49 a50 v11 v12 v13 v14), (0, 0))) 1 rfl trivial ?_
            exact Ev.wk (Lle.s (Lle.s (Lle.n (Lle.s Lle.z)))) (Ev.to kJ5 (by simp only [iF_pos h5]))
          · refine Ev.go (st' := (49, [some (vR 39), some (vI x1), some (vI u1), some (vI (nI i1))], [vI (nI i1)], wd κ (mM a40 a41 a42 a43 a44 a45 a46 a47 a48 a49 a50 v11 v12 v13 v14), (0, 0))) 2 rfl trivial ?_
            exact Ev.wk (Lle.s (Lle.s (Lle.n (Lle.s Lle.z)))) (Ev.to kJ5 (by simp only [iF_neg h5]))
  · refine Ev.go (st' := (if (8 : Int32) ≤ nI 8 then 56 else 11, [some (vR 39), some (vI x1), some (vI (forN (b_M_nextOf_1 x1 a43 a40) 0 8 (-6 : Int32))), some (vI (nI 8))], [], wd κ (mM a40 a41 a42 a43 a44 a45 a46 a47 a48 a49 a50 v11 v12 v13 v14), (0, 0))) 3 rfl trivial (Ev.brN (by decide) ?_)
    refine Ev.wk (Lle.n (Lle.n (Lle.s (Lle.n Lle.z)))) ?_
    refine Ev.go (st' := (57, [none, none, some (vI (forN (b_M_nextOf_1 x1 a43 a40) 0 8 (-6 : Int32))), none], [vI (forN (b_M_nextOf_1 x1 a43 a40) 0 8 (-6 : Int32))], wd κ (mM a40 a41 a42 a43 a44 a45 a46 a47 a48 a49 a50 v11 v12 v13 v14), (0, 0))) 1 rfl trivial ?_
    rw [hK] at k
    have k3 : (some (forN (b_M_nextOf_1 x1 a43 a40) 0 8 (-6 : Int32)), wd κ (mM a40 a41 a42 a43 a44 a45 a46 a47 a48 a49 a50 v11 v12 v13 v14)) = r := k
    rw [← k3]
    exact Ev.ireti rfl rfl
/-! OF MeshNamesModel.nearer(II)I -/
noncomputable def b_M_nearer_1 (p1 : Int32) (state_ : Nat → Int32) (steps : Nat → Int32) (p2 : Int32) (j : Nat) (v : Int32 × Int32) : (Int32 × Int32) ⊕ (Int32 × Int32) := (iF (v.2 < 0) (.inr (v.1, v.2)) (.inl ((iF ((f_M_counts p1 v.2 state_) = 0) v.1 (iF ((steps (((8 : Int32) * v.2) + p2).toNatClampNeg) = ((steps (((8 : Int32) * p1) + p2).toNatClampNeg) - (1 : Int32))) v.2 v.1)), (v.2 + (-1 : Int32)))))
def P_M_nearer_1 (p1 : Int32) (state_ : Nat → Int32) (steps : Nat → Int32) (p2 : Int32) (j : Nat) (v : Int32 × Int32) : Prop := ((v.2 < 0 → True) ∧ (¬ (v.2 < 0) → ((P_M_counts p1 v.2 state_) ∧ (((f_M_counts p1 v.2 state_) = 0 → True) ∧ (¬ ((f_M_counts p1 v.2 state_) = 0) → (vp_in (((8 : Int32) * v.2) + p2) 64 ∧ vp_in (((8 : Int32) * p1) + p2) 64 ∧ True))) ∧ True))) ∧ True
noncomputable def f_M_nearer (x1 : Int32) (x2 : Int32) (state_ : Nat → Int32) (steps : Nat → Int32) : Int32 := (unX (forX (b_M_nearer_1 x1 state_ steps x2) 0 9 ((-6 : Int32), (7 : Int32)))).1
def P_M_nearer (x1 : Int32) (x2 : Int32) (state_ : Nat → Int32) (steps : Nat → Int32) : Prop := (∃ u, forX (b_M_nearer_1 x1 state_ steps x2) 0 9 ((-6 : Int32), (7 : Int32)) = .inr u) ∧ (∀ q u, q < 9 → forX (b_M_nearer_1 x1 state_ steps x2) 0 q ((-6 : Int32), (7 : Int32)) = .inl u → P_M_nearer_1 x1 state_ steps x2 (0 + q) u) ∧ True
set_option maxRecDepth 8000 in
set_option maxHeartbeats 4000000 in
theorem e_M_nearer_39 (κ : Sg) (a40 a41 a42 a43 a44 a45 a46 a47 a48 a49 a50 : Nat → Int32) (v11 v12 v13 v14 : Int32) (x1 x2 : Int32) (hP : P_M_nearer x1 x2 a40 a43)  : Ev none 53 (0, [some (vR 39), some (vI x1), some (vI x2), none, none], [], wd κ (mM a40 a41 a42 a43 a44 a45 a46 a47 a48 a49 a50 v11 v12 v13 v14), (0, 0)) (some (f_M_nearer x1 x2 a40 a43), wd κ (mM a40 a41 a42 a43 a44 a45 a46 a47 a48 a49 a50 v11 v12 v13 v14)) := by
  suffices hh : ∀ (r : Option Int32 × AW) (K : (Int32) → Prop), K = (fun o : Int32 => (some o, wd κ (mM a40 a41 a42 a43 a44 a45 a46 a47 a48 a49 a50 v11 v12 v13 v14)) = r) → K (unX (forX (b_M_nearer_1 x1 a40 a43 x2) 0 9 ((-6 : Int32), (7 : Int32)))).1 → Ev none 53 (0, [some (vR 39), some (vI x1), some (vI x2), none, none], [], wd κ (mM a40 a41 a42 a43 a44 a45 a46 a47 a48 a49 a50 v11 v12 v13 v14), (0, 0)) r from hh _ _ rfl rfl
  intro r K hK k
  refine Ev.go (st' := (7, [some (vR 39), some (vI x1), some (vI x2), some (vI (-6 : Int32)), some (vI (7 : Int32))], [], wd κ (mM a40 a41 a42 a43 a44 a45 a46 a47 a48 a49 a50 v11 v12 v13 v14), (0, 0))) 4 rfl trivial ?_
  refine Ev.wk (Lle.s (Lle.s (Lle.s (Lle.s (Lle.s Lle.z))))) ?_
  refine Ev.loopA (fun c v => (7, [some (vR 39), some (vI x1), some (vI x2), some (vI v.1), some (vI v.2)], [], wd κ (mM a40 a41 a42 a43 a44 a45 a46 a47 a48 a49 a50 v11 v12 v13 v14), (0, 0))) (fun v => (63, [none, none, none, some (vI v.1), none], [], wd κ (mM a40 a41 a42 a43 a44 a45 a46 a47 a48 a49 a50 v11 v12 v13 v14), (0, 0))) (b_M_nearer_1 x1 a40 a43 x2) 0 9 ((-6 : Int32), (7 : Int32)) (c0 := (0 : Int32)) rfl hP.1 (fun j u1 hj hv K1 hK1 k => ?_) ?_
  · have hp1 := hP.2.1 j u1 hj hv
    have hi1 : 0 + j < 0 + 9 := by omega
    clear hj hv
    generalize 0 + j = i1 at hi1 hK1 hp1 k ⊢
    replace k : K1 (iF (u1.2 < 0) (.inr (u1.1, u1.2)) (.inl ((iF ((f_M_counts x1 u1.2 a40) = 0) u1.1 (iF ((a43 (((8 : Int32) * u1.2) + x2).toNatClampNeg) = ((a43 (((8 : Int32) * x1) + x2).toNatClampNeg) - (1 : Int32))) u1.2 u1.1)), (u1.2 + (-1 : Int32))))) := k
    show Ev none 53 (7, [some (vR 39), some (vI x1), some (vI x2), some (vI u1.1), some (vI u1.2)], [], wd κ (mM a40 a41 a42 a43 a44 a45 a46 a47 a48 a49 a50 v11 v12 v13 v14), (0, 0)) r
    refine Ev.go (st' := (if u1.2 < 0 then 63 else 12, [some (vR 39), some (vI x1), some (vI x2), some (vI u1.1), some (vI u1.2)], [], wd κ (mM a40 a41 a42 a43 a44 a45 a46 a47 a48 a49 a50 v11 v12 v13 v14), (0, 0))) 2 rfl trivial ?_
    refine Ev.brK (K := K1) k (fun h2 k => ?_) (fun h2 k => ?_)
    · rw [hK1] at k
      exact Ev.wk (Lle.n (Lle.n (Lle.n (Lle.s (Lle.n Lle.z))))) (show Ev none 53 (63, [none, none, none, some (vI u1.1), none], [], wd κ (mM a40 a41 a42 a43 a44 a45 a46 a47 a48 a49 a50 v11 v12 v13 v14), (0, 0)) r from k)
    · refine Ev.go (st' := (16, [some (vR 39), some (vI x1), some (vI x2), some (vI u1.1), some (vI u1.2)], [vI u1.2, vI x1, vR 39], wd κ (mM a40 a41 a42 a43 a44 a45 a46 a47 a48 a49 a50 v11 v12 v13 v14), (0, 0))) 3 rfl trivial ?_
      refine Ev.callI (a := 47) (As := [vR 39, vI x1, vI u1.2]) [] (f_M_counts x1 u1.2 a40) (wd κ (mM a40 a41 a42 a43 a44 a45 a46 a47 a48 a49 a50 v11 v12 v13 v14)) rfl (e_M_counts_39 κ a40 a41 a42 a43 a44 a45 a46 a47 a48 a49 a50 v11 v12 v13 v14 x1 u1.2 (hp1.1.2 h2).1) ?_
      refine Ev.go (st' := (if (f_M_counts x1 u1.2 a40) = 0 then 55 else 22, [some (vR 39), some (vI x1), some (vI x2), some (vI u1.1), some (vI u1.2)], [], wd κ (mM a40 a41 a42 a43 a44 a45 a46 a47 a48 a49 a50 v11 v12 v13 v14), (0, 0))) 1 rfl trivial ?_
      have kJ3 : Ev none 53 (56, [some (vR 39), some (vI x1), some (vI x2), none, some (vI u1.2)], [vI (iF ((f_M_counts x1 u1.2 a40) = 0) u1.1 (iF ((a43 (((8 : Int32) * u1.2) + x2).toNatClampNeg) = ((a43 (((8 : Int32) * x1) + x2).toNatClampNeg) - (1 : Int32))) u1.2 u1.1))], wd κ (mM a40 a41 a42 a43 a44 a45 a46 a47 a48 a49 a50 v11 v12 v13 v14), (0, 0)) r := by
        refine Ev.go (st' := (7, [some (vR 39), some (vI x1), some (vI x2), some (vI (iF ((f_M_counts x1 u1.2 a40) = 0) u1.1 (iF ((a43 (((8 : Int32) * u1.2) + x2).toNatClampNeg) = ((a43 (((8 : Int32) * x1) + x2).toNatClampNeg) - (1 : Int32))) u1.2 u1.1))), some (vI (u1.2 + (-1 : Int32)))], [], wd κ (mM a40 a41 a42 a43 a44 a45 a46 a47 a48 a49 a50 v11 v12 v13 v14), (0, 0))) 3 rfl trivial ?_
        rw [hK1] at k
        exact Ev.wk (Lle.s (Lle.s (Lle.s (Lle.s (Lle.s Lle.z))))) (show Ev none 53 (7, [some (vR 39), some (vI x1), some (vI x2), some (vI (iF ((f_M_counts x1 u1.2 a40) = 0) u1.1 (iF ((a43 (((8 : Int32) * u1.2) + x2).toNatClampNeg) = ((a43 (((8 : Int32) * x1) + x2).toNatClampNeg) - (1 : Int32))) u1.2 u1.1))), some (vI (u1.2 + (-1 : Int32)))], [], wd κ (mM a40 a41 a42 a43 a44 a45 a46 a47 a48 a49 a50 v11 v12 v13 v14), (0, 0)) r from k)
      refine Ev.br (fun h3 => ?_) (fun h3 => ?_)
      · refine Ev.go (st' := (56, [some (vR 39), some (vI x1), some (vI x2), some (vI u1.1), some (vI u1.2)], [vI u1.1], wd κ (mM a40 a41 a42 a43 a44 a45 a46 a47 a48 a49 a50 v11 v12 v13 v14), (0, 0))) 1 rfl trivial ?_
        exact Ev.wk (Lle.s (Lle.s (Lle.s (Lle.n (Lle.s Lle.z))))) (Ev.to kJ3 (by simp only [iF_pos h3]))
      · refine Ev.go (st' := (if (a43 (((8 : Int32) * u1.2) + x2).toNatClampNeg) = ((a43 (((8 : Int32) * x1) + x2).toNatClampNeg) - (1 : Int32)) then 50 else 55, [some (vR 39), some (vI x1), some (vI x2), some (vI u1.1), some (vI u1.2)], [], wd κ (mM a40 a41 a42 a43 a44 a45 a46 a47 a48 a49 a50 v11 v12 v13 v14), (0, 0))) 19 rfl ⟨((hp1.1.2 h2).2.1.2 h3).1, ((hp1.1.2 h2).2.1.2 h3).2.1, trivial⟩ ?_
        have kJ4 : Ev none 53 (56, [some (vR 39), some (vI x1), some (vI x2), none, some (vI u1.2)], [vI (iF ((a43 (((8 : Int32) * u1.2) + x2).toNatClampNeg) = ((a43 (((8 : Int32) * x1) + x2).toNatClampNeg) - (1 : Int32))) u1.2 u1.1)], wd κ (mM a40 a41 a42 a43 a44 a45 a46 a47 a48 a49 a50 v11 v12 v13 v14), (0, 0)) r := by
          exact Ev.wk (Lle.s (Lle.s (Lle.s (Lle.n (Lle.s Lle.z))))) (Ev.to kJ3 (by simp only [iF_neg h3]))
        refine Ev.br (fun h4 => ?_) (fun h4 => ?_)
        · refine Ev.go (st' := (56, [some (vR 39), some (vI x1), some (vI x2), some (vI u1.1), some (vI u1.2)], [vI u1.2], wd κ (mM a40 a41 a42 a43 a44 a45 a46 a47 a48 a49 a50 v11 v12 v13 v14), (0, 0))) 2 rfl trivial ?_
          exact Ev.wk (Lle.s (Lle.s (Lle.s (Lle.n (Lle.s Lle.z))))) (Ev.to kJ4 (by simp only [iF_pos h4]))
        · refine Ev.go (st' := (56, [some (vR 39), some (vI x1), some (vI x2), some (vI u1.1), some (vI u1.2)], [vI u1.1], wd κ (mM a40 a41 a42 a43 a44 a45 a46 a47 a48 a49 a50 v11 v12 v13 v14), (0, 0))) 1 rfl trivial ?_
          exact Ev.wk (Lle.s (Lle.s (Lle.s (Lle.n (Lle.s Lle.z))))) (Ev.to kJ4 (by simp only [iF_neg h4]))
  · show Ev none 53 (63, [none, none, none, some (vI (unX (forX (b_M_nearer_1 x1 a40 a43 x2) 0 9 ((-6 : Int32), (7 : Int32)))).1), none], [], wd κ (mM a40 a41 a42 a43 a44 a45 a46 a47 a48 a49 a50 v11 v12 v13 v14), (0, 0)) r
    refine Ev.go (st' := (64, [none, none, none, some (vI (unX (forX (b_M_nearer_1 x1 a40 a43 x2) 0 9 ((-6 : Int32), (7 : Int32)))).1), none], [vI (unX (forX (b_M_nearer_1 x1 a40 a43 x2) 0 9 ((-6 : Int32), (7 : Int32)))).1], wd κ (mM a40 a41 a42 a43 a44 a45 a46 a47 a48 a49 a50 v11 v12 v13 v14), (0, 0))) 1 rfl trivial ?_
    rw [hK] at k
    have k3 : (some (unX (forX (b_M_nearer_1 x1 a40 a43 x2) 0 9 ((-6 : Int32), (7 : Int32)))).1, wd κ (mM a40 a41 a42 a43 a44 a45 a46 a47 a48 a49 a50 v11 v12 v13 v14)) = r := k
    rw [← k3]
    exact Ev.ireti rfl rfl
/-! OF MeshNamesModel.layRow(I)V -/
noncomputable def b_M_layRow_1 (next_ : Nat → Int32) (p1 : Int32) (state_ : Nat → Int32) (steps : Nat → Int32) (j : Nat) (v : Int32 × (Nat → Int32) × (Nat → Int32)) : (Int32 × (Nat → Int32) × (Nat → Int32)) ⊕ (Int32 × (Nat → Int32) × (Nat → Int32)) := (iF (v.1 = (next_ p1.toNatClampNeg)) (.inr (v.1, v.2.1, v.2.2)) (.inl ((f_M_nearer v.1 (next_ p1.toNatClampNeg) state_ steps), (upd v.2.1 (((8 : Int32) * p1) + (v.2.2 p1.toNatClampNeg)).toNatClampNeg (f_M_nearer v.1 (next_ p1.toNatClampNeg) state_ steps)), (upd v.2.2 p1.toNatClampNeg ((v.2.2 p1.toNatClampNeg) + (1 : Int32))))))
def P_M_layRow_1 (next_ : Nat → Int32) (p1 : Int32) (state_ : Nat → Int32) (steps : Nat → Int32) (j : Nat) (v : Int32 × (Nat → Int32) × (Nat → Int32)) : Prop := vp_in p1 8 ∧ ((v.1 = (next_ p1.toNatClampNeg) → True) ∧ (¬ (v.1 = (next_ p1.toNatClampNeg)) → (vp_in p1 8 ∧ (P_M_nearer v.1 (next_ p1.toNatClampNeg) state_ steps) ∧ vp_in p1 8 ∧ vp_in (((8 : Int32) * p1) + (v.2.2 p1.toNatClampNeg)) 64 ∧ vp_in p1 8 ∧ vp_in p1 8 ∧ True))) ∧ True
noncomputable def f_M_layRow (x1 : Int32) (next_ : Nat → Int32) (state_ : Nat → Int32) (steps : Nat → Int32) (row : Nat → Int32) (rowMany : Nat → Int32) : (Nat → Int32) × (Nat → Int32) := (iF (0 ≤ (next_ x1.toNatClampNeg)) ((unX (forX (b_M_layRow_1 next_ x1 state_ steps) 0 9 (x1, (upd row ((8 : Int32) * x1).toNatClampNeg x1), (upd (upd rowMany x1.toNatClampNeg (0 : Int32)) x1.toNatClampNeg (1 : Int32))))).2.1, (unX (forX (b_M_layRow_1 next_ x1 state_ steps) 0 9 (x1, (upd row ((8 : Int32) * x1).toNatClampNeg x1), (upd (upd rowMany x1.toNatClampNeg (0 : Int32)) x1.toNatClampNeg (1 : Int32))))).2.2) (row, (upd rowMany x1.toNatClampNeg (0 : Int32))))
def P_M_layRow (x1 : Int32) (next_ : Nat → Int32) (state_ : Nat → Int32) (steps : Nat → Int32) (row : Nat → Int32) (rowMany : Nat → Int32) : Prop := vp_in x1 8 ∧ vp_in x1 8 ∧ ((0 ≤ (next_ x1.toNatClampNeg) → (vp_in ((8 : Int32) * x1) 64 ∧ vp_in x1 8 ∧ (∃ u, forX (b_M_layRow_1 next_ x1 state_ steps) 0 9 (x1, (upd row ((8 : Int32) * x1).toNatClampNeg x1), (upd (upd rowMany x1.toNatClampNeg (0 : Int32)) x1.toNatClampNeg (1 : Int32))) = .inr u) ∧ (∀ q u, q < 9 → forX (b_M_layRow_1 next_ x1 state_ steps) 0 q (x1, (upd row ((8 : Int32) * x1).toNatClampNeg x1), (upd (upd rowMany x1.toNatClampNeg (0 : Int32)) x1.toNatClampNeg (1 : Int32))) = .inl u → P_M_layRow_1 next_ x1 state_ steps (0 + q) u) ∧ True)) ∧ (¬ (0 ≤ (next_ x1.toNatClampNeg)) → True)) ∧ True
set_option maxRecDepth 8000 in
set_option maxHeartbeats 4000000 in
theorem e_M_layRow_39 (κ : Sg) (a40 a41 a42 a43 a44 a45 a46 a47 a48 a49 a50 : Nat → Int32) (v11 v12 v13 v14 : Int32) (x1 : Int32) (hP : P_M_layRow x1 a44 a40 a43 a45 a46)  : Ev none 54 (0, [some (vR 39), some (vI x1), none], [], wd κ (mM a40 a41 a42 a43 a44 a45 a46 a47 a48 a49 a50 v11 v12 v13 v14), (0, 0)) (none, wd κ (mM a40 a41 a42 a43 a44 (f_M_layRow x1 a44 a40 a43 a45 a46).1 (f_M_layRow x1 a44 a40 a43 a45 a46).2 a47 a48 a49 a50 v11 v12 v13 v14)) := by
  suffices hh : ∀ (r : Option Int32 × AW) (K : ((Nat → Int32) × (Nat → Int32)) → Prop), K = (fun o : (Nat → Int32) × (Nat → Int32) => (none, wd κ (mM a40 a41 a42 a43 a44 o.1 o.2 a47 a48 a49 a50 v11 v12 v13 v14)) = r) → K (iF (0 ≤ (a44 x1.toNatClampNeg)) ((unX (forX (b_M_layRow_1 a44 x1 a40 a43) 0 9 (x1, (upd a45 ((8 : Int32) * x1).toNatClampNeg x1), (upd (upd a46 x1.toNatClampNeg (0 : Int32)) x1.toNatClampNeg (1 : Int32))))).2.1, (unX (forX (b_M_layRow_1 a44 x1 a40 a43) 0 9 (x1, (upd a45 ((8 : Int32) * x1).toNatClampNeg x1), (upd (upd a46 x1.toNatClampNeg (0 : Int32)) x1.toNatClampNeg (1 : Int32))))).2.2) (a45, (upd a46 x1.toNatClampNeg (0 : Int32)))) → Ev none 54 (0, [some (vR 39), some (vI x1), none], [], wd κ (mM a40 a41 a42 a43 a44 a45 a46 a47 a48 a49 a50 v11 v12 v13 v14), (0, 0)) r from hh _ _ rfl rfl
  intro r K hK k
  refine Ev.go (st' := (7, [some (vR 39), some (vI x1), none], [], wd κ (mM a40 a41 a42 a43 a44 a45 (upd a46 x1.toNatClampNeg (0 : Int32)) a47 a48 a49 a50 v11 v12 v13 v14), (0, 0))) 5 rfl ⟨hP.1, trivial⟩ ?_
  refine Ev.go (st' := (if 0 ≤ (a44 x1.toNatClampNeg) then 17 else 16, [some (vR 39), some (vI x1), none], [], wd κ (mM a40 a41 a42 a43 a44 a45 (upd a46 x1.toNatClampNeg (0 : Int32)) a47 a48 a49 a50 v11 v12 v13 v14), (0, 0))) 5 rfl ⟨hP.2.1, trivial⟩ ?_
  refine Ev.brK (K := K) k (fun h1 k => ?_) (fun h1 k => ?_)
  · refine Ev.go (st' := (29, [some (vR 39), some (vI x1), some (vI x1)], [], wd κ (mM a40 a41 a42 a43 a44 (upd a45 ((8 : Int32) * x1).toNatClampNeg x1) (upd a46 x1.toNatClampNeg (0 : Int32)) a47 a48 a49 a50 v11 v12 v13 v14), (0, 0))) 9 rfl ⟨(hP.2.2.1.1 h1).1, trivial⟩ ?_
    refine Ev.go (st' := (36, [some (vR 39), some (vI x1), some (vI x1)], [], wd κ (mM a40 a41 a42 a43 a44 (upd a45 ((8 : Int32) * x1).toNatClampNeg x1) (upd (upd a46 x1.toNatClampNeg (0 : Int32)) x1.toNatClampNeg (1 : Int32)) a47 a48 a49 a50 v11 v12 v13 v14), (0, 0))) 5 rfl ⟨(hP.2.2.1.1 h1).2.1, trivial⟩ ?_
    refine Ev.wk (Lle.s (Lle.s (Lle.s Lle.z))) ?_
    refine Ev.loopA (fun c v => (36, [some (vR 39), some (vI x1), some (vI v.1)], [], wd κ (mM a40 a41 a42 a43 a44 v.2.1 v.2.2 a47 a48 a49 a50 v11 v12 v13 v14), (0, 0))) (fun v => (88, [none, none, none], [], wd κ (mM a40 a41 a42 a43 a44 v.2.1 v.2.2 a47 a48 a49 a50 v11 v12 v13 v14), (0, 0))) (b_M_layRow_1 a44 x1 a40 a43) 0 9 (x1, (upd a45 ((8 : Int32) * x1).toNatClampNeg x1), (upd (upd a46 x1.toNatClampNeg (0 : Int32)) x1.toNatClampNeg (1 : Int32))) (c0 := (0 : Int32)) rfl (hP.2.2.1.1 h1).2.2.1 (fun j u2 hj hv K2 hK2 k => ?_) ?_
    · have hp2 := (hP.2.2.1.1 h1).2.2.2.1 j u2 hj hv
      have hi2 : 0 + j < 0 + 9 := by omega
      clear hj hv
      generalize 0 + j = i2 at hi2 hK2 hp2 k ⊢
      replace k : K2 (iF (u2.1 = (a44 x1.toNatClampNeg)) (.inr (u2.1, u2.2.1, u2.2.2)) (.inl ((f_M_nearer u2.1 (a44 x1.toNatClampNeg) a40 a43), (upd u2.2.1 (((8 : Int32) * x1) + (u2.2.2 x1.toNatClampNeg)).toNatClampNeg (f_M_nearer u2.1 (a44 x1.toNatClampNeg) a40 a43)), (upd u2.2.2 x1.toNatClampNeg ((u2.2.2 x1.toNatClampNeg) + (1 : Int32)))))) := k
      show Ev none 54 (36, [some (vR 39), some (vI x1), some (vI u2.1)], [], wd κ (mM a40 a41 a42 a43 a44 u2.2.1 u2.2.2 a47 a48 a49 a50 v11 v12 v13 v14), (0, 0)) r
      refine Ev.go (st' := (if u2.1 = (a44 x1.toNatClampNeg) then 88 else 46, [some (vR 39), some (vI x1), some (vI u2.1)], [], wd κ (mM a40 a41 a42 a43 a44 u2.2.1 u2.2.2 a47 a48 a49 a50 v11 v12 v13 v14), (0, 0))) 6 rfl ⟨hp2.1, trivial⟩ ?_
      refine Ev.brK (K := K2) k (fun h3 k => ?_) (fun h3 k => ?_)
      · rw [hK2] at k
        exact Ev.wk (Lle.n (Lle.n (Lle.n Lle.z))) (show Ev none 54 (88, [none, none, none], [], wd κ (mM a40 a41 a42 a43 a44 u2.2.1 u2.2.2 a47 a48 a49 a50 v11 v12 v13 v14), (0, 0)) r from k)
      · refine Ev.go (st' := (54, [some (vR 39), some (vI x1), some (vI u2.1)], [vI (a44 x1.toNatClampNeg), vI u2.1, vR 39], wd κ (mM a40 a41 a42 a43 a44 u2.2.1 u2.2.2 a47 a48 a49 a50 v11 v12 v13 v14), (0, 0))) 6 rfl ⟨(hp2.2.1.2 h3).1, trivial⟩ ?_
        refine Ev.callI (a := 53) (As := [vR 39, vI u2.1, vI (a44 x1.toNatClampNeg)]) [] (f_M_nearer u2.1 (a44 x1.toNatClampNeg) a40 a43) (wd κ (mM a40 a41 a42 a43 a44 u2.2.1 u2.2.2 a47 a48 a49 a50 v11 v12 v13 v14)) rfl (e_M_nearer_39 κ a40 a41 a42 a43 a44 u2.2.1 u2.2.2 a47 a48 a49 a50 v11 v12 v13 v14 u2.1 (a44 x1.toNatClampNeg) (hp2.2.1.2 h3).2.1) ?_
        refine Ev.go (st' := (75, [some (vR 39), some (vI x1), some (vI (f_M_nearer u2.1 (a44 x1.toNatClampNeg) a40 a43))], [], wd κ (mM a40 a41 a42 a43 a44 (upd u2.2.1 (((8 : Int32) * x1) + (u2.2.2 x1.toNatClampNeg)).toNatClampNeg (f_M_nearer u2.1 (a44 x1.toNatClampNeg) a40 a43)) u2.2.2 a47 a48 a49 a50 v11 v12 v13 v14), (0, 0))) 13 rfl ⟨(hp2.2.1.2 h3).2.2.1, (hp2.2.1.2 h3).2.2.2.1, trivial⟩ ?_
        refine Ev.go (st' := (85, [some (vR 39), some (vI x1), some (vI (f_M_nearer u2.1 (a44 x1.toNatClampNeg) a40 a43))], [], wd κ (mM a40 a41 a42 a43 a44 (upd u2.2.1 (((8 : Int32) * x1) + (u2.2.2 x1.toNatClampNeg)).toNatClampNeg (f_M_nearer u2.1 (a44 x1.toNatClampNeg) a40 a43)) (upd u2.2.2 x1.toNatClampNeg ((u2.2.2 x1.toNatClampNeg) + (1 : Int32))) a47 a48 a49 a50 v11 v12 v13 v14), (0, 0))) 8 rfl ⟨(hp2.2.1.2 h3).2.2.2.2.1, (hp2.2.1.2 h3).2.2.2.2.2.1, trivial⟩ ?_
        refine Ev.go (st' := (36, [some (vR 39), some (vI x1), some (vI (f_M_nearer u2.1 (a44 x1.toNatClampNeg) a40 a43))], [], wd κ (mM a40 a41 a42 a43 a44 (upd u2.2.1 (((8 : Int32) * x1) + (u2.2.2 x1.toNatClampNeg)).toNatClampNeg (f_M_nearer u2.1 (a44 x1.toNatClampNeg) a40 a43)) (upd u2.2.2 x1.toNatClampNeg ((u2.2.2 x1.toNatClampNeg) + (1 : Int32))) a47 a48 a49 a50 v11 v12 v13 v14), (0, 0))) 1 rfl trivial ?_
        rw [hK2] at k
        exact Ev.wk (Lle.s (Lle.s (Lle.s Lle.z))) (show Ev none 54 (36, [some (vR 39), some (vI x1), some (vI (f_M_nearer u2.1 (a44 x1.toNatClampNeg) a40 a43))], [], wd κ (mM a40 a41 a42 a43 a44 (upd u2.2.1 (((8 : Int32) * x1) + (u2.2.2 x1.toNatClampNeg)).toNatClampNeg (f_M_nearer u2.1 (a44 x1.toNatClampNeg) a40 a43)) (upd u2.2.2 x1.toNatClampNeg ((u2.2.2 x1.toNatClampNeg) + (1 : Int32))) a47 a48 a49 a50 v11 v12 v13 v14), (0, 0)) r from k)
    · show Ev none 54 (88, [none, none, none], [], wd κ (mM a40 a41 a42 a43 a44 (unX (forX (b_M_layRow_1 a44 x1 a40 a43) 0 9 (x1, (upd a45 ((8 : Int32) * x1).toNatClampNeg x1), (upd (upd a46 x1.toNatClampNeg (0 : Int32)) x1.toNatClampNeg (1 : Int32))))).2.1 (unX (forX (b_M_layRow_1 a44 x1 a40 a43) 0 9 (x1, (upd a45 ((8 : Int32) * x1).toNatClampNeg x1), (upd (upd a46 x1.toNatClampNeg (0 : Int32)) x1.toNatClampNeg (1 : Int32))))).2.2 a47 a48 a49 a50 v11 v12 v13 v14), (0, 0)) r
      rw [hK] at k
      have k3 : (none, wd κ (mM a40 a41 a42 a43 a44 (unX (forX (b_M_layRow_1 a44 x1 a40 a43) 0 9 (x1, (upd a45 ((8 : Int32) * x1).toNatClampNeg x1), (upd (upd a46 x1.toNatClampNeg (0 : Int32)) x1.toNatClampNeg (1 : Int32))))).2.1 (unX (forX (b_M_layRow_1 a44 x1 a40 a43) 0 9 (x1, (upd a45 ((8 : Int32) * x1).toNatClampNeg x1), (upd (upd a46 x1.toNatClampNeg (0 : Int32)) x1.toNatClampNeg (1 : Int32))))).2.2 a47 a48 a49 a50 v11 v12 v13 v14)) = r := k
      rw [← k3]
      exact Ev.retv rfl rfl
  · rw [hK] at k
    have k3 : (none, wd κ (mM a40 a41 a42 a43 a44 a45 (upd a46 x1.toNatClampNeg (0 : Int32)) a47 a48 a49 a50 v11 v12 v13 v14)) = r := k
    rw [← k3]
    exact Ev.retv rfl rfl
/-! OF MeshNamesModel.layPaths()V -/
noncomputable def b_M_layPaths_1 (state_ : Nat → Int32) (steps : Nat → Int32) (j : Nat) (v : Nat → Int32) : Nat → Int32 := (upd v (nI j).toNatClampNeg (iF ((f_M_isUp (nI j) state_) = 0) (-6 : Int32) (f_M_nextOf (nI j) steps state_)))
def P_M_layPaths_1 (state_ : Nat → Int32) (steps : Nat → Int32) (j : Nat) (v : Nat → Int32) : Prop := (P_M_isUp (nI j) state_) ∧ (((f_M_isUp (nI j) state_) = 0 → True) ∧ (¬ ((f_M_isUp (nI j) state_) = 0) → ((P_M_nextOf (nI j) steps state_) ∧ True))) ∧ True
noncomputable def b_M_layPaths_2 (next_ : Nat → Int32) (state_ : Nat → Int32) (steps : Nat → Int32) (j : Nat) (v : (Nat → Int32) × (Nat → Int32)) : (Nat → Int32) × (Nat → Int32) := ((f_M_layRow (nI j) next_ state_ steps v.1 v.2).1, (f_M_layRow (nI j) next_ state_ steps v.1 v.2).2)
def P_M_layPaths_2 (next_ : Nat → Int32) (state_ : Nat → Int32) (steps : Nat → Int32) (j : Nat) (v : (Nat → Int32) × (Nat → Int32)) : Prop := (P_M_layRow (nI j) next_ state_ steps v.1 v.2) ∧ True
noncomputable def f_M_layPaths (state_ : Nat → Int32) (steps : Nat → Int32) (next_ : Nat → Int32) (row : Nat → Int32) (rowMany : Nat → Int32) : (Nat → Int32) × (Nat → Int32) × (Nat → Int32) × (Nat → Int32) := ((f_M_laySteps state_ steps), (forN (b_M_layPaths_1 state_ (f_M_laySteps state_ steps)) 0 8 next_), (forN (b_M_layPaths_2 (forN (b_M_layPaths_1 state_ (f_M_laySteps state_ steps)) 0 8 next_) state_ (f_M_laySteps state_ steps)) 0 8 (row, rowMany)).1, (forN (b_M_layPaths_2 (forN (b_M_layPaths_1 state_ (f_M_laySteps state_ steps)) 0 8 next_) state_ (f_M_laySteps state_ steps)) 0 8 (row, rowMany)).2)
def P_M_layPaths (state_ : Nat → Int32) (steps : Nat → Int32) (next_ : Nat → Int32) (row : Nat → Int32) (rowMany : Nat → Int32) : Prop := (P_M_laySteps state_ steps) ∧ (∀ q, q < 8 → P_M_layPaths_1 state_ (f_M_laySteps state_ steps) (0 + q) (forN (b_M_layPaths_1 state_ (f_M_laySteps state_ steps)) 0 q next_)) ∧ (∀ q, q < 8 → P_M_layPaths_2 (forN (b_M_layPaths_1 state_ (f_M_laySteps state_ steps)) 0 8 next_) state_ (f_M_laySteps state_ steps) (0 + q) (forN (b_M_layPaths_2 (forN (b_M_layPaths_1 state_ (f_M_laySteps state_ steps)) 0 8 next_) state_ (f_M_laySteps state_ steps)) 0 q (row, rowMany))) ∧ True
set_option maxRecDepth 8000 in
set_option maxHeartbeats 4000000 in
theorem e_M_layPaths_39 (κ : Sg) (a40 a41 a42 a43 a44 a45 a46 a47 a48 a49 a50 : Nat → Int32) (v11 v12 v13 v14 : Int32) (hP : P_M_layPaths a40 a43 a44 a45 a46)  : Ev none 55 (0, [some (vR 39), none], [], wd κ (mM a40 a41 a42 a43 a44 a45 a46 a47 a48 a49 a50 v11 v12 v13 v14), (0, 0)) (none, wd κ (mM a40 a41 a42 (f_M_layPaths a40 a43 a44 a45 a46).1 (f_M_layPaths a40 a43 a44 a45 a46).2.1 (f_M_layPaths a40 a43 a44 a45 a46).2.2.1 (f_M_layPaths a40 a43 a44 a45 a46).2.2.2 a47 a48 a49 a50 v11 v12 v13 v14)) := by
  suffices hh : ∀ (r : Option Int32 × AW) (K : ((Nat → Int32) × (Nat → Int32) × (Nat → Int32) × (Nat → Int32)) → Prop), K = (fun o : (Nat → Int32) × (Nat → Int32) × (Nat → Int32) × (Nat → Int32) => (none, wd κ (mM a40 a41 a42 o.1 o.2.1 o.2.2.1 o.2.2.2 a47 a48 a49 a50 v11 v12 v13 v14)) = r) → K ((f_M_laySteps a40 a43), (forN (b_M_layPaths_1 a40 (f_M_laySteps a40 a43)) 0 8 a44), (forN (b_M_layPaths_2 (forN (b_M_layPaths_1 a40 (f_M_laySteps a40 a43)) 0 8 a44) a40 (f_M_laySteps a40 a43)) 0 8 (a45, a46)).1, (forN (b_M_layPaths_2 (forN (b_M_layPaths_1 a40 (f_M_laySteps a40 a43)) 0 8 a44) a40 (f_M_laySteps a40 a43)) 0 8 (a45, a46)).2) → Ev none 55 (0, [some (vR 39), none], [], wd κ (mM a40 a41 a42 a43 a44 a45 a46 a47 a48 a49 a50 v11 v12 v13 v14), (0, 0)) r from hh _ _ rfl rfl
  intro r K hK k
  refine Ev.go (st' := (1, [some (vR 39), none], [vR 39], wd κ (mM a40 a41 a42 a43 a44 a45 a46 a47 a48 a49 a50 v11 v12 v13 v14), (0, 0))) 1 rfl trivial ?_
  refine Ev.callV (a := 49) (As := [vR 39]) [] (wd κ (mM a40 a41 a42 (f_M_laySteps a40 a43) a44 a45 a46 a47 a48 a49 a50 v11 v12 v13 v14)) rfl (e_M_laySteps_39 κ a40 a41 a42 a43 a44 a45 a46 a47 a48 a49 a50 v11 v12 v13 v14 hP.1) ?_
  refine Ev.go (st' := (6, [some (vR 39), some (vI (0 : Int32))], [], wd κ (mM a40 a41 a42 (f_M_laySteps a40 a43) a44 a45 a46 a47 a48 a49 a50 v11 v12 v13 v14), (0, 0))) 2 rfl trivial ?_
  refine Ev.wk (Lle.s (Lle.s Lle.z)) ?_
  refine Ev.loopN (fun c v => (6, [some (vR 39), some (vI c)], [], wd κ (mM a40 a41 a42 (f_M_laySteps a40 a43) v a45 a46 a47 a48 a49 a50 v11 v12 v13 v14), (0, 0))) (b_M_layPaths_1 a40 (f_M_laySteps a40 a43)) 0 8 8 a44 (c0 := (0 : Int32)) rfl (by omega) (fun j hj k2 => ?_) ?_
  · have hp1 := hP.2.1 j hj
    have hi1 : 0 + j < 8 := by omega
    clear hj
    generalize forN (b_M_layPaths_1 a40 (f_M_laySteps a40 a43)) 0 j a44 = u1 at hp1 k2 ⊢
    generalize 0 + j = i1 at hi1 hp1 k2 ⊢
    show Ev none 55 (6, [some (vR 39), some (vI (nI i1))], [], wd κ (mM a40 a41 a42 (f_M_laySteps a40 a43) u1 a45 a46 a47 a48 a49 a50 v11 v12 v13 v14), (0, 0)) r
    refine Ev.go (st' := (if (8 : Int32) ≤ nI i1 then 42 else 12, [some (vR 39), some (vI (nI i1))], [], wd κ (mM a40 a41 a42 (f_M_laySteps a40 a43) u1 a45 a46 a47 a48 a49 a50 v11 v12 v13 v14), (0, 0))) 3 rfl trivial (Ev.brF (nI_ge hi1 (by decide)) ?_)
    refine Ev.go (st' := (19, [some (vR 39), some (vI (nI i1))], [vI (nI i1), vR 39, vI (nI i1), vR 44], wd κ (mM a40 a41 a42 (f_M_laySteps a40 a43) u1 a45 a46 a47 a48 a49 a50 v11 v12 v13 v14), (0, 0))) 5 rfl trivial ?_
    refine Ev.callI (a := 28) (As := [vR 39, vI (nI i1)]) [vI (nI i1), vR 44] (f_M_isUp (nI i1) a40) (wd κ (mM a40 a41 a42 (f_M_laySteps a40 a43) u1 a45 a46 a47 a48 a49 a50 v11 v12 v13 v14)) rfl (e_M_isUp_39 κ a40 a41 a42 (f_M_laySteps a40 a43) u1 a45 a46 a47 a48 a49 a50 v11 v12 v13 v14 (nI i1) hp1.1) ?_
    refine Ev.go (st' := (if (f_M_isUp (nI i1) a40) = 0 then 33 else 25, [some (vR 39), some (vI (nI i1))], [vI (nI i1), vR 44], wd κ (mM a40 a41 a42 (f_M_laySteps a40 a43) u1 a45 a46 a47 a48 a49 a50 v11 v12 v13 v14), (0, 0))) 1 rfl trivial ?_
    have kJ2 : Ev none 55 (35, [some (vR 39), some (vI (nI i1))], [vI (iF ((f_M_isUp (nI i1) a40) = 0) (-6 : Int32) (f_M_nextOf (nI i1) (f_M_laySteps a40 a43) a40)), vI (nI i1), vR 44], wd κ (mM a40 a41 a42 (f_M_laySteps a40 a43) u1 a45 a46 a47 a48 a49 a50 v11 v12 v13 v14), (0, 0)) r := by
      refine Ev.go (st' := (36, [some (vR 39), some (vI (nI i1))], [], wd κ (mM a40 a41 a42 (f_M_laySteps a40 a43) (upd u1 (nI i1).toNatClampNeg (iF ((f_M_isUp (nI i1) a40) = 0) (-6 : Int32) (f_M_nextOf (nI i1) (f_M_laySteps a40 a43) a40))) a45 a46 a47 a48 a49 a50 v11 v12 v13 v14), (0, 0))) 1 rfl ⟨(vp_in_nI (by omega) (by decide)), trivial⟩ ?_
      refine Ev.go (st' := (6, [some (vR 39), some (vI ((nI i1) + (1 : Int32)))], [], wd κ (mM a40 a41 a42 (f_M_laySteps a40 a43) (upd u1 (nI i1).toNatClampNeg (iF ((f_M_isUp (nI i1) a40) = 0) (-6 : Int32) (f_M_nextOf (nI i1) (f_M_laySteps a40 a43) a40))) a45 a46 a47 a48 a49 a50 v11 v12 v13 v14), (0, 0))) 2 rfl trivial ?_
      exact Ev.wk (Lle.s (Lle.s Lle.z)) (show Ev none 55 (6, [some (vR 39), some (vI ((nI i1) + (1 : Int32)))], [], wd κ (mM a40 a41 a42 (f_M_laySteps a40 a43) (upd u1 (nI i1).toNatClampNeg (iF ((f_M_isUp (nI i1) a40) = 0) (-6 : Int32) (f_M_nextOf (nI i1) (f_M_laySteps a40 a43) a40))) a45 a46 a47 a48 a49 a50 v11 v12 v13 v14), (0, 0)) r from k2)
    refine Ev.br (fun h2 => ?_) (fun h2 => ?_)
    · refine Ev.go (st' := (35, [some (vR 39), some (vI (nI i1))], [vI (-6 : Int32), vI (nI i1), vR 44], wd κ (mM a40 a41 a42 (f_M_laySteps a40 a43) u1 a45 a46 a47 a48 a49 a50 v11 v12 v13 v14), (0, 0))) 1 rfl trivial ?_
      exact Ev.wk (Lle.s (Lle.s Lle.z)) (Ev.to kJ2 (by simp only [iF_pos h2]))
    · refine Ev.go (st' := (27, [some (vR 39), some (vI (nI i1))], [vI (nI i1), vR 39, vI (nI i1), vR 44], wd κ (mM a40 a41 a42 (f_M_laySteps a40 a43) u1 a45 a46 a47 a48 a49 a50 v11 v12 v13 v14), (0, 0))) 2 rfl trivial ?_
      refine Ev.callI (a := 52) (As := [vR 39, vI (nI i1)]) [vI (nI i1), vR 44] (f_M_nextOf (nI i1) (f_M_laySteps a40 a43) a40) (wd κ (mM a40 a41 a42 (f_M_laySteps a40 a43) u1 a45 a46 a47 a48 a49 a50 v11 v12 v13 v14)) rfl (e_M_nextOf_39 κ a40 a41 a42 (f_M_laySteps a40 a43) u1 a45 a46 a47 a48 a49 a50 v11 v12 v13 v14 (nI i1) (hp1.2.1.2 h2).1) ?_
      refine Ev.go (st' := (35, [some (vR 39), some (vI (nI i1))], [vI (f_M_nextOf (nI i1) (f_M_laySteps a40 a43) a40), vI (nI i1), vR 44], wd κ (mM a40 a41 a42 (f_M_laySteps a40 a43) u1 a45 a46 a47 a48 a49 a50 v11 v12 v13 v14), (0, 0))) 1 rfl trivial ?_
      exact Ev.wk (Lle.s (Lle.s Lle.z)) (Ev.to kJ2 (by simp only [iF_neg h2]))
  · refine Ev.go (st' := (if (8 : Int32) ≤ nI 8 then 42 else 12, [some (vR 39), some (vI (nI 8))], [], wd κ (mM a40 a41 a42 (f_M_laySteps a40 a43) (forN (b_M_layPaths_1 a40 (f_M_laySteps a40 a43)) 0 8 a44) a45 a46 a47 a48 a49 a50 v11 v12 v13 v14), (0, 0))) 3 rfl trivial (Ev.brN (by decide) ?_)
    refine Ev.wk (Lle.s (Lle.n Lle.z)) ?_
    refine Ev.go (st' := (44, [some (vR 39), some (vI (0 : Int32))], [], wd κ (mM a40 a41 a42 (f_M_laySteps a40 a43) (forN (b_M_layPaths_1 a40 (f_M_laySteps a40 a43)) 0 8 a44) a45 a46 a47 a48 a49 a50 v11 v12 v13 v14), (0, 0))) 2 rfl trivial ?_
    refine Ev.wk (Lle.s (Lle.s Lle.z)) ?_
    refine Ev.loopN (fun c v => (44, [some (vR 39), some (vI c)], [], wd κ (mM a40 a41 a42 (f_M_laySteps a40 a43) (forN (b_M_layPaths_1 a40 (f_M_laySteps a40 a43)) 0 8 a44) v.1 v.2 a47 a48 a49 a50 v11 v12 v13 v14), (0, 0))) (b_M_layPaths_2 (forN (b_M_layPaths_1 a40 (f_M_laySteps a40 a43)) 0 8 a44) a40 (f_M_laySteps a40 a43)) 0 8 8 (a45, a46) (c0 := (0 : Int32)) rfl (by omega) (fun j hj k2 => ?_) ?_
    · have hp3 := hP.2.2.1 j hj
      have hi3 : 0 + j < 8 := by omega
      clear hj
      generalize forN (b_M_layPaths_2 (forN (b_M_layPaths_1 a40 (f_M_laySteps a40 a43)) 0 8 a44) a40 (f_M_laySteps a40 a43)) 0 j (a45, a46) = u3 at hp3 k2 ⊢
      generalize 0 + j = i3 at hi3 hp3 k2 ⊢
      show Ev none 55 (44, [some (vR 39), some (vI (nI i3))], [], wd κ (mM a40 a41 a42 (f_M_laySteps a40 a43) (forN (b_M_layPaths_1 a40 (f_M_laySteps a40 a43)) 0 8 a44) u3.1 u3.2 a47 a48 a49 a50 v11 v12 v13 v14), (0, 0)) r
      refine Ev.go (st' := (if (8 : Int32) ≤ nI i3 then 61 else 50, [some (vR 39), some (vI (nI i3))], [], wd κ (mM a40 a41 a42 (f_M_laySteps a40 a43) (forN (b_M_layPaths_1 a40 (f_M_laySteps a40 a43)) 0 8 a44) u3.1 u3.2 a47 a48 a49 a50 v11 v12 v13 v14), (0, 0))) 3 rfl trivial (Ev.brF (nI_ge hi3 (by decide)) ?_)
      refine Ev.go (st' := (52, [some (vR 39), some (vI (nI i3))], [vI (nI i3), vR 39], wd κ (mM a40 a41 a42 (f_M_laySteps a40 a43) (forN (b_M_layPaths_1 a40 (f_M_laySteps a40 a43)) 0 8 a44) u3.1 u3.2 a47 a48 a49 a50 v11 v12 v13 v14), (0, 0))) 2 rfl trivial ?_
      refine Ev.callV (a := 54) (As := [vR 39, vI (nI i3)]) [] (wd κ (mM a40 a41 a42 (f_M_laySteps a40 a43) (forN (b_M_layPaths_1 a40 (f_M_laySteps a40 a43)) 0 8 a44) (f_M_layRow (nI i3) (forN (b_M_layPaths_1 a40 (f_M_laySteps a40 a43)) 0 8 a44) a40 (f_M_laySteps a40 a43) u3.1 u3.2).1 (f_M_layRow (nI i3) (forN (b_M_layPaths_1 a40 (f_M_laySteps a40 a43)) 0 8 a44) a40 (f_M_laySteps a40 a43) u3.1 u3.2).2 a47 a48 a49 a50 v11 v12 v13 v14)) rfl (e_M_layRow_39 κ a40 a41 a42 (f_M_laySteps a40 a43) (forN (b_M_layPaths_1 a40 (f_M_laySteps a40 a43)) 0 8 a44) u3.1 u3.2 a47 a48 a49 a50 v11 v12 v13 v14 (nI i3) hp3.1) ?_
      refine Ev.go (st' := (44, [some (vR 39), some (vI ((nI i3) + (1 : Int32)))], [], wd κ (mM a40 a41 a42 (f_M_laySteps a40 a43) (forN (b_M_layPaths_1 a40 (f_M_laySteps a40 a43)) 0 8 a44) (f_M_layRow (nI i3) (forN (b_M_layPaths_1 a40 (f_M_laySteps a40 a43)) 0 8 a44) a40 (f_M_laySteps a40 a43) u3.1 u3.2).1 (f_M_layRow (nI i3) (forN (b_M_layPaths_1 a40 (f_M_laySteps a40 a43)) 0 8 a44) a40 (f_M_laySteps a40 a43) u3.1 u3.2).2 a47 a48 a49 a50 v11 v12 v13 v14), (0, 0))) 2 rfl trivial ?_
      exact Ev.wk (Lle.s (Lle.s Lle.z)) (show Ev none 55 (44, [some (vR 39), some (vI ((nI i3) + (1 : Int32)))], [], wd κ (mM a40 a41 a42 (f_M_laySteps a40 a43) (forN (b_M_layPaths_1 a40 (f_M_laySteps a40 a43)) 0 8 a44) (f_M_layRow (nI i3) (forN (b_M_layPaths_1 a40 (f_M_laySteps a40 a43)) 0 8 a44) a40 (f_M_laySteps a40 a43) u3.1 u3.2).1 (f_M_layRow (nI i3) (forN (b_M_layPaths_1 a40 (f_M_laySteps a40 a43)) 0 8 a44) a40 (f_M_laySteps a40 a43) u3.1 u3.2).2 a47 a48 a49 a50 v11 v12 v13 v14), (0, 0)) r from k2)
    · refine Ev.go (st' := (if (8 : Int32) ≤ nI 8 then 61 else 50, [some (vR 39), some (vI (nI 8))], [], wd κ (mM a40 a41 a42 (f_M_laySteps a40 a43) (forN (b_M_layPaths_1 a40 (f_M_laySteps a40 a43)) 0 8 a44) (forN (b_M_layPaths_2 (forN (b_M_layPaths_1 a40 (f_M_laySteps a40 a43)) 0 8 a44) a40 (f_M_laySteps a40 a43)) 0 8 (a45, a46)).1 (forN (b_M_layPaths_2 (forN (b_M_layPaths_1 a40 (f_M_laySteps a40 a43)) 0 8 a44) a40 (f_M_laySteps a40 a43)) 0 8 (a45, a46)).2 a47 a48 a49 a50 v11 v12 v13 v14), (0, 0))) 3 rfl trivial (Ev.brN (by decide) ?_)
      refine Ev.wk (Lle.n (Lle.n Lle.z)) ?_
      rw [hK] at k
      have k3 : (none, wd κ (mM a40 a41 a42 (f_M_laySteps a40 a43) (forN (b_M_layPaths_1 a40 (f_M_laySteps a40 a43)) 0 8 a44) (forN (b_M_layPaths_2 (forN (b_M_layPaths_1 a40 (f_M_laySteps a40 a43)) 0 8 a44) a40 (f_M_laySteps a40 a43)) 0 8 (a45, a46)).1 (forN (b_M_layPaths_2 (forN (b_M_layPaths_1 a40 (f_M_laySteps a40 a43)) 0 8 a44) a40 (f_M_laySteps a40 a43)) 0 8 (a45, a46)).2 a47 a48 a49 a50 v11 v12 v13 v14)) = r := k
      rw [← k3]
      exact Ev.retv rfl rfl
/-! OF MeshNamesModel.partOf(I)I -/
noncomputable def b_M_partOf_1 (p1 : Int32) (steps : Nat → Int32) (j : Nat) (v : Int32) : Int32 := (v ||| (iF ((f_M_areTogether p1 (nI j) steps) = 0) (0 : Int32) ((1 : Int32) <<< ((nI j) &&& 31))))
def P_M_partOf_1 (p1 : Int32) (steps : Nat → Int32) (j : Nat) (v : Int32) : Prop := (P_M_areTogether p1 (nI j) steps) ∧ True
noncomputable def f_M_partOf (x1 : Int32) (steps : Nat → Int32) : Int32 := (forN (b_M_partOf_1 x1 steps) 0 8 (0 : Int32))
def P_M_partOf (x1 : Int32) (steps : Nat → Int32) : Prop := (∀ q, q < 8 → P_M_partOf_1 x1 steps (0 + q) (forN (b_M_partOf_1 x1 steps) 0 q (0 : Int32))) ∧ True
set_option maxRecDepth 8000 in
set_option maxHeartbeats 4000000 in
theorem e_M_partOf_39 (κ : Sg) (a40 a41 a42 a43 a44 a45 a46 a47 a48 a49 a50 : Nat → Int32) (v11 v12 v13 v14 : Int32) (x1 : Int32) (hP : P_M_partOf x1 a43)  : Ev none 56 (0, [some (vR 39), some (vI x1), none, none], [], wd κ (mM a40 a41 a42 a43 a44 a45 a46 a47 a48 a49 a50 v11 v12 v13 v14), (0, 0)) (some (f_M_partOf x1 a43), wd κ (mM a40 a41 a42 a43 a44 a45 a46 a47 a48 a49 a50 v11 v12 v13 v14)) := by
  suffices hh : ∀ (r : Option Int32 × AW) (K : (Int32) → Prop), K = (fun o : Int32 => (some o, wd κ (mM a40 a41 a42 a43 a44 a45 a46 a47 a48 a49 a50 v11 v12 v13 v14)) = r) → K (forN (b_M_partOf_1 x1 a43) 0 8 (0 : Int32)) → Ev none 56 (0, [some (vR 39), some (vI x1), none, none], [], wd κ (mM a40 a41 a42 a43 a44 a45 a46 a47 a48 a49 a50 v11 v12 v13 v14), (0, 0)) r from hh _ _ rfl rfl
  intro r K hK k
  refine Ev.go (st' := (4, [some (vR 39), some (vI x1), some (vI (0 : Int32)), some (vI (0 : Int32))], [], wd κ (mM a40 a41 a42 a43 a44 a45 a46 a47 a48 a49 a50 v11 v12 v13 v14), (0, 0))) 4 rfl trivial ?_
  refine Ev.wk (Lle.s (Lle.s (Lle.s (Lle.s Lle.z)))) ?_
  refine Ev.loopN (fun c v => (4, [some (vR 39), some (vI x1), some (vI v), some (vI c)], [], wd κ (mM a40 a41 a42 a43 a44 a45 a46 a47 a48 a49 a50 v11 v12 v13 v14), (0, 0))) (b_M_partOf_1 x1 a43) 0 8 8 (0 : Int32) (c0 := (0 : Int32)) rfl (by omega) (fun j hj k2 => ?_) ?_
  · have hp1 := hP.1 j hj
    have hi1 : 0 + j < 8 := by omega
    clear hj
    generalize forN (b_M_partOf_1 x1 a43) 0 j (0 : Int32) = u1 at hp1 k2 ⊢
    generalize 0 + j = i1 at hi1 hp1 k2 ⊢
    show Ev none 56 (4, [some (vR 39), some (vI x1), some (vI u1), some (vI (nI i1))], [], wd κ (mM a40 a41 a42 a43 a44 a45 a46 a47 a48 a49 a50 v11 v12 v13 v14), (0, 0)) r
    refine Ev.go (st' := (if (8 : Int32) ≤ nI i1 then 35 else 10, [some (vR 39), some (vI x1), some (vI u1), some (vI (nI i1))], [], wd κ (mM a40 a41 a42 a43 a44 a45 a46 a47 a48 a49 a50 v11 v12 v13 v14), (0, 0))) 3 rfl trivial (Ev.brF (nI_ge hi1 (by decide)) ?_)
    refine Ev.go (st' := (14, [some (vR 39), some (vI x1), some (vI u1), some (vI (nI i1))], [vI (nI i1), vI x1, vR 39, vI u1], wd κ (mM a40 a41 a42 a43 a44 a45 a46 a47 a48 a49 a50 v11 v12 v13 v14), (0, 0))) 4 rfl trivial ?_
    refine Ev.callI (a := 50) (As := [vR 39, vI x1, vI (nI i1)]) [vI u1] (f_M_areTogether x1 (nI i1) a43) (wd κ (mM a40 a41 a42 a43 a44 a45 a46 a47 a48 a49 a50 v11 v12 v13 v14)) rfl (e_M_areTogether_39 κ a40 a41 a42 a43 a44 a45 a46 a47 a48 a49 a50 v11 v12 v13 v14 x1 (nI i1) hp1.1) ?_
    refine Ev.go (st' := (if (f_M_areTogether x1 (nI i1) a43) = 0 then 26 else 20, [some (vR 39), some (vI x1), some (vI u1), some (vI (nI i1))], [vI u1], wd κ (mM a40 a41 a42 a43 a44 a45 a46 a47 a48 a49 a50 v11 v12 v13 v14), (0, 0))) 1 rfl trivial ?_
    have kJ2 : Ev none 56 (27, [some (vR 39), some (vI x1), none, some (vI (nI i1))], [vI (iF ((f_M_areTogether x1 (nI i1) a43) = 0) (0 : Int32) ((1 : Int32) <<< ((nI i1) &&& 31))), vI u1], wd κ (mM a40 a41 a42 a43 a44 a45 a46 a47 a48 a49 a50 v11 v12 v13 v14), (0, 0)) r := by
      refine Ev.go (st' := (4, [some (vR 39), some (vI x1), some (vI (u1 ||| (iF ((f_M_areTogether x1 (nI i1) a43) = 0) (0 : Int32) ((1 : Int32) <<< ((nI i1) &&& 31))))), some (vI ((nI i1) + (1 : Int32)))], [], wd κ (mM a40 a41 a42 a43 a44 a45 a46 a47 a48 a49 a50 v11 v12 v13 v14), (0, 0))) 4 rfl trivial ?_
      exact Ev.wk (Lle.s (Lle.s (Lle.s (Lle.s Lle.z)))) (show Ev none 56 (4, [some (vR 39), some (vI x1), some (vI (u1 ||| (iF ((f_M_areTogether x1 (nI i1) a43) = 0) (0 : Int32) ((1 : Int32) <<< ((nI i1) &&& 31))))), some (vI ((nI i1) + (1 : Int32)))], [], wd κ (mM a40 a41 a42 a43 a44 a45 a46 a47 a48 a49 a50 v11 v12 v13 v14), (0, 0)) r from k2)
    refine Ev.br (fun h2 => ?_) (fun h2 => ?_)
    · refine Ev.go (st' := (27, [some (vR 39), some (vI x1), some (vI u1), some (vI (nI i1))], [vI (0 : Int32), vI u1], wd κ (mM a40 a41 a42 a43 a44 a45 a46 a47 a48 a49 a50 v11 v12 v13 v14), (0, 0))) 1 rfl trivial ?_
      exact Ev.wk (Lle.s (Lle.s (Lle.n (Lle.s Lle.z)))) (Ev.to kJ2 (by simp only [iF_pos h2]))
    · refine Ev.go (st' := (27, [some (vR 39), some (vI x1), some (vI u1), some (vI (nI i1))], [vI ((1 : Int32) <<< ((nI i1) &&& 31)), vI u1], wd κ (mM a40 a41 a42 a43 a44 a45 a46 a47 a48 a49 a50 v11 v12 v13 v14), (0, 0))) 4 rfl trivial ?_
      exact Ev.wk (Lle.s (Lle.s (Lle.n (Lle.s Lle.z)))) (Ev.to kJ2 (by simp only [iF_neg h2]))
  · refine Ev.go (st' := (if (8 : Int32) ≤ nI 8 then 35 else 10, [some (vR 39), some (vI x1), some (vI (forN (b_M_partOf_1 x1 a43) 0 8 (0 : Int32))), some (vI (nI 8))], [], wd κ (mM a40 a41 a42 a43 a44 a45 a46 a47 a48 a49 a50 v11 v12 v13 v14), (0, 0))) 3 rfl trivial (Ev.brN (by decide) ?_)
    refine Ev.wk (Lle.n (Lle.n (Lle.s (Lle.n Lle.z)))) ?_
    refine Ev.go (st' := (36, [none, none, some (vI (forN (b_M_partOf_1 x1 a43) 0 8 (0 : Int32))), none], [vI (forN (b_M_partOf_1 x1 a43) 0 8 (0 : Int32))], wd κ (mM a40 a41 a42 a43 a44 a45 a46 a47 a48 a49 a50 v11 v12 v13 v14), (0, 0))) 1 rfl trivial ?_
    rw [hK] at k
    have k3 : (some (forN (b_M_partOf_1 x1 a43) 0 8 (0 : Int32)), wd κ (mM a40 a41 a42 a43 a44 a45 a46 a47 a48 a49 a50 v11 v12 v13 v14)) = r := k
    rw [← k3]
    exact Ev.ireti rfl rfl
/-! OF MeshNamesModel.beforeOf(I)I -/
noncomputable def b_M_beforeOf_1 (next_ : Nat → Int32) (p1 : Int32) (j : Nat) (v : Int32) : Int32 := (iF ((next_ (nI j).toNatClampNeg) = p1) (nI j) v)
noncomputable def f_M_beforeOf (x1 : Int32) (next_ : Nat → Int32) : Int32 := (forN (b_M_beforeOf_1 next_ x1) 0 8 (-6 : Int32))
set_option maxRecDepth 8000 in
set_option maxHeartbeats 4000000 in
theorem e_M_beforeOf_39 (κ : Sg) (a40 a41 a42 a43 a44 a45 a46 a47 a48 a49 a50 : Nat → Int32) (v11 v12 v13 v14 : Int32) (x1 : Int32)  : Ev none 57 (0, [some (vR 39), some (vI x1), none, none], [], wd κ (mM a40 a41 a42 a43 a44 a45 a46 a47 a48 a49 a50 v11 v12 v13 v14), (0, 0)) (some (f_M_beforeOf x1 a44), wd κ (mM a40 a41 a42 a43 a44 a45 a46 a47 a48 a49 a50 v11 v12 v13 v14)) := by
  suffices hh : ∀ (r : Option Int32 × AW) (K : (Int32) → Prop), K = (fun o : Int32 => (some o, wd κ (mM a40 a41 a42 a43 a44 a45 a46 a47 a48 a49 a50 v11 v12 v13 v14)) = r) → K (forN (b_M_beforeOf_1 a44 x1) 0 8 (-6 : Int32)) → Ev none 57 (0, [some (vR 39), some (vI x1), none, none], [], wd κ (mM a40 a41 a42 a43 a44 a45 a46 a47 a48 a49 a50 v11 v12 v13 v14), (0, 0)) r from hh _ _ rfl rfl
  intro r K hK k
  refine Ev.go (st' := (5, [some (vR 39), some (vI x1), some (vI (-6 : Int32)), some (vI (0 : Int32))], [], wd κ (mM a40 a41 a42 a43 a44 a45 a46 a47 a48 a49 a50 v11 v12 v13 v14), (0, 0))) 4 rfl trivial ?_
  refine Ev.wk (Lle.s (Lle.s (Lle.s (Lle.s Lle.z)))) ?_
  refine Ev.loopN (fun c v => (5, [some (vR 39), some (vI x1), some (vI v), some (vI c)], [], wd κ (mM a40 a41 a42 a43 a44 a45 a46 a47 a48 a49 a50 v11 v12 v13 v14), (0, 0))) (b_M_beforeOf_1 a44 x1) 0 8 8 (-6 : Int32) (c0 := (0 : Int32)) rfl (by omega) (fun j hj k2 => ?_) ?_
  · have hi1 : 0 + j < 8 := by omega
    clear hj
    generalize forN (b_M_beforeOf_1 a44 x1) 0 j (-6 : Int32) = u1 at k2 ⊢
    generalize 0 + j = i1 at hi1 k2 ⊢
    show Ev none 57 (5, [some (vR 39), some (vI x1), some (vI u1), some (vI (nI i1))], [], wd κ (mM a40 a41 a42 a43 a44 a45 a46 a47 a48 a49 a50 v11 v12 v13 v14), (0, 0)) r
    refine Ev.go (st' := (if (8 : Int32) ≤ nI i1 then 33 else 11, [some (vR 39), some (vI x1), some (vI u1), some (vI (nI i1))], [], wd κ (mM a40 a41 a42 a43 a44 a45 a46 a47 a48 a49 a50 v11 v12 v13 v14), (0, 0))) 3 rfl trivial (Ev.brF (nI_ge hi1 (by decide)) ?_)
    refine Ev.go (st' := (if (a44 (nI i1).toNatClampNeg) = x1 then 21 else 25, [some (vR 39), some (vI x1), some (vI u1), some (vI (nI i1))], [], wd κ (mM a40 a41 a42 a43 a44 a45 a46 a47 a48 a49 a50 v11 v12 v13 v14), (0, 0))) 6 rfl ⟨(vp_in_nI (by omega) (by decide)), trivial⟩ ?_
    have kJ2 : Ev none 57 (26, [some (vR 39), some (vI x1), none, some (vI (nI i1))], [vI (iF ((a44 (nI i1).toNatClampNeg) = x1) (nI i1) u1)], wd κ (mM a40 a41 a42 a43 a44 a45 a46 a47 a48 a49 a50 v11 v12 v13 v14), (0, 0)) r := by
      refine Ev.go (st' := (5, [some (vR 39), some (vI x1), some (vI (iF ((a44 (nI i1).toNatClampNeg) = x1) (nI i1) u1)), some (vI ((nI i1) + (1 : Int32)))], [], wd κ (mM a40 a41 a42 a43 a44 a45 a46 a47 a48 a49 a50 v11 v12 v13 v14), (0, 0))) 3 rfl trivial ?_
      exact Ev.wk (Lle.s (Lle.s (Lle.s (Lle.s Lle.z)))) (show Ev none 57 (5, [some (vR 39), some (vI x1), some (vI (iF ((a44 (nI i1).toNatClampNeg) = x1) (nI i1) u1)), some (vI ((nI i1) + (1 : Int32)))], [], wd κ (mM a40 a41 a42 a43 a44 a45 a46 a47 a48 a49 a50 v11 v12 v13 v14), (0, 0)) r from k2)
    refine Ev.br (fun h2 => ?_) (fun h2 => ?_)
    · refine Ev.go (st' := (26, [some (vR 39), some (vI x1), some (vI u1), some (vI (nI i1))], [vI (nI i1)], wd κ (mM a40 a41 a42 a43 a44 a45 a46 a47 a48 a49 a50 v11 v12 v13 v14), (0, 0))) 2 rfl trivial ?_
      exact Ev.wk (Lle.s (Lle.s (Lle.n (Lle.s Lle.z)))) (Ev.to kJ2 (by simp only [iF_pos h2]))
    · refine Ev.go (st' := (26, [some (vR 39), some (vI x1), some (vI u1), some (vI (nI i1))], [vI u1], wd κ (mM a40 a41 a42 a43 a44 a45 a46 a47 a48 a49 a50 v11 v12 v13 v14), (0, 0))) 1 rfl trivial ?_
      exact Ev.wk (Lle.s (Lle.s (Lle.n (Lle.s Lle.z)))) (Ev.to kJ2 (by simp only [iF_neg h2]))
  · refine Ev.go (st' := (if (8 : Int32) ≤ nI 8 then 33 else 11, [some (vR 39), some (vI x1), some (vI (forN (b_M_beforeOf_1 a44 x1) 0 8 (-6 : Int32))), some (vI (nI 8))], [], wd κ (mM a40 a41 a42 a43 a44 a45 a46 a47 a48 a49 a50 v11 v12 v13 v14), (0, 0))) 3 rfl trivial (Ev.brN (by decide) ?_)
    refine Ev.wk (Lle.n (Lle.n (Lle.s (Lle.n Lle.z)))) ?_
    refine Ev.go (st' := (34, [none, none, some (vI (forN (b_M_beforeOf_1 a44 x1) 0 8 (-6 : Int32))), none], [vI (forN (b_M_beforeOf_1 a44 x1) 0 8 (-6 : Int32))], wd κ (mM a40 a41 a42 a43 a44 a45 a46 a47 a48 a49 a50 v11 v12 v13 v14), (0, 0))) 1 rfl trivial ?_
    rw [hK] at k
    have k3 : (some (forN (b_M_beforeOf_1 a44 x1) 0 8 (-6 : Int32)), wd κ (mM a40 a41 a42 a43 a44 a45 a46 a47 a48 a49 a50 v11 v12 v13 v14)) = r := k
    rw [← k3]
    exact Ev.ireti rfl rfl
/-! OF MeshNamesModel.linksOf(I)I -/
noncomputable def b_M_linksOf_1 (p1 : Int32) (state_ : Nat → Int32) (j : Nat) (v : Int32) : Int32 := (v + (iF ((f_M_counts p1 (nI j) state_) = 0) (0 : Int32) (1 : Int32)))
def P_M_linksOf_1 (p1 : Int32) (state_ : Nat → Int32) (j : Nat) (v : Int32) : Prop := (P_M_counts p1 (nI j) state_) ∧ True
noncomputable def f_M_linksOf (x1 : Int32) (state_ : Nat → Int32) : Int32 := (forN (b_M_linksOf_1 x1 state_) 0 8 (0 : Int32))
def P_M_linksOf (x1 : Int32) (state_ : Nat → Int32) : Prop := (∀ q, q < 8 → P_M_linksOf_1 x1 state_ (0 + q) (forN (b_M_linksOf_1 x1 state_) 0 q (0 : Int32))) ∧ True
set_option maxRecDepth 8000 in
set_option maxHeartbeats 4000000 in
theorem e_M_linksOf_39 (κ : Sg) (a40 a41 a42 a43 a44 a45 a46 a47 a48 a49 a50 : Nat → Int32) (v11 v12 v13 v14 : Int32) (x1 : Int32) (hP : P_M_linksOf x1 a40)  : Ev none 58 (0, [some (vR 39), some (vI x1), none, none], [], wd κ (mM a40 a41 a42 a43 a44 a45 a46 a47 a48 a49 a50 v11 v12 v13 v14), (0, 0)) (some (f_M_linksOf x1 a40), wd κ (mM a40 a41 a42 a43 a44 a45 a46 a47 a48 a49 a50 v11 v12 v13 v14)) := by
  suffices hh : ∀ (r : Option Int32 × AW) (K : (Int32) → Prop), K = (fun o : Int32 => (some o, wd κ (mM a40 a41 a42 a43 a44 a45 a46 a47 a48 a49 a50 v11 v12 v13 v14)) = r) → K (forN (b_M_linksOf_1 x1 a40) 0 8 (0 : Int32)) → Ev none 58 (0, [some (vR 39), some (vI x1), none, none], [], wd κ (mM a40 a41 a42 a43 a44 a45 a46 a47 a48 a49 a50 v11 v12 v13 v14), (0, 0)) r from hh _ _ rfl rfl
  intro r K hK k
  refine Ev.go (st' := (4, [some (vR 39), some (vI x1), some (vI (0 : Int32)), some (vI (0 : Int32))], [], wd κ (mM a40 a41 a42 a43 a44 a45 a46 a47 a48 a49 a50 v11 v12 v13 v14), (0, 0))) 4 rfl trivial ?_
  refine Ev.wk (Lle.s (Lle.s (Lle.s (Lle.s Lle.z)))) ?_
  refine Ev.loopN (fun c v => (4, [some (vR 39), some (vI x1), some (vI v), some (vI c)], [], wd κ (mM a40 a41 a42 a43 a44 a45 a46 a47 a48 a49 a50 v11 v12 v13 v14), (0, 0))) (b_M_linksOf_1 x1 a40) 0 8 8 (0 : Int32) (c0 := (0 : Int32)) rfl (by omega) (fun j hj k2 => ?_) ?_
  · have hp1 := hP.1 j hj
    have hi1 : 0 + j < 8 := by omega
    clear hj
    generalize forN (b_M_linksOf_1 x1 a40) 0 j (0 : Int32) = u1 at hp1 k2 ⊢
    generalize 0 + j = i1 at hi1 hp1 k2 ⊢
    show Ev none 58 (4, [some (vR 39), some (vI x1), some (vI u1), some (vI (nI i1))], [], wd κ (mM a40 a41 a42 a43 a44 a45 a46 a47 a48 a49 a50 v11 v12 v13 v14), (0, 0)) r
    refine Ev.go (st' := (if (8 : Int32) ≤ nI i1 then 33 else 10, [some (vR 39), some (vI x1), some (vI u1), some (vI (nI i1))], [], wd κ (mM a40 a41 a42 a43 a44 a45 a46 a47 a48 a49 a50 v11 v12 v13 v14), (0, 0))) 3 rfl trivial (Ev.brF (nI_ge hi1 (by decide)) ?_)
    refine Ev.go (st' := (14, [some (vR 39), some (vI x1), some (vI u1), some (vI (nI i1))], [vI (nI i1), vI x1, vR 39, vI u1], wd κ (mM a40 a41 a42 a43 a44 a45 a46 a47 a48 a49 a50 v11 v12 v13 v14), (0, 0))) 4 rfl trivial ?_
    refine Ev.callI (a := 47) (As := [vR 39, vI x1, vI (nI i1)]) [vI u1] (f_M_counts x1 (nI i1) a40) (wd κ (mM a40 a41 a42 a43 a44 a45 a46 a47 a48 a49 a50 v11 v12 v13 v14)) rfl (e_M_counts_39 κ a40 a41 a42 a43 a44 a45 a46 a47 a48 a49 a50 v11 v12 v13 v14 x1 (nI i1) hp1.1) ?_
    refine Ev.go (st' := (if (f_M_counts x1 (nI i1) a40) = 0 then 24 else 20, [some (vR 39), some (vI x1), some (vI u1), some (vI (nI i1))], [vI u1], wd κ (mM a40 a41 a42 a43 a44 a45 a46 a47 a48 a49 a50 v11 v12 v13 v14), (0, 0))) 1 rfl trivial ?_
    have kJ2 : Ev none 58 (25, [some (vR 39), some (vI x1), none, some (vI (nI i1))], [vI (iF ((f_M_counts x1 (nI i1) a40) = 0) (0 : Int32) (1 : Int32)), vI u1], wd κ (mM a40 a41 a42 a43 a44 a45 a46 a47 a48 a49 a50 v11 v12 v13 v14), (0, 0)) r := by
      refine Ev.go (st' := (4, [some (vR 39), some (vI x1), some (vI (u1 + (iF ((f_M_counts x1 (nI i1) a40) = 0) (0 : Int32) (1 : Int32)))), some (vI ((nI i1) + (1 : Int32)))], [], wd κ (mM a40 a41 a42 a43 a44 a45 a46 a47 a48 a49 a50 v11 v12 v13 v14), (0, 0))) 4 rfl trivial ?_
      exact Ev.wk (Lle.s (Lle.s (Lle.s (Lle.s Lle.z)))) (show Ev none 58 (4, [some (vR 39), some (vI x1), some (vI (u1 + (iF ((f_M_counts x1 (nI i1) a40) = 0) (0 : Int32) (1 : Int32)))), some (vI ((nI i1) + (1 : Int32)))], [], wd κ (mM a40 a41 a42 a43 a44 a45 a46 a47 a48 a49 a50 v11 v12 v13 v14), (0, 0)) r from k2)
    refine Ev.br (fun h2 => ?_) (fun h2 => ?_)
    · refine Ev.go (st' := (25, [some (vR 39), some (vI x1), some (vI u1), some (vI (nI i1))], [vI (0 : Int32), vI u1], wd κ (mM a40 a41 a42 a43 a44 a45 a46 a47 a48 a49 a50 v11 v12 v13 v14), (0, 0))) 1 rfl trivial ?_
      exact Ev.wk (Lle.s (Lle.s (Lle.n (Lle.s Lle.z)))) (Ev.to kJ2 (by simp only [iF_pos h2]))
    · refine Ev.go (st' := (25, [some (vR 39), some (vI x1), some (vI u1), some (vI (nI i1))], [vI (1 : Int32), vI u1], wd κ (mM a40 a41 a42 a43 a44 a45 a46 a47 a48 a49 a50 v11 v12 v13 v14), (0, 0))) 2 rfl trivial ?_
      exact Ev.wk (Lle.s (Lle.s (Lle.n (Lle.s Lle.z)))) (Ev.to kJ2 (by simp only [iF_neg h2]))
  · refine Ev.go (st' := (if (8 : Int32) ≤ nI 8 then 33 else 10, [some (vR 39), some (vI x1), some (vI (forN (b_M_linksOf_1 x1 a40) 0 8 (0 : Int32))), some (vI (nI 8))], [], wd κ (mM a40 a41 a42 a43 a44 a45 a46 a47 a48 a49 a50 v11 v12 v13 v14), (0, 0))) 3 rfl trivial (Ev.brN (by decide) ?_)
    refine Ev.wk (Lle.n (Lle.n (Lle.s (Lle.n Lle.z)))) ?_
    refine Ev.go (st' := (34, [none, none, some (vI (forN (b_M_linksOf_1 x1 a40) 0 8 (0 : Int32))), none], [vI (forN (b_M_linksOf_1 x1 a40) 0 8 (0 : Int32))], wd κ (mM a40 a41 a42 a43 a44 a45 a46 a47 a48 a49 a50 v11 v12 v13 v14), (0, 0))) 1 rfl trivial ?_
    rw [hK] at k
    have k3 : (some (forN (b_M_linksOf_1 x1 a40) 0 8 (0 : Int32)), wd κ (mM a40 a41 a42 a43 a44 a45 a46 a47 a48 a49 a50 v11 v12 v13 v14)) = r := k
    rw [← k3]
    exact Ev.ireti rfl rfl
/-! OF MeshNamesModel.placeIn(II)I -/
noncomputable def b_M_placeIn_1 (rowMany : Nat → Int32) (p1 : Int32) (row : Nat → Int32) (p2 : Int32) (j : Nat) (v : Int32) : (Int32) ⊕ (Int32) := (iF ((rowMany p1.toNatClampNeg) ≤ (nI j)) (.inr v) (.inl (iF ((row (((8 : Int32) * p1) + (nI j)).toNatClampNeg) = p2) (nI j) v)))
def P_M_placeIn_1 (rowMany : Nat → Int32) (p1 : Int32) (row : Nat → Int32) (p2 : Int32) (j : Nat) (v : Int32) : Prop := vp_in p1 8 ∧ (((rowMany p1.toNatClampNeg) ≤ (nI j) → True) ∧ (¬ ((rowMany p1.toNatClampNeg) ≤ (nI j)) → (vp_in (((8 : Int32) * p1) + (nI j)) 64 ∧ True))) ∧ True
noncomputable def f_M_placeIn (x1 : Int32) (x2 : Int32) (rowMany : Nat → Int32) (row : Nat → Int32) : Int32 := (unX (forX (b_M_placeIn_1 rowMany x1 row x2) 0 9 (-6 : Int32)))
def P_M_placeIn (x1 : Int32) (x2 : Int32) (rowMany : Nat → Int32) (row : Nat → Int32) : Prop := (∃ u, forX (b_M_placeIn_1 rowMany x1 row x2) 0 9 (-6 : Int32) = .inr u) ∧ (∀ q u, q < 9 → forX (b_M_placeIn_1 rowMany x1 row x2) 0 q (-6 : Int32) = .inl u → P_M_placeIn_1 rowMany x1 row x2 (0 + q) u) ∧ True
set_option maxRecDepth 8000 in
set_option maxHeartbeats 4000000 in
theorem e_M_placeIn_39 (κ : Sg) (a40 a41 a42 a43 a44 a45 a46 a47 a48 a49 a50 : Nat → Int32) (v11 v12 v13 v14 : Int32) (x1 x2 : Int32) (hP : P_M_placeIn x1 x2 a46 a45)  : Ev none 59 (0, [some (vR 39), some (vI x1), some (vI x2), none, none], [], wd κ (mM a40 a41 a42 a43 a44 a45 a46 a47 a48 a49 a50 v11 v12 v13 v14), (0, 0)) (some (f_M_placeIn x1 x2 a46 a45), wd κ (mM a40 a41 a42 a43 a44 a45 a46 a47 a48 a49 a50 v11 v12 v13 v14)) := by
  suffices hh : ∀ (r : Option Int32 × AW) (K : (Int32) → Prop), K = (fun o : Int32 => (some o, wd κ (mM a40 a41 a42 a43 a44 a45 a46 a47 a48 a49 a50 v11 v12 v13 v14)) = r) → K (unX (forX (b_M_placeIn_1 a46 x1 a45 x2) 0 9 (-6 : Int32))) → Ev none 59 (0, [some (vR 39), some (vI x1), some (vI x2), none, none], [], wd κ (mM a40 a41 a42 a43 a44 a45 a46 a47 a48 a49 a50 v11 v12 v13 v14), (0, 0)) r from hh _ _ rfl rfl
  intro r K hK k
  refine Ev.go (st' := (6, [some (vR 39), some (vI x1), some (vI x2), some (vI (-6 : Int32)), some (vI (0 : Int32))], [], wd κ (mM a40 a41 a42 a43 a44 a45 a46 a47 a48 a49 a50 v11 v12 v13 v14), (0, 0))) 4 rfl trivial ?_
  refine Ev.wk (Lle.s (Lle.s (Lle.s (Lle.s (Lle.s Lle.z))))) ?_
  refine Ev.loopA (fun c v => (6, [some (vR 39), some (vI x1), some (vI x2), some (vI v), some (vI c)], [], wd κ (mM a40 a41 a42 a43 a44 a45 a46 a47 a48 a49 a50 v11 v12 v13 v14), (0, 0))) (fun v => (46, [none, none, none, some (vI v), none], [], wd κ (mM a40 a41 a42 a43 a44 a45 a46 a47 a48 a49 a50 v11 v12 v13 v14), (0, 0))) (b_M_placeIn_1 a46 x1 a45 x2) 0 9 (-6 : Int32) (c0 := (0 : Int32)) rfl hP.1 (fun j u1 hj hv K1 hK1 k => ?_) ?_
  · have hp1 := hP.2.1 j u1 hj hv
    have hi1 : 0 + j < 0 + 9 := by omega
    clear hj hv
    generalize 0 + j = i1 at hi1 hK1 hp1 k ⊢
    replace k : K1 (iF ((a46 x1.toNatClampNeg) ≤ (nI i1)) (.inr u1) (.inl (iF ((a45 (((8 : Int32) * x1) + (nI i1)).toNatClampNeg) = x2) (nI i1) u1))) := k
    show Ev none 59 (6, [some (vR 39), some (vI x1), some (vI x2), some (vI u1), some (vI (nI i1))], [], wd κ (mM a40 a41 a42 a43 a44 a45 a46 a47 a48 a49 a50 v11 v12 v13 v14), (0, 0)) r
    refine Ev.go (st' := (if (a46 x1.toNatClampNeg) ≤ (nI i1) then 46 else 17, [some (vR 39), some (vI x1), some (vI x2), some (vI u1), some (vI (nI i1))], [], wd κ (mM a40 a41 a42 a43 a44 a45 a46 a47 a48 a49 a50 v11 v12 v13 v14), (0, 0))) 6 rfl ⟨hp1.1, trivial⟩ ?_
    refine Ev.brK (K := K1) k (fun h2 k => ?_) (fun h2 k => ?_)
    · rw [hK1] at k
      exact Ev.wk (Lle.n (Lle.n (Lle.n (Lle.s (Lle.n Lle.z))))) (show Ev none 59 (46, [none, none, none, some (vI u1), none], [], wd κ (mM a40 a41 a42 a43 a44 a45 a46 a47 a48 a49 a50 v11 v12 v13 v14), (0, 0)) r from k)
    · refine Ev.go (st' := (if (a45 (((8 : Int32) * x1) + (nI i1)).toNatClampNeg) = x2 then 33 else 38, [some (vR 39), some (vI x1), some (vI x2), some (vI u1), some (vI (nI i1))], [], wd κ (mM a40 a41 a42 a43 a44 a45 a46 a47 a48 a49 a50 v11 v12 v13 v14), (0, 0))) 10 rfl ⟨(hp1.2.1.2 h2).1, trivial⟩ ?_
      have kJ3 : Ev none 59 (39, [some (vR 39), some (vI x1), some (vI x2), none, some (vI (nI i1))], [vI (iF ((a45 (((8 : Int32) * x1) + (nI i1)).toNatClampNeg) = x2) (nI i1) u1)], wd κ (mM a40 a41 a42 a43 a44 a45 a46 a47 a48 a49 a50 v11 v12 v13 v14), (0, 0)) r := by
        refine Ev.go (st' := (6, [some (vR 39), some (vI x1), some (vI x2), some (vI (iF ((a45 (((8 : Int32) * x1) + (nI i1)).toNatClampNeg) = x2) (nI i1) u1)), some (vI ((nI i1) + (1 : Int32)))], [], wd κ (mM a40 a41 a42 a43 a44 a45 a46 a47 a48 a49 a50 v11 v12 v13 v14), (0, 0))) 3 rfl trivial ?_
        rw [hK1] at k
        exact Ev.wk (Lle.s (Lle.s (Lle.s (Lle.s (Lle.s Lle.z))))) (show Ev none 59 (6, [some (vR 39), some (vI x1), some (vI x2), some (vI (iF ((a45 (((8 : Int32) * x1) + (nI i1)).toNatClampNeg) = x2) (nI i1) u1)), some (vI ((nI i1) + (1 : Int32)))], [], wd κ (mM a40 a41 a42 a43 a44 a45 a46 a47 a48 a49 a50 v11 v12 v13 v14), (0, 0)) r from k)
      refine Ev.br (fun h3 => ?_) (fun h3 => ?_)
      · refine Ev.go (st' := (39, [some (vR 39), some (vI x1), some (vI x2), some (vI u1), some (vI (nI i1))], [vI (nI i1)], wd κ (mM a40 a41 a42 a43 a44 a45 a46 a47 a48 a49 a50 v11 v12 v13 v14), (0, 0))) 2 rfl trivial ?_
        exact Ev.wk (Lle.s (Lle.s (Lle.s (Lle.n (Lle.s Lle.z))))) (Ev.to kJ3 (by simp only [iF_pos h3]))
      · refine Ev.go (st' := (39, [some (vR 39), some (vI x1), some (vI x2), some (vI u1), some (vI (nI i1))], [vI u1], wd κ (mM a40 a41 a42 a43 a44 a45 a46 a47 a48 a49 a50 v11 v12 v13 v14), (0, 0))) 1 rfl trivial ?_
        exact Ev.wk (Lle.s (Lle.s (Lle.s (Lle.n (Lle.s Lle.z))))) (Ev.to kJ3 (by simp only [iF_neg h3]))
  · show Ev none 59 (46, [none, none, none, some (vI (unX (forX (b_M_placeIn_1 a46 x1 a45 x2) 0 9 (-6 : Int32)))), none], [], wd κ (mM a40 a41 a42 a43 a44 a45 a46 a47 a48 a49 a50 v11 v12 v13 v14), (0, 0)) r
    refine Ev.go (st' := (47, [none, none, none, some (vI (unX (forX (b_M_placeIn_1 a46 x1 a45 x2) 0 9 (-6 : Int32)))), none], [vI (unX (forX (b_M_placeIn_1 a46 x1 a45 x2) 0 9 (-6 : Int32)))], wd κ (mM a40 a41 a42 a43 a44 a45 a46 a47 a48 a49 a50 v11 v12 v13 v14), (0, 0))) 1 rfl trivial ?_
    rw [hK] at k
    have k3 : (some (unX (forX (b_M_placeIn_1 a46 x1 a45 x2) 0 9 (-6 : Int32))), wd κ (mM a40 a41 a42 a43 a44 a45 a46 a47 a48 a49 a50 v11 v12 v13 v14)) = r := k
    rw [← k3]
    exact Ev.ireti rfl rfl
/-! OF MeshNamesModel.pathsOver(I)I -/
noncomputable def b_M_pathsOver_1 (p1 : Int32) (rowMany : Nat → Int32) (row : Nat → Int32) (j : Nat) (v : Int32) : Int32 := (v + (iF ((f_M_placeIn (nI j) p1 rowMany row) < 0) (0 : Int32) (1 : Int32)))
def P_M_pathsOver_1 (p1 : Int32) (rowMany : Nat → Int32) (row : Nat → Int32) (j : Nat) (v : Int32) : Prop := (P_M_placeIn (nI j) p1 rowMany row) ∧ True
noncomputable def f_M_pathsOver (x1 : Int32) (rowMany : Nat → Int32) (row : Nat → Int32) : Int32 := (forN (b_M_pathsOver_1 x1 rowMany row) 0 8 (0 : Int32))
def P_M_pathsOver (x1 : Int32) (rowMany : Nat → Int32) (row : Nat → Int32) : Prop := (∀ q, q < 8 → P_M_pathsOver_1 x1 rowMany row (0 + q) (forN (b_M_pathsOver_1 x1 rowMany row) 0 q (0 : Int32))) ∧ True
set_option maxRecDepth 8000 in
set_option maxHeartbeats 4000000 in
theorem e_M_pathsOver_39 (κ : Sg) (a40 a41 a42 a43 a44 a45 a46 a47 a48 a49 a50 : Nat → Int32) (v11 v12 v13 v14 : Int32) (x1 : Int32) (hP : P_M_pathsOver x1 a46 a45)  : Ev none 60 (0, [some (vR 39), some (vI x1), none, none], [], wd κ (mM a40 a41 a42 a43 a44 a45 a46 a47 a48 a49 a50 v11 v12 v13 v14), (0, 0)) (some (f_M_pathsOver x1 a46 a45), wd κ (mM a40 a41 a42 a43 a44 a45 a46 a47 a48 a49 a50 v11 v12 v13 v14)) := by
  suffices hh : ∀ (r : Option Int32 × AW) (K : (Int32) → Prop), K = (fun o : Int32 => (some o, wd κ (mM a40 a41 a42 a43 a44 a45 a46 a47 a48 a49 a50 v11 v12 v13 v14)) = r) → K (forN (b_M_pathsOver_1 x1 a46 a45) 0 8 (0 : Int32)) → Ev none 60 (0, [some (vR 39), some (vI x1), none, none], [], wd κ (mM a40 a41 a42 a43 a44 a45 a46 a47 a48 a49 a50 v11 v12 v13 v14), (0, 0)) r from hh _ _ rfl rfl
  intro r K hK k
  refine Ev.go (st' := (4, [some (vR 39), some (vI x1), some (vI (0 : Int32)), some (vI (0 : Int32))], [], wd κ (mM a40 a41 a42 a43 a44 a45 a46 a47 a48 a49 a50 v11 v12 v13 v14), (0, 0))) 4 rfl trivial ?_
  refine Ev.wk (Lle.s (Lle.s (Lle.s (Lle.s Lle.z)))) ?_
  refine Ev.loopN (fun c v => (4, [some (vR 39), some (vI x1), some (vI v), some (vI c)], [], wd κ (mM a40 a41 a42 a43 a44 a45 a46 a47 a48 a49 a50 v11 v12 v13 v14), (0, 0))) (b_M_pathsOver_1 x1 a46 a45) 0 8 8 (0 : Int32) (c0 := (0 : Int32)) rfl (by omega) (fun j hj k2 => ?_) ?_
  · have hp1 := hP.1 j hj
    have hi1 : 0 + j < 8 := by omega
    clear hj
    generalize forN (b_M_pathsOver_1 x1 a46 a45) 0 j (0 : Int32) = u1 at hp1 k2 ⊢
    generalize 0 + j = i1 at hi1 hp1 k2 ⊢
    show Ev none 60 (4, [some (vR 39), some (vI x1), some (vI u1), some (vI (nI i1))], [], wd κ (mM a40 a41 a42 a43 a44 a45 a46 a47 a48 a49 a50 v11 v12 v13 v14), (0, 0)) r
    refine Ev.go (st' := (if (8 : Int32) ≤ nI i1 then 33 else 10, [some (vR 39), some (vI x1), some (vI u1), some (vI (nI i1))], [], wd κ (mM a40 a41 a42 a43 a44 a45 a46 a47 a48 a49 a50 v11 v12 v13 v14), (0, 0))) 3 rfl trivial (Ev.brF (nI_ge hi1 (by decide)) ?_)
    refine Ev.go (st' := (14, [some (vR 39), some (vI x1), some (vI u1), some (vI (nI i1))], [vI x1, vI (nI i1), vR 39, vI u1], wd κ (mM a40 a41 a42 a43 a44 a45 a46 a47 a48 a49 a50 v11 v12 v13 v14), (0, 0))) 4 rfl trivial ?_
    refine Ev.callI (a := 59) (As := [vR 39, vI (nI i1), vI x1]) [vI u1] (f_M_placeIn (nI i1) x1 a46 a45) (wd κ (mM a40 a41 a42 a43 a44 a45 a46 a47 a48 a49 a50 v11 v12 v13 v14)) rfl (e_M_placeIn_39 κ a40 a41 a42 a43 a44 a45 a46 a47 a48 a49 a50 v11 v12 v13 v14 (nI i1) x1 hp1.1) ?_
    refine Ev.go (st' := (if (f_M_placeIn (nI i1) x1 a46 a45) < 0 then 24 else 20, [some (vR 39), some (vI x1), some (vI u1), some (vI (nI i1))], [vI u1], wd κ (mM a40 a41 a42 a43 a44 a45 a46 a47 a48 a49 a50 v11 v12 v13 v14), (0, 0))) 1 rfl trivial ?_
    have kJ2 : Ev none 60 (25, [some (vR 39), some (vI x1), none, some (vI (nI i1))], [vI (iF ((f_M_placeIn (nI i1) x1 a46 a45) < 0) (0 : Int32) (1 : Int32)), vI u1], wd κ (mM a40 a41 a42 a43 a44 a45 a46 a47 a48 a49 a50 v11 v12 v13 v14), (0, 0)) r := by
      refine Ev.go (st' := (4, [some (vR 39), some (vI x1), some (vI (u1 + (iF ((f_M_placeIn (nI i1) x1 a46 a45) < 0) (0 : Int32) (1 : Int32)))), some (vI ((nI i1) + (1 : Int32)))], [], wd κ (mM a40 a41 a42 a43 a44 a45 a46 a47 a48 a49 a50 v11 v12 v13 v14), (0, 0))) 4 rfl trivial ?_
      exact Ev.wk (Lle.s (Lle.s (Lle.s (Lle.s Lle.z)))) (show Ev none 60 (4, [some (vR 39), some (vI x1), some (vI (u1 + (iF ((f_M_placeIn (nI i1) x1 a46 a45) < 0) (0 : Int32) (1 : Int32)))), some (vI ((nI i1) + (1 : Int32)))], [], wd κ (mM a40 a41 a42 a43 a44 a45 a46 a47 a48 a49 a50 v11 v12 v13 v14), (0, 0)) r from k2)
    refine Ev.br (fun h2 => ?_) (fun h2 => ?_)
    · refine Ev.go (st' := (25, [some (vR 39), some (vI x1), some (vI u1), some (vI (nI i1))], [vI (0 : Int32), vI u1], wd κ (mM a40 a41 a42 a43 a44 a45 a46 a47 a48 a49 a50 v11 v12 v13 v14), (0, 0))) 1 rfl trivial ?_
      exact Ev.wk (Lle.s (Lle.s (Lle.n (Lle.s Lle.z)))) (Ev.to kJ2 (by simp only [iF_pos h2]))
    · refine Ev.go (st' := (25, [some (vR 39), some (vI x1), some (vI u1), some (vI (nI i1))], [vI (1 : Int32), vI u1], wd κ (mM a40 a41 a42 a43 a44 a45 a46 a47 a48 a49 a50 v11 v12 v13 v14), (0, 0))) 2 rfl trivial ?_
      exact Ev.wk (Lle.s (Lle.s (Lle.n (Lle.s Lle.z)))) (Ev.to kJ2 (by simp only [iF_neg h2]))
  · refine Ev.go (st' := (if (8 : Int32) ≤ nI 8 then 33 else 10, [some (vR 39), some (vI x1), some (vI (forN (b_M_pathsOver_1 x1 a46 a45) 0 8 (0 : Int32))), some (vI (nI 8))], [], wd κ (mM a40 a41 a42 a43 a44 a45 a46 a47 a48 a49 a50 v11 v12 v13 v14), (0, 0))) 3 rfl trivial (Ev.brN (by decide) ?_)
    refine Ev.wk (Lle.n (Lle.n (Lle.s (Lle.n Lle.z)))) ?_
    refine Ev.go (st' := (34, [none, none, some (vI (forN (b_M_pathsOver_1 x1 a46 a45) 0 8 (0 : Int32))), none], [vI (forN (b_M_pathsOver_1 x1 a46 a45) 0 8 (0 : Int32))], wd κ (mM a40 a41 a42 a43 a44 a45 a46 a47 a48 a49 a50 v11 v12 v13 v14), (0, 0))) 1 rfl trivial ?_
    rw [hK] at k
    have k3 : (some (forN (b_M_pathsOver_1 x1 a46 a45) 0 8 (0 : Int32)), wd κ (mM a40 a41 a42 a43 a44 a45 a46 a47 a48 a49 a50 v11 v12 v13 v14)) = r := k
    rw [← k3]
    exact Ev.ireti rfl rfl
/-! OF MeshNamesModel.knownAt(I)I -/
noncomputable def b_M_knownAt_1 (p1 : Int32) (rowMany : Nat → Int32) (row : Nat → Int32) (next_ : Nat → Int32) (j : Nat) (v : Int32) : Int32 := (v ||| (iF ((f_M_placeIn (nI j) p1 rowMany row) < 0) (0 : Int32) (((1 : Int32) <<< ((nI j) &&& 31)) ||| ((1 : Int32) <<< ((next_ (nI j).toNatClampNeg) &&& 31)))))
def P_M_knownAt_1 (p1 : Int32) (rowMany : Nat → Int32) (row : Nat → Int32) (next_ : Nat → Int32) (j : Nat) (v : Int32) : Prop := (P_M_placeIn (nI j) p1 rowMany row) ∧ True
noncomputable def f_M_knownAt (x1 : Int32) (rowMany : Nat → Int32) (row : Nat → Int32) (next_ : Nat → Int32) : Int32 := (forN (b_M_knownAt_1 x1 rowMany row next_) 0 8 (0 : Int32))
def P_M_knownAt (x1 : Int32) (rowMany : Nat → Int32) (row : Nat → Int32) (next_ : Nat → Int32) : Prop := (∀ q, q < 8 → P_M_knownAt_1 x1 rowMany row next_ (0 + q) (forN (b_M_knownAt_1 x1 rowMany row next_) 0 q (0 : Int32))) ∧ True
set_option maxRecDepth 8000 in
set_option maxHeartbeats 4000000 in
theorem e_M_knownAt_39 (κ : Sg) (a40 a41 a42 a43 a44 a45 a46 a47 a48 a49 a50 : Nat → Int32) (v11 v12 v13 v14 : Int32) (x1 : Int32) (hP : P_M_knownAt x1 a46 a45 a44)  : Ev none 61 (0, [some (vR 39), some (vI x1), none, none], [], wd κ (mM a40 a41 a42 a43 a44 a45 a46 a47 a48 a49 a50 v11 v12 v13 v14), (0, 0)) (some (f_M_knownAt x1 a46 a45 a44), wd κ (mM a40 a41 a42 a43 a44 a45 a46 a47 a48 a49 a50 v11 v12 v13 v14)) := by
  suffices hh : ∀ (r : Option Int32 × AW) (K : (Int32) → Prop), K = (fun o : Int32 => (some o, wd κ (mM a40 a41 a42 a43 a44 a45 a46 a47 a48 a49 a50 v11 v12 v13 v14)) = r) → K (forN (b_M_knownAt_1 x1 a46 a45 a44) 0 8 (0 : Int32)) → Ev none 61 (0, [some (vR 39), some (vI x1), none, none], [], wd κ (mM a40 a41 a42 a43 a44 a45 a46 a47 a48 a49 a50 v11 v12 v13 v14), (0, 0)) r from hh _ _ rfl rfl
  intro r K hK k
  refine Ev.go (st' := (4, [some (vR 39), some (vI x1), some (vI (0 : Int32)), some (vI (0 : Int32))], [], wd κ (mM a40 a41 a42 a43 a44 a45 a46 a47 a48 a49 a50 v11 v12 v13 v14), (0, 0))) 4 rfl trivial ?_
  refine Ev.wk (Lle.s (Lle.s (Lle.s (Lle.s Lle.z)))) ?_
  refine Ev.loopN (fun c v => (4, [some (vR 39), some (vI x1), some (vI v), some (vI c)], [], wd κ (mM a40 a41 a42 a43 a44 a45 a46 a47 a48 a49 a50 v11 v12 v13 v14), (0, 0))) (b_M_knownAt_1 x1 a46 a45 a44) 0 8 8 (0 : Int32) (c0 := (0 : Int32)) rfl (by omega) (fun j hj k2 => ?_) ?_
  · have hp1 := hP.1 j hj
    have hi1 : 0 + j < 8 := by omega
    clear hj
    generalize forN (b_M_knownAt_1 x1 a46 a45 a44) 0 j (0 : Int32) = u1 at hp1 k2 ⊢
    generalize 0 + j = i1 at hi1 hp1 k2 ⊢
    show Ev none 61 (4, [some (vR 39), some (vI x1), some (vI u1), some (vI (nI i1))], [], wd κ (mM a40 a41 a42 a43 a44 a45 a46 a47 a48 a49 a50 v11 v12 v13 v14), (0, 0)) r
    refine Ev.go (st' := (if (8 : Int32) ≤ nI i1 then 44 else 10, [some (vR 39), some (vI x1), some (vI u1), some (vI (nI i1))], [], wd κ (mM a40 a41 a42 a43 a44 a45 a46 a47 a48 a49 a50 v11 v12 v13 v14), (0, 0))) 3 rfl trivial (Ev.brF (nI_ge hi1 (by decide)) ?_)
    refine Ev.go (st' := (14, [some (vR 39), some (vI x1), some (vI u1), some (vI (nI i1))], [vI x1, vI (nI i1), vR 39, vI u1], wd κ (mM a40 a41 a42 a43 a44 a45 a46 a47 a48 a49 a50 v11 v12 v13 v14), (0, 0))) 4 rfl trivial ?_
    refine Ev.callI (a := 59) (As := [vR 39, vI (nI i1), vI x1]) [vI u1] (f_M_placeIn (nI i1) x1 a46 a45) (wd κ (mM a40 a41 a42 a43 a44 a45 a46 a47 a48 a49 a50 v11 v12 v13 v14)) rfl (e_M_placeIn_39 κ a40 a41 a42 a43 a44 a45 a46 a47 a48 a49 a50 v11 v12 v13 v14 (nI i1) x1 hp1.1) ?_
    refine Ev.go (st' := (if (f_M_placeIn (nI i1) x1 a46 a45) < 0 then 35 else 20, [some (vR 39), some (vI x1), some (vI u1), some (vI (nI i1))], [vI u1], wd κ (mM a40 a41 a42 a43 a44 a45 a46 a47 a48 a49 a50 v11 v12 v13 v14), (0, 0))) 1 rfl trivial ?_
    have kJ2 : Ev none 61 (36, [some (vR 39), some (vI x1), none, some (vI (nI i1))], [vI (iF ((f_M_placeIn (nI i1) x1 a46 a45) < 0) (0 : Int32) (((1 : Int32) <<< ((nI i1) &&& 31)) ||| ((1 : Int32) <<< ((a44 (nI i1).toNatClampNeg) &&& 31)))), vI u1], wd κ (mM a40 a41 a42 a43 a44 a45 a46 a47 a48 a49 a50 v11 v12 v13 v14), (0, 0)) r := by
      refine Ev.go (st' := (4, [some (vR 39), some (vI x1), some (vI (u1 ||| (iF ((f_M_placeIn (nI i1) x1 a46 a45) < 0) (0 : Int32) (((1 : Int32) <<< ((nI i1) &&& 31)) ||| ((1 : Int32) <<< ((a44 (nI i1).toNatClampNeg) &&& 31)))))), some (vI ((nI i1) + (1 : Int32)))], [], wd κ (mM a40 a41 a42 a43 a44 a45 a46 a47 a48 a49 a50 v11 v12 v13 v14), (0, 0))) 4 rfl trivial ?_
      exact Ev.wk (Lle.s (Lle.s (Lle.s (Lle.s Lle.z)))) (show Ev none 61 (4, [some (vR 39), some (vI x1), some (vI (u1 ||| (iF ((f_M_placeIn (nI i1) x1 a46 a45) < 0) (0 : Int32) (((1 : Int32) <<< ((nI i1) &&& 31)) ||| ((1 : Int32) <<< ((a44 (nI i1).toNatClampNeg) &&& 31)))))), some (vI ((nI i1) + (1 : Int32)))], [], wd κ (mM a40 a41 a42 a43 a44 a45 a46 a47 a48 a49 a50 v11 v12 v13 v14), (0, 0)) r from k2)
    refine Ev.br (fun h2 => ?_) (fun h2 => ?_)
    · refine Ev.go (st' := (36, [some (vR 39), some (vI x1), some (vI u1), some (vI (nI i1))], [vI (0 : Int32), vI u1], wd κ (mM a40 a41 a42 a43 a44 a45 a46 a47 a48 a49 a50 v11 v12 v13 v14), (0, 0))) 1 rfl trivial ?_
      exact Ev.wk (Lle.s (Lle.s (Lle.n (Lle.s Lle.z)))) (Ev.to kJ2 (by simp only [iF_pos h2]))
    · refine Ev.go (st' := (36, [some (vR 39), some (vI x1), some (vI u1), some (vI (nI i1))], [vI (((1 : Int32) <<< ((nI i1) &&& 31)) ||| ((1 : Int32) <<< ((a44 (nI i1).toNatClampNeg) &&& 31))), vI u1], wd κ (mM a40 a41 a42 a43 a44 a45 a46 a47 a48 a49 a50 v11 v12 v13 v14), (0, 0))) 11 rfl ⟨(vp_in_nI (by omega) (by decide)), trivial⟩ ?_
      exact Ev.wk (Lle.s (Lle.s (Lle.n (Lle.s Lle.z)))) (Ev.to kJ2 (by simp only [iF_neg h2]))
  · refine Ev.go (st' := (if (8 : Int32) ≤ nI 8 then 44 else 10, [some (vR 39), some (vI x1), some (vI (forN (b_M_knownAt_1 x1 a46 a45 a44) 0 8 (0 : Int32))), some (vI (nI 8))], [], wd κ (mM a40 a41 a42 a43 a44 a45 a46 a47 a48 a49 a50 v11 v12 v13 v14), (0, 0))) 3 rfl trivial (Ev.brN (by decide) ?_)
    refine Ev.wk (Lle.n (Lle.n (Lle.s (Lle.n Lle.z)))) ?_
    refine Ev.go (st' := (45, [none, none, some (vI (forN (b_M_knownAt_1 x1 a46 a45 a44) 0 8 (0 : Int32))), none], [vI (forN (b_M_knownAt_1 x1 a46 a45 a44) 0 8 (0 : Int32))], wd κ (mM a40 a41 a42 a43 a44 a45 a46 a47 a48 a49 a50 v11 v12 v13 v14), (0, 0))) 1 rfl trivial ?_
    rw [hK] at k
    have k3 : (some (forN (b_M_knownAt_1 x1 a46 a45 a44) 0 8 (0 : Int32)), wd κ (mM a40 a41 a42 a43 a44 a45 a46 a47 a48 a49 a50 v11 v12 v13 v14)) = r := k
    rw [← k3]
    exact Ev.ireti rfl rfl
/-! OF MeshNamesModel.size(I)I -/
noncomputable def b_M_size_1 (p1 : Int32) (j : Nat) (v : Int32) : Int32 := (v + ((p1 >>> ((nI j) &&& 31)) &&& (1 : Int32)))
noncomputable def f_M_size (x1 : Int32) : Int32 := (forN (b_M_size_1 x1) 0 8 (0 : Int32))
set_option maxRecDepth 8000 in
set_option maxHeartbeats 4000000 in
theorem e_M_size (w : AW) (x1 : Int32)  : Ev none 62 (0, [some (vI x1), none, none], [], w, (0, 0)) (some (f_M_size x1), w) := by
  suffices hh : ∀ (r : Option Int32 × AW) (K : (Int32) → Prop), K = (fun o : Int32 => (some o, w) = r) → K (forN (b_M_size_1 x1) 0 8 (0 : Int32)) → Ev none 62 (0, [some (vI x1), none, none], [], w, (0, 0)) r from hh _ _ rfl rfl
  intro r K hK k
  refine Ev.go (st' := (4, [some (vI x1), some (vI (0 : Int32)), some (vI (0 : Int32))], [], w, (0, 0))) 4 rfl trivial ?_
  refine Ev.wk (Lle.s (Lle.s (Lle.s Lle.z))) ?_
  refine Ev.loopN (fun c v => (4, [some (vI x1), some (vI v), some (vI c)], [], w, (0, 0))) (b_M_size_1 x1) 0 8 8 (0 : Int32) (c0 := (0 : Int32)) rfl (by omega) (fun j hj k2 => ?_) ?_
  · have hi1 : 0 + j < 8 := by omega
    clear hj
    generalize forN (b_M_size_1 x1) 0 j (0 : Int32) = u1 at k2 ⊢
    generalize 0 + j = i1 at hi1 k2 ⊢
    show Ev none 62 (4, [some (vI x1), some (vI u1), some (vI (nI i1))], [], w, (0, 0)) r
    refine Ev.go (st' := (if (8 : Int32) ≤ nI i1 then 24 else 10, [some (vI x1), some (vI u1), some (vI (nI i1))], [], w, (0, 0))) 3 rfl trivial (Ev.brF (nI_ge hi1 (by decide)) ?_)
    refine Ev.go (st' := (4, [some (vI x1), some (vI (u1 + ((x1 >>> ((nI i1) &&& 31)) &&& (1 : Int32)))), some (vI ((nI i1) + (1 : Int32)))], [], w, (0, 0))) 10 rfl trivial ?_
    exact Ev.wk (Lle.s (Lle.s (Lle.s Lle.z))) (show Ev none 62 (4, [some (vI x1), some (vI (u1 + ((x1 >>> ((nI i1) &&& 31)) &&& (1 : Int32)))), some (vI ((nI i1) + (1 : Int32)))], [], w, (0, 0)) r from k2)
  · refine Ev.go (st' := (if (8 : Int32) ≤ nI 8 then 24 else 10, [some (vI x1), some (vI (forN (b_M_size_1 x1) 0 8 (0 : Int32))), some (vI (nI 8))], [], w, (0, 0))) 3 rfl trivial (Ev.brN (by decide) ?_)
    refine Ev.wk (Lle.n (Lle.s (Lle.n Lle.z))) ?_
    refine Ev.go (st' := (25, [none, some (vI (forN (b_M_size_1 x1) 0 8 (0 : Int32))), none], [vI (forN (b_M_size_1 x1) 0 8 (0 : Int32))], w, (0, 0))) 1 rfl trivial ?_
    rw [hK] at k
    have k3 : (some (forN (b_M_size_1 x1) 0 8 (0 : Int32)), w) = r := k
    rw [← k3]
    exact Ev.ireti rfl rfl

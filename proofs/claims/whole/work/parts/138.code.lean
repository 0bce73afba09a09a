/-! OF MeshNames.of(II)I -/
noncomputable def f_C_of (x1 : Int32) (x2 : Int32) (upSet : Int32) (names : Nat → Int32) (parts : Nat → Int32) (nexts : Nat → Int32) (befores : Nat → Int32) (links : Nat → Int32) (places : Nat → Int32) : Int32 := (iF ((f_C_isNode x1) = 0) (-1 : Int32) (iF (x2 < 0) (-2 : Int32) (iF (x2 ≤ (6 : Int32)) (iF ((f_Mesh_isUp x1 upSet) = 0) (-3 : Int32) (iF (x2 = (0 : Int32)) (names x1.toNatClampNeg) (iF (x2 = (1 : Int32)) (parts x1.toNatClampNeg) (iF (x2 = (2 : Int32)) (nexts x1.toNatClampNeg) (iF (x2 = (3 : Int32)) (befores x1.toNatClampNeg) (iF (x2 = (4 : Int32)) (f_J_bitCount (f_Mesh_neighbours x1 upSet links)) (iF (x2 = (5 : Int32)) (f_Paths_countOver x1 places) (f_Paths_countKnown x1 places nexts)))))))) (-2 : Int32))))
def P_C_of (x1 : Int32) (x2 : Int32) (upSet : Int32) (names : Nat → Int32) (parts : Nat → Int32) (nexts : Nat → Int32) (befores : Nat → Int32) (links : Nat → Int32) (places : Nat → Int32) : Prop := (((f_C_isNode x1) = 0 → True) ∧ (¬ ((f_C_isNode x1) = 0) → (((x2 < 0 → True) ∧ (¬ (x2 < 0) → (((x2 ≤ (6 : Int32) → ((((f_Mesh_isUp x1 upSet) = 0 → True) ∧ (¬ ((f_Mesh_isUp x1 upSet) = 0) → (((x2 = (0 : Int32) → (vp_in x1 8 ∧ True)) ∧ (¬ (x2 = (0 : Int32)) → (((x2 = (1 : Int32) → (vp_in x1 8 ∧ True)) ∧ (¬ (x2 = (1 : Int32)) → (((x2 = (2 : Int32) → (vp_in x1 8 ∧ True)) ∧ (¬ (x2 = (2 : Int32)) → (((x2 = (3 : Int32) → (vp_in x1 8 ∧ True)) ∧ (¬ (x2 = (3 : Int32)) → (((x2 = (4 : Int32) → ((P_Mesh_neighbours x1 upSet links) ∧ True)) ∧ (¬ (x2 = (4 : Int32)) → (((x2 = (5 : Int32) → ((P_Paths_countOver x1 places) ∧ True)) ∧ (¬ (x2 = (5 : Int32)) → ((P_Paths_countKnown x1 places nexts) ∧ True))) ∧ True))) ∧ True))) ∧ True))) ∧ True))) ∧ True))) ∧ True))) ∧ True)) ∧ (¬ (x2 ≤ (6 : Int32)) → True)) ∧ True))) ∧ True))) ∧ True
set_option maxRecDepth 8000 in
set_option maxHeartbeats 4000000 in
theorem e_C_of_0 (a2 a3 a5 a6 a7 a8 a9 a10 a11 a13 a15 a19 a20 a21 a22 a23 a24 a25 a26 a27 a30 a31 a32 a33 a34 a35 a36 a37 a38 : Nat → Int32) (v0 v1 v2 v3 v4 v5 v6 v7 v8 v9 v10 : Int32) (md : AW) (x1 x2 : Int32) (hP : P_C_of x1 x2 v1 a2 a5 a6 a7 a3 a11)  : Ev none 45 (0, [some (vR 0), some (vI x1), some (vI x2)], [], wC a2 a3 a5 a6 a7 a8 a9 a10 a11 a13 a15 a19 a20 a21 a22 a23 a24 a25 a26 a27 a30 a31 a32 a33 a34 a35 a36 a37 a38 v0 v1 v2 v3 v4 v5 v6 v7 v8 v9 v10 md, (0, 0)) (some (f_C_of x1 x2 v1 a2 a5 a6 a7 a3 a11), wC a2 a3 a5 a6 a7 a8 a9 a10 a11 a13 a15 a19 a20 a21 a22 a23 a24 a25 a26 a27 a30 a31 a32 a33 a34 a35 a36 a37 a38 v0 v1 v2 v3 v4 v5 v6 v7 v8 v9 v10 md) := by
  suffices hh : ∀ (r : Option Int32 × AW) (K : (Int32) → Prop), K = (fun o : Int32 => (some o, wC a2 a3 a5 a6 a7 a8 a9 a10 a11 a13 a15 a19 a20 a21 a22 a23 a24 a25 a26 a27 a30 a31 a32 a33 a34 a35 a36 a37 a38 v0 v1 v2 v3 v4 v5 v6 v7 v8 v9 v10 md) = r) → K (iF ((f_C_isNode x1) = 0) (-1 : Int32) (iF (x2 < 0) (-2 : Int32) (iF (x2 ≤ (6 : Int32)) (iF ((f_Mesh_isUp x1 v1) = 0) (-3 : Int32) (iF (x2 = (0 : Int32)) (a2 x1.toNatClampNeg) (iF (x2 = (1 : Int32)) (a5 x1.toNatClampNeg) (iF (x2 = (2 : Int32)) (a6 x1.toNatClampNeg) (iF (x2 = (3 : Int32)) (a7 x1.toNatClampNeg) (iF (x2 = (4 : Int32)) (f_J_bitCount (f_Mesh_neighbours x1 v1 a3)) (iF (x2 = (5 : Int32)) (f_Paths_countOver x1 a11) (f_Paths_countKnown x1 a11 a6)))))))) (-2 : Int32)))) → Ev none 45 (0, [some (vR 0), some (vI x1), some (vI x2)], [], wC a2 a3 a5 a6 a7 a8 a9 a10 a11 a13 a15 a19 a20 a21 a22 a23 a24 a25 a26 a27 a30 a31 a32 a33 a34 a35 a36 a37 a38 v0 v1 v2 v3 v4 v5 v6 v7 v8 v9 v10 md, (0, 0)) r from hh _ _ rfl rfl
  intro r K hK k
  refine Ev.go (st' := (1, [some (vR 0), some (vI x1), some (vI x2)], [vI x1], wC a2 a3 a5 a6 a7 a8 a9 a10 a11 a13 a15 a19 a20 a21 a22 a23 a24 a25 a26 a27 a30 a31 a32 a33 a34 a35 a36 a37 a38 v0 v1 v2 v3 v4 v5 v6 v7 v8 v9 v10 md, (0, 0))) 1 rfl trivial ?_
  refine Ev.callI (a := 14) (As := [vI x1]) [] (f_C_isNode x1) (wC a2 a3 a5 a6 a7 a8 a9 a10 a11 a13 a15 a19 a20 a21 a22 a23 a24 a25 a26 a27 a30 a31 a32 a33 a34 a35 a36 a37 a38 v0 v1 v2 v3 v4 v5 v6 v7 v8 v9 v10 md) rfl (e_C_isNode (wC a2 a3 a5 a6 a7 a8 a9 a10 a11 a13 a15 a19 a20 a21 a22 a23 a24 a25 a26 a27 a30 a31 a32 a33 a34 a35 a36 a37 a38 v0 v1 v2 v3 v4 v5 v6 v7 v8 v9 v10 md) x1) ?_
  refine Ev.go (st' := (if (f_C_isNode x1) = 0 then 7 else 9, [some (vR 0), some (vI x1), some (vI x2)], [], wC a2 a3 a5 a6 a7 a8 a9 a10 a11 a13 a15 a19 a20 a21 a22 a23 a24 a25 a26 a27 a30 a31 a32 a33 a34 a35 a36 a37 a38 v0 v1 v2 v3 v4 v5 v6 v7 v8 v9 v10 md, (0, 0))) 1 rfl trivial ?_
  refine Ev.brK (K := K) k (fun h1 k => ?_) (fun h1 k => ?_)
  · refine Ev.go (st' := (8, [some (vR 0), some (vI x1), some (vI x2)], [vI (-1 : Int32)], wC a2 a3 a5 a6 a7 a8 a9 a10 a11 a13 a15 a19 a20 a21 a22 a23 a24 a25 a26 a27 a30 a31 a32 a33 a34 a35 a36 a37 a38 v0 v1 v2 v3 v4 v5 v6 v7 v8 v9 v10 md, (0, 0))) 1 rfl trivial ?_
    rw [hK] at k
    have k3 : (some (-1 : Int32), wC a2 a3 a5 a6 a7 a8 a9 a10 a11 a13 a15 a19 a20 a21 a22 a23 a24 a25 a26 a27 a30 a31 a32 a33 a34 a35 a36 a37 a38 v0 v1 v2 v3 v4 v5 v6 v7 v8 v9 v10 md) = r := k
    rw [← k3]
    exact Ev.ireti rfl rfl
  · refine Ev.go (st' := (if x2 < 0 then 19 else 13, [some (vR 0), some (vI x1), some (vI x2)], [], wC a2 a3 a5 a6 a7 a8 a9 a10 a11 a13 a15 a19 a20 a21 a22 a23 a24 a25 a26 a27 a30 a31 a32 a33 a34 a35 a36 a37 a38 v0 v1 v2 v3 v4 v5 v6 v7 v8 v9 v10 md, (0, 0))) 2 rfl trivial ?_
    refine Ev.brK (K := K) k (fun h2 k => ?_) (fun h2 k => ?_)
    · refine Ev.go (st' := (21, [some (vR 0), some (vI x1), some (vI x2)], [vI (-2 : Int32)], wC a2 a3 a5 a6 a7 a8 a9 a10 a11 a13 a15 a19 a20 a21 a22 a23 a24 a25 a26 a27 a30 a31 a32 a33 a34 a35 a36 a37 a38 v0 v1 v2 v3 v4 v5 v6 v7 v8 v9 v10 md, (0, 0))) 1 rfl trivial ?_
      rw [hK] at k
      have k3 : (some (-2 : Int32), wC a2 a3 a5 a6 a7 a8 a9 a10 a11 a13 a15 a19 a20 a21 a22 a23 a24 a25 a26 a27 a30 a31 a32 a33 a34 a35 a36 a37 a38 v0 v1 v2 v3 v4 v5 v6 v7 v8 v9 v10 md) = r := k
      rw [← k3]
      exact Ev.ireti rfl rfl
    · refine Ev.go (st' := (if x2 ≤ (6 : Int32) then 22 else 19, [some (vR 0), some (vI x1), some (vI x2)], [], wC a2 a3 a5 a6 a7 a8 a9 a10 a11 a13 a15 a19 a20 a21 a22 a23 a24 a25 a26 a27 a30 a31 a32 a33 a34 a35 a36 a37 a38 v0 v1 v2 v3 v4 v5 v6 v7 v8 v9 v10 md, (0, 0))) 3 rfl trivial ?_
      refine Ev.brK (K := K) k (fun h3 k => ?_) (fun h3 k => ?_)
      · refine Ev.go (st' := (27, [some (vR 0), some (vI x1), some (vI x2)], [vI x1, vR 1], wC a2 a3 a5 a6 a7 a8 a9 a10 a11 a13 a15 a19 a20 a21 a22 a23 a24 a25 a26 a27 a30 a31 a32 a33 a34 a35 a36 a37 a38 v0 v1 v2 v3 v4 v5 v6 v7 v8 v9 v10 md, (0, 0))) 3 rfl trivial ?_
        refine Ev.callI (a := 8) (As := [vR 1, vI x1]) [] (f_Mesh_isUp x1 v1) (wC a2 a3 a5 a6 a7 a8 a9 a10 a11 a13 a15 a19 a20 a21 a22 a23 a24 a25 a26 a27 a30 a31 a32 a33 a34 a35 a36 a37 a38 v0 v1 v2 v3 v4 v5 v6 v7 v8 v9 v10 md) rfl (e_Mesh_isUp_1 a2 a3 a5 a6 a7 a8 a9 a10 a11 a13 a15 a19 a20 a21 a22 a23 a24 a25 a26 a27 a30 a31 a32 a33 a34 a35 a36 a37 a38 v0 v1 v2 v3 v4 v5 v6 v7 v8 v9 v10 md x1) ?_
        refine Ev.go (st' := (if (f_Mesh_isUp x1 v1) = 0 then 33 else 36, [some (vR 0), some (vI x1), some (vI x2)], [], wC a2 a3 a5 a6 a7 a8 a9 a10 a11 a13 a15 a19 a20 a21 a22 a23 a24 a25 a26 a27 a30 a31 a32 a33 a34 a35 a36 a37 a38 v0 v1 v2 v3 v4 v5 v6 v7 v8 v9 v10 md, (0, 0))) 1 rfl trivial ?_
        refine Ev.brK (K := K) k (fun h4 k => ?_) (fun h4 k => ?_)
        · refine Ev.go (st' := (35, [some (vR 0), some (vI x1), some (vI x2)], [vI (-3 : Int32)], wC a2 a3 a5 a6 a7 a8 a9 a10 a11 a13 a15 a19 a20 a21 a22 a23 a24 a25 a26 a27 a30 a31 a32 a33 a34 a35 a36 a37 a38 v0 v1 v2 v3 v4 v5 v6 v7 v8 v9 v10 md, (0, 0))) 1 rfl trivial ?_
          rw [hK] at k
          have k3 : (some (-3 : Int32), wC a2 a3 a5 a6 a7 a8 a9 a10 a11 a13 a15 a19 a20 a21 a22 a23 a24 a25 a26 a27 a30 a31 a32 a33 a34 a35 a36 a37 a38 v0 v1 v2 v3 v4 v5 v6 v7 v8 v9 v10 md) = r := k
          rw [← k3]
          exact Ev.ireti rfl rfl
        · refine Ev.go (st' := (s_sw x2 0 [76, 86, 96, 106, 116, 128] 137, [some (vR 0), some (vI x1), some (vI x2)], [], wC a2 a3 a5 a6 a7 a8 a9 a10 a11 a13 a15 a19 a20 a21 a22 a23 a24 a25 a26 a27 a30 a31 a32 a33 a34 a35 a36 a37 a38 v0 v1 v2 v3 v4 v5 v6 v7 v8 v9 v10 md, (0, 0))) 2 rfl trivial ?_
          refine Ev.swK (K := K) (0 : Int32) rfl k (fun h5 k => ?_) (fun h5 k => ?_)
          · refine Ev.go (st' := (85, [some (vR 0), some (vI x1), some (vI x2)], [vI (a2 x1.toNatClampNeg)], wC a2 a3 a5 a6 a7 a8 a9 a10 a11 a13 a15 a19 a20 a21 a22 a23 a24 a25 a26 a27 a30 a31 a32 a33 a34 a35 a36 a37 a38 v0 v1 v2 v3 v4 v5 v6 v7 v8 v9 v10 md, (0, 0))) 5 rfl ⟨(((((hP.1.2 h1).1.2 h2).1.1 h3).1.2 h4).1.1 h5).1, trivial⟩ ?_
            rw [hK] at k
            have k3 : (some (a2 x1.toNatClampNeg), wC a2 a3 a5 a6 a7 a8 a9 a10 a11 a13 a15 a19 a20 a21 a22 a23 a24 a25 a26 a27 a30 a31 a32 a33 a34 a35 a36 a37 a38 v0 v1 v2 v3 v4 v5 v6 v7 v8 v9 v10 md) = r := k
            rw [← k3]
            exact Ev.ireti rfl rfl
          refine Ev.swK (K := K) (1 : Int32) rfl k (fun h6 k => ?_) (fun h6 k => ?_)
          · refine Ev.go (st' := (95, [some (vR 0), some (vI x1), some (vI x2)], [vI (a5 x1.toNatClampNeg)], wC a2 a3 a5 a6 a7 a8 a9 a10 a11 a13 a15 a19 a20 a21 a22 a23 a24 a25 a26 a27 a30 a31 a32 a33 a34 a35 a36 a37 a38 v0 v1 v2 v3 v4 v5 v6 v7 v8 v9 v10 md, (0, 0))) 5 rfl ⟨((((((hP.1.2 h1).1.2 h2).1.1 h3).1.2 h4).1.2 h5).1.1 h6).1, trivial⟩ ?_
            rw [hK] at k
            have k3 : (some (a5 x1.toNatClampNeg), wC a2 a3 a5 a6 a7 a8 a9 a10 a11 a13 a15 a19 a20 a21 a22 a23 a24 a25 a26 a27 a30 a31 a32 a33 a34 a35 a36 a37 a38 v0 v1 v2 v3 v4 v5 v6 v7 v8 v9 v10 md) = r := k
            rw [← k3]
            exact Ev.ireti rfl rfl
          refine Ev.swK (K := K) (2 : Int32) rfl k (fun h7 k => ?_) (fun h7 k => ?_)
          · refine Ev.go (st' := (105, [some (vR 0), some (vI x1), some (vI x2)], [vI (a6 x1.toNatClampNeg)], wC a2 a3 a5 a6 a7 a8 a9 a10 a11 a13 a15 a19 a20 a21 a22 a23 a24 a25 a26 a27 a30 a31 a32 a33 a34 a35 a36 a37 a38 v0 v1 v2 v3 v4 v5 v6 v7 v8 v9 v10 md, (0, 0))) 5 rfl ⟨(((((((hP.1.2 h1).1.2 h2).1.1 h3).1.2 h4).1.2 h5).1.2 h6).1.1 h7).1, trivial⟩ ?_
            rw [hK] at k
            have k3 : (some (a6 x1.toNatClampNeg), wC a2 a3 a5 a6 a7 a8 a9 a10 a11 a13 a15 a19 a20 a21 a22 a23 a24 a25 a26 a27 a30 a31 a32 a33 a34 a35 a36 a37 a38 v0 v1 v2 v3 v4 v5 v6 v7 v8 v9 v10 md) = r := k
            rw [← k3]
            exact Ev.ireti rfl rfl
          refine Ev.swK (K := K) (3 : Int32) rfl k (fun h8 k => ?_) (fun h8 k => ?_)
          · refine Ev.go (st' := (115, [some (vR 0), some (vI x1), some (vI x2)], [vI (a7 x1.toNatClampNeg)], wC a2 a3 a5 a6 a7 a8 a9 a10 a11 a13 a15 a19 a20 a21 a22 a23 a24 a25 a26 a27 a30 a31 a32 a33 a34 a35 a36 a37 a38 v0 v1 v2 v3 v4 v5 v6 v7 v8 v9 v10 md, (0, 0))) 5 rfl ⟨((((((((hP.1.2 h1).1.2 h2).1.1 h3).1.2 h4).1.2 h5).1.2 h6).1.2 h7).1.1 h8).1, trivial⟩ ?_
            rw [hK] at k
            have k3 : (some (a7 x1.toNatClampNeg), wC a2 a3 a5 a6 a7 a8 a9 a10 a11 a13 a15 a19 a20 a21 a22 a23 a24 a25 a26 a27 a30 a31 a32 a33 a34 a35 a36 a37 a38 v0 v1 v2 v3 v4 v5 v6 v7 v8 v9 v10 md) = r := k
            rw [← k3]
            exact Ev.ireti rfl rfl
          refine Ev.swK (K := K) (4 : Int32) rfl k (fun h9 k => ?_) (fun h9 k => ?_)
          · refine Ev.go (st' := (121, [some (vR 0), some (vI x1), some (vI x2)], [vI x1, vR 1], wC a2 a3 a5 a6 a7 a8 a9 a10 a11 a13 a15 a19 a20 a21 a22 a23 a24 a25 a26 a27 a30 a31 a32 a33 a34 a35 a36 a37 a38 v0 v1 v2 v3 v4 v5 v6 v7 v8 v9 v10 md, (0, 0))) 3 rfl trivial ?_
            refine Ev.callI (a := 9) (As := [vR 1, vI x1]) [] (f_Mesh_neighbours x1 v1 a3) (wC a2 a3 a5 a6 a7 a8 a9 a10 a11 a13 a15 a19 a20 a21 a22 a23 a24 a25 a26 a27 a30 a31 a32 a33 a34 a35 a36 a37 a38 v0 v1 v2 v3 v4 v5 v6 v7 v8 v9 v10 md) rfl (e_Mesh_neighbours_1 a2 a3 a5 a6 a7 a8 a9 a10 a11 a13 a15 a19 a20 a21 a22 a23 a24 a25 a26 a27 a30 a31 a32 a33 a34 a35 a36 a37 a38 v0 v1 v2 v3 v4 v5 v6 v7 v8 v9 v10 md x1 (((((((((hP.1.2 h1).1.2 h2).1.1 h3).1.2 h4).1.2 h5).1.2 h6).1.2 h7).1.2 h8).1.1 h9).1) ?_
            refine Ev.callI (a := 23) (As := [vI (f_Mesh_neighbours x1 v1 a3)]) [] (f_J_bitCount (f_Mesh_neighbours x1 v1 a3)) (wC a2 a3 a5 a6 a7 a8 a9 a10 a11 a13 a15 a19 a20 a21 a22 a23 a24 a25 a26 a27 a30 a31 a32 a33 a34 a35 a36 a37 a38 v0 v1 v2 v3 v4 v5 v6 v7 v8 v9 v10 md) rfl (e_J_bitCount (wC a2 a3 a5 a6 a7 a8 a9 a10 a11 a13 a15 a19 a20 a21 a22 a23 a24 a25 a26 a27 a30 a31 a32 a33 a34 a35 a36 a37 a38 v0 v1 v2 v3 v4 v5 v6 v7 v8 v9 v10 md) (f_Mesh_neighbours x1 v1 a3)) ?_
            rw [hK] at k
            have k3 : (some (f_J_bitCount (f_Mesh_neighbours x1 v1 a3)), wC a2 a3 a5 a6 a7 a8 a9 a10 a11 a13 a15 a19 a20 a21 a22 a23 a24 a25 a26 a27 a30 a31 a32 a33 a34 a35 a36 a37 a38 v0 v1 v2 v3 v4 v5 v6 v7 v8 v9 v10 md) = r := k
            rw [← k3]
            exact Ev.ireti rfl rfl
          refine Ev.swK (K := K) (5 : Int32) rfl k (fun h10 k => ?_) (fun h10 k => ?_)
          · refine Ev.go (st' := (133, [some (vR 0), some (vI x1), some (vI x2)], [vI x1, vR 4], wC a2 a3 a5 a6 a7 a8 a9 a10 a11 a13 a15 a19 a20 a21 a22 a23 a24 a25 a26 a27 a30 a31 a32 a33 a34 a35 a36 a37 a38 v0 v1 v2 v3 v4 v5 v6 v7 v8 v9 v10 md, (0, 0))) 3 rfl trivial ?_
            refine Ev.callI (a := 43) (As := [vR 4, vI x1]) [] (f_Paths_countOver x1 a11) (wC a2 a3 a5 a6 a7 a8 a9 a10 a11 a13 a15 a19 a20 a21 a22 a23 a24 a25 a26 a27 a30 a31 a32 a33 a34 a35 a36 a37 a38 v0 v1 v2 v3 v4 v5 v6 v7 v8 v9 v10 md) rfl (e_Paths_countOver_4 a2 a3 a5 a6 a7 a8 a9 a10 a11 a13 a15 a19 a20 a21 a22 a23 a24 a25 a26 a27 a30 a31 a32 a33 a34 a35 a36 a37 a38 v0 v1 v2 v3 v4 v5 v6 v7 v8 v9 v10 md x1 ((((((((((hP.1.2 h1).1.2 h2).1.1 h3).1.2 h4).1.2 h5).1.2 h6).1.2 h7).1.2 h8).1.2 h9).1.1 h10).1) ?_
            rw [hK] at k
            have k3 : (some (f_Paths_countOver x1 a11), wC a2 a3 a5 a6 a7 a8 a9 a10 a11 a13 a15 a19 a20 a21 a22 a23 a24 a25 a26 a27 a30 a31 a32 a33 a34 a35 a36 a37 a38 v0 v1 v2 v3 v4 v5 v6 v7 v8 v9 v10 md) = r := k
            rw [← k3]
            exact Ev.ireti rfl rfl
          refine Ev.go (st' := (142, [some (vR 0), some (vI x1), some (vI x2)], [vI x1, vR 4], wC a2 a3 a5 a6 a7 a8 a9 a10 a11 a13 a15 a19 a20 a21 a22 a23 a24 a25 a26 a27 a30 a31 a32 a33 a34 a35 a36 a37 a38 v0 v1 v2 v3 v4 v5 v6 v7 v8 v9 v10 md, (0, 0))) 3 rfl trivial ?_
          refine Ev.callI (a := 44) (As := [vR 4, vI x1]) [] (f_Paths_countKnown x1 a11 a6) (wC a2 a3 a5 a6 a7 a8 a9 a10 a11 a13 a15 a19 a20 a21 a22 a23 a24 a25 a26 a27 a30 a31 a32 a33 a34 a35 a36 a37 a38 v0 v1 v2 v3 v4 v5 v6 v7 v8 v9 v10 md) rfl (e_Paths_countKnown_4 a2 a3 a5 a6 a7 a8 a9 a10 a11 a13 a15 a19 a20 a21 a22 a23 a24 a25 a26 a27 a30 a31 a32 a33 a34 a35 a36 a37 a38 v0 v1 v2 v3 v4 v5 v6 v7 v8 v9 v10 md x1 ((((((((((hP.1.2 h1).1.2 h2).1.1 h3).1.2 h4).1.2 h5).1.2 h6).1.2 h7).1.2 h8).1.2 h9).1.2 h10).1) ?_
          rw [hK] at k
          have k3 : (some (f_Paths_countKnown x1 a11 a6), wC a2 a3 a5 a6 a7 a8 a9 a10 a11 a13 a15 a19 a20 a21 a22 a23 a24 a25 a26 a27 a30 a31 a32 a33 a34 a35 a36 a37 a38 v0 v1 v2 v3 v4 v5 v6 v7 v8 v9 v10 md) = r := k
          rw [← k3]
          exact Ev.ireti rfl rfl
      · refine Ev.go (st' := (21, [some (vR 0), some (vI x1), some (vI x2)], [vI (-2 : Int32)], wC a2 a3 a5 a6 a7 a8 a9 a10 a11 a13 a15 a19 a20 a21 a22 a23 a24 a25 a26 a27 a30 a31 a32 a33 a34 a35 a36 a37 a38 v0 v1 v2 v3 v4 v5 v6 v7 v8 v9 v10 md, (0, 0))) 1 rfl trivial ?_
        rw [hK] at k
        have k3 : (some (-2 : Int32), wC a2 a3 a5 a6 a7 a8 a9 a10 a11 a13 a15 a19 a20 a21 a22 a23 a24 a25 a26 a27 a30 a31 a32 a33 a34 a35 a36 a37 a38 v0 v1 v2 v3 v4 v5 v6 v7 v8 v9 v10 md) = r := k
        rw [← k3]
        exact Ev.ireti rfl rfl

/-! OF MeshNames.refusePacket(II)I -/
noncomputable def f_C_refusePacket (x1 : Int32) (x2 : Int32) (upSet : Int32) : Int32 := (iF ((f_C_isNode x1) = 0) (-1 : Int32) (iF ((f_C_isName x2) = 0) (-2 : Int32) (iF ((f_Mesh_isUp x1 upSet) = 0) (-3 : Int32) (0 : Int32))))
set_option maxRecDepth 8000 in
set_option maxHeartbeats 4000000 in
theorem e_C_refusePacket_0 (a2 a3 a5 a6 a7 a8 a9 a10 a11 a13 a15 a19 a20 a21 a22 a23 a24 a25 a26 a27 a30 a31 a32 a33 a34 a35 a36 a37 a38 : Nat → Int32) (v0 v1 v2 v3 v4 v5 v6 v7 v8 v9 v10 : Int32) (md : AW) (x1 x2 : Int32)  : Ev none 70 (0, [some (vR 0), some (vI x1), some (vI x2)], [], wC a2 a3 a5 a6 a7 a8 a9 a10 a11 a13 a15 a19 a20 a21 a22 a23 a24 a25 a26 a27 a30 a31 a32 a33 a34 a35 a36 a37 a38 v0 v1 v2 v3 v4 v5 v6 v7 v8 v9 v10 md, (0, 0)) (some (f_C_refusePacket x1 x2 v1), wC a2 a3 a5 a6 a7 a8 a9 a10 a11 a13 a15 a19 a20 a21 a22 a23 a24 a25 a26 a27 a30 a31 a32 a33 a34 a35 a36 a37 a38 v0 v1 v2 v3 v4 v5 v6 v7 v8 v9 v10 md) := by
  suffices hh : ∀ (r : Option Int32 × AW) (K : (Int32) → Prop), K = (fun o : Int32 => (some o, wC a2 a3 a5 a6 a7 a8 a9 a10 a11 a13 a15 a19 a20 a21 a22 a23 a24 a25 a26 a27 a30 a31 a32 a33 a34 a35 a36 a37 a38 v0 v1 v2 v3 v4 v5 v6 v7 v8 v9 v10 md) = r) → K (iF ((f_C_isNode x1) = 0) (-1 : Int32) (iF ((f_C_isName x2) = 0) (-2 : Int32) (iF ((f_Mesh_isUp x1 v1) = 0) (-3 : Int32) (0 : Int32)))) → Ev none 70 (0, [some (vR 0), some (vI x1), some (vI x2)], [], wC a2 a3 a5 a6 a7 a8 a9 a10 a11 a13 a15 a19 a20 a21 a22 a23 a24 a25 a26 a27 a30 a31 a32 a33 a34 a35 a36 a37 a38 v0 v1 v2 v3 v4 v5 v6 v7 v8 v9 v10 md, (0, 0)) r from hh _ _ rfl rfl
  intro r K hK k
  refine Ev.go (st' := (1, [some (vR 0), some (vI x1), some (vI x2)], [vI x1], wC a2 a3 a5 a6 a7 a8 a9 a10 a11 a13 a15 a19 a20 a21 a22 a23 a24 a25 a26 a27 a30 a31 a32 a33 a34 a35 a36 a37 a38 v0 v1 v2 v3 v4 v5 v6 v7 v8 v9 v10 md, (0, 0))) 1 rfl trivial ?_
  refine Ev.callI (a := 14) (As := [vI x1]) [] (f_C_isNode x1) (wC a2 a3 a5 a6 a7 a8 a9 a10 a11 a13 a15 a19 a20 a21 a22 a23 a24 a25 a26 a27 a30 a31 a32 a33 a34 a35 a36 a37 a38 v0 v1 v2 v3 v4 v5 v6 v7 v8 v9 v10 md) rfl (e_C_isNode (wC a2 a3 a5 a6 a7 a8 a9 a10 a11 a13 a15 a19 a20 a21 a22 a23 a24 a25 a26 a27 a30 a31 a32 a33 a34 a35 a36 a37 a38 v0 v1 v2 v3 v4 v5 v6 v7 v8 v9 v10 md) x1) ?_
  refine Ev.go (st' := (if (f_C_isNode x1) = 0 then 7 else 9, [some (vR 0), some (vI x1), some (vI x2)], [], wC a2 a3 a5 a6 a7 a8 a9 a10 a11 a13 a15 a19 a20 a21 a22 a23 a24 a25 a26 a27 a30 a31 a32 a33 a34 a35 a36 a37 a38 v0 v1 v2 v3 v4 v5 v6 v7 v8 v9 v10 md, (0, 0))) 1 rfl trivial ?_
  refine Ev.brK (K := K) k (fun h1 k => ?_) (fun h1 k => ?_)
  · refine Ev.go (st' := (8, [some (vR 0), some (vI x1), some (vI x2)], [vI (-1 : Int32)], wC a2 a3 a5 a6 a7 a8 a9 a10 a11 a13 a15 a19 a20 a21 a22 a23 a24 a25 a26 a27 a30 a31 a32 a33 a34 a35 a36 a37 a38 v0 v1 v2 v3 v4 v5 v6 v7 v8 v9 v10 md, (0, 0))) 1 rfl trivial ?_
    rw [hK] at k
    have k3 : (some (-1 : Int32), wC a2 a3 a5 a6 a7 a8 a9 a10 a11 a13 a15 a19 a20 a21 a22 a23 a24 a25 a26 a27 a30 a31 a32 a33 a34 a35 a36 a37 a38 v0 v1 v2 v3 v4 v5 v6 v7 v8 v9 v10 md) = r := k
    rw [← k3]
    exact Ev.ireti rfl rfl
  · refine Ev.go (st' := (10, [some (vR 0), some (vI x1), some (vI x2)], [vI x2], wC a2 a3 a5 a6 a7 a8 a9 a10 a11 a13 a15 a19 a20 a21 a22 a23 a24 a25 a26 a27 a30 a31 a32 a33 a34 a35 a36 a37 a38 v0 v1 v2 v3 v4 v5 v6 v7 v8 v9 v10 md, (0, 0))) 1 rfl trivial ?_
    refine Ev.callI (a := 20) (As := [vI x2]) [] (f_C_isName x2) (wC a2 a3 a5 a6 a7 a8 a9 a10 a11 a13 a15 a19 a20 a21 a22 a23 a24 a25 a26 a27 a30 a31 a32 a33 a34 a35 a36 a37 a38 v0 v1 v2 v3 v4 v5 v6 v7 v8 v9 v10 md) rfl (e_C_isName (wC a2 a3 a5 a6 a7 a8 a9 a10 a11 a13 a15 a19 a20 a21 a22 a23 a24 a25 a26 a27 a30 a31 a32 a33 a34 a35 a36 a37 a38 v0 v1 v2 v3 v4 v5 v6 v7 v8 v9 v10 md) x2) ?_
    refine Ev.go (st' := (if (f_C_isName x2) = 0 then 16 else 19, [some (vR 0), some (vI x1), some (vI x2)], [], wC a2 a3 a5 a6 a7 a8 a9 a10 a11 a13 a15 a19 a20 a21 a22 a23 a24 a25 a26 a27 a30 a31 a32 a33 a34 a35 a36 a37 a38 v0 v1 v2 v3 v4 v5 v6 v7 v8 v9 v10 md, (0, 0))) 1 rfl trivial ?_
    refine Ev.brK (K := K) k (fun h2 k => ?_) (fun h2 k => ?_)
    · refine Ev.go (st' := (18, [some (vR 0), some (vI x1), some (vI x2)], [vI (-2 : Int32)], wC a2 a3 a5 a6 a7 a8 a9 a10 a11 a13 a15 a19 a20 a21 a22 a23 a24 a25 a26 a27 a30 a31 a32 a33 a34 a35 a36 a37 a38 v0 v1 v2 v3 v4 v5 v6 v7 v8 v9 v10 md, (0, 0))) 1 rfl trivial ?_
      rw [hK] at k
      have k3 : (some (-2 : Int32), wC a2 a3 a5 a6 a7 a8 a9 a10 a11 a13 a15 a19 a20 a21 a22 a23 a24 a25 a26 a27 a30 a31 a32 a33 a34 a35 a36 a37 a38 v0 v1 v2 v3 v4 v5 v6 v7 v8 v9 v10 md) = r := k
      rw [← k3]
      exact Ev.ireti rfl rfl
    · refine Ev.go (st' := (24, [some (vR 0), some (vI x1), some (vI x2)], [vI x1, vR 1], wC a2 a3 a5 a6 a7 a8 a9 a10 a11 a13 a15 a19 a20 a21 a22 a23 a24 a25 a26 a27 a30 a31 a32 a33 a34 a35 a36 a37 a38 v0 v1 v2 v3 v4 v5 v6 v7 v8 v9 v10 md, (0, 0))) 3 rfl trivial ?_
      refine Ev.callI (a := 8) (As := [vR 1, vI x1]) [] (f_Mesh_isUp x1 v1) (wC a2 a3 a5 a6 a7 a8 a9 a10 a11 a13 a15 a19 a20 a21 a22 a23 a24 a25 a26 a27 a30 a31 a32 a33 a34 a35 a36 a37 a38 v0 v1 v2 v3 v4 v5 v6 v7 v8 v9 v10 md) rfl (e_Mesh_isUp_1 a2 a3 a5 a6 a7 a8 a9 a10 a11 a13 a15 a19 a20 a21 a22 a23 a24 a25 a26 a27 a30 a31 a32 a33 a34 a35 a36 a37 a38 v0 v1 v2 v3 v4 v5 v6 v7 v8 v9 v10 md x1) ?_
      refine Ev.go (st' := (if (f_Mesh_isUp x1 v1) = 0 then 34 else 30, [some (vR 0), some (vI x1), some (vI x2)], [], wC a2 a3 a5 a6 a7 a8 a9 a10 a11 a13 a15 a19 a20 a21 a22 a23 a24 a25 a26 a27 a30 a31 a32 a33 a34 a35 a36 a37 a38 v0 v1 v2 v3 v4 v5 v6 v7 v8 v9 v10 md, (0, 0))) 1 rfl trivial ?_
      have kJ3 : Ev none 70 (36, [none, none, none], [vI (iF ((f_Mesh_isUp x1 v1) = 0) (-3 : Int32) (0 : Int32))], wC a2 a3 a5 a6 a7 a8 a9 a10 a11 a13 a15 a19 a20 a21 a22 a23 a24 a25 a26 a27 a30 a31 a32 a33 a34 a35 a36 a37 a38 v0 v1 v2 v3 v4 v5 v6 v7 v8 v9 v10 md, (0, 0)) r := by
        rw [hK] at k
        have k3 : (some (iF ((f_Mesh_isUp x1 v1) = 0) (-3 : Int32) (0 : Int32)), wC a2 a3 a5 a6 a7 a8 a9 a10 a11 a13 a15 a19 a20 a21 a22 a23 a24 a25 a26 a27 a30 a31 a32 a33 a34 a35 a36 a37 a38 v0 v1 v2 v3 v4 v5 v6 v7 v8 v9 v10 md) = r := k
        rw [← k3]
        exact Ev.ireti rfl rfl
      refine Ev.br (fun h3 => ?_) (fun h3 => ?_)
      · refine Ev.go (st' := (36, [some (vR 0), some (vI x1), some (vI x2)], [vI (-3 : Int32)], wC a2 a3 a5 a6 a7 a8 a9 a10 a11 a13 a15 a19 a20 a21 a22 a23 a24 a25 a26 a27 a30 a31 a32 a33 a34 a35 a36 a37 a38 v0 v1 v2 v3 v4 v5 v6 v7 v8 v9 v10 md, (0, 0))) 1 rfl trivial ?_
        exact Ev.wk (Lle.n (Lle.n (Lle.n Lle.z))) (Ev.to kJ3 (by simp only [iF_pos h3]))
      · refine Ev.go (st' := (36, [some (vR 0), some (vI x1), some (vI x2)], [vI (0 : Int32)], wC a2 a3 a5 a6 a7 a8 a9 a10 a11 a13 a15 a19 a20 a21 a22 a23 a24 a25 a26 a27 a30 a31 a32 a33 a34 a35 a36 a37 a38 v0 v1 v2 v3 v4 v5 v6 v7 v8 v9 v10 md, (0, 0))) 2 rfl trivial ?_
        exact Ev.wk (Lle.n (Lle.n (Lle.n Lle.z))) (Ev.to kJ3 (by simp only [iF_neg h3]))

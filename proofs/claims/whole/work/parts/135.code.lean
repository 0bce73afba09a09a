/-! OF MeshNames$Paths.goesOver(II)Z -/
noncomputable def f_Paths_goesOver (x1 : Int32) (x2 : Int32) (places : Nat → Int32) : Int32 := (iF ((f_Paths_placeOf x1 x2 places) = (-6 : Int32)) (0 : Int32) (1 : Int32))
def P_Paths_goesOver (x1 : Int32) (x2 : Int32) (places : Nat → Int32) : Prop := (P_Paths_placeOf x1 x2 places) ∧ True
theorem z_Paths_goesOver (x1 : Int32) (x2 : Int32) (places : Nat → Int32) : (f_Paths_goesOver x1 x2 places) &&& 1 = f_Paths_goesOver x1 x2 places := (z_iF rfl rfl)
set_option maxRecDepth 8000 in
set_option maxHeartbeats 4000000 in
theorem e_Paths_goesOver_4 (a2 a3 a5 a6 a7 a8 a9 a10 a11 a13 a15 a19 a20 a21 a22 a23 a24 a25 a26 a27 a30 a31 a32 a33 a34 a35 a36 a37 a38 : Nat → Int32) (v0 v1 v2 v3 v4 v5 v6 v7 v8 v9 v10 : Int32) (md : AW) (x1 x2 : Int32) (hP : P_Paths_goesOver x1 x2 a11)  : Ev none 42 (0, [some (vR 4), some (vI x1), some (vI x2)], [], wC a2 a3 a5 a6 a7 a8 a9 a10 a11 a13 a15 a19 a20 a21 a22 a23 a24 a25 a26 a27 a30 a31 a32 a33 a34 a35 a36 a37 a38 v0 v1 v2 v3 v4 v5 v6 v7 v8 v9 v10 md, (0, 0)) (some (f_Paths_goesOver x1 x2 a11), wC a2 a3 a5 a6 a7 a8 a9 a10 a11 a13 a15 a19 a20 a21 a22 a23 a24 a25 a26 a27 a30 a31 a32 a33 a34 a35 a36 a37 a38 v0 v1 v2 v3 v4 v5 v6 v7 v8 v9 v10 md) := by
  suffices hh : ∀ (r : Option Int32 × AW) (K : (Int32) → Prop), K = (fun o : Int32 => (some o, wC a2 a3 a5 a6 a7 a8 a9 a10 a11 a13 a15 a19 a20 a21 a22 a23 a24 a25 a26 a27 a30 a31 a32 a33 a34 a35 a36 a37 a38 v0 v1 v2 v3 v4 v5 v6 v7 v8 v9 v10 md) = r) → K (iF ((f_Paths_placeOf x1 x2 a11) = (-6 : Int32)) (0 : Int32) (1 : Int32)) → Ev none 42 (0, [some (vR 4), some (vI x1), some (vI x2)], [], wC a2 a3 a5 a6 a7 a8 a9 a10 a11 a13 a15 a19 a20 a21 a22 a23 a24 a25 a26 a27 a30 a31 a32 a33 a34 a35 a36 a37 a38 v0 v1 v2 v3 v4 v5 v6 v7 v8 v9 v10 md, (0, 0)) r from hh _ _ rfl rfl
  intro r K hK k
  refine Ev.go (st' := (3, [some (vR 4), some (vI x1), some (vI x2)], [vI x2, vI x1, vR 4], wC a2 a3 a5 a6 a7 a8 a9 a10 a11 a13 a15 a19 a20 a21 a22 a23 a24 a25 a26 a27 a30 a31 a32 a33 a34 a35 a36 a37 a38 v0 v1 v2 v3 v4 v5 v6 v7 v8 v9 v10 md, (0, 0))) 3 rfl trivial ?_
  refine Ev.callI (a := 41) (As := [vR 4, vI x1, vI x2]) [] (f_Paths_placeOf x1 x2 a11) (wC a2 a3 a5 a6 a7 a8 a9 a10 a11 a13 a15 a19 a20 a21 a22 a23 a24 a25 a26 a27 a30 a31 a32 a33 a34 a35 a36 a37 a38 v0 v1 v2 v3 v4 v5 v6 v7 v8 v9 v10 md) rfl (e_Paths_placeOf_4 a2 a3 a5 a6 a7 a8 a9 a10 a11 a13 a15 a19 a20 a21 a22 a23 a24 a25 a26 a27 a30 a31 a32 a33 a34 a35 a36 a37 a38 v0 v1 v2 v3 v4 v5 v6 v7 v8 v9 v10 md x1 x2 hP.1) ?_
  refine Ev.go (st' := (if (f_Paths_placeOf x1 x2 a11) = (-6 : Int32) then 15 else 11, [some (vR 4), some (vI x1), some (vI x2)], [], wC a2 a3 a5 a6 a7 a8 a9 a10 a11 a13 a15 a19 a20 a21 a22 a23 a24 a25 a26 a27 a30 a31 a32 a33 a34 a35 a36 a37 a38 v0 v1 v2 v3 v4 v5 v6 v7 v8 v9 v10 md, (0, 0))) 2 rfl trivial ?_
  have kJ1 : Ev none 42 (16, [none, none, none], [vI (iF ((f_Paths_placeOf x1 x2 a11) = (-6 : Int32)) (0 : Int32) (1 : Int32))], wC a2 a3 a5 a6 a7 a8 a9 a10 a11 a13 a15 a19 a20 a21 a22 a23 a24 a25 a26 a27 a30 a31 a32 a33 a34 a35 a36 a37 a38 v0 v1 v2 v3 v4 v5 v6 v7 v8 v9 v10 md, (0, 0)) r := by
    rw [hK] at k
    have k3 : (some (iF ((f_Paths_placeOf x1 x2 a11) = (-6 : Int32)) (0 : Int32) (1 : Int32)), wC a2 a3 a5 a6 a7 a8 a9 a10 a11 a13 a15 a19 a20 a21 a22 a23 a24 a25 a26 a27 a30 a31 a32 a33 a34 a35 a36 a37 a38 v0 v1 v2 v3 v4 v5 v6 v7 v8 v9 v10 md) = r := k
    rw [← k3]
    exact Ev.iretz rfl rfl (by exact (z_iF rfl rfl))
  refine Ev.br (fun h1 => ?_) (fun h1 => ?_)
  · refine Ev.go (st' := (16, [some (vR 4), some (vI x1), some (vI x2)], [vI (0 : Int32)], wC a2 a3 a5 a6 a7 a8 a9 a10 a11 a13 a15 a19 a20 a21 a22 a23 a24 a25 a26 a27 a30 a31 a32 a33 a34 a35 a36 a37 a38 v0 v1 v2 v3 v4 v5 v6 v7 v8 v9 v10 md, (0, 0))) 1 rfl trivial ?_
    exact Ev.wk (Lle.n (Lle.n (Lle.n Lle.z))) (Ev.to kJ1 (by simp only [iF_pos h1]))
  · refine Ev.go (st' := (16, [some (vR 4), some (vI x1), some (vI x2)], [vI (1 : Int32)], wC a2 a3 a5 a6 a7 a8 a9 a10 a11 a13 a15 a19 a20 a21 a22 a23 a24 a25 a26 a27 a30 a31 a32 a33 a34 a35 a36 a37 a38 v0 v1 v2 v3 v4 v5 v6 v7 v8 v9 v10 md, (0, 0))) 2 rfl trivial ?_
    exact Ev.wk (Lle.n (Lle.n (Lle.n Lle.z))) (Ev.to kJ1 (by simp only [iF_neg h1]))

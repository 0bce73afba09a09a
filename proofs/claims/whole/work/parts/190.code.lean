/-! OF MeshNames$Survey.clear()V -/
noncomputable def b_Survey_clear_1  (j : Nat) (v : Nat → Int32) : Nat → Int32 := (upd v (nI j).toNatClampNeg (0 : Int32))
noncomputable def f_Survey_clear (visits : Nat → Int32) : (Nat → Int32) × Int32 × Int32 × Int32 := ((forN b_Survey_clear_1 0 8 visits), (0 : Int32), (0 : Int32), (0 : Int32))
set_option maxRecDepth 8000 in
set_option maxHeartbeats 4000000 in
theorem e_Survey_clear_14 (a2 a3 a5 a6 a7 a8 a9 a10 a11 a13 a15 a19 a20 a21 a22 a23 a24 a25 a26 a27 a30 a31 a32 a33 a34 a35 a36 a37 a38 : Nat → Int32) (v0 v1 v2 v3 v4 v5 v6 v7 v8 v9 v10 : Int32) (md : AW)  : Ev none 3 (0, [some (vR 14), none], [], wC a2 a3 a5 a6 a7 a8 a9 a10 a11 a13 a15 a19 a20 a21 a22 a23 a24 a25 a26 a27 a30 a31 a32 a33 a34 a35 a36 a37 a38 v0 v1 v2 v3 v4 v5 v6 v7 v8 v9 v10 md, (0, 0)) (none, wC a2 a3 a5 a6 a7 a8 a9 a10 a11 a13 (f_Survey_clear a15).1 a19 a20 a21 a22 a23 a24 a25 a26 a27 a30 a31 a32 a33 a34 a35 a36 a37 a38 v0 v1 v2 v3 v4 v5 v6 v7 (f_Survey_clear a15).2.1 (f_Survey_clear a15).2.2.1 (f_Survey_clear a15).2.2.2 md) := by
  suffices hh : ∀ (r : Option Int32 × AW) (K : ((Nat → Int32) × Int32 × Int32 × Int32) → Prop), K = (fun o : (Nat → Int32) × Int32 × Int32 × Int32 => (none, wC a2 a3 a5 a6 a7 a8 a9 a10 a11 a13 o.1 a19 a20 a21 a22 a23 a24 a25 a26 a27 a30 a31 a32 a33 a34 a35 a36 a37 a38 v0 v1 v2 v3 v4 v5 v6 v7 o.2.1 o.2.2.1 o.2.2.2 md) = r) → K ((forN b_Survey_clear_1 0 8 a15), (0 : Int32), (0 : Int32), (0 : Int32)) → Ev none 3 (0, [some (vR 14), none], [], wC a2 a3 a5 a6 a7 a8 a9 a10 a11 a13 a15 a19 a20 a21 a22 a23 a24 a25 a26 a27 a30 a31 a32 a33 a34 a35 a36 a37 a38 v0 v1 v2 v3 v4 v5 v6 v7 v8 v9 v10 md, (0, 0)) r from hh _ _ rfl rfl
  intro r K hK k
  refine Ev.go (st' := (5, [some (vR 14), none], [], wC a2 a3 a5 a6 a7 a8 a9 a10 a11 a13 a15 a19 a20 a21 a22 a23 a24 a25 a26 a27 a30 a31 a32 a33 a34 a35 a36 a37 a38 v0 v1 v2 v3 v4 v5 v6 v7 (0 : Int32) v9 v10 md, (0, 0))) 3 rfl trivial ?_
  refine Ev.go (st' := (10, [some (vR 14), none], [], wC a2 a3 a5 a6 a7 a8 a9 a10 a11 a13 a15 a19 a20 a21 a22 a23 a24 a25 a26 a27 a30 a31 a32 a33 a34 a35 a36 a37 a38 v0 v1 v2 v3 v4 v5 v6 v7 (0 : Int32) (0 : Int32) v10 md, (0, 0))) 3 rfl trivial ?_
  refine Ev.go (st' := (15, [some (vR 14), none], [], wC a2 a3 a5 a6 a7 a8 a9 a10 a11 a13 a15 a19 a20 a21 a22 a23 a24 a25 a26 a27 a30 a31 a32 a33 a34 a35 a36 a37 a38 v0 v1 v2 v3 v4 v5 v6 v7 (0 : Int32) (0 : Int32) (0 : Int32) md, (0, 0))) 3 rfl trivial ?_
  refine Ev.go (st' := (17, [some (vR 14), some (vI (0 : Int32))], [], wC a2 a3 a5 a6 a7 a8 a9 a10 a11 a13 a15 a19 a20 a21 a22 a23 a24 a25 a26 a27 a30 a31 a32 a33 a34 a35 a36 a37 a38 v0 v1 v2 v3 v4 v5 v6 v7 (0 : Int32) (0 : Int32) (0 : Int32) md, (0, 0))) 2 rfl trivial ?_
  refine Ev.wk (Lle.s (Lle.s Lle.z)) ?_
  refine Ev.loopN (fun c v => (17, [some (vR 14), some (vI c)], [], wC a2 a3 a5 a6 a7 a8 a9 a10 a11 a13 v a19 a20 a21 a22 a23 a24 a25 a26 a27 a30 a31 a32 a33 a34 a35 a36 a37 a38 v0 v1 v2 v3 v4 v5 v6 v7 (0 : Int32) (0 : Int32) (0 : Int32) md, (0, 0))) b_Survey_clear_1 0 8 8 a15 (c0 := (0 : Int32)) rfl (by omega) (fun j hj k2 => ?_) ?_
  · have hi1 : 0 + j < 8 := by omega
    clear hj
    generalize forN b_Survey_clear_1 0 j a15 = u1 at k2 ⊢
    generalize 0 + j = i1 at hi1 k2 ⊢
    show Ev none 3 (17, [some (vR 14), some (vI (nI i1))], [], wC a2 a3 a5 a6 a7 a8 a9 a10 a11 a13 u1 a19 a20 a21 a22 a23 a24 a25 a26 a27 a30 a31 a32 a33 a34 a35 a36 a37 a38 v0 v1 v2 v3 v4 v5 v6 v7 (0 : Int32) (0 : Int32) (0 : Int32) md, (0, 0)) r
    refine Ev.go (st' := (if (8 : Int32) ≤ nI i1 then 36 else 23, [some (vR 14), some (vI (nI i1))], [], wC a2 a3 a5 a6 a7 a8 a9 a10 a11 a13 u1 a19 a20 a21 a22 a23 a24 a25 a26 a27 a30 a31 a32 a33 a34 a35 a36 a37 a38 v0 v1 v2 v3 v4 v5 v6 v7 (0 : Int32) (0 : Int32) (0 : Int32) md, (0, 0))) 3 rfl trivial (Ev.brF (nI_ge hi1 (by decide)) ?_)
    refine Ev.go (st' := (30, [some (vR 14), some (vI (nI i1))], [], wC a2 a3 a5 a6 a7 a8 a9 a10 a11 a13 (upd u1 (nI i1).toNatClampNeg (0 : Int32)) a19 a20 a21 a22 a23 a24 a25 a26 a27 a30 a31 a32 a33 a34 a35 a36 a37 a38 v0 v1 v2 v3 v4 v5 v6 v7 (0 : Int32) (0 : Int32) (0 : Int32) md, (0, 0))) 5 rfl ⟨(vp_in_nI (by omega) (by decide)), trivial⟩ ?_
    refine Ev.go (st' := (17, [some (vR 14), some (vI ((nI i1) + (1 : Int32)))], [], wC a2 a3 a5 a6 a7 a8 a9 a10 a11 a13 (upd u1 (nI i1).toNatClampNeg (0 : Int32)) a19 a20 a21 a22 a23 a24 a25 a26 a27 a30 a31 a32 a33 a34 a35 a36 a37 a38 v0 v1 v2 v3 v4 v5 v6 v7 (0 : Int32) (0 : Int32) (0 : Int32) md, (0, 0))) 2 rfl trivial ?_
    exact Ev.wk (Lle.s (Lle.s Lle.z)) (show Ev none 3 (17, [some (vR 14), some (vI ((nI i1) + (1 : Int32)))], [], wC a2 a3 a5 a6 a7 a8 a9 a10 a11 a13 (upd u1 (nI i1).toNatClampNeg (0 : Int32)) a19 a20 a21 a22 a23 a24 a25 a26 a27 a30 a31 a32 a33 a34 a35 a36 a37 a38 v0 v1 v2 v3 v4 v5 v6 v7 (0 : Int32) (0 : Int32) (0 : Int32) md, (0, 0)) r from k2)
  · refine Ev.go (st' := (if (8 : Int32) ≤ nI 8 then 36 else 23, [some (vR 14), some (vI (nI 8))], [], wC a2 a3 a5 a6 a7 a8 a9 a10 a11 a13 (forN b_Survey_clear_1 0 8 a15) a19 a20 a21 a22 a23 a24 a25 a26 a27 a30 a31 a32 a33 a34 a35 a36 a37 a38 v0 v1 v2 v3 v4 v5 v6 v7 (0 : Int32) (0 : Int32) (0 : Int32) md, (0, 0))) 3 rfl trivial (Ev.brN (by decide) ?_)
    refine Ev.wk (Lle.n (Lle.n Lle.z)) ?_
    rw [hK] at k
    have k3 : (none, wC a2 a3 a5 a6 a7 a8 a9 a10 a11 a13 (forN b_Survey_clear_1 0 8 a15) a19 a20 a21 a22 a23 a24 a25 a26 a27 a30 a31 a32 a33 a34 a35 a36 a37 a38 v0 v1 v2 v3 v4 v5 v6 v7 (0 : Int32) (0 : Int32) (0 : Int32) md) = r := k
    rw [← k3]
    exact Ev.retv rfl rfl

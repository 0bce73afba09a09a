/-! OF MeshNamesModel.image(I)I -/
noncomputable def f_M_image (x1 : Int32) (images_ : Nat → Int32) (isKept : Nat → Int32) (state_ : Nat → Int32) : Int32 × (Nat → Int32) × (Nat → Int32) := (iF ((f_M_in x1 (0 : Int32) (1 : Int32)) = 0) ((-2 : Int32), images_, isKept) ((1 : Int32), (f_M_save x1 state_ images_), (upd isKept x1.toNatClampNeg ((1 : Int32) &&& 1))))
def P_M_image (x1 : Int32) (images_ : Nat → Int32) (isKept : Nat → Int32) (state_ : Nat → Int32) : Prop := (((f_M_in x1 (0 : Int32) (1 : Int32)) = 0 → True) ∧ (¬ ((f_M_in x1 (0 : Int32) (1 : Int32)) = 0) → ((P_M_save x1 state_ images_) ∧ vp_in x1 2 ∧ True))) ∧ True
set_option maxRecDepth 8000 in
set_option maxHeartbeats 4000000 in
theorem e_M_image_39 (κ : Sg) (a40 a41 a42 a43 a44 a45 a46 a47 a48 a49 a50 : Nat → Int32) (v11 v12 v13 v14 : Int32) (x1 : Int32) (hP : P_M_image x1 a41 a42 a40)  : Ev none 127 (0, [some (vR 39), some (vI x1)], [], wd κ (mM a40 a41 a42 a43 a44 a45 a46 a47 a48 a49 a50 v11 v12 v13 v14), (0, 0)) (some (f_M_image x1 a41 a42 a40).1, wd κ (mM a40 (f_M_image x1 a41 a42 a40).2.1 (f_M_image x1 a41 a42 a40).2.2 a43 a44 a45 a46 a47 a48 a49 a50 v11 v12 v13 v14)) := by
  suffices hh : ∀ (r : Option Int32 × AW) (K : (Int32 × (Nat → Int32) × (Nat → Int32)) → Prop), K = (fun o : Int32 × (Nat → Int32) × (Nat → Int32) => (some o.1, wd κ (mM a40 o.2.1 o.2.2 a43 a44 a45 a46 a47 a48 a49 a50 v11 v12 v13 v14)) = r) → K (iF ((f_M_in x1 (0 : Int32) (1 : Int32)) = 0) ((-2 : Int32), a41, a42) ((1 : Int32), (f_M_save x1 a40 a41), (upd a42 x1.toNatClampNeg ((1 : Int32) &&& 1)))) → Ev none 127 (0, [some (vR 39), some (vI x1)], [], wd κ (mM a40 a41 a42 a43 a44 a45 a46 a47 a48 a49 a50 v11 v12 v13 v14), (0, 0)) r from hh _ _ rfl rfl
  intro r K hK k
  refine Ev.go (st' := (3, [some (vR 39), some (vI x1)], [vI (1 : Int32), vI (0 : Int32), vI x1], wd κ (mM a40 a41 a42 a43 a44 a45 a46 a47 a48 a49 a50 v11 v12 v13 v14), (0, 0))) 3 rfl trivial ?_
  refine Ev.callI (a := 25) (As := [vI x1, vI (0 : Int32), vI (1 : Int32)]) [] (f_M_in x1 (0 : Int32) (1 : Int32)) (wd κ (mM a40 a41 a42 a43 a44 a45 a46 a47 a48 a49 a50 v11 v12 v13 v14)) rfl (e_M_in (wd κ (mM a40 a41 a42 a43 a44 a45 a46 a47 a48 a49 a50 v11 v12 v13 v14)) x1 (0 : Int32) (1 : Int32)) ?_
  refine Ev.go (st' := (if (f_M_in x1 (0 : Int32) (1 : Int32)) = 0 then 9 else 12, [some (vR 39), some (vI x1)], [], wd κ (mM a40 a41 a42 a43 a44 a45 a46 a47 a48 a49 a50 v11 v12 v13 v14), (0, 0))) 1 rfl trivial ?_
  refine Ev.brK (K := K) k (fun h1 k => ?_) (fun h1 k => ?_)
  · refine Ev.go (st' := (11, [some (vR 39), some (vI x1)], [vI (-2 : Int32)], wd κ (mM a40 a41 a42 a43 a44 a45 a46 a47 a48 a49 a50 v11 v12 v13 v14), (0, 0))) 1 rfl trivial ?_
    rw [hK] at k
    have k3 : (some (-2 : Int32), wd κ (mM a40 a41 a42 a43 a44 a45 a46 a47 a48 a49 a50 v11 v12 v13 v14)) = r := k
    rw [← k3]
    exact Ev.ireti rfl rfl
  · refine Ev.go (st' := (14, [some (vR 39), some (vI x1)], [vI x1, vR 39], wd κ (mM a40 a41 a42 a43 a44 a45 a46 a47 a48 a49 a50 v11 v12 v13 v14), (0, 0))) 2 rfl trivial ?_
    refine Ev.callV (a := 121) (As := [vR 39, vI x1]) [] (wd κ (mM a40 (f_M_save x1 a40 a41) a42 a43 a44 a45 a46 a47 a48 a49 a50 v11 v12 v13 v14)) rfl (e_M_save_39 κ a40 a41 a42 a43 a44 a45 a46 a47 a48 a49 a50 v11 v12 v13 v14 x1 (hP.1.2 h1).1) ?_
    refine Ev.go (st' := (24, [some (vR 39), some (vI x1)], [], wd κ (mM a40 (f_M_save x1 a40 a41) (upd a42 x1.toNatClampNeg ((1 : Int32) &&& 1)) a43 a44 a45 a46 a47 a48 a49 a50 v11 v12 v13 v14), (0, 0))) 5 rfl ⟨(hP.1.2 h1).2.1, trivial⟩ ?_
    refine Ev.go (st' := (25, [some (vR 39), some (vI x1)], [vI (1 : Int32)], wd κ (mM a40 (f_M_save x1 a40 a41) (upd a42 x1.toNatClampNeg ((1 : Int32) &&& 1)) a43 a44 a45 a46 a47 a48 a49 a50 v11 v12 v13 v14), (0, 0))) 1 rfl trivial ?_
    rw [hK] at k
    have k3 : (some (1 : Int32), wd κ (mM a40 (f_M_save x1 a40 a41) (upd a42 x1.toNatClampNeg ((1 : Int32) &&& 1)) a43 a44 a45 a46 a47 a48 a49 a50 v11 v12 v13 v14)) = r := k
    rw [← k3]
    exact Ev.ireti rfl rfl
set_option maxRecDepth 8000 in
set_option maxHeartbeats 4000000 in
theorem e_Mesh_become_1_18 (a2 a3 a5 a6 a7 a8 a9 a10 a11 a13 a15 a19 a20 a21 a22 a23 a24 a25 a26 a27 a30 a31 a32 a33 a34 a35 a36 a37 a38 : Nat → Int32) (v0 v1 v2 v3 v4 v5 v6 v7 v8 v9 v10 : Int32) (md : AW)  : Ev none 125 (0, [some (vR 1), some (vR 18), none], [], wC a2 a3 a5 a6 a7 a8 a9 a10 a11 a13 a15 a19 a20 a21 a22 a23 a24 a25 a26 a27 a30 a31 a32 a33 a34 a35 a36 a37 a38 v0 v1 v2 v3 v4 v5 v6 v7 v8 v9 v10 md, (0, 0)) (none, wC (f_Mesh_become a19 a20 a2 a3 v2).1 (f_Mesh_become a19 a20 a2 a3 v2).2.1 a5 a6 a7 a8 a9 a10 a11 a13 a15 a19 a20 a21 a22 a23 a24 a25 a26 a27 a30 a31 a32 a33 a34 a35 a36 a37 a38 v0 (f_Mesh_become a19 a20 a2 a3 v2).2.2 v2 v3 v4 v5 v6 v7 v8 v9 v10 md) := by
  suffices hh : ∀ (r : Option Int32 × AW) (K : ((Nat → Int32) × (Nat → Int32) × Int32) → Prop), K = (fun o : (Nat → Int32) × (Nat → Int32) × Int32 => (none, wC o.1 o.2.1 a5 a6 a7 a8 a9 a10 a11 a13 a15 a19 a20 a21 a22 a23 a24 a25 a26 a27 a30 a31 a32 a33 a34 a35 a36 a37 a38 v0 o.2.2 v2 v3 v4 v5 v6 v7 v8 v9 v10 md) = r) → K ((forN (b_Mesh_become_1 a19 a20) 0 8 (a2, a3)).1, (forN (b_Mesh_become_1 a19 a20) 0 8 (a2, a3)).2, v2) → Ev none 125 (0, [some (vR 1), some (vR 18), none], [], wC a2 a3 a5 a6 a7 a8 a9 a10 a11 a13 a15 a19 a20 a21 a22 a23 a24 a25 a26 a27 a30 a31 a32 a33 a34 a35 a36 a37 a38 v0 v1 v2 v3 v4 v5 v6 v7 v8 v9 v10 md, (0, 0)) r from hh _ _ rfl rfl
  intro r K hK k
  refine Ev.go (st' := (8, [some (vR 1), some (vR 18), none], [], wC a2 a3 a5 a6 a7 a8 a9 a10 a11 a13 a15 a19 a20 a21 a22 a23 a24 a25 a26 a27 a30 a31 a32 a33 a34 a35 a36 a37 a38 v0 v2 v2 v3 v4 v5 v6 v7 v8 v9 v10 md, (0, 0))) 4 rfl trivial ?_
  refine Ev.go (st' := (10, [some (vR 1), some (vR 18), some (vI (0 : Int32))], [], wC a2 a3 a5 a6 a7 a8 a9 a10 a11 a13 a15 a19 a20 a21 a22 a23 a24 a25 a26 a27 a30 a31 a32 a33 a34 a35 a36 a37 a38 v0 v2 v2 v3 v4 v5 v6 v7 v8 v9 v10 md, (0, 0))) 2 rfl trivial ?_
  refine Ev.wk (Lle.s (Lle.s (Lle.s Lle.z))) ?_
  refine Ev.loopN (fun c v => (10, [some (vR 1), some (vR 18), some (vI c)], [], wC v.1 v.2 a5 a6 a7 a8 a9 a10 a11 a13 a15 a19 a20 a21 a22 a23 a24 a25 a26 a27 a30 a31 a32 a33 a34 a35 a36 a37 a38 v0 v2 v2 v3 v4 v5 v6 v7 v8 v9 v10 md, (0, 0))) (b_Mesh_become_1 a19 a20) 0 8 8 (a2, a3) (c0 := (0 : Int32)) rfl (by omega) (fun j hj k2 => ?_) ?_
  · have hi1 : 0 + j < 8 := by omega
    clear hj
    generalize forN (b_Mesh_become_1 a19 a20) 0 j (a2, a3) = u1 at k2 ⊢
    generalize 0 + j = i1 at hi1 k2 ⊢
    show Ev none 125 (10, [some (vR 1), some (vR 18), some (vI (nI i1))], [], wC u1.1 u1.2 a5 a6 a7 a8 a9 a10 a11 a13 a15 a19 a20 a21 a22 a23 a24 a25 a26 a27 a30 a31 a32 a33 a34 a35 a36 a37 a38 v0 v2 v2 v3 v4 v5 v6 v7 v8 v9 v10 md, (0, 0)) r
    refine Ev.go (st' := (if (8 : Int32) ≤ nI i1 then 46 else 16, [some (vR 1), some (vR 18), some (vI (nI i1))], [], wC u1.1 u1.2 a5 a6 a7 a8 a9 a10 a11 a13 a15 a19 a20 a21 a22 a23 a24 a25 a26 a27 a30 a31 a32 a33 a34 a35 a36 a37 a38 v0 v2 v2 v3 v4 v5 v6 v7 v8 v9 v10 md, (0, 0))) 3 rfl trivial (Ev.brF (nI_ge hi1 (by decide)) ?_)
    refine Ev.go (st' := (28, [some (vR 1), some (vR 18), some (vI (nI i1))], [], wC (upd u1.1 (nI i1).toNatClampNeg (a19 (nI i1).toNatClampNeg)) u1.2 a5 a6 a7 a8 a9 a10 a11 a13 a15 a19 a20 a21 a22 a23 a24 a25 a26 a27 a30 a31 a32 a33 a34 a35 a36 a37 a38 v0 v2 v2 v3 v4 v5 v6 v7 v8 v9 v10 md, (0, 0))) 8 rfl ⟨(vp_in_nI (by omega) (by decide)), (vp_in_nI (by omega) (by decide)), trivial⟩ ?_
    refine Ev.go (st' := (40, [some (vR 1), some (vR 18), some (vI (nI i1))], [], wC (upd u1.1 (nI i1).toNatClampNeg (a19 (nI i1).toNatClampNeg)) (upd u1.2 (nI i1).toNatClampNeg (a20 (nI i1).toNatClampNeg)) a5 a6 a7 a8 a9 a10 a11 a13 a15 a19 a20 a21 a22 a23 a24 a25 a26 a27 a30 a31 a32 a33 a34 a35 a36 a37 a38 v0 v2 v2 v3 v4 v5 v6 v7 v8 v9 v10 md, (0, 0))) 8 rfl ⟨(vp_in_nI (by omega) (by decide)), (vp_in_nI (by omega) (by decide)), trivial⟩ ?_
    refine Ev.go (st' := (10, [some (vR 1), some (vR 18), some (vI ((nI i1) + (1 : Int32)))], [], wC (upd u1.1 (nI i1).toNatClampNeg (a19 (nI i1).toNatClampNeg)) (upd u1.2 (nI i1).toNatClampNeg (a20 (nI i1).toNatClampNeg)) a5 a6 a7 a8 a9 a10 a11 a13 a15 a19 a20 a21 a22 a23 a24 a25 a26 a27 a30 a31 a32 a33 a34 a35 a36 a37 a38 v0 v2 v2 v3 v4 v5 v6 v7 v8 v9 v10 md, (0, 0))) 2 rfl trivial ?_
    exact Ev.wk (Lle.s (Lle.s (Lle.s Lle.z))) (show Ev none 125 (10, [some (vR 1), some (vR 18), some (vI ((nI i1) + (1 : Int32)))], [], wC (upd u1.1 (nI i1).toNatClampNeg (a19 (nI i1).toNatClampNeg)) (upd u1.2 (nI i1).toNatClampNeg (a20 (nI i1).toNatClampNeg)) a5 a6 a7 a8 a9 a10 a11 a13 a15 a19 a20 a21 a22 a23 a24 a25 a26 a27 a30 a31 a32 a33 a34 a35 a36 a37 a38 v0 v2 v2 v3 v4 v5 v6 v7 v8 v9 v10 md, (0, 0)) r from k2)
  · refine Ev.go (st' := (if (8 : Int32) ≤ nI 8 then 46 else 16, [some (vR 1), some (vR 18), some (vI (nI 8))], [], wC (forN (b_Mesh_become_1 a19 a20) 0 8 (a2, a3)).1 (forN (b_Mesh_become_1 a19 a20) 0 8 (a2, a3)).2 a5 a6 a7 a8 a9 a10 a11 a13 a15 a19 a20 a21 a22 a23 a24 a25 a26 a27 a30 a31 a32 a33 a34 a35 a36 a37 a38 v0 v2 v2 v3 v4 v5 v6 v7 v8 v9 v10 md, (0, 0))) 3 rfl trivial (Ev.brN (by decide) ?_)
    refine Ev.wk (Lle.n (Lle.n (Lle.n Lle.z))) ?_
    rw [hK] at k
    have k3 : (none, wC (forN (b_Mesh_become_1 a19 a20) 0 8 (a2, a3)).1 (forN (b_Mesh_become_1 a19 a20) 0 8 (a2, a3)).2 a5 a6 a7 a8 a9 a10 a11 a13 a15 a19 a20 a21 a22 a23 a24 a25 a26 a27 a30 a31 a32 a33 a34 a35 a36 a37 a38 v0 v2 v2 v3 v4 v5 v6 v7 v8 v9 v10 md) = r := k
    rw [← k3]
    exact Ev.retv rfl rfl
set_option maxRecDepth 8000 in
set_option maxHeartbeats 4000000 in
theorem e_Mesh_become_1_29 (a2 a3 a5 a6 a7 a8 a9 a10 a11 a13 a15 a19 a20 a21 a22 a23 a24 a25 a26 a27 a30 a31 a32 a33 a34 a35 a36 a37 a38 : Nat → Int32) (v0 v1 v2 v3 v4 v5 v6 v7 v8 v9 v10 : Int32) (md : AW)  : Ev none 125 (0, [some (vR 1), some (vR 29), none], [], wC a2 a3 a5 a6 a7 a8 a9 a10 a11 a13 a15 a19 a20 a21 a22 a23 a24 a25 a26 a27 a30 a31 a32 a33 a34 a35 a36 a37 a38 v0 v1 v2 v3 v4 v5 v6 v7 v8 v9 v10 md, (0, 0)) (none, wC (f_Mesh_become a30 a31 a2 a3 v3).1 (f_Mesh_become a30 a31 a2 a3 v3).2.1 a5 a6 a7 a8 a9 a10 a11 a13 a15 a19 a20 a21 a22 a23 a24 a25 a26 a27 a30 a31 a32 a33 a34 a35 a36 a37 a38 v0 (f_Mesh_become a30 a31 a2 a3 v3).2.2 v2 v3 v4 v5 v6 v7 v8 v9 v10 md) := by
  suffices hh : ∀ (r : Option Int32 × AW) (K : ((Nat → Int32) × (Nat → Int32) × Int32) → Prop), K = (fun o : (Nat → Int32) × (Nat → Int32) × Int32 => (none, wC o.1 o.2.1 a5 a6 a7 a8 a9 a10 a11 a13 a15 a19 a20 a21 a22 a23 a24 a25 a26 a27 a30 a31 a32 a33 a34 a35 a36 a37 a38 v0 o.2.2 v2 v3 v4 v5 v6 v7 v8 v9 v10 md) = r) → K ((forN (b_Mesh_become_1 a30 a31) 0 8 (a2, a3)).1, (forN (b_Mesh_become_1 a30 a31) 0 8 (a2, a3)).2, v3) → Ev none 125 (0, [some (vR 1), some (vR 29), none], [], wC a2 a3 a5 a6 a7 a8 a9 a10 a11 a13 a15 a19 a20 a21 a22 a23 a24 a25 a26 a27 a30 a31 a32 a33 a34 a35 a36 a37 a38 v0 v1 v2 v3 v4 v5 v6 v7 v8 v9 v10 md, (0, 0)) r from hh _ _ rfl rfl
  intro r K hK k
  refine Ev.go (st' := (8, [some (vR 1), some (vR 29), none], [], wC a2 a3 a5 a6 a7 a8 a9 a10 a11 a13 a15 a19 a20 a21 a22 a23 a24 a25 a26 a27 a30 a31 a32 a33 a34 a35 a36 a37 a38 v0 v3 v2 v3 v4 v5 v6 v7 v8 v9 v10 md, (0, 0))) 4 rfl trivial ?_
  refine Ev.go (st' := (10, [some (vR 1), some (vR 29), some (vI (0 : Int32))], [], wC a2 a3 a5 a6 a7 a8 a9 a10 a11 a13 a15 a19 a20 a21 a22 a23 a24 a25 a26 a27 a30 a31 a32 a33 a34 a35 a36 a37 a38 v0 v3 v2 v3 v4 v5 v6 v7 v8 v9 v10 md, (0, 0))) 2 rfl trivial ?_
  refine Ev.wk (Lle.s (Lle.s (Lle.s Lle.z))) ?_
  refine Ev.loopN (fun c v => (10, [some (vR 1), some (vR 29), some (vI c)], [], wC v.1 v.2 a5 a6 a7 a8 a9 a10 a11 a13 a15 a19 a20 a21 a22 a23 a24 a25 a26 a27 a30 a31 a32 a33 a34 a35 a36 a37 a38 v0 v3 v2 v3 v4 v5 v6 v7 v8 v9 v10 md, (0, 0))) (b_Mesh_become_1 a30 a31) 0 8 8 (a2, a3) (c0 := (0 : Int32)) rfl (by omega) (fun j hj k2 => ?_) ?_
  · have hi1 : 0 + j < 8 := by omega
    clear hj
    generalize forN (b_Mesh_become_1 a30 a31) 0 j (a2, a3) = u1 at k2 ⊢
    generalize 0 + j = i1 at hi1 k2 ⊢
    show Ev none 125 (10, [some (vR 1), some (vR 29), some (vI (nI i1))], [], wC u1.1 u1.2 a5 a6 a7 a8 a9 a10 a11 a13 a15 a19 a20 a21 a22 a23 a24 a25 a26 a27 a30 a31 a32 a33 a34 a35 a36 a37 a38 v0 v3 v2 v3 v4 v5 v6 v7 v8 v9 v10 md, (0, 0)) r
    refine Ev.go (st' := (if (8 : Int32) ≤ nI i1 then 46 else 16, [some (vR 1), some (vR 29), some (vI (nI i1))], [], wC u1.1 u1.2 a5 a6 a7 a8 a9 a10 a11 a13 a15 a19 a20 a21 a22 a23 a24 a25 a26 a27 a30 a31 a32 a33 a34 a35 a36 a37 a38 v0 v3 v2 v3 v4 v5 v6 v7 v8 v9 v10 md, (0, 0))) 3 rfl trivial (Ev.brF (nI_ge hi1 (by decide)) ?_)
    refine Ev.go (st' := (28, [some (vR 1), some (vR 29), some (vI (nI i1))], [], wC (upd u1.1 (nI i1).toNatClampNeg (a30 (nI i1).toNatClampNeg)) u1.2 a5 a6 a7 a8 a9 a10 a11 a13 a15 a19 a20 a21 a22 a23 a24 a25 a26 a27 a30 a31 a32 a33 a34 a35 a36 a37 a38 v0 v3 v2 v3 v4 v5 v6 v7 v8 v9 v10 md, (0, 0))) 8 rfl ⟨(vp_in_nI (by omega) (by decide)), (vp_in_nI (by omega) (by decide)), trivial⟩ ?_
    refine Ev.go (st' := (40, [some (vR 1), some (vR 29), some (vI (nI i1))], [], wC (upd u1.1 (nI i1).toNatClampNeg (a30 (nI i1).toNatClampNeg)) (upd u1.2 (nI i1).toNatClampNeg (a31 (nI i1).toNatClampNeg)) a5 a6 a7 a8 a9 a10 a11 a13 a15 a19 a20 a21 a22 a23 a24 a25 a26 a27 a30 a31 a32 a33 a34 a35 a36 a37 a38 v0 v3 v2 v3 v4 v5 v6 v7 v8 v9 v10 md, (0, 0))) 8 rfl ⟨(vp_in_nI (by omega) (by decide)), (vp_in_nI (by omega) (by decide)), trivial⟩ ?_
    refine Ev.go (st' := (10, [some (vR 1), some (vR 29), some (vI ((nI i1) + (1 : Int32)))], [], wC (upd u1.1 (nI i1).toNatClampNeg (a30 (nI i1).toNatClampNeg)) (upd u1.2 (nI i1).toNatClampNeg (a31 (nI i1).toNatClampNeg)) a5 a6 a7 a8 a9 a10 a11 a13 a15 a19 a20 a21 a22 a23 a24 a25 a26 a27 a30 a31 a32 a33 a34 a35 a36 a37 a38 v0 v3 v2 v3 v4 v5 v6 v7 v8 v9 v10 md, (0, 0))) 2 rfl trivial ?_
    exact Ev.wk (Lle.s (Lle.s (Lle.s Lle.z))) (show Ev none 125 (10, [some (vR 1), some (vR 29), some (vI ((nI i1) + (1 : Int32)))], [], wC (upd u1.1 (nI i1).toNatClampNeg (a30 (nI i1).toNatClampNeg)) (upd u1.2 (nI i1).toNatClampNeg (a31 (nI i1).toNatClampNeg)) a5 a6 a7 a8 a9 a10 a11 a13 a15 a19 a20 a21 a22 a23 a24 a25 a26 a27 a30 a31 a32 a33 a34 a35 a36 a37 a38 v0 v3 v2 v3 v4 v5 v6 v7 v8 v9 v10 md, (0, 0)) r from k2)
  · refine Ev.go (st' := (if (8 : Int32) ≤ nI 8 then 46 else 16, [some (vR 1), some (vR 29), some (vI (nI 8))], [], wC (forN (b_Mesh_become_1 a30 a31) 0 8 (a2, a3)).1 (forN (b_Mesh_become_1 a30 a31) 0 8 (a2, a3)).2 a5 a6 a7 a8 a9 a10 a11 a13 a15 a19 a20 a21 a22 a23 a24 a25 a26 a27 a30 a31 a32 a33 a34 a35 a36 a37 a38 v0 v3 v2 v3 v4 v5 v6 v7 v8 v9 v10 md, (0, 0))) 3 rfl trivial (Ev.brN (by decide) ?_)
    refine Ev.wk (Lle.n (Lle.n (Lle.n Lle.z))) ?_
    rw [hK] at k
    have k3 : (none, wC (forN (b_Mesh_become_1 a30 a31) 0 8 (a2, a3)).1 (forN (b_Mesh_become_1 a30 a31) 0 8 (a2, a3)).2 a5 a6 a7 a8 a9 a10 a11 a13 a15 a19 a20 a21 a22 a23 a24 a25 a26 a27 a30 a31 a32 a33 a34 a35 a36 a37 a38 v0 v3 v2 v3 v4 v5 v6 v7 v8 v9 v10 md) = r := k
    rw [← k3]
    exact Ev.retv rfl rfl

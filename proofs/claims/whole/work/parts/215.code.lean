/-! OF MeshNamesModel.save(I)V -/
noncomputable def b_M_save_1 (p1 : Int32) (state_ : Nat → Int32) (j : Nat) (v : Nat → Int32) : Nat → Int32 := (upd v (((80 : Int32) * p1) + (nI j)).toNatClampNeg (state_ (nI j).toNatClampNeg))
def P_M_save_1 (p1 : Int32) (state_ : Nat → Int32) (j : Nat) (v : Nat → Int32) : Prop := vp_in (((80 : Int32) * p1) + (nI j)) 240 ∧ True
noncomputable def f_M_save (x1 : Int32) (state_ : Nat → Int32) (images_ : Nat → Int32) : Nat → Int32 := (forN (b_M_save_1 x1 state_) 0 80 images_)
def P_M_save (x1 : Int32) (state_ : Nat → Int32) (images_ : Nat → Int32) : Prop := (∀ q, q < 80 → P_M_save_1 x1 state_ (0 + q) (forN (b_M_save_1 x1 state_) 0 q images_)) ∧ True
set_option maxRecDepth 8000 in
set_option maxHeartbeats 4000000 in
theorem e_M_save_39 (κ : Sg) (a40 a41 a42 a43 a44 a45 a46 a47 a48 a49 a50 : Nat → Int32) (v11 v12 v13 v14 : Int32) (x1 : Int32) (hP : P_M_save x1 a40 a41)  : Ev none 121 (0, [some (vR 39), some (vI x1), none], [], wd κ (mM a40 a41 a42 a43 a44 a45 a46 a47 a48 a49 a50 v11 v12 v13 v14), (0, 0)) (none, wd κ (mM a40 (f_M_save x1 a40 a41) a42 a43 a44 a45 a46 a47 a48 a49 a50 v11 v12 v13 v14)) := by
  suffices hh : ∀ (r : Option Int32 × AW) (K : (Nat → Int32) → Prop), K = (fun o : Nat → Int32 => (none, wd κ (mM a40 o a42 a43 a44 a45 a46 a47 a48 a49 a50 v11 v12 v13 v14)) = r) → K (forN (b_M_save_1 x1 a40) 0 80 a41) → Ev none 121 (0, [some (vR 39), some (vI x1), none], [], wd κ (mM a40 a41 a42 a43 a44 a45 a46 a47 a48 a49 a50 v11 v12 v13 v14), (0, 0)) r from hh _ _ rfl rfl
  intro r K hK k
  refine Ev.go (st' := (2, [some (vR 39), some (vI x1), some (vI (0 : Int32))], [], wd κ (mM a40 a41 a42 a43 a44 a45 a46 a47 a48 a49 a50 v11 v12 v13 v14), (0, 0))) 2 rfl trivial ?_
  refine Ev.wk (Lle.s (Lle.s (Lle.s Lle.z))) ?_
  refine Ev.loopN (fun c v => (2, [some (vR 39), some (vI x1), some (vI c)], [], wd κ (mM a40 v a42 a43 a44 a45 a46 a47 a48 a49 a50 v11 v12 v13 v14), (0, 0))) (b_M_save_1 x1 a40) 0 80 80 a41 (c0 := (0 : Int32)) rfl (by omega) (fun j hj k2 => ?_) ?_
  · have hp1 := hP.1 j hj
    have hi1 : 0 + j < 80 := by omega
    clear hj
    generalize forN (b_M_save_1 x1 a40) 0 j a41 = u1 at hp1 k2 ⊢
    generalize 0 + j = i1 at hi1 hp1 k2 ⊢
    show Ev none 121 (2, [some (vR 39), some (vI x1), some (vI (nI i1))], [], wd κ (mM a40 u1 a42 a43 a44 a45 a46 a47 a48 a49 a50 v11 v12 v13 v14), (0, 0)) r
    refine Ev.go (st' := (if (80 : Int32) ≤ nI i1 then 31 else 8, [some (vR 39), some (vI x1), some (vI (nI i1))], [], wd κ (mM a40 u1 a42 a43 a44 a45 a46 a47 a48 a49 a50 v11 v12 v13 v14), (0, 0))) 3 rfl trivial (Ev.brF (nI_ge hi1 (by decide)) ?_)
    refine Ev.go (st' := (25, [some (vR 39), some (vI x1), some (vI (nI i1))], [], wd κ (mM a40 (upd u1 (((80 : Int32) * x1) + (nI i1)).toNatClampNeg (a40 (nI i1).toNatClampNeg)) a42 a43 a44 a45 a46 a47 a48 a49 a50 v11 v12 v13 v14), (0, 0))) 12 rfl ⟨(vp_in_nI (by omega) (by decide)), hp1.1, trivial⟩ ?_
    refine Ev.go (st' := (2, [some (vR 39), some (vI x1), some (vI ((nI i1) + (1 : Int32)))], [], wd κ (mM a40 (upd u1 (((80 : Int32) * x1) + (nI i1)).toNatClampNeg (a40 (nI i1).toNatClampNeg)) a42 a43 a44 a45 a46 a47 a48 a49 a50 v11 v12 v13 v14), (0, 0))) 2 rfl trivial ?_
    exact Ev.wk (Lle.s (Lle.s (Lle.s Lle.z))) (show Ev none 121 (2, [some (vR 39), some (vI x1), some (vI ((nI i1) + (1 : Int32)))], [], wd κ (mM a40 (upd u1 (((80 : Int32) * x1) + (nI i1)).toNatClampNeg (a40 (nI i1).toNatClampNeg)) a42 a43 a44 a45 a46 a47 a48 a49 a50 v11 v12 v13 v14), (0, 0)) r from k2)
  · refine Ev.go (st' := (if (80 : Int32) ≤ nI 80 then 31 else 8, [some (vR 39), some (vI x1), some (vI (nI 80))], [], wd κ (mM a40 (forN (b_M_save_1 x1 a40) 0 80 a41) a42 a43 a44 a45 a46 a47 a48 a49 a50 v11 v12 v13 v14), (0, 0))) 3 rfl trivial (Ev.brN (by decide) ?_)
    refine Ev.wk (Lle.n (Lle.n (Lle.n Lle.z))) ?_
    rw [hK] at k
    have k3 : (none, wd κ (mM a40 (forN (b_M_save_1 x1 a40) 0 80 a41) a42 a43 a44 a45 a46 a47 a48 a49 a50 v11 v12 v13 v14)) = r := k
    rw [← k3]
    exact Ev.retv rfl rfl

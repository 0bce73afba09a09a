/-! OF MeshNamesModel.link(III)I -/
noncomputable def f_M_link (x1 : Int32) (x2 : Int32) (x3 : Int32) (state_ : Nat → Int32) : Int32 × (Nat → Int32) := (iF ((f_M_isNode x1) = 0) ((-1 : Int32), state_) (iF ((f_M_isNode x2) = 0) ((-1 : Int32), state_) (iF ((f_M_in x3 (0 : Int32) (1 : Int32)) = 0) ((-2 : Int32), state_) (iF (x1 = x2) ((-2 : Int32), state_) ((f_M_links (upd state_ (f_M_pair x1 x2).toNatClampNeg x3)), (upd state_ (f_M_pair x1 x2).toNatClampNeg x3))))))
def P_M_link (x1 : Int32) (x2 : Int32) (x3 : Int32) (state_ : Nat → Int32) : Prop := (((f_M_isNode x1) = 0 → True) ∧ (¬ ((f_M_isNode x1) = 0) → ((((f_M_isNode x2) = 0 → True) ∧ (¬ ((f_M_isNode x2) = 0) → ((((f_M_in x3 (0 : Int32) (1 : Int32)) = 0 → True) ∧ (¬ ((f_M_in x3 (0 : Int32) (1 : Int32)) = 0) → (((x1 = x2 → True) ∧ (¬ (x1 = x2) → (vp_in (f_M_pair x1 x2) 80 ∧ (P_M_links (upd state_ (f_M_pair x1 x2).toNatClampNeg x3)) ∧ True))) ∧ True))) ∧ True))) ∧ True))) ∧ True
set_option maxRecDepth 8000 in
set_option maxHeartbeats 4000000 in
theorem e_M_link_39 (κ : Sg) (a40 a41 a42 a43 a44 a45 a46 a47 a48 a49 a50 : Nat → Int32) (v11 v12 v13 v14 : Int32) (x1 x2 x3 : Int32) (hP : P_M_link x1 x2 x3 a40)  : Ev none 40 (0, [some (vR 39), some (vI x1), some (vI x2), some (vI x3)], [], wd κ (mM a40 a41 a42 a43 a44 a45 a46 a47 a48 a49 a50 v11 v12 v13 v14), (0, 0)) (some (f_M_link x1 x2 x3 a40).1, wd κ (mM (f_M_link x1 x2 x3 a40).2 a41 a42 a43 a44 a45 a46 a47 a48 a49 a50 v11 v12 v13 v14)) := by
  suffices hh : ∀ (r : Option Int32 × AW) (K : (Int32 × (Nat → Int32)) → Prop), K = (fun o : Int32 × (Nat → Int32) => (some o.1, wd κ (mM o.2 a41 a42 a43 a44 a45 a46 a47 a48 a49 a50 v11 v12 v13 v14)) = r) → K (iF ((f_M_isNode x1) = 0) ((-1 : Int32), a40) (iF ((f_M_isNode x2) = 0) ((-1 : Int32), a40) (iF ((f_M_in x3 (0 : Int32) (1 : Int32)) = 0) ((-2 : Int32), a40) (iF (x1 = x2) ((-2 : Int32), a40) ((f_M_links (upd a40 (f_M_pair x1 x2).toNatClampNeg x3)), (upd a40 (f_M_pair x1 x2).toNatClampNeg x3)))))) → Ev none 40 (0, [some (vR 39), some (vI x1), some (vI x2), some (vI x3)], [], wd κ (mM a40 a41 a42 a43 a44 a45 a46 a47 a48 a49 a50 v11 v12 v13 v14), (0, 0)) r from hh _ _ rfl rfl
  intro r K hK k
  refine Ev.go (st' := (1, [some (vR 39), some (vI x1), some (vI x2), some (vI x3)], [vI x1], wd κ (mM a40 a41 a42 a43 a44 a45 a46 a47 a48 a49 a50 v11 v12 v13 v14), (0, 0))) 1 rfl trivial ?_
  refine Ev.callI (a := 26) (As := [vI x1]) [] (f_M_isNode x1) (wd κ (mM a40 a41 a42 a43 a44 a45 a46 a47 a48 a49 a50 v11 v12 v13 v14)) rfl (e_M_isNode (wd κ (mM a40 a41 a42 a43 a44 a45 a46 a47 a48 a49 a50 v11 v12 v13 v14)) x1) ?_
  refine Ev.go (st' := (if (f_M_isNode x1) = 0 then 14 else 7, [some (vR 39), some (vI x1), some (vI x2), some (vI x3)], [], wd κ (mM a40 a41 a42 a43 a44 a45 a46 a47 a48 a49 a50 v11 v12 v13 v14), (0, 0))) 1 rfl trivial ?_
  refine Ev.brK (K := K) k (fun h1 k => ?_) (fun h1 k => ?_)
  · refine Ev.go (st' := (15, [some (vR 39), some (vI x1), some (vI x2), some (vI x3)], [vI (-1 : Int32)], wd κ (mM a40 a41 a42 a43 a44 a45 a46 a47 a48 a49 a50 v11 v12 v13 v14), (0, 0))) 1 rfl trivial ?_
    rw [hK] at k
    have k3 : (some (-1 : Int32), wd κ (mM a40 a41 a42 a43 a44 a45 a46 a47 a48 a49 a50 v11 v12 v13 v14)) = r := k
    rw [← k3]
    exact Ev.ireti rfl rfl
  · refine Ev.go (st' := (8, [some (vR 39), some (vI x1), some (vI x2), some (vI x3)], [vI x2], wd κ (mM a40 a41 a42 a43 a44 a45 a46 a47 a48 a49 a50 v11 v12 v13 v14), (0, 0))) 1 rfl trivial ?_
    refine Ev.callI (a := 26) (As := [vI x2]) [] (f_M_isNode x2) (wd κ (mM a40 a41 a42 a43 a44 a45 a46 a47 a48 a49 a50 v11 v12 v13 v14)) rfl (e_M_isNode (wd κ (mM a40 a41 a42 a43 a44 a45 a46 a47 a48 a49 a50 v11 v12 v13 v14)) x2) ?_
    refine Ev.go (st' := (if (f_M_isNode x2) = 0 then 14 else 16, [some (vR 39), some (vI x1), some (vI x2), some (vI x3)], [], wd κ (mM a40 a41 a42 a43 a44 a45 a46 a47 a48 a49 a50 v11 v12 v13 v14), (0, 0))) 1 rfl trivial ?_
    refine Ev.brK (K := K) k (fun h2 k => ?_) (fun h2 k => ?_)
    · refine Ev.go (st' := (15, [some (vR 39), some (vI x1), some (vI x2), some (vI x3)], [vI (-1 : Int32)], wd κ (mM a40 a41 a42 a43 a44 a45 a46 a47 a48 a49 a50 v11 v12 v13 v14), (0, 0))) 1 rfl trivial ?_
      rw [hK] at k
      have k3 : (some (-1 : Int32), wd κ (mM a40 a41 a42 a43 a44 a45 a46 a47 a48 a49 a50 v11 v12 v13 v14)) = r := k
      rw [← k3]
      exact Ev.ireti rfl rfl
    · refine Ev.go (st' := (19, [some (vR 39), some (vI x1), some (vI x2), some (vI x3)], [vI (1 : Int32), vI (0 : Int32), vI x3], wd κ (mM a40 a41 a42 a43 a44 a45 a46 a47 a48 a49 a50 v11 v12 v13 v14), (0, 0))) 3 rfl trivial ?_
      refine Ev.callI (a := 25) (As := [vI x3, vI (0 : Int32), vI (1 : Int32)]) [] (f_M_in x3 (0 : Int32) (1 : Int32)) (wd κ (mM a40 a41 a42 a43 a44 a45 a46 a47 a48 a49 a50 v11 v12 v13 v14)) rfl (e_M_in (wd κ (mM a40 a41 a42 a43 a44 a45 a46 a47 a48 a49 a50 v11 v12 v13 v14)) x3 (0 : Int32) (1 : Int32)) ?_
      refine Ev.go (st' := (if (f_M_in x3 (0 : Int32) (1 : Int32)) = 0 then 30 else 25, [some (vR 39), some (vI x1), some (vI x2), some (vI x3)], [], wd κ (mM a40 a41 a42 a43 a44 a45 a46 a47 a48 a49 a50 v11 v12 v13 v14), (0, 0))) 1 rfl trivial ?_
      refine Ev.brK (K := K) k (fun h3 k => ?_) (fun h3 k => ?_)
      · refine Ev.go (st' := (32, [some (vR 39), some (vI x1), some (vI x2), some (vI x3)], [vI (-2 : Int32)], wd κ (mM a40 a41 a42 a43 a44 a45 a46 a47 a48 a49 a50 v11 v12 v13 v14), (0, 0))) 1 rfl trivial ?_
        rw [hK] at k
        have k3 : (some (-2 : Int32), wd κ (mM a40 a41 a42 a43 a44 a45 a46 a47 a48 a49 a50 v11 v12 v13 v14)) = r := k
        rw [← k3]
        exact Ev.ireti rfl rfl
      · refine Ev.go (st' := (if x1 = x2 then 30 else 33, [some (vR 39), some (vI x1), some (vI x2), some (vI x3)], [], wd κ (mM a40 a41 a42 a43 a44 a45 a46 a47 a48 a49 a50 v11 v12 v13 v14), (0, 0))) 3 rfl trivial ?_
        refine Ev.brK (K := K) k (fun h4 k => ?_) (fun h4 k => ?_)
        · refine Ev.go (st' := (32, [some (vR 39), some (vI x1), some (vI x2), some (vI x3)], [vI (-2 : Int32)], wd κ (mM a40 a41 a42 a43 a44 a45 a46 a47 a48 a49 a50 v11 v12 v13 v14), (0, 0))) 1 rfl trivial ?_
          rw [hK] at k
          have k3 : (some (-2 : Int32), wd κ (mM a40 a41 a42 a43 a44 a45 a46 a47 a48 a49 a50 v11 v12 v13 v14)) = r := k
          rw [← k3]
          exact Ev.ireti rfl rfl
        · refine Ev.go (st' := (39, [some (vR 39), some (vI x1), some (vI x2), some (vI x3)], [vI x2, vI x1, vR 40], wd κ (mM a40 a41 a42 a43 a44 a45 a46 a47 a48 a49 a50 v11 v12 v13 v14), (0, 0))) 4 rfl trivial ?_
          refine Ev.callI (a := 38) (As := [vI x1, vI x2]) [vR 40] (f_M_pair x1 x2) (wd κ (mM a40 a41 a42 a43 a44 a45 a46 a47 a48 a49 a50 v11 v12 v13 v14)) rfl (e_M_pair (wd κ (mM a40 a41 a42 a43 a44 a45 a46 a47 a48 a49 a50 v11 v12 v13 v14)) x1 x2) ?_
          refine Ev.go (st' := (44, [some (vR 39), some (vI x1), some (vI x2), some (vI x3)], [], wd κ (mM (upd a40 (f_M_pair x1 x2).toNatClampNeg x3) a41 a42 a43 a44 a45 a46 a47 a48 a49 a50 v11 v12 v13 v14), (0, 0))) 2 rfl ⟨((((hP.1.2 h1).1.2 h2).1.2 h3).1.2 h4).1, trivial⟩ ?_
          refine Ev.go (st' := (45, [some (vR 39), some (vI x1), some (vI x2), some (vI x3)], [vR 39], wd κ (mM (upd a40 (f_M_pair x1 x2).toNatClampNeg x3) a41 a42 a43 a44 a45 a46 a47 a48 a49 a50 v11 v12 v13 v14), (0, 0))) 1 rfl trivial ?_
          refine Ev.callI (a := 39) (As := [vR 39]) [] (f_M_links (upd a40 (f_M_pair x1 x2).toNatClampNeg x3)) (wd κ (mM (upd a40 (f_M_pair x1 x2).toNatClampNeg x3) a41 a42 a43 a44 a45 a46 a47 a48 a49 a50 v11 v12 v13 v14)) rfl (e_M_links_39 κ (upd a40 (f_M_pair x1 x2).toNatClampNeg x3) a41 a42 a43 a44 a45 a46 a47 a48 a49 a50 v11 v12 v13 v14 ((((hP.1.2 h1).1.2 h2).1.2 h3).1.2 h4).2.1) ?_
          rw [hK] at k
          have k3 : (some (f_M_links (upd a40 (f_M_pair x1 x2).toNatClampNeg x3)), wd κ (mM (upd a40 (f_M_pair x1 x2).toNatClampNeg x3) a41 a42 a43 a44 a45 a46 a47 a48 a49 a50 v11 v12 v13 v14)) = r := k
          rw [← k3]
          exact Ev.ireti rfl rfl

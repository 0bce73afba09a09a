/-! OF MeshNamesModel.down(I)I -/
noncomputable def f_M_down (x1 : Int32) (state_ : Nat → Int32) : Int32 × (Nat → Int32) := (iF ((f_M_isNode x1) = 0) ((-1 : Int32), state_) (iF ((f_M_isUp x1 state_) = 0) ((-3 : Int32), state_) ((state_ ((8 : Int32) + x1).toNatClampNeg), (upd (upd state_ ((0 : Int32) + x1).toNatClampNeg (0 : Int32)) ((8 : Int32) + x1).toNatClampNeg (0 : Int32)))))
def P_M_down (x1 : Int32) (state_ : Nat → Int32) : Prop := (((f_M_isNode x1) = 0 → True) ∧ (¬ ((f_M_isNode x1) = 0) → ((P_M_isUp x1 state_) ∧ (((f_M_isUp x1 state_) = 0 → True) ∧ (¬ ((f_M_isUp x1 state_) = 0) → (vp_in ((8 : Int32) + x1) 80 ∧ vp_in ((0 : Int32) + x1) 80 ∧ vp_in ((8 : Int32) + x1) 80 ∧ True))) ∧ True))) ∧ True
set_option maxRecDepth 8000 in
set_option maxHeartbeats 4000000 in
theorem e_M_down_39 (κ : Sg) (a40 a41 a42 a43 a44 a45 a46 a47 a48 a49 a50 : Nat → Int32) (v11 v12 v13 v14 : Int32) (x1 : Int32) (hP : P_M_down x1 a40)  : Ev none 34 (0, [some (vR 39), some (vI x1), none], [], wd κ (mM a40 a41 a42 a43 a44 a45 a46 a47 a48 a49 a50 v11 v12 v13 v14), (0, 0)) (some (f_M_down x1 a40).1, wd κ (mM (f_M_down x1 a40).2 a41 a42 a43 a44 a45 a46 a47 a48 a49 a50 v11 v12 v13 v14)) := by
  suffices hh : ∀ (r : Option Int32 × AW) (K : (Int32 × (Nat → Int32)) → Prop), K = (fun o : Int32 × (Nat → Int32) => (some o.1, wd κ (mM o.2 a41 a42 a43 a44 a45 a46 a47 a48 a49 a50 v11 v12 v13 v14)) = r) → K (iF ((f_M_isNode x1) = 0) ((-1 : Int32), a40) (iF ((f_M_isUp x1 a40) = 0) ((-3 : Int32), a40) ((a40 ((8 : Int32) + x1).toNatClampNeg), (upd (upd a40 ((0 : Int32) + x1).toNatClampNeg (0 : Int32)) ((8 : Int32) + x1).toNatClampNeg (0 : Int32))))) → Ev none 34 (0, [some (vR 39), some (vI x1), none], [], wd κ (mM a40 a41 a42 a43 a44 a45 a46 a47 a48 a49 a50 v11 v12 v13 v14), (0, 0)) r from hh _ _ rfl rfl
  intro r K hK k
  refine Ev.go (st' := (1, [some (vR 39), some (vI x1), none], [vI x1], wd κ (mM a40 a41 a42 a43 a44 a45 a46 a47 a48 a49 a50 v11 v12 v13 v14), (0, 0))) 1 rfl trivial ?_
  refine Ev.callI (a := 26) (As := [vI x1]) [] (f_M_isNode x1) (wd κ (mM a40 a41 a42 a43 a44 a45 a46 a47 a48 a49 a50 v11 v12 v13 v14)) rfl (e_M_isNode (wd κ (mM a40 a41 a42 a43 a44 a45 a46 a47 a48 a49 a50 v11 v12 v13 v14)) x1) ?_
  refine Ev.go (st' := (if (f_M_isNode x1) = 0 then 7 else 9, [some (vR 39), some (vI x1), none], [], wd κ (mM a40 a41 a42 a43 a44 a45 a46 a47 a48 a49 a50 v11 v12 v13 v14), (0, 0))) 1 rfl trivial ?_
  refine Ev.brK (K := K) k (fun h1 k => ?_) (fun h1 k => ?_)
  · refine Ev.go (st' := (8, [some (vR 39), some (vI x1), none], [vI (-1 : Int32)], wd κ (mM a40 a41 a42 a43 a44 a45 a46 a47 a48 a49 a50 v11 v12 v13 v14), (0, 0))) 1 rfl trivial ?_
    rw [hK] at k
    have k3 : (some (-1 : Int32), wd κ (mM a40 a41 a42 a43 a44 a45 a46 a47 a48 a49 a50 v11 v12 v13 v14)) = r := k
    rw [← k3]
    exact Ev.ireti rfl rfl
  · refine Ev.go (st' := (11, [some (vR 39), some (vI x1), none], [vI x1, vR 39], wd κ (mM a40 a41 a42 a43 a44 a45 a46 a47 a48 a49 a50 v11 v12 v13 v14), (0, 0))) 2 rfl trivial ?_
    refine Ev.callI (a := 28) (As := [vR 39, vI x1]) [] (f_M_isUp x1 a40) (wd κ (mM a40 a41 a42 a43 a44 a45 a46 a47 a48 a49 a50 v11 v12 v13 v14)) rfl (e_M_isUp_39 κ a40 a41 a42 a43 a44 a45 a46 a47 a48 a49 a50 v11 v12 v13 v14 x1 (hP.1.2 h1).1) ?_
    refine Ev.go (st' := (if (f_M_isUp x1 a40) = 0 then 17 else 20, [some (vR 39), some (vI x1), none], [], wd κ (mM a40 a41 a42 a43 a44 a45 a46 a47 a48 a49 a50 v11 v12 v13 v14), (0, 0))) 1 rfl trivial ?_
    refine Ev.brK (K := K) k (fun h2 k => ?_) (fun h2 k => ?_)
    · refine Ev.go (st' := (19, [some (vR 39), some (vI x1), none], [vI (-3 : Int32)], wd κ (mM a40 a41 a42 a43 a44 a45 a46 a47 a48 a49 a50 v11 v12 v13 v14), (0, 0))) 1 rfl trivial ?_
      rw [hK] at k
      have k3 : (some (-3 : Int32), wd κ (mM a40 a41 a42 a43 a44 a45 a46 a47 a48 a49 a50 v11 v12 v13 v14)) = r := k
      rw [← k3]
      exact Ev.ireti rfl rfl
    · refine Ev.go (st' := (39, [some (vR 39), some (vI x1), some (vI (a40 ((8 : Int32) + x1).toNatClampNeg))], [], wd κ (mM (upd a40 ((0 : Int32) + x1).toNatClampNeg (0 : Int32)) a41 a42 a43 a44 a45 a46 a47 a48 a49 a50 v11 v12 v13 v14), (0, 0))) 14 rfl ⟨((hP.1.2 h1).2.1.2 h2).1, ((hP.1.2 h1).2.1.2 h2).2.1, trivial⟩ ?_
      refine Ev.go (st' := (49, [some (vR 39), some (vI x1), some (vI (a40 ((8 : Int32) + x1).toNatClampNeg))], [], wd κ (mM (upd (upd a40 ((0 : Int32) + x1).toNatClampNeg (0 : Int32)) ((8 : Int32) + x1).toNatClampNeg (0 : Int32)) a41 a42 a43 a44 a45 a46 a47 a48 a49 a50 v11 v12 v13 v14), (0, 0))) 7 rfl ⟨((hP.1.2 h1).2.1.2 h2).2.2.1, trivial⟩ ?_
      refine Ev.go (st' := (50, [some (vR 39), some (vI x1), some (vI (a40 ((8 : Int32) + x1).toNatClampNeg))], [vI (a40 ((8 : Int32) + x1).toNatClampNeg)], wd κ (mM (upd (upd a40 ((0 : Int32) + x1).toNatClampNeg (0 : Int32)) ((8 : Int32) + x1).toNatClampNeg (0 : Int32)) a41 a42 a43 a44 a45 a46 a47 a48 a49 a50 v11 v12 v13 v14), (0, 0))) 1 rfl trivial ?_
      rw [hK] at k
      have k3 : (some (a40 ((8 : Int32) + x1).toNatClampNeg), wd κ (mM (upd (upd a40 ((0 : Int32) + x1).toNatClampNeg (0 : Int32)) ((8 : Int32) + x1).toNatClampNeg (0 : Int32)) a41 a42 a43 a44 a45 a46 a47 a48 a49 a50 v11 v12 v13 v14)) = r := k
      rw [← k3]
      exact Ev.ireti rfl rfl

/-! OF MeshNamesModel.up(II)I -/
noncomputable def f_M_up (x1 : Int32) (x2 : Int32) (state_ : Nat → Int32) : Int32 × (Nat → Int32) := (iF ((f_M_isNode x1) = 0) ((-1 : Int32), state_) (iF ((f_M_isName x2) = 0) ((-2 : Int32), state_) (iF ((f_M_isUp x1 state_) = 0) (iF ((f_M_isTaken x2 state_) = 0) ((f_M_ups (upd (upd state_ ((0 : Int32) + x1).toNatClampNeg (1 : Int32)) ((8 : Int32) + x1).toNatClampNeg x2)), (upd (upd state_ ((0 : Int32) + x1).toNatClampNeg (1 : Int32)) ((8 : Int32) + x1).toNatClampNeg x2)) ((-5 : Int32), state_)) ((-3 : Int32), state_))))
def P_M_up (x1 : Int32) (x2 : Int32) (state_ : Nat → Int32) : Prop := (((f_M_isNode x1) = 0 → True) ∧ (¬ ((f_M_isNode x1) = 0) → ((((f_M_isName x2) = 0 → True) ∧ (¬ ((f_M_isName x2) = 0) → ((P_M_isUp x1 state_) ∧ (((f_M_isUp x1 state_) = 0 → ((P_M_isTaken x2 state_) ∧ (((f_M_isTaken x2 state_) = 0 → (vp_in ((0 : Int32) + x1) 80 ∧ vp_in ((8 : Int32) + x1) 80 ∧ (P_M_ups (upd (upd state_ ((0 : Int32) + x1).toNatClampNeg (1 : Int32)) ((8 : Int32) + x1).toNatClampNeg x2)) ∧ True)) ∧ (¬ ((f_M_isTaken x2 state_) = 0) → True)) ∧ True)) ∧ (¬ ((f_M_isUp x1 state_) = 0) → True)) ∧ True))) ∧ True))) ∧ True
set_option maxRecDepth 8000 in
set_option maxHeartbeats 4000000 in
theorem e_M_up_39 (κ : Sg) (a40 a41 a42 a43 a44 a45 a46 a47 a48 a49 a50 : Nat → Int32) (v11 v12 v13 v14 : Int32) (x1 x2 : Int32) (hP : P_M_up x1 x2 a40)  : Ev none 31 (0, [some (vR 39), some (vI x1), some (vI x2)], [], wd κ (mM a40 a41 a42 a43 a44 a45 a46 a47 a48 a49 a50 v11 v12 v13 v14), (0, 0)) (some (f_M_up x1 x2 a40).1, wd κ (mM (f_M_up x1 x2 a40).2 a41 a42 a43 a44 a45 a46 a47 a48 a49 a50 v11 v12 v13 v14)) := by
  suffices hh : ∀ (r : Option Int32 × AW) (K : (Int32 × (Nat → Int32)) → Prop), K = (fun o : Int32 × (Nat → Int32) => (some o.1, wd κ (mM o.2 a41 a42 a43 a44 a45 a46 a47 a48 a49 a50 v11 v12 v13 v14)) = r) → K (iF ((f_M_isNode x1) = 0) ((-1 : Int32), a40) (iF ((f_M_isName x2) = 0) ((-2 : Int32), a40) (iF ((f_M_isUp x1 a40) = 0) (iF ((f_M_isTaken x2 a40) = 0) ((f_M_ups (upd (upd a40 ((0 : Int32) + x1).toNatClampNeg (1 : Int32)) ((8 : Int32) + x1).toNatClampNeg x2)), (upd (upd a40 ((0 : Int32) + x1).toNatClampNeg (1 : Int32)) ((8 : Int32) + x1).toNatClampNeg x2)) ((-5 : Int32), a40)) ((-3 : Int32), a40)))) → Ev none 31 (0, [some (vR 39), some (vI x1), some (vI x2)], [], wd κ (mM a40 a41 a42 a43 a44 a45 a46 a47 a48 a49 a50 v11 v12 v13 v14), (0, 0)) r from hh _ _ rfl rfl
  intro r K hK k
  refine Ev.go (st' := (1, [some (vR 39), some (vI x1), some (vI x2)], [vI x1], wd κ (mM a40 a41 a42 a43 a44 a45 a46 a47 a48 a49 a50 v11 v12 v13 v14), (0, 0))) 1 rfl trivial ?_
  refine Ev.callI (a := 26) (As := [vI x1]) [] (f_M_isNode x1) (wd κ (mM a40 a41 a42 a43 a44 a45 a46 a47 a48 a49 a50 v11 v12 v13 v14)) rfl (e_M_isNode (wd κ (mM a40 a41 a42 a43 a44 a45 a46 a47 a48 a49 a50 v11 v12 v13 v14)) x1) ?_
  refine Ev.go (st' := (if (f_M_isNode x1) = 0 then 7 else 9, [some (vR 39), some (vI x1), some (vI x2)], [], wd κ (mM a40 a41 a42 a43 a44 a45 a46 a47 a48 a49 a50 v11 v12 v13 v14), (0, 0))) 1 rfl trivial ?_
  refine Ev.brK (K := K) k (fun h1 k => ?_) (fun h1 k => ?_)
  · refine Ev.go (st' := (8, [some (vR 39), some (vI x1), some (vI x2)], [vI (-1 : Int32)], wd κ (mM a40 a41 a42 a43 a44 a45 a46 a47 a48 a49 a50 v11 v12 v13 v14), (0, 0))) 1 rfl trivial ?_
    rw [hK] at k
    have k3 : (some (-1 : Int32), wd κ (mM a40 a41 a42 a43 a44 a45 a46 a47 a48 a49 a50 v11 v12 v13 v14)) = r := k
    rw [← k3]
    exact Ev.ireti rfl rfl
  · refine Ev.go (st' := (10, [some (vR 39), some (vI x1), some (vI x2)], [vI x2], wd κ (mM a40 a41 a42 a43 a44 a45 a46 a47 a48 a49 a50 v11 v12 v13 v14), (0, 0))) 1 rfl trivial ?_
    refine Ev.callI (a := 27) (As := [vI x2]) [] (f_M_isName x2) (wd κ (mM a40 a41 a42 a43 a44 a45 a46 a47 a48 a49 a50 v11 v12 v13 v14)) rfl (e_M_isName (wd κ (mM a40 a41 a42 a43 a44 a45 a46 a47 a48 a49 a50 v11 v12 v13 v14)) x2) ?_
    refine Ev.go (st' := (if (f_M_isName x2) = 0 then 16 else 19, [some (vR 39), some (vI x1), some (vI x2)], [], wd κ (mM a40 a41 a42 a43 a44 a45 a46 a47 a48 a49 a50 v11 v12 v13 v14), (0, 0))) 1 rfl trivial ?_
    refine Ev.brK (K := K) k (fun h2 k => ?_) (fun h2 k => ?_)
    · refine Ev.go (st' := (18, [some (vR 39), some (vI x1), some (vI x2)], [vI (-2 : Int32)], wd κ (mM a40 a41 a42 a43 a44 a45 a46 a47 a48 a49 a50 v11 v12 v13 v14), (0, 0))) 1 rfl trivial ?_
      rw [hK] at k
      have k3 : (some (-2 : Int32), wd κ (mM a40 a41 a42 a43 a44 a45 a46 a47 a48 a49 a50 v11 v12 v13 v14)) = r := k
      rw [← k3]
      exact Ev.ireti rfl rfl
    · refine Ev.go (st' := (21, [some (vR 39), some (vI x1), some (vI x2)], [vI x1, vR 39], wd κ (mM a40 a41 a42 a43 a44 a45 a46 a47 a48 a49 a50 v11 v12 v13 v14), (0, 0))) 2 rfl trivial ?_
      refine Ev.callI (a := 28) (As := [vR 39, vI x1]) [] (f_M_isUp x1 a40) (wd κ (mM a40 a41 a42 a43 a44 a45 a46 a47 a48 a49 a50 v11 v12 v13 v14)) rfl (e_M_isUp_39 κ a40 a41 a42 a43 a44 a45 a46 a47 a48 a49 a50 v11 v12 v13 v14 x1 ((hP.1.2 h1).1.2 h2).1) ?_
      refine Ev.go (st' := (if (f_M_isUp x1 a40) = 0 then 30 else 27, [some (vR 39), some (vI x1), some (vI x2)], [], wd κ (mM a40 a41 a42 a43 a44 a45 a46 a47 a48 a49 a50 v11 v12 v13 v14), (0, 0))) 1 rfl trivial ?_
      refine Ev.brK (K := K) k (fun h3 k => ?_) (fun h3 k => ?_)
      · refine Ev.go (st' := (32, [some (vR 39), some (vI x1), some (vI x2)], [vI x2, vR 39], wd κ (mM a40 a41 a42 a43 a44 a45 a46 a47 a48 a49 a50 v11 v12 v13 v14), (0, 0))) 2 rfl trivial ?_
        refine Ev.callI (a := 29) (As := [vR 39, vI x2]) [] (f_M_isTaken x2 a40) (wd κ (mM a40 a41 a42 a43 a44 a45 a46 a47 a48 a49 a50 v11 v12 v13 v14)) rfl (e_M_isTaken_39 κ a40 a41 a42 a43 a44 a45 a46 a47 a48 a49 a50 v11 v12 v13 v14 x2 (((hP.1.2 h1).1.2 h2).2.1.1 h3).1) ?_
        refine Ev.go (st' := (if (f_M_isTaken x2 a40) = 0 then 41 else 38, [some (vR 39), some (vI x1), some (vI x2)], [], wd κ (mM a40 a41 a42 a43 a44 a45 a46 a47 a48 a49 a50 v11 v12 v13 v14), (0, 0))) 1 rfl trivial ?_
        refine Ev.brK (K := K) k (fun h4 k => ?_) (fun h4 k => ?_)
        · refine Ev.go (st' := (50, [some (vR 39), some (vI x1), some (vI x2)], [], wd κ (mM (upd a40 ((0 : Int32) + x1).toNatClampNeg (1 : Int32)) a41 a42 a43 a44 a45 a46 a47 a48 a49 a50 v11 v12 v13 v14), (0, 0))) 7 rfl ⟨((((hP.1.2 h1).1.2 h2).2.1.1 h3).2.1.1 h4).1, trivial⟩ ?_
          refine Ev.go (st' := (60, [some (vR 39), some (vI x1), some (vI x2)], [], wd κ (mM (upd (upd a40 ((0 : Int32) + x1).toNatClampNeg (1 : Int32)) ((8 : Int32) + x1).toNatClampNeg x2) a41 a42 a43 a44 a45 a46 a47 a48 a49 a50 v11 v12 v13 v14), (0, 0))) 7 rfl ⟨((((hP.1.2 h1).1.2 h2).2.1.1 h3).2.1.1 h4).2.1, trivial⟩ ?_
          refine Ev.go (st' := (61, [some (vR 39), some (vI x1), some (vI x2)], [vR 39], wd κ (mM (upd (upd a40 ((0 : Int32) + x1).toNatClampNeg (1 : Int32)) ((8 : Int32) + x1).toNatClampNeg x2) a41 a42 a43 a44 a45 a46 a47 a48 a49 a50 v11 v12 v13 v14), (0, 0))) 1 rfl trivial ?_
          refine Ev.callI (a := 30) (As := [vR 39]) [] (f_M_ups (upd (upd a40 ((0 : Int32) + x1).toNatClampNeg (1 : Int32)) ((8 : Int32) + x1).toNatClampNeg x2)) (wd κ (mM (upd (upd a40 ((0 : Int32) + x1).toNatClampNeg (1 : Int32)) ((8 : Int32) + x1).toNatClampNeg x2) a41 a42 a43 a44 a45 a46 a47 a48 a49 a50 v11 v12 v13 v14)) rfl (e_M_ups_39 κ (upd (upd a40 ((0 : Int32) + x1).toNatClampNeg (1 : Int32)) ((8 : Int32) + x1).toNatClampNeg x2) a41 a42 a43 a44 a45 a46 a47 a48 a49 a50 v11 v12 v13 v14 ((((hP.1.2 h1).1.2 h2).2.1.1 h3).2.1.1 h4).2.2.1) ?_
          rw [hK] at k
          have k3 : (some (f_M_ups (upd (upd a40 ((0 : Int32) + x1).toNatClampNeg (1 : Int32)) ((8 : Int32) + x1).toNatClampNeg x2)), wd κ (mM (upd (upd a40 ((0 : Int32) + x1).toNatClampNeg (1 : Int32)) ((8 : Int32) + x1).toNatClampNeg x2) a41 a42 a43 a44 a45 a46 a47 a48 a49 a50 v11 v12 v13 v14)) = r := k
          rw [← k3]
          exact Ev.ireti rfl rfl
        · refine Ev.go (st' := (40, [some (vR 39), some (vI x1), some (vI x2)], [vI (-5 : Int32)], wd κ (mM a40 a41 a42 a43 a44 a45 a46 a47 a48 a49 a50 v11 v12 v13 v14), (0, 0))) 1 rfl trivial ?_
          rw [hK] at k
          have k3 : (some (-5 : Int32), wd κ (mM a40 a41 a42 a43 a44 a45 a46 a47 a48 a49 a50 v11 v12 v13 v14)) = r := k
          rw [← k3]
          exact Ev.ireti rfl rfl
      · refine Ev.go (st' := (29, [some (vR 39), some (vI x1), some (vI x2)], [vI (-3 : Int32)], wd κ (mM a40 a41 a42 a43 a44 a45 a46 a47 a48 a49 a50 v11 v12 v13 v14), (0, 0))) 1 rfl trivial ?_
        rw [hK] at k
        have k3 : (some (-3 : Int32), wd κ (mM a40 a41 a42 a43 a44 a45 a46 a47 a48 a49 a50 v11 v12 v13 v14)) = r := k
        rw [← k3]
        exact Ev.ireti rfl rfl

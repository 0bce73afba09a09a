/-! OF MeshNamesModel.of(II)I -/
noncomputable def f_M_of (x1 : Int32) (x2 : Int32) (steps : Nat → Int32) (next_ : Nat → Int32) (row : Nat → Int32) (rowMany : Nat → Int32) (state_ : Nat → Int32) : Int32 × (Nat → Int32) × (Nat → Int32) × (Nat → Int32) × (Nat → Int32) := (iF ((f_M_isNode x1) = 0) ((-1 : Int32), steps, next_, row, rowMany) (iF ((f_M_in x2 (0 : Int32) (6 : Int32)) = 0) ((-2 : Int32), steps, next_, row, rowMany) (iF ((f_M_isUp x1 state_) = 0) ((-3 : Int32), steps, next_, row, rowMany) (iF (x2 = (0 : Int32)) ((state_ ((8 : Int32) + x1).toNatClampNeg), (f_M_layPaths state_ steps next_ row rowMany).1, (f_M_layPaths state_ steps next_ row rowMany).2.1, (f_M_layPaths state_ steps next_ row rowMany).2.2.1, (f_M_layPaths state_ steps next_ row rowMany).2.2.2) (iF (x2 = (1 : Int32)) ((f_M_partOf x1 (f_M_layPaths state_ steps next_ row rowMany).1), (f_M_layPaths state_ steps next_ row rowMany).1, (f_M_layPaths state_ steps next_ row rowMany).2.1, (f_M_layPaths state_ steps next_ row rowMany).2.2.1, (f_M_layPaths state_ steps next_ row rowMany).2.2.2) (iF (x2 = (2 : Int32)) (((f_M_layPaths state_ steps next_ row rowMany).2.1 x1.toNatClampNeg), (f_M_layPaths state_ steps next_ row rowMany).1, (f_M_layPaths state_ steps next_ row rowMany).2.1, (f_M_layPaths state_ steps next_ row rowMany).2.2.1, (f_M_layPaths state_ steps next_ row rowMany).2.2.2) (iF (x2 = (3 : Int32)) ((f_M_beforeOf x1 (f_M_layPaths state_ steps next_ row rowMany).2.1), (f_M_layPaths state_ steps next_ row rowMany).1, (f_M_layPaths state_ steps next_ row rowMany).2.1, (f_M_layPaths state_ steps next_ row rowMany).2.2.1, (f_M_layPaths state_ steps next_ row rowMany).2.2.2) (iF (x2 = (4 : Int32)) ((f_M_linksOf x1 state_), (f_M_layPaths state_ steps next_ row rowMany).1, (f_M_layPaths state_ steps next_ row rowMany).2.1, (f_M_layPaths state_ steps next_ row rowMany).2.2.1, (f_M_layPaths state_ steps next_ row rowMany).2.2.2) (iF (x2 = (5 : Int32)) ((f_M_pathsOver x1 (f_M_layPaths state_ steps next_ row rowMany).2.2.2 (f_M_layPaths state_ steps next_ row rowMany).2.2.1), (f_M_layPaths state_ steps next_ row rowMany).1, (f_M_layPaths state_ steps next_ row rowMany).2.1, (f_M_layPaths state_ steps next_ row rowMany).2.2.1, (f_M_layPaths state_ steps next_ row rowMany).2.2.2) ((f_M_size ((f_M_knownAt x1 (f_M_layPaths state_ steps next_ row rowMany).2.2.2 (f_M_layPaths state_ steps next_ row rowMany).2.2.1 (f_M_layPaths state_ steps next_ row rowMany).2.1) &&& (((1 : Int32) <<< (x1 &&& 31)) ^^^ (-1 : Int32)))), (f_M_layPaths state_ steps next_ row rowMany).1, (f_M_layPaths state_ steps next_ row rowMany).2.1, (f_M_layPaths state_ steps next_ row rowMany).2.2.1, (f_M_layPaths state_ steps next_ row rowMany).2.2.2))))))))))
def P_M_of (x1 : Int32) (x2 : Int32) (steps : Nat → Int32) (next_ : Nat → Int32) (row : Nat → Int32) (rowMany : Nat → Int32) (state_ : Nat → Int32) : Prop := (((f_M_isNode x1) = 0 → True) ∧ (¬ ((f_M_isNode x1) = 0) → ((((f_M_in x2 (0 : Int32) (6 : Int32)) = 0 → True) ∧ (¬ ((f_M_in x2 (0 : Int32) (6 : Int32)) = 0) → ((P_M_isUp x1 state_) ∧ (((f_M_isUp x1 state_) = 0 → True) ∧ (¬ ((f_M_isUp x1 state_) = 0) → ((P_M_layPaths state_ steps next_ row rowMany) ∧ ((x2 = (0 : Int32) → (vp_in ((8 : Int32) + x1) 80 ∧ True)) ∧ (¬ (x2 = (0 : Int32)) → (((x2 = (1 : Int32) → ((P_M_partOf x1 (f_M_layPaths state_ steps next_ row rowMany).1) ∧ True)) ∧ (¬ (x2 = (1 : Int32)) → (((x2 = (2 : Int32) → (vp_in x1 8 ∧ True)) ∧ (¬ (x2 = (2 : Int32)) → (((x2 = (3 : Int32) → True) ∧ (¬ (x2 = (3 : Int32)) → (((x2 = (4 : Int32) → ((P_M_linksOf x1 state_) ∧ True)) ∧ (¬ (x2 = (4 : Int32)) → (((x2 = (5 : Int32) → ((P_M_pathsOver x1 (f_M_layPaths state_ steps next_ row rowMany).2.2.2 (f_M_layPaths state_ steps next_ row rowMany).2.2.1) ∧ True)) ∧ (¬ (x2 = (5 : Int32)) → ((P_M_knownAt x1 (f_M_layPaths state_ steps next_ row rowMany).2.2.2 (f_M_layPaths state_ steps next_ row rowMany).2.2.1 (f_M_layPaths state_ steps next_ row rowMany).2.1) ∧ True))) ∧ True))) ∧ True))) ∧ True))) ∧ True))) ∧ True))) ∧ True))) ∧ True))) ∧ True))) ∧ True
set_option maxRecDepth 8000 in
set_option maxHeartbeats 4000000 in
theorem e_M_of_39 (κ : Sg) (a40 a41 a42 a43 a44 a45 a46 a47 a48 a49 a50 : Nat → Int32) (v11 v12 v13 v14 : Int32) (x1 x2 : Int32) (hP : P_M_of x1 x2 a43 a44 a45 a46 a40)  : Ev none 63 (0, [some (vR 39), some (vI x1), some (vI x2)], [], wd κ (mM a40 a41 a42 a43 a44 a45 a46 a47 a48 a49 a50 v11 v12 v13 v14), (0, 0)) (some (f_M_of x1 x2 a43 a44 a45 a46 a40).1, wd κ (mM a40 a41 a42 (f_M_of x1 x2 a43 a44 a45 a46 a40).2.1 (f_M_of x1 x2 a43 a44 a45 a46 a40).2.2.1 (f_M_of x1 x2 a43 a44 a45 a46 a40).2.2.2.1 (f_M_of x1 x2 a43 a44 a45 a46 a40).2.2.2.2 a47 a48 a49 a50 v11 v12 v13 v14)) := by
  suffices hh : ∀ (r : Option Int32 × AW) (K : (Int32 × (Nat → Int32) × (Nat → Int32) × (Nat → Int32) × (Nat → Int32)) → Prop), K = (fun o : Int32 × (Nat → Int32) × (Nat → Int32) × (Nat → Int32) × (Nat → Int32) => (some o.1, wd κ (mM a40 a41 a42 o.2.1 o.2.2.1 o.2.2.2.1 o.2.2.2.2 a47 a48 a49 a50 v11 v12 v13 v14)) = r) → K (iF ((f_M_isNode x1) = 0) ((-1 : Int32), a43, a44, a45, a46) (iF ((f_M_in x2 (0 : Int32) (6 : Int32)) = 0) ((-2 : Int32), a43, a44, a45, a46) (iF ((f_M_isUp x1 a40) = 0) ((-3 : Int32), a43, a44, a45, a46) (iF (x2 = (0 : Int32)) ((a40 ((8 : Int32) + x1).toNatClampNeg), (f_M_layPaths a40 a43 a44 a45 a46).1, (f_M_layPaths a40 a43 a44 a45 a46).2.1, (f_M_layPaths a40 a43 a44 a45 a46).2.2.1, (f_M_layPaths a40 a43 a44 a45 a46).2.2.2) (iF (x2 = (1 : Int32)) ((f_M_partOf x1 (f_M_layPaths a40 a43 a44 a45 a46).1), (f_M_layPaths a40 a43 a44 a45 a46).1, (f_M_layPaths a40 a43 a44 a45 a46).2.1, (f_M_layPaths a40 a43 a44 a45 a46).2.2.1, (f_M_layPaths a40 a43 a44 a45 a46).2.2.2) (iF (x2 = (2 : Int32)) (((f_M_layPaths a40 a43 a44 a45 a46).2.1 x1.toNatClampNeg), (f_M_layPaths a40 a43 a44 a45 a46).1, (f_M_layPaths a40 a43 a44 a45 a46).2.1, (f_M_layPaths a40 a43 a44 a45 a46).2.2.1, (f_M_layPaths a40 a43 a44 a45 a46).2.2.2) (iF (x2 = (3 : Int32)) ((f_M_beforeOf x1 (f_M_layPaths a40 a43 a44 a45 a46).2.1), (f_M_layPaths a40 a43 a44 a45 a46).1, (f_M_layPaths a40 a43 a44 a45 a46).2.1, (f_M_layPaths a40 a43 a44 a45 a46).2.2.1, (f_M_layPaths a40 a43 a44 a45 a46).2.2.2) (iF (x2 = (4 : Int32)) ((f_M_linksOf x1 a40), (f_M_layPaths a40 a43 a44 a45 a46).1, (f_M_layPaths a40 a43 a44 a45 a46).2.1, (f_M_layPaths a40 a43 a44 a45 a46).2.2.1, (f_M_layPaths a40 a43 a44 a45 a46).2.2.2) (iF (x2 = (5 : Int32)) ((f_M_pathsOver x1 (f_M_layPaths a40 a43 a44 a45 a46).2.2.2 (f_M_layPaths a40 a43 a44 a45 a46).2.2.1), (f_M_layPaths a40 a43 a44 a45 a46).1, (f_M_layPaths a40 a43 a44 a45 a46).2.1, (f_M_layPaths a40 a43 a44 a45 a46).2.2.1, (f_M_layPaths a40 a43 a44 a45 a46).2.2.2) ((f_M_size ((f_M_knownAt x1 (f_M_layPaths a40 a43 a44 a45 a46).2.2.2 (f_M_layPaths a40 a43 a44 a45 a46).2.2.1 (f_M_layPaths a40 a43 a44 a45 a46).2.1) &&& (((1 : Int32) <<< (x1 &&& 31)) ^^^ (-1 : Int32)))), (f_M_layPaths a40 a43 a44 a45 a46).1, (f_M_layPaths a40 a43 a44 a45 a46).2.1, (f_M_layPaths a40 a43 a44 a45 a46).2.2.1, (f_M_layPaths a40 a43 a44 a45 a46).2.2.2)))))))))) → Ev none 63 (0, [some (vR 39), some (vI x1), some (vI x2)], [], wd κ (mM a40 a41 a42 a43 a44 a45 a46 a47 a48 a49 a50 v11 v12 v13 v14), (0, 0)) r from hh _ _ rfl rfl
  intro r K hK k
  refine Ev.go (st' := (1, [some (vR 39), some (vI x1), some (vI x2)], [vI x1], wd κ (mM a40 a41 a42 a43 a44 a45 a46 a47 a48 a49 a50 v11 v12 v13 v14), (0, 0))) 1 rfl trivial ?_
  refine Ev.callI (a := 26) (As := [vI x1]) [] (f_M_isNode x1) (wd κ (mM a40 a41 a42 a43 a44 a45 a46 a47 a48 a49 a50 v11 v12 v13 v14)) rfl (e_M_isNode (wd κ (mM a40 a41 a42 a43 a44 a45 a46 a47 a48 a49 a50 v11 v12 v13 v14)) x1) ?_
  refine Ev.go (st' := (if (f_M_isNode x1) = 0 then 7 else 9, [some (vR 39), some (vI x1), some (vI x2)], [], wd κ (mM a40 a41 a42 a43 a44 a45 a46 a47 a48 a49 a50 v11 v12 v13 v14), (0, 0))) 1 rfl trivial ?_
  refine Ev.brK (K := K) k (fun h1 k => ?_) (fun h1 k => ?_)
  · refine Ev.go (st' := (8, [some (vR 39), some (vI x1), some (vI x2)], [vI (-1 : Int32)], wd κ (mM a40 a41 a42 a43 a44 a45 a46 a47 a48 a49 a50 v11 v12 v13 v14), (0, 0))) 1 rfl trivial ?_
    rw [hK] at k
    have k3 : (some (-1 : Int32), wd κ (mM a40 a41 a42 a43 a44 a45 a46 a47 a48 a49 a50 v11 v12 v13 v14)) = r := k
    rw [← k3]
    exact Ev.ireti rfl rfl
  · refine Ev.go (st' := (13, [some (vR 39), some (vI x1), some (vI x2)], [vI (6 : Int32), vI (0 : Int32), vI x2], wd κ (mM a40 a41 a42 a43 a44 a45 a46 a47 a48 a49 a50 v11 v12 v13 v14), (0, 0))) 3 rfl trivial ?_
    refine Ev.callI (a := 25) (As := [vI x2, vI (0 : Int32), vI (6 : Int32)]) [] (f_M_in x2 (0 : Int32) (6 : Int32)) (wd κ (mM a40 a41 a42 a43 a44 a45 a46 a47 a48 a49 a50 v11 v12 v13 v14)) rfl (e_M_in (wd κ (mM a40 a41 a42 a43 a44 a45 a46 a47 a48 a49 a50 v11 v12 v13 v14)) x2 (0 : Int32) (6 : Int32)) ?_
    refine Ev.go (st' := (if (f_M_in x2 (0 : Int32) (6 : Int32)) = 0 then 19 else 22, [some (vR 39), some (vI x1), some (vI x2)], [], wd κ (mM a40 a41 a42 a43 a44 a45 a46 a47 a48 a49 a50 v11 v12 v13 v14), (0, 0))) 1 rfl trivial ?_
    refine Ev.brK (K := K) k (fun h2 k => ?_) (fun h2 k => ?_)
    · refine Ev.go (st' := (21, [some (vR 39), some (vI x1), some (vI x2)], [vI (-2 : Int32)], wd κ (mM a40 a41 a42 a43 a44 a45 a46 a47 a48 a49 a50 v11 v12 v13 v14), (0, 0))) 1 rfl trivial ?_
      rw [hK] at k
      have k3 : (some (-2 : Int32), wd κ (mM a40 a41 a42 a43 a44 a45 a46 a47 a48 a49 a50 v11 v12 v13 v14)) = r := k
      rw [← k3]
      exact Ev.ireti rfl rfl
    · refine Ev.go (st' := (24, [some (vR 39), some (vI x1), some (vI x2)], [vI x1, vR 39], wd κ (mM a40 a41 a42 a43 a44 a45 a46 a47 a48 a49 a50 v11 v12 v13 v14), (0, 0))) 2 rfl trivial ?_
      refine Ev.callI (a := 28) (As := [vR 39, vI x1]) [] (f_M_isUp x1 a40) (wd κ (mM a40 a41 a42 a43 a44 a45 a46 a47 a48 a49 a50 v11 v12 v13 v14)) rfl (e_M_isUp_39 κ a40 a41 a42 a43 a44 a45 a46 a47 a48 a49 a50 v11 v12 v13 v14 x1 ((hP.1.2 h1).1.2 h2).1) ?_
      refine Ev.go (st' := (if (f_M_isUp x1 a40) = 0 then 30 else 33, [some (vR 39), some (vI x1), some (vI x2)], [], wd κ (mM a40 a41 a42 a43 a44 a45 a46 a47 a48 a49 a50 v11 v12 v13 v14), (0, 0))) 1 rfl trivial ?_
      refine Ev.brK (K := K) k (fun h3 k => ?_) (fun h3 k => ?_)
      · refine Ev.go (st' := (32, [some (vR 39), some (vI x1), some (vI x2)], [vI (-3 : Int32)], wd κ (mM a40 a41 a42 a43 a44 a45 a46 a47 a48 a49 a50 v11 v12 v13 v14), (0, 0))) 1 rfl trivial ?_
        rw [hK] at k
        have k3 : (some (-3 : Int32), wd κ (mM a40 a41 a42 a43 a44 a45 a46 a47 a48 a49 a50 v11 v12 v13 v14)) = r := k
        rw [← k3]
        exact Ev.ireti rfl rfl
      · refine Ev.go (st' := (34, [some (vR 39), some (vI x1), some (vI x2)], [vR 39], wd κ (mM a40 a41 a42 a43 a44 a45 a46 a47 a48 a49 a50 v11 v12 v13 v14), (0, 0))) 1 rfl trivial ?_
        refine Ev.callV (a := 55) (As := [vR 39]) [] (wd κ (mM a40 a41 a42 (f_M_layPaths a40 a43 a44 a45 a46).1 (f_M_layPaths a40 a43 a44 a45 a46).2.1 (f_M_layPaths a40 a43 a44 a45 a46).2.2.1 (f_M_layPaths a40 a43 a44 a45 a46).2.2.2 a47 a48 a49 a50 v11 v12 v13 v14)) rfl (e_M_layPaths_39 κ a40 a41 a42 a43 a44 a45 a46 a47 a48 a49 a50 v11 v12 v13 v14 (((hP.1.2 h1).1.2 h2).2.1.2 h3).1) ?_
        refine Ev.go (st' := (s_sw x2 0 [76, 86, 92, 99, 105, 111] 117, [some (vR 39), some (vI x1), some (vI x2)], [], wd κ (mM a40 a41 a42 (f_M_layPaths a40 a43 a44 a45 a46).1 (f_M_layPaths a40 a43 a44 a45 a46).2.1 (f_M_layPaths a40 a43 a44 a45 a46).2.2.1 (f_M_layPaths a40 a43 a44 a45 a46).2.2.2 a47 a48 a49 a50 v11 v12 v13 v14), (0, 0))) 2 rfl trivial ?_
        refine Ev.swK (K := K) (0 : Int32) rfl k (fun h4 k => ?_) (fun h4 k => ?_)
        · refine Ev.go (st' := (85, [some (vR 39), some (vI x1), some (vI x2)], [vI (a40 ((8 : Int32) + x1).toNatClampNeg)], wd κ (mM a40 a41 a42 (f_M_layPaths a40 a43 a44 a45 a46).1 (f_M_layPaths a40 a43 a44 a45 a46).2.1 (f_M_layPaths a40 a43 a44 a45 a46).2.2.1 (f_M_layPaths a40 a43 a44 a45 a46).2.2.2 a47 a48 a49 a50 v11 v12 v13 v14), (0, 0))) 6 rfl ⟨((((hP.1.2 h1).1.2 h2).2.1.2 h3).2.1.1 h4).1, trivial⟩ ?_
          rw [hK] at k
          have k3 : (some (a40 ((8 : Int32) + x1).toNatClampNeg), wd κ (mM a40 a41 a42 (f_M_layPaths a40 a43 a44 a45 a46).1 (f_M_layPaths a40 a43 a44 a45 a46).2.1 (f_M_layPaths a40 a43 a44 a45 a46).2.2.1 (f_M_layPaths a40 a43 a44 a45 a46).2.2.2 a47 a48 a49 a50 v11 v12 v13 v14)) = r := k
          rw [← k3]
          exact Ev.ireti rfl rfl
        refine Ev.swK (K := K) (1 : Int32) rfl k (fun h5 k => ?_) (fun h5 k => ?_)
        · refine Ev.go (st' := (88, [some (vR 39), some (vI x1), some (vI x2)], [vI x1, vR 39], wd κ (mM a40 a41 a42 (f_M_layPaths a40 a43 a44 a45 a46).1 (f_M_layPaths a40 a43 a44 a45 a46).2.1 (f_M_layPaths a40 a43 a44 a45 a46).2.2.1 (f_M_layPaths a40 a43 a44 a45 a46).2.2.2 a47 a48 a49 a50 v11 v12 v13 v14), (0, 0))) 2 rfl trivial ?_
          refine Ev.callI (a := 56) (As := [vR 39, vI x1]) [] (f_M_partOf x1 (f_M_layPaths a40 a43 a44 a45 a46).1) (wd κ (mM a40 a41 a42 (f_M_layPaths a40 a43 a44 a45 a46).1 (f_M_layPaths a40 a43 a44 a45 a46).2.1 (f_M_layPaths a40 a43 a44 a45 a46).2.2.1 (f_M_layPaths a40 a43 a44 a45 a46).2.2.2 a47 a48 a49 a50 v11 v12 v13 v14)) rfl (e_M_partOf_39 κ a40 a41 a42 (f_M_layPaths a40 a43 a44 a45 a46).1 (f_M_layPaths a40 a43 a44 a45 a46).2.1 (f_M_layPaths a40 a43 a44 a45 a46).2.2.1 (f_M_layPaths a40 a43 a44 a45 a46).2.2.2 a47 a48 a49 a50 v11 v12 v13 v14 x1 (((((hP.1.2 h1).1.2 h2).2.1.2 h3).2.1.2 h4).1.1 h5).1) ?_
          rw [hK] at k
          have k3 : (some (f_M_partOf x1 (f_M_layPaths a40 a43 a44 a45 a46).1), wd κ (mM a40 a41 a42 (f_M_layPaths a40 a43 a44 a45 a46).1 (f_M_layPaths a40 a43 a44 a45 a46).2.1 (f_M_layPaths a40 a43 a44 a45 a46).2.2.1 (f_M_layPaths a40 a43 a44 a45 a46).2.2.2 a47 a48 a49 a50 v11 v12 v13 v14)) = r := k
          rw [← k3]
          exact Ev.ireti rfl rfl
        refine Ev.swK (K := K) (2 : Int32) rfl k (fun h6 k => ?_) (fun h6 k => ?_)
        · refine Ev.go (st' := (98, [some (vR 39), some (vI x1), some (vI x2)], [vI ((f_M_layPaths a40 a43 a44 a45 a46).2.1 x1.toNatClampNeg)], wd κ (mM a40 a41 a42 (f_M_layPaths a40 a43 a44 a45 a46).1 (f_M_layPaths a40 a43 a44 a45 a46).2.1 (f_M_layPaths a40 a43 a44 a45 a46).2.2.1 (f_M_layPaths a40 a43 a44 a45 a46).2.2.2 a47 a48 a49 a50 v11 v12 v13 v14), (0, 0))) 4 rfl ⟨((((((hP.1.2 h1).1.2 h2).2.1.2 h3).2.1.2 h4).1.2 h5).1.1 h6).1, trivial⟩ ?_
          rw [hK] at k
          have k3 : (some ((f_M_layPaths a40 a43 a44 a45 a46).2.1 x1.toNatClampNeg), wd κ (mM a40 a41 a42 (f_M_layPaths a40 a43 a44 a45 a46).1 (f_M_layPaths a40 a43 a44 a45 a46).2.1 (f_M_layPaths a40 a43 a44 a45 a46).2.2.1 (f_M_layPaths a40 a43 a44 a45 a46).2.2.2 a47 a48 a49 a50 v11 v12 v13 v14)) = r := k
          rw [← k3]
          exact Ev.ireti rfl rfl
        refine Ev.swK (K := K) (3 : Int32) rfl k (fun h7 k => ?_) (fun h7 k => ?_)
        · refine Ev.go (st' := (101, [some (vR 39), some (vI x1), some (vI x2)], [vI x1, vR 39], wd κ (mM a40 a41 a42 (f_M_layPaths a40 a43 a44 a45 a46).1 (f_M_layPaths a40 a43 a44 a45 a46).2.1 (f_M_layPaths a40 a43 a44 a45 a46).2.2.1 (f_M_layPaths a40 a43 a44 a45 a46).2.2.2 a47 a48 a49 a50 v11 v12 v13 v14), (0, 0))) 2 rfl trivial ?_
          refine Ev.callI (a := 57) (As := [vR 39, vI x1]) [] (f_M_beforeOf x1 (f_M_layPaths a40 a43 a44 a45 a46).2.1) (wd κ (mM a40 a41 a42 (f_M_layPaths a40 a43 a44 a45 a46).1 (f_M_layPaths a40 a43 a44 a45 a46).2.1 (f_M_layPaths a40 a43 a44 a45 a46).2.2.1 (f_M_layPaths a40 a43 a44 a45 a46).2.2.2 a47 a48 a49 a50 v11 v12 v13 v14)) rfl (e_M_beforeOf_39 κ a40 a41 a42 (f_M_layPaths a40 a43 a44 a45 a46).1 (f_M_layPaths a40 a43 a44 a45 a46).2.1 (f_M_layPaths a40 a43 a44 a45 a46).2.2.1 (f_M_layPaths a40 a43 a44 a45 a46).2.2.2 a47 a48 a49 a50 v11 v12 v13 v14 x1) ?_
          rw [hK] at k
          have k3 : (some (f_M_beforeOf x1 (f_M_layPaths a40 a43 a44 a45 a46).2.1), wd κ (mM a40 a41 a42 (f_M_layPaths a40 a43 a44 a45 a46).1 (f_M_layPaths a40 a43 a44 a45 a46).2.1 (f_M_layPaths a40 a43 a44 a45 a46).2.2.1 (f_M_layPaths a40 a43 a44 a45 a46).2.2.2 a47 a48 a49 a50 v11 v12 v13 v14)) = r := k
          rw [← k3]
          exact Ev.ireti rfl rfl
        refine Ev.swK (K := K) (4 : Int32) rfl k (fun h8 k => ?_) (fun h8 k => ?_)
        · refine Ev.go (st' := (107, [some (vR 39), some (vI x1), some (vI x2)], [vI x1, vR 39], wd κ (mM a40 a41 a42 (f_M_layPaths a40 a43 a44 a45 a46).1 (f_M_layPaths a40 a43 a44 a45 a46).2.1 (f_M_layPaths a40 a43 a44 a45 a46).2.2.1 (f_M_layPaths a40 a43 a44 a45 a46).2.2.2 a47 a48 a49 a50 v11 v12 v13 v14), (0, 0))) 2 rfl trivial ?_
          refine Ev.callI (a := 58) (As := [vR 39, vI x1]) [] (f_M_linksOf x1 a40) (wd κ (mM a40 a41 a42 (f_M_layPaths a40 a43 a44 a45 a46).1 (f_M_layPaths a40 a43 a44 a45 a46).2.1 (f_M_layPaths a40 a43 a44 a45 a46).2.2.1 (f_M_layPaths a40 a43 a44 a45 a46).2.2.2 a47 a48 a49 a50 v11 v12 v13 v14)) rfl (e_M_linksOf_39 κ a40 a41 a42 (f_M_layPaths a40 a43 a44 a45 a46).1 (f_M_layPaths a40 a43 a44 a45 a46).2.1 (f_M_layPaths a40 a43 a44 a45 a46).2.2.1 (f_M_layPaths a40 a43 a44 a45 a46).2.2.2 a47 a48 a49 a50 v11 v12 v13 v14 x1 ((((((((hP.1.2 h1).1.2 h2).2.1.2 h3).2.1.2 h4).1.2 h5).1.2 h6).1.2 h7).1.1 h8).1) ?_
          rw [hK] at k
          have k3 : (some (f_M_linksOf x1 a40), wd κ (mM a40 a41 a42 (f_M_layPaths a40 a43 a44 a45 a46).1 (f_M_layPaths a40 a43 a44 a45 a46).2.1 (f_M_layPaths a40 a43 a44 a45 a46).2.2.1 (f_M_layPaths a40 a43 a44 a45 a46).2.2.2 a47 a48 a49 a50 v11 v12 v13 v14)) = r := k
          rw [← k3]
          exact Ev.ireti rfl rfl
        refine Ev.swK (K := K) (5 : Int32) rfl k (fun h9 k => ?_) (fun h9 k => ?_)
        · refine Ev.go (st' := (113, [some (vR 39), some (vI x1), some (vI x2)], [vI x1, vR 39], wd κ (mM a40 a41 a42 (f_M_layPaths a40 a43 a44 a45 a46).1 (f_M_layPaths a40 a43 a44 a45 a46).2.1 (f_M_layPaths a40 a43 a44 a45 a46).2.2.1 (f_M_layPaths a40 a43 a44 a45 a46).2.2.2 a47 a48 a49 a50 v11 v12 v13 v14), (0, 0))) 2 rfl trivial ?_
          refine Ev.callI (a := 60) (As := [vR 39, vI x1]) [] (f_M_pathsOver x1 (f_M_layPaths a40 a43 a44 a45 a46).2.2.2 (f_M_layPaths a40 a43 a44 a45 a46).2.2.1) (wd κ (mM a40 a41 a42 (f_M_layPaths a40 a43 a44 a45 a46).1 (f_M_layPaths a40 a43 a44 a45 a46).2.1 (f_M_layPaths a40 a43 a44 a45 a46).2.2.1 (f_M_layPaths a40 a43 a44 a45 a46).2.2.2 a47 a48 a49 a50 v11 v12 v13 v14)) rfl (e_M_pathsOver_39 κ a40 a41 a42 (f_M_layPaths a40 a43 a44 a45 a46).1 (f_M_layPaths a40 a43 a44 a45 a46).2.1 (f_M_layPaths a40 a43 a44 a45 a46).2.2.1 (f_M_layPaths a40 a43 a44 a45 a46).2.2.2 a47 a48 a49 a50 v11 v12 v13 v14 x1 (((((((((hP.1.2 h1).1.2 h2).2.1.2 h3).2.1.2 h4).1.2 h5).1.2 h6).1.2 h7).1.2 h8).1.1 h9).1) ?_
          rw [hK] at k
          have k3 : (some (f_M_pathsOver x1 (f_M_layPaths a40 a43 a44 a45 a46).2.2.2 (f_M_layPaths a40 a43 a44 a45 a46).2.2.1), wd κ (mM a40 a41 a42 (f_M_layPaths a40 a43 a44 a45 a46).1 (f_M_layPaths a40 a43 a44 a45 a46).2.1 (f_M_layPaths a40 a43 a44 a45 a46).2.2.1 (f_M_layPaths a40 a43 a44 a45 a46).2.2.2 a47 a48 a49 a50 v11 v12 v13 v14)) = r := k
          rw [← k3]
          exact Ev.ireti rfl rfl
        refine Ev.go (st' := (119, [some (vR 39), some (vI x1), some (vI x2)], [vI x1, vR 39], wd κ (mM a40 a41 a42 (f_M_layPaths a40 a43 a44 a45 a46).1 (f_M_layPaths a40 a43 a44 a45 a46).2.1 (f_M_layPaths a40 a43 a44 a45 a46).2.2.1 (f_M_layPaths a40 a43 a44 a45 a46).2.2.2 a47 a48 a49 a50 v11 v12 v13 v14), (0, 0))) 2 rfl trivial ?_
        refine Ev.callI (a := 61) (As := [vR 39, vI x1]) [] (f_M_knownAt x1 (f_M_layPaths a40 a43 a44 a45 a46).2.2.2 (f_M_layPaths a40 a43 a44 a45 a46).2.2.1 (f_M_layPaths a40 a43 a44 a45 a46).2.1) (wd κ (mM a40 a41 a42 (f_M_layPaths a40 a43 a44 a45 a46).1 (f_M_layPaths a40 a43 a44 a45 a46).2.1 (f_M_layPaths a40 a43 a44 a45 a46).2.2.1 (f_M_layPaths a40 a43 a44 a45 a46).2.2.2 a47 a48 a49 a50 v11 v12 v13 v14)) rfl (e_M_knownAt_39 κ a40 a41 a42 (f_M_layPaths a40 a43 a44 a45 a46).1 (f_M_layPaths a40 a43 a44 a45 a46).2.1 (f_M_layPaths a40 a43 a44 a45 a46).2.2.1 (f_M_layPaths a40 a43 a44 a45 a46).2.2.2 a47 a48 a49 a50 v11 v12 v13 v14 x1 (((((((((hP.1.2 h1).1.2 h2).2.1.2 h3).2.1.2 h4).1.2 h5).1.2 h6).1.2 h7).1.2 h8).1.2 h9).1) ?_
        refine Ev.go (st' := (128, [some (vR 39), some (vI x1), some (vI x2)], [vI ((f_M_knownAt x1 (f_M_layPaths a40 a43 a44 a45 a46).2.2.2 (f_M_layPaths a40 a43 a44 a45 a46).2.2.1 (f_M_layPaths a40 a43 a44 a45 a46).2.1) &&& (((1 : Int32) <<< (x1 &&& 31)) ^^^ (-1 : Int32)))], wd κ (mM a40 a41 a42 (f_M_layPaths a40 a43 a44 a45 a46).1 (f_M_layPaths a40 a43 a44 a45 a46).2.1 (f_M_layPaths a40 a43 a44 a45 a46).2.2.1 (f_M_layPaths a40 a43 a44 a45 a46).2.2.2 a47 a48 a49 a50 v11 v12 v13 v14), (0, 0))) 6 rfl trivial ?_
        refine Ev.callI (a := 62) (As := [vI ((f_M_knownAt x1 (f_M_layPaths a40 a43 a44 a45 a46).2.2.2 (f_M_layPaths a40 a43 a44 a45 a46).2.2.1 (f_M_layPaths a40 a43 a44 a45 a46).2.1) &&& (((1 : Int32) <<< (x1 &&& 31)) ^^^ (-1 : Int32)))]) [] (f_M_size ((f_M_knownAt x1 (f_M_layPaths a40 a43 a44 a45 a46).2.2.2 (f_M_layPaths a40 a43 a44 a45 a46).2.2.1 (f_M_layPaths a40 a43 a44 a45 a46).2.1) &&& (((1 : Int32) <<< (x1 &&& 31)) ^^^ (-1 : Int32)))) (wd κ (mM a40 a41 a42 (f_M_layPaths a40 a43 a44 a45 a46).1 (f_M_layPaths a40 a43 a44 a45 a46).2.1 (f_M_layPaths a40 a43 a44 a45 a46).2.2.1 (f_M_layPaths a40 a43 a44 a45 a46).2.2.2 a47 a48 a49 a50 v11 v12 v13 v14)) rfl (e_M_size (wd κ (mM a40 a41 a42 (f_M_layPaths a40 a43 a44 a45 a46).1 (f_M_layPaths a40 a43 a44 a45 a46).2.1 (f_M_layPaths a40 a43 a44 a45 a46).2.2.1 (f_M_layPaths a40 a43 a44 a45 a46).2.2.2 a47 a48 a49 a50 v11 v12 v13 v14)) ((f_M_knownAt x1 (f_M_layPaths a40 a43 a44 a45 a46).2.2.2 (f_M_layPaths a40 a43 a44 a45 a46).2.2.1 (f_M_layPaths a40 a43 a44 a45 a46).2.1) &&& (((1 : Int32) <<< (x1 &&& 31)) ^^^ (-1 : Int32)))) ?_
        rw [hK] at k
        have k3 : (some (f_M_size ((f_M_knownAt x1 (f_M_layPaths a40 a43 a44 a45 a46).2.2.2 (f_M_layPaths a40 a43 a44 a45 a46).2.2.1 (f_M_layPaths a40 a43 a44 a45 a46).2.1) &&& (((1 : Int32) <<< (x1 &&& 31)) ^^^ (-1 : Int32)))), wd κ (mM a40 a41 a42 (f_M_layPaths a40 a43 a44 a45 a46).1 (f_M_layPaths a40 a43 a44 a45 a46).2.1 (f_M_layPaths a40 a43 a44 a45 a46).2.2.1 (f_M_layPaths a40 a43 a44 a45 a46).2.2.2 a47 a48 a49 a50 v11 v12 v13 v14)) = r := k
        rw [← k3]
        exact Ev.ireti rfl rfl
/-! OF MeshNames$Paths.isLaid(I)Z -/
noncomputable def f_Paths_isLaid (x1 : Int32) (lengths : Nat → Int32) : Int32 := (iF ((lengths x1.toNatClampNeg) ≤ 0) (0 : Int32) (1 : Int32))
def P_Paths_isLaid (x1 : Int32) (lengths : Nat → Int32) : Prop := vp_in x1 8 ∧ True
theorem z_Paths_isLaid (x1 : Int32) (lengths : Nat → Int32) : (f_Paths_isLaid x1 lengths) &&& 1 = f_Paths_isLaid x1 lengths := (z_iF rfl rfl)
set_option maxRecDepth 8000 in
set_option maxHeartbeats 4000000 in
theorem e_Paths_isLaid_4 (a2 a3 a5 a6 a7 a8 a9 a10 a11 a13 a15 a19 a20 a21 a22 a23 a24 a25 a26 a27 a30 a31 a32 a33 a34 a35 a36 a37 a38 : Nat → Int32) (v0 v1 v2 v3 v4 v5 v6 v7 v8 v9 v10 : Int32) (md : AW) (x1 : Int32) (hP : P_Paths_isLaid x1 a9)  : Ev none 64 (0, [some (vR 4), some (vI x1)], [], wC a2 a3 a5 a6 a7 a8 a9 a10 a11 a13 a15 a19 a20 a21 a22 a23 a24 a25 a26 a27 a30 a31 a32 a33 a34 a35 a36 a37 a38 v0 v1 v2 v3 v4 v5 v6 v7 v8 v9 v10 md, (0, 0)) (some (f_Paths_isLaid x1 a9), wC a2 a3 a5 a6 a7 a8 a9 a10 a11 a13 a15 a19 a20 a21 a22 a23 a24 a25 a26 a27 a30 a31 a32 a33 a34 a35 a36 a37 a38 v0 v1 v2 v3 v4 v5 v6 v7 v8 v9 v10 md) := by
  suffices hh : ∀ (r : Option Int32 × AW) (K : (Int32) → Prop), K = (fun o : Int32 => (some o, wC a2 a3 a5 a6 a7 a8 a9 a10 a11 a13 a15 a19 a20 a21 a22 a23 a24 a25 a26 a27 a30 a31 a32 a33 a34 a35 a36 a37 a38 v0 v1 v2 v3 v4 v5 v6 v7 v8 v9 v10 md) = r) → K (iF ((a9 x1.toNatClampNeg) ≤ 0) (0 : Int32) (1 : Int32)) → Ev none 64 (0, [some (vR 4), some (vI x1)], [], wC a2 a3 a5 a6 a7 a8 a9 a10 a11 a13 a15 a19 a20 a21 a22 a23 a24 a25 a26 a27 a30 a31 a32 a33 a34 a35 a36 a37 a38 v0 v1 v2 v3 v4 v5 v6 v7 v8 v9 v10 md, (0, 0)) r from hh _ _ rfl rfl
  intro r K hK k
  refine Ev.go (st' := (if (a9 x1.toNatClampNeg) ≤ 0 then 13 else 9, [some (vR 4), some (vI x1)], [], wC a2 a3 a5 a6 a7 a8 a9 a10 a11 a13 a15 a19 a20 a21 a22 a23 a24 a25 a26 a27 a30 a31 a32 a33 a34 a35 a36 a37 a38 v0 v1 v2 v3 v4 v5 v6 v7 v8 v9 v10 md, (0, 0))) 5 rfl ⟨hP.1, trivial⟩ ?_
  have kJ1 : Ev none 64 (14, [none, none], [vI (iF ((a9 x1.toNatClampNeg) ≤ 0) (0 : Int32) (1 : Int32))], wC a2 a3 a5 a6 a7 a8 a9 a10 a11 a13 a15 a19 a20 a21 a22 a23 a24 a25 a26 a27 a30 a31 a32 a33 a34 a35 a36 a37 a38 v0 v1 v2 v3 v4 v5 v6 v7 v8 v9 v10 md, (0, 0)) r := by
    rw [hK] at k
    have k3 : (some (iF ((a9 x1.toNatClampNeg) ≤ 0) (0 : Int32) (1 : Int32)), wC a2 a3 a5 a6 a7 a8 a9 a10 a11 a13 a15 a19 a20 a21 a22 a23 a24 a25 a26 a27 a30 a31 a32 a33 a34 a35 a36 a37 a38 v0 v1 v2 v3 v4 v5 v6 v7 v8 v9 v10 md) = r := k
    rw [← k3]
    exact Ev.iretz rfl rfl (by exact (z_iF rfl rfl))
  refine Ev.br (fun h1 => ?_) (fun h1 => ?_)
  · refine Ev.go (st' := (14, [some (vR 4), some (vI x1)], [vI (0 : Int32)], wC a2 a3 a5 a6 a7 a8 a9 a10 a11 a13 a15 a19 a20 a21 a22 a23 a24 a25 a26 a27 a30 a31 a32 a33 a34 a35 a36 a37 a38 v0 v1 v2 v3 v4 v5 v6 v7 v8 v9 v10 md, (0, 0))) 1 rfl trivial ?_
    exact Ev.wk (Lle.n (Lle.n Lle.z)) (Ev.to kJ1 (by simp only [iF_pos h1]))
  · refine Ev.go (st' := (14, [some (vR 4), some (vI x1)], [vI (1 : Int32)], wC a2 a3 a5 a6 a7 a8 a9 a10 a11 a13 a15 a19 a20 a21 a22 a23 a24 a25 a26 a27 a30 a31 a32 a33 a34 a35 a36 a37 a38 v0 v1 v2 v3 v4 v5 v6 v7 v8 v9 v10 md, (0, 0))) 2 rfl trivial ?_
    exact Ev.wk (Lle.n (Lle.n Lle.z)) (Ev.to kJ1 (by simp only [iF_neg h1]))
/-! OF MeshNames$Paths.nodeAt(II)I -/
noncomputable def f_Paths_nodeAt (x1 : Int32) (x2 : Int32) (lengths : Nat → Int32) (rows : Nat → Int32) : Int32 := (iF (x2 < 0) (-6 : Int32) (iF ((lengths x1.toNatClampNeg) ≤ x2) (-6 : Int32) (rows ((x1 * (8 : Int32)) + x2).toNatClampNeg)))
def P_Paths_nodeAt (x1 : Int32) (x2 : Int32) (lengths : Nat → Int32) (rows : Nat → Int32) : Prop := ((x2 < 0 → True) ∧ (¬ (x2 < 0) → (vp_in x1 8 ∧ (((lengths x1.toNatClampNeg) ≤ x2 → True) ∧ (¬ ((lengths x1.toNatClampNeg) ≤ x2) → (vp_in ((x1 * (8 : Int32)) + x2) 64 ∧ True))) ∧ True))) ∧ True
set_option maxRecDepth 8000 in
set_option maxHeartbeats 4000000 in
theorem e_Paths_nodeAt_4 (a2 a3 a5 a6 a7 a8 a9 a10 a11 a13 a15 a19 a20 a21 a22 a23 a24 a25 a26 a27 a30 a31 a32 a33 a34 a35 a36 a37 a38 : Nat → Int32) (v0 v1 v2 v3 v4 v5 v6 v7 v8 v9 v10 : Int32) (md : AW) (x1 x2 : Int32) (hP : P_Paths_nodeAt x1 x2 a9 a10)  : Ev none 65 (0, [some (vR 4), some (vI x1), some (vI x2)], [], wC a2 a3 a5 a6 a7 a8 a9 a10 a11 a13 a15 a19 a20 a21 a22 a23 a24 a25 a26 a27 a30 a31 a32 a33 a34 a35 a36 a37 a38 v0 v1 v2 v3 v4 v5 v6 v7 v8 v9 v10 md, (0, 0)) (some (f_Paths_nodeAt x1 x2 a9 a10), wC a2 a3 a5 a6 a7 a8 a9 a10 a11 a13 a15 a19 a20 a21 a22 a23 a24 a25 a26 a27 a30 a31 a32 a33 a34 a35 a36 a37 a38 v0 v1 v2 v3 v4 v5 v6 v7 v8 v9 v10 md) := by
  suffices hh : ∀ (r : Option Int32 × AW) (K : (Int32) → Prop), K = (fun o : Int32 => (some o, wC a2 a3 a5 a6 a7 a8 a9 a10 a11 a13 a15 a19 a20 a21 a22 a23 a24 a25 a26 a27 a30 a31 a32 a33 a34 a35 a36 a37 a38 v0 v1 v2 v3 v4 v5 v6 v7 v8 v9 v10 md) = r) → K (iF (x2 < 0) (-6 : Int32) (iF ((a9 x1.toNatClampNeg) ≤ x2) (-6 : Int32) (a10 ((x1 * (8 : Int32)) + x2).toNatClampNeg))) → Ev none 65 (0, [some (vR 4), some (vI x1), some (vI x2)], [], wC a2 a3 a5 a6 a7 a8 a9 a10 a11 a13 a15 a19 a20 a21 a22 a23 a24 a25 a26 a27 a30 a31 a32 a33 a34 a35 a36 a37 a38 v0 v1 v2 v3 v4 v5 v6 v7 v8 v9 v10 md, (0, 0)) r from hh _ _ rfl rfl
  intro r K hK k
  refine Ev.go (st' := (if x2 < 0 then 28 else 4, [some (vR 4), some (vI x1), some (vI x2)], [], wC a2 a3 a5 a6 a7 a8 a9 a10 a11 a13 a15 a19 a20 a21 a22 a23 a24 a25 a26 a27 a30 a31 a32 a33 a34 a35 a36 a37 a38 v0 v1 v2 v3 v4 v5 v6 v7 v8 v9 v10 md, (0, 0))) 2 rfl trivial ?_
  have kJ1 : Ev none 65 (30, [none, none, none], [vI (iF (x2 < 0) (-6 : Int32) (iF ((a9 x1.toNatClampNeg) ≤ x2) (-6 : Int32) (a10 ((x1 * (8 : Int32)) + x2).toNatClampNeg)))], wC a2 a3 a5 a6 a7 a8 a9 a10 a11 a13 a15 a19 a20 a21 a22 a23 a24 a25 a26 a27 a30 a31 a32 a33 a34 a35 a36 a37 a38 v0 v1 v2 v3 v4 v5 v6 v7 v8 v9 v10 md, (0, 0)) r := by
    rw [hK] at k
    have k3 : (some (iF (x2 < 0) (-6 : Int32) (iF ((a9 x1.toNatClampNeg) ≤ x2) (-6 : Int32) (a10 ((x1 * (8 : Int32)) + x2).toNatClampNeg))), wC a2 a3 a5 a6 a7 a8 a9 a10 a11 a13 a15 a19 a20 a21 a22 a23 a24 a25 a26 a27 a30 a31 a32 a33 a34 a35 a36 a37 a38 v0 v1 v2 v3 v4 v5 v6 v7 v8 v9 v10 md) = r := k
    rw [← k3]
    exact Ev.ireti rfl rfl
  refine Ev.br (fun h1 => ?_) (fun h1 => ?_)
  · refine Ev.go (st' := (30, [some (vR 4), some (vI x1), some (vI x2)], [vI (-6 : Int32)], wC a2 a3 a5 a6 a7 a8 a9 a10 a11 a13 a15 a19 a20 a21 a22 a23 a24 a25 a26 a27 a30 a31 a32 a33 a34 a35 a36 a37 a38 v0 v1 v2 v3 v4 v5 v6 v7 v8 v9 v10 md, (0, 0))) 1 rfl trivial ?_
    exact Ev.wk (Lle.n (Lle.n (Lle.n Lle.z))) (Ev.to kJ1 (by simp only [iF_pos h1]))
  · refine Ev.go (st' := (if (a9 x1.toNatClampNeg) ≤ x2 then 28 else 14, [some (vR 4), some (vI x1), some (vI x2)], [], wC a2 a3 a5 a6 a7 a8 a9 a10 a11 a13 a15 a19 a20 a21 a22 a23 a24 a25 a26 a27 a30 a31 a32 a33 a34 a35 a36 a37 a38 v0 v1 v2 v3 v4 v5 v6 v7 v8 v9 v10 md, (0, 0))) 6 rfl ⟨(hP.1.2 h1).1, trivial⟩ ?_
    have kJ2 : Ev none 65 (30, [none, none, none], [vI (iF ((a9 x1.toNatClampNeg) ≤ x2) (-6 : Int32) (a10 ((x1 * (8 : Int32)) + x2).toNatClampNeg))], wC a2 a3 a5 a6 a7 a8 a9 a10 a11 a13 a15 a19 a20 a21 a22 a23 a24 a25 a26 a27 a30 a31 a32 a33 a34 a35 a36 a37 a38 v0 v1 v2 v3 v4 v5 v6 v7 v8 v9 v10 md, (0, 0)) r := by
      exact Ev.wk (Lle.n (Lle.n (Lle.n Lle.z))) (Ev.to kJ1 (by simp only [iF_neg h1]))
    refine Ev.br (fun h2 => ?_) (fun h2 => ?_)
    · refine Ev.go (st' := (30, [some (vR 4), some (vI x1), some (vI x2)], [vI (-6 : Int32)], wC a2 a3 a5 a6 a7 a8 a9 a10 a11 a13 a15 a19 a20 a21 a22 a23 a24 a25 a26 a27 a30 a31 a32 a33 a34 a35 a36 a37 a38 v0 v1 v2 v3 v4 v5 v6 v7 v8 v9 v10 md, (0, 0))) 1 rfl trivial ?_
      exact Ev.wk (Lle.n (Lle.n (Lle.n Lle.z))) (Ev.to kJ2 (by simp only [iF_pos h2]))
    · refine Ev.go (st' := (30, [some (vR 4), some (vI x1), some (vI x2)], [vI (a10 ((x1 * (8 : Int32)) + x2).toNatClampNeg)], wC a2 a3 a5 a6 a7 a8 a9 a10 a11 a13 a15 a19 a20 a21 a22 a23 a24 a25 a26 a27 a30 a31 a32 a33 a34 a35 a36 a37 a38 v0 v1 v2 v3 v4 v5 v6 v7 v8 v9 v10 md, (0, 0))) 9 rfl ⟨((hP.1.2 h1).2.1.2 h2).1, trivial⟩ ?_
      exact Ev.wk (Lle.n (Lle.n (Lle.n Lle.z))) (Ev.to kJ2 (by simp only [iF_neg h2]))
/-! OF MeshNames.path(II)I -/
noncomputable def f_C_path (x1 : Int32) (x2 : Int32) (upSet : Int32) (lengths : Nat → Int32) (rows : Nat → Int32) : Int32 := (iF ((f_C_isNode x1) = 0) (-1 : Int32) (iF ((-1 : Int32) ≤ x2) (iF ((f_Mesh_isUp x1 upSet) = 0) (-3 : Int32) (iF ((f_Paths_isLaid x1 lengths) = 0) (-5 : Int32) (iF (x2 = (-1 : Int32)) (lengths x1.toNatClampNeg) (f_Paths_nodeAt x1 x2 lengths rows)))) (-2 : Int32)))
def P_C_path (x1 : Int32) (x2 : Int32) (upSet : Int32) (lengths : Nat → Int32) (rows : Nat → Int32) : Prop := (((f_C_isNode x1) = 0 → True) ∧ (¬ ((f_C_isNode x1) = 0) → ((((-1 : Int32) ≤ x2 → ((((f_Mesh_isUp x1 upSet) = 0 → True) ∧ (¬ ((f_Mesh_isUp x1 upSet) = 0) → ((P_Paths_isLaid x1 lengths) ∧ (((f_Paths_isLaid x1 lengths) = 0 → True) ∧ (¬ ((f_Paths_isLaid x1 lengths) = 0) → (((x2 = (-1 : Int32) → (vp_in x1 8 ∧ True)) ∧ (¬ (x2 = (-1 : Int32)) → ((P_Paths_nodeAt x1 x2 lengths rows) ∧ True))) ∧ True))) ∧ True))) ∧ True)) ∧ (¬ ((-1 : Int32) ≤ x2) → True)) ∧ True))) ∧ True
set_option maxRecDepth 8000 in
set_option maxHeartbeats 4000000 in
theorem e_C_path_0 (a2 a3 a5 a6 a7 a8 a9 a10 a11 a13 a15 a19 a20 a21 a22 a23 a24 a25 a26 a27 a30 a31 a32 a33 a34 a35 a36 a37 a38 : Nat → Int32) (v0 v1 v2 v3 v4 v5 v6 v7 v8 v9 v10 : Int32) (md : AW) (x1 x2 : Int32) (hP : P_C_path x1 x2 v1 a9 a10)  : Ev none 66 (0, [some (vR 0), some (vI x1), some (vI x2)], [], wC a2 a3 a5 a6 a7 a8 a9 a10 a11 a13 a15 a19 a20 a21 a22 a23 a24 a25 a26 a27 a30 a31 a32 a33 a34 a35 a36 a37 a38 v0 v1 v2 v3 v4 v5 v6 v7 v8 v9 v10 md, (0, 0)) (some (f_C_path x1 x2 v1 a9 a10), wC a2 a3 a5 a6 a7 a8 a9 a10 a11 a13 a15 a19 a20 a21 a22 a23 a24 a25 a26 a27 a30 a31 a32 a33 a34 a35 a36 a37 a38 v0 v1 v2 v3 v4 v5 v6 v7 v8 v9 v10 md) := by
  suffices hh : ∀ (r : Option Int32 × AW) (K : (Int32) → Prop), K = (fun o : Int32 => (some o, wC a2 a3 a5 a6 a7 a8 a9 a10 a11 a13 a15 a19 a20 a21 a22 a23 a24 a25 a26 a27 a30 a31 a32 a33 a34 a35 a36 a37 a38 v0 v1 v2 v3 v4 v5 v6 v7 v8 v9 v10 md) = r) → K (iF ((f_C_isNode x1) = 0) (-1 : Int32) (iF ((-1 : Int32) ≤ x2) (iF ((f_Mesh_isUp x1 v1) = 0) (-3 : Int32) (iF ((f_Paths_isLaid x1 a9) = 0) (-5 : Int32) (iF (x2 = (-1 : Int32)) (a9 x1.toNatClampNeg) (f_Paths_nodeAt x1 x2 a9 a10)))) (-2 : Int32))) → Ev none 66 (0, [some (vR 0), some (vI x1), some (vI x2)], [], wC a2 a3 a5 a6 a7 a8 a9 a10 a11 a13 a15 a19 a20 a21 a22 a23 a24 a25 a26 a27 a30 a31 a32 a33 a34 a35 a36 a37 a38 v0 v1 v2 v3 v4 v5 v6 v7 v8 v9 v10 md, (0, 0)) r from hh _ _ rfl rfl
  intro r K hK k
  refine Ev.go (st' := (1, [some (vR 0), some (vI x1), some (vI x2)], [vI x1], wC a2 a3 a5 a6 a7 a8 a9 a10 a11 a13 a15 a19 a20 a21 a22 a23 a24 a25 a26 a27 a30 a31 a32 a33 a34 a35 a36 a37 a38 v0 v1 v2 v3 v4 v5 v6 v7 v8 v9 v10 md, (0, 0))) 1 rfl trivial ?_
  refine Ev.callI (a := 14) (As := [vI x1]) [] (f_C_isNode x1) (wC a2 a3 a5 a6 a7 a8 a9 a10 a11 a13 a15 a19 a20 a21 a22 a23 a24 a25 a26 a27 a30 a31 a32 a33 a34 a35 a36 a37 a38 v0 v1 v2 v3 v4 v5 v6 v7 v8 v9 v10 md) rfl (e_C_isNode (wC a2 a3 a5 a6 a7 a8 a9 a10 a11 a13 a15 a19 a20 a21 a22 a23 a24 a25 a26 a27 a30 a31 a32 a33 a34 a35 a36 a37 a38 v0 v1 v2 v3 v4 v5 v6 v7 v8 v9 v10 md) x1) ?_
  refine Ev.go (st' := (if (f_C_isNode x1) = 0 then 7 else 9, [some (vR 0), some (vI x1), some (vI x2)], [], wC a2 a3 a5 a6 a7 a8 a9 a10 a11 a13 a15 a19 a20 a21 a22 a23 a24 a25 a26 a27 a30 a31 a32 a33 a34 a35 a36 a37 a38 v0 v1 v2 v3 v4 v5 v6 v7 v8 v9 v10 md, (0, 0))) 1 rfl trivial ?_
  refine Ev.brK (K := K) k (fun h1 k => ?_) (fun h1 k => ?_)
  · refine Ev.go (st' := (8, [some (vR 0), some (vI x1), some (vI x2)], [vI (-1 : Int32)], wC a2 a3 a5 a6 a7 a8 a9 a10 a11 a13 a15 a19 a20 a21 a22 a23 a24 a25 a26 a27 a30 a31 a32 a33 a34 a35 a36 a37 a38 v0 v1 v2 v3 v4 v5 v6 v7 v8 v9 v10 md, (0, 0))) 1 rfl trivial ?_
    rw [hK] at k
    have k3 : (some (-1 : Int32), wC a2 a3 a5 a6 a7 a8 a9 a10 a11 a13 a15 a19 a20 a21 a22 a23 a24 a25 a26 a27 a30 a31 a32 a33 a34 a35 a36 a37 a38 v0 v1 v2 v3 v4 v5 v6 v7 v8 v9 v10 md) = r := k
    rw [← k3]
    exact Ev.ireti rfl rfl
  · refine Ev.go (st' := (if (-1 : Int32) ≤ x2 then 17 else 14, [some (vR 0), some (vI x1), some (vI x2)], [], wC a2 a3 a5 a6 a7 a8 a9 a10 a11 a13 a15 a19 a20 a21 a22 a23 a24 a25 a26 a27 a30 a31 a32 a33 a34 a35 a36 a37 a38 v0 v1 v2 v3 v4 v5 v6 v7 v8 v9 v10 md, (0, 0))) 3 rfl trivial ?_
    refine Ev.brK (K := K) k (fun h2 k => ?_) (fun h2 k => ?_)
    · refine Ev.go (st' := (22, [some (vR 0), some (vI x1), some (vI x2)], [vI x1, vR 1], wC a2 a3 a5 a6 a7 a8 a9 a10 a11 a13 a15 a19 a20 a21 a22 a23 a24 a25 a26 a27 a30 a31 a32 a33 a34 a35 a36 a37 a38 v0 v1 v2 v3 v4 v5 v6 v7 v8 v9 v10 md, (0, 0))) 3 rfl trivial ?_
      refine Ev.callI (a := 8) (As := [vR 1, vI x1]) [] (f_Mesh_isUp x1 v1) (wC a2 a3 a5 a6 a7 a8 a9 a10 a11 a13 a15 a19 a20 a21 a22 a23 a24 a25 a26 a27 a30 a31 a32 a33 a34 a35 a36 a37 a38 v0 v1 v2 v3 v4 v5 v6 v7 v8 v9 v10 md) rfl (e_Mesh_isUp_1 a2 a3 a5 a6 a7 a8 a9 a10 a11 a13 a15 a19 a20 a21 a22 a23 a24 a25 a26 a27 a30 a31 a32 a33 a34 a35 a36 a37 a38 v0 v1 v2 v3 v4 v5 v6 v7 v8 v9 v10 md x1) ?_
      refine Ev.go (st' := (if (f_Mesh_isUp x1 v1) = 0 then 28 else 31, [some (vR 0), some (vI x1), some (vI x2)], [], wC a2 a3 a5 a6 a7 a8 a9 a10 a11 a13 a15 a19 a20 a21 a22 a23 a24 a25 a26 a27 a30 a31 a32 a33 a34 a35 a36 a37 a38 v0 v1 v2 v3 v4 v5 v6 v7 v8 v9 v10 md, (0, 0))) 1 rfl trivial ?_
      refine Ev.brK (K := K) k (fun h3 k => ?_) (fun h3 k => ?_)
      · refine Ev.go (st' := (30, [some (vR 0), some (vI x1), some (vI x2)], [vI (-3 : Int32)], wC a2 a3 a5 a6 a7 a8 a9 a10 a11 a13 a15 a19 a20 a21 a22 a23 a24 a25 a26 a27 a30 a31 a32 a33 a34 a35 a36 a37 a38 v0 v1 v2 v3 v4 v5 v6 v7 v8 v9 v10 md, (0, 0))) 1 rfl trivial ?_
        rw [hK] at k
        have k3 : (some (-3 : Int32), wC a2 a3 a5 a6 a7 a8 a9 a10 a11 a13 a15 a19 a20 a21 a22 a23 a24 a25 a26 a27 a30 a31 a32 a33 a34 a35 a36 a37 a38 v0 v1 v2 v3 v4 v5 v6 v7 v8 v9 v10 md) = r := k
        rw [← k3]
        exact Ev.ireti rfl rfl
      · refine Ev.go (st' := (36, [some (vR 0), some (vI x1), some (vI x2)], [vI x1, vR 4], wC a2 a3 a5 a6 a7 a8 a9 a10 a11 a13 a15 a19 a20 a21 a22 a23 a24 a25 a26 a27 a30 a31 a32 a33 a34 a35 a36 a37 a38 v0 v1 v2 v3 v4 v5 v6 v7 v8 v9 v10 md, (0, 0))) 3 rfl trivial ?_
        refine Ev.callI (a := 64) (As := [vR 4, vI x1]) [] (f_Paths_isLaid x1 a9) (wC a2 a3 a5 a6 a7 a8 a9 a10 a11 a13 a15 a19 a20 a21 a22 a23 a24 a25 a26 a27 a30 a31 a32 a33 a34 a35 a36 a37 a38 v0 v1 v2 v3 v4 v5 v6 v7 v8 v9 v10 md) rfl (e_Paths_isLaid_4 a2 a3 a5 a6 a7 a8 a9 a10 a11 a13 a15 a19 a20 a21 a22 a23 a24 a25 a26 a27 a30 a31 a32 a33 a34 a35 a36 a37 a38 v0 v1 v2 v3 v4 v5 v6 v7 v8 v9 v10 md x1 (((hP.1.2 h1).1.1 h2).1.2 h3).1) ?_
        refine Ev.go (st' := (if (f_Paths_isLaid x1 a9) = 0 then 42 else 45, [some (vR 0), some (vI x1), some (vI x2)], [], wC a2 a3 a5 a6 a7 a8 a9 a10 a11 a13 a15 a19 a20 a21 a22 a23 a24 a25 a26 a27 a30 a31 a32 a33 a34 a35 a36 a37 a38 v0 v1 v2 v3 v4 v5 v6 v7 v8 v9 v10 md, (0, 0))) 1 rfl trivial ?_
        refine Ev.brK (K := K) k (fun h4 k => ?_) (fun h4 k => ?_)
        · refine Ev.go (st' := (44, [some (vR 0), some (vI x1), some (vI x2)], [vI (-5 : Int32)], wC a2 a3 a5 a6 a7 a8 a9 a10 a11 a13 a15 a19 a20 a21 a22 a23 a24 a25 a26 a27 a30 a31 a32 a33 a34 a35 a36 a37 a38 v0 v1 v2 v3 v4 v5 v6 v7 v8 v9 v10 md, (0, 0))) 1 rfl trivial ?_
          rw [hK] at k
          have k3 : (some (-5 : Int32), wC a2 a3 a5 a6 a7 a8 a9 a10 a11 a13 a15 a19 a20 a21 a22 a23 a24 a25 a26 a27 a30 a31 a32 a33 a34 a35 a36 a37 a38 v0 v1 v2 v3 v4 v5 v6 v7 v8 v9 v10 md) = r := k
          rw [← k3]
          exact Ev.ireti rfl rfl
        · refine Ev.go (st' := (if x2 = (-1 : Int32) then 50 else 62, [some (vR 0), some (vI x1), some (vI x2)], [], wC a2 a3 a5 a6 a7 a8 a9 a10 a11 a13 a15 a19 a20 a21 a22 a23 a24 a25 a26 a27 a30 a31 a32 a33 a34 a35 a36 a37 a38 v0 v1 v2 v3 v4 v5 v6 v7 v8 v9 v10 md, (0, 0))) 3 rfl trivial ?_
          have kJ5 : Ev none 66 (71, [none, none, none], [vI (iF (x2 = (-1 : Int32)) (a9 x1.toNatClampNeg) (f_Paths_nodeAt x1 x2 a9 a10))], wC a2 a3 a5 a6 a7 a8 a9 a10 a11 a13 a15 a19 a20 a21 a22 a23 a24 a25 a26 a27 a30 a31 a32 a33 a34 a35 a36 a37 a38 v0 v1 v2 v3 v4 v5 v6 v7 v8 v9 v10 md, (0, 0)) r := by
            rw [hK] at k
            have k3 : (some (iF (x2 = (-1 : Int32)) (a9 x1.toNatClampNeg) (f_Paths_nodeAt x1 x2 a9 a10)), wC a2 a3 a5 a6 a7 a8 a9 a10 a11 a13 a15 a19 a20 a21 a22 a23 a24 a25 a26 a27 a30 a31 a32 a33 a34 a35 a36 a37 a38 v0 v1 v2 v3 v4 v5 v6 v7 v8 v9 v10 md) = r := k
            rw [← k3]
            exact Ev.ireti rfl rfl
          refine Ev.br (fun h5 => ?_) (fun h5 => ?_)
          · refine Ev.go (st' := (71, [some (vR 0), some (vI x1), some (vI x2)], [vI (a9 x1.toNatClampNeg)], wC a2 a3 a5 a6 a7 a8 a9 a10 a11 a13 a15 a19 a20 a21 a22 a23 a24 a25 a26 a27 a30 a31 a32 a33 a34 a35 a36 a37 a38 v0 v1 v2 v3 v4 v5 v6 v7 v8 v9 v10 md, (0, 0))) 6 rfl ⟨(((((hP.1.2 h1).1.1 h2).1.2 h3).2.1.2 h4).1.1 h5).1, trivial⟩ ?_
            exact Ev.wk (Lle.n (Lle.n (Lle.n Lle.z))) (Ev.to kJ5 (by simp only [iF_pos h5]))
          · refine Ev.go (st' := (68, [some (vR 0), some (vI x1), some (vI x2)], [vI x2, vI x1, vR 4], wC a2 a3 a5 a6 a7 a8 a9 a10 a11 a13 a15 a19 a20 a21 a22 a23 a24 a25 a26 a27 a30 a31 a32 a33 a34 a35 a36 a37 a38 v0 v1 v2 v3 v4 v5 v6 v7 v8 v9 v10 md, (0, 0))) 4 rfl trivial ?_
            refine Ev.callI (a := 65) (As := [vR 4, vI x1, vI x2]) [] (f_Paths_nodeAt x1 x2 a9 a10) (wC a2 a3 a5 a6 a7 a8 a9 a10 a11 a13 a15 a19 a20 a21 a22 a23 a24 a25 a26 a27 a30 a31 a32 a33 a34 a35 a36 a37 a38 v0 v1 v2 v3 v4 v5 v6 v7 v8 v9 v10 md) rfl (e_Paths_nodeAt_4 a2 a3 a5 a6 a7 a8 a9 a10 a11 a13 a15 a19 a20 a21 a22 a23 a24 a25 a26 a27 a30 a31 a32 a33 a34 a35 a36 a37 a38 v0 v1 v2 v3 v4 v5 v6 v7 v8 v9 v10 md x1 x2 (((((hP.1.2 h1).1.1 h2).1.2 h3).2.1.2 h4).1.2 h5).1) ?_
            exact Ev.wk (Lle.n (Lle.n (Lle.n Lle.z))) (Ev.to kJ5 (by simp only [iF_neg h5]))
    · refine Ev.go (st' := (16, [some (vR 0), some (vI x1), some (vI x2)], [vI (-2 : Int32)], wC a2 a3 a5 a6 a7 a8 a9 a10 a11 a13 a15 a19 a20 a21 a22 a23 a24 a25 a26 a27 a30 a31 a32 a33 a34 a35 a36 a37 a38 v0 v1 v2 v3 v4 v5 v6 v7 v8 v9 v10 md, (0, 0))) 1 rfl trivial ?_
      rw [hK] at k
      have k3 : (some (-2 : Int32), wC a2 a3 a5 a6 a7 a8 a9 a10 a11 a13 a15 a19 a20 a21 a22 a23 a24 a25 a26 a27 a30 a31 a32 a33 a34 a35 a36 a37 a38 v0 v1 v2 v3 v4 v5 v6 v7 v8 v9 v10 md) = r := k
      rw [← k3]
      exact Ev.ireti rfl rfl
/-! OF MeshNamesModel.path(II)I -/
noncomputable def f_M_path (x1 : Int32) (x2 : Int32) (steps : Nat → Int32) (next_ : Nat → Int32) (row : Nat → Int32) (rowMany : Nat → Int32) (state_ : Nat → Int32) : Int32 × (Nat → Int32) × (Nat → Int32) × (Nat → Int32) × (Nat → Int32) := (iF ((f_M_isNode x1) = 0) ((-1 : Int32), steps, next_, row, rowMany) (iF ((-1 : Int32) ≤ x2) (iF ((f_M_isUp x1 state_) = 0) ((-3 : Int32), steps, next_, row, rowMany) (iF (0 ≤ ((f_M_layPaths state_ steps next_ row rowMany).2.1 x1.toNatClampNeg)) ((iF (x2 = (-1 : Int32)) ((f_M_layPaths state_ steps next_ row rowMany).2.2.2 x1.toNatClampNeg) (iF (((f_M_layPaths state_ steps next_ row rowMany).2.2.2 x1.toNatClampNeg) ≤ x2) (-6 : Int32) ((f_M_layPaths state_ steps next_ row rowMany).2.2.1 (((8 : Int32) * x1) + x2).toNatClampNeg))), (f_M_layPaths state_ steps next_ row rowMany).1, (f_M_layPaths state_ steps next_ row rowMany).2.1, (f_M_layPaths state_ steps next_ row rowMany).2.2.1, (f_M_layPaths state_ steps next_ row rowMany).2.2.2) ((-5 : Int32), (f_M_layPaths state_ steps next_ row rowMany).1, (f_M_layPaths state_ steps next_ row rowMany).2.1, (f_M_layPaths state_ steps next_ row rowMany).2.2.1, (f_M_layPaths state_ steps next_ row rowMany).2.2.2))) ((-2 : Int32), steps, next_, row, rowMany)))
def P_M_path (x1 : Int32) (x2 : Int32) (steps : Nat → Int32) (next_ : Nat → Int32) (row : Nat → Int32) (rowMany : Nat → Int32) (state_ : Nat → Int32) : Prop := (((f_M_isNode x1) = 0 → True) ∧ (¬ ((f_M_isNode x1) = 0) → ((((-1 : Int32) ≤ x2 → ((P_M_isUp x1 state_) ∧ (((f_M_isUp x1 state_) = 0 → True) ∧ (¬ ((f_M_isUp x1 state_) = 0) → ((P_M_layPaths state_ steps next_ row rowMany) ∧ vp_in x1 8 ∧ ((0 ≤ ((f_M_layPaths state_ steps next_ row rowMany).2.1 x1.toNatClampNeg) → (((x2 = (-1 : Int32) → (vp_in x1 8 ∧ True)) ∧ (¬ (x2 = (-1 : Int32)) → (vp_in x1 8 ∧ ((((f_M_layPaths state_ steps next_ row rowMany).2.2.2 x1.toNatClampNeg) ≤ x2 → True) ∧ (¬ (((f_M_layPaths state_ steps next_ row rowMany).2.2.2 x1.toNatClampNeg) ≤ x2) → (vp_in (((8 : Int32) * x1) + x2) 64 ∧ True))) ∧ True))) ∧ True)) ∧ (¬ (0 ≤ ((f_M_layPaths state_ steps next_ row rowMany).2.1 x1.toNatClampNeg)) → True)) ∧ True))) ∧ True)) ∧ (¬ ((-1 : Int32) ≤ x2) → True)) ∧ True))) ∧ True
set_option maxRecDepth 8000 in
set_option maxHeartbeats 4000000 in
theorem e_M_path_39 (κ : Sg) (a40 a41 a42 a43 a44 a45 a46 a47 a48 a49 a50 : Nat → Int32) (v11 v12 v13 v14 : Int32) (x1 x2 : Int32) (hP : P_M_path x1 x2 a43 a44 a45 a46 a40)  : Ev none 67 (0, [some (vR 39), some (vI x1), some (vI x2)], [], wd κ (mM a40 a41 a42 a43 a44 a45 a46 a47 a48 a49 a50 v11 v12 v13 v14), (0, 0)) (some (f_M_path x1 x2 a43 a44 a45 a46 a40).1, wd κ (mM a40 a41 a42 (f_M_path x1 x2 a43 a44 a45 a46 a40).2.1 (f_M_path x1 x2 a43 a44 a45 a46 a40).2.2.1 (f_M_path x1 x2 a43 a44 a45 a46 a40).2.2.2.1 (f_M_path x1 x2 a43 a44 a45 a46 a40).2.2.2.2 a47 a48 a49 a50 v11 v12 v13 v14)) := by
  suffices hh : ∀ (r : Option Int32 × AW) (K : (Int32 × (Nat → Int32) × (Nat → Int32) × (Nat → Int32) × (Nat → Int32)) → Prop), K = (fun o : Int32 × (Nat → Int32) × (Nat → Int32) × (Nat → Int32) × (Nat → Int32) => (some o.1, wd κ (mM a40 a41 a42 o.2.1 o.2.2.1 o.2.2.2.1 o.2.2.2.2 a47 a48 a49 a50 v11 v12 v13 v14)) = r) → K (iF ((f_M_isNode x1) = 0) ((-1 : Int32), a43, a44, a45, a46) (iF ((-1 : Int32) ≤ x2) (iF ((f_M_isUp x1 a40) = 0) ((-3 : Int32), a43, a44, a45, a46) (iF (0 ≤ ((f_M_layPaths a40 a43 a44 a45 a46).2.1 x1.toNatClampNeg)) ((iF (x2 = (-1 : Int32)) ((f_M_layPaths a40 a43 a44 a45 a46).2.2.2 x1.toNatClampNeg) (iF (((f_M_layPaths a40 a43 a44 a45 a46).2.2.2 x1.toNatClampNeg) ≤ x2) (-6 : Int32) ((f_M_layPaths a40 a43 a44 a45 a46).2.2.1 (((8 : Int32) * x1) + x2).toNatClampNeg))), (f_M_layPaths a40 a43 a44 a45 a46).1, (f_M_layPaths a40 a43 a44 a45 a46).2.1, (f_M_layPaths a40 a43 a44 a45 a46).2.2.1, (f_M_layPaths a40 a43 a44 a45 a46).2.2.2) ((-5 : Int32), (f_M_layPaths a40 a43 a44 a45 a46).1, (f_M_layPaths a40 a43 a44 a45 a46).2.1, (f_M_layPaths a40 a43 a44 a45 a46).2.2.1, (f_M_layPaths a40 a43 a44 a45 a46).2.2.2))) ((-2 : Int32), a43, a44, a45, a46))) → Ev none 67 (0, [some (vR 39), some (vI x1), some (vI x2)], [], wd κ (mM a40 a41 a42 a43 a44 a45 a46 a47 a48 a49 a50 v11 v12 v13 v14), (0, 0)) r from hh _ _ rfl rfl
  intro r K hK k
  refine Ev.go (st' := (1, [some (vR 39), some (vI x1), some (vI x2)], [vI x1], wd κ (mM a40 a41 a42 a43 a44 a45 a46 a47 a48 a49 a50 v11 v12 v13 v14), (0, 0))) 1 rfl trivial ?_
  refine Ev.callI (a := 26) (As := [vI x1]) [] (f_M_isNode x1) (wd κ (mM a40 a41 a42 a43 a44 a45 a46 a47 a48 a49 a50 v11 v12 v13 v14)) rfl (e_M_isNode (wd κ (mM a40 a41 a42 a43 a44 a45 a46 a47 a48 a49 a50 v11 v12 v13 v14)) x1) ?_
  refine Ev.go (st' := (if (f_M_isNode x1) = 0 then 7 else 9, [some (vR 39), some (vI x1), some (vI x2)], [], wd κ (mM a40 a41 a42 a43 a44 a45 a46 a47 a48 a49 a50 v11 v12 v13 v14), (0, 0))) 1 rfl trivial ?_
  refine Ev.brK (K := K) k (fun h1 k => ?_) (fun h1 k => ?_)
  · refine Ev.go (st' := (8, [some (vR 39), some (vI x1), some (vI x2)], [vI (-1 : Int32)], wd κ (mM a40 a41 a42 a43 a44 a45 a46 a47 a48 a49 a50 v11 v12 v13 v14), (0, 0))) 1 rfl trivial ?_
    rw [hK] at k
    have k3 : (some (-1 : Int32), wd κ (mM a40 a41 a42 a43 a44 a45 a46 a47 a48 a49 a50 v11 v12 v13 v14)) = r := k
    rw [← k3]
    exact Ev.ireti rfl rfl
  · refine Ev.go (st' := (if (-1 : Int32) ≤ x2 then 17 else 14, [some (vR 39), some (vI x1), some (vI x2)], [], wd κ (mM a40 a41 a42 a43 a44 a45 a46 a47 a48 a49 a50 v11 v12 v13 v14), (0, 0))) 3 rfl trivial ?_
    refine Ev.brK (K := K) k (fun h2 k => ?_) (fun h2 k => ?_)
    · refine Ev.go (st' := (19, [some (vR 39), some (vI x1), some (vI x2)], [vI x1, vR 39], wd κ (mM a40 a41 a42 a43 a44 a45 a46 a47 a48 a49 a50 v11 v12 v13 v14), (0, 0))) 2 rfl trivial ?_
      refine Ev.callI (a := 28) (As := [vR 39, vI x1]) [] (f_M_isUp x1 a40) (wd κ (mM a40 a41 a42 a43 a44 a45 a46 a47 a48 a49 a50 v11 v12 v13 v14)) rfl (e_M_isUp_39 κ a40 a41 a42 a43 a44 a45 a46 a47 a48 a49 a50 v11 v12 v13 v14 x1 ((hP.1.2 h1).1.1 h2).1) ?_
      refine Ev.go (st' := (if (f_M_isUp x1 a40) = 0 then 25 else 28, [some (vR 39), some (vI x1), some (vI x2)], [], wd κ (mM a40 a41 a42 a43 a44 a45 a46 a47 a48 a49 a50 v11 v12 v13 v14), (0, 0))) 1 rfl trivial ?_
      refine Ev.brK (K := K) k (fun h3 k => ?_) (fun h3 k => ?_)
      · refine Ev.go (st' := (27, [some (vR 39), some (vI x1), some (vI x2)], [vI (-3 : Int32)], wd κ (mM a40 a41 a42 a43 a44 a45 a46 a47 a48 a49 a50 v11 v12 v13 v14), (0, 0))) 1 rfl trivial ?_
        rw [hK] at k
        have k3 : (some (-3 : Int32), wd κ (mM a40 a41 a42 a43 a44 a45 a46 a47 a48 a49 a50 v11 v12 v13 v14)) = r := k
        rw [← k3]
        exact Ev.ireti rfl rfl
      · refine Ev.go (st' := (29, [some (vR 39), some (vI x1), some (vI x2)], [vR 39], wd κ (mM a40 a41 a42 a43 a44 a45 a46 a47 a48 a49 a50 v11 v12 v13 v14), (0, 0))) 1 rfl trivial ?_
        refine Ev.callV (a := 55) (As := [vR 39]) [] (wd κ (mM a40 a41 a42 (f_M_layPaths a40 a43 a44 a45 a46).1 (f_M_layPaths a40 a43 a44 a45 a46).2.1 (f_M_layPaths a40 a43 a44 a45 a46).2.2.1 (f_M_layPaths a40 a43 a44 a45 a46).2.2.2 a47 a48 a49 a50 v11 v12 v13 v14)) rfl (e_M_layPaths_39 κ a40 a41 a42 a43 a44 a45 a46 a47 a48 a49 a50 v11 v12 v13 v14 (((hP.1.2 h1).1.1 h2).2.1.2 h3).1) ?_
        refine Ev.go (st' := (if 0 ≤ ((f_M_layPaths a40 a43 a44 a45 a46).2.1 x1.toNatClampNeg) then 44 else 41, [some (vR 39), some (vI x1), some (vI x2)], [], wd κ (mM a40 a41 a42 (f_M_layPaths a40 a43 a44 a45 a46).1 (f_M_layPaths a40 a43 a44 a45 a46).2.1 (f_M_layPaths a40 a43 a44 a45 a46).2.2.1 (f_M_layPaths a40 a43 a44 a45 a46).2.2.2 a47 a48 a49 a50 v11 v12 v13 v14), (0, 0))) 5 rfl ⟨(((hP.1.2 h1).1.1 h2).2.1.2 h3).2.1, trivial⟩ ?_
        refine Ev.brK (K := K) k (fun h4 k => ?_) (fun h4 k => ?_)
        · refine Ev.go (st' := (if x2 = (-1 : Int32) then 49 else 58, [some (vR 39), some (vI x1), some (vI x2)], [], wd κ (mM a40 a41 a42 (f_M_layPaths a40 a43 a44 a45 a46).1 (f_M_layPaths a40 a43 a44 a45 a46).2.1 (f_M_layPaths a40 a43 a44 a45 a46).2.2.1 (f_M_layPaths a40 a43 a44 a45 a46).2.2.2 a47 a48 a49 a50 v11 v12 v13 v14), (0, 0))) 3 rfl trivial ?_
          have kJ5 : Ev none 67 (84, [none, none, none], [vI (iF (x2 = (-1 : Int32)) ((f_M_layPaths a40 a43 a44 a45 a46).2.2.2 x1.toNatClampNeg) (iF (((f_M_layPaths a40 a43 a44 a45 a46).2.2.2 x1.toNatClampNeg) ≤ x2) (-6 : Int32) ((f_M_layPaths a40 a43 a44 a45 a46).2.2.1 (((8 : Int32) * x1) + x2).toNatClampNeg)))], wd κ (mM a40 a41 a42 (f_M_layPaths a40 a43 a44 a45 a46).1 (f_M_layPaths a40 a43 a44 a45 a46).2.1 (f_M_layPaths a40 a43 a44 a45 a46).2.2.1 (f_M_layPaths a40 a43 a44 a45 a46).2.2.2 a47 a48 a49 a50 v11 v12 v13 v14), (0, 0)) r := by
            rw [hK] at k
            have k3 : (some (iF (x2 = (-1 : Int32)) ((f_M_layPaths a40 a43 a44 a45 a46).2.2.2 x1.toNatClampNeg) (iF (((f_M_layPaths a40 a43 a44 a45 a46).2.2.2 x1.toNatClampNeg) ≤ x2) (-6 : Int32) ((f_M_layPaths a40 a43 a44 a45 a46).2.2.1 (((8 : Int32) * x1) + x2).toNatClampNeg))), wd κ (mM a40 a41 a42 (f_M_layPaths a40 a43 a44 a45 a46).1 (f_M_layPaths a40 a43 a44 a45 a46).2.1 (f_M_layPaths a40 a43 a44 a45 a46).2.2.1 (f_M_layPaths a40 a43 a44 a45 a46).2.2.2 a47 a48 a49 a50 v11 v12 v13 v14)) = r := k
            rw [← k3]
            exact Ev.ireti rfl rfl
          refine Ev.br (fun h5 => ?_) (fun h5 => ?_)
          · refine Ev.go (st' := (84, [some (vR 39), some (vI x1), some (vI x2)], [vI ((f_M_layPaths a40 a43 a44 a45 a46).2.2.2 x1.toNatClampNeg)], wd κ (mM a40 a41 a42 (f_M_layPaths a40 a43 a44 a45 a46).1 (f_M_layPaths a40 a43 a44 a45 a46).2.1 (f_M_layPaths a40 a43 a44 a45 a46).2.2.1 (f_M_layPaths a40 a43 a44 a45 a46).2.2.2 a47 a48 a49 a50 v11 v12 v13 v14), (0, 0))) 5 rfl ⟨(((((hP.1.2 h1).1.1 h2).2.1.2 h3).2.2.1.1 h4).1.1 h5).1, trivial⟩ ?_
            exact Ev.wk (Lle.n (Lle.n (Lle.n Lle.z))) (Ev.to kJ5 (by simp only [iF_pos h5]))
          · refine Ev.go (st' := (if ((f_M_layPaths a40 a43 a44 a45 a46).2.2.2 x1.toNatClampNeg) ≤ x2 then 82 else 68, [some (vR 39), some (vI x1), some (vI x2)], [], wd κ (mM a40 a41 a42 (f_M_layPaths a40 a43 a44 a45 a46).1 (f_M_layPaths a40 a43 a44 a45 a46).2.1 (f_M_layPaths a40 a43 a44 a45 a46).2.2.1 (f_M_layPaths a40 a43 a44 a45 a46).2.2.2 a47 a48 a49 a50 v11 v12 v13 v14), (0, 0))) 6 rfl ⟨(((((hP.1.2 h1).1.1 h2).2.1.2 h3).2.2.1.1 h4).1.2 h5).1, trivial⟩ ?_
            have kJ6 : Ev none 67 (84, [none, none, none], [vI (iF (((f_M_layPaths a40 a43 a44 a45 a46).2.2.2 x1.toNatClampNeg) ≤ x2) (-6 : Int32) ((f_M_layPaths a40 a43 a44 a45 a46).2.2.1 (((8 : Int32) * x1) + x2).toNatClampNeg))], wd κ (mM a40 a41 a42 (f_M_layPaths a40 a43 a44 a45 a46).1 (f_M_layPaths a40 a43 a44 a45 a46).2.1 (f_M_layPaths a40 a43 a44 a45 a46).2.2.1 (f_M_layPaths a40 a43 a44 a45 a46).2.2.2 a47 a48 a49 a50 v11 v12 v13 v14), (0, 0)) r := by
              exact Ev.wk (Lle.n (Lle.n (Lle.n Lle.z))) (Ev.to kJ5 (by simp only [iF_neg h5]))
            refine Ev.br (fun h6 => ?_) (fun h6 => ?_)
            · refine Ev.go (st' := (84, [some (vR 39), some (vI x1), some (vI x2)], [vI (-6 : Int32)], wd κ (mM a40 a41 a42 (f_M_layPaths a40 a43 a44 a45 a46).1 (f_M_layPaths a40 a43 a44 a45 a46).2.1 (f_M_layPaths a40 a43 a44 a45 a46).2.2.1 (f_M_layPaths a40 a43 a44 a45 a46).2.2.2 a47 a48 a49 a50 v11 v12 v13 v14), (0, 0))) 1 rfl trivial ?_
              exact Ev.wk (Lle.n (Lle.n (Lle.n Lle.z))) (Ev.to kJ6 (by simp only [iF_pos h6]))
            · refine Ev.go (st' := (84, [some (vR 39), some (vI x1), some (vI x2)], [vI ((f_M_layPaths a40 a43 a44 a45 a46).2.2.1 (((8 : Int32) * x1) + x2).toNatClampNeg)], wd κ (mM a40 a41 a42 (f_M_layPaths a40 a43 a44 a45 a46).1 (f_M_layPaths a40 a43 a44 a45 a46).2.1 (f_M_layPaths a40 a43 a44 a45 a46).2.2.1 (f_M_layPaths a40 a43 a44 a45 a46).2.2.2 a47 a48 a49 a50 v11 v12 v13 v14), (0, 0))) 9 rfl ⟨((((((hP.1.2 h1).1.1 h2).2.1.2 h3).2.2.1.1 h4).1.2 h5).2.1.2 h6).1, trivial⟩ ?_
              exact Ev.wk (Lle.n (Lle.n (Lle.n Lle.z))) (Ev.to kJ6 (by simp only [iF_neg h6]))
        · refine Ev.go (st' := (43, [some (vR 39), some (vI x1), some (vI x2)], [vI (-5 : Int32)], wd κ (mM a40 a41 a42 (f_M_layPaths a40 a43 a44 a45 a46).1 (f_M_layPaths a40 a43 a44 a45 a46).2.1 (f_M_layPaths a40 a43 a44 a45 a46).2.2.1 (f_M_layPaths a40 a43 a44 a45 a46).2.2.2 a47 a48 a49 a50 v11 v12 v13 v14), (0, 0))) 1 rfl trivial ?_
          rw [hK] at k
          have k3 : (some (-5 : Int32), wd κ (mM a40 a41 a42 (f_M_layPaths a40 a43 a44 a45 a46).1 (f_M_layPaths a40 a43 a44 a45 a46).2.1 (f_M_layPaths a40 a43 a44 a45 a46).2.2.1 (f_M_layPaths a40 a43 a44 a45 a46).2.2.2 a47 a48 a49 a50 v11 v12 v13 v14)) = r := k
          rw [← k3]
          exact Ev.ireti rfl rfl
    · refine Ev.go (st' := (16, [some (vR 39), some (vI x1), some (vI x2)], [vI (-2 : Int32)], wd κ (mM a40 a41 a42 a43 a44 a45 a46 a47 a48 a49 a50 v11 v12 v13 v14), (0, 0))) 1 rfl trivial ?_
      rw [hK] at k
      have k3 : (some (-2 : Int32), wd κ (mM a40 a41 a42 a43 a44 a45 a46 a47 a48 a49 a50 v11 v12 v13 v14)) = r := k
      rw [← k3]
      exact Ev.ireti rfl rfl
/-! OF MeshNames.over(II)I -/
noncomputable def f_C_over (x1 : Int32) (x2 : Int32) (upSet : Int32) (lengths : Nat → Int32) (places : Nat → Int32) : Int32 := (iF ((f_C_isNode x1) = 0) (-1 : Int32) (iF ((f_C_isNode x2) = 0) (-1 : Int32) (iF ((f_Mesh_isUp x1 upSet) = 0) (-3 : Int32) (iF ((f_Paths_isLaid x1 lengths) = 0) (-5 : Int32) (iF ((f_Paths_goesOver x1 x2 places) = 0) (0 : Int32) (1 : Int32))))))
def P_C_over (x1 : Int32) (x2 : Int32) (upSet : Int32) (lengths : Nat → Int32) (places : Nat → Int32) : Prop := (((f_C_isNode x1) = 0 → True) ∧ (¬ ((f_C_isNode x1) = 0) → ((((f_C_isNode x2) = 0 → True) ∧ (¬ ((f_C_isNode x2) = 0) → ((((f_Mesh_isUp x1 upSet) = 0 → True) ∧ (¬ ((f_Mesh_isUp x1 upSet) = 0) → ((P_Paths_isLaid x1 lengths) ∧ (((f_Paths_isLaid x1 lengths) = 0 → True) ∧ (¬ ((f_Paths_isLaid x1 lengths) = 0) → ((P_Paths_goesOver x1 x2 places) ∧ True))) ∧ True))) ∧ True))) ∧ True))) ∧ True
set_option maxRecDepth 8000 in
set_option maxHeartbeats 4000000 in
theorem e_C_over_0 (a2 a3 a5 a6 a7 a8 a9 a10 a11 a13 a15 a19 a20 a21 a22 a23 a24 a25 a26 a27 a30 a31 a32 a33 a34 a35 a36 a37 a38 : Nat → Int32) (v0 v1 v2 v3 v4 v5 v6 v7 v8 v9 v10 : Int32) (md : AW) (x1 x2 : Int32) (hP : P_C_over x1 x2 v1 a9 a11)  : Ev none 68 (0, [some (vR 0), some (vI x1), some (vI x2)], [], wC a2 a3 a5 a6 a7 a8 a9 a10 a11 a13 a15 a19 a20 a21 a22 a23 a24 a25 a26 a27 a30 a31 a32 a33 a34 a35 a36 a37 a38 v0 v1 v2 v3 v4 v5 v6 v7 v8 v9 v10 md, (0, 0)) (some (f_C_over x1 x2 v1 a9 a11), wC a2 a3 a5 a6 a7 a8 a9 a10 a11 a13 a15 a19 a20 a21 a22 a23 a24 a25 a26 a27 a30 a31 a32 a33 a34 a35 a36 a37 a38 v0 v1 v2 v3 v4 v5 v6 v7 v8 v9 v10 md) := by
  suffices hh : ∀ (r : Option Int32 × AW) (K : (Int32) → Prop), K = (fun o : Int32 => (some o, wC a2 a3 a5 a6 a7 a8 a9 a10 a11 a13 a15 a19 a20 a21 a22 a23 a24 a25 a26 a27 a30 a31 a32 a33 a34 a35 a36 a37 a38 v0 v1 v2 v3 v4 v5 v6 v7 v8 v9 v10 md) = r) → K (iF ((f_C_isNode x1) = 0) (-1 : Int32) (iF ((f_C_isNode x2) = 0) (-1 : Int32) (iF ((f_Mesh_isUp x1 v1) = 0) (-3 : Int32) (iF ((f_Paths_isLaid x1 a9) = 0) (-5 : Int32) (iF ((f_Paths_goesOver x1 x2 a11) = 0) (0 : Int32) (1 : Int32)))))) → Ev none 68 (0, [some (vR 0), some (vI x1), some (vI x2)], [], wC a2 a3 a5 a6 a7 a8 a9 a10 a11 a13 a15 a19 a20 a21 a22 a23 a24 a25 a26 a27 a30 a31 a32 a33 a34 a35 a36 a37 a38 v0 v1 v2 v3 v4 v5 v6 v7 v8 v9 v10 md, (0, 0)) r from hh _ _ rfl rfl
  intro r K hK k
  refine Ev.go (st' := (1, [some (vR 0), some (vI x1), some (vI x2)], [vI x1], wC a2 a3 a5 a6 a7 a8 a9 a10 a11 a13 a15 a19 a20 a21 a22 a23 a24 a25 a26 a27 a30 a31 a32 a33 a34 a35 a36 a37 a38 v0 v1 v2 v3 v4 v5 v6 v7 v8 v9 v10 md, (0, 0))) 1 rfl trivial ?_
  refine Ev.callI (a := 14) (As := [vI x1]) [] (f_C_isNode x1) (wC a2 a3 a5 a6 a7 a8 a9 a10 a11 a13 a15 a19 a20 a21 a22 a23 a24 a25 a26 a27 a30 a31 a32 a33 a34 a35 a36 a37 a38 v0 v1 v2 v3 v4 v5 v6 v7 v8 v9 v10 md) rfl (e_C_isNode (wC a2 a3 a5 a6 a7 a8 a9 a10 a11 a13 a15 a19 a20 a21 a22 a23 a24 a25 a26 a27 a30 a31 a32 a33 a34 a35 a36 a37 a38 v0 v1 v2 v3 v4 v5 v6 v7 v8 v9 v10 md) x1) ?_
  refine Ev.go (st' := (if (f_C_isNode x1) = 0 then 14 else 7, [some (vR 0), some (vI x1), some (vI x2)], [], wC a2 a3 a5 a6 a7 a8 a9 a10 a11 a13 a15 a19 a20 a21 a22 a23 a24 a25 a26 a27 a30 a31 a32 a33 a34 a35 a36 a37 a38 v0 v1 v2 v3 v4 v5 v6 v7 v8 v9 v10 md, (0, 0))) 1 rfl trivial ?_
  refine Ev.brK (K := K) k (fun h1 k => ?_) (fun h1 k => ?_)
  · refine Ev.go (st' := (15, [some (vR 0), some (vI x1), some (vI x2)], [vI (-1 : Int32)], wC a2 a3 a5 a6 a7 a8 a9 a10 a11 a13 a15 a19 a20 a21 a22 a23 a24 a25 a26 a27 a30 a31 a32 a33 a34 a35 a36 a37 a38 v0 v1 v2 v3 v4 v5 v6 v7 v8 v9 v10 md, (0, 0))) 1 rfl trivial ?_
    rw [hK] at k
    have k3 : (some (-1 : Int32), wC a2 a3 a5 a6 a7 a8 a9 a10 a11 a13 a15 a19 a20 a21 a22 a23 a24 a25 a26 a27 a30 a31 a32 a33 a34 a35 a36 a37 a38 v0 v1 v2 v3 v4 v5 v6 v7 v8 v9 v10 md) = r := k
    rw [← k3]
    exact Ev.ireti rfl rfl
  · refine Ev.go (st' := (8, [some (vR 0), some (vI x1), some (vI x2)], [vI x2], wC a2 a3 a5 a6 a7 a8 a9 a10 a11 a13 a15 a19 a20 a21 a22 a23 a24 a25 a26 a27 a30 a31 a32 a33 a34 a35 a36 a37 a38 v0 v1 v2 v3 v4 v5 v6 v7 v8 v9 v10 md, (0, 0))) 1 rfl trivial ?_
    refine Ev.callI (a := 14) (As := [vI x2]) [] (f_C_isNode x2) (wC a2 a3 a5 a6 a7 a8 a9 a10 a11 a13 a15 a19 a20 a21 a22 a23 a24 a25 a26 a27 a30 a31 a32 a33 a34 a35 a36 a37 a38 v0 v1 v2 v3 v4 v5 v6 v7 v8 v9 v10 md) rfl (e_C_isNode (wC a2 a3 a5 a6 a7 a8 a9 a10 a11 a13 a15 a19 a20 a21 a22 a23 a24 a25 a26 a27 a30 a31 a32 a33 a34 a35 a36 a37 a38 v0 v1 v2 v3 v4 v5 v6 v7 v8 v9 v10 md) x2) ?_
    refine Ev.go (st' := (if (f_C_isNode x2) = 0 then 14 else 16, [some (vR 0), some (vI x1), some (vI x2)], [], wC a2 a3 a5 a6 a7 a8 a9 a10 a11 a13 a15 a19 a20 a21 a22 a23 a24 a25 a26 a27 a30 a31 a32 a33 a34 a35 a36 a37 a38 v0 v1 v2 v3 v4 v5 v6 v7 v8 v9 v10 md, (0, 0))) 1 rfl trivial ?_
    refine Ev.brK (K := K) k (fun h2 k => ?_) (fun h2 k => ?_)
    · refine Ev.go (st' := (15, [some (vR 0), some (vI x1), some (vI x2)], [vI (-1 : Int32)], wC a2 a3 a5 a6 a7 a8 a9 a10 a11 a13 a15 a19 a20 a21 a22 a23 a24 a25 a26 a27 a30 a31 a32 a33 a34 a35 a36 a37 a38 v0 v1 v2 v3 v4 v5 v6 v7 v8 v9 v10 md, (0, 0))) 1 rfl trivial ?_
      rw [hK] at k
      have k3 : (some (-1 : Int32), wC a2 a3 a5 a6 a7 a8 a9 a10 a11 a13 a15 a19 a20 a21 a22 a23 a24 a25 a26 a27 a30 a31 a32 a33 a34 a35 a36 a37 a38 v0 v1 v2 v3 v4 v5 v6 v7 v8 v9 v10 md) = r := k
      rw [← k3]
      exact Ev.ireti rfl rfl
    · refine Ev.go (st' := (21, [some (vR 0), some (vI x1), some (vI x2)], [vI x1, vR 1], wC a2 a3 a5 a6 a7 a8 a9 a10 a11 a13 a15 a19 a20 a21 a22 a23 a24 a25 a26 a27 a30 a31 a32 a33 a34 a35 a36 a37 a38 v0 v1 v2 v3 v4 v5 v6 v7 v8 v9 v10 md, (0, 0))) 3 rfl trivial ?_
      refine Ev.callI (a := 8) (As := [vR 1, vI x1]) [] (f_Mesh_isUp x1 v1) (wC a2 a3 a5 a6 a7 a8 a9 a10 a11 a13 a15 a19 a20 a21 a22 a23 a24 a25 a26 a27 a30 a31 a32 a33 a34 a35 a36 a37 a38 v0 v1 v2 v3 v4 v5 v6 v7 v8 v9 v10 md) rfl (e_Mesh_isUp_1 a2 a3 a5 a6 a7 a8 a9 a10 a11 a13 a15 a19 a20 a21 a22 a23 a24 a25 a26 a27 a30 a31 a32 a33 a34 a35 a36 a37 a38 v0 v1 v2 v3 v4 v5 v6 v7 v8 v9 v10 md x1) ?_
      refine Ev.go (st' := (if (f_Mesh_isUp x1 v1) = 0 then 27 else 30, [some (vR 0), some (vI x1), some (vI x2)], [], wC a2 a3 a5 a6 a7 a8 a9 a10 a11 a13 a15 a19 a20 a21 a22 a23 a24 a25 a26 a27 a30 a31 a32 a33 a34 a35 a36 a37 a38 v0 v1 v2 v3 v4 v5 v6 v7 v8 v9 v10 md, (0, 0))) 1 rfl trivial ?_
      refine Ev.brK (K := K) k (fun h3 k => ?_) (fun h3 k => ?_)
      · refine Ev.go (st' := (29, [some (vR 0), some (vI x1), some (vI x2)], [vI (-3 : Int32)], wC a2 a3 a5 a6 a7 a8 a9 a10 a11 a13 a15 a19 a20 a21 a22 a23 a24 a25 a26 a27 a30 a31 a32 a33 a34 a35 a36 a37 a38 v0 v1 v2 v3 v4 v5 v6 v7 v8 v9 v10 md, (0, 0))) 1 rfl trivial ?_
        rw [hK] at k
        have k3 : (some (-3 : Int32), wC a2 a3 a5 a6 a7 a8 a9 a10 a11 a13 a15 a19 a20 a21 a22 a23 a24 a25 a26 a27 a30 a31 a32 a33 a34 a35 a36 a37 a38 v0 v1 v2 v3 v4 v5 v6 v7 v8 v9 v10 md) = r := k
        rw [← k3]
        exact Ev.ireti rfl rfl
      · refine Ev.go (st' := (35, [some (vR 0), some (vI x1), some (vI x2)], [vI x1, vR 4], wC a2 a3 a5 a6 a7 a8 a9 a10 a11 a13 a15 a19 a20 a21 a22 a23 a24 a25 a26 a27 a30 a31 a32 a33 a34 a35 a36 a37 a38 v0 v1 v2 v3 v4 v5 v6 v7 v8 v9 v10 md, (0, 0))) 3 rfl trivial ?_
        refine Ev.callI (a := 64) (As := [vR 4, vI x1]) [] (f_Paths_isLaid x1 a9) (wC a2 a3 a5 a6 a7 a8 a9 a10 a11 a13 a15 a19 a20 a21 a22 a23 a24 a25 a26 a27 a30 a31 a32 a33 a34 a35 a36 a37 a38 v0 v1 v2 v3 v4 v5 v6 v7 v8 v9 v10 md) rfl (e_Paths_isLaid_4 a2 a3 a5 a6 a7 a8 a9 a10 a11 a13 a15 a19 a20 a21 a22 a23 a24 a25 a26 a27 a30 a31 a32 a33 a34 a35 a36 a37 a38 v0 v1 v2 v3 v4 v5 v6 v7 v8 v9 v10 md x1 (((hP.1.2 h1).1.2 h2).1.2 h3).1) ?_
        refine Ev.go (st' := (if (f_Paths_isLaid x1 a9) = 0 then 41 else 44, [some (vR 0), some (vI x1), some (vI x2)], [], wC a2 a3 a5 a6 a7 a8 a9 a10 a11 a13 a15 a19 a20 a21 a22 a23 a24 a25 a26 a27 a30 a31 a32 a33 a34 a35 a36 a37 a38 v0 v1 v2 v3 v4 v5 v6 v7 v8 v9 v10 md, (0, 0))) 1 rfl trivial ?_
        refine Ev.brK (K := K) k (fun h4 k => ?_) (fun h4 k => ?_)
        · refine Ev.go (st' := (43, [some (vR 0), some (vI x1), some (vI x2)], [vI (-5 : Int32)], wC a2 a3 a5 a6 a7 a8 a9 a10 a11 a13 a15 a19 a20 a21 a22 a23 a24 a25 a26 a27 a30 a31 a32 a33 a34 a35 a36 a37 a38 v0 v1 v2 v3 v4 v5 v6 v7 v8 v9 v10 md, (0, 0))) 1 rfl trivial ?_
          rw [hK] at k
          have k3 : (some (-5 : Int32), wC a2 a3 a5 a6 a7 a8 a9 a10 a11 a13 a15 a19 a20 a21 a22 a23 a24 a25 a26 a27 a30 a31 a32 a33 a34 a35 a36 a37 a38 v0 v1 v2 v3 v4 v5 v6 v7 v8 v9 v10 md) = r := k
          rw [← k3]
          exact Ev.ireti rfl rfl
        · refine Ev.go (st' := (50, [some (vR 0), some (vI x1), some (vI x2)], [vI x2, vI x1, vR 4], wC a2 a3 a5 a6 a7 a8 a9 a10 a11 a13 a15 a19 a20 a21 a22 a23 a24 a25 a26 a27 a30 a31 a32 a33 a34 a35 a36 a37 a38 v0 v1 v2 v3 v4 v5 v6 v7 v8 v9 v10 md, (0, 0))) 4 rfl trivial ?_
          refine Ev.callI (a := 42) (As := [vR 4, vI x1, vI x2]) [] (f_Paths_goesOver x1 x2 a11) (wC a2 a3 a5 a6 a7 a8 a9 a10 a11 a13 a15 a19 a20 a21 a22 a23 a24 a25 a26 a27 a30 a31 a32 a33 a34 a35 a36 a37 a38 v0 v1 v2 v3 v4 v5 v6 v7 v8 v9 v10 md) rfl (e_Paths_goesOver_4 a2 a3 a5 a6 a7 a8 a9 a10 a11 a13 a15 a19 a20 a21 a22 a23 a24 a25 a26 a27 a30 a31 a32 a33 a34 a35 a36 a37 a38 v0 v1 v2 v3 v4 v5 v6 v7 v8 v9 v10 md x1 x2 ((((hP.1.2 h1).1.2 h2).1.2 h3).2.1.2 h4).1) ?_
          refine Ev.go (st' := (if (f_Paths_goesOver x1 x2 a11) = 0 then 60 else 56, [some (vR 0), some (vI x1), some (vI x2)], [], wC a2 a3 a5 a6 a7 a8 a9 a10 a11 a13 a15 a19 a20 a21 a22 a23 a24 a25 a26 a27 a30 a31 a32 a33 a34 a35 a36 a37 a38 v0 v1 v2 v3 v4 v5 v6 v7 v8 v9 v10 md, (0, 0))) 1 rfl trivial ?_
          have kJ5 : Ev none 68 (61, [none, none, none], [vI (iF ((f_Paths_goesOver x1 x2 a11) = 0) (0 : Int32) (1 : Int32))], wC a2 a3 a5 a6 a7 a8 a9 a10 a11 a13 a15 a19 a20 a21 a22 a23 a24 a25 a26 a27 a30 a31 a32 a33 a34 a35 a36 a37 a38 v0 v1 v2 v3 v4 v5 v6 v7 v8 v9 v10 md, (0, 0)) r := by
            rw [hK] at k
            have k3 : (some (iF ((f_Paths_goesOver x1 x2 a11) = 0) (0 : Int32) (1 : Int32)), wC a2 a3 a5 a6 a7 a8 a9 a10 a11 a13 a15 a19 a20 a21 a22 a23 a24 a25 a26 a27 a30 a31 a32 a33 a34 a35 a36 a37 a38 v0 v1 v2 v3 v4 v5 v6 v7 v8 v9 v10 md) = r := k
            rw [← k3]
            exact Ev.ireti rfl rfl
          refine Ev.br (fun h5 => ?_) (fun h5 => ?_)
          · refine Ev.go (st' := (61, [some (vR 0), some (vI x1), some (vI x2)], [vI (0 : Int32)], wC a2 a3 a5 a6 a7 a8 a9 a10 a11 a13 a15 a19 a20 a21 a22 a23 a24 a25 a26 a27 a30 a31 a32 a33 a34 a35 a36 a37 a38 v0 v1 v2 v3 v4 v5 v6 v7 v8 v9 v10 md, (0, 0))) 1 rfl trivial ?_
            exact Ev.wk (Lle.n (Lle.n (Lle.n Lle.z))) (Ev.to kJ5 (by simp only [iF_pos h5]))
          · refine Ev.go (st' := (61, [some (vR 0), some (vI x1), some (vI x2)], [vI (1 : Int32)], wC a2 a3 a5 a6 a7 a8 a9 a10 a11 a13 a15 a19 a20 a21 a22 a23 a24 a25 a26 a27 a30 a31 a32 a33 a34 a35 a36 a37 a38 v0 v1 v2 v3 v4 v5 v6 v7 v8 v9 v10 md, (0, 0))) 2 rfl trivial ?_
            exact Ev.wk (Lle.n (Lle.n (Lle.n Lle.z))) (Ev.to kJ5 (by simp only [iF_neg h5]))
/-! OF MeshNamesModel.over(II)I -/
noncomputable def f_M_over (x1 : Int32) (x2 : Int32) (steps : Nat → Int32) (next_ : Nat → Int32) (row : Nat → Int32) (rowMany : Nat → Int32) (state_ : Nat → Int32) : Int32 × (Nat → Int32) × (Nat → Int32) × (Nat → Int32) × (Nat → Int32) := (iF ((f_M_isNode x1) = 0) ((-1 : Int32), steps, next_, row, rowMany) (iF ((f_M_isNode x2) = 0) ((-1 : Int32), steps, next_, row, rowMany) (iF ((f_M_isUp x1 state_) = 0) ((-3 : Int32), steps, next_, row, rowMany) (iF (0 ≤ ((f_M_layPaths state_ steps next_ row rowMany).2.1 x1.toNatClampNeg)) ((iF ((f_M_placeIn x1 x2 (f_M_layPaths state_ steps next_ row rowMany).2.2.2 (f_M_layPaths state_ steps next_ row rowMany).2.2.1) < 0) (0 : Int32) (1 : Int32)), (f_M_layPaths state_ steps next_ row rowMany).1, (f_M_layPaths state_ steps next_ row rowMany).2.1, (f_M_layPaths state_ steps next_ row rowMany).2.2.1, (f_M_layPaths state_ steps next_ row rowMany).2.2.2) ((-5 : Int32), (f_M_layPaths state_ steps next_ row rowMany).1, (f_M_layPaths state_ steps next_ row rowMany).2.1, (f_M_layPaths state_ steps next_ row rowMany).2.2.1, (f_M_layPaths state_ steps next_ row rowMany).2.2.2)))))
def P_M_over (x1 : Int32) (x2 : Int32) (steps : Nat → Int32) (next_ : Nat → Int32) (row : Nat → Int32) (rowMany : Nat → Int32) (state_ : Nat → Int32) : Prop := (((f_M_isNode x1) = 0 → True) ∧ (¬ ((f_M_isNode x1) = 0) → ((((f_M_isNode x2) = 0 → True) ∧ (¬ ((f_M_isNode x2) = 0) → ((P_M_isUp x1 state_) ∧ (((f_M_isUp x1 state_) = 0 → True) ∧ (¬ ((f_M_isUp x1 state_) = 0) → ((P_M_layPaths state_ steps next_ row rowMany) ∧ vp_in x1 8 ∧ ((0 ≤ ((f_M_layPaths state_ steps next_ row rowMany).2.1 x1.toNatClampNeg) → ((P_M_placeIn x1 x2 (f_M_layPaths state_ steps next_ row rowMany).2.2.2 (f_M_layPaths state_ steps next_ row rowMany).2.2.1) ∧ True)) ∧ (¬ (0 ≤ ((f_M_layPaths state_ steps next_ row rowMany).2.1 x1.toNatClampNeg)) → True)) ∧ True))) ∧ True))) ∧ True))) ∧ True
set_option maxRecDepth 8000 in
set_option maxHeartbeats 4000000 in
theorem e_M_over_39 (κ : Sg) (a40 a41 a42 a43 a44 a45 a46 a47 a48 a49 a50 : Nat → Int32) (v11 v12 v13 v14 : Int32) (x1 x2 : Int32) (hP : P_M_over x1 x2 a43 a44 a45 a46 a40)  : Ev none 69 (0, [some (vR 39), some (vI x1), some (vI x2)], [], wd κ (mM a40 a41 a42 a43 a44 a45 a46 a47 a48 a49 a50 v11 v12 v13 v14), (0, 0)) (some (f_M_over x1 x2 a43 a44 a45 a46 a40).1, wd κ (mM a40 a41 a42 (f_M_over x1 x2 a43 a44 a45 a46 a40).2.1 (f_M_over x1 x2 a43 a44 a45 a46 a40).2.2.1 (f_M_over x1 x2 a43 a44 a45 a46 a40).2.2.2.1 (f_M_over x1 x2 a43 a44 a45 a46 a40).2.2.2.2 a47 a48 a49 a50 v11 v12 v13 v14)) := by
  suffices hh : ∀ (r : Option Int32 × AW) (K : (Int32 × (Nat → Int32) × (Nat → Int32) × (Nat → Int32) × (Nat → Int32)) → Prop), K = (fun o : Int32 × (Nat → Int32) × (Nat → Int32) × (Nat → Int32) × (Nat → Int32) => (some o.1, wd κ (mM a40 a41 a42 o.2.1 o.2.2.1 o.2.2.2.1 o.2.2.2.2 a47 a48 a49 a50 v11 v12 v13 v14)) = r) → K (iF ((f_M_isNode x1) = 0) ((-1 : Int32), a43, a44, a45, a46) (iF ((f_M_isNode x2) = 0) ((-1 : Int32), a43, a44, a45, a46) (iF ((f_M_isUp x1 a40) = 0) ((-3 : Int32), a43, a44, a45, a46) (iF (0 ≤ ((f_M_layPaths a40 a43 a44 a45 a46).2.1 x1.toNatClampNeg)) ((iF ((f_M_placeIn x1 x2 (f_M_layPaths a40 a43 a44 a45 a46).2.2.2 (f_M_layPaths a40 a43 a44 a45 a46).2.2.1) < 0) (0 : Int32) (1 : Int32)), (f_M_layPaths a40 a43 a44 a45 a46).1, (f_M_layPaths a40 a43 a44 a45 a46).2.1, (f_M_layPaths a40 a43 a44 a45 a46).2.2.1, (f_M_layPaths a40 a43 a44 a45 a46).2.2.2) ((-5 : Int32), (f_M_layPaths a40 a43 a44 a45 a46).1, (f_M_layPaths a40 a43 a44 a45 a46).2.1, (f_M_layPaths a40 a43 a44 a45 a46).2.2.1, (f_M_layPaths a40 a43 a44 a45 a46).2.2.2))))) → Ev none 69 (0, [some (vR 39), some (vI x1), some (vI x2)], [], wd κ (mM a40 a41 a42 a43 a44 a45 a46 a47 a48 a49 a50 v11 v12 v13 v14), (0, 0)) r from hh _ _ rfl rfl
  intro r K hK k
  refine Ev.go (st' := (1, [some (vR 39), some (vI x1), some (vI x2)], [vI x1], wd κ (mM a40 a41 a42 a43 a44 a45 a46 a47 a48 a49 a50 v11 v12 v13 v14), (0, 0))) 1 rfl trivial ?_
  refine Ev.callI (a := 26) (As := [vI x1]) [] (f_M_isNode x1) (wd κ (mM a40 a41 a42 a43 a44 a45 a46 a47 a48 a49 a50 v11 v12 v13 v14)) rfl (e_M_isNode (wd κ (mM a40 a41 a42 a43 a44 a45 a46 a47 a48 a49 a50 v11 v12 v13 v14)) x1) ?_
  refine Ev.go (st' := (if (f_M_isNode x1) = 0 then 14 else 7, [some (vR 39), some (vI x1), some (vI x2)], [], wd κ (mM a40 a41 a42 a43 a44 a45 a46 a47 a48 a49 a50 v11 v12 v13 v14), (0, 0))) 1 rfl trivial ?_
  refine Ev.brK (K := K) k (fun h1 k => ?_) (fun h1 k => ?_)
  · refine Ev.go (st' := (15, [some (vR 39), some (vI x1), some (vI x2)], [vI (-1 : Int32)], wd κ (mM a40 a41 a42 a43 a44 a45 a46 a47 a48 a49 a50 v11 v12 v13 v14), (0, 0))) 1 rfl trivial ?_
    rw [hK] at k
    have k3 : (some (-1 : Int32), wd κ (mM a40 a41 a42 a43 a44 a45 a46 a47 a48 a49 a50 v11 v12 v13 v14)) = r := k
    rw [← k3]
    exact Ev.ireti rfl rfl
  · refine Ev.go (st' := (8, [some (vR 39), some (vI x1), some (vI x2)], [vI x2], wd κ (mM a40 a41 a42 a43 a44 a45 a46 a47 a48 a49 a50 v11 v12 v13 v14), (0, 0))) 1 rfl trivial ?_
    refine Ev.callI (a := 26) (As := [vI x2]) [] (f_M_isNode x2) (wd κ (mM a40 a41 a42 a43 a44 a45 a46 a47 a48 a49 a50 v11 v12 v13 v14)) rfl (e_M_isNode (wd κ (mM a40 a41 a42 a43 a44 a45 a46 a47 a48 a49 a50 v11 v12 v13 v14)) x2) ?_
    refine Ev.go (st' := (if (f_M_isNode x2) = 0 then 14 else 16, [some (vR 39), some (vI x1), some (vI x2)], [], wd κ (mM a40 a41 a42 a43 a44 a45 a46 a47 a48 a49 a50 v11 v12 v13 v14), (0, 0))) 1 rfl trivial ?_
    refine Ev.brK (K := K) k (fun h2 k => ?_) (fun h2 k => ?_)
    · refine Ev.go (st' := (15, [some (vR 39), some (vI x1), some (vI x2)], [vI (-1 : Int32)], wd κ (mM a40 a41 a42 a43 a44 a45 a46 a47 a48 a49 a50 v11 v12 v13 v14), (0, 0))) 1 rfl trivial ?_
      rw [hK] at k
      have k3 : (some (-1 : Int32), wd κ (mM a40 a41 a42 a43 a44 a45 a46 a47 a48 a49 a50 v11 v12 v13 v14)) = r := k
      rw [← k3]
      exact Ev.ireti rfl rfl
    · refine Ev.go (st' := (18, [some (vR 39), some (vI x1), some (vI x2)], [vI x1, vR 39], wd κ (mM a40 a41 a42 a43 a44 a45 a46 a47 a48 a49 a50 v11 v12 v13 v14), (0, 0))) 2 rfl trivial ?_
      refine Ev.callI (a := 28) (As := [vR 39, vI x1]) [] (f_M_isUp x1 a40) (wd κ (mM a40 a41 a42 a43 a44 a45 a46 a47 a48 a49 a50 v11 v12 v13 v14)) rfl (e_M_isUp_39 κ a40 a41 a42 a43 a44 a45 a46 a47 a48 a49 a50 v11 v12 v13 v14 x1 ((hP.1.2 h1).1.2 h2).1) ?_
      refine Ev.go (st' := (if (f_M_isUp x1 a40) = 0 then 24 else 27, [some (vR 39), some (vI x1), some (vI x2)], [], wd κ (mM a40 a41 a42 a43 a44 a45 a46 a47 a48 a49 a50 v11 v12 v13 v14), (0, 0))) 1 rfl trivial ?_
      refine Ev.brK (K := K) k (fun h3 k => ?_) (fun h3 k => ?_)
      · refine Ev.go (st' := (26, [some (vR 39), some (vI x1), some (vI x2)], [vI (-3 : Int32)], wd κ (mM a40 a41 a42 a43 a44 a45 a46 a47 a48 a49 a50 v11 v12 v13 v14), (0, 0))) 1 rfl trivial ?_
        rw [hK] at k
        have k3 : (some (-3 : Int32), wd κ (mM a40 a41 a42 a43 a44 a45 a46 a47 a48 a49 a50 v11 v12 v13 v14)) = r := k
        rw [← k3]
        exact Ev.ireti rfl rfl
      · refine Ev.go (st' := (28, [some (vR 39), some (vI x1), some (vI x2)], [vR 39], wd κ (mM a40 a41 a42 a43 a44 a45 a46 a47 a48 a49 a50 v11 v12 v13 v14), (0, 0))) 1 rfl trivial ?_
        refine Ev.callV (a := 55) (As := [vR 39]) [] (wd κ (mM a40 a41 a42 (f_M_layPaths a40 a43 a44 a45 a46).1 (f_M_layPaths a40 a43 a44 a45 a46).2.1 (f_M_layPaths a40 a43 a44 a45 a46).2.2.1 (f_M_layPaths a40 a43 a44 a45 a46).2.2.2 a47 a48 a49 a50 v11 v12 v13 v14)) rfl (e_M_layPaths_39 κ a40 a41 a42 a43 a44 a45 a46 a47 a48 a49 a50 v11 v12 v13 v14 (((hP.1.2 h1).1.2 h2).2.1.2 h3).1) ?_
        refine Ev.go (st' := (if 0 ≤ ((f_M_layPaths a40 a43 a44 a45 a46).2.1 x1.toNatClampNeg) then 43 else 40, [some (vR 39), some (vI x1), some (vI x2)], [], wd κ (mM a40 a41 a42 (f_M_layPaths a40 a43 a44 a45 a46).1 (f_M_layPaths a40 a43 a44 a45 a46).2.1 (f_M_layPaths a40 a43 a44 a45 a46).2.2.1 (f_M_layPaths a40 a43 a44 a45 a46).2.2.2 a47 a48 a49 a50 v11 v12 v13 v14), (0, 0))) 5 rfl ⟨(((hP.1.2 h1).1.2 h2).2.1.2 h3).2.1, trivial⟩ ?_
        refine Ev.brK (K := K) k (fun h4 k => ?_) (fun h4 k => ?_)
        · refine Ev.go (st' := (46, [some (vR 39), some (vI x1), some (vI x2)], [vI x2, vI x1, vR 39], wd κ (mM a40 a41 a42 (f_M_layPaths a40 a43 a44 a45 a46).1 (f_M_layPaths a40 a43 a44 a45 a46).2.1 (f_M_layPaths a40 a43 a44 a45 a46).2.2.1 (f_M_layPaths a40 a43 a44 a45 a46).2.2.2 a47 a48 a49 a50 v11 v12 v13 v14), (0, 0))) 3 rfl trivial ?_
          refine Ev.callI (a := 59) (As := [vR 39, vI x1, vI x2]) [] (f_M_placeIn x1 x2 (f_M_layPaths a40 a43 a44 a45 a46).2.2.2 (f_M_layPaths a40 a43 a44 a45 a46).2.2.1) (wd κ (mM a40 a41 a42 (f_M_layPaths a40 a43 a44 a45 a46).1 (f_M_layPaths a40 a43 a44 a45 a46).2.1 (f_M_layPaths a40 a43 a44 a45 a46).2.2.1 (f_M_layPaths a40 a43 a44 a45 a46).2.2.2 a47 a48 a49 a50 v11 v12 v13 v14)) rfl (e_M_placeIn_39 κ a40 a41 a42 (f_M_layPaths a40 a43 a44 a45 a46).1 (f_M_layPaths a40 a43 a44 a45 a46).2.1 (f_M_layPaths a40 a43 a44 a45 a46).2.2.1 (f_M_layPaths a40 a43 a44 a45 a46).2.2.2 a47 a48 a49 a50 v11 v12 v13 v14 x1 x2 ((((hP.1.2 h1).1.2 h2).2.1.2 h3).2.2.1.1 h4).1) ?_
          refine Ev.go (st' := (if (f_M_placeIn x1 x2 (f_M_layPaths a40 a43 a44 a45 a46).2.2.2 (f_M_layPaths a40 a43 a44 a45 a46).2.2.1) < 0 then 56 else 52, [some (vR 39), some (vI x1), some (vI x2)], [], wd κ (mM a40 a41 a42 (f_M_layPaths a40 a43 a44 a45 a46).1 (f_M_layPaths a40 a43 a44 a45 a46).2.1 (f_M_layPaths a40 a43 a44 a45 a46).2.2.1 (f_M_layPaths a40 a43 a44 a45 a46).2.2.2 a47 a48 a49 a50 v11 v12 v13 v14), (0, 0))) 1 rfl trivial ?_
          have kJ5 : Ev none 69 (57, [none, none, none], [vI (iF ((f_M_placeIn x1 x2 (f_M_layPaths a40 a43 a44 a45 a46).2.2.2 (f_M_layPaths a40 a43 a44 a45 a46).2.2.1) < 0) (0 : Int32) (1 : Int32))], wd κ (mM a40 a41 a42 (f_M_layPaths a40 a43 a44 a45 a46).1 (f_M_layPaths a40 a43 a44 a45 a46).2.1 (f_M_layPaths a40 a43 a44 a45 a46).2.2.1 (f_M_layPaths a40 a43 a44 a45 a46).2.2.2 a47 a48 a49 a50 v11 v12 v13 v14), (0, 0)) r := by
            rw [hK] at k
            have k3 : (some (iF ((f_M_placeIn x1 x2 (f_M_layPaths a40 a43 a44 a45 a46).2.2.2 (f_M_layPaths a40 a43 a44 a45 a46).2.2.1) < 0) (0 : Int32) (1 : Int32)), wd κ (mM a40 a41 a42 (f_M_layPaths a40 a43 a44 a45 a46).1 (f_M_layPaths a40 a43 a44 a45 a46).2.1 (f_M_layPaths a40 a43 a44 a45 a46).2.2.1 (f_M_layPaths a40 a43 a44 a45 a46).2.2.2 a47 a48 a49 a50 v11 v12 v13 v14)) = r := k
            rw [← k3]
            exact Ev.ireti rfl rfl
          refine Ev.br (fun h5 => ?_) (fun h5 => ?_)
          · refine Ev.go (st' := (57, [some (vR 39), some (vI x1), some (vI x2)], [vI (0 : Int32)], wd κ (mM a40 a41 a42 (f_M_layPaths a40 a43 a44 a45 a46).1 (f_M_layPaths a40 a43 a44 a45 a46).2.1 (f_M_layPaths a40 a43 a44 a45 a46).2.2.1 (f_M_layPaths a40 a43 a44 a45 a46).2.2.2 a47 a48 a49 a50 v11 v12 v13 v14), (0, 0))) 1 rfl trivial ?_
            exact Ev.wk (Lle.n (Lle.n (Lle.n Lle.z))) (Ev.to kJ5 (by simp only [iF_pos h5]))
          · refine Ev.go (st' := (57, [some (vR 39), some (vI x1), some (vI x2)], [vI (1 : Int32)], wd κ (mM a40 a41 a42 (f_M_layPaths a40 a43 a44 a45 a46).1 (f_M_layPaths a40 a43 a44 a45 a46).2.1 (f_M_layPaths a40 a43 a44 a45 a46).2.2.1 (f_M_layPaths a40 a43 a44 a45 a46).2.2.2 a47 a48 a49 a50 v11 v12 v13 v14), (0, 0))) 2 rfl trivial ?_
            exact Ev.wk (Lle.n (Lle.n (Lle.n Lle.z))) (Ev.to kJ5 (by simp only [iF_neg h5]))
        · refine Ev.go (st' := (42, [some (vR 39), some (vI x1), some (vI x2)], [vI (-5 : Int32)], wd κ (mM a40 a41 a42 (f_M_layPaths a40 a43 a44 a45 a46).1 (f_M_layPaths a40 a43 a44 a45 a46).2.1 (f_M_layPaths a40 a43 a44 a45 a46).2.2.1 (f_M_layPaths a40 a43 a44 a45 a46).2.2.2 a47 a48 a49 a50 v11 v12 v13 v14), (0, 0))) 1 rfl trivial ?_
          rw [hK] at k
          have k3 : (some (-5 : Int32), wd κ (mM a40 a41 a42 (f_M_layPaths a40 a43 a44 a45 a46).1 (f_M_layPaths a40 a43 a44 a45 a46).2.1 (f_M_layPaths a40 a43 a44 a45 a46).2.2.1 (f_M_layPaths a40 a43 a44 a45 a46).2.2.2 a47 a48 a49 a50 v11 v12 v13 v14)) = r := k
          rw [← k3]
          exact Ev.ireti rfl rfl
/-! OF MeshNames.refusePacket(II)I -/
noncomputable def f_C_refusePacket (x1 : Int32) (x2 : Int32) (upSet : Int32) : Int32 := (iF ((f_C_isNode x1) = 0) (-1 : Int32) (iF ((f_C_isName x2) = 0) (-2 : Int32) (iF ((f_Mesh_isUp x1 upSet) = 0) (-3 : Int32) (0 : Int32))))
set_option maxRecDepth 8000 in
set_option maxHeartbeats 4000000 in
theorem e_C_refusePacket_0 (a2 a3 a5 a6 a7 a8 a9 a10 a11 a13 a15 a19 a20 a21 a22 a23 a24 a25 a26 a27 a30 a31 a32 a33 a34 a35 a36 a37 a38 : Nat → Int32) (v0 v1 v2 v3 v4 v5 v6 v7 v8 v9 v10 : Int32) (md : AW) (x1 x2 : Int32)  : Ev none 70 (0, [some (vR 0), some (vI x1), some (vI x2)], [], wC a2 a3 a5 a6 a7 a8 a9 a10 a11 a13 a15 a19 a20 a21 a22 a23 a24 a25 a26 a27 a30 a31 a32 a33 a34 a35 a36 a37 a38 v0 v1 v2 v3 v4 v5 v6 v7 v8 v9 v10 md, (0, 0)) (some (f_C_refusePacket x1 x2 v1), wC a2 a3 a5 a6 a7 a8 a9 a10 a11 a13 a15 a19 a20 a21 a22 a23 a24 a25 a26 a27 a30 a31 a32 a33 a34 a35 a36 a37 a38 v0 v1 v2 v3 v4 v5 v6 v7 v8 v9 v10 md) := by
  suffices hh : ∀ (r : Option Int32 × AW) (K : (Int32) → Prop), K = (fun o : Int32 => (some o, wC a2 a3 a5 a6 a7 a8 a9 a10 a11 a13 a15 a19 a20 a21 a22 a23 a24 a25 a26 a27 a30 a31 a32 a33 a34 a35 a36 a37 a38 v0 v1 v2 v3 v4 v5 v6 v7 v8 v9 v10 md) = r) → K (iF ((f_C_isNode x1) = 0) (-1 : Int32) (iF ((f_C_isName x2) = 0) (-2 : Int32) (iF ((f_Mesh_isUp x1 v1) = 0) (-3 : Int32) (0 : Int32)))) → Ev none 70 (0, [some (vR 0), some (vI x1), some (vI x2)], [], wC a2 a3 a5 a6 a7 a8 a9 a10 a11 a13 a15 a19 a20 a21 a22 a23 a24 a25 a26 a27 a30 a31 a32 a33 a34 a35 a36 a37 a38 v0 v1 v2 v3 v4 v5 v6 v7 v8 v9 v10 md, (0, 0)) r from hh _ _ rfl rfl
  intro r K hK k
  refine Ev.go (st' := (1, [some (vR 0), some (vI x1), some (vI x2)], [vI x1], wC a2 a3 a5 a6 a7 a8 a9 a10 a11 a13 a15 a19 a20 a21 a22 a23 a24 a25 a26 a27 a30 a31 a32 a33 a34 a35 a36 a37 a38 v0 v1 v2 v3 v4 v5 v6 v7 v8 v9 v10 md, (0, 0))) 1 rfl trivial ?_
  refine Ev.callI (a := 14) (As := [vI x1]) [] (f_C_isNode x1) (wC a2 a3 a5 a6 a7 a8 a9 a10 a11 a13 a15 a19 a20 a21 a22 a23 a24 a25 a26 a27 a30 a31 a32 a33 a34 a35 a36 a37 a38 v0 v1 v2 v3 v4 v5 v6 v7 v8 v9 v10 md) rfl (e_C_isNode (wC a2 a3 a5 a6 a7 a8 a9 a10 a11 a13 a15 a19 a20 a21 a22 a23 a24 a25 a26 a27 a30 a31 a32 a33 a34 a35 a36 a37 a38 v0 v1 v2 v3 v4 v5 v6 v7 v8 v9 v10 md) x1) ?_
  refine Ev.go (st' := (if (f_C_isNode x1) = 0 then 7 else 9, [some (vR 0), some (vI x1), some (vI x2)], [], wC a2 a3 a5 a6 a7 a8 a9 a10 a11 a13 a15 a19 a20 a21 a22 a23 a24 a25 a26 a27 a30 a31 a32 a33 a34 a35 a36 a37 a38 v0 v1 v2 v3 v4 v5 v6 v7 v8 v9 v10 md, (0, 0))) 1 rfl trivial ?_
  refine Ev.brK (K := K) k (fun h1 k => ?_) (fun h1 k => ?_)
  · refine Ev.go (st' := (8, [some (vR 0), some (vI x1), some (vI x2)], [vI (-1 : Int32)], wC a2 a3 a5 a6 a7 a8 a9 a10 a11 a13 a15 a19 a20 a21 a22 a23 a24 a25 a26 a27 a30 a31 a32 a33 a34 a35 a36 a37 a38 v0 v1 v2 v3 v4 v5 v6 v7 v8 v9 v10 md, (0, 0))) 1 rfl trivial ?_
    rw [hK] at k
    have k3 : (some (-1 : Int32), wC a2 a3 a5 a6 a7 a8 a9 a10 a11 a13 a15 a19 a20 a21 a22 a23 a24 a25 a26 a27 a30 a31 a32 a33 a34 a35 a36 a37 a38 v0 v1 v2 v3 v4 v5 v6 v7 v8 v9 v10 md) = r := k
    rw [← k3]
    exact Ev.ireti rfl rfl
  · refine Ev.go (st' := (10, [some (vR 0), some (vI x1), some (vI x2)], [vI x2], wC a2 a3 a5 a6 a7 a8 a9 a10 a11 a13 a15 a19 a20 a21 a22 a23 a24 a25 a26 a27 a30 a31 a32 a33 a34 a35 a36 a37 a38 v0 v1 v2 v3 v4 v5 v6 v7 v8 v9 v10 md, (0, 0))) 1 rfl trivial ?_
    refine Ev.callI (a := 20) (As := [vI x2]) [] (f_C_isName x2) (wC a2 a3 a5 a6 a7 a8 a9 a10 a11 a13 a15 a19 a20 a21 a22 a23 a24 a25 a26 a27 a30 a31 a32 a33 a34 a35 a36 a37 a38 v0 v1 v2 v3 v4 v5 v6 v7 v8 v9 v10 md) rfl (e_C_isName (wC a2 a3 a5 a6 a7 a8 a9 a10 a11 a13 a15 a19 a20 a21 a22 a23 a24 a25 a26 a27 a30 a31 a32 a33 a34 a35 a36 a37 a38 v0 v1 v2 v3 v4 v5 v6 v7 v8 v9 v10 md) x2) ?_
    refine Ev.go (st' := (if (f_C_isName x2) = 0 then 16 else 19, [some (vR 0), some (vI x1), some (vI x2)], [], wC a2 a3 a5 a6 a7 a8 a9 a10 a11 a13 a15 a19 a20 a21 a22 a23 a24 a25 a26 a27 a30 a31 a32 a33 a34 a35 a36 a37 a38 v0 v1 v2 v3 v4 v5 v6 v7 v8 v9 v10 md, (0, 0))) 1 rfl trivial ?_
    refine Ev.brK (K := K) k (fun h2 k => ?_) (fun h2 k => ?_)
    · refine Ev.go (st' := (18, [some (vR 0), some (vI x1), some (vI x2)], [vI (-2 : Int32)], wC a2 a3 a5 a6 a7 a8 a9 a10 a11 a13 a15 a19 a20 a21 a22 a23 a24 a25 a26 a27 a30 a31 a32 a33 a34 a35 a36 a37 a38 v0 v1 v2 v3 v4 v5 v6 v7 v8 v9 v10 md, (0, 0))) 1 rfl trivial ?_
      rw [hK] at k
      have k3 : (some (-2 : Int32), wC a2 a3 a5 a6 a7 a8 a9 a10 a11 a13 a15 a19 a20 a21 a22 a23 a24 a25 a26 a27 a30 a31 a32 a33 a34 a35 a36 a37 a38 v0 v1 v2 v3 v4 v5 v6 v7 v8 v9 v10 md) = r := k
      rw [← k3]
      exact Ev.ireti rfl rfl
    · refine Ev.go (st' := (24, [some (vR 0), some (vI x1), some (vI x2)], [vI x1, vR 1], wC a2 a3 a5 a6 a7 a8 a9 a10 a11 a13 a15 a19 a20 a21 a22 a23 a24 a25 a26 a27 a30 a31 a32 a33 a34 a35 a36 a37 a38 v0 v1 v2 v3 v4 v5 v6 v7 v8 v9 v10 md, (0, 0))) 3 rfl trivial ?_
      refine Ev.callI (a := 8) (As := [vR 1, vI x1]) [] (f_Mesh_isUp x1 v1) (wC a2 a3 a5 a6 a7 a8 a9 a10 a11 a13 a15 a19 a20 a21 a22 a23 a24 a25 a26 a27 a30 a31 a32 a33 a34 a35 a36 a37 a38 v0 v1 v2 v3 v4 v5 v6 v7 v8 v9 v10 md) rfl (e_Mesh_isUp_1 a2 a3 a5 a6 a7 a8 a9 a10 a11 a13 a15 a19 a20 a21 a22 a23 a24 a25 a26 a27 a30 a31 a32 a33 a34 a35 a36 a37 a38 v0 v1 v2 v3 v4 v5 v6 v7 v8 v9 v10 md x1) ?_
      refine Ev.go (st' := (if (f_Mesh_isUp x1 v1) = 0 then 34 else 30, [some (vR 0), some (vI x1), some (vI x2)], [], wC a2 a3 a5 a6 a7 a8 a9 a10 a11 a13 a15 a19 a20 a21 a22 a23 a24 a25 a26 a27 a30 a31 a32 a33 a34 a35 a36 a37 a38 v0 v1 v2 v3 v4 v5 v6 v7 v8 v9 v10 md, (0, 0))) 1 rfl trivial ?_
      have kJ3 : Ev none 70 (36, [none, none, none], [vI (iF ((f_Mesh_isUp x1 v1) = 0) (-3 : Int32) (0 : Int32))], wC a2 a3 a5 a6 a7 a8 a9 a10 a11 a13 a15 a19 a20 a21 a22 a23 a24 a25 a26 a27 a30 a31 a32 a33 a34 a35 a36 a37 a38 v0 v1 v2 v3 v4 v5 v6 v7 v8 v9 v10 md, (0, 0)) r := by
        rw [hK] at k
        have k3 : (some (iF ((f_Mesh_isUp x1 v1) = 0) (-3 : Int32) (0 : Int32)), wC a2 a3 a5 a6 a7 a8 a9 a10 a11 a13 a15 a19 a20 a21 a22 a23 a24 a25 a26 a27 a30 a31 a32 a33 a34 a35 a36 a37 a38 v0 v1 v2 v3 v4 v5 v6 v7 v8 v9 v10 md) = r := k
        rw [← k3]
        exact Ev.ireti rfl rfl
      refine Ev.br (fun h3 => ?_) (fun h3 => ?_)
      · refine Ev.go (st' := (36, [some (vR 0), some (vI x1), some (vI x2)], [vI (-3 : Int32)], wC a2 a3 a5 a6 a7 a8 a9 a10 a11 a13 a15 a19 a20 a21 a22 a23 a24 a25 a26 a27 a30 a31 a32 a33 a34 a35 a36 a37 a38 v0 v1 v2 v3 v4 v5 v6 v7 v8 v9 v10 md, (0, 0))) 1 rfl trivial ?_
        exact Ev.wk (Lle.n (Lle.n (Lle.n Lle.z))) (Ev.to kJ3 (by simp only [iF_pos h3]))
      · refine Ev.go (st' := (36, [some (vR 0), some (vI x1), some (vI x2)], [vI (0 : Int32)], wC a2 a3 a5 a6 a7 a8 a9 a10 a11 a13 a15 a19 a20 a21 a22 a23 a24 a25 a26 a27 a30 a31 a32 a33 a34 a35 a36 a37 a38 v0 v1 v2 v3 v4 v5 v6 v7 v8 v9 v10 md, (0, 0))) 2 rfl trivial ?_
        exact Ev.wk (Lle.n (Lle.n (Lle.n Lle.z))) (Ev.to kJ3 (by simp only [iF_neg h3]))
/-! OF java/lang/Math.abs(I)I -/
noncomputable def f_J_abs (x1 : Int32) : Int32 := (iF (0 ≤ x1) x1 (-x1))
set_option maxRecDepth 8000 in
set_option maxHeartbeats 4000000 in
theorem e_J_abs (w : AW) (x1 : Int32)  : Ev none 71 (0, [some (vI x1)], [], w, (0, 0)) (some (f_J_abs x1), w) := by
  suffices hh : ∀ (r : Option Int32 × AW) (K : (Int32) → Prop), K = (fun o : Int32 => (some o, w) = r) → K (iF (0 ≤ x1) x1 (-x1)) → Ev none 71 (0, [some (vI x1)], [], w, (0, 0)) r from hh _ _ rfl rfl
  intro r K hK k
  refine Ev.go (st' := (if 0 ≤ x1 then 9 else 4, [some (vI x1)], [], w, (0, 0))) 2 rfl trivial ?_
  have kJ1 : Ev none 71 (10, [none], [vI (iF (0 ≤ x1) x1 (-x1))], w, (0, 0)) r := by
    rw [hK] at k
    have k3 : (some (iF (0 ≤ x1) x1 (-x1)), w) = r := k
    rw [← k3]
    exact Ev.ireti rfl rfl
  refine Ev.br (fun h1 => ?_) (fun h1 => ?_)
  · refine Ev.go (st' := (10, [some (vI x1)], [vI x1], w, (0, 0))) 1 rfl trivial ?_
    exact Ev.wk (Lle.n Lle.z) (Ev.to kJ1 (by simp only [iF_pos h1]))
  · refine Ev.go (st' := (10, [some (vI x1)], [vI (-x1)], w, (0, 0))) 3 rfl trivial ?_
    exact Ev.wk (Lle.n Lle.z) (Ev.to kJ1 (by simp only [iF_neg h1]))
/-! OF java/lang/Math.min(II)I -/
noncomputable def f_J_min (x1 : Int32) (x2 : Int32) : Int32 := (iF (x2 < x1) x2 x1)
set_option maxRecDepth 8000 in
set_option maxHeartbeats 4000000 in
theorem e_J_min (w : AW) (x1 x2 : Int32)  : Ev none 72 (0, [some (vI x1), some (vI x2)], [], w, (0, 0)) (some (f_J_min x1 x2), w) := by
  suffices hh : ∀ (r : Option Int32 × AW) (K : (Int32) → Prop), K = (fun o : Int32 => (some o, w) = r) → K (iF (x2 < x1) x2 x1) → Ev none 72 (0, [some (vI x1), some (vI x2)], [], w, (0, 0)) r from hh _ _ rfl rfl
  intro r K hK k
  refine Ev.go (st' := (if x2 < x1 then 9 else 5, [some (vI x1), some (vI x2)], [], w, (0, 0))) 3 rfl trivial ?_
  have kJ1 : Ev none 72 (10, [none, none], [vI (iF (x2 < x1) x2 x1)], w, (0, 0)) r := by
    rw [hK] at k
    have k3 : (some (iF (x2 < x1) x2 x1), w) = r := k
    rw [← k3]
    exact Ev.ireti rfl rfl
  refine Ev.br (fun h1 => ?_) (fun h1 => ?_)
  · refine Ev.go (st' := (10, [some (vI x1), some (vI x2)], [vI x2], w, (0, 0))) 1 rfl trivial ?_
    exact Ev.wk (Lle.n (Lle.n Lle.z)) (Ev.to kJ1 (by simp only [iF_pos h1]))
  · refine Ev.go (st' := (10, [some (vI x1), some (vI x2)], [vI x1], w, (0, 0))) 2 rfl trivial ?_
    exact Ev.wk (Lle.n (Lle.n Lle.z)) (Ev.to kJ1 (by simp only [iF_neg h1]))
/-! OF MeshNames.rank(II)I -/
noncomputable def f_C_rank (x1 : Int32) (x2 : Int32) : Int32 := (((f_J_min (f_J_abs (x1 - x2)) ((256 : Int32) - (f_J_abs (x1 - x2)))) * (256 : Int32)) + x1)
set_option maxRecDepth 8000 in
set_option maxHeartbeats 4000000 in
theorem e_C_rank (w : AW) (x1 x2 : Int32)  : Ev none 73 (0, [some (vI x1), some (vI x2), none], [], w, (0, 0)) (some (f_C_rank x1 x2), w) := by
  suffices hh : ∀ (r : Option Int32 × AW) (K : (Int32) → Prop), K = (fun o : Int32 => (some o, w) = r) → K (((f_J_min (f_J_abs (x1 - x2)) ((256 : Int32) - (f_J_abs (x1 - x2)))) * (256 : Int32)) + x1) → Ev none 73 (0, [some (vI x1), some (vI x2), none], [], w, (0, 0)) r from hh _ _ rfl rfl
  intro r K hK k
  refine Ev.go (st' := (3, [some (vI x1), some (vI x2), none], [vI (x1 - x2)], w, (0, 0))) 3 rfl trivial ?_
  refine Ev.callI (a := 71) (As := [vI (x1 - x2)]) [] (f_J_abs (x1 - x2)) (w) rfl (e_J_abs (w) (x1 - x2)) ?_
  refine Ev.go (st' := (13, [some (vI x1), some (vI x2), some (vI (f_J_abs (x1 - x2)))], [vI ((256 : Int32) - (f_J_abs (x1 - x2))), vI (f_J_abs (x1 - x2))], w, (0, 0))) 5 rfl trivial ?_
  refine Ev.callI (a := 72) (As := [vI (f_J_abs (x1 - x2)), vI ((256 : Int32) - (f_J_abs (x1 - x2)))]) [] (f_J_min (f_J_abs (x1 - x2)) ((256 : Int32) - (f_J_abs (x1 - x2)))) (w) rfl (e_J_min (w) (f_J_abs (x1 - x2)) ((256 : Int32) - (f_J_abs (x1 - x2)))) ?_
  refine Ev.go (st' := (22, [some (vI x1), some (vI x2), some (vI (f_J_abs (x1 - x2)))], [vI (((f_J_min (f_J_abs (x1 - x2)) ((256 : Int32) - (f_J_abs (x1 - x2)))) * (256 : Int32)) + x1)], w, (0, 0))) 4 rfl trivial ?_
  rw [hK] at k
  have k3 : (some (((f_J_min (f_J_abs (x1 - x2)) ((256 : Int32) - (f_J_abs (x1 - x2)))) * (256 : Int32)) + x1), w) = r := k
  rw [← k3]
  exact Ev.ireti rfl rfl
/-! OF MeshNames$Paths.nearestInPart(II)I -/
noncomputable def b_Paths_nearestInPart_1 (parts : Nat → Int32) (p1 : Int32) (names : Nat → Int32) (p2 : Int32) (j : Nat) (v : Int32) : Int32 := (iF ((f_C_has (parts p1.toNatClampNeg) (nI j)) = 0) v (iF ((f_C_rank (names v.toNatClampNeg) p2) ≤ (f_C_rank (names (nI j).toNatClampNeg) p2)) v (nI j)))
def P_Paths_nearestInPart_1 (parts : Nat → Int32) (p1 : Int32) (names : Nat → Int32) (p2 : Int32) (j : Nat) (v : Int32) : Prop := vp_in p1 8 ∧ (((f_C_has (parts p1.toNatClampNeg) (nI j)) = 0 → True) ∧ (¬ ((f_C_has (parts p1.toNatClampNeg) (nI j)) = 0) → (vp_in v 8 ∧ True))) ∧ True
noncomputable def f_Paths_nearestInPart (x1 : Int32) (x2 : Int32) (parts : Nat → Int32) (names : Nat → Int32) : Int32 := (forN (b_Paths_nearestInPart_1 parts x1 names x2) 0 8 x1)
def P_Paths_nearestInPart (x1 : Int32) (x2 : Int32) (parts : Nat → Int32) (names : Nat → Int32) : Prop := (∀ q, q < 8 → P_Paths_nearestInPart_1 parts x1 names x2 (0 + q) (forN (b_Paths_nearestInPart_1 parts x1 names x2) 0 q x1)) ∧ True
set_option maxRecDepth 8000 in
set_option maxHeartbeats 4000000 in
theorem e_Paths_nearestInPart_4 (a2 a3 a5 a6 a7 a8 a9 a10 a11 a13 a15 a19 a20 a21 a22 a23 a24 a25 a26 a27 a30 a31 a32 a33 a34 a35 a36 a37 a38 : Nat → Int32) (v0 v1 v2 v3 v4 v5 v6 v7 v8 v9 v10 : Int32) (md : AW) (x1 x2 : Int32) (hP : P_Paths_nearestInPart x1 x2 a5 a2)  : Ev none 74 (0, [some (vR 4), some (vI x1), some (vI x2), none, none], [], wC a2 a3 a5 a6 a7 a8 a9 a10 a11 a13 a15 a19 a20 a21 a22 a23 a24 a25 a26 a27 a30 a31 a32 a33 a34 a35 a36 a37 a38 v0 v1 v2 v3 v4 v5 v6 v7 v8 v9 v10 md, (0, 0)) (some (f_Paths_nearestInPart x1 x2 a5 a2), wC a2 a3 a5 a6 a7 a8 a9 a10 a11 a13 a15 a19 a20 a21 a22 a23 a24 a25 a26 a27 a30 a31 a32 a33 a34 a35 a36 a37 a38 v0 v1 v2 v3 v4 v5 v6 v7 v8 v9 v10 md) := by
  suffices hh : ∀ (r : Option Int32 × AW) (K : (Int32) → Prop), K = (fun o : Int32 => (some o, wC a2 a3 a5 a6 a7 a8 a9 a10 a11 a13 a15 a19 a20 a21 a22 a23 a24 a25 a26 a27 a30 a31 a32 a33 a34 a35 a36 a37 a38 v0 v1 v2 v3 v4 v5 v6 v7 v8 v9 v10 md) = r) → K (forN (b_Paths_nearestInPart_1 a5 x1 a2 x2) 0 8 x1) → Ev none 74 (0, [some (vR 4), some (vI x1), some (vI x2), none, none], [], wC a2 a3 a5 a6 a7 a8 a9 a10 a11 a13 a15 a19 a20 a21 a22 a23 a24 a25 a26 a27 a30 a31 a32 a33 a34 a35 a36 a37 a38 v0 v1 v2 v3 v4 v5 v6 v7 v8 v9 v10 md, (0, 0)) r from hh _ _ rfl rfl
  intro r K hK k
  refine Ev.go (st' := (5, [some (vR 4), some (vI x1), some (vI x2), some (vI x1), some (vI (0 : Int32))], [], wC a2 a3 a5 a6 a7 a8 a9 a10 a11 a13 a15 a19 a20 a21 a22 a23 a24 a25 a26 a27 a30 a31 a32 a33 a34 a35 a36 a37 a38 v0 v1 v2 v3 v4 v5 v6 v7 v8 v9 v10 md, (0, 0))) 4 rfl trivial ?_
  refine Ev.wk (Lle.s (Lle.s (Lle.s (Lle.s (Lle.s Lle.z))))) ?_
  refine Ev.loopN (fun c v => (5, [some (vR 4), some (vI x1), some (vI x2), some (vI v), some (vI c)], [], wC a2 a3 a5 a6 a7 a8 a9 a10 a11 a13 a15 a19 a20 a21 a22 a23 a24 a25 a26 a27 a30 a31 a32 a33 a34 a35 a36 a37 a38 v0 v1 v2 v3 v4 v5 v6 v7 v8 v9 v10 md, (0, 0))) (b_Paths_nearestInPart_1 a5 x1 a2 x2) 0 8 8 x1 (c0 := (0 : Int32)) rfl (by omega) (fun j hj k2 => ?_) ?_
  · have hp1 := hP.1 j hj
    have hi1 : 0 + j < 8 := by omega
    clear hj
    generalize forN (b_Paths_nearestInPart_1 a5 x1 a2 x2) 0 j x1 = u1 at hp1 k2 ⊢
    generalize 0 + j = i1 at hi1 hp1 k2 ⊢
    show Ev none 74 (5, [some (vR 4), some (vI x1), some (vI x2), some (vI u1), some (vI (nI i1))], [], wC a2 a3 a5 a6 a7 a8 a9 a10 a11 a13 a15 a19 a20 a21 a22 a23 a24 a25 a26 a27 a30 a31 a32 a33 a34 a35 a36 a37 a38 v0 v1 v2 v3 v4 v5 v6 v7 v8 v9 v10 md, (0, 0)) r
    refine Ev.go (st' := (if (8 : Int32) ≤ nI i1 then 65 else 12, [some (vR 4), some (vI x1), some (vI x2), some (vI u1), some (vI (nI i1))], [], wC a2 a3 a5 a6 a7 a8 a9 a10 a11 a13 a15 a19 a20 a21 a22 a23 a24 a25 a26 a27 a30 a31 a32 a33 a34 a35 a36 a37 a38 v0 v1 v2 v3 v4 v5 v6 v7 v8 v9 v10 md, (0, 0))) 3 rfl trivial (Ev.brF (nI_ge hi1 (by decide)) ?_)
    refine Ev.go (st' := (20, [some (vR 4), some (vI x1), some (vI x2), some (vI u1), some (vI (nI i1))], [vI (nI i1), vI (a5 x1.toNatClampNeg)], wC a2 a3 a5 a6 a7 a8 a9 a10 a11 a13 a15 a19 a20 a21 a22 a23 a24 a25 a26 a27 a30 a31 a32 a33 a34 a35 a36 a37 a38 v0 v1 v2 v3 v4 v5 v6 v7 v8 v9 v10 md, (0, 0))) 5 rfl ⟨hp1.1, trivial⟩ ?_
    refine Ev.callI (a := 6) (As := [vI (a5 x1.toNatClampNeg), vI (nI i1)]) [] (f_C_has (a5 x1.toNatClampNeg) (nI i1)) (wC a2 a3 a5 a6 a7 a8 a9 a10 a11 a13 a15 a19 a20 a21 a22 a23 a24 a25 a26 a27 a30 a31 a32 a33 a34 a35 a36 a37 a38 v0 v1 v2 v3 v4 v5 v6 v7 v8 v9 v10 md) rfl (e_C_has (wC a2 a3 a5 a6 a7 a8 a9 a10 a11 a13 a15 a19 a20 a21 a22 a23 a24 a25 a26 a27 a30 a31 a32 a33 a34 a35 a36 a37 a38 v0 v1 v2 v3 v4 v5 v6 v7 v8 v9 v10 md) (a5 x1.toNatClampNeg) (nI i1)) ?_
    refine Ev.go (st' := (if (f_C_has (a5 x1.toNatClampNeg) (nI i1)) = 0 then 59 else 26, [some (vR 4), some (vI x1), some (vI x2), some (vI u1), some (vI (nI i1))], [], wC a2 a3 a5 a6 a7 a8 a9 a10 a11 a13 a15 a19 a20 a21 a22 a23 a24 a25 a26 a27 a30 a31 a32 a33 a34 a35 a36 a37 a38 v0 v1 v2 v3 v4 v5 v6 v7 v8 v9 v10 md, (0, 0))) 1 rfl trivial ?_
    have kJ2 : Ev none 74 (59, [some (vR 4), some (vI x1), some (vI x2), some (vI (iF ((f_C_has (a5 x1.toNatClampNeg) (nI i1)) = 0) u1 (iF ((f_C_rank (a2 u1.toNatClampNeg) x2) ≤ (f_C_rank (a2 (nI i1).toNatClampNeg) x2)) u1 (nI i1)))), some (vI (nI i1))], [], wC a2 a3 a5 a6 a7 a8 a9 a10 a11 a13 a15 a19 a20 a21 a22 a23 a24 a25 a26 a27 a30 a31 a32 a33 a34 a35 a36 a37 a38 v0 v1 v2 v3 v4 v5 v6 v7 v8 v9 v10 md, (0, 0)) r := by
      refine Ev.go (st' := (5, [some (vR 4), some (vI x1), some (vI x2), some (vI (iF ((f_C_has (a5 x1.toNatClampNeg) (nI i1)) = 0) u1 (iF ((f_C_rank (a2 u1.toNatClampNeg) x2) ≤ (f_C_rank (a2 (nI i1).toNatClampNeg) x2)) u1 (nI i1)))), some (vI ((nI i1) + (1 : Int32)))], [], wC a2 a3 a5 a6 a7 a8 a9 a10 a11 a13 a15 a19 a20 a21 a22 a23 a24 a25 a26 a27 a30 a31 a32 a33 a34 a35 a36 a37 a38 v0 v1 v2 v3 v4 v5 v6 v7 v8 v9 v10 md, (0, 0))) 2 rfl trivial ?_
      exact Ev.wk (Lle.s (Lle.s (Lle.s (Lle.s (Lle.s Lle.z))))) (show Ev none 74 (5, [some (vR 4), some (vI x1), some (vI x2), some (vI (iF ((f_C_has (a5 x1.toNatClampNeg) (nI i1)) = 0) u1 (iF ((f_C_rank (a2 u1.toNatClampNeg) x2) ≤ (f_C_rank (a2 (nI i1).toNatClampNeg) x2)) u1 (nI i1)))), some (vI ((nI i1) + (1 : Int32)))], [], wC a2 a3 a5 a6 a7 a8 a9 a10 a11 a13 a15 a19 a20 a21 a22 a23 a24 a25 a26 a27 a30 a31 a32 a33 a34 a35 a36 a37 a38 v0 v1 v2 v3 v4 v5 v6 v7 v8 v9 v10 md, (0, 0)) r from k2)
    refine Ev.br (fun h2 => ?_) (fun h2 => ?_)
    · exact Ev.wk (Lle.s (Lle.s (Lle.s (Lle.s (Lle.s Lle.z))))) (Ev.to kJ2 (by simp only [iF_pos h2]))
    · refine Ev.go (st' := (37, [some (vR 4), some (vI x1), some (vI x2), some (vI u1), some (vI (nI i1))], [vI x2, vI (a2 (nI i1).toNatClampNeg)], wC a2 a3 a5 a6 a7 a8 a9 a10 a11 a13 a15 a19 a20 a21 a22 a23 a24 a25 a26 a27 a30 a31 a32 a33 a34 a35 a36 a37 a38 v0 v1 v2 v3 v4 v5 v6 v7 v8 v9 v10 md, (0, 0))) 6 rfl ⟨(vp_in_nI (by omega) (by decide)), trivial⟩ ?_
      refine Ev.callI (a := 73) (As := [vI (a2 (nI i1).toNatClampNeg), vI x2]) [] (f_C_rank (a2 (nI i1).toNatClampNeg) x2) (wC a2 a3 a5 a6 a7 a8 a9 a10 a11 a13 a15 a19 a20 a21 a22 a23 a24 a25 a26 a27 a30 a31 a32 a33 a34 a35 a36 a37 a38 v0 v1 v2 v3 v4 v5 v6 v7 v8 v9 v10 md) rfl (e_C_rank (wC a2 a3 a5 a6 a7 a8 a9 a10 a11 a13 a15 a19 a20 a21 a22 a23 a24 a25 a26 a27 a30 a31 a32 a33 a34 a35 a36 a37 a38 v0 v1 v2 v3 v4 v5 v6 v7 v8 v9 v10 md) (a2 (nI i1).toNatClampNeg) x2) ?_
      refine Ev.go (st' := (50, [some (vR 4), some (vI x1), some (vI x2), some (vI u1), some (vI (nI i1))], [vI x2, vI (a2 u1.toNatClampNeg), vI (f_C_rank (a2 (nI i1).toNatClampNeg) x2)], wC a2 a3 a5 a6 a7 a8 a9 a10 a11 a13 a15 a19 a20 a21 a22 a23 a24 a25 a26 a27 a30 a31 a32 a33 a34 a35 a36 a37 a38 v0 v1 v2 v3 v4 v5 v6 v7 v8 v9 v10 md, (0, 0))) 6 rfl ⟨(hp1.2.1.2 h2).1, trivial⟩ ?_
      refine Ev.callI (a := 73) (As := [vI (a2 u1.toNatClampNeg), vI x2]) [vI (f_C_rank (a2 (nI i1).toNatClampNeg) x2)] (f_C_rank (a2 u1.toNatClampNeg) x2) (wC a2 a3 a5 a6 a7 a8 a9 a10 a11 a13 a15 a19 a20 a21 a22 a23 a24 a25 a26 a27 a30 a31 a32 a33 a34 a35 a36 a37 a38 v0 v1 v2 v3 v4 v5 v6 v7 v8 v9 v10 md) rfl (e_C_rank (wC a2 a3 a5 a6 a7 a8 a9 a10 a11 a13 a15 a19 a20 a21 a22 a23 a24 a25 a26 a27 a30 a31 a32 a33 a34 a35 a36 a37 a38 v0 v1 v2 v3 v4 v5 v6 v7 v8 v9 v10 md) (a2 u1.toNatClampNeg) x2) ?_
      refine Ev.go (st' := (if (f_C_rank (a2 u1.toNatClampNeg) x2) ≤ (f_C_rank (a2 (nI i1).toNatClampNeg) x2) then 59 else 56, [some (vR 4), some (vI x1), some (vI x2), some (vI u1), some (vI (nI i1))], [], wC a2 a3 a5 a6 a7 a8 a9 a10 a11 a13 a15 a19 a20 a21 a22 a23 a24 a25 a26 a27 a30 a31 a32 a33 a34 a35 a36 a37 a38 v0 v1 v2 v3 v4 v5 v6 v7 v8 v9 v10 md, (0, 0))) 1 rfl trivial ?_
      have kJ3 : Ev none 74 (59, [some (vR 4), some (vI x1), some (vI x2), some (vI (iF ((f_C_rank (a2 u1.toNatClampNeg) x2) ≤ (f_C_rank (a2 (nI i1).toNatClampNeg) x2)) u1 (nI i1))), some (vI (nI i1))], [], wC a2 a3 a5 a6 a7 a8 a9 a10 a11 a13 a15 a19 a20 a21 a22 a23 a24 a25 a26 a27 a30 a31 a32 a33 a34 a35 a36 a37 a38 v0 v1 v2 v3 v4 v5 v6 v7 v8 v9 v10 md, (0, 0)) r := by
        exact Ev.wk (Lle.s (Lle.s (Lle.s (Lle.s (Lle.s Lle.z))))) (Ev.to kJ2 (by simp only [iF_neg h2]))
      refine Ev.br (fun h3 => ?_) (fun h3 => ?_)
      · exact Ev.wk (Lle.s (Lle.s (Lle.s (Lle.s (Lle.s Lle.z))))) (Ev.to kJ3 (by simp only [iF_pos h3]))
      · refine Ev.go (st' := (59, [some (vR 4), some (vI x1), some (vI x2), some (vI (nI i1)), some (vI (nI i1))], [], wC a2 a3 a5 a6 a7 a8 a9 a10 a11 a13 a15 a19 a20 a21 a22 a23 a24 a25 a26 a27 a30 a31 a32 a33 a34 a35 a36 a37 a38 v0 v1 v2 v3 v4 v5 v6 v7 v8 v9 v10 md, (0, 0))) 2 rfl trivial ?_
        exact Ev.wk (Lle.s (Lle.s (Lle.s (Lle.s (Lle.s Lle.z))))) (Ev.to kJ3 (by simp only [iF_neg h3]))
  · refine Ev.go (st' := (if (8 : Int32) ≤ nI 8 then 65 else 12, [some (vR 4), some (vI x1), some (vI x2), some (vI (forN (b_Paths_nearestInPart_1 a5 x1 a2 x2) 0 8 x1)), some (vI (nI 8))], [], wC a2 a3 a5 a6 a7 a8 a9 a10 a11 a13 a15 a19 a20 a21 a22 a23 a24 a25 a26 a27 a30 a31 a32 a33 a34 a35 a36 a37 a38 v0 v1 v2 v3 v4 v5 v6 v7 v8 v9 v10 md, (0, 0))) 3 rfl trivial (Ev.brN (by decide) ?_)
    refine Ev.wk (Lle.n (Lle.n (Lle.n (Lle.s (Lle.n Lle.z))))) ?_
    refine Ev.go (st' := (66, [none, none, none, some (vI (forN (b_Paths_nearestInPart_1 a5 x1 a2 x2) 0 8 x1)), none], [vI (forN (b_Paths_nearestInPart_1 a5 x1 a2 x2) 0 8 x1)], wC a2 a3 a5 a6 a7 a8 a9 a10 a11 a13 a15 a19 a20 a21 a22 a23 a24 a25 a26 a27 a30 a31 a32 a33 a34 a35 a36 a37 a38 v0 v1 v2 v3 v4 v5 v6 v7 v8 v9 v10 md, (0, 0))) 1 rfl trivial ?_
    rw [hK] at k
    have k3 : (some (forN (b_Paths_nearestInPart_1 a5 x1 a2 x2) 0 8 x1), wC a2 a3 a5 a6 a7 a8 a9 a10 a11 a13 a15 a19 a20 a21 a22 a23 a24 a25 a26 a27 a30 a31 a32 a33 a34 a35 a36 a37 a38 v0 v1 v2 v3 v4 v5 v6 v7 v8 v9 v10 md) = r := k
    rw [← k3]
    exact Ev.ireti rfl rfl
/-! OF MeshNames.owner(II)I -/
noncomputable def f_C_owner (x1 : Int32) (x2 : Int32) (upSet : Int32) (parts : Nat → Int32) (names : Nat → Int32) : Int32 := (iF ((f_C_refusePacket x1 x2 upSet) = 0) (f_Paths_nearestInPart x1 x2 parts names) (f_C_refusePacket x1 x2 upSet))
def P_C_owner (x1 : Int32) (x2 : Int32) (upSet : Int32) (parts : Nat → Int32) (names : Nat → Int32) : Prop := (((f_C_refusePacket x1 x2 upSet) = 0 → ((P_Paths_nearestInPart x1 x2 parts names) ∧ True)) ∧ (¬ ((f_C_refusePacket x1 x2 upSet) = 0) → True)) ∧ True
set_option maxRecDepth 8000 in
set_option maxHeartbeats 4000000 in
theorem e_C_owner_0 (a2 a3 a5 a6 a7 a8 a9 a10 a11 a13 a15 a19 a20 a21 a22 a23 a24 a25 a26 a27 a30 a31 a32 a33 a34 a35 a36 a37 a38 : Nat → Int32) (v0 v1 v2 v3 v4 v5 v6 v7 v8 v9 v10 : Int32) (md : AW) (x1 x2 : Int32) (hP : P_C_owner x1 x2 v1 a5 a2)  : Ev none 75 (0, [some (vR 0), some (vI x1), some (vI x2), none], [], wC a2 a3 a5 a6 a7 a8 a9 a10 a11 a13 a15 a19 a20 a21 a22 a23 a24 a25 a26 a27 a30 a31 a32 a33 a34 a35 a36 a37 a38 v0 v1 v2 v3 v4 v5 v6 v7 v8 v9 v10 md, (0, 0)) (some (f_C_owner x1 x2 v1 a5 a2), wC a2 a3 a5 a6 a7 a8 a9 a10 a11 a13 a15 a19 a20 a21 a22 a23 a24 a25 a26 a27 a30 a31 a32 a33 a34 a35 a36 a37 a38 v0 v1 v2 v3 v4 v5 v6 v7 v8 v9 v10 md) := by
  suffices hh : ∀ (r : Option Int32 × AW) (K : (Int32) → Prop), K = (fun o : Int32 => (some o, wC a2 a3 a5 a6 a7 a8 a9 a10 a11 a13 a15 a19 a20 a21 a22 a23 a24 a25 a26 a27 a30 a31 a32 a33 a34 a35 a36 a37 a38 v0 v1 v2 v3 v4 v5 v6 v7 v8 v9 v10 md) = r) → K (iF ((f_C_refusePacket x1 x2 v1) = 0) (f_Paths_nearestInPart x1 x2 a5 a2) (f_C_refusePacket x1 x2 v1)) → Ev none 75 (0, [some (vR 0), some (vI x1), some (vI x2), none], [], wC a2 a3 a5 a6 a7 a8 a9 a10 a11 a13 a15 a19 a20 a21 a22 a23 a24 a25 a26 a27 a30 a31 a32 a33 a34 a35 a36 a37 a38 v0 v1 v2 v3 v4 v5 v6 v7 v8 v9 v10 md, (0, 0)) r from hh _ _ rfl rfl
  intro r K hK k
  refine Ev.go (st' := (3, [some (vR 0), some (vI x1), some (vI x2), none], [vI x2, vI x1, vR 0], wC a2 a3 a5 a6 a7 a8 a9 a10 a11 a13 a15 a19 a20 a21 a22 a23 a24 a25 a26 a27 a30 a31 a32 a33 a34 a35 a36 a37 a38 v0 v1 v2 v3 v4 v5 v6 v7 v8 v9 v10 md, (0, 0))) 3 rfl trivial ?_
  refine Ev.callI (a := 70) (As := [vR 0, vI x1, vI x2]) [] (f_C_refusePacket x1 x2 v1) (wC a2 a3 a5 a6 a7 a8 a9 a10 a11 a13 a15 a19 a20 a21 a22 a23 a24 a25 a26 a27 a30 a31 a32 a33 a34 a35 a36 a37 a38 v0 v1 v2 v3 v4 v5 v6 v7 v8 v9 v10 md) rfl (e_C_refusePacket_0 a2 a3 a5 a6 a7 a8 a9 a10 a11 a13 a15 a19 a20 a21 a22 a23 a24 a25 a26 a27 a30 a31 a32 a33 a34 a35 a36 a37 a38 v0 v1 v2 v3 v4 v5 v6 v7 v8 v9 v10 md x1 x2) ?_
  refine Ev.go (st' := (if (f_C_refusePacket x1 x2 v1) = 0 then 15 else 11, [some (vR 0), some (vI x1), some (vI x2), some (vI (f_C_refusePacket x1 x2 v1))], [], wC a2 a3 a5 a6 a7 a8 a9 a10 a11 a13 a15 a19 a20 a21 a22 a23 a24 a25 a26 a27 a30 a31 a32 a33 a34 a35 a36 a37 a38 v0 v1 v2 v3 v4 v5 v6 v7 v8 v9 v10 md, (0, 0))) 3 rfl trivial ?_
  have kJ1 : Ev none 75 (24, [none, none, none, none], [vI (iF ((f_C_refusePacket x1 x2 v1) = 0) (f_Paths_nearestInPart x1 x2 a5 a2) (f_C_refusePacket x1 x2 v1))], wC a2 a3 a5 a6 a7 a8 a9 a10 a11 a13 a15 a19 a20 a21 a22 a23 a24 a25 a26 a27 a30 a31 a32 a33 a34 a35 a36 a37 a38 v0 v1 v2 v3 v4 v5 v6 v7 v8 v9 v10 md, (0, 0)) r := by
    rw [hK] at k
    have k3 : (some (iF ((f_C_refusePacket x1 x2 v1) = 0) (f_Paths_nearestInPart x1 x2 a5 a2) (f_C_refusePacket x1 x2 v1)), wC a2 a3 a5 a6 a7 a8 a9 a10 a11 a13 a15 a19 a20 a21 a22 a23 a24 a25 a26 a27 a30 a31 a32 a33 a34 a35 a36 a37 a38 v0 v1 v2 v3 v4 v5 v6 v7 v8 v9 v10 md) = r := k
    rw [← k3]
    exact Ev.ireti rfl rfl
  refine Ev.br (fun h1 => ?_) (fun h1 => ?_)
  · refine Ev.go (st' := (21, [some (vR 0), some (vI x1), some (vI x2), some (vI (f_C_refusePacket x1 x2 v1))], [vI x2, vI x1, vR 4], wC a2 a3 a5 a6 a7 a8 a9 a10 a11 a13 a15 a19 a20 a21 a22 a23 a24 a25 a26 a27 a30 a31 a32 a33 a34 a35 a36 a37 a38 v0 v1 v2 v3 v4 v5 v6 v7 v8 v9 v10 md, (0, 0))) 4 rfl trivial ?_
    refine Ev.callI (a := 74) (As := [vR 4, vI x1, vI x2]) [] (f_Paths_nearestInPart x1 x2 a5 a2) (wC a2 a3 a5 a6 a7 a8 a9 a10 a11 a13 a15 a19 a20 a21 a22 a23 a24 a25 a26 a27 a30 a31 a32 a33 a34 a35 a36 a37 a38 v0 v1 v2 v3 v4 v5 v6 v7 v8 v9 v10 md) rfl (e_Paths_nearestInPart_4 a2 a3 a5 a6 a7 a8 a9 a10 a11 a13 a15 a19 a20 a21 a22 a23 a24 a25 a26 a27 a30 a31 a32 a33 a34 a35 a36 a37 a38 v0 v1 v2 v3 v4 v5 v6 v7 v8 v9 v10 md x1 x2 (hP.1.1 h1).1) ?_
    exact Ev.wk (Lle.n (Lle.n (Lle.n (Lle.n Lle.z)))) (Ev.to kJ1 (by simp only [iF_pos h1]))
  · refine Ev.go (st' := (24, [some (vR 0), some (vI x1), some (vI x2), some (vI (f_C_refusePacket x1 x2 v1))], [vI (f_C_refusePacket x1 x2 v1)], wC a2 a3 a5 a6 a7 a8 a9 a10 a11 a13 a15 a19 a20 a21 a22 a23 a24 a25 a26 a27 a30 a31 a32 a33 a34 a35 a36 a37 a38 v0 v1 v2 v3 v4 v5 v6 v7 v8 v9 v10 md, (0, 0))) 2 rfl trivial ?_
    exact Ev.wk (Lle.n (Lle.n (Lle.n (Lle.n Lle.z)))) (Ev.to kJ1 (by simp only [iF_neg h1]))
/-! OF MeshNamesModel.less(II)I -/
noncomputable def f_M_less (x1 : Int32) (x2 : Int32) : Int32 := (iF (x2 ≤ x1) x2 x1)
set_option maxRecDepth 8000 in
set_option maxHeartbeats 4000000 in
theorem e_M_less (w : AW) (x1 x2 : Int32)  : Ev none 76 (0, [some (vI x1), some (vI x2)], [], w, (0, 0)) (some (f_M_less x1 x2), w) := by
  suffices hh : ∀ (r : Option Int32 × AW) (K : (Int32) → Prop), K = (fun o : Int32 => (some o, w) = r) → K (iF (x2 ≤ x1) x2 x1) → Ev none 76 (0, [some (vI x1), some (vI x2)], [], w, (0, 0)) r from hh _ _ rfl rfl
  intro r K hK k
  refine Ev.go (st' := (if x2 ≤ x1 then 9 else 5, [some (vI x1), some (vI x2)], [], w, (0, 0))) 3 rfl trivial ?_
  have kJ1 : Ev none 76 (10, [none, none], [vI (iF (x2 ≤ x1) x2 x1)], w, (0, 0)) r := by
    rw [hK] at k
    have k3 : (some (iF (x2 ≤ x1) x2 x1), w) = r := k
    rw [← k3]
    exact Ev.ireti rfl rfl
  refine Ev.br (fun h1 => ?_) (fun h1 => ?_)
  · refine Ev.go (st' := (10, [some (vI x1), some (vI x2)], [vI x2], w, (0, 0))) 1 rfl trivial ?_
    exact Ev.wk (Lle.n (Lle.n Lle.z)) (Ev.to kJ1 (by simp only [iF_pos h1]))
  · refine Ev.go (st' := (10, [some (vI x1), some (vI x2)], [vI x1], w, (0, 0))) 2 rfl trivial ?_
    exact Ev.wk (Lle.n (Lle.n Lle.z)) (Ev.to kJ1 (by simp only [iF_neg h1]))
/-! OF MeshNamesModel.away(II)I -/
noncomputable def f_M_away (x1 : Int32) (x2 : Int32) : Int32 := (f_M_less (iF (x2 ≤ x1) (x1 - x2) (x2 - x1)) ((256 : Int32) - (iF (x2 ≤ x1) (x1 - x2) (x2 - x1))))
set_option maxRecDepth 8000 in
set_option maxHeartbeats 4000000 in
theorem e_M_away (w : AW) (x1 x2 : Int32)  : Ev none 77 (0, [some (vI x1), some (vI x2), none], [], w, (0, 0)) (some (f_M_away x1 x2), w) := by
  suffices hh : ∀ (r : Option Int32 × AW) (K : (Int32) → Prop), K = (fun o : Int32 => (some o, w) = r) → K (f_M_less (iF (x2 ≤ x1) (x1 - x2) (x2 - x1)) ((256 : Int32) - (iF (x2 ≤ x1) (x1 - x2) (x2 - x1)))) → Ev none 77 (0, [some (vI x1), some (vI x2), none], [], w, (0, 0)) r from hh _ _ rfl rfl
  intro r K hK k
  refine Ev.go (st' := (if x2 ≤ x1 then 11 else 5, [some (vI x1), some (vI x2), none], [], w, (0, 0))) 3 rfl trivial ?_
  have kJ1 : Ev none 77 (14, [none, none, none], [vI (iF (x2 ≤ x1) (x1 - x2) (x2 - x1))], w, (0, 0)) r := by
    refine Ev.go (st' := (21, [none, none, some (vI (iF (x2 ≤ x1) (x1 - x2) (x2 - x1)))], [vI ((256 : Int32) - (iF (x2 ≤ x1) (x1 - x2) (x2 - x1))), vI (iF (x2 ≤ x1) (x1 - x2) (x2 - x1))], w, (0, 0))) 5 rfl trivial ?_
    refine Ev.callI (a := 76) (As := [vI (iF (x2 ≤ x1) (x1 - x2) (x2 - x1)), vI ((256 : Int32) - (iF (x2 ≤ x1) (x1 - x2) (x2 - x1)))]) [] (f_M_less (iF (x2 ≤ x1) (x1 - x2) (x2 - x1)) ((256 : Int32) - (iF (x2 ≤ x1) (x1 - x2) (x2 - x1)))) (w) rfl (e_M_less (w) (iF (x2 ≤ x1) (x1 - x2) (x2 - x1)) ((256 : Int32) - (iF (x2 ≤ x1) (x1 - x2) (x2 - x1)))) ?_
    rw [hK] at k
    have k3 : (some (f_M_less (iF (x2 ≤ x1) (x1 - x2) (x2 - x1)) ((256 : Int32) - (iF (x2 ≤ x1) (x1 - x2) (x2 - x1)))), w) = r := k
    rw [← k3]
    exact Ev.ireti rfl rfl
  refine Ev.br (fun h1 => ?_) (fun h1 => ?_)
  · refine Ev.go (st' := (14, [some (vI x1), some (vI x2), none], [vI (x1 - x2)], w, (0, 0))) 3 rfl trivial ?_
    exact Ev.wk (Lle.n (Lle.n (Lle.n Lle.z))) (Ev.to kJ1 (by simp only [iF_pos h1]))
  · refine Ev.go (st' := (14, [some (vI x1), some (vI x2), none], [vI (x2 - x1)], w, (0, 0))) 4 rfl trivial ?_
    exact Ev.wk (Lle.n (Lle.n (Lle.n Lle.z))) (Ev.to kJ1 (by simp only [iF_neg h1]))
/-! OF MeshNamesModel.isNearer(III)Z -/
noncomputable def f_M_isNearer (x1 : Int32) (x2 : Int32) (x3 : Int32) (state_ : Nat → Int32) : Int32 := (iF (0 ≤ x2) (iF ((f_M_away (state_ ((8 : Int32) + x1).toNatClampNeg) x3) < (f_M_away (state_ ((8 : Int32) + x2).toNatClampNeg) x3)) (1 : Int32) (iF ((f_M_away (state_ ((8 : Int32) + x1).toNatClampNeg) x3) = (f_M_away (state_ ((8 : Int32) + x2).toNatClampNeg) x3)) (iF ((state_ ((8 : Int32) + x2).toNatClampNeg) ≤ (state_ ((8 : Int32) + x1).toNatClampNeg)) (0 : Int32) (1 : Int32)) (0 : Int32))) (1 : Int32))
def P_M_isNearer (x1 : Int32) (x2 : Int32) (x3 : Int32) (state_ : Nat → Int32) : Prop := ((0 ≤ x2 → (vp_in ((8 : Int32) + x1) 80 ∧ vp_in ((8 : Int32) + x2) 80 ∧ (((f_M_away (state_ ((8 : Int32) + x1).toNatClampNeg) x3) < (f_M_away (state_ ((8 : Int32) + x2).toNatClampNeg) x3) → True) ∧ (¬ ((f_M_away (state_ ((8 : Int32) + x1).toNatClampNeg) x3) < (f_M_away (state_ ((8 : Int32) + x2).toNatClampNeg) x3)) → ((((f_M_away (state_ ((8 : Int32) + x1).toNatClampNeg) x3) = (f_M_away (state_ ((8 : Int32) + x2).toNatClampNeg) x3) → (vp_in ((8 : Int32) + x1) 80 ∧ vp_in ((8 : Int32) + x2) 80 ∧ True)) ∧ (¬ ((f_M_away (state_ ((8 : Int32) + x1).toNatClampNeg) x3) = (f_M_away (state_ ((8 : Int32) + x2).toNatClampNeg) x3)) → True)) ∧ True))) ∧ True)) ∧ (¬ (0 ≤ x2) → True)) ∧ True
theorem z_M_isNearer (x1 : Int32) (x2 : Int32) (x3 : Int32) (state_ : Nat → Int32) : (f_M_isNearer x1 x2 x3 state_) &&& 1 = f_M_isNearer x1 x2 x3 state_ := (z_iF (z_iF rfl (z_iF (z_iF rfl rfl) rfl)) rfl)
set_option maxRecDepth 8000 in
set_option maxHeartbeats 4000000 in
theorem e_M_isNearer_39 (κ : Sg) (a40 a41 a42 a43 a44 a45 a46 a47 a48 a49 a50 : Nat → Int32) (v11 v12 v13 v14 : Int32) (x1 x2 x3 : Int32) (hP : P_M_isNearer x1 x2 x3 a40)  : Ev none 78 (0, [some (vR 39), some (vI x1), some (vI x2), some (vI x3), none, none], [], wd κ (mM a40 a41 a42 a43 a44 a45 a46 a47 a48 a49 a50 v11 v12 v13 v14), (0, 0)) (some (f_M_isNearer x1 x2 x3 a40), wd κ (mM a40 a41 a42 a43 a44 a45 a46 a47 a48 a49 a50 v11 v12 v13 v14)) := by
  suffices hh : ∀ (r : Option Int32 × AW) (K : (Int32) → Prop), K = (fun o : Int32 => (some o, wd κ (mM a40 a41 a42 a43 a44 a45 a46 a47 a48 a49 a50 v11 v12 v13 v14)) = r) → K (iF (0 ≤ x2) (iF ((f_M_away (a40 ((8 : Int32) + x1).toNatClampNeg) x3) < (f_M_away (a40 ((8 : Int32) + x2).toNatClampNeg) x3)) (1 : Int32) (iF ((f_M_away (a40 ((8 : Int32) + x1).toNatClampNeg) x3) = (f_M_away (a40 ((8 : Int32) + x2).toNatClampNeg) x3)) (iF ((a40 ((8 : Int32) + x2).toNatClampNeg) ≤ (a40 ((8 : Int32) + x1).toNatClampNeg)) (0 : Int32) (1 : Int32)) (0 : Int32))) (1 : Int32)) → Ev none 78 (0, [some (vR 39), some (vI x1), some (vI x2), some (vI x3), none, none], [], wd κ (mM a40 a41 a42 a43 a44 a45 a46 a47 a48 a49 a50 v11 v12 v13 v14), (0, 0)) r from hh _ _ rfl rfl
  intro r K hK k
  refine Ev.go (st' := (if 0 ≤ x2 then 6 else 4, [some (vR 39), some (vI x1), some (vI x2), some (vI x3), none, none], [], wd κ (mM a40 a41 a42 a43 a44 a45 a46 a47 a48 a49 a50 v11 v12 v13 v14), (0, 0))) 2 rfl trivial ?_
  refine Ev.brK (K := K) k (fun h1 k => ?_) (fun h1 k => ?_)
  · refine Ev.go (st' := (16, [some (vR 39), some (vI x1), some (vI x2), some (vI x3), none, none], [vI x3, vI (a40 ((8 : Int32) + x1).toNatClampNeg)], wd κ (mM a40 a41 a42 a43 a44 a45 a46 a47 a48 a49 a50 v11 v12 v13 v14), (0, 0))) 7 rfl ⟨(hP.1.1 h1).1, trivial⟩ ?_
    refine Ev.callI (a := 77) (As := [vI (a40 ((8 : Int32) + x1).toNatClampNeg), vI x3]) [] (f_M_away (a40 ((8 : Int32) + x1).toNatClampNeg) x3) (wd κ (mM a40 a41 a42 a43 a44 a45 a46 a47 a48 a49 a50 v11 v12 v13 v14)) rfl (e_M_away (wd κ (mM a40 a41 a42 a43 a44 a45 a46 a47 a48 a49 a50 v11 v12 v13 v14)) (a40 ((8 : Int32) + x1).toNatClampNeg) x3) ?_
    refine Ev.go (st' := (31, [some (vR 39), some (vI x1), some (vI x2), some (vI x3), some (vI (f_M_away (a40 ((8 : Int32) + x1).toNatClampNeg) x3)), none], [vI x3, vI (a40 ((8 : Int32) + x2).toNatClampNeg)], wd κ (mM a40 a41 a42 a43 a44 a45 a46 a47 a48 a49 a50 v11 v12 v13 v14), (0, 0))) 8 rfl ⟨(hP.1.1 h1).2.1, trivial⟩ ?_
    refine Ev.callI (a := 77) (As := [vI (a40 ((8 : Int32) + x2).toNatClampNeg), vI x3]) [] (f_M_away (a40 ((8 : Int32) + x2).toNatClampNeg) x3) (wd κ (mM a40 a41 a42 a43 a44 a45 a46 a47 a48 a49 a50 v11 v12 v13 v14)) rfl (e_M_away (wd κ (mM a40 a41 a42 a43 a44 a45 a46 a47 a48 a49 a50 v11 v12 v13 v14)) (a40 ((8 : Int32) + x2).toNatClampNeg) x3) ?_
    refine Ev.go (st' := (if (f_M_away (a40 ((8 : Int32) + x1).toNatClampNeg) x3) < (f_M_away (a40 ((8 : Int32) + x2).toNatClampNeg) x3) then 71 else 43, [some (vR 39), some (vI x1), some (vI x2), some (vI x3), some (vI (f_M_away (a40 ((8 : Int32) + x1).toNatClampNeg) x3)), some (vI (f_M_away (a40 ((8 : Int32) + x2).toNatClampNeg) x3))], [], wd κ (mM a40 a41 a42 a43 a44 a45 a46 a47 a48 a49 a50 v11 v12 v13 v14), (0, 0))) 4 rfl trivial ?_
    have kJ2 : Ev none 78 (76, [none, none, none, none, none, none], [vI (iF ((f_M_away (a40 ((8 : Int32) + x1).toNatClampNeg) x3) < (f_M_away (a40 ((8 : Int32) + x2).toNatClampNeg) x3)) (1 : Int32) (iF ((f_M_away (a40 ((8 : Int32) + x1).toNatClampNeg) x3) = (f_M_away (a40 ((8 : Int32) + x2).toNatClampNeg) x3)) (iF ((a40 ((8 : Int32) + x2).toNatClampNeg) ≤ (a40 ((8 : Int32) + x1).toNatClampNeg)) (0 : Int32) (1 : Int32)) (0 : Int32)))], wd κ (mM a40 a41 a42 a43 a44 a45 a46 a47 a48 a49 a50 v11 v12 v13 v14), (0, 0)) r := by
      rw [hK] at k
      have k3 : (some (iF ((f_M_away (a40 ((8 : Int32) + x1).toNatClampNeg) x3) < (f_M_away (a40 ((8 : Int32) + x2).toNatClampNeg) x3)) (1 : Int32) (iF ((f_M_away (a40 ((8 : Int32) + x1).toNatClampNeg) x3) = (f_M_away (a40 ((8 : Int32) + x2).toNatClampNeg) x3)) (iF ((a40 ((8 : Int32) + x2).toNatClampNeg) ≤ (a40 ((8 : Int32) + x1).toNatClampNeg)) (0 : Int32) (1 : Int32)) (0 : Int32))), wd κ (mM a40 a41 a42 a43 a44 a45 a46 a47 a48 a49 a50 v11 v12 v13 v14)) = r := k
      rw [← k3]
      exact Ev.iretz rfl rfl (by exact (z_iF rfl (z_iF (z_iF rfl rfl) rfl)))
    refine Ev.br (fun h2 => ?_) (fun h2 => ?_)
    · refine Ev.go (st' := (76, [some (vR 39), some (vI x1), some (vI x2), some (vI x3), some (vI (f_M_away (a40 ((8 : Int32) + x1).toNatClampNeg) x3)), some (vI (f_M_away (a40 ((8 : Int32) + x2).toNatClampNeg) x3))], [vI (1 : Int32)], wd κ (mM a40 a41 a42 a43 a44 a45 a46 a47 a48 a49 a50 v11 v12 v13 v14), (0, 0))) 2 rfl trivial ?_
      exact Ev.wk (Lle.n (Lle.n (Lle.n (Lle.n (Lle.n (Lle.n Lle.z)))))) (Ev.to kJ2 (by simp only [iF_pos h2]))
    · refine Ev.go (st' := (if (f_M_away (a40 ((8 : Int32) + x1).toNatClampNeg) x3) = (f_M_away (a40 ((8 : Int32) + x2).toNatClampNeg) x3) then 50 else 75, [some (vR 39), some (vI x1), some (vI x2), some (vI x3), some (vI (f_M_away (a40 ((8 : Int32) + x1).toNatClampNeg) x3)), some (vI (f_M_away (a40 ((8 : Int32) + x2).toNatClampNeg) x3))], [], wd κ (mM a40 a41 a42 a43 a44 a45 a46 a47 a48 a49 a50 v11 v12 v13 v14), (0, 0))) 3 rfl trivial ?_
      have kJ3 : Ev none 78 (76, [none, none, none, none, none, none], [vI (iF ((f_M_away (a40 ((8 : Int32) + x1).toNatClampNeg) x3) = (f_M_away (a40 ((8 : Int32) + x2).toNatClampNeg) x3)) (iF ((a40 ((8 : Int32) + x2).toNatClampNeg) ≤ (a40 ((8 : Int32) + x1).toNatClampNeg)) (0 : Int32) (1 : Int32)) (0 : Int32))], wd κ (mM a40 a41 a42 a43 a44 a45 a46 a47 a48 a49 a50 v11 v12 v13 v14), (0, 0)) r := by
        exact Ev.wk (Lle.n (Lle.n (Lle.n (Lle.n (Lle.n (Lle.n Lle.z)))))) (Ev.to kJ2 (by simp only [iF_neg h2]))
      refine Ev.br (fun h3 => ?_) (fun h3 => ?_)
      · refine Ev.go (st' := (if (a40 ((8 : Int32) + x2).toNatClampNeg) ≤ (a40 ((8 : Int32) + x1).toNatClampNeg) then 75 else 71, [some (vR 39), some (vI x1), some (vI x2), some (vI x3), some (vI (f_M_away (a40 ((8 : Int32) + x1).toNatClampNeg) x3)), some (vI (f_M_away (a40 ((8 : Int32) + x2).toNatClampNeg) x3))], [], wd κ (mM a40 a41 a42 a43 a44 a45 a46 a47 a48 a49 a50 v11 v12 v13 v14), (0, 0))) 13 rfl ⟨(((hP.1.1 h1).2.2.1.2 h2).1.1 h3).1, (((hP.1.1 h1).2.2.1.2 h2).1.1 h3).2.1, trivial⟩ ?_
        have kJ4 : Ev none 78 (76, [none, none, none, none, none, none], [vI (iF ((a40 ((8 : Int32) + x2).toNatClampNeg) ≤ (a40 ((8 : Int32) + x1).toNatClampNeg)) (0 : Int32) (1 : Int32))], wd κ (mM a40 a41 a42 a43 a44 a45 a46 a47 a48 a49 a50 v11 v12 v13 v14), (0, 0)) r := by
          exact Ev.wk (Lle.n (Lle.n (Lle.n (Lle.n (Lle.n (Lle.n Lle.z)))))) (Ev.to kJ3 (by simp only [iF_pos h3]))
        refine Ev.br (fun h4 => ?_) (fun h4 => ?_)
        · refine Ev.go (st' := (76, [some (vR 39), some (vI x1), some (vI x2), some (vI x3), some (vI (f_M_away (a40 ((8 : Int32) + x1).toNatClampNeg) x3)), some (vI (f_M_away (a40 ((8 : Int32) + x2).toNatClampNeg) x3))], [vI (0 : Int32)], wd κ (mM a40 a41 a42 a43 a44 a45 a46 a47 a48 a49 a50 v11 v12 v13 v14), (0, 0))) 1 rfl trivial ?_
          exact Ev.wk (Lle.n (Lle.n (Lle.n (Lle.n (Lle.n (Lle.n Lle.z)))))) (Ev.to kJ4 (by simp only [iF_pos h4]))
        · refine Ev.go (st' := (76, [some (vR 39), some (vI x1), some (vI x2), some (vI x3), some (vI (f_M_away (a40 ((8 : Int32) + x1).toNatClampNeg) x3)), some (vI (f_M_away (a40 ((8 : Int32) + x2).toNatClampNeg) x3))], [vI (1 : Int32)], wd κ (mM a40 a41 a42 a43 a44 a45 a46 a47 a48 a49 a50 v11 v12 v13 v14), (0, 0))) 2 rfl trivial ?_
          exact Ev.wk (Lle.n (Lle.n (Lle.n (Lle.n (Lle.n (Lle.n Lle.z)))))) (Ev.to kJ4 (by simp only [iF_neg h4]))
      · refine Ev.go (st' := (76, [some (vR 39), some (vI x1), some (vI x2), some (vI x3), some (vI (f_M_away (a40 ((8 : Int32) + x1).toNatClampNeg) x3)), some (vI (f_M_away (a40 ((8 : Int32) + x2).toNatClampNeg) x3))], [vI (0 : Int32)], wd κ (mM a40 a41 a42 a43 a44 a45 a46 a47 a48 a49 a50 v11 v12 v13 v14), (0, 0))) 1 rfl trivial ?_
        exact Ev.wk (Lle.n (Lle.n (Lle.n (Lle.n (Lle.n (Lle.n Lle.z)))))) (Ev.to kJ3 (by simp only [iF_neg h3]))
  · refine Ev.go (st' := (5, [some (vR 39), some (vI x1), some (vI x2), some (vI x3), none, none], [vI (1 : Int32)], wd κ (mM a40 a41 a42 a43 a44 a45 a46 a47 a48 a49 a50 v11 v12 v13 v14), (0, 0))) 1 rfl trivial ?_
    rw [hK] at k
    have k3 : (some (1 : Int32), wd κ (mM a40 a41 a42 a43 a44 a45 a46 a47 a48 a49 a50 v11 v12 v13 v14)) = r := k
    rw [← k3]
    exact Ev.iretz rfl rfl (by exact rfl)
/-! OF MeshNamesModel.nearest(II)I -/
noncomputable def b_M_nearest_1 (p1 : Int32) (p2 : Int32) (state_ : Nat → Int32) (j : Nat) (v : Int32) : Int32 := (iF (((p1 >>> ((nI j) &&& 31)) &&& (1 : Int32)) = (1 : Int32)) (iF ((f_M_isNearer (nI j) v p2 state_) = 0) v (nI j)) v)
def P_M_nearest_1 (p1 : Int32) (p2 : Int32) (state_ : Nat → Int32) (j : Nat) (v : Int32) : Prop := ((((p1 >>> ((nI j) &&& 31)) &&& (1 : Int32)) = (1 : Int32) → ((P_M_isNearer (nI j) v p2 state_) ∧ True)) ∧ (¬ (((p1 >>> ((nI j) &&& 31)) &&& (1 : Int32)) = (1 : Int32)) → True)) ∧ True
noncomputable def f_M_nearest (x1 : Int32) (x2 : Int32) (state_ : Nat → Int32) : Int32 := (forN (b_M_nearest_1 x1 x2 state_) 0 8 (-6 : Int32))
def P_M_nearest (x1 : Int32) (x2 : Int32) (state_ : Nat → Int32) : Prop := (∀ q, q < 8 → P_M_nearest_1 x1 x2 state_ (0 + q) (forN (b_M_nearest_1 x1 x2 state_) 0 q (-6 : Int32))) ∧ True
set_option maxRecDepth 8000 in
set_option maxHeartbeats 4000000 in
theorem e_M_nearest_39 (κ : Sg) (a40 a41 a42 a43 a44 a45 a46 a47 a48 a49 a50 : Nat → Int32) (v11 v12 v13 v14 : Int32) (x1 x2 : Int32) (hP : P_M_nearest x1 x2 a40)  : Ev none 79 (0, [some (vR 39), some (vI x1), some (vI x2), none, none], [], wd κ (mM a40 a41 a42 a43 a44 a45 a46 a47 a48 a49 a50 v11 v12 v13 v14), (0, 0)) (some (f_M_nearest x1 x2 a40), wd κ (mM a40 a41 a42 a43 a44 a45 a46 a47 a48 a49 a50 v11 v12 v13 v14)) := by
  suffices hh : ∀ (r : Option Int32 × AW) (K : (Int32) → Prop), K = (fun o : Int32 => (some o, wd κ (mM a40 a41 a42 a43 a44 a45 a46 a47 a48 a49 a50 v11 v12 v13 v14)) = r) → K (forN (b_M_nearest_1 x1 x2 a40) 0 8 (-6 : Int32)) → Ev none 79 (0, [some (vR 39), some (vI x1), some (vI x2), none, none], [], wd κ (mM a40 a41 a42 a43 a44 a45 a46 a47 a48 a49 a50 v11 v12 v13 v14), (0, 0)) r from hh _ _ rfl rfl
  intro r K hK k
  refine Ev.go (st' := (6, [some (vR 39), some (vI x1), some (vI x2), some (vI (-6 : Int32)), some (vI (0 : Int32))], [], wd κ (mM a40 a41 a42 a43 a44 a45 a46 a47 a48 a49 a50 v11 v12 v13 v14), (0, 0))) 4 rfl trivial ?_
  refine Ev.wk (Lle.s (Lle.s (Lle.s (Lle.s (Lle.s Lle.z))))) ?_
  refine Ev.loopN (fun c v => (6, [some (vR 39), some (vI x1), some (vI x2), some (vI v), some (vI c)], [], wd κ (mM a40 a41 a42 a43 a44 a45 a46 a47 a48 a49 a50 v11 v12 v13 v14), (0, 0))) (b_M_nearest_1 x1 x2 a40) 0 8 8 (-6 : Int32) (c0 := (0 : Int32)) rfl (by omega) (fun j hj k2 => ?_) ?_
  · have hp1 := hP.1 j hj
    have hi1 : 0 + j < 8 := by omega
    clear hj
    generalize forN (b_M_nearest_1 x1 x2 a40) 0 j (-6 : Int32) = u1 at hp1 k2 ⊢
    generalize 0 + j = i1 at hi1 hp1 k2 ⊢
    show Ev none 79 (6, [some (vR 39), some (vI x1), some (vI x2), some (vI u1), some (vI (nI i1))], [], wd κ (mM a40 a41 a42 a43 a44 a45 a46 a47 a48 a49 a50 v11 v12 v13 v14), (0, 0)) r
    refine Ev.go (st' := (if (8 : Int32) ≤ nI i1 then 47 else 13, [some (vR 39), some (vI x1), some (vI x2), some (vI u1), some (vI (nI i1))], [], wd κ (mM a40 a41 a42 a43 a44 a45 a46 a47 a48 a49 a50 v11 v12 v13 v14), (0, 0))) 3 rfl trivial (Ev.brF (nI_ge hi1 (by decide)) ?_)
    refine Ev.go (st' := (if ((x1 >>> ((nI i1) &&& 31)) &&& (1 : Int32)) = (1 : Int32) then 23 else 39, [some (vR 39), some (vI x1), some (vI x2), some (vI u1), some (vI (nI i1))], [], wd κ (mM a40 a41 a42 a43 a44 a45 a46 a47 a48 a49 a50 v11 v12 v13 v14), (0, 0))) 7 rfl trivial ?_
    have kJ2 : Ev none 79 (40, [some (vR 39), some (vI x1), some (vI x2), none, some (vI (nI i1))], [vI (iF (((x1 >>> ((nI i1) &&& 31)) &&& (1 : Int32)) = (1 : Int32)) (iF ((f_M_isNearer (nI i1) u1 x2 a40) = 0) u1 (nI i1)) u1)], wd κ (mM a40 a41 a42 a43 a44 a45 a46 a47 a48 a49 a50 v11 v12 v13 v14), (0, 0)) r := by
      refine Ev.go (st' := (6, [some (vR 39), some (vI x1), some (vI x2), some (vI (iF (((x1 >>> ((nI i1) &&& 31)) &&& (1 : Int32)) = (1 : Int32)) (iF ((f_M_isNearer (nI i1) u1 x2 a40) = 0) u1 (nI i1)) u1)), some (vI ((nI i1) + (1 : Int32)))], [], wd κ (mM a40 a41 a42 a43 a44 a45 a46 a47 a48 a49 a50 v11 v12 v13 v14), (0, 0))) 3 rfl trivial ?_
      exact Ev.wk (Lle.s (Lle.s (Lle.s (Lle.s (Lle.s Lle.z))))) (show Ev none 79 (6, [some (vR 39), some (vI x1), some (vI x2), some (vI (iF (((x1 >>> ((nI i1) &&& 31)) &&& (1 : Int32)) = (1 : Int32)) (iF ((f_M_isNearer (nI i1) u1 x2 a40) = 0) u1 (nI i1)) u1)), some (vI ((nI i1) + (1 : Int32)))], [], wd κ (mM a40 a41 a42 a43 a44 a45 a46 a47 a48 a49 a50 v11 v12 v13 v14), (0, 0)) r from k2)
    refine Ev.br (fun h2 => ?_) (fun h2 => ?_)
    · refine Ev.go (st' := (28, [some (vR 39), some (vI x1), some (vI x2), some (vI u1), some (vI (nI i1))], [vI x2, vI u1, vI (nI i1), vR 39], wd κ (mM a40 a41 a42 a43 a44 a45 a46 a47 a48 a49 a50 v11 v12 v13 v14), (0, 0))) 4 rfl trivial ?_
      refine Ev.callI (a := 78) (As := [vR 39, vI (nI i1), vI u1, vI x2]) [] (f_M_isNearer (nI i1) u1 x2 a40) (wd κ (mM a40 a41 a42 a43 a44 a45 a46 a47 a48 a49 a50 v11 v12 v13 v14)) rfl (e_M_isNearer_39 κ a40 a41 a42 a43 a44 a45 a46 a47 a48 a49 a50 v11 v12 v13 v14 (nI i1) u1 x2 (hp1.1.1 h2).1) ?_
      refine Ev.go (st' := (if (f_M_isNearer (nI i1) u1 x2 a40) = 0 then 39 else 34, [some (vR 39), some (vI x1), some (vI x2), some (vI u1), some (vI (nI i1))], [], wd κ (mM a40 a41 a42 a43 a44 a45 a46 a47 a48 a49 a50 v11 v12 v13 v14), (0, 0))) 1 rfl trivial ?_
      have kJ3 : Ev none 79 (40, [some (vR 39), some (vI x1), some (vI x2), none, some (vI (nI i1))], [vI (iF ((f_M_isNearer (nI i1) u1 x2 a40) = 0) u1 (nI i1))], wd κ (mM a40 a41 a42 a43 a44 a45 a46 a47 a48 a49 a50 v11 v12 v13 v14), (0, 0)) r := by
        exact Ev.wk (Lle.s (Lle.s (Lle.s (Lle.n (Lle.s Lle.z))))) (Ev.to kJ2 (by simp only [iF_pos h2]))
      refine Ev.br (fun h3 => ?_) (fun h3 => ?_)
      · refine Ev.go (st' := (40, [some (vR 39), some (vI x1), some (vI x2), some (vI u1), some (vI (nI i1))], [vI u1], wd κ (mM a40 a41 a42 a43 a44 a45 a46 a47 a48 a49 a50 v11 v12 v13 v14), (0, 0))) 1 rfl trivial ?_
        exact Ev.wk (Lle.s (Lle.s (Lle.s (Lle.n (Lle.s Lle.z))))) (Ev.to kJ3 (by simp only [iF_pos h3]))
      · refine Ev.go (st' := (40, [some (vR 39), some (vI x1), some (vI x2), some (vI u1), some (vI (nI i1))], [vI (nI i1)], wd κ (mM a40 a41 a42 a43 a44 a45 a46 a47 a48 a49 a50 v11 v12 v13 v14), (0, 0))) 2 rfl trivial ?_
        exact Ev.wk (Lle.s (Lle.s (Lle.s (Lle.n (Lle.s Lle.z))))) (Ev.to kJ3 (by simp only [iF_neg h3]))
    · refine Ev.go (st' := (40, [some (vR 39), some (vI x1), some (vI x2), some (vI u1), some (vI (nI i1))], [vI u1], wd κ (mM a40 a41 a42 a43 a44 a45 a46 a47 a48 a49 a50 v11 v12 v13 v14), (0, 0))) 1 rfl trivial ?_
      exact Ev.wk (Lle.s (Lle.s (Lle.s (Lle.n (Lle.s Lle.z))))) (Ev.to kJ2 (by simp only [iF_neg h2]))
  · refine Ev.go (st' := (if (8 : Int32) ≤ nI 8 then 47 else 13, [some (vR 39), some (vI x1), some (vI x2), some (vI (forN (b_M_nearest_1 x1 x2 a40) 0 8 (-6 : Int32))), some (vI (nI 8))], [], wd κ (mM a40 a41 a42 a43 a44 a45 a46 a47 a48 a49 a50 v11 v12 v13 v14), (0, 0))) 3 rfl trivial (Ev.brN (by decide) ?_)
    refine Ev.wk (Lle.n (Lle.n (Lle.n (Lle.s (Lle.n Lle.z))))) ?_
    refine Ev.go (st' := (48, [none, none, none, some (vI (forN (b_M_nearest_1 x1 x2 a40) 0 8 (-6 : Int32))), none], [vI (forN (b_M_nearest_1 x1 x2 a40) 0 8 (-6 : Int32))], wd κ (mM a40 a41 a42 a43 a44 a45 a46 a47 a48 a49 a50 v11 v12 v13 v14), (0, 0))) 1 rfl trivial ?_
    rw [hK] at k
    have k3 : (some (forN (b_M_nearest_1 x1 x2 a40) 0 8 (-6 : Int32)), wd κ (mM a40 a41 a42 a43 a44 a45 a46 a47 a48 a49 a50 v11 v12 v13 v14)) = r := k
    rw [← k3]
    exact Ev.ireti rfl rfl
/-! OF MeshNamesModel.owner(II)I -/
noncomputable def f_M_owner (x1 : Int32) (x2 : Int32) (steps : Nat → Int32) (state_ : Nat → Int32) : Int32 × (Nat → Int32) := (iF ((f_M_isNode x1) = 0) ((-1 : Int32), steps) (iF ((f_M_isName x2) = 0) ((-2 : Int32), steps) (iF ((f_M_isUp x1 state_) = 0) ((-3 : Int32), steps) ((f_M_nearest (f_M_partOf x1 (f_M_laySteps state_ steps)) x2 state_), (f_M_laySteps state_ steps)))))
def P_M_owner (x1 : Int32) (x2 : Int32) (steps : Nat → Int32) (state_ : Nat → Int32) : Prop := (((f_M_isNode x1) = 0 → True) ∧ (¬ ((f_M_isNode x1) = 0) → ((((f_M_isName x2) = 0 → True) ∧ (¬ ((f_M_isName x2) = 0) → ((P_M_isUp x1 state_) ∧ (((f_M_isUp x1 state_) = 0 → True) ∧ (¬ ((f_M_isUp x1 state_) = 0) → ((P_M_laySteps state_ steps) ∧ (P_M_partOf x1 (f_M_laySteps state_ steps)) ∧ (P_M_nearest (f_M_partOf x1 (f_M_laySteps state_ steps)) x2 state_) ∧ True))) ∧ True))) ∧ True))) ∧ True
set_option maxRecDepth 8000 in
set_option maxHeartbeats 4000000 in
theorem e_M_owner_39 (κ : Sg) (a40 a41 a42 a43 a44 a45 a46 a47 a48 a49 a50 : Nat → Int32) (v11 v12 v13 v14 : Int32) (x1 x2 : Int32) (hP : P_M_owner x1 x2 a43 a40)  : Ev none 80 (0, [some (vR 39), some (vI x1), some (vI x2)], [], wd κ (mM a40 a41 a42 a43 a44 a45 a46 a47 a48 a49 a50 v11 v12 v13 v14), (0, 0)) (some (f_M_owner x1 x2 a43 a40).1, wd κ (mM a40 a41 a42 (f_M_owner x1 x2 a43 a40).2 a44 a45 a46 a47 a48 a49 a50 v11 v12 v13 v14)) := by
  suffices hh : ∀ (r : Option Int32 × AW) (K : (Int32 × (Nat → Int32)) → Prop), K = (fun o : Int32 × (Nat → Int32) => (some o.1, wd κ (mM a40 a41 a42 o.2 a44 a45 a46 a47 a48 a49 a50 v11 v12 v13 v14)) = r) → K (iF ((f_M_isNode x1) = 0) ((-1 : Int32), a43) (iF ((f_M_isName x2) = 0) ((-2 : Int32), a43) (iF ((f_M_isUp x1 a40) = 0) ((-3 : Int32), a43) ((f_M_nearest (f_M_partOf x1 (f_M_laySteps a40 a43)) x2 a40), (f_M_laySteps a40 a43))))) → Ev none 80 (0, [some (vR 39), some (vI x1), some (vI x2)], [], wd κ (mM a40 a41 a42 a43 a44 a45 a46 a47 a48 a49 a50 v11 v12 v13 v14), (0, 0)) r from hh _ _ rfl rfl
  intro r K hK k
  refine Ev.go (st' := (1, [some (vR 39), some (vI x1), some (vI x2)], [vI x1], wd κ (mM a40 a41 a42 a43 a44 a45 a46 a47 a48 a49 a50 v11 v12 v13 v14), (0, 0))) 1 rfl trivial ?_
  refine Ev.callI (a := 26) (As := [vI x1]) [] (f_M_isNode x1) (wd κ (mM a40 a41 a42 a43 a44 a45 a46 a47 a48 a49 a50 v11 v12 v13 v14)) rfl (e_M_isNode (wd κ (mM a40 a41 a42 a43 a44 a45 a46 a47 a48 a49 a50 v11 v12 v13 v14)) x1) ?_
  refine Ev.go (st' := (if (f_M_isNode x1) = 0 then 7 else 9, [some (vR 39), some (vI x1), some (vI x2)], [], wd κ (mM a40 a41 a42 a43 a44 a45 a46 a47 a48 a49 a50 v11 v12 v13 v14), (0, 0))) 1 rfl trivial ?_
  refine Ev.brK (K := K) k (fun h1 k => ?_) (fun h1 k => ?_)
  · refine Ev.go (st' := (8, [some (vR 39), some (vI x1), some (vI x2)], [vI (-1 : Int32)], wd κ (mM a40 a41 a42 a43 a44 a45 a46 a47 a48 a49 a50 v11 v12 v13 v14), (0, 0))) 1 rfl trivial ?_
    rw [hK] at k
    have k3 : (some (-1 : Int32), wd κ (mM a40 a41 a42 a43 a44 a45 a46 a47 a48 a49 a50 v11 v12 v13 v14)) = r := k
    rw [← k3]
    exact Ev.ireti rfl rfl
  · refine Ev.go (st' := (10, [some (vR 39), some (vI x1), some (vI x2)], [vI x2], wd κ (mM a40 a41 a42 a43 a44 a45 a46 a47 a48 a49 a50 v11 v12 v13 v14), (0, 0))) 1 rfl trivial ?_
    refine Ev.callI (a := 27) (As := [vI x2]) [] (f_M_isName x2) (wd κ (mM a40 a41 a42 a43 a44 a45 a46 a47 a48 a49 a50 v11 v12 v13 v14)) rfl (e_M_isName (wd κ (mM a40 a41 a42 a43 a44 a45 a46 a47 a48 a49 a50 v11 v12 v13 v14)) x2) ?_
    refine Ev.go (st' := (if (f_M_isName x2) = 0 then 16 else 19, [some (vR 39), some (vI x1), some (vI x2)], [], wd κ (mM a40 a41 a42 a43 a44 a45 a46 a47 a48 a49 a50 v11 v12 v13 v14), (0, 0))) 1 rfl trivial ?_
    refine Ev.brK (K := K) k (fun h2 k => ?_) (fun h2 k => ?_)
    · refine Ev.go (st' := (18, [some (vR 39), some (vI x1), some (vI x2)], [vI (-2 : Int32)], wd κ (mM a40 a41 a42 a43 a44 a45 a46 a47 a48 a49 a50 v11 v12 v13 v14), (0, 0))) 1 rfl trivial ?_
      rw [hK] at k
      have k3 : (some (-2 : Int32), wd κ (mM a40 a41 a42 a43 a44 a45 a46 a47 a48 a49 a50 v11 v12 v13 v14)) = r := k
      rw [← k3]
      exact Ev.ireti rfl rfl
    · refine Ev.go (st' := (21, [some (vR 39), some (vI x1), some (vI x2)], [vI x1, vR 39], wd κ (mM a40 a41 a42 a43 a44 a45 a46 a47 a48 a49 a50 v11 v12 v13 v14), (0, 0))) 2 rfl trivial ?_
      refine Ev.callI (a := 28) (As := [vR 39, vI x1]) [] (f_M_isUp x1 a40) (wd κ (mM a40 a41 a42 a43 a44 a45 a46 a47 a48 a49 a50 v11 v12 v13 v14)) rfl (e_M_isUp_39 κ a40 a41 a42 a43 a44 a45 a46 a47 a48 a49 a50 v11 v12 v13 v14 x1 ((hP.1.2 h1).1.2 h2).1) ?_
      refine Ev.go (st' := (if (f_M_isUp x1 a40) = 0 then 27 else 30, [some (vR 39), some (vI x1), some (vI x2)], [], wd κ (mM a40 a41 a42 a43 a44 a45 a46 a47 a48 a49 a50 v11 v12 v13 v14), (0, 0))) 1 rfl trivial ?_
      refine Ev.brK (K := K) k (fun h3 k => ?_) (fun h3 k => ?_)
      · refine Ev.go (st' := (29, [some (vR 39), some (vI x1), some (vI x2)], [vI (-3 : Int32)], wd κ (mM a40 a41 a42 a43 a44 a45 a46 a47 a48 a49 a50 v11 v12 v13 v14), (0, 0))) 1 rfl trivial ?_
        rw [hK] at k
        have k3 : (some (-3 : Int32), wd κ (mM a40 a41 a42 a43 a44 a45 a46 a47 a48 a49 a50 v11 v12 v13 v14)) = r := k
        rw [← k3]
        exact Ev.ireti rfl rfl
      · refine Ev.go (st' := (31, [some (vR 39), some (vI x1), some (vI x2)], [vR 39], wd κ (mM a40 a41 a42 a43 a44 a45 a46 a47 a48 a49 a50 v11 v12 v13 v14), (0, 0))) 1 rfl trivial ?_
        refine Ev.callV (a := 49) (As := [vR 39]) [] (wd κ (mM a40 a41 a42 (f_M_laySteps a40 a43) a44 a45 a46 a47 a48 a49 a50 v11 v12 v13 v14)) rfl (e_M_laySteps_39 κ a40 a41 a42 a43 a44 a45 a46 a47 a48 a49 a50 v11 v12 v13 v14 (((hP.1.2 h1).1.2 h2).2.1.2 h3).1) ?_
        refine Ev.go (st' := (37, [some (vR 39), some (vI x1), some (vI x2)], [vI x1, vR 39, vR 39], wd κ (mM a40 a41 a42 (f_M_laySteps a40 a43) a44 a45 a46 a47 a48 a49 a50 v11 v12 v13 v14), (0, 0))) 3 rfl trivial ?_
        refine Ev.callI (a := 56) (As := [vR 39, vI x1]) [vR 39] (f_M_partOf x1 (f_M_laySteps a40 a43)) (wd κ (mM a40 a41 a42 (f_M_laySteps a40 a43) a44 a45 a46 a47 a48 a49 a50 v11 v12 v13 v14)) rfl (e_M_partOf_39 κ a40 a41 a42 (f_M_laySteps a40 a43) a44 a45 a46 a47 a48 a49 a50 v11 v12 v13 v14 x1 (((hP.1.2 h1).1.2 h2).2.1.2 h3).2.1) ?_
        refine Ev.go (st' := (41, [some (vR 39), some (vI x1), some (vI x2)], [vI x2, vI (f_M_partOf x1 (f_M_laySteps a40 a43)), vR 39], wd κ (mM a40 a41 a42 (f_M_laySteps a40 a43) a44 a45 a46 a47 a48 a49 a50 v11 v12 v13 v14), (0, 0))) 1 rfl trivial ?_
        refine Ev.callI (a := 79) (As := [vR 39, vI (f_M_partOf x1 (f_M_laySteps a40 a43)), vI x2]) [] (f_M_nearest (f_M_partOf x1 (f_M_laySteps a40 a43)) x2 a40) (wd κ (mM a40 a41 a42 (f_M_laySteps a40 a43) a44 a45 a46 a47 a48 a49 a50 v11 v12 v13 v14)) rfl (e_M_nearest_39 κ a40 a41 a42 (f_M_laySteps a40 a43) a44 a45 a46 a47 a48 a49 a50 v11 v12 v13 v14 (f_M_partOf x1 (f_M_laySteps a40 a43)) x2 (((hP.1.2 h1).1.2 h2).2.1.2 h3).2.2.1) ?_
        rw [hK] at k
        have k3 : (some (f_M_nearest (f_M_partOf x1 (f_M_laySteps a40 a43)) x2 a40), wd κ (mM a40 a41 a42 (f_M_laySteps a40 a43) a44 a45 a46 a47 a48 a49 a50 v11 v12 v13 v14)) = r := k
        rw [← k3]
        exact Ev.ireti rfl rfl
/-! OF MeshNames$Route.weigh(III)V -/
noncomputable def f_Route_weigh (x1 : Int32) (x2 : Int32) (x3 : Int32) (bestRank : Int32) (fewestLeft : Int32) (hop : Int32) : Int32 × Int32 × Int32 := ((iF (x1 < bestRank) x1 (iF (x1 = bestRank) (iF (fewestLeft ≤ x2) bestRank x1) bestRank)), (iF (x1 < bestRank) x2 (iF (x1 = bestRank) (iF (fewestLeft ≤ x2) fewestLeft x2) fewestLeft)), (iF (x1 < bestRank) x3 (iF (x1 = bestRank) (iF (fewestLeft ≤ x2) hop x3) hop)))
set_option maxRecDepth 8000 in
set_option maxHeartbeats 4000000 in
theorem e_Route_weigh_12 (a2 a3 a5 a6 a7 a8 a9 a10 a11 a13 a15 a19 a20 a21 a22 a23 a24 a25 a26 a27 a30 a31 a32 a33 a34 a35 a36 a37 a38 : Nat → Int32) (v0 v1 v2 v3 v4 v5 v6 v7 v8 v9 v10 : Int32) (md : AW) (x1 x2 x3 : Int32)  : Ev none 81 (0, [some (vR 12), some (vI x1), some (vI x2), some (vI x3)], [], wC a2 a3 a5 a6 a7 a8 a9 a10 a11 a13 a15 a19 a20 a21 a22 a23 a24 a25 a26 a27 a30 a31 a32 a33 a34 a35 a36 a37 a38 v0 v1 v2 v3 v4 v5 v6 v7 v8 v9 v10 md, (0, 0)) (none, wC a2 a3 a5 a6 a7 a8 a9 a10 a11 a13 a15 a19 a20 a21 a22 a23 a24 a25 a26 a27 a30 a31 a32 a33 a34 a35 a36 a37 a38 v0 v1 v2 v3 v4 (f_Route_weigh x1 x2 x3 v5 v6 v7).1 (f_Route_weigh x1 x2 x3 v5 v6 v7).2.1 (f_Route_weigh x1 x2 x3 v5 v6 v7).2.2 v8 v9 v10 md) := by
  suffices hh : ∀ (r : Option Int32 × AW) (K : (Int32 × Int32 × Int32) → Prop), K = (fun o : Int32 × Int32 × Int32 => (none, wC a2 a3 a5 a6 a7 a8 a9 a10 a11 a13 a15 a19 a20 a21 a22 a23 a24 a25 a26 a27 a30 a31 a32 a33 a34 a35 a36 a37 a38 v0 v1 v2 v3 v4 o.1 o.2.1 o.2.2 v8 v9 v10 md) = r) → K ((iF (x1 < v5) x1 (iF (x1 = v5) (iF (v6 ≤ x2) v5 x1) v5)), (iF (x1 < v5) x2 (iF (x1 = v5) (iF (v6 ≤ x2) v6 x2) v6)), (iF (x1 < v5) x3 (iF (x1 = v5) (iF (v6 ≤ x2) v7 x3) v7))) → Ev none 81 (0, [some (vR 12), some (vI x1), some (vI x2), some (vI x3)], [], wC a2 a3 a5 a6 a7 a8 a9 a10 a11 a13 a15 a19 a20 a21 a22 a23 a24 a25 a26 a27 a30 a31 a32 a33 a34 a35 a36 a37 a38 v0 v1 v2 v3 v4 v5 v6 v7 v8 v9 v10 md, (0, 0)) r from hh _ _ rfl rfl
  intro r K hK k
  refine Ev.go (st' := (if x1 < v5 then 24 else 8, [some (vR 12), some (vI x1), some (vI x2), some (vI x3)], [], wC a2 a3 a5 a6 a7 a8 a9 a10 a11 a13 a15 a19 a20 a21 a22 a23 a24 a25 a26 a27 a30 a31 a32 a33 a34 a35 a36 a37 a38 v0 v1 v2 v3 v4 v5 v6 v7 v8 v9 v10 md, (0, 0))) 4 rfl trivial ?_
  have kJ1 : Ev none 81 (39, [none, none, none, none], [], wC a2 a3 a5 a6 a7 a8 a9 a10 a11 a13 a15 a19 a20 a21 a22 a23 a24 a25 a26 a27 a30 a31 a32 a33 a34 a35 a36 a37 a38 v0 v1 v2 v3 v4 (iF (x1 < v5) x1 (iF (x1 = v5) (iF (v6 ≤ x2) v5 x1) v5)) (iF (x1 < v5) x2 (iF (x1 = v5) (iF (v6 ≤ x2) v6 x2) v6)) (iF (x1 < v5) x3 (iF (x1 = v5) (iF (v6 ≤ x2) v7 x3) v7)) v8 v9 v10 md, (0, 0)) r := by
    rw [hK] at k
    have k3 : (none, wC a2 a3 a5 a6 a7 a8 a9 a10 a11 a13 a15 a19 a20 a21 a22 a23 a24 a25 a26 a27 a30 a31 a32 a33 a34 a35 a36 a37 a38 v0 v1 v2 v3 v4 (iF (x1 < v5) x1 (iF (x1 = v5) (iF (v6 ≤ x2) v5 x1) v5)) (iF (x1 < v5) x2 (iF (x1 = v5) (iF (v6 ≤ x2) v6 x2) v6)) (iF (x1 < v5) x3 (iF (x1 = v5) (iF (v6 ≤ x2) v7 x3) v7)) v8 v9 v10 md) = r := k
    rw [← k3]
    exact Ev.retv rfl rfl
  refine Ev.br (fun h1 => ?_) (fun h1 => ?_)
  · refine Ev.go (st' := (29, [some (vR 12), some (vI x1), some (vI x2), some (vI x3)], [], wC a2 a3 a5 a6 a7 a8 a9 a10 a11 a13 a15 a19 a20 a21 a22 a23 a24 a25 a26 a27 a30 a31 a32 a33 a34 a35 a36 a37 a38 v0 v1 v2 v3 v4 x1 v6 v7 v8 v9 v10 md, (0, 0))) 3 rfl trivial ?_
    refine Ev.go (st' := (34, [some (vR 12), some (vI x1), some (vI x2), some (vI x3)], [], wC a2 a3 a5 a6 a7 a8 a9 a10 a11 a13 a15 a19 a20 a21 a22 a23 a24 a25 a26 a27 a30 a31 a32 a33 a34 a35 a36 a37 a38 v0 v1 v2 v3 v4 x1 x2 v7 v8 v9 v10 md, (0, 0))) 3 rfl trivial ?_
    refine Ev.go (st' := (39, [some (vR 12), some (vI x1), some (vI x2), some (vI x3)], [], wC a2 a3 a5 a6 a7 a8 a9 a10 a11 a13 a15 a19 a20 a21 a22 a23 a24 a25 a26 a27 a30 a31 a32 a33 a34 a35 a36 a37 a38 v0 v1 v2 v3 v4 x1 x2 x3 v8 v9 v10 md, (0, 0))) 3 rfl trivial ?_
    exact Ev.wk (Lle.n (Lle.n (Lle.n (Lle.n Lle.z)))) (Ev.to kJ1 (by simp only [iF_pos h1]))
  · refine Ev.go (st' := (if x1 = v5 then 16 else 39, [some (vR 12), some (vI x1), some (vI x2), some (vI x3)], [], wC a2 a3 a5 a6 a7 a8 a9 a10 a11 a13 a15 a19 a20 a21 a22 a23 a24 a25 a26 a27 a30 a31 a32 a33 a34 a35 a36 a37 a38 v0 v1 v2 v3 v4 v5 v6 v7 v8 v9 v10 md, (0, 0))) 4 rfl trivial ?_
    have kJ2 : Ev none 81 (39, [none, none, none, none], [], wC a2 a3 a5 a6 a7 a8 a9 a10 a11 a13 a15 a19 a20 a21 a22 a23 a24 a25 a26 a27 a30 a31 a32 a33 a34 a35 a36 a37 a38 v0 v1 v2 v3 v4 (iF (x1 = v5) (iF (v6 ≤ x2) v5 x1) v5) (iF (x1 = v5) (iF (v6 ≤ x2) v6 x2) v6) (iF (x1 = v5) (iF (v6 ≤ x2) v7 x3) v7) v8 v9 v10 md, (0, 0)) r := by
      exact Ev.wk (Lle.n (Lle.n (Lle.n (Lle.n Lle.z)))) (Ev.to kJ1 (by simp only [iF_neg h1]))
    refine Ev.br (fun h2 => ?_) (fun h2 => ?_)
    · refine Ev.go (st' := (if v6 ≤ x2 then 39 else 24, [some (vR 12), some (vI x1), some (vI x2), some (vI x3)], [], wC a2 a3 a5 a6 a7 a8 a9 a10 a11 a13 a15 a19 a20 a21 a22 a23 a24 a25 a26 a27 a30 a31 a32 a33 a34 a35 a36 a37 a38 v0 v1 v2 v3 v4 v5 v6 v7 v8 v9 v10 md, (0, 0))) 4 rfl trivial ?_
      have kJ3 : Ev none 81 (39, [none, none, none, none], [], wC a2 a3 a5 a6 a7 a8 a9 a10 a11 a13 a15 a19 a20 a21 a22 a23 a24 a25 a26 a27 a30 a31 a32 a33 a34 a35 a36 a37 a38 v0 v1 v2 v3 v4 (iF (v6 ≤ x2) v5 x1) (iF (v6 ≤ x2) v6 x2) (iF (v6 ≤ x2) v7 x3) v8 v9 v10 md, (0, 0)) r := by
        exact Ev.wk (Lle.n (Lle.n (Lle.n (Lle.n Lle.z)))) (Ev.to kJ2 (by simp only [iF_pos h2]))
      refine Ev.br (fun h3 => ?_) (fun h3 => ?_)
      · exact Ev.wk (Lle.n (Lle.n (Lle.n (Lle.n Lle.z)))) (Ev.to kJ3 (by simp only [iF_pos h3]))
      · refine Ev.go (st' := (29, [some (vR 12), some (vI x1), some (vI x2), some (vI x3)], [], wC a2 a3 a5 a6 a7 a8 a9 a10 a11 a13 a15 a19 a20 a21 a22 a23 a24 a25 a26 a27 a30 a31 a32 a33 a34 a35 a36 a37 a38 v0 v1 v2 v3 v4 x1 v6 v7 v8 v9 v10 md, (0, 0))) 3 rfl trivial ?_
        refine Ev.go (st' := (34, [some (vR 12), some (vI x1), some (vI x2), some (vI x3)], [], wC a2 a3 a5 a6 a7 a8 a9 a10 a11 a13 a15 a19 a20 a21 a22 a23 a24 a25 a26 a27 a30 a31 a32 a33 a34 a35 a36 a37 a38 v0 v1 v2 v3 v4 x1 x2 v7 v8 v9 v10 md, (0, 0))) 3 rfl trivial ?_
        refine Ev.go (st' := (39, [some (vR 12), some (vI x1), some (vI x2), some (vI x3)], [], wC a2 a3 a5 a6 a7 a8 a9 a10 a11 a13 a15 a19 a20 a21 a22 a23 a24 a25 a26 a27 a30 a31 a32 a33 a34 a35 a36 a37 a38 v0 v1 v2 v3 v4 x1 x2 x3 v8 v9 v10 md, (0, 0))) 3 rfl trivial ?_
        exact Ev.wk (Lle.n (Lle.n (Lle.n (Lle.n Lle.z)))) (Ev.to kJ3 (by simp only [iF_neg h3]))
    · exact Ev.wk (Lle.n (Lle.n (Lle.n (Lle.n Lle.z)))) (Ev.to kJ2 (by simp only [iF_neg h2]))

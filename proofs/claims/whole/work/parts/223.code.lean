/-! OF MeshNamesModel.restore(I)I -/
noncomputable def f_M_restore (x1 : Int32) (state_ : Nat → Int32) (isKept : Nat → Int32) (images_ : Nat → Int32) : Int32 × (Nat → Int32) := (iF ((f_M_in x1 (0 : Int32) (1 : Int32)) = 0) ((-2 : Int32), state_) (iF ((isKept x1.toNatClampNeg) = 0) ((-3 : Int32), state_) ((1 : Int32), (f_M_load x1 images_ state_))))
def P_M_restore (x1 : Int32) (state_ : Nat → Int32) (isKept : Nat → Int32) (images_ : Nat → Int32) : Prop := (((f_M_in x1 (0 : Int32) (1 : Int32)) = 0 → True) ∧ (¬ ((f_M_in x1 (0 : Int32) (1 : Int32)) = 0) → (vp_in x1 2 ∧ (((isKept x1.toNatClampNeg) = 0 → True) ∧ (¬ ((isKept x1.toNatClampNeg) = 0) → ((P_M_load x1 images_ state_) ∧ True))) ∧ True))) ∧ True
set_option maxRecDepth 8000 in
set_option maxHeartbeats 4000000 in
theorem e_M_restore_39 (κ : Sg) (a40 a41 a42 a43 a44 a45 a46 a47 a48 a49 a50 : Nat → Int32) (v11 v12 v13 v14 : Int32) (x1 : Int32) (hP : P_M_restore x1 a40 a42 a41)  : Ev none 129 (0, [some (vR 39), some (vI x1)], [], wd κ (mM a40 a41 a42 a43 a44 a45 a46 a47 a48 a49 a50 v11 v12 v13 v14), (0, 0)) (some (f_M_restore x1 a40 a42 a41).1, wd κ (mM (f_M_restore x1 a40 a42 a41).2 a41 a42 a43 a44 a45 a46 a47 a48 a49 a50 v11 v12 v13 v14)) := by
  suffices hh : ∀ (r : Option Int32 × AW) (K : (Int32 × (Nat → Int32)) → Prop), K = (fun o : Int32 × (Nat → Int32) => (some o.1, wd κ (mM o.2 a41 a42 a43 a44 a45 a46 a47 a48 a49 a50 v11 v12 v13 v14)) = r) → K (iF ((f_M_in x1 (0 : Int32) (1 : Int32)) = 0) ((-2 : Int32), a40) (iF ((a42 x1.toNatClampNeg) = 0) ((-3 : Int32), a40) ((1 : Int32), (f_M_load x1 a41 a40)))) → Ev none 129 (0, [some (vR 39), some (vI x1)], [], wd κ (mM a40 a41 a42 a43 a44 a45 a46 a47 a48 a49 a50 v11 v12 v13 v14), (0, 0)) r from hh _ _ rfl rfl
  intro r K hK k
  refine Ev.go (st' := (3, [some (vR 39), some (vI x1)], [vI (1 : Int32), vI (0 : Int32), vI x1], wd κ (mM a40 a41 a42 a43 a44 a45 a46 a47 a48 a49 a50 v11 v12 v13 v14), (0, 0))) 3 rfl trivial ?_
  refine Ev.callI (a := 25) (As := [vI x1, vI (0 : Int32), vI (1 : Int32)]) [] (f_M_in x1 (0 : Int32) (1 : Int32)) (wd κ (mM a40 a41 a42 a43 a44 a45 a46 a47 a48 a49 a50 v11 v12 v13 v14)) rfl (e_M_in (wd κ (mM a40 a41 a42 a43 a44 a45 a46 a47 a48 a49 a50 v11 v12 v13 v14)) x1 (0 : Int32) (1 : Int32)) ?_
  refine Ev.go (st' := (if (f_M_in x1 (0 : Int32) (1 : Int32)) = 0 then 9 else 12, [some (vR 39), some (vI x1)], [], wd κ (mM a40 a41 a42 a43 a44 a45 a46 a47 a48 a49 a50 v11 v12 v13 v14), (0, 0))) 1 rfl trivial ?_
  refine Ev.brK (K := K) k (fun h1 k => ?_) (fun h1 k => ?_)
  · refine Ev.go (st' := (11, [some (vR 39), some (vI x1)], [vI (-2 : Int32)], wd κ (mM a40 a41 a42 a43 a44 a45 a46 a47 a48 a49 a50 v11 v12 v13 v14), (0, 0))) 1 rfl trivial ?_
    rw [hK] at k
    have k3 : (some (-2 : Int32), wd κ (mM a40 a41 a42 a43 a44 a45 a46 a47 a48 a49 a50 v11 v12 v13 v14)) = r := k
    rw [← k3]
    exact Ev.ireti rfl rfl
  · refine Ev.go (st' := (if (a42 x1.toNatClampNeg) = 0 then 21 else 24, [some (vR 39), some (vI x1)], [], wd κ (mM a40 a41 a42 a43 a44 a45 a46 a47 a48 a49 a50 v11 v12 v13 v14), (0, 0))) 5 rfl ⟨(hP.1.2 h1).1, trivial⟩ ?_
    refine Ev.brK (K := K) k (fun h2 k => ?_) (fun h2 k => ?_)
    · refine Ev.go (st' := (23, [some (vR 39), some (vI x1)], [vI (-3 : Int32)], wd κ (mM a40 a41 a42 a43 a44 a45 a46 a47 a48 a49 a50 v11 v12 v13 v14), (0, 0))) 1 rfl trivial ?_
      rw [hK] at k
      have k3 : (some (-3 : Int32), wd κ (mM a40 a41 a42 a43 a44 a45 a46 a47 a48 a49 a50 v11 v12 v13 v14)) = r := k
      rw [← k3]
      exact Ev.ireti rfl rfl
    · refine Ev.go (st' := (26, [some (vR 39), some (vI x1)], [vI x1, vR 39], wd κ (mM a40 a41 a42 a43 a44 a45 a46 a47 a48 a49 a50 v11 v12 v13 v14), (0, 0))) 2 rfl trivial ?_
      refine Ev.callV (a := 122) (As := [vR 39, vI x1]) [] (wd κ (mM (f_M_load x1 a41 a40) a41 a42 a43 a44 a45 a46 a47 a48 a49 a50 v11 v12 v13 v14)) rfl (e_M_load_39 κ a40 a41 a42 a43 a44 a45 a46 a47 a48 a49 a50 v11 v12 v13 v14 x1 ((hP.1.2 h1).2.1.2 h2).1) ?_
      refine Ev.go (st' := (30, [some (vR 39), some (vI x1)], [vI (1 : Int32)], wd κ (mM (f_M_load x1 a41 a40) a41 a42 a43 a44 a45 a46 a47 a48 a49 a50 v11 v12 v13 v14), (0, 0))) 1 rfl trivial ?_
      rw [hK] at k
      have k3 : (some (1 : Int32), wd κ (mM (f_M_load x1 a41 a40) a41 a42 a43 a44 a45 a46 a47 a48 a49 a50 v11 v12 v13 v14)) = r := k
      rw [← k3]
      exact Ev.ireti rfl rfl

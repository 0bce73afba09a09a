/-! OF MeshNamesModel.counts(II)Z -/
noncomputable def f_M_counts (x1 : Int32) (x2 : Int32) (state_ : Nat → Int32) : Int32 := (iF ((f_M_isLink x1 x2 state_) = 0) (0 : Int32) (iF ((f_M_isUp x1 state_) = 0) (0 : Int32) (iF ((f_M_isUp x2 state_) = 0) (0 : Int32) (1 : Int32))))
def P_M_counts (x1 : Int32) (x2 : Int32) (state_ : Nat → Int32) : Prop := (P_M_isLink x1 x2 state_) ∧ (((f_M_isLink x1 x2 state_) = 0 → True) ∧ (¬ ((f_M_isLink x1 x2 state_) = 0) → ((P_M_isUp x1 state_) ∧ (((f_M_isUp x1 state_) = 0 → True) ∧ (¬ ((f_M_isUp x1 state_) = 0) → ((P_M_isUp x2 state_) ∧ True))) ∧ True))) ∧ True
theorem z_M_counts (x1 : Int32) (x2 : Int32) (state_ : Nat → Int32) : (f_M_counts x1 x2 state_) &&& 1 = f_M_counts x1 x2 state_ := (z_iF rfl (z_iF rfl (z_iF rfl rfl)))
set_option maxRecDepth 8000 in
set_option maxHeartbeats 4000000 in
theorem e_M_counts_39 (κ : Sg) (a40 a41 a42 a43 a44 a45 a46 a47 a48 a49 a50 : Nat → Int32) (v11 v12 v13 v14 : Int32) (x1 x2 : Int32) (hP : P_M_counts x1 x2 a40)  : Ev none 47 (0, [some (vR 39), some (vI x1), some (vI x2)], [], wd κ (mM a40 a41 a42 a43 a44 a45 a46 a47 a48 a49 a50 v11 v12 v13 v14), (0, 0)) (some (f_M_counts x1 x2 a40), wd κ (mM a40 a41 a42 a43 a44 a45 a46 a47 a48 a49 a50 v11 v12 v13 v14)) := by
  suffices hh : ∀ (r : Option Int32 × AW) (K : (Int32) → Prop), K = (fun o : Int32 => (some o, wd κ (mM a40 a41 a42 a43 a44 a45 a46 a47 a48 a49 a50 v11 v12 v13 v14)) = r) → K (iF ((f_M_isLink x1 x2 a40) = 0) (0 : Int32) (iF ((f_M_isUp x1 a40) = 0) (0 : Int32) (iF ((f_M_isUp x2 a40) = 0) (0 : Int32) (1 : Int32)))) → Ev none 47 (0, [some (vR 39), some (vI x1), some (vI x2)], [], wd κ (mM a40 a41 a42 a43 a44 a45 a46 a47 a48 a49 a50 v11 v12 v13 v14), (0, 0)) r from hh _ _ rfl rfl
  intro r K hK k
  refine Ev.go (st' := (3, [some (vR 39), some (vI x1), some (vI x2)], [vI x2, vI x1, vR 39], wd κ (mM a40 a41 a42 a43 a44 a45 a46 a47 a48 a49 a50 v11 v12 v13 v14), (0, 0))) 3 rfl trivial ?_
  refine Ev.callI (a := 46) (As := [vR 39, vI x1, vI x2]) [] (f_M_isLink x1 x2 a40) (wd κ (mM a40 a41 a42 a43 a44 a45 a46 a47 a48 a49 a50 v11 v12 v13 v14)) rfl (e_M_isLink_39 κ a40 a41 a42 a43 a44 a45 a46 a47 a48 a49 a50 v11 v12 v13 v14 x1 x2 hP.1) ?_
  refine Ev.go (st' := (if (f_M_isLink x1 x2 a40) = 0 then 29 else 9, [some (vR 39), some (vI x1), some (vI x2)], [], wd κ (mM a40 a41 a42 a43 a44 a45 a46 a47 a48 a49 a50 v11 v12 v13 v14), (0, 0))) 1 rfl trivial ?_
  have kJ1 : Ev none 47 (30, [none, none, none], [vI (iF ((f_M_isLink x1 x2 a40) = 0) (0 : Int32) (iF ((f_M_isUp x1 a40) = 0) (0 : Int32) (iF ((f_M_isUp x2 a40) = 0) (0 : Int32) (1 : Int32))))], wd κ (mM a40 a41 a42 a43 a44 a45 a46 a47 a48 a49 a50 v11 v12 v13 v14), (0, 0)) r := by
    rw [hK] at k
    have k3 : (some (iF ((f_M_isLink x1 x2 a40) = 0) (0 : Int32) (iF ((f_M_isUp x1 a40) = 0) (0 : Int32) (iF ((f_M_isUp x2 a40) = 0) (0 : Int32) (1 : Int32)))), wd κ (mM a40 a41 a42 a43 a44 a45 a46 a47 a48 a49 a50 v11 v12 v13 v14)) = r := k
    rw [← k3]
    exact Ev.iretz rfl rfl (by exact (z_iF rfl (z_iF rfl (z_iF rfl rfl))))
  refine Ev.br (fun h1 => ?_) (fun h1 => ?_)
  · refine Ev.go (st' := (30, [some (vR 39), some (vI x1), some (vI x2)], [vI (0 : Int32)], wd κ (mM a40 a41 a42 a43 a44 a45 a46 a47 a48 a49 a50 v11 v12 v13 v14), (0, 0))) 1 rfl trivial ?_
    exact Ev.wk (Lle.n (Lle.n (Lle.n Lle.z))) (Ev.to kJ1 (by simp only [iF_pos h1]))
  · refine Ev.go (st' := (11, [some (vR 39), some (vI x1), some (vI x2)], [vI x1, vR 39], wd κ (mM a40 a41 a42 a43 a44 a45 a46 a47 a48 a49 a50 v11 v12 v13 v14), (0, 0))) 2 rfl trivial ?_
    refine Ev.callI (a := 28) (As := [vR 39, vI x1]) [] (f_M_isUp x1 a40) (wd κ (mM a40 a41 a42 a43 a44 a45 a46 a47 a48 a49 a50 v11 v12 v13 v14)) rfl (e_M_isUp_39 κ a40 a41 a42 a43 a44 a45 a46 a47 a48 a49 a50 v11 v12 v13 v14 x1 (hP.2.1.2 h1).1) ?_
    refine Ev.go (st' := (if (f_M_isUp x1 a40) = 0 then 29 else 17, [some (vR 39), some (vI x1), some (vI x2)], [], wd κ (mM a40 a41 a42 a43 a44 a45 a46 a47 a48 a49 a50 v11 v12 v13 v14), (0, 0))) 1 rfl trivial ?_
    have kJ2 : Ev none 47 (30, [none, none, none], [vI (iF ((f_M_isUp x1 a40) = 0) (0 : Int32) (iF ((f_M_isUp x2 a40) = 0) (0 : Int32) (1 : Int32)))], wd κ (mM a40 a41 a42 a43 a44 a45 a46 a47 a48 a49 a50 v11 v12 v13 v14), (0, 0)) r := by
      exact Ev.wk (Lle.n (Lle.n (Lle.n Lle.z))) (Ev.to kJ1 (by simp only [iF_neg h1]))
    refine Ev.br (fun h2 => ?_) (fun h2 => ?_)
    · refine Ev.go (st' := (30, [some (vR 39), some (vI x1), some (vI x2)], [vI (0 : Int32)], wd κ (mM a40 a41 a42 a43 a44 a45 a46 a47 a48 a49 a50 v11 v12 v13 v14), (0, 0))) 1 rfl trivial ?_
      exact Ev.wk (Lle.n (Lle.n (Lle.n Lle.z))) (Ev.to kJ2 (by simp only [iF_pos h2]))
    · refine Ev.go (st' := (19, [some (vR 39), some (vI x1), some (vI x2)], [vI x2, vR 39], wd κ (mM a40 a41 a42 a43 a44 a45 a46 a47 a48 a49 a50 v11 v12 v13 v14), (0, 0))) 2 rfl trivial ?_
      refine Ev.callI (a := 28) (As := [vR 39, vI x2]) [] (f_M_isUp x2 a40) (wd κ (mM a40 a41 a42 a43 a44 a45 a46 a47 a48 a49 a50 v11 v12 v13 v14)) rfl (e_M_isUp_39 κ a40 a41 a42 a43 a44 a45 a46 a47 a48 a49 a50 v11 v12 v13 v14 x2 ((hP.2.1.2 h1).2.1.2 h2).1) ?_
      refine Ev.go (st' := (if (f_M_isUp x2 a40) = 0 then 29 else 25, [some (vR 39), some (vI x1), some (vI x2)], [], wd κ (mM a40 a41 a42 a43 a44 a45 a46 a47 a48 a49 a50 v11 v12 v13 v14), (0, 0))) 1 rfl trivial ?_
      have kJ3 : Ev none 47 (30, [none, none, none], [vI (iF ((f_M_isUp x2 a40) = 0) (0 : Int32) (1 : Int32))], wd κ (mM a40 a41 a42 a43 a44 a45 a46 a47 a48 a49 a50 v11 v12 v13 v14), (0, 0)) r := by
        exact Ev.wk (Lle.n (Lle.n (Lle.n Lle.z))) (Ev.to kJ2 (by simp only [iF_neg h2]))
      refine Ev.br (fun h3 => ?_) (fun h3 => ?_)
      · refine Ev.go (st' := (30, [some (vR 39), some (vI x1), some (vI x2)], [vI (0 : Int32)], wd κ (mM a40 a41 a42 a43 a44 a45 a46 a47 a48 a49 a50 v11 v12 v13 v14), (0, 0))) 1 rfl trivial ?_
        exact Ev.wk (Lle.n (Lle.n (Lle.n Lle.z))) (Ev.to kJ3 (by simp only [iF_pos h3]))
      · refine Ev.go (st' := (30, [some (vR 39), some (vI x1), some (vI x2)], [vI (1 : Int32)], wd κ (mM a40 a41 a42 a43 a44 a45 a46 a47 a48 a49 a50 v11 v12 v13 v14), (0, 0))) 2 rfl trivial ?_
        exact Ev.wk (Lle.n (Lle.n (Lle.n Lle.z))) (Ev.to kJ3 (by simp only [iF_neg h3]))

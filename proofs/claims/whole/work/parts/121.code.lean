/-! OF MeshNamesModel.isUp(I)Z -/
noncomputable def f_M_isUp (x1 : Int32) (state_ : Nat → Int32) : Int32 := (iF ((state_ ((0 : Int32) + x1).toNatClampNeg) = (1 : Int32)) (1 : Int32) (0 : Int32))
def P_M_isUp (x1 : Int32) (state_ : Nat → Int32) : Prop := vp_in ((0 : Int32) + x1) 80 ∧ True
theorem z_M_isUp (x1 : Int32) (state_ : Nat → Int32) : (f_M_isUp x1 state_) &&& 1 = f_M_isUp x1 state_ := (z_iF rfl rfl)
set_option maxRecDepth 8000 in
set_option maxHeartbeats 4000000 in
theorem e_M_isUp_39 (κ : Sg) (a40 a41 a42 a43 a44 a45 a46 a47 a48 a49 a50 : Nat → Int32) (v11 v12 v13 v14 : Int32) (x1 : Int32) (hP : P_M_isUp x1 a40)  : Ev none 28 (0, [some (vR 39), some (vI x1)], [], wd κ (mM a40 a41 a42 a43 a44 a45 a46 a47 a48 a49 a50 v11 v12 v13 v14), (0, 0)) (some (f_M_isUp x1 a40), wd κ (mM a40 a41 a42 a43 a44 a45 a46 a47 a48 a49 a50 v11 v12 v13 v14)) := by
  suffices hh : ∀ (r : Option Int32 × AW) (K : (Int32) → Prop), K = (fun o : Int32 => (some o, wd κ (mM a40 a41 a42 a43 a44 a45 a46 a47 a48 a49 a50 v11 v12 v13 v14)) = r) → K (iF ((a40 ((0 : Int32) + x1).toNatClampNeg) = (1 : Int32)) (1 : Int32) (0 : Int32)) → Ev none 28 (0, [some (vR 39), some (vI x1)], [], wd κ (mM a40 a41 a42 a43 a44 a45 a46 a47 a48 a49 a50 v11 v12 v13 v14), (0, 0)) r from hh _ _ rfl rfl
  intro r K hK k
  refine Ev.go (st' := (if (a40 ((0 : Int32) + x1).toNatClampNeg) = (1 : Int32) then 12 else 16, [some (vR 39), some (vI x1)], [], wd κ (mM a40 a41 a42 a43 a44 a45 a46 a47 a48 a49 a50 v11 v12 v13 v14), (0, 0))) 8 rfl ⟨hP.1, trivial⟩ ?_
  have kJ1 : Ev none 28 (17, [none, none], [vI (iF ((a40 ((0 : Int32) + x1).toNatClampNeg) = (1 : Int32)) (1 : Int32) (0 : Int32))], wd κ (mM a40 a41 a42 a43 a44 a45 a46 a47 a48 a49 a50 v11 v12 v13 v14), (0, 0)) r := by
    rw [hK] at k
    have k3 : (some (iF ((a40 ((0 : Int32) + x1).toNatClampNeg) = (1 : Int32)) (1 : Int32) (0 : Int32)), wd κ (mM a40 a41 a42 a43 a44 a45 a46 a47 a48 a49 a50 v11 v12 v13 v14)) = r := k
    rw [← k3]
    exact Ev.iretz rfl rfl (by exact (z_iF rfl rfl))
  refine Ev.br (fun h1 => ?_) (fun h1 => ?_)
  · refine Ev.go (st' := (17, [some (vR 39), some (vI x1)], [vI (1 : Int32)], wd κ (mM a40 a41 a42 a43 a44 a45 a46 a47 a48 a49 a50 v11 v12 v13 v14), (0, 0))) 2 rfl trivial ?_
    exact Ev.wk (Lle.n (Lle.n Lle.z)) (Ev.to kJ1 (by simp only [iF_pos h1]))
  · refine Ev.go (st' := (17, [some (vR 39), some (vI x1)], [vI (0 : Int32)], wd κ (mM a40 a41 a42 a43 a44 a45 a46 a47 a48 a49 a50 v11 v12 v13 v14), (0, 0))) 1 rfl trivial ?_
    exact Ev.wk (Lle.n (Lle.n Lle.z)) (Ev.to kJ1 (by simp only [iF_neg h1]))

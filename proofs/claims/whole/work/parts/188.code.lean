/-! OF MeshNamesModel.spareNow()I -/
noncomputable def f_M_spareNow (routeMany : Int32) (steps : Nat → Int32) (route : Nat → Int32) : Int32 := ((routeMany - (1 : Int32)) - (steps (((8 : Int32) * (route (0 : Int32).toNatClampNeg)) + (route (routeMany - (1 : Int32)).toNatClampNeg)).toNatClampNeg))
def P_M_spareNow (routeMany : Int32) (steps : Nat → Int32) (route : Nat → Int32) : Prop := vp_in (routeMany - (1 : Int32)) 1024 ∧ vp_in (((8 : Int32) * (route (0 : Int32).toNatClampNeg)) + (route (routeMany - (1 : Int32)).toNatClampNeg)) 64 ∧ True
set_option maxRecDepth 8000 in
set_option maxHeartbeats 4000000 in
theorem e_M_spareNow_39 (κ : Sg) (a40 a41 a42 a43 a44 a45 a46 a47 a48 a49 a50 : Nat → Int32) (v11 v12 v13 v14 : Int32) (hP : P_M_spareNow v11 a43 a47)  : Ev none 95 (0, [some (vR 39)], [], wd κ (mM a40 a41 a42 a43 a44 a45 a46 a47 a48 a49 a50 v11 v12 v13 v14), (0, 0)) (some (f_M_spareNow v11 a43 a47), wd κ (mM a40 a41 a42 a43 a44 a45 a46 a47 a48 a49 a50 v11 v12 v13 v14)) := by
  suffices hh : ∀ (r : Option Int32 × AW) (K : (Int32) → Prop), K = (fun o : Int32 => (some o, wd κ (mM a40 a41 a42 a43 a44 a45 a46 a47 a48 a49 a50 v11 v12 v13 v14)) = r) → K ((v11 - (1 : Int32)) - (a43 (((8 : Int32) * (a47 (0 : Int32).toNatClampNeg)) + (a47 (v11 - (1 : Int32)).toNatClampNeg)).toNatClampNeg)) → Ev none 95 (0, [some (vR 39)], [], wd κ (mM a40 a41 a42 a43 a44 a45 a46 a47 a48 a49 a50 v11 v12 v13 v14), (0, 0)) r from hh _ _ rfl rfl
  intro r K hK k
  refine Ev.go (st' := (33, [some (vR 39)], [vI ((v11 - (1 : Int32)) - (a43 (((8 : Int32) * (a47 (0 : Int32).toNatClampNeg)) + (a47 (v11 - (1 : Int32)).toNatClampNeg)).toNatClampNeg))], wd κ (mM a40 a41 a42 a43 a44 a45 a46 a47 a48 a49 a50 v11 v12 v13 v14), (0, 0))) 22 rfl ⟨(by unfold vp_in; decide), hP.1, hP.2.1, trivial⟩ ?_
  rw [hK] at k
  have k3 : (some ((v11 - (1 : Int32)) - (a43 (((8 : Int32) * (a47 (0 : Int32).toNatClampNeg)) + (a47 (v11 - (1 : Int32)).toNatClampNeg)).toNatClampNeg)), wd κ (mM a40 a41 a42 a43 a44 a45 a46 a47 a48 a49 a50 v11 v12 v13 v14)) = r := k
  rw [← k3]
  exact Ev.ireti rfl rfl

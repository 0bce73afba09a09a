/-! OF MeshNamesModel.ahead(II)I -/
noncomputable def f_M_ahead (x1 : Int32) (x2 : Int32) (state_ : Nat → Int32) : Int32 := ((((state_ ((8 : Int32) + x2).toNatClampNeg) - (state_ ((8 : Int32) + x1).toNatClampNeg)) + (256 : Int32)) - (((state_ ((8 : Int32) + x2).toNatClampNeg) - (state_ ((8 : Int32) + x1).toNatClampNeg)) + (256 : Int32)) / (256 : Int32) * (256 : Int32))
def P_M_ahead (x1 : Int32) (x2 : Int32) (state_ : Nat → Int32) : Prop := vp_in ((8 : Int32) + x2) 80 ∧ vp_in ((8 : Int32) + x1) 80 ∧ True
set_option maxRecDepth 8000 in
set_option maxHeartbeats 4000000 in
theorem e_M_ahead_39 (κ : Sg) (a40 a41 a42 a43 a44 a45 a46 a47 a48 a49 a50 : Nat → Int32) (v11 v12 v13 v14 : Int32) (x1 x2 : Int32) (hP : P_M_ahead x1 x2 a40)  : Ev none 51 (0, [some (vR 39), some (vI x1), some (vI x2)], [], wd κ (mM a40 a41 a42 a43 a44 a45 a46 a47 a48 a49 a50 v11 v12 v13 v14), (0, 0)) (some (f_M_ahead x1 x2 a40), wd κ (mM a40 a41 a42 a43 a44 a45 a46 a47 a48 a49 a50 v11 v12 v13 v14)) := by
  suffices hh : ∀ (r : Option Int32 × AW) (K : (Int32) → Prop), K = (fun o : Int32 => (some o, wd κ (mM a40 a41 a42 a43 a44 a45 a46 a47 a48 a49 a50 v11 v12 v13 v14)) = r) → K ((((a40 ((8 : Int32) + x2).toNatClampNeg) - (a40 ((8 : Int32) + x1).toNatClampNeg)) + (256 : Int32)) - (((a40 ((8 : Int32) + x2).toNatClampNeg) - (a40 ((8 : Int32) + x1).toNatClampNeg)) + (256 : Int32)) / (256 : Int32) * (256 : Int32)) → Ev none 51 (0, [some (vR 39), some (vI x1), some (vI x2)], [], wd κ (mM a40 a41 a42 a43 a44 a45 a46 a47 a48 a49 a50 v11 v12 v13 v14), (0, 0)) r from hh _ _ rfl rfl
  intro r K hK k
  refine Ev.go (st' := (27, [some (vR 39), some (vI x1), some (vI x2)], [vI ((((a40 ((8 : Int32) + x2).toNatClampNeg) - (a40 ((8 : Int32) + x1).toNatClampNeg)) + (256 : Int32)) - (((a40 ((8 : Int32) + x2).toNatClampNeg) - (a40 ((8 : Int32) + x1).toNatClampNeg)) + (256 : Int32)) / (256 : Int32) * (256 : Int32))], wd κ (mM a40 a41 a42 a43 a44 a45 a46 a47 a48 a49 a50 v11 v12 v13 v14), (0, 0))) 17 rfl ⟨hP.1, hP.2.1, (by decide), trivial⟩ ?_
  rw [hK] at k
  have k3 : (some ((((a40 ((8 : Int32) + x2).toNatClampNeg) - (a40 ((8 : Int32) + x1).toNatClampNeg)) + (256 : Int32)) - (((a40 ((8 : Int32) + x2).toNatClampNeg) - (a40 ((8 : Int32) + x1).toNatClampNeg)) + (256 : Int32)) / (256 : Int32) * (256 : Int32)), wd κ (mM a40 a41 a42 a43 a44 a45 a46 a47 a48 a49 a50 v11 v12 v13 v14)) = r := k
  rw [← k3]
  exact Ev.ireti rfl rfl

/-! OF MeshNamesModel.areTogether(II)Z -/
noncomputable def f_M_areTogether (x1 : Int32) (x2 : Int32) (steps : Nat → Int32) : Int32 := (iF ((1000 : Int32) ≤ (steps (((8 : Int32) * x1) + x2).toNatClampNeg)) (0 : Int32) (1 : Int32))
def P_M_areTogether (x1 : Int32) (x2 : Int32) (steps : Nat → Int32) : Prop := vp_in (((8 : Int32) * x1) + x2) 64 ∧ True
theorem z_M_areTogether (x1 : Int32) (x2 : Int32) (steps : Nat → Int32) : (f_M_areTogether x1 x2 steps) &&& 1 = f_M_areTogether x1 x2 steps := (z_iF rfl rfl)
set_option maxRecDepth 8000 in
set_option maxHeartbeats 4000000 in
theorem e_M_areTogether_39 (κ : Sg) (a40 a41 a42 a43 a44 a45 a46 a47 a48 a49 a50 : Nat → Int32) (v11 v12 v13 v14 : Int32) (x1 x2 : Int32) (hP : P_M_areTogether x1 x2 a43)  : Ev none 50 (0, [some (vR 39), some (vI x1), some (vI x2)], [], wd κ (mM a40 a41 a42 a43 a44 a45 a46 a47 a48 a49 a50 v11 v12 v13 v14), (0, 0)) (some (f_M_areTogether x1 x2 a43), wd κ (mM a40 a41 a42 a43 a44 a45 a46 a47 a48 a49 a50 v11 v12 v13 v14)) := by
  suffices hh : ∀ (r : Option Int32 × AW) (K : (Int32) → Prop), K = (fun o : Int32 => (some o, wd κ (mM a40 a41 a42 a43 a44 a45 a46 a47 a48 a49 a50 v11 v12 v13 v14)) = r) → K (iF ((1000 : Int32) ≤ (a43 (((8 : Int32) * x1) + x2).toNatClampNeg)) (0 : Int32) (1 : Int32)) → Ev none 50 (0, [some (vR 39), some (vI x1), some (vI x2)], [], wd κ (mM a40 a41 a42 a43 a44 a45 a46 a47 a48 a49 a50 v11 v12 v13 v14), (0, 0)) r from hh _ _ rfl rfl
  intro r K hK k
  refine Ev.go (st' := (if (1000 : Int32) ≤ (a43 (((8 : Int32) * x1) + x2).toNatClampNeg) then 21 else 17, [some (vR 39), some (vI x1), some (vI x2)], [], wd κ (mM a40 a41 a42 a43 a44 a45 a46 a47 a48 a49 a50 v11 v12 v13 v14), (0, 0))) 10 rfl ⟨hP.1, trivial⟩ ?_
  have kJ1 : Ev none 50 (22, [none, none, none], [vI (iF ((1000 : Int32) ≤ (a43 (((8 : Int32) * x1) + x2).toNatClampNeg)) (0 : Int32) (1 : Int32))], wd κ (mM a40 a41 a42 a43 a44 a45 a46 a47 a48 a49 a50 v11 v12 v13 v14), (0, 0)) r := by
    rw [hK] at k
    have k3 : (some (iF ((1000 : Int32) ≤ (a43 (((8 : Int32) * x1) + x2).toNatClampNeg)) (0 : Int32) (1 : Int32)), wd κ (mM a40 a41 a42 a43 a44 a45 a46 a47 a48 a49 a50 v11 v12 v13 v14)) = r := k
    rw [← k3]
    exact Ev.iretz rfl rfl (by exact (z_iF rfl rfl))
  refine Ev.br (fun h1 => ?_) (fun h1 => ?_)
  · refine Ev.go (st' := (22, [some (vR 39), some (vI x1), some (vI x2)], [vI (0 : Int32)], wd κ (mM a40 a41 a42 a43 a44 a45 a46 a47 a48 a49 a50 v11 v12 v13 v14), (0, 0))) 1 rfl trivial ?_
    exact Ev.wk (Lle.n (Lle.n (Lle.n Lle.z))) (Ev.to kJ1 (by simp only [iF_pos h1]))
  · refine Ev.go (st' := (22, [some (vR 39), some (vI x1), some (vI x2)], [vI (1 : Int32)], wd κ (mM a40 a41 a42 a43 a44 a45 a46 a47 a48 a49 a50 v11 v12 v13 v14), (0, 0))) 2 rfl trivial ?_
    exact Ev.wk (Lle.n (Lle.n (Lle.n Lle.z))) (Ev.to kJ1 (by simp only [iF_neg h1]))

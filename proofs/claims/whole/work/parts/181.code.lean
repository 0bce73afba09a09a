/-! OF MeshNamesModel.leftOn(III)I -/
noncomputable def f_M_leftOn (x1 : Int32) (x2 : Int32) (x3 : Int32) (rowMany : Nat → Int32) (row : Nat → Int32) (next_ : Nat → Int32) : Int32 := (iF (0 ≤ (f_M_placeIn x1 x2 rowMany row)) (iF (x3 = (next_ x1.toNatClampNeg)) (((rowMany x1.toNatClampNeg) - (1 : Int32)) - (f_M_placeIn x1 x2 rowMany row)) (iF (x3 = x1) (f_M_placeIn x1 x2 rowMany row) (1000 : Int32))) (1000 : Int32))
def P_M_leftOn (x1 : Int32) (x2 : Int32) (x3 : Int32) (rowMany : Nat → Int32) (row : Nat → Int32) (next_ : Nat → Int32) : Prop := (P_M_placeIn x1 x2 rowMany row) ∧ ((0 ≤ (f_M_placeIn x1 x2 rowMany row) → (vp_in x1 8 ∧ ((x3 = (next_ x1.toNatClampNeg) → (vp_in x1 8 ∧ True)) ∧ (¬ (x3 = (next_ x1.toNatClampNeg)) → True)) ∧ True)) ∧ (¬ (0 ≤ (f_M_placeIn x1 x2 rowMany row)) → True)) ∧ True
set_option maxRecDepth 8000 in
set_option maxHeartbeats 4000000 in
theorem e_M_leftOn_39 (κ : Sg) (a40 a41 a42 a43 a44 a45 a46 a47 a48 a49 a50 : Nat → Int32) (v11 v12 v13 v14 : Int32) (x1 x2 x3 : Int32) (hP : P_M_leftOn x1 x2 x3 a46 a45 a44)  : Ev none 88 (0, [some (vR 39), some (vI x1), some (vI x2), some (vI x3), none], [], wd κ (mM a40 a41 a42 a43 a44 a45 a46 a47 a48 a49 a50 v11 v12 v13 v14), (0, 0)) (some (f_M_leftOn x1 x2 x3 a46 a45 a44), wd κ (mM a40 a41 a42 a43 a44 a45 a46 a47 a48 a49 a50 v11 v12 v13 v14)) := by
  suffices hh : ∀ (r : Option Int32 × AW) (K : (Int32) → Prop), K = (fun o : Int32 => (some o, wd κ (mM a40 a41 a42 a43 a44 a45 a46 a47 a48 a49 a50 v11 v12 v13 v14)) = r) → K (iF (0 ≤ (f_M_placeIn x1 x2 a46 a45)) (iF (x3 = (a44 x1.toNatClampNeg)) (((a46 x1.toNatClampNeg) - (1 : Int32)) - (f_M_placeIn x1 x2 a46 a45)) (iF (x3 = x1) (f_M_placeIn x1 x2 a46 a45) (1000 : Int32))) (1000 : Int32)) → Ev none 88 (0, [some (vR 39), some (vI x1), some (vI x2), some (vI x3), none], [], wd κ (mM a40 a41 a42 a43 a44 a45 a46 a47 a48 a49 a50 v11 v12 v13 v14), (0, 0)) r from hh _ _ rfl rfl
  intro r K hK k
  refine Ev.go (st' := (3, [some (vR 39), some (vI x1), some (vI x2), some (vI x3), none], [vI x2, vI x1, vR 39], wd κ (mM a40 a41 a42 a43 a44 a45 a46 a47 a48 a49 a50 v11 v12 v13 v14), (0, 0))) 3 rfl trivial ?_
  refine Ev.callI (a := 59) (As := [vR 39, vI x1, vI x2]) [] (f_M_placeIn x1 x2 a46 a45) (wd κ (mM a40 a41 a42 a43 a44 a45 a46 a47 a48 a49 a50 v11 v12 v13 v14)) rfl (e_M_placeIn_39 κ a40 a41 a42 a43 a44 a45 a46 a47 a48 a49 a50 v11 v12 v13 v14 x1 x2 hP.1) ?_
  refine Ev.go (st' := (if 0 ≤ (f_M_placeIn x1 x2 a46 a45) then 17 else 13, [some (vR 39), some (vI x1), some (vI x2), some (vI x3), some (vI (f_M_placeIn x1 x2 a46 a45))], [], wd κ (mM a40 a41 a42 a43 a44 a45 a46 a47 a48 a49 a50 v11 v12 v13 v14), (0, 0))) 3 rfl trivial ?_
  refine Ev.brK (K := K) k (fun h1 k => ?_) (fun h1 k => ?_)
  · refine Ev.go (st' := (if x3 = (a44 x1.toNatClampNeg) then 27 else 41, [some (vR 39), some (vI x1), some (vI x2), some (vI x3), some (vI (f_M_placeIn x1 x2 a46 a45))], [], wd κ (mM a40 a41 a42 a43 a44 a45 a46 a47 a48 a49 a50 v11 v12 v13 v14), (0, 0))) 6 rfl ⟨(hP.2.1.1 h1).1, trivial⟩ ?_
    have kJ2 : Ev none 88 (54, [none, none, none, none, none], [vI (iF (x3 = (a44 x1.toNatClampNeg)) (((a46 x1.toNatClampNeg) - (1 : Int32)) - (f_M_placeIn x1 x2 a46 a45)) (iF (x3 = x1) (f_M_placeIn x1 x2 a46 a45) (1000 : Int32)))], wd κ (mM a40 a41 a42 a43 a44 a45 a46 a47 a48 a49 a50 v11 v12 v13 v14), (0, 0)) r := by
      rw [hK] at k
      have k3 : (some (iF (x3 = (a44 x1.toNatClampNeg)) (((a46 x1.toNatClampNeg) - (1 : Int32)) - (f_M_placeIn x1 x2 a46 a45)) (iF (x3 = x1) (f_M_placeIn x1 x2 a46 a45) (1000 : Int32))), wd κ (mM a40 a41 a42 a43 a44 a45 a46 a47 a48 a49 a50 v11 v12 v13 v14)) = r := k
      rw [← k3]
      exact Ev.ireti rfl rfl
    refine Ev.br (fun h2 => ?_) (fun h2 => ?_)
    · refine Ev.go (st' := (54, [some (vR 39), some (vI x1), some (vI x2), some (vI x3), some (vI (f_M_placeIn x1 x2 a46 a45))], [vI (((a46 x1.toNatClampNeg) - (1 : Int32)) - (f_M_placeIn x1 x2 a46 a45))], wd κ (mM a40 a41 a42 a43 a44 a45 a46 a47 a48 a49 a50 v11 v12 v13 v14), (0, 0))) 9 rfl ⟨((hP.2.1.1 h1).2.1.1 h2).1, trivial⟩ ?_
      exact Ev.wk (Lle.n (Lle.n (Lle.n (Lle.n (Lle.n Lle.z))))) (Ev.to kJ2 (by simp only [iF_pos h2]))
    · refine Ev.go (st' := (if x3 = x1 then 46 else 51, [some (vR 39), some (vI x1), some (vI x2), some (vI x3), some (vI (f_M_placeIn x1 x2 a46 a45))], [], wd κ (mM a40 a41 a42 a43 a44 a45 a46 a47 a48 a49 a50 v11 v12 v13 v14), (0, 0))) 3 rfl trivial ?_
      have kJ3 : Ev none 88 (54, [none, none, none, none, none], [vI (iF (x3 = x1) (f_M_placeIn x1 x2 a46 a45) (1000 : Int32))], wd κ (mM a40 a41 a42 a43 a44 a45 a46 a47 a48 a49 a50 v11 v12 v13 v14), (0, 0)) r := by
        exact Ev.wk (Lle.n (Lle.n (Lle.n (Lle.n (Lle.n Lle.z))))) (Ev.to kJ2 (by simp only [iF_neg h2]))
      refine Ev.br (fun h3 => ?_) (fun h3 => ?_)
      · refine Ev.go (st' := (54, [some (vR 39), some (vI x1), some (vI x2), some (vI x3), some (vI (f_M_placeIn x1 x2 a46 a45))], [vI (f_M_placeIn x1 x2 a46 a45)], wd κ (mM a40 a41 a42 a43 a44 a45 a46 a47 a48 a49 a50 v11 v12 v13 v14), (0, 0))) 2 rfl trivial ?_
        exact Ev.wk (Lle.n (Lle.n (Lle.n (Lle.n (Lle.n Lle.z))))) (Ev.to kJ3 (by simp only [iF_pos h3]))
      · refine Ev.go (st' := (54, [some (vR 39), some (vI x1), some (vI x2), some (vI x3), some (vI (f_M_placeIn x1 x2 a46 a45))], [vI (1000 : Int32)], wd κ (mM a40 a41 a42 a43 a44 a45 a46 a47 a48 a49 a50 v11 v12 v13 v14), (0, 0))) 1 rfl trivial ?_
        exact Ev.wk (Lle.n (Lle.n (Lle.n (Lle.n (Lle.n Lle.z))))) (Ev.to kJ3 (by simp only [iF_neg h3]))
  · refine Ev.go (st' := (16, [some (vR 39), some (vI x1), some (vI x2), some (vI x3), some (vI (f_M_placeIn x1 x2 a46 a45))], [vI (1000 : Int32)], wd κ (mM a40 a41 a42 a43 a44 a45 a46 a47 a48 a49 a50 v11 v12 v13 v14), (0, 0))) 1 rfl trivial ?_
    rw [hK] at k
    have k3 : (some (1000 : Int32), wd κ (mM a40 a41 a42 a43 a44 a45 a46 a47 a48 a49 a50 v11 v12 v13 v14)) = r := k
    rw [← k3]
    exact Ev.ireti rfl rfl

/-! OF MeshNamesModel.mostMet()I -/
noncomputable def b_M_mostMet_1 (met : Nat → Int32) (j : Nat) (v : Int32 × Int32) : Int32 × Int32 := ((iF ((met (nI j).toNatClampNeg) ≤ v.2) v.1 (nI j)), (iF ((met (nI j).toNatClampNeg) ≤ v.2) v.2 (met (nI j).toNatClampNeg)))
noncomputable def f_M_mostMet (met : Nat → Int32) : Int32 := (forN (b_M_mostMet_1 met) 0 8 ((-6 : Int32), (0 : Int32))).1
set_option maxRecDepth 8000 in
set_option maxHeartbeats 4000000 in
theorem e_M_mostMet_39 (κ : Sg) (a40 a41 a42 a43 a44 a45 a46 a47 a48 a49 a50 : Nat → Int32) (v11 v12 v13 v14 : Int32)  : Ev none 105 (0, [some (vR 39), none, none, none], [], wd κ (mM a40 a41 a42 a43 a44 a45 a46 a47 a48 a49 a50 v11 v12 v13 v14), (0, 0)) (some (f_M_mostMet a48), wd κ (mM a40 a41 a42 a43 a44 a45 a46 a47 a48 a49 a50 v11 v12 v13 v14)) := by
  suffices hh : ∀ (r : Option Int32 × AW) (K : (Int32) → Prop), K = (fun o : Int32 => (some o, wd κ (mM a40 a41 a42 a43 a44 a45 a46 a47 a48 a49 a50 v11 v12 v13 v14)) = r) → K (forN (b_M_mostMet_1 a48) 0 8 ((-6 : Int32), (0 : Int32))).1 → Ev none 105 (0, [some (vR 39), none, none, none], [], wd κ (mM a40 a41 a42 a43 a44 a45 a46 a47 a48 a49 a50 v11 v12 v13 v14), (0, 0)) r from hh _ _ rfl rfl
  intro r K hK k
  refine Ev.go (st' := (7, [some (vR 39), some (vI (-6 : Int32)), some (vI (0 : Int32)), some (vI (0 : Int32))], [], wd κ (mM a40 a41 a42 a43 a44 a45 a46 a47 a48 a49 a50 v11 v12 v13 v14), (0, 0))) 6 rfl trivial ?_
  refine Ev.wk (Lle.s (Lle.s (Lle.s (Lle.s Lle.z)))) ?_
  refine Ev.loopN (fun c v => (7, [some (vR 39), some (vI v.1), some (vI v.2), some (vI c)], [], wd κ (mM a40 a41 a42 a43 a44 a45 a46 a47 a48 a49 a50 v11 v12 v13 v14), (0, 0))) (b_M_mostMet_1 a48) 0 8 8 ((-6 : Int32), (0 : Int32)) (c0 := (0 : Int32)) rfl (by omega) (fun j hj k2 => ?_) ?_
  · have hi1 : 0 + j < 8 := by omega
    clear hj
    generalize forN (b_M_mostMet_1 a48) 0 j ((-6 : Int32), (0 : Int32)) = u1 at k2 ⊢
    generalize 0 + j = i1 at hi1 k2 ⊢
    show Ev none 105 (7, [some (vR 39), some (vI u1.1), some (vI u1.2), some (vI (nI i1))], [], wd κ (mM a40 a41 a42 a43 a44 a45 a46 a47 a48 a49 a50 v11 v12 v13 v14), (0, 0)) r
    refine Ev.go (st' := (if (8 : Int32) ≤ nI i1 then 56 else 13, [some (vR 39), some (vI u1.1), some (vI u1.2), some (vI (nI i1))], [], wd κ (mM a40 a41 a42 a43 a44 a45 a46 a47 a48 a49 a50 v11 v12 v13 v14), (0, 0))) 3 rfl trivial (Ev.brF (nI_ge hi1 (by decide)) ?_)
    refine Ev.go (st' := (if (a48 (nI i1).toNatClampNeg) ≤ u1.2 then 27 else 23, [some (vR 39), some (vI u1.1), some (vI u1.2), some (vI (nI i1))], [], wd κ (mM a40 a41 a42 a43 a44 a45 a46 a47 a48 a49 a50 v11 v12 v13 v14), (0, 0))) 6 rfl ⟨(vp_in_nI (by omega) (by decide)), trivial⟩ ?_
    have kJ2 : Ev none 105 (28, [some (vR 39), none, some (vI u1.2), some (vI (nI i1))], [vI (iF ((a48 (nI i1).toNatClampNeg) ≤ u1.2) u1.1 (nI i1))], wd κ (mM a40 a41 a42 a43 a44 a45 a46 a47 a48 a49 a50 v11 v12 v13 v14), (0, 0)) r := by
      refine Ev.go (st' := (if (a48 (nI i1).toNatClampNeg) ≤ u1.2 then 48 else 39, [some (vR 39), some (vI (iF ((a48 (nI i1).toNatClampNeg) ≤ u1.2) u1.1 (nI i1))), some (vI u1.2), some (vI (nI i1))], [], wd κ (mM a40 a41 a42 a43 a44 a45 a46 a47 a48 a49 a50 v11 v12 v13 v14), (0, 0))) 7 rfl ⟨(vp_in_nI (by omega) (by decide)), trivial⟩ ?_
      have kJ3 : Ev none 105 (49, [some (vR 39), some (vI (iF ((a48 (nI i1).toNatClampNeg) ≤ u1.2) u1.1 (nI i1))), none, some (vI (nI i1))], [vI (iF ((a48 (nI i1).toNatClampNeg) ≤ u1.2) u1.2 (a48 (nI i1).toNatClampNeg))], wd κ (mM a40 a41 a42 a43 a44 a45 a46 a47 a48 a49 a50 v11 v12 v13 v14), (0, 0)) r := by
        refine Ev.go (st' := (7, [some (vR 39), some (vI (iF ((a48 (nI i1).toNatClampNeg) ≤ u1.2) u1.1 (nI i1))), some (vI (iF ((a48 (nI i1).toNatClampNeg) ≤ u1.2) u1.2 (a48 (nI i1).toNatClampNeg))), some (vI ((nI i1) + (1 : Int32)))], [], wd κ (mM a40 a41 a42 a43 a44 a45 a46 a47 a48 a49 a50 v11 v12 v13 v14), (0, 0))) 3 rfl trivial ?_
        exact Ev.wk (Lle.s (Lle.s (Lle.s (Lle.s Lle.z)))) (show Ev none 105 (7, [some (vR 39), some (vI (iF ((a48 (nI i1).toNatClampNeg) ≤ u1.2) u1.1 (nI i1))), some (vI (iF ((a48 (nI i1).toNatClampNeg) ≤ u1.2) u1.2 (a48 (nI i1).toNatClampNeg))), some (vI ((nI i1) + (1 : Int32)))], [], wd κ (mM a40 a41 a42 a43 a44 a45 a46 a47 a48 a49 a50 v11 v12 v13 v14), (0, 0)) r from k2)
      refine Ev.br (fun h3 => ?_) (fun h3 => ?_)
      · refine Ev.go (st' := (49, [some (vR 39), some (vI (iF ((a48 (nI i1).toNatClampNeg) ≤ u1.2) u1.1 (nI i1))), some (vI u1.2), some (vI (nI i1))], [vI u1.2], wd κ (mM a40 a41 a42 a43 a44 a45 a46 a47 a48 a49 a50 v11 v12 v13 v14), (0, 0))) 1 rfl trivial ?_
        exact Ev.wk (Lle.s (Lle.s (Lle.n (Lle.s Lle.z)))) (Ev.to kJ3 (by simp only [iF_pos h3]))
      · refine Ev.go (st' := (49, [some (vR 39), some (vI (iF ((a48 (nI i1).toNatClampNeg) ≤ u1.2) u1.1 (nI i1))), some (vI u1.2), some (vI (nI i1))], [vI (a48 (nI i1).toNatClampNeg)], wd κ (mM a40 a41 a42 a43 a44 a45 a46 a47 a48 a49 a50 v11 v12 v13 v14), (0, 0))) 5 rfl ⟨(vp_in_nI (by omega) (by decide)), trivial⟩ ?_
        exact Ev.wk (Lle.s (Lle.s (Lle.n (Lle.s Lle.z)))) (Ev.to kJ3 (by simp only [iF_neg h3]))
    refine Ev.br (fun h2 => ?_) (fun h2 => ?_)
    · refine Ev.go (st' := (28, [some (vR 39), some (vI u1.1), some (vI u1.2), some (vI (nI i1))], [vI u1.1], wd κ (mM a40 a41 a42 a43 a44 a45 a46 a47 a48 a49 a50 v11 v12 v13 v14), (0, 0))) 1 rfl trivial ?_
      exact Ev.wk (Lle.s (Lle.n (Lle.s (Lle.s Lle.z)))) (Ev.to kJ2 (by simp only [iF_pos h2]))
    · refine Ev.go (st' := (28, [some (vR 39), some (vI u1.1), some (vI u1.2), some (vI (nI i1))], [vI (nI i1)], wd κ (mM a40 a41 a42 a43 a44 a45 a46 a47 a48 a49 a50 v11 v12 v13 v14), (0, 0))) 2 rfl trivial ?_
      exact Ev.wk (Lle.s (Lle.n (Lle.s (Lle.s Lle.z)))) (Ev.to kJ2 (by simp only [iF_neg h2]))
  · refine Ev.go (st' := (if (8 : Int32) ≤ nI 8 then 56 else 13, [some (vR 39), some (vI (forN (b_M_mostMet_1 a48) 0 8 ((-6 : Int32), (0 : Int32))).1), some (vI (forN (b_M_mostMet_1 a48) 0 8 ((-6 : Int32), (0 : Int32))).2), some (vI (nI 8))], [], wd κ (mM a40 a41 a42 a43 a44 a45 a46 a47 a48 a49 a50 v11 v12 v13 v14), (0, 0))) 3 rfl trivial (Ev.brN (by decide) ?_)
    refine Ev.wk (Lle.n (Lle.s (Lle.n (Lle.n Lle.z)))) ?_
    refine Ev.go (st' := (57, [none, some (vI (forN (b_M_mostMet_1 a48) 0 8 ((-6 : Int32), (0 : Int32))).1), none, none], [vI (forN (b_M_mostMet_1 a48) 0 8 ((-6 : Int32), (0 : Int32))).1], wd κ (mM a40 a41 a42 a43 a44 a45 a46 a47 a48 a49 a50 v11 v12 v13 v14), (0, 0))) 1 rfl trivial ?_
    rw [hK] at k
    have k3 : (some (forN (b_M_mostMet_1 a48) 0 8 ((-6 : Int32), (0 : Int32))).1, wd κ (mM a40 a41 a42 a43 a44 a45 a46 a47 a48 a49 a50 v11 v12 v13 v14)) = r := k
    rw [← k3]
    exact Ev.ireti rfl rfl

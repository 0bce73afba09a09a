/-! OF MeshNamesModel.knownAt(I)I -/
noncomputable def b_M_knownAt_1 (p1 : Int32) (rowMany : Nat → Int32) (row : Nat → Int32) (next_ : Nat → Int32) (j : Nat) (v : Int32) : Int32 := (v ||| (iF ((f_M_placeIn (nI j) p1 rowMany row) < 0) (0 : Int32) (((1 : Int32) <<< ((nI j) &&& 31)) ||| ((1 : Int32) <<< ((next_ (nI j).toNatClampNeg) &&& 31)))))
def P_M_knownAt_1 (p1 : Int32) (rowMany : Nat → Int32) (row : Nat → Int32) (next_ : Nat → Int32) (j : Nat) (v : Int32) : Prop := (P_M_placeIn (nI j) p1 rowMany row) ∧ True
noncomputable def f_M_knownAt (x1 : Int32) (rowMany : Nat → Int32) (row : Nat → Int32) (next_ : Nat → Int32) : Int32 := (forN (b_M_knownAt_1 x1 rowMany row next_) 0 8 (0 : Int32))
def P_M_knownAt (x1 : Int32) (rowMany : Nat → Int32) (row : Nat → Int32) (next_ : Nat → Int32) : Prop := (∀ q, q < 8 → P_M_knownAt_1 x1 rowMany row next_ (0 + q) (forN (b_M_knownAt_1 x1 rowMany row next_) 0 q (0 : Int32))) ∧ True
set_option maxRecDepth 8000 in
set_option maxHeartbeats 4000000 in
theorem e_M_knownAt_39 (κ : Sg) (a40 a41 a42 a43 a44 a45 a46 a47 a48 a49 a50 : Nat → Int32) (v11 v12 v13 v14 : Int32) (x1 : Int32) (hP : P_M_knownAt x1 a46 a45 a44)  : Ev none 61 (0, [some (vR 39), some (vI x1), none, none], [], wd κ (mM a40 a41 a42 a43 a44 a45 a46 a47 a48 a49 a50 v11 v12 v13 v14), (0, 0)) (some (f_M_knownAt x1 a46 a45 a44), wd κ (mM a40 a41 a42 a43 a44 a45 a46 a47 a48 a49 a50 v11 v12 v13 v14)) := by
  suffices hh : ∀ (r : Option Int32 × AW) (K : (Int32) → Prop), K = (fun o : Int32 => (some o, wd κ (mM a40 a41 a42 a43 a44 a45 a46 a47 a48 a49 a50 v11 v12 v13 v14)) = r) → K (forN (b_M_knownAt_1 x1 a46 a45 a44) 0 8 (0 : Int32)) → Ev none 61 (0, [some (vR 39), some (vI x1), none, none], [], wd κ (mM a40 a41 a42 a43 a44 a45 a46 a47 a48 a49 a50 v11 v12 v13 v14), (0, 0)) r from hh _ _ rfl rfl
  intro r K hK k
  refine Ev.go (st' := (4, [some (vR 39), some (vI x1), some (vI (0 : Int32)), some (vI (0 : Int32))], [], wd κ (mM a40 a41 a42 a43 a44 a45 a46 a47 a48 a49 a50 v11 v12 v13 v14), (0, 0))) 4 rfl trivial ?_
  refine Ev.wk (Lle.s (Lle.s (Lle.s (Lle.s Lle.z)))) ?_
  refine Ev.loopN (fun c v => (4, [some (vR 39), some (vI x1), some (vI v), some (vI c)], [], wd κ (mM a40 a41 a42 a43 a44 a45 a46 a47 a48 a49 a50 v11 v12 v13 v14), (0, 0))) (b_M_knownAt_1 x1 a46 a45 a44) 0 8 8 (0 : Int32) (c0 := (0 : Int32)) rfl (by omega) (fun j hj k2 => ?_) ?_
  · have hp1 := hP.1 j hj
    have hi1 : 0 + j < 8 := by omega
    clear hj
    generalize forN (b_M_knownAt_1 x1 a46 a45 a44) 0 j (0 : Int32) = u1 at hp1 k2 ⊢
    generalize 0 + j = i1 at hi1 hp1 k2 ⊢
    show Ev none 61 (4, [some (vR 39), some (vI x1), some (vI u1), some (vI (nI i1))], [], wd κ (mM a40 a41 a42 a43 a44 a45 a46 a47 a48 a49 a50 v11 v12 v13 v14), (0, 0)) r
    refine Ev.go (st' := (if (8 : Int32) ≤ nI i1 then 44 else 10, [some (vR 39), some (vI x1), some (vI u1), some (vI (nI i1))], [], wd κ (mM a40 a41 a42 a43 a44 a45 a46 a47 a48 a49 a50 v11 v12 v13 v14), (0, 0))) 3 rfl trivial (Ev.brF (nI_ge hi1 (by decide)) ?_)
    refine Ev.go (st' := (14, [some (vR 39), some (vI x1), some (vI u1), some (vI (nI i1))], [vI x1, vI (nI i1), vR 39, vI u1], wd κ (mM a40 a41 a42 a43 a44 a45 a46 a47 a48 a49 a50 v11 v12 v13 v14), (0, 0))) 4 rfl trivial ?_
    refine Ev.callI (a := 59) (As := [vR 39, vI (nI i1), vI x1]) [vI u1] (f_M_placeIn (nI i1) x1 a46 a45) (wd κ (mM a40 a41 a42 a43 a44 a45 a46 a47 a48 a49 a50 v11 v12 v13 v14)) rfl (e_M_placeIn_39 κ a40 a41 a42 a43 a44 a45 a46 a47 a48 a49 a50 v11 v12 v13 v14 (nI i1) x1 hp1.1) ?_
    refine Ev.go (st' := (if (f_M_placeIn (nI i1) x1 a46 a45) < 0 then 35 else 20, [some (vR 39), some (vI x1), some (vI u1), some (vI (nI i1))], [vI u1], wd κ (mM a40 a41 a42 a43 a44 a45 a46 a47 a48 a49 a50 v11 v12 v13 v14), (0, 0))) 1 rfl trivial ?_
    have kJ2 : Ev none 61 (36, [some (vR 39), some (vI x1), none, some (vI (nI i1))], [vI (iF ((f_M_placeIn (nI i1) x1 a46 a45) < 0) (0 : Int32) (((1 : Int32) <<< ((nI i1) &&& 31)) ||| ((1 : Int32) <<< ((a44 (nI i1).toNatClampNeg) &&& 31)))), vI u1], wd κ (mM a40 a41 a42 a43 a44 a45 a46 a47 a48 a49 a50 v11 v12 v13 v14), (0, 0)) r := by
      refine Ev.go (st' := (4, [some (vR 39), some (vI x1), some (vI (u1 ||| (iF ((f_M_placeIn (nI i1) x1 a46 a45) < 0) (0 : Int32) (((1 : Int32) <<< ((nI i1) &&& 31)) ||| ((1 : Int32) <<< ((a44 (nI i1).toNatClampNeg) &&& 31)))))), some (vI ((nI i1) + (1 : Int32)))], [], wd κ (mM a40 a41 a42 a43 a44 a45 a46 a47 a48 a49 a50 v11 v12 v13 v14), (0, 0))) 4 rfl trivial ?_
      exact Ev.wk (Lle.s (Lle.s (Lle.s (Lle.s Lle.z)))) (show Ev none 61 (4, [some (vR 39), some (vI x1), some (vI (u1 ||| (iF ((f_M_placeIn (nI i1) x1 a46 a45) < 0) (0 : Int32) (((1 : Int32) <<< ((nI i1) &&& 31)) ||| ((1 : Int32) <<< ((a44 (nI i1).toNatClampNeg) &&& 31)))))), some (vI ((nI i1) + (1 : Int32)))], [], wd κ (mM a40 a41 a42 a43 a44 a45 a46 a47 a48 a49 a50 v11 v12 v13 v14), (0, 0)) r from k2)
    refine Ev.br (fun h2 => ?_) (fun h2 => ?_)
    · refine Ev.go (st' := (36, [some (vR 39), some (vI x1), some (vI u1), some (vI (nI i1))], [vI (0 : Int32), vI u1], wd κ (mM a40 a41 a42 a43 a44 a45 a46 a47 a48 a49 a50 v11 v12 v13 v14), (0, 0))) 1 rfl trivial ?_
      exact Ev.wk (Lle.s (Lle.s (Lle.n (Lle.s Lle.z)))) (Ev.to kJ2 (by simp only [iF_pos h2]))
    · refine Ev.go (st' := (36, [some (vR 39), some (vI x1), some (vI u1), some (vI (nI i1))], [vI (((1 : Int32) <<< ((nI i1) &&& 31)) ||| ((1 : Int32) <<< ((a44 (nI i1).toNatClampNeg) &&& 31))), vI u1], wd κ (mM a40 a41 a42 a43 a44 a45 a46 a47 a48 a49 a50 v11 v12 v13 v14), (0, 0))) 11 rfl ⟨(vp_in_nI (by omega) (by decide)), trivial⟩ ?_
      exact Ev.wk (Lle.s (Lle.s (Lle.n (Lle.s Lle.z)))) (Ev.to kJ2 (by simp only [iF_neg h2]))
  · refine Ev.go (st' := (if (8 : Int32) ≤ nI 8 then 44 else 10, [some (vR 39), some (vI x1), some (vI (forN (b_M_knownAt_1 x1 a46 a45 a44) 0 8 (0 : Int32))), some (vI (nI 8))], [], wd κ (mM a40 a41 a42 a43 a44 a45 a46 a47 a48 a49 a50 v11 v12 v13 v14), (0, 0))) 3 rfl trivial (Ev.brN (by decide) ?_)
    refine Ev.wk (Lle.n (Lle.n (Lle.s (Lle.n Lle.z)))) ?_
    refine Ev.go (st' := (45, [none, none, some (vI (forN (b_M_knownAt_1 x1 a46 a45 a44) 0 8 (0 : Int32))), none], [vI (forN (b_M_knownAt_1 x1 a46 a45 a44) 0 8 (0 : Int32))], wd κ (mM a40 a41 a42 a43 a44 a45 a46 a47 a48 a49 a50 v11 v12 v13 v14), (0, 0))) 1 rfl trivial ?_
    rw [hK] at k
    have k3 : (some (forN (b_M_knownAt_1 x1 a46 a45 a44) 0 8 (0 : Int32)), wd κ (mM a40 a41 a42 a43 a44 a45 a46 a47 a48 a49 a50 v11 v12 v13 v14)) = r := k
    rw [← k3]
    exact Ev.ireti rfl rfl

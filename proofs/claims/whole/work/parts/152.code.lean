/-! OF MeshNamesModel.placeIn(II)I -/
noncomputable def b_M_placeIn_1 (rowMany : Nat → Int32) (p1 : Int32) (row : Nat → Int32) (p2 : Int32) (j : Nat) (v : Int32) : (Int32) ⊕ (Int32) := (iF ((rowMany p1.toNatClampNeg) ≤ (nI j)) (.inr v) (.inl (iF ((row (((8 : Int32) * p1) + (nI j)).toNatClampNeg) = p2) (nI j) v)))
def P_M_placeIn_1 (rowMany : Nat → Int32) (p1 : Int32) (row : Nat → Int32) (p2 : Int32) (j : Nat) (v : Int32) : Prop := vp_in p1 8 ∧ (((rowMany p1.toNatClampNeg) ≤ (nI j) → True) ∧ (¬ ((rowMany p1.toNatClampNeg) ≤ (nI j)) → (vp_in (((8 : Int32) * p1) + (nI j)) 64 ∧ True))) ∧ True
noncomputable def f_M_placeIn (x1 : Int32) (x2 : Int32) (rowMany : Nat → Int32) (row : Nat → Int32) : Int32 := (unX (forX (b_M_placeIn_1 rowMany x1 row x2) 0 9 (-6 : Int32)))
def P_M_placeIn (x1 : Int32) (x2 : Int32) (rowMany : Nat → Int32) (row : Nat → Int32) : Prop := (∃ u, forX (b_M_placeIn_1 rowMany x1 row x2) 0 9 (-6 : Int32) = .inr u) ∧ (∀ q u, q < 9 → forX (b_M_placeIn_1 rowMany x1 row x2) 0 q (-6 : Int32) = .inl u → P_M_placeIn_1 rowMany x1 row x2 (0 + q) u) ∧ True
set_option maxRecDepth 8000 in
set_option maxHeartbeats 4000000 in
theorem e_M_placeIn_39 (κ : Sg) (a40 a41 a42 a43 a44 a45 a46 a47 a48 a49 a50 : Nat → Int32) (v11 v12 v13 v14 : Int32) (x1 x2 : Int32) (hP : P_M_placeIn x1 x2 a46 a45)  : Ev none 59 (0, [some (vR 39), some (vI x1), some (vI x2), none, none], [], wd κ (mM a40 a41 a42 a43 a44 a45 a46 a47 a48 a49 a50 v11 v12 v13 v14), (0, 0)) (some (f_M_placeIn x1 x2 a46 a45), wd κ (mM a40 a41 a42 a43 a44 a45 a46 a47 a48 a49 a50 v11 v12 v13 v14)) := by
  suffices hh : ∀ (r : Option Int32 × AW) (K : (Int32) → Prop), K = (fun o : Int32 => (some o, wd κ (mM a40 a41 a42 a43 a44 a45 a46 a47 a48 a49 a50 v11 v12 v13 v14)) = r) → K (unX (forX (b_M_placeIn_1 a46 x1 a45 x2) 0 9 (-6 : Int32))) → Ev none 59 (0, [some (vR 39), some (vI x1), some (vI x2), none, none], [], wd κ (mM a40 a41 a42 a43 a44 a45 a46 a47 a48 a49 a50 v11 v12 v13 v14), (0, 0)) r from hh _ _ rfl rfl
  intro r K hK k
  refine Ev.go (st' := (6, [some (vR 39), some (vI x1), some (vI x2), some (vI (-6 : Int32)), some (vI (0 : Int32))], [], wd κ (mM a40 a41 a42 a43 a44 a45 a46 a47 a48 a49 a50 v11 v12 v13 v14), (0, 0))) 4 rfl trivial ?_
  refine Ev.wk (Lle.s (Lle.s (Lle.s (Lle.s (Lle.s Lle.z))))) ?_
  refine Ev.loopA (fun c v => (6, [some (vR 39), some (vI x1), some (vI x2), some (vI v), some (vI c)], [], wd κ (mM a40 a41 a42 a43 a44 a45 a46 a47 a48 a49 a50 v11 v12 v13 v14), (0, 0))) (fun v => (46, [none, none, none, some (vI v), none], [], wd κ (mM a40 a41 a42 a43 a44 a45 a46 a47 a48 a49 a50 v11 v12 v13 v14), (0, 0))) (b_M_placeIn_1 a46 x1 a45 x2) 0 9 (-6 : Int32) (c0 := (0 : Int32)) rfl hP.1 (fun j u1 hj hv K1 hK1 k => ?_) ?_
  · have hp1 := hP.2.1 j u1 hj hv
    have hi1 : 0 + j < 0 + 9 := by omega
    clear hj hv
    generalize 0 + j = i1 at hi1 hK1 hp1 k ⊢
    replace k : K1 (iF ((a46 x1.toNatClampNeg) ≤ (nI i1)) (.inr u1) (.inl (iF ((a45 (((8 : Int32) * x1) + (nI i1)).toNatClampNeg) = x2) (nI i1) u1))) := k
    show Ev none 59 (6, [some (vR 39), some (vI x1), some (vI x2), some (vI u1), some (vI (nI i1))], [], wd κ (mM a40 a41 a42 a43 a44 a45 a46 a47 a48 a49 a50 v11 v12 v13 v14), (0, 0)) r
    refine Ev.go (st' := (if (a46 x1.toNatClampNeg) ≤ (nI i1) then 46 else 17, [some (vR 39), some (vI x1), some (vI x2), some (vI u1), some (vI (nI i1))], [], wd κ (mM a40 a41 a42 a43 a44 a45 a46 a47 a48 a49 a50 v11 v12 v13 v14), (0, 0))) 6 rfl ⟨hp1.1, trivial⟩ ?_
    refine Ev.brK (K := K1) k (fun h2 k => ?_) (fun h2 k => ?_)
    · rw [hK1] at k
      exact Ev.wk (Lle.n (Lle.n (Lle.n (Lle.s (Lle.n Lle.z))))) (show Ev none 59 (46, [none, none, none, some (vI u1), none], [], wd κ (mM a40 a41 a42 a43 a44 a45 a46 a47 a48 a49 a50 v11 v12 v13 v14), (0, 0)) r from k)
    · refine Ev.go (st' := (if (a45 (((8 : Int32) * x1) + (nI i1)).toNatClampNeg) = x2 then 33 else 38, [some (vR 39), some (vI x1), some (vI x2), some (vI u1), some (vI (nI i1))], [], wd κ (mM a40 a41 a42 a43 a44 a45 a46 a47 a48 a49 a50 v11 v12 v13 v14), (0, 0))) 10 rfl ⟨(hp1.2.1.2 h2).1, trivial⟩ ?_
      have kJ3 : Ev none 59 (39, [some (vR 39), some (vI x1), some (vI x2), none, some (vI (nI i1))], [vI (iF ((a45 (((8 : Int32) * x1) + (nI i1)).toNatClampNeg) = x2) (nI i1) u1)], wd κ (mM a40 a41 a42 a43 a44 a45 a46 a47 a48 a49 a50 v11 v12 v13 v14), (0, 0)) r := by
        refine Ev.go (st' := (6, [some (vR 39), some (vI x1), some (vI x2), some (vI (iF ((a45 (((8 : Int32) * x1) + (nI i1)).toNatClampNeg) = x2) (nI i1) u1)), some (vI ((nI i1) + (1 : Int32)))], [], wd κ (mM a40 a41 a42 a43 a44 a45 a46 a47 a48 a49 a50 v11 v12 v13 v14), (0, 0))) 3 rfl trivial ?_
        rw [hK1] at k
        exact Ev.wk (Lle.s (Lle.s (Lle.s (Lle.s (Lle.s Lle.z))))) (show Ev none 59 (6, [some (vR 39), some (vI x1), some (vI x2), some (vI (iF ((a45 (((8 : Int32) * x1) + (nI i1)).toNatClampNeg) = x2) (nI i1) u1)), some (vI ((nI i1) + (1 : Int32)))], [], wd κ (mM a40 a41 a42 a43 a44 a45 a46 a47 a48 a49 a50 v11 v12 v13 v14), (0, 0)) r from k)
      refine Ev.br (fun h3 => ?_) (fun h3 => ?_)
      · refine Ev.go (st' := (39, [some (vR 39), some (vI x1), some (vI x2), some (vI u1), some (vI (nI i1))], [vI (nI i1)], wd κ (mM a40 a41 a42 a43 a44 a45 a46 a47 a48 a49 a50 v11 v12 v13 v14), (0, 0))) 2 rfl trivial ?_
        exact Ev.wk (Lle.s (Lle.s (Lle.s (Lle.n (Lle.s Lle.z))))) (Ev.to kJ3 (by simp only [iF_pos h3]))
      · refine Ev.go (st' := (39, [some (vR 39), some (vI x1), some (vI x2), some (vI u1), some (vI (nI i1))], [vI u1], wd κ (mM a40 a41 a42 a43 a44 a45 a46 a47 a48 a49 a50 v11 v12 v13 v14), (0, 0))) 1 rfl trivial ?_
        exact Ev.wk (Lle.s (Lle.s (Lle.s (Lle.n (Lle.s Lle.z))))) (Ev.to kJ3 (by simp only [iF_neg h3]))
  · show Ev none 59 (46, [none, none, none, some (vI (unX (forX (b_M_placeIn_1 a46 x1 a45 x2) 0 9 (-6 : Int32)))), none], [], wd κ (mM a40 a41 a42 a43 a44 a45 a46 a47 a48 a49 a50 v11 v12 v13 v14), (0, 0)) r
    refine Ev.go (st' := (47, [none, none, none, some (vI (unX (forX (b_M_placeIn_1 a46 x1 a45 x2) 0 9 (-6 : Int32)))), none], [vI (unX (forX (b_M_placeIn_1 a46 x1 a45 x2) 0 9 (-6 : Int32)))], wd κ (mM a40 a41 a42 a43 a44 a45 a46 a47 a48 a49 a50 v11 v12 v13 v14), (0, 0))) 1 rfl trivial ?_
    rw [hK] at k
    have k3 : (some (unX (forX (b_M_placeIn_1 a46 x1 a45 x2) 0 9 (-6 : Int32))), wd κ (mM a40 a41 a42 a43 a44 a45 a46 a47 a48 a49 a50 v11 v12 v13 v14)) = r := k
    rw [← k3]
    exact Ev.ireti rfl rfl

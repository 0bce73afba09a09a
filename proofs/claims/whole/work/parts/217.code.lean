/-! OF MeshNamesModel.isOther(I)Z -/
noncomputable def b_M_isOther_1 (rowMany : Nat → Int32) (p1 : Int32) (row : Nat → Int32) (rowThen : Nat → Int32) (j : Nat) (v : Int32) : (Int32) ⊕ (Int32) := (iF ((rowMany p1.toNatClampNeg) ≤ (nI j)) (.inr v) (iF (v = 0) (.inl (iF ((row (((8 : Int32) * p1) + (nI j)).toNatClampNeg) = (rowThen (((8 : Int32) * p1) + (nI j)).toNatClampNeg)) (0 : Int32) (1 : Int32))) (.inr v)))
def P_M_isOther_1 (rowMany : Nat → Int32) (p1 : Int32) (row : Nat → Int32) (rowThen : Nat → Int32) (j : Nat) (v : Int32) : Prop := vp_in p1 8 ∧ (((rowMany p1.toNatClampNeg) ≤ (nI j) → True) ∧ (¬ ((rowMany p1.toNatClampNeg) ≤ (nI j)) → (((v = 0 → (vp_in (((8 : Int32) * p1) + (nI j)) 64 ∧ vp_in (((8 : Int32) * p1) + (nI j)) 64 ∧ True)) ∧ (¬ (v = 0) → True)) ∧ True))) ∧ True
noncomputable def f_M_isOther (x1 : Int32) (rowMany : Nat → Int32) (row : Nat → Int32) (rowThen : Nat → Int32) (rowManyThen : Nat → Int32) : Int32 := (unX (forX (b_M_isOther_1 rowMany x1 row rowThen) 0 9 (iF ((rowMany x1.toNatClampNeg) = (rowManyThen x1.toNatClampNeg)) (0 : Int32) (1 : Int32))))
def P_M_isOther (x1 : Int32) (rowMany : Nat → Int32) (row : Nat → Int32) (rowThen : Nat → Int32) (rowManyThen : Nat → Int32) : Prop := vp_in x1 8 ∧ vp_in x1 8 ∧ (∃ u, forX (b_M_isOther_1 rowMany x1 row rowThen) 0 9 (iF ((rowMany x1.toNatClampNeg) = (rowManyThen x1.toNatClampNeg)) (0 : Int32) (1 : Int32)) = .inr u) ∧ (∀ q u, q < 9 → forX (b_M_isOther_1 rowMany x1 row rowThen) 0 q (iF ((rowMany x1.toNatClampNeg) = (rowManyThen x1.toNatClampNeg)) (0 : Int32) (1 : Int32)) = .inl u → P_M_isOther_1 rowMany x1 row rowThen (0 + q) u) ∧ ((unX (forX (b_M_isOther_1 rowMany x1 row rowThen) 0 9 (iF ((rowMany x1.toNatClampNeg) = (rowManyThen x1.toNatClampNeg)) (0 : Int32) (1 : Int32)))) &&& 1 = (unX (forX (b_M_isOther_1 rowMany x1 row rowThen) 0 9 (iF ((rowMany x1.toNatClampNeg) = (rowManyThen x1.toNatClampNeg)) (0 : Int32) (1 : Int32))))) ∧ True
set_option maxRecDepth 8000 in
set_option maxHeartbeats 4000000 in
theorem e_M_isOther_39 (κ : Sg) (a40 a41 a42 a43 a44 a45 a46 a47 a48 a49 a50 : Nat → Int32) (v11 v12 v13 v14 : Int32) (x1 : Int32) (hP : P_M_isOther x1 a46 a45 a49 a50)  : Ev none 123 (0, [some (vR 39), some (vI x1), none, none], [], wd κ (mM a40 a41 a42 a43 a44 a45 a46 a47 a48 a49 a50 v11 v12 v13 v14), (0, 0)) (some (f_M_isOther x1 a46 a45 a49 a50), wd κ (mM a40 a41 a42 a43 a44 a45 a46 a47 a48 a49 a50 v11 v12 v13 v14)) := by
  suffices hh : ∀ (r : Option Int32 × AW) (K : (Int32) → Prop), K = (fun o : Int32 => (some o, wd κ (mM a40 a41 a42 a43 a44 a45 a46 a47 a48 a49 a50 v11 v12 v13 v14)) = r) → K (unX (forX (b_M_isOther_1 a46 x1 a45 a49) 0 9 (iF ((a46 x1.toNatClampNeg) = (a50 x1.toNatClampNeg)) (0 : Int32) (1 : Int32)))) → Ev none 123 (0, [some (vR 39), some (vI x1), none, none], [], wd κ (mM a40 a41 a42 a43 a44 a45 a46 a47 a48 a49 a50 v11 v12 v13 v14), (0, 0)) r from hh _ _ rfl rfl
  intro r K hK k
  refine Ev.go (st' := (if (a46 x1.toNatClampNeg) = (a50 x1.toNatClampNeg) then 19 else 15, [some (vR 39), some (vI x1), none, none], [], wd κ (mM a40 a41 a42 a43 a44 a45 a46 a47 a48 a49 a50 v11 v12 v13 v14), (0, 0))) 9 rfl ⟨hP.1, hP.2.1, trivial⟩ ?_
  have kJ1 : Ev none 123 (20, [some (vR 39), some (vI x1), none, none], [vI (iF ((a46 x1.toNatClampNeg) = (a50 x1.toNatClampNeg)) (0 : Int32) (1 : Int32))], wd κ (mM a40 a41 a42 a43 a44 a45 a46 a47 a48 a49 a50 v11 v12 v13 v14), (0, 0)) r := by
    refine Ev.go (st' := (23, [some (vR 39), some (vI x1), some (vI (iF ((a46 x1.toNatClampNeg) = (a50 x1.toNatClampNeg)) (0 : Int32) (1 : Int32))), some (vI (0 : Int32))], [], wd κ (mM a40 a41 a42 a43 a44 a45 a46 a47 a48 a49 a50 v11 v12 v13 v14), (0, 0))) 3 rfl trivial ?_
    refine Ev.wk (Lle.s (Lle.s (Lle.s (Lle.s Lle.z)))) ?_
    refine Ev.loopA (fun c v => (23, [some (vR 39), some (vI x1), some (vI v), some (vI c)], [], wd κ (mM a40 a41 a42 a43 a44 a45 a46 a47 a48 a49 a50 v11 v12 v13 v14), (0, 0))) (fun v => (74, [none, none, some (vI v), none], [], wd κ (mM a40 a41 a42 a43 a44 a45 a46 a47 a48 a49 a50 v11 v12 v13 v14), (0, 0))) (b_M_isOther_1 a46 x1 a45 a49) 0 9 (iF ((a46 x1.toNatClampNeg) = (a50 x1.toNatClampNeg)) (0 : Int32) (1 : Int32)) (c0 := (0 : Int32)) rfl hP.2.2.1 (fun j u2 hj hv K2 hK2 k => ?_) ?_
    · have hp2 := hP.2.2.2.1 j u2 hj hv
      have hi2 : 0 + j < 0 + 9 := by omega
      clear hj hv
      generalize 0 + j = i2 at hi2 hK2 hp2 k ⊢
      replace k : K2 (iF ((a46 x1.toNatClampNeg) ≤ (nI i2)) (.inr u2) (iF (u2 = 0) (.inl (iF ((a45 (((8 : Int32) * x1) + (nI i2)).toNatClampNeg) = (a49 (((8 : Int32) * x1) + (nI i2)).toNatClampNeg)) (0 : Int32) (1 : Int32))) (.inr u2))) := k
      show Ev none 123 (23, [some (vR 39), some (vI x1), some (vI u2), some (vI (nI i2))], [], wd κ (mM a40 a41 a42 a43 a44 a45 a46 a47 a48 a49 a50 v11 v12 v13 v14), (0, 0)) r
      refine Ev.go (st' := (if (a46 x1.toNatClampNeg) ≤ (nI i2) then 74 else 33, [some (vR 39), some (vI x1), some (vI u2), some (vI (nI i2))], [], wd κ (mM a40 a41 a42 a43 a44 a45 a46 a47 a48 a49 a50 v11 v12 v13 v14), (0, 0))) 6 rfl ⟨hp2.1, trivial⟩ ?_
      refine Ev.brK (K := K2) k (fun h3 k => ?_) (fun h3 k => ?_)
      · rw [hK2] at k
        exact Ev.wk (Lle.n (Lle.n (Lle.s (Lle.n Lle.z)))) (show Ev none 123 (74, [none, none, some (vI u2), none], [], wd κ (mM a40 a41 a42 a43 a44 a45 a46 a47 a48 a49 a50 v11 v12 v13 v14), (0, 0)) r from k)
      · refine Ev.go (st' := (if u2 = 0 then 37 else 74, [some (vR 39), some (vI x1), some (vI u2), some (vI (nI i2))], [], wd κ (mM a40 a41 a42 a43 a44 a45 a46 a47 a48 a49 a50 v11 v12 v13 v14), (0, 0))) 2 rfl trivial ?_
        refine Ev.brK (K := K2) k (fun h4 k => ?_) (fun h4 k => ?_)
        · refine Ev.go (st' := (if (a45 (((8 : Int32) * x1) + (nI i2)).toNatClampNeg) = (a49 (((8 : Int32) * x1) + (nI i2)).toNatClampNeg) then 66 else 62, [some (vR 39), some (vI x1), some (vI u2), some (vI (nI i2))], [], wd κ (mM a40 a41 a42 a43 a44 a45 a46 a47 a48 a49 a50 v11 v12 v13 v14), (0, 0))) 17 rfl ⟨((hp2.2.1.2 h3).1.1 h4).1, ((hp2.2.1.2 h3).1.1 h4).2.1, trivial⟩ ?_
          have kJ5 : Ev none 123 (67, [some (vR 39), some (vI x1), none, some (vI (nI i2))], [vI (iF ((a45 (((8 : Int32) * x1) + (nI i2)).toNatClampNeg) = (a49 (((8 : Int32) * x1) + (nI i2)).toNatClampNeg)) (0 : Int32) (1 : Int32))], wd κ (mM a40 a41 a42 a43 a44 a45 a46 a47 a48 a49 a50 v11 v12 v13 v14), (0, 0)) r := by
            refine Ev.go (st' := (23, [some (vR 39), some (vI x1), some (vI (iF ((a45 (((8 : Int32) * x1) + (nI i2)).toNatClampNeg) = (a49 (((8 : Int32) * x1) + (nI i2)).toNatClampNeg)) (0 : Int32) (1 : Int32))), some (vI ((nI i2) + (1 : Int32)))], [], wd κ (mM a40 a41 a42 a43 a44 a45 a46 a47 a48 a49 a50 v11 v12 v13 v14), (0, 0))) 3 rfl trivial ?_
            rw [hK2] at k
            exact Ev.wk (Lle.s (Lle.s (Lle.s (Lle.s Lle.z)))) (show Ev none 123 (23, [some (vR 39), some (vI x1), some (vI (iF ((a45 (((8 : Int32) * x1) + (nI i2)).toNatClampNeg) = (a49 (((8 : Int32) * x1) + (nI i2)).toNatClampNeg)) (0 : Int32) (1 : Int32))), some (vI ((nI i2) + (1 : Int32)))], [], wd κ (mM a40 a41 a42 a43 a44 a45 a46 a47 a48 a49 a50 v11 v12 v13 v14), (0, 0)) r from k)
          refine Ev.br (fun h5 => ?_) (fun h5 => ?_)
          · refine Ev.go (st' := (67, [some (vR 39), some (vI x1), some (vI u2), some (vI (nI i2))], [vI (0 : Int32)], wd κ (mM a40 a41 a42 a43 a44 a45 a46 a47 a48 a49 a50 v11 v12 v13 v14), (0, 0))) 1 rfl trivial ?_
            exact Ev.wk (Lle.s (Lle.s (Lle.n (Lle.s Lle.z)))) (Ev.to kJ5 (by simp only [iF_pos h5]))
          · refine Ev.go (st' := (67, [some (vR 39), some (vI x1), some (vI u2), some (vI (nI i2))], [vI (1 : Int32)], wd κ (mM a40 a41 a42 a43 a44 a45 a46 a47 a48 a49 a50 v11 v12 v13 v14), (0, 0))) 2 rfl trivial ?_
            exact Ev.wk (Lle.s (Lle.s (Lle.n (Lle.s Lle.z)))) (Ev.to kJ5 (by simp only [iF_neg h5]))
        · rw [hK2] at k
          exact Ev.wk (Lle.n (Lle.n (Lle.s (Lle.n Lle.z)))) (show Ev none 123 (74, [none, none, some (vI u2), none], [], wd κ (mM a40 a41 a42 a43 a44 a45 a46 a47 a48 a49 a50 v11 v12 v13 v14), (0, 0)) r from k)
    · show Ev none 123 (74, [none, none, some (vI (unX (forX (b_M_isOther_1 a46 x1 a45 a49) 0 9 (iF ((a46 x1.toNatClampNeg) = (a50 x1.toNatClampNeg)) (0 : Int32) (1 : Int32))))), none], [], wd κ (mM a40 a41 a42 a43 a44 a45 a46 a47 a48 a49 a50 v11 v12 v13 v14), (0, 0)) r
      refine Ev.go (st' := (75, [none, none, some (vI (unX (forX (b_M_isOther_1 a46 x1 a45 a49) 0 9 (iF ((a46 x1.toNatClampNeg) = (a50 x1.toNatClampNeg)) (0 : Int32) (1 : Int32))))), none], [vI (unX (forX (b_M_isOther_1 a46 x1 a45 a49) 0 9 (iF ((a46 x1.toNatClampNeg) = (a50 x1.toNatClampNeg)) (0 : Int32) (1 : Int32))))], wd κ (mM a40 a41 a42 a43 a44 a45 a46 a47 a48 a49 a50 v11 v12 v13 v14), (0, 0))) 1 rfl trivial ?_
      rw [hK] at k
      have k3 : (some (unX (forX (b_M_isOther_1 a46 x1 a45 a49) 0 9 (iF ((a46 x1.toNatClampNeg) = (a50 x1.toNatClampNeg)) (0 : Int32) (1 : Int32)))), wd κ (mM a40 a41 a42 a43 a44 a45 a46 a47 a48 a49 a50 v11 v12 v13 v14)) = r := k
      rw [← k3]
      exact Ev.iretz rfl rfl hP.2.2.2.2.1
  refine Ev.br (fun h1 => ?_) (fun h1 => ?_)
  · refine Ev.go (st' := (20, [some (vR 39), some (vI x1), none, none], [vI (0 : Int32)], wd κ (mM a40 a41 a42 a43 a44 a45 a46 a47 a48 a49 a50 v11 v12 v13 v14), (0, 0))) 1 rfl trivial ?_
    exact Ev.wk (Lle.s (Lle.s (Lle.n (Lle.n Lle.z)))) (Ev.to kJ1 (by simp only [iF_pos h1]))
  · refine Ev.go (st' := (20, [some (vR 39), some (vI x1), none, none], [vI (1 : Int32)], wd κ (mM a40 a41 a42 a43 a44 a45 a46 a47 a48 a49 a50 v11 v12 v13 v14), (0, 0))) 2 rfl trivial ?_
    exact Ev.wk (Lle.s (Lle.s (Lle.n (Lle.n Lle.z)))) (Ev.to kJ1 (by simp only [iF_neg h1]))

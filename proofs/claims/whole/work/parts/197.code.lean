/-! OF MeshNamesModel.isBetween(I)Z -/
noncomputable def b_M_isBetween_1 (routeMany : Int32) (route : Nat → Int32) (p1 : Int32) (j : Nat) (v : Int32) : (Int32) ⊕ (Int32) := (iF (routeMany ≤ ((nI j) + (1 : Int32))) (.inr v) (.inl (iF (v = 0) (iF ((route (nI j).toNatClampNeg) = p1) (1 : Int32) (0 : Int32)) (1 : Int32))))
def P_M_isBetween_1 (routeMany : Int32) (route : Nat → Int32) (p1 : Int32) (j : Nat) (v : Int32) : Prop := ((routeMany ≤ ((nI j) + (1 : Int32)) → True) ∧ (¬ (routeMany ≤ ((nI j) + (1 : Int32))) → (((v = 0 → (vp_in (nI j) 1024 ∧ True)) ∧ (¬ (v = 0) → True)) ∧ True))) ∧ True
noncomputable def f_M_isBetween (x1 : Int32) (routeMany : Int32) (route : Nat → Int32) : Int32 := (iF ((unX (forX (b_M_isBetween_1 routeMany route x1) 1 9 (0 : Int32))) = 0) (0 : Int32) (iF (x1 = (route (0 : Int32).toNatClampNeg)) (0 : Int32) (iF (x1 = (route (routeMany - (1 : Int32)).toNatClampNeg)) (0 : Int32) (1 : Int32))))
def P_M_isBetween (x1 : Int32) (routeMany : Int32) (route : Nat → Int32) : Prop := (∃ u, forX (b_M_isBetween_1 routeMany route x1) 1 9 (0 : Int32) = .inr u) ∧ (∀ q u, q < 9 → forX (b_M_isBetween_1 routeMany route x1) 1 q (0 : Int32) = .inl u → P_M_isBetween_1 routeMany route x1 (1 + q) u) ∧ (((unX (forX (b_M_isBetween_1 routeMany route x1) 1 9 (0 : Int32))) = 0 → True) ∧ (¬ ((unX (forX (b_M_isBetween_1 routeMany route x1) 1 9 (0 : Int32))) = 0) → (((x1 = (route (0 : Int32).toNatClampNeg) → True) ∧ (¬ (x1 = (route (0 : Int32).toNatClampNeg)) → (vp_in (routeMany - (1 : Int32)) 1024 ∧ True))) ∧ True))) ∧ True
theorem z_M_isBetween (x1 : Int32) (routeMany : Int32) (route : Nat → Int32) : (f_M_isBetween x1 routeMany route) &&& 1 = f_M_isBetween x1 routeMany route := (z_iF rfl (z_iF rfl (z_iF rfl rfl)))
set_option maxRecDepth 8000 in
set_option maxHeartbeats 4000000 in
theorem e_M_isBetween_39 (κ : Sg) (a40 a41 a42 a43 a44 a45 a46 a47 a48 a49 a50 : Nat → Int32) (v11 v12 v13 v14 : Int32) (x1 : Int32) (hP : P_M_isBetween x1 v11 a47)  : Ev none 103 (0, [some (vR 39), some (vI x1), none, none], [], wd κ (mM a40 a41 a42 a43 a44 a45 a46 a47 a48 a49 a50 v11 v12 v13 v14), (0, 0)) (some (f_M_isBetween x1 v11 a47), wd κ (mM a40 a41 a42 a43 a44 a45 a46 a47 a48 a49 a50 v11 v12 v13 v14)) := by
  suffices hh : ∀ (r : Option Int32 × AW) (K : (Int32) → Prop), K = (fun o : Int32 => (some o, wd κ (mM a40 a41 a42 a43 a44 a45 a46 a47 a48 a49 a50 v11 v12 v13 v14)) = r) → K (iF ((unX (forX (b_M_isBetween_1 v11 a47 x1) 1 9 (0 : Int32))) = 0) (0 : Int32) (iF (x1 = (a47 (0 : Int32).toNatClampNeg)) (0 : Int32) (iF (x1 = (a47 (v11 - (1 : Int32)).toNatClampNeg)) (0 : Int32) (1 : Int32)))) → Ev none 103 (0, [some (vR 39), some (vI x1), none, none], [], wd κ (mM a40 a41 a42 a43 a44 a45 a46 a47 a48 a49 a50 v11 v12 v13 v14), (0, 0)) r from hh _ _ rfl rfl
  intro r K hK k
  refine Ev.go (st' := (4, [some (vR 39), some (vI x1), some (vI (0 : Int32)), some (vI (1 : Int32))], [], wd κ (mM a40 a41 a42 a43 a44 a45 a46 a47 a48 a49 a50 v11 v12 v13 v14), (0, 0))) 4 rfl trivial ?_
  refine Ev.wk (Lle.s (Lle.s (Lle.s (Lle.s Lle.z)))) ?_
  refine Ev.loopA (fun c v => (4, [some (vR 39), some (vI x1), some (vI v), some (vI c)], [], wd κ (mM a40 a41 a42 a43 a44 a45 a46 a47 a48 a49 a50 v11 v12 v13 v14), (0, 0))) (fun v => (40, [some (vR 39), some (vI x1), some (vI v), none], [], wd κ (mM a40 a41 a42 a43 a44 a45 a46 a47 a48 a49 a50 v11 v12 v13 v14), (0, 0))) (b_M_isBetween_1 v11 a47 x1) 1 9 (0 : Int32) (c0 := (1 : Int32)) rfl hP.1 (fun j u1 hj hv K1 hK1 k => ?_) ?_
  · have hp1 := hP.2.1 j u1 hj hv
    have hi1 : 1 + j < 1 + 9 := by omega
    clear hj hv
    generalize 1 + j = i1 at hi1 hK1 hp1 k ⊢
    replace k : K1 (iF (v11 ≤ ((nI i1) + (1 : Int32))) (.inr u1) (.inl (iF (u1 = 0) (iF ((a47 (nI i1).toNatClampNeg) = x1) (1 : Int32) (0 : Int32)) (1 : Int32)))) := k
    show Ev none 103 (4, [some (vR 39), some (vI x1), some (vI u1), some (vI (nI i1))], [], wd κ (mM a40 a41 a42 a43 a44 a45 a46 a47 a48 a49 a50 v11 v12 v13 v14), (0, 0)) r
    refine Ev.go (st' := (if v11 ≤ ((nI i1) + (1 : Int32)) then 40 else 14, [some (vR 39), some (vI x1), some (vI u1), some (vI (nI i1))], [], wd κ (mM a40 a41 a42 a43 a44 a45 a46 a47 a48 a49 a50 v11 v12 v13 v14), (0, 0))) 6 rfl trivial ?_
    refine Ev.brK (K := K1) k (fun h2 k => ?_) (fun h2 k => ?_)
    · rw [hK1] at k
      exact Ev.wk (Lle.s (Lle.s (Lle.s (Lle.n Lle.z)))) (show Ev none 103 (40, [some (vR 39), some (vI x1), some (vI u1), none], [], wd κ (mM a40 a41 a42 a43 a44 a45 a46 a47 a48 a49 a50 v11 v12 v13 v14), (0, 0)) r from k)
    · refine Ev.go (st' := (if u1 = 0 then 18 else 28, [some (vR 39), some (vI x1), some (vI u1), some (vI (nI i1))], [], wd κ (mM a40 a41 a42 a43 a44 a45 a46 a47 a48 a49 a50 v11 v12 v13 v14), (0, 0))) 2 rfl trivial ?_
      have kJ3 : Ev none 103 (33, [some (vR 39), some (vI x1), none, some (vI (nI i1))], [vI (iF (u1 = 0) (iF ((a47 (nI i1).toNatClampNeg) = x1) (1 : Int32) (0 : Int32)) (1 : Int32))], wd κ (mM a40 a41 a42 a43 a44 a45 a46 a47 a48 a49 a50 v11 v12 v13 v14), (0, 0)) r := by
        refine Ev.go (st' := (4, [some (vR 39), some (vI x1), some (vI (iF (u1 = 0) (iF ((a47 (nI i1).toNatClampNeg) = x1) (1 : Int32) (0 : Int32)) (1 : Int32))), some (vI ((nI i1) + (1 : Int32)))], [], wd κ (mM a40 a41 a42 a43 a44 a45 a46 a47 a48 a49 a50 v11 v12 v13 v14), (0, 0))) 3 rfl trivial ?_
        rw [hK1] at k
        exact Ev.wk (Lle.s (Lle.s (Lle.s (Lle.s Lle.z)))) (show Ev none 103 (4, [some (vR 39), some (vI x1), some (vI (iF (u1 = 0) (iF ((a47 (nI i1).toNatClampNeg) = x1) (1 : Int32) (0 : Int32)) (1 : Int32))), some (vI ((nI i1) + (1 : Int32)))], [], wd κ (mM a40 a41 a42 a43 a44 a45 a46 a47 a48 a49 a50 v11 v12 v13 v14), (0, 0)) r from k)
      refine Ev.br (fun h3 => ?_) (fun h3 => ?_)
      · refine Ev.go (st' := (if (a47 (nI i1).toNatClampNeg) = x1 then 28 else 32, [some (vR 39), some (vI x1), some (vI u1), some (vI (nI i1))], [], wd κ (mM a40 a41 a42 a43 a44 a45 a46 a47 a48 a49 a50 v11 v12 v13 v14), (0, 0))) 6 rfl ⟨((hp1.1.2 h2).1.1 h3).1, trivial⟩ ?_
        have kJ4 : Ev none 103 (33, [some (vR 39), some (vI x1), none, some (vI (nI i1))], [vI (iF ((a47 (nI i1).toNatClampNeg) = x1) (1 : Int32) (0 : Int32))], wd κ (mM a40 a41 a42 a43 a44 a45 a46 a47 a48 a49 a50 v11 v12 v13 v14), (0, 0)) r := by
          exact Ev.wk (Lle.s (Lle.s (Lle.n (Lle.s Lle.z)))) (Ev.to kJ3 (by simp only [iF_pos h3]))
        refine Ev.br (fun h4 => ?_) (fun h4 => ?_)
        · refine Ev.go (st' := (33, [some (vR 39), some (vI x1), some (vI u1), some (vI (nI i1))], [vI (1 : Int32)], wd κ (mM a40 a41 a42 a43 a44 a45 a46 a47 a48 a49 a50 v11 v12 v13 v14), (0, 0))) 2 rfl trivial ?_
          exact Ev.wk (Lle.s (Lle.s (Lle.n (Lle.s Lle.z)))) (Ev.to kJ4 (by simp only [iF_pos h4]))
        · refine Ev.go (st' := (33, [some (vR 39), some (vI x1), some (vI u1), some (vI (nI i1))], [vI (0 : Int32)], wd κ (mM a40 a41 a42 a43 a44 a45 a46 a47 a48 a49 a50 v11 v12 v13 v14), (0, 0))) 1 rfl trivial ?_
          exact Ev.wk (Lle.s (Lle.s (Lle.n (Lle.s Lle.z)))) (Ev.to kJ4 (by simp only [iF_neg h4]))
      · refine Ev.go (st' := (33, [some (vR 39), some (vI x1), some (vI u1), some (vI (nI i1))], [vI (1 : Int32)], wd κ (mM a40 a41 a42 a43 a44 a45 a46 a47 a48 a49 a50 v11 v12 v13 v14), (0, 0))) 2 rfl trivial ?_
        exact Ev.wk (Lle.s (Lle.s (Lle.n (Lle.s Lle.z)))) (Ev.to kJ3 (by simp only [iF_neg h3]))
  · show Ev none 103 (40, [some (vR 39), some (vI x1), some (vI (unX (forX (b_M_isBetween_1 v11 a47 x1) 1 9 (0 : Int32)))), none], [], wd κ (mM a40 a41 a42 a43 a44 a45 a46 a47 a48 a49 a50 v11 v12 v13 v14), (0, 0)) r
    refine Ev.go (st' := (if (unX (forX (b_M_isBetween_1 v11 a47 x1) 1 9 (0 : Int32))) = 0 then 73 else 44, [some (vR 39), some (vI x1), some (vI (unX (forX (b_M_isBetween_1 v11 a47 x1) 1 9 (0 : Int32)))), none], [], wd κ (mM a40 a41 a42 a43 a44 a45 a46 a47 a48 a49 a50 v11 v12 v13 v14), (0, 0))) 2 rfl trivial ?_
    have kJ5 : Ev none 103 (74, [none, none, none, none], [vI (iF ((unX (forX (b_M_isBetween_1 v11 a47 x1) 1 9 (0 : Int32))) = 0) (0 : Int32) (iF (x1 = (a47 (0 : Int32).toNatClampNeg)) (0 : Int32) (iF (x1 = (a47 (v11 - (1 : Int32)).toNatClampNeg)) (0 : Int32) (1 : Int32))))], wd κ (mM a40 a41 a42 a43 a44 a45 a46 a47 a48 a49 a50 v11 v12 v13 v14), (0, 0)) r := by
      rw [hK] at k
      have k3 : (some (iF ((unX (forX (b_M_isBetween_1 v11 a47 x1) 1 9 (0 : Int32))) = 0) (0 : Int32) (iF (x1 = (a47 (0 : Int32).toNatClampNeg)) (0 : Int32) (iF (x1 = (a47 (v11 - (1 : Int32)).toNatClampNeg)) (0 : Int32) (1 : Int32)))), wd κ (mM a40 a41 a42 a43 a44 a45 a46 a47 a48 a49 a50 v11 v12 v13 v14)) = r := k
      rw [← k3]
      exact Ev.iretz rfl rfl (by exact (z_iF rfl (z_iF rfl (z_iF rfl rfl))))
    refine Ev.br (fun h5 => ?_) (fun h5 => ?_)
    · refine Ev.go (st' := (74, [some (vR 39), some (vI x1), some (vI (unX (forX (b_M_isBetween_1 v11 a47 x1) 1 9 (0 : Int32)))), none], [vI (0 : Int32)], wd κ (mM a40 a41 a42 a43 a44 a45 a46 a47 a48 a49 a50 v11 v12 v13 v14), (0, 0))) 1 rfl trivial ?_
      exact Ev.wk (Lle.n (Lle.n (Lle.n (Lle.n Lle.z)))) (Ev.to kJ5 (by simp only [iF_pos h5]))
    · refine Ev.go (st' := (if x1 = (a47 (0 : Int32).toNatClampNeg) then 73 else 54, [some (vR 39), some (vI x1), some (vI (unX (forX (b_M_isBetween_1 v11 a47 x1) 1 9 (0 : Int32)))), none], [], wd κ (mM a40 a41 a42 a43 a44 a45 a46 a47 a48 a49 a50 v11 v12 v13 v14), (0, 0))) 6 rfl ⟨(by unfold vp_in; decide), trivial⟩ ?_
      have kJ6 : Ev none 103 (74, [none, none, none, none], [vI (iF (x1 = (a47 (0 : Int32).toNatClampNeg)) (0 : Int32) (iF (x1 = (a47 (v11 - (1 : Int32)).toNatClampNeg)) (0 : Int32) (1 : Int32)))], wd κ (mM a40 a41 a42 a43 a44 a45 a46 a47 a48 a49 a50 v11 v12 v13 v14), (0, 0)) r := by
        exact Ev.wk (Lle.n (Lle.n (Lle.n (Lle.n Lle.z)))) (Ev.to kJ5 (by simp only [iF_neg h5]))
      refine Ev.br (fun h6 => ?_) (fun h6 => ?_)
      · refine Ev.go (st' := (74, [some (vR 39), some (vI x1), some (vI (unX (forX (b_M_isBetween_1 v11 a47 x1) 1 9 (0 : Int32)))), none], [vI (0 : Int32)], wd κ (mM a40 a41 a42 a43 a44 a45 a46 a47 a48 a49 a50 v11 v12 v13 v14), (0, 0))) 1 rfl trivial ?_
        exact Ev.wk (Lle.n (Lle.n (Lle.n (Lle.n Lle.z)))) (Ev.to kJ6 (by simp only [iF_pos h6]))
      · refine Ev.go (st' := (if x1 = (a47 (v11 - (1 : Int32)).toNatClampNeg) then 73 else 69, [some (vR 39), some (vI x1), some (vI (unX (forX (b_M_isBetween_1 v11 a47 x1) 1 9 (0 : Int32)))), none], [], wd κ (mM a40 a41 a42 a43 a44 a45 a46 a47 a48 a49 a50 v11 v12 v13 v14), (0, 0))) 9 rfl ⟨((hP.2.2.1.2 h5).1.2 h6).1, trivial⟩ ?_
        have kJ7 : Ev none 103 (74, [none, none, none, none], [vI (iF (x1 = (a47 (v11 - (1 : Int32)).toNatClampNeg)) (0 : Int32) (1 : Int32))], wd κ (mM a40 a41 a42 a43 a44 a45 a46 a47 a48 a49 a50 v11 v12 v13 v14), (0, 0)) r := by
          exact Ev.wk (Lle.n (Lle.n (Lle.n (Lle.n Lle.z)))) (Ev.to kJ6 (by simp only [iF_neg h6]))
        refine Ev.br (fun h7 => ?_) (fun h7 => ?_)
        · refine Ev.go (st' := (74, [some (vR 39), some (vI x1), some (vI (unX (forX (b_M_isBetween_1 v11 a47 x1) 1 9 (0 : Int32)))), none], [vI (0 : Int32)], wd κ (mM a40 a41 a42 a43 a44 a45 a46 a47 a48 a49 a50 v11 v12 v13 v14), (0, 0))) 1 rfl trivial ?_
          exact Ev.wk (Lle.n (Lle.n (Lle.n (Lle.n Lle.z)))) (Ev.to kJ7 (by simp only [iF_pos h7]))
        · refine Ev.go (st' := (74, [some (vR 39), some (vI x1), some (vI (unX (forX (b_M_isBetween_1 v11 a47 x1) 1 9 (0 : Int32)))), none], [vI (1 : Int32)], wd κ (mM a40 a41 a42 a43 a44 a45 a46 a47 a48 a49 a50 v11 v12 v13 v14), (0, 0))) 2 rfl trivial ?_
          exact Ev.wk (Lle.n (Lle.n (Lle.n (Lle.n Lle.z)))) (Ev.to kJ7 (by simp only [iF_neg h7]))

/-! OF MeshNamesModel.nextOf(I)I -/
noncomputable def b_M_nextOf_1 (p1 : Int32) (steps : Nat → Int32) (state_ : Nat → Int32) (j : Nat) (v : Int32) : Int32 := (iF ((nI j) = p1) v (iF ((f_M_areTogether p1 (nI j) steps) = 0) v (iF (v < 0) (nI j) (iF ((f_M_ahead p1 v state_) ≤ (f_M_ahead p1 (nI j) state_)) v (nI j)))))
def P_M_nextOf_1 (p1 : Int32) (steps : Nat → Int32) (state_ : Nat → Int32) (j : Nat) (v : Int32) : Prop := (((nI j) = p1 → True) ∧ (¬ ((nI j) = p1) → ((P_M_areTogether p1 (nI j) steps) ∧ (((f_M_areTogether p1 (nI j) steps) = 0 → True) ∧ (¬ ((f_M_areTogether p1 (nI j) steps) = 0) → (((v < 0 → True) ∧ (¬ (v < 0) → ((P_M_ahead p1 (nI j) state_) ∧ (P_M_ahead p1 v state_) ∧ True))) ∧ True))) ∧ True))) ∧ True
noncomputable def f_M_nextOf (x1 : Int32) (steps : Nat → Int32) (state_ : Nat → Int32) : Int32 := (forN (b_M_nextOf_1 x1 steps state_) 0 8 (-6 : Int32))
def P_M_nextOf (x1 : Int32) (steps : Nat → Int32) (state_ : Nat → Int32) : Prop := (∀ q, q < 8 → P_M_nextOf_1 x1 steps state_ (0 + q) (forN (b_M_nextOf_1 x1 steps state_) 0 q (-6 : Int32))) ∧ True
set_option maxRecDepth 8000 in
set_option maxHeartbeats 4000000 in
theorem e_M_nextOf_39 (κ : Sg) (a40 a41 a42 a43 a44 a45 a46 a47 a48 a49 a50 : Nat → Int32) (v11 v12 v13 v14 : Int32) (x1 : Int32) (hP : P_M_nextOf x1 a43 a40)  : Ev none 52 (0, [some (vR 39), some (vI x1), none, none], [], wd κ (mM a40 a41 a42 a43 a44 a45 a46 a47 a48 a49 a50 v11 v12 v13 v14), (0, 0)) (some (f_M_nextOf x1 a43 a40), wd κ (mM a40 a41 a42 a43 a44 a45 a46 a47 a48 a49 a50 v11 v12 v13 v14)) := by
  suffices hh : ∀ (r : Option Int32 × AW) (K : (Int32) → Prop), K = (fun o : Int32 => (some o, wd κ (mM a40 a41 a42 a43 a44 a45 a46 a47 a48 a49 a50 v11 v12 v13 v14)) = r) → K (forN (b_M_nextOf_1 x1 a43 a40) 0 8 (-6 : Int32)) → Ev none 52 (0, [some (vR 39), some (vI x1), none, none], [], wd κ (mM a40 a41 a42 a43 a44 a45 a46 a47 a48 a49 a50 v11 v12 v13 v14), (0, 0)) r from hh _ _ rfl rfl
  intro r K hK k
  refine Ev.go (st' := (5, [some (vR 39), some (vI x1), some (vI (-6 : Int32)), some (vI (0 : Int32))], [], wd κ (mM a40 a41 a42 a43 a44 a45 a46 a47 a48 a49 a50 v11 v12 v13 v14), (0, 0))) 4 rfl trivial ?_
  refine Ev.wk (Lle.s (Lle.s (Lle.s (Lle.s Lle.z)))) ?_
  refine Ev.loopN (fun c v => (5, [some (vR 39), some (vI x1), some (vI v), some (vI c)], [], wd κ (mM a40 a41 a42 a43 a44 a45 a46 a47 a48 a49 a50 v11 v12 v13 v14), (0, 0))) (b_M_nextOf_1 x1 a43 a40) 0 8 8 (-6 : Int32) (c0 := (0 : Int32)) rfl (by omega) (fun j hj k2 => ?_) ?_
  · have hp1 := hP.1 j hj
    have hi1 : 0 + j < 8 := by omega
    clear hj
    generalize forN (b_M_nextOf_1 x1 a43 a40) 0 j (-6 : Int32) = u1 at hp1 k2 ⊢
    generalize 0 + j = i1 at hi1 hp1 k2 ⊢
    show Ev none 52 (5, [some (vR 39), some (vI x1), some (vI u1), some (vI (nI i1))], [], wd κ (mM a40 a41 a42 a43 a44 a45 a46 a47 a48 a49 a50 v11 v12 v13 v14), (0, 0)) r
    refine Ev.go (st' := (if (8 : Int32) ≤ nI i1 then 56 else 11, [some (vR 39), some (vI x1), some (vI u1), some (vI (nI i1))], [], wd κ (mM a40 a41 a42 a43 a44 a45 a46 a47 a48 a49 a50 v11 v12 v13 v14), (0, 0))) 3 rfl trivial (Ev.brF (nI_ge hi1 (by decide)) ?_)
    refine Ev.go (st' := (if (nI i1) = x1 then 50 else 16, [some (vR 39), some (vI x1), some (vI u1), some (vI (nI i1))], [], wd κ (mM a40 a41 a42 a43 a44 a45 a46 a47 a48 a49 a50 v11 v12 v13 v14), (0, 0))) 3 rfl trivial ?_
    have kJ2 : Ev none 52 (50, [some (vR 39), some (vI x1), some (vI (iF ((nI i1) = x1) u1 (iF ((f_M_areTogether x1 (nI i1) a43) = 0) u1 (iF (u1 < 0) (nI i1) (iF ((f_M_ahead x1 u1 a40) ≤ (f_M_ahead x1 (nI i1) a40)) u1 (nI i1)))))), some (vI (nI i1))], [], wd κ (mM a40 a41 a42 a43 a44 a45 a46 a47 a48 a49 a50 v11 v12 v13 v14), (0, 0)) r := by
      refine Ev.go (st' := (5, [some (vR 39), some (vI x1), some (vI (iF ((nI i1) = x1) u1 (iF ((f_M_areTogether x1 (nI i1) a43) = 0) u1 (iF (u1 < 0) (nI i1) (iF ((f_M_ahead x1 u1 a40) ≤ (f_M_ahead x1 (nI i1) a40)) u1 (nI i1)))))), some (vI ((nI i1) + (1 : Int32)))], [], wd κ (mM a40 a41 a42 a43 a44 a45 a46 a47 a48 a49 a50 v11 v12 v13 v14), (0, 0))) 2 rfl trivial ?_
      exact Ev.wk (Lle.s (Lle.s (Lle.s (Lle.s Lle.z)))) (show Ev none 52 (5, [some (vR 39), some (vI x1), some (vI (iF ((nI i1) = x1) u1 (iF ((f_M_areTogether x1 (nI i1) a43) = 0) u1 (iF (u1 < 0) (nI i1) (iF ((f_M_ahead x1 u1 a40) ≤ (f_M_ahead x1 (nI i1) a40)) u1 (nI i1)))))), some (vI ((nI i1) + (1 : Int32)))], [], wd κ (mM a40 a41 a42 a43 a44 a45 a46 a47 a48 a49 a50 v11 v12 v13 v14), (0, 0)) r from k2)
    refine Ev.br (fun h2 => ?_) (fun h2 => ?_)
    · exact Ev.wk (Lle.s (Lle.s (Lle.s (Lle.s Lle.z)))) (Ev.to kJ2 (by simp only [iF_pos h2]))
    · refine Ev.go (st' := (19, [some (vR 39), some (vI x1), some (vI u1), some (vI (nI i1))], [vI (nI i1), vI x1, vR 39], wd κ (mM a40 a41 a42 a43 a44 a45 a46 a47 a48 a49 a50 v11 v12 v13 v14), (0, 0))) 3 rfl trivial ?_
      refine Ev.callI (a := 50) (As := [vR 39, vI x1, vI (nI i1)]) [] (f_M_areTogether x1 (nI i1) a43) (wd κ (mM a40 a41 a42 a43 a44 a45 a46 a47 a48 a49 a50 v11 v12 v13 v14)) rfl (e_M_areTogether_39 κ a40 a41 a42 a43 a44 a45 a46 a47 a48 a49 a50 v11 v12 v13 v14 x1 (nI i1) (hp1.1.2 h2).1) ?_
      refine Ev.go (st' := (if (f_M_areTogether x1 (nI i1) a43) = 0 then 50 else 25, [some (vR 39), some (vI x1), some (vI u1), some (vI (nI i1))], [], wd κ (mM a40 a41 a42 a43 a44 a45 a46 a47 a48 a49 a50 v11 v12 v13 v14), (0, 0))) 1 rfl trivial ?_
      have kJ3 : Ev none 52 (50, [some (vR 39), some (vI x1), some (vI (iF ((f_M_areTogether x1 (nI i1) a43) = 0) u1 (iF (u1 < 0) (nI i1) (iF ((f_M_ahead x1 u1 a40) ≤ (f_M_ahead x1 (nI i1) a40)) u1 (nI i1))))), some (vI (nI i1))], [], wd κ (mM a40 a41 a42 a43 a44 a45 a46 a47 a48 a49 a50 v11 v12 v13 v14), (0, 0)) r := by
        exact Ev.wk (Lle.s (Lle.s (Lle.s (Lle.s Lle.z)))) (Ev.to kJ2 (by simp only [iF_neg h2]))
      refine Ev.br (fun h3 => ?_) (fun h3 => ?_)
      · exact Ev.wk (Lle.s (Lle.s (Lle.s (Lle.s Lle.z)))) (Ev.to kJ3 (by simp only [iF_pos h3]))
      · refine Ev.go (st' := (if u1 < 0 then 44 else 29, [some (vR 39), some (vI x1), some (vI u1), some (vI (nI i1))], [], wd κ (mM a40 a41 a42 a43 a44 a45 a46 a47 a48 a49 a50 v11 v12 v13 v14), (0, 0))) 2 rfl trivial ?_
        have kJ4 : Ev none 52 (49, [some (vR 39), some (vI x1), none, some (vI (nI i1))], [vI (iF (u1 < 0) (nI i1) (iF ((f_M_ahead x1 u1 a40) ≤ (f_M_ahead x1 (nI i1) a40)) u1 (nI i1)))], wd κ (mM a40 a41 a42 a43 a44 a45 a46 a47 a48 a49 a50 v11 v12 v13 v14), (0, 0)) r := by
          refine Ev.go (st' := (50, [some (vR 39), some (vI x1), some (vI (iF (u1 < 0) (nI i1) (iF ((f_M_ahead x1 u1 a40) ≤ (f_M_ahead x1 (nI i1) a40)) u1 (nI i1)))), some (vI (nI i1))], [], wd κ (mM a40 a41 a42 a43 a44 a45 a46 a47 a48 a49 a50 v11 v12 v13 v14), (0, 0))) 1 rfl trivial ?_
          exact Ev.wk (Lle.s (Lle.s (Lle.s (Lle.s Lle.z)))) (Ev.to kJ3 (by simp only [iF_neg h3]))
        refine Ev.br (fun h4 => ?_) (fun h4 => ?_)
        · refine Ev.go (st' := (49, [some (vR 39), some (vI x1), some (vI u1), some (vI (nI i1))], [vI (nI i1)], wd κ (mM a40 a41 a42 a43 a44 a45 a46 a47 a48 a49 a50 v11 v12 v13 v14), (0, 0))) 2 rfl trivial ?_
          exact Ev.wk (Lle.s (Lle.s (Lle.n (Lle.s Lle.z)))) (Ev.to kJ4 (by simp only [iF_pos h4]))
        · refine Ev.go (st' := (32, [some (vR 39), some (vI x1), some (vI u1), some (vI (nI i1))], [vI (nI i1), vI x1, vR 39], wd κ (mM a40 a41 a42 a43 a44 a45 a46 a47 a48 a49 a50 v11 v12 v13 v14), (0, 0))) 3 rfl trivial ?_
          refine Ev.callI (a := 51) (As := [vR 39, vI x1, vI (nI i1)]) [] (f_M_ahead x1 (nI i1) a40) (wd κ (mM a40 a41 a42 a43 a44 a45 a46 a47 a48 a49 a50 v11 v12 v13 v14)) rfl (e_M_ahead_39 κ a40 a41 a42 a43 a44 a45 a46 a47 a48 a49 a50 v11 v12 v13 v14 x1 (nI i1) (((hp1.1.2 h2).2.1.2 h3).1.2 h4).1) ?_
          refine Ev.go (st' := (38, [some (vR 39), some (vI x1), some (vI u1), some (vI (nI i1))], [vI u1, vI x1, vR 39, vI (f_M_ahead x1 (nI i1) a40)], wd κ (mM a40 a41 a42 a43 a44 a45 a46 a47 a48 a49 a50 v11 v12 v13 v14), (0, 0))) 3 rfl trivial ?_
          refine Ev.callI (a := 51) (As := [vR 39, vI x1, vI u1]) [vI (f_M_ahead x1 (nI i1) a40)] (f_M_ahead x1 u1 a40) (wd κ (mM a40 a41 a42 a43 a44 a45 a46 a47 a48 a49 a50 v11 v12 v13 v14)) rfl (e_M_ahead_39 κ a40 a41 a42 a43 a44 a45 a46 a47 a48 a49 a50 v11 v12 v13 v14 x1 u1 (((hp1.1.2 h2).2.1.2 h3).1.2 h4).2.1) ?_
          refine Ev.go (st' := (if (f_M_ahead x1 u1 a40) ≤ (f_M_ahead x1 (nI i1) a40) then 48 else 44, [some (vR 39), some (vI x1), some (vI u1), some (vI (nI i1))], [], wd κ (mM a40 a41 a42 a43 a44 a45 a46 a47 a48 a49 a50 v11 v12 v13 v14), (0, 0))) 1 rfl trivial ?_
          have kJ5 : Ev none 52 (49, [some (vR 39), some (vI x1), none, some (vI (nI i1))], [vI (iF ((f_M_ahead x1 u1 a40) ≤ (f_M_ahead x1 (nI i1) a40)) u1 (nI i1))], wd κ (mM a40 a41 a42 a43 a44 a45 a46 a47 a48 a49 a50 v11 v12 v13 v14), (0, 0)) r := by
            exact Ev.wk (Lle.s (Lle.s (Lle.n (Lle.s Lle.z)))) (Ev.to kJ4 (by simp only [iF_neg h4]))
          refine Ev.br (fun h5 => ?_) (fun h5 => ?_)
          · refine Ev.go (st' := (49, [some (vR 39), some (vI x1), some (vI u1), some (vI (nI i1))], [vI u1], wd κ (mM a40 a41 a42 a43 a44 a45 a46 a47 a48 a49 a50 v11 v12 v13 v14), (0, 0))) 1 rfl trivial ?_
            exact Ev.wk (Lle.s (Lle.s (Lle.n (Lle.s Lle.z)))) (Ev.to kJ5 (by simp only [iF_pos h5]))
          · refine Ev.go (st' := (49, [some (vR 39), some (vI x1), some (vI u1), some (vI (nI i1))], [vI (nI i1)], wd κ (mM a40 a41 a42 a43 a44 a45 a46 a47 a48 a49 a50 v11 v12 v13 v14), (0, 0))) 2 rfl trivial ?_
            exact Ev.wk (Lle.s (Lle.s (Lle.n (Lle.s Lle.z)))) (Ev.to kJ5 (by simp only [iF_neg h5]))
  · refine Ev.go (st' := (if (8 : Int32) ≤ nI 8 then 56 else 11, [some (vR 39), some (vI x1), some (vI (forN (b_M_nextOf_1 x1 a43 a40) 0 8 (-6 : Int32))), some (vI (nI 8))], [], wd κ (mM a40 a41 a42 a43 a44 a45 a46 a47 a48 a49 a50 v11 v12 v13 v14), (0, 0))) 3 rfl trivial (Ev.brN (by decide) ?_)
    refine Ev.wk (Lle.n (Lle.n (Lle.s (Lle.n Lle.z)))) ?_
    refine Ev.go (st' := (57, [none, none, some (vI (forN (b_M_nextOf_1 x1 a43 a40) 0 8 (-6 : Int32))), none], [vI (forN (b_M_nextOf_1 x1 a43 a40) 0 8 (-6 : Int32))], wd κ (mM a40 a41 a42 a43 a44 a45 a46 a47 a48 a49 a50 v11 v12 v13 v14), (0, 0))) 1 rfl trivial ?_
    rw [hK] at k
    have k3 : (some (forN (b_M_nextOf_1 x1 a43 a40) 0 8 (-6 : Int32)), wd κ (mM a40 a41 a42 a43 a44 a45 a46 a47 a48 a49 a50 v11 v12 v13 v14)) = r := k
    rw [← k3]
    exact Ev.ireti rfl rfl

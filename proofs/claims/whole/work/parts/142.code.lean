/-! OF MeshNamesModel.laySteps()V -/
noncomputable def b_M_laySteps_1 (state_ : Nat → Int32) (j : Nat) (v : Nat → Int32) : Nat → Int32 := (upd v (nI j).toNatClampNeg (iF (((nI j) / (8 : Int32)) = ((nI j) - (nI j) / (8 : Int32) * (8 : Int32))) (iF ((f_M_isUp ((nI j) / (8 : Int32)) state_) = 0) (1000 : Int32) (0 : Int32)) (1000 : Int32)))
def P_M_laySteps_1 (state_ : Nat → Int32) (j : Nat) (v : Nat → Int32) : Prop := ((((nI j) / (8 : Int32)) = ((nI j) - (nI j) / (8 : Int32) * (8 : Int32)) → ((P_M_isUp ((nI j) / (8 : Int32)) state_) ∧ True)) ∧ (¬ (((nI j) / (8 : Int32)) = ((nI j) - (nI j) / (8 : Int32) * (8 : Int32))) → True)) ∧ True
noncomputable def b_M_laySteps_2 (state_ : Nat → Int32) (j : Nat) (v : Int32 × (Nat → Int32)) : (Int32 × (Nat → Int32)) ⊕ (Int32 × (Nat → Int32)) := (iF (v.1 = 0) (.inr (v.1, v.2)) (.inl ((f_M_shortenOnce state_ v.2).1, (f_M_shortenOnce state_ v.2).2)))
def P_M_laySteps_2 (state_ : Nat → Int32) (j : Nat) (v : Int32 × (Nat → Int32)) : Prop := ((v.1 = 0 → True) ∧ (¬ (v.1 = 0) → ((P_M_shortenOnce state_ v.2) ∧ True))) ∧ True
noncomputable def f_M_laySteps (state_ : Nat → Int32) (steps : Nat → Int32) : Nat → Int32 := (unX (forX (b_M_laySteps_2 state_) 0 20 ((1 : Int32), (forN (b_M_laySteps_1 state_) 0 64 steps)))).2
def P_M_laySteps (state_ : Nat → Int32) (steps : Nat → Int32) : Prop := (∀ q, q < 64 → P_M_laySteps_1 state_ (0 + q) (forN (b_M_laySteps_1 state_) 0 q steps)) ∧ (∃ u, forX (b_M_laySteps_2 state_) 0 20 ((1 : Int32), (forN (b_M_laySteps_1 state_) 0 64 steps)) = .inr u) ∧ (∀ q u, q < 20 → forX (b_M_laySteps_2 state_) 0 q ((1 : Int32), (forN (b_M_laySteps_1 state_) 0 64 steps)) = .inl u → P_M_laySteps_2 state_ (0 + q) u) ∧ True
set_option maxRecDepth 8000 in
set_option maxHeartbeats 4000000 in
theorem e_M_laySteps_39 (κ : Sg) (a40 a41 a42 a43 a44 a45 a46 a47 a48 a49 a50 : Nat → Int32) (v11 v12 v13 v14 : Int32) (hP : P_M_laySteps a40 a43)  : Ev none 49 (0, [some (vR 39), none], [], wd κ (mM a40 a41 a42 a43 a44 a45 a46 a47 a48 a49 a50 v11 v12 v13 v14), (0, 0)) (none, wd κ (mM a40 a41 a42 (f_M_laySteps a40 a43) a44 a45 a46 a47 a48 a49 a50 v11 v12 v13 v14)) := by
  suffices hh : ∀ (r : Option Int32 × AW) (K : (Nat → Int32) → Prop), K = (fun o : Nat → Int32 => (none, wd κ (mM a40 a41 a42 o a44 a45 a46 a47 a48 a49 a50 v11 v12 v13 v14)) = r) → K (unX (forX (b_M_laySteps_2 a40) 0 20 ((1 : Int32), (forN (b_M_laySteps_1 a40) 0 64 a43)))).2 → Ev none 49 (0, [some (vR 39), none], [], wd κ (mM a40 a41 a42 a43 a44 a45 a46 a47 a48 a49 a50 v11 v12 v13 v14), (0, 0)) r from hh _ _ rfl rfl
  intro r K hK k
  refine Ev.go (st' := (2, [some (vR 39), some (vI (0 : Int32))], [], wd κ (mM a40 a41 a42 a43 a44 a45 a46 a47 a48 a49 a50 v11 v12 v13 v14), (0, 0))) 2 rfl trivial ?_
  refine Ev.wk (Lle.s (Lle.s Lle.z)) ?_
  refine Ev.loopN (fun c v => (2, [some (vR 39), some (vI c)], [], wd κ (mM a40 a41 a42 v a44 a45 a46 a47 a48 a49 a50 v11 v12 v13 v14), (0, 0))) (b_M_laySteps_1 a40) 0 64 64 a43 (c0 := (0 : Int32)) rfl (by omega) (fun j hj k2 => ?_) ?_
  · have hp1 := hP.1 j hj
    have hi1 : 0 + j < 64 := by omega
    clear hj
    generalize forN (b_M_laySteps_1 a40) 0 j a43 = u1 at hp1 k2 ⊢
    generalize 0 + j = i1 at hi1 hp1 k2 ⊢
    show Ev none 49 (2, [some (vR 39), some (vI (nI i1))], [], wd κ (mM a40 a41 a42 u1 a44 a45 a46 a47 a48 a49 a50 v11 v12 v13 v14), (0, 0)) r
    refine Ev.go (st' := (if (64 : Int32) ≤ nI i1 then 49 else 8, [some (vR 39), some (vI (nI i1))], [], wd κ (mM a40 a41 a42 u1 a44 a45 a46 a47 a48 a49 a50 v11 v12 v13 v14), (0, 0))) 3 rfl trivial (Ev.brF (nI_ge hi1 (by decide)) ?_)
    refine Ev.go (st' := (if ((nI i1) / (8 : Int32)) = ((nI i1) - (nI i1) / (8 : Int32) * (8 : Int32)) then 24 else 39, [some (vR 39), some (vI (nI i1))], [vI (nI i1), vR 43], wd κ (mM a40 a41 a42 u1 a44 a45 a46 a47 a48 a49 a50 v11 v12 v13 v14), (0, 0))) 10 rfl ⟨(by decide), (by decide), trivial⟩ ?_
    have kJ2 : Ev none 49 (42, [some (vR 39), some (vI (nI i1))], [vI (iF (((nI i1) / (8 : Int32)) = ((nI i1) - (nI i1) / (8 : Int32) * (8 : Int32))) (iF ((f_M_isUp ((nI i1) / (8 : Int32)) a40) = 0) (1000 : Int32) (0 : Int32)) (1000 : Int32)), vI (nI i1), vR 43], wd κ (mM a40 a41 a42 u1 a44 a45 a46 a47 a48 a49 a50 v11 v12 v13 v14), (0, 0)) r := by
      refine Ev.go (st' := (43, [some (vR 39), some (vI (nI i1))], [], wd κ (mM a40 a41 a42 (upd u1 (nI i1).toNatClampNeg (iF (((nI i1) / (8 : Int32)) = ((nI i1) - (nI i1) / (8 : Int32) * (8 : Int32))) (iF ((f_M_isUp ((nI i1) / (8 : Int32)) a40) = 0) (1000 : Int32) (0 : Int32)) (1000 : Int32))) a44 a45 a46 a47 a48 a49 a50 v11 v12 v13 v14), (0, 0))) 1 rfl ⟨(vp_in_nI (by omega) (by decide)), trivial⟩ ?_
      refine Ev.go (st' := (2, [some (vR 39), some (vI ((nI i1) + (1 : Int32)))], [], wd κ (mM a40 a41 a42 (upd u1 (nI i1).toNatClampNeg (iF (((nI i1) / (8 : Int32)) = ((nI i1) - (nI i1) / (8 : Int32) * (8 : Int32))) (iF ((f_M_isUp ((nI i1) / (8 : Int32)) a40) = 0) (1000 : Int32) (0 : Int32)) (1000 : Int32))) a44 a45 a46 a47 a48 a49 a50 v11 v12 v13 v14), (0, 0))) 2 rfl trivial ?_
      exact Ev.wk (Lle.s (Lle.s Lle.z)) (show Ev none 49 (2, [some (vR 39), some (vI ((nI i1) + (1 : Int32)))], [], wd κ (mM a40 a41 a42 (upd u1 (nI i1).toNatClampNeg (iF (((nI i1) / (8 : Int32)) = ((nI i1) - (nI i1) / (8 : Int32) * (8 : Int32))) (iF ((f_M_isUp ((nI i1) / (8 : Int32)) a40) = 0) (1000 : Int32) (0 : Int32)) (1000 : Int32))) a44 a45 a46 a47 a48 a49 a50 v11 v12 v13 v14), (0, 0)) r from k2)
    refine Ev.br (fun h2 => ?_) (fun h2 => ?_)
    · refine Ev.go (st' := (29, [some (vR 39), some (vI (nI i1))], [vI ((nI i1) / (8 : Int32)), vR 39, vI (nI i1), vR 43], wd κ (mM a40 a41 a42 u1 a44 a45 a46 a47 a48 a49 a50 v11 v12 v13 v14), (0, 0))) 4 rfl ⟨(by decide), trivial⟩ ?_
      refine Ev.callI (a := 28) (As := [vR 39, vI ((nI i1) / (8 : Int32))]) [vI (nI i1), vR 43] (f_M_isUp ((nI i1) / (8 : Int32)) a40) (wd κ (mM a40 a41 a42 u1 a44 a45 a46 a47 a48 a49 a50 v11 v12 v13 v14)) rfl (e_M_isUp_39 κ a40 a41 a42 u1 a44 a45 a46 a47 a48 a49 a50 v11 v12 v13 v14 ((nI i1) / (8 : Int32)) (hp1.1.1 h2).1) ?_
      refine Ev.go (st' := (if (f_M_isUp ((nI i1) / (8 : Int32)) a40) = 0 then 39 else 35, [some (vR 39), some (vI (nI i1))], [vI (nI i1), vR 43], wd κ (mM a40 a41 a42 u1 a44 a45 a46 a47 a48 a49 a50 v11 v12 v13 v14), (0, 0))) 1 rfl trivial ?_
      have kJ3 : Ev none 49 (42, [some (vR 39), some (vI (nI i1))], [vI (iF ((f_M_isUp ((nI i1) / (8 : Int32)) a40) = 0) (1000 : Int32) (0 : Int32)), vI (nI i1), vR 43], wd κ (mM a40 a41 a42 u1 a44 a45 a46 a47 a48 a49 a50 v11 v12 v13 v14), (0, 0)) r := by
        exact Ev.wk (Lle.s (Lle.s Lle.z)) (Ev.to kJ2 (by simp only [iF_pos h2]))
      refine Ev.br (fun h3 => ?_) (fun h3 => ?_)
      · refine Ev.go (st' := (42, [some (vR 39), some (vI (nI i1))], [vI (1000 : Int32), vI (nI i1), vR 43], wd κ (mM a40 a41 a42 u1 a44 a45 a46 a47 a48 a49 a50 v11 v12 v13 v14), (0, 0))) 1 rfl trivial ?_
        exact Ev.wk (Lle.s (Lle.s Lle.z)) (Ev.to kJ3 (by simp only [iF_pos h3]))
      · refine Ev.go (st' := (42, [some (vR 39), some (vI (nI i1))], [vI (0 : Int32), vI (nI i1), vR 43], wd κ (mM a40 a41 a42 u1 a44 a45 a46 a47 a48 a49 a50 v11 v12 v13 v14), (0, 0))) 2 rfl trivial ?_
        exact Ev.wk (Lle.s (Lle.s Lle.z)) (Ev.to kJ3 (by simp only [iF_neg h3]))
    · refine Ev.go (st' := (42, [some (vR 39), some (vI (nI i1))], [vI (1000 : Int32), vI (nI i1), vR 43], wd κ (mM a40 a41 a42 u1 a44 a45 a46 a47 a48 a49 a50 v11 v12 v13 v14), (0, 0))) 1 rfl trivial ?_
      exact Ev.wk (Lle.s (Lle.s Lle.z)) (Ev.to kJ2 (by simp only [iF_neg h2]))
  · refine Ev.go (st' := (if (64 : Int32) ≤ nI 64 then 49 else 8, [some (vR 39), some (vI (nI 64))], [], wd κ (mM a40 a41 a42 (forN (b_M_laySteps_1 a40) 0 64 a43) a44 a45 a46 a47 a48 a49 a50 v11 v12 v13 v14), (0, 0))) 3 rfl trivial (Ev.brN (by decide) ?_)
    refine Ev.wk (Lle.s (Lle.n Lle.z)) ?_
    refine Ev.go (st' := (51, [some (vR 39), some (vI (1 : Int32))], [], wd κ (mM a40 a41 a42 (forN (b_M_laySteps_1 a40) 0 64 a43) a44 a45 a46 a47 a48 a49 a50 v11 v12 v13 v14), (0, 0))) 2 rfl trivial ?_
    refine Ev.wk (Lle.s (Lle.s Lle.z)) ?_
    refine Ev.loopA (fun c v => (51, [some (vR 39), some (vI v.1)], [], wd κ (mM a40 a41 a42 v.2 a44 a45 a46 a47 a48 a49 a50 v11 v12 v13 v14), (0, 0))) (fun v => (63, [none, none], [], wd κ (mM a40 a41 a42 v.2 a44 a45 a46 a47 a48 a49 a50 v11 v12 v13 v14), (0, 0))) (b_M_laySteps_2 a40) 0 20 ((1 : Int32), (forN (b_M_laySteps_1 a40) 0 64 a43)) (c0 := (0 : Int32)) rfl hP.2.1 (fun j u4 hj hv K4 hK4 k => ?_) ?_
    · have hp4 := hP.2.2.1 j u4 hj hv
      have hi4 : 0 + j < 0 + 20 := by omega
      clear hj hv
      generalize 0 + j = i4 at hi4 hK4 hp4 k ⊢
      replace k : K4 (iF (u4.1 = 0) (.inr (u4.1, u4.2)) (.inl ((f_M_shortenOnce a40 u4.2).1, (f_M_shortenOnce a40 u4.2).2))) := k
      show Ev none 49 (51, [some (vR 39), some (vI u4.1)], [], wd κ (mM a40 a41 a42 u4.2 a44 a45 a46 a47 a48 a49 a50 v11 v12 v13 v14), (0, 0)) r
      refine Ev.go (st' := (if u4.1 = 0 then 63 else 55, [some (vR 39), some (vI u4.1)], [], wd κ (mM a40 a41 a42 u4.2 a44 a45 a46 a47 a48 a49 a50 v11 v12 v13 v14), (0, 0))) 2 rfl trivial ?_
      refine Ev.brK (K := K4) k (fun h5 k => ?_) (fun h5 k => ?_)
      · rw [hK4] at k
        exact Ev.wk (Lle.n (Lle.n Lle.z)) (show Ev none 49 (63, [none, none], [], wd κ (mM a40 a41 a42 u4.2 a44 a45 a46 a47 a48 a49 a50 v11 v12 v13 v14), (0, 0)) r from k)
      · refine Ev.go (st' := (56, [some (vR 39), some (vI u4.1)], [vR 39], wd κ (mM a40 a41 a42 u4.2 a44 a45 a46 a47 a48 a49 a50 v11 v12 v13 v14), (0, 0))) 1 rfl trivial ?_
        refine Ev.callI (a := 48) (As := [vR 39]) [] (f_M_shortenOnce a40 u4.2).1 (wd κ (mM a40 a41 a42 (f_M_shortenOnce a40 u4.2).2 a44 a45 a46 a47 a48 a49 a50 v11 v12 v13 v14)) rfl (e_M_shortenOnce_39 κ a40 a41 a42 u4.2 a44 a45 a46 a47 a48 a49 a50 v11 v12 v13 v14 (hp4.1.2 h5).1) ?_
        refine Ev.go (st' := (51, [some (vR 39), some (vI (f_M_shortenOnce a40 u4.2).1)], [], wd κ (mM a40 a41 a42 (f_M_shortenOnce a40 u4.2).2 a44 a45 a46 a47 a48 a49 a50 v11 v12 v13 v14), (0, 0))) 2 rfl trivial ?_
        rw [hK4] at k
        exact Ev.wk (Lle.s (Lle.s Lle.z)) (show Ev none 49 (51, [some (vR 39), some (vI (f_M_shortenOnce a40 u4.2).1)], [], wd κ (mM a40 a41 a42 (f_M_shortenOnce a40 u4.2).2 a44 a45 a46 a47 a48 a49 a50 v11 v12 v13 v14), (0, 0)) r from k)
    · show Ev none 49 (63, [none, none], [], wd κ (mM a40 a41 a42 (unX (forX (b_M_laySteps_2 a40) 0 20 ((1 : Int32), (forN (b_M_laySteps_1 a40) 0 64 a43)))).2 a44 a45 a46 a47 a48 a49 a50 v11 v12 v13 v14), (0, 0)) r
      rw [hK] at k
      have k3 : (none, wd κ (mM a40 a41 a42 (unX (forX (b_M_laySteps_2 a40) 0 20 ((1 : Int32), (forN (b_M_laySteps_1 a40) 0 64 a43)))).2 a44 a45 a46 a47 a48 a49 a50 v11 v12 v13 v14)) = r := k
      rw [← k3]
      exact Ev.retv rfl rfl

/-! OF MeshNames$Paths.noteSteps(III)V -/
noncomputable def b_Paths_noteSteps_1 (p1 : Int32) (p2 : Int32) (p3 : Int32) (j : Nat) (v : Nat → Int32) : Nat → Int32 := (if (f_C_has p1 (nI j)) = 0 then v else (upd v ((p2 * (8 : Int32)) + (nI j)).toNatClampNeg p3))
def P_Paths_noteSteps_1 (p1 : Int32) (p2 : Int32) (p3 : Int32) (j : Nat) (v : Nat → Int32) : Prop := (((f_C_has p1 (nI j)) = 0 → True) ∧ (¬ ((f_C_has p1 (nI j)) = 0) → (vp_in ((p2 * (8 : Int32)) + (nI j)) 64 ∧ True))) ∧ True
noncomputable def f_Paths_noteSteps (x1 : Int32) (x2 : Int32) (x3 : Int32) (steps : Nat → Int32) : Nat → Int32 := (forN (b_Paths_noteSteps_1 x2 x1 x3) 0 8 steps)
def P_Paths_noteSteps (x1 : Int32) (x2 : Int32) (x3 : Int32) (steps : Nat → Int32) : Prop := (∀ j, j < 8 → P_Paths_noteSteps_1 x2 x1 x3 (0 + j) (forN (b_Paths_noteSteps_1 x2 x1 x3) 0 j steps)) ∧ True
set_option maxRecDepth 8000 in
set_option maxHeartbeats 4000000 in
theorem e_Paths_noteSteps_4 (σ : Sg) (md : AW) (x1 x2 x3 : Int32) (hP : P_Paths_noteSteps x1 x2 x3 (σ.1 8))  : Ev none 7 (0, [some (vR 4), some (vI x1), some (vI x2), some (vI x3), none], [], wd σ md, (0, 0)) (none, wd (sA 8 (f_Paths_noteSteps x1 x2 x3 (σ.1 8)) σ) md) := by
  suffices hh : ∀ (r : Option Int32 × AW) (K : (Nat → Int32) → Prop), K = (fun o : Nat → Int32 => (none, wd (sA 8 o σ) md) = r) → K (forN (b_Paths_noteSteps_1 x2 x1 x3) 0 8 (σ.1 8)) → Ev none 7 (0, [some (vR 4), some (vI x1), some (vI x2), some (vI x3), none], [], wd σ md, (0, 0)) r from hh _ _ rfl rfl
  intro r K hK k
  refine Ev.go (st' := (3, [some (vR 4), some (vI x1), some (vI x2), some (vI x3), some (vI (0 : Int32))], [], wd σ md, (0, 0))) 2 rfl trivial ?_
  refine Ev.wk (Lle.s (Lle.s (Lle.s (Lle.s (Lle.s Lle.z))))) ?_
  refine Ev.loopN (fun c v => (3, [some (vR 4), some (vI x1), some (vI x2), some (vI x3), some (vI c)], [], wd (sA 8 v σ) md, (0, 0))) (b_Paths_noteSteps_1 x2 x1 x3) 0 8 8 (σ.1 8) (c0 := (0 : Int32)) rfl (by omega) (fun j hj k2 => ?_) ?_
  · have hp1 := hP.1 j hj
    have hi1 : 0 + j < 8 := by omega
    clear hj
    generalize forN (b_Paths_noteSteps_1 x2 x1 x3) 0 j (σ.1 8) = v1 at hp1 k2 ⊢
    generalize 0 + j = i1 at hi1 hp1 k2 ⊢
    show Ev none 7 (3, [some (vR 4), some (vI x1), some (vI x2), some (vI x3), some (vI (nI i1))], [], wd (sA 8 v1 σ) md, (0, 0)) r
    refine Ev.go (st' := (if (8 : Int32) ≤ nI i1 then 38 else 10, [some (vR 4), some (vI x1), some (vI x2), some (vI x3), some (vI (nI i1))], [], wd (sA 8 v1 σ) md, (0, 0))) 3 rfl trivial (Ev.brF (nI_ge hi1 (by decide)) ?_)
    refine Ev.go (st' := (13, [some (vR 4), some (vI x1), some (vI x2), some (vI x3), some (vI (nI i1))], [vI (nI i1), vI x2], wd (sA 8 v1 σ) md, (0, 0))) 2 rfl trivial ?_
    refine Ev.callI (a := 6) (As := [vI x2, vI (nI i1)]) [] (f_C_has x2 (nI i1)) (wd (sA 8 v1 σ) md) rfl (e_C_has (wd (sA 8 v1 σ) md) x2 (nI i1)) ?_
    refine Ev.go (st' := (if (f_C_has x2 (nI i1)) = 0 then 32 else 19, [some (vR 4), some (vI x1), some (vI x2), some (vI x3), some (vI (nI i1))], [], wd (sA 8 v1 σ) md, (0, 0))) 1 rfl trivial ?_
    have kJ2 : Ev none 7 (32, [some (vR 4), some (vI x1), some (vI x2), some (vI x3), some (vI (nI i1))], [], wd (sA 8 (if (f_C_has x2 (nI i1)) = 0 then v1 else (upd v1 ((x1 * (8 : Int32)) + (nI i1)).toNatClampNeg x3)) σ) md, (0, 0)) r := by
      refine Ev.go (st' := (3, [some (vR 4), some (vI x1), some (vI x2), some (vI x3), some (vI ((nI i1) + (1 : Int32)))], [], wd (sA 8 (if (f_C_has x2 (nI i1)) = 0 then v1 else (upd v1 ((x1 * (8 : Int32)) + (nI i1)).toNatClampNeg x3)) σ) md, (0, 0))) 2 rfl trivial ?_
      exact Ev.wk (Lle.s (Lle.s (Lle.s (Lle.s (Lle.s Lle.z))))) (show Ev none 7 (3, [some (vR 4), some (vI x1), some (vI x2), some (vI x3), some (vI ((nI i1) + (1 : Int32)))], [], wd (sA 8 (if (f_C_has x2 (nI i1)) = 0 then v1 else (upd v1 ((x1 * (8 : Int32)) + (nI i1)).toNatClampNeg x3)) σ) md, (0, 0)) r from k2)
    refine Ev.br (fun h2 => ?_) (fun h2 => ?_)
    · exact Ev.wk (Lle.s (Lle.s (Lle.s (Lle.s (Lle.s Lle.z))))) (Ev.to kJ2 (by simp only [if_pos h2]))
    · refine Ev.go (st' := (32, [some (vR 4), some (vI x1), some (vI x2), some (vI x3), some (vI (nI i1))], [], wd (sA 8 (upd v1 ((x1 * (8 : Int32)) + (nI i1)).toNatClampNeg x3) σ) md, (0, 0))) 9 rfl ⟨(hp1.1.2 h2).1, trivial⟩ ?_
      exact Ev.wk (Lle.s (Lle.s (Lle.s (Lle.s (Lle.s Lle.z))))) (Ev.to kJ2 (by simp only [if_neg h2]))
  · refine Ev.go (st' := (if (8 : Int32) ≤ nI 8 then 38 else 10, [some (vR 4), some (vI x1), some (vI x2), some (vI x3), some (vI (nI 8))], [], wd (sA 8 (forN (b_Paths_noteSteps_1 x2 x1 x3) 0 8 (σ.1 8)) σ) md, (0, 0))) 3 rfl trivial (Ev.brN (by decide) ?_)
    refine Ev.wk (Lle.n (Lle.n (Lle.n (Lle.n (Lle.n Lle.z))))) ?_
    rw [hK] at k
    have k3 : (none, wd (sA 8 (forN (b_Paths_noteSteps_1 x2 x1 x3) 0 8 (σ.1 8)) σ) md) = r := k
    rw [← k3]
    exact Ev.retv rfl rfl

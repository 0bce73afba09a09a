/-! OF MeshNames$Paths.measureFrom(I)V -/
noncomputable def b_Paths_measureFrom_1 (p1 : Int32) (j : Nat) (v : Nat → Int32) : Nat → Int32 := (upd v ((p1 * (8 : Int32)) + (nI j)).toNatClampNeg (-6 : Int32))
def P_Paths_measureFrom_1 (p1 : Int32) (j : Nat) (v : Nat → Int32) : Prop := vp_in ((p1 * (8 : Int32)) + (nI j)) 64 ∧ True
noncomputable def b_Paths_measureFrom_2 (upSet : Int32) (links : Nat → Int32) (p1 : Int32) (j : Nat) (v : Int32 × Int32 × (Nat → Int32)) : (Int32 × Int32 × (Nat → Int32)) ⊕ (Int32 × Int32 × (Nat → Int32)) := (if (8 : Int32) ≤ (nI j) then (.inr (v.1, v.2.1, v.2.2)) else (if v.2.1 = 0 then (.inr (v.1, v.2.1, v.2.2)) else (.inl ((v.1 ||| v.2.1), ((f_Mesh_neighboursOfAll v.2.1 upSet links) &&& ((v.1 ||| v.2.1) ^^^ (-1 : Int32))), (f_Paths_noteSteps p1 v.2.1 (nI j) v.2.2)))))
def P_Paths_measureFrom_2 (upSet : Int32) (links : Nat → Int32) (p1 : Int32) (j : Nat) (v : Int32 × Int32 × (Nat → Int32)) : Prop := (((8 : Int32) ≤ (nI j) → True) ∧ (¬ ((8 : Int32) ≤ (nI j)) → (((v.2.1 = 0 → True) ∧ (¬ (v.2.1 = 0) → ((P_Paths_noteSteps p1 v.2.1 (nI j) v.2.2) ∧ (P_Mesh_neighboursOfAll v.2.1 upSet links) ∧ True))) ∧ True))) ∧ True
noncomputable def f_Paths_measureFrom (x1 : Int32) (parts : Nat → Int32) (upSet : Int32) (links : Nat → Int32) (steps : Nat → Int32) : (Nat → Int32) × (Nat → Int32) := ((upd parts x1.toNatClampNeg (unX (forX (b_Paths_measureFrom_2 upSet links x1) 0 9 ((0 : Int32), (upSet &&& (f_C_bit x1)), (forN (b_Paths_measureFrom_1 x1) 0 8 steps)))).1), (unX (forX (b_Paths_measureFrom_2 upSet links x1) 0 9 ((0 : Int32), (upSet &&& (f_C_bit x1)), (forN (b_Paths_measureFrom_1 x1) 0 8 steps)))).2.2)
def P_Paths_measureFrom (x1 : Int32) (parts : Nat → Int32) (upSet : Int32) (links : Nat → Int32) (steps : Nat → Int32) : Prop := (∀ j, j < 8 → P_Paths_measureFrom_1 x1 (0 + j) (forN (b_Paths_measureFrom_1 x1) 0 j steps)) ∧ (∃ x, forX (b_Paths_measureFrom_2 upSet links x1) 0 9 ((0 : Int32), (upSet &&& (f_C_bit x1)), (forN (b_Paths_measureFrom_1 x1) 0 8 steps)) = .inr x) ∧ (∀ j v, j < 9 → forX (b_Paths_measureFrom_2 upSet links x1) 0 j ((0 : Int32), (upSet &&& (f_C_bit x1)), (forN (b_Paths_measureFrom_1 x1) 0 8 steps)) = .inl v → P_Paths_measureFrom_2 upSet links x1 (0 + j) v) ∧ vp_in x1 8 ∧ True
set_option maxRecDepth 8000 in
set_option maxHeartbeats 4000000 in
theorem e_Paths_measureFrom_4 (σ : Sg) (md : AW) (x1 : Int32) (hP : P_Paths_measureFrom x1 (σ.1 5) (σ.2 1) (σ.1 3) (σ.1 8))  : Ev none 11 (0, [some (vR 4), some (vI x1), none, none, none], [], wd σ md, (0, 0)) (none, wd (sA 5 (f_Paths_measureFrom x1 (σ.1 5) (σ.2 1) (σ.1 3) (σ.1 8)).1 (sA 8 (f_Paths_measureFrom x1 (σ.1 5) (σ.2 1) (σ.1 3) (σ.1 8)).2 σ)) md) := by
  suffices hh : ∀ (r : Option Int32 × AW) (K : ((Nat → Int32) × (Nat → Int32)) → Prop), K = (fun o : (Nat → Int32) × (Nat → Int32) => (none, wd (sA 5 o.1 (sA 8 o.2 σ)) md) = r) → K ((upd (σ.1 5) x1.toNatClampNeg (unX (forX (b_Paths_measureFrom_2 (σ.2 1) (σ.1 3) x1) 0 9 ((0 : Int32), ((σ.2 1) &&& (f_C_bit x1)), (forN (b_Paths_measureFrom_1 x1) 0 8 (σ.1 8))))).1), (unX (forX (b_Paths_measureFrom_2 (σ.2 1) (σ.1 3) x1) 0 9 ((0 : Int32), ((σ.2 1) &&& (f_C_bit x1)), (forN (b_Paths_measureFrom_1 x1) 0 8 (σ.1 8))))).2.2) → Ev none 11 (0, [some (vR 4), some (vI x1), none, none, none], [], wd σ md, (0, 0)) r from hh _ _ rfl rfl
  intro r K hK k
  refine Ev.go (st' := (10, [some (vR 4), some (vI x1), some (vI (0 : Int32)), none, none], [vI x1, vI (σ.2 1)], wd σ md, (0, 0))) 6 rfl trivial ?_
  refine Ev.callI (a := 5) (As := [vI x1]) [vI (σ.2 1)] (f_C_bit x1) (wd σ md) rfl (e_C_bit (wd σ md) x1) ?_
  refine Ev.go (st' := (18, [some (vR 4), some (vI x1), some (vI (0 : Int32)), some (vI ((σ.2 1) &&& (f_C_bit x1))), some (vI (0 : Int32))], [], wd σ md, (0, 0))) 4 rfl trivial ?_
  refine Ev.wk (Lle.s (Lle.s (Lle.s (Lle.s (Lle.s Lle.z))))) ?_
  refine Ev.loopN (fun c v => (18, [some (vR 4), some (vI x1), some (vI (0 : Int32)), some (vI ((σ.2 1) &&& (f_C_bit x1))), some (vI c)], [], wd (sA 8 v σ) md, (0, 0))) (b_Paths_measureFrom_1 x1) 0 8 8 (σ.1 8) (c0 := (0 : Int32)) rfl (by omega) (fun j hj k2 => ?_) ?_
  · have hp1 := hP.1 j hj
    have hi1 : 0 + j < 8 := by omega
    clear hj
    generalize forN (b_Paths_measureFrom_1 x1) 0 j (σ.1 8) = v1 at hp1 k2 ⊢
    generalize 0 + j = i1 at hi1 hp1 k2 ⊢
    show Ev none 11 (18, [some (vR 4), some (vI x1), some (vI (0 : Int32)), some (vI ((σ.2 1) &&& (f_C_bit x1))), some (vI (nI i1))], [], wd (sA 8 v1 σ) md, (0, 0)) r
    refine Ev.go (st' := (if (8 : Int32) ≤ nI i1 then 45 else 25, [some (vR 4), some (vI x1), some (vI (0 : Int32)), some (vI ((σ.2 1) &&& (f_C_bit x1))), some (vI (nI i1))], [], wd (sA 8 v1 σ) md, (0, 0))) 3 rfl trivial (Ev.brF (nI_ge hi1 (by decide)) ?_)
    refine Ev.go (st' := (18, [some (vR 4), some (vI x1), some (vI (0 : Int32)), some (vI ((σ.2 1) &&& (f_C_bit x1))), some (vI ((nI i1) + (1 : Int32)))], [], wd (sA 8 (upd v1 ((x1 * (8 : Int32)) + (nI i1)).toNatClampNeg (-6 : Int32)) σ) md, (0, 0))) 11 rfl ⟨hp1.1, trivial⟩ ?_
    exact Ev.wk (Lle.s (Lle.s (Lle.s (Lle.s (Lle.s Lle.z))))) (show Ev none 11 (18, [some (vR 4), some (vI x1), some (vI (0 : Int32)), some (vI ((σ.2 1) &&& (f_C_bit x1))), some (vI ((nI i1) + (1 : Int32)))], [], wd (sA 8 (upd v1 ((x1 * (8 : Int32)) + (nI i1)).toNatClampNeg (-6 : Int32)) σ) md, (0, 0)) r from k2)
  · refine Ev.go (st' := (if (8 : Int32) ≤ nI 8 then 45 else 25, [some (vR 4), some (vI x1), some (vI (0 : Int32)), some (vI ((σ.2 1) &&& (f_C_bit x1))), some (vI (nI 8))], [], wd (sA 8 (forN (b_Paths_measureFrom_1 x1) 0 8 (σ.1 8)) σ) md, (0, 0))) 3 rfl trivial (Ev.brN (by decide) ?_)
    refine Ev.wk (Lle.s (Lle.s (Lle.s (Lle.s (Lle.n Lle.z))))) ?_
    refine Ev.go (st' := (48, [some (vR 4), some (vI x1), some (vI (0 : Int32)), some (vI ((σ.2 1) &&& (f_C_bit x1))), some (vI (0 : Int32))], [], wd (sA 8 (forN (b_Paths_measureFrom_1 x1) 0 8 (σ.1 8)) σ) md, (0, 0))) 2 rfl trivial ?_
    refine Ev.wk (Lle.s (Lle.s (Lle.s (Lle.s (Lle.s Lle.z))))) ?_
    refine Ev.loopA (fun c v => (48, [some (vR 4), some (vI x1), some (vI v.1), some (vI v.2.1), some (vI c)], [], wd (sA 8 v.2.2 σ) md, (0, 0))) (fun v => (90, [some (vR 4), some (vI x1), some (vI v.1), none, none], [], wd (sA 8 v.2.2 σ) md, (0, 0))) (b_Paths_measureFrom_2 (σ.2 1) (σ.1 3) x1) 0 9 ((0 : Int32), ((σ.2 1) &&& (f_C_bit x1)), (forN (b_Paths_measureFrom_1 x1) 0 8 (σ.1 8))) (c0 := (0 : Int32)) rfl hP.2.1 (fun j v2 hj hv K2 hK2 k => ?_) ?_
    · have hp2 := hP.2.2.1 j v2 hj hv
      have hi2 : 0 + j < 0 + 9 := by omega
      clear hj hv
      generalize 0 + j = i2 at hi2 hK2 hp2 k ⊢
      replace k : K2 (if (8 : Int32) ≤ (nI i2) then (.inr (v2.1, v2.2.1, v2.2.2)) else (if v2.2.1 = 0 then (.inr (v2.1, v2.2.1, v2.2.2)) else (.inl ((v2.1 ||| v2.2.1), ((f_Mesh_neighboursOfAll v2.2.1 (σ.2 1) (σ.1 3)) &&& ((v2.1 ||| v2.2.1) ^^^ (-1 : Int32))), (f_Paths_noteSteps x1 v2.2.1 (nI i2) v2.2.2))))) := k
      show Ev none 11 (48, [some (vR 4), some (vI x1), some (vI v2.1), some (vI v2.2.1), some (vI (nI i2))], [], wd (sA 8 v2.2.2 σ) md, (0, 0)) r
      refine Ev.go (st' := (if (8 : Int32) ≤ (nI i2) then 90 else 55, [some (vR 4), some (vI x1), some (vI v2.1), some (vI v2.2.1), some (vI (nI i2))], [], wd (sA 8 v2.2.2 σ) md, (0, 0))) 3 rfl trivial ?_
      refine Ev.brK (K := K2) k (fun h3 k => ?_) (fun h3 k => ?_)
      · rw [hK2] at k
        exact Ev.wk (Lle.s (Lle.s (Lle.s (Lle.n (Lle.n Lle.z))))) (show Ev none 11 (90, [some (vR 4), some (vI x1), some (vI v2.1), none, none], [], wd (sA 8 v2.2.2 σ) md, (0, 0)) r from k)
      · refine Ev.go (st' := (if v2.2.1 = 0 then 90 else 59, [some (vR 4), some (vI x1), some (vI v2.1), some (vI v2.2.1), some (vI (nI i2))], [], wd (sA 8 v2.2.2 σ) md, (0, 0))) 2 rfl trivial ?_
        refine Ev.brK (K := K2) k (fun h4 k => ?_) (fun h4 k => ?_)
        · rw [hK2] at k
          exact Ev.wk (Lle.s (Lle.s (Lle.s (Lle.n (Lle.n Lle.z))))) (show Ev none 11 (90, [some (vR 4), some (vI x1), some (vI v2.1), none, none], [], wd (sA 8 v2.2.2 σ) md, (0, 0)) r from k)
        · refine Ev.go (st' := (64, [some (vR 4), some (vI x1), some (vI v2.1), some (vI v2.2.1), some (vI (nI i2))], [vI (nI i2), vI v2.2.1, vI x1, vR 4], wd (sA 8 v2.2.2 σ) md, (0, 0))) 4 rfl trivial ?_
          refine Ev.callV (a := 7) (As := [vR 4, vI x1, vI v2.2.1, vI (nI i2)]) [] (wd (sA 8 (f_Paths_noteSteps x1 v2.2.1 (nI i2) v2.2.2) σ) md) rfl (e_Paths_noteSteps_4 (sA 8 v2.2.2 σ) md x1 v2.2.1 (nI i2) ((hp2.1.2 h3).1.2 h4).1) ?_
          refine Ev.go (st' := (76, [some (vR 4), some (vI x1), some (vI (v2.1 ||| v2.2.1)), some (vI v2.2.1), some (vI (nI i2))], [vI v2.2.1, vR 1], wd (sA 8 (f_Paths_noteSteps x1 v2.2.1 (nI i2) v2.2.2) σ) md, (0, 0))) 7 rfl trivial ?_
          refine Ev.callI (a := 10) (As := [vR 1, vI v2.2.1]) [] (f_Mesh_neighboursOfAll v2.2.1 (σ.2 1) (σ.1 3)) (wd (sA 8 (f_Paths_noteSteps x1 v2.2.1 (nI i2) v2.2.2) σ) md) rfl (e_Mesh_neighboursOfAll_1 (sA 8 (f_Paths_noteSteps x1 v2.2.1 (nI i2) v2.2.2) σ) md v2.2.1 ((hp2.1.2 h3).1.2 h4).2.1) ?_
          refine Ev.go (st' := (48, [some (vR 4), some (vI x1), some (vI (v2.1 ||| v2.2.1)), some (vI ((f_Mesh_neighboursOfAll v2.2.1 (σ.2 1) (σ.1 3)) &&& ((v2.1 ||| v2.2.1) ^^^ (-1 : Int32)))), some (vI ((nI i2) + (1 : Int32)))], [], wd (sA 8 (f_Paths_noteSteps x1 v2.2.1 (nI i2) v2.2.2) σ) md, (0, 0))) 7 rfl trivial ?_
          rw [hK2] at k
          exact Ev.wk (Lle.s (Lle.s (Lle.s (Lle.s (Lle.s Lle.z))))) (show Ev none 11 (48, [some (vR 4), some (vI x1), some (vI (v2.1 ||| v2.2.1)), some (vI ((f_Mesh_neighboursOfAll v2.2.1 (σ.2 1) (σ.1 3)) &&& ((v2.1 ||| v2.2.1) ^^^ (-1 : Int32)))), some (vI ((nI i2) + (1 : Int32)))], [], wd (sA 8 (f_Paths_noteSteps x1 v2.2.1 (nI i2) v2.2.2) σ) md, (0, 0)) r from k)
    · show Ev none 11 (90, [some (vR 4), some (vI x1), some (vI (unX (forX (b_Paths_measureFrom_2 (σ.2 1) (σ.1 3) x1) 0 9 ((0 : Int32), ((σ.2 1) &&& (f_C_bit x1)), (forN (b_Paths_measureFrom_1 x1) 0 8 (σ.1 8))))).1), none, none], [], wd (sA 8 (unX (forX (b_Paths_measureFrom_2 (σ.2 1) (σ.1 3) x1) 0 9 ((0 : Int32), ((σ.2 1) &&& (f_C_bit x1)), (forN (b_Paths_measureFrom_1 x1) 0 8 (σ.1 8))))).2.2 σ) md, (0, 0)) r
      refine Ev.go (st' := (97, [some (vR 4), some (vI x1), some (vI (unX (forX (b_Paths_measureFrom_2 (σ.2 1) (σ.1 3) x1) 0 9 ((0 : Int32), ((σ.2 1) &&& (f_C_bit x1)), (forN (b_Paths_measureFrom_1 x1) 0 8 (σ.1 8))))).1), none, none], [], wd (sA 5 (upd (σ.1 5) x1.toNatClampNeg (unX (forX (b_Paths_measureFrom_2 (σ.2 1) (σ.1 3) x1) 0 9 ((0 : Int32), ((σ.2 1) &&& (f_C_bit x1)), (forN (b_Paths_measureFrom_1 x1) 0 8 (σ.1 8))))).1) (sA 8 (unX (forX (b_Paths_measureFrom_2 (σ.2 1) (σ.1 3) x1) 0 9 ((0 : Int32), ((σ.2 1) &&& (f_C_bit x1)), (forN (b_Paths_measureFrom_1 x1) 0 8 (σ.1 8))))).2.2 σ)) md, (0, 0))) 5 rfl ⟨hP.2.2.2.1, trivial⟩ ?_
      rw [hK] at k
      have k3 : (none, wd (sA 5 (upd (σ.1 5) x1.toNatClampNeg (unX (forX (b_Paths_measureFrom_2 (σ.2 1) (σ.1 3) x1) 0 9 ((0 : Int32), ((σ.2 1) &&& (f_C_bit x1)), (forN (b_Paths_measureFrom_1 x1) 0 8 (σ.1 8))))).1) (sA 8 (unX (forX (b_Paths_measureFrom_2 (σ.2 1) (σ.1 3) x1) 0 9 ((0 : Int32), ((σ.2 1) &&& (f_C_bit x1)), (forN (b_Paths_measureFrom_1 x1) 0 8 (σ.1 8))))).2.2 σ)) md) = r := k
      rw [← k3]
      exact Ev.retv rfl rfl

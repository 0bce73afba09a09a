/-! OF MeshNames$Mesh.neighboursOfAll(I)I -/
noncomputable def b_Mesh_neighboursOfAll_1 (p1 : Int32) (upSet : Int32) (links : Nat → Int32) (j : Nat) (v : Int32) : Int32 := (if (f_C_has p1 (nI j)) = 0 then v else (v ||| (f_Mesh_neighbours (nI j) upSet links)))
def P_Mesh_neighboursOfAll_1 (p1 : Int32) (upSet : Int32) (links : Nat → Int32) (j : Nat) (v : Int32) : Prop := (((f_C_has p1 (nI j)) = 0 → True) ∧ (¬ ((f_C_has p1 (nI j)) = 0) → ((P_Mesh_neighbours (nI j) upSet links) ∧ True))) ∧ True
noncomputable def f_Mesh_neighboursOfAll (x1 : Int32) (upSet : Int32) (links : Nat → Int32) : Int32 := (forN (b_Mesh_neighboursOfAll_1 x1 upSet links) 0 8 (0 : Int32))
def P_Mesh_neighboursOfAll (x1 : Int32) (upSet : Int32) (links : Nat → Int32) : Prop := (∀ j, j < 8 → P_Mesh_neighboursOfAll_1 x1 upSet links (0 + j) (forN (b_Mesh_neighboursOfAll_1 x1 upSet links) 0 j (0 : Int32))) ∧ True
set_option maxRecDepth 8000 in
set_option maxHeartbeats 4000000 in
theorem e_Mesh_neighboursOfAll_1 (σ : Sg) (md : AW) (x1 : Int32) (hP : P_Mesh_neighboursOfAll x1 (σ.2 1) (σ.1 3))  : Ev none 10 (0, [some (vR 1), some (vI x1), none, none], [], wd σ md, (0, 0)) (some (f_Mesh_neighboursOfAll x1 (σ.2 1) (σ.1 3)), wd σ md) := by
  suffices hh : ∀ (r : Option Int32 × AW) (K : (Int32) → Prop), K = (fun o : Int32 => (some o, wd σ md) = r) → K (forN (b_Mesh_neighboursOfAll_1 x1 (σ.2 1) (σ.1 3)) 0 8 (0 : Int32)) → Ev none 10 (0, [some (vR 1), some (vI x1), none, none], [], wd σ md, (0, 0)) r from hh _ _ rfl rfl
  intro r K hK k
  refine Ev.go (st' := (4, [some (vR 1), some (vI x1), some (vI (0 : Int32)), some (vI (0 : Int32))], [], wd σ md, (0, 0))) 4 rfl trivial ?_
  refine Ev.wk (Lle.s (Lle.s (Lle.s (Lle.s Lle.z)))) ?_
  refine Ev.loopN (fun c v => (4, [some (vR 1), some (vI x1), some (vI v), some (vI c)], [], wd σ md, (0, 0))) (b_Mesh_neighboursOfAll_1 x1 (σ.2 1) (σ.1 3)) 0 8 8 (0 : Int32) (c0 := (0 : Int32)) rfl (by omega) (fun j hj k2 => ?_) ?_
  · have hp1 := hP.1 j hj
    have hi1 : 0 + j < 8 := by omega
    clear hj
    generalize forN (b_Mesh_neighboursOfAll_1 x1 (σ.2 1) (σ.1 3)) 0 j (0 : Int32) = v1 at hp1 k2 ⊢
    generalize 0 + j = i1 at hi1 hp1 k2 ⊢
    show Ev none 10 (4, [some (vR 1), some (vI x1), some (vI v1), some (vI (nI i1))], [], wd σ md, (0, 0)) r
    refine Ev.go (st' := (if (8 : Int32) ≤ nI i1 then 32 else 10, [some (vR 1), some (vI x1), some (vI v1), some (vI (nI i1))], [], wd σ md, (0, 0))) 3 rfl trivial (Ev.brF (nI_ge hi1 (by decide)) ?_)
    refine Ev.go (st' := (12, [some (vR 1), some (vI x1), some (vI v1), some (vI (nI i1))], [vI (nI i1), vI x1], wd σ md, (0, 0))) 2 rfl trivial ?_
    refine Ev.callI (a := 6) (As := [vI x1, vI (nI i1)]) [] (f_C_has x1 (nI i1)) (wd σ md) rfl (e_C_has (wd σ md) x1 (nI i1)) ?_
    refine Ev.go (st' := (if (f_C_has x1 (nI i1)) = 0 then 26 else 18, [some (vR 1), some (vI x1), some (vI v1), some (vI (nI i1))], [], wd σ md, (0, 0))) 1 rfl trivial ?_
    have kJ2 : Ev none 10 (26, [some (vR 1), some (vI x1), some (vI (if (f_C_has x1 (nI i1)) = 0 then v1 else (v1 ||| (f_Mesh_neighbours (nI i1) (σ.2 1) (σ.1 3))))), some (vI (nI i1))], [], wd σ md, (0, 0)) r := by
      refine Ev.go (st' := (4, [some (vR 1), some (vI x1), some (vI (if (f_C_has x1 (nI i1)) = 0 then v1 else (v1 ||| (f_Mesh_neighbours (nI i1) (σ.2 1) (σ.1 3))))), some (vI ((nI i1) + (1 : Int32)))], [], wd σ md, (0, 0))) 2 rfl trivial ?_
      exact Ev.wk (Lle.s (Lle.s (Lle.s (Lle.s Lle.z)))) (show Ev none 10 (4, [some (vR 1), some (vI x1), some (vI (if (f_C_has x1 (nI i1)) = 0 then v1 else (v1 ||| (f_Mesh_neighbours (nI i1) (σ.2 1) (σ.1 3))))), some (vI ((nI i1) + (1 : Int32)))], [], wd σ md, (0, 0)) r from k2)
    refine Ev.br (fun h2 => ?_) (fun h2 => ?_)
    · exact Ev.wk (Lle.s (Lle.s (Lle.s (Lle.s Lle.z)))) (Ev.to kJ2 (by simp only [if_pos h2]))
    · refine Ev.go (st' := (21, [some (vR 1), some (vI x1), some (vI v1), some (vI (nI i1))], [vI (nI i1), vR 1, vI v1], wd σ md, (0, 0))) 3 rfl trivial ?_
      refine Ev.callI (a := 9) (As := [vR 1, vI (nI i1)]) [vI v1] (f_Mesh_neighbours (nI i1) (σ.2 1) (σ.1 3)) (wd σ md) rfl (e_Mesh_neighbours_1 σ md (nI i1) (hp1.1.2 h2).1) ?_
      refine Ev.go (st' := (26, [some (vR 1), some (vI x1), some (vI (v1 ||| (f_Mesh_neighbours (nI i1) (σ.2 1) (σ.1 3)))), some (vI (nI i1))], [], wd σ md, (0, 0))) 2 rfl trivial ?_
      exact Ev.wk (Lle.s (Lle.s (Lle.s (Lle.s Lle.z)))) (Ev.to kJ2 (by simp only [if_neg h2]))
  · refine Ev.go (st' := (if (8 : Int32) ≤ nI 8 then 32 else 10, [some (vR 1), some (vI x1), some (vI (forN (b_Mesh_neighboursOfAll_1 x1 (σ.2 1) (σ.1 3)) 0 8 (0 : Int32))), some (vI (nI 8))], [], wd σ md, (0, 0))) 3 rfl trivial (Ev.brN (by decide) ?_)
    refine Ev.wk (Lle.n (Lle.n (Lle.s (Lle.n Lle.z)))) ?_
    refine Ev.go (st' := (33, [none, none, some (vI (forN (b_Mesh_neighboursOfAll_1 x1 (σ.2 1) (σ.1 3)) 0 8 (0 : Int32))), none], [vI (forN (b_Mesh_neighboursOfAll_1 x1 (σ.2 1) (σ.1 3)) 0 8 (0 : Int32))], wd σ md, (0, 0))) 1 rfl trivial ?_
    rw [hK] at k
    have k3 : (some (forN (b_Mesh_neighboursOfAll_1 x1 (σ.2 1) (σ.1 3)) 0 8 (0 : Int32)), wd σ md) = r := k
    rw [← k3]
    exact Ev.ireti rfl rfl

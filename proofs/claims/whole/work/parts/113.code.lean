/-! OF MeshNames$Paths.firstNearer(II)I -/
noncomputable def b_Paths_firstNearer_1 (p1 : Int32) (p2 : Int32) (steps : Nat → Int32) (p3 : Int32) (j : Nat) (v : Unit) : (Unit) ⊕ (Int32) := (if (8 : Int32) ≤ (nI j) then (.inr (-6 : Int32)) else (if p1 < 0 then (.inr (-6 : Int32)) else (if (f_C_has p2 (nI j)) = 0 then (.inl ()) else (if (steps (((nI j) * (8 : Int32)) + p3).toNatClampNeg) = p1 then (.inr (nI j)) else (.inl ())))))
def P_Paths_firstNearer_1 (p1 : Int32) (p2 : Int32) (steps : Nat → Int32) (p3 : Int32) (j : Nat) (v : Unit) : Prop := (((8 : Int32) ≤ (nI j) → True) ∧ (¬ ((8 : Int32) ≤ (nI j)) → (((p1 < 0 → True) ∧ (¬ (p1 < 0) → ((((f_C_has p2 (nI j)) = 0 → True) ∧ (¬ ((f_C_has p2 (nI j)) = 0) → (vp_in (((nI j) * (8 : Int32)) + p3) 64 ∧ True))) ∧ True))) ∧ True))) ∧ True
noncomputable def f_Paths_firstNearer (x1 : Int32) (x2 : Int32) (steps : Nat → Int32) (upSet : Int32) (links : Nat → Int32) : Int32 := (exB 0 (forX (b_Paths_firstNearer_1 ((steps ((x1 * (8 : Int32)) + x2).toNatClampNeg) - (1 : Int32)) (f_Mesh_neighbours x1 upSet links) steps x2) 0 9 ()))
def P_Paths_firstNearer (x1 : Int32) (x2 : Int32) (steps : Nat → Int32) (upSet : Int32) (links : Nat → Int32) : Prop := vp_in ((x1 * (8 : Int32)) + x2) 64 ∧ (P_Mesh_neighbours x1 upSet links) ∧ (∃ x, forX (b_Paths_firstNearer_1 ((steps ((x1 * (8 : Int32)) + x2).toNatClampNeg) - (1 : Int32)) (f_Mesh_neighbours x1 upSet links) steps x2) 0 9 () = .inr x) ∧ (∀ j v, j < 9 → forX (b_Paths_firstNearer_1 ((steps ((x1 * (8 : Int32)) + x2).toNatClampNeg) - (1 : Int32)) (f_Mesh_neighbours x1 upSet links) steps x2) 0 j () = .inl v → P_Paths_firstNearer_1 ((steps ((x1 * (8 : Int32)) + x2).toNatClampNeg) - (1 : Int32)) (f_Mesh_neighbours x1 upSet links) steps x2 (0 + j) v) ∧ True
set_option maxRecDepth 8000 in
set_option maxHeartbeats 4000000 in
theorem e_Paths_firstNearer_4 (σ : Sg) (md : AW) (x1 x2 : Int32) (hP : P_Paths_firstNearer x1 x2 (σ.1 8) (σ.2 1) (σ.1 3))  : Ev none 15 (0, [some (vR 4), some (vI x1), some (vI x2), none, none, none], [], wd σ md, (0, 0)) (some (f_Paths_firstNearer x1 x2 (σ.1 8) (σ.2 1) (σ.1 3)), wd σ md) := by
  suffices hh : ∀ (r : Option Int32 × AW) (K : (Int32) → Prop), K = (fun o : Int32 => (some o, wd σ md) = r) → K (exB 0 (forX (b_Paths_firstNearer_1 (((σ.1 8) ((x1 * (8 : Int32)) + x2).toNatClampNeg) - (1 : Int32)) (f_Mesh_neighbours x1 (σ.2 1) (σ.1 3)) (σ.1 8) x2) 0 9 ())) → Ev none 15 (0, [some (vR 4), some (vI x1), some (vI x2), none, none, none], [], wd σ md, (0, 0)) r from hh _ _ rfl rfl
  intro r K hK k
  refine Ev.go (st' := (19, [some (vR 4), some (vI x1), some (vI x2), some (vI (((σ.1 8) ((x1 * (8 : Int32)) + x2).toNatClampNeg) - (1 : Int32))), none, none], [vI x1, vR 1], wd σ md, (0, 0))) 14 rfl ⟨hP.1, trivial⟩ ?_
  refine Ev.callI (a := 9) (As := [vR 1, vI x1]) [] (f_Mesh_neighbours x1 (σ.2 1) (σ.1 3)) (wd σ md) rfl (e_Mesh_neighbours_1 σ md x1 hP.2.1) ?_
  refine Ev.go (st' := (27, [some (vR 4), some (vI x1), some (vI x2), some (vI (((σ.1 8) ((x1 * (8 : Int32)) + x2).toNatClampNeg) - (1 : Int32))), some (vI (f_Mesh_neighbours x1 (σ.2 1) (σ.1 3))), some (vI (0 : Int32))], [], wd σ md, (0, 0))) 3 rfl trivial ?_
  refine Ev.wk (Lle.s (Lle.n (Lle.s (Lle.s (Lle.s (Lle.s Lle.z)))))) ?_
  refine Ev.loopB (fun c v => (27, [some (vR 4), none, some (vI x2), some (vI (((σ.1 8) ((x1 * (8 : Int32)) + x2).toNatClampNeg) - (1 : Int32))), some (vI (f_Mesh_neighbours x1 (σ.2 1) (σ.1 3))), some (vI c)], [], wd σ md, (0, 0))) (b_Paths_firstNearer_1 (((σ.1 8) ((x1 * (8 : Int32)) + x2).toNatClampNeg) - (1 : Int32)) (f_Mesh_neighbours x1 (σ.2 1) (σ.1 3)) (σ.1 8) x2) 0 9 () (c0 := (0 : Int32)) rfl 0 K hP.2.2.1 k (fun j v1 hj hv K1 hK1 k => ?_)
  · have hp1 := hP.2.2.2.1 j v1 hj hv
    have hi1 : 0 + j < 0 + 9 := by omega
    clear hj hv
    generalize 0 + j = i1 at hi1 hK1 hp1 k ⊢
    replace k : K1 (if (8 : Int32) ≤ (nI i1) then (.inr (-6 : Int32)) else (if (((σ.1 8) ((x1 * (8 : Int32)) + x2).toNatClampNeg) - (1 : Int32)) < 0 then (.inr (-6 : Int32)) else (if (f_C_has (f_Mesh_neighbours x1 (σ.2 1) (σ.1 3)) (nI i1)) = 0 then (.inl ()) else (if ((σ.1 8) (((nI i1) * (8 : Int32)) + x2).toNatClampNeg) = (((σ.1 8) ((x1 * (8 : Int32)) + x2).toNatClampNeg) - (1 : Int32)) then (.inr (nI i1)) else (.inl ()))))) := k
    show Ev none 15 (27, [some (vR 4), none, some (vI x2), some (vI (((σ.1 8) ((x1 * (8 : Int32)) + x2).toNatClampNeg) - (1 : Int32))), some (vI (f_Mesh_neighbours x1 (σ.2 1) (σ.1 3))), some (vI (nI i1))], [], wd σ md, (0, 0)) r
    refine Ev.go (st' := (if (8 : Int32) ≤ (nI i1) then 73 else 34, [some (vR 4), none, some (vI x2), some (vI (((σ.1 8) ((x1 * (8 : Int32)) + x2).toNatClampNeg) - (1 : Int32))), some (vI (f_Mesh_neighbours x1 (σ.2 1) (σ.1 3))), some (vI (nI i1))], [], wd σ md, (0, 0))) 3 rfl trivial ?_
    refine Ev.brK (K := K1) k (fun h2 k => ?_) (fun h2 k => ?_)
    · refine Ev.go (st' := (75, [some (vR 4), none, some (vI x2), some (vI (((σ.1 8) ((x1 * (8 : Int32)) + x2).toNatClampNeg) - (1 : Int32))), some (vI (f_Mesh_neighbours x1 (σ.2 1) (σ.1 3))), some (vI (nI i1))], [vI (-6 : Int32)], wd σ md, (0, 0))) 1 rfl trivial ?_
      rw [hK1] at k
      replace k : K (-6 : Int32) := k
      rw [hK] at k
      have k3 : (some (-6 : Int32), wd σ md) = r := k
      rw [← k3]
      exact Ev.ireti rfl rfl
    · refine Ev.go (st' := (if (((σ.1 8) ((x1 * (8 : Int32)) + x2).toNatClampNeg) - (1 : Int32)) < 0 then 73 else 38, [some (vR 4), none, some (vI x2), some (vI (((σ.1 8) ((x1 * (8 : Int32)) + x2).toNatClampNeg) - (1 : Int32))), some (vI (f_Mesh_neighbours x1 (σ.2 1) (σ.1 3))), some (vI (nI i1))], [], wd σ md, (0, 0))) 2 rfl trivial ?_
      refine Ev.brK (K := K1) k (fun h3 k => ?_) (fun h3 k => ?_)
      · refine Ev.go (st' := (75, [some (vR 4), none, some (vI x2), some (vI (((σ.1 8) ((x1 * (8 : Int32)) + x2).toNatClampNeg) - (1 : Int32))), some (vI (f_Mesh_neighbours x1 (σ.2 1) (σ.1 3))), some (vI (nI i1))], [vI (-6 : Int32)], wd σ md, (0, 0))) 1 rfl trivial ?_
        rw [hK1] at k
        replace k : K (-6 : Int32) := k
        rw [hK] at k
        have k3 : (some (-6 : Int32), wd σ md) = r := k
        rw [← k3]
        exact Ev.ireti rfl rfl
      · refine Ev.go (st' := (42, [some (vR 4), none, some (vI x2), some (vI (((σ.1 8) ((x1 * (8 : Int32)) + x2).toNatClampNeg) - (1 : Int32))), some (vI (f_Mesh_neighbours x1 (σ.2 1) (σ.1 3))), some (vI (nI i1))], [vI (nI i1), vI (f_Mesh_neighbours x1 (σ.2 1) (σ.1 3))], wd σ md, (0, 0))) 2 rfl trivial ?_
        refine Ev.callI (a := 6) (As := [vI (f_Mesh_neighbours x1 (σ.2 1) (σ.1 3)), vI (nI i1)]) [] (f_C_has (f_Mesh_neighbours x1 (σ.2 1) (σ.1 3)) (nI i1)) (wd σ md) rfl (e_C_has (wd σ md) (f_Mesh_neighbours x1 (σ.2 1) (σ.1 3)) (nI i1)) ?_
        refine Ev.go (st' := (if (f_C_has (f_Mesh_neighbours x1 (σ.2 1) (σ.1 3)) (nI i1)) = 0 then 67 else 48, [some (vR 4), none, some (vI x2), some (vI (((σ.1 8) ((x1 * (8 : Int32)) + x2).toNatClampNeg) - (1 : Int32))), some (vI (f_Mesh_neighbours x1 (σ.2 1) (σ.1 3))), some (vI (nI i1))], [], wd σ md, (0, 0))) 1 rfl trivial ?_
        refine Ev.brK (K := K1) k (fun h4 k => ?_) (fun h4 k => ?_)
        · refine Ev.go (st' := (27, [some (vR 4), none, some (vI x2), some (vI (((σ.1 8) ((x1 * (8 : Int32)) + x2).toNatClampNeg) - (1 : Int32))), some (vI (f_Mesh_neighbours x1 (σ.2 1) (σ.1 3))), some (vI ((nI i1) + (1 : Int32)))], [], wd σ md, (0, 0))) 2 rfl trivial ?_
          rw [hK1] at k
          exact Ev.wk (Lle.s (Lle.n (Lle.s (Lle.s (Lle.s (Lle.s Lle.z)))))) (show Ev none 15 (27, [some (vR 4), none, some (vI x2), some (vI (((σ.1 8) ((x1 * (8 : Int32)) + x2).toNatClampNeg) - (1 : Int32))), some (vI (f_Mesh_neighbours x1 (σ.2 1) (σ.1 3))), some (vI ((nI i1) + (1 : Int32)))], [], wd σ md, (0, 0)) r from k)
        · refine Ev.go (st' := (if ((σ.1 8) (((nI i1) * (8 : Int32)) + x2).toNatClampNeg) = (((σ.1 8) ((x1 * (8 : Int32)) + x2).toNatClampNeg) - (1 : Int32)) then 64 else 67, [some (vR 4), none, some (vI x2), some (vI (((σ.1 8) ((x1 * (8 : Int32)) + x2).toNatClampNeg) - (1 : Int32))), some (vI (f_Mesh_neighbours x1 (σ.2 1) (σ.1 3))), some (vI (nI i1))], [], wd σ md, (0, 0))) 10 rfl ⟨(((hp1.1.2 h2).1.2 h3).1.2 h4).1, trivial⟩ ?_
          refine Ev.brK (K := K1) k (fun h5 k => ?_) (fun h5 k => ?_)
          · refine Ev.go (st' := (66, [some (vR 4), none, some (vI x2), some (vI (((σ.1 8) ((x1 * (8 : Int32)) + x2).toNatClampNeg) - (1 : Int32))), some (vI (f_Mesh_neighbours x1 (σ.2 1) (σ.1 3))), some (vI (nI i1))], [vI (nI i1)], wd σ md, (0, 0))) 1 rfl trivial ?_
            rw [hK1] at k
            replace k : K (nI i1) := k
            rw [hK] at k
            have k3 : (some (nI i1), wd σ md) = r := k
            rw [← k3]
            exact Ev.ireti rfl rfl
          · refine Ev.go (st' := (27, [some (vR 4), none, some (vI x2), some (vI (((σ.1 8) ((x1 * (8 : Int32)) + x2).toNatClampNeg) - (1 : Int32))), some (vI (f_Mesh_neighbours x1 (σ.2 1) (σ.1 3))), some (vI ((nI i1) + (1 : Int32)))], [], wd σ md, (0, 0))) 2 rfl trivial ?_
            rw [hK1] at k
            exact Ev.wk (Lle.s (Lle.n (Lle.s (Lle.s (Lle.s (Lle.s Lle.z)))))) (show Ev none 15 (27, [some (vR 4), none, some (vI x2), some (vI (((σ.1 8) ((x1 * (8 : Int32)) + x2).toNatClampNeg) - (1 : Int32))), some (vI (f_Mesh_neighbours x1 (σ.2 1) (σ.1 3))), some (vI ((nI i1) + (1 : Int32)))], [], wd σ md, (0, 0)) r from k)

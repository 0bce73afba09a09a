/-! OF MeshNames$Mesh.isTaken(I)Z -/
noncomputable def b_Mesh_isTaken_1 (upSet : Int32) (names : Nat → Int32) (p1 : Int32) (j : Nat) (v : Unit) : (Unit) ⊕ (Int32) := (if (8 : Int32) ≤ (nI j) then (.inr (0 : Int32)) else (if (f_Mesh_isUp (nI j) upSet) = 0 then (.inl ()) else (if (names (nI j).toNatClampNeg) = p1 then (.inr (1 : Int32)) else (.inl ()))))
def P_Mesh_isTaken_1 (upSet : Int32) (names : Nat → Int32) (p1 : Int32) (j : Nat) (v : Unit) : Prop := (((8 : Int32) ≤ (nI j) → True) ∧ (¬ ((8 : Int32) ≤ (nI j)) → ((((f_Mesh_isUp (nI j) upSet) = 0 → True) ∧ (¬ ((f_Mesh_isUp (nI j) upSet) = 0) → (vp_in (nI j) 8 ∧ True))) ∧ True))) ∧ True
noncomputable def f_Mesh_isTaken (x1 : Int32) (upSet : Int32) (names : Nat → Int32) : Int32 := (exB 0 (forX (b_Mesh_isTaken_1 upSet names x1) 0 9 ()))
def P_Mesh_isTaken (x1 : Int32) (upSet : Int32) (names : Nat → Int32) : Prop := (∃ x, forX (b_Mesh_isTaken_1 upSet names x1) 0 9 () = .inr x) ∧ (∀ j v, j < 9 → forX (b_Mesh_isTaken_1 upSet names x1) 0 j () = .inl v → P_Mesh_isTaken_1 upSet names x1 (0 + j) v) ∧ True
set_option maxRecDepth 8000 in
set_option maxHeartbeats 4000000 in
theorem e_Mesh_isTaken_1 (σ : Sg) (md : AW) (x1 : Int32) (hP : P_Mesh_isTaken x1 (σ.2 1) (σ.1 2))  : Ev none 21 (0, [some (vR 1), some (vI x1), none], [], wd σ md, (0, 0)) (some (f_Mesh_isTaken x1 (σ.2 1) (σ.1 2)), wd σ md) := by
  suffices hh : ∀ (r : Option Int32 × AW) (K : (Int32) → Prop), K = (fun o : Int32 => (some o, wd σ md) = r) → K (exB 0 (forX (b_Mesh_isTaken_1 (σ.2 1) (σ.1 2) x1) 0 9 ())) → Ev none 21 (0, [some (vR 1), some (vI x1), none], [], wd σ md, (0, 0)) r from hh _ _ rfl rfl
  intro r K hK k
  refine Ev.go (st' := (2, [some (vR 1), some (vI x1), some (vI (0 : Int32))], [], wd σ md, (0, 0))) 2 rfl trivial ?_
  refine Ev.wk (Lle.s (Lle.s (Lle.s Lle.z))) ?_
  refine Ev.loopB (fun c v => (2, [some (vR 1), some (vI x1), some (vI c)], [], wd σ md, (0, 0))) (b_Mesh_isTaken_1 (σ.2 1) (σ.1 2) x1) 0 9 () (c0 := (0 : Int32)) rfl 0 K hP.1 k (fun j v1 hj hv K1 hK1 k => ?_)
  · have hp1 := hP.2.1 j v1 hj hv
    have hi1 : 0 + j < 0 + 9 := by omega
    clear hj hv
    generalize 0 + j = i1 at hi1 hK1 hp1 k ⊢
    replace k : K1 (if (8 : Int32) ≤ (nI i1) then (.inr (0 : Int32)) else (if (f_Mesh_isUp (nI i1) (σ.2 1)) = 0 then (.inl ()) else (if ((σ.1 2) (nI i1).toNatClampNeg) = x1 then (.inr (1 : Int32)) else (.inl ())))) := k
    show Ev none 21 (2, [some (vR 1), some (vI x1), some (vI (nI i1))], [], wd σ md, (0, 0)) r
    refine Ev.go (st' := (if (8 : Int32) ≤ (nI i1) then 34 else 8, [some (vR 1), some (vI x1), some (vI (nI i1))], [], wd σ md, (0, 0))) 3 rfl trivial ?_
    refine Ev.brK (K := K1) k (fun h2 k => ?_) (fun h2 k => ?_)
    · refine Ev.go (st' := (35, [some (vR 1), some (vI x1), some (vI (nI i1))], [vI (0 : Int32)], wd σ md, (0, 0))) 1 rfl trivial ?_
      rw [hK1] at k
      replace k : K (0 : Int32) := k
      rw [hK] at k
      have k3 : (some (0 : Int32), wd σ md) = r := k
      rw [← k3]
      exact Ev.iretz rfl rfl (by rfl)
    · refine Ev.go (st' := (10, [some (vR 1), some (vI x1), some (vI (nI i1))], [vI (nI i1), vR 1], wd σ md, (0, 0))) 2 rfl trivial ?_
      refine Ev.callI (a := 8) (As := [vR 1, vI (nI i1)]) [] (f_Mesh_isUp (nI i1) (σ.2 1)) (wd σ md) rfl (e_Mesh_isUp_1 σ md (nI i1)) ?_
      refine Ev.go (st' := (if (f_Mesh_isUp (nI i1) (σ.2 1)) = 0 then 28 else 16, [some (vR 1), some (vI x1), some (vI (nI i1))], [], wd σ md, (0, 0))) 1 rfl trivial ?_
      refine Ev.brK (K := K1) k (fun h3 k => ?_) (fun h3 k => ?_)
      · refine Ev.go (st' := (2, [some (vR 1), some (vI x1), some (vI ((nI i1) + (1 : Int32)))], [], wd σ md, (0, 0))) 2 rfl trivial ?_
        rw [hK1] at k
        exact Ev.wk (Lle.s (Lle.s (Lle.s Lle.z))) (show Ev none 21 (2, [some (vR 1), some (vI x1), some (vI ((nI i1) + (1 : Int32)))], [], wd σ md, (0, 0)) r from k)
      · refine Ev.go (st' := (if ((σ.1 2) (nI i1).toNatClampNeg) = x1 then 26 else 28, [some (vR 1), some (vI x1), some (vI (nI i1))], [], wd σ md, (0, 0))) 6 rfl ⟨((hp1.1.2 h2).1.2 h3).1, trivial⟩ ?_
        refine Ev.brK (K := K1) k (fun h4 k => ?_) (fun h4 k => ?_)
        · refine Ev.go (st' := (27, [some (vR 1), some (vI x1), some (vI (nI i1))], [vI (1 : Int32)], wd σ md, (0, 0))) 1 rfl trivial ?_
          rw [hK1] at k
          replace k : K (1 : Int32) := k
          rw [hK] at k
          have k3 : (some (1 : Int32), wd σ md) = r := k
          rw [← k3]
          exact Ev.iretz rfl rfl (by rfl)
        · refine Ev.go (st' := (2, [some (vR 1), some (vI x1), some (vI ((nI i1) + (1 : Int32)))], [], wd σ md, (0, 0))) 2 rfl trivial ?_
          rw [hK1] at k
          exact Ev.wk (Lle.s (Lle.s (Lle.s Lle.z))) (show Ev none 21 (2, [some (vR 1), some (vI x1), some (vI ((nI i1) + (1 : Int32)))], [], wd σ md, (0, 0)) r from k)

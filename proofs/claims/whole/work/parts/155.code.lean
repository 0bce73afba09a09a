/-! OF MeshNamesModel.size(I)I -/
noncomputable def b_M_size_1 (p1 : Int32) (j : Nat) (v : Int32) : Int32 := (v + ((p1 >>> ((nI j) &&& 31)) &&& (1 : Int32)))
noncomputable def f_M_size (x1 : Int32) : Int32 := (forN (b_M_size_1 x1) 0 8 (0 : Int32))
set_option maxRecDepth 8000 in
set_option maxHeartbeats 4000000 in
theorem e_M_size (w : AW) (x1 : Int32)  : Ev none 62 (0, [some (vI x1), none, none], [], w, (0, 0)) (some (f_M_size x1), w) := by
  suffices hh : ∀ (r : Option Int32 × AW) (K : (Int32) → Prop), K = (fun o : Int32 => (some o, w) = r) → K (forN (b_M_size_1 x1) 0 8 (0 : Int32)) → Ev none 62 (0, [some (vI x1), none, none], [], w, (0, 0)) r from hh _ _ rfl rfl
  intro r K hK k
  refine Ev.go (st' := (4, [some (vI x1), some (vI (0 : Int32)), some (vI (0 : Int32))], [], w, (0, 0))) 4 rfl trivial ?_
  refine Ev.wk (Lle.s (Lle.s (Lle.s Lle.z))) ?_
  refine Ev.loopN (fun c v => (4, [some (vI x1), some (vI v), some (vI c)], [], w, (0, 0))) (b_M_size_1 x1) 0 8 8 (0 : Int32) (c0 := (0 : Int32)) rfl (by omega) (fun j hj k2 => ?_) ?_
  · have hi1 : 0 + j < 8 := by omega
    clear hj
    generalize forN (b_M_size_1 x1) 0 j (0 : Int32) = u1 at k2 ⊢
    generalize 0 + j = i1 at hi1 k2 ⊢
    show Ev none 62 (4, [some (vI x1), some (vI u1), some (vI (nI i1))], [], w, (0, 0)) r
    refine Ev.go (st' := (if (8 : Int32) ≤ nI i1 then 24 else 10, [some (vI x1), some (vI u1), some (vI (nI i1))], [], w, (0, 0))) 3 rfl trivial (Ev.brF (nI_ge hi1 (by decide)) ?_)
    refine Ev.go (st' := (4, [some (vI x1), some (vI (u1 + ((x1 >>> ((nI i1) &&& 31)) &&& (1 : Int32)))), some (vI ((nI i1) + (1 : Int32)))], [], w, (0, 0))) 10 rfl trivial ?_
    exact Ev.wk (Lle.s (Lle.s (Lle.s Lle.z))) (show Ev none 62 (4, [some (vI x1), some (vI (u1 + ((x1 >>> ((nI i1) &&& 31)) &&& (1 : Int32)))), some (vI ((nI i1) + (1 : Int32)))], [], w, (0, 0)) r from k2)
  · refine Ev.go (st' := (if (8 : Int32) ≤ nI 8 then 24 else 10, [some (vI x1), some (vI (forN (b_M_size_1 x1) 0 8 (0 : Int32))), some (vI (nI 8))], [], w, (0, 0))) 3 rfl trivial (Ev.brN (by decide) ?_)
    refine Ev.wk (Lle.n (Lle.s (Lle.n Lle.z))) ?_
    refine Ev.go (st' := (25, [none, some (vI (forN (b_M_size_1 x1) 0 8 (0 : Int32))), none], [vI (forN (b_M_size_1 x1) 0 8 (0 : Int32))], w, (0, 0))) 1 rfl trivial ?_
    rw [hK] at k
    have k3 : (some (forN (b_M_size_1 x1) 0 8 (0 : Int32)), w) = r := k
    rw [← k3]
    exact Ev.ireti rfl rfl

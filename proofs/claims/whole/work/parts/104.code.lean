/-! OF MeshNames$Mesh.isTaken(I)Z -/
noncomputable def b_Mesh_isTaken_1 (upSet : Int32) (names : Nat → Int32) (p1 : Int32) (j : Nat) (v : Unit) : (Unit) ⊕ (Int32) := (iF ((8 : Int32) ≤ (nI j)) (.inr (0 : Int32)) (iF ((f_Mesh_isUp (nI j) upSet) = 0) (.inl ()) (iF ((names (nI j).toNatClampNeg) = p1) (.inr (1 : Int32)) (.inl ()))))
def P_Mesh_isTaken_1 (upSet : Int32) (names : Nat → Int32) (p1 : Int32) (j : Nat) (v : Unit) : Prop := (((8 : Int32) ≤ (nI j) → True) ∧ (¬ ((8 : Int32) ≤ (nI j)) → ((((f_Mesh_isUp (nI j) upSet) = 0 → True) ∧ (¬ ((f_Mesh_isUp (nI j) upSet) = 0) → (vp_in (nI j) 8 ∧ True))) ∧ True))) ∧ True
noncomputable def f_Mesh_isTaken (x1 : Int32) (upSet : Int32) (names : Nat → Int32) : Int32 := (exB 0 (forX (b_Mesh_isTaken_1 upSet names x1) 0 9 ()))
def P_Mesh_isTaken (x1 : Int32) (upSet : Int32) (names : Nat → Int32) : Prop := (∃ u, forX (b_Mesh_isTaken_1 upSet names x1) 0 9 () = .inr u) ∧ (∀ q u, q < 9 → forX (b_Mesh_isTaken_1 upSet names x1) 0 q () = .inl u → P_Mesh_isTaken_1 upSet names x1 (0 + q) u) ∧ True
set_option maxRecDepth 8000 in
set_option maxHeartbeats 4000000 in
theorem e_Mesh_isTaken_1 (a2 a3 a5 a6 a7 a8 a9 a10 a11 a13 a15 a19 a20 a21 a22 a23 a24 a25 a26 a27 a30 a31 a32 a33 a34 a35 a36 a37 a38 : Nat → Int32) (v0 v1 v2 v3 v4 v5 v6 v7 v8 v9 v10 : Int32) (md : AW) (x1 : Int32) (hP : P_Mesh_isTaken x1 v1 a2)  : Ev none 21 (0, [some (vR 1), some (vI x1), none], [], wC a2 a3 a5 a6 a7 a8 a9 a10 a11 a13 a15 a19 a20 a21 a22 a23 a24 a25 a26 a27 a30 a31 a32 a33 a34 a35 a36 a37 a38 v0 v1 v2 v3 v4 v5 v6 v7 v8 v9 v10 md, (0, 0)) (some (f_Mesh_isTaken x1 v1 a2), wC a2 a3 a5 a6 a7 a8 a9 a10 a11 a13 a15 a19 a20 a21 a22 a23 a24 a25 a26 a27 a30 a31 a32 a33 a34 a35 a36 a37 a38 v0 v1 v2 v3 v4 v5 v6 v7 v8 v9 v10 md) := by
  suffices hh : ∀ (r : Option Int32 × AW) (K : (Int32) → Prop), K = (fun o : Int32 => (some o, wC a2 a3 a5 a6 a7 a8 a9 a10 a11 a13 a15 a19 a20 a21 a22 a23 a24 a25 a26 a27 a30 a31 a32 a33 a34 a35 a36 a37 a38 v0 v1 v2 v3 v4 v5 v6 v7 v8 v9 v10 md) = r) → K (exB 0 (forX (b_Mesh_isTaken_1 v1 a2 x1) 0 9 ())) → Ev none 21 (0, [some (vR 1), some (vI x1), none], [], wC a2 a3 a5 a6 a7 a8 a9 a10 a11 a13 a15 a19 a20 a21 a22 a23 a24 a25 a26 a27 a30 a31 a32 a33 a34 a35 a36 a37 a38 v0 v1 v2 v3 v4 v5 v6 v7 v8 v9 v10 md, (0, 0)) r from hh _ _ rfl rfl
  intro r K hK k
  refine Ev.go (st' := (2, [some (vR 1), some (vI x1), some (vI (0 : Int32))], [], wC a2 a3 a5 a6 a7 a8 a9 a10 a11 a13 a15 a19 a20 a21 a22 a23 a24 a25 a26 a27 a30 a31 a32 a33 a34 a35 a36 a37 a38 v0 v1 v2 v3 v4 v5 v6 v7 v8 v9 v10 md, (0, 0))) 2 rfl trivial ?_
  refine Ev.wk (Lle.s (Lle.s (Lle.s Lle.z))) ?_
  refine Ev.loopB (fun c v => (2, [some (vR 1), some (vI x1), some (vI c)], [], wC a2 a3 a5 a6 a7 a8 a9 a10 a11 a13 a15 a19 a20 a21 a22 a23 a24 a25 a26 a27 a30 a31 a32 a33 a34 a35 a36 a37 a38 v0 v1 v2 v3 v4 v5 v6 v7 v8 v9 v10 md, (0, 0))) (b_Mesh_isTaken_1 v1 a2 x1) 0 9 () (c0 := (0 : Int32)) rfl 0 K hP.1 k (fun j u1 hj hv K1 hK1 k => ?_)
  · have hp1 := hP.2.1 j u1 hj hv
    have hi1 : 0 + j < 0 + 9 := by omega
    clear hj hv
    generalize 0 + j = i1 at hi1 hK1 hp1 k ⊢
    replace k : K1 (iF ((8 : Int32) ≤ (nI i1)) (.inr (0 : Int32)) (iF ((f_Mesh_isUp (nI i1) v1) = 0) (.inl ()) (iF ((a2 (nI i1).toNatClampNeg) = x1) (.inr (1 : Int32)) (.inl ())))) := k
    show Ev none 21 (2, [some (vR 1), some (vI x1), some (vI (nI i1))], [], wC a2 a3 a5 a6 a7 a8 a9 a10 a11 a13 a15 a19 a20 a21 a22 a23 a24 a25 a26 a27 a30 a31 a32 a33 a34 a35 a36 a37 a38 v0 v1 v2 v3 v4 v5 v6 v7 v8 v9 v10 md, (0, 0)) r
    refine Ev.go (st' := (if (8 : Int32) ≤ (nI i1) then 34 else 8, [some (vR 1), some (vI x1), some (vI (nI i1))], [], wC a2 a3 a5 a6 a7 a8 a9 a10 a11 a13 a15 a19 a20 a21 a22 a23 a24 a25 a26 a27 a30 a31 a32 a33 a34 a35 a36 a37 a38 v0 v1 v2 v3 v4 v5 v6 v7 v8 v9 v10 md, (0, 0))) 3 rfl trivial ?_
    refine Ev.brK (K := K1) k (fun h2 k => ?_) (fun h2 k => ?_)
    · refine Ev.go (st' := (35, [some (vR 1), some (vI x1), some (vI (nI i1))], [vI (0 : Int32)], wC a2 a3 a5 a6 a7 a8 a9 a10 a11 a13 a15 a19 a20 a21 a22 a23 a24 a25 a26 a27 a30 a31 a32 a33 a34 a35 a36 a37 a38 v0 v1 v2 v3 v4 v5 v6 v7 v8 v9 v10 md, (0, 0))) 1 rfl trivial ?_
      rw [hK1] at k
      replace k : K (0 : Int32) := k
      rw [hK] at k
      have k3 : (some (0 : Int32), wC a2 a3 a5 a6 a7 a8 a9 a10 a11 a13 a15 a19 a20 a21 a22 a23 a24 a25 a26 a27 a30 a31 a32 a33 a34 a35 a36 a37 a38 v0 v1 v2 v3 v4 v5 v6 v7 v8 v9 v10 md) = r := k
      rw [← k3]
      exact Ev.iretz rfl rfl (by exact rfl)
    · refine Ev.go (st' := (10, [some (vR 1), some (vI x1), some (vI (nI i1))], [vI (nI i1), vR 1], wC a2 a3 a5 a6 a7 a8 a9 a10 a11 a13 a15 a19 a20 a21 a22 a23 a24 a25 a26 a27 a30 a31 a32 a33 a34 a35 a36 a37 a38 v0 v1 v2 v3 v4 v5 v6 v7 v8 v9 v10 md, (0, 0))) 2 rfl trivial ?_
      refine Ev.callI (a := 8) (As := [vR 1, vI (nI i1)]) [] (f_Mesh_isUp (nI i1) v1) (wC a2 a3 a5 a6 a7 a8 a9 a10 a11 a13 a15 a19 a20 a21 a22 a23 a24 a25 a26 a27 a30 a31 a32 a33 a34 a35 a36 a37 a38 v0 v1 v2 v3 v4 v5 v6 v7 v8 v9 v10 md) rfl (e_Mesh_isUp_1 a2 a3 a5 a6 a7 a8 a9 a10 a11 a13 a15 a19 a20 a21 a22 a23 a24 a25 a26 a27 a30 a31 a32 a33 a34 a35 a36 a37 a38 v0 v1 v2 v3 v4 v5 v6 v7 v8 v9 v10 md (nI i1)) ?_
      refine Ev.go (st' := (if (f_Mesh_isUp (nI i1) v1) = 0 then 28 else 16, [some (vR 1), some (vI x1), some (vI (nI i1))], [], wC a2 a3 a5 a6 a7 a8 a9 a10 a11 a13 a15 a19 a20 a21 a22 a23 a24 a25 a26 a27 a30 a31 a32 a33 a34 a35 a36 a37 a38 v0 v1 v2 v3 v4 v5 v6 v7 v8 v9 v10 md, (0, 0))) 1 rfl trivial ?_
      refine Ev.brK (K := K1) k (fun h3 k => ?_) (fun h3 k => ?_)
      · refine Ev.go (st' := (2, [some (vR 1), some (vI x1), some (vI ((nI i1) + (1 : Int32)))], [], wC a2 a3 a5 a6 a7 a8 a9 a10 a11 a13 a15 a19 a20 a21 a22 a23 a24 a25 a26 a27 a30 a31 a32 a33 a34 a35 a36 a37 a38 v0 v1 v2 v3 v4 v5 v6 v7 v8 v9 v10 md, (0, 0))) 2 rfl trivial ?_
        rw [hK1] at k
        exact Ev.wk (Lle.s (Lle.s (Lle.s Lle.z))) (show Ev none 21 (2, [some (vR 1), some (vI x1), some (vI ((nI i1) + (1 : Int32)))], [], wC a2 a3 a5 a6 a7 a8 a9 a10 a11 a13 a15 a19 a20 a21 a22 a23 a24 a25 a26 a27 a30 a31 a32 a33 a34 a35 a36 a37 a38 v0 v1 v2 v3 v4 v5 v6 v7 v8 v9 v10 md, (0, 0)) r from k)
      · refine Ev.go (st' := (if (a2 (nI i1).toNatClampNeg) = x1 then 26 else 28, [some (vR 1), some (vI x1), some (vI (nI i1))], [], wC a2 a3 a5 a6 a7 a8 a9 a10 a11 a13 a15 a19 a20 a21 a22 a23 a24 a25 a26 a27 a30 a31 a32 a33 a34 a35 a36 a37 a38 v0 v1 v2 v3 v4 v5 v6 v7 v8 v9 v10 md, (0, 0))) 6 rfl ⟨((hp1.1.2 h2).1.2 h3).1, trivial⟩ ?_
        refine Ev.brK (K := K1) k (fun h4 k => ?_) (fun h4 k => ?_)
        · refine Ev.go (st' := (27, [some (vR 1), some (vI x1), some (vI (nI i1))], [vI (1 : Int32)], wC a2 a3 a5 a6 a7 a8 a9 a10 a11 a13 a15 a19 a20 a21 a22 a23 a24 a25 a26 a27 a30 a31 a32 a33 a34 a35 a36 a37 a38 v0 v1 v2 v3 v4 v5 v6 v7 v8 v9 v10 md, (0, 0))) 1 rfl trivial ?_
          rw [hK1] at k
          replace k : K (1 : Int32) := k
          rw [hK] at k
          have k3 : (some (1 : Int32), wC a2 a3 a5 a6 a7 a8 a9 a10 a11 a13 a15 a19 a20 a21 a22 a23 a24 a25 a26 a27 a30 a31 a32 a33 a34 a35 a36 a37 a38 v0 v1 v2 v3 v4 v5 v6 v7 v8 v9 v10 md) = r := k
          rw [← k3]
          exact Ev.iretz rfl rfl (by exact rfl)
        · refine Ev.go (st' := (2, [some (vR 1), some (vI x1), some (vI ((nI i1) + (1 : Int32)))], [], wC a2 a3 a5 a6 a7 a8 a9 a10 a11 a13 a15 a19 a20 a21 a22 a23 a24 a25 a26 a27 a30 a31 a32 a33 a34 a35 a36 a37 a38 v0 v1 v2 v3 v4 v5 v6 v7 v8 v9 v10 md, (0, 0))) 2 rfl trivial ?_
          rw [hK1] at k
          exact Ev.wk (Lle.s (Lle.s (Lle.s Lle.z))) (show Ev none 21 (2, [some (vR 1), some (vI x1), some (vI ((nI i1) + (1 : Int32)))], [], wC a2 a3 a5 a6 a7 a8 a9 a10 a11 a13 a15 a19 a20 a21 a22 a23 a24 a25 a26 a27 a30 a31 a32 a33 a34 a35 a36 a37 a38 v0 v1 v2 v3 v4 v5 v6 v7 v8 v9 v10 md, (0, 0)) r from k)

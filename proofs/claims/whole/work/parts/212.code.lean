/-! OF MeshNames$Paths.isLaidAlike(ILMeshNames$Paths;)Z -/
noncomputable def b_Paths_isLaidAlike_1 (lengths1 : Nat → Int32) (p1 : Int32) (rows1 : Nat → Int32) (lengths2 : Nat → Int32) (rows2 : Nat → Int32) (j : Nat) (v : Unit) : (Unit) ⊕ (Int32) := (iF ((lengths1 p1.toNatClampNeg) ≤ (nI j)) (.inr (1 : Int32)) (iF ((f_Paths_nodeAt p1 (nI j) lengths1 rows1) = (f_Paths_nodeAt p1 (nI j) lengths2 rows2)) (.inl ()) (.inr (0 : Int32))))
def P_Paths_isLaidAlike_1 (lengths1 : Nat → Int32) (p1 : Int32) (rows1 : Nat → Int32) (lengths2 : Nat → Int32) (rows2 : Nat → Int32) (j : Nat) (v : Unit) : Prop := vp_in p1 8 ∧ (((lengths1 p1.toNatClampNeg) ≤ (nI j) → True) ∧ (¬ ((lengths1 p1.toNatClampNeg) ≤ (nI j)) → ((P_Paths_nodeAt p1 (nI j) lengths1 rows1) ∧ (P_Paths_nodeAt p1 (nI j) lengths2 rows2) ∧ True))) ∧ True
noncomputable def f_Paths_isLaidAlike (x1 : Int32) (lengths1 : Nat → Int32) (lengths2 : Nat → Int32) (rows1 : Nat → Int32) (rows2 : Nat → Int32) : Int32 := (iF ((lengths1 x1.toNatClampNeg) = (lengths2 x1.toNatClampNeg)) (exB 0 (forX (b_Paths_isLaidAlike_1 lengths1 x1 rows1 lengths2 rows2) 0 9 ())) (0 : Int32))
def P_Paths_isLaidAlike (x1 : Int32) (lengths1 : Nat → Int32) (lengths2 : Nat → Int32) (rows1 : Nat → Int32) (rows2 : Nat → Int32) : Prop := vp_in x1 8 ∧ vp_in x1 8 ∧ (((lengths1 x1.toNatClampNeg) = (lengths2 x1.toNatClampNeg) → ((∃ u, forX (b_Paths_isLaidAlike_1 lengths1 x1 rows1 lengths2 rows2) 0 9 () = .inr u) ∧ (∀ q u, q < 9 → forX (b_Paths_isLaidAlike_1 lengths1 x1 rows1 lengths2 rows2) 0 q () = .inl u → P_Paths_isLaidAlike_1 lengths1 x1 rows1 lengths2 rows2 (0 + q) u) ∧ True)) ∧ (¬ ((lengths1 x1.toNatClampNeg) = (lengths2 x1.toNatClampNeg)) → True)) ∧ True
set_option maxRecDepth 8000 in
set_option maxHeartbeats 4000000 in
theorem e_Paths_isLaidAlike_4_17 (a2 a3 a5 a6 a7 a8 a9 a10 a11 a13 a15 a19 a20 a21 a22 a23 a24 a25 a26 a27 a30 a31 a32 a33 a34 a35 a36 a37 a38 : Nat → Int32) (v0 v1 v2 v3 v4 v5 v6 v7 v8 v9 v10 : Int32) (md : AW) (x1 : Int32) (hP : P_Paths_isLaidAlike x1 a9 a25 a10 a26)  : Ev none 118 (0, [some (vR 4), some (vI x1), some (vR 17), none], [], wC a2 a3 a5 a6 a7 a8 a9 a10 a11 a13 a15 a19 a20 a21 a22 a23 a24 a25 a26 a27 a30 a31 a32 a33 a34 a35 a36 a37 a38 v0 v1 v2 v3 v4 v5 v6 v7 v8 v9 v10 md, (0, 0)) (some (f_Paths_isLaidAlike x1 a9 a25 a10 a26), wC a2 a3 a5 a6 a7 a8 a9 a10 a11 a13 a15 a19 a20 a21 a22 a23 a24 a25 a26 a27 a30 a31 a32 a33 a34 a35 a36 a37 a38 v0 v1 v2 v3 v4 v5 v6 v7 v8 v9 v10 md) := by
  suffices hh : ∀ (r : Option Int32 × AW) (K : (Int32) → Prop), K = (fun o : Int32 => (some o, wC a2 a3 a5 a6 a7 a8 a9 a10 a11 a13 a15 a19 a20 a21 a22 a23 a24 a25 a26 a27 a30 a31 a32 a33 a34 a35 a36 a37 a38 v0 v1 v2 v3 v4 v5 v6 v7 v8 v9 v10 md) = r) → K (iF ((a9 x1.toNatClampNeg) = (a25 x1.toNatClampNeg)) (exB 0 (forX (b_Paths_isLaidAlike_1 a9 x1 a10 a25 a26) 0 9 ())) (0 : Int32)) → Ev none 118 (0, [some (vR 4), some (vI x1), some (vR 17), none], [], wC a2 a3 a5 a6 a7 a8 a9 a10 a11 a13 a15 a19 a20 a21 a22 a23 a24 a25 a26 a27 a30 a31 a32 a33 a34 a35 a36 a37 a38 v0 v1 v2 v3 v4 v5 v6 v7 v8 v9 v10 md, (0, 0)) r from hh _ _ rfl rfl
  intro r K hK k
  refine Ev.go (st' := (if (a9 x1.toNatClampNeg) = (a25 x1.toNatClampNeg) then 17 else 15, [some (vR 4), some (vI x1), some (vR 17), none], [], wC a2 a3 a5 a6 a7 a8 a9 a10 a11 a13 a15 a19 a20 a21 a22 a23 a24 a25 a26 a27 a30 a31 a32 a33 a34 a35 a36 a37 a38 v0 v1 v2 v3 v4 v5 v6 v7 v8 v9 v10 md, (0, 0))) 9 rfl ⟨hP.1, hP.2.1, trivial⟩ ?_
  refine Ev.brK (K := K) k (fun h1 k => ?_) (fun h1 k => ?_)
  · refine Ev.go (st' := (19, [some (vR 4), some (vI x1), some (vR 17), some (vI (0 : Int32))], [], wC a2 a3 a5 a6 a7 a8 a9 a10 a11 a13 a15 a19 a20 a21 a22 a23 a24 a25 a26 a27 a30 a31 a32 a33 a34 a35 a36 a37 a38 v0 v1 v2 v3 v4 v5 v6 v7 v8 v9 v10 md, (0, 0))) 2 rfl trivial ?_
    refine Ev.wk (Lle.s (Lle.s (Lle.s (Lle.s Lle.z)))) ?_
    refine Ev.loopB (fun c v => (19, [some (vR 4), some (vI x1), some (vR 17), some (vI c)], [], wC a2 a3 a5 a6 a7 a8 a9 a10 a11 a13 a15 a19 a20 a21 a22 a23 a24 a25 a26 a27 a30 a31 a32 a33 a34 a35 a36 a37 a38 v0 v1 v2 v3 v4 v5 v6 v7 v8 v9 v10 md, (0, 0))) (b_Paths_isLaidAlike_1 a9 x1 a10 a25 a26) 0 9 () (c0 := (0 : Int32)) rfl 0 K (hP.2.2.1.1 h1).1 k (fun j u2 hj hv K2 hK2 k => ?_)
    · have hp2 := (hP.2.2.1.1 h1).2.1 j u2 hj hv
      have hi2 : 0 + j < 0 + 9 := by omega
      clear hj hv
      generalize 0 + j = i2 at hi2 hK2 hp2 k ⊢
      replace k : K2 (iF ((a9 x1.toNatClampNeg) ≤ (nI i2)) (.inr (1 : Int32)) (iF ((f_Paths_nodeAt x1 (nI i2) a9 a10) = (f_Paths_nodeAt x1 (nI i2) a25 a26)) (.inl ()) (.inr (0 : Int32)))) := k
      show Ev none 118 (19, [some (vR 4), some (vI x1), some (vR 17), some (vI (nI i2))], [], wC a2 a3 a5 a6 a7 a8 a9 a10 a11 a13 a15 a19 a20 a21 a22 a23 a24 a25 a26 a27 a30 a31 a32 a33 a34 a35 a36 a37 a38 v0 v1 v2 v3 v4 v5 v6 v7 v8 v9 v10 md, (0, 0)) r
      refine Ev.go (st' := (if (a9 x1.toNatClampNeg) ≤ (nI i2) then 52 else 29, [some (vR 4), some (vI x1), some (vR 17), some (vI (nI i2))], [], wC a2 a3 a5 a6 a7 a8 a9 a10 a11 a13 a15 a19 a20 a21 a22 a23 a24 a25 a26 a27 a30 a31 a32 a33 a34 a35 a36 a37 a38 v0 v1 v2 v3 v4 v5 v6 v7 v8 v9 v10 md, (0, 0))) 6 rfl ⟨hp2.1, trivial⟩ ?_
      refine Ev.brK (K := K2) k (fun h3 k => ?_) (fun h3 k => ?_)
      · refine Ev.go (st' := (53, [some (vR 4), some (vI x1), some (vR 17), some (vI (nI i2))], [vI (1 : Int32)], wC a2 a3 a5 a6 a7 a8 a9 a10 a11 a13 a15 a19 a20 a21 a22 a23 a24 a25 a26 a27 a30 a31 a32 a33 a34 a35 a36 a37 a38 v0 v1 v2 v3 v4 v5 v6 v7 v8 v9 v10 md, (0, 0))) 1 rfl trivial ?_
        rw [hK2] at k
        replace k : K (1 : Int32) := k
        rw [hK] at k
        have k3 : (some (1 : Int32), wC a2 a3 a5 a6 a7 a8 a9 a10 a11 a13 a15 a19 a20 a21 a22 a23 a24 a25 a26 a27 a30 a31 a32 a33 a34 a35 a36 a37 a38 v0 v1 v2 v3 v4 v5 v6 v7 v8 v9 v10 md) = r := k
        rw [← k3]
        exact Ev.iretz rfl rfl (by exact rfl)
      · refine Ev.go (st' := (32, [some (vR 4), some (vI x1), some (vR 17), some (vI (nI i2))], [vI (nI i2), vI x1, vR 4], wC a2 a3 a5 a6 a7 a8 a9 a10 a11 a13 a15 a19 a20 a21 a22 a23 a24 a25 a26 a27 a30 a31 a32 a33 a34 a35 a36 a37 a38 v0 v1 v2 v3 v4 v5 v6 v7 v8 v9 v10 md, (0, 0))) 3 rfl trivial ?_
        refine Ev.callI (a := 65) (As := [vR 4, vI x1, vI (nI i2)]) [] (f_Paths_nodeAt x1 (nI i2) a9 a10) (wC a2 a3 a5 a6 a7 a8 a9 a10 a11 a13 a15 a19 a20 a21 a22 a23 a24 a25 a26 a27 a30 a31 a32 a33 a34 a35 a36 a37 a38 v0 v1 v2 v3 v4 v5 v6 v7 v8 v9 v10 md) rfl (e_Paths_nodeAt_4 a2 a3 a5 a6 a7 a8 a9 a10 a11 a13 a15 a19 a20 a21 a22 a23 a24 a25 a26 a27 a30 a31 a32 a33 a34 a35 a36 a37 a38 v0 v1 v2 v3 v4 v5 v6 v7 v8 v9 v10 md x1 (nI i2) (hp2.2.1.2 h3).1) ?_
        refine Ev.go (st' := (38, [some (vR 4), some (vI x1), some (vR 17), some (vI (nI i2))], [vI (nI i2), vI x1, vR 17, vI (f_Paths_nodeAt x1 (nI i2) a9 a10)], wC a2 a3 a5 a6 a7 a8 a9 a10 a11 a13 a15 a19 a20 a21 a22 a23 a24 a25 a26 a27 a30 a31 a32 a33 a34 a35 a36 a37 a38 v0 v1 v2 v3 v4 v5 v6 v7 v8 v9 v10 md, (0, 0))) 3 rfl trivial ?_
        refine Ev.callI (a := 65) (As := [vR 17, vI x1, vI (nI i2)]) [vI (f_Paths_nodeAt x1 (nI i2) a9 a10)] (f_Paths_nodeAt x1 (nI i2) a25 a26) (wC a2 a3 a5 a6 a7 a8 a9 a10 a11 a13 a15 a19 a20 a21 a22 a23 a24 a25 a26 a27 a30 a31 a32 a33 a34 a35 a36 a37 a38 v0 v1 v2 v3 v4 v5 v6 v7 v8 v9 v10 md) rfl (e_Paths_nodeAt_17 a2 a3 a5 a6 a7 a8 a9 a10 a11 a13 a15 a19 a20 a21 a22 a23 a24 a25 a26 a27 a30 a31 a32 a33 a34 a35 a36 a37 a38 v0 v1 v2 v3 v4 v5 v6 v7 v8 v9 v10 md x1 (nI i2) (hp2.2.1.2 h3).2.1) ?_
        refine Ev.go (st' := (if (f_Paths_nodeAt x1 (nI i2) a9 a10) = (f_Paths_nodeAt x1 (nI i2) a25 a26) then 46 else 44, [some (vR 4), some (vI x1), some (vR 17), some (vI (nI i2))], [], wC a2 a3 a5 a6 a7 a8 a9 a10 a11 a13 a15 a19 a20 a21 a22 a23 a24 a25 a26 a27 a30 a31 a32 a33 a34 a35 a36 a37 a38 v0 v1 v2 v3 v4 v5 v6 v7 v8 v9 v10 md, (0, 0))) 1 rfl trivial ?_
        refine Ev.brK (K := K2) k (fun h4 k => ?_) (fun h4 k => ?_)
        · refine Ev.go (st' := (19, [some (vR 4), some (vI x1), some (vR 17), some (vI ((nI i2) + (1 : Int32)))], [], wC a2 a3 a5 a6 a7 a8 a9 a10 a11 a13 a15 a19 a20 a21 a22 a23 a24 a25 a26 a27 a30 a31 a32 a33 a34 a35 a36 a37 a38 v0 v1 v2 v3 v4 v5 v6 v7 v8 v9 v10 md, (0, 0))) 2 rfl trivial ?_
          rw [hK2] at k
          exact Ev.wk (Lle.s (Lle.s (Lle.s (Lle.s Lle.z)))) (show Ev none 118 (19, [some (vR 4), some (vI x1), some (vR 17), some (vI ((nI i2) + (1 : Int32)))], [], wC a2 a3 a5 a6 a7 a8 a9 a10 a11 a13 a15 a19 a20 a21 a22 a23 a24 a25 a26 a27 a30 a31 a32 a33 a34 a35 a36 a37 a38 v0 v1 v2 v3 v4 v5 v6 v7 v8 v9 v10 md, (0, 0)) r from k)
        · refine Ev.go (st' := (45, [some (vR 4), some (vI x1), some (vR 17), some (vI (nI i2))], [vI (0 : Int32)], wC a2 a3 a5 a6 a7 a8 a9 a10 a11 a13 a15 a19 a20 a21 a22 a23 a24 a25 a26 a27 a30 a31 a32 a33 a34 a35 a36 a37 a38 v0 v1 v2 v3 v4 v5 v6 v7 v8 v9 v10 md, (0, 0))) 1 rfl trivial ?_
          rw [hK2] at k
          replace k : K (0 : Int32) := k
          rw [hK] at k
          have k3 : (some (0 : Int32), wC a2 a3 a5 a6 a7 a8 a9 a10 a11 a13 a15 a19 a20 a21 a22 a23 a24 a25 a26 a27 a30 a31 a32 a33 a34 a35 a36 a37 a38 v0 v1 v2 v3 v4 v5 v6 v7 v8 v9 v10 md) = r := k
          rw [← k3]
          exact Ev.iretz rfl rfl (by exact rfl)
  · refine Ev.go (st' := (16, [some (vR 4), some (vI x1), some (vR 17), none], [vI (0 : Int32)], wC a2 a3 a5 a6 a7 a8 a9 a10 a11 a13 a15 a19 a20 a21 a22 a23 a24 a25 a26 a27 a30 a31 a32 a33 a34 a35 a36 a37 a38 v0 v1 v2 v3 v4 v5 v6 v7 v8 v9 v10 md, (0, 0))) 1 rfl trivial ?_
    rw [hK] at k
    have k3 : (some (0 : Int32), wC a2 a3 a5 a6 a7 a8 a9 a10 a11 a13 a15 a19 a20 a21 a22 a23 a24 a25 a26 a27 a30 a31 a32 a33 a34 a35 a36 a37 a38 v0 v1 v2 v3 v4 v5 v6 v7 v8 v9 v10 md) = r := k
    rw [← k3]
    exact Ev.iretz rfl rfl (by exact rfl)

/-! OF MeshNames.changed(I)I -/
noncomputable def f_C_changed (x1 : Int32) (keptImages : Int32) (upSet : Int32) (lengths1 : Nat → Int32) (lengths2 : Nat → Int32) (rows1 : Nat → Int32) (rows2 : Nat → Int32) (lengths3 : Nat → Int32) (rows3 : Nat → Int32) : Int32 := (iF ((f_C_refuseImage x1 keptImages) = 0) (iF (x1 = (0 : Int32)) (f_Paths_countUnlike upSet lengths1 lengths2 rows1 rows2) (f_Paths_countUnlike upSet lengths1 lengths3 rows1 rows3)) (f_C_refuseImage x1 keptImages))
def P_C_changed (x1 : Int32) (keptImages : Int32) (upSet : Int32) (lengths1 : Nat → Int32) (lengths2 : Nat → Int32) (rows1 : Nat → Int32) (rows2 : Nat → Int32) (lengths3 : Nat → Int32) (rows3 : Nat → Int32) : Prop := (((f_C_refuseImage x1 keptImages) = 0 → ((x1 = (0 : Int32) ∨ x1 = (1 : Int32)) ∧ ((x1 = (0 : Int32) → ((P_Paths_countUnlike upSet lengths1 lengths2 rows1 rows2) ∧ True)) ∧ (¬ (x1 = (0 : Int32)) → ((P_Paths_countUnlike upSet lengths1 lengths3 rows1 rows3) ∧ True))) ∧ True)) ∧ (¬ ((f_C_refuseImage x1 keptImages) = 0) → True)) ∧ True
set_option maxRecDepth 8000 in
set_option maxHeartbeats 4000000 in
theorem e_C_changed_0 (a2 a3 a5 a6 a7 a8 a9 a10 a11 a13 a15 a19 a20 a21 a22 a23 a24 a25 a26 a27 a30 a31 a32 a33 a34 a35 a36 a37 a38 : Nat → Int32) (v0 v1 v2 v3 v4 v5 v6 v7 v8 v9 v10 : Int32) (md : AW) (x1 : Int32) (hP : P_C_changed x1 v0 v1 a9 a25 a10 a26 a36 a37)  : Ev none 120 (0, [some (vR 0), some (vI x1), none], [], wC a2 a3 a5 a6 a7 a8 a9 a10 a11 a13 a15 a19 a20 a21 a22 a23 a24 a25 a26 a27 a30 a31 a32 a33 a34 a35 a36 a37 a38 v0 v1 v2 v3 v4 v5 v6 v7 v8 v9 v10 md, (0, 0)) (some (f_C_changed x1 v0 v1 a9 a25 a10 a26 a36 a37), wC a2 a3 a5 a6 a7 a8 a9 a10 a11 a13 a15 a19 a20 a21 a22 a23 a24 a25 a26 a27 a30 a31 a32 a33 a34 a35 a36 a37 a38 v0 v1 v2 v3 v4 v5 v6 v7 v8 v9 v10 md) := by
  suffices hh : ∀ (r : Option Int32 × AW) (K : (Int32) → Prop), K = (fun o : Int32 => (some o, wC a2 a3 a5 a6 a7 a8 a9 a10 a11 a13 a15 a19 a20 a21 a22 a23 a24 a25 a26 a27 a30 a31 a32 a33 a34 a35 a36 a37 a38 v0 v1 v2 v3 v4 v5 v6 v7 v8 v9 v10 md) = r) → K (iF ((f_C_refuseImage x1 v0) = 0) (iF (x1 = (0 : Int32)) (f_Paths_countUnlike v1 a9 a25 a10 a26) (f_Paths_countUnlike v1 a9 a36 a10 a37)) (f_C_refuseImage x1 v0)) → Ev none 120 (0, [some (vR 0), some (vI x1), none], [], wC a2 a3 a5 a6 a7 a8 a9 a10 a11 a13 a15 a19 a20 a21 a22 a23 a24 a25 a26 a27 a30 a31 a32 a33 a34 a35 a36 a37 a38 v0 v1 v2 v3 v4 v5 v6 v7 v8 v9 v10 md, (0, 0)) r from hh _ _ rfl rfl
  intro r K hK k
  refine Ev.go (st' := (2, [some (vR 0), some (vI x1), none], [vI x1, vR 0], wC a2 a3 a5 a6 a7 a8 a9 a10 a11 a13 a15 a19 a20 a21 a22 a23 a24 a25 a26 a27 a30 a31 a32 a33 a34 a35 a36 a37 a38 v0 v1 v2 v3 v4 v5 v6 v7 v8 v9 v10 md, (0, 0))) 2 rfl trivial ?_
  refine Ev.callI (a := 117) (As := [vR 0, vI x1]) [] (f_C_refuseImage x1 v0) (wC a2 a3 a5 a6 a7 a8 a9 a10 a11 a13 a15 a19 a20 a21 a22 a23 a24 a25 a26 a27 a30 a31 a32 a33 a34 a35 a36 a37 a38 v0 v1 v2 v3 v4 v5 v6 v7 v8 v9 v10 md) rfl (e_C_refuseImage_0 a2 a3 a5 a6 a7 a8 a9 a10 a11 a13 a15 a19 a20 a21 a22 a23 a24 a25 a26 a27 a30 a31 a32 a33 a34 a35 a36 a37 a38 v0 v1 v2 v3 v4 v5 v6 v7 v8 v9 v10 md x1) ?_
  refine Ev.go (st' := (if (f_C_refuseImage x1 v0) = 0 then 14 else 10, [some (vR 0), some (vI x1), some (vI (f_C_refuseImage x1 v0))], [], wC a2 a3 a5 a6 a7 a8 a9 a10 a11 a13 a15 a19 a20 a21 a22 a23 a24 a25 a26 a27 a30 a31 a32 a33 a34 a35 a36 a37 a38 v0 v1 v2 v3 v4 v5 v6 v7 v8 v9 v10 md, (0, 0))) 3 rfl trivial ?_
  refine Ev.brK (K := K) k (fun h1 k => ?_) (fun h1 k => ?_)
  · refine Ev.go (st' := (23, [some (vR 0), some (vI x1), some (vI (f_C_refuseImage x1 v0))], [vI x1, vR 16, vR 4], wC a2 a3 a5 a6 a7 a8 a9 a10 a11 a13 a15 a19 a20 a21 a22 a23 a24 a25 a26 a27 a30 a31 a32 a33 a34 a35 a36 a37 a38 v0 v1 v2 v3 v4 v5 v6 v7 v8 v9 v10 md, (0, 0))) 5 rfl trivial ?_
    by_cases h2 : x1 = 0
    · rw [iF_pos h2] at k
      have hq := (hP.1.1 h1).2.1.1 h2
      have kq := k
      subst h2
      have k := kq
      refine Ev.go (st' := (24, [some (vR 0), some (vI (0 : Int32)), some (vI (f_C_refuseImage (0 : Int32) v0))], [vR 17, vR 4], wC a2 a3 a5 a6 a7 a8 a9 a10 a11 a13 a15 a19 a20 a21 a22 a23 a24 a25 a26 a27 a30 a31 a32 a33 a34 a35 a36 a37 a38 v0 v1 v2 v3 v4 v5 v6 v7 v8 v9 v10 md, (0, 0))) 1 rfl ⟨(by unfold vp_in; decide), trivial⟩ ?_
      refine Ev.callI (a := 119) (As := [vR 4, vR 17]) [] (f_Paths_countUnlike v1 a9 a25 a10 a26) (wC a2 a3 a5 a6 a7 a8 a9 a10 a11 a13 a15 a19 a20 a21 a22 a23 a24 a25 a26 a27 a30 a31 a32 a33 a34 a35 a36 a37 a38 v0 v1 v2 v3 v4 v5 v6 v7 v8 v9 v10 md) rfl (e_Paths_countUnlike_4_17 a2 a3 a5 a6 a7 a8 a9 a10 a11 a13 a15 a19 a20 a21 a22 a23 a24 a25 a26 a27 a30 a31 a32 a33 a34 a35 a36 a37 a38 v0 v1 v2 v3 v4 v5 v6 v7 v8 v9 v10 md hq.1) ?_
      rw [hK] at k
      have k3 : (some (f_Paths_countUnlike v1 a9 a25 a10 a26), wC a2 a3 a5 a6 a7 a8 a9 a10 a11 a13 a15 a19 a20 a21 a22 a23 a24 a25 a26 a27 a30 a31 a32 a33 a34 a35 a36 a37 a38 v0 v1 v2 v3 v4 v5 v6 v7 v8 v9 v10 md) = r := k
      rw [← k3]
      exact Ev.ireti rfl rfl
    · rw [iF_neg h2] at k
      have hq := (hP.1.1 h1).2.1.2 h2
      have hx1 := in_2 (hP.1.1 h1).1 h2
      clear h2
      have kq := k
      subst hx1
      have k := kq
      refine Ev.go (st' := (24, [some (vR 0), some (vI (1 : Int32)), some (vI (f_C_refuseImage (1 : Int32) v0))], [vR 28, vR 4], wC a2 a3 a5 a6 a7 a8 a9 a10 a11 a13 a15 a19 a20 a21 a22 a23 a24 a25 a26 a27 a30 a31 a32 a33 a34 a35 a36 a37 a38 v0 v1 v2 v3 v4 v5 v6 v7 v8 v9 v10 md, (0, 0))) 1 rfl ⟨(by unfold vp_in; decide), trivial⟩ ?_
      refine Ev.callI (a := 119) (As := [vR 4, vR 28]) [] (f_Paths_countUnlike v1 a9 a36 a10 a37) (wC a2 a3 a5 a6 a7 a8 a9 a10 a11 a13 a15 a19 a20 a21 a22 a23 a24 a25 a26 a27 a30 a31 a32 a33 a34 a35 a36 a37 a38 v0 v1 v2 v3 v4 v5 v6 v7 v8 v9 v10 md) rfl (e_Paths_countUnlike_4_28 a2 a3 a5 a6 a7 a8 a9 a10 a11 a13 a15 a19 a20 a21 a22 a23 a24 a25 a26 a27 a30 a31 a32 a33 a34 a35 a36 a37 a38 v0 v1 v2 v3 v4 v5 v6 v7 v8 v9 v10 md hq.1) ?_
      rw [hK] at k
      have k3 : (some (f_Paths_countUnlike v1 a9 a36 a10 a37), wC a2 a3 a5 a6 a7 a8 a9 a10 a11 a13 a15 a19 a20 a21 a22 a23 a24 a25 a26 a27 a30 a31 a32 a33 a34 a35 a36 a37 a38 v0 v1 v2 v3 v4 v5 v6 v7 v8 v9 v10 md) = r := k
      rw [← k3]
      exact Ev.ireti rfl rfl
  · refine Ev.go (st' := (27, [some (vR 0), some (vI x1), some (vI (f_C_refuseImage x1 v0))], [vI (f_C_refuseImage x1 v0)], wC a2 a3 a5 a6 a7 a8 a9 a10 a11 a13 a15 a19 a20 a21 a22 a23 a24 a25 a26 a27 a30 a31 a32 a33 a34 a35 a36 a37 a38 v0 v1 v2 v3 v4 v5 v6 v7 v8 v9 v10 md, (0, 0))) 2 rfl trivial ?_
    rw [hK] at k
    have k3 : (some (f_C_refuseImage x1 v0), wC a2 a3 a5 a6 a7 a8 a9 a10 a11 a13 a15 a19 a20 a21 a22 a23 a24 a25 a26 a27 a30 a31 a32 a33 a34 a35 a36 a37 a38 v0 v1 v2 v3 v4 v5 v6 v7 v8 v9 v10 md) = r := k
    rw [← k3]
    exact Ev.ireti rfl rfl

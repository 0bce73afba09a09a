/-! OF MeshNamesModel.nearer(II)I -/
noncomputable def b_M_nearer_1 (p1 : Int32) (state_ : Nat → Int32) (steps : Nat → Int32) (p2 : Int32) (j : Nat) (v : Int32 × Int32) : (Int32 × Int32) ⊕ (Int32 × Int32) := (iF (v.2 < 0) (.inr (v.1, v.2)) (.inl ((iF ((f_M_counts p1 v.2 state_) = 0) v.1 (iF ((steps (((8 : Int32) * v.2) + p2).toNatClampNeg) = ((steps (((8 : Int32) * p1) + p2).toNatClampNeg) - (1 : Int32))) v.2 v.1)), (v.2 + (-1 : Int32)))))
def P_M_nearer_1 (p1 : Int32) (state_ : Nat → Int32) (steps : Nat → Int32) (p2 : Int32) (j : Nat) (v : Int32 × Int32) : Prop := ((v.2 < 0 → True) ∧ (¬ (v.2 < 0) → ((P_M_counts p1 v.2 state_) ∧ (((f_M_counts p1 v.2 state_) = 0 → True) ∧ (¬ ((f_M_counts p1 v.2 state_) = 0) → (vp_in (((8 : Int32) * v.2) + p2) 64 ∧ vp_in (((8 : Int32) * p1) + p2) 64 ∧ True))) ∧ True))) ∧ True
noncomputable def f_M_nearer (x1 : Int32) (x2 : Int32) (state_ : Nat → Int32) (steps : Nat → Int32) : Int32 := (unX (forX (b_M_nearer_1 x1 state_ steps x2) 0 9 ((-6 : Int32), (7 : Int32)))).1
def P_M_nearer (x1 : Int32) (x2 : Int32) (state_ : Nat → Int32) (steps : Nat → Int32) : Prop := (∃ u, forX (b_M_nearer_1 x1 state_ steps x2) 0 9 ((-6 : Int32), (7 : Int32)) = .inr u) ∧ (∀ q u, q < 9 → forX (b_M_nearer_1 x1 state_ steps x2) 0 q ((-6 : Int32), (7 : Int32)) = .inl u → P_M_nearer_1 x1 state_ steps x2 (0 + q) u) ∧ True
set_option maxRecDepth 8000 in
set_option maxHeartbeats 4000000 in
theorem e_M_nearer_39 (κ : Sg) (a40 a41 a42 a43 a44 a45 a46 a47 a48 a49 a50 : Nat → Int32) (v11 v12 v13 v14 : Int32) (x1 x2 : Int32) (hP : P_M_nearer x1 x2 a40 a43)  : Ev none 53 (0, [some (vR 39), some (vI x1), some (vI x2), none, none], [], wd κ (mM a40 a41 a42 a43 a44 a45 a46 a47 a48 a49 a50 v11 v12 v13 v14), (0, 0)) (some (f_M_nearer x1 x2 a40 a43), wd κ (mM a40 a41 a42 a43 a44 a45 a46 a47 a48 a49 a50 v11 v12 v13 v14)) := by
  suffices hh : ∀ (r : Option Int32 × AW) (K : (Int32) → Prop), K = (fun o : Int32 => (some o, wd κ (mM a40 a41 a42 a43 a44 a45 a46 a47 a48 a49 a50 v11 v12 v13 v14)) = r) → K (unX (forX (b_M_nearer_1 x1 a40 a43 x2) 0 9 ((-6 : Int32), (7 : Int32)))).1 → Ev none 53 (0, [some (vR 39), some (vI x1), some (vI x2), none, none], [], wd κ (mM a40 a41 a42 a43 a44 a45 a46 a47 a48 a49 a50 v11 v12 v13 v14), (0, 0)) r from hh _ _ rfl rfl
  intro r K hK k
  refine Ev.go (st' := (7, [some (vR 39), some (vI x1), some (vI x2), some (vI (-6 : Int32)), some (vI (7 : Int32))], [], wd κ (mM a40 a41 a42 a43 a44 a45 a46 a47 a48 a49 a50 v11 v12 v13 v14), (0, 0))) 4 rfl trivial ?_
  refine Ev.wk (Lle.s (Lle.s (Lle.s (Lle.s (Lle.s Lle.z))))) ?_
  refine Ev.loopA (fun c v => (7, [some (vR 39), some (vI x1), some (vI x2), some (vI v.1), some (vI v.2)], [], wd κ (mM a40 a41 a42 a43 a44 a45 a46 a47 a48 a49 a50 v11 v12 v13 v14), (0, 0))) (fun v => (63, [none, none, none, some (vI v.1), none], [], wd κ (mM a40 a41 a42 a43 a44 a45 a46 a47 a48 a49 a50 v11 v12 v13 v14), (0, 0))) (b_M_nearer_1 x1 a40 a43 x2) 0 9 ((-6 : Int32), (7 : Int32)) (c0 := (0 : Int32)) rfl hP.1 (fun j u1 hj hv K1 hK1 k => ?_) ?_
  · have hp1 := hP.2.1 j u1 hj hv
    have hi1 : 0 + j < 0 + 9 := by omega
    clear hj hv
    generalize 0 + j = i1 at hi1 hK1 hp1 k ⊢
    replace k : K1 (iF (u1.2 < 0) (.inr (u1.1, u1.2)) (.inl ((iF ((f_M_counts x1 u1.2 a40) = 0) u1.1 (iF ((a43 (((8 : Int32) * u1.2) + x2).toNatClampNeg) = ((a43 (((8 : Int32) * x1) + x2).toNatClampNeg) - (1 : Int32))) u1.2 u1.1)), (u1.2 + (-1 : Int32))))) := k
    show Ev none 53 (7, [some (vR 39), some (vI x1), some (vI x2), some (vI u1.1), some (vI u1.2)], [], wd κ (mM a40 a41 a42 a43 a44 a45 a46 a47 a48 a49 a50 v11 v12 v13 v14), (0, 0)) r
    refine Ev.go (st' := (if u1.2 < 0 then 63 else 12, [some (vR 39), some (vI x1), some (vI x2), some (vI u1.1), some (vI u1.2)], [], wd κ (mM a40 a41 a42 a43 a44 a45 a46 a47 a48 a49 a50 v11 v12 v13 v14), (0, 0))) 2 rfl trivial ?_
    refine Ev.brK (K := K1) k (fun h2 k => ?_) (fun h2 k => ?_)
    · rw [hK1] at k
      exact Ev.wk (Lle.n (Lle.n (Lle.n (Lle.s (Lle.n Lle.z))))) (show Ev none 53 (63, [none, none, none, some (vI u1.1), none], [], wd κ (mM a40 a41 a42 a43 a44 a45 a46 a47 a48 a49 a50 v11 v12 v13 v14), (0, 0)) r from k)
    · refine Ev.go (st' := (16, [some (vR 39), some (vI x1), some (vI x2), some (vI u1.1), some (vI u1.2)], [vI u1.2, vI x1, vR 39], wd κ (mM a40 a41 a42 a43 a44 a45 a46 a47 a48 a49 a50 v11 v12 v13 v14), (0, 0))) 3 rfl trivial ?_
      refine Ev.callI (a := 47) (As := [vR 39, vI x1, vI u1.2]) [] (f_M_counts x1 u1.2 a40) (wd κ (mM a40 a41 a42 a43 a44 a45 a46 a47 a48 a49 a50 v11 v12 v13 v14)) rfl (e_M_counts_39 κ a40 a41 a42 a43 a44 a45 a46 a47 a48 a49 a50 v11 v12 v13 v14 x1 u1.2 (hp1.1.2 h2).1) ?_
      refine Ev.go (st' := (if (f_M_counts x1 u1.2 a40) = 0 then 55 else 22, [some (vR 39), some (vI x1), some (vI x2), some (vI u1.1), some (vI u1.2)], [], wd κ (mM a40 a41 a42 a43 a44 a45 a46 a47 a48 a49 a50 v11 v12 v13 v14), (0, 0))) 1 rfl trivial ?_
      have kJ3 : Ev none 53 (56, [some (vR 39), some (vI x1), some (vI x2), none, some (vI u1.2)], [vI (iF ((f_M_counts x1 u1.2 a40) = 0) u1.1 (iF ((a43 (((8 : Int32) * u1.2) + x2).toNatClampNeg) = ((a43 (((8 : Int32) * x1) + x2).toNatClampNeg) - (1 : Int32))) u1.2 u1.1))], wd κ (mM a40 a41 a42 a43 a44 a45 a46 a47 a48 a49 a50 v11 v12 v13 v14), (0, 0)) r := by
        refine Ev.go (st' := (7, [some (vR 39), some (vI x1), some (vI x2), some (vI (iF ((f_M_counts x1 u1.2 a40) = 0) u1.1 (iF ((a43 (((8 : Int32) * u1.2) + x2).toNatClampNeg) = ((a43 (((8 : Int32) * x1) + x2).toNatClampNeg) - (1 : Int32))) u1.2 u1.1))), some (vI (u1.2 + (-1 : Int32)))], [], wd κ (mM a40 a41 a42 a43 a44 a45 a46 a47 a48 a49 a50 v11 v12 v13 v14), (0, 0))) 3 rfl trivial ?_
        rw [hK1] at k
        exact Ev.wk (Lle.s (Lle.s (Lle.s (Lle.s (Lle.s Lle.z))))) (show Ev none 53 (7, [some (vR 39), some (vI x1), some (vI x2), some (vI (iF ((f_M_counts x1 u1.2 a40) = 0) u1.1 (iF ((a43 (((8 : Int32) * u1.2) + x2).toNatClampNeg) = ((a43 (((8 : Int32) * x1) + x2).toNatClampNeg) - (1 : Int32))) u1.2 u1.1))), some (vI (u1.2 + (-1 : Int32)))], [], wd κ (mM a40 a41 a42 a43 a44 a45 a46 a47 a48 a49 a50 v11 v12 v13 v14), (0, 0)) r from k)
      refine Ev.br (fun h3 => ?_) (fun h3 => ?_)
      · refine Ev.go (st' := (56, [some (vR 39), some (vI x1), some (vI x2), some (vI u1.1), some (vI u1.2)], [vI u1.1], wd κ (mM a40 a41 a42 a43 a44 a45 a46 a47 a48 a49 a50 v11 v12 v13 v14), (0, 0))) 1 rfl trivial ?_
        exact Ev.wk (Lle.s (Lle.s (Lle.s (Lle.n (Lle.s Lle.z))))) (Ev.to kJ3 (by simp only [iF_pos h3]))
      · refine Ev.go (st' := (if (a43 (((8 : Int32) * u1.2) + x2).toNatClampNeg) = ((a43 (((8 : Int32) * x1) + x2).toNatClampNeg) - (1 : Int32)) then 50 else 55, [some (vR 39), some (vI x1), some (vI x2), some (vI u1.1), some (vI u1.2)], [], wd κ (mM a40 a41 a42 a43 a44 a45 a46 a47 a48 a49 a50 v11 v12 v13 v14), (0, 0))) 19 rfl ⟨((hp1.1.2 h2).2.1.2 h3).1, ((hp1.1.2 h2).2.1.2 h3).2.1, trivial⟩ ?_
        have kJ4 : Ev none 53 (56, [some (vR 39), some (vI x1), some (vI x2), none, some (vI u1.2)], [vI (iF ((a43 (((8 : Int32) * u1.2) + x2).toNatClampNeg) = ((a43 (((8 : Int32) * x1) + x2).toNatClampNeg) - (1 : Int32))) u1.2 u1.1)], wd κ (mM a40 a41 a42 a43 a44 a45 a46 a47 a48 a49 a50 v11 v12 v13 v14), (0, 0)) r := by
          exact Ev.wk (Lle.s (Lle.s (Lle.s (Lle.n (Lle.s Lle.z))))) (Ev.to kJ3 (by simp only [iF_neg h3]))
        refine Ev.br (fun h4 => ?_) (fun h4 => ?_)
        · refine Ev.go (st' := (56, [some (vR 39), some (vI x1), some (vI x2), some (vI u1.1), some (vI u1.2)], [vI u1.2], wd κ (mM a40 a41 a42 a43 a44 a45 a46 a47 a48 a49 a50 v11 v12 v13 v14), (0, 0))) 2 rfl trivial ?_
          exact Ev.wk (Lle.s (Lle.s (Lle.s (Lle.n (Lle.s Lle.z))))) (Ev.to kJ4 (by simp only [iF_pos h4]))
        · refine Ev.go (st' := (56, [some (vR 39), some (vI x1), some (vI x2), some (vI u1.1), some (vI u1.2)], [vI u1.1], wd κ (mM a40 a41 a42 a43 a44 a45 a46 a47 a48 a49 a50 v11 v12 v13 v14), (0, 0))) 1 rfl trivial ?_
          exact Ev.wk (Lle.s (Lle.s (Lle.s (Lle.n (Lle.s Lle.z))))) (Ev.to kJ4 (by simp only [iF_neg h4]))
  · show Ev none 53 (63, [none, none, none, some (vI (unX (forX (b_M_nearer_1 x1 a40 a43 x2) 0 9 ((-6 : Int32), (7 : Int32)))).1), none], [], wd κ (mM a40 a41 a42 a43 a44 a45 a46 a47 a48 a49 a50 v11 v12 v13 v14), (0, 0)) r
    refine Ev.go (st' := (64, [none, none, none, some (vI (unX (forX (b_M_nearer_1 x1 a40 a43 x2) 0 9 ((-6 : Int32), (7 : Int32)))).1), none], [vI (unX (forX (b_M_nearer_1 x1 a40 a43 x2) 0 9 ((-6 : Int32), (7 : Int32)))).1], wd κ (mM a40 a41 a42 a43 a44 a45 a46 a47 a48 a49 a50 v11 v12 v13 v14), (0, 0))) 1 rfl trivial ?_
    rw [hK] at k
    have k3 : (some (unX (forX (b_M_nearer_1 x1 a40 a43 x2) 0 9 ((-6 : Int32), (7 : Int32)))).1, wd κ (mM a40 a41 a42 a43 a44 a45 a46 a47 a48 a49 a50 v11 v12 v13 v14)) = r := k
    rw [← k3]
    exact Ev.ireti rfl rfl

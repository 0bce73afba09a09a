/-! OF java/lang/Math.min(II)I -/
noncomputable def f_J_min (x1 : Int32) (x2 : Int32) : Int32 := (iF (x2 < x1) x2 x1)
set_option maxRecDepth 8000 in
set_option maxHeartbeats 4000000 in
theorem e_J_min (w : AW) (x1 x2 : Int32)  : Ev none 72 (0, [some (vI x1), some (vI x2)], [], w, (0, 0)) (some (f_J_min x1 x2), w) := by
  suffices hh : ∀ (r : Option Int32 × AW) (K : (Int32) → Prop), K = (fun o : Int32 => (some o, w) = r) → K (iF (x2 < x1) x2 x1) → Ev none 72 (0, [some (vI x1), some (vI x2)], [], w, (0, 0)) r from hh _ _ rfl rfl
  intro r K hK k
  refine Ev.go (st' := (if x2 < x1 then 9 else 5, [some (vI x1), some (vI x2)], [], w, (0, 0))) 3 rfl trivial ?_
  have kJ1 : Ev none 72 (10, [none, none], [vI (iF (x2 < x1) x2 x1)], w, (0, 0)) r := by
    rw [hK] at k
    have k3 : (some (iF (x2 < x1) x2 x1), w) = r := k
    rw [← k3]
    exact Ev.ireti rfl rfl
  refine Ev.br (fun h1 => ?_) (fun h1 => ?_)
  · refine Ev.go (st' := (10, [some (vI x1), some (vI x2)], [vI x2], w, (0, 0))) 1 rfl trivial ?_
    exact Ev.wk (Lle.n (Lle.n Lle.z)) (Ev.to kJ1 (by simp only [iF_pos h1]))
  · refine Ev.go (st' := (10, [some (vI x1), some (vI x2)], [vI x1], w, (0, 0))) 2 rfl trivial ?_
    exact Ev.wk (Lle.n (Lle.n Lle.z)) (Ev.to kJ1 (by simp only [iF_neg h1]))

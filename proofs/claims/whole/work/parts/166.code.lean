/-! OF MeshNames.rank(II)I -/
noncomputable def f_C_rank (x1 : Int32) (x2 : Int32) : Int32 := (((f_J_min (f_J_abs (x1 - x2)) ((256 : Int32) - (f_J_abs (x1 - x2)))) * (256 : Int32)) + x1)
set_option maxRecDepth 8000 in
set_option maxHeartbeats 4000000 in
theorem e_C_rank (w : AW) (x1 x2 : Int32)  : Ev none 73 (0, [some (vI x1), some (vI x2), none], [], w, (0, 0)) (some (f_C_rank x1 x2), w) := by
  suffices hh : ∀ (r : Option Int32 × AW) (K : (Int32) → Prop), K = (fun o : Int32 => (some o, w) = r) → K (((f_J_min (f_J_abs (x1 - x2)) ((256 : Int32) - (f_J_abs (x1 - x2)))) * (256 : Int32)) + x1) → Ev none 73 (0, [some (vI x1), some (vI x2), none], [], w, (0, 0)) r from hh _ _ rfl rfl
  intro r K hK k
  refine Ev.go (st' := (3, [some (vI x1), some (vI x2), none], [vI (x1 - x2)], w, (0, 0))) 3 rfl trivial ?_
  refine Ev.callI (a := 71) (As := [vI (x1 - x2)]) [] (f_J_abs (x1 - x2)) (w) rfl (e_J_abs (w) (x1 - x2)) ?_
  refine Ev.go (st' := (13, [some (vI x1), some (vI x2), some (vI (f_J_abs (x1 - x2)))], [vI ((256 : Int32) - (f_J_abs (x1 - x2))), vI (f_J_abs (x1 - x2))], w, (0, 0))) 5 rfl trivial ?_
  refine Ev.callI (a := 72) (As := [vI (f_J_abs (x1 - x2)), vI ((256 : Int32) - (f_J_abs (x1 - x2)))]) [] (f_J_min (f_J_abs (x1 - x2)) ((256 : Int32) - (f_J_abs (x1 - x2)))) (w) rfl (e_J_min (w) (f_J_abs (x1 - x2)) ((256 : Int32) - (f_J_abs (x1 - x2)))) ?_
  refine Ev.go (st' := (22, [some (vI x1), some (vI x2), some (vI (f_J_abs (x1 - x2)))], [vI (((f_J_min (f_J_abs (x1 - x2)) ((256 : Int32) - (f_J_abs (x1 - x2)))) * (256 : Int32)) + x1)], w, (0, 0))) 4 rfl trivial ?_
  rw [hK] at k
  have k3 : (some (((f_J_min (f_J_abs (x1 - x2)) ((256 : Int32) - (f_J_abs (x1 - x2)))) * (256 : Int32)) + x1), w) = r := k
  rw [← k3]
  exact Ev.ireti rfl rfl

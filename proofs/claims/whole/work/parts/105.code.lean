/-! OF MeshNames.bit(I)I -/
noncomputable def f_C_bit (x1 : Int32) : Int32 := ((1 : Int32) <<< (x1 &&& 31))
set_option maxRecDepth 8000 in
set_option maxHeartbeats 4000000 in
theorem e_C_bit (w : AW) (x1 : Int32)  : Ev none 5 (0, [some (vI x1)], [], w, (0, 0)) (some (f_C_bit x1), w) := by
  suffices hh : ∀ (r : Option Int32 × AW) (K : (Int32) → Prop), K = (fun o : Int32 => (some o, w) = r) → K ((1 : Int32) <<< (x1 &&& 31)) → Ev none 5 (0, [some (vI x1)], [], w, (0, 0)) r from hh _ _ rfl rfl
  intro r K hK k
  refine Ev.go (st' := (3, [some (vI x1)], [vI ((1 : Int32) <<< (x1 &&& 31))], w, (0, 0))) 3 rfl trivial ?_
  rw [hK] at k
  have k3 : (some ((1 : Int32) <<< (x1 &&& 31)), w) = r := k
  rw [← k3]
  exact Ev.ireti rfl rfl

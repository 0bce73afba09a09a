/-! OF java/lang/Math.floorMod(II)I -/
noncomputable def f_J_floorMod (x1 : Int32) (x2 : Int32) : Int32 := (iF (0 ≤ (x1 ^^^ x2)) (x1 - x1 / x2 * x2) (iF ((x1 - x1 / x2 * x2) = 0) (x1 - x1 / x2 * x2) ((x1 - x1 / x2 * x2) + x2)))
def P_J_floorMod (x1 : Int32) (x2 : Int32) : Prop := ¬ x2 = 0 ∧ True
set_option maxRecDepth 8000 in
set_option maxHeartbeats 4000000 in
theorem e_J_floorMod (w : AW) (x1 x2 : Int32) (hP : P_J_floorMod x1 x2)  : Ev none 12 (0, [some (vI x1), some (vI x2), none], [], w, (0, 0)) (some (f_J_floorMod x1 x2), w) := by
  suffices hh : ∀ (r : Option Int32 × AW) (K : (Int32) → Prop), K = (fun o : Int32 => (some o, w) = r) → K (iF (0 ≤ (x1 ^^^ x2)) (x1 - x1 / x2 * x2) (iF ((x1 - x1 / x2 * x2) = 0) (x1 - x1 / x2 * x2) ((x1 - x1 / x2 * x2) + x2))) → Ev none 12 (0, [some (vI x1), some (vI x2), none], [], w, (0, 0)) r from hh _ _ rfl rfl
  intro r K hK k
  refine Ev.go (st' := (if 0 ≤ (x1 ^^^ x2) then 18 else 10, [some (vI x1), some (vI x2), some (vI (x1 - x1 / x2 * x2))], [], w, (0, 0))) 8 rfl ⟨hP.1, trivial⟩ ?_
  refine Ev.brK (K := K) k (fun h1 k => ?_) (fun h1 k => ?_)
  · refine Ev.go (st' := (19, [some (vI x1), some (vI x2), some (vI (x1 - x1 / x2 * x2))], [vI (x1 - x1 / x2 * x2)], w, (0, 0))) 1 rfl trivial ?_
    rw [hK] at k
    have k3 : (some (x1 - x1 / x2 * x2), w) = r := k
    rw [← k3]
    exact Ev.ireti rfl rfl
  · refine Ev.go (st' := (if (x1 - x1 / x2 * x2) = 0 then 18 else 14, [some (vI x1), some (vI x2), some (vI (x1 - x1 / x2 * x2))], [], w, (0, 0))) 2 rfl trivial ?_
    refine Ev.brK (K := K) k (fun h2 k => ?_) (fun h2 k => ?_)
    · refine Ev.go (st' := (19, [some (vI x1), some (vI x2), some (vI (x1 - x1 / x2 * x2))], [vI (x1 - x1 / x2 * x2)], w, (0, 0))) 1 rfl trivial ?_
      rw [hK] at k
      have k3 : (some (x1 - x1 / x2 * x2), w) = r := k
      rw [← k3]
      exact Ev.ireti rfl rfl
    · refine Ev.go (st' := (17, [some (vI x1), some (vI x2), some (vI (x1 - x1 / x2 * x2))], [vI ((x1 - x1 / x2 * x2) + x2)], w, (0, 0))) 3 rfl trivial ?_
      rw [hK] at k
      have k3 : (some ((x1 - x1 / x2 * x2) + x2), w) = r := k
      rw [← k3]
      exact Ev.ireti rfl rfl

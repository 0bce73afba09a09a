/-! the whole survey -/
section M
variable {up : Int32} {nm lk st len row pl M R N nx S steps parts : Nat → Int32}
theorem survey_s (hR : Rel up nm lk st) (h : CR up nm lk len row pl M R) (hN : ∀ a, a < 8 → N a = SN up nm lk a) (hx' : ∀ a, a < 8 → nx a = SN up nm lk a) (hS : exS up lk S) (hs : ∀ a, a < 8 → ∀ b, b < 8 → steps (8 * a + b) = stC up lk a b) (hp : ∀ a, a < 8 → parts a = PT up lk a) {v0 : (Nat → Int32) × (Nat → Int32) × Int32 × Int32 × Int32 × Int32} {a : Nat} (ha : a < 8) {c : (Nat → Int32) × (Nat → Int32) × Int32 × Int32 × Int32 × Int32 × Int32 × Int32 × Int32} (hw : WR c (forN (b_M_worst_2 S st R M N) 0 (8 * a) v0)) : ∀ b, b ≤ 8 → WR (forN (b_Survey_take_2 (nI a) parts nm pl len row nx steps) 0 b c) (forN (b_M_worst_2 S st R M N) 0 (8 * a + b) v0) := by
  intro b
  induction b with
  | zero => intro _; rw [forN_0]; exact hw
  | succ b ih =>
    intro hb
    rw [forN_s, Nat.zero_add, show 8 * a + (b + 1) = (8 * a + b) + 1 by omega, forN_s, Nat.zero_add]
    exact (pair_s hR h hN hx' hS hs hp ha (by omega) (ih (by omega))).1
theorem survey_all (hR : Rel up nm lk st) (h : CR up nm lk len row pl M R) (hN : ∀ a, a < 8 → N a = SN up nm lk a) (hx' : ∀ a, a < 8 → nx a = SN up nm lk a) (hS : exS up lk S) (hs : ∀ a, a < 8 → ∀ b, b < 8 → steps (8 * a + b) = stC up lk a b) (hp : ∀ a, a < 8 → parts a = PT up lk a) {v0 : (Nat → Int32) × (Nat → Int32) × Int32 × Int32 × Int32 × Int32} {c0 : (Nat → Int32) × (Nat → Int32) × Int32 × Int32 × Int32 × Int32 × Int32 × Int32 × Int32} (hw : WR c0 v0) : ∀ a, a ≤ 8 → WR (forN (b_Survey_take_1 parts nm pl len row nx steps) 0 a c0) (forN (b_M_worst_2 S st R M N) 0 (8 * a) v0) := by
  intro a
  induction a with
  | zero => intro _; rw [forN_0, forN_0]; exact hw
  | succ a ih =>
    intro ha
    rw [forN_s, Nat.zero_add, show 8 * (a + 1) = 8 * a + 8 by omega]
    exact survey_s hR h hN hx' hS hs hp (by omega) (ih (by omega)) 8 (Nat.le_refl 8)
end M

/-! walks and how far: U tells who is up, G who is by whom -/
def Wk (U : Nat → Prop) (G : Nat → Nat → Prop) (a : Nat) : Nat → Nat → Prop
  | 0, b => b = a ∧ U a
  | k + 1, b => ∃ c, Wk U G a k c ∧ G c b
noncomputable def dd (U : Nat → Prop) (G : Nat → Nat → Prop) (a b : Nat) : Nat := @dite Nat (∃ k, Wk U G a k b) (Classical.propDecidable _) (fun h => Classical.choose (pk_least _ h)) (fun _ => 1000)
theorem php : ∀ (n : Nat) (f : Nat → Nat), (∀ k, k ≤ n → f k < n) → ∃ i j, i < j ∧ j ≤ n ∧ f i = f j := by
  intro n
  induction n with
  | zero => intro f h; exact absurd (h 0 (Nat.le_refl 0)) (by omega)
  | succ n ih =>
    intro f h
    by_cases hq : ∃ k, k ≤ n ∧ f k = f (n + 1)
    · obtain ⟨k, h1, h2⟩ := hq
      exact ⟨k, n + 1, by omega, Nat.le_refl _, h2⟩
    · have hne : ∀ k, k ≤ n → f k ≠ f (n + 1) := fun k hk he => hq ⟨k, hk, he⟩
      obtain ⟨i, j, h1, h2, h3⟩ := ih (fun k => if f k = n then f (n + 1) else f k) (fun k hk => by
        have a1 := h k (by omega)
        have a2 := h (n + 1) (Nat.le_refl _)
        have a3 := hne k hk
        by_cases e : f k = n
        · simp only [e, if_true]; omega
        · simp only [e, if_false]; omega)
      refine ⟨i, j, h1, by omega, ?_⟩
      have b1 := hne i (by omega)
      have b2 := hne j h2
      by_cases e1 : f i = n <;> by_cases e2 : f j = n
      · rw [e1, e2]
      · simp only [e1, e2, if_true, if_false] at h3; exact absurd h3.symm b2
      · simp only [e1, e2, if_true, if_false] at h3; exact absurd h3 b1
      · simp only [e1, e2, if_false] at h3; exact h3
section Gr
variable {U : Nat → Prop} {G : Nat → Nat → Prop}
theorem dd_some {a b : Nat} (h : ∃ k, Wk U G a k b) : Wk U G a (dd U G a b) b ∧ ∀ j, j < dd U G a b → ¬ Wk U G a j b := by
  have e : dd U G a b = Classical.choose (pk_least _ h) := by
    unfold dd
    exact dif_pos h
  rw [e]
  exact Classical.choose_spec (pk_least _ h)
theorem dd_none {a b : Nat} (h : ¬ ∃ k, Wk U G a k b) : dd U G a b = 1000 := by
  unfold dd
  exact dif_neg h
theorem dd_le {a b k : Nat} (h : Wk U G a k b) : dd U G a b ≤ k := by
  rcases Nat.lt_or_ge k (dd U G a b) with q | q
  · exact absurd h ((dd_some ⟨k, h⟩).2 k q)
  · exact q
/-- each step of a shortest walk is one farther -/
theorem dd_pred {a b k : Nat} (h : Wk U G a (k + 1) b) (hd : dd U G a b = k + 1) : ∃ c, Wk U G a k c ∧ G c b ∧ dd U G a c = k := by
  obtain ⟨c, h1, h2⟩ := h
  refine ⟨c, h1, h2, ?_⟩
  have h3 := dd_le h1
  rcases Nat.lt_or_ge (dd U G a c) k with q | q
  · have h4 : Wk U G a (dd U G a c + 1) b := ⟨c, (dd_some ⟨k, h1⟩).1, h2⟩
    have h5 := dd_le h4
    omega
  · omega
variable (hG : ∀ a b, G a b → a < 8 ∧ b < 8)
theorem dd_levels (hU : ∀ a, U a → a < 8) (hG : ∀ a b, G a b → a < 8 ∧ b < 8) {a : Nat} : ∀ (d b : Nat), Wk U G a d b → dd U G a b = d → ∀ k, k ≤ d → ∃ c, c < 8 ∧ Wk U G a k c ∧ dd U G a c = k := by
  intro d
  induction d with
  | zero =>
    intro b h hd k hk
    have hk0 : k = 0 := by omega
    subst hk0
    obtain ⟨rfl, h2⟩ := h
    exact ⟨b, hU b h2, ⟨rfl, h2⟩, hd⟩
  | succ d ih =>
    intro b h hd k hk
    by_cases e : k = d + 1
    · subst e
      refine ⟨b, ?_, h, hd⟩
      obtain ⟨c, -, h2⟩ := h
      exact (hG c b h2).2
    · obtain ⟨c, h1, h2, h3⟩ := dd_pred h hd
      exact ih c h1 h3 k (by omega)
theorem dd_lt (hU : ∀ a, U a → a < 8) (hG : ∀ a b, G a b → a < 8 ∧ b < 8) {a b : Nat} (h : ∃ k, Wk U G a k b) : dd U G a b < 8 := by
  rcases Nat.lt_or_ge (dd U G a b) 8 with q | q
  · exact q
  · exfalso
    have hw := (dd_some h).1
    have hl := dd_levels hU hG (dd U G a b) b hw rfl
    have hl' : ∀ k, ∃ c, k ≤ dd U G a b → c < 8 ∧ dd U G a c = k := by
      intro k
      by_cases hk : k ≤ dd U G a b
      · obtain ⟨c, h1, -, h3⟩ := hl k hk
        exact ⟨c, fun _ => ⟨h1, h3⟩⟩
      · exact ⟨0, fun h => absurd h hk⟩
    obtain ⟨f, hf⟩ := Classical.axiomOfChoice hl'
    obtain ⟨i, j, h1, h2, h3⟩ := php 8 f (fun k hk => (hf k (by omega)).1)
    have a1 := (hf i (by omega)).2
    have a2 := (hf j (by omega)).2
    rw [h3] at a1
    omega
/-- reached at all, or not -/
theorem dd_cases (hU : ∀ a, U a → a < 8) (hG : ∀ a b, G a b → a < 8 ∧ b < 8) (a b : Nat) : (dd U G a b < 8 ∧ Wk U G a (dd U G a b) b) ∨ (dd U G a b = 1000 ∧ ∀ k, ¬ Wk U G a k b) := by
  by_cases h : ∃ k, Wk U G a k b
  · exact Or.inl ⟨dd_lt hU hG h, (dd_some h).1⟩
  · exact Or.inr ⟨dd_none h, fun k hk => h ⟨k, hk⟩⟩
theorem dd_self {a : Nat} (h : U a) : dd U G a a = 0 := Nat.le_zero.mp (dd_le (k := 0) ⟨rfl, h⟩)
theorem dd_0 {a b : Nat} (hd : dd U G a b = 0) : b = a ∧ U a := by
  by_cases h : ∃ k, Wk U G a k b
  · have h1 := (dd_some h).1
    rw [hd] at h1
    exact h1
  · rw [dd_none h] at hd
    cases hd
theorem dd_step (hU : ∀ a, U a → a < 8) (hG : ∀ a b, G a b → a < 8 ∧ b < 8) {a b c : Nat} (hb : dd U G a b < 1000) (h : G b c) : dd U G a c ≤ dd U G a b + 1 := by
  rcases dd_cases hU hG a b with ⟨-, h1⟩ | ⟨h1, -⟩
  · exact dd_le (k := dd U G a b + 1) ⟨b, h1, h⟩
  · omega
/-- from the front -/
theorem Wk_head {a b c k : Nat} (hUa : U a) (h : G a c) (hw : Wk U G c k b) : Wk U G a (k + 1) b := by
  induction k generalizing b with
  | zero =>
    obtain ⟨rfl, -⟩ := hw
    exact ⟨a, ⟨rfl, hUa⟩, h⟩
  | succ k ih =>
    obtain ⟨e, h1, h2⟩ := hw
    exact ⟨e, ih h1, h2⟩
theorem Wk_first (hGU : ∀ a b, G a b → U a ∧ U b) {a b k : Nat} (hw : Wk U G a (k + 1) b) : ∃ c, G a c ∧ Wk U G c k b := by
  induction k generalizing b with
  | zero =>
    obtain ⟨e, ⟨rfl, h1⟩, h2⟩ := hw
    exact ⟨b, h2, rfl, (hGU _ _ h2).2⟩
  | succ k ih =>
    obtain ⟨e, h1, h2⟩ := hw
    obtain ⟨c, h3, h4⟩ := ih h1
    exact ⟨c, h3, e, h4, h2⟩
/-- there is one nearer -/
theorem dd_near (hU : ∀ a, U a → a < 8) (hG : ∀ a b, G a b → a < 8 ∧ b < 8) (hGU : ∀ a b, G a b → U a ∧ U b) {a b : Nat} (h0 : 0 < dd U G a b) (h8 : dd U G a b < 1000) : ∃ c, c < 8 ∧ G a c ∧ dd U G c b + 1 = dd U G a b := by
  rcases dd_cases hU hG a b with ⟨-, h1⟩ | ⟨h1, -⟩
  · obtain ⟨k, hk⟩ : ∃ k, dd U G a b = k + 1 := ⟨dd U G a b - 1, by omega⟩
    rw [hk] at h1
    obtain ⟨c, h2, h3⟩ := Wk_first hGU h1
    refine ⟨c, (hG a c h2).2, h2, ?_⟩
    have h4 := dd_le h3
    have h5 := dd_le (Wk_head (hGU a c h2).1 h2 (dd_some ⟨k, h3⟩).1)
    omega
  · omega
/-- what keeps to the rules of steps and ends at walks is how far -/
theorem dd_uniq (hU : ∀ a, U a → a < 8) (hG : ∀ a b, G a b → a < 8 ∧ b < 8) {a : Nat} {S : Nat → Nat} (h0 : U a → S a = 0) (hr : ∀ b c, G b c → S b < 1000 → S c ≤ S b + 1) (hs : ∀ b, b < 8 → S b = 1000 ∨ Wk U G a (S b) b) {b : Nat} (hb : b < 8) : S b = dd U G a b := by
  have up : ∀ k c, Wk U G a k c → k < 1000 → S c ≤ k := by
    intro k
    induction k with
    | zero => intro c h _; obtain ⟨rfl, h2⟩ := h; rw [h0 h2]; exact Nat.le_refl 0
    | succ k ih =>
      intro c h hk
      obtain ⟨e, h1, h2⟩ := h
      have h3 := ih e h1 (by omega)
      have h4 := hr e c h2 (by omega)
      omega
  rcases dd_cases hU hG a b with ⟨h1, h2⟩ | ⟨h1, h2⟩
  · have h3 := up _ b h2 (by omega)
    rcases hs b hb with h4 | h4
    · omega
    · have h5 := dd_le h4
      omega
  · rcases hs b hb with h4 | h4
    · rw [h4, h1]
    · exact absurd h4 (h2 _)
end Gr

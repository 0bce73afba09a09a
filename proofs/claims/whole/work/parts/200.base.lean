/-! ===== Int32 by its bits: bt x i ===== -/
def bt (x : Int32) (i : Nat) : Bool := x.toBitVec.getLsbD i
theorem b_ext {x y : Int32} (h : ∀ i, i < 32 → bt x i = bt y i) : x = y := Int32.toBitVec_inj.mp (BitVec.eq_of_getLsbD_eq (fun i hi => h i hi))
theorem b_or (x y : Int32) (i : Nat) : bt (x ||| y) i = (bt x i || bt y i) := by unfold bt; rw [Int32.toBitVec_or, BitVec.getLsbD_or]
theorem b_and (x y : Int32) (i : Nat) : bt (x &&& y) i = (bt x i && bt y i) := by unfold bt; rw [Int32.toBitVec_and, BitVec.getLsbD_and]
theorem b_xor (x y : Int32) (i : Nat) : bt (x ^^^ y) i = (bt x i ^^ bt y i) := by unfold bt; rw [Int32.toBitVec_xor, BitVec.getLsbD_xor]
theorem b_big {x : Int32} {i : Nat} (h : 32 ≤ i) : bt x i = false := BitVec.getLsbD_of_ge _ _ h
theorem b_255 (i : Nat) : bt 255 i = decide (i < 8) := by
  rcases Nat.lt_or_ge i 32 with h | h
  · exact (by decide +kernel : ∀ i, i < 32 → bt 255 i = decide (i < 8)) i h
  · rw [b_big h, decide_eq_false (by omega)]
theorem b_65535 (i : Nat) : bt 65535 i = decide (i < 16) := by
  rcases Nat.lt_or_ge i 32 with h | h
  · exact (by decide +kernel : ∀ i, i < 32 → bt 65535 i = decide (i < 16)) i h
  · rw [b_big h, decide_eq_false (by omega)]
theorem b_m1 : ∀ i, i < 32 → bt (-1) i = true := by decide +kernel
theorem b_0 (i : Nat) : bt 0 i = false := BitVec.getLsbD_zero
theorem s_l : ∀ n, n < 32 → ((nI n &&& 31).toBitVec.smod 32).toNat = n := by decide +kernel
theorem s_u : ∀ n, n < 32 → (((nI n).toUInt32 &&& Int32.toUInt32 31).toBitVec % 32).toNat = n := by decide +kernel
theorem b_shl (n : Nat) (hn : n < 32) (x : Int32) {i : Nat} (hi : i < 32) : bt (x <<< (nI n &&& 31)) i = (decide (n ≤ i) && bt x (i - n)) := by
  unfold bt
  rw [Int32.toBitVec_shiftLeft]
  show (x.toBitVec <<< ((nI n &&& 31).toBitVec.smod 32).toNat).getLsbD i = _
  rw [s_l n hn, BitVec.getLsbD_shiftLeft]
  rcases Nat.lt_or_ge i n with h | h
  · simp [h, Nat.not_le.mpr h]
  · simp [hi, h, Nat.not_lt.mpr h]
theorem b_ushr (n : Nat) (hn : n < 32) (x : Int32) (i : Nat) : bt ((x.toUInt32 >>> ((nI n).toUInt32 &&& Int32.toUInt32 31)).toInt32) i = bt x (n + i) := by
  show (x.toUInt32 >>> ((nI n).toUInt32 &&& Int32.toUInt32 31)).toBitVec.getLsbD i = x.toUInt32.toBitVec.getLsbD (n + i)
  rw [UInt32.toBitVec_shiftRight]
  show (x.toUInt32.toBitVec >>> (((nI n).toUInt32 &&& Int32.toUInt32 31).toBitVec % 32).toNat).getLsbD i = _
  rw [s_u n hn, BitVec.getLsbD_ushiftRight]
theorem b_sshr (n : Nat) (hn : n < 32) (x : Int32) {i : Nat} (hi : i < 32) : bt (x >>> (nI n &&& 31)) i = if n + i < 32 then bt x (n + i) else bt x 31 := by
  unfold bt
  rw [Int32.toBitVec_shiftRight]
  show (x.toBitVec.sshiftRight ((nI n &&& 31).toBitVec.smod 32).toNat).getLsbD i = _
  rw [s_l n hn, BitVec.getLsbD_sshiftRight, BitVec.msb_eq_getLsbD_last]
  simp [hi]

/-! choices, indices, sets of nodes -/
theorem iF_c {α : Type} {c d : Prop} (h : c ↔ d) (a b : α) : iF c a b = iF d a b := by rw [propext h]
theorem iF_same {α : Type} (c : Prop) (a : α) : iF c a a = a := by
  by_cases h : c
  · rw [iF_pos h]
  · rw [iF_neg h]
theorem iF_app {α β : Type} (f : α → β) (c : Prop) (a b : α) : f (iF c a b) = iF c (f a) (f b) := by
  by_cases h : c
  · rw [iF_pos h, iF_pos h]
  · rw [iF_neg h, iF_neg h]
theorem lit_nI (n : Nat) : (OfNat.ofNat n : Int32) = nI n := rfl
theorem ix1 {a b : Nat} (ha : a < 8) (hb : b < 8) : nI a * 8 + nI b = nI (8 * a + b) := by
  show nI a * nI 8 + nI b = _
  rw [pk_mul, nI_add, Nat.mul_comm]
theorem ix2 {a b : Nat} (ha : a < 8) (hb : b < 8) : 8 * nI a + nI b = nI (8 * a + b) := by
  show nI 8 * nI a + nI b = _
  rw [pk_mul, nI_add]
theorem cl {n : Nat} (h : n < 2048) : (nI n).toNatClampNeg = n := nI_clamp (by omega)
theorem in8 {n : Nat} (h : n < 8) : vp_in (nI n) 8 := vp_in_nI h (by decide)
theorem in64 {n : Nat} (h : n < 64) : vp_in (nI n) 64 := vp_in_nI h (by decide)
theorem in80 {n : Nat} (h : n < 80) : vp_in (nI n) 80 := vp_in_nI h (by decide)
theorem upd_eq (f : Nat → Int32) (k : Nat) (x : Int32) (j : Nat) : upd f k x j = if j = k then x else f j := rfl
theorem node_of {x : Int32} (h : vp_in x 8) : ∃ n, n < 8 ∧ x = nI n := vp_in_of h (by decide)
theorem nI_ne {a b : Nat} (ha : a < 2048) (hb : b < 2048) (h : a ≠ b) : nI a ≠ nI b := fun q => h ((nI_eq (by omega) (by omega)).mp q)
theorem nI_inj {a b : Nat} (ha : a < 2048) (hb : b < 2048) (h : nI a = nI b) : a = b := (nI_eq (by omega) (by omega)).mp h
theorem m6_lt : (-6 : Int32) < 0 := by decide
theorem nI_ne6 {a : Nat} (ha : a < 2048) : nI a ≠ -6 := fun q => by
  have h1 : (nI a).toInt = (-6 : Int32).toInt := by rw [q]
  rw [nI_toInt (by omega)] at h1
  have h2 : (-6 : Int32).toInt = -6 := by decide
  omega
theorem nI_n0 {a : Nat} (ha : a < 2048) : ¬ nI a < 0 := nI_pos (by omega)
/-- no bits but those of nodes -/
def S8 (x : Int32) : Prop := ∀ i, 8 ≤ i → bt x i = false
theorem S8_ext {x y : Int32} (hx : S8 x) (hy : S8 y) (h : ∀ i, i < 8 → bt x i = bt y i) : x = y := b_ext fun i _ => by
  by_cases h8 : i < 8
  · exact h i h8
  · rw [hx i (by omega), hy i (by omega)]
theorem S8_0 : S8 0 := fun i _ => b_0 i
theorem S8_or {x y : Int32} (hx : S8 x) (hy : S8 y) : S8 (x ||| y) := fun i h => by rw [b_or, hx i h, hy i h]; rfl
theorem S8_and {x y : Int32} (hx : S8 x) : S8 (x &&& y) := fun i h => by rw [b_and, hx i h]; rfl
theorem S8_and' {x y : Int32} (hy : S8 y) : S8 (x &&& y) := fun i h => by rw [b_and, hy i h, Bool.and_false]
theorem b_1 (i : Nat) : bt 1 i = decide (i = 0) := by
  rcases Nat.lt_or_ge i 32 with h | h
  · exact (by decide +kernel : ∀ i, i < 32 → bt 1 i = decide (i = 0)) i h
  · rw [b_big h, decide_eq_false (by omega)]
theorem b_bit {n : Nat} (hn : n < 8) (i : Nat) : bt (f_C_bit (nI n)) i = decide (i = n) := by
  rcases Nat.lt_or_ge i 32 with h | h
  · show bt (1 <<< (nI n &&& 31)) i = _
    rw [b_shl n (by omega) 1 h, b_1]
    by_cases h1 : n ≤ i
    · rw [decide_eq_true h1, Bool.true_and]
      by_cases h2 : i = n
      · rw [decide_eq_true h2, decide_eq_true (by omega)]
      · rw [decide_eq_false h2, decide_eq_false (by omega)]
    · rw [decide_eq_false h1, Bool.false_and, decide_eq_false (by omega)]
  · rw [b_big h, decide_eq_false (by omega)]
theorem S8_bit {n : Nat} (hn : n < 8) : S8 (f_C_bit (nI n)) := fun i h => by rw [b_bit hn, decide_eq_false (by omega)]
theorem b_not (x : Int32) {i : Nat} (h : i < 32) : bt (x ^^^ (-1)) i = !bt x i := by rw [b_xor, b_m1 i h, Bool.xor_true]
theorem b_one (x : Int32) : x &&& 1 = if bt x 0 then 1 else 0 := by
  apply b_ext
  intro i hi
  rw [b_and, b_1]
  by_cases h : i = 0
  · subst h
    cases hb : bt x 0
    · rw [if_neg (by decide), b_0]; rfl
    · rw [if_pos rfl, b_1]; rfl
  · rw [decide_eq_false h, Bool.and_false]
    cases hb : bt x 0
    · rw [if_neg (by decide), b_0]
    · rw [if_pos rfl, b_1, decide_eq_false h]
theorem b_sh {n : Nat} (hn : n < 8) (x : Int32) : (x >>> (nI n &&& 31)) &&& 1 = if bt x n then 1 else 0 := by
  have h : bt (x >>> (nI n &&& 31)) 0 = bt x n := by
    rw [b_sshr n (by omega) x (by decide), if_pos (by omega)]
    rfl
  rw [b_one, h]
theorem has_eq {n : Nat} (hn : n < 8) (x : Int32) : f_C_has x (nI n) = if bt x n then 1 else 0 := by
  unfold f_C_has
  rw [b_sh hn]
  cases bt x n
  · exact iF_pos rfl
  · exact iF_neg (by decide)
theorem has_0 {n : Nat} (hn : n < 8) (x : Int32) : (f_C_has x (nI n) = 0) ↔ bt x n = false := by
  rw [has_eq hn]
  cases bt x n
  · exact ⟨fun _ => rfl, fun _ => rfl⟩
  · exact ⟨fun h => absurd h (by decide), fun h => absurd h (by decide)⟩
/-! loops -/
theorem forN_ind {V : Type} {f : Nat → V → V} {a n : Nat} {v : V} (P : Nat → V → Prop) (h0 : P 0 v) (hs : ∀ j u, j < n → P j u → P (j + 1) (f (a + j) u)) : P n (forN f a n v) := by
  have key : ∀ j, j ≤ n → P j (forN f a j v) := by
    intro j
    induction j with
    | zero => intro _; rw [forN_0]; exact h0
    | succ j ih => intro hj; rw [forN_s]; exact hs j _ (by omega) (ih (by omega))
  exact key n (Nat.le_refl n)
theorem forN_congr {V : Type} {f g : Nat → V → V} {a n : Nat} {v : V} (h : ∀ j u, a ≤ j → j < a + n → f j u = g j u) : forN f a n v = forN g a n v := by
  induction n with
  | zero => rw [forN_0, forN_0]
  | succ n ih => rw [forN_s, forN_s, ih (fun j u h1 h2 => h j u h1 (by omega)), h _ _ (by omega) (by omega)]
/-- a thing that holds from one turn on -/
theorem forN_hit {V : Type} {f : Nat → V → V} {a n t : Nat} {v : V} (ht : t < n) (M Q : V → Prop) (h0 : M v) (hm : ∀ j u, j < n → M u → M (f (a + j) u)) (hq : ∀ u, M u → Q (f (a + t) u)) (hk : ∀ j u, j < n → M u → Q u → Q (f (a + j) u)) : Q (forN f a n v) := by
  have h := forN_ind (f := f) (a := a) (n := n) (v := v) (fun j u => M u ∧ (t < j → Q u)) ⟨h0, fun h => by omega⟩ (fun j u hj h => ⟨hm j u hj h.1, fun hl => by
    by_cases e : j = t
    · subst e; exact hq u h.1
    · exact hk j u hj h.1 (h.2 (by omega))⟩)
  exact h.2 ht
theorem forX_inv {V X : Type} {f : Nat → V → V ⊕ X} {a n : Nat} {v : V} (P : Nat → V → Prop) (h0 : P 0 v) (hs : ∀ j u u', j < n → P j u → f (a + j) u = .inl u' → P (j + 1) u') : (∀ j u, j ≤ n → forX f a j v = .inl u → P j u) ∧ (∀ x, forX f a n v = .inr x → ∃ j u, j < n ∧ P j u ∧ forX f a j v = .inl u ∧ f (a + j) u = .inr x) := by
  have key : ∀ j u, j ≤ n → forX f a j v = .inl u → P j u := by
    intro j
    induction j with
    | zero => intro u _ h; rw [forX_0] at h; cases h; exact h0
    | succ j ih =>
      intro u hj h
      cases h2 : forX f a j v with
      | inl u' => rw [forX_l h2] at h; exact hs j u' u (by omega) (ih u' (by omega) h2) h
      | inr x => rw [forX_r h2] at h; cases h
  refine ⟨key, fun x hx => ?_⟩
  have main : ∀ j, j ≤ n → forX f a j v = .inr x → ∃ j u, j < n ∧ P j u ∧ forX f a j v = .inl u ∧ f (a + j) u = .inr x := by
    intro j
    induction j with
    | zero => intro _ h; rw [forX_0] at h; cases h
    | succ j ih =>
      intro hj h
      cases h2 : forX f a j v with
      | inl u => rw [forX_l h2] at h; exact ⟨j, u, by omega, key j u (by omega) h2, h2, h⟩
      | inr x' => rw [forX_r h2] at h; cases h; exact ih (by omega) h2
  exact main n (Nat.le_refl n) hx
theorem forX_end {V X : Type} {f : Nat → V → V ⊕ X} {a n N : Nat} {v : V} (P : Nat → V → Prop) (h0 : P 0 v) (hs : ∀ j u u', j < n → P j u → f (a + j) u = .inl u' → P (j + 1) u') (hN : N < n) (he : ∀ u, P N u → ∃ x, f (a + N) u = .inr x) : ∃ x, forX f a n v = .inr x := by
  cases h : forX f a n v with
  | inr x => exact ⟨x, rfl⟩
  | inl u =>
    exfalso
    have back : ∀ j u, forX f a j v = .inl u → ∀ i, i ≤ j → ∃ u', forX f a i v = .inl u' := by
      intro j
      induction j with
      | zero => intro u h i hi; exact ⟨u, by rw [show i = 0 by omega]; exact h⟩
      | succ j ih =>
        intro u h i hi
        by_cases e : i = j + 1
        · exact ⟨u, by rw [e]; exact h⟩
        · cases h2 : forX f a j v with
          | inl u' => exact ih u' h2 i (by omega)
          | inr x => rw [forX_r h2] at h; cases h
    obtain ⟨u1, h1⟩ := back n u h (N + 1) hN
    obtain ⟨u0, h2⟩ := back n u h N (by omega)
    obtain ⟨x, hx⟩ := he u0 ((forX_inv P h0 hs).1 N u0 (by omega) h2)
    rw [forX_l h2, hx] at h1
    cases h1

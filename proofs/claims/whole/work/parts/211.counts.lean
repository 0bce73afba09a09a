/-! counts -/
def cn (p : Nat → Bool) : Nat → Nat
  | 0 => 0
  | n + 1 => cn p n + (if p n then 1 else 0)
theorem cn_le (p : Nat → Bool) : ∀ n, cn p n ≤ n
  | 0 => Nat.le_refl 0
  | n + 1 => by
    have := cn_le p n
    show cn p n + (if p n then 1 else 0) ≤ n + 1
    split <;> omega
theorem cn_congr {p q : Nat → Bool} : ∀ {n : Nat}, (∀ j, j < n → p j = q j) → cn p n = cn q n
  | 0, _ => rfl
  | n + 1, h => by
    show cn p n + (if p n then 1 else 0) = cn q n + (if q n then 1 else 0)
    rw [cn_congr (n := n) (fun j hj => h j (by omega)), h n (by omega)]
theorem cnt_spec {f : Nat → Int32 → Int32} {p : Nat → Bool} {n : Nat} (h : ∀ j v, j < n → f j v = if p j then v + 1 else v) : forN f 0 n 0 = nI (cn p n) := by
  refine forN_ind (f := f) (a := 0) (n := n) (v := 0) (fun j v => v = nI (cn p j)) rfl (fun j v hj hv => ?_)
  rw [Nat.zero_add, h j v hj, hv]
  show _ = nI (cn p j + (if p j then 1 else 0))
  cases p j
  · rfl
  · exact nI_1 _
theorem S8_nat {x : Int32} (h : S8 x) : ∃ k, k < 256 ∧ x = nI k := by
  refine ⟨x.toBitVec.toNat, ?_, ?_⟩
  · exact Nat.lt_pow_two_of_testBit (n := 8) _ (fun i hi => h i hi)
  · refine Int32.toBitVec_inj.mp ?_
    show x.toBitVec = BitVec.ofNat 32 x.toBitVec.toNat
    rw [BitVec.ofNat_toNat, BitVec.setWidth_eq]
theorem bc_all : ∀ k, k < 256 → f_J_bitCount (nI k) = nI (cn (bt (nI k)) 8) := by decide +kernel
theorem bc_eq {x : Int32} (h : S8 x) : f_J_bitCount x = nI (cn (bt x) 8) := by
  obtain ⟨k, hk, rfl⟩ := S8_nat h
  exact bc_all k hk
theorem sz_eq (x : Int32) : f_M_size x = nI (cn (bt x) 8) := by
  refine cnt_spec (f := b_M_size_1 x) (fun j v hj => ?_)
  unfold b_M_size_1
  rw [b_sh hj]
  cases bt x j
  · show v + 0 = v
    exact Int32.add_zero v
  · rfl
section M
variable {up : Int32} {nm lk st S : Nat → Int32}
theorem linksOf_spec (h : Rel up nm lk st) {a : Nat} (ha : a < 8) : P_M_linksOf (nI a) st ∧ f_J_bitCount (f_Mesh_neighbours (nI a) up lk) = f_M_linksOf (nI a) st := by
  refine ⟨⟨fun q hq => ?_, trivial⟩, ?_⟩
  · rw [Nat.zero_add]; exact ⟨P_cnt ha hq st, trivial⟩
  · rw [bc_eq (nb_S8 ha h.1)]
    symm
    refine cnt_spec (f := b_M_linksOf_1 (nI a) st) (fun j v hj => ?_)
    unfold b_M_linksOf_1
    cases hb : bt (f_Mesh_neighbours (nI a) up lk) j
    · rw [iF_pos ((counts_0 h ha hj).mpr (fun q => by rw [(nb_G ha hj).mpr q] at hb; cases hb)), if_neg (by decide), Int32.add_zero]
    · rw [iF_neg (fun q => (counts_0 h ha hj).mp q ((nb_G ha hj).mp hb)), if_pos rfl]
theorem partOf_spec (hu : S8 up) (hS : exS up lk S) {a : Nat} (ha : a < 8) : P_M_partOf (nI a) S ∧ f_M_partOf (nI a) S = PT up lk a := by
  refine ⟨⟨fun q hq => ?_, trivial⟩, ?_⟩
  · rw [Nat.zero_add]; exact ⟨P_tog ha hq S, trivial⟩
  · have h := forN_ind (f := b_M_partOf_1 (nI a) S) (a := 0) (n := 8) (v := 0) (fun j v => S8 v ∧ ∀ b, b < 8 → (bt v b = true ↔ b < j ∧ mD up lk a b < 1000)) ⟨S8_0, fun b _ => ⟨fun q => (by rw [b_0] at q; cases q), fun q => (by omega)⟩⟩ (fun j v hj hv => by
      obtain ⟨v1, v2⟩ := hv
      rw [Nat.zero_add]
      unfold b_M_partOf_1
      by_cases q : mD up lk a j < 1000
      · rw [iF_neg (fun q' => (tog_0 hS ha hj).mp q' q)]
        have e : (1 : Int32) <<< (nI j &&& 31) = f_C_bit (nI j) := rfl
        rw [e]
        refine ⟨S8_or v1 (S8_bit hj), fun b hb => ?_⟩
        rw [b_or, b_bit hj, Bool.or_eq_true, v2 b hb, decide_eq_true_eq]
        constructor
        · rintro (⟨q1, q2⟩ | q1)
          · exact ⟨by omega, q2⟩
          · rw [q1]; exact ⟨by omega, q⟩
        · rintro ⟨q1, q2⟩
          by_cases e : b = j
          · exact Or.inr e
          · exact Or.inl ⟨by omega, q2⟩
      · rw [iF_pos ((tog_0 hS ha hj).mpr q)]
        have e : v ||| 0 = v := b_ext fun i _ => by rw [b_or, b_0, Bool.or_false]
        rw [e]
        refine ⟨v1, fun b hb => (v2 b hb).trans ⟨fun ⟨q1, q2⟩ => ⟨by omega, q2⟩, fun ⟨q1, q2⟩ => ⟨?_, q2⟩⟩⟩
        by_cases e : b = j
        · rw [e] at q2; exact absurd q2 q
        · omega)
    exact PT_eq hu ha h.1 (fun b hb => (h.2 b hb).trans ⟨fun q => q.2, fun q => ⟨hb, q⟩⟩)
theorem before_spec {N : Nat → Int32} (hN : ∀ a, a < 8 → N a = SN up nm lk a) {a : Nat} : f_M_beforeOf (nI a) N = BF up nm lk a 8 := by
  refine forN_ind (f := b_M_beforeOf_1 N (nI a)) (a := 0) (n := 8) (v := -6) (fun j v => v = BF up nm lk a j) rfl (fun j v hj hv => ?_)
  rw [Nat.zero_add]
  show iF (N (nI j).toNatClampNeg = nI a) (nI j) v = iF (SN up nm lk j = nI a) (nI j) (BF up nm lk a j)
  rw [cl (by omega), hN j hj, hv]
end M
/-- the class's paths and the reference's -/
def CR (up : Int32) (nm lk len row pl M R : Nat → Int32) : Prop := (∀ a, a < 8 → laidIs up nm lk a (len a) (fun k => row (8 * a + k)) (fun b => pl (8 * a + b))) ∧ ∀ a, a < 8 → rlIs up nm lk a (M a) (fun k => R (8 * a + k))
section M
variable {up : Int32} {nm lk st S len row pl M R N nx : Nat → Int32}
theorem pathsOver_spec (h : CR up nm lk len row pl M R) {b : Nat} (hb : b < 8) : P_Paths_countOver (nI b) pl ∧ P_M_pathsOver (nI b) M R ∧ f_Paths_countOver (nI b) pl = f_M_pathsOver (nI b) M R := by
  refine ⟨⟨fun q hq => ?_, trivial⟩, ⟨fun q hq => ?_, trivial⟩, ?_⟩
  · rw [Nat.zero_add]; exact ⟨P_over hq hb pl, trivial⟩
  · rw [Nat.zero_add]; exact ⟨(place_spec hq hb (h.2 q hq) (h.1 q hq)).1, trivial⟩
  · unfold f_Paths_countOver f_M_pathsOver
    refine forN_congr (fun j v _ hj' => ?_)
    have hj : j < 8 := by omega
    unfold b_Paths_countOver_1 b_M_pathsOver_1
    rw [iF_c (pl_0 hj hb (h.2 j hj) (h.1 j hj))]
    by_cases q : f_Paths_goesOver (nI j) (nI b) pl = 0
    · rw [iF_pos q, iF_pos q, Int32.add_zero]
    · rw [iF_neg q, iF_neg q]
end M

/-! the reference: its state beside the class's mesh; its steps -/
def Rel (up : Int32) (nm lk st : Nat → Int32) : Prop :=
  S8 up ∧ (∀ a, a < 8 → S8 (lk a)) ∧ (∀ n, n < 8 → st n = if bt up n then 1 else 0) ∧ (∀ n, n < 8 → bt up n = true → st (8 + n) = nm n ∧ ∃ k, k < 256 ∧ nm n = nI k) ∧ (∀ a b, a < 8 → b < 8 → bt up a = true → bt up b = true → nm a = nm b → a = b) ∧
  (∀ a b, a < 8 → b < 8 → a < b → st (16 + (8 * a + b)) = if bt (lk a) b then 1 else 0) ∧ (∀ a b, a < 8 → b < 8 → ¬ a < b → st (16 + (8 * a + b)) = 0) ∧ (∀ a b, a < 8 → b < 8 → bt (lk a) b = bt (lk b) a) ∧ ∀ a, a < 8 → bt (lk a) a = false
theorem z_nI (n : Nat) : (0 : Int32) + nI n = nI n := by
  show nI 0 + nI n = _
  rw [nI_add, Nat.zero_add]
theorem e_nI (n : Nat) : (8 : Int32) + nI n = nI (8 + n) := by
  show nI 8 + nI n = _
  rw [nI_add]
theorem s_nI (n : Nat) : (16 : Int32) + nI n = nI (16 + n) := by
  show nI 16 + nI n = _
  rw [nI_add]
theorem P_mUp {n : Nat} (hn : n < 8) (st : Nat → Int32) : P_M_isUp (nI n) st := ⟨by rw [z_nI]; exact in80 (by omega), trivial⟩
section M
variable {up : Int32} {nm lk st : Nat → Int32}
theorem mUp_0 (h : Rel up nm lk st) {n : Nat} (hn : n < 8) : (f_M_isUp (nI n) st = 0) ↔ bt up n = false := by
  unfold f_M_isUp
  rw [z_nI, cl (by omega), h.2.2.1 n hn]
  cases bt up n
  · rw [if_neg (by decide), iF_neg (by decide)]; simp
  · rw [if_pos rfl, iF_pos rfl]; simp
theorem pair_eq {a b : Nat} (ha : a < 8) (hb : b < 8) : f_M_pair (nI a) (nI b) = nI (16 + (if b ≤ a then 8 * b + a else 8 * a + b)) := by
  unfold f_M_pair
  by_cases h : b ≤ a
  · rw [iF_pos ((leN (by omega) (by omega)).mpr h), ix2 hb ha, s_nI, if_pos h]
  · rw [iF_neg (fun q => h ((leN (by omega) (by omega)).mp q)), ix2 ha hb, s_nI, if_neg h]
theorem in_pair {a b : Nat} (ha : a < 8) (hb : b < 8) : vp_in (f_M_pair (nI a) (nI b)) 80 := by
  rw [pair_eq ha hb]
  exact in80 (by split <;> omega)
theorem st_pair (h : Rel up nm lk st) {a b : Nat} (ha : a < 8) (hb : b < 8) (hne : a ≠ b) : st (f_M_pair (nI a) (nI b)).toNatClampNeg = if bt (lk a) b then 1 else 0 := by
  rw [pair_eq ha hb, cl (by split <;> omega)]
  by_cases q : b ≤ a
  · rw [if_pos q, h.2.2.2.2.2.1 b a hb ha (by omega), h.2.2.2.2.2.2.2.1 b a hb ha]
  · rw [if_neg q, h.2.2.2.2.2.1 a b ha hb (by omega)]
theorem counts_0 (h : Rel up nm lk st) {a b : Nat} (ha : a < 8) (hb : b < 8) : (f_M_counts (nI a) (nI b) st = 0) ↔ ¬ mG up lk a b := by
  unfold f_M_counts f_M_isLink
  by_cases e : a = b
  · subst e
    rw [iF_pos (by rw [iF_pos rfl])]
    exact ⟨fun _ hg => (by have q := hg.2.2.2.2; rw [h.2.2.2.2.2.2.2.2 a ha] at q; cases q), fun _ => rfl⟩
  · rw [iF_neg (c := nI a = nI b) (nI_ne (by omega) (by omega) e), st_pair h ha hb e]
    cases hl : bt (lk a) b
    · rw [if_neg (show ¬ (false = true) by decide), iF_pos (by rw [iF_neg (by decide)])]
      exact ⟨fun _ hg => (by have q := hg.2.2.2.2; rw [hl] at q; cases q), fun _ => rfl⟩
    · rw [if_pos rfl, iF_neg (by rw [iF_pos rfl]; decide)]
      cases hua : bt up a
      · rw [iF_pos ((mUp_0 h ha).mpr hua)]
        exact ⟨fun _ hg => (by have q := hg.2.2.1; rw [hua] at q; cases q), fun _ => rfl⟩
      · rw [iF_neg (fun q => by rw [(mUp_0 h ha).mp q] at hua; cases hua)]
        cases hub : bt up b
        · rw [iF_pos ((mUp_0 h hb).mpr hub)]
          exact ⟨fun _ hg => (by have q := hg.2.2.2.1; rw [hub] at q; cases q), fun _ => rfl⟩
        · rw [iF_neg (fun q => by rw [(mUp_0 h hb).mp q] at hub; cases hub)]
          exact ⟨fun q => absurd q (by decide), fun q => absurd ⟨ha, hb, hua, hub, hl⟩ q⟩
theorem P_cnt {a b : Nat} (ha : a < 8) (hb : b < 8) (st : Nat → Int32) : P_M_counts (nI a) (nI b) st := ⟨⟨⟨fun _ => trivial, fun _ => ⟨in_pair ha hb, trivial⟩⟩, trivial⟩, ⟨fun _ => trivial, fun _ => ⟨P_mUp ha st, ⟨fun _ => trivial, fun _ => ⟨P_mUp hb st, trivial⟩⟩, trivial⟩⟩, trivial⟩
end M
/-- steps so far: each is at most MANY, and a walk if below -/
def JS (up : Int32) (lk S : Nat → Int32) : Prop := (∀ a b, a < 8 → b < 8 → ∃ k, k ≤ 1000 ∧ S (8 * a + b) = nI k ∧ (k = 1000 ∨ Wk (mU up) (mG up lk) a k b)) ∧ ∀ a, mU up a → S (8 * a + a) = 0
/-- one pass from S0: what holds of flag and steps -/
def MS (up : Int32) (lk S0 : Nat → Int32) (v : Int32 × (Nat → Int32)) : Prop := JS up lk v.2 ∧ (∀ a b, a < 8 → b < 8 → v.2 (8 * a + b) ≤ S0 (8 * a + b)) ∧ ((v.1 = 0 ∧ ∀ a b, a < 8 → b < 8 → v.2 (8 * a + b) = S0 (8 * a + b)) ∨ (v.1 = 1 ∧ ∃ a b, a < 8 ∧ b < 8 ∧ v.2 (8 * a + b) < S0 (8 * a + b)))
section M
variable {up : Int32} {nm lk st : Nat → Int32}
theorem i32_le_trans {x y z : Int32} (h1 : x ≤ y) (h2 : y ≤ z) : x ≤ z := by
  rw [Int32.le_iff_toInt_le] at *
  omega
theorem i32_lt_le {x y z : Int32} (h1 : x < y) (h2 : y ≤ z) : x < z := by
  rw [Int32.le_iff_toInt_le] at *
  rw [Int32.lt_iff_toInt_lt] at *
  omega
theorem i32_le_lt {x y z : Int32} (h1 : x ≤ y) (h2 : y < z) : x < z := by
  rw [Int32.le_iff_toInt_le] at *
  rw [Int32.lt_iff_toInt_lt] at *
  omega
theorem i32_nle {x y : Int32} (h : ¬ x ≤ y) : y < x := by
  rw [Int32.le_iff_toInt_le] at *
  rw [Int32.lt_iff_toInt_lt] at *
  omega
theorem i32_rf (x : Int32) : x ≤ x := by rw [Int32.le_iff_toInt_le]; omega
theorem i32_lt_le' {x y : Int32} (h : x < y) : x ≤ y := by
  rw [Int32.le_iff_toInt_le] at *
  rw [Int32.lt_iff_toInt_lt] at *
  omega
/-- the inmost step -/
theorem sh3 (h : Rel up nm lk st) {a b c : Nat} (ha : a < 8) (hb : b < 8) (hc : c < 8) {S0 : Nat → Int32} (h0 : JS up lk S0) {v : Int32 × (Nat → Int32)} (hm : MS up lk S0 v) : MS up lk S0 (b_M_shortenOnce_3 (nI b) st (nI a) c v) ∧ (∀ i j, i < 8 → j < 8 → (b_M_shortenOnce_3 (nI b) st (nI a) c v).2 (8 * i + j) ≤ v.2 (8 * i + j)) ∧ (mG up lk b c → (b_M_shortenOnce_3 (nI b) st (nI a) c v).2 (8 * a + c) ≤ S0 (8 * a + b) + 1) := by
  obtain ⟨⟨j1, j2⟩, m1, m2⟩ := id hm
  have same : b_M_shortenOnce_3 (nI b) st (nI a) c v = v → MS up lk S0 (b_M_shortenOnce_3 (nI b) st (nI a) c v) ∧ (∀ i j, i < 8 → j < 8 → (b_M_shortenOnce_3 (nI b) st (nI a) c v).2 (8 * i + j) ≤ v.2 (8 * i + j)) := fun e => by
    rw [e]
    exact ⟨hm, fun i j _ _ => i32_rf _⟩
  obtain ⟨kb, b1, b2, b3⟩ := j1 a b ha hb
  obtain ⟨kc, c1, c2, c3⟩ := j1 a c ha hc
  obtain ⟨k0, d1, d2, -⟩ := h0.1 a b ha hb
  have hbs := m1 a b ha hb
  rw [b2, d2, leN (by omega) (by omega)] at hbs
  by_cases q1 : f_M_counts (nI b) (nI c) st = 0
  · have e : b_M_shortenOnce_3 (nI b) st (nI a) c v = v := by unfold b_M_shortenOnce_3; rw [iF_pos q1, iF_pos q1]
    exact ⟨(same e).1, (same e).2, fun hg => absurd hg ((counts_0 h hb hc).mp q1)⟩
  · have hg : mG up lk b c := Classical.not_not.mp (fun q => q1 ((counts_0 h hb hc).mpr q))
    by_cases q2 : v.2 ((8 * nI a) + nI c).toNatClampNeg ≤ v.2 ((8 * nI a) + nI b).toNatClampNeg + 1
    · have e : b_M_shortenOnce_3 (nI b) st (nI a) c v = v := by unfold b_M_shortenOnce_3; rw [iF_neg q1, iF_neg q1, iF_pos q2, iF_pos q2]
      refine ⟨(same e).1, (same e).2, fun _ => ?_⟩
      rw [e]
      rw [ix2 ha hc, ix2 ha hb, cl (by omega), cl (by omega), c2, b2, nI_1, leN (by omega) (by omega)] at q2
      rw [c2, d2, nI_1, leN (by omega) (by omega)]
      omega
    · have e : b_M_shortenOnce_3 (nI b) st (nI a) c v = (1, upd v.2 (8 * a + c) (nI (kb + 1))) := by
        unfold b_M_shortenOnce_3
        rw [iF_neg q1, iF_neg q1, iF_neg q2, iF_neg q2, ix2 ha hc, ix2 ha hb, cl (by omega), cl (by omega), b2, nI_1]
      rw [ix2 ha hc, ix2 ha hb, cl (by omega), cl (by omega), c2, b2, nI_1, leN (by omega) (by omega)] at q2
      have hle : ∀ i j, i < 8 → j < 8 → upd v.2 (8 * a + c) (nI (kb + 1)) (8 * i + j) ≤ v.2 (8 * i + j) := by
        intro i j hi hj
        rw [upd_eq]
        by_cases ee : 8 * i + j = 8 * a + c
        · rw [if_pos ee, ee, c2, leN (by omega) (by omega)]; omega
        · rw [if_neg ee]; exact i32_rf _
      rw [e]
      refine ⟨⟨⟨fun i j hi hj => ?_, fun i hi => ?_⟩, fun i j hi hj => i32_le_trans (hle i j hi hj) (m1 i j hi hj), Or.inr ⟨rfl, a, c, ha, hc, ?_⟩⟩, hle, fun _ => ?_⟩
      · show ∃ k, k ≤ 1000 ∧ upd v.2 (8 * a + c) (nI (kb + 1)) (8 * i + j) = nI k ∧ _
        rw [upd_eq]
        by_cases ee : 8 * i + j = 8 * a + c
        · have e1 : i = a := by omega
          have e2 : j = c := by omega
          subst e1; subst e2
          rw [if_pos rfl]
          refine ⟨kb + 1, by omega, rfl, Or.inr ⟨b, ?_, hg⟩⟩
          rcases b3 with q | q
          · omega
          · exact q
        · rw [if_neg ee]; exact j1 i j hi hj
      · show upd v.2 (8 * a + c) (nI (kb + 1)) (8 * i + i) = 0
        rw [upd_eq]
        have hi8 := mU8 i hi
        by_cases ee : 8 * i + i = 8 * a + c
        · exfalso
          have e1 : i = a := by omega
          have e2 : i = c := by omega
          have h3 := j2 i hi
          rw [ee, c2] at h3
          have : kc = 0 := nI_inj (by omega) (by omega) h3
          omega
        · rw [if_neg ee]; exact j2 i hi
      · show upd v.2 (8 * a + c) (nI (kb + 1)) (8 * a + c) < _
        rw [upd_eq, if_pos rfl]
        refine i32_lt_le ?_ (m1 a c ha hc)
        rw [c2]
        exact (ltN (by omega) (by omega)).mpr (by omega)
      · show upd v.2 (8 * a + c) (nI (kb + 1)) (8 * a + c) ≤ _
        rw [upd_eq, if_pos rfl, d2, nI_1, leN (by omega) (by omega)]
        omega
/-- one row of it, over all that are by b -/
theorem sh2 (h : Rel up nm lk st) {a b : Nat} (ha : a < 8) (hb : b < 8) {S0 : Nat → Int32} (h0 : JS up lk S0) {v : Int32 × (Nat → Int32)} (hm : MS up lk S0 v) : MS up lk S0 (b_M_shortenOnce_2 st (nI a) b v) ∧ (∀ i j, i < 8 → j < 8 → (b_M_shortenOnce_2 st (nI a) b v).2 (8 * i + j) ≤ v.2 (8 * i + j)) ∧ ∀ c, mG up lk b c → (b_M_shortenOnce_2 st (nI a) b v).2 (8 * a + c) ≤ S0 (8 * a + b) + 1 := by
  show MS up lk S0 (forN (b_M_shortenOnce_3 (nI b) st (nI a)) 0 8 v) ∧ (∀ i j, i < 8 → j < 8 → (forN (b_M_shortenOnce_3 (nI b) st (nI a)) 0 8 v).2 (8 * i + j) ≤ v.2 (8 * i + j)) ∧ ∀ c, mG up lk b c → (forN (b_M_shortenOnce_3 (nI b) st (nI a)) 0 8 v).2 (8 * a + c) ≤ S0 (8 * a + b) + 1
  have h1 := forN_ind (f := b_M_shortenOnce_3 (nI b) st (nI a)) (a := 0) (n := 8) (v := v) (fun _ u => MS up lk S0 u ∧ ∀ i j, i < 8 → j < 8 → u.2 (8 * i + j) ≤ v.2 (8 * i + j)) ⟨hm, fun _ _ _ _ => i32_rf _⟩ (fun j u hj hu => by
    rw [Nat.zero_add]
    obtain ⟨g1, g2, -⟩ := sh3 h ha hb hj h0 hu.1
    exact ⟨g1, fun i k hi hk => i32_le_trans (g2 i k hi hk) (hu.2 i k hi hk)⟩)
  refine ⟨h1.1, h1.2, fun c hg => ?_⟩
  have hc8 := (mG8 b c hg).2
  exact forN_hit (f := b_M_shortenOnce_3 (nI b) st (nI a)) (a := 0) (t := c) hc8 (fun u => MS up lk S0 u) (fun u => u.2 (8 * a + c) ≤ S0 (8 * a + b) + 1) hm (fun j u hj hu => by rw [Nat.zero_add]; exact (sh3 h ha hb hj h0 hu).1) (fun u hu => by rw [Nat.zero_add]; exact (sh3 h ha hb hc8 h0 hu).2.2 hg) (fun j u hj hu hq => by rw [Nat.zero_add]; exact i32_le_trans ((sh3 h ha hb hj h0 hu).2.1 a c ha hc8) hq)
theorem sh1 (h : Rel up nm lk st) {a : Nat} (ha : a < 8) {S0 : Nat → Int32} (h0 : JS up lk S0) {v : Int32 × (Nat → Int32)} (hm : MS up lk S0 v) : MS up lk S0 (b_M_shortenOnce_1 st a v) ∧ (∀ i j, i < 8 → j < 8 → (b_M_shortenOnce_1 st a v).2 (8 * i + j) ≤ v.2 (8 * i + j)) ∧ ∀ b c, mG up lk b c → (b_M_shortenOnce_1 st a v).2 (8 * a + c) ≤ S0 (8 * a + b) + 1 := by
  show MS up lk S0 (forN (b_M_shortenOnce_2 st (nI a)) 0 8 v) ∧ (∀ i j, i < 8 → j < 8 → (forN (b_M_shortenOnce_2 st (nI a)) 0 8 v).2 (8 * i + j) ≤ v.2 (8 * i + j)) ∧ ∀ b c, mG up lk b c → (forN (b_M_shortenOnce_2 st (nI a)) 0 8 v).2 (8 * a + c) ≤ S0 (8 * a + b) + 1
  have h1 := forN_ind (f := b_M_shortenOnce_2 st (nI a)) (a := 0) (n := 8) (v := v) (fun _ u => MS up lk S0 u ∧ ∀ i j, i < 8 → j < 8 → u.2 (8 * i + j) ≤ v.2 (8 * i + j)) ⟨hm, fun _ _ _ _ => i32_rf _⟩ (fun j u hj hu => by
    rw [Nat.zero_add]
    obtain ⟨g1, g2, -⟩ := sh2 h ha hj h0 hu.1
    exact ⟨g1, fun i k hi hk => i32_le_trans (g2 i k hi hk) (hu.2 i k hi hk)⟩)
  refine ⟨h1.1, h1.2, fun b c hg => ?_⟩
  obtain ⟨hb8, hc8⟩ := mG8 b c hg
  exact forN_hit (f := b_M_shortenOnce_2 st (nI a)) (a := 0) (t := b) hb8 (fun u => MS up lk S0 u) (fun u => u.2 (8 * a + c) ≤ S0 (8 * a + b) + 1) hm (fun j u hj hu => by rw [Nat.zero_add]; exact (sh2 h ha hj h0 hu).1) (fun u hu => by rw [Nat.zero_add]; exact (sh2 h ha hb8 h0 hu).2.2 c hg) (fun j u hj hu hq => by rw [Nat.zero_add]; exact i32_le_trans ((sh2 h ha hj h0 hu).2.1 a c ha hc8) hq)
theorem sh0 (h : Rel up nm lk st) {S0 : Nat → Int32} (h0 : JS up lk S0) : MS up lk S0 (f_M_shortenOnce st S0) ∧ ∀ a b c, a < 8 → mG up lk b c → (f_M_shortenOnce st S0).2 (8 * a + c) ≤ S0 (8 * a + b) + 1 := by
  show MS up lk S0 (forN (b_M_shortenOnce_1 st) 0 8 (0, S0)) ∧ ∀ a b c, a < 8 → mG up lk b c → (forN (b_M_shortenOnce_1 st) 0 8 (0, S0)).2 (8 * a + c) ≤ S0 (8 * a + b) + 1
  have hm : MS up lk S0 (0, S0) := ⟨h0, fun _ _ _ _ => i32_rf _, Or.inl ⟨rfl, fun _ _ _ _ => rfl⟩⟩
  refine ⟨forN_ind (f := b_M_shortenOnce_1 st) (a := 0) (n := 8) (v := (0, S0)) (fun _ u => MS up lk S0 u) hm (fun j u hj hu => by rw [Nat.zero_add]; exact (sh1 h hj h0 hu).1), fun a b c ha hg => ?_⟩
  have hc8 := (mG8 b c hg).2
  exact forN_hit (f := b_M_shortenOnce_1 st) (a := 0) (t := a) ha (fun u => MS up lk S0 u) (fun u => u.2 (8 * a + c) ≤ S0 (8 * a + b) + 1) hm (fun j u hj hu => by rw [Nat.zero_add]; exact (sh1 h hj h0 hu).1) (fun u hu => by rw [Nat.zero_add]; exact (sh1 h ha h0 hu).2.2 b c hg) (fun j u hj hu hq => by rw [Nat.zero_add]; exact i32_le_trans ((sh1 h hj h0 hu).2.1 a c ha hc8) hq)
theorem P_sh (h : Rel up nm lk st) {S0 : Nat → Int32} (h0 : JS up lk S0) : P_M_shortenOnce st S0 := by
  refine ⟨fun a ha => ⟨fun b hb => ⟨fun c hc => ?_, trivial⟩, trivial⟩, ?_, trivial⟩
  · rw [Nat.zero_add, Nat.zero_add, Nat.zero_add]
    refine ⟨P_cnt hb hc st, ⟨fun _ => trivial, fun _ => ⟨by rw [ix2 ha hb]; exact in64 (by omega), by rw [ix2 ha hc]; exact in64 (by omega), ⟨fun _ => trivial, fun _ => ⟨by rw [ix2 ha hb]; exact in64 (by omega), by rw [ix2 ha hc]; exact in64 (by omega), trivial⟩⟩, trivial⟩⟩, trivial⟩
  · rcases (sh0 h h0).1.2.2 with ⟨q, -⟩ | ⟨q, -⟩
    · have q' : (forN (b_M_shortenOnce_1 st) 0 8 (0, S0)).1 = 0 := q
      rw [q']; rfl
    · have q' : (forN (b_M_shortenOnce_1 st) 0 8 (0, S0)).1 = 1 := q
      rw [q']; rfl
end M

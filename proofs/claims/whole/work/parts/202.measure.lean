theorem iFrl {V X : Type} {c : Prop} {x : X} {y : V ⊕ X} {u : V} (h : iF c (.inr x) y = .inl u) : ¬ c ∧ y = .inl u := by
  by_cases hc : c
  · rw [iF_pos hc] at h; cases h
  · rw [iF_neg hc] at h; exact ⟨hc, h⟩
theorem iFrr {V X : Type} {c : Prop} {x z : X} {y : V ⊕ X} (h : iF c (.inr x) y = .inr z) : (c ∧ x = z) ∨ (¬ c ∧ y = .inr z) := by
  by_cases hc : c
  · rw [iF_pos hc] at h; cases h; exact Or.inl ⟨hc, rfl⟩
  · rw [iF_neg hc] at h; exact Or.inr ⟨hc, h⟩
theorem leN {a j : Nat} (ha : a < 2048) (hj : j < 2048) : (nI a ≤ nI j) ↔ a ≤ j := nI_leI (by omega) (by omega)
theorem ltN {a j : Nat} (ha : a < 2048) (hj : j < 2048) : (nI a < nI j) ↔ a < j := nI_ltI (by omega) (by omega)
theorem le8 {j : Nat} (hj : j < 2048) : ((8 : Int32) ≤ nI j) ↔ 8 ≤ j := leN (a := 8) (by decide) hj
/-- who is up, who is by whom -/
def mU (up : Int32) (n : Nat) : Prop := n < 8 ∧ bt up n = true
def mG (up : Int32) (lk : Nat → Int32) (a b : Nat) : Prop := a < 8 ∧ b < 8 ∧ bt up a = true ∧ bt up b = true ∧ bt (lk a) b = true
theorem mU8 {up : Int32} (a : Nat) (h : mU up a) : a < 8 := h.1
theorem mG8 {up : Int32} {lk : Nat → Int32} (a b : Nat) (h : mG up lk a b) : a < 8 ∧ b < 8 := ⟨h.1, h.2.1⟩
theorem mGU {up : Int32} {lk : Nat → Int32} (a b : Nat) (h : mG up lk a b) : mU up a ∧ mU up b := ⟨⟨h.1, h.2.2.1⟩, ⟨h.2.1, h.2.2.2.1⟩⟩
noncomputable abbrev mD (up : Int32) (lk : Nat → Int32) (a b : Nat) : Nat := dd (mU up) (mG up lk) a b
section MD
variable {up : Int32} {lk : Nat → Int32}
theorem mD_step {a b c : Nat} (hb : mD up lk a b < 1000) (h : mG up lk b c) : mD up lk a c ≤ mD up lk a b + 1 := dd_step mU8 mG8 hb h
theorem mD_cases (up : Int32) (lk : Nat → Int32) (a b : Nat) : (mD up lk a b < 8 ∧ Wk (mU up) (mG up lk) a (mD up lk a b) b) ∨ (mD up lk a b = 1000 ∧ ∀ k, ¬ Wk (mU up) (mG up lk) a k b) := dd_cases mU8 mG8 a b
theorem mD_pred {a b k : Nat} (hd : mD up lk a b = k + 1) (hk : k < 900) : ∃ c, c < 8 ∧ mG up lk c b ∧ mD up lk a c = k := by
  rcases mD_cases up lk a b with ⟨-, w⟩ | ⟨w, -⟩
  · rw [hd] at w
    obtain ⟨c, w1, w2, w3⟩ := dd_pred w hd
    exact ⟨c, (mG8 c b w2).1, w2, w3⟩
  · omega
theorem mD_self {a : Nat} (h : mU up a) : mD up lk a a = 0 := dd_self h
theorem mD_0 {a b : Nat} (hd : mD up lk a b = 0) : b = a ∧ mU up a := dd_0 hd
theorem mD_level {a b k : Nat} (h : mD up lk a b < 1000) (hk : k ≤ mD up lk a b) : ∃ c, c < 8 ∧ mD up lk a c = k := by
  rcases mD_cases up lk a b with ⟨-, w⟩ | ⟨w, -⟩
  · obtain ⟨c, l1, -, l3⟩ := dd_levels mU8 mG8 _ b w rfl k hk
    exact ⟨c, l1, l3⟩
  · omega
theorem mD_near {a b : Nat} (h0 : 0 < mD up lk a b) (h8 : mD up lk a b < 1000) : ∃ c, c < 8 ∧ mG up lk a c ∧ mD up lk c b + 1 = mD up lk a b := dd_near mU8 mG8 mGU h0 h8
theorem mD_8 {a b : Nat} (h : mD up lk a b < 1000) : mD up lk a b < 8 := by
  rcases mD_cases up lk a b with ⟨w, -⟩ | ⟨w, -⟩ <;> omega
theorem mD_up {a b : Nat} (h : mD up lk a b < 1000) : mU up a ∧ mU up b := by
  rcases mD_cases up lk a b with ⟨-, w⟩ | ⟨w, -⟩
  · generalize mD up lk a b = k at w
    clear h
    induction k generalizing b with
    | zero => obtain ⟨rfl, h⟩ := w; exact ⟨h, h⟩
    | succ k ih => obtain ⟨c, h1, h2⟩ := w; exact ⟨(ih h1).1, (mGU c b h2).2⟩
  · omega
end MD
theorem isUp_0 {n : Nat} (hn : n < 8) (up : Int32) : (f_Mesh_isUp (nI n) up = 0) ↔ bt up n = false := has_0 hn up
theorem nb_bt {up : Int32} {lk : Nat → Int32} {a : Nat} (ha : a < 8) (b : Nat) : bt (f_Mesh_neighbours (nI a) up lk) b = (bt up a && (bt (lk a) b && bt up b)) := by
  unfold f_Mesh_neighbours
  cases h : bt up a
  · rw [iF_pos ((isUp_0 ha up).mpr h), b_0]; rfl
  · rw [iF_neg (fun q => by rw [(isUp_0 ha up).mp q] at h; cases h), b_and, cl (by omega)]; rfl
theorem nb_S8 {up : Int32} {lk : Nat → Int32} {a : Nat} (ha : a < 8) (hu : S8 up) : S8 (f_Mesh_neighbours (nI a) up lk) := fun i hi => by rw [nb_bt ha, hu i hi, Bool.and_false, Bool.and_false]
theorem nb_G {up : Int32} {lk : Nat → Int32} {a b : Nat} (ha : a < 8) (hb : b < 8) : bt (f_Mesh_neighbours (nI a) up lk) b = true ↔ mG up lk a b := by
  rw [nb_bt ha]
  unfold mG
  cases bt up a <;> cases bt up b <;> cases bt (lk a) b <;> simp [ha, hb]
theorem noa {up : Int32} {lk : Nat → Int32} (hu : S8 up) (E : Int32) : S8 (f_Mesh_neighboursOfAll E up lk) ∧ ∀ b, b < 8 → (bt (f_Mesh_neighboursOfAll E up lk) b = true ↔ ∃ c, c < 8 ∧ bt E c = true ∧ mG up lk c b) := by
  have h := forN_ind (f := b_Mesh_neighboursOfAll_1 E up lk) (a := 0) (n := 8) (v := 0) (fun j v => S8 v ∧ ∀ b, b < 8 → (bt v b = true ↔ ∃ c, c < j ∧ bt E c = true ∧ mG up lk c b)) ⟨S8_0, fun b _ => ⟨fun h => (by rw [b_0] at h; cases h), fun ⟨c, h, _⟩ => (by omega)⟩⟩ (fun j v hj h => by
    obtain ⟨h1, h2⟩ := h
    rw [Nat.zero_add]
    unfold b_Mesh_neighboursOfAll_1
    cases hE : bt E j
    · rw [iF_pos ((has_0 hj E).mpr hE)]
      refine ⟨h1, fun b hb => (h2 b hb).trans ⟨fun ⟨c, a1, a2⟩ => ⟨c, by omega, a2⟩, fun ⟨c, a1, a2⟩ => ⟨c, ?_, a2⟩⟩⟩
      by_cases e : c = j
      · subst e; rw [hE] at a2; cases a2.1
      · omega
    · rw [iF_neg (fun q => by rw [(has_0 hj E).mp q] at hE; cases hE)]
      refine ⟨S8_or h1 (nb_S8 hj hu), fun b hb => ?_⟩
      rw [b_or, Bool.or_eq_true, h2 b hb, nb_G hj hb]
      constructor
      · rintro (⟨c, a1, a2⟩ | a)
        · exact ⟨c, by omega, a2⟩
        · exact ⟨j, by omega, hE, a⟩
      · rintro ⟨c, a1, a2⟩
        by_cases e : c = j
        · subst e; exact Or.inr a2.2
        · exact Or.inl ⟨c, by omega, a2⟩)
  exact h
theorem P_nb {up : Int32} {lk : Nat → Int32} {a : Nat} (ha : a < 8) : P_Mesh_neighbours (nI a) up lk := ⟨⟨fun _ => trivial, fun _ => ⟨in8 ha, trivial⟩⟩, trivial⟩
theorem P_noa (up : Int32) (lk : Nat → Int32) (E : Int32) : P_Mesh_neighboursOfAll E up lk := ⟨fun q hq => by
  rw [Nat.zero_add]
  exact ⟨⟨fun _ => trivial, fun _ => ⟨P_nb hq, trivial⟩⟩, trivial⟩, trivial⟩
/-- a row of a table of pairs, and the others as they were -/
def rowIs (S S0 : Nat → Int32) (a : Nat) (F : Nat → Int32) : Prop := (∀ b, b < 8 → S (8 * a + b) = F b) ∧ ∀ i, (i < 8 * a ∨ 8 * a + 8 ≤ i) → S i = S0 i
theorem rowIs_set {S S0 : Nat → Int32} {a b : Nat} {F F' : Nat → Int32} (h : rowIs S S0 a F) (hb : b < 8) {x : Int32} (hF : ∀ c, c < 8 → F' c = if c = b then x else F c) : rowIs (upd S (8 * a + b) x) S0 a F' := by
  refine ⟨fun c hc => ?_, fun i hi => ?_⟩
  · rw [upd_eq, hF c hc]
    by_cases e : c = b
    · rw [if_pos e, if_pos (by omega)]
    · rw [if_neg e, if_neg (by omega), h.1 c hc]
  · rw [upd_eq, if_neg (by omega), h.2 i hi]
theorem rowIs_to {S S0 : Nat → Int32} {a : Nat} {F F' : Nat → Int32} (h : rowIs S S0 a F) (hF : ∀ c, c < 8 → F' c = F c) : rowIs S S0 a F' := ⟨fun c hc => by rw [h.1 c hc, hF c hc], h.2⟩
theorem rowIs_rf (S : Nat → Int32) (a : Nat) : rowIs S S a (fun b => S (8 * a + b)) := ⟨fun _ _ => rfl, fun _ _ => rfl⟩
theorem rowIs_tr {S S1 S0 : Nat → Int32} {a : Nat} {F F1 : Nat → Int32} (h : rowIs S S1 a F) (h1 : rowIs S1 S0 a F1) : rowIs S S0 a F := ⟨h.1, fun i hi => by rw [h.2 i hi, h1.2 i hi]⟩
theorem note_spec {a d : Nat} (ha : a < 8) (hd : d < 8) (E : Int32) (S : Nat → Int32) : rowIs (f_Paths_noteSteps (nI a) E (nI d) S) S a (fun b => if bt E b then nI d else S (8 * a + b)) := by
  have h := forN_ind (f := b_Paths_noteSteps_1 E (nI a) (nI d)) (a := 0) (n := 8) (v := S) (fun j v => rowIs v S a (fun b => if b < j ∧ bt E b = true then nI d else S (8 * a + b))) (rowIs_to (rowIs_rf S a) (fun c _ => by rw [if_neg (by omega)])) (fun j v hj h => by
    rw [Nat.zero_add]
    unfold b_Paths_noteSteps_1
    cases hE : bt E j
    · rw [iF_pos ((has_0 hj E).mpr hE)]
      refine rowIs_to h (fun c hc => ?_)
      by_cases e : c = j
      · subst e; rw [if_neg (by rw [hE]; simp), if_neg (by omega)]
      · by_cases e2 : c < j ∧ bt E c = true
        · rw [if_pos e2, if_pos ⟨by omega, e2.2⟩]
        · rw [if_neg e2, if_neg (fun q => e2 ⟨by omega, q.2⟩)]
    · rw [iF_neg (fun q => by rw [(has_0 hj E).mp q] at hE; cases hE), ix1 ha hj, cl (by omega)]
      refine rowIs_set h hj (fun c hc => ?_)
      by_cases e : c = j
      · subst e; rw [if_pos ⟨by omega, hE⟩, if_pos rfl]
      · rw [if_neg e]
        by_cases e2 : c < j ∧ bt E c = true
        · rw [if_pos e2, if_pos ⟨by omega, e2.2⟩]
        · rw [if_neg e2, if_neg (fun q => e2 ⟨by omega, q.2⟩)])
  refine rowIs_to h (fun c hc => ?_)
  cases hE : bt E c
  · rw [if_neg (by simp), if_neg (by simp)]
  · rw [if_pos rfl, if_pos ⟨hc, rfl⟩]
theorem P_note {a : Nat} (ha : a < 8) (d E : Int32) (S : Nat → Int32) : P_Paths_noteSteps (nI a) E d S := ⟨fun q hq => by
  rw [Nat.zero_add]
  exact ⟨⟨fun _ => trivial, fun _ => ⟨by rw [ix1 ha hq]; exact in64 (by omega), trivial⟩⟩, trivial⟩, trivial⟩
theorem clear_spec {f : Int32 → Nat → (Nat → Int32) → (Nat → Int32)} (hf : ∀ p j v, f p j v = upd v ((p * 8) + (nI j)).toNatClampNeg (-6)) {a : Nat} (ha : a < 8) (S : Nat → Int32) : ∀ n, n ≤ 8 → rowIs (forN (f (nI a)) 0 n S) S a (fun b => if b < n then -6 else S (8 * a + b)) := by
  intro n
  induction n with
  | zero => intro _; rw [forN_0]; exact rowIs_to (rowIs_rf S a) (fun c _ => by rw [if_neg (by omega)])
  | succ n ih =>
    intro hn
    rw [forN_s, Nat.zero_add, hf, ix1 ha (by omega), cl (by omega)]
    refine rowIs_set (ih (by omega)) (by omega) (fun c hc => ?_)
    by_cases e : c = n
    · rw [if_pos (by omega), if_pos e]
    · rw [if_neg e]
      by_cases e2 : c < n
      · rw [if_pos e2, if_pos (by omega)]
      · rw [if_neg e2, if_neg (by omega)]
/-- what the class notes of a pair -/
noncomputable def stC (up : Int32) (lk : Nat → Int32) (a b : Nat) : Int32 := if mD up lk a b < 1000 then nI (mD up lk a b) else -6
def mP (up : Int32) (lk : Nat → Int32) (a : Nat) (S0 : Nat → Int32) (j : Nat) (v : Int32 × Int32 × (Nat → Int32)) : Prop := j ≤ 8 ∧ S8 v.1 ∧ S8 v.2.1 ∧ (∀ b, b < 8 → (bt v.1 b = true ↔ mD up lk a b < j)) ∧ (∀ b, b < 8 → (bt v.2.1 b = true ↔ mD up lk a b = j)) ∧ rowIs v.2.2 S0 a (fun b => if mD up lk a b < j then nI (mD up lk a b) else -6)
theorem mP_0 {up : Int32} {lk : Nat → Int32} {a : Nat} (ha : a < 8) (S0 : Nat → Int32) : mP up lk a S0 0 (0, (up &&& (f_C_bit (nI a))), (forN (b_Paths_measureFrom_1 (nI a)) 0 8 S0)) := by
  refine ⟨by omega, S8_0, S8_and' (S8_bit ha), fun b _ => ⟨fun h => (by rw [b_0] at h; cases h), fun h => (by omega)⟩, fun b hb => ?_, rowIs_to (clear_spec (f := b_Paths_measureFrom_1) (fun _ _ _ => rfl) ha S0 8 (Nat.le_refl 8)) (fun c hc => by rw [if_neg (by omega), if_pos hc])⟩
  show bt (up &&& f_C_bit (nI a)) b = true ↔ _
  rw [b_and, b_bit ha, Bool.and_eq_true, decide_eq_true_eq]
  constructor
  · rintro ⟨h1, rfl⟩
    exact dd_self ⟨ha, h1⟩
  · intro h
    obtain ⟨rfl, h2⟩ := dd_0 h
    exact ⟨h2.2, rfl⟩
theorem mP_s {up : Int32} {lk : Nat → Int32} (hu : S8 up) {a : Nat} (ha : a < 8) (S0 : Nat → Int32) (j : Nat) (v v' : Int32 × Int32 × (Nat → Int32)) (h : mP up lk a S0 j v) (hf : b_Paths_measureFrom_2 up lk (nI a) (0 + j) v = .inl v') : mP up lk a S0 (j + 1) v' := by
  obtain ⟨h0, h1, h2, h3, h4, h5⟩ := h
  unfold b_Paths_measureFrom_2 at hf
  rw [Nat.zero_add] at hf
  obtain ⟨c1, hf⟩ := iFrl hf
  obtain ⟨c2, hf⟩ := iFrl hf
  rw [le8 (by omega)] at c1
  cases hf
  obtain ⟨n1, n2⟩ := noa (lk := lk) hu v.2.1
  refine ⟨by omega, S8_or h1 h2, S8_and n1, fun b hb => ?_, fun b hb => ?_, ?_⟩
  · show bt (v.1 ||| v.2.1) b = true ↔ _
    rw [b_or, Bool.or_eq_true, h3 b hb, h4 b hb]
    omega
  · show bt (f_Mesh_neighboursOfAll v.2.1 up lk &&& ((v.1 ||| v.2.1) ^^^ -1)) b = true ↔ _
    rw [b_and, b_not _ (by omega), b_or, Bool.and_eq_true, n2 b hb]
    have e1 : (!(bt v.1 b || bt v.2.1 b)) = true ↔ ¬ mD up lk a b < j + 1 := by
      rw [Bool.not_eq_true', Bool.or_eq_false_iff]
      have a1 := h3 b hb
      have a2 := h4 b hb
      cases hb1 : bt v.1 b <;> cases hb2 : bt v.2.1 b <;> simp only [hb1, hb2] at a1 a2 <;> simp at a1 a2 ⊢ <;> omega
    rw [e1]
    constructor
    · rintro ⟨⟨c, c1', c2', c3'⟩, h6⟩
      have h7 := (h4 c c1').mp c2'
      have h8 := mD_step (a := a) (b := c) (c := b) (by omega) c3'
      omega
    · intro h6
      refine ⟨?_, by omega⟩
      obtain ⟨c, w1, w2, w3⟩ := mD_pred h6 (by omega)
      exact ⟨c, w1, (h4 c w1).mpr w3, w2⟩
  · refine rowIs_to (rowIs_tr (note_spec ha (by omega) v.2.1 v.2.2) h5) (fun b hb => ?_)
    show (if mD up lk a b < j + 1 then nI (mD up lk a b) else -6) = if bt v.2.1 b then nI j else v.2.2 (8 * a + b)
    rw [show v.2.2 (8 * a + b) = (if mD up lk a b < j then nI (mD up lk a b) else -6) from h5.1 b hb]
    have a2 := h4 b hb
    cases hb2 : bt v.2.1 b
    · rw [hb2] at a2
      have a3 : ¬ mD up lk a b = j := fun q => (by have := a2.mpr q; cases this)
      rw [if_neg (show ¬ (false = true) by decide)]
      by_cases e : mD up lk a b < j
      · rw [if_pos e, if_pos (by omega)]
      · rw [if_neg e, if_neg (by omega)]
    · rw [hb2] at a2
      have a3 : mD up lk a b = j := a2.mp rfl
      rw [if_pos rfl, if_pos (by omega), a3]
/-- measureFrom: its own row and part, the others as they were -/
theorem measure_spec {up : Int32} {lk : Nat → Int32} (hu : S8 up) {a : Nat} (ha : a < 8) (parts S : Nat → Int32) : P_Paths_measureFrom (nI a) parts up lk S ∧ (∃ R, (f_Paths_measureFrom (nI a) parts up lk S).1 = upd parts a R ∧ S8 R ∧ ∀ b, b < 8 → (bt R b = true ↔ mD up lk a b < 1000)) ∧ rowIs (f_Paths_measureFrom (nI a) parts up lk S).2 S a (stC up lk a) := by
  obtain ⟨i1, i2⟩ := forX_inv (f := b_Paths_measureFrom_2 up lk (nI a)) (a := 0) (n := 9) (mP up lk a S) (mP_0 ha S) (fun j u u' _ h hf => mP_s hu ha S j u u' h hf)
  have hend := forX_end (f := b_Paths_measureFrom_2 up lk (nI a)) (a := 0) (n := 9) (N := 8) (mP up lk a S) (mP_0 ha S) (fun j u u' _ h hf => mP_s hu ha S j u u' h hf) (by decide) (fun u hu => ⟨_, iF_pos ((le8 (by decide)).mpr (by decide))⟩)
  obtain ⟨x, hx⟩ := id hend
  obtain ⟨j, u, hj, ⟨p0, p1, p2, p3, p4, p5⟩, -, hfx⟩ := i2 x hx
  have hxu : x = u ∧ (j = 8 ∨ u.2.1 = 0) := by
    unfold b_Paths_measureFrom_2 at hfx
    rw [Nat.zero_add] at hfx
    rcases iFrr hfx with ⟨c1, c2⟩ | ⟨c1, hfx⟩
    · rw [le8 (by omega)] at c1
      exact ⟨c2.symm, Or.inl (by omega)⟩
    · rcases iFrr hfx with ⟨c1, c2⟩ | ⟨c1, hfx⟩
      · exact ⟨c2.symm, Or.inr c1⟩
      · cases hfx
  obtain ⟨rfl, hex⟩ := hxu
  have hall : ∀ b, mD up lk a b < j ↔ mD up lk a b < 1000 := by
    intro b
    refine ⟨fun h => by omega, fun h => ?_⟩
    rcases hex with e | e
    · rw [e]; exact mD_8 h
    · rcases Nat.lt_or_ge (mD up lk a b) j with q | q
      · exact q
      · exfalso
        obtain ⟨c, l1, l3⟩ := mD_level h q
        have l4 := (p4 c l1).mpr l3
        rw [e, b_0] at l4
        cases l4
  have hres : unX (forX (b_Paths_measureFrom_2 up lk (nI a)) 0 9 (0, (up &&& (f_C_bit (nI a))), (forN (b_Paths_measureFrom_1 (nI a)) 0 8 S))) = x := by rw [hx]; rfl
  refine ⟨⟨fun q hq => ?_, hend, fun q u hq hfq => ?_, in8 ha, trivial⟩, ⟨x.1, ?_, p1, fun b hb => (p3 b hb).trans (hall b)⟩, ?_⟩
  · rw [Nat.zero_add]
    exact ⟨by rw [ix1 ha hq]; exact in64 (by omega), trivial⟩
  · rw [Nat.zero_add]
    refine ⟨⟨fun _ => trivial, fun _ => ⟨⟨fun _ => trivial, fun _ => ⟨P_note ha _ _ _, P_noa up lk _, trivial⟩⟩, trivial⟩⟩, trivial⟩
  · show upd parts (nI a).toNatClampNeg _ = _
    rw [hres, cl (by omega)]
  · show rowIs (unX (forX (b_Paths_measureFrom_2 up lk (nI a)) 0 9 (0, (up &&& (f_C_bit (nI a))), (forN (b_Paths_measureFrom_1 (nI a)) 0 8 S)))).2.2 S a _
    rw [hres]
    refine rowIs_to p5 (fun b hb => ?_)
    unfold stC
    by_cases e : mD up lk a b < 1000
    · rw [if_pos e, if_pos ((hall b).mpr e)]
    · rw [if_neg e, if_neg (fun q => e ((hall b).mp q))]

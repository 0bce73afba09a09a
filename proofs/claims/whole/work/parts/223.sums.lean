/-! sums -/
def sm (f : Nat → Nat) : Nat → Nat
  | 0 => 0
  | n + 1 => sm f n + f n
theorem sm_congr {f g : Nat → Nat} : ∀ {n : Nat}, (∀ j, j < n → f j = g j) → sm f n = sm g n
  | 0, _ => rfl
  | n + 1, h => by
    show sm f n + f n = sm g n + g n
    rw [sm_congr (n := n) (fun j hj => h j (by omega)), h n (by omega)]
theorem sm_add (f g : Nat → Nat) : ∀ n, sm (fun j => f j + g j) n = sm f n + sm g n
  | 0 => rfl
  | n + 1 => by
    show sm (fun j => f j + g j) n + (f n + g n) = (sm f n + f n) + (sm g n + g n)
    rw [sm_add f g n]; omega
theorem sm_0 {f : Nat → Nat} : ∀ {n : Nat}, (∀ j, j < n → f j = 0) → sm f n = 0
  | 0, _ => rfl
  | n + 1, h => by
    show sm f n + f n = 0
    rw [sm_0 (n := n) (fun j hj => h j (by omega)), h n (by omega)]
theorem sm_le {f : Nat → Nat} {c : Nat} : ∀ {n : Nat}, (∀ j, j < n → f j ≤ c) → sm f n ≤ n * c
  | 0, _ => by show 0 ≤ _; omega
  | n + 1, h => by
    show sm f n + f n ≤ (n + 1) * c
    have h1 := sm_le (n := n) (fun j hj => h j (by omega))
    have h2 := h n (by omega)
    rw [Nat.succ_mul]; omega
theorem cn_sm (p : Nat → Bool) : ∀ n, cn p n = sm (fun j => if p j then 1 else 0) n
  | 0 => rfl
  | n + 1 => by
    show cn p n + _ = sm _ n + _
    rw [cn_sm p n]
/-- a table that is the same both ways is twice its upper half -/
theorem sm_half {T : Nat → Nat → Nat} : ∀ {n : Nat}, (∀ a b, a < n → b < n → T a b = T b a) → (∀ a, a < n → T a a = 0) → sm (fun a => sm (T a) n) n = 2 * sm (fun a => sm (fun b => if a < b then T a b else 0) n) n
  | 0, _, _ => rfl
  | n + 1, hs, hd => by
    have ih := sm_half (T := T) (n := n) (fun a b ha hb => hs a b (by omega) (by omega)) (fun a ha => hd a (by omega))
    show sm (fun a => sm (T a) n + T a n) n + (sm (T n) n + T n n) = 2 * (sm (fun a => sm (fun b => if a < b then T a b else 0) n + (if a < n then T a n else 0)) n + (sm (fun b => if n < b then T n b else 0) n + (if n < n then T n n else 0)))
    rw [sm_add, sm_add, ih, hd n (by omega), if_neg (show ¬ n < n by omega)]
    have e1 : sm (fun b => if n < b then T n b else 0) n = 0 := sm_0 (fun j hj => if_neg (by omega))
    have e2 : sm (fun a => if a < n then T a n else 0) n = sm (fun a => T a n) n := sm_congr (fun j hj => if_pos hj)
    have e3 : sm (T n) n = sm (fun a => T a n) n := sm_congr (fun j hj => hs n j (by omega) (by omega))
    rw [e1, e2, e3]; omega
theorem sm_flat (f : Nat → Nat) : ∀ n, sm f (8 * n) = sm (fun a => sm (fun b => f (8 * a + b)) 8) n
  | 0 => rfl
  | n + 1 => by
    show sm f (8 * n + 8) = sm (fun a => sm (fun b => f (8 * a + b)) 8) n + sm (fun b => f (8 * n + b)) 8
    rw [← sm_flat f n]
    simp only [sm, Nat.add_zero, Nat.zero_add]
    omega
theorem sum_spec {f : Nat → Int32 → Int32} {g : Nat → Nat} {n : Nat} (h : ∀ j v, j < n → f j v = v + nI (g j)) : forN f 0 n 0 = nI (sm g n) := by
  refine forN_ind (f := f) (a := 0) (n := n) (v := 0) (fun j v => v = nI (sm g j)) rfl (fun j v hj hv => ?_)
  rw [Nat.zero_add, h j v hj, hv, nI_add]
  rfl
theorem half_nI : ∀ k, k < 256 → nI (2 * k) / 2 = nI k := by decide +kernel
theorem half_spec {T : Nat → Nat → Nat} (hs : ∀ a b, a < 8 → b < 8 → T a b = T b a) (hd : ∀ a, a < 8 → T a a = 0) (h1 : ∀ a b, a < 8 → b < 8 → T a b ≤ 1) {f : Nat → Int32 → Int32} (hf : ∀ j v, j < 8 → f j v = v + nI (sm (T j) 8)) : forN f 0 8 0 / 2 = nI (sm (fun a => sm (fun b => if a < b then T a b else 0) 8) 8) := by
  rw [sum_spec (g := fun j => sm (T j) 8) hf, sm_half hs hd]
  refine half_nI _ ?_
  have := sm_le (f := fun a => sm (fun b => if a < b then T a b else 0) 8) (c := 8) (n := 8) (fun a ha => by
    have := sm_le (f := fun b => if a < b then T a b else 0) (c := 1) (n := 8) (fun b hb => by
      by_cases q : a < b
      · simp only [q, if_true]; exact h1 a b ha hb
      · simp only [q, if_false]; omega)
    omega)
  omega
section M
variable {up : Int32} {nm lk st : Nat → Int32}
theorem links_spec (hR : Rel up nm lk st) : P_M_links st ∧ f_Mesh_countLinks lk = f_M_links st := by
  refine ⟨⟨fun q hq => ?_, trivial⟩, ?_⟩
  · rw [Nat.zero_add]
    exact ⟨by rw [s_nI]; exact in80 (by omega), trivial⟩
  · have e1 : f_Mesh_countLinks lk = nI (sm (fun a => sm (fun b => if a < b then (if bt (lk a) b then 1 else 0) else 0) 8) 8) := by
      unfold f_Mesh_countLinks
      refine half_spec (T := fun a b => if bt (lk a) b then 1 else 0) (fun a b ha hb => by
        show (if bt (lk a) b then 1 else 0) = (if bt (lk b) a then 1 else 0)
        rw [hR.2.2.2.2.2.2.2.1 a b ha hb]) (fun a ha => by
        show (if bt (lk a) a then 1 else 0) = 0
        rw [hR.2.2.2.2.2.2.2.2 a ha]; rfl) (fun a b ha hb => by
        show (if bt (lk a) b then 1 else 0) ≤ 1
        split <;> omega) (fun j v hj => ?_)
      unfold b_Mesh_countLinks_1
      rw [cl (by omega), bc_eq (hR.2.1 j hj), cn_sm]
    rw [e1]
    unfold f_M_links
    rw [sum_spec (f := b_M_links_1 st) (n := 64) (g := fun j => if j / 8 < j % 8 then (if bt (lk (j / 8)) (j % 8) then 1 else 0) else 0) (fun j v hj => ?_)]
    · rw [show (64 : Nat) = 8 * 8 from rfl, sm_flat]
      refine congrArg nI (sm_congr (fun a ha => sm_congr (fun b hb => ?_)))
      show _ = if (8 * a + b) / 8 < (8 * a + b) % 8 then (if bt (lk ((8 * a + b) / 8)) ((8 * a + b) % 8) then 1 else 0) else 0
      rw [show (8 * a + b) / 8 = a by omega, show (8 * a + b) % 8 = b by omega]
    · unfold b_M_links_1
      rw [s_nI, cl (by omega)]
      congr 1
      have e : j = 8 * (j / 8) + j % 8 := by omega
      by_cases q : j / 8 < j % 8
      · have := hR.2.2.2.2.2.1 (j / 8) (j % 8) (by omega) (by omega) q
        rw [← e] at this
        rw [this, if_pos q]
        cases bt (lk (j / 8)) (j % 8) <;> rfl
      · have := hR.2.2.2.2.2.2.1 (j / 8) (j % 8) (by omega) (by omega) q
        rw [← e] at this
        rw [this, if_neg q]; rfl
theorem counting_spec (hR : Rel up nm lk st) : P_Mesh_countLinksThatCount up lk ∧ P_M_counting st ∧ f_Mesh_countLinksThatCount up lk = f_M_counting st := by
  refine ⟨⟨fun q hq => ?_, trivial⟩, ⟨fun q hq => ⟨fun r hr => ?_, trivial⟩, trivial⟩, ?_⟩
  · rw [Nat.zero_add]; exact ⟨P_nb hq, trivial⟩
  · rw [Nat.zero_add] at hr
    rw [Nat.zero_add]; exact ⟨P_cnt hq (by omega) st, trivial⟩
  · have e1 : f_Mesh_countLinksThatCount up lk = nI (sm (fun a => sm (fun b => if a < b then (if bt (f_Mesh_neighbours (nI a) up lk) b then 1 else 0) else 0) 8) 8) := by
      unfold f_Mesh_countLinksThatCount
      refine half_spec (T := fun a b => if bt (f_Mesh_neighbours (nI a) up lk) b then 1 else 0) (fun a b ha hb => by
        show (if bt (f_Mesh_neighbours (nI a) up lk) b then 1 else 0) = (if bt (f_Mesh_neighbours (nI b) up lk) a then 1 else 0)
        rw [nb_bt ha, nb_bt hb, hR.2.2.2.2.2.2.2.1 a b ha hb]
        cases bt up a <;> cases bt up b <;> cases bt (lk b) a <;> rfl) (fun a ha => by
        show (if bt (f_Mesh_neighbours (nI a) up lk) a then 1 else 0) = 0
        rw [nb_bt ha, hR.2.2.2.2.2.2.2.2 a ha]
        cases bt up a <;> rfl) (fun a b ha hb => by
        show (if bt (f_Mesh_neighbours (nI a) up lk) b then 1 else 0) ≤ 1
        split <;> omega) (fun j v hj => ?_)
      unfold b_Mesh_countLinksThatCount_1
      rw [bc_eq (nb_S8 hj hR.1), cn_sm]
    rw [e1]
    unfold f_M_counting
    symm
    refine sum_spec (f := b_M_counting_1 st) (fun j v hj => ?_)
    unfold b_M_counting_1
    have key : ∀ q, q ≤ 8 - (j + 1) → forN (b_M_counting_2 (nI j) st) (j + 1) q v = v + nI (sm (fun b => if j < b then (if bt (f_Mesh_neighbours (nI j) up lk) b then 1 else 0) else 0) (j + 1 + q)) := by
      intro q
      induction q with
      | zero =>
        intro _
        rw [forN_0, sm_0 (fun b hb => if_neg (by omega))]
        exact (Int32.add_zero v).symm
      | succ q ih =>
        intro hq
        rw [forN_s, ih (by omega)]
        show _ = v + nI (sm _ (j + 1 + q) + (if j < j + 1 + q then (if bt (f_Mesh_neighbours (nI j) up lk) (j + 1 + q) then 1 else 0) else 0))
        rw [if_pos (show j < j + 1 + q by omega), ← nI_add]
        unfold b_M_counting_2
        rw [Int32.add_assoc]
        congr 2
        cases hb : bt (f_Mesh_neighbours (nI j) up lk) (j + 1 + q)
        · rw [iF_pos ((counts_0 hR hj (by omega)).mpr (fun g => by rw [(nb_G hj (by omega)).mpr g] at hb; cases hb))]; rfl
        · rw [iF_neg (fun g => (counts_0 hR hj (by omega)).mp g ((nb_G hj (by omega)).mp hb))]; rfl
    rw [key _ (Nat.le_refl _), show j + 1 + (8 - (j + 1)) = 8 by omega]
end M

/-! the small machine's values and cells in the heap: cell k lies at B.1 + k, the script at B.2 -/
def mV (B : Nat × Nat) : AV → Value
  | .inl x => .int x
  | .inr none => .null
  | .inr (some none) => .ref B.2
  | .inr (some (some k)) => .ref (B.1 + k)
def mE (B : Nat × Nat) (cA : ClassId × ClassId × ClassId) : AC → va_E
  | .inl (false, n, f) => .inl (cA.1, n, .inl f)
  | .inl (true, n, f) => .inl (cA.2.1, n, .inl f)
  | .inr (.inl (n, f)) => .inl (cA.2.2, n, .inr (.inr (.inr (.inr (fun j => (f j).map (fun k => B.1 + k))))))
  | .inr (.inr (ci, fs)) => .inr (ci, fs.map (mV B))
def mW (B : Nat × Nat) (cA : ClassId × ClassId × ClassId) (w : AW) : va_W := w.zipIdx.map fun q => (B.1 + q.2, mE B cA q.1)
theorem mW_get (B : Nat × Nat) (cA : ClassId × ClassId × ClassId) (w : AW) (k : Nat) : (mW B cA w)[k]? = (w[k]?).map fun c => (B.1 + k, mE B cA c) := by
  simp [mW, List.getElem?_map, List.getElem?_zipIdx, Option.map_map, Function.comp_def]
theorem mW_at {B : Nat × Nat} {cA : ClassId × ClassId × ClassId} {w : AW} {k : Nat} {c : AC} (h : w[k]? = some c) : (mW B cA w)[k]? = some (B.1 + k, mE B cA c) := by rw [mW_get, h]; rfl
theorem mW_len (B : Nat × Nat) (cA : ClassId × ClassId × ClassId) (w : AW) : (mW B cA w).length = w.length := by simp [mW]
theorem mW_set (B : Nat × Nat) (cA : ClassId × ClassId × ClassId) (w : AW) (k : Nat) (c : AC) : (mW B cA w).set k (B.1 + k, mE B cA c) = mW B cA (w.set k c) := by
  apply List.ext_getElem?
  intro j
  rw [mW_get, List.getElem?_set, List.getElem?_set, mW_len, mW_get]
  by_cases h : k = j
  · subst h
    by_cases hl : k < w.length
    · simp [hl]
    · simp [hl]
  · simp [h]
theorem mW_push (B : Nat × Nat) (cA : ClassId × ClassId × ClassId) (w : AW) (c : AC) : mW B cA (w ++ [c]) = mW B cA w ++ [(B.1 + w.length, mE B cA c)] := by
  simp [mW, List.zipIdx_append]
theorem mW_D (B : Nat × Nat) (cA : ClassId × ClassId × ClassId) (w : AW) : va_D (fun q => B.1 ≤ q) (mW B cA w) := by
  have key : ∀ (k : Nat) (q : Nat × va_E), (mW B cA w)[k]? = some q → q.1 = B.1 + k := by
    intro k q h
    rw [mW_get] at h
    cases hk : w[k]? with
    | none => rw [hk] at h; cases h
    | some c => rw [hk] at h; cases h; rfl
  refine ⟨fun i j x y hi hj hxy => ?_, fun k q hk => ?_⟩
  · have h1 := key i x hi
    have h2 := key j y hj
    omega
  · show B.1 ≤ q.1
    have h1 := key k q hk
    omega
def mTy (cA : ClassId × ClassId × ClassId) : List (ClassId × FieldType) := [(cA.1, .int), (cA.2.1, .boolean), (cA.2.2, .object cN1)]
/-- what the tables say, at a method's start -/
def cxU (cA : ClassId × ClassId × ClassId) (D : va_G) (U : State) : Prop := va_K D cls (mTy cA) U ∧ (∀ a i x h, Cond.methodLinkNest a i x h ∈ lw_tbl → va_Nw (.methodLinkNest a i x h) U) ∧ va_AO cN1 U
theorem cxU.moved {cA : ClassId × ClassId × ClassId} {D : va_G} {U V : State} (hW : U.WarmedH V.vm) (h : cxU cA D U) : cxU cA D V := ⟨va_K.moved hW.alike h.1, fun a i x t hm => va_Nw.warmM hW (h.2.1 a i x t hm), va_AO.moved hW.alike h.2.2⟩
theorem cxU.same {cA : ClassId × ClassId × ClassId} {D : va_G} {U V : State} (hv : U.vm = V.vm) (h : cxU cA D U) : cxU cA D V := h.moved (by rw [← hv]; exact State.WarmedH.refl U)
/-- the heap holds the cells, and no more -/
def Hw (B : Nat × Nat) (cA : ClassId × ClassId × ClassId) (D : va_G) (w : AW) (H : Heap) : Prop := H.size = B.1 + w.length ∧ va_P D cls (mW B cA w) H
theorem Hw.set {B : Nat × Nat} {cA : ClassId × ClassId × ClassId} {D : va_G} {w : AW} {H H1 : Heap} (h : Hw B cA D w H) {k : Nat} {c0 c1 : AC} (hk : w[k]? = some c0) (hz : H1.size = H.size) (oq : ∀ q : Nat, q ≠ B.1 + k → H1[q]? = H[q]?) (he : va_at D cls (B.1 + k, mE B cA c1) H1) : Hw B cA D (w.set k c1) H1 := by
  refine ⟨by rw [hz, List.length_set]; exact h.1, ?_⟩
  rw [← mW_set]
  exact va_P.set h.2 (mW_D B cA w) (mW_at hk) he oq
theorem Hw.push {B : Nat × Nat} {cA : ClassId × ClassId × ClassId} {D : va_G} {w : AW} {H H1 : Heap} (h : Hw B cA D w H) {c1 : AC} (hz : H1.size = H.size + 1) (oq : ∀ q : Nat, q < H.size → H1[q]? = H[q]?) (he : va_at D cls (B.1 + w.length, mE B cA c1) H1) : Hw B cA D (w ++ [c1]) H1 := by
  refine ⟨by rw [hz, List.length_append, h.1]; rfl, ?_⟩
  rw [mW_push]
  refine va_P.app (va_P.kept h.2 (fun k x hx => oq x.1 ((h.2 k x hx).lt))) (fun k x hx => ?_)
  have hz : k < 1 := (List.getElem?_eq_some_iff.mp hx).1
  rw [show k = 0 by omega] at hx
  cases hx
  exact he
/-- the locals -/
def lcs (B : Nat × Nat) (ls : Array Slot) (L : List (Option AV)) : Prop := ls.size = L.length ∧ lv_wf ls ∧ ∀ (i : Nat) (v : AV), L[i]? = some (some v) → ls[i]? = some (.val (mV B v))
def lvL (B : Nat × Nat) (L : List (Option AV)) : List (Nat × Value) := L.zipIdx.filterMap fun q => q.1.map fun v => (q.2, mV B v)
theorem lvL_mem {B : Nat × Nat} {L : List (Option AV)} {q : Nat × Value} : q ∈ lvL B L ↔ ∃ v, L[q.1]? = some (some v) ∧ q.2 = mV B v := by
  constructor
  · intro h
    obtain ⟨⟨o, i⟩, h1, h2⟩ := List.mem_filterMap.mp h
    have h3 := List.mem_zipIdx_iff_getElem?.mp h1
    cases o with
    | none => cases h2
    | some v => cases h2; exact ⟨v, h3, rfl⟩
  · rintro ⟨v, h1, h2⟩
    refine List.mem_filterMap.mpr ⟨(some v, q.1), List.mem_zipIdx_iff_getElem?.mpr h1, ?_⟩
    show some (q.1, mV B v) = some q
    rw [← h2]
theorem lcs.has {B : Nat × Nat} {ls : Array Slot} {L : List (Option AV)} (h : lcs B ls L) : lv_has ls L.length (lvL B L) :=
  ⟨h.1, h.2.1, fun q hq => by obtain ⟨v, h1, h2⟩ := lvL_mem.mp hq; rw [h2]; exact h.2.2 _ _ h1⟩
theorem mV_cat (B : Nat × Nat) (v : AV) : (mV B v).category = 1 := by
  rcases v with x | x
  · rfl
  · rcases x with _ | x
    · rfl
    · cases x <;> rfl
theorem lcs.put {B : Nat × Nat} {ls : Array Slot} {L : List (Option AV)} {i : Nat} {v : AV} (hi : i < L.length) (h : lv_has ls L.length ((i, mV B v) :: (lvL B L).filter (fun q => !(q.1 == i) && !(q.1 + 1 == i && q.2.category == 2)))) : lcs B ls (L.set i (some v)) := by
  refine ⟨by rw [List.length_set]; exact h.1, h.2.1, fun j u hj => ?_⟩
  by_cases hji : i = j
  · subst hji
    rw [List.getElem?_set_self hi] at hj
    cases hj
    exact h.2.2 _ List.mem_cons_self
  · rw [List.getElem?_set_ne hji] at hj
    refine h.2.2 (j, mV B u) (List.mem_cons_of_mem _ (List.mem_filter.mpr ⟨lvL_mem.mpr ⟨u, hj, rfl⟩, ?_⟩))
    have h1 : (mV B u).category = 1 := mV_cat B u
    simp [h1, Ne.symm hji]
theorem mV_sum (B : Nat × Nat) (S : List AV) : ((S.map (mV B)).map fun v => v.category).sum = S.length := by
  induction S with
  | nil => rfl
  | cons v S ih =>
    rw [List.map_cons, List.map_cons, List.sum_cons, ih, mV_cat, List.length_cons]
    omega
theorem lg_sl_mV (B : Nat × Nat) (As : List AV) : lg_sl (As.map (mV B)) = As.map (fun v => Slot.val (mV B v)) := by
  induction As with
  | nil => rfl
  | cons v S ih =>
    have h1 : (mV B v).category = 1 := mV_cat B v
    simp only [lg_sl, List.map_cons, List.flatMap_cons] at ih ⊢
    rw [ih, h1]
    simp
theorem lcs_entry (B : Nat × Nat) (As : List AV) (n : Nat) (h : As.length ≤ n) : lcs B ((lg_sl (As.map (mV B)) ++ List.replicate (n - (lg_sl (As.map (mV B))).length) Slot.unset).toArray) (As.map some ++ List.replicate (n - As.length) none) := by
  have h0 := lv_entry (As.map (mV B)) (n := n) (by rw [lg_sl_mV]; simpa using h)
  refine ⟨by rw [h0.1]; simp; omega, h0.2.1, fun i v hi => ?_⟩
  rw [lg_sl_mV]
  by_cases hl : i < As.length
  · rw [List.getElem?_append_left (by simpa using hl)] at hi
    rw [List.getElem?_map, List.getElem?_eq_getElem hl] at hi
    have hv : As[i] = v := by simpa using hi
    rw [List.getElem?_toArray, List.getElem?_append_left (by simpa using hl), List.getElem?_map, List.getElem?_eq_getElem hl, hv]
    rfl
  · rw [List.getElem?_append_right (by simpa using hl)] at hi
    have := List.mem_of_getElem? hi
    have := List.eq_of_mem_replicate this
    cases this

/-! runs of the small machine, goal first -/
def Ev (sc : SC) (y : Nat) (st : St) (r : Option Int32 × AW) : Prop := ∃ n, Ex n sc y st r
theorem Ex_mono : ∀ {n : Nat} {sc : SC} {y : Nat} {st : St} {r : Option Int32 × AW}, Ex n sc y st r → Ex (n + 1) sc y st r := by
  intro n
  induction n with
  | zero => intro sc y st r h; obtain ⟨pc, L, S, w, b⟩ := st; exact absurd h (fun h => h)
  | succ n ih =>
    intro sc y st r h
    obtain ⟨pc, L, S, w, b⟩ := st
    obtain ⟨E, hE, hcase⟩ := h
    refine ⟨E, hE, ?_⟩
    rcases hcase with ⟨ps, st', h1, h2, h3⟩ | h | h | ⟨hic, As, S', r', g1, g2, g3, g4, g5, g6, g7, g8⟩
    · exact Or.inl ⟨ps, st', h1, h2, ih h3⟩
    · exact Or.inr (Or.inl h)
    · exact Or.inr (Or.inr (Or.inl h))
    · exact Or.inr (Or.inr (Or.inr ⟨hic, As, S', r', g1, g2, g3, g4, g5, g6, ih g7, ih g8⟩))
theorem Ex_le {n k : Nat} {sc : SC} {y : Nat} {st : St} {r : Option Int32 × AW} (h : Ex n sc y st r) (hk : n ≤ k) : Ex k sc y st r := by
  induction hk with
  | refl => exact h
  | step _ ih => exact Ex_mono ih
/-- k simple steps -/
def runS (cd : List (Option AE)) : Nat → SC → St → Option (List Prop × St)
  | 0, _, st => some ([], st)
  | n + 1, sc, st => match cd[st.1]? with
    | some (some e) => match sp sc e st with
      | some (ps, st') => match runS cd n sc st' with
        | some (ps', st'') => some (ps ++ ps', st'')
        | none => none
      | none => none
    | _ => none
theorem allP_app : ∀ {a b : List Prop}, allP (a ++ b) → allP a ∧ allP b := by
  intro a
  induction a with
  | nil => intro b h; exact ⟨trivial, h⟩
  | cons q a ih => intro b h; exact ⟨⟨h.1, (ih h.2).1⟩, (ih h.2).2⟩
theorem Ev.go {sc : SC} {y : Nat} {r : Option Int32 × AW} : ∀ (k : Nat) {st st' : St} {ps : List Prop}, runS (pg y) k sc st = some (ps, st') → allP ps → Ev sc y st' r → Ev sc y st r := by
  intro k
  induction k with
  | zero => intro st st' ps h hp hk; cases h; exact hk
  | succ k ih =>
    intro st st' ps h hp hk
    unfold runS at h
    split at h
    · next e he =>
      split at h
      · next ps1 st1 h1 =>
        split at h
        · next ps2 st2 h2 =>
          cases h
          obtain ⟨p1, p2⟩ := allP_app hp
          obtain ⟨n, hn⟩ := ih h2 p2 hk
          refine ⟨n + 1, ?_⟩
          obtain ⟨pc, L, S, w, b⟩ := st
          exact ⟨e, he, Or.inl ⟨ps1, st1, h1, p1, hn⟩⟩
        · cases h
      · cases h
    · cases h
/-- a call that makes no cells: which method, its arguments, the stack below -/
def mcS (y pc : Nat) (S : List AV) (w : AW) : Option (Nat × List AV × List AV) := match (pg y)[pc]? with
  | some (some E) => if isCall E = true ∧ mNa E.2.1.2.1 ≤ S.length ∧ (S.drop (mNa E.2.1.2.1)).length ≤ 8 ∧ mMc E.2.1.2.1 = 0 ∧ mMs E.2.1.2.1 = 0 then
      (if mRc E.2.1.2.1 < 99 then (match (S.take (mNa E.2.1.2.1)).reverse with
        | .inr (some (some k)) :: _ => (match w[k]? with
          | some (.inr (.inr (c, _))) => if c = mRc E.2.1.2.1 then some (E.2.1.2.1, (S.take (mNa E.2.1.2.1)).reverse, S.drop (mNa E.2.1.2.1)) else none
          | _ => none)
        | _ => none)
      else some (E.2.1.2.1, (S.take (mNa E.2.1.2.1)).reverse, S.drop (mNa E.2.1.2.1))) else none
  | _ => none
theorem Ev.callG {sc : SC} {y pc : Nat} {L : List (Option AV)} {S : List AV} {w : AW} {b : Nat × Nat} {r : Option Int32 × AW} {E : AE} (As S' : List AV) (r' : Option Int32 × AW) (hE : (pg y)[pc]? = some (some E)) (hic : isCall E = true) (hS : S = As.reverse ++ S') (hn : As.length = mNa E.2.1.2.1) (h8 : S'.length ≤ 8)
    (hr : mRc E.2.1.2.1 < 99 → ∃ (k : Nat) (fs As' : List AV), As = vR k :: As' ∧ w[k]? = some (.inr (.inr (mRc E.2.1.2.1, fs)))) (h1 : mMc E.2.1.2.1 ≤ b.1) (h2 : mMs E.2.1.2.1 ≤ b.2)
    (k1 : Ev none E.2.1.2.1 (0, inL E.2.1.2.1 As, [], w, (mMc E.2.1.2.1, mMs E.2.1.2.1)) r') (k2 : Ev sc y (pc + 3, L, (r'.1.map vI).toList ++ S', r'.2, (b.1 - mMc E.2.1.2.1, b.2 - mMs E.2.1.2.1)) r) : Ev sc y (pc, L, S, w, b) r := by
  obtain ⟨n1, k1⟩ := k1
  obtain ⟨n2, k2⟩ := k2
  exact ⟨max n1 n2 + 1, E, hE, Or.inr (Or.inr (Or.inr ⟨hic, As, S', r', hS, hn, h8, hr, h1, h2, Ex_le k1 (Nat.le_max_left _ _), Ex_le k2 (Nat.le_max_right _ _)⟩))⟩
theorem Ev.call {sc : SC} {y pc : Nat} {L : List (Option AV)} {S : List AV} {w : AW} {b : Nat × Nat} {r : Option Int32 × AW} {a : Nat} {As S' : List AV} (r' : Option Int32 × AW) (h : mcS y pc S w = some (a, As, S')) (k1 : Ev none a (0, inL a As, [], w, (0, 0)) r') (k2 : Ev sc y (pc + 3, L, (r'.1.map vI).toList ++ S', r'.2, b) r) : Ev sc y (pc, L, S, w, b) r := by
  unfold mcS at h
  split at h
  · next E hE =>
    split at h
    · next hc =>
      obtain ⟨c1, c2, c3, c4, c5⟩ := hc
      have hS : S = ((S.take (mNa E.2.1.2.1)).reverse).reverse ++ S.drop (mNa E.2.1.2.1) := by rw [List.reverse_reverse, List.take_append_drop]
      have hn : ((S.take (mNa E.2.1.2.1)).reverse).length = mNa E.2.1.2.1 := by rw [List.length_reverse, List.length_take]; omega
      have fin : some (E.2.1.2.1, (S.take (mNa E.2.1.2.1)).reverse, S.drop (mNa E.2.1.2.1)) = some (a, As, S') → (mRc E.2.1.2.1 < 99 → ∃ (k : Nat) (fs As' : List AV), (S.take (mNa E.2.1.2.1)).reverse = vR k :: As' ∧ w[k]? = some (.inr (.inr (mRc E.2.1.2.1, fs)))) → Ev sc y (pc, L, S, w, b) r := by
        intro hq hr
        cases hq
        refine Ev.callG _ _ r' hE c1 hS hn c3 hr (by omega) (by omega) (by rw [c4, c5]; exact k1) ?_
        rw [c4, c5]
        exact k2
      split at h
      · next h99 =>
        split at h
        · next k As' hA =>
          split at h
          · next c fs hw =>
            split at h
            · next hcc =>
              refine fin h (fun _ => ⟨k, fs, As', hA, ?_⟩)
              rw [← hcc]
              exact hw
            · cases h
          · cases h
        · cases h
      · next h99 => exact fin h (fun q => absurd q h99)
    · cases h
  · cases h
theorem Ev.callI {sc : SC} {y pc : Nat} {L : List (Option AV)} {S : List AV} {w : AW} {b : Nat × Nat} {r : Option Int32 × AW} {a : Nat} {As : List AV} (S' : List AV) (x : Int32) (w' : AW) (h : mcS y pc S w = some (a, As, S')) (k1 : Ev none a (0, inL a As, [], w, (0, 0)) (some x, w')) (k2 : Ev sc y (pc + 3, L, vI x :: S', w', b) r) : Ev sc y (pc, L, S, w, b) r := Ev.call (some x, w') h k1 k2
theorem Ev.callV {sc : SC} {y pc : Nat} {L : List (Option AV)} {S : List AV} {w : AW} {b : Nat × Nat} {r : Option Int32 × AW} {a : Nat} {As : List AV} (S' : List AV) (w' : AW) (h : mcS y pc S w = some (a, As, S')) (k1 : Ev none a (0, inL a As, [], w, (0, 0)) (none, w')) (k2 : Ev sc y (pc + 3, L, S', w', b) r) : Ev sc y (pc, L, S, w, b) r := Ev.call (none, w') h k1 k2
theorem Ev.ireti {sc : SC} {y pc : Nat} {L : List (Option AV)} {w : AW} {b : Nat × Nat} {v : Int32} {q : Nat × Nat × Nat × Nat} {ts : List Nat} {u : Int32} (hE : (pg y)[pc]? = some (some (.ireturn, q, ts, u))) (hr : mRt y = some .int) : Ev sc y (pc, L, [vI v], w, b) (some v, w) := ⟨1, _, hE, Or.inr (Or.inl ⟨v, rfl, rfl, rfl, Or.inl hr⟩)⟩
theorem Ev.iretz {sc : SC} {y pc : Nat} {L : List (Option AV)} {w : AW} {b : Nat × Nat} {v : Int32} {q : Nat × Nat × Nat × Nat} {ts : List Nat} {u : Int32} (hE : (pg y)[pc]? = some (some (.ireturn, q, ts, u))) (hr : mRt y = some .boolean) (hv : v &&& 1 = v) : Ev sc y (pc, L, [vI v], w, b) (some v, w) := ⟨1, _, hE, Or.inr (Or.inl ⟨v, rfl, rfl, rfl, Or.inr ⟨hr, hv⟩⟩)⟩
theorem Ev.retv {sc : SC} {y pc : Nat} {L : List (Option AV)} {w : AW} {b : Nat × Nat} {q : Nat × Nat × Nat × Nat} {ts : List Nat} {u : Int32} (hE : (pg y)[pc]? = some (some (.return_, q, ts, u))) (hr : mRt y = none) : Ev sc y (pc, L, [], w, b) (none, w) := ⟨1, _, hE, Or.inr (Or.inr (Or.inl ⟨rfl, rfl, rfl, hr⟩))⟩
/-- fewer locals -/
def Lle : List (Option AV) → List (Option AV) → Prop
  | [], [] => True
  | none :: L, _ :: L' => Lle L L'
  | some v :: L, some v' :: L' => v = v' ∧ Lle L L'
  | _, _ => False
theorem Lle.len : ∀ {L L' : List (Option AV)}, Lle L L' → L.length = L'.length := by
  intro L
  induction L with
  | nil => intro L' h; cases L' with
    | nil => rfl
    | cons a b => exact absurd h (fun h => h)
  | cons a L ih => intro L' h; cases L' with
    | nil => cases a <;> exact absurd h (fun h => h)
    | cons b L' =>
      cases a with
      | none => simp only [List.length_cons, ih (show Lle L L' from h)]
      | some v => cases b with
        | none => exact absurd h (fun h => h)
        | some u => simp only [List.length_cons, ih (show Lle L L' from h.2)]
theorem Lle.get : ∀ {L L' : List (Option AV)}, Lle L L' → ∀ {i : Nat} {v : AV}, L[i]? = some (some v) → L'[i]? = some (some v) := by
  intro L
  induction L with
  | nil => intro L' h i v hv; cases hv
  | cons a L ih => intro L' h i v hv; cases L' with
    | nil => cases a <;> exact absurd h (fun h => h)
    | cons b L' =>
      cases i with
      | zero =>
        cases a with
        | none => cases hv
        | some x => cases b with
          | none => exact absurd h (fun h => h)
          | some u => obtain ⟨h1, -⟩ := h; subst h1; exact hv
      | succ i =>
        cases a with
        | none => exact ih (show Lle L L' from h) hv
        | some x => cases b with
          | none => exact absurd h (fun h => h)
          | some u => exact ih (show Lle L L' from h.2) hv
theorem Lle.set : ∀ {L L' : List (Option AV)}, Lle L L' → ∀ (i : Nat) (v : AV), Lle (L.set i (some v)) (L'.set i (some v)) := by
  intro L
  induction L with
  | nil => intro L' h i v; cases L' with
    | nil => exact trivial
    | cons a b => exact absurd h (fun h => h)
  | cons a L ih => intro L' h i v; cases L' with
    | nil => cases a <;> exact absurd h (fun h => h)
    | cons b L' =>
      cases i with
      | zero =>
        cases a with
        | none => exact ⟨rfl, h⟩
        | some x => cases b with
          | none => exact absurd h (fun h => h)
          | some u => exact ⟨rfl, h.2⟩
      | succ i =>
        cases a with
        | none => exact ih (show Lle L L' from h) i v
        | some x => cases b with
          | none => exact absurd h (fun h => h)
          | some u => exact ⟨h.1, ih (show Lle L L' from h.2) i v⟩
theorem Lle.rf : ∀ (L : List (Option AV)), Lle L L
  | [] => trivial
  | none :: L => Lle.rf L
  | some _ :: L => ⟨rfl, Lle.rf L⟩
theorem Lle.n {x : Option AV} {L L' : List (Option AV)} (h : Lle L L') : Lle (none :: L) (x :: L') := h
theorem Lle.s {v : AV} {L L' : List (Option AV)} (h : Lle L L') : Lle (some v :: L) (some v :: L') := ⟨rfl, h⟩
theorem Lle.z : Lle [] [] := trivial
theorem sp_wk {sc : SC} {E : AE} {pc : Nat} {L L' : List (Option AV)} {S : List AV} {w : AW} {b : Nat × Nat} {ps : List Prop} {st : St} (h : sp sc E (pc, L, S, w, b) = some (ps, st)) (hl : Lle L L') : ∃ L1, Lle st.2.1 L1 ∧ sp sc E (pc, L', S, w, b) = some (ps, (st.1, L1, st.2.2)) := by
  obtain ⟨i, ⟨ln, a, bb, pl⟩, ts, v⟩ := E
  cases i
  case iconst n =>
    cases h
    exact ⟨L', hl, rfl⟩
  case bipush n =>
    cases h
    exact ⟨L', hl, rfl⟩
  case sipush n =>
    cases h
    exact ⟨L', hl, rfl⟩
  case ldc_w n =>
    cases h
    exact ⟨L', hl, rfl⟩
  case iload_n n =>
    obtain ⟨x, hv, rfl, rfl⟩ := s_ild_i h
    refine ⟨L', hl, ?_⟩
    show s_ild _ _ L' S w b = _
    unfold s_ild
    rw [hl.get hv]
  case iload n =>
    obtain ⟨x, hv, rfl, rfl⟩ := s_ild_i h
    refine ⟨L', hl, ?_⟩
    show s_ild _ _ L' S w b = _
    unfold s_ild
    rw [hl.get hv]
  case aload_n n =>
    obtain ⟨x, hv, rfl, rfl⟩ := s_ald_i h
    refine ⟨L', hl, ?_⟩
    show s_ald _ _ L' S w b = _
    unfold s_ald
    rw [hl.get hv]
  case aload n =>
    obtain ⟨x, hv, rfl, rfl⟩ := s_ald_i h
    refine ⟨L', hl, ?_⟩
    show s_ald _ _ L' S w b = _
    unfold s_ald
    rw [hl.get hv]
  case istore_n n =>
    obtain ⟨x, S', rfl, hi, rfl, rfl⟩ := s_ist_i h
    refine ⟨_, hl.set _ _, ?_⟩
    show s_ist _ _ L' (.inl x :: S') w b = _
    unfold s_ist
    simp only []
    rw [if_pos (by rw [← hl.len]; exact hi)]
  case istore n =>
    obtain ⟨x, S', rfl, hi, rfl, rfl⟩ := s_ist_i h
    refine ⟨_, hl.set _ _, ?_⟩
    show s_ist _ _ L' (.inl x :: S') w b = _
    unfold s_ist
    simp only []
    rw [if_pos (by rw [← hl.len]; exact hi)]
  case astore_n n =>
    obtain ⟨x, S', rfl, hi, rfl, rfl⟩ := s_ast_i h
    refine ⟨_, hl.set _ _, ?_⟩
    show s_ast _ _ L' (.inr (some x) :: S') w b = _
    unfold s_ast
    simp only []
    rw [if_pos (by rw [← hl.len]; exact hi)]
  case astore n =>
    obtain ⟨x, S', rfl, hi, rfl, rfl⟩ := s_ast_i h
    refine ⟨_, hl.set _ _, ?_⟩
    show s_ast _ _ L' (.inr (some x) :: S') w b = _
    unfold s_ast
    simp only []
    rw [if_pos (by rw [← hl.len]; exact hi)]
  case iinc n q =>
    obtain ⟨x, hv, rfl, rfl⟩ := s_inc_i h
    refine ⟨_, hl.set _ _, ?_⟩
    show s_inc _ _ _ L' S w b = _
    unfold s_inc
    rw [hl.get hv]
  case iadd =>
    obtain ⟨x, y', S', rfl, rfl, rfl⟩ := s_bin_i h
    exact ⟨L', hl, rfl⟩
  case isub =>
    obtain ⟨x, y', S', rfl, rfl, rfl⟩ := s_bin_i h
    exact ⟨L', hl, rfl⟩
  case imul =>
    obtain ⟨x, y', S', rfl, rfl, rfl⟩ := s_bin_i h
    exact ⟨L', hl, rfl⟩
  case iand =>
    obtain ⟨x, y', S', rfl, rfl, rfl⟩ := s_bin_i h
    exact ⟨L', hl, rfl⟩
  case ior =>
    obtain ⟨x, y', S', rfl, rfl, rfl⟩ := s_bin_i h
    exact ⟨L', hl, rfl⟩
  case ixor =>
    obtain ⟨x, y', S', rfl, rfl, rfl⟩ := s_bin_i h
    exact ⟨L', hl, rfl⟩
  case ishl =>
    obtain ⟨x, y', S', rfl, rfl, rfl⟩ := s_bin_i h
    exact ⟨L', hl, rfl⟩
  case ishr =>
    obtain ⟨x, y', S', rfl, rfl, rfl⟩ := s_bin_i h
    exact ⟨L', hl, rfl⟩
  case iushr =>
    obtain ⟨x, y', S', rfl, rfl, rfl⟩ := s_bin_i h
    exact ⟨L', hl, rfl⟩
  case idiv =>
    obtain ⟨x, y', S', rfl, rfl, rfl⟩ := s_div_i h
    exact ⟨L', hl, rfl⟩
  case irem =>
    obtain ⟨x, y', S', rfl, rfl, rfl⟩ := s_div_i h
    exact ⟨L', hl, rfl⟩
  case ineg =>
    obtain ⟨x, S', rfl, rfl, rfl⟩ := s_neg_i h
    exact ⟨L', hl, rfl⟩
  case dup =>
    obtain ⟨v', S', rfl, rfl, rfl⟩ := s_dup_i h
    exact ⟨L', hl, rfl⟩
  case dup2 =>
    obtain ⟨v', u', S', rfl, rfl, rfl⟩ := s_dup2_i h
    exact ⟨L', hl, rfl⟩
  case goto off =>
    cases h
    exact ⟨L', hl, rfl⟩
  case ifCond cn off =>
    cases cn <;> (obtain ⟨x, S', rfl, rfl, rfl⟩ := s_if1_i h; exact ⟨L', hl, rfl⟩)
  case if_icmp cn off =>
    cases cn <;> (obtain ⟨x, y', S', rfl, rfl, rfl⟩ := s_if2_i h; exact ⟨L', hl, rfl⟩)
  case tableswitch df lo hi offs =>
    obtain ⟨x, S', rfl, rfl, rfl⟩ := s_if1_i h
    exact ⟨L', hl, rfl⟩
  case getfield n =>
    obtain ⟨o, fs, v', S', rfl, hw, hv, rfl, rfl⟩ := s_get_i h
    refine ⟨L', hl, ?_⟩
    show s_get _ _ _ L' (.inr (some (some o)) :: S') w b = _
    unfold s_get
    simp [hw, hv]
  case putfield n =>
    obtain ⟨o, fs, v', S', rfl, hw, hkl, hf, rfl, rfl⟩ := s_put_i h
    refine ⟨L', hl, ?_⟩
    show s_put _ _ _ L' (v' :: .inr (some (some o)) :: S') w b = _
    unfold s_put
    simp only [hw]
    rw [if_pos ⟨trivial, hkl, hf⟩]
  case iaload =>
    obtain ⟨i, n, f, S', rfl, rfl, hq⟩ := s_iald_i (sc := sc) h
    refine ⟨L', hl, ?_⟩
    rcases hq with ⟨o, rfl, hw⟩ | ⟨rfl, hz0, hsc0⟩
    · show s_iald _ sc _ L' (.inl i :: .inr (some (some o)) :: S') w b = _
      unfold s_iald
      simp [hw]
    · subst hsc0
      rfl
  case baload =>
    obtain ⟨i, n, f, S', rfl, rfl, hq⟩ := s_iald_i (sc := sc) h
    refine ⟨L', hl, ?_⟩
    rcases hq with ⟨o, rfl, hw⟩ | ⟨rfl, hz0, hsc0⟩
    · show s_iald _ sc _ L' (.inl i :: .inr (some (some o)) :: S') w b = _
      unfold s_iald
      simp [hw]
    · cases hz0
  case iastore =>
    obtain ⟨x, i, o, n, f, S', rfl, hw, rfl, rfl⟩ := s_iast_i h
    refine ⟨L', hl, ?_⟩
    show s_iast _ _ L' (.inl x :: .inl i :: .inr (some (some o)) :: S') w b = _
    unfold s_iast
    simp [hw]
  case bastore =>
    obtain ⟨x, i, o, n, f, S', rfl, hw, rfl, rfl⟩ := s_iast_i h
    refine ⟨L', hl, ?_⟩
    show s_iast _ _ L' (.inl x :: .inl i :: .inr (some (some o)) :: S') w b = _
    unfold s_iast
    simp [hw]
  case aaload =>
    obtain ⟨i, o, n, f, S', rfl, hw, rfl, rfl⟩ := s_aald_i h
    refine ⟨L', hl, ?_⟩
    show s_aald _ L' (.inl i :: .inr (some (some o)) :: S') w b = _
    unfold s_aald
    simp only [hw]
  case aastore =>
    obtain ⟨j, i, o, n, f, fs, S', rfl, hw, hj, rfl, rfl⟩ := s_aast_i h
    refine ⟨L', hl, ?_⟩
    show s_aast _ L' (.inr (some (some j)) :: .inl i :: .inr (some (some o)) :: S') w b = _
    unfold s_aast
    simp only [hw, hj]
  case arraylength =>
    obtain ⟨n, f, S', rfl, hsc0, rfl, rfl⟩ := s_alen_i h
    subst hsc0
    exact ⟨L', hl, rfl⟩
  case newarray t =>
    cases t
    case int =>
      obtain ⟨n, S', rfl, hc, rfl, rfl⟩ := s_newa_i h
      refine ⟨L', hl, ?_⟩
      show s_newa _ _ L' (.inl n :: S') w b = _
      unfold s_newa
      simp only []
      rw [if_pos hc]
    case boolean =>
      obtain ⟨n, S', rfl, hc, rfl, rfl⟩ := s_newa_i h
      refine ⟨L', hl, ?_⟩
      show s_newa _ _ L' (.inl n :: S') w b = _
      unfold s_newa
      simp only []
      rw [if_pos hc]
    all_goals (cases h)
  case anewarray n =>
    obtain ⟨n, S', rfl, hc, rfl, rfl⟩ := s_newq_i h
    refine ⟨L', hl, ?_⟩
    show s_newq _ L' (.inl n :: S') w b = _
    unfold s_newq
    simp only []
    rw [if_pos hc]
  case new n =>
    obtain ⟨hc, rfl, rfl⟩ := s_new_i h
    refine ⟨L', hl, ?_⟩
    show s_new _ _ L' S w b = _
    unfold s_new
    rw [if_pos hc]
  case invokespecial n =>
    obtain ⟨o, S', ht, rfl, hs8, rfl, rfl⟩ := s_obj_i h
    have ht' : ts = [4] := ht
    subst ht'
    refine ⟨L', hl, ?_⟩
    show s_obj [4] _ L' (.inr (some (some o)) :: S') w b = _
    unfold s_obj
    simp only []
    rw [if_pos hs8]
  all_goals (cases h)
theorem Ex_wk : ∀ {n : Nat} {sc : SC} {y pc : Nat} {L L' : List (Option AV)} {S : List AV} {w : AW} {b : Nat × Nat} {r : Option Int32 × AW}, Ex n sc y (pc, L, S, w, b) r → Lle L L' → Ex n sc y (pc, L', S, w, b) r := by
  intro n
  induction n with
  | zero => intro sc y pc L L' S w b r h; exact absurd h (fun h => h)
  | succ n ih =>
    intro sc y pc L L' S w b r h hl
    obtain ⟨E, hE, hcase⟩ := h
    refine ⟨E, hE, ?_⟩
    rcases hcase with ⟨ps, st', h1, h2, h3⟩ | h | h | ⟨hic, As, S', r', g1, g2, g3, g4, g5, g6, g7, g8⟩
    · obtain ⟨L1, hL1, h4⟩ := sp_wk h1 hl
      obtain ⟨pc1, L2, S2, w2, b2⟩ := st'
      exact Or.inl ⟨ps, _, h4, h2, ih h3 hL1⟩
    · exact Or.inr (Or.inl h)
    · exact Or.inr (Or.inr (Or.inl h))
    · exact Or.inr (Or.inr (Or.inr ⟨hic, As, S', r', g1, g2, g3, g4, g5, g6, g7, ih g8 hl⟩))
theorem Ev.wk {sc : SC} {y pc : Nat} {L L' : List (Option AV)} {S : List AV} {w : AW} {b : Nat × Nat} {r : Option Int32 × AW} (hl : Lle L L') (h : Ev sc y (pc, L, S, w, b) r) : Ev sc y (pc, L', S, w, b) r := by
  obtain ⟨n, h⟩ := h
  exact ⟨n, Ex_wk h hl⟩
theorem Ev.to {sc : SC} {y : Nat} {st st' : St} {r : Option Int32 × AW} (h : Ev sc y st r) (hs : st' = st) : Ev sc y st' r := by rw [hs]; exact h
/-- a choice that nothing unfolds -/
noncomputable def iF {α : Type} (c : Prop) (a b : α) : α := @ite α c (Classical.propDecidable c) a b
theorem iF_pos {α : Type} {c : Prop} {a b : α} (h : c) : iF c a b = a := by unfold iF; rw [if_pos h]
theorem iF_neg {α : Type} {c : Prop} {a b : α} (h : ¬ c) : iF c a b = b := by unfold iF; rw [if_neg h]
theorem iF_eq {α : Type} (c : Prop) [Decidable c] (a b : α) : iF c a b = if c then a else b := by
  by_cases h : c
  · rw [iF_pos h, if_pos h]
  · rw [iF_neg h, if_neg h]
theorem z_iF {c : Prop} {a b : Int32} (ha : a &&& 1 = a) (hb : b &&& 1 = b) : iF c a b &&& 1 = iF c a b := by
  by_cases h : c
  · rw [iF_pos h]; exact ha
  · rw [iF_neg h]; exact hb
/-- a branch: to the one place or the other -/
theorem Ev.br {sc : SC} {y : Nat} {c : Prop} [Decidable c] {t f : Nat} {q : List (Option AV) × List AV × AW × (Nat × Nat)} {r : Option Int32 × AW} (ht : c → Ev sc y (t, q) r) (hf : ¬ c → Ev sc y (f, q) r) : Ev sc y (if c then t else f, q) r := by
  by_cases h : c
  · rw [if_pos h]; exact ht h
  · rw [if_neg h]; exact hf h
theorem Ev.brK {sc : SC} {y : Nat} {c : Prop} [Decidable c] {t f : Nat} {q : List (Option AV) × List AV × AW × (Nat × Nat)} {r : Option Int32 × AW} {O : Type} {K : O → Prop} {A B : O} (k : K (iF c A B)) (ht : c → K A → Ev sc y (t, q) r) (hf : ¬ c → K B → Ev sc y (f, q) r) : Ev sc y (if c then t else f, q) r := by
  by_cases h : c
  · rw [iF_pos h] at k; rw [if_pos h]; exact ht h k
  · rw [iF_neg h] at k; rw [if_neg h]; exact hf h k
/-- the same, the other way round -/
theorem Ev.brN {sc : SC} {y : Nat} {c : Prop} [Decidable c] {t f : Nat} {q : List (Option AV) × List AV × AW × (Nat × Nat)} {r : Option Int32 × AW} (hc : c) (h : Ev sc y (t, q) r) : Ev sc y (if c then t else f, q) r := by rw [if_pos hc]; exact h
theorem Ev.brF {sc : SC} {y : Nat} {c : Prop} [Decidable c] {t f : Nat} {q : List (Option AV) × List AV × AW × (Nat × Nat)} {r : Option Int32 × AW} (hc : ¬ c) (h : Ev sc y (f, q) r) : Ev sc y (if c then t else f, q) r := by rw [if_neg hc]; exact h
/-- a switch -/
theorem Ev.swK {sc : SC} {y : Nat} {x : Int32} {j t d : Nat} {ts : List Nat} {q : List (Option AV) × List AV × AW × (Nat × Nat)} {r : Option Int32 × AW} {O : Type} {K : O → Prop} {A B : O} (v : Int32) (hv : nI j = v) (k : K (iF (x = v) A B)) (ht : x = v → K A → Ev sc y (t, q) r) (hf : ¬ x = v → K B → Ev sc y (s_sw x (j + 1) ts d, q) r) : Ev sc y (s_sw x j (t :: ts) d, q) r := by
  subst hv
  show Ev sc y (if x = nI j then t else s_sw x (j + 1) ts d, q) r
  exact Ev.brK k ht hf
/-! loops: a counter from a on, n times; with an exit -/
def forC {V : Type} (f : Nat → V → V) (a : Nat) : Nat → V → V
  | 0, v => v
  | n + 1, v => f (a + n) (forC f a n v)
/-- by choice, so that nothing unfolds it -/
noncomputable def forN {V : Type} (f : Nat → V → V) (a n : Nat) (v : V) : V := Classical.choose (⟨forC f a n v, rfl⟩ : ∃ x, x = forC f a n v)
theorem forN_eq {V : Type} (f : Nat → V → V) (a n : Nat) (v : V) : forN f a n v = forC f a n v := Classical.choose_spec (⟨forC f a n v, rfl⟩ : ∃ x, x = forC f a n v)
theorem forN_0 {V : Type} (f : Nat → V → V) (a : Nat) (v : V) : forN f a 0 v = v := by rw [forN_eq]; rfl
theorem forN_s {V : Type} (f : Nat → V → V) (a n : Nat) (v : V) : forN f a (n + 1) v = f (a + n) (forN f a n v) := by rw [forN_eq, forN_eq]; rfl
theorem Ev.loopN {sc : SC} {y : Nat} {r : Option Int32 × AW} {V : Type} (T : Int32 → V → St) (f : Nat → V → V) (a n N : Nat) (v0 : V) {c0 : Int32} (hc : c0 = nI a) (hN : a + n = N) (hs : ∀ j, j < n → Ev sc y (T (nI (a + j) + 1) (f (a + j) (forN f a j v0))) r → Ev sc y (T (nI (a + j)) (forN f a j v0)) r) (k : Ev sc y (T (nI N) (forN f a n v0)) r) : Ev sc y (T c0 v0) r := by
  subst hN
  have key : ∀ j, j ≤ n → Ev sc y (T (nI (a + j)) (forN f a j v0)) r → Ev sc y (T (nI a) v0) r := by
    intro j
    induction j with
    | zero => intro _ h; rw [forN_0] at h; exact h
    | succ j ih => intro hj h; exact ih (by omega) (hs j (by omega) (by rw [nI_1]; rw [forN_s] at h; exact h))
  rw [hc]
  exact key n (Nat.le_refl n) k
def forXC {V X : Type} (f : Nat → V → V ⊕ X) (a : Nat) : Nat → V → V ⊕ X
  | 0, v => .inl v
  | n + 1, v => match forXC f a n v with
    | .inl v' => f (a + n) v'
    | .inr x => .inr x
noncomputable def forX {V X : Type} (f : Nat → V → V ⊕ X) (a n : Nat) (v : V) : V ⊕ X := Classical.choose (⟨forXC f a n v, rfl⟩ : ∃ x, x = forXC f a n v)
theorem forX_eq {V X : Type} (f : Nat → V → V ⊕ X) (a n : Nat) (v : V) : forX f a n v = forXC f a n v := Classical.choose_spec (⟨forXC f a n v, rfl⟩ : ∃ x, x = forXC f a n v)
theorem forX_0 {V X : Type} (f : Nat → V → V ⊕ X) (a : Nat) (v : V) : forX f a 0 v = .inl v := by rw [forX_eq]; rfl
theorem forX_l {V X : Type} {f : Nat → V → V ⊕ X} {a n : Nat} {v v' : V} (h : forX f a n v = .inl v') : forX f a (n + 1) v = f (a + n) v' := by
  rw [forX_eq] at h ⊢
  simp only [forXC, h]
theorem forX_r {V X : Type} {f : Nat → V → V ⊕ X} {a n : Nat} {v : V} {x : X} (h : forX f a n v = .inr x) : forX f a (n + 1) v = .inr x := by
  rw [forX_eq] at h ⊢
  simp only [forXC, h]
/-- what a step of such a loop comes to: the next turn, or the exit -/
def eX {V X : Type} (A : V → Prop) (B : X → Prop) : V ⊕ X → Prop
  | .inl v => A v
  | .inr x => B x
theorem Ev.loopX {sc : SC} {y : Nat} {r : Option Int32 × AW} {V X : Type} (T : Int32 → V → St) (f : Nat → V → V ⊕ X) (a n : Nat) (v0 : V) {c0 : Int32} (hc : c0 = nI a) (Bx : X → Prop) (hx : ∃ x, forX f a n v0 = .inr x) (hB : ∀ x, forX f a n v0 = .inr x → Bx x) (hs : ∀ j v, j < n → forX f a j v0 = .inl v → ∀ K : V ⊕ X → Prop, K = eX (fun v' => Ev sc y (T (nI (a + j) + 1) v') r) Bx → K (f (a + j) v) → Ev sc y (T (nI (a + j)) v) r) : Ev sc y (T c0 v0) r := by
  obtain ⟨x, hx⟩ := hx
  have hB := hB x hx
  have key : ∀ j v, j ≤ n → forX f a j v0 = .inl v → Ev sc y (T (nI (a + j)) v) r → Ev sc y (T (nI a) v0) r := by
    intro j
    induction j with
    | zero => intro v _ h1 h; rw [forX_0] at h1; cases h1; exact h
    | succ j ih =>
      intro v hj h1 h
      cases h2 : forX f a j v0 with
      | inl v' =>
        rw [forX_l h2] at h1
        refine ih v' (by omega) h2 (hs j v' (by omega) h2 _ rfl ?_)
        rw [h1]
        show Ev sc y (T (nI (a + j) + 1) v) r
        rw [nI_1]
        exact h
      | inr x' => rw [forX_r h2] at h1; cases h1
  have main : ∀ i, i ≤ n → forX f a i v0 = .inr x → Ev sc y (T (nI a) v0) r := by
    intro i
    induction i with
    | zero => intro _ h; rw [forX_0] at h; cases h
    | succ i ih =>
      intro hi h
      cases h2 : forX f a i v0 with
      | inl v' =>
        rw [forX_l h2] at h
        refine key i v' (by omega) h2 (hs i v' (by omega) h2 _ rfl ?_)
        rw [h]
        exact hB
      | inr x' =>
        rw [forX_r h2] at h
        cases h
        exact ih (by omega) h2
  rw [hc]
  exact main n (Nat.le_refl n) hx
def unX {V : Type} : V ⊕ V → V
  | .inl v => v
  | .inr v => v
/-- all exits come to one place -/
theorem Ev.loopA {sc : SC} {y : Nat} {r : Option Int32 × AW} {V : Type} (T : Int32 → V → St) (Te : V → St) (f : Nat → V → V ⊕ V) (a n : Nat) (v0 : V) {c0 : Int32} (hc : c0 = nI a) (hx : ∃ x, forX f a n v0 = .inr x) (hs : ∀ j v, j < n → forX f a j v0 = .inl v → ∀ K : V ⊕ V → Prop, K = eX (fun v' => Ev sc y (T (nI (a + j) + 1) v') r) (fun x => Ev sc y (Te x) r) → K (f (a + j) v) → Ev sc y (T (nI (a + j)) v) r) (k : Ev sc y (Te (unX (forX f a n v0))) r) : Ev sc y (T c0 v0) r := by
  refine Ev.loopX T f a n v0 hc (fun x => Ev sc y (Te x) r) hx (fun x hx => ?_) hs
  rw [hx] at k
  exact k
def exB {V X : Type} (d : X) : V ⊕ X → X
  | .inr x => x
  | .inl _ => d
/-- exits that are the end of the method -/
theorem Ev.loopB {sc : SC} {y : Nat} {r : Option Int32 × AW} {V X : Type} (T : Int32 → V → St) (f : Nat → V → V ⊕ X) (a n : Nat) (v0 : V) {c0 : Int32} (hc : c0 = nI a) (d : X) (K0 : X → Prop) (hx : ∃ x, forX f a n v0 = .inr x) (k : K0 (exB d (forX f a n v0))) (hs : ∀ j v, j < n → forX f a j v0 = .inl v → ∀ K : V ⊕ X → Prop, K = eX (fun v' => Ev sc y (T (nI (a + j) + 1) v') r) K0 → K (f (a + j) v) → Ev sc y (T (nI (a + j)) v) r) : Ev sc y (T c0 v0) r := by
  refine Ev.loopX T f a n v0 hc K0 hx (fun x hx => ?_) hs
  rw [hx] at k
  exact k
theorem in_2 {x : Int32} (h : x = 0 ∨ x = 1) (h0 : ¬ x = 0) : x = 1 := h.resolve_left h0

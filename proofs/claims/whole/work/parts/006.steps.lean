theorem s_ild_i {pc i : Nat} {L : List (Option AV)} {S : List AV} {w : AW} {b : Nat × Nat} {ps : List Prop} {st' : St} (h : s_ild pc i L S w b = some (ps, st')) : ∃ x, L[i]? = some (some (.inl x)) ∧ ps = [] ∧ st' = (pc, L, vI x :: S, w, b) := by
  unfold s_ild at h
  split at h
  · next x hx => cases h; exact ⟨x, hx, rfl, rfl⟩
  · cases h
theorem s_ald_i {pc i : Nat} {L : List (Option AV)} {S : List AV} {w : AW} {b : Nat × Nat} {ps : List Prop} {st' : St} (h : s_ald pc i L S w b = some (ps, st')) : ∃ r, L[i]? = some (some (.inr (some r))) ∧ ps = [] ∧ st' = (pc, L, .inr (some r) :: S, w, b) := by
  unfold s_ald at h
  split at h
  · next x hx => cases h; exact ⟨x, hx, rfl, rfl⟩
  · cases h
theorem s_ist_i {pc i : Nat} {L : List (Option AV)} {S : List AV} {w : AW} {b : Nat × Nat} {ps : List Prop} {st' : St} (h : s_ist pc i L S w b = some (ps, st')) : ∃ x S', S = .inl x :: S' ∧ i < L.length ∧ ps = [] ∧ st' = (pc, L.set i (some (vI x)), S', w, b) := by
  unfold s_ist at h
  split at h
  · split at h
    · next hi => cases h; exact ⟨_, _, rfl, hi, rfl, rfl⟩
    · cases h
  · cases h
theorem s_ast_i {pc i : Nat} {L : List (Option AV)} {S : List AV} {w : AW} {b : Nat × Nat} {ps : List Prop} {st' : St} (h : s_ast pc i L S w b = some (ps, st')) : ∃ r S', S = .inr (some r) :: S' ∧ i < L.length ∧ ps = [] ∧ st' = (pc, L.set i (some (.inr (some r))), S', w, b) := by
  unfold s_ast at h
  split at h
  · split at h
    · next hi => cases h; exact ⟨_, _, rfl, hi, rfl, rfl⟩
    · cases h
  · cases h
theorem s_inc_i {pc i : Nat} {v : Int32} {L : List (Option AV)} {S : List AV} {w : AW} {b : Nat × Nat} {ps : List Prop} {st' : St} (h : s_inc pc i v L S w b = some (ps, st')) : ∃ x, L[i]? = some (some (.inl x)) ∧ ps = [] ∧ st' = (pc, L.set i (some (vI (x + v))), S, w, b) := by
  unfold s_inc at h
  split at h
  · next x hx => cases h; exact ⟨x, hx, rfl, rfl⟩
  · cases h
theorem s_bin_i {pc : Nat} {f : Int32 → Int32 → Int32} {L : List (Option AV)} {S : List AV} {w : AW} {b : Nat × Nat} {ps : List Prop} {st' : St} (h : s_bin pc L S w b f = some (ps, st')) : ∃ x y S', S = .inl y :: .inl x :: S' ∧ ps = [] ∧ st' = (pc, L, vI (f x y) :: S', w, b) := by
  unfold s_bin at h
  split at h
  · cases h; exact ⟨_, _, _, rfl, rfl, rfl⟩
  · cases h
theorem s_div_i {pc : Nat} {f : Int32 → Int32 → Int32} {L : List (Option AV)} {S : List AV} {w : AW} {b : Nat × Nat} {ps : List Prop} {st' : St} (h : s_div pc L S w b f = some (ps, st')) : ∃ x y S', S = .inl y :: .inl x :: S' ∧ ps = [¬ y = 0] ∧ st' = (pc, L, vI (f x y) :: S', w, b) := by
  unfold s_div at h
  split at h
  · cases h; exact ⟨_, _, _, rfl, rfl, rfl⟩
  · cases h
theorem s_neg_i {pc : Nat} {L : List (Option AV)} {S : List AV} {w : AW} {b : Nat × Nat} {ps : List Prop} {st' : St} (h : s_neg pc L S w b = some (ps, st')) : ∃ x S', S = .inl x :: S' ∧ ps = [] ∧ st' = (pc, L, vI (-x) :: S', w, b) := by
  unfold s_neg at h
  split at h
  · cases h; exact ⟨_, _, rfl, rfl, rfl⟩
  · cases h
theorem s_if1_i {k : Int32 → Nat} {L : List (Option AV)} {S : List AV} {w : AW} {b : Nat × Nat} {ps : List Prop} {st' : St} (h : s_if1 k L S w b = some (ps, st')) : ∃ x S', S = .inl x :: S' ∧ ps = [] ∧ st' = (k x, L, S', w, b) := by
  unfold s_if1 at h
  split at h
  · cases h; exact ⟨_, _, rfl, rfl, rfl⟩
  · cases h
theorem s_if2_i {k : Int32 → Int32 → Nat} {L : List (Option AV)} {S : List AV} {w : AW} {b : Nat × Nat} {ps : List Prop} {st' : St} (h : s_if2 k L S w b = some (ps, st')) : ∃ x y S', S = .inl y :: .inl x :: S' ∧ ps = [] ∧ st' = (k x y, L, S', w, b) := by
  unfold s_if2 at h
  split at h
  · cases h; exact ⟨_, _, _, rfl, rfl, rfl⟩
  · cases h
theorem s_dup_i {pc : Nat} {L : List (Option AV)} {S : List AV} {w : AW} {b : Nat × Nat} {ps : List Prop} {st' : St} (h : s_dup pc L S w b = some (ps, st')) : ∃ v S', S = v :: S' ∧ ps = [] ∧ st' = (pc, L, v :: v :: S', w, b) := by
  unfold s_dup at h
  split at h
  · cases h; exact ⟨_, _, rfl, rfl, rfl⟩
  · cases h
theorem s_dup2_i {pc : Nat} {L : List (Option AV)} {S : List AV} {w : AW} {b : Nat × Nat} {ps : List Prop} {st' : St} (h : s_dup2 pc L S w b = some (ps, st')) : ∃ v u S', S = v :: u :: S' ∧ ps = [] ∧ st' = (pc, L, v :: u :: v :: u :: S', w, b) := by
  unfold s_dup2 at h
  split at h
  · cases h; exact ⟨_, _, _, rfl, rfl, rfl⟩
  · cases h
theorem s_get_i {pc ci k : Nat} {L : List (Option AV)} {S : List AV} {w : AW} {b : Nat × Nat} {ps : List Prop} {st' : St} (h : s_get pc ci k L S w b = some (ps, st')) : ∃ o fs v S', S = .inr (some (some o)) :: S' ∧ w[o]? = some (.inr (.inr (ci, fs))) ∧ fs[k]? = some v ∧ ps = [] ∧ st' = (pc, L, v :: S', w, b) := by
  unfold s_get at h
  split at h
  · split at h
    · next hw =>
      split at h
      · next hc =>
        subst hc
        split at h
        · next hv => cases h; exact ⟨_, _, _, _, rfl, hw, hv, rfl, rfl⟩
        · cases h
      · cases h
    · cases h
  · cases h
theorem s_put_i {pc ci k : Nat} {L : List (Option AV)} {S : List AV} {w : AW} {b : Nat × Nat} {ps : List Prop} {st' : St} (h : s_put pc ci k L S w b = some (ps, st')) : ∃ o fs v S', S = v :: .inr (some (some o)) :: S' ∧ w[o]? = some (.inr (.inr (ci, fs))) ∧ k < fs.length ∧ s_fit ci k v = true ∧ ps = [] ∧ st' = (pc, L, S', w.set o (.inr (.inr (ci, fs.set k v))), b) := by
  unfold s_put at h
  split at h
  · split at h
    · next hw =>
      split at h
      · next hc =>
        obtain ⟨rfl, h1, h2⟩ := hc
        cases h
        exact ⟨_, _, _, _, rfl, hw, h1, h2, rfl, rfl⟩
      · cases h
    · cases h
  · cases h
theorem s_iald_i {z : Bool} {sc : SC} {pc : Nat} {L : List (Option AV)} {S : List AV} {w : AW} {b : Nat × Nat} {ps : List Prop} {st' : St} (h : s_iald z sc pc L S w b = some (ps, st')) : ∃ i n f S', ps = [vp_in i n] ∧ st' = (pc, L, vI (f i.toNatClampNeg) :: S', w, b) ∧ ((∃ o, S = .inl i :: .inr (some (some o)) :: S' ∧ w[o]? = some (.inl (z, n, f))) ∨ (S = .inl i :: .inr (some none) :: S' ∧ z = false ∧ sc = some (n, f))) := by
  unfold s_iald at h
  split at h
  · split at h
    · next hw =>
      split at h
      · next hc =>
        subst hc
        cases h
        exact ⟨_, _, _, _, rfl, rfl, Or.inl ⟨_, rfl, hw⟩⟩
      · cases h
    · cases h
  · split at h
    · cases h
      exact ⟨_, _, _, _, rfl, rfl, Or.inr ⟨rfl, rfl, rfl⟩⟩
    · cases h
  · cases h
theorem s_iast_i {z : Bool} {pc : Nat} {L : List (Option AV)} {S : List AV} {w : AW} {b : Nat × Nat} {ps : List Prop} {st' : St} (h : s_iast z pc L S w b = some (ps, st')) : ∃ x i o n f S', S = .inl x :: .inl i :: .inr (some (some o)) :: S' ∧ w[o]? = some (.inl (z, n, f)) ∧ ps = [vp_in i n] ∧ st' = (pc, L, S', w.set o (.inl (z, n, upd f i.toNatClampNeg (if z then x &&& 1 else x))), b) := by
  unfold s_iast at h
  split at h
  · split at h
    · next hw =>
      split at h
      · next hc =>
        subst hc
        cases h
        exact ⟨_, _, _, _, _, _, rfl, hw, rfl, rfl⟩
      · cases h
    · cases h
  · cases h
theorem s_aald_i {pc : Nat} {L : List (Option AV)} {S : List AV} {w : AW} {b : Nat × Nat} {ps : List Prop} {st' : St} (h : s_aald pc L S w b = some (ps, st')) : ∃ i o n f S', S = .inl i :: .inr (some (some o)) :: S' ∧ w[o]? = some (.inr (.inl (n, f))) ∧ ps = [vp_in i n] ∧ st' = (pc, L, rfA (f i.toNatClampNeg) :: S', w, b) := by
  unfold s_aald at h
  split at h
  · split at h
    · next hw =>
      cases h
      exact ⟨_, _, _, _, _, rfl, hw, rfl, rfl⟩
    · cases h
  · cases h
theorem s_aast_i {pc : Nat} {L : List (Option AV)} {S : List AV} {w : AW} {b : Nat × Nat} {ps : List Prop} {st' : St} (h : s_aast pc L S w b = some (ps, st')) : ∃ j i o n f fs S', S = .inr (some (some j)) :: .inl i :: .inr (some (some o)) :: S' ∧ w[o]? = some (.inr (.inl (n, f))) ∧ w[j]? = some (.inr (.inr (1, fs))) ∧ ps = [vp_in i n] ∧ st' = (pc, L, S', w.set o (.inr (.inl (n, va_up f i.toNatClampNeg (some j)))), b) := by
  unfold s_aast at h
  split at h
  · split at h
    · next hw hj =>
      cases h
      exact ⟨_, _, _, _, _, _, _, rfl, hw, hj, rfl, rfl⟩
    · cases h
  · cases h
theorem s_alen_i {sc : SC} {pc : Nat} {L : List (Option AV)} {S : List AV} {w : AW} {b : Nat × Nat} {ps : List Prop} {st' : St} (h : s_alen sc pc L S w b = some (ps, st')) : ∃ n f S', S = .inr (some none) :: S' ∧ sc = some (n, f) ∧ ps = [] ∧ st' = (pc, L, vI (Int32.ofNat n) :: S', w, b) := by
  unfold s_alen at h
  split at h
  · cases h
    exact ⟨_, _, _, rfl, rfl, rfl, rfl⟩
  · cases h
theorem s_newa_i {z : Bool} {pc : Nat} {L : List (Option AV)} {S : List AV} {w : AW} {b : Nat × Nat} {ps : List Prop} {st' : St} (h : s_newa z pc L S w b = some (ps, st')) : ∃ n S', S = .inl n :: S' ∧ (1 ≤ b.1 ∧ n.toNatClampNeg ≤ b.2 ∧ n.toNatClampNeg ≤ 65536) ∧ ps = [¬ n < 0] ∧ st' = (pc, L, vR w.length :: S', w ++ [.inl (z, n.toNatClampNeg, fun _ => 0)], (b.1 - 1, b.2 - n.toNatClampNeg)) := by
  unfold s_newa at h
  split at h
  · split at h
    · next hc =>
      cases h
      exact ⟨_, _, rfl, hc, rfl, rfl⟩
    · cases h
  · cases h
theorem s_newq_i {pc : Nat} {L : List (Option AV)} {S : List AV} {w : AW} {b : Nat × Nat} {ps : List Prop} {st' : St} (h : s_newq pc L S w b = some (ps, st')) : ∃ n S', S = .inl n :: S' ∧ (1 ≤ b.1 ∧ n.toNatClampNeg ≤ b.2 ∧ n.toNatClampNeg ≤ 65536) ∧ ps = [¬ n < 0] ∧ st' = (pc, L, vR w.length :: S', w ++ [.inr (.inl (n.toNatClampNeg, fun _ => none))], (b.1 - 1, b.2 - n.toNatClampNeg)) := by
  unfold s_newq at h
  split at h
  · split at h
    · next hc =>
      cases h
      exact ⟨_, _, rfl, hc, rfl, rfl⟩
    · cases h
  · cases h
theorem s_new_i {pc ci : Nat} {L : List (Option AV)} {S : List AV} {w : AW} {b : Nat × Nat} {ps : List Prop} {st' : St} (h : s_new pc ci L S w b = some (ps, st')) : (1 ≤ b.1 ∧ (cDs.getD ci []).length ≤ b.2) ∧ ps = [] ∧ st' = (pc, L, vR w.length :: S, w ++ [.inr (.inr (ci, cDs.getD ci []))], (b.1 - 1, b.2 - (cDs.getD ci []).length)) := by
  unfold s_new at h
  split at h
  · next hc =>
    cases h
    exact ⟨hc, rfl, rfl⟩
  · cases h
theorem s_obj_i {t : List Nat} {pc : Nat} {L : List (Option AV)} {S : List AV} {w : AW} {b : Nat × Nat} {ps : List Prop} {st' : St} (h : s_obj t pc L S w b = some (ps, st')) : ∃ o S', t = [4] ∧ S = .inr (some (some o)) :: S' ∧ S'.length ≤ 8 ∧ ps = [] ∧ st' = (pc, L, S', w, b) := by
  unfold s_obj at h
  split at h
  · split at h
    · next hc =>
      cases h
      exact ⟨_, _, rfl, rfl, hc, rfl, rfl⟩
    · cases h
  · cases h
section Snd
variable {p : Program} {l : Launch} {e : Env} {R : Room} {s : State} {m : MethodId} {args : Array Value} {below : List Frame} {meth : Method} {c : Code} {Q : State → Prop} {B : Nat × Nat} {cA : ClassId × ClassId × ClassId} {D : va_G}
theorem rfA_V (B : Nat × Nat) (r : Option Nat) : mV B (rfA r) = va_rf (r.map (fun k => B.1 + k)) := by cases r <;> rfl
set_option maxHeartbeats 4000000 in
theorem sp_snd {sc : SC} {y : Nat} (hC : cxF p R s m args meth c B cA D sc y) {pc : Nat} {L : List (Option AV)} {S : List AV} {w : AW} {b : Nat × Nat} {E : AE} {ps : List Prop} {st' : St} (hok : okB y pc E = true) (h : sp sc E (pc, L, S, w, b) = some (ps, st')) (hp : allP ps) (k : AtS p l e R s m args below meth c Q B cA D st') : AtS p l e R s m args below meth c Q B cA D (pc, L, S, w, b) := by
  obtain ⟨hx, hb, hml, hown, hts, hnm, hU, hB, hR, hsc⟩ := hC
  obtain ⟨hd, hI⟩ := Bool.and_eq_true_iff.mp hok
  replace hd := of_decide_eq_true hd
  obtain ⟨i, ⟨ln, a, bb, pl⟩, ts, v⟩ := E
  have wA : ∀ {q : Nat} {wd : Cond}, decide (lw_tbl[q]? = some wd) = true → goodWord wd = true → wd.before args s = true := fun h1 h2 => hts _ (wm_in (tG_at _ (of_decide_eq_true h1) h2))
  intro H locs cells slots ls hH hS hl hz hc hs
  cases i
  case iconst n =>
    cases h
    exact lv_iconst hx hb hd (of_decide_eq_true hI) (k H locs cells slots ls hH hS hl hz hc hs)
  case bipush n =>
    cases h
    exact lv_bipush hx hb hd (of_decide_eq_true hI) (k H locs cells slots ls hH hS hl hz hc hs)
  case sipush n =>
    cases h
    exact lv_sipush hx hb hd (of_decide_eq_true hI) (k H locs cells slots ls hH hS hl hz hc hs)
  case ldc_w n =>
    cases h
    exact lv_ldcw hx hb hown (wA hI rfl) hd (k H locs cells slots ls hH hS hl hz hc hs)
  case iload_n n =>
    obtain ⟨x, hv, rfl, rfl⟩ := s_ild_i h
    exact lv_iload_n hx hb hd rfl (hl.2.2 _ _ hv) (k H locs cells slots ls hH hS hl hz hc hs)
  case iload n =>
    obtain ⟨x, hv, rfl, rfl⟩ := s_ild_i h
    exact lv_iload hx hb hd (hl.2.2 _ _ hv) (k H locs cells slots ls hH hS hl hz hc hs)
  case aload_n n =>
    obtain ⟨r, hv, rfl, rfl⟩ := s_ald_i h
    cases r with
    | none => exact lv_aload_n hx hb hd rfl (hl.2.2 _ _ hv) (k H locs cells slots ls hH hS hl hz hc hs)
    | some r => exact lv_aload_n hx hb hd rfl (hl.2.2 _ _ hv) (k H locs cells slots ls hH hS hl hz hc hs)
  case aload n =>
    obtain ⟨r, hv, rfl, rfl⟩ := s_ald_i h
    cases r with
    | none => exact lv_aload hx hb hd (hl.2.2 _ _ hv) (k H locs cells slots ls hH hS hl hz hc hs)
    | some r => exact lv_aload hx hb hd (hl.2.2 _ _ hv) (k H locs cells slots ls hH hS hl hz hc hs)
  case istore_n n =>
    obtain ⟨x, S', rfl, hi, rfl, rfl⟩ := s_ist_i h
    exact lv_istore_n hx hb hd rfl hl.has hi rfl (fun ls' hl' => k H locs cells slots ls' hH hS (lcs.put hi hl') (hl'.1.trans (hl.1.symm.trans hz)) hc hs)
  case istore n =>
    obtain ⟨x, S', rfl, hi, rfl, rfl⟩ := s_ist_i h
    exact lv_istore hx hb hd hl.has hi rfl (fun ls' hl' => k H locs cells slots ls' hH hS (lcs.put hi hl') (hl'.1.trans (hl.1.symm.trans hz)) hc hs)
  case astore_n n =>
    obtain ⟨r, S', rfl, hi, rfl, rfl⟩ := s_ast_i h
    cases r with
    | none => exact lv_astore_n hx hb hd rfl hl.has hi rfl (fun ls' hl' => k H locs cells slots ls' hH hS (lcs.put hi hl') (hl'.1.trans (hl.1.symm.trans hz)) hc hs)
    | some r => exact lv_astore_n hx hb hd rfl hl.has hi rfl (fun ls' hl' => k H locs cells slots ls' hH hS (lcs.put hi hl') (hl'.1.trans (hl.1.symm.trans hz)) hc hs)
  case astore n =>
    obtain ⟨r, S', rfl, hi, rfl, rfl⟩ := s_ast_i h
    cases r with
    | none => exact lv_astore hx hb hd hl.has hi rfl (fun ls' hl' => k H locs cells slots ls' hH hS (lcs.put hi hl') (hl'.1.trans (hl.1.symm.trans hz)) hc hs)
    | some r => exact lv_astore hx hb hd hl.has hi rfl (fun ls' hl' => k H locs cells slots ls' hH hS (lcs.put hi hl') (hl'.1.trans (hl.1.symm.trans hz)) hc hs)
  case iinc n q =>
    obtain ⟨x, hv, rfl, rfl⟩ := s_inc_i h
    have hi : n < L.length := (List.getElem?_eq_some_iff.mp hv).1
    obtain ⟨j, hj⟩ := List.mem_iff_getElem?.mp (lvL_mem (B := B) (q := (n, .int x)).mpr ⟨.inl x, hv, rfl⟩)
    exact lv_iinc (v := x + v) hx hb hd hl.has hj (by rw [of_decide_eq_true hI]) hi rfl (fun ls' hl' => k H locs cells slots ls' hH hS (lcs.put hi hl') (hl'.1.trans (hl.1.symm.trans hz)) hc hs)
  case iadd =>
    obtain ⟨x, y', S', rfl, rfl, rfl⟩ := s_bin_i h
    exact lv_iadd hx hb hd (k H locs cells slots ls hH hS hl hz hc hs)
  case isub =>
    obtain ⟨x, y', S', rfl, rfl, rfl⟩ := s_bin_i h
    exact lv_isub hx hb hd (k H locs cells slots ls hH hS hl hz hc hs)
  case imul =>
    obtain ⟨x, y', S', rfl, rfl, rfl⟩ := s_bin_i h
    exact lv_imul hx hb hd (k H locs cells slots ls hH hS hl hz hc hs)
  case iand =>
    obtain ⟨x, y', S', rfl, rfl, rfl⟩ := s_bin_i h
    exact lv_iand hx hb hd (k H locs cells slots ls hH hS hl hz hc hs)
  case ior =>
    obtain ⟨x, y', S', rfl, rfl, rfl⟩ := s_bin_i h
    exact lv_ior hx hb hd (k H locs cells slots ls hH hS hl hz hc hs)
  case ixor =>
    obtain ⟨x, y', S', rfl, rfl, rfl⟩ := s_bin_i h
    exact lv_ixor hx hb hd (k H locs cells slots ls hH hS hl hz hc hs)
  case ishl =>
    obtain ⟨x, y', S', rfl, rfl, rfl⟩ := s_bin_i h
    exact lv_ishl hx hb hd (k H locs cells slots ls hH hS hl hz hc hs)
  case ishr =>
    obtain ⟨x, y', S', rfl, rfl, rfl⟩ := s_bin_i h
    exact lv_ishr hx hb hd (k H locs cells slots ls hH hS hl hz hc hs)
  case iushr =>
    obtain ⟨x, y', S', rfl, rfl, rfl⟩ := s_bin_i h
    exact lv_iushr hx hb hd rfl (k H locs cells slots ls hH hS hl hz hc hs)
  case idiv =>
    obtain ⟨x, y', S', rfl, rfl, rfl⟩ := s_div_i h
    exact lv_idiv hx hb hd hp.1 (k H locs cells slots ls hH hS hl hz hc hs)
  case irem =>
    obtain ⟨x, y', S', rfl, rfl, rfl⟩ := s_div_i h
    exact lv_irem hx hb hd hp.1 (k H locs cells slots ls hH hS hl hz hc hs)
  case ineg =>
    obtain ⟨x, S', rfl, rfl, rfl⟩ := s_neg_i h
    exact lv_ineg hx hb hd (k H locs cells slots ls hH hS hl hz hc hs)
  case dup =>
    obtain ⟨v', S', rfl, rfl, rfl⟩ := s_dup_i h
    exact lv_dup hx hb hd (mV_cat B v') (k H locs cells slots ls hH hS hl hz hc hs)
  case dup2 =>
    obtain ⟨v', u', S', rfl, rfl, rfl⟩ := s_dup2_i h
    exact lv_dup2_11 hx hb hd (mV_cat B v') (mV_cat B u') (k H locs cells slots ls hH hS hl hz hc hs)
  case goto off =>
    cases h
    exact lv_goto hx hb hd (of_decide_eq_true hI) (k H locs cells slots ls hH hS hl hz hc hs)
  case ifCond cn off =>
    cases cn with
    | eq =>
      obtain ⟨x, S', rfl, rfl, rfl⟩ := s_if1_i h
      have z : W p l e R s m args below meth c H locs cells slots Q (F0 m (if x = 0 then a else pc + 3) ls (S'.map (mV B))) := k H locs cells slots ls hH hS hl hz hc hs
      exact lv_if_eq hx hb hd (of_decide_eq_true hI) (fun q => by rw [if_pos q] at z; exact z) (fun q => by rw [if_neg q] at z; exact z)
    | ne =>
      obtain ⟨x, S', rfl, rfl, rfl⟩ := s_if1_i h
      have z : W p l e R s m args below meth c H locs cells slots Q (F0 m (if x = 0 then pc + 3 else a) ls (S'.map (mV B))) := k H locs cells slots ls hH hS hl hz hc hs
      exact lv_if_ne hx hb hd (of_decide_eq_true hI) (fun q => by rw [if_neg q] at z; exact z) (fun q => by rw [if_pos q] at z; exact z)
    | lt =>
      obtain ⟨x, S', rfl, rfl, rfl⟩ := s_if1_i h
      have z : W p l e R s m args below meth c H locs cells slots Q (F0 m (if x < 0 then a else pc + 3) ls (S'.map (mV B))) := k H locs cells slots ls hH hS hl hz hc hs
      exact lv_if_lt hx hb hd (of_decide_eq_true hI) (fun q => by rw [if_pos q] at z; exact z) (fun q => by rw [if_neg q] at z; exact z)
    | ge =>
      obtain ⟨x, S', rfl, rfl, rfl⟩ := s_if1_i h
      have z : W p l e R s m args below meth c H locs cells slots Q (F0 m (if 0 ≤ x then a else pc + 3) ls (S'.map (mV B))) := k H locs cells slots ls hH hS hl hz hc hs
      exact lv_if_ge hx hb hd (of_decide_eq_true hI) (fun q => by rw [if_pos q] at z; exact z) (fun q => by rw [if_neg q] at z; exact z)
    | gt =>
      obtain ⟨x, S', rfl, rfl, rfl⟩ := s_if1_i h
      have z : W p l e R s m args below meth c H locs cells slots Q (F0 m (if 0 < x then a else pc + 3) ls (S'.map (mV B))) := k H locs cells slots ls hH hS hl hz hc hs
      exact lv_if_gt hx hb hd (of_decide_eq_true hI) (fun q => by rw [if_pos q] at z; exact z) (fun q => by rw [if_neg q] at z; exact z)
    | le =>
      obtain ⟨x, S', rfl, rfl, rfl⟩ := s_if1_i h
      have z : W p l e R s m args below meth c H locs cells slots Q (F0 m (if x ≤ 0 then a else pc + 3) ls (S'.map (mV B))) := k H locs cells slots ls hH hS hl hz hc hs
      exact lv_if_le hx hb hd (of_decide_eq_true hI) (fun q => by rw [if_pos q] at z; exact z) (fun q => by rw [if_neg q] at z; exact z)
  case if_icmp cn off =>
    cases cn with
    | eq =>
      obtain ⟨x, y', S', rfl, rfl, rfl⟩ := s_if2_i h
      have z : W p l e R s m args below meth c H locs cells slots Q (F0 m (if x = y' then a else pc + 3) ls (S'.map (mV B))) := k H locs cells slots ls hH hS hl hz hc hs
      exact lv_icmp_eq hx hb hd (of_decide_eq_true hI) (fun q => by rw [if_pos q] at z; exact z) (fun q => by rw [if_neg q] at z; exact z)
    | ne =>
      obtain ⟨x, y', S', rfl, rfl, rfl⟩ := s_if2_i h
      have z : W p l e R s m args below meth c H locs cells slots Q (F0 m (if x = y' then pc + 3 else a) ls (S'.map (mV B))) := k H locs cells slots ls hH hS hl hz hc hs
      exact lv_icmp_ne hx hb hd (of_decide_eq_true hI) (fun q => by rw [if_neg q] at z; exact z) (fun q => by rw [if_pos q] at z; exact z)
    | lt =>
      obtain ⟨x, y', S', rfl, rfl, rfl⟩ := s_if2_i h
      have z : W p l e R s m args below meth c H locs cells slots Q (F0 m (if x < y' then a else pc + 3) ls (S'.map (mV B))) := k H locs cells slots ls hH hS hl hz hc hs
      exact lv_icmp_lt hx hb hd (of_decide_eq_true hI) (fun q => by rw [if_pos q] at z; exact z) (fun q => by rw [if_neg q] at z; exact z)
    | ge =>
      obtain ⟨x, y', S', rfl, rfl, rfl⟩ := s_if2_i h
      have z : W p l e R s m args below meth c H locs cells slots Q (F0 m (if y' ≤ x then a else pc + 3) ls (S'.map (mV B))) := k H locs cells slots ls hH hS hl hz hc hs
      exact lv_icmp_ge hx hb hd (of_decide_eq_true hI) (fun q => by rw [if_pos q] at z; exact z) (fun q => by rw [if_neg q] at z; exact z)
    | gt =>
      obtain ⟨x, y', S', rfl, rfl, rfl⟩ := s_if2_i h
      have z : W p l e R s m args below meth c H locs cells slots Q (F0 m (if y' < x then a else pc + 3) ls (S'.map (mV B))) := k H locs cells slots ls hH hS hl hz hc hs
      exact lv_icmp_gt hx hb hd (of_decide_eq_true hI) (fun q => by rw [if_pos q] at z; exact z) (fun q => by rw [if_neg q] at z; exact z)
    | le =>
      obtain ⟨x, y', S', rfl, rfl, rfl⟩ := s_if2_i h
      have z : W p l e R s m args below meth c H locs cells slots Q (F0 m (if x ≤ y' then a else pc + 3) ls (S'.map (mV B))) := k H locs cells slots ls hH hS hl hz hc hs
      exact lv_icmp_le hx hb hd (of_decide_eq_true hI) (fun q => by rw [if_pos q] at z; exact z) (fun q => by rw [if_neg q] at z; exact z)
  case tableswitch df lo hi offs =>
    obtain ⟨x, S', rfl, rfl, rfl⟩ := s_if1_i h
    have z : W p l e R s m args below meth c H locs cells slots Q (F0 m (s_sw x 0 ts a) ls (S'.map (mV B))) := k H locs cells slots ls hH hS hl hz hc hs
    obtain ⟨hI, i5⟩ := Bool.and_eq_true_iff.mp hI
    obtain ⟨hI, i4⟩ := Bool.and_eq_true_iff.mp hI
    obtain ⟨hI, i3⟩ := Bool.and_eq_true_iff.mp hI
    obtain ⟨i1, i2⟩ := Bool.and_eq_true_iff.mp hI
    have j1 : ts.length < 1000 := of_decide_eq_true i1
    have j2 : lo = 0 := of_decide_eq_true i2
    have j3 : hi + 1 = (ts.length : Int) := of_decide_eq_true i3
    have j4 : (pc : Int) + df = (a : Int) := of_decide_eq_true i4
    have j5 : offs.toList.map (fun o => (pc : Int) + o) = ts.map (fun (t : Nat) => (t : Int)) := of_decide_eq_true i5
    subst j2
    by_cases hq : x.toInt < 0 ∨ (ts.length : Int) ≤ x.toInt
    · rw [sw_big x a ts 0 (by omega) (by omega)] at z
      exact lv_tableOut hx hb hd (by omega) j4 z
    · have hn : x.toInt.toNat < ts.length := by omega
      obtain ⟨t, ht⟩ : ∃ t, ts[x.toInt.toNat]? = some t := ⟨_, List.getElem?_eq_getElem hn⟩
      rw [sw_in x a ts 0 x.toInt.toNat t (by omega) (by omega) ht] at z
      have h6 : (offs.toList.map (fun o => (pc : Int) + o))[x.toInt.toNat]? = some (t : Int) := by rw [j5, List.getElem?_map, ht]; rfl
      rw [List.getElem?_map] at h6
      cases h7 : offs.toList[x.toInt.toNat]? with
      | none => rw [h7] at h6; cases h6
      | some off =>
        rw [h7] at h6
        exact lv_tableIn hx hb hd (by omega) (by omega) (by rw [Int.sub_zero, ← Array.getElem?_toList]; exact h7) (Option.some.inj h6) z
  case getfield n =>
    obtain ⟨o, fs, v', S', rfl, hw, hv, rfl, rfl⟩ := s_get_i h
    have hI' : (match cls[a]? with | some r => decide (bb < r.2.2) && decide (lw_tbl[pl]? = some (.fieldLink (mNm y).cls n (r.2.1 bb).1 (r.2.1 bb).2.1 (r.2.1 bb).2.2.1)) | none => false) = true := hI
    split at hI'
    · next r hr =>
      obtain ⟨i1, i2⟩ := Bool.and_eq_true_iff.mp hI'
      exact va_get (C := r.1) (T := r.2.1) (N := r.2.2) (ref := (r.2.1 bb).1) hx hb hts (fun w h => wm_in ((c_ok a r hr).1 w h)) hown hU.1 hH.2 o (mW_at hw) hr bb (of_decide_eq_true i1) (wA i2 rfl) (fun _ h => h) (v := mV B v') (by rw [List.getElem?_map, hv]; rfl) hd (k H locs cells slots ls hH hS hl hz hc hs)
    · cases hI'
  case putfield n =>
    obtain ⟨o, fs, v', S', rfl, hw, hkl, hf, rfl, rfl⟩ := s_put_i h
    have hI' : (match cls[a]? with | some r => decide (bb < r.2.2) && decide (lw_tbl[pl]? = some (.fieldLink (mNm y).cls n (r.2.1 bb).1 (r.2.1 bb).2.1 (r.2.1 bb).2.2.1)) && ((r.2.1 bb).2.2.2 == false || (decide ((mNm y).name = "<init>") && decide ((r.2.1 bb).1 = (mNm y).cls))) | none => false) = true := hI
    split at hI'
    · next r hr =>
      obtain ⟨hI', i3⟩ := Bool.and_eq_true_iff.mp hI'
      obtain ⟨i1, i2⟩ := Bool.and_eq_true_iff.mp hI'
      refine m_put hx hb hU hH hS hown hr hts (fun w h => wm_in h) (of_decide_eq_true i1) hkl (wA i2 rfl) ?_ hw hf hd (fun H1 locs1 g1 g2 => k H1 locs1 cells slots ls g1 g2 hl hz hc hs)
      rcases Bool.or_eq_true_iff.mp i3 with q | q
      · exact Or.inl (by simpa using q)
      · obtain ⟨q1, q2⟩ := Bool.and_eq_true_iff.mp q
        exact Or.inr ⟨by rw [hnm]; exact of_decide_eq_true q1, of_decide_eq_true q2⟩
    · cases hI'
  case iaload =>
    obtain ⟨i, n, f, S', rfl, rfl, hq⟩ := s_iald_i (sc := sc) h
    rcases hq with ⟨o, rfl, hw⟩ | ⟨rfl, hz0, hsc0⟩
    · exact va_iald hx hb hU.1 hH.2 o 0 (cA := cA.1) (mW_at hw) rfl hp.1 hd (k H locs cells slots ls hH hS hl hz hc hs)
    · obtain ⟨hX, hBb⟩ := hsc n f hsc0
      exact va_sld hx hb hX (Nat.lt_of_lt_of_le hBb hB) (Nat.not_le.mpr hBb) hS hp.1 hd (k H locs cells slots ls hH hS hl hz hc hs)
  case baload =>
    obtain ⟨i, n, f, S', rfl, rfl, hq⟩ := s_iald_i (sc := sc) h
    rcases hq with ⟨o, rfl, hw⟩ | ⟨rfl, hz0, hsc0⟩
    · exact va_zald hx hb hU.1 hH.2 o 1 (cA := cA.2.1) (mW_at hw) rfl hp.1 hd (k H locs cells slots ls hH hS hl hz hc hs)
    · cases hz0
  case iastore =>
    obtain ⟨x, i, o, n, f, S', rfl, hw, rfl, rfl⟩ := s_iast_i h
    exact m_iast hx hb hU hH hS hw hp.1 hd (fun H1 locs1 g1 g2 => k H1 locs1 cells slots ls g1 g2 hl hz hc hs)
  case bastore =>
    obtain ⟨x, i, o, n, f, S', rfl, hw, rfl, rfl⟩ := s_iast_i h
    exact m_zast hx hb hU hH hS hw hp.1 hd (fun H1 locs1 g1 g2 => k H1 locs1 cells slots ls g1 g2 hl hz hc hs)
  case aaload =>
    obtain ⟨i, o, n, f, S', rfl, hw, rfl, rfl⟩ := s_aald_i h
    have z := k H locs cells slots ls hH hS hl hz hc hs
    refine va_aldq (C := cN1) hx hb hU.1 hH.2 o 2 (mW_at hw) rfl hp.1 hd ?_
    have z2 : W p l e R s m args below meth c H locs cells slots Q (F0 m (pc + 1) ls (mV B (rfA (f i.toNatClampNeg)) :: S'.map (mV B))) := z
    rw [rfA_V] at z2
    exact z2
  case aastore =>
    obtain ⟨j, i, o, n, f, fs, S', rfl, hw, hj, rfl, rfl⟩ := s_aast_i h
    exact m_aast hx hb hU hH hS hw hj hp.1 hd (fun H1 locs1 g1 g2 => k H1 locs1 cells slots ls g1 g2 hl hz hc hs)
  case arraylength =>
    obtain ⟨n, f, S', rfl, hsc0, rfl, rfl⟩ := s_alen_i h
    obtain ⟨hX, hBb⟩ := hsc n f hsc0
    exact va_slen hx hb hX (Nat.lt_of_lt_of_le hBb hB) (Nat.not_le.mpr hBb) hS hd (k H locs cells slots ls hH hS hl hz hc hs)
  case newarray t =>
    cases t
    case int =>
      obtain ⟨n, S', rfl, ⟨b1, b2, b3⟩, rfl, rfl⟩ := s_newa_i h
      refine m_newa (at_ := .int) hx hb hH hS (cK := cA.1) (z := false) (hts _ (wm_in ar_int)) (hU.1.2 0 (cA.1, .int) rfl).2 (fun n => rfl) (fun n => rfl) hp.1 b3 (by decide) (by dsimp only at hc; omega) (by dsimp only at hs; omega) hd (fun H1 g1 g2 => k H1 locs _ _ ls g1 g2 hl hz ?_ ?_)
      · dsimp only at hc ⊢; omega
      · dsimp only at hs ⊢; omega
    case boolean =>
      obtain ⟨n, S', rfl, ⟨b1, b2, b3⟩, rfl, rfl⟩ := s_newa_i h
      refine m_newa (at_ := .boolean) hx hb hH hS (cK := cA.2.1) (z := true) (hts _ (wm_in ar_boolean)) (hU.1.2 1 (cA.2.1, .boolean) rfl).2 (fun n => rfl) (fun n => rfl) hp.1 b3 (by decide) (by dsimp only at hc; omega) (by dsimp only at hs; omega) hd (fun H1 g1 g2 => k H1 locs _ _ ls g1 g2 hl hz ?_ ?_)
      · dsimp only at hc ⊢; omega
      · dsimp only at hs ⊢; omega
    all_goals (cases h)
  case anewarray n =>
    obtain ⟨n, S', rfl, ⟨b1, b2, b3⟩, rfl, rfl⟩ := s_newq_i h
    refine m_newq hx hb hU hH hS hown (wA hI rfl) hp.1 b3 (by dsimp only at hc; omega) (by dsimp only at hs; omega) hd (fun H1 g1 g2 => k H1 locs _ _ ls g1 g2 hl hz ?_ ?_)
    · dsimp only at hc ⊢; omega
    · dsimp only at hs ⊢; omega
  case new n =>
    obtain ⟨⟨b1, b2⟩, rfl, rfl⟩ := s_new_i h
    have hI' : (match cls[a]? with | some r => decide (lw_tbl[pl]? = some (.classLink (mNm y).cls n r.1)) | none => false) = true := hI
    split at hI'
    · next r hr =>
      have b1' : 1 ≤ b.1 := b1
      have b2' : (cDs.getD a []).length ≤ b.2 := b2
      refine m_new hx hb hU hH hS hown hr hts (fun w h => wm_in h) (wA hI' rfl) (by dsimp only at hc; omega) (by dsimp only at hs; omega) hd (fun H1 g1 g2 => k H1 locs _ _ ls g1 g2 hl hz ?_ ?_)
      · dsimp only at hc ⊢; omega
      · dsimp only at hs ⊢; omega
    · cases hI'
  case invokespecial n =>
    obtain ⟨o, S', ht, rfl, hs8, rfl, rfl⟩ := s_obj_i h
    have ht' : ts = [4] := ht
    subst ht'
    obtain ⟨hI, i3⟩ := Bool.and_eq_true_iff.mp hI
    obtain ⟨i1, i2⟩ := Bool.and_eq_true_iff.mp hI
    have j1 : 1 ≤ mFr y := of_decide_eq_true i1
    have j2 : 20 ≤ mLo y := of_decide_eq_true i2
    refine W.objInit hx hb hown (wA i3 rfl) (hts _ (wm_in oi_inst)) (hts _ (wm_in oi_code)) rfl hz rfl hd (Nat.le_trans j1 hR.1) ?_ (k H locs cells slots ls hH hS hl hz hc hs)
    show 2 * 0 + ((S'.map (mV B)).map fun v => v.category).sum + 12 ≤ R.locals
    rw [mV_sum]
    have := hR.2
    omega
  all_goals (cases h)
end Snd

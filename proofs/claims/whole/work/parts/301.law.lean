def md (μ : Sg) : AW := mM (μ.1 40) (μ.1 41) (μ.1 42) (μ.1 43) (μ.1 44) (μ.1 45) (μ.1 46) (μ.1 47) (μ.1 48) (μ.1 49) (μ.1 50) (μ.2 11) (μ.2 12) (μ.2 13) (μ.2 14)
/-- a call on the class and the same on the reference: one answer, and what is kept between calls -/
def OpOK (Inv : Sg → Sg → Prop) (yC yM : Nat) (As : List AV) : Prop := ∀ κ μ, Inv κ μ → ∃ κ' μ' r, Inv κ' μ' ∧ Ev none yC (0, inL yC (vR 0 :: As), [], wd κ (md μ), (0, 0)) (some r, wd κ' (md μ)) ∧ Ev none yM (0, inL yM (vR 39 :: As), [], wd κ' (md μ), (0, 0)) (some r, wd κ' (md μ'))
theorem lw_in {L t q : Nat} (hL : L ≤ 2048) (h : 4 * t + 4 ≤ L) (hq : q < 4) : vp_in (nI (4 * t) + nI q) L := by
  rw [nI_add]
  exact vp_in_nI (by omega) (by omega)
theorem lw_in0 {L t : Nat} (hL : L ≤ 2048) (h : 4 * t + 4 ≤ L) : vp_in (nI (4 * t)) L := vp_in_nI (by omega) (by omega)
set_option maxRecDepth 20000 in
set_option maxHeartbeats 4000000 in
theorem law_0 {Inv : Sg → Sg → Prop} (h0 : ∀ x1 x2 : Int32, OpOK Inv 24 31 [vI x1, vI x2]) {L : Nat} {xs : Nat → Int32} (hL : L ≤ 2048) {t : Nat} (ht : 4 * t + 4 ≤ L) {b : Nat × Nat} {κ μ : Sg} (hI : Inv κ μ) (kk : ∀ κ' μ', Inv κ' μ' → ∃ w, Ev (some (L, xs)) 141 (18, [some vS, some (vR 0), some (vR 39), some (vI (nI (4 * t) + (4 : Int32)))], [], wd κ' (md μ'), b) (some 1, w)) : ∃ w, Ev (some (L, xs)) 141 (112, [some vS, some (vR 0), some (vR 39), some (vI (nI (4 * t)))], [], wd κ (md μ), b) (some 1, w) := by
  obtain ⟨κ', μ', r, hI', e1, e2⟩ := h0 (xs (nI (4 * t) + (1 : Int32)).toNatClampNeg) (xs (nI (4 * t) + (2 : Int32)).toNatClampNeg) κ μ hI
  obtain ⟨w, hw⟩ := kk κ' μ' hI'
  refine ⟨w, ?_⟩
  refine Ev.go (st' := (123, [some vS, some (vR 0), some (vR 39), some (vI (nI (4 * t)))], [vI (xs (nI (4 * t) + (2 : Int32)).toNatClampNeg), vI (xs (nI (4 * t) + (1 : Int32)).toNatClampNeg), vR 0], wd κ (md μ), b)) 11 rfl ⟨lw_in (q := 1) hL ht (by decide), lw_in (q := 2) hL ht (by decide), trivial⟩ ?_
  refine Ev.callI (a := 24) (As := [vR 0, vI (xs (nI (4 * t) + (1 : Int32)).toNatClampNeg), vI (xs (nI (4 * t) + (2 : Int32)).toNatClampNeg)]) [] r (wd κ' (md μ)) rfl e1 ?_
  refine Ev.go (st' := (137, [some vS, some (vR 0), some (vR 39), some (vI (nI (4 * t)))], [vI (xs (nI (4 * t) + (2 : Int32)).toNatClampNeg), vI (xs (nI (4 * t) + (1 : Int32)).toNatClampNeg), vR 39, vI r], wd κ' (md μ), b)) 11 rfl ⟨lw_in (q := 1) hL ht (by decide), lw_in (q := 2) hL ht (by decide), trivial⟩ ?_
  refine Ev.callI (a := 31) (As := [vR 39, vI (xs (nI (4 * t) + (1 : Int32)).toNatClampNeg), vI (xs (nI (4 * t) + (2 : Int32)).toNatClampNeg)]) [vI r] r (wd κ' (md μ')) rfl e2 ?_
  refine Ev.go (st' := (if r = r then 580 else 143, [some vS, some (vR 0), some (vR 39), some (vI (nI (4 * t)))], [], wd κ' (md μ'), b)) 1 rfl trivial (Ev.brN rfl ?_)
  refine Ev.go (st' := (18, [some vS, some (vR 0), some (vR 39), some (vI (nI (4 * t) + (4 : Int32)))], [], wd κ' (md μ'), b)) 2 rfl trivial ?_
  exact hw
set_option maxRecDepth 20000 in
set_option maxHeartbeats 4000000 in
theorem law_1 {Inv : Sg → Sg → Prop} (h1 : ∀ x1 : Int32, OpOK Inv 33 34 [vI x1]) {L : Nat} {xs : Nat → Int32} (hL : L ≤ 2048) {t : Nat} (ht : 4 * t + 4 ≤ L) {b : Nat × Nat} {κ μ : Sg} (hI : Inv κ μ) (kk : ∀ κ' μ', Inv κ' μ' → ∃ w, Ev (some (L, xs)) 141 (18, [some vS, some (vR 0), some (vR 39), some (vI (nI (4 * t) + (4 : Int32)))], [], wd κ' (md μ'), b) (some 1, w)) : ∃ w, Ev (some (L, xs)) 141 (145, [some vS, some (vR 0), some (vR 39), some (vI (nI (4 * t)))], [], wd κ (md μ), b) (some 1, w) := by
  obtain ⟨κ', μ', r, hI', e1, e2⟩ := h1 (xs (nI (4 * t) + (1 : Int32)).toNatClampNeg) κ μ hI
  obtain ⟨w, hw⟩ := kk κ' μ' hI'
  refine ⟨w, ?_⟩
  refine Ev.go (st' := (151, [some vS, some (vR 0), some (vR 39), some (vI (nI (4 * t)))], [vI (xs (nI (4 * t) + (1 : Int32)).toNatClampNeg), vR 0], wd κ (md μ), b)) 6 rfl ⟨lw_in (q := 1) hL ht (by decide), trivial⟩ ?_
  refine Ev.callI (a := 33) (As := [vR 0, vI (xs (nI (4 * t) + (1 : Int32)).toNatClampNeg)]) [] r (wd κ' (md μ)) rfl e1 ?_
  refine Ev.go (st' := (160, [some vS, some (vR 0), some (vR 39), some (vI (nI (4 * t)))], [vI (xs (nI (4 * t) + (1 : Int32)).toNatClampNeg), vR 39, vI r], wd κ' (md μ), b)) 6 rfl ⟨lw_in (q := 1) hL ht (by decide), trivial⟩ ?_
  refine Ev.callI (a := 34) (As := [vR 39, vI (xs (nI (4 * t) + (1 : Int32)).toNatClampNeg)]) [vI r] r (wd κ' (md μ')) rfl e2 ?_
  refine Ev.go (st' := (if r = r then 580 else 166, [some vS, some (vR 0), some (vR 39), some (vI (nI (4 * t)))], [], wd κ' (md μ'), b)) 1 rfl trivial (Ev.brN rfl ?_)
  refine Ev.go (st' := (18, [some vS, some (vR 0), some (vR 39), some (vI (nI (4 * t) + (4 : Int32)))], [], wd κ' (md μ'), b)) 2 rfl trivial ?_
  exact hw
set_option maxRecDepth 20000 in
set_option maxHeartbeats 4000000 in
theorem law_2 {Inv : Sg → Sg → Prop} (h2 : ∀ x1 x2 x3 : Int32, OpOK Inv 37 40 [vI x1, vI x2, vI x3]) {L : Nat} {xs : Nat → Int32} (hL : L ≤ 2048) {t : Nat} (ht : 4 * t + 4 ≤ L) {b : Nat × Nat} {κ μ : Sg} (hI : Inv κ μ) (kk : ∀ κ' μ', Inv κ' μ' → ∃ w, Ev (some (L, xs)) 141 (18, [some vS, some (vR 0), some (vR 39), some (vI (nI (4 * t) + (4 : Int32)))], [], wd κ' (md μ'), b) (some 1, w)) : ∃ w, Ev (some (L, xs)) 141 (168, [some vS, some (vR 0), some (vR 39), some (vI (nI (4 * t)))], [], wd κ (md μ), b) (some 1, w) := by
  obtain ⟨κ', μ', r, hI', e1, e2⟩ := h2 (xs (nI (4 * t) + (1 : Int32)).toNatClampNeg) (xs (nI (4 * t) + (2 : Int32)).toNatClampNeg) (xs (nI (4 * t) + (3 : Int32)).toNatClampNeg) κ μ hI
  obtain ⟨w, hw⟩ := kk κ' μ' hI'
  refine ⟨w, ?_⟩
  refine Ev.go (st' := (184, [some vS, some (vR 0), some (vR 39), some (vI (nI (4 * t)))], [vI (xs (nI (4 * t) + (3 : Int32)).toNatClampNeg), vI (xs (nI (4 * t) + (2 : Int32)).toNatClampNeg), vI (xs (nI (4 * t) + (1 : Int32)).toNatClampNeg), vR 0], wd κ (md μ), b)) 16 rfl ⟨lw_in (q := 1) hL ht (by decide), lw_in (q := 2) hL ht (by decide), lw_in (q := 3) hL ht (by decide), trivial⟩ ?_
  refine Ev.callI (a := 37) (As := [vR 0, vI (xs (nI (4 * t) + (1 : Int32)).toNatClampNeg), vI (xs (nI (4 * t) + (2 : Int32)).toNatClampNeg), vI (xs (nI (4 * t) + (3 : Int32)).toNatClampNeg)]) [] r (wd κ' (md μ)) rfl e1 ?_
  refine Ev.go (st' := (203, [some vS, some (vR 0), some (vR 39), some (vI (nI (4 * t)))], [vI (xs (nI (4 * t) + (3 : Int32)).toNatClampNeg), vI (xs (nI (4 * t) + (2 : Int32)).toNatClampNeg), vI (xs (nI (4 * t) + (1 : Int32)).toNatClampNeg), vR 39, vI r], wd κ' (md μ), b)) 16 rfl ⟨lw_in (q := 1) hL ht (by decide), lw_in (q := 2) hL ht (by decide), lw_in (q := 3) hL ht (by decide), trivial⟩ ?_
  refine Ev.callI (a := 40) (As := [vR 39, vI (xs (nI (4 * t) + (1 : Int32)).toNatClampNeg), vI (xs (nI (4 * t) + (2 : Int32)).toNatClampNeg), vI (xs (nI (4 * t) + (3 : Int32)).toNatClampNeg)]) [vI r] r (wd κ' (md μ')) rfl e2 ?_
  refine Ev.go (st' := (if r = r then 580 else 209, [some vS, some (vR 0), some (vR 39), some (vI (nI (4 * t)))], [], wd κ' (md μ'), b)) 1 rfl trivial (Ev.brN rfl ?_)
  refine Ev.go (st' := (18, [some vS, some (vR 0), some (vR 39), some (vI (nI (4 * t) + (4 : Int32)))], [], wd κ' (md μ'), b)) 2 rfl trivial ?_
  exact hw
set_option maxRecDepth 20000 in
set_option maxHeartbeats 4000000 in
theorem law_3 {Inv : Sg → Sg → Prop} (h3 : ∀ x1 x2 : Int32, OpOK Inv 45 63 [vI x1, vI x2]) {L : Nat} {xs : Nat → Int32} (hL : L ≤ 2048) {t : Nat} (ht : 4 * t + 4 ≤ L) {b : Nat × Nat} {κ μ : Sg} (hI : Inv κ μ) (kk : ∀ κ' μ', Inv κ' μ' → ∃ w, Ev (some (L, xs)) 141 (18, [some vS, some (vR 0), some (vR 39), some (vI (nI (4 * t) + (4 : Int32)))], [], wd κ' (md μ'), b) (some 1, w)) : ∃ w, Ev (some (L, xs)) 141 (211, [some vS, some (vR 0), some (vR 39), some (vI (nI (4 * t)))], [], wd κ (md μ), b) (some 1, w) := by
  obtain ⟨κ', μ', r, hI', e1, e2⟩ := h3 (xs (nI (4 * t) + (1 : Int32)).toNatClampNeg) (xs (nI (4 * t) + (2 : Int32)).toNatClampNeg) κ μ hI
  obtain ⟨w, hw⟩ := kk κ' μ' hI'
  refine ⟨w, ?_⟩
  refine Ev.go (st' := (222, [some vS, some (vR 0), some (vR 39), some (vI (nI (4 * t)))], [vI (xs (nI (4 * t) + (2 : Int32)).toNatClampNeg), vI (xs (nI (4 * t) + (1 : Int32)).toNatClampNeg), vR 0], wd κ (md μ), b)) 11 rfl ⟨lw_in (q := 1) hL ht (by decide), lw_in (q := 2) hL ht (by decide), trivial⟩ ?_
  refine Ev.callI (a := 45) (As := [vR 0, vI (xs (nI (4 * t) + (1 : Int32)).toNatClampNeg), vI (xs (nI (4 * t) + (2 : Int32)).toNatClampNeg)]) [] r (wd κ' (md μ)) rfl e1 ?_
  refine Ev.go (st' := (236, [some vS, some (vR 0), some (vR 39), some (vI (nI (4 * t)))], [vI (xs (nI (4 * t) + (2 : Int32)).toNatClampNeg), vI (xs (nI (4 * t) + (1 : Int32)).toNatClampNeg), vR 39, vI r], wd κ' (md μ), b)) 11 rfl ⟨lw_in (q := 1) hL ht (by decide), lw_in (q := 2) hL ht (by decide), trivial⟩ ?_
  refine Ev.callI (a := 63) (As := [vR 39, vI (xs (nI (4 * t) + (1 : Int32)).toNatClampNeg), vI (xs (nI (4 * t) + (2 : Int32)).toNatClampNeg)]) [vI r] r (wd κ' (md μ')) rfl e2 ?_
  refine Ev.go (st' := (if r = r then 580 else 242, [some vS, some (vR 0), some (vR 39), some (vI (nI (4 * t)))], [], wd κ' (md μ'), b)) 1 rfl trivial (Ev.brN rfl ?_)
  refine Ev.go (st' := (18, [some vS, some (vR 0), some (vR 39), some (vI (nI (4 * t) + (4 : Int32)))], [], wd κ' (md μ'), b)) 2 rfl trivial ?_
  exact hw
set_option maxRecDepth 20000 in
set_option maxHeartbeats 4000000 in
theorem law_4 {Inv : Sg → Sg → Prop} (h4 : ∀ x1 x2 : Int32, OpOK Inv 66 67 [vI x1, vI x2]) {L : Nat} {xs : Nat → Int32} (hL : L ≤ 2048) {t : Nat} (ht : 4 * t + 4 ≤ L) {b : Nat × Nat} {κ μ : Sg} (hI : Inv κ μ) (kk : ∀ κ' μ', Inv κ' μ' → ∃ w, Ev (some (L, xs)) 141 (18, [some vS, some (vR 0), some (vR 39), some (vI (nI (4 * t) + (4 : Int32)))], [], wd κ' (md μ'), b) (some 1, w)) : ∃ w, Ev (some (L, xs)) 141 (244, [some vS, some (vR 0), some (vR 39), some (vI (nI (4 * t)))], [], wd κ (md μ), b) (some 1, w) := by
  obtain ⟨κ', μ', r, hI', e1, e2⟩ := h4 (xs (nI (4 * t) + (1 : Int32)).toNatClampNeg) (xs (nI (4 * t) + (2 : Int32)).toNatClampNeg) κ μ hI
  obtain ⟨w, hw⟩ := kk κ' μ' hI'
  refine ⟨w, ?_⟩
  refine Ev.go (st' := (255, [some vS, some (vR 0), some (vR 39), some (vI (nI (4 * t)))], [vI (xs (nI (4 * t) + (2 : Int32)).toNatClampNeg), vI (xs (nI (4 * t) + (1 : Int32)).toNatClampNeg), vR 0], wd κ (md μ), b)) 11 rfl ⟨lw_in (q := 1) hL ht (by decide), lw_in (q := 2) hL ht (by decide), trivial⟩ ?_
  refine Ev.callI (a := 66) (As := [vR 0, vI (xs (nI (4 * t) + (1 : Int32)).toNatClampNeg), vI (xs (nI (4 * t) + (2 : Int32)).toNatClampNeg)]) [] r (wd κ' (md μ)) rfl e1 ?_
  refine Ev.go (st' := (269, [some vS, some (vR 0), some (vR 39), some (vI (nI (4 * t)))], [vI (xs (nI (4 * t) + (2 : Int32)).toNatClampNeg), vI (xs (nI (4 * t) + (1 : Int32)).toNatClampNeg), vR 39, vI r], wd κ' (md μ), b)) 11 rfl ⟨lw_in (q := 1) hL ht (by decide), lw_in (q := 2) hL ht (by decide), trivial⟩ ?_
  refine Ev.callI (a := 67) (As := [vR 39, vI (xs (nI (4 * t) + (1 : Int32)).toNatClampNeg), vI (xs (nI (4 * t) + (2 : Int32)).toNatClampNeg)]) [vI r] r (wd κ' (md μ')) rfl e2 ?_
  refine Ev.go (st' := (if r = r then 580 else 275, [some vS, some (vR 0), some (vR 39), some (vI (nI (4 * t)))], [], wd κ' (md μ'), b)) 1 rfl trivial (Ev.brN rfl ?_)
  refine Ev.go (st' := (18, [some vS, some (vR 0), some (vR 39), some (vI (nI (4 * t) + (4 : Int32)))], [], wd κ' (md μ'), b)) 2 rfl trivial ?_
  exact hw
set_option maxRecDepth 20000 in
set_option maxHeartbeats 4000000 in
theorem law_5 {Inv : Sg → Sg → Prop} (h5 : ∀ x1 x2 : Int32, OpOK Inv 68 69 [vI x1, vI x2]) {L : Nat} {xs : Nat → Int32} (hL : L ≤ 2048) {t : Nat} (ht : 4 * t + 4 ≤ L) {b : Nat × Nat} {κ μ : Sg} (hI : Inv κ μ) (kk : ∀ κ' μ', Inv κ' μ' → ∃ w, Ev (some (L, xs)) 141 (18, [some vS, some (vR 0), some (vR 39), some (vI (nI (4 * t) + (4 : Int32)))], [], wd κ' (md μ'), b) (some 1, w)) : ∃ w, Ev (some (L, xs)) 141 (277, [some vS, some (vR 0), some (vR 39), some (vI (nI (4 * t)))], [], wd κ (md μ), b) (some 1, w) := by
  obtain ⟨κ', μ', r, hI', e1, e2⟩ := h5 (xs (nI (4 * t) + (1 : Int32)).toNatClampNeg) (xs (nI (4 * t) + (2 : Int32)).toNatClampNeg) κ μ hI
  obtain ⟨w, hw⟩ := kk κ' μ' hI'
  refine ⟨w, ?_⟩
  refine Ev.go (st' := (288, [some vS, some (vR 0), some (vR 39), some (vI (nI (4 * t)))], [vI (xs (nI (4 * t) + (2 : Int32)).toNatClampNeg), vI (xs (nI (4 * t) + (1 : Int32)).toNatClampNeg), vR 0], wd κ (md μ), b)) 11 rfl ⟨lw_in (q := 1) hL ht (by decide), lw_in (q := 2) hL ht (by decide), trivial⟩ ?_
  refine Ev.callI (a := 68) (As := [vR 0, vI (xs (nI (4 * t) + (1 : Int32)).toNatClampNeg), vI (xs (nI (4 * t) + (2 : Int32)).toNatClampNeg)]) [] r (wd κ' (md μ)) rfl e1 ?_
  refine Ev.go (st' := (302, [some vS, some (vR 0), some (vR 39), some (vI (nI (4 * t)))], [vI (xs (nI (4 * t) + (2 : Int32)).toNatClampNeg), vI (xs (nI (4 * t) + (1 : Int32)).toNatClampNeg), vR 39, vI r], wd κ' (md μ), b)) 11 rfl ⟨lw_in (q := 1) hL ht (by decide), lw_in (q := 2) hL ht (by decide), trivial⟩ ?_
  refine Ev.callI (a := 69) (As := [vR 39, vI (xs (nI (4 * t) + (1 : Int32)).toNatClampNeg), vI (xs (nI (4 * t) + (2 : Int32)).toNatClampNeg)]) [vI r] r (wd κ' (md μ')) rfl e2 ?_
  refine Ev.go (st' := (if r = r then 580 else 308, [some vS, some (vR 0), some (vR 39), some (vI (nI (4 * t)))], [], wd κ' (md μ'), b)) 1 rfl trivial (Ev.brN rfl ?_)
  refine Ev.go (st' := (18, [some vS, some (vR 0), some (vR 39), some (vI (nI (4 * t) + (4 : Int32)))], [], wd κ' (md μ'), b)) 2 rfl trivial ?_
  exact hw
set_option maxRecDepth 20000 in
set_option maxHeartbeats 4000000 in
theorem law_6 {Inv : Sg → Sg → Prop} (h6 : ∀ x1 x2 : Int32, OpOK Inv 75 80 [vI x1, vI x2]) {L : Nat} {xs : Nat → Int32} (hL : L ≤ 2048) {t : Nat} (ht : 4 * t + 4 ≤ L) {b : Nat × Nat} {κ μ : Sg} (hI : Inv κ μ) (kk : ∀ κ' μ', Inv κ' μ' → ∃ w, Ev (some (L, xs)) 141 (18, [some vS, some (vR 0), some (vR 39), some (vI (nI (4 * t) + (4 : Int32)))], [], wd κ' (md μ'), b) (some 1, w)) : ∃ w, Ev (some (L, xs)) 141 (310, [some vS, some (vR 0), some (vR 39), some (vI (nI (4 * t)))], [], wd κ (md μ), b) (some 1, w) := by
  obtain ⟨κ', μ', r, hI', e1, e2⟩ := h6 (xs (nI (4 * t) + (1 : Int32)).toNatClampNeg) (xs (nI (4 * t) + (2 : Int32)).toNatClampNeg) κ μ hI
  obtain ⟨w, hw⟩ := kk κ' μ' hI'
  refine ⟨w, ?_⟩
  refine Ev.go (st' := (321, [some vS, some (vR 0), some (vR 39), some (vI (nI (4 * t)))], [vI (xs (nI (4 * t) + (2 : Int32)).toNatClampNeg), vI (xs (nI (4 * t) + (1 : Int32)).toNatClampNeg), vR 0], wd κ (md μ), b)) 11 rfl ⟨lw_in (q := 1) hL ht (by decide), lw_in (q := 2) hL ht (by decide), trivial⟩ ?_
  refine Ev.callI (a := 75) (As := [vR 0, vI (xs (nI (4 * t) + (1 : Int32)).toNatClampNeg), vI (xs (nI (4 * t) + (2 : Int32)).toNatClampNeg)]) [] r (wd κ' (md μ)) rfl e1 ?_
  refine Ev.go (st' := (335, [some vS, some (vR 0), some (vR 39), some (vI (nI (4 * t)))], [vI (xs (nI (4 * t) + (2 : Int32)).toNatClampNeg), vI (xs (nI (4 * t) + (1 : Int32)).toNatClampNeg), vR 39, vI r], wd κ' (md μ), b)) 11 rfl ⟨lw_in (q := 1) hL ht (by decide), lw_in (q := 2) hL ht (by decide), trivial⟩ ?_
  refine Ev.callI (a := 80) (As := [vR 39, vI (xs (nI (4 * t) + (1 : Int32)).toNatClampNeg), vI (xs (nI (4 * t) + (2 : Int32)).toNatClampNeg)]) [vI r] r (wd κ' (md μ')) rfl e2 ?_
  refine Ev.go (st' := (if r = r then 580 else 341, [some vS, some (vR 0), some (vR 39), some (vI (nI (4 * t)))], [], wd κ' (md μ'), b)) 1 rfl trivial (Ev.brN rfl ?_)
  refine Ev.go (st' := (18, [some vS, some (vR 0), some (vR 39), some (vI (nI (4 * t) + (4 : Int32)))], [], wd κ' (md μ'), b)) 2 rfl trivial ?_
  exact hw
set_option maxRecDepth 20000 in
set_option maxHeartbeats 4000000 in
theorem law_7 {Inv : Sg → Sg → Prop} (h7 : ∀ x1 x2 x3 : Int32, OpOK Inv 87 91 [vI x1, vI x2, vI x3]) {L : Nat} {xs : Nat → Int32} (hL : L ≤ 2048) {t : Nat} (ht : 4 * t + 4 ≤ L) {b : Nat × Nat} {κ μ : Sg} (hI : Inv κ μ) (kk : ∀ κ' μ', Inv κ' μ' → ∃ w, Ev (some (L, xs)) 141 (18, [some vS, some (vR 0), some (vR 39), some (vI (nI (4 * t) + (4 : Int32)))], [], wd κ' (md μ'), b) (some 1, w)) : ∃ w, Ev (some (L, xs)) 141 (343, [some vS, some (vR 0), some (vR 39), some (vI (nI (4 * t)))], [], wd κ (md μ), b) (some 1, w) := by
  obtain ⟨κ', μ', r, hI', e1, e2⟩ := h7 (xs (nI (4 * t) + (1 : Int32)).toNatClampNeg) (xs (nI (4 * t) + (2 : Int32)).toNatClampNeg) (xs (nI (4 * t) + (3 : Int32)).toNatClampNeg) κ μ hI
  obtain ⟨w, hw⟩ := kk κ' μ' hI'
  refine ⟨w, ?_⟩
  refine Ev.go (st' := (359, [some vS, some (vR 0), some (vR 39), some (vI (nI (4 * t)))], [vI (xs (nI (4 * t) + (3 : Int32)).toNatClampNeg), vI (xs (nI (4 * t) + (2 : Int32)).toNatClampNeg), vI (xs (nI (4 * t) + (1 : Int32)).toNatClampNeg), vR 0], wd κ (md μ), b)) 16 rfl ⟨lw_in (q := 1) hL ht (by decide), lw_in (q := 2) hL ht (by decide), lw_in (q := 3) hL ht (by decide), trivial⟩ ?_
  refine Ev.callI (a := 87) (As := [vR 0, vI (xs (nI (4 * t) + (1 : Int32)).toNatClampNeg), vI (xs (nI (4 * t) + (2 : Int32)).toNatClampNeg), vI (xs (nI (4 * t) + (3 : Int32)).toNatClampNeg)]) [] r (wd κ' (md μ)) rfl e1 ?_
  refine Ev.go (st' := (378, [some vS, some (vR 0), some (vR 39), some (vI (nI (4 * t)))], [vI (xs (nI (4 * t) + (3 : Int32)).toNatClampNeg), vI (xs (nI (4 * t) + (2 : Int32)).toNatClampNeg), vI (xs (nI (4 * t) + (1 : Int32)).toNatClampNeg), vR 39, vI r], wd κ' (md μ), b)) 16 rfl ⟨lw_in (q := 1) hL ht (by decide), lw_in (q := 2) hL ht (by decide), lw_in (q := 3) hL ht (by decide), trivial⟩ ?_
  refine Ev.callI (a := 91) (As := [vR 39, vI (xs (nI (4 * t) + (1 : Int32)).toNatClampNeg), vI (xs (nI (4 * t) + (2 : Int32)).toNatClampNeg), vI (xs (nI (4 * t) + (3 : Int32)).toNatClampNeg)]) [vI r] r (wd κ' (md μ')) rfl e2 ?_
  refine Ev.go (st' := (if r = r then 580 else 384, [some vS, some (vR 0), some (vR 39), some (vI (nI (4 * t)))], [], wd κ' (md μ'), b)) 1 rfl trivial (Ev.brN rfl ?_)
  refine Ev.go (st' := (18, [some vS, some (vR 0), some (vR 39), some (vI (nI (4 * t) + (4 : Int32)))], [], wd κ' (md μ'), b)) 2 rfl trivial ?_
  exact hw
set_option maxRecDepth 20000 in
set_option maxHeartbeats 4000000 in
theorem law_8 {Inv : Sg → Sg → Prop} (h8 : ∀ x1 x2 : Int32, OpOK Inv 94 96 [vI x1, vI x2]) {L : Nat} {xs : Nat → Int32} (hL : L ≤ 2048) {t : Nat} (ht : 4 * t + 4 ≤ L) {b : Nat × Nat} {κ μ : Sg} (hI : Inv κ μ) (kk : ∀ κ' μ', Inv κ' μ' → ∃ w, Ev (some (L, xs)) 141 (18, [some vS, some (vR 0), some (vR 39), some (vI (nI (4 * t) + (4 : Int32)))], [], wd κ' (md μ'), b) (some 1, w)) : ∃ w, Ev (some (L, xs)) 141 (386, [some vS, some (vR 0), some (vR 39), some (vI (nI (4 * t)))], [], wd κ (md μ), b) (some 1, w) := by
  obtain ⟨κ', μ', r, hI', e1, e2⟩ := h8 (xs (nI (4 * t) + (1 : Int32)).toNatClampNeg) (xs (nI (4 * t) + (2 : Int32)).toNatClampNeg) κ μ hI
  obtain ⟨w, hw⟩ := kk κ' μ' hI'
  refine ⟨w, ?_⟩
  refine Ev.go (st' := (397, [some vS, some (vR 0), some (vR 39), some (vI (nI (4 * t)))], [vI (xs (nI (4 * t) + (2 : Int32)).toNatClampNeg), vI (xs (nI (4 * t) + (1 : Int32)).toNatClampNeg), vR 0], wd κ (md μ), b)) 11 rfl ⟨lw_in (q := 1) hL ht (by decide), lw_in (q := 2) hL ht (by decide), trivial⟩ ?_
  refine Ev.callI (a := 94) (As := [vR 0, vI (xs (nI (4 * t) + (1 : Int32)).toNatClampNeg), vI (xs (nI (4 * t) + (2 : Int32)).toNatClampNeg)]) [] r (wd κ' (md μ)) rfl e1 ?_
  refine Ev.go (st' := (411, [some vS, some (vR 0), some (vR 39), some (vI (nI (4 * t)))], [vI (xs (nI (4 * t) + (2 : Int32)).toNatClampNeg), vI (xs (nI (4 * t) + (1 : Int32)).toNatClampNeg), vR 39, vI r], wd κ' (md μ), b)) 11 rfl ⟨lw_in (q := 1) hL ht (by decide), lw_in (q := 2) hL ht (by decide), trivial⟩ ?_
  refine Ev.callI (a := 96) (As := [vR 39, vI (xs (nI (4 * t) + (1 : Int32)).toNatClampNeg), vI (xs (nI (4 * t) + (2 : Int32)).toNatClampNeg)]) [vI r] r (wd κ' (md μ')) rfl e2 ?_
  refine Ev.go (st' := (if r = r then 580 else 417, [some vS, some (vR 0), some (vR 39), some (vI (nI (4 * t)))], [], wd κ' (md μ'), b)) 1 rfl trivial (Ev.brN rfl ?_)
  refine Ev.go (st' := (18, [some vS, some (vR 0), some (vR 39), some (vI (nI (4 * t) + (4 : Int32)))], [], wd κ' (md μ'), b)) 2 rfl trivial ?_
  exact hw
set_option maxRecDepth 20000 in
set_option maxHeartbeats 4000000 in
theorem law_9 {Inv : Sg → Sg → Prop} (h9 : ∀ x1 : Int32, OpOK Inv 102 106 [vI x1]) {L : Nat} {xs : Nat → Int32} (hL : L ≤ 2048) {t : Nat} (ht : 4 * t + 4 ≤ L) {b : Nat × Nat} {κ μ : Sg} (hI : Inv κ μ) (kk : ∀ κ' μ', Inv κ' μ' → ∃ w, Ev (some (L, xs)) 141 (18, [some vS, some (vR 0), some (vR 39), some (vI (nI (4 * t) + (4 : Int32)))], [], wd κ' (md μ'), b) (some 1, w)) : ∃ w, Ev (some (L, xs)) 141 (419, [some vS, some (vR 0), some (vR 39), some (vI (nI (4 * t)))], [], wd κ (md μ), b) (some 1, w) := by
  obtain ⟨κ', μ', r, hI', e1, e2⟩ := h9 (xs (nI (4 * t) + (1 : Int32)).toNatClampNeg) κ μ hI
  obtain ⟨w, hw⟩ := kk κ' μ' hI'
  refine ⟨w, ?_⟩
  refine Ev.go (st' := (425, [some vS, some (vR 0), some (vR 39), some (vI (nI (4 * t)))], [vI (xs (nI (4 * t) + (1 : Int32)).toNatClampNeg), vR 0], wd κ (md μ), b)) 6 rfl ⟨lw_in (q := 1) hL ht (by decide), trivial⟩ ?_
  refine Ev.callI (a := 102) (As := [vR 0, vI (xs (nI (4 * t) + (1 : Int32)).toNatClampNeg)]) [] r (wd κ' (md μ)) rfl e1 ?_
  refine Ev.go (st' := (434, [some vS, some (vR 0), some (vR 39), some (vI (nI (4 * t)))], [vI (xs (nI (4 * t) + (1 : Int32)).toNatClampNeg), vR 39, vI r], wd κ' (md μ), b)) 6 rfl ⟨lw_in (q := 1) hL ht (by decide), trivial⟩ ?_
  refine Ev.callI (a := 106) (As := [vR 39, vI (xs (nI (4 * t) + (1 : Int32)).toNatClampNeg)]) [vI r] r (wd κ' (md μ')) rfl e2 ?_
  refine Ev.go (st' := (if r = r then 580 else 440, [some vS, some (vR 0), some (vR 39), some (vI (nI (4 * t)))], [], wd κ' (md μ'), b)) 1 rfl trivial (Ev.brN rfl ?_)
  refine Ev.go (st' := (18, [some vS, some (vR 0), some (vR 39), some (vI (nI (4 * t) + (4 : Int32)))], [], wd κ' (md μ'), b)) 2 rfl trivial ?_
  exact hw
set_option maxRecDepth 20000 in
set_option maxHeartbeats 4000000 in
theorem law_10 {Inv : Sg → Sg → Prop} (h10 : ∀ x1 x2 : Int32, OpOK Inv 109 111 [vI x1, vI x2]) {L : Nat} {xs : Nat → Int32} (hL : L ≤ 2048) {t : Nat} (ht : 4 * t + 4 ≤ L) {b : Nat × Nat} {κ μ : Sg} (hI : Inv κ μ) (kk : ∀ κ' μ', Inv κ' μ' → ∃ w, Ev (some (L, xs)) 141 (18, [some vS, some (vR 0), some (vR 39), some (vI (nI (4 * t) + (4 : Int32)))], [], wd κ' (md μ'), b) (some 1, w)) : ∃ w, Ev (some (L, xs)) 141 (442, [some vS, some (vR 0), some (vR 39), some (vI (nI (4 * t)))], [], wd κ (md μ), b) (some 1, w) := by
  obtain ⟨κ', μ', r, hI', e1, e2⟩ := h10 (xs (nI (4 * t) + (1 : Int32)).toNatClampNeg) (xs (nI (4 * t) + (2 : Int32)).toNatClampNeg) κ μ hI
  obtain ⟨w, hw⟩ := kk κ' μ' hI'
  refine ⟨w, ?_⟩
  refine Ev.go (st' := (453, [some vS, some (vR 0), some (vR 39), some (vI (nI (4 * t)))], [vI (xs (nI (4 * t) + (2 : Int32)).toNatClampNeg), vI (xs (nI (4 * t) + (1 : Int32)).toNatClampNeg), vR 0], wd κ (md μ), b)) 11 rfl ⟨lw_in (q := 1) hL ht (by decide), lw_in (q := 2) hL ht (by decide), trivial⟩ ?_
  refine Ev.callI (a := 109) (As := [vR 0, vI (xs (nI (4 * t) + (1 : Int32)).toNatClampNeg), vI (xs (nI (4 * t) + (2 : Int32)).toNatClampNeg)]) [] r (wd κ' (md μ)) rfl e1 ?_
  refine Ev.go (st' := (467, [some vS, some (vR 0), some (vR 39), some (vI (nI (4 * t)))], [vI (xs (nI (4 * t) + (2 : Int32)).toNatClampNeg), vI (xs (nI (4 * t) + (1 : Int32)).toNatClampNeg), vR 39, vI r], wd κ' (md μ), b)) 11 rfl ⟨lw_in (q := 1) hL ht (by decide), lw_in (q := 2) hL ht (by decide), trivial⟩ ?_
  refine Ev.callI (a := 111) (As := [vR 39, vI (xs (nI (4 * t) + (1 : Int32)).toNatClampNeg), vI (xs (nI (4 * t) + (2 : Int32)).toNatClampNeg)]) [vI r] r (wd κ' (md μ')) rfl e2 ?_
  refine Ev.go (st' := (if r = r then 580 else 473, [some vS, some (vR 0), some (vR 39), some (vI (nI (4 * t)))], [], wd κ' (md μ'), b)) 1 rfl trivial (Ev.brN rfl ?_)
  refine Ev.go (st' := (18, [some vS, some (vR 0), some (vR 39), some (vI (nI (4 * t) + (4 : Int32)))], [], wd κ' (md μ'), b)) 2 rfl trivial ?_
  exact hw
set_option maxRecDepth 20000 in
set_option maxHeartbeats 4000000 in
theorem law_11 {Inv : Sg → Sg → Prop} (h11 : OpOK Inv 113 115 []) {L : Nat} {xs : Nat → Int32} (hL : L ≤ 2048) {t : Nat} (ht : 4 * t + 4 ≤ L) {b : Nat × Nat} {κ μ : Sg} (hI : Inv κ μ) (kk : ∀ κ' μ', Inv κ' μ' → ∃ w, Ev (some (L, xs)) 141 (18, [some vS, some (vR 0), some (vR 39), some (vI (nI (4 * t) + (4 : Int32)))], [], wd κ' (md μ'), b) (some 1, w)) : ∃ w, Ev (some (L, xs)) 141 (475, [some vS, some (vR 0), some (vR 39), some (vI (nI (4 * t)))], [], wd κ (md μ), b) (some 1, w) := by
  obtain ⟨κ', μ', r, hI', e1, e2⟩ := h11 κ μ hI
  obtain ⟨w, hw⟩ := kk κ' μ' hI'
  refine ⟨w, ?_⟩
  refine Ev.go (st' := (476, [some vS, some (vR 0), some (vR 39), some (vI (nI (4 * t)))], [vR 0], wd κ (md μ), b)) 1 rfl trivial ?_
  refine Ev.callI (a := 113) (As := [vR 0]) [] r (wd κ' (md μ)) rfl e1 ?_
  refine Ev.go (st' := (480, [some vS, some (vR 0), some (vR 39), some (vI (nI (4 * t)))], [vR 39, vI r], wd κ' (md μ), b)) 1 rfl trivial ?_
  refine Ev.callI (a := 115) (As := [vR 39]) [vI r] r (wd κ' (md μ')) rfl e2 ?_
  refine Ev.go (st' := (if r = r then 580 else 486, [some vS, some (vR 0), some (vR 39), some (vI (nI (4 * t)))], [], wd κ' (md μ'), b)) 1 rfl trivial (Ev.brN rfl ?_)
  refine Ev.go (st' := (18, [some vS, some (vR 0), some (vR 39), some (vI (nI (4 * t) + (4 : Int32)))], [], wd κ' (md μ'), b)) 2 rfl trivial ?_
  exact hw
set_option maxRecDepth 20000 in
set_option maxHeartbeats 4000000 in
theorem law_12 {Inv : Sg → Sg → Prop} (h12 : ∀ x1 : Int32, OpOK Inv 120 124 [vI x1]) {L : Nat} {xs : Nat → Int32} (hL : L ≤ 2048) {t : Nat} (ht : 4 * t + 4 ≤ L) {b : Nat × Nat} {κ μ : Sg} (hI : Inv κ μ) (kk : ∀ κ' μ', Inv κ' μ' → ∃ w, Ev (some (L, xs)) 141 (18, [some vS, some (vR 0), some (vR 39), some (vI (nI (4 * t) + (4 : Int32)))], [], wd κ' (md μ'), b) (some 1, w)) : ∃ w, Ev (some (L, xs)) 141 (488, [some vS, some (vR 0), some (vR 39), some (vI (nI (4 * t)))], [], wd κ (md μ), b) (some 1, w) := by
  obtain ⟨κ', μ', r, hI', e1, e2⟩ := h12 (xs (nI (4 * t) + (1 : Int32)).toNatClampNeg) κ μ hI
  obtain ⟨w, hw⟩ := kk κ' μ' hI'
  refine ⟨w, ?_⟩
  refine Ev.go (st' := (494, [some vS, some (vR 0), some (vR 39), some (vI (nI (4 * t)))], [vI (xs (nI (4 * t) + (1 : Int32)).toNatClampNeg), vR 0], wd κ (md μ), b)) 6 rfl ⟨lw_in (q := 1) hL ht (by decide), trivial⟩ ?_
  refine Ev.callI (a := 120) (As := [vR 0, vI (xs (nI (4 * t) + (1 : Int32)).toNatClampNeg)]) [] r (wd κ' (md μ)) rfl e1 ?_
  refine Ev.go (st' := (503, [some vS, some (vR 0), some (vR 39), some (vI (nI (4 * t)))], [vI (xs (nI (4 * t) + (1 : Int32)).toNatClampNeg), vR 39, vI r], wd κ' (md μ), b)) 6 rfl ⟨lw_in (q := 1) hL ht (by decide), trivial⟩ ?_
  refine Ev.callI (a := 124) (As := [vR 39, vI (xs (nI (4 * t) + (1 : Int32)).toNatClampNeg)]) [vI r] r (wd κ' (md μ')) rfl e2 ?_
  refine Ev.go (st' := (if r = r then 580 else 509, [some vS, some (vR 0), some (vR 39), some (vI (nI (4 * t)))], [], wd κ' (md μ'), b)) 1 rfl trivial (Ev.brN rfl ?_)
  refine Ev.go (st' := (18, [some vS, some (vR 0), some (vR 39), some (vI (nI (4 * t) + (4 : Int32)))], [], wd κ' (md μ'), b)) 2 rfl trivial ?_
  exact hw
set_option maxRecDepth 20000 in
set_option maxHeartbeats 4000000 in
theorem law_13 {Inv : Sg → Sg → Prop} (h13 : ∀ x1 : Int32, OpOK Inv 126 127 [vI x1]) {L : Nat} {xs : Nat → Int32} (hL : L ≤ 2048) {t : Nat} (ht : 4 * t + 4 ≤ L) {b : Nat × Nat} {κ μ : Sg} (hI : Inv κ μ) (kk : ∀ κ' μ', Inv κ' μ' → ∃ w, Ev (some (L, xs)) 141 (18, [some vS, some (vR 0), some (vR 39), some (vI (nI (4 * t) + (4 : Int32)))], [], wd κ' (md μ'), b) (some 1, w)) : ∃ w, Ev (some (L, xs)) 141 (511, [some vS, some (vR 0), some (vR 39), some (vI (nI (4 * t)))], [], wd κ (md μ), b) (some 1, w) := by
  obtain ⟨κ', μ', r, hI', e1, e2⟩ := h13 (xs (nI (4 * t) + (1 : Int32)).toNatClampNeg) κ μ hI
  obtain ⟨w, hw⟩ := kk κ' μ' hI'
  refine ⟨w, ?_⟩
  refine Ev.go (st' := (517, [some vS, some (vR 0), some (vR 39), some (vI (nI (4 * t)))], [vI (xs (nI (4 * t) + (1 : Int32)).toNatClampNeg), vR 0], wd κ (md μ), b)) 6 rfl ⟨lw_in (q := 1) hL ht (by decide), trivial⟩ ?_
  refine Ev.callI (a := 126) (As := [vR 0, vI (xs (nI (4 * t) + (1 : Int32)).toNatClampNeg)]) [] r (wd κ' (md μ)) rfl e1 ?_
  refine Ev.go (st' := (526, [some vS, some (vR 0), some (vR 39), some (vI (nI (4 * t)))], [vI (xs (nI (4 * t) + (1 : Int32)).toNatClampNeg), vR 39, vI r], wd κ' (md μ), b)) 6 rfl ⟨lw_in (q := 1) hL ht (by decide), trivial⟩ ?_
  refine Ev.callI (a := 127) (As := [vR 39, vI (xs (nI (4 * t) + (1 : Int32)).toNatClampNeg)]) [vI r] r (wd κ' (md μ')) rfl e2 ?_
  refine Ev.go (st' := (if r = r then 580 else 532, [some vS, some (vR 0), some (vR 39), some (vI (nI (4 * t)))], [], wd κ' (md μ'), b)) 1 rfl trivial (Ev.brN rfl ?_)
  refine Ev.go (st' := (18, [some vS, some (vR 0), some (vR 39), some (vI (nI (4 * t) + (4 : Int32)))], [], wd κ' (md μ'), b)) 2 rfl trivial ?_
  exact hw
set_option maxRecDepth 20000 in
set_option maxHeartbeats 4000000 in
theorem law_14 {Inv : Sg → Sg → Prop} (h14 : ∀ x1 : Int32, OpOK Inv 128 129 [vI x1]) {L : Nat} {xs : Nat → Int32} (hL : L ≤ 2048) {t : Nat} (ht : 4 * t + 4 ≤ L) {b : Nat × Nat} {κ μ : Sg} (hI : Inv κ μ) (kk : ∀ κ' μ', Inv κ' μ' → ∃ w, Ev (some (L, xs)) 141 (18, [some vS, some (vR 0), some (vR 39), some (vI (nI (4 * t) + (4 : Int32)))], [], wd κ' (md μ'), b) (some 1, w)) : ∃ w, Ev (some (L, xs)) 141 (534, [some vS, some (vR 0), some (vR 39), some (vI (nI (4 * t)))], [], wd κ (md μ), b) (some 1, w) := by
  obtain ⟨κ', μ', r, hI', e1, e2⟩ := h14 (xs (nI (4 * t) + (1 : Int32)).toNatClampNeg) κ μ hI
  obtain ⟨w, hw⟩ := kk κ' μ' hI'
  refine ⟨w, ?_⟩
  refine Ev.go (st' := (540, [some vS, some (vR 0), some (vR 39), some (vI (nI (4 * t)))], [vI (xs (nI (4 * t) + (1 : Int32)).toNatClampNeg), vR 0], wd κ (md μ), b)) 6 rfl ⟨lw_in (q := 1) hL ht (by decide), trivial⟩ ?_
  refine Ev.callI (a := 128) (As := [vR 0, vI (xs (nI (4 * t) + (1 : Int32)).toNatClampNeg)]) [] r (wd κ' (md μ)) rfl e1 ?_
  refine Ev.go (st' := (549, [some vS, some (vR 0), some (vR 39), some (vI (nI (4 * t)))], [vI (xs (nI (4 * t) + (1 : Int32)).toNatClampNeg), vR 39, vI r], wd κ' (md μ), b)) 6 rfl ⟨lw_in (q := 1) hL ht (by decide), trivial⟩ ?_
  refine Ev.callI (a := 129) (As := [vR 39, vI (xs (nI (4 * t) + (1 : Int32)).toNatClampNeg)]) [vI r] r (wd κ' (md μ')) rfl e2 ?_
  refine Ev.go (st' := (if r = r then 580 else 555, [some vS, some (vR 0), some (vR 39), some (vI (nI (4 * t)))], [], wd κ' (md μ'), b)) 1 rfl trivial (Ev.brN rfl ?_)
  refine Ev.go (st' := (18, [some vS, some (vR 0), some (vR 39), some (vI (nI (4 * t) + (4 : Int32)))], [], wd κ' (md μ'), b)) 2 rfl trivial ?_
  exact hw
set_option maxRecDepth 20000 in
set_option maxHeartbeats 4000000 in
theorem law_15 {Inv : Sg → Sg → Prop} (h15 : ∀ x1 : Int32, OpOK Inv 134 140 [vI x1]) {L : Nat} {xs : Nat → Int32} (hL : L ≤ 2048) {t : Nat} (ht : 4 * t + 4 ≤ L) {b : Nat × Nat} {κ μ : Sg} (hI : Inv κ μ) (kk : ∀ κ' μ', Inv κ' μ' → ∃ w, Ev (some (L, xs)) 141 (18, [some vS, some (vR 0), some (vR 39), some (vI (nI (4 * t) + (4 : Int32)))], [], wd κ' (md μ'), b) (some 1, w)) : ∃ w, Ev (some (L, xs)) 141 (557, [some vS, some (vR 0), some (vR 39), some (vI (nI (4 * t)))], [], wd κ (md μ), b) (some 1, w) := by
  obtain ⟨κ', μ', r, hI', e1, e2⟩ := h15 (xs (nI (4 * t) + (1 : Int32)).toNatClampNeg) κ μ hI
  obtain ⟨w, hw⟩ := kk κ' μ' hI'
  refine ⟨w, ?_⟩
  refine Ev.go (st' := (563, [some vS, some (vR 0), some (vR 39), some (vI (nI (4 * t)))], [vI (xs (nI (4 * t) + (1 : Int32)).toNatClampNeg), vR 0], wd κ (md μ), b)) 6 rfl ⟨lw_in (q := 1) hL ht (by decide), trivial⟩ ?_
  refine Ev.callI (a := 134) (As := [vR 0, vI (xs (nI (4 * t) + (1 : Int32)).toNatClampNeg)]) [] r (wd κ' (md μ)) rfl e1 ?_
  refine Ev.go (st' := (572, [some vS, some (vR 0), some (vR 39), some (vI (nI (4 * t)))], [vI (xs (nI (4 * t) + (1 : Int32)).toNatClampNeg), vR 39, vI r], wd κ' (md μ), b)) 6 rfl ⟨lw_in (q := 1) hL ht (by decide), trivial⟩ ?_
  refine Ev.callI (a := 140) (As := [vR 39, vI (xs (nI (4 * t) + (1 : Int32)).toNatClampNeg)]) [vI r] r (wd κ' (md μ')) rfl e2 ?_
  refine Ev.go (st' := (if r = r then 580 else 578, [some vS, some (vR 0), some (vR 39), some (vI (nI (4 * t)))], [], wd κ' (md μ'), b)) 1 rfl trivial (Ev.brN rfl ?_)
  refine Ev.go (st' := (18, [some vS, some (vR 0), some (vR 39), some (vI (nI (4 * t) + (4 : Int32)))], [], wd κ' (md μ'), b)) 2 rfl trivial ?_
  exact hw
theorem sw_k : ∀ k, k < 16 → s_sw (nI k) 0 [112, 145, 168, 211, 244, 277, 310, 343, 386, 419, 442, 475, 488, 511, 534, 557] 580 = ([112, 145, 168, 211, 244, 277, 310, 343, 386, 419, 442, 475, 488, 511, 534, 557] : List Nat).getD k 0 := by decide +kernel
set_option maxRecDepth 20000 in
set_option maxHeartbeats 4000000 in
theorem law_loop_ev {Inv : Sg → Sg → Prop} (h0 : ∀ x1 x2 : Int32, OpOK Inv 24 31 [vI x1, vI x2]) (h1 : ∀ x1 : Int32, OpOK Inv 33 34 [vI x1]) (h2 : ∀ x1 x2 x3 : Int32, OpOK Inv 37 40 [vI x1, vI x2, vI x3]) (h3 : ∀ x1 x2 : Int32, OpOK Inv 45 63 [vI x1, vI x2]) (h4 : ∀ x1 x2 : Int32, OpOK Inv 66 67 [vI x1, vI x2]) (h5 : ∀ x1 x2 : Int32, OpOK Inv 68 69 [vI x1, vI x2]) (h6 : ∀ x1 x2 : Int32, OpOK Inv 75 80 [vI x1, vI x2]) (h7 : ∀ x1 x2 x3 : Int32, OpOK Inv 87 91 [vI x1, vI x2, vI x3]) (h8 : ∀ x1 x2 : Int32, OpOK Inv 94 96 [vI x1, vI x2]) (h9 : ∀ x1 : Int32, OpOK Inv 102 106 [vI x1]) (h10 : ∀ x1 x2 : Int32, OpOK Inv 109 111 [vI x1, vI x2]) (h11 : OpOK Inv 113 115 []) (h12 : ∀ x1 : Int32, OpOK Inv 120 124 [vI x1]) (h13 : ∀ x1 : Int32, OpOK Inv 126 127 [vI x1]) (h14 : ∀ x1 : Int32, OpOK Inv 128 129 [vI x1]) (h15 : ∀ x1 : Int32, OpOK Inv 134 140 [vI x1]) {L : Nat} {xs : Nat → Int32} (hL : L ≤ 2048) (b : Nat × Nat) : ∀ (n t : Nat) (κ μ : Sg), L < 4 * t + 4 * n → 4 * t ≤ L + 3 → Inv κ μ → ∃ w, Ev (some (L, xs)) 141 (18, [some vS, some (vR 0), some (vR 39), some (vI (nI (4 * t)))], [], wd κ (md μ), b) (some 1, w) := by
  intro n
  induction n with
  | zero =>
    intro t κ μ g1 g2 hI
    refine ⟨wd κ (md μ), ?_⟩
    have hlt : nI L - 4 < nI (4 * t) := by
      show nI L - nI 4 < nI (4 * t)
      rw [Int32.lt_iff_toInt_lt, pk_sub_toInt (by omega) (by omega), nI_toInt (by omega)]
      omega
    refine Ev.go (st' := (if nI L - 4 < nI (4 * t) then 586 else 26, [some vS, some (vR 0), some (vR 39), some (vI (nI (4 * t)))], [], wd κ (md μ), b)) 6 rfl trivial (Ev.brN hlt ?_)
    refine Ev.go (st' := (587, [some vS, some (vR 0), some (vR 39), some (vI (nI (4 * t)))], [vI 1], wd κ (md μ), b)) 1 rfl trivial ?_
    exact Ev.iretz rfl rfl rfl
  | succ n ih =>
    intro t κ μ g1 g2 hI
    by_cases hlt : nI L - 4 < nI (4 * t)
    · refine ⟨wd κ (md μ), ?_⟩
      refine Ev.go (st' := (if nI L - 4 < nI (4 * t) then 586 else 26, [some vS, some (vR 0), some (vR 39), some (vI (nI (4 * t)))], [], wd κ (md μ), b)) 6 rfl trivial (Ev.brN hlt ?_)
      refine Ev.go (st' := (587, [some vS, some (vR 0), some (vR 39), some (vI (nI (4 * t)))], [vI 1], wd κ (md μ), b)) 1 rfl trivial ?_
      exact Ev.iretz rfl rfl rfl
    · have ht : 4 * t + 4 ≤ L := by
        have hq : ¬ nI L - nI 4 < nI (4 * t) := hlt
        rw [Int32.lt_iff_toInt_lt, pk_sub_toInt (by omega) (by omega), nI_toInt (by omega)] at hq
        omega
      obtain ⟨k, hk, he⟩ := pk_andE (xs (nI (4 * t)).toNatClampNeg) (m := 15) 4 (by decide)
      have he15 : (xs (nI (4 * t)).toNatClampNeg) &&& (15 : Int32) = nI k := he
      have kk : ∀ κ' μ', Inv κ' μ' → ∃ w, Ev (some (L, xs)) 141 (18, [some vS, some (vR 0), some (vR 39), some (vI (nI (4 * t) + (4 : Int32)))], [], wd κ' (md μ'), b) (some 1, w) := by
        intro κ' μ' hI'
        have h4 : nI (4 * t) + 4 = nI (4 * (t + 1)) := by
          show nI (4 * t) + nI 4 = _
          rw [nI_add]
          rfl
        rw [h4]
        exact ih (t + 1) κ' μ' (by omega) (by omega) hI'
      have hsw := sw_k k hk
      have fin : ∃ w, Ev (some (L, xs)) 141 (([112, 145, 168, 211, 244, 277, 310, 343, 386, 419, 442, 475, 488, 511, 534, 557] : List Nat).getD k 0, [some vS, some (vR 0), some (vR 39), some (vI (nI (4 * t)))], [], wd κ (md μ), b) (some 1, w) := by
        match k, hk with
        | 0, _ => exact law_0 h0 hL ht hI kk
        | 1, _ => exact law_1 h1 hL ht hI kk
        | 2, _ => exact law_2 h2 hL ht hI kk
        | 3, _ => exact law_3 h3 hL ht hI kk
        | 4, _ => exact law_4 h4 hL ht hI kk
        | 5, _ => exact law_5 h5 hL ht hI kk
        | 6, _ => exact law_6 h6 hL ht hI kk
        | 7, _ => exact law_7 h7 hL ht hI kk
        | 8, _ => exact law_8 h8 hL ht hI kk
        | 9, _ => exact law_9 h9 hL ht hI kk
        | 10, _ => exact law_10 h10 hL ht hI kk
        | 11, _ => exact law_11 h11 hL ht hI kk
        | 12, _ => exact law_12 h12 hL ht hI kk
        | 13, _ => exact law_13 h13 hL ht hI kk
        | 14, _ => exact law_14 h14 hL ht hI kk
        | 15, _ => exact law_15 h15 hL ht hI kk
        | q + 16, h => exact absurd h (by omega)
      obtain ⟨w, hw⟩ := fin
      refine ⟨w, ?_⟩
      refine Ev.go (st' := (if nI L - 4 < nI (4 * t) then 586 else 26, [some vS, some (vR 0), some (vR 39), some (vI (nI (4 * t)))], [], wd κ (md μ), b)) 6 rfl trivial (Ev.brF hlt ?_)
      refine Ev.go (st' := (s_sw ((xs (nI (4 * t)).toNatClampNeg) &&& (15 : Int32)) 0 [112, 145, 168, 211, 244, 277, 310, 343, 386, 419, 442, 475, 488, 511, 534, 557] 580, [some vS, some (vR 0), some (vR 39), some (vI (nI (4 * t)))], [], wd κ (md μ), b)) 6 rfl ⟨lw_in0 hL ht, trivial⟩ ?_
      rw [he15, hsw]
      exact hw

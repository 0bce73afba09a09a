def rmO (a : Nat) : Room := { frames := mFr a, cells := mMc a, slots := mMs a, locals := mLo a }
/-- a method's end: what is behind it -/
def RetK (p : Program) (l : Launch) (e : Env) (R : Room) (s : State) (m : MethodId) (args : Array Value) (below : List Frame) (meth : Method) (c : Code) (Q : State → Prop) (B : Nat × Nat) (cA : ClassId × ClassId × ClassId) (D : va_G) (y : Nat) (r : Option Int32 × AW) : Prop :=
  ∀ (pc : Nat) (H : Heap) (locs : List Loc) (cells slots : Nat) (ls : Array Slot), Hw B cA D r.2 H → va_S (fun q => B.1 ≤ q) s.heap H locs → cells ≤ R.cells → slots ≤ R.slots →
    (∀ v, r.1 = some v → decode (mBy y) pc = .ok (.ireturn, 1) → (mRt y = some .int ∨ (mRt y = some .boolean ∧ v &&& 1 = v)) → W p l e R s m args below meth c H locs cells slots Q (F0 m pc ls [.int v])) ∧
    (r.1 = none → decode (mBy y) pc = .ok (.return_, 1) → mRt y = none → W p l e R s m args below meth c H locs cells slots Q (F0 m pc ls []))
def SndP (n : Nat) : Prop := ∀ {p : Program} {l : Launch} {e : Env} {R : Room} {s : State} {m : MethodId} {args : Array Value} {below : List Frame} {meth : Method} {c : Code} {Q : State → Prop} {B : Nat × Nat} {cA : ClassId × ClassId × ClassId} {D : va_G} {sc : SC} {y : Nat} {st : St} {r : Option Int32 × AW},
  Ex n sc y st r → cxF p R s m args meth c B cA D sc y → RetK p l e R s m args below meth c Q B cA D y r → AtS p l e R s m args below meth c Q B cA D st
def cQ (B : Nat × Nat) (cA : ClassId × ClassId × ClassId) (D : va_G) (r : Option Int32 × AW) : Array Value → State → Outcome → State → Prop := fun _ st oc t => (oc = .returned (r.1.map Value.int) ∧ Hw B cA D r.2 t.heap) ∧ va_F (fun q => B.1 ≤ q) st t
def cP (B : Nat × Nat) (cA : ClassId × ClassId × ClassId) (D : va_G) (w : AW) (As : List Value) : Array Value → State → Prop := va_Pc As (fun U => Hw B cA D w U.heap ∧ cxU cA D U)
theorem cP_blind {B : Nat × Nat} {cA : ClassId × ClassId × ClassId} {D : va_G} {w : AW} {As : List Value} : FrameBlind (cP B cA D w As) := fun _ _ _ _ h => ⟨h.1, h.2.1, h.2.2.same rfl⟩
theorem met_of {n : Nat} (ih : SndP n) (l : Launch) (B : Nat × Nat) (cA : ClassId × ClassId × ClassId) (D : va_G) {a : Nat} {As : List AV} {w : AW} {r : Option Int32 × AW} (ha : a < 141) (hn : As.length = mNa a) (h : Ex n none a (0, inL a As, [], w, (mMc a, mMs a)) r) :
    Met l (mNm a) (wm a) (rmO a) (cP B cA D w (As.map (mV B))) (cQ B cA D r) (mMc a) (mMs a) (fun q => B.1 ≤ q) := by
  obtain ⟨m1, m2, m3, m4, m5, m6, m7, m8⟩ := m_ok a ha
  refine va_MetF (cc := mBy a) (maxL := mML a) (ret := mRt a) m1 rfl ?_
  intro p e s m args below meth c s₁ Bd hml hv
  obtain ⟨rfl, hH, hU⟩ := hv
  have hx := Bd.exec
  have hb := Bd.bytes
  have hr := Bd.returns
  have hlocks := Bd.notSynchronized
  have hts : ∀ w ∈ tG, w.before (As.map (mV B)).toArray s = true := fun w h => atoms_spec (ws := wm a) Bd.pre w (List.mem_cons_of_mem _ h)
  have hown := findClass_of_methodNamed Bd.named
  have hnm := (name_of_methodNamed Bd.named Bd.method).1
  have hle : As.length ≤ mML a := by rw [hn]; exact m7
  have hent := lcs_entry B As (mML a) hle
  rw [lg_entry_eq]
  refine ih h ⟨hx, hb, hml, hown, hts, hnm, hU, by rw [hH.1]; omega, ⟨Nat.le_refl _, Nat.le_refl _⟩, fun n f h => by cases h⟩ ?_ s.heap [] 0 0 _ hH va_S.rf hent (hent.1.trans ?_) ?_ ?_
  · intro pc H locs cells slots ls hH2 hS2 hc hs
    refine ⟨fun v hv hd hrt => ?_, fun hv hd hrt => ?_⟩
    · refine W.widen (k := mMc a) (n := mMs a) hc hs ?_
      rcases hrt with q | ⟨q, q2⟩
      · exact W.zret (ty := .int) hx hb (hr.trans q) rfl (fun t ht hW => ⟨⟨by rw [hv]; rfl, by rw [ht]; exact hH2⟩, hS2.F ht⟩) hS2.2.2 hd hlocks
      · exact W.zret (ty := .boolean) hx hb (hr.trans q) (by show Value.int (v &&& 1) = .int v; rw [q2]) (fun t ht hW => ⟨⟨by rw [hv]; rfl, by rw [ht]; exact hH2⟩, hS2.F ht⟩) hS2.2.2 hd hlocks
    · refine W.widen (k := mMc a) (n := mMs a) hc hs ?_
      exact W.vret hx hb (hr.trans hrt) (fun t ht hW => ⟨⟨by rw [hv]; rfl, by rw [ht]; exact hH2⟩, hS2.F ht⟩) hS2.2.2 hd hlocks
  · rw [hml]
    simp
    omega
  · show 0 + mMc a ≤ mMc a
    omega
  · show 0 + mMs a ≤ mMs a
    omega
theorem gin {l1 ws : List Cond} (h : ∀ w ∈ l1, w ∈ tG) (h2 : GoodIn tG ws) : GoodIn tG (l1 ++ ws) := fun w hw => by
  rcases List.mem_append.mp hw with q | q
  · exact ⟨wm_in (h w q), tG_good (h w q)⟩
  · exact h2 w q
theorem ret_stk (B : Nat × Nat) (r : Option Int32) (S : List AV) : ((r.map vI).toList ++ S).map (mV B) = (r.map Value.int).toList ++ S.map (mV B) := by
  cases r <;> rfl
section Snd
variable {p : Program} {l : Launch} {e : Env} {R : Room} {s : State} {m : MethodId} {args : Array Value} {below : List Frame} {meth : Method} {c : Code} {Q : State → Prop} {B : Nat × Nat} {cA : ClassId × ClassId × ClassId} {D : va_G} {H : Heap} {locs : List Loc} {cells slots : Nat} {ls : Array Slot}
theorem m_call {pc mc ms : Nat} {st0 rest : List Value} {r : Option Int32 × AW} {a : Array Value} (hr : va_Run p l e R s m args below meth c H locs cells slots mc ms (F0 m pc ls st0) rest (cQ B cA D r a) (fun q => B.1 ≤ q)) (hS : va_S (fun q => B.1 ≤ q) s.heap H locs)
    (kk : ∀ (H1 : Heap) (locs1 : List Loc), Hw B cA D r.2 H1 → va_S (fun q => B.1 ≤ q) s.heap H1 locs1 → W p l e R s m args below meth c H1 locs1 (cells + mc) (slots + ms) Q (F0 m (pc + 3) ls ((r.1.map Value.int).toList ++ rest))) : W p l e R s m args below meth c H locs cells slots Q (F0 m pc ls st0) := by
  intro T hT X
  obtain ⟨v, st₀, t, T', L, h0, X', hL, e1, e2, ⟨⟨hv, hw⟩, hz, hk⟩, st⟩ := hr T hT X
  have hv' : v = r.1.map Value.int := by injection hv
  subst hv'
  rw [h0] at hz hk
  obtain ⟨t2, a1, b1⟩ := kk T'.heap (locs ++ L) (by rw [e1]; exact hw) ⟨Nat.le_trans hS.1 (by rw [e1]; exact hz), fun q h1 h2 => by rw [e1, hk q (Nat.lt_of_lt_of_le h1 hS.1) h2]; exact hS.2.1 q h1 h2, fun q hq => by
      rcases List.mem_append.mp hq with h | h
      · exact hS.2.2 q h
      · exact hL q h⟩ T' rfl X'
  exact ⟨t2, st t2 a1, b1⟩
end Snd
set_option maxHeartbeats 4000000 in
theorem snd : ∀ n, SndP n := by
  intro n
  induction n with
  | zero => intro p l e R s m args below meth c Q B cA D sc y st r h; exact absurd h (by obtain ⟨pc, L, S, w, b⟩ := st; exact fun h => h)
  | succ n ih =>
    intro p l e R s m args below meth c Q B cA D sc y st r h hC hK
    obtain ⟨pc, L, S, w, b⟩ := st
    obtain ⟨E, hE, hcase⟩ := h
    have hok := ok_all hE
    rcases hcase with ⟨ps, st', h1, h2, h3⟩ | ⟨v, h1, rfl, rfl, h4⟩ | ⟨h1, rfl, rfl, h4⟩ | ⟨hic, As, S', r', rfl, hAs, hS8, hrecv, hb1, hb2, hx1, hx2⟩
    · exact sp_snd hC hok h1 h2 (ih h3 hC hK)
    · intro H locs cells slots ls hH hS hl hz hc hs
      obtain ⟨hd, -⟩ := Bool.and_eq_true_iff.mp hok
      replace hd := of_decide_eq_true hd
      obtain ⟨i, q, ts, u⟩ := E
      have h1' : i = .ireturn := h1
      subst h1'
      exact (hK pc H locs cells slots ls hH hS (by dsimp only at hc; omega) (by dsimp only at hs; omega)).1 v rfl hd h4
    · intro H locs cells slots ls hH hS hl hz hc hs
      obtain ⟨hd, -⟩ := Bool.and_eq_true_iff.mp hok
      replace hd := of_decide_eq_true hd
      obtain ⟨i, q, ts, u⟩ := E
      have h1' : i = .return_ := h1
      subst h1'
      exact (hK pc H locs cells slots ls hH hS (by dsimp only at hc; omega) (by dsimp only at hs; omega)).2 rfl hd h4
    · intro H locs cells slots ls hH hS hl hz hc hs
      have kst := ih hx2 hC hK
      obtain ⟨hx, hb, hml, hown, hts, hnm, hU, hB, hR, hsc⟩ := hC
      obtain ⟨hd, hI⟩ := Bool.and_eq_true_iff.mp hok
      replace hd := of_decide_eq_true hd
      obtain ⟨i, ⟨ln, a, bb, pl⟩, ts, v⟩ := E
      have wA : ∀ {q : Nat} {wd : Cond}, decide (lw_tbl[q]? = some wd) = true → goodWord wd = true → wd ∈ tG := fun h1 h2 => tG_at _ (of_decide_eq_true h1) h2
      have hc1 : cells + b.1 ≤ R.cells := hc
      have hs1 : slots + b.2 ≤ R.slots := hs
      have hb1' : mMc a ≤ b.1 := hb1
      have hb2' : mMs a ≤ b.2 := hb2
      have hf : cells + mMc a ≤ R.cells ∧ slots + mMs a ≤ R.slots := ⟨by omega, by omega⟩
      have kk : ∀ (H1 : Heap) (locs1 : List Loc), Hw B cA D r'.2 H1 → va_S (fun q => B.1 ≤ q) s.heap H1 locs1 → W p l e R s m args below meth c H1 locs1 (cells + mMc a) (slots + mMs a) Q (F0 m (pc + 3) ls ((r'.1.map Value.int).toList ++ S'.map (mV B))) := by
        intro H1 locs1 g1 g2
        have z := kst H1 locs1 (cells + mMc a) (slots + mMs a) ls g1 g2 hl hz (by show cells + mMc a + (b.1 - mMc a) ≤ R.cells; omega) (by show slots + mMs a + (b.2 - mMs a) ≤ R.slots; omega)
        have z2 : W p l e R s m args below meth c H1 locs1 (cells + mMc a) (slots + mMs a) Q (F0 m (pc + 3) ls (((r'.1.map vI).toList ++ S').map (mV B))) := z
        rw [ret_stk] at z2
        exact z2
      have hsize : (F0 m pc ls ((As.reverse ++ S').map (mV B))).locals.size = mML y := hz.trans hml
      have hroom : 2 * (F0 m pc ls ((As.reverse ++ S').map (mV B))).monitorRoom + ((S'.map (mV B)).map fun v => v.category).sum ≤ 8 := lv_room (by rw [mV_sum]; exact hS8)
      have fix_ : CallFix p m c (mBy y) (mML y) s args tG (mNm y).cls := ⟨hx, hb, hml, hown, hts⟩
      have hAs' : As.length = mNa a := hAs
      have room : ∀ {q : Bool}, (okRoom y a && q) = true → a < 141 ∧ (mFr a + 1 ≤ R.frames ∧ 8 + (mML a + 11) + mLo a ≤ R.locals) := by
        intro q hq
        obtain ⟨hq, -⟩ := Bool.and_eq_true_iff.mp hq
        obtain ⟨hq, q3⟩ := Bool.and_eq_true_iff.mp hq
        obtain ⟨q1, q2⟩ := Bool.and_eq_true_iff.mp hq
        exact ⟨of_decide_eq_true q1, Nat.le_trans (of_decide_eq_true q2) hR.1, Nat.le_trans (of_decide_eq_true q3) hR.2⟩
      have pre : ∀ U : State, U.heap = H → s.WarmedH U.vm → cP B cA D w (As.map (mV B)) (As.map (mV B)).toArray U := fun U hUh hW => ⟨rfl, by rw [hUh]; exact hH, hU.moved hW⟩
      cases i
      case invokestatic n =>
        have hI0 : (okRoom y a && decide (bb = mNa a) && decide (mRc a = 99) && (match (generalizing := false) ts with
          | [0] => decide (lw_tbl[pl]? = some (.methodLink (mNm y).cls n (mNm a)))
          | [1] => decide (lw_tbl[pl]? = some (.methodLinkNest (mNm y).cls n (mNm a) cN4))
          | _ => false)) = true := hI
        obtain ⟨hI1, hlnk⟩ := Bool.and_eq_true_iff.mp hI0
        obtain ⟨hI2, hrc⟩ := Bool.and_eq_true_iff.mp hI1
        replace hrc := of_decide_eq_true hrc
        obtain ⟨ha, hroom2⟩ := room hI2
        obtain ⟨m1, m2, m3, m4, m5, m6, m7, m8⟩ := m_ok a ha
        have hM := met_of ih l B cA D ha hAs' hx1
        have hdsc : (mNm a).cls ≠ "java/lang/invoke/MethodHandle" ∧ (mNm a).cls ≠ "java/lang/invoke/VarHandle" ∧ (parseMethodDescriptor (mNm a).desc).map (fun d => d.parameters.length) = some (mNa a) := ⟨m2.1, m2.2, by
          have h := m3
          rw [show (mI a).2.2.2.2.2.2 = 99 from hrc] at h
          exact h⟩
        have hstat : Cond.static (mNm a) ∈ tG := by
          rcases m8 with ⟨-, q⟩ | ⟨-, q, -⟩
          · exact q
          · exfalso
            rw [show (mI a).2.2.2.2.2.2 = 99 from hrc] at q
            cases q
        have hstk : (F0 m pc ls ((As.reverse ++ S').map (mV B))).stack = (As.map (mV B)).reverse ++ S'.map (mV B) := by
          show (As.reverse ++ S').map (mV B) = _
          rw [List.map_append, List.map_reverse]
        split at hlnk
        · refine m_call (va_runS (As := As.map (mV B)) (rest := S'.map (mV B)) fix_ hM (va_cwS (mNa a) hts (gin (l1 := [.methodLink (mNm y).cls n (mNm a), .static (mNm a), .initialized (mNm a).cls]) (fun w hw => ?_) (wm_good m4)) rfl rfl rfl hdsc hroom2) ⟨cP_blind, pre⟩ rfl (by rw [List.length_map]; exact hAs') hsize hstk hroom hd hf) hS kk
          rcases List.mem_cons.mp hw with rfl | hw
          · exact wA hlnk rfl
          · rcases List.mem_cons.mp hw with rfl | hw
            · exact hstat
            · rw [List.mem_singleton.mp hw]; exact m5
        · have hnest : va_Nw (.methodLinkNest (mNm y).cls n (mNm a) cN4) s := hU.2.1 _ _ _ _ (List.mem_of_getElem? (of_decide_eq_true hlnk))
          exact m_call (va_runSN (As := As.map (mV B)) (rest := S'.map (mV B)) fix_ hM ⟨va_cnB (mNa a) hts (wm_good m4) rfl rfl rfl hnest (hts _ (wm_in m5)) hdsc hroom2, hts _ (wm_in hstat), trivial⟩ ⟨cP_blind, pre⟩ rfl (by rw [List.length_map]; exact hAs') hsize hstk hroom hd hf) hS kk
        · cases hlnk
      case invokevirtual n =>
        have hI0 : (okRoom y a && decide (bb = mNa a) && decide (mRc a < 99) && decide ((mNm a).name ≠ "<init>") && decide (ts = [2]) && decide (lw_tbl[pl]? = some (.methodLink (mNm y).cls n (mNm a)))) = true := hI
        obtain ⟨hI1, hlnk⟩ := Bool.and_eq_true_iff.mp hI0
        obtain ⟨hI1, -⟩ := Bool.and_eq_true_iff.mp hI1
        obtain ⟨hI1, hni⟩ := Bool.and_eq_true_iff.mp hI1
        obtain ⟨hI2, hrc⟩ := Bool.and_eq_true_iff.mp hI1
        replace hrc := of_decide_eq_true hrc
        replace hni := of_decide_eq_true hni
        obtain ⟨ha, hroom2⟩ := room hI2
        obtain ⟨m1, m2, m3, m4, m5, m6, m7, m8⟩ := m_ok a ha
        have hM := met_of ih l B cA D ha hAs' hx1
        obtain ⟨k, fs, As', rfl, hk⟩ := hrecv hrc
        have hn99 : ¬ (mI a).2.2.2.2.2.2 = 99 := fun q => by
          have : mRc a = 99 := q
          omega
        have hlen : As'.length = mNa a - 1 := by
          have : As'.length + 1 = mNa a := hAs'
          omega
        obtain ⟨hcl, hinst, hsel⟩ : (cls[mRc a]?).map (·.1) = some (mNm a).cls ∧ Cond.instanceMethod (mNm a) ∈ tG ∧ Cond.selects (mNm a).cls (mNm a) (mNm a) ∈ tG := by
          rcases m8 with ⟨q, -⟩ | ⟨-, q1, q2, q3⟩
          · exact absurd q hn99
          · rcases q3 with q | q
            · exact absurd q hni
            · exact ⟨q1, q2, q⟩
        have hdsc : (mNm a).cls = (mNm a).cls ∧ (mNm a).cls ≠ "java/lang/invoke/MethodHandle" ∧ (mNm a).cls ≠ "java/lang/invoke/VarHandle" ∧ (parseMethodDescriptor (mNm a).desc).map (fun d => d.parameters.length) = some (mNa a - 1) := ⟨rfl, m2.1, m2.2, by
          have h := m3
          rw [if_neg hn99] at h
          exact h⟩
        have hstk : (F0 m pc ls (((vR k :: As').reverse ++ S').map (mV B))).stack = (As'.map (mV B)).reverse ++ .ref (B.1 + k) :: S'.map (mV B) := by
          show ((vR k :: As').reverse ++ S').map (mV B) = _
          rw [List.map_append, List.map_reverse, List.map_cons, List.reverse_cons, List.append_assoc]
          rfl
        have hrec : ∃ cellB : Cell, H[B.1 + k]? = some cellB ∧ cellB.vm.isStatics = false ∧ s.vm.findClass (mNm a).cls = some cellB.cls := by
          cases hq : cls[mRc a]? with
          | none => rw [hq] at hcl; cases hcl
          | some q =>
            rw [hq] at hcl
            have hq1 : q.1 = (mNm a).cls := Option.some.inj hcl
            rw [← hq1]
            exact va_recv hU.1 hH.2 hq (mW_at hk)
        refine m_call (va_runV (As := As'.map (mV B)) (rest := S'.map (mV B)) (b := B.1 + k) fix_ hM (cwV (mNa a - 1) hts (gin (l1 := [.methodLink (mNm y).cls n (mNm a), .instanceMethod (mNm a), .selects (mNm a).cls (mNm a) (mNm a), .initialized (mNm a).cls]) (fun w hw => ?_) (wm_good m4)) rfl rfl rfl hdsc hroom2) ⟨cP_blind, hrec, pre⟩ rfl (by rw [List.length_map]; exact hlen) hsize hstk hroom hd hf) hS kk
        rcases List.mem_cons.mp hw with rfl | hw
        · exact wA hlnk rfl
        · rcases List.mem_cons.mp hw with rfl | hw
          · exact hinst
          · rcases List.mem_cons.mp hw with rfl | hw
            · exact hsel
            · rw [List.mem_singleton.mp hw]; exact m5
      case invokespecial n =>
        have hts3 : ts = [3] := of_decide_eq_true hic
        subst hts3
        have hI0 : (okRoom y a && decide (bb = mNa a) && decide (mRc a < 99) && decide (mRt a = none) && decide ((mNm a).name = "<init>") && decide (lw_tbl[pl]? = some (.methodLink (mNm y).cls n (mNm a)))) = true := hI
        obtain ⟨hI1, hlnk⟩ := Bool.and_eq_true_iff.mp hI0
        obtain ⟨hI1, hni⟩ := Bool.and_eq_true_iff.mp hI1
        obtain ⟨hI1, hrt⟩ := Bool.and_eq_true_iff.mp hI1
        obtain ⟨hI2, hrc⟩ := Bool.and_eq_true_iff.mp hI1
        replace hrc := of_decide_eq_true hrc
        replace hni := of_decide_eq_true hni
        replace hrt := of_decide_eq_true hrt
        obtain ⟨ha, hroom2⟩ := room hI2
        obtain ⟨m1, m2, m3, m4, m5, m6, m7, m8⟩ := m_ok a ha
        have hM := met_of ih l B cA D ha hAs' hx1
        obtain ⟨k, fs, As', rfl, hk⟩ := hrecv hrc
        have hn99 : ¬ (mI a).2.2.2.2.2.2 = 99 := fun q => by
          have : mRc a = 99 := q
          omega
        have hlen : As'.length = mNa a - 1 := by
          have : As'.length + 1 = mNa a := hAs'
          omega
        have hinst : Cond.instanceMethod (mNm a) ∈ tG := by
          rcases m8 with ⟨q, -⟩ | ⟨-, q1, q2, q3⟩
          · exact absurd q hn99
          · exact q2
        have hdsc : (mNm a).cls ≠ "java/lang/invoke/MethodHandle" ∧ (mNm a).cls ≠ "java/lang/invoke/VarHandle" ∧ (parseMethodDescriptor (mNm a).desc).map (fun d => d.parameters.length) = some (mNa a - 1) := ⟨m2.1, m2.2, by
          have h := m3
          rw [if_neg hn99] at h
          exact h⟩
        have hstk : (F0 m pc ls (((vR k :: As').reverse ++ S').map (mV B))).stack = (As'.map (mV B)).reverse ++ .ref (B.1 + k) :: S'.map (mV B) := by
          show ((vR k :: As').reverse ++ S').map (mV B) = _
          rw [List.map_append, List.map_reverse, List.map_cons, List.reverse_cons, List.append_assoc]
          rfl
        exact m_call (va_runI (As := As'.map (mV B)) (rest := S'.map (mV B)) (b := B.1 + k) fix_ hM (cwI (mNa a - 1) hts (wm_good m4) (by show Cond.code _ _ _ _ :: tG = _; rw [hrt]) rfl rfl (hts _ (wm_in m5)) (hts _ (wm_in (wA hlnk rfl))) (hts _ (wm_in hinst)) hni hdsc hroom2) ⟨cP_blind, pre⟩ rfl (by rw [List.length_map]; exact hlen) hsize hstk hroom hd hf) hS kk
      all_goals (cases hic)

def wm (y : Nat) : List Cond := .code (mNm y) (mBy y) (mML y) (mRt y) :: tG
theorem wm_in {w : Cond} (h : w ∈ tG) : w ∈ tG := h
theorem tG_good {w : Cond} (h : w ∈ tG) : (w.onTables && w.keeps) = true ∨ ∃ ty, w = .arrayClass ty := good_of_word (List.mem_filter.mp h).2
theorem wm_good {a : Nat} (h : Cond.code (mNm a) (mBy a) (mML a) (mRt a) ∈ tG) : GoodIn tG (wm a) := fun w hw => by
  rcases List.mem_cons.mp hw with rfl | h1
  · exact ⟨wm_in h, tG_good h⟩
  · exact ⟨wm_in h1, tG_good h1⟩
/-- the frame in which method y runs -/
def cxF (p : Program) (R : Room) (s : State) (m : MethodId) (args : Array Value) (meth : Method) (c : Code) (B : Nat × Nat) (cA : ClassId × ClassId × ClassId) (D : va_G) (sc : SC) (y : Nat) : Prop :=
  p.tables.exec = Jvm.exec ∧ c.code = mBy y ∧ c.maxLocals = mML y ∧ s.vm.findClass (mNm y).cls = some m.cls ∧ (∀ w ∈ tG, w.before args s = true) ∧ meth.name = (mNm y).name ∧ cxU cA D s ∧ B.1 ≤ s.heap.size ∧ (mFr y ≤ R.frames ∧ mLo y ≤ R.locals) ∧ ∀ n f, sc = some (n, f) → va_X B.2 n f s s.heap ∧ B.2 < B.1
/-- from this state on, whatever the heap that holds its cells -/
def AtS (p : Program) (l : Launch) (e : Env) (R : Room) (s : State) (m : MethodId) (args : Array Value) (below : List Frame) (meth : Method) (c : Code) (Q : State → Prop) (B : Nat × Nat) (cA : ClassId × ClassId × ClassId) (D : va_G) (st : St) : Prop :=
  ∀ (H : Heap) (locs : List Loc) (cells slots : Nat) (ls : Array Slot), Hw B cA D st.2.2.2.1 H → va_S (fun q => B.1 ≤ q) s.heap H locs → lcs B ls st.2.1 → ls.size = c.maxLocals → cells + st.2.2.2.2.1 ≤ R.cells → slots + st.2.2.2.2.2 ≤ R.slots → W p l e R s m args below meth c H locs cells slots Q (F0 m st.1 ls (st.2.2.1.map (mV B)))
theorem sw_big (x : Int32) (d : Nat) : ∀ (ts : List Nat) (j : Nat), j + ts.length < 1000 → (x.toInt < j ∨ (j : Int) + ts.length ≤ x.toInt) → s_sw x j ts d = d := by
  intro ts
  induction ts with
  | nil => intro j _ _; rfl
  | cons t ts ih =>
    intro j hj h
    have hl : (t :: ts).length = ts.length + 1 := rfl
    rw [hl] at hj h
    have hne : ¬ x = nI j := fun q => by
      rw [q, nI_toInt (by omega)] at h
      omega
    show (if x = nI j then t else s_sw x (j + 1) ts d) = d
    rw [if_neg hne]
    refine ih (j + 1) (by omega) ?_
    omega
theorem sw_in (x : Int32) (d : Nat) : ∀ (ts : List Nat) (j i t : Nat), j + ts.length < 1000 → x.toInt = ((j + i : Nat) : Int) → ts[i]? = some t → s_sw x j ts d = t := by
  intro ts
  induction ts with
  | nil => intro j i t _ _ h; cases h
  | cons u ts ih =>
    intro j i t hj hx h
    have hl : (u :: ts).length = ts.length + 1 := rfl
    rw [hl] at hj
    show (if x = nI j then u else s_sw x (j + 1) ts d) = t
    cases i with
    | zero =>
      have hq : x = nI j := by
        apply Int32.toInt_inj.mp
        rw [hx, nI_toInt (by omega)]
        rfl
      rw [if_pos hq]
      exact Option.some.inj h
    | succ i =>
      have hi : i + 1 < ts.length + 1 := (List.getElem?_eq_some_iff.mp h).1
      have hne : ¬ x = nI j := fun q => by
        rw [q, nI_toInt (by omega)] at hx
        omega
      rw [if_neg hne]
      exact ih (j + 1) i t (by omega) (by rw [hx]; congr 1; omega) h
section Snd
variable {p : Program} {l : Launch} {e : Env} {R : Room} {s : State} {m : MethodId} {args : Array Value} {below : List Frame} {meth : Method} {c : Code} {Q : State → Prop} {B : Nat × Nat} {cA : ClassId × ClassId × ClassId} {D : va_G} {H : Heap} {locs : List Loc} {cells slots : Nat} {ls : Array Slot} {w : AW} {pc : Nat} {rest : List Value} {cc : ByteArray}
theorem m_iast (hx : p.tables.exec = Jvm.exec) (hb : c.code = cc) (hK : cxU cA D s) (hH : Hw B cA D w H) (hS : va_S (fun q => B.1 ≤ q) s.heap H locs) {o n : Nat} {f : Nat → Int32} (ho : w[o]? = some (.inl (false, n, f))) {i x : Int32} (hin : vp_in i n) (hd : decode cc pc = .ok (.iastore, 1))
    (kk : ∀ (H1 : Heap) (locs1 : List Loc), Hw B cA D (w.set o (.inl (false, n, upd f i.toNatClampNeg x))) H1 → va_S (fun q => B.1 ≤ q) s.heap H1 locs1 → W p l e R s m args below meth c H1 locs1 cells slots Q (F0 m (pc + 1) ls rest)) : W p l e R s m args below meth c H locs cells slots Q (F0 m pc ls (.int x :: .int i :: .ref (B.1 + o) :: rest)) := by
  refine W.iast hx hb (hH.2 o _ (mW_at ho)) ((hK.1.2 0 (cA.1, .int) rfl).1 n (fun j => .int (f j))) (fun q => by cases q) (by show ¬ (i < 0 ∨ (arrV _ _ _).slots.size ≤ _); rw [arrV_size]; exact hin) rfl rfl hd fun H1 e z oq => ?_
  refine kk H1 _ (hH.set ho z oq ?_) (hS.put z oq (Nat.le_add_right _ _))
  show H1[B.1 + o]? = some (vp_cell _ _)
  rw [e]
  show some ((vp_cell cA.1 (n, .inl f)).setSlot _ _) = _
  rw [vp_cell_i, vp_cell_i, arrV_store]
  congr 2
  funext q
  by_cases hq : q = i.toNatClampNeg
  · subst hq
    simp [updV, upd]
  · simp [updV, upd, hq]
theorem m_zast (hx : p.tables.exec = Jvm.exec) (hb : c.code = cc) (hK : cxU cA D s) (hH : Hw B cA D w H) (hS : va_S (fun q => B.1 ≤ q) s.heap H locs) {o n : Nat} {f : Nat → Int32} (ho : w[o]? = some (.inl (true, n, f))) {i x : Int32} (hin : vp_in i n) (hd : decode cc pc = .ok (.bastore, 1))
    (kk : ∀ (H1 : Heap) (locs1 : List Loc), Hw B cA D (w.set o (.inl (true, n, upd f i.toNatClampNeg (x &&& 1)))) H1 → va_S (fun q => B.1 ≤ q) s.heap H1 locs1 → W p l e R s m args below meth c H1 locs1 cells slots Q (F0 m (pc + 1) ls rest)) : W p l e R s m args below meth c H locs cells slots Q (F0 m pc ls (.int x :: .int i :: .ref (B.1 + o) :: rest)) := by
  refine W.zast hx hb (hH.2 o _ (mW_at ho)) ((hK.1.2 1 (cA.2.1, .boolean) rfl).1 n (fun j => .int (f j))) (fun q => by cases q) (by show ¬ (i < 0 ∨ (arrV _ _ _).slots.size ≤ _); rw [arrV_size]; exact hin) rfl rfl hd fun H1 e z oq => ?_
  refine kk H1 _ (hH.set ho z oq ?_) (hS.put z oq (Nat.le_add_right _ _))
  show H1[B.1 + o]? = some (vp_cell _ _)
  rw [e]
  show some ((vp_cell cA.2.1 (n, .inl f)).setSlot _ _) = _
  rw [vp_cell_i, vp_cell_i, arrV_store]
  congr 2
  funext q
  by_cases hq : q = i.toNatClampNeg
  · subst hq
    simp [updV, upd]
    try rfl
  · simp [updV, upd, hq]
theorem m_aast (hx : p.tables.exec = Jvm.exec) (hb : c.code = cc) (hK : cxU cA D s) (hH : Hw B cA D w H) (hS : va_S (fun q => B.1 ≤ q) s.heap H locs) {o n j : Nat} {f : Nat → Option Nat} {fs : List AV} (ho : w[o]? = some (.inr (.inl (n, f)))) (hj : w[j]? = some (.inr (.inr (1, fs)))) {i : Int32} (hin : vp_in i n) (hd : decode cc pc = .ok (.aastore, 1))
    (kk : ∀ (H1 : Heap) (locs1 : List Loc), Hw B cA D (w.set o (.inr (.inl (n, va_up f i.toNatClampNeg (some j))))) H1 → va_S (fun q => B.1 ≤ q) s.heap H1 locs1 → W p l e R s m args below meth c H1 locs1 cells slots Q (F0 m (pc + 1) ls rest)) : W p l e R s m args below meth c H locs cells slots Q (F0 m pc ls (.ref (B.1 + j) :: .int i :: .ref (B.1 + o) :: rest)) := by
  have hlt : i.toNatClampNeg < n := Nat.not_le.mp fun q => hin (Or.inr q)
  have h0 : ¬ i < 0 := fun q => hin (Or.inl q)
  obtain ⟨r', hr', cellV, g1, g2, g3, -⟩ := hH.2 j _ (mW_at hj)
  have hcls := (hK.1.1 1 (cN1, cF1, 8) rfl).2
  obtain ⟨kA, comp, k1, k2, k3, -⟩ := (hK.1.2 2 (cA.2.2, .object cN1) rfl).2
  have hcomp : comp = D.1 1 := Option.some.inj (k3.symm.trans hcls.1)
  subst hcomp
  obtain ⟨kC, hkC, -⟩ := hcls.2
  refine W.aast hx hb (hH.2 o _ (mW_at ho)) (fun q h => by cases h) (fun h => by cases h) k1 k2 rfl hkC ⟨h0, by show _ < (arrV _ _ _).slots.size; rw [arrV_size]; exact hlt⟩ g1 (fun q h => by rw [g3] at h; cases h) (by rw [g2]; exact hkC) (by rw [g2]; exact va_assign hcls) rfl rfl hd fun H1 e z oq => ?_
  refine kk H1 _ (hH.set ho z oq ?_) (hS.put z oq (Nat.le_add_right _ _))
  show H1[B.1 + o]? = some (vp_cell _ _)
  rw [e]
  show some ((vp_cell cA.2.2 (n, .inr (.inr (.inr (.inr (fun j => (f j).map (fun k => B.1 + k))))))).setSlot _ _) = _
  rw [vp_cell_q, vp_cell_q, arrV_store]
  congr 2
  funext q
  by_cases hq : q = i.toNatClampNeg
  · subst hq
    simp [updV, va_up, va_rf]
  · simp [updV, va_up, hq]
theorem m_newa (hx : p.tables.exec = Jvm.exec) (hb : c.code = cc) (hH : Hw B cA D w H) (hS : va_S (fun q => B.1 ≤ q) s.heap H locs) {at_ : ArrayType} {z : Bool} {cK : ClassId} (harr : (Cond.arrayClass (newarray.typeOf at_)).before args s = true) (hcK : s.vm.findClass ("[" ++ (newarray.typeOf at_).toString) = some cK) (hcell : ∀ n, vp_cell cK (n, .inl (fun _ => 0)) = arrV cK n (fun _ => defaultValue (newarray.typeOf at_))) (hE : ∀ n, mE B cA (.inl (z, n, fun _ => 0)) = .inl (cK, n, .inl (fun _ => 0))) {n : Int32} (hn : ¬ n < 0) (h6 : n.toNatClampNeg ≤ 65536) (hby : componentBytes (newarray.typeOf at_) ≤ 4) (h1 : cells + 1 ≤ R.cells) (h2 : slots + n.toNatClampNeg ≤ R.slots) (hd : decode cc pc = .ok (.newarray at_, 2))
    (kk : ∀ H1 : Heap, Hw B cA D (w ++ [.inl (z, n.toNatClampNeg, fun _ => 0)]) H1 → va_S (fun q => B.1 ≤ q) s.heap H1 locs → W p l e R s m args below meth c H1 locs (cells + 1) (slots + n.toNatClampNeg) Q (F0 m (pc + 2) ls (.ref (B.1 + w.length) :: rest))) : W p l e R s m args below meth c H locs cells slots Q (F0 m pc ls (.int n :: rest)) := by
  have hbytes : n.toNatClampNeg * componentBytes (newarray.typeOf at_) ≤ 536870912 := Nat.le_trans (Nat.mul_le_mul h6 hby) (by decide)
  refine va_newaK hx hb harr rfl hd rfl hn rfl hbytes h1 h2 hH.1 fun H1 cA1 e1 z1 o1 _ hNm => ?_
  have hc1 : cA1 = cK := Option.some.inj (hNm.symm.trans hcK)
  subst hc1
  refine kk H1 (hH.push (by rw [z1, hH.1]) (fun q hq => o1 q (by rw [← hH.1]; exact hq)) ?_) ⟨Nat.le_trans hS.1 (by rw [z1, hH.1]; omega), fun x g1 g2 => (o1 x (by rw [← hH.1]; exact Nat.lt_of_lt_of_le g1 hS.1)).trans (hS.2.1 x g1 g2), hS.2.2⟩
  rw [hE]
  show H1[B.1 + w.length]? = some (vp_cell _ _)
  rw [hcell]
  exact e1
theorem m_newq (hx : p.tables.exec = Jvm.exec) (hb : c.code = cc) (hK : cxU cA D s) (hH : Hw B cA D w H) (hS : va_S (fun q => B.1 ≤ q) s.heap H locs) {own : String} {index : Nat} (hown : s.vm.findClass own = some m.cls) (hlink : (Cond.classLink own index cN1).before args s = true) {n : Int32} (hn : ¬ n < 0) (h6 : n.toNatClampNeg ≤ 65536) (h1 : cells + 1 ≤ R.cells) (h2 : slots + n.toNatClampNeg ≤ R.slots) (hd : decode cc pc = .ok (.anewarray index, 3))
    (kk : ∀ H1 : Heap, Hw B cA D (w ++ [.inr (.inl (n.toNatClampNeg, fun _ => none))]) H1 → va_S (fun q => B.1 ≤ q) s.heap H1 locs → W p l e R s m args below meth c H1 locs (cells + 1) (slots + n.toNatClampNeg) Q (F0 m (pc + 3) ls (.ref (B.1 + w.length) :: rest))) : W p l e R s m args below meth c H locs cells slots Q (F0 m pc ls (.int n :: rest)) := by
  refine W.anew hx hb hown hlink (va_AO.use hK.2.2) rfl hd rfl hn (by omega) h1 h2 fun cA1 kA comp f1 f2 f3 f4 => ?_
  obtain ⟨kA', comp', k1, k2, k3, k4⟩ := (hK.1.2 2 (cA.2.2, .object cN1) rfl).2
  have hc1 : cA1 = cA.2.2 := Option.some.inj (f1.symm.trans k4)
  subst hc1
  generalize hH1 : H.push ({ cls := cA.2.2, slots := Array.replicate n.toNatClampNeg .null, vm := .none } : Cell) = H1
  have z1 : H1.size = H.size + 1 := by rw [← hH1, Array.size_push]
  have e1 : H1[H.size]? = some (arrV cA.2.2 n.toNatClampNeg (fun _ => .null)) := by rw [← hH1, Array.getElem?_push_size, ← arrV_new]
  have o1 : ∀ q : Nat, q < H.size → H1[q]? = H[q]? := fun q hq => by rw [← hH1, Array.getElem?_push, if_neg (Nat.ne_of_lt hq)]
  have hkk := kk H1 (hH.push z1 o1 (by
    show H1[B.1 + w.length]? = some (vp_cell _ _)
    rw [vp_cell_q, ← hH.1]
    exact e1)) ⟨Nat.le_trans hS.1 (by omega), fun x g1 g2 => (o1 x (Nat.lt_of_lt_of_le g1 hS.1)).trans (hS.2.1 x g1 g2), hS.2.2⟩
  rw [← hH.1] at hkk
  exact hkk
theorem m_new (hx : p.tables.exec = Jvm.exec) (hb : c.code = cc) (hK : cxU cA D s) (hH : Hw B cA D w H) (hS : va_S (fun q => B.1 ≤ q) s.heap H locs) {own : String} {index ci : Nat} {r : vw_C} (hown : s.vm.findClass own = some m.cls) (hr : cls[ci]? = some r) {Ts : List Cond} (hts : ∀ w ∈ Ts, w.before args s = true) (hG : ∀ w ∈ tG, w ∈ Ts) (hlink : (Cond.classLink own index r.1).before args s = true) (h1 : cells + 1 ≤ R.cells) (h2 : slots + (cDs.getD ci []).length ≤ R.slots) (hd : decode cc pc = .ok (.new index, 3))
    (kk : ∀ H1 : Heap, Hw B cA D (w ++ [.inr (.inr (ci, cDs.getD ci []))]) H1 → va_S (fun q => B.1 ≤ q) s.heap H1 locs → W p l e R s m args below meth c H1 locs (cells + 1) (slots + (cDs.getD ci []).length) Q (F0 m (pc + 3) ls (.ref (B.1 + w.length) :: rest))) : W p l e R s m args below meth c H locs cells slots Q (F0 m pc ls rest) := by
  obtain ⟨cin, cinst, cini, -, clen, ty, cty, cdf, ckd⟩ := c_ok ci r hr
  have hKn := hK.1.1 ci _ hr
  rw [clen] at h2 kk
  refine W.newcK hx hb hown hlink (hts _ (hG _ cinst)) (hts _ (hG _ cini)) rfl hd h1 h2 hKn.2.1 hH.1 fun H1 kC hkC e1 z1 o1 => ?_
  refine kk H1 (hH.push (by rw [z1, hH.1]) (fun q hq => o1 q (by rw [← hH.1]; exact hq)) ?_) ⟨Nat.le_trans hS.1 (by rw [z1, hH.1]; omega), fun x g1 g2 => (o1 x (by rw [← hH.1]; exact Nat.lt_of_lt_of_le g1 hS.1)).trans (hS.2.1 x g1 g2), hS.2.2⟩
  refine ⟨r, hr, (u_born ty hts (fun w h => hG w (cin w h)) hKn hkC e1 cty).to fun j hj => ?_⟩
  show defaultValue (ty j) = vp_V ((cDs.getD ci []).map (mV B)) j
  rcases ckd j hj with ⟨g1, g2⟩ | ⟨g1, g2⟩
  · simp only [vp_V, List.getD_eq_getElem?_getD, List.getElem?_map]
    rw [← List.getD_eq_getElem?_getD, g2, g1]
    rfl
  · simp only [vp_V, List.getD_eq_getElem?_getD, List.getElem?_map]
    rw [← List.getD_eq_getElem?_getD, g1]
    rcases g2 with ⟨t, g2⟩ | ⟨t, g2⟩ <;> rw [g2] <;> rfl
theorem m_put (hx : p.tables.exec = Jvm.exec) (hb : c.code = cc) (hK : cxU cA D s) (hH : Hw B cA D w H) (hS0 : va_S (fun q => B.1 ≤ q) s.heap H locs) {own : String} {index ci k o : Nat} {r : vw_C} {fs : List AV} (hown : s.vm.findClass own = some m.cls) (hr : cls[ci]? = some r) {Ts : List Cond} (hts : ∀ w ∈ Ts, w.before args s = true) (hG : ∀ w ∈ tG, w ∈ Ts) (hk : k < r.2.2) (hl : k < fs.length) (hlink : (Cond.fieldLink own index (r.2.1 k).1 (r.2.1 k).2.1 (r.2.1 k).2.2.1).before args s = true) (hfin : (r.2.1 k).2.2.2 = false ∨ (meth.name = "<init>" ∧ (r.2.1 k).1 = own)) (ho : w[o]? = some (.inr (.inr (ci, fs)))) {v : AV} (hv : s_fit ci k v = true) (hd : decode cc pc = .ok (.putfield index, 3))
    (kk : ∀ (H1 : Heap) (locs1 : List Loc), Hw B cA D (w.set o (.inr (.inr (ci, fs.set k v)))) H1 → va_S (fun q => B.1 ≤ q) s.heap H1 locs1 → W p l e R s m args below meth c H1 locs1 cells slots Q (F0 m (pc + 3) ls rest)) : W p l e R s m args below meth c H locs cells slots Q (F0 m pc ls (mV B v :: .ref (B.1 + o) :: rest)) := by
  obtain ⟨cin, cinst, cini, cnm, clen, ty, cty, cdf, ckd⟩ := c_ok ci r hr
  have hin : ∀ w ∈ u_ws r.1 r.2.1 r.2.2, w ∈ Ts := fun w h => hG w (cin w h)
  have hap := va_apart (own := own) (D := D) (cl := cls) (tys := mTy cA) hts hin ty cty cnm hK.1 hr
  obtain ⟨r', h1, cell, q1, q2, q3, q4⟩ := hH.2 o _ (mW_at ho)
  have hr' : r' = r := Option.some.inj (h1.symm.trans hr)
  subst hr'
  obtain ⟨hS, hfc, kC, hkC, hkind⟩ := hK.1.1 ci _ hr
  obtain ⟨cf, kf, fi, f, hi, hsl⟩ := hS k hk
  have hst := (u_facts hfc hkC (u_lays hts hin hk) hi).1
  have hnf : narrow (ty k) (mV B v) = mV B v ∧ fits (ty k) (mV B v) = true := by
    unfold s_fit at hv
    rcases ckd k hk with ⟨g1, g2⟩ | ⟨g1, g2⟩
    · rw [g2] at hv
      rcases v with x | x
      · rw [g1]; exact ⟨rfl, rfl⟩
      · simp at hv
    · rw [g1] at hv
      rcases v with x | x
      · simp at hv
      · rcases g2 with ⟨t, g2⟩ | ⟨t, g2⟩ <;> rw [g2]
        · rcases x with _ | x
          · exact ⟨rfl, rfl⟩
          · cases x <;> exact ⟨rfl, rfl⟩
        · rcases x with _ | x
          · exact ⟨rfl, rfl⟩
          · cases x <;> exact ⟨rfl, rfl⟩
  have hlay := hts _ (hin _ (u_in_lay hk))
  unfold u_lay at hlay
  have fin : ∀ H' : Heap, H'[B.1 + o]? = some (cell.setSlot f.slot (mV B v)) → H'.size = H.size → (∀ q, q ≠ B.1 + o → H'[q]? = H[q]?) → W p l e R s m args below meth c H' (locs ++ [⟨B.1 + o, f.slot⟩]) cells slots Q (F0 m (pc + 3) ls rest) := by
    intro H' e1 e2 e3
    rw [hsl] at e1
    refine kk H' _ (hH.set ho e2 e3 ?_) (hS0.put e2 e3 (Nat.le_add_right _ _))
    refine ⟨r', hr, t_OB.to (V := updV (vp_V (fs.map (mV B))) k (mV B v)) ⟨_, e1, q2, q3, t_set q4 hap hk (mV B v)⟩ (fun j _ => ?_)⟩
    rw [vp_updV_set (by simpa using hl) (mV B v) j, List.map_set]
  by_cases hf : (r'.2.1 k).2.2.2 = true
  · rw [if_pos hf] at hlay
    obtain ⟨hin2, hdecl⟩ : meth.name = "<init>" ∧ (r'.2.1 k).1 = own := by
      rcases hfin with h | h
      · rw [h] at hf; cases hf
      · exact h
    have hcf : m.cls = cf := by
      obtain ⟨_, _, c', _, _, _, -, -, hf', -, -, -, hown2, -⟩ := Cond.laysFinal_spec hlay
      have e1 : c' = cf := by have := hi.symm.trans hf'; simp at this; exact this.1.symm
      rw [hdecl] at hown2
      rw [← e1]; exact Option.some.inj (hown.symm.trans hown2)
    have h6 := u_fits hfc hkC hkind (Or.inr hlay) hi (cty k hk) hnf.1 hnf.2
    exact W.putFinK hx hb hown hlink hi hst hcf hin2 (by rw [q2]; exact h6) q1 q3 (by rw [hsl]; exact k2_hasslot (q4 k hk)) rfl rfl hd fin
  · rw [if_neg hf] at hlay
    have h6 := u_store hfc hkC hkind hlay hi (cty k hk) hnf.1 hnf.2
    exact W.putK hx hb (f := f) ⟨hown, hlink, ⟨_, _, _, hi⟩, hst⟩ (by rw [q2]; exact h6) q1 q3 (by rw [hsl]; exact k2_hasslot (q4 k hk)) rfl rfl hd fin
end Snd

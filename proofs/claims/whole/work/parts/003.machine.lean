/-! THE SMALL MACHINE: a state is (pc, locals, stack, cells, what may still be made); a step gives what must hold for it, and the next state -/
abbrev SC : Type := Option (Nat × (Nat → Int32))
abbrev St : Type := Nat × List (Option AV) × List AV × AW × (Nat × Nat)
def allP : List Prop → Prop
  | [] => True
  | q :: qs => q ∧ allP qs
def rfA : Option Nat → AV
  | none => vN
  | some j => vR j
def s_sw (x : Int32) : Nat → List Nat → Nat → Nat
  | _, [], d => d
  | j, t :: ts, d => if x = nI j then t else s_sw x (j + 1) ts d
def s_ild (pc i : Nat) (L : List (Option AV)) (S : List AV) (w : AW) (b : Nat × Nat) : Option (List Prop × St) := match L[i]? with
  | some (some (.inl x)) => some ([], (pc, L, vI x :: S, w, b))
  | _ => none
def s_ald (pc i : Nat) (L : List (Option AV)) (S : List AV) (w : AW) (b : Nat × Nat) : Option (List Prop × St) := match L[i]? with
  | some (some (.inr (some r))) => some ([], (pc, L, .inr (some r) :: S, w, b))
  | _ => none
def s_ist (pc i : Nat) (L : List (Option AV)) (S : List AV) (w : AW) (b : Nat × Nat) : Option (List Prop × St) := match S with
  | .inl x :: S' => if i < L.length then some ([], (pc, L.set i (some (vI x)), S', w, b)) else none
  | _ => none
def s_ast (pc i : Nat) (L : List (Option AV)) (S : List AV) (w : AW) (b : Nat × Nat) : Option (List Prop × St) := match S with
  | .inr (some r) :: S' => if i < L.length then some ([], (pc, L.set i (some (.inr (some r))), S', w, b)) else none
  | _ => none
def s_inc (pc i : Nat) (v : Int32) (L : List (Option AV)) (S : List AV) (w : AW) (b : Nat × Nat) : Option (List Prop × St) := match L[i]? with
  | some (some (.inl x)) => some ([], (pc, L.set i (some (vI (x + v))), S, w, b))
  | _ => none
def s_bin (pc : Nat) (L : List (Option AV)) (S : List AV) (w : AW) (b : Nat × Nat) (f : Int32 → Int32 → Int32) : Option (List Prop × St) := match S with
  | .inl y :: .inl x :: S' => some ([], (pc, L, vI (f x y) :: S', w, b))
  | _ => none
def s_div (pc : Nat) (L : List (Option AV)) (S : List AV) (w : AW) (b : Nat × Nat) (f : Int32 → Int32 → Int32) : Option (List Prop × St) := match S with
  | .inl y :: .inl x :: S' => some ([¬ y = 0], (pc, L, vI (f x y) :: S', w, b))
  | _ => none
def s_neg (pc : Nat) (L : List (Option AV)) (S : List AV) (w : AW) (b : Nat × Nat) : Option (List Prop × St) := match S with
  | .inl x :: S' => some ([], (pc, L, vI (-x) :: S', w, b))
  | _ => none
def s_if1 (k : Int32 → Nat) (L : List (Option AV)) (S : List AV) (w : AW) (b : Nat × Nat) : Option (List Prop × St) := match S with
  | .inl x :: S' => some ([], (k x, L, S', w, b))
  | _ => none
def s_if2 (k : Int32 → Int32 → Nat) (L : List (Option AV)) (S : List AV) (w : AW) (b : Nat × Nat) : Option (List Prop × St) := match S with
  | .inl y :: .inl x :: S' => some ([], (k x y, L, S', w, b))
  | _ => none
def s_dup (pc : Nat) (L : List (Option AV)) (S : List AV) (w : AW) (b : Nat × Nat) : Option (List Prop × St) := match S with
  | v :: S' => some ([], (pc, L, v :: v :: S', w, b))
  | _ => none
def s_dup2 (pc : Nat) (L : List (Option AV)) (S : List AV) (w : AW) (b : Nat × Nat) : Option (List Prop × St) := match S with
  | v :: u :: S' => some ([], (pc, L, v :: u :: v :: u :: S', w, b))
  | _ => none
def s_get (pc ci k : Nat) (L : List (Option AV)) (S : List AV) (w : AW) (b : Nat × Nat) : Option (List Prop × St) := match S with
  | .inr (some (some o)) :: S' => match w[o]? with
    | some (.inr (.inr (cj, fs))) => if cj = ci then (match fs[k]? with
      | some v => some ([], (pc, L, v :: S', w, b))
      | none => none) else none
    | _ => none
  | _ => none
/-- does a value fit a field: an int's, a reference's -/
def s_fit (ci k : Nat) (v : AV) : Bool := match (cDs.getD ci [])[k]?, v with
  | some (.inl _), .inl _ => true
  | some (.inr _), .inr _ => true
  | _, _ => false
def s_put (pc ci k : Nat) (L : List (Option AV)) (S : List AV) (w : AW) (b : Nat × Nat) : Option (List Prop × St) := match S with
  | v :: .inr (some (some o)) :: S' => match w[o]? with
    | some (.inr (.inr (cj, fs))) => if cj = ci ∧ k < fs.length ∧ s_fit ci k v = true then some ([], (pc, L, S', w.set o (.inr (.inr (cj, fs.set k v))), b)) else none
    | _ => none
  | _ => none
def s_iald (z : Bool) (sc : SC) (pc : Nat) (L : List (Option AV)) (S : List AV) (w : AW) (b : Nat × Nat) : Option (List Prop × St) := match S with
  | .inl i :: .inr (some (some o)) :: S' => match w[o]? with
    | some (.inl (z', n, f)) => if z' = z then some ([vp_in i n], (pc, L, vI (f i.toNatClampNeg) :: S', w, b)) else none
    | _ => none
  | .inl i :: .inr (some none) :: S' => match z, sc with
    | false, some (n, f) => some ([vp_in i n], (pc, L, vI (f i.toNatClampNeg) :: S', w, b))
    | _, _ => none
  | _ => none
def s_iast (z : Bool) (pc : Nat) (L : List (Option AV)) (S : List AV) (w : AW) (b : Nat × Nat) : Option (List Prop × St) := match S with
  | .inl x :: .inl i :: .inr (some (some o)) :: S' => match w[o]? with
    | some (.inl (z', n, f)) => if z' = z then some ([vp_in i n], (pc, L, S', w.set o (.inl (z', n, upd f i.toNatClampNeg (if z then x &&& 1 else x))), b)) else none
    | _ => none
  | _ => none
def s_aald (pc : Nat) (L : List (Option AV)) (S : List AV) (w : AW) (b : Nat × Nat) : Option (List Prop × St) := match S with
  | .inl i :: .inr (some (some o)) :: S' => match w[o]? with
    | some (.inr (.inl (n, f))) => some ([vp_in i n], (pc, L, rfA (f i.toNatClampNeg) :: S', w, b))
    | _ => none
  | _ => none
def s_aast (pc : Nat) (L : List (Option AV)) (S : List AV) (w : AW) (b : Nat × Nat) : Option (List Prop × St) := match S with
  | .inr (some (some j)) :: .inl i :: .inr (some (some o)) :: S' => match w[o]?, w[j]? with
    | some (.inr (.inl (n, f))), some (.inr (.inr (1, _))) => some ([vp_in i n], (pc, L, S', w.set o (.inr (.inl (n, va_up f i.toNatClampNeg (some j)))), b))
    | _, _ => none
  | _ => none
def s_alen (sc : SC) (pc : Nat) (L : List (Option AV)) (S : List AV) (w : AW) (b : Nat × Nat) : Option (List Prop × St) := match S, sc with
  | .inr (some none) :: S', some (n, _) => some ([], (pc, L, vI (Int32.ofNat n) :: S', w, b))
  | _, _ => none
def s_newa (z : Bool) (pc : Nat) (L : List (Option AV)) (S : List AV) (w : AW) (b : Nat × Nat) : Option (List Prop × St) := match S with
  | .inl n :: S' => if 1 ≤ b.1 ∧ n.toNatClampNeg ≤ b.2 ∧ n.toNatClampNeg ≤ 65536 then some ([¬ n < 0], (pc, L, vR w.length :: S', w ++ [.inl (z, n.toNatClampNeg, fun _ => 0)], (b.1 - 1, b.2 - n.toNatClampNeg))) else none
  | _ => none
def s_newq (pc : Nat) (L : List (Option AV)) (S : List AV) (w : AW) (b : Nat × Nat) : Option (List Prop × St) := match S with
  | .inl n :: S' => if 1 ≤ b.1 ∧ n.toNatClampNeg ≤ b.2 ∧ n.toNatClampNeg ≤ 65536 then some ([¬ n < 0], (pc, L, vR w.length :: S', w ++ [.inr (.inl (n.toNatClampNeg, fun _ => none))], (b.1 - 1, b.2 - n.toNatClampNeg))) else none
  | _ => none
def s_new (pc ci : Nat) (L : List (Option AV)) (S : List AV) (w : AW) (b : Nat × Nat) : Option (List Prop × St) :=
  if 1 ≤ b.1 ∧ (cDs.getD ci []).length ≤ b.2 then some ([], (pc, L, vR w.length :: S, w ++ [.inr (.inr (ci, cDs.getD ci []))], (b.1 - 1, b.2 - (cDs.getD ci []).length))) else none
def s_obj (t : List Nat) (pc : Nat) (L : List (Option AV)) (S : List AV) (w : AW) (b : Nat × Nat) : Option (List Prop × St) := match t, S with
  | [4], .inr (some (some _)) :: S' => if S'.length ≤ 8 then some ([], (pc, L, S', w, b)) else none
  | _, _ => none
def sp (sc : SC) (e : AE) (st : St) : Option (List Prop × St) := match st with
  | (pc, L, S, w, b) => match e.1 with
    | .iconst _ => some ([], (pc + 1, L, vI e.2.2.2 :: S, w, b))
    | .bipush _ => some ([], (pc + 2, L, vI e.2.2.2 :: S, w, b))
    | .sipush _ => some ([], (pc + 3, L, vI e.2.2.2 :: S, w, b))
    | .ldc_w _ => some ([], (pc + 3, L, vI e.2.2.2 :: S, w, b))
    | .iload_n k => s_ild (pc + 1) k.val L S w b
    | .iload i => s_ild (pc + 2) i L S w b
    | .aload_n k => s_ald (pc + 1) k.val L S w b
    | .aload i => s_ald (pc + 2) i L S w b
    | .istore_n k => s_ist (pc + 1) k.val L S w b
    | .istore i => s_ist (pc + 2) i L S w b
    | .astore_n k => s_ast (pc + 1) k.val L S w b
    | .astore i => s_ast (pc + 2) i L S w b
    | .iinc i _ => s_inc (pc + 3) i e.2.2.2 L S w b
    | .iadd => s_bin (pc + 1) L S w b (fun x y => x + y)
    | .isub => s_bin (pc + 1) L S w b (fun x y => x - y)
    | .imul => s_bin (pc + 1) L S w b (fun x y => x * y)
    | .iand => s_bin (pc + 1) L S w b (fun x y => x &&& y)
    | .ior => s_bin (pc + 1) L S w b (fun x y => x ||| y)
    | .ixor => s_bin (pc + 1) L S w b (fun x y => x ^^^ y)
    | .ishl => s_bin (pc + 1) L S w b (fun x y => x <<< (y &&& 31))
    | .ishr => s_bin (pc + 1) L S w b (fun x y => x >>> (y &&& 31))
    | .iushr => s_bin (pc + 1) L S w b (fun x y => (x.toUInt32 >>> (y.toUInt32 &&& Int32.toUInt32 31)).toInt32)
    | .idiv => s_div (pc + 1) L S w b (fun x y => x / y)
    | .irem => s_div (pc + 1) L S w b (fun x y => x - x / y * y)
    | .ineg => s_neg (pc + 1) L S w b
    | .dup => s_dup (pc + 1) L S w b
    | .dup2 => s_dup2 (pc + 1) L S w b
    | .goto _ => some ([], (e.2.1.2.1, L, S, w, b))
    | .ifCond .eq _ => s_if1 (fun x => if x = 0 then e.2.1.2.1 else pc + 3) L S w b
    | .ifCond .ne _ => s_if1 (fun x => if x = 0 then pc + 3 else e.2.1.2.1) L S w b
    | .ifCond .lt _ => s_if1 (fun x => if x < 0 then e.2.1.2.1 else pc + 3) L S w b
    | .ifCond .ge _ => s_if1 (fun x => if 0 ≤ x then e.2.1.2.1 else pc + 3) L S w b
    | .ifCond .gt _ => s_if1 (fun x => if 0 < x then e.2.1.2.1 else pc + 3) L S w b
    | .ifCond .le _ => s_if1 (fun x => if x ≤ 0 then e.2.1.2.1 else pc + 3) L S w b
    | .if_icmp .eq _ => s_if2 (fun x y => if x = y then e.2.1.2.1 else pc + 3) L S w b
    | .if_icmp .ne _ => s_if2 (fun x y => if x = y then pc + 3 else e.2.1.2.1) L S w b
    | .if_icmp .lt _ => s_if2 (fun x y => if x < y then e.2.1.2.1 else pc + 3) L S w b
    | .if_icmp .ge _ => s_if2 (fun x y => if y ≤ x then e.2.1.2.1 else pc + 3) L S w b
    | .if_icmp .gt _ => s_if2 (fun x y => if y < x then e.2.1.2.1 else pc + 3) L S w b
    | .if_icmp .le _ => s_if2 (fun x y => if x ≤ y then e.2.1.2.1 else pc + 3) L S w b
    | .tableswitch _ _ _ _ => s_if1 (fun x => s_sw x 0 e.2.2.1 e.2.1.2.1) L S w b
    | .getfield _ => s_get (pc + 3) e.2.1.2.1 e.2.1.2.2.1 L S w b
    | .putfield _ => s_put (pc + 3) e.2.1.2.1 e.2.1.2.2.1 L S w b
    | .iaload => s_iald false sc (pc + 1) L S w b
    | .baload => s_iald true sc (pc + 1) L S w b
    | .iastore => s_iast false (pc + 1) L S w b
    | .bastore => s_iast true (pc + 1) L S w b
    | .aaload => s_aald (pc + 1) L S w b
    | .aastore => s_aast (pc + 1) L S w b
    | .arraylength => s_alen sc (pc + 1) L S w b
    | .newarray .int => s_newa false (pc + 2) L S w b
    | .newarray .boolean => s_newa true (pc + 2) L S w b
    | .anewarray _ => s_newq (pc + 3) L S w b
    | .new _ => s_new (pc + 3) e.2.1.2.1 L S w b
    | .invokespecial _ => s_obj e.2.2.1 (pc + 3) L S w b
    | _ => none
def isCall (e : AE) : Bool := match e.1 with
  | .invokevirtual _ => true
  | .invokestatic _ => true
  | .invokespecial _ => decide (e.2.2.1 = [3])
  | _ => false
/-- the locals with which a method begins -/
def inL (a : Nat) (As : List AV) : List (Option AV) := As.map some ++ List.replicate (mML a - As.length) none
/-- method y, from a state on, comes to its end in at most n steps, with this answer and these cells -/
def Ex : Nat → SC → Nat → St → (Option Int32 × AW) → Prop
  | 0, _, _, _, _ => False
  | n + 1, sc, y, (pc, L, S, w, b), r => ∃ e, (pg y)[pc]? = some (some e) ∧
    ((∃ ps st', sp sc e (pc, L, S, w, b) = some (ps, st') ∧ allP ps ∧ Ex n sc y st' r) ∨
    (∃ v, e.1 = .ireturn ∧ S = [vI v] ∧ r = (some v, w) ∧ (mRt y = some .int ∨ (mRt y = some .boolean ∧ v &&& 1 = v))) ∨
    (e.1 = .return_ ∧ S = [] ∧ r = (none, w) ∧ mRt y = none) ∨
    (isCall e = true ∧ ∃ (As S' : List AV) (r' : Option Int32 × AW), S = As.reverse ++ S' ∧ As.length = mNa e.2.1.2.1 ∧ S'.length ≤ 8 ∧
      (mRc e.2.1.2.1 < 99 → ∃ (k : Nat) (fs As' : List AV), As = vR k :: As' ∧ w[k]? = some (.inr (.inr (mRc e.2.1.2.1, fs)))) ∧
      mMc e.2.1.2.1 ≤ b.1 ∧ mMs e.2.1.2.1 ≤ b.2 ∧
      Ex n none e.2.1.2.1 (0, inL e.2.1.2.1 As, [], w, (mMc e.2.1.2.1, mMs e.2.1.2.1)) r' ∧
      Ex n sc y (pc + 3, L, (r'.1.map vI).toList ++ S', r'.2, (b.1 - mMc e.2.1.2.1, b.2 - mMs e.2.1.2.1)) r))

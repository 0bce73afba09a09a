/-! images: kept, brought back, held beside what is now -/
def IM (kv : Int32) (j : Nat) (u : Int32) (n l p t b s e r q im : Nat → Int32) : Prop := bt kv j = true → Rel u n l (fun k => im (80 * j + k)) ∧ PO u n l p t b s e r q
section M
variable {up kv uA uB : Int32} {nm lk st parts nexts befores steps len row pl nA lA pA tA bA sA eA rA qA nB lB pB tB bB sB eB rB qB kp im : Nat → Int32}
theorem isImg (x : Int32) : (f_C_isImage x = 0) ↔ (x < 0 ∨ 1 < x) := by
  unfold f_C_isImage
  by_cases c1 : x < 0
  · rw [iF_pos c1]; exact ⟨fun _ => Or.inl c1, fun _ => rfl⟩
  · rw [iF_neg c1]
    by_cases c2 : 2 ≤ x
    · rw [iF_pos c2]
      refine ⟨fun _ => Or.inr ?_, fun _ => rfl⟩
      rw [Int32.le_iff_toInt_le] at c2
      rw [Int32.lt_iff_toInt_lt]
      have h2 : (2 : Int32).toInt = 2 := by decide
      have h1 : (1 : Int32).toInt = 1 := by decide
      omega
    · rw [iF_neg c2]
      refine ⟨fun q => absurd q (by decide), fun q => ?_⟩
      rcases q with q | q
      · exact absurd q c1
      · refine absurd ?_ c2
        rw [Int32.lt_iff_toInt_lt] at q
        rw [Int32.le_iff_toInt_le]
        have h2 : (2 : Int32).toInt = 2 := by decide
        have h1 : (1 : Int32).toInt = 1 := by decide
        omega
theorem in2 {i : Nat} (h : i < 2) : vp_in (nI i) 2 := vp_in_nI h (by decide)
theorem KB_set {i : Nat} (hi : i < 2) (h : KB kv kp) : KB (kv ||| f_C_bit (nI i)) (upd kp i ((1 : Int32) &&& 1)) := by
  refine ⟨fun j hj => ?_, fun j hj => ?_⟩
  · rw [upd_eq, b_or, b_bit (by omega)]
    by_cases e : j = i
    · rw [if_pos e, decide_eq_true e, Bool.or_true, if_pos rfl]; decide
    · rw [if_neg e, decide_eq_false e, Bool.or_false]; exact h.1 j hj
  · rw [b_or, b_bit (by omega), decide_eq_false (by omega), Bool.or_false]; exact h.2 j hj
theorem kp_0 {i : Nat} (hi : i < 2) (h : KB kv kp) : (kp i = 0) ↔ bt kv i = false := by
  rw [h.1 i hi]
  cases bt kv i
  · exact ⟨fun _ => rfl, fun _ => rfl⟩
  · exact ⟨fun q => absurd q (by decide), fun q => absurd q (by decide)⟩
theorem img_new {i : Nat} (hi : i < 2) (h : Rel up nm lk st) (n l p t b s e r q im : Nat → Int32) : Rel (f_Mesh_become nm lk n l up).2.2 (f_Mesh_become nm lk n l up).1 (f_Mesh_become nm lk n l up).2.1 (fun k => f_M_save (nI i) st im (80 * i + k)) := by
  obtain ⟨b1, b2, b3⟩ := become_spec nm lk n l up
  rw [b3]
  exact Rel_congr h b1 b2 (fun k hk => (save_spec (by omega) st im).2.1 k hk)
theorem img_old {i j : Nat} (hi : i < 2) (hj : j < 2) (hij : j ≠ i) (c : Bool) {kv' : Int32} (hv : bt kv' j = bt kv j) {u : Int32} {n l p t b s e r q : Nat → Int32} (h : IM kv j u n l p t b s e r q im) (st : Nat → Int32) : IM kv' j u n l p t b s e r q (f_M_save (nI i) st im) := fun hb => by
  rw [hv] at hb
  refine ⟨Rel_congr (h hb).1 (fun _ _ => rfl) (fun _ _ => rfl) (fun k hk => ?_), (h hb).2⟩
  exact (save_spec (by omega) st im).2.2 (80 * j + k) (by omega)

theorem q_image (h : Rel up nm lk st) (hk : KB kv kp) (hA : IM kv 0 uA nA lA pA tA bA sA eA rA qA im) (hB : IM kv 1 uB nB lB pB tB bB sB eB rB qB im) (x1 : Int32) {F : _} {G : _} (hF : F = f_C_image x1 nA lA pA tA bA sA eA rA qA nB lB pB tB bB sB eB rB qB kv uA uB nm lk up) (hG : G = f_M_image x1 im kp st) : P_C_image x1 nA lA pA tA bA sA eA rA qA nB lB pB tB bB sB eB rB qB kv uA uB nm lk up ∧ P_M_image x1 im kp st ∧ F.1 = G.1 ∧ KB F.2.2.2.2.2.2.2.2.2.2.2.2.2.2.2.2.2.2.2.1 G.2.2 ∧ IM F.2.2.2.2.2.2.2.2.2.2.2.2.2.2.2.2.2.2.2.1 0 F.2.2.2.2.2.2.2.2.2.2.2.2.2.2.2.2.2.2.2.2.1 F.2.1 F.2.2.1 F.2.2.2.1 F.2.2.2.2.1 F.2.2.2.2.2.1 F.2.2.2.2.2.2.1 F.2.2.2.2.2.2.2.1 F.2.2.2.2.2.2.2.2.1 F.2.2.2.2.2.2.2.2.2.1 G.2.1 ∧ IM F.2.2.2.2.2.2.2.2.2.2.2.2.2.2.2.2.2.2.2.1 1 F.2.2.2.2.2.2.2.2.2.2.2.2.2.2.2.2.2.2.2.2.2 F.2.2.2.2.2.2.2.2.2.2.1 F.2.2.2.2.2.2.2.2.2.2.2.1 F.2.2.2.2.2.2.2.2.2.2.2.2.1 F.2.2.2.2.2.2.2.2.2.2.2.2.2.1 F.2.2.2.2.2.2.2.2.2.2.2.2.2.2.1 F.2.2.2.2.2.2.2.2.2.2.2.2.2.2.2.1 F.2.2.2.2.2.2.2.2.2.2.2.2.2.2.2.2.1 F.2.2.2.2.2.2.2.2.2.2.2.2.2.2.2.2.2.1 F.2.2.2.2.2.2.2.2.2.2.2.2.2.2.2.2.2.2.1 G.2.1 := by
  unfold f_C_image at hF
  unfold f_M_image at hG
  unfold P_C_image P_M_image
  by_cases c : x1 < 0 ∨ 1 < x1
  · have d1 := (isImg x1).mpr c
    have d2 := (in01 x1).mpr c
    rw [iF_pos d1] at hF
    rw [iF_pos d2] at hG
    subst hF hG
    exact ⟨pif (fun _ => trivial) (fun q => absurd d1 q), pif (fun _ => trivial) (fun q => absurd d2 q), rfl, hk, hA, hB⟩
  have d1 : ¬ f_C_isImage x1 = 0 := fun q => c ((isImg x1).mp q)
  have d2 : ¬ f_M_in x1 0 1 = 0 := fun q => c ((in01 x1).mp q)
  rw [iF_neg d1] at hF
  rw [iF_neg d2] at hG
  have e01 : x1 = nI 0 ∨ x1 = nI 1 := of01 (fun q => c (Or.inl q)) (fun q => c (Or.inr q))
  rcases e01 with e | e
  · subst e
    rw [iF_pos (show nI 0 = (0 : Int32) from rfl)] at hF
    rw [cl (by decide)] at hG
    have hD := img_new (i := 0) (by decide) h nA lA pA tA bA sA eA rA qA im
    obtain ⟨l1, l2⟩ := lay_spec hD.1 (f_Mesh_become nm lk nA lA up).1 (f_Mesh_become nm lk nA lA up).2.1 pA bA sA tA eA rA qA
    have s1 := (save_spec (i := 0) (by decide) st im).1
    subst hF hG
    exact ⟨pif (fun _ => trivial) (fun _ => ⟨Or.inl rfl, pif (fun _ => ⟨l1, trivial⟩) (fun q => absurd rfl q)⟩), pif (fun _ => trivial) (fun _ => ⟨s1, in2 (by decide), trivial⟩), rfl, KB_set (i := 0) (by decide) hk, fun _ => ⟨hD, l2⟩, img_old (i := 0) (by decide) (by decide) (by decide) true (by rw [b_or]; show (bt kv 1 || bt (f_C_bit (nI 0)) 1) = _; rw [b_bit (by decide), decide_eq_false (by decide), Bool.or_false]) hB st⟩
  · subst e
    rw [iF_neg (show ¬ (nI 1 = (0 : Int32)) from nI_ne (by decide) (by decide) (by decide))] at hF
    rw [cl (by decide)] at hG
    have hD := img_new (i := 1) (by decide) h nB lB pB tB bB sB eB rB qB im
    obtain ⟨l1, l2⟩ := lay_spec hD.1 (f_Mesh_become nm lk nB lB up).1 (f_Mesh_become nm lk nB lB up).2.1 pB bB sB tB eB rB qB
    have s1 := (save_spec (i := 1) (by decide) st im).1
    subst hF hG
    exact ⟨pif (fun _ => trivial) (fun _ => ⟨Or.inr rfl, pif (fun q => absurd q (nI_ne (by decide) (by decide) (by decide))) (fun _ => ⟨l1, trivial⟩)⟩), pif (fun _ => trivial) (fun _ => ⟨s1, in2 (by decide), trivial⟩), rfl, KB_set (i := 1) (by decide) hk, img_old (i := 1) (by decide) (by decide) (by decide) true (by rw [b_or]; show (bt kv 0 || bt (f_C_bit (nI 1)) 0) = _; rw [b_bit (by decide), decide_eq_false (by decide), Bool.or_false]) hA st, fun _ => ⟨hD, l2⟩⟩
theorem refuse_0 {i : Nat} (hi : i < 2) (kv : Int32) : f_C_refuseImage (nI i) kv = iF (bt kv i = false) (-3 : Int32) 0 := by
  unfold f_C_refuseImage
  rw [iF_neg (fun q => by
    rcases (isImg _).mp q with q | q
    · exact nI_n0 (by omega) q
    · have : ¬ (nI 1 < nI i) := fun q => by rw [ltN (by omega) (by omega)] at q; omega
      exact this q)]
  exact iF_c (has_0 (by omega) kv) _ _
theorem refuse_no {x : Int32} (c : x < 0 ∨ 1 < x) (kv : Int32) : f_C_refuseImage x kv = -2 := by
  unfold f_C_refuseImage
  rw [iF_pos ((isImg x).mpr c)]
theorem ref_3 {i : Nat} (hi : i < 2) (c : bt kv i = false) : f_C_refuseImage (nI i) kv = -3 := by rw [refuse_0 hi, iF_pos c]
theorem ref_k {i : Nat} (hi : i < 2) (c : bt kv i = true) : f_C_refuseImage (nI i) kv = 0 := by rw [refuse_0 hi, iF_neg (by rw [c]; decide)]
theorem m2_0 : ¬ (-2 : Int32) = 0 := by decide
theorem m3_0 : ¬ (-3 : Int32) = 0 := by decide
theorem back {i : Nat} (hi : i < 2) {u : Int32} {n l : Nat → Int32} (h : Rel u n l (fun k => im (80 * i + k))) (nm lk st : Nat → Int32) : Rel (f_Mesh_become n l nm lk u).2.2 (f_Mesh_become n l nm lk u).1 (f_Mesh_become n l nm lk u).2.1 (f_M_load (nI i) im st) := by
  obtain ⟨b1, b2, b3⟩ := become_spec n l nm lk u
  rw [b3]
  exact Rel_congr h b1 b2 (fun k hk => (load_spec (by omega) st im).2 k hk)
theorem q_restore (h : Rel up nm lk st) (hP : PO up nm lk parts nexts befores steps len row pl) (hk : KB kv kp) (hA : IM kv 0 uA nA lA pA tA bA sA eA rA qA im) (hB : IM kv 1 uB nB lB pB tB bB sB eB rB qB im) (x1 : Int32) {F : _} {G : _} (hF : F = f_C_restore x1 kv nA lA nm lk uA parts befores steps nexts len row pl nB lB uB up) (hG : G = f_M_restore x1 st kp im) : P_C_restore x1 kv nA lA nm lk uA parts befores steps nexts len row pl nB lB uB up ∧ P_M_restore x1 st kp im ∧ F.1 = G.1 ∧ Rel F.2.2.2.2.2.2.2.2.2.2 F.2.1 F.2.2.1 G.2 ∧ PO F.2.2.2.2.2.2.2.2.2.2 F.2.1 F.2.2.1 F.2.2.2.1 F.2.2.2.2.1 F.2.2.2.2.2.1 F.2.2.2.2.2.2.1 F.2.2.2.2.2.2.2.1 F.2.2.2.2.2.2.2.2.1 F.2.2.2.2.2.2.2.2.2.1 := by
  unfold f_C_restore at hF
  unfold f_M_restore at hG
  unfold P_C_restore P_M_restore
  by_cases c : x1 < 0 ∨ 1 < x1
  · have d1 := refuse_no c kv
    have d2 := (in01 x1).mpr c
    rw [d1, iF_neg m2_0] at hF
    rw [iF_pos d2] at hG
    subst hF hG
    exact ⟨pif (fun q => absurd (d1.symm.trans q) m2_0) (fun _ => trivial), pif (fun _ => trivial) (fun q => absurd d2 q), rfl, h, hP⟩
  have d2 : ¬ f_M_in x1 0 1 = 0 := fun q => c ((in01 x1).mp q)
  rw [iF_neg d2] at hG
  have e01 : x1 = nI 0 ∨ x1 = nI 1 := of01 (fun q => c (Or.inl q)) (fun q => c (Or.inr q))
  rcases e01 with e | e
  · subst e
    rw [cl (by decide)] at hG
    rw [cl (by decide)]
    cases hb : bt kv 0
    · have d1 := ref_3 (i := 0) (by decide) hb
      have k0 := (kp_0 (i := 0) (by decide) hk).mpr hb
      rw [d1, iF_neg m3_0] at hF
      rw [iF_pos k0] at hG
      subst hF hG
      exact ⟨pif (fun q => absurd (d1.symm.trans q) m3_0) (fun _ => trivial), pif (fun _ => trivial) (fun _ => ⟨in2 (by decide), pif (fun _ => trivial) (fun q => absurd k0 q)⟩), rfl, h, hP⟩
    · have d1 := ref_k (i := 0) (by decide) hb
      have k0 : ¬ kp 0 = 0 := fun q => by rw [(kp_0 (i := 0) (by decide) hk).mp q] at hb; exact absurd hb (by decide)
      rw [iF_pos d1] at hF
      rw [iF_neg k0] at hG
      rw [iF_pos (show nI 0 = (0 : Int32) from rfl)] at hF
      have hD := back (i := 0) (by decide) (hA hb).1 nm lk st
      obtain ⟨l1, l2⟩ := lay_spec hD.1 (f_Mesh_become nA lA nm lk uA).1 (f_Mesh_become nA lA nm lk uA).2.1 parts befores steps nexts len row pl
      have s1 := (load_spec (i := 0) (by decide) st im).1
      subst hF hG
      exact ⟨pif (fun _ => ⟨Or.inl rfl, pif (fun _ => ⟨l1, trivial⟩) (fun q => absurd rfl q)⟩) (fun q => absurd d1 q), pif (fun _ => trivial) (fun _ => ⟨in2 (by decide), pif (fun _ => trivial) (fun _ => ⟨s1, trivial⟩)⟩), rfl, hD, l2⟩
  · subst e
    rw [cl (by decide)] at hG
    rw [cl (by decide)]
    cases hb : bt kv 1
    · have d1 := ref_3 (i := 1) (by decide) hb
      have k0 := (kp_0 (i := 1) (by decide) hk).mpr hb
      rw [d1, iF_neg m3_0] at hF
      rw [iF_pos k0] at hG
      subst hF hG
      exact ⟨pif (fun q => absurd (d1.symm.trans q) m3_0) (fun _ => trivial), pif (fun _ => trivial) (fun _ => ⟨in2 (by decide), pif (fun _ => trivial) (fun q => absurd k0 q)⟩), rfl, h, hP⟩
    · have d1 := ref_k (i := 1) (by decide) hb
      have k0 : ¬ kp 1 = 0 := fun q => by rw [(kp_0 (i := 1) (by decide) hk).mp q] at hb; exact absurd hb (by decide)
      rw [iF_pos d1] at hF
      rw [iF_neg k0] at hG
      rw [iF_neg (show ¬ (nI 1 = (0 : Int32)) from nI_ne (by decide) (by decide) (by decide))] at hF
      have hD := back (i := 1) (by decide) (hB hb).1 nm lk st
      obtain ⟨l1, l2⟩ := lay_spec hD.1 (f_Mesh_become nB lB nm lk uB).1 (f_Mesh_become nB lB nm lk uB).2.1 parts befores steps nexts len row pl
      have s1 := (load_spec (i := 1) (by decide) st im).1
      subst hF hG
      exact ⟨pif (fun _ => ⟨Or.inr rfl, pif (fun q => absurd q (nI_ne (by decide) (by decide) (by decide))) (fun _ => ⟨l1, trivial⟩)⟩) (fun q => absurd d1 q), pif (fun _ => trivial) (fun _ => ⟨in2 (by decide), pif (fun _ => trivial) (fun _ => ⟨s1, trivial⟩)⟩), rfl, hD, l2⟩
theorem chg {i : Nat} (hi : i < 2) (hR : Rel up nm lk st) (hP : PO up nm lk parts nexts befores steps len row pl) {u : Int32} {n l p t b s e r q : Nat → Int32} (hI : Rel u n l (fun k => im (80 * i + k)) ∧ PO u n l p t b s e r q) (S N R M RT MT : Nat → Int32) (im' st1 st2 : Nat → Int32) (L1 L2 : (Nat → Int32) × (Nat → Int32) × (Nat → Int32) × (Nat → Int32)) (RT' MT' : Nat → Int32) (e1 : im' = f_M_save (2 : Int32) st im) (e2 : st1 = f_M_load (nI i) im' st) (e3 : st2 = f_M_load (2 : Int32) im' st1) (e4 : L1 = f_M_layPaths st1 S N R M) (e5 : L2 = f_M_layPaths st2 L1.1 L1.2.1 L1.2.2.1 L1.2.2.2) (e6 : RT' = forN (b_M_changed_1 L1.2.2.1) 0 64 RT) (e7 : MT' = forN (b_M_changed_2 L1.2.2.2) 0 8 MT) : (P_M_save (2 : Int32) st im ∧ P_M_load (nI i) im' st ∧ P_M_layPaths st1 S N R M ∧ P_M_load (2 : Int32) im' st1 ∧ P_M_layPaths st2 L1.1 L1.2.1 L1.2.2.1 L1.2.2.2 ∧ (∀ q, q < 8 → P_M_changed_3 st2 L2.2.2.2 L2.2.2.1 RT' MT' (0 + q) (forN (b_M_changed_3 st2 L2.2.2.2 L2.2.2.1 RT' MT') 0 q (0 : Int32))) ∧ True) ∧ P_Paths_countUnlike up len e row r ∧ f_Paths_countUnlike up len e row r = forN (b_M_changed_3 st2 L2.2.2.2 L2.2.2.1 RT' MT') 0 8 (0 : Int32) ∧ Rel up nm lk st2 ∧ ∀ j, j < 2 → ∀ k, k < 80 → im' (80 * j + k) = im (80 * j + k) := by
  obtain ⟨s1, s2, s3⟩ := save_spec (i := 2) (by decide) st im
  have s2' : ∀ k, k < 80 → im' (80 * 2 + k) = st k := fun k hk => by rw [e1]; exact s2 k hk
  have s3' : ∀ j, j < 2 → ∀ k, k < 80 → im' (80 * j + k) = im (80 * j + k) := fun j hj k hk => by rw [e1]; exact s3 (80 * j + k) (by omega)
  obtain ⟨l1, l2⟩ := load_spec (i := i) (by omega) st im'
  obtain ⟨l3, l4⟩ := load_spec (i := 2) (by decide) st1 im'
  have R1 : Rel u n l st1 := Rel_congr hI.1 (fun _ _ => rfl) (fun _ _ => rfl) (fun k hk => by rw [e2, l2 k hk]; exact s3' i hi k hk)
  have R2 : Rel up nm lk st2 := Rel_congr hR (fun _ _ => rfl) (fun _ _ => rfl) (fun k hk => by rw [e3]; exact (l4 k hk).trans (s2' k hk))
  obtain ⟨y1, y2⟩ := layPaths_spec R1 S N R M
  obtain ⟨y3, y4⟩ := layPaths_spec R2 L1.1 L1.2.1 L1.2.2.1 L1.2.2.2
  rw [← e4] at y2
  rw [← e5] at y4
  have C1 : CR up nm lk len row pl L2.2.2.2 L2.2.2.1 := ⟨hP.2.2.2.2, y4.2.2⟩
  have C2 : CR u n l e r q L1.2.2.2 L1.2.2.1 := ⟨hI.2.2.2.2.2, y2.2.2⟩
  have C3 : CR u n l e r q MT' RT' := CR_congr C2 (fun k hk => by rw [e7]; exact copy64 (fun _ _ => rfl) (by decide) MT k hk) (fun k hk => by rw [e6]; exact copy64 (fun _ _ => rfl) (by decide) RT k hk)
  obtain ⟨z1, z2, z3⟩ := unlike_spec R2 C1 C3
  exact ⟨⟨s1, l1, y1, l3, y3, z2, trivial⟩, z1, z3, R2, s3'⟩
theorem img_same {j : Nat} {u : Int32} {n l p t b s e r q im' : Nat → Int32} (h : IM kv j u n l p t b s e r q im) (hs : ∀ k, k < 80 → im' (80 * j + k) = im (80 * j + k)) : IM kv j u n l p t b s e r q im' := fun hb => ⟨Rel_congr (h hb).1 (fun _ _ => rfl) (fun _ _ => rfl) hs, (h hb).2⟩
theorem q_changed (h : Rel up nm lk st) (hP : PO up nm lk parts nexts befores steps len row pl) (hk : KB kv kp) (hA : IM kv 0 uA nA lA pA tA bA sA eA rA qA im) (hB : IM kv 1 uB nB lB pB tB bB sB eB rB qB im) (x1 : Int32) (S N R M RT MT : Nat → Int32) {G : _} (hG : G = f_M_changed x1 st im S N R M RT MT kp) : P_C_changed x1 kv up len eA row rA eB rB ∧ P_M_changed x1 st im S N R M RT MT kp ∧ f_C_changed x1 kv up len eA row rA eB rB = G.1 ∧ Rel up nm lk G.2.1 ∧ IM kv 0 uA nA lA pA tA bA sA eA rA qA G.2.2.1 ∧ IM kv 1 uB nB lB pB tB bB sB eB rB qB G.2.2.1 := by
  unfold f_M_changed at hG
  unfold P_C_changed P_M_changed f_C_changed
  by_cases c : x1 < 0 ∨ 1 < x1
  · have d1 := refuse_no c kv
    have d2 := (in01 x1).mpr c
    rw [d1, iF_neg m2_0]
    rw [iF_pos d2] at hG
    subst hG
    exact ⟨pif (fun q => absurd q m2_0) (fun _ => trivial), pif (fun _ => trivial) (fun q => absurd d2 q), rfl, h, hA, hB⟩
  have d2 : ¬ f_M_in x1 0 1 = 0 := fun q => c ((in01 x1).mp q)
  rw [iF_neg d2] at hG
  have e01 : x1 = nI 0 ∨ x1 = nI 1 := of01 (fun q => c (Or.inl q)) (fun q => c (Or.inr q))
  rcases e01 with e | e
  · subst e
    rw [cl (by decide)] at hG
    rw [cl (by decide)]
    cases hb : bt kv 0
    · have d1 := ref_3 (i := 0) (by decide) hb
      have k0 := (kp_0 (i := 0) (by decide) hk).mpr hb
      rw [d1, iF_neg m3_0]
      rw [iF_pos k0] at hG
      subst hG
      exact ⟨pif (fun q => absurd q m3_0) (fun _ => trivial), pif (fun _ => trivial) (fun _ => ⟨in2 (by decide), pif (fun _ => trivial) (fun q => absurd k0 q)⟩), rfl, h, hA, hB⟩
    · have d1 := ref_k (i := 0) (by decide) hb
      have k0 : ¬ kp 0 = 0 := fun q => by rw [(kp_0 (i := 0) (by decide) hk).mp q] at hb; exact absurd hb (by decide)
      rw [iF_neg k0] at hG
      rw [iF_pos d1]
      rw [iF_pos (show nI 0 = (0 : Int32) from rfl)]
      obtain ⟨m1, m2, m3, m4, m5⟩ := chg (i := 0) (by decide) h hP (hA hb) S N R M RT MT _ _ _ _ _ _ _ rfl rfl rfl rfl rfl rfl rfl
      subst hG
      exact ⟨pif (fun _ => ⟨Or.inl rfl, pif (fun _ => ⟨m2, trivial⟩) (fun q => absurd rfl q)⟩) (fun q => absurd d1 q), pif (fun _ => trivial) (fun _ => ⟨in2 (by decide), pif (fun _ => trivial) (fun _ => m1)⟩), m3, m4, img_same hA (m5 0 (by decide)), img_same hB (m5 1 (by decide))⟩
  · subst e
    rw [cl (by decide)] at hG
    rw [cl (by decide)]
    cases hb : bt kv 1
    · have d1 := ref_3 (i := 1) (by decide) hb
      have k0 := (kp_0 (i := 1) (by decide) hk).mpr hb
      rw [d1, iF_neg m3_0]
      rw [iF_pos k0] at hG
      subst hG
      exact ⟨pif (fun q => absurd q m3_0) (fun _ => trivial), pif (fun _ => trivial) (fun _ => ⟨in2 (by decide), pif (fun _ => trivial) (fun q => absurd k0 q)⟩), rfl, h, hA, hB⟩
    · have d1 := ref_k (i := 1) (by decide) hb
      have k0 : ¬ kp 1 = 0 := fun q => by rw [(kp_0 (i := 1) (by decide) hk).mp q] at hb; exact absurd hb (by decide)
      rw [iF_neg k0] at hG
      rw [iF_pos d1]
      rw [iF_neg (show ¬ (nI 1 = (0 : Int32)) from nI_ne (by decide) (by decide) (by decide))]
      obtain ⟨m1, m2, m3, m4, m5⟩ := chg (i := 1) (by decide) h hP (hB hb) S N R M RT MT _ _ _ _ _ _ _ rfl rfl rfl rfl rfl rfl rfl
      subst hG
      exact ⟨pif (fun _ => ⟨Or.inr rfl, pif (fun q => absurd q (nI_ne (by decide) (by decide) (by decide))) (fun _ => ⟨m2, trivial⟩)⟩) (fun q => absurd d1 q), pif (fun _ => trivial) (fun _ => ⟨in2 (by decide), pif (fun _ => trivial) (fun _ => m1)⟩), m3, m4, img_same hA (m5 0 (by decide)), img_same hB (m5 1 (by decide))⟩
end M

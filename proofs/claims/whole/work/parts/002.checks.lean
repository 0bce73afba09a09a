def tG : List Cond := lw_tbl.filter goodWord
theorem tG_at {w : Cond} (i : Nat) (h : lw_tbl[i]? = some w) (hg : goodWord w = true) : w ∈ tG := List.mem_filter.mpr ⟨List.mem_of_getElem? h, hg⟩
def cOK (ci : Nat) (r : vw_C) : Prop := (∀ w ∈ u_ws r.1 r.2.1 r.2.2, w ∈ tG) ∧ Cond.instantiable r.1 r.2.2 ∈ tG ∧ Cond.initialized r.1 ∈ tG ∧ (∀ a, a < r.2.2 → ∀ b, b < r.2.2 → a ≠ b → (r.2.1 a).2.1 ≠ (r.2.1 b).2.1) ∧ (cDs.getD ci []).length = r.2.2 ∧
  ∃ ty : Nat → FieldType, (∀ k, k < r.2.2 → parseFieldDescriptor (r.2.1 k).2.2.1 = some (ty k)) ∧ (∀ j, j < r.2.2 → defaultValue (ty j) = if (cDs.getD ci [])[j]? = some (vI 0) then .int 0 else .null) ∧ (∀ j, j < r.2.2 → (ty j = .int ∧ (cDs.getD ci [])[j]? = some (vI 0)) ∨ ((cDs.getD ci [])[j]? = some vN ∧ ((∃ t, ty j = .array t) ∨ ∃ n, ty j = .object n)))
theorem cI0 : ∀ k, k < 3 → lw_tbl[([84, 86, 88] : List Nat).getD k 0]? = some (u_lay cN0 cF0 k) ∧ goodWord (u_lay cN0 cF0 k) = true := by decide +kernel
theorem cO0 : cOK 0 (cN0, cF0, 3) := ⟨fun w hw => by
    obtain ⟨k, hk, rfl⟩ := List.mem_map.mp hw
    exact tG_at _ (cI0 k (List.mem_range.mp hk)).1 (cI0 k (List.mem_range.mp hk)).2, tG_at 70 (by decide +kernel) rfl, tG_at 54 (by decide +kernel) rfl, by decide +kernel, by decide, cY0, by decide +kernel, by decide +kernel, fun j hj => by
    match j, hj with
    | 0, _ => exact Or.inr ⟨rfl, Or.inl ⟨_, rfl⟩⟩
    | 1, _ => exact Or.inr ⟨rfl, Or.inl ⟨_, rfl⟩⟩
    | 2, _ => exact Or.inl ⟨rfl, rfl⟩
    | j + 3, h => exact absurd (show j + 3 < 3 from h) (by omega)⟩
theorem cI1 : ∀ k, k < 8 → lw_tbl[([117, 119, 121, 123, 125, 127, 129, 131] : List Nat).getD k 0]? = some (u_lay cN1 cF1 k) ∧ goodWord (u_lay cN1 cF1 k) = true := by decide +kernel
theorem cO1 : cOK 1 (cN1, cF1, 8) := ⟨fun w hw => by
    obtain ⟨k, hk, rfl⟩ := List.mem_map.mp hw
    exact tG_at _ (cI1 k (List.mem_range.mp hk)).1 (cI1 k (List.mem_range.mp hk)).2, tG_at 93 (by decide +kernel) rfl, tG_at 55 (by decide +kernel) rfl, by decide +kernel, by decide, cY1, by decide +kernel, by decide +kernel, fun j hj => by
    match j, hj with
    | 0, _ => exact Or.inr ⟨rfl, Or.inr ⟨_, rfl⟩⟩
    | 1, _ => exact Or.inr ⟨rfl, Or.inl ⟨_, rfl⟩⟩
    | 2, _ => exact Or.inr ⟨rfl, Or.inl ⟨_, rfl⟩⟩
    | 3, _ => exact Or.inr ⟨rfl, Or.inl ⟨_, rfl⟩⟩
    | 4, _ => exact Or.inr ⟨rfl, Or.inl ⟨_, rfl⟩⟩
    | 5, _ => exact Or.inr ⟨rfl, Or.inl ⟨_, rfl⟩⟩
    | 6, _ => exact Or.inr ⟨rfl, Or.inl ⟨_, rfl⟩⟩
    | 7, _ => exact Or.inr ⟨rfl, Or.inl ⟨_, rfl⟩⟩
    | j + 8, h => exact absurd (show j + 8 < 8 from h) (by omega)⟩
theorem cI2 : ∀ k, k < 6 → lw_tbl[([146, 148, 150, 152, 154, 156] : List Nat).getD k 0]? = some (u_lay cN2 cF2 k) ∧ goodWord (u_lay cN2 cF2 k) = true := by decide +kernel
theorem cO2 : cOK 2 (cN2, cF2, 6) := ⟨fun w hw => by
    obtain ⟨k, hk, rfl⟩ := List.mem_map.mp hw
    exact tG_at _ (cI2 k (List.mem_range.mp hk)).1 (cI2 k (List.mem_range.mp hk)).2, tG_at 135 (by decide +kernel) rfl, tG_at 56 (by decide +kernel) rfl, by decide +kernel, by decide, cY2, by decide +kernel, by decide +kernel, fun j hj => by
    match j, hj with
    | 0, _ => exact Or.inr ⟨rfl, Or.inr ⟨_, rfl⟩⟩
    | 1, _ => exact Or.inr ⟨rfl, Or.inl ⟨_, rfl⟩⟩
    | 2, _ => exact Or.inl ⟨rfl, rfl⟩
    | 3, _ => exact Or.inl ⟨rfl, rfl⟩
    | 4, _ => exact Or.inl ⟨rfl, rfl⟩
    | 5, _ => exact Or.inl ⟨rfl, rfl⟩
    | j + 6, h => exact absurd (show j + 6 < 6 from h) (by omega)⟩
theorem cI3 : ∀ k, k < 6 → lw_tbl[([178, 180, 182, 184, 186, 188] : List Nat).getD k 0]? = some (u_lay cN3 cF3 k) ∧ goodWord (u_lay cN3 cF3 k) = true := by decide +kernel
theorem cO3 : cOK 3 (cN3, cF3, 6) := ⟨fun w hw => by
    obtain ⟨k, hk, rfl⟩ := List.mem_map.mp hw
    exact tG_at _ (cI3 k (List.mem_range.mp hk)).1 (cI3 k (List.mem_range.mp hk)).2, tG_at 160 (by decide +kernel) rfl, tG_at 57 (by decide +kernel) rfl, by decide +kernel, by decide, cY3, by decide +kernel, by decide +kernel, fun j hj => by
    match j, hj with
    | 0, _ => exact Or.inr ⟨rfl, Or.inr ⟨_, rfl⟩⟩
    | 1, _ => exact Or.inr ⟨rfl, Or.inr ⟨_, rfl⟩⟩
    | 2, _ => exact Or.inr ⟨rfl, Or.inl ⟨_, rfl⟩⟩
    | 3, _ => exact Or.inl ⟨rfl, rfl⟩
    | 4, _ => exact Or.inl ⟨rfl, rfl⟩
    | 5, _ => exact Or.inl ⟨rfl, rfl⟩
    | j + 6, h => exact absurd (show j + 6 < 6 from h) (by omega)⟩
theorem cI4 : ∀ k, k < 6 → lw_tbl[([248, 250, 252, 254, 256, 258] : List Nat).getD k 0]? = some (u_lay cN4 cF4 k) ∧ goodWord (u_lay cN4 cF4 k) = true := by decide +kernel
theorem cO4 : cOK 4 (cN4, cF4, 6) := ⟨fun w hw => by
    obtain ⟨k, hk, rfl⟩ := List.mem_map.mp hw
    exact tG_at _ (cI4 k (List.mem_range.mp hk)).1 (cI4 k (List.mem_range.mp hk)).2, tG_at 62 (by decide +kernel) rfl, tG_at 53 (by decide +kernel) rfl, by decide +kernel, by decide, cY4, by decide +kernel, by decide +kernel, fun j hj => by
    match j, hj with
    | 0, _ => exact Or.inr ⟨rfl, Or.inr ⟨_, rfl⟩⟩
    | 1, _ => exact Or.inr ⟨rfl, Or.inr ⟨_, rfl⟩⟩
    | 2, _ => exact Or.inr ⟨rfl, Or.inr ⟨_, rfl⟩⟩
    | 3, _ => exact Or.inr ⟨rfl, Or.inr ⟨_, rfl⟩⟩
    | 4, _ => exact Or.inr ⟨rfl, Or.inl ⟨_, rfl⟩⟩
    | 5, _ => exact Or.inl ⟨rfl, rfl⟩
    | j + 6, h => exact absurd (show j + 6 < 6 from h) (by omega)⟩
theorem cI5 : ∀ k, k < 15 → lw_tbl[([540, 542, 544, 546, 548, 550, 552, 554, 556, 558, 560, 562, 564, 566, 568] : List Nat).getD k 0]? = some (u_lay cN5 cF5 k) ∧ goodWord (u_lay cN5 cF5 k) = true := by decide +kernel
theorem cO5 : cOK 5 (cN5, cF5, 15) := ⟨fun w hw => by
    obtain ⟨k, hk, rfl⟩ := List.mem_map.mp hw
    exact tG_at _ (cI5 k (List.mem_range.mp hk)).1 (cI5 k (List.mem_range.mp hk)).2, tG_at 520 (by decide +kernel) rfl, tG_at 59 (by decide +kernel) rfl, by decide +kernel, by decide, cY5, by decide +kernel, by decide +kernel, fun j hj => by
    match j, hj with
    | 0, _ => exact Or.inr ⟨rfl, Or.inl ⟨_, rfl⟩⟩
    | 1, _ => exact Or.inr ⟨rfl, Or.inl ⟨_, rfl⟩⟩
    | 2, _ => exact Or.inr ⟨rfl, Or.inl ⟨_, rfl⟩⟩
    | 3, _ => exact Or.inr ⟨rfl, Or.inl ⟨_, rfl⟩⟩
    | 4, _ => exact Or.inr ⟨rfl, Or.inl ⟨_, rfl⟩⟩
    | 5, _ => exact Or.inr ⟨rfl, Or.inl ⟨_, rfl⟩⟩
    | 6, _ => exact Or.inr ⟨rfl, Or.inl ⟨_, rfl⟩⟩
    | 7, _ => exact Or.inr ⟨rfl, Or.inl ⟨_, rfl⟩⟩
    | 8, _ => exact Or.inl ⟨rfl, rfl⟩
    | 9, _ => exact Or.inl ⟨rfl, rfl⟩
    | 10, _ => exact Or.inl ⟨rfl, rfl⟩
    | 11, _ => exact Or.inl ⟨rfl, rfl⟩
    | 12, _ => exact Or.inr ⟨rfl, Or.inl ⟨_, rfl⟩⟩
    | 13, _ => exact Or.inr ⟨rfl, Or.inl ⟨_, rfl⟩⟩
    | 14, _ => exact Or.inr ⟨rfl, Or.inl ⟨_, rfl⟩⟩
    | j + 15, h => exact absurd (show j + 15 < 15 from h) (by omega)⟩
theorem c_ok : ∀ (ci : Nat) (r : vw_C), cls[ci]? = some r → cOK ci r := by
  intro ci r h
  match ci, h with
  | 0, h => cases h; exact cO0
  | 1, h => cases h; exact cO1
  | 2, h => cases h; exact cO2
  | 3, h => cases h; exact cO3
  | 4, h => cases h; exact cO4
  | 5, h => cases h; exact cO5
  | k + 6, h => simp [cls] at h
/-- what holds of a method that is called -/
def mOK (r : MI) : Prop := plainFor r.1 = true ∧ (r.1.cls ≠ "java/lang/invoke/MethodHandle" ∧ r.1.cls ≠ "java/lang/invoke/VarHandle") ∧ (parseMethodDescriptor r.1.desc).map (fun d => d.parameters.length) = some (if r.2.2.2.2.2.2 = 99 then r.2.2.2.2.2.1 else r.2.2.2.2.2.1 - 1) ∧
  Cond.code r.1 r.2.1 r.2.2.1 r.2.2.2.1 ∈ tG ∧ Cond.initialized r.1.cls ∈ tG ∧ (r.2.2.2.1 = none ∨ r.2.2.2.1 = some .int ∨ r.2.2.2.1 = some .boolean) ∧ r.2.2.2.2.2.1 ≤ r.2.2.1 ∧
  ((r.2.2.2.2.2.2 = 99 ∧ Cond.static r.1 ∈ tG) ∨ (1 ≤ r.2.2.2.2.2.1 ∧ (cls[r.2.2.2.2.2.2]?).map (·.1) = some r.1.cls ∧ Cond.instanceMethod r.1 ∈ tG ∧ (r.1.name = "<init>" ∨ Cond.selects r.1.cls r.1 r.1 ∈ tG)))
set_option maxRecDepth 20000 in
theorem mo_0 : mOK m_0 := ⟨by decide +kernel, ⟨by decide +kernel, by decide +kernel⟩, by decide +kernel, tG_at 73 rfl rfl, tG_at 54 (by decide +kernel) rfl, Or.inl rfl, by decide, Or.inr ⟨by decide, rfl, tG_at 72 (by decide +kernel) rfl, Or.inl rfl⟩⟩
set_option maxRecDepth 20000 in
theorem mo_1 : mOK m_1 := ⟨by decide +kernel, ⟨by decide +kernel, by decide +kernel⟩, by decide +kernel, tG_at 96 rfl rfl, tG_at 55 (by decide +kernel) rfl, Or.inl rfl, by decide, Or.inr ⟨by decide, rfl, tG_at 95 (by decide +kernel) rfl, Or.inl rfl⟩⟩
set_option maxRecDepth 20000 in
theorem mo_2 : mOK m_2 := ⟨by decide +kernel, ⟨by decide +kernel, by decide +kernel⟩, by decide +kernel, tG_at 138 rfl rfl, tG_at 56 (by decide +kernel) rfl, Or.inl rfl, by decide, Or.inr ⟨by decide, rfl, tG_at 137 (by decide +kernel) rfl, Or.inl rfl⟩⟩
set_option maxRecDepth 20000 in
theorem mo_3 : mOK m_3 := ⟨by decide +kernel, ⟨by decide +kernel, by decide +kernel⟩, by decide +kernel, tG_at 168 rfl rfl, tG_at 57 (by decide +kernel) rfl, Or.inl rfl, by decide, Or.inr ⟨by decide, rfl, tG_at 167 (by decide +kernel) rfl, Or.inr (tG_at 0 (by decide +kernel) rfl)⟩⟩
set_option maxRecDepth 20000 in
theorem mo_4 : mOK m_4 := ⟨by decide +kernel, ⟨by decide +kernel, by decide +kernel⟩, by decide +kernel, tG_at 163 rfl rfl, tG_at 57 (by decide +kernel) rfl, Or.inl rfl, by decide, Or.inr ⟨by decide, rfl, tG_at 162 (by decide +kernel) rfl, Or.inl rfl⟩⟩
set_option maxRecDepth 20000 in
theorem mo_5 : mOK m_5 := ⟨by decide +kernel, ⟨by decide +kernel, by decide +kernel⟩, by decide +kernel, tG_at 202 rfl rfl, tG_at 53 (by decide +kernel) rfl, Or.inr (Or.inl rfl), by decide, Or.inl ⟨rfl, tG_at 201 (by decide +kernel) rfl⟩⟩
set_option maxRecDepth 20000 in
theorem mo_6 : mOK m_6 := ⟨by decide +kernel, ⟨by decide +kernel, by decide +kernel⟩, by decide +kernel, tG_at 209 rfl rfl, tG_at 53 (by decide +kernel) rfl, Or.inr (Or.inr rfl), by decide, Or.inl ⟨rfl, tG_at 208 (by decide +kernel) rfl⟩⟩
set_option maxRecDepth 20000 in
theorem mo_7 : mOK m_7 := ⟨by decide +kernel, ⟨by decide +kernel, by decide +kernel⟩, by decide +kernel, tG_at 206 rfl rfl, tG_at 55 (by decide +kernel) rfl, Or.inl rfl, by decide, Or.inr ⟨by decide, rfl, tG_at 205 (by decide +kernel) rfl, Or.inr (tG_at 2 (by decide +kernel) rfl)⟩⟩
set_option maxRecDepth 20000 in
theorem mo_8 : mOK m_8 := ⟨by decide +kernel, ⟨by decide +kernel, by decide +kernel⟩, by decide +kernel, tG_at 222 rfl rfl, tG_at 54 (by decide +kernel) rfl, Or.inr (Or.inr rfl), by decide, Or.inr ⟨by decide, rfl, tG_at 220 (by decide +kernel) rfl, Or.inr (tG_at 221 (by decide +kernel) rfl)⟩⟩
set_option maxRecDepth 20000 in
theorem mo_9 : mOK m_9 := ⟨by decide +kernel, ⟨by decide +kernel, by decide +kernel⟩, by decide +kernel, tG_at 218 rfl rfl, tG_at 54 (by decide +kernel) rfl, Or.inr (Or.inl rfl), by decide, Or.inr ⟨by decide, rfl, tG_at 216 (by decide +kernel) rfl, Or.inr (tG_at 217 (by decide +kernel) rfl)⟩⟩
set_option maxRecDepth 20000 in
theorem mo_10 : mOK m_10 := ⟨by decide +kernel, ⟨by decide +kernel, by decide +kernel⟩, by decide +kernel, tG_at 213 rfl rfl, tG_at 54 (by decide +kernel) rfl, Or.inr (Or.inl rfl), by decide, Or.inr ⟨by decide, rfl, tG_at 211 (by decide +kernel) rfl, Or.inr (tG_at 212 (by decide +kernel) rfl)⟩⟩
set_option maxRecDepth 20000 in
theorem mo_11 : mOK m_11 := ⟨by decide +kernel, ⟨by decide +kernel, by decide +kernel⟩, by decide +kernel, tG_at 199 rfl rfl, tG_at 55 (by decide +kernel) rfl, Or.inl rfl, by decide, Or.inr ⟨by decide, rfl, tG_at 198 (by decide +kernel) rfl, Or.inr (tG_at 1 (by decide +kernel) rfl)⟩⟩
set_option maxRecDepth 20000 in
theorem mo_12 : mOK m_12 := ⟨by decide +kernel, ⟨by decide +kernel, by decide +kernel⟩, by decide +kernel, tG_at 229 rfl rfl, tG_at 58 (by decide +kernel) rfl, Or.inr (Or.inl rfl), by decide, Or.inl ⟨rfl, tG_at 228 (by decide +kernel) rfl⟩⟩
set_option maxRecDepth 20000 in
theorem mo_13 : mOK m_13 := ⟨by decide +kernel, ⟨by decide +kernel, by decide +kernel⟩, by decide +kernel, tG_at 226 rfl rfl, tG_at 55 (by decide +kernel) rfl, Or.inr (Or.inl rfl), by decide, Or.inr ⟨by decide, rfl, tG_at 225 (by decide +kernel) rfl, Or.inr (tG_at 3 (by decide +kernel) rfl)⟩⟩
set_option maxRecDepth 20000 in
theorem mo_14 : mOK m_14 := ⟨by decide +kernel, ⟨by decide +kernel, by decide +kernel⟩, by decide +kernel, tG_at 232 rfl rfl, tG_at 53 (by decide +kernel) rfl, Or.inr (Or.inr rfl), by decide, Or.inl ⟨rfl, tG_at 231 (by decide +kernel) rfl⟩⟩
set_option maxRecDepth 20000 in
theorem mo_15 : mOK m_15 := ⟨by decide +kernel, ⟨by decide +kernel, by decide +kernel⟩, by decide +kernel, tG_at 240 rfl rfl, tG_at 55 (by decide +kernel) rfl, Or.inr (Or.inl rfl), by decide, Or.inr ⟨by decide, rfl, tG_at 239 (by decide +kernel) rfl, Or.inr (tG_at 5 (by decide +kernel) rfl)⟩⟩
set_option maxRecDepth 20000 in
theorem mo_16 : mOK m_16 := ⟨by decide +kernel, ⟨by decide +kernel, by decide +kernel⟩, by decide +kernel, tG_at 236 rfl rfl, tG_at 55 (by decide +kernel) rfl, Or.inl rfl, by decide, Or.inr ⟨by decide, rfl, tG_at 235 (by decide +kernel) rfl, Or.inr (tG_at 4 (by decide +kernel) rfl)⟩⟩
set_option maxRecDepth 20000 in
theorem mo_17 : mOK m_17 := ⟨by decide +kernel, ⟨by decide +kernel, by decide +kernel⟩, by decide +kernel, tG_at 195 rfl rfl, tG_at 55 (by decide +kernel) rfl, Or.inl rfl, by decide, Or.inr ⟨by decide, rfl, tG_at 193 (by decide +kernel) rfl, Or.inr (tG_at 194 (by decide +kernel) rfl)⟩⟩
set_option maxRecDepth 20000 in
theorem mo_18 : mOK m_18 := ⟨by decide +kernel, ⟨by decide +kernel, by decide +kernel⟩, by decide +kernel, tG_at 65 rfl rfl, tG_at 53 (by decide +kernel) rfl, Or.inl rfl, by decide, Or.inr ⟨by decide, rfl, tG_at 64 (by decide +kernel) rfl, Or.inl rfl⟩⟩
set_option maxRecDepth 20000 in
theorem mo_19 : mOK m_19 := ⟨by decide +kernel, ⟨by decide +kernel, by decide +kernel⟩, by decide +kernel, tG_at 523 rfl rfl, tG_at 59 (by decide +kernel) rfl, Or.inl rfl, by decide, Or.inr ⟨by decide, rfl, tG_at 522 (by decide +kernel) rfl, Or.inl rfl⟩⟩
set_option maxRecDepth 20000 in
theorem mo_20 : mOK m_20 := ⟨by decide +kernel, ⟨by decide +kernel, by decide +kernel⟩, by decide +kernel, tG_at 268 rfl rfl, tG_at 53 (by decide +kernel) rfl, Or.inr (Or.inr rfl), by decide, Or.inl ⟨rfl, tG_at 267 (by decide +kernel) rfl⟩⟩
set_option maxRecDepth 20000 in
theorem mo_21 : mOK m_21 := ⟨by decide +kernel, ⟨by decide +kernel, by decide +kernel⟩, by decide +kernel, tG_at 273 rfl rfl, tG_at 54 (by decide +kernel) rfl, Or.inr (Or.inr rfl), by decide, Or.inr ⟨by decide, rfl, tG_at 271 (by decide +kernel) rfl, Or.inr (tG_at 272 (by decide +kernel) rfl)⟩⟩
set_option maxRecDepth 20000 in
theorem mo_22 : mOK m_22 := ⟨by decide +kernel, ⟨by decide +kernel, by decide +kernel⟩, by decide +kernel, tG_at 277 rfl rfl, tG_at 54 (by decide +kernel) rfl, Or.inl rfl, by decide, Or.inr ⟨by decide, rfl, tG_at 275 (by decide +kernel) rfl, Or.inr (tG_at 276 (by decide +kernel) rfl)⟩⟩
set_option maxRecDepth 20000 in
theorem mo_23 : mOK m_23 := ⟨by decide +kernel, ⟨by decide +kernel, by decide +kernel⟩, by decide +kernel, tG_at 281 rfl rfl, tG_at 60 (by decide +kernel) rfl, Or.inr (Or.inl rfl), by decide, Or.inl ⟨rfl, tG_at 280 (by decide +kernel) rfl⟩⟩
set_option maxRecDepth 20000 in
theorem mo_24 : mOK m_24 := ⟨by decide +kernel, ⟨by decide +kernel, by decide +kernel⟩, by decide +kernel, tG_at 264 rfl rfl, tG_at 53 (by decide +kernel) rfl, Or.inr (Or.inl rfl), by decide, Or.inr ⟨by decide, rfl, tG_at 262 (by decide +kernel) rfl, Or.inr (tG_at 263 (by decide +kernel) rfl)⟩⟩
set_option maxRecDepth 20000 in
theorem mo_25 : mOK m_25 := ⟨by decide +kernel, ⟨by decide +kernel, by decide +kernel⟩, by decide +kernel, tG_at 581 rfl rfl, tG_at 59 (by decide +kernel) rfl, Or.inr (Or.inr rfl), by decide, Or.inl ⟨rfl, tG_at 580 (by decide +kernel) rfl⟩⟩
set_option maxRecDepth 20000 in
theorem mo_26 : mOK m_26 := ⟨by decide +kernel, ⟨by decide +kernel, by decide +kernel⟩, by decide +kernel, tG_at 578 rfl rfl, tG_at 59 (by decide +kernel) rfl, Or.inr (Or.inr rfl), by decide, Or.inl ⟨rfl, tG_at 577 (by decide +kernel) rfl⟩⟩
set_option maxRecDepth 20000 in
theorem mo_27 : mOK m_27 := ⟨by decide +kernel, ⟨by decide +kernel, by decide +kernel⟩, by decide +kernel, tG_at 584 rfl rfl, tG_at 59 (by decide +kernel) rfl, Or.inr (Or.inr rfl), by decide, Or.inl ⟨rfl, tG_at 583 (by decide +kernel) rfl⟩⟩
set_option maxRecDepth 20000 in
theorem mo_28 : mOK m_28 := ⟨by decide +kernel, ⟨by decide +kernel, by decide +kernel⟩, by decide +kernel, tG_at 588 rfl rfl, tG_at 59 (by decide +kernel) rfl, Or.inr (Or.inr rfl), by decide, Or.inr ⟨by decide, rfl, tG_at 587 (by decide +kernel) rfl, Or.inr (tG_at 13 (by decide +kernel) rfl)⟩⟩
set_option maxRecDepth 20000 in
theorem mo_29 : mOK m_29 := ⟨by decide +kernel, ⟨by decide +kernel, by decide +kernel⟩, by decide +kernel, tG_at 592 rfl rfl, tG_at 59 (by decide +kernel) rfl, Or.inr (Or.inr rfl), by decide, Or.inr ⟨by decide, rfl, tG_at 591 (by decide +kernel) rfl, Or.inr (tG_at 14 (by decide +kernel) rfl)⟩⟩
set_option maxRecDepth 20000 in
theorem mo_30 : mOK m_30 := ⟨by decide +kernel, ⟨by decide +kernel, by decide +kernel⟩, by decide +kernel, tG_at 596 rfl rfl, tG_at 59 (by decide +kernel) rfl, Or.inr (Or.inl rfl), by decide, Or.inr ⟨by decide, rfl, tG_at 595 (by decide +kernel) rfl, Or.inr (tG_at 15 (by decide +kernel) rfl)⟩⟩
set_option maxRecDepth 20000 in
theorem mo_31 : mOK m_31 := ⟨by decide +kernel, ⟨by decide +kernel, by decide +kernel⟩, by decide +kernel, tG_at 575 rfl rfl, tG_at 59 (by decide +kernel) rfl, Or.inr (Or.inl rfl), by decide, Or.inr ⟨by decide, rfl, tG_at 573 (by decide +kernel) rfl, Or.inr (tG_at 574 (by decide +kernel) rfl)⟩⟩
set_option maxRecDepth 20000 in
theorem mo_32 : mOK m_32 := ⟨by decide +kernel, ⟨by decide +kernel, by decide +kernel⟩, by decide +kernel, tG_at 292 rfl rfl, tG_at 54 (by decide +kernel) rfl, Or.inl rfl, by decide, Or.inr ⟨by decide, rfl, tG_at 290 (by decide +kernel) rfl, Or.inr (tG_at 291 (by decide +kernel) rfl)⟩⟩
set_option maxRecDepth 20000 in
theorem mo_33 : mOK m_33 := ⟨by decide +kernel, ⟨by decide +kernel, by decide +kernel⟩, by decide +kernel, tG_at 288 rfl rfl, tG_at 53 (by decide +kernel) rfl, Or.inr (Or.inl rfl), by decide, Or.inr ⟨by decide, rfl, tG_at 286 (by decide +kernel) rfl, Or.inr (tG_at 287 (by decide +kernel) rfl)⟩⟩
set_option maxRecDepth 20000 in
theorem mo_34 : mOK m_34 := ⟨by decide +kernel, ⟨by decide +kernel, by decide +kernel⟩, by decide +kernel, tG_at 600 rfl rfl, tG_at 59 (by decide +kernel) rfl, Or.inr (Or.inl rfl), by decide, Or.inr ⟨by decide, rfl, tG_at 598 (by decide +kernel) rfl, Or.inr (tG_at 599 (by decide +kernel) rfl)⟩⟩
set_option maxRecDepth 20000 in
theorem mo_35 : mOK m_35 := ⟨by decide +kernel, ⟨by decide +kernel, by decide +kernel⟩, by decide +kernel, tG_at 300 rfl rfl, tG_at 54 (by decide +kernel) rfl, Or.inl rfl, by decide, Or.inr ⟨by decide, rfl, tG_at 298 (by decide +kernel) rfl, Or.inr (tG_at 299 (by decide +kernel) rfl)⟩⟩
set_option maxRecDepth 20000 in
theorem mo_36 : mOK m_36 := ⟨by decide +kernel, ⟨by decide +kernel, by decide +kernel⟩, by decide +kernel, tG_at 304 rfl rfl, tG_at 54 (by decide +kernel) rfl, Or.inr (Or.inl rfl), by decide, Or.inr ⟨by decide, rfl, tG_at 302 (by decide +kernel) rfl, Or.inr (tG_at 303 (by decide +kernel) rfl)⟩⟩
set_option maxRecDepth 20000 in
theorem mo_37 : mOK m_37 := ⟨by decide +kernel, ⟨by decide +kernel, by decide +kernel⟩, by decide +kernel, tG_at 296 rfl rfl, tG_at 53 (by decide +kernel) rfl, Or.inr (Or.inl rfl), by decide, Or.inr ⟨by decide, rfl, tG_at 294 (by decide +kernel) rfl, Or.inr (tG_at 295 (by decide +kernel) rfl)⟩⟩
set_option maxRecDepth 20000 in
theorem mo_38 : mOK m_38 := ⟨by decide +kernel, ⟨by decide +kernel, by decide +kernel⟩, by decide +kernel, tG_at 607 rfl rfl, tG_at 59 (by decide +kernel) rfl, Or.inr (Or.inl rfl), by decide, Or.inl ⟨rfl, tG_at 606 (by decide +kernel) rfl⟩⟩
set_option maxRecDepth 20000 in
theorem mo_39 : mOK m_39 := ⟨by decide +kernel, ⟨by decide +kernel, by decide +kernel⟩, by decide +kernel, tG_at 611 rfl rfl, tG_at 59 (by decide +kernel) rfl, Or.inr (Or.inl rfl), by decide, Or.inr ⟨by decide, rfl, tG_at 610 (by decide +kernel) rfl, Or.inr (tG_at 16 (by decide +kernel) rfl)⟩⟩
set_option maxRecDepth 20000 in
theorem mo_40 : mOK m_40 := ⟨by decide +kernel, ⟨by decide +kernel, by decide +kernel⟩, by decide +kernel, tG_at 604 rfl rfl, tG_at 59 (by decide +kernel) rfl, Or.inr (Or.inl rfl), by decide, Or.inr ⟨by decide, rfl, tG_at 602 (by decide +kernel) rfl, Or.inr (tG_at 603 (by decide +kernel) rfl)⟩⟩
set_option maxRecDepth 20000 in
theorem mo_41 : mOK m_41 := ⟨by decide +kernel, ⟨by decide +kernel, by decide +kernel⟩, by decide +kernel, tG_at 322 rfl rfl, tG_at 55 (by decide +kernel) rfl, Or.inr (Or.inl rfl), by decide, Or.inr ⟨by decide, rfl, tG_at 320 (by decide +kernel) rfl, Or.inr (tG_at 321 (by decide +kernel) rfl)⟩⟩
set_option maxRecDepth 20000 in
theorem mo_42 : mOK m_42 := ⟨by decide +kernel, ⟨by decide +kernel, by decide +kernel⟩, by decide +kernel, tG_at 318 rfl rfl, tG_at 55 (by decide +kernel) rfl, Or.inr (Or.inr rfl), by decide, Or.inr ⟨by decide, rfl, tG_at 316 (by decide +kernel) rfl, Or.inr (tG_at 317 (by decide +kernel) rfl)⟩⟩
set_option maxRecDepth 20000 in
theorem mo_43 : mOK m_43 := ⟨by decide +kernel, ⟨by decide +kernel, by decide +kernel⟩, by decide +kernel, tG_at 314 rfl rfl, tG_at 55 (by decide +kernel) rfl, Or.inr (Or.inl rfl), by decide, Or.inr ⟨by decide, rfl, tG_at 312 (by decide +kernel) rfl, Or.inr (tG_at 313 (by decide +kernel) rfl)⟩⟩
set_option maxRecDepth 20000 in
theorem mo_44 : mOK m_44 := ⟨by decide +kernel, ⟨by decide +kernel, by decide +kernel⟩, by decide +kernel, tG_at 326 rfl rfl, tG_at 55 (by decide +kernel) rfl, Or.inr (Or.inl rfl), by decide, Or.inr ⟨by decide, rfl, tG_at 324 (by decide +kernel) rfl, Or.inr (tG_at 325 (by decide +kernel) rfl)⟩⟩
set_option maxRecDepth 20000 in
theorem mo_45 : mOK m_45 := ⟨by decide +kernel, ⟨by decide +kernel, by decide +kernel⟩, by decide +kernel, tG_at 309 rfl rfl, tG_at 53 (by decide +kernel) rfl, Or.inr (Or.inl rfl), by decide, Or.inr ⟨by decide, rfl, tG_at 307 (by decide +kernel) rfl, Or.inr (tG_at 308 (by decide +kernel) rfl)⟩⟩
set_option maxRecDepth 20000 in
theorem mo_46 : mOK m_46 := ⟨by decide +kernel, ⟨by decide +kernel, by decide +kernel⟩, by decide +kernel, tG_at 635 rfl rfl, tG_at 59 (by decide +kernel) rfl, Or.inr (Or.inr rfl), by decide, Or.inr ⟨by decide, rfl, tG_at 634 (by decide +kernel) rfl, Or.inr (tG_at 21 (by decide +kernel) rfl)⟩⟩
set_option maxRecDepth 20000 in
theorem mo_47 : mOK m_47 := ⟨by decide +kernel, ⟨by decide +kernel, by decide +kernel⟩, by decide +kernel, tG_at 631 rfl rfl, tG_at 59 (by decide +kernel) rfl, Or.inr (Or.inr rfl), by decide, Or.inr ⟨by decide, rfl, tG_at 630 (by decide +kernel) rfl, Or.inr (tG_at 20 (by decide +kernel) rfl)⟩⟩
set_option maxRecDepth 20000 in
theorem mo_48 : mOK m_48 := ⟨by decide +kernel, ⟨by decide +kernel, by decide +kernel⟩, by decide +kernel, tG_at 627 rfl rfl, tG_at 59 (by decide +kernel) rfl, Or.inr (Or.inr rfl), by decide, Or.inr ⟨by decide, rfl, tG_at 626 (by decide +kernel) rfl, Or.inr (tG_at 19 (by decide +kernel) rfl)⟩⟩
set_option maxRecDepth 20000 in
theorem mo_49 : mOK m_49 := ⟨by decide +kernel, ⟨by decide +kernel, by decide +kernel⟩, by decide +kernel, tG_at 623 rfl rfl, tG_at 59 (by decide +kernel) rfl, Or.inl rfl, by decide, Or.inr ⟨by decide, rfl, tG_at 622 (by decide +kernel) rfl, Or.inr (tG_at 18 (by decide +kernel) rfl)⟩⟩
set_option maxRecDepth 20000 in
theorem mo_50 : mOK m_50 := ⟨by decide +kernel, ⟨by decide +kernel, by decide +kernel⟩, by decide +kernel, tG_at 643 rfl rfl, tG_at 59 (by decide +kernel) rfl, Or.inr (Or.inr rfl), by decide, Or.inr ⟨by decide, rfl, tG_at 642 (by decide +kernel) rfl, Or.inr (tG_at 23 (by decide +kernel) rfl)⟩⟩
set_option maxRecDepth 20000 in
theorem mo_51 : mOK m_51 := ⟨by decide +kernel, ⟨by decide +kernel, by decide +kernel⟩, by decide +kernel, tG_at 647 rfl rfl, tG_at 59 (by decide +kernel) rfl, Or.inr (Or.inl rfl), by decide, Or.inr ⟨by decide, rfl, tG_at 646 (by decide +kernel) rfl, Or.inr (tG_at 24 (by decide +kernel) rfl)⟩⟩
set_option maxRecDepth 20000 in
theorem mo_52 : mOK m_52 := ⟨by decide +kernel, ⟨by decide +kernel, by decide +kernel⟩, by decide +kernel, tG_at 639 rfl rfl, tG_at 59 (by decide +kernel) rfl, Or.inr (Or.inl rfl), by decide, Or.inr ⟨by decide, rfl, tG_at 638 (by decide +kernel) rfl, Or.inr (tG_at 22 (by decide +kernel) rfl)⟩⟩
set_option maxRecDepth 20000 in
theorem mo_53 : mOK m_53 := ⟨by decide +kernel, ⟨by decide +kernel, by decide +kernel⟩, by decide +kernel, tG_at 655 rfl rfl, tG_at 59 (by decide +kernel) rfl, Or.inr (Or.inl rfl), by decide, Or.inr ⟨by decide, rfl, tG_at 654 (by decide +kernel) rfl, Or.inr (tG_at 26 (by decide +kernel) rfl)⟩⟩
set_option maxRecDepth 20000 in
theorem mo_54 : mOK m_54 := ⟨by decide +kernel, ⟨by decide +kernel, by decide +kernel⟩, by decide +kernel, tG_at 651 rfl rfl, tG_at 59 (by decide +kernel) rfl, Or.inl rfl, by decide, Or.inr ⟨by decide, rfl, tG_at 650 (by decide +kernel) rfl, Or.inr (tG_at 25 (by decide +kernel) rfl)⟩⟩
set_option maxRecDepth 20000 in
theorem mo_55 : mOK m_55 := ⟨by decide +kernel, ⟨by decide +kernel, by decide +kernel⟩, by decide +kernel, tG_at 619 rfl rfl, tG_at 59 (by decide +kernel) rfl, Or.inl rfl, by decide, Or.inr ⟨by decide, rfl, tG_at 618 (by decide +kernel) rfl, Or.inr (tG_at 17 (by decide +kernel) rfl)⟩⟩
set_option maxRecDepth 20000 in
theorem mo_56 : mOK m_56 := ⟨by decide +kernel, ⟨by decide +kernel, by decide +kernel⟩, by decide +kernel, tG_at 659 rfl rfl, tG_at 59 (by decide +kernel) rfl, Or.inr (Or.inl rfl), by decide, Or.inr ⟨by decide, rfl, tG_at 658 (by decide +kernel) rfl, Or.inr (tG_at 27 (by decide +kernel) rfl)⟩⟩
set_option maxRecDepth 20000 in
theorem mo_57 : mOK m_57 := ⟨by decide +kernel, ⟨by decide +kernel, by decide +kernel⟩, by decide +kernel, tG_at 663 rfl rfl, tG_at 59 (by decide +kernel) rfl, Or.inr (Or.inl rfl), by decide, Or.inr ⟨by decide, rfl, tG_at 662 (by decide +kernel) rfl, Or.inr (tG_at 28 (by decide +kernel) rfl)⟩⟩
set_option maxRecDepth 20000 in
theorem mo_58 : mOK m_58 := ⟨by decide +kernel, ⟨by decide +kernel, by decide +kernel⟩, by decide +kernel, tG_at 667 rfl rfl, tG_at 59 (by decide +kernel) rfl, Or.inr (Or.inl rfl), by decide, Or.inr ⟨by decide, rfl, tG_at 666 (by decide +kernel) rfl, Or.inr (tG_at 29 (by decide +kernel) rfl)⟩⟩
set_option maxRecDepth 20000 in
theorem mo_59 : mOK m_59 := ⟨by decide +kernel, ⟨by decide +kernel, by decide +kernel⟩, by decide +kernel, tG_at 675 rfl rfl, tG_at 59 (by decide +kernel) rfl, Or.inr (Or.inl rfl), by decide, Or.inr ⟨by decide, rfl, tG_at 674 (by decide +kernel) rfl, Or.inr (tG_at 31 (by decide +kernel) rfl)⟩⟩
set_option maxRecDepth 20000 in
theorem mo_60 : mOK m_60 := ⟨by decide +kernel, ⟨by decide +kernel, by decide +kernel⟩, by decide +kernel, tG_at 671 rfl rfl, tG_at 59 (by decide +kernel) rfl, Or.inr (Or.inl rfl), by decide, Or.inr ⟨by decide, rfl, tG_at 670 (by decide +kernel) rfl, Or.inr (tG_at 30 (by decide +kernel) rfl)⟩⟩
set_option maxRecDepth 20000 in
theorem mo_61 : mOK m_61 := ⟨by decide +kernel, ⟨by decide +kernel, by decide +kernel⟩, by decide +kernel, tG_at 679 rfl rfl, tG_at 59 (by decide +kernel) rfl, Or.inr (Or.inl rfl), by decide, Or.inr ⟨by decide, rfl, tG_at 678 (by decide +kernel) rfl, Or.inr (tG_at 32 (by decide +kernel) rfl)⟩⟩
set_option maxRecDepth 20000 in
theorem mo_62 : mOK m_62 := ⟨by decide +kernel, ⟨by decide +kernel, by decide +kernel⟩, by decide +kernel, tG_at 682 rfl rfl, tG_at 59 (by decide +kernel) rfl, Or.inr (Or.inl rfl), by decide, Or.inl ⟨rfl, tG_at 681 (by decide +kernel) rfl⟩⟩
set_option maxRecDepth 20000 in
theorem mo_63 : mOK m_63 := ⟨by decide +kernel, ⟨by decide +kernel, by decide +kernel⟩, by decide +kernel, tG_at 615 rfl rfl, tG_at 59 (by decide +kernel) rfl, Or.inr (Or.inl rfl), by decide, Or.inr ⟨by decide, rfl, tG_at 613 (by decide +kernel) rfl, Or.inr (tG_at 614 (by decide +kernel) rfl)⟩⟩
set_option maxRecDepth 20000 in
theorem mo_64 : mOK m_64 := ⟨by decide +kernel, ⟨by decide +kernel, by decide +kernel⟩, by decide +kernel, tG_at 335 rfl rfl, tG_at 55 (by decide +kernel) rfl, Or.inr (Or.inr rfl), by decide, Or.inr ⟨by decide, rfl, tG_at 333 (by decide +kernel) rfl, Or.inr (tG_at 334 (by decide +kernel) rfl)⟩⟩
set_option maxRecDepth 20000 in
theorem mo_65 : mOK m_65 := ⟨by decide +kernel, ⟨by decide +kernel, by decide +kernel⟩, by decide +kernel, tG_at 339 rfl rfl, tG_at 55 (by decide +kernel) rfl, Or.inr (Or.inl rfl), by decide, Or.inr ⟨by decide, rfl, tG_at 337 (by decide +kernel) rfl, Or.inr (tG_at 338 (by decide +kernel) rfl)⟩⟩
set_option maxRecDepth 20000 in
theorem mo_66 : mOK m_66 := ⟨by decide +kernel, ⟨by decide +kernel, by decide +kernel⟩, by decide +kernel, tG_at 331 rfl rfl, tG_at 53 (by decide +kernel) rfl, Or.inr (Or.inl rfl), by decide, Or.inr ⟨by decide, rfl, tG_at 329 (by decide +kernel) rfl, Or.inr (tG_at 330 (by decide +kernel) rfl)⟩⟩
set_option maxRecDepth 20000 in
theorem mo_67 : mOK m_67 := ⟨by decide +kernel, ⟨by decide +kernel, by decide +kernel⟩, by decide +kernel, tG_at 686 rfl rfl, tG_at 59 (by decide +kernel) rfl, Or.inr (Or.inl rfl), by decide, Or.inr ⟨by decide, rfl, tG_at 684 (by decide +kernel) rfl, Or.inr (tG_at 685 (by decide +kernel) rfl)⟩⟩
set_option maxRecDepth 20000 in
theorem mo_68 : mOK m_68 := ⟨by decide +kernel, ⟨by decide +kernel, by decide +kernel⟩, by decide +kernel, tG_at 343 rfl rfl, tG_at 53 (by decide +kernel) rfl, Or.inr (Or.inl rfl), by decide, Or.inr ⟨by decide, rfl, tG_at 341 (by decide +kernel) rfl, Or.inr (tG_at 342 (by decide +kernel) rfl)⟩⟩
set_option maxRecDepth 20000 in
theorem mo_69 : mOK m_69 := ⟨by decide +kernel, ⟨by decide +kernel, by decide +kernel⟩, by decide +kernel, tG_at 690 rfl rfl, tG_at 59 (by decide +kernel) rfl, Or.inr (Or.inl rfl), by decide, Or.inr ⟨by decide, rfl, tG_at 688 (by decide +kernel) rfl, Or.inr (tG_at 689 (by decide +kernel) rfl)⟩⟩
set_option maxRecDepth 20000 in
theorem mo_70 : mOK m_70 := ⟨by decide +kernel, ⟨by decide +kernel, by decide +kernel⟩, by decide +kernel, tG_at 352 rfl rfl, tG_at 53 (by decide +kernel) rfl, Or.inr (Or.inl rfl), by decide, Or.inr ⟨by decide, rfl, tG_at 351 (by decide +kernel) rfl, Or.inr (tG_at 6 (by decide +kernel) rfl)⟩⟩
set_option maxRecDepth 20000 in
theorem mo_71 : mOK m_71 := ⟨by decide +kernel, ⟨by decide +kernel, by decide +kernel⟩, by decide +kernel, tG_at 362 rfl rfl, tG_at 58 (by decide +kernel) rfl, Or.inr (Or.inl rfl), by decide, Or.inl ⟨rfl, tG_at 361 (by decide +kernel) rfl⟩⟩
set_option maxRecDepth 20000 in
theorem mo_72 : mOK m_72 := ⟨by decide +kernel, ⟨by decide +kernel, by decide +kernel⟩, by decide +kernel, tG_at 365 rfl rfl, tG_at 58 (by decide +kernel) rfl, Or.inr (Or.inl rfl), by decide, Or.inl ⟨rfl, tG_at 364 (by decide +kernel) rfl⟩⟩
set_option maxRecDepth 20000 in
theorem mo_73 : mOK m_73 := ⟨by decide +kernel, ⟨by decide +kernel, by decide +kernel⟩, by decide +kernel, tG_at 359 rfl rfl, tG_at 53 (by decide +kernel) rfl, Or.inr (Or.inl rfl), by decide, Or.inl ⟨rfl, tG_at 358 (by decide +kernel) rfl⟩⟩
set_option maxRecDepth 20000 in
theorem mo_74 : mOK m_74 := ⟨by decide +kernel, ⟨by decide +kernel, by decide +kernel⟩, by decide +kernel, tG_at 356 rfl rfl, tG_at 55 (by decide +kernel) rfl, Or.inr (Or.inl rfl), by decide, Or.inr ⟨by decide, rfl, tG_at 354 (by decide +kernel) rfl, Or.inr (tG_at 355 (by decide +kernel) rfl)⟩⟩
set_option maxRecDepth 20000 in
theorem mo_75 : mOK m_75 := ⟨by decide +kernel, ⟨by decide +kernel, by decide +kernel⟩, by decide +kernel, tG_at 348 rfl rfl, tG_at 53 (by decide +kernel) rfl, Or.inr (Or.inl rfl), by decide, Or.inr ⟨by decide, rfl, tG_at 346 (by decide +kernel) rfl, Or.inr (tG_at 347 (by decide +kernel) rfl)⟩⟩
set_option maxRecDepth 20000 in
theorem mo_76 : mOK m_76 := ⟨by decide +kernel, ⟨by decide +kernel, by decide +kernel⟩, by decide +kernel, tG_at 708 rfl rfl, tG_at 59 (by decide +kernel) rfl, Or.inr (Or.inl rfl), by decide, Or.inl ⟨rfl, tG_at 707 (by decide +kernel) rfl⟩⟩
set_option maxRecDepth 20000 in
theorem mo_77 : mOK m_77 := ⟨by decide +kernel, ⟨by decide +kernel, by decide +kernel⟩, by decide +kernel, tG_at 705 rfl rfl, tG_at 59 (by decide +kernel) rfl, Or.inr (Or.inl rfl), by decide, Or.inl ⟨rfl, tG_at 704 (by decide +kernel) rfl⟩⟩
set_option maxRecDepth 20000 in
theorem mo_78 : mOK m_78 := ⟨by decide +kernel, ⟨by decide +kernel, by decide +kernel⟩, by decide +kernel, tG_at 702 rfl rfl, tG_at 59 (by decide +kernel) rfl, Or.inr (Or.inr rfl), by decide, Or.inr ⟨by decide, rfl, tG_at 701 (by decide +kernel) rfl, Or.inr (tG_at 34 (by decide +kernel) rfl)⟩⟩
set_option maxRecDepth 20000 in
theorem mo_79 : mOK m_79 := ⟨by decide +kernel, ⟨by decide +kernel, by decide +kernel⟩, by decide +kernel, tG_at 698 rfl rfl, tG_at 59 (by decide +kernel) rfl, Or.inr (Or.inl rfl), by decide, Or.inr ⟨by decide, rfl, tG_at 697 (by decide +kernel) rfl, Or.inr (tG_at 33 (by decide +kernel) rfl)⟩⟩
set_option maxRecDepth 20000 in
theorem mo_80 : mOK m_80 := ⟨by decide +kernel, ⟨by decide +kernel, by decide +kernel⟩, by decide +kernel, tG_at 694 rfl rfl, tG_at 59 (by decide +kernel) rfl, Or.inr (Or.inl rfl), by decide, Or.inr ⟨by decide, rfl, tG_at 692 (by decide +kernel) rfl, Or.inr (tG_at 693 (by decide +kernel) rfl)⟩⟩
set_option maxRecDepth 20000 in
theorem mo_81 : mOK m_81 := ⟨by decide +kernel, ⟨by decide +kernel, by decide +kernel⟩, by decide +kernel, tG_at 390 rfl rfl, tG_at 56 (by decide +kernel) rfl, Or.inl rfl, by decide, Or.inr ⟨by decide, rfl, tG_at 389 (by decide +kernel) rfl, Or.inr (tG_at 9 (by decide +kernel) rfl)⟩⟩
set_option maxRecDepth 20000 in
theorem mo_82 : mOK m_82 := ⟨by decide +kernel, ⟨by decide +kernel, by decide +kernel⟩, by decide +kernel, tG_at 385 rfl rfl, tG_at 56 (by decide +kernel) rfl, Or.inl rfl, by decide, Or.inr ⟨by decide, rfl, tG_at 384 (by decide +kernel) rfl, Or.inr (tG_at 8 (by decide +kernel) rfl)⟩⟩
set_option maxRecDepth 20000 in
theorem mo_83 : mOK m_83 := ⟨by decide +kernel, ⟨by decide +kernel, by decide +kernel⟩, by decide +kernel, tG_at 378 rfl rfl, tG_at 56 (by decide +kernel) rfl, Or.inr (Or.inl rfl), by decide, Or.inr ⟨by decide, rfl, tG_at 377 (by decide +kernel) rfl, Or.inr (tG_at 7 (by decide +kernel) rfl)⟩⟩
set_option maxRecDepth 20000 in
theorem mo_84 : mOK m_84 := ⟨by decide +kernel, ⟨by decide +kernel, by decide +kernel⟩, by decide +kernel, tG_at 373 rfl rfl, tG_at 56 (by decide +kernel) rfl, Or.inl rfl, by decide, Or.inr ⟨by decide, rfl, tG_at 371 (by decide +kernel) rfl, Or.inr (tG_at 372 (by decide +kernel) rfl)⟩⟩
set_option maxRecDepth 20000 in
theorem mo_85 : mOK m_85 := ⟨by decide +kernel, ⟨by decide +kernel, by decide +kernel⟩, by decide +kernel, tG_at 394 rfl rfl, tG_at 56 (by decide +kernel) rfl, Or.inr (Or.inl rfl), by decide, Or.inr ⟨by decide, rfl, tG_at 392 (by decide +kernel) rfl, Or.inr (tG_at 393 (by decide +kernel) rfl)⟩⟩
set_option maxRecDepth 20000 in
theorem mo_86 : mOK m_86 := ⟨by decide +kernel, ⟨by decide +kernel, by decide +kernel⟩, by decide +kernel, tG_at 398 rfl rfl, tG_at 56 (by decide +kernel) rfl, Or.inr (Or.inl rfl), by decide, Or.inr ⟨by decide, rfl, tG_at 396 (by decide +kernel) rfl, Or.inr (tG_at 397 (by decide +kernel) rfl)⟩⟩
set_option maxRecDepth 20000 in
theorem mo_87 : mOK m_87 := ⟨by decide +kernel, ⟨by decide +kernel, by decide +kernel⟩, by decide +kernel, tG_at 369 rfl rfl, tG_at 53 (by decide +kernel) rfl, Or.inr (Or.inl rfl), by decide, Or.inr ⟨by decide, rfl, tG_at 367 (by decide +kernel) rfl, Or.inr (tG_at 368 (by decide +kernel) rfl)⟩⟩
set_option maxRecDepth 20000 in
theorem mo_88 : mOK m_88 := ⟨by decide +kernel, ⟨by decide +kernel, by decide +kernel⟩, by decide +kernel, tG_at 724 rfl rfl, tG_at 59 (by decide +kernel) rfl, Or.inr (Or.inl rfl), by decide, Or.inr ⟨by decide, rfl, tG_at 723 (by decide +kernel) rfl, Or.inr (tG_at 37 (by decide +kernel) rfl)⟩⟩
set_option maxRecDepth 20000 in
theorem mo_89 : mOK m_89 := ⟨by decide +kernel, ⟨by decide +kernel, by decide +kernel⟩, by decide +kernel, tG_at 720 rfl rfl, tG_at 59 (by decide +kernel) rfl, Or.inr (Or.inl rfl), by decide, Or.inr ⟨by decide, rfl, tG_at 719 (by decide +kernel) rfl, Or.inr (tG_at 36 (by decide +kernel) rfl)⟩⟩
set_option maxRecDepth 20000 in
theorem mo_90 : mOK m_90 := ⟨by decide +kernel, ⟨by decide +kernel, by decide +kernel⟩, by decide +kernel, tG_at 716 rfl rfl, tG_at 59 (by decide +kernel) rfl, Or.inl rfl, by decide, Or.inr ⟨by decide, rfl, tG_at 715 (by decide +kernel) rfl, Or.inr (tG_at 35 (by decide +kernel) rfl)⟩⟩
set_option maxRecDepth 20000 in
theorem mo_91 : mOK m_91 := ⟨by decide +kernel, ⟨by decide +kernel, by decide +kernel⟩, by decide +kernel, tG_at 712 rfl rfl, tG_at 59 (by decide +kernel) rfl, Or.inr (Or.inl rfl), by decide, Or.inr ⟨by decide, rfl, tG_at 710 (by decide +kernel) rfl, Or.inr (tG_at 711 (by decide +kernel) rfl)⟩⟩
set_option maxRecDepth 20000 in
theorem mo_92 : mOK m_92 := ⟨by decide +kernel, ⟨by decide +kernel, by decide +kernel⟩, by decide +kernel, tG_at 411 rfl rfl, tG_at 56 (by decide +kernel) rfl, Or.inr (Or.inl rfl), by decide, Or.inr ⟨by decide, rfl, tG_at 409 (by decide +kernel) rfl, Or.inr (tG_at 410 (by decide +kernel) rfl)⟩⟩
set_option maxRecDepth 20000 in
theorem mo_93 : mOK m_93 := ⟨by decide +kernel, ⟨by decide +kernel, by decide +kernel⟩, by decide +kernel, tG_at 406 rfl rfl, tG_at 56 (by decide +kernel) rfl, Or.inr (Or.inl rfl), by decide, Or.inr ⟨by decide, rfl, tG_at 404 (by decide +kernel) rfl, Or.inr (tG_at 405 (by decide +kernel) rfl)⟩⟩
set_option maxRecDepth 20000 in
theorem mo_94 : mOK m_94 := ⟨by decide +kernel, ⟨by decide +kernel, by decide +kernel⟩, by decide +kernel, tG_at 402 rfl rfl, tG_at 53 (by decide +kernel) rfl, Or.inr (Or.inl rfl), by decide, Or.inr ⟨by decide, rfl, tG_at 400 (by decide +kernel) rfl, Or.inr (tG_at 401 (by decide +kernel) rfl)⟩⟩
set_option maxRecDepth 20000 in
theorem mo_95 : mOK m_95 := ⟨by decide +kernel, ⟨by decide +kernel, by decide +kernel⟩, by decide +kernel, tG_at 732 rfl rfl, tG_at 59 (by decide +kernel) rfl, Or.inr (Or.inl rfl), by decide, Or.inr ⟨by decide, rfl, tG_at 731 (by decide +kernel) rfl, Or.inr (tG_at 38 (by decide +kernel) rfl)⟩⟩
set_option maxRecDepth 20000 in
theorem mo_96 : mOK m_96 := ⟨by decide +kernel, ⟨by decide +kernel, by decide +kernel⟩, by decide +kernel, tG_at 728 rfl rfl, tG_at 59 (by decide +kernel) rfl, Or.inr (Or.inl rfl), by decide, Or.inr ⟨by decide, rfl, tG_at 726 (by decide +kernel) rfl, Or.inr (tG_at 727 (by decide +kernel) rfl)⟩⟩
set_option maxRecDepth 20000 in
theorem mo_97 : mOK m_97 := ⟨by decide +kernel, ⟨by decide +kernel, by decide +kernel⟩, by decide +kernel, tG_at 430 rfl rfl, tG_at 58 (by decide +kernel) rfl, Or.inr (Or.inl rfl), by decide, Or.inl ⟨rfl, tG_at 429 (by decide +kernel) rfl⟩⟩
set_option maxRecDepth 20000 in
theorem mo_98 : mOK m_98 := ⟨by decide +kernel, ⟨by decide +kernel, by decide +kernel⟩, by decide +kernel, tG_at 435 rfl rfl, tG_at 56 (by decide +kernel) rfl, Or.inr (Or.inl rfl), by decide, Or.inr ⟨by decide, rfl, tG_at 433 (by decide +kernel) rfl, Or.inr (tG_at 434 (by decide +kernel) rfl)⟩⟩
set_option maxRecDepth 20000 in
theorem mo_99 : mOK m_99 := ⟨by decide +kernel, ⟨by decide +kernel, by decide +kernel⟩, by decide +kernel, tG_at 426 rfl rfl, tG_at 57 (by decide +kernel) rfl, Or.inl rfl, by decide, Or.inr ⟨by decide, rfl, tG_at 425 (by decide +kernel) rfl, Or.inr (tG_at 10 (by decide +kernel) rfl)⟩⟩
set_option maxRecDepth 20000 in
theorem mo_100 : mOK m_100 := ⟨by decide +kernel, ⟨by decide +kernel, by decide +kernel⟩, by decide +kernel, tG_at 420 rfl rfl, tG_at 57 (by decide +kernel) rfl, Or.inl rfl, by decide, Or.inr ⟨by decide, rfl, tG_at 418 (by decide +kernel) rfl, Or.inr (tG_at 419 (by decide +kernel) rfl)⟩⟩
set_option maxRecDepth 20000 in
theorem mo_101 : mOK m_101 := ⟨by decide +kernel, ⟨by decide +kernel, by decide +kernel⟩, by decide +kernel, tG_at 440 rfl rfl, tG_at 57 (by decide +kernel) rfl, Or.inr (Or.inl rfl), by decide, Or.inr ⟨by decide, rfl, tG_at 438 (by decide +kernel) rfl, Or.inr (tG_at 439 (by decide +kernel) rfl)⟩⟩
set_option maxRecDepth 20000 in
theorem mo_102 : mOK m_102 := ⟨by decide +kernel, ⟨by decide +kernel, by decide +kernel⟩, by decide +kernel, tG_at 416 rfl rfl, tG_at 53 (by decide +kernel) rfl, Or.inr (Or.inl rfl), by decide, Or.inr ⟨by decide, rfl, tG_at 414 (by decide +kernel) rfl, Or.inr (tG_at 415 (by decide +kernel) rfl)⟩⟩
set_option maxRecDepth 20000 in
theorem mo_103 : mOK m_103 := ⟨by decide +kernel, ⟨by decide +kernel, by decide +kernel⟩, by decide +kernel, tG_at 744 rfl rfl, tG_at 59 (by decide +kernel) rfl, Or.inr (Or.inr rfl), by decide, Or.inr ⟨by decide, rfl, tG_at 743 (by decide +kernel) rfl, Or.inr (tG_at 40 (by decide +kernel) rfl)⟩⟩
set_option maxRecDepth 20000 in
theorem mo_104 : mOK m_104 := ⟨by decide +kernel, ⟨by decide +kernel, by decide +kernel⟩, by decide +kernel, tG_at 740 rfl rfl, tG_at 59 (by decide +kernel) rfl, Or.inl rfl, by decide, Or.inr ⟨by decide, rfl, tG_at 739 (by decide +kernel) rfl, Or.inr (tG_at 39 (by decide +kernel) rfl)⟩⟩
set_option maxRecDepth 20000 in
theorem mo_105 : mOK m_105 := ⟨by decide +kernel, ⟨by decide +kernel, by decide +kernel⟩, by decide +kernel, tG_at 748 rfl rfl, tG_at 59 (by decide +kernel) rfl, Or.inr (Or.inl rfl), by decide, Or.inr ⟨by decide, rfl, tG_at 747 (by decide +kernel) rfl, Or.inr (tG_at 41 (by decide +kernel) rfl)⟩⟩
set_option maxRecDepth 20000 in
theorem mo_106 : mOK m_106 := ⟨by decide +kernel, ⟨by decide +kernel, by decide +kernel⟩, by decide +kernel, tG_at 736 rfl rfl, tG_at 59 (by decide +kernel) rfl, Or.inr (Or.inl rfl), by decide, Or.inr ⟨by decide, rfl, tG_at 734 (by decide +kernel) rfl, Or.inr (tG_at 735 (by decide +kernel) rfl)⟩⟩
set_option maxRecDepth 20000 in
theorem mo_107 : mOK m_107 := ⟨by decide +kernel, ⟨by decide +kernel, by decide +kernel⟩, by decide +kernel, tG_at 448 rfl rfl, tG_at 54 (by decide +kernel) rfl, Or.inr (Or.inr rfl), by decide, Or.inr ⟨by decide, rfl, tG_at 446 (by decide +kernel) rfl, Or.inr (tG_at 447 (by decide +kernel) rfl)⟩⟩
set_option maxRecDepth 20000 in
theorem mo_108 : mOK m_108 := ⟨by decide +kernel, ⟨by decide +kernel, by decide +kernel⟩, by decide +kernel, tG_at 452 rfl rfl, tG_at 55 (by decide +kernel) rfl, Or.inr (Or.inl rfl), by decide, Or.inr ⟨by decide, rfl, tG_at 450 (by decide +kernel) rfl, Or.inr (tG_at 451 (by decide +kernel) rfl)⟩⟩
set_option maxRecDepth 20000 in
theorem mo_109 : mOK m_109 := ⟨by decide +kernel, ⟨by decide +kernel, by decide +kernel⟩, by decide +kernel, tG_at 444 rfl rfl, tG_at 53 (by decide +kernel) rfl, Or.inr (Or.inl rfl), by decide, Or.inr ⟨by decide, rfl, tG_at 442 (by decide +kernel) rfl, Or.inr (tG_at 443 (by decide +kernel) rfl)⟩⟩
set_option maxRecDepth 20000 in
theorem mo_110 : mOK m_110 := ⟨by decide +kernel, ⟨by decide +kernel, by decide +kernel⟩, by decide +kernel, tG_at 756 rfl rfl, tG_at 59 (by decide +kernel) rfl, Or.inr (Or.inr rfl), by decide, Or.inr ⟨by decide, rfl, tG_at 755 (by decide +kernel) rfl, Or.inr (tG_at 42 (by decide +kernel) rfl)⟩⟩
set_option maxRecDepth 20000 in
theorem mo_111 : mOK m_111 := ⟨by decide +kernel, ⟨by decide +kernel, by decide +kernel⟩, by decide +kernel, tG_at 752 rfl rfl, tG_at 59 (by decide +kernel) rfl, Or.inr (Or.inl rfl), by decide, Or.inr ⟨by decide, rfl, tG_at 750 (by decide +kernel) rfl, Or.inr (tG_at 751 (by decide +kernel) rfl)⟩⟩
set_option maxRecDepth 20000 in
theorem mo_112 : mOK m_112 := ⟨by decide +kernel, ⟨by decide +kernel, by decide +kernel⟩, by decide +kernel, tG_at 461 rfl rfl, tG_at 54 (by decide +kernel) rfl, Or.inr (Or.inr rfl), by decide, Or.inr ⟨by decide, rfl, tG_at 459 (by decide +kernel) rfl, Or.inr (tG_at 460 (by decide +kernel) rfl)⟩⟩
set_option maxRecDepth 20000 in
theorem mo_113 : mOK m_113 := ⟨by decide +kernel, ⟨by decide +kernel, by decide +kernel⟩, by decide +kernel, tG_at 457 rfl rfl, tG_at 53 (by decide +kernel) rfl, Or.inr (Or.inl rfl), by decide, Or.inr ⟨by decide, rfl, tG_at 455 (by decide +kernel) rfl, Or.inr (tG_at 456 (by decide +kernel) rfl)⟩⟩
set_option maxRecDepth 20000 in
theorem mo_114 : mOK m_114 := ⟨by decide +kernel, ⟨by decide +kernel, by decide +kernel⟩, by decide +kernel, tG_at 764 rfl rfl, tG_at 59 (by decide +kernel) rfl, Or.inr (Or.inr rfl), by decide, Or.inr ⟨by decide, rfl, tG_at 763 (by decide +kernel) rfl, Or.inr (tG_at 43 (by decide +kernel) rfl)⟩⟩
set_option maxRecDepth 20000 in
theorem mo_115 : mOK m_115 := ⟨by decide +kernel, ⟨by decide +kernel, by decide +kernel⟩, by decide +kernel, tG_at 760 rfl rfl, tG_at 59 (by decide +kernel) rfl, Or.inr (Or.inl rfl), by decide, Or.inr ⟨by decide, rfl, tG_at 758 (by decide +kernel) rfl, Or.inr (tG_at 759 (by decide +kernel) rfl)⟩⟩
set_option maxRecDepth 20000 in
theorem mo_116 : mOK m_116 := ⟨by decide +kernel, ⟨by decide +kernel, by decide +kernel⟩, by decide +kernel, tG_at 473 rfl rfl, tG_at 53 (by decide +kernel) rfl, Or.inr (Or.inr rfl), by decide, Or.inl ⟨rfl, tG_at 472 (by decide +kernel) rfl⟩⟩
set_option maxRecDepth 20000 in
theorem mo_117 : mOK m_117 := ⟨by decide +kernel, ⟨by decide +kernel, by decide +kernel⟩, by decide +kernel, tG_at 470 rfl rfl, tG_at 53 (by decide +kernel) rfl, Or.inr (Or.inl rfl), by decide, Or.inr ⟨by decide, rfl, tG_at 469 (by decide +kernel) rfl, Or.inr (tG_at 11 (by decide +kernel) rfl)⟩⟩
set_option maxRecDepth 20000 in
theorem mo_118 : mOK m_118 := ⟨by decide +kernel, ⟨by decide +kernel, by decide +kernel⟩, by decide +kernel, tG_at 483 rfl rfl, tG_at 55 (by decide +kernel) rfl, Or.inr (Or.inr rfl), by decide, Or.inr ⟨by decide, rfl, tG_at 482 (by decide +kernel) rfl, Or.inr (tG_at 12 (by decide +kernel) rfl)⟩⟩
set_option maxRecDepth 20000 in
theorem mo_119 : mOK m_119 := ⟨by decide +kernel, ⟨by decide +kernel, by decide +kernel⟩, by decide +kernel, tG_at 478 rfl rfl, tG_at 55 (by decide +kernel) rfl, Or.inr (Or.inl rfl), by decide, Or.inr ⟨by decide, rfl, tG_at 476 (by decide +kernel) rfl, Or.inr (tG_at 477 (by decide +kernel) rfl)⟩⟩
set_option maxRecDepth 20000 in
theorem mo_120 : mOK m_120 := ⟨by decide +kernel, ⟨by decide +kernel, by decide +kernel⟩, by decide +kernel, tG_at 466 rfl rfl, tG_at 53 (by decide +kernel) rfl, Or.inr (Or.inl rfl), by decide, Or.inr ⟨by decide, rfl, tG_at 464 (by decide +kernel) rfl, Or.inr (tG_at 465 (by decide +kernel) rfl)⟩⟩
set_option maxRecDepth 20000 in
theorem mo_121 : mOK m_121 := ⟨by decide +kernel, ⟨by decide +kernel, by decide +kernel⟩, by decide +kernel, tG_at 772 rfl rfl, tG_at 59 (by decide +kernel) rfl, Or.inl rfl, by decide, Or.inr ⟨by decide, rfl, tG_at 771 (by decide +kernel) rfl, Or.inr (tG_at 44 (by decide +kernel) rfl)⟩⟩
set_option maxRecDepth 20000 in
theorem mo_122 : mOK m_122 := ⟨by decide +kernel, ⟨by decide +kernel, by decide +kernel⟩, by decide +kernel, tG_at 776 rfl rfl, tG_at 59 (by decide +kernel) rfl, Or.inl rfl, by decide, Or.inr ⟨by decide, rfl, tG_at 775 (by decide +kernel) rfl, Or.inr (tG_at 45 (by decide +kernel) rfl)⟩⟩
set_option maxRecDepth 20000 in
theorem mo_123 : mOK m_123 := ⟨by decide +kernel, ⟨by decide +kernel, by decide +kernel⟩, by decide +kernel, tG_at 780 rfl rfl, tG_at 59 (by decide +kernel) rfl, Or.inr (Or.inr rfl), by decide, Or.inr ⟨by decide, rfl, tG_at 779 (by decide +kernel) rfl, Or.inr (tG_at 46 (by decide +kernel) rfl)⟩⟩
set_option maxRecDepth 20000 in
theorem mo_124 : mOK m_124 := ⟨by decide +kernel, ⟨by decide +kernel, by decide +kernel⟩, by decide +kernel, tG_at 768 rfl rfl, tG_at 59 (by decide +kernel) rfl, Or.inr (Or.inl rfl), by decide, Or.inr ⟨by decide, rfl, tG_at 766 (by decide +kernel) rfl, Or.inr (tG_at 767 (by decide +kernel) rfl)⟩⟩
set_option maxRecDepth 20000 in
theorem mo_125 : mOK m_125 := ⟨by decide +kernel, ⟨by decide +kernel, by decide +kernel⟩, by decide +kernel, tG_at 492 rfl rfl, tG_at 54 (by decide +kernel) rfl, Or.inl rfl, by decide, Or.inr ⟨by decide, rfl, tG_at 490 (by decide +kernel) rfl, Or.inr (tG_at 491 (by decide +kernel) rfl)⟩⟩
set_option maxRecDepth 20000 in
theorem mo_126 : mOK m_126 := ⟨by decide +kernel, ⟨by decide +kernel, by decide +kernel⟩, by decide +kernel, tG_at 488 rfl rfl, tG_at 53 (by decide +kernel) rfl, Or.inr (Or.inl rfl), by decide, Or.inr ⟨by decide, rfl, tG_at 486 (by decide +kernel) rfl, Or.inr (tG_at 487 (by decide +kernel) rfl)⟩⟩
set_option maxRecDepth 20000 in
theorem mo_127 : mOK m_127 := ⟨by decide +kernel, ⟨by decide +kernel, by decide +kernel⟩, by decide +kernel, tG_at 784 rfl rfl, tG_at 59 (by decide +kernel) rfl, Or.inr (Or.inl rfl), by decide, Or.inr ⟨by decide, rfl, tG_at 782 (by decide +kernel) rfl, Or.inr (tG_at 783 (by decide +kernel) rfl)⟩⟩
set_option maxRecDepth 20000 in
theorem mo_128 : mOK m_128 := ⟨by decide +kernel, ⟨by decide +kernel, by decide +kernel⟩, by decide +kernel, tG_at 497 rfl rfl, tG_at 53 (by decide +kernel) rfl, Or.inr (Or.inl rfl), by decide, Or.inr ⟨by decide, rfl, tG_at 495 (by decide +kernel) rfl, Or.inr (tG_at 496 (by decide +kernel) rfl)⟩⟩
set_option maxRecDepth 20000 in
theorem mo_129 : mOK m_129 := ⟨by decide +kernel, ⟨by decide +kernel, by decide +kernel⟩, by decide +kernel, tG_at 788 rfl rfl, tG_at 59 (by decide +kernel) rfl, Or.inr (Or.inl rfl), by decide, Or.inr ⟨by decide, rfl, tG_at 786 (by decide +kernel) rfl, Or.inr (tG_at 787 (by decide +kernel) rfl)⟩⟩
set_option maxRecDepth 20000 in
theorem mo_130 : mOK m_130 := ⟨by decide +kernel, ⟨by decide +kernel, by decide +kernel⟩, by decide +kernel, tG_at 505 rfl rfl, tG_at 54 (by decide +kernel) rfl, Or.inr (Or.inl rfl), by decide, Or.inr ⟨by decide, rfl, tG_at 503 (by decide +kernel) rfl, Or.inr (tG_at 504 (by decide +kernel) rfl)⟩⟩
set_option maxRecDepth 20000 in
theorem mo_131 : mOK m_131 := ⟨by decide +kernel, ⟨by decide +kernel, by decide +kernel⟩, by decide +kernel, tG_at 509 rfl rfl, tG_at 55 (by decide +kernel) rfl, Or.inr (Or.inl rfl), by decide, Or.inr ⟨by decide, rfl, tG_at 507 (by decide +kernel) rfl, Or.inr (tG_at 508 (by decide +kernel) rfl)⟩⟩
set_option maxRecDepth 20000 in
theorem mo_132 : mOK m_132 := ⟨by decide +kernel, ⟨by decide +kernel, by decide +kernel⟩, by decide +kernel, tG_at 513 rfl rfl, tG_at 55 (by decide +kernel) rfl, Or.inr (Or.inl rfl), by decide, Or.inr ⟨by decide, rfl, tG_at 511 (by decide +kernel) rfl, Or.inr (tG_at 512 (by decide +kernel) rfl)⟩⟩
set_option maxRecDepth 20000 in
theorem mo_133 : mOK m_133 := ⟨by decide +kernel, ⟨by decide +kernel, by decide +kernel⟩, by decide +kernel, tG_at 518 rfl rfl, tG_at 55 (by decide +kernel) rfl, Or.inr (Or.inl rfl), by decide, Or.inr ⟨by decide, rfl, tG_at 516 (by decide +kernel) rfl, Or.inr (tG_at 517 (by decide +kernel) rfl)⟩⟩
set_option maxRecDepth 20000 in
theorem mo_134 : mOK m_134 := ⟨by decide +kernel, ⟨by decide +kernel, by decide +kernel⟩, by decide +kernel, tG_at 501 rfl rfl, tG_at 53 (by decide +kernel) rfl, Or.inr (Or.inl rfl), by decide, Or.inr ⟨by decide, rfl, tG_at 499 (by decide +kernel) rfl, Or.inr (tG_at 500 (by decide +kernel) rfl)⟩⟩
set_option maxRecDepth 20000 in
theorem mo_135 : mOK m_135 := ⟨by decide +kernel, ⟨by decide +kernel, by decide +kernel⟩, by decide +kernel, tG_at 796 rfl rfl, tG_at 59 (by decide +kernel) rfl, Or.inr (Or.inl rfl), by decide, Or.inr ⟨by decide, rfl, tG_at 795 (by decide +kernel) rfl, Or.inr (tG_at 47 (by decide +kernel) rfl)⟩⟩
set_option maxRecDepth 20000 in
theorem mo_136 : mOK m_136 := ⟨by decide +kernel, ⟨by decide +kernel, by decide +kernel⟩, by decide +kernel, tG_at 800 rfl rfl, tG_at 59 (by decide +kernel) rfl, Or.inr (Or.inl rfl), by decide, Or.inr ⟨by decide, rfl, tG_at 799 (by decide +kernel) rfl, Or.inr (tG_at 48 (by decide +kernel) rfl)⟩⟩
set_option maxRecDepth 20000 in
theorem mo_137 : mOK m_137 := ⟨by decide +kernel, ⟨by decide +kernel, by decide +kernel⟩, by decide +kernel, tG_at 804 rfl rfl, tG_at 59 (by decide +kernel) rfl, Or.inr (Or.inl rfl), by decide, Or.inr ⟨by decide, rfl, tG_at 803 (by decide +kernel) rfl, Or.inr (tG_at 49 (by decide +kernel) rfl)⟩⟩
set_option maxRecDepth 20000 in
theorem mo_138 : mOK m_138 := ⟨by decide +kernel, ⟨by decide +kernel, by decide +kernel⟩, by decide +kernel, tG_at 808 rfl rfl, tG_at 59 (by decide +kernel) rfl, Or.inr (Or.inl rfl), by decide, Or.inr ⟨by decide, rfl, tG_at 807 (by decide +kernel) rfl, Or.inr (tG_at 50 (by decide +kernel) rfl)⟩⟩
set_option maxRecDepth 20000 in
theorem mo_139 : mOK m_139 := ⟨by decide +kernel, ⟨by decide +kernel, by decide +kernel⟩, by decide +kernel, tG_at 812 rfl rfl, tG_at 59 (by decide +kernel) rfl, Or.inr (Or.inl rfl), by decide, Or.inr ⟨by decide, rfl, tG_at 811 (by decide +kernel) rfl, Or.inr (tG_at 51 (by decide +kernel) rfl)⟩⟩
set_option maxRecDepth 20000 in
theorem mo_140 : mOK m_140 := ⟨by decide +kernel, ⟨by decide +kernel, by decide +kernel⟩, by decide +kernel, tG_at 792 rfl rfl, tG_at 59 (by decide +kernel) rfl, Or.inr (Or.inl rfl), by decide, Or.inr ⟨by decide, rfl, tG_at 790 (by decide +kernel) rfl, Or.inr (tG_at 791 (by decide +kernel) rfl)⟩⟩
theorem m_ok : ∀ y, y < 141 → mOK (mI y) := by
  have h : ∀ r ∈ mT.take 141, mOK r := by
    show ∀ r ∈ [m_0, m_1, m_2, m_3, m_4, m_5, m_6, m_7, m_8, m_9, m_10, m_11, m_12, m_13, m_14, m_15, m_16, m_17, m_18, m_19, m_20, m_21, m_22, m_23, m_24, m_25, m_26, m_27, m_28, m_29, m_30, m_31, m_32, m_33, m_34, m_35, m_36, m_37, m_38, m_39, m_40, m_41, m_42, m_43, m_44, m_45, m_46, m_47, m_48, m_49, m_50, m_51, m_52, m_53, m_54, m_55, m_56, m_57, m_58, m_59, m_60, m_61, m_62, m_63, m_64, m_65, m_66, m_67, m_68, m_69, m_70, m_71, m_72, m_73, m_74, m_75, m_76, m_77, m_78, m_79, m_80, m_81, m_82, m_83, m_84, m_85, m_86, m_87, m_88, m_89, m_90, m_91, m_92, m_93, m_94, m_95, m_96, m_97, m_98, m_99, m_100, m_101, m_102, m_103, m_104, m_105, m_106, m_107, m_108, m_109, m_110, m_111, m_112, m_113, m_114, m_115, m_116, m_117, m_118, m_119, m_120, m_121, m_122, m_123, m_124, m_125, m_126, m_127, m_128, m_129, m_130, m_131, m_132, m_133, m_134, m_135, m_136, m_137, m_138, m_139, m_140], mOK r
    exact List.forall_mem_cons.mpr ⟨mo_0, List.forall_mem_cons.mpr ⟨mo_1, List.forall_mem_cons.mpr ⟨mo_2, List.forall_mem_cons.mpr ⟨mo_3, List.forall_mem_cons.mpr ⟨mo_4, List.forall_mem_cons.mpr ⟨mo_5, List.forall_mem_cons.mpr ⟨mo_6, List.forall_mem_cons.mpr ⟨mo_7, List.forall_mem_cons.mpr ⟨mo_8, List.forall_mem_cons.mpr ⟨mo_9, List.forall_mem_cons.mpr ⟨mo_10, List.forall_mem_cons.mpr ⟨mo_11, List.forall_mem_cons.mpr ⟨mo_12, List.forall_mem_cons.mpr ⟨mo_13, List.forall_mem_cons.mpr ⟨mo_14, List.forall_mem_cons.mpr ⟨mo_15, List.forall_mem_cons.mpr ⟨mo_16, List.forall_mem_cons.mpr ⟨mo_17, List.forall_mem_cons.mpr ⟨mo_18, List.forall_mem_cons.mpr ⟨mo_19, List.forall_mem_cons.mpr ⟨mo_20, List.forall_mem_cons.mpr ⟨mo_21, List.forall_mem_cons.mpr ⟨mo_22, List.forall_mem_cons.mpr ⟨mo_23, List.forall_mem_cons.mpr ⟨mo_24, List.forall_mem_cons.mpr ⟨mo_25, List.forall_mem_cons.mpr ⟨mo_26, List.forall_mem_cons.mpr ⟨mo_27, List.forall_mem_cons.mpr ⟨mo_28, List.forall_mem_cons.mpr ⟨mo_29, List.forall_mem_cons.mpr ⟨mo_30, List.forall_mem_cons.mpr ⟨mo_31, List.forall_mem_cons.mpr ⟨mo_32, List.forall_mem_cons.mpr ⟨mo_33, List.forall_mem_cons.mpr ⟨mo_34, List.forall_mem_cons.mpr ⟨mo_35, List.forall_mem_cons.mpr ⟨mo_36, List.forall_mem_cons.mpr ⟨mo_37, List.forall_mem_cons.mpr ⟨mo_38, List.forall_mem_cons.mpr ⟨mo_39, List.forall_mem_cons.mpr ⟨mo_40, List.forall_mem_cons.mpr ⟨mo_41, List.forall_mem_cons.mpr ⟨mo_42, List.forall_mem_cons.mpr ⟨mo_43, List.forall_mem_cons.mpr ⟨mo_44, List.forall_mem_cons.mpr ⟨mo_45, List.forall_mem_cons.mpr ⟨mo_46, List.forall_mem_cons.mpr ⟨mo_47, List.forall_mem_cons.mpr ⟨mo_48, List.forall_mem_cons.mpr ⟨mo_49, List.forall_mem_cons.mpr ⟨mo_50, List.forall_mem_cons.mpr ⟨mo_51, List.forall_mem_cons.mpr ⟨mo_52, List.forall_mem_cons.mpr ⟨mo_53, List.forall_mem_cons.mpr ⟨mo_54, List.forall_mem_cons.mpr ⟨mo_55, List.forall_mem_cons.mpr ⟨mo_56, List.forall_mem_cons.mpr ⟨mo_57, List.forall_mem_cons.mpr ⟨mo_58, List.forall_mem_cons.mpr ⟨mo_59, List.forall_mem_cons.mpr ⟨mo_60, List.forall_mem_cons.mpr ⟨mo_61, List.forall_mem_cons.mpr ⟨mo_62, List.forall_mem_cons.mpr ⟨mo_63, List.forall_mem_cons.mpr ⟨mo_64, List.forall_mem_cons.mpr ⟨mo_65, List.forall_mem_cons.mpr ⟨mo_66, List.forall_mem_cons.mpr ⟨mo_67, List.forall_mem_cons.mpr ⟨mo_68, List.forall_mem_cons.mpr ⟨mo_69, List.forall_mem_cons.mpr ⟨mo_70, List.forall_mem_cons.mpr ⟨mo_71, List.forall_mem_cons.mpr ⟨mo_72, List.forall_mem_cons.mpr ⟨mo_73, List.forall_mem_cons.mpr ⟨mo_74, List.forall_mem_cons.mpr ⟨mo_75, List.forall_mem_cons.mpr ⟨mo_76, List.forall_mem_cons.mpr ⟨mo_77, List.forall_mem_cons.mpr ⟨mo_78, List.forall_mem_cons.mpr ⟨mo_79, List.forall_mem_cons.mpr ⟨mo_80, List.forall_mem_cons.mpr ⟨mo_81, List.forall_mem_cons.mpr ⟨mo_82, List.forall_mem_cons.mpr ⟨mo_83, List.forall_mem_cons.mpr ⟨mo_84, List.forall_mem_cons.mpr ⟨mo_85, List.forall_mem_cons.mpr ⟨mo_86, List.forall_mem_cons.mpr ⟨mo_87, List.forall_mem_cons.mpr ⟨mo_88, List.forall_mem_cons.mpr ⟨mo_89, List.forall_mem_cons.mpr ⟨mo_90, List.forall_mem_cons.mpr ⟨mo_91, List.forall_mem_cons.mpr ⟨mo_92, List.forall_mem_cons.mpr ⟨mo_93, List.forall_mem_cons.mpr ⟨mo_94, List.forall_mem_cons.mpr ⟨mo_95, List.forall_mem_cons.mpr ⟨mo_96, List.forall_mem_cons.mpr ⟨mo_97, List.forall_mem_cons.mpr ⟨mo_98, List.forall_mem_cons.mpr ⟨mo_99, List.forall_mem_cons.mpr ⟨mo_100, List.forall_mem_cons.mpr ⟨mo_101, List.forall_mem_cons.mpr ⟨mo_102, List.forall_mem_cons.mpr ⟨mo_103, List.forall_mem_cons.mpr ⟨mo_104, List.forall_mem_cons.mpr ⟨mo_105, List.forall_mem_cons.mpr ⟨mo_106, List.forall_mem_cons.mpr ⟨mo_107, List.forall_mem_cons.mpr ⟨mo_108, List.forall_mem_cons.mpr ⟨mo_109, List.forall_mem_cons.mpr ⟨mo_110, List.forall_mem_cons.mpr ⟨mo_111, List.forall_mem_cons.mpr ⟨mo_112, List.forall_mem_cons.mpr ⟨mo_113, List.forall_mem_cons.mpr ⟨mo_114, List.forall_mem_cons.mpr ⟨mo_115, List.forall_mem_cons.mpr ⟨mo_116, List.forall_mem_cons.mpr ⟨mo_117, List.forall_mem_cons.mpr ⟨mo_118, List.forall_mem_cons.mpr ⟨mo_119, List.forall_mem_cons.mpr ⟨mo_120, List.forall_mem_cons.mpr ⟨mo_121, List.forall_mem_cons.mpr ⟨mo_122, List.forall_mem_cons.mpr ⟨mo_123, List.forall_mem_cons.mpr ⟨mo_124, List.forall_mem_cons.mpr ⟨mo_125, List.forall_mem_cons.mpr ⟨mo_126, List.forall_mem_cons.mpr ⟨mo_127, List.forall_mem_cons.mpr ⟨mo_128, List.forall_mem_cons.mpr ⟨mo_129, List.forall_mem_cons.mpr ⟨mo_130, List.forall_mem_cons.mpr ⟨mo_131, List.forall_mem_cons.mpr ⟨mo_132, List.forall_mem_cons.mpr ⟨mo_133, List.forall_mem_cons.mpr ⟨mo_134, List.forall_mem_cons.mpr ⟨mo_135, List.forall_mem_cons.mpr ⟨mo_136, List.forall_mem_cons.mpr ⟨mo_137, List.forall_mem_cons.mpr ⟨mo_138, List.forall_mem_cons.mpr ⟨mo_139, List.forall_mem_cons.mpr ⟨mo_140, fun _ h => absurd h List.not_mem_nil⟩⟩⟩⟩⟩⟩⟩⟩⟩⟩⟩⟩⟩⟩⟩⟩⟩⟩⟩⟩⟩⟩⟩⟩⟩⟩⟩⟩⟩⟩⟩⟩⟩⟩⟩⟩⟩⟩⟩⟩⟩⟩⟩⟩⟩⟩⟩⟩⟩⟩⟩⟩⟩⟩⟩⟩⟩⟩⟩⟩⟩⟩⟩⟩⟩⟩⟩⟩⟩⟩⟩⟩⟩⟩⟩⟩⟩⟩⟩⟩⟩⟩⟩⟩⟩⟩⟩⟩⟩⟩⟩⟩⟩⟩⟩⟩⟩⟩⟩⟩⟩⟩⟩⟩⟩⟩⟩⟩⟩⟩⟩⟩⟩⟩⟩⟩⟩⟩⟩⟩⟩⟩⟩⟩⟩⟩⟩⟩⟩⟩⟩⟩⟩⟩⟩⟩⟩⟩⟩⟩⟩
  intro y hy
  have h1 : y < (mT.take 141).length := hy
  have h2 : mI y = (mT.take 141)[y] := by
    have h3 : mT[y]? = some (mT.take 141)[y] := by
      rw [← List.getElem?_eq_getElem h1, List.getElem?_take_of_lt hy]
    simp [mI, List.getD, h3]
  rw [h2]
  exact h _ (List.getElem_mem h1)
/-- how long an instruction is -/
def lenI (e : AE) : Nat := match e.1 with
  | .iload _ | .aload _ | .istore _ | .astore _ | .bipush _ | .newarray _ => 2
  | .sipush _ | .ldc_w _ | .iinc _ _ | .ifCond _ _ | .if_icmp _ _ | .goto _ | .getfield _ | .putfield _ | .invokevirtual _ | .invokespecial _ | .invokestatic _ | .new _ | .anewarray _ => 3
  | .tableswitch _ _ _ _ => e.2.1.1
  | _ => 1
def okRoom (y a : Nat) : Bool := decide (a < 141) && decide (mFr a + 1 ≤ mFr y) && decide (8 + (mML a + 11) + mLo a ≤ mLo y)
def okI (y pc : Nat) (e : AE) : Bool := match e.1 with
  | .iconst n => decide (Int32.ofInt n = e.2.2.2)
  | .bipush n => decide ((Int8.ofInt n).toInt32 = e.2.2.2)
  | .sipush n => decide ((Int16.ofInt n).toInt32 = e.2.2.2)
  | .ldc_w i => decide (lw_tbl[e.2.1.2.2.2]? = some (.constant (mNm y).cls i e.2.2.2))
  | .iinc _ n => decide (Int32.ofInt n = e.2.2.2)
  | .ifCond _ off => decide ((pc : Int) + off = (e.2.1.2.1 : Int))
  | .if_icmp _ off => decide ((pc : Int) + off = (e.2.1.2.1 : Int))
  | .goto off => decide ((pc : Int) + off = (e.2.1.2.1 : Int))
  | .tableswitch d lo hi offs => decide (e.2.2.1.length < 1000) && decide (lo = 0) && decide (hi + 1 = (e.2.2.1.length : Int)) && decide ((pc : Int) + d = (e.2.1.2.1 : Int)) && decide (offs.toList.map (fun o => (pc : Int) + o) = e.2.2.1.map (fun (t : Nat) => (t : Int)))
  | .getfield i => match cls[e.2.1.2.1]? with
    | some r => decide (e.2.1.2.2.1 < r.2.2) && decide (lw_tbl[e.2.1.2.2.2]? = some (.fieldLink (mNm y).cls i (r.2.1 e.2.1.2.2.1).1 (r.2.1 e.2.1.2.2.1).2.1 (r.2.1 e.2.1.2.2.1).2.2.1))
    | none => false
  | .putfield i => match cls[e.2.1.2.1]? with
    | some r => decide (e.2.1.2.2.1 < r.2.2) && decide (lw_tbl[e.2.1.2.2.2]? = some (.fieldLink (mNm y).cls i (r.2.1 e.2.1.2.2.1).1 (r.2.1 e.2.1.2.2.1).2.1 (r.2.1 e.2.1.2.2.1).2.2.1)) && ((r.2.1 e.2.1.2.2.1).2.2.2 == false || (decide ((mNm y).name = "<init>") && decide ((r.2.1 e.2.1.2.2.1).1 = (mNm y).cls)))
    | none => false
  | .new i => match cls[e.2.1.2.1]? with
    | some r => decide (lw_tbl[e.2.1.2.2.2]? = some (.classLink (mNm y).cls i r.1))
    | none => false
  | .anewarray i => decide (lw_tbl[e.2.1.2.2.2]? = some (.classLink (mNm y).cls i cN1))
  | .invokestatic i => okRoom y e.2.1.2.1 && decide (e.2.1.2.2.1 = mNa e.2.1.2.1) && decide (mRc e.2.1.2.1 = 99) && (match e.2.2.1 with
    | [0] => decide (lw_tbl[e.2.1.2.2.2]? = some (.methodLink (mNm y).cls i (mNm e.2.1.2.1)))
    | [1] => decide (lw_tbl[e.2.1.2.2.2]? = some (.methodLinkNest (mNm y).cls i (mNm e.2.1.2.1) cN4))
    | _ => false)
  | .invokevirtual i => okRoom y e.2.1.2.1 && decide (e.2.1.2.2.1 = mNa e.2.1.2.1) && decide (mRc e.2.1.2.1 < 99) && decide ((mNm e.2.1.2.1).name ≠ "<init>") && decide (e.2.2.1 = [2]) && decide (lw_tbl[e.2.1.2.2.2]? = some (.methodLink (mNm y).cls i (mNm e.2.1.2.1)))
  | .invokespecial i => match e.2.2.1 with
    | [3] => okRoom y e.2.1.2.1 && decide (e.2.1.2.2.1 = mNa e.2.1.2.1) && decide (mRc e.2.1.2.1 < 99) && decide (mRt e.2.1.2.1 = none) && decide ((mNm e.2.1.2.1).name = "<init>") && decide (lw_tbl[e.2.1.2.2.2]? = some (.methodLink (mNm y).cls i (mNm e.2.1.2.1)))
    | [4] => decide (1 ≤ mFr y) && decide (20 ≤ mLo y) && decide (lw_tbl[e.2.1.2.2.2]? = some (.methodLink (mNm y).cls i objectInit))
    | _ => false
  | _ => true
def okB (y pc : Nat) (e : AE) : Bool := decide (decode (mBy y) pc = .ok (e.1, lenI e)) && okI y pc e
def okM (y a n : Nat) : Bool := (List.range n).all fun j => match (pg y)[a + j]? with
  | some (some e) => okB y (a + j) e
  | _ => true
theorem ok_0_0 : okM 0 0 26 = true := by decide +kernel
theorem ok_1_0 : okM 1 0 66 = true := by decide +kernel
theorem ok_2_0 : okM 2 0 39 = true := by decide +kernel
theorem ok_3_0 : okM 3 0 37 = true := by decide +kernel
theorem ok_4_0 : okM 4 0 27 = true := by decide +kernel
theorem ok_5_0 : okM 5 0 4 = true := by decide +kernel
theorem ok_6_0 : okM 6 0 14 = true := by decide +kernel
theorem ok_7_0 : okM 7 0 39 = true := by decide +kernel
theorem ok_8_0 : okM 8 0 9 = true := by decide +kernel
theorem ok_9_0 : okM 9 0 24 = true := by decide +kernel
theorem ok_10_0 : okM 10 0 34 = true := by decide +kernel
theorem ok_11_0 : okM 11 0 98 = true := by decide +kernel
theorem ok_12_0 : okM 12 0 20 = true := by decide +kernel
theorem ok_13_0 : okM 13 0 85 = true := by decide +kernel
theorem ok_14_0 : okM 14 0 16 = true := by decide +kernel
theorem ok_15_0 : okM 15 0 76 = true := by decide +kernel
theorem ok_16_0 : okM 16 0 100 = true := by decide +kernel
theorem ok_16_100 : okM 16 100 15 = true := by decide +kernel
theorem ok_17_0 : okM 17 0 75 = true := by decide +kernel
theorem ok_18_0 : okM 18 0 100 = true := by decide +kernel
theorem ok_18_100 : okM 18 100 18 = true := by decide +kernel
theorem ok_19_0 : okM 19 0 94 = true := by decide +kernel
theorem ok_20_0 : okM 20 0 17 = true := by decide +kernel
theorem ok_21_0 : okM 21 0 36 = true := by decide +kernel
theorem ok_22_0 : okM 22 0 21 = true := by decide +kernel
theorem ok_23_0 : okM 23 0 53 = true := by decide +kernel
theorem ok_24_0 : okM 24 0 74 = true := by decide +kernel
theorem ok_25_0 : okM 25 0 16 = true := by decide +kernel
theorem ok_26_0 : okM 26 0 8 = true := by decide +kernel
theorem ok_27_0 : okM 27 0 9 = true := by decide +kernel
theorem ok_28_0 : okM 28 0 18 = true := by decide +kernel
theorem ok_29_0 : okM 29 0 49 = true := by decide +kernel
theorem ok_30_0 : okM 30 0 29 = true := by decide +kernel
theorem ok_31_0 : okM 31 0 65 = true := by decide +kernel
theorem ok_32_0 : okM 32 0 16 = true := by decide +kernel
theorem ok_33_0 : okM 33 0 50 = true := by decide +kernel
theorem ok_34_0 : okM 34 0 51 = true := by decide +kernel
theorem ok_35_0 : okM 35 0 64 = true := by decide +kernel
theorem ok_36_0 : okM 36 0 32 = true := by decide +kernel
theorem ok_37_0 : okM 37 0 67 = true := by decide +kernel
theorem ok_38_0 : okM 38 0 24 = true := by decide +kernel
theorem ok_39_0 : okM 39 0 30 = true := by decide +kernel
theorem ok_40_0 : okM 40 0 49 = true := by decide +kernel
theorem ok_41_0 : okM 41 0 12 = true := by decide +kernel
theorem ok_42_0 : okM 42 0 17 = true := by decide +kernel
theorem ok_43_0 : okM 43 0 30 = true := by decide +kernel
theorem ok_44_0 : okM 44 0 54 = true := by decide +kernel
theorem ok_45_0 : okM 45 0 100 = true := by decide +kernel
theorem ok_45_100 : okM 45 100 46 = true := by decide +kernel
theorem ok_46_0 : okM 46 0 25 = true := by decide +kernel
theorem ok_47_0 : okM 47 0 31 = true := by decide +kernel
theorem ok_48_0 : okM 48 0 100 = true := by decide +kernel
theorem ok_48_100 : okM 48 100 13 = true := by decide +kernel
theorem ok_49_0 : okM 49 0 64 = true := by decide +kernel
theorem ok_50_0 : okM 50 0 23 = true := by decide +kernel
theorem ok_51_0 : okM 51 0 28 = true := by decide +kernel
theorem ok_52_0 : okM 52 0 58 = true := by decide +kernel
theorem ok_53_0 : okM 53 0 65 = true := by decide +kernel
theorem ok_54_0 : okM 54 0 89 = true := by decide +kernel
theorem ok_55_0 : okM 55 0 62 = true := by decide +kernel
theorem ok_56_0 : okM 56 0 37 = true := by decide +kernel
theorem ok_57_0 : okM 57 0 35 = true := by decide +kernel
theorem ok_58_0 : okM 58 0 35 = true := by decide +kernel
theorem ok_59_0 : okM 59 0 48 = true := by decide +kernel
theorem ok_60_0 : okM 60 0 35 = true := by decide +kernel
theorem ok_61_0 : okM 61 0 46 = true := by decide +kernel
theorem ok_62_0 : okM 62 0 26 = true := by decide +kernel
theorem ok_63_0 : okM 63 0 100 = true := by decide +kernel
theorem ok_63_100 : okM 63 100 32 = true := by decide +kernel
theorem ok_64_0 : okM 64 0 15 = true := by decide +kernel
theorem ok_65_0 : okM 65 0 31 = true := by decide +kernel
theorem ok_66_0 : okM 66 0 72 = true := by decide +kernel
theorem ok_67_0 : okM 67 0 85 = true := by decide +kernel
theorem ok_68_0 : okM 68 0 62 = true := by decide +kernel
theorem ok_69_0 : okM 69 0 58 = true := by decide +kernel
theorem ok_70_0 : okM 70 0 37 = true := by decide +kernel
theorem ok_71_0 : okM 71 0 11 = true := by decide +kernel
theorem ok_72_0 : okM 72 0 11 = true := by decide +kernel
theorem ok_73_0 : okM 73 0 23 = true := by decide +kernel
theorem ok_74_0 : okM 74 0 67 = true := by decide +kernel
theorem ok_75_0 : okM 75 0 25 = true := by decide +kernel
theorem ok_76_0 : okM 76 0 11 = true := by decide +kernel
theorem ok_77_0 : okM 77 0 25 = true := by decide +kernel
theorem ok_78_0 : okM 78 0 77 = true := by decide +kernel
theorem ok_79_0 : okM 79 0 49 = true := by decide +kernel
theorem ok_80_0 : okM 80 0 45 = true := by decide +kernel
theorem ok_81_0 : okM 81 0 40 = true := by decide +kernel
theorem ok_82_0 : okM 82 0 100 = true := by decide +kernel
theorem ok_82_100 : okM 82 100 11 = true := by decide +kernel
theorem ok_83_0 : okM 83 0 77 = true := by decide +kernel
theorem ok_84_0 : okM 84 0 54 = true := by decide +kernel
theorem ok_85_0 : okM 85 0 7 = true := by decide +kernel
theorem ok_86_0 : okM 86 0 24 = true := by decide +kernel
theorem ok_87_0 : okM 87 0 66 = true := by decide +kernel
theorem ok_88_0 : okM 88 0 55 = true := by decide +kernel
theorem ok_89_0 : okM 89 0 97 = true := by decide +kernel
theorem ok_90_0 : okM 90 0 84 = true := by decide +kernel
theorem ok_91_0 : okM 91 0 79 = true := by decide +kernel
theorem ok_92_0 : okM 92 0 11 = true := by decide +kernel
theorem ok_93_0 : okM 93 0 47 = true := by decide +kernel
theorem ok_94_0 : okM 94 0 30 = true := by decide +kernel
theorem ok_95_0 : okM 95 0 34 = true := by decide +kernel
theorem ok_96_0 : okM 96 0 45 = true := by decide +kernel
theorem ok_97_0 : okM 97 0 11 = true := by decide +kernel
theorem ok_98_0 : okM 98 0 55 = true := by decide +kernel
theorem ok_99_0 : okM 99 0 89 = true := by decide +kernel
theorem ok_100_0 : okM 100 0 78 = true := by decide +kernel
theorem ok_101_0 : okM 101 0 40 = true := by decide +kernel
theorem ok_102_0 : okM 102 0 80 = true := by decide +kernel
theorem ok_103_0 : okM 103 0 75 = true := by decide +kernel
theorem ok_104_0 : okM 104 0 100 = true := by decide +kernel
theorem ok_104_100 : okM 104 100 20 = true := by decide +kernel
theorem ok_105_0 : okM 105 0 58 = true := by decide +kernel
theorem ok_106_0 : okM 106 0 100 = true := by decide +kernel
theorem ok_106_100 : okM 106 100 44 = true := by decide +kernel
theorem ok_107_0 : okM 107 0 10 = true := by decide +kernel
theorem ok_108_0 : okM 108 0 70 = true := by decide +kernel
theorem ok_109_0 : okM 109 0 49 = true := by decide +kernel
theorem ok_110_0 : okM 110 0 92 = true := by decide +kernel
theorem ok_111_0 : okM 111 0 82 = true := by decide +kernel
theorem ok_112_0 : okM 112 0 63 = true := by decide +kernel
theorem ok_113_0 : okM 113 0 61 = true := by decide +kernel
theorem ok_114_0 : okM 114 0 41 = true := by decide +kernel
theorem ok_115_0 : okM 115 0 60 = true := by decide +kernel
theorem ok_116_0 : okM 116 0 15 = true := by decide +kernel
theorem ok_117_0 : okM 117 0 28 = true := by decide +kernel
theorem ok_118_0 : okM 118 0 54 = true := by decide +kernel
theorem ok_119_0 : okM 119 0 41 = true := by decide +kernel
theorem ok_120_0 : okM 120 0 28 = true := by decide +kernel
theorem ok_121_0 : okM 121 0 32 = true := by decide +kernel
theorem ok_122_0 : okM 122 0 32 = true := by decide +kernel
theorem ok_123_0 : okM 123 0 76 = true := by decide +kernel
theorem ok_124_0 : okM 124 0 100 = true := by decide +kernel
theorem ok_124_100 : okM 124 100 41 = true := by decide +kernel
theorem ok_125_0 : okM 125 0 47 = true := by decide +kernel
theorem ok_126_0 : okM 126 0 50 = true := by decide +kernel
theorem ok_127_0 : okM 127 0 26 = true := by decide +kernel
theorem ok_128_0 : okM 128 0 37 = true := by decide +kernel
theorem ok_129_0 : okM 129 0 31 = true := by decide +kernel
theorem ok_130_0 : okM 130 0 31 = true := by decide +kernel
theorem ok_131_0 : okM 131 0 48 = true := by decide +kernel
theorem ok_132_0 : okM 132 0 29 = true := by decide +kernel
theorem ok_133_0 : okM 133 0 27 = true := by decide +kernel
theorem ok_134_0 : okM 134 0 100 = true := by decide +kernel
theorem ok_134_100 : okM 134 100 15 = true := by decide +kernel
theorem ok_135_0 : okM 135 0 51 = true := by decide +kernel
theorem ok_136_0 : okM 136 0 48 = true := by decide +kernel
theorem ok_137_0 : okM 137 0 35 = true := by decide +kernel
theorem ok_138_0 : okM 138 0 27 = true := by decide +kernel
theorem ok_139_0 : okM 139 0 36 = true := by decide +kernel
theorem ok_140_0 : okM 140 0 100 = true := by decide +kernel
theorem ok_140_100 : okM 140 100 20 = true := by decide +kernel
theorem ok_141_0 : okM 141 0 100 = true := by decide +kernel
theorem ok_141_100 : okM 141 100 100 = true := by decide +kernel
theorem ok_141_200 : okM 141 200 100 = true := by decide +kernel
theorem ok_141_300 : okM 141 300 100 = true := by decide +kernel
theorem ok_141_400 : okM 141 400 100 = true := by decide +kernel
theorem ok_141_500 : okM 141 500 88 = true := by decide +kernel
theorem ar_int : Cond.arrayClass .int ∈ tG := tG_at 91 (by decide +kernel) rfl
theorem ar_boolean : Cond.arrayClass .boolean ∈ tG := tG_at 571 (by decide +kernel) rfl
theorem oi_inst : Cond.instanceMethod objectInit ∈ tG := tG_at 67 (by decide +kernel) rfl
set_option maxRecDepth 20000 in
theorem oi_code : Cond.code objectInit ⟨#[0xb1]⟩ 1 none ∈ tG := tG_at 68 rfl rfl
theorem okM_use {y a n pc : Nat} {e : AE} (h : okM y a n = true) (h1 : a ≤ pc) (h2 : pc < a + n) (he : (pg y)[pc]? = some (some e)) : okB y pc e = true := by
  have h3 := List.all_eq_true.mp h (pc - a) (List.mem_range.mpr (by omega))
  rw [show a + (pc - a) = pc by omega] at h3
  rw [he] at h3
  exact h3
theorem pg_lt {y pc n : Nat} {e : AE} (he : (pg y)[pc]? = some (some e)) (hn : (pg y).length = n) : pc < n := by
  rw [← hn]
  exact (List.getElem?_eq_some_iff.mp he).1
theorem okq_0 {pc : Nat} {e : AE} (h : (pg 0)[pc]? = some (some e)) : okB 0 pc e = true := by
  have hl : pc < 26 := pg_lt h (by decide +kernel)
  exact okM_use ok_0_0 (by omega) (by omega) h
theorem okq_1 {pc : Nat} {e : AE} (h : (pg 1)[pc]? = some (some e)) : okB 1 pc e = true := by
  have hl : pc < 66 := pg_lt h (by decide +kernel)
  exact okM_use ok_1_0 (by omega) (by omega) h
theorem okq_2 {pc : Nat} {e : AE} (h : (pg 2)[pc]? = some (some e)) : okB 2 pc e = true := by
  have hl : pc < 39 := pg_lt h (by decide +kernel)
  exact okM_use ok_2_0 (by omega) (by omega) h
theorem okq_3 {pc : Nat} {e : AE} (h : (pg 3)[pc]? = some (some e)) : okB 3 pc e = true := by
  have hl : pc < 37 := pg_lt h (by decide +kernel)
  exact okM_use ok_3_0 (by omega) (by omega) h
theorem okq_4 {pc : Nat} {e : AE} (h : (pg 4)[pc]? = some (some e)) : okB 4 pc e = true := by
  have hl : pc < 27 := pg_lt h (by decide +kernel)
  exact okM_use ok_4_0 (by omega) (by omega) h
theorem okq_5 {pc : Nat} {e : AE} (h : (pg 5)[pc]? = some (some e)) : okB 5 pc e = true := by
  have hl : pc < 4 := pg_lt h (by decide +kernel)
  exact okM_use ok_5_0 (by omega) (by omega) h
theorem okq_6 {pc : Nat} {e : AE} (h : (pg 6)[pc]? = some (some e)) : okB 6 pc e = true := by
  have hl : pc < 14 := pg_lt h (by decide +kernel)
  exact okM_use ok_6_0 (by omega) (by omega) h
theorem okq_7 {pc : Nat} {e : AE} (h : (pg 7)[pc]? = some (some e)) : okB 7 pc e = true := by
  have hl : pc < 39 := pg_lt h (by decide +kernel)
  exact okM_use ok_7_0 (by omega) (by omega) h
theorem okq_8 {pc : Nat} {e : AE} (h : (pg 8)[pc]? = some (some e)) : okB 8 pc e = true := by
  have hl : pc < 9 := pg_lt h (by decide +kernel)
  exact okM_use ok_8_0 (by omega) (by omega) h
theorem okq_9 {pc : Nat} {e : AE} (h : (pg 9)[pc]? = some (some e)) : okB 9 pc e = true := by
  have hl : pc < 24 := pg_lt h (by decide +kernel)
  exact okM_use ok_9_0 (by omega) (by omega) h
theorem okq_10 {pc : Nat} {e : AE} (h : (pg 10)[pc]? = some (some e)) : okB 10 pc e = true := by
  have hl : pc < 34 := pg_lt h (by decide +kernel)
  exact okM_use ok_10_0 (by omega) (by omega) h
theorem okq_11 {pc : Nat} {e : AE} (h : (pg 11)[pc]? = some (some e)) : okB 11 pc e = true := by
  have hl : pc < 98 := pg_lt h (by decide +kernel)
  exact okM_use ok_11_0 (by omega) (by omega) h
theorem okq_12 {pc : Nat} {e : AE} (h : (pg 12)[pc]? = some (some e)) : okB 12 pc e = true := by
  have hl : pc < 20 := pg_lt h (by decide +kernel)
  exact okM_use ok_12_0 (by omega) (by omega) h
theorem okq_13 {pc : Nat} {e : AE} (h : (pg 13)[pc]? = some (some e)) : okB 13 pc e = true := by
  have hl : pc < 85 := pg_lt h (by decide +kernel)
  exact okM_use ok_13_0 (by omega) (by omega) h
theorem okq_14 {pc : Nat} {e : AE} (h : (pg 14)[pc]? = some (some e)) : okB 14 pc e = true := by
  have hl : pc < 16 := pg_lt h (by decide +kernel)
  exact okM_use ok_14_0 (by omega) (by omega) h
theorem okq_15 {pc : Nat} {e : AE} (h : (pg 15)[pc]? = some (some e)) : okB 15 pc e = true := by
  have hl : pc < 76 := pg_lt h (by decide +kernel)
  exact okM_use ok_15_0 (by omega) (by omega) h
theorem okq_16 {pc : Nat} {e : AE} (h : (pg 16)[pc]? = some (some e)) : okB 16 pc e = true := by
  have hl : pc < 115 := pg_lt h (by decide +kernel)
  by_cases c0 : pc < 100
  · exact okM_use ok_16_0 (by omega) (by omega) h
  exact okM_use ok_16_100 (by omega) (by omega) h
theorem okq_17 {pc : Nat} {e : AE} (h : (pg 17)[pc]? = some (some e)) : okB 17 pc e = true := by
  have hl : pc < 75 := pg_lt h (by decide +kernel)
  exact okM_use ok_17_0 (by omega) (by omega) h
theorem okq_18 {pc : Nat} {e : AE} (h : (pg 18)[pc]? = some (some e)) : okB 18 pc e = true := by
  have hl : pc < 118 := pg_lt h (by decide +kernel)
  by_cases c0 : pc < 100
  · exact okM_use ok_18_0 (by omega) (by omega) h
  exact okM_use ok_18_100 (by omega) (by omega) h
theorem okq_19 {pc : Nat} {e : AE} (h : (pg 19)[pc]? = some (some e)) : okB 19 pc e = true := by
  have hl : pc < 94 := pg_lt h (by decide +kernel)
  exact okM_use ok_19_0 (by omega) (by omega) h
theorem okq_20 {pc : Nat} {e : AE} (h : (pg 20)[pc]? = some (some e)) : okB 20 pc e = true := by
  have hl : pc < 17 := pg_lt h (by decide +kernel)
  exact okM_use ok_20_0 (by omega) (by omega) h
theorem okq_21 {pc : Nat} {e : AE} (h : (pg 21)[pc]? = some (some e)) : okB 21 pc e = true := by
  have hl : pc < 36 := pg_lt h (by decide +kernel)
  exact okM_use ok_21_0 (by omega) (by omega) h
theorem okq_22 {pc : Nat} {e : AE} (h : (pg 22)[pc]? = some (some e)) : okB 22 pc e = true := by
  have hl : pc < 21 := pg_lt h (by decide +kernel)
  exact okM_use ok_22_0 (by omega) (by omega) h
theorem okq_23 {pc : Nat} {e : AE} (h : (pg 23)[pc]? = some (some e)) : okB 23 pc e = true := by
  have hl : pc < 53 := pg_lt h (by decide +kernel)
  exact okM_use ok_23_0 (by omega) (by omega) h
theorem okq_24 {pc : Nat} {e : AE} (h : (pg 24)[pc]? = some (some e)) : okB 24 pc e = true := by
  have hl : pc < 74 := pg_lt h (by decide +kernel)
  exact okM_use ok_24_0 (by omega) (by omega) h
theorem okq_25 {pc : Nat} {e : AE} (h : (pg 25)[pc]? = some (some e)) : okB 25 pc e = true := by
  have hl : pc < 16 := pg_lt h (by decide +kernel)
  exact okM_use ok_25_0 (by omega) (by omega) h
theorem okq_26 {pc : Nat} {e : AE} (h : (pg 26)[pc]? = some (some e)) : okB 26 pc e = true := by
  have hl : pc < 8 := pg_lt h (by decide +kernel)
  exact okM_use ok_26_0 (by omega) (by omega) h
theorem okq_27 {pc : Nat} {e : AE} (h : (pg 27)[pc]? = some (some e)) : okB 27 pc e = true := by
  have hl : pc < 9 := pg_lt h (by decide +kernel)
  exact okM_use ok_27_0 (by omega) (by omega) h
theorem okq_28 {pc : Nat} {e : AE} (h : (pg 28)[pc]? = some (some e)) : okB 28 pc e = true := by
  have hl : pc < 18 := pg_lt h (by decide +kernel)
  exact okM_use ok_28_0 (by omega) (by omega) h
theorem okq_29 {pc : Nat} {e : AE} (h : (pg 29)[pc]? = some (some e)) : okB 29 pc e = true := by
  have hl : pc < 49 := pg_lt h (by decide +kernel)
  exact okM_use ok_29_0 (by omega) (by omega) h
theorem okq_30 {pc : Nat} {e : AE} (h : (pg 30)[pc]? = some (some e)) : okB 30 pc e = true := by
  have hl : pc < 29 := pg_lt h (by decide +kernel)
  exact okM_use ok_30_0 (by omega) (by omega) h
theorem okq_31 {pc : Nat} {e : AE} (h : (pg 31)[pc]? = some (some e)) : okB 31 pc e = true := by
  have hl : pc < 65 := pg_lt h (by decide +kernel)
  exact okM_use ok_31_0 (by omega) (by omega) h
theorem okq_32 {pc : Nat} {e : AE} (h : (pg 32)[pc]? = some (some e)) : okB 32 pc e = true := by
  have hl : pc < 16 := pg_lt h (by decide +kernel)
  exact okM_use ok_32_0 (by omega) (by omega) h
theorem okq_33 {pc : Nat} {e : AE} (h : (pg 33)[pc]? = some (some e)) : okB 33 pc e = true := by
  have hl : pc < 50 := pg_lt h (by decide +kernel)
  exact okM_use ok_33_0 (by omega) (by omega) h
theorem okq_34 {pc : Nat} {e : AE} (h : (pg 34)[pc]? = some (some e)) : okB 34 pc e = true := by
  have hl : pc < 51 := pg_lt h (by decide +kernel)
  exact okM_use ok_34_0 (by omega) (by omega) h
theorem okq_35 {pc : Nat} {e : AE} (h : (pg 35)[pc]? = some (some e)) : okB 35 pc e = true := by
  have hl : pc < 64 := pg_lt h (by decide +kernel)
  exact okM_use ok_35_0 (by omega) (by omega) h
theorem okq_36 {pc : Nat} {e : AE} (h : (pg 36)[pc]? = some (some e)) : okB 36 pc e = true := by
  have hl : pc < 32 := pg_lt h (by decide +kernel)
  exact okM_use ok_36_0 (by omega) (by omega) h
theorem okq_37 {pc : Nat} {e : AE} (h : (pg 37)[pc]? = some (some e)) : okB 37 pc e = true := by
  have hl : pc < 67 := pg_lt h (by decide +kernel)
  exact okM_use ok_37_0 (by omega) (by omega) h
theorem okq_38 {pc : Nat} {e : AE} (h : (pg 38)[pc]? = some (some e)) : okB 38 pc e = true := by
  have hl : pc < 24 := pg_lt h (by decide +kernel)
  exact okM_use ok_38_0 (by omega) (by omega) h
theorem okq_39 {pc : Nat} {e : AE} (h : (pg 39)[pc]? = some (some e)) : okB 39 pc e = true := by
  have hl : pc < 30 := pg_lt h (by decide +kernel)
  exact okM_use ok_39_0 (by omega) (by omega) h
theorem okq_40 {pc : Nat} {e : AE} (h : (pg 40)[pc]? = some (some e)) : okB 40 pc e = true := by
  have hl : pc < 49 := pg_lt h (by decide +kernel)
  exact okM_use ok_40_0 (by omega) (by omega) h
theorem okq_41 {pc : Nat} {e : AE} (h : (pg 41)[pc]? = some (some e)) : okB 41 pc e = true := by
  have hl : pc < 12 := pg_lt h (by decide +kernel)
  exact okM_use ok_41_0 (by omega) (by omega) h
theorem okq_42 {pc : Nat} {e : AE} (h : (pg 42)[pc]? = some (some e)) : okB 42 pc e = true := by
  have hl : pc < 17 := pg_lt h (by decide +kernel)
  exact okM_use ok_42_0 (by omega) (by omega) h
theorem okq_43 {pc : Nat} {e : AE} (h : (pg 43)[pc]? = some (some e)) : okB 43 pc e = true := by
  have hl : pc < 30 := pg_lt h (by decide +kernel)
  exact okM_use ok_43_0 (by omega) (by omega) h
theorem okq_44 {pc : Nat} {e : AE} (h : (pg 44)[pc]? = some (some e)) : okB 44 pc e = true := by
  have hl : pc < 54 := pg_lt h (by decide +kernel)
  exact okM_use ok_44_0 (by omega) (by omega) h
theorem okq_45 {pc : Nat} {e : AE} (h : (pg 45)[pc]? = some (some e)) : okB 45 pc e = true := by
  have hl : pc < 146 := pg_lt h (by decide +kernel)
  by_cases c0 : pc < 100
  · exact okM_use ok_45_0 (by omega) (by omega) h
  exact okM_use ok_45_100 (by omega) (by omega) h
theorem okq_46 {pc : Nat} {e : AE} (h : (pg 46)[pc]? = some (some e)) : okB 46 pc e = true := by
  have hl : pc < 25 := pg_lt h (by decide +kernel)
  exact okM_use ok_46_0 (by omega) (by omega) h
theorem okq_47 {pc : Nat} {e : AE} (h : (pg 47)[pc]? = some (some e)) : okB 47 pc e = true := by
  have hl : pc < 31 := pg_lt h (by decide +kernel)
  exact okM_use ok_47_0 (by omega) (by omega) h
theorem okq_48 {pc : Nat} {e : AE} (h : (pg 48)[pc]? = some (some e)) : okB 48 pc e = true := by
  have hl : pc < 113 := pg_lt h (by decide +kernel)
  by_cases c0 : pc < 100
  · exact okM_use ok_48_0 (by omega) (by omega) h
  exact okM_use ok_48_100 (by omega) (by omega) h
theorem okq_49 {pc : Nat} {e : AE} (h : (pg 49)[pc]? = some (some e)) : okB 49 pc e = true := by
  have hl : pc < 64 := pg_lt h (by decide +kernel)
  exact okM_use ok_49_0 (by omega) (by omega) h
theorem okq_50 {pc : Nat} {e : AE} (h : (pg 50)[pc]? = some (some e)) : okB 50 pc e = true := by
  have hl : pc < 23 := pg_lt h (by decide +kernel)
  exact okM_use ok_50_0 (by omega) (by omega) h
theorem okq_51 {pc : Nat} {e : AE} (h : (pg 51)[pc]? = some (some e)) : okB 51 pc e = true := by
  have hl : pc < 28 := pg_lt h (by decide +kernel)
  exact okM_use ok_51_0 (by omega) (by omega) h
theorem okq_52 {pc : Nat} {e : AE} (h : (pg 52)[pc]? = some (some e)) : okB 52 pc e = true := by
  have hl : pc < 58 := pg_lt h (by decide +kernel)
  exact okM_use ok_52_0 (by omega) (by omega) h
theorem okq_53 {pc : Nat} {e : AE} (h : (pg 53)[pc]? = some (some e)) : okB 53 pc e = true := by
  have hl : pc < 65 := pg_lt h (by decide +kernel)
  exact okM_use ok_53_0 (by omega) (by omega) h
theorem okq_54 {pc : Nat} {e : AE} (h : (pg 54)[pc]? = some (some e)) : okB 54 pc e = true := by
  have hl : pc < 89 := pg_lt h (by decide +kernel)
  exact okM_use ok_54_0 (by omega) (by omega) h
theorem okq_55 {pc : Nat} {e : AE} (h : (pg 55)[pc]? = some (some e)) : okB 55 pc e = true := by
  have hl : pc < 62 := pg_lt h (by decide +kernel)
  exact okM_use ok_55_0 (by omega) (by omega) h
theorem okq_56 {pc : Nat} {e : AE} (h : (pg 56)[pc]? = some (some e)) : okB 56 pc e = true := by
  have hl : pc < 37 := pg_lt h (by decide +kernel)
  exact okM_use ok_56_0 (by omega) (by omega) h
theorem okq_57 {pc : Nat} {e : AE} (h : (pg 57)[pc]? = some (some e)) : okB 57 pc e = true := by
  have hl : pc < 35 := pg_lt h (by decide +kernel)
  exact okM_use ok_57_0 (by omega) (by omega) h
theorem okq_58 {pc : Nat} {e : AE} (h : (pg 58)[pc]? = some (some e)) : okB 58 pc e = true := by
  have hl : pc < 35 := pg_lt h (by decide +kernel)
  exact okM_use ok_58_0 (by omega) (by omega) h
theorem okq_59 {pc : Nat} {e : AE} (h : (pg 59)[pc]? = some (some e)) : okB 59 pc e = true := by
  have hl : pc < 48 := pg_lt h (by decide +kernel)
  exact okM_use ok_59_0 (by omega) (by omega) h
theorem okq_60 {pc : Nat} {e : AE} (h : (pg 60)[pc]? = some (some e)) : okB 60 pc e = true := by
  have hl : pc < 35 := pg_lt h (by decide +kernel)
  exact okM_use ok_60_0 (by omega) (by omega) h
theorem okq_61 {pc : Nat} {e : AE} (h : (pg 61)[pc]? = some (some e)) : okB 61 pc e = true := by
  have hl : pc < 46 := pg_lt h (by decide +kernel)
  exact okM_use ok_61_0 (by omega) (by omega) h
theorem okq_62 {pc : Nat} {e : AE} (h : (pg 62)[pc]? = some (some e)) : okB 62 pc e = true := by
  have hl : pc < 26 := pg_lt h (by decide +kernel)
  exact okM_use ok_62_0 (by omega) (by omega) h
theorem okq_63 {pc : Nat} {e : AE} (h : (pg 63)[pc]? = some (some e)) : okB 63 pc e = true := by
  have hl : pc < 132 := pg_lt h (by decide +kernel)
  by_cases c0 : pc < 100
  · exact okM_use ok_63_0 (by omega) (by omega) h
  exact okM_use ok_63_100 (by omega) (by omega) h
theorem okq_64 {pc : Nat} {e : AE} (h : (pg 64)[pc]? = some (some e)) : okB 64 pc e = true := by
  have hl : pc < 15 := pg_lt h (by decide +kernel)
  exact okM_use ok_64_0 (by omega) (by omega) h
theorem okq_65 {pc : Nat} {e : AE} (h : (pg 65)[pc]? = some (some e)) : okB 65 pc e = true := by
  have hl : pc < 31 := pg_lt h (by decide +kernel)
  exact okM_use ok_65_0 (by omega) (by omega) h
theorem okq_66 {pc : Nat} {e : AE} (h : (pg 66)[pc]? = some (some e)) : okB 66 pc e = true := by
  have hl : pc < 72 := pg_lt h (by decide +kernel)
  exact okM_use ok_66_0 (by omega) (by omega) h
theorem okq_67 {pc : Nat} {e : AE} (h : (pg 67)[pc]? = some (some e)) : okB 67 pc e = true := by
  have hl : pc < 85 := pg_lt h (by decide +kernel)
  exact okM_use ok_67_0 (by omega) (by omega) h
theorem okq_68 {pc : Nat} {e : AE} (h : (pg 68)[pc]? = some (some e)) : okB 68 pc e = true := by
  have hl : pc < 62 := pg_lt h (by decide +kernel)
  exact okM_use ok_68_0 (by omega) (by omega) h
theorem okq_69 {pc : Nat} {e : AE} (h : (pg 69)[pc]? = some (some e)) : okB 69 pc e = true := by
  have hl : pc < 58 := pg_lt h (by decide +kernel)
  exact okM_use ok_69_0 (by omega) (by omega) h
theorem okq_70 {pc : Nat} {e : AE} (h : (pg 70)[pc]? = some (some e)) : okB 70 pc e = true := by
  have hl : pc < 37 := pg_lt h (by decide +kernel)
  exact okM_use ok_70_0 (by omega) (by omega) h
theorem okq_71 {pc : Nat} {e : AE} (h : (pg 71)[pc]? = some (some e)) : okB 71 pc e = true := by
  have hl : pc < 11 := pg_lt h (by decide +kernel)
  exact okM_use ok_71_0 (by omega) (by omega) h
theorem okq_72 {pc : Nat} {e : AE} (h : (pg 72)[pc]? = some (some e)) : okB 72 pc e = true := by
  have hl : pc < 11 := pg_lt h (by decide +kernel)
  exact okM_use ok_72_0 (by omega) (by omega) h
theorem okq_73 {pc : Nat} {e : AE} (h : (pg 73)[pc]? = some (some e)) : okB 73 pc e = true := by
  have hl : pc < 23 := pg_lt h (by decide +kernel)
  exact okM_use ok_73_0 (by omega) (by omega) h
theorem okq_74 {pc : Nat} {e : AE} (h : (pg 74)[pc]? = some (some e)) : okB 74 pc e = true := by
  have hl : pc < 67 := pg_lt h (by decide +kernel)
  exact okM_use ok_74_0 (by omega) (by omega) h
theorem okq_75 {pc : Nat} {e : AE} (h : (pg 75)[pc]? = some (some e)) : okB 75 pc e = true := by
  have hl : pc < 25 := pg_lt h (by decide +kernel)
  exact okM_use ok_75_0 (by omega) (by omega) h
theorem okq_76 {pc : Nat} {e : AE} (h : (pg 76)[pc]? = some (some e)) : okB 76 pc e = true := by
  have hl : pc < 11 := pg_lt h (by decide +kernel)
  exact okM_use ok_76_0 (by omega) (by omega) h
theorem okq_77 {pc : Nat} {e : AE} (h : (pg 77)[pc]? = some (some e)) : okB 77 pc e = true := by
  have hl : pc < 25 := pg_lt h (by decide +kernel)
  exact okM_use ok_77_0 (by omega) (by omega) h
theorem okq_78 {pc : Nat} {e : AE} (h : (pg 78)[pc]? = some (some e)) : okB 78 pc e = true := by
  have hl : pc < 77 := pg_lt h (by decide +kernel)
  exact okM_use ok_78_0 (by omega) (by omega) h
theorem okq_79 {pc : Nat} {e : AE} (h : (pg 79)[pc]? = some (some e)) : okB 79 pc e = true := by
  have hl : pc < 49 := pg_lt h (by decide +kernel)
  exact okM_use ok_79_0 (by omega) (by omega) h
theorem okq_80 {pc : Nat} {e : AE} (h : (pg 80)[pc]? = some (some e)) : okB 80 pc e = true := by
  have hl : pc < 45 := pg_lt h (by decide +kernel)
  exact okM_use ok_80_0 (by omega) (by omega) h
theorem okq_81 {pc : Nat} {e : AE} (h : (pg 81)[pc]? = some (some e)) : okB 81 pc e = true := by
  have hl : pc < 40 := pg_lt h (by decide +kernel)
  exact okM_use ok_81_0 (by omega) (by omega) h
theorem okq_82 {pc : Nat} {e : AE} (h : (pg 82)[pc]? = some (some e)) : okB 82 pc e = true := by
  have hl : pc < 111 := pg_lt h (by decide +kernel)
  by_cases c0 : pc < 100
  · exact okM_use ok_82_0 (by omega) (by omega) h
  exact okM_use ok_82_100 (by omega) (by omega) h
theorem okq_83 {pc : Nat} {e : AE} (h : (pg 83)[pc]? = some (some e)) : okB 83 pc e = true := by
  have hl : pc < 77 := pg_lt h (by decide +kernel)
  exact okM_use ok_83_0 (by omega) (by omega) h
theorem okq_84 {pc : Nat} {e : AE} (h : (pg 84)[pc]? = some (some e)) : okB 84 pc e = true := by
  have hl : pc < 54 := pg_lt h (by decide +kernel)
  exact okM_use ok_84_0 (by omega) (by omega) h
theorem okq_85 {pc : Nat} {e : AE} (h : (pg 85)[pc]? = some (some e)) : okB 85 pc e = true := by
  have hl : pc < 7 := pg_lt h (by decide +kernel)
  exact okM_use ok_85_0 (by omega) (by omega) h
theorem okq_86 {pc : Nat} {e : AE} (h : (pg 86)[pc]? = some (some e)) : okB 86 pc e = true := by
  have hl : pc < 24 := pg_lt h (by decide +kernel)
  exact okM_use ok_86_0 (by omega) (by omega) h
theorem okq_87 {pc : Nat} {e : AE} (h : (pg 87)[pc]? = some (some e)) : okB 87 pc e = true := by
  have hl : pc < 66 := pg_lt h (by decide +kernel)
  exact okM_use ok_87_0 (by omega) (by omega) h
theorem okq_88 {pc : Nat} {e : AE} (h : (pg 88)[pc]? = some (some e)) : okB 88 pc e = true := by
  have hl : pc < 55 := pg_lt h (by decide +kernel)
  exact okM_use ok_88_0 (by omega) (by omega) h
theorem okq_89 {pc : Nat} {e : AE} (h : (pg 89)[pc]? = some (some e)) : okB 89 pc e = true := by
  have hl : pc < 97 := pg_lt h (by decide +kernel)
  exact okM_use ok_89_0 (by omega) (by omega) h
theorem okq_90 {pc : Nat} {e : AE} (h : (pg 90)[pc]? = some (some e)) : okB 90 pc e = true := by
  have hl : pc < 84 := pg_lt h (by decide +kernel)
  exact okM_use ok_90_0 (by omega) (by omega) h
theorem okq_91 {pc : Nat} {e : AE} (h : (pg 91)[pc]? = some (some e)) : okB 91 pc e = true := by
  have hl : pc < 79 := pg_lt h (by decide +kernel)
  exact okM_use ok_91_0 (by omega) (by omega) h
theorem okq_92 {pc : Nat} {e : AE} (h : (pg 92)[pc]? = some (some e)) : okB 92 pc e = true := by
  have hl : pc < 11 := pg_lt h (by decide +kernel)
  exact okM_use ok_92_0 (by omega) (by omega) h
theorem okq_93 {pc : Nat} {e : AE} (h : (pg 93)[pc]? = some (some e)) : okB 93 pc e = true := by
  have hl : pc < 47 := pg_lt h (by decide +kernel)
  exact okM_use ok_93_0 (by omega) (by omega) h
theorem okq_94 {pc : Nat} {e : AE} (h : (pg 94)[pc]? = some (some e)) : okB 94 pc e = true := by
  have hl : pc < 30 := pg_lt h (by decide +kernel)
  exact okM_use ok_94_0 (by omega) (by omega) h
theorem okq_95 {pc : Nat} {e : AE} (h : (pg 95)[pc]? = some (some e)) : okB 95 pc e = true := by
  have hl : pc < 34 := pg_lt h (by decide +kernel)
  exact okM_use ok_95_0 (by omega) (by omega) h
theorem okq_96 {pc : Nat} {e : AE} (h : (pg 96)[pc]? = some (some e)) : okB 96 pc e = true := by
  have hl : pc < 45 := pg_lt h (by decide +kernel)
  exact okM_use ok_96_0 (by omega) (by omega) h
theorem okq_97 {pc : Nat} {e : AE} (h : (pg 97)[pc]? = some (some e)) : okB 97 pc e = true := by
  have hl : pc < 11 := pg_lt h (by decide +kernel)
  exact okM_use ok_97_0 (by omega) (by omega) h
theorem okq_98 {pc : Nat} {e : AE} (h : (pg 98)[pc]? = some (some e)) : okB 98 pc e = true := by
  have hl : pc < 55 := pg_lt h (by decide +kernel)
  exact okM_use ok_98_0 (by omega) (by omega) h
theorem okq_99 {pc : Nat} {e : AE} (h : (pg 99)[pc]? = some (some e)) : okB 99 pc e = true := by
  have hl : pc < 89 := pg_lt h (by decide +kernel)
  exact okM_use ok_99_0 (by omega) (by omega) h
theorem okq_100 {pc : Nat} {e : AE} (h : (pg 100)[pc]? = some (some e)) : okB 100 pc e = true := by
  have hl : pc < 78 := pg_lt h (by decide +kernel)
  exact okM_use ok_100_0 (by omega) (by omega) h
theorem okq_101 {pc : Nat} {e : AE} (h : (pg 101)[pc]? = some (some e)) : okB 101 pc e = true := by
  have hl : pc < 40 := pg_lt h (by decide +kernel)
  exact okM_use ok_101_0 (by omega) (by omega) h
theorem okq_102 {pc : Nat} {e : AE} (h : (pg 102)[pc]? = some (some e)) : okB 102 pc e = true := by
  have hl : pc < 80 := pg_lt h (by decide +kernel)
  exact okM_use ok_102_0 (by omega) (by omega) h
theorem okq_103 {pc : Nat} {e : AE} (h : (pg 103)[pc]? = some (some e)) : okB 103 pc e = true := by
  have hl : pc < 75 := pg_lt h (by decide +kernel)
  exact okM_use ok_103_0 (by omega) (by omega) h
theorem okq_104 {pc : Nat} {e : AE} (h : (pg 104)[pc]? = some (some e)) : okB 104 pc e = true := by
  have hl : pc < 120 := pg_lt h (by decide +kernel)
  by_cases c0 : pc < 100
  · exact okM_use ok_104_0 (by omega) (by omega) h
  exact okM_use ok_104_100 (by omega) (by omega) h
theorem okq_105 {pc : Nat} {e : AE} (h : (pg 105)[pc]? = some (some e)) : okB 105 pc e = true := by
  have hl : pc < 58 := pg_lt h (by decide +kernel)
  exact okM_use ok_105_0 (by omega) (by omega) h
theorem okq_106 {pc : Nat} {e : AE} (h : (pg 106)[pc]? = some (some e)) : okB 106 pc e = true := by
  have hl : pc < 144 := pg_lt h (by decide +kernel)
  by_cases c0 : pc < 100
  · exact okM_use ok_106_0 (by omega) (by omega) h
  exact okM_use ok_106_100 (by omega) (by omega) h
theorem okq_107 {pc : Nat} {e : AE} (h : (pg 107)[pc]? = some (some e)) : okB 107 pc e = true := by
  have hl : pc < 10 := pg_lt h (by decide +kernel)
  exact okM_use ok_107_0 (by omega) (by omega) h
theorem okq_108 {pc : Nat} {e : AE} (h : (pg 108)[pc]? = some (some e)) : okB 108 pc e = true := by
  have hl : pc < 70 := pg_lt h (by decide +kernel)
  exact okM_use ok_108_0 (by omega) (by omega) h
theorem okq_109 {pc : Nat} {e : AE} (h : (pg 109)[pc]? = some (some e)) : okB 109 pc e = true := by
  have hl : pc < 49 := pg_lt h (by decide +kernel)
  exact okM_use ok_109_0 (by omega) (by omega) h
theorem okq_110 {pc : Nat} {e : AE} (h : (pg 110)[pc]? = some (some e)) : okB 110 pc e = true := by
  have hl : pc < 92 := pg_lt h (by decide +kernel)
  exact okM_use ok_110_0 (by omega) (by omega) h
theorem okq_111 {pc : Nat} {e : AE} (h : (pg 111)[pc]? = some (some e)) : okB 111 pc e = true := by
  have hl : pc < 82 := pg_lt h (by decide +kernel)
  exact okM_use ok_111_0 (by omega) (by omega) h
theorem okq_112 {pc : Nat} {e : AE} (h : (pg 112)[pc]? = some (some e)) : okB 112 pc e = true := by
  have hl : pc < 63 := pg_lt h (by decide +kernel)
  exact okM_use ok_112_0 (by omega) (by omega) h
theorem okq_113 {pc : Nat} {e : AE} (h : (pg 113)[pc]? = some (some e)) : okB 113 pc e = true := by
  have hl : pc < 61 := pg_lt h (by decide +kernel)
  exact okM_use ok_113_0 (by omega) (by omega) h
theorem okq_114 {pc : Nat} {e : AE} (h : (pg 114)[pc]? = some (some e)) : okB 114 pc e = true := by
  have hl : pc < 41 := pg_lt h (by decide +kernel)
  exact okM_use ok_114_0 (by omega) (by omega) h
theorem okq_115 {pc : Nat} {e : AE} (h : (pg 115)[pc]? = some (some e)) : okB 115 pc e = true := by
  have hl : pc < 60 := pg_lt h (by decide +kernel)
  exact okM_use ok_115_0 (by omega) (by omega) h
theorem okq_116 {pc : Nat} {e : AE} (h : (pg 116)[pc]? = some (some e)) : okB 116 pc e = true := by
  have hl : pc < 15 := pg_lt h (by decide +kernel)
  exact okM_use ok_116_0 (by omega) (by omega) h
theorem okq_117 {pc : Nat} {e : AE} (h : (pg 117)[pc]? = some (some e)) : okB 117 pc e = true := by
  have hl : pc < 28 := pg_lt h (by decide +kernel)
  exact okM_use ok_117_0 (by omega) (by omega) h
theorem okq_118 {pc : Nat} {e : AE} (h : (pg 118)[pc]? = some (some e)) : okB 118 pc e = true := by
  have hl : pc < 54 := pg_lt h (by decide +kernel)
  exact okM_use ok_118_0 (by omega) (by omega) h
theorem okq_119 {pc : Nat} {e : AE} (h : (pg 119)[pc]? = some (some e)) : okB 119 pc e = true := by
  have hl : pc < 41 := pg_lt h (by decide +kernel)
  exact okM_use ok_119_0 (by omega) (by omega) h
theorem okq_120 {pc : Nat} {e : AE} (h : (pg 120)[pc]? = some (some e)) : okB 120 pc e = true := by
  have hl : pc < 28 := pg_lt h (by decide +kernel)
  exact okM_use ok_120_0 (by omega) (by omega) h
theorem okq_121 {pc : Nat} {e : AE} (h : (pg 121)[pc]? = some (some e)) : okB 121 pc e = true := by
  have hl : pc < 32 := pg_lt h (by decide +kernel)
  exact okM_use ok_121_0 (by omega) (by omega) h
theorem okq_122 {pc : Nat} {e : AE} (h : (pg 122)[pc]? = some (some e)) : okB 122 pc e = true := by
  have hl : pc < 32 := pg_lt h (by decide +kernel)
  exact okM_use ok_122_0 (by omega) (by omega) h
theorem okq_123 {pc : Nat} {e : AE} (h : (pg 123)[pc]? = some (some e)) : okB 123 pc e = true := by
  have hl : pc < 76 := pg_lt h (by decide +kernel)
  exact okM_use ok_123_0 (by omega) (by omega) h
theorem okq_124 {pc : Nat} {e : AE} (h : (pg 124)[pc]? = some (some e)) : okB 124 pc e = true := by
  have hl : pc < 141 := pg_lt h (by decide +kernel)
  by_cases c0 : pc < 100
  · exact okM_use ok_124_0 (by omega) (by omega) h
  exact okM_use ok_124_100 (by omega) (by omega) h
theorem okq_125 {pc : Nat} {e : AE} (h : (pg 125)[pc]? = some (some e)) : okB 125 pc e = true := by
  have hl : pc < 47 := pg_lt h (by decide +kernel)
  exact okM_use ok_125_0 (by omega) (by omega) h
theorem okq_126 {pc : Nat} {e : AE} (h : (pg 126)[pc]? = some (some e)) : okB 126 pc e = true := by
  have hl : pc < 50 := pg_lt h (by decide +kernel)
  exact okM_use ok_126_0 (by omega) (by omega) h
theorem okq_127 {pc : Nat} {e : AE} (h : (pg 127)[pc]? = some (some e)) : okB 127 pc e = true := by
  have hl : pc < 26 := pg_lt h (by decide +kernel)
  exact okM_use ok_127_0 (by omega) (by omega) h
theorem okq_128 {pc : Nat} {e : AE} (h : (pg 128)[pc]? = some (some e)) : okB 128 pc e = true := by
  have hl : pc < 37 := pg_lt h (by decide +kernel)
  exact okM_use ok_128_0 (by omega) (by omega) h
theorem okq_129 {pc : Nat} {e : AE} (h : (pg 129)[pc]? = some (some e)) : okB 129 pc e = true := by
  have hl : pc < 31 := pg_lt h (by decide +kernel)
  exact okM_use ok_129_0 (by omega) (by omega) h
theorem okq_130 {pc : Nat} {e : AE} (h : (pg 130)[pc]? = some (some e)) : okB 130 pc e = true := by
  have hl : pc < 31 := pg_lt h (by decide +kernel)
  exact okM_use ok_130_0 (by omega) (by omega) h
theorem okq_131 {pc : Nat} {e : AE} (h : (pg 131)[pc]? = some (some e)) : okB 131 pc e = true := by
  have hl : pc < 48 := pg_lt h (by decide +kernel)
  exact okM_use ok_131_0 (by omega) (by omega) h
theorem okq_132 {pc : Nat} {e : AE} (h : (pg 132)[pc]? = some (some e)) : okB 132 pc e = true := by
  have hl : pc < 29 := pg_lt h (by decide +kernel)
  exact okM_use ok_132_0 (by omega) (by omega) h
theorem okq_133 {pc : Nat} {e : AE} (h : (pg 133)[pc]? = some (some e)) : okB 133 pc e = true := by
  have hl : pc < 27 := pg_lt h (by decide +kernel)
  exact okM_use ok_133_0 (by omega) (by omega) h
theorem okq_134 {pc : Nat} {e : AE} (h : (pg 134)[pc]? = some (some e)) : okB 134 pc e = true := by
  have hl : pc < 115 := pg_lt h (by decide +kernel)
  by_cases c0 : pc < 100
  · exact okM_use ok_134_0 (by omega) (by omega) h
  exact okM_use ok_134_100 (by omega) (by omega) h
theorem okq_135 {pc : Nat} {e : AE} (h : (pg 135)[pc]? = some (some e)) : okB 135 pc e = true := by
  have hl : pc < 51 := pg_lt h (by decide +kernel)
  exact okM_use ok_135_0 (by omega) (by omega) h
theorem okq_136 {pc : Nat} {e : AE} (h : (pg 136)[pc]? = some (some e)) : okB 136 pc e = true := by
  have hl : pc < 48 := pg_lt h (by decide +kernel)
  exact okM_use ok_136_0 (by omega) (by omega) h
theorem okq_137 {pc : Nat} {e : AE} (h : (pg 137)[pc]? = some (some e)) : okB 137 pc e = true := by
  have hl : pc < 35 := pg_lt h (by decide +kernel)
  exact okM_use ok_137_0 (by omega) (by omega) h
theorem okq_138 {pc : Nat} {e : AE} (h : (pg 138)[pc]? = some (some e)) : okB 138 pc e = true := by
  have hl : pc < 27 := pg_lt h (by decide +kernel)
  exact okM_use ok_138_0 (by omega) (by omega) h
theorem okq_139 {pc : Nat} {e : AE} (h : (pg 139)[pc]? = some (some e)) : okB 139 pc e = true := by
  have hl : pc < 36 := pg_lt h (by decide +kernel)
  exact okM_use ok_139_0 (by omega) (by omega) h
theorem okq_140 {pc : Nat} {e : AE} (h : (pg 140)[pc]? = some (some e)) : okB 140 pc e = true := by
  have hl : pc < 120 := pg_lt h (by decide +kernel)
  by_cases c0 : pc < 100
  · exact okM_use ok_140_0 (by omega) (by omega) h
  exact okM_use ok_140_100 (by omega) (by omega) h
theorem okq_141 {pc : Nat} {e : AE} (h : (pg 141)[pc]? = some (some e)) : okB 141 pc e = true := by
  have hl : pc < 588 := pg_lt h (by decide +kernel)
  by_cases c0 : pc < 100
  · exact okM_use ok_141_0 (by omega) (by omega) h
  by_cases c100 : pc < 200
  · exact okM_use ok_141_100 (by omega) (by omega) h
  by_cases c200 : pc < 300
  · exact okM_use ok_141_200 (by omega) (by omega) h
  by_cases c300 : pc < 400
  · exact okM_use ok_141_300 (by omega) (by omega) h
  by_cases c400 : pc < 500
  · exact okM_use ok_141_400 (by omega) (by omega) h
  exact okM_use ok_141_500 (by omega) (by omega) h
theorem ok_all : ∀ {y pc : Nat} {e : AE}, (pg y)[pc]? = some (some e) → okB y pc e = true := by
  intro y pc e h
  match y, h with
  | 0, h => exact okq_0 h
  | 1, h => exact okq_1 h
  | 2, h => exact okq_2 h
  | 3, h => exact okq_3 h
  | 4, h => exact okq_4 h
  | 5, h => exact okq_5 h
  | 6, h => exact okq_6 h
  | 7, h => exact okq_7 h
  | 8, h => exact okq_8 h
  | 9, h => exact okq_9 h
  | 10, h => exact okq_10 h
  | 11, h => exact okq_11 h
  | 12, h => exact okq_12 h
  | 13, h => exact okq_13 h
  | 14, h => exact okq_14 h
  | 15, h => exact okq_15 h
  | 16, h => exact okq_16 h
  | 17, h => exact okq_17 h
  | 18, h => exact okq_18 h
  | 19, h => exact okq_19 h
  | 20, h => exact okq_20 h
  | 21, h => exact okq_21 h
  | 22, h => exact okq_22 h
  | 23, h => exact okq_23 h
  | 24, h => exact okq_24 h
  | 25, h => exact okq_25 h
  | 26, h => exact okq_26 h
  | 27, h => exact okq_27 h
  | 28, h => exact okq_28 h
  | 29, h => exact okq_29 h
  | 30, h => exact okq_30 h
  | 31, h => exact okq_31 h
  | 32, h => exact okq_32 h
  | 33, h => exact okq_33 h
  | 34, h => exact okq_34 h
  | 35, h => exact okq_35 h
  | 36, h => exact okq_36 h
  | 37, h => exact okq_37 h
  | 38, h => exact okq_38 h
  | 39, h => exact okq_39 h
  | 40, h => exact okq_40 h
  | 41, h => exact okq_41 h
  | 42, h => exact okq_42 h
  | 43, h => exact okq_43 h
  | 44, h => exact okq_44 h
  | 45, h => exact okq_45 h
  | 46, h => exact okq_46 h
  | 47, h => exact okq_47 h
  | 48, h => exact okq_48 h
  | 49, h => exact okq_49 h
  | 50, h => exact okq_50 h
  | 51, h => exact okq_51 h
  | 52, h => exact okq_52 h
  | 53, h => exact okq_53 h
  | 54, h => exact okq_54 h
  | 55, h => exact okq_55 h
  | 56, h => exact okq_56 h
  | 57, h => exact okq_57 h
  | 58, h => exact okq_58 h
  | 59, h => exact okq_59 h
  | 60, h => exact okq_60 h
  | 61, h => exact okq_61 h
  | 62, h => exact okq_62 h
  | 63, h => exact okq_63 h
  | 64, h => exact okq_64 h
  | 65, h => exact okq_65 h
  | 66, h => exact okq_66 h
  | 67, h => exact okq_67 h
  | 68, h => exact okq_68 h
  | 69, h => exact okq_69 h
  | 70, h => exact okq_70 h
  | 71, h => exact okq_71 h
  | 72, h => exact okq_72 h
  | 73, h => exact okq_73 h
  | 74, h => exact okq_74 h
  | 75, h => exact okq_75 h
  | 76, h => exact okq_76 h
  | 77, h => exact okq_77 h
  | 78, h => exact okq_78 h
  | 79, h => exact okq_79 h
  | 80, h => exact okq_80 h
  | 81, h => exact okq_81 h
  | 82, h => exact okq_82 h
  | 83, h => exact okq_83 h
  | 84, h => exact okq_84 h
  | 85, h => exact okq_85 h
  | 86, h => exact okq_86 h
  | 87, h => exact okq_87 h
  | 88, h => exact okq_88 h
  | 89, h => exact okq_89 h
  | 90, h => exact okq_90 h
  | 91, h => exact okq_91 h
  | 92, h => exact okq_92 h
  | 93, h => exact okq_93 h
  | 94, h => exact okq_94 h
  | 95, h => exact okq_95 h
  | 96, h => exact okq_96 h
  | 97, h => exact okq_97 h
  | 98, h => exact okq_98 h
  | 99, h => exact okq_99 h
  | 100, h => exact okq_100 h
  | 101, h => exact okq_101 h
  | 102, h => exact okq_102 h
  | 103, h => exact okq_103 h
  | 104, h => exact okq_104 h
  | 105, h => exact okq_105 h
  | 106, h => exact okq_106 h
  | 107, h => exact okq_107 h
  | 108, h => exact okq_108 h
  | 109, h => exact okq_109 h
  | 110, h => exact okq_110 h
  | 111, h => exact okq_111 h
  | 112, h => exact okq_112 h
  | 113, h => exact okq_113 h
  | 114, h => exact okq_114 h
  | 115, h => exact okq_115 h
  | 116, h => exact okq_116 h
  | 117, h => exact okq_117 h
  | 118, h => exact okq_118 h
  | 119, h => exact okq_119 h
  | 120, h => exact okq_120 h
  | 121, h => exact okq_121 h
  | 122, h => exact okq_122 h
  | 123, h => exact okq_123 h
  | 124, h => exact okq_124 h
  | 125, h => exact okq_125 h
  | 126, h => exact okq_126 h
  | 127, h => exact okq_127 h
  | 128, h => exact okq_128 h
  | 129, h => exact okq_129 h
  | 130, h => exact okq_130 h
  | 131, h => exact okq_131 h
  | 132, h => exact okq_132 h
  | 133, h => exact okq_133 h
  | 134, h => exact okq_134 h
  | 135, h => exact okq_135 h
  | 136, h => exact okq_136 h
  | 137, h => exact okq_137 h
  | 138, h => exact okq_138 h
  | 139, h => exact okq_139 h
  | 140, h => exact okq_140 h
  | 141, h => exact okq_141 h
  | j + 142, h =>
    have h0 : pgs[j + 142]? = none := List.getElem?_eq_none (by show 142 ≤ j + 142; omega)
    have h1 : pg (j + 142) = [] := by simp [pg, List.getD, h0]
    rw [h1] at h
    simp at h

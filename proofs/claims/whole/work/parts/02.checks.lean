def tG : List Cond := lw_tbl.filter goodWord
theorem tG_at {w : Cond} (i : Nat) (h : lw_tbl[i]? = some w) (hg : goodWord w = true) : w ∈ tG := List.mem_filter.mpr ⟨List.mem_of_getElem? h, hg⟩
def cOK (ci : Nat) (r : vw_C) : Prop := (∀ w ∈ u_ws r.1 r.2.1 r.2.2, w ∈ tG) ∧ Cond.instantiable r.1 r.2.2 ∈ tG ∧ Cond.initialized r.1 ∈ tG ∧ (∀ a, a < r.2.2 → ∀ b, b < r.2.2 → a ≠ b → (r.2.1 a).2.1 ≠ (r.2.1 b).2.1) ∧ (cDs.getD ci []).length = r.2.2 ∧
  ∃ ty : Nat → FieldType, (∀ k, k < r.2.2 → parseFieldDescriptor (r.2.1 k).2.2.1 = some (ty k)) ∧ (∀ j, j < r.2.2 → defaultValue (ty j) = if (cDs.getD ci [])[j]? = some (vI 0) then .int 0 else .null) ∧ (∀ j, j < r.2.2 → (ty j = .int ∧ (cDs.getD ci [])[j]? = some (vI 0)) ∨ ((cDs.getD ci [])[j]? = some vN ∧ ((∃ t, ty j = .array t) ∨ ∃ n, ty j = .object n)))
theorem cI0 : ∀ k, k < 3 → lw_tbl[([84, 86, 88] : List Nat).getD k 0]? = some (u_lay cN0 cF0 k) ∧ goodWord (u_lay cN0 cF0 k) = true := by decide +kernel
theorem cO0 : cOK 0 (cN0, cF0, 3) := ⟨fun w hw => by
    obtain ⟨k, hk, rfl⟩ := List.mem_map.mp hw
    exact tG_at _ (cI0 k (List.mem_range.mp hk)).1 (cI0 k (List.mem_range.mp hk)).2, tG_at 70 (by decide +kernel) rfl, tG_at 54 (by decide +kernel) rfl, by decide +kernel, by decide, cY0, by decide +kernel, by decide +kernel, fun j hj => by
    match j, hj with
    | 0, _ => exact Or.inr ⟨rfl, Or.inl ⟨_, rfl⟩⟩
    | 1, _ => exact Or.inr ⟨rfl, Or.inl ⟨_, rfl⟩⟩
    | 2, _ => exact Or.inl ⟨rfl, rfl⟩
    | j + 3, h => exact absurd (show j + 3 < 3 from h) (by omega)⟩
theorem cI1 : ∀ k, k < 8 → lw_tbl[([117, 119, 121, 123, 125, 127, 129, 131] : List Nat).getD k 0]? = some (u_lay cN1 cF1 k) ∧ goodWord (u_lay cN1 cF1 k) = true := by decide +kernel
theorem cO1 : cOK 1 (cN1, cF1, 8) := ⟨fun w hw => by
    obtain ⟨k, hk, rfl⟩ := List.mem_map.mp hw
    exact tG_at _ (cI1 k (List.mem_range.mp hk)).1 (cI1 k (List.mem_range.mp hk)).2, tG_at 93 (by decide +kernel) rfl, tG_at 55 (by decide +kernel) rfl, by decide +kernel, by decide, cY1, by decide +kernel, by decide +kernel, fun j hj => by
    match j, hj with
    | 0, _ => exact Or.inr ⟨rfl, Or.inr ⟨_, rfl⟩⟩
    | 1, _ => exact Or.inr ⟨rfl, Or.inl ⟨_, rfl⟩⟩
    | 2, _ => exact Or.inr ⟨rfl, Or.inl ⟨_, rfl⟩⟩
    | 3, _ => exact Or.inr ⟨rfl, Or.inl ⟨_, rfl⟩⟩
    | 4, _ => exact Or.inr ⟨rfl, Or.inl ⟨_, rfl⟩⟩
    | 5, _ => exact Or.inr ⟨rfl, Or.inl ⟨_, rfl⟩⟩
    | 6, _ => exact Or.inr ⟨rfl, Or.inl ⟨_, rfl⟩⟩
    | 7, _ => exact Or.inr ⟨rfl, Or.inl ⟨_, rfl⟩⟩
    | j + 8, h => exact absurd (show j + 8 < 8 from h) (by omega)⟩
theorem cI2 : ∀ k, k < 6 → lw_tbl[([146, 148, 150, 152, 154, 156] : List Nat).getD k 0]? = some (u_lay cN2 cF2 k) ∧ goodWord (u_lay cN2 cF2 k) = true := by decide +kernel
theorem cO2 : cOK 2 (cN2, cF2, 6) := ⟨fun w hw => by
    obtain ⟨k, hk, rfl⟩ := List.mem_map.mp hw
    exact tG_at _ (cI2 k (List.mem_range.mp hk)).1 (cI2 k (List.mem_range.mp hk)).2, tG_at 135 (by decide +kernel) rfl, tG_at 56 (by decide +kernel) rfl, by decide +kernel, by decide, cY2, by decide +kernel, by decide +kernel, fun j hj => by
    match j, hj with
    | 0, _ => exact Or.inr ⟨rfl, Or.inr ⟨_, rfl⟩⟩
    | 1, _ => exact Or.inr ⟨rfl, Or.inl ⟨_, rfl⟩⟩
    | 2, _ => exact Or.inl ⟨rfl, rfl⟩
    | 3, _ => exact Or.inl ⟨rfl, rfl⟩
    | 4, _ => exact Or.inl ⟨rfl, rfl⟩
    | 5, _ => exact Or.inl ⟨rfl, rfl⟩
    | j + 6, h => exact absurd (show j + 6 < 6 from h) (by omega)⟩
theorem cI3 : ∀ k, k < 6 → lw_tbl[([178, 180, 182, 184, 186, 188] : List Nat).getD k 0]? = some (u_lay cN3 cF3 k) ∧ goodWord (u_lay cN3 cF3 k) = true := by decide +kernel
theorem cO3 : cOK 3 (cN3, cF3, 6) := ⟨fun w hw => by
    obtain ⟨k, hk, rfl⟩ := List.mem_map.mp hw
    exact tG_at _ (cI3 k (List.mem_range.mp hk)).1 (cI3 k (List.mem_range.mp hk)).2, tG_at 160 (by decide +kernel) rfl, tG_at 57 (by decide +kernel) rfl, by decide +kernel, by decide, cY3, by decide +kernel, by decide +kernel, fun j hj => by
    match j, hj with
    | 0, _ => exact Or.inr ⟨rfl, Or.inr ⟨_, rfl⟩⟩
    | 1, _ => exact Or.inr ⟨rfl, Or.inr ⟨_, rfl⟩⟩
    | 2, _ => exact Or.inr ⟨rfl, Or.inl ⟨_, rfl⟩⟩
    | 3, _ => exact Or.inl ⟨rfl, rfl⟩
    | 4, _ => exact Or.inl ⟨rfl, rfl⟩
    | 5, _ => exact Or.inl ⟨rfl, rfl⟩
    | j + 6, h => exact absurd (show j + 6 < 6 from h) (by omega)⟩
theorem cI4 : ∀ k, k < 6 → lw_tbl[([248, 250, 252, 254, 256, 258] : List Nat).getD k 0]? = some (u_lay cN4 cF4 k) ∧ goodWord (u_lay cN4 cF4 k) = true := by decide +kernel
theorem cO4 : cOK 4 (cN4, cF4, 6) := ⟨fun w hw => by
    obtain ⟨k, hk, rfl⟩ := List.mem_map.mp hw
    exact tG_at _ (cI4 k (List.mem_range.mp hk)).1 (cI4 k (List.mem_range.mp hk)).2, tG_at 62 (by decide +kernel) rfl, tG_at 53 (by decide +kernel) rfl, by decide +kernel, by decide, cY4, by decide +kernel, by decide +kernel, fun j hj => by
    match j, hj with
    | 0, _ => exact Or.inr ⟨rfl, Or.inr ⟨_, rfl⟩⟩
    | 1, _ => exact Or.inr ⟨rfl, Or.inr ⟨_, rfl⟩⟩
    | 2, _ => exact Or.inr ⟨rfl, Or.inr ⟨_, rfl⟩⟩
    | 3, _ => exact Or.inr ⟨rfl, Or.inr ⟨_, rfl⟩⟩
    | 4, _ => exact Or.inr ⟨rfl, Or.inl ⟨_, rfl⟩⟩
    | 5, _ => exact Or.inl ⟨rfl, rfl⟩
    | j + 6, h => exact absurd (show j + 6 < 6 from h) (by omega)⟩
theorem cI5 : ∀ k, k < 15 → lw_tbl[([540, 542, 544, 546, 548, 550, 552, 554, 556, 558, 560, 562, 564, 566, 568] : List Nat).getD k 0]? = some (u_lay cN5 cF5 k) ∧ goodWord (u_lay cN5 cF5 k) = true := by decide +kernel
theorem cO5 : cOK 5 (cN5, cF5, 15) := ⟨fun w hw => by
    obtain ⟨k, hk, rfl⟩ := List.mem_map.mp hw
    exact tG_at _ (cI5 k (List.mem_range.mp hk)).1 (cI5 k (List.mem_range.mp hk)).2, tG_at 520 (by decide +kernel) rfl, tG_at 59 (by decide +kernel) rfl, by decide +kernel, by decide, cY5, by decide +kernel, by decide +kernel, fun j hj => by
    match j, hj with
    | 0, _ => exact Or.inr ⟨rfl, Or.inl ⟨_, rfl⟩⟩
    | 1, _ => exact Or.inr ⟨rfl, Or.inl ⟨_, rfl⟩⟩
    | 2, _ => exact Or.inr ⟨rfl, Or.inl ⟨_, rfl⟩⟩
    | 3, _ => exact Or.inr ⟨rfl, Or.inl ⟨_, rfl⟩⟩
    | 4, _ => exact Or.inr ⟨rfl, Or.inl ⟨_, rfl⟩⟩
    | 5, _ => exact Or.inr ⟨rfl, Or.inl ⟨_, rfl⟩⟩
    | 6, _ => exact Or.inr ⟨rfl, Or.inl ⟨_, rfl⟩⟩
    | 7, _ => exact Or.inr ⟨rfl, Or.inl ⟨_, rfl⟩⟩
    | 8, _ => exact Or.inl ⟨rfl, rfl⟩
    | 9, _ => exact Or.inl ⟨rfl, rfl⟩
    | 10, _ => exact Or.inl ⟨rfl, rfl⟩
    | 11, _ => exact Or.inl ⟨rfl, rfl⟩
    | 12, _ => exact Or.inr ⟨rfl, Or.inl ⟨_, rfl⟩⟩
    | 13, _ => exact Or.inr ⟨rfl, Or.inl ⟨_, rfl⟩⟩
    | 14, _ => exact Or.inr ⟨rfl, Or.inl ⟨_, rfl⟩⟩
    | j + 15, h => exact absurd (show j + 15 < 15 from h) (by omega)⟩
theorem c_ok : ∀ (ci : Nat) (r : vw_C), cls[ci]? = some r → cOK ci r := by
  intro ci r h
  match ci, h with
  | 0, h => cases h; exact cO0
  | 1, h => cases h; exact cO1
  | 2, h => cases h; exact cO2
  | 3, h => cases h; exact cO3
  | 4, h => cases h; exact cO4
  | 5, h => cases h; exact cO5
  | k + 6, h => simp [cls] at h
/-- what holds of a method that is called -/
def mOK (r : MI) : Prop := plainFor r.1 = true ∧ (r.1.cls ≠ "java/lang/invoke/MethodHandle" ∧ r.1.cls ≠ "java/lang/invoke/VarHandle") ∧ (parseMethodDescriptor r.1.desc).map (fun d => d.parameters.length) = some (if r.2.2.2.2.2.2 = 99 then r.2.2.2.2.2.1 else r.2.2.2.2.2.1 - 1) ∧
  Cond.code r.1 r.2.1 r.2.2.1 r.2.2.2.1 ∈ tG ∧ Cond.initialized r.1.cls ∈ tG ∧ (r.2.2.2.1 = none ∨ r.2.2.2.1 = some .int ∨ r.2.2.2.1 = some .boolean) ∧ r.2.2.2.2.2.1 ≤ r.2.2.1 ∧
  ((r.2.2.2.2.2.2 = 99 ∧ Cond.static r.1 ∈ tG) ∨ (1 ≤ r.2.2.2.2.2.1 ∧ (cls[r.2.2.2.2.2.2]?).map (·.1) = some r.1.cls ∧ Cond.instanceMethod r.1 ∈ tG ∧ (r.1.name = "<init>" ∨ Cond.selects r.1.cls r.1 r.1 ∈ tG)))
set_option maxRecDepth 20000 in
theorem mo_0 : mOK m_0 := ⟨by decide +kernel, ⟨by decide +kernel, by decide +kernel⟩, by decide +kernel, tG_at 73 rfl rfl, tG_at 54 (by decide +kernel) rfl, Or.inl rfl, by decide, Or.inr ⟨by decide, rfl, tG_at 72 (by decide +kernel) rfl, Or.inl rfl⟩⟩
set_option maxRecDepth 20000 in
theorem mo_1 : mOK m_1 := ⟨by decide +kernel, ⟨by decide +kernel, by decide +kernel⟩, by decide +kernel, tG_at 96 rfl rfl, tG_at 55 (by decide +kernel) rfl, Or.inl rfl, by decide, Or.inr ⟨by decide, rfl, tG_at 95 (by decide +kernel) rfl, Or.inl rfl⟩⟩
set_option maxRecDepth 20000 in
theorem mo_2 : mOK m_2 := ⟨by decide +kernel, ⟨by decide +kernel, by decide +kernel⟩, by decide +kernel, tG_at 138 rfl rfl, tG_at 56 (by decide +kernel) rfl, Or.inl rfl, by decide, Or.inr ⟨by decide, rfl, tG_at 137 (by decide +kernel) rfl, Or.inl rfl⟩⟩
set_option maxRecDepth 20000 in
theorem mo_3 : mOK m_3 := ⟨by decide +kernel, ⟨by decide +kernel, by decide +kernel⟩, by decide +kernel, tG_at 168 rfl rfl, tG_at 57 (by decide +kernel) rfl, Or.inl rfl, by decide, Or.inr ⟨by decide, rfl, tG_at 167 (by decide +kernel) rfl, Or.inr (tG_at 0 (by decide +kernel) rfl)⟩⟩
set_option maxRecDepth 20000 in
theorem mo_4 : mOK m_4 := ⟨by decide +kernel, ⟨by decide +kernel, by decide +kernel⟩, by decide +kernel, tG_at 163 rfl rfl, tG_at 57 (by decide +kernel) rfl, Or.inl rfl, by decide, Or.inr ⟨by decide, rfl, tG_at 162 (by decide +kernel) rfl, Or.inl rfl⟩⟩
set_option maxRecDepth 20000 in
theorem mo_5 : mOK m_5 := ⟨by decide +kernel, ⟨by decide +kernel, by decide +kernel⟩, by decide +kernel, tG_at 202 rfl rfl, tG_at 53 (by decide +kernel) rfl, Or.inr (Or.inl rfl), by decide, Or.inl ⟨rfl, tG_at 201 (by decide +kernel) rfl⟩⟩
set_option maxRecDepth 20000 in
theorem mo_6 : mOK m_6 := ⟨by decide +kernel, ⟨by decide +kernel, by decide +kernel⟩, by decide +kernel, tG_at 209 rfl rfl, tG_at 53 (by decide +kernel) rfl, Or.inr (Or.inr rfl), by decide, Or.inl ⟨rfl, tG_at 208 (by decide +kernel) rfl⟩⟩
set_option maxRecDepth 20000 in
theorem mo_7 : mOK m_7 := ⟨by decide +kernel, ⟨by decide +kernel, by decide +kernel⟩, by decide +kernel, tG_at 206 rfl rfl, tG_at 55 (by decide +kernel) rfl, Or.inl rfl, by decide, Or.inr ⟨by decide, rfl, tG_at 205 (by decide +kernel) rfl, Or.inr (tG_at 2 (by decide +kernel) rfl)⟩⟩
set_option maxRecDepth 20000 in
theorem mo_8 : mOK m_8 := ⟨by decide +kernel, ⟨by decide +kernel, by decide +kernel⟩, by decide +kernel, tG_at 222 rfl rfl, tG_at 54 (by decide +kernel) rfl, Or.inr (Or.inr rfl), by decide, Or.inr ⟨by decide, rfl, tG_at 220 (by decide +kernel) rfl, Or.inr (tG_at 221 (by decide +kernel) rfl)⟩⟩
set_option maxRecDepth 20000 in
theorem mo_9 : mOK m_9 := ⟨by decide +kernel, ⟨by decide +kernel, by decide +kernel⟩, by decide +kernel, tG_at 218 rfl rfl, tG_at 54 (by decide +kernel) rfl, Or.inr (Or.inl rfl), by decide, Or.inr ⟨by decide, rfl, tG_at 216 (by decide +kernel) rfl, Or.inr (tG_at 217 (by decide +kernel) rfl)⟩⟩
set_option maxRecDepth 20000 in
theorem mo_10 : mOK m_10 := ⟨by decide +kernel, ⟨by decide +kernel, by decide +kernel⟩, by decide +kernel, tG_at 213 rfl rfl, tG_at 54 (by decide +kernel) rfl, Or.inr (Or.inl rfl), by decide, Or.inr ⟨by decide, rfl, tG_at 211 (by decide +kernel) rfl, Or.inr (tG_at 212 (by decide +kernel) rfl)⟩⟩
set_option maxRecDepth 20000 in
theorem mo_11 : mOK m_11 := ⟨by decide +kernel, ⟨by decide +kernel, by decide +kernel⟩, by decide +kernel, tG_at 199 rfl rfl, tG_at 55 (by decide +kernel) rfl, Or.inl rfl, by decide, Or.inr ⟨by decide, rfl, tG_at 198 (by decide +kernel) rfl, Or.inr (tG_at 1 (by decide +kernel) rfl)⟩⟩
set_option maxRecDepth 20000 in
theorem mo_12 : mOK m_12 := ⟨by decide +kernel, ⟨by decide +kernel, by decide +kernel⟩, by decide +kernel, tG_at 229 rfl rfl, tG_at 58 (by decide +kernel) rfl, Or.inr (Or.inl rfl), by decide, Or.inl ⟨rfl, tG_at 228 (by decide +kernel) rfl⟩⟩
set_option maxRecDepth 20000 in
theorem mo_13 : mOK m_13 := ⟨by decide +kernel, ⟨by decide +kernel, by decide +kernel⟩, by decide +kernel, tG_at 226 rfl rfl, tG_at 55 (by decide +kernel) rfl, Or.inr (Or.inl rfl), by decide, Or.inr ⟨by decide, rfl, tG_at 225 (by decide +kernel) rfl, Or.inr (tG_at 3 (by decide +kernel) rfl)⟩⟩
set_option maxRecDepth 20000 in
theorem mo_14 : mOK m_14 := ⟨by decide +kernel, ⟨by decide +kernel, by decide +kernel⟩, by decide +kernel, tG_at 232 rfl rfl, tG_at 53 (by decide +kernel) rfl, Or.inr (Or.inr rfl), by decide, Or.inl ⟨rfl, tG_at 231 (by decide +kernel) rfl⟩⟩
set_option maxRecDepth 20000 in
theorem mo_15 : mOK m_15 := ⟨by decide +kernel, ⟨by decide +kernel, by decide +kernel⟩, by decide +kernel, tG_at 240 rfl rfl, tG_at 55 (by decide +kernel) rfl, Or.inr (Or.inl rfl), by decide, Or.inr ⟨by decide, rfl, tG_at 239 (by decide +kernel) rfl, Or.inr (tG_at 5 (by decide +kernel) rfl)⟩⟩
set_option maxRecDepth 20000 in
theorem mo_16 : mOK m_16 := ⟨by decide +kernel, ⟨by decide +kernel, by decide +kernel⟩, by decide +kernel, tG_at 236 rfl rfl, tG_at 55 (by decide +kernel) rfl, Or.inl rfl, by decide, Or.inr ⟨by decide, rfl, tG_at 235 (by decide +kernel) rfl, Or.inr (tG_at 4 (by decide +kernel) rfl)⟩⟩
set_option maxRecDepth 20000 in
theorem mo_17 : mOK m_17 := ⟨by decide +kernel, ⟨by decide +kernel, by decide +kernel⟩, by decide +kernel, tG_at 195 rfl rfl, tG_at 55 (by decide +kernel) rfl, Or.inl rfl, by decide, Or.inr ⟨by decide, rfl, tG_at 193 (by decide +kernel) rfl, Or.inr (tG_at 194 (by decide +kernel) rfl)⟩⟩
set_option maxRecDepth 20000 in
theorem mo_18 : mOK m_18 := ⟨by decide +kernel, ⟨by decide +kernel, by decide +kernel⟩, by decide +kernel, tG_at 65 rfl rfl, tG_at 53 (by decide +kernel) rfl, Or.inl rfl, by decide, Or.inr ⟨by decide, rfl, tG_at 64 (by decide +kernel) rfl, Or.inl rfl⟩⟩
set_option maxRecDepth 20000 in
theorem mo_19 : mOK m_19 := ⟨by decide +kernel, ⟨by decide +kernel, by decide +kernel⟩, by decide +kernel, tG_at 523 rfl rfl, tG_at 59 (by decide +kernel) rfl, Or.inl rfl, by decide, Or.inr ⟨by decide, rfl, tG_at 522 (by decide +kernel) rfl, Or.inl rfl⟩⟩
set_option maxRecDepth 20000 in
theorem mo_20 : mOK m_20 := ⟨by decide +kernel, ⟨by decide +kernel, by decide +kernel⟩, by decide +kernel, tG_at 268 rfl rfl, tG_at 53 (by decide +kernel) rfl, Or.inr (Or.inr rfl), by decide, Or.inl ⟨rfl, tG_at 267 (by decide +kernel) rfl⟩⟩
set_option maxRecDepth 20000 in
theorem mo_21 : mOK m_21 := ⟨by decide +kernel, ⟨by decide +kernel, by decide +kernel⟩, by decide +kernel, tG_at 273 rfl rfl, tG_at 54 (by decide +kernel) rfl, Or.inr (Or.inr rfl), by decide, Or.inr ⟨by decide, rfl, tG_at 271 (by decide +kernel) rfl, Or.inr (tG_at 272 (by decide +kernel) rfl)⟩⟩
set_option maxRecDepth 20000 in
theorem mo_22 : mOK m_22 := ⟨by decide +kernel, ⟨by decide +kernel, by decide +kernel⟩, by decide +kernel, tG_at 277 rfl rfl, tG_at 54 (by decide +kernel) rfl, Or.inl rfl, by decide, Or.inr ⟨by decide, rfl, tG_at 275 (by decide +kernel) rfl, Or.inr (tG_at 276 (by decide +kernel) rfl)⟩⟩
set_option maxRecDepth 20000 in
theorem mo_23 : mOK m_23 := ⟨by decide +kernel, ⟨by decide +kernel, by decide +kernel⟩, by decide +kernel, tG_at 281 rfl rfl, tG_at 60 (by decide +kernel) rfl, Or.inr (Or.inl rfl), by decide, Or.inl ⟨rfl, tG_at 280 (by decide +kernel) rfl⟩⟩
set_option maxRecDepth 20000 in
theorem mo_24 : mOK m_24 := ⟨by decide +kernel, ⟨by decide +kernel, by decide +kernel⟩, by decide +kernel, tG_at 264 rfl rfl, tG_at 53 (by decide +kernel) rfl, Or.inr (Or.inl rfl), by decide, Or.inr ⟨by decide, rfl, tG_at 262 (by decide +kernel) rfl, Or.inr (tG_at 263 (by decide +kernel) rfl)⟩⟩
set_option maxRecDepth 20000 in
theorem mo_25 : mOK m_25 := ⟨by decide +kernel, ⟨by decide +kernel, by decide +kernel⟩, by decide +kernel, tG_at 581 rfl rfl, tG_at 59 (by decide +kernel) rfl, Or.inr (Or.inr rfl), by decide, Or.inl ⟨rfl, tG_at 580 (by decide +kernel) rfl⟩⟩
set_option maxRecDepth 20000 in
theorem mo_26 : mOK m_26 := ⟨by decide +kernel, ⟨by decide +kernel, by decide +kernel⟩, by decide +kernel, tG_at 578 rfl rfl, tG_at 59 (by decide +kernel) rfl, Or.inr (Or.inr rfl), by decide, Or.inl ⟨rfl, tG_at 577 (by decide +kernel) rfl⟩⟩
set_option maxRecDepth 20000 in
theorem mo_27 : mOK m_27 := ⟨by decide +kernel, ⟨by decide +kernel, by decide +kernel⟩, by decide +kernel, tG_at 584 rfl rfl, tG_at 59 (by decide +kernel) rfl, Or.inr (Or.inr rfl), by decide, Or.inl ⟨rfl, tG_at 583 (by decide +kernel) rfl⟩⟩
set_option maxRecDepth 20000 in
theorem mo_28 : mOK m_28 := ⟨by decide +kernel, ⟨by decide +kernel, by decide +kernel⟩, by decide +kernel, tG_at 588 rfl rfl, tG_at 59 (by decide +kernel) rfl, Or.inr (Or.inr rfl), by decide, Or.inr ⟨by decide, rfl, tG_at 587 (by decide +kernel) rfl, Or.inr (tG_at 13 (by decide +kernel) rfl)⟩⟩
set_option maxRecDepth 20000 in
theorem mo_29 : mOK m_29 := ⟨by decide +kernel, ⟨by decide +kernel, by decide +kernel⟩, by decide +kernel, tG_at 592 rfl rfl, tG_at 59 (by decide +kernel) rfl, Or.inr (Or.inr rfl), by decide, Or.inr ⟨by decide, rfl, tG_at 591 (by decide +kernel) rfl, Or.inr (tG_at 14 (by decide +kernel) rfl)⟩⟩
set_option maxRecDepth 20000 in
theorem mo_30 : mOK m_30 := ⟨by decide +kernel, ⟨by decide +kernel, by decide +kernel⟩, by decide +kernel, tG_at 596 rfl rfl, tG_at 59 (by decide +kernel) rfl, Or.inr (Or.inl rfl), by decide, Or.inr ⟨by decide, rfl, tG_at 595 (by decide +kernel) rfl, Or.inr (tG_at 15 (by decide +kernel) rfl)⟩⟩
set_option maxRecDepth 20000 in
theorem mo_31 : mOK m_31 := ⟨by decide +kernel, ⟨by decide +kernel, by decide +kernel⟩, by decide +kernel, tG_at 575 rfl rfl, tG_at 59 (by decide +kernel) rfl, Or.inr (Or.inl rfl), by decide, Or.inr ⟨by decide, rfl, tG_at 573 (by decide +kernel) rfl, Or.inr (tG_at 574 (by decide +kernel) rfl)⟩⟩
set_option maxRecDepth 20000 in
theorem mo_32 : mOK m_32 := ⟨by decide +kernel, ⟨by decide +kernel, by decide +kernel⟩, by decide +kernel, tG_at 292 rfl rfl, tG_at 54 (by decide +kernel) rfl, Or.inl rfl, by decide, Or.inr ⟨by decide, rfl, tG_at 290 (by decide +kernel) rfl, Or.inr (tG_at 291 (by decide +kernel) rfl)⟩⟩
set_option maxRecDepth 20000 in
theorem mo_33 : mOK m_33 := ⟨by decide +kernel, ⟨by decide +kernel, by decide +kernel⟩, by decide +kernel, tG_at 288 rfl rfl, tG_at 53 (by decide +kernel) rfl, Or.inr (Or.inl rfl), by decide, Or.inr ⟨by decide, rfl, tG_at 286 (by decide +kernel) rfl, Or.inr (tG_at 287 (by decide +kernel) rfl)⟩⟩
set_option maxRecDepth 20000 in
theorem mo_34 : mOK m_34 := ⟨by decide +kernel, ⟨by decide +kernel, by decide +kernel⟩, by decide +kernel, tG_at 600 rfl rfl, tG_at 59 (by decide +kernel) rfl, Or.inr (Or.inl rfl), by decide, Or.inr ⟨by decide, rfl, tG_at 598 (by decide +kernel) rfl, Or.inr (tG_at 599 (by decide +kernel) rfl)⟩⟩
set_option maxRecDepth 20000 in
theorem mo_35 : mOK m_35 := ⟨by decide +kernel, ⟨by decide +kernel, by decide +kernel⟩, by decide +kernel, tG_at 300 rfl rfl, tG_at 54 (by decide +kernel) rfl, Or.inl rfl, by decide, Or.inr ⟨by decide, rfl, tG_at 298 (by decide +kernel) rfl, Or.inr (tG_at 299 (by decide +kernel) rfl)⟩⟩
set_option maxRecDepth 20000 in
theorem mo_36 : mOK m_36 := ⟨by decide +kernel, ⟨by decide +kernel, by decide +kernel⟩, by decide +kernel, tG_at 304 rfl rfl, tG_at 54 (by decide +kernel) rfl, Or.inr (Or.inl rfl), by decide, Or.inr ⟨by decide, rfl, tG_at 302 (by decide +kernel) rfl, Or.inr (tG_at 303 (by decide +kernel) rfl)⟩⟩
set_option maxRecDepth 20000 in
theorem mo_37 : mOK m_37 := ⟨by decide +kernel, ⟨by decide +kernel, by decide +kernel⟩, by decide +kernel, tG_at 296 rfl rfl, tG_at 53 (by decide +kernel) rfl, Or.inr (Or.inl rfl), by decide, Or.inr ⟨by decide, rfl, tG_at 294 (by decide +kernel) rfl, Or.inr (tG_at 295 (by decide +kernel) rfl)⟩⟩
set_option maxRecDepth 20000 in
theorem mo_38 : mOK m_38 := ⟨by decide +kernel, ⟨by decide +kernel, by decide +kernel⟩, by decide +kernel, tG_at 607 rfl rfl, tG_at 59 (by decide +kernel) rfl, Or.inr (Or.inl rfl), by decide, Or.inl ⟨rfl, tG_at 606 (by decide +kernel) rfl⟩⟩
set_option maxRecDepth 20000 in
theorem mo_39 : mOK m_39 := ⟨by decide +kernel, ⟨by decide +kernel, by decide +kernel⟩, by decide +kernel, tG_at 611 rfl rfl, tG_at 59 (by decide +kernel) rfl, Or.inr (Or.inl rfl), by decide, Or.inr ⟨by decide, rfl, tG_at 610 (by decide +kernel) rfl, Or.inr (tG_at 16 (by decide +kernel) rfl)⟩⟩
set_option maxRecDepth 20000 in
theorem mo_40 : mOK m_40 := ⟨by decide +kernel, ⟨by decide +kernel, by decide +kernel⟩, by decide +kernel, tG_at 604 rfl rfl, tG_at 59 (by decide +kernel) rfl, Or.inr (Or.inl rfl), by decide, Or.inr ⟨by decide, rfl, tG_at 602 (by decide +kernel) rfl, Or.inr (tG_at 603 (by decide +kernel) rfl)⟩⟩
set_option maxRecDepth 20000 in
theorem mo_41 : mOK m_41 := ⟨by decide +kernel, ⟨by decide +kernel, by decide +kernel⟩, by decide +kernel, tG_at 322 rfl rfl, tG_at 55 (by decide +kernel) rfl, Or.inr (Or.inl rfl), by decide, Or.inr ⟨by decide, rfl, tG_at 320 (by decide +kernel) rfl, Or.inr (tG_at 321 (by decide +kernel) rfl)⟩⟩
set_option maxRecDepth 20000 in
theorem mo_42 : mOK m_42 := ⟨by decide +kernel, ⟨by decide +kernel, by decide +kernel⟩, by decide +kernel, tG_at 318 rfl rfl, tG_at 55 (by decide +kernel) rfl, Or.inr (Or.inr rfl), by decide, Or.inr ⟨by decide, rfl, tG_at 316 (by decide +kernel) rfl, Or.inr (tG_at 317 (by decide +kernel) rfl)⟩⟩
set_option maxRecDepth 20000 in
theorem mo_43 : mOK m_43 := ⟨by decide +kernel, ⟨by decide +kernel, by decide +kernel⟩, by decide +kernel, tG_at 314 rfl rfl, tG_at 55 (by decide +kernel) rfl, Or.inr (Or.inl rfl), by decide, Or.inr ⟨by decide, rfl, tG_at 312 (by decide +kernel) rfl, Or.inr (tG_at 313 (by decide +kernel) rfl)⟩⟩
set_option maxRecDepth 20000 in
theorem mo_44 : mOK m_44 := ⟨by decide +kernel, ⟨by decide +kernel, by decide +kernel⟩, by decide +kernel, tG_at 326 rfl rfl, tG_at 55 (by decide +kernel) rfl, Or.inr (Or.inl rfl), by decide, Or.inr ⟨by decide, rfl, tG_at 324 (by decide +kernel) rfl, Or.inr (tG_at 325 (by decide +kernel) rfl)⟩⟩
set_option maxRecDepth 20000 in
theorem mo_45 : mOK m_45 := ⟨by decide +kernel, ⟨by decide +kernel, by decide +kernel⟩, by decide +kernel, tG_at 309 rfl rfl, tG_at 53 (by decide +kernel) rfl, Or.inr (Or.inl rfl), by decide, Or.inr ⟨by decide, rfl, tG_at 307 (by decide +kernel) rfl, Or.inr (tG_at 308 (by decide +kernel) rfl)⟩⟩
set_option maxRecDepth 20000 in
theorem mo_46 : mOK m_46 := ⟨by decide +kernel, ⟨by decide +kernel, by decide +kernel⟩, by decide +kernel, tG_at 635 rfl rfl, tG_at 59 (by decide +kernel) rfl, Or.inr (Or.inr rfl), by decide, Or.inr ⟨by decide, rfl, tG_at 634 (by decide +kernel) rfl, Or.inr (tG_at 21 (by decide +kernel) rfl)⟩⟩
set_option maxRecDepth 20000 in
theorem mo_47 : mOK m_47 := ⟨by decide +kernel, ⟨by decide +kernel, by decide +kernel⟩, by decide +kernel, tG_at 631 rfl rfl, tG_at 59 (by decide +kernel) rfl, Or.inr (Or.inr rfl), by decide, Or.inr ⟨by decide, rfl, tG_at 630 (by decide +kernel) rfl, Or.inr (tG_at 20 (by decide +kernel) rfl)⟩⟩
set_option maxRecDepth 20000 in
theorem mo_48 : mOK m_48 := ⟨by decide +kernel, ⟨by decide +kernel, by decide +kernel⟩, by decide +kernel, tG_at 627 rfl rfl, tG_at 59 (by decide +kernel) rfl, Or.inr (Or.inr rfl), by decide, Or.inr ⟨by decide, rfl, tG_at 626 (by decide +kernel) rfl, Or.inr (tG_at 19 (by decide +kernel) rfl)⟩⟩
set_option maxRecDepth 20000 in
theorem mo_49 : mOK m_49 := ⟨by decide +kernel, ⟨by decide +kernel, by decide +kernel⟩, by decide +kernel, tG_at 623 rfl rfl, tG_at 59 (by decide +kernel) rfl, Or.inl rfl, by decide, Or.inr ⟨by decide, rfl, tG_at 622 (by decide +kernel) rfl, Or.inr (tG_at 18 (by decide +kernel) rfl)⟩⟩
set_option maxRecDepth 20000 in
theorem mo_50 : mOK m_50 := ⟨by decide +kernel, ⟨by decide +kernel, by decide +kernel⟩, by decide +kernel, tG_at 643 rfl rfl, tG_at 59 (by decide +kernel) rfl, Or.inr (Or.inr rfl), by decide, Or.inr ⟨by decide, rfl, tG_at 642 (by decide +kernel) rfl, Or.inr (tG_at 23 (by decide +kernel) rfl)⟩⟩
set_option maxRecDepth 20000 in
theorem mo_51 : mOK m_51 := ⟨by decide +kernel, ⟨by decide +kernel, by decide +kernel⟩, by decide +kernel, tG_at 647 rfl rfl, tG_at 59 (by decide +kernel) rfl, Or.inr (Or.inl rfl), by decide, Or.inr ⟨by decide, rfl, tG_at 646 (by decide +kernel) rfl, Or.inr (tG_at 24 (by decide +kernel) rfl)⟩⟩
set_option maxRecDepth 20000 in
theorem mo_52 : mOK m_52 := ⟨by decide +kernel, ⟨by decide +kernel, by decide +kernel⟩, by decide +kernel, tG_at 639 rfl rfl, tG_at 59 (by decide +kernel) rfl, Or.inr (Or.inl rfl), by decide, Or.inr ⟨by decide, rfl, tG_at 638 (by decide +kernel) rfl, Or.inr (tG_at 22 (by decide +kernel) rfl)⟩⟩
set_option maxRecDepth 20000 in
theorem mo_53 : mOK m_53 := ⟨by decide +kernel, ⟨by decide +kernel, by decide +kernel⟩, by decide +kernel, tG_at 655 rfl rfl, tG_at 59 (by decide +kernel) rfl, Or.inr (Or.inl rfl), by decide, Or.inr ⟨by decide, rfl, tG_at 654 (by decide +kernel) rfl, Or.inr (tG_at 26 (by decide +kernel) rfl)⟩⟩
set_option maxRecDepth 20000 in
theorem mo_54 : mOK m_54 := ⟨by decide +kernel, ⟨by decide +kernel, by decide +kernel⟩, by decide +kernel, tG_at 651 rfl rfl, tG_at 59 (by decide +kernel) rfl, Or.inl rfl, by decide, Or.inr ⟨by decide, rfl, tG_at 650 (by decide +kernel) rfl, Or.inr (tG_at 25 (by decide +kernel) rfl)⟩⟩
set_option maxRecDepth 20000 in
theorem mo_55 : mOK m_55 := ⟨by decide +kernel, ⟨by decide +kernel, by decide +kernel⟩, by decide +kernel, tG_at 619 rfl rfl, tG_at 59 (by decide +kernel) rfl, Or.inl rfl, by decide, Or.inr ⟨by decide, rfl, tG_at 618 (by decide +kernel) rfl, Or.inr (tG_at 17 (by decide +kernel) rfl)⟩⟩
set_option maxRecDepth 20000 in
theorem mo_56 : mOK m_56 := ⟨by decide +kernel, ⟨by decide +kernel, by decide +kernel⟩, by decide +kernel, tG_at 659 rfl rfl, tG_at 59 (by decide +kernel) rfl, Or.inr (Or.inl rfl), by decide, Or.inr ⟨by decide, rfl, tG_at 658 (by decide +kernel) rfl, Or.inr (tG_at 27 (by decide +kernel) rfl)⟩⟩
set_option maxRecDepth 20000 in
theorem mo_57 : mOK m_57 := ⟨by decide +kernel, ⟨by decide +kernel, by decide +kernel⟩, by decide +kernel, tG_at 663 rfl rfl, tG_at 59 (by decide +kernel) rfl, Or.inr (Or.inl rfl), by decide, Or.inr ⟨by decide, rfl, tG_at 662 (by decide +kernel) rfl, Or.inr (tG_at 28 (by decide +kernel) rfl)⟩⟩
set_option maxRecDepth 20000 in
theorem mo_58 : mOK m_58 := ⟨by decide +kernel, ⟨by decide +kernel, by decide +kernel⟩, by decide +kernel, tG_at 667 rfl rfl, tG_at 59 (by decide +kernel) rfl, Or.inr (Or.inl rfl), by decide, Or.inr ⟨by decide, rfl, tG_at 666 (by decide +kernel) rfl, Or.inr (tG_at 29 (by decide +kernel) rfl)⟩⟩
set_option maxRecDepth 20000 in
theorem mo_59 : mOK m_59 := ⟨by decide +kernel, ⟨by decide +kernel, by decide +kernel⟩, by decide +kernel, tG_at 675 rfl rfl, tG_at 59 (by decide +kernel) rfl, Or.inr (Or.inl rfl), by decide, Or.inr ⟨by decide, rfl, tG_at 674 (by decide +kernel) rfl, Or.inr (tG_at 31 (by decide +kernel) rfl)⟩⟩
set_option maxRecDepth 20000 in
theorem mo_60 : mOK m_60 := ⟨by decide +kernel, ⟨by decide +kernel, by decide +kernel⟩, by decide +kernel, tG_at 671 rfl rfl, tG_at 59 (by decide +kernel) rfl, Or.inr (Or.inl rfl), by decide, Or.inr ⟨by decide, rfl, tG_at 670 (by decide +kernel) rfl, Or.inr (tG_at 30 (by decide +kernel) rfl)⟩⟩
set_option maxRecDepth 20000 in
theorem mo_61 : mOK m_61 := ⟨by decide +kernel, ⟨by decide +kernel, by decide +kernel⟩, by decide +kernel, tG_at 679 rfl rfl, tG_at 59 (by decide +kernel) rfl, Or.inr (Or.inl rfl), by decide, Or.inr ⟨by decide, rfl, tG_at 678 (by decide +kernel) rfl, Or.inr (tG_at 32 (by decide +kernel) rfl)⟩⟩
set_option maxRecDepth 20000 in
theorem mo_62 : mOK m_62 := ⟨by decide +kernel, ⟨by decide +kernel, by decide +kernel⟩, by decide +kernel, tG_at 682 rfl rfl, tG_at 59 (by decide +kernel) rfl, Or.inr (Or.inl rfl), by decide, Or.inl ⟨rfl, tG_at 681 (by decide +kernel) rfl⟩⟩
set_option maxRecDepth 20000 in
theorem mo_63 : mOK m_63 := ⟨by decide +kernel, ⟨by decide +kernel, by decide +kernel⟩, by decide +kernel, tG_at 615 rfl rfl, tG_at 59 (by decide +kernel) rfl, Or.inr (Or.inl rfl), by decide, Or.inr ⟨by decide, rfl, tG_at 613 (by decide +kernel) rfl, Or.inr (tG_at 614 (by decide +kernel) rfl)⟩⟩
set_option maxRecDepth 20000 in
theorem mo_64 : mOK m_64 := ⟨by decide +kernel, ⟨by decide +kernel, by decide +kernel⟩, by decide +kernel, tG_at 335 rfl rfl, tG_at 55 (by decide +kernel) rfl, Or.inr (Or.inr rfl), by decide, Or.inr ⟨by decide, rfl, tG_at 333 (by decide +kernel) rfl, Or.inr (tG_at 334 (by decide +kernel) rfl)⟩⟩
set_option maxRecDepth 20000 in
theorem mo_65 : mOK m_65 := ⟨by decide +kernel, ⟨by decide +kernel, by decide +kernel⟩, by decide +kernel, tG_at 339 rfl rfl, tG_at 55 (by decide +kernel) rfl, Or.inr (Or.inl rfl), by decide, Or.inr ⟨by decide, rfl, tG_at 337 (by decide +kernel) rfl, Or.inr (tG_at 338 (by decide +kernel) rfl)⟩⟩
set_option maxRecDepth 20000 in
theorem mo_66 : mOK m_66 := ⟨by decide +kernel, ⟨by decide +kernel, by decide +kernel⟩, by decide +kernel, tG_at 331 rfl rfl, tG_at 53 (by decide +kernel) rfl, Or.inr (Or.inl rfl), by decide, Or.inr ⟨by decide, rfl, tG_at 329 (by decide +kernel) rfl, Or.inr (tG_at 330 (by decide +kernel) rfl)⟩⟩
set_option maxRecDepth 20000 in
theorem mo_67 : mOK m_67 := ⟨by decide +kernel, ⟨by decide +kernel, by decide +kernel⟩, by decide +kernel, tG_at 686 rfl rfl, tG_at 59 (by decide +kernel) rfl, Or.inr (Or.inl rfl), by decide, Or.inr ⟨by decide, rfl, tG_at 684 (by decide +kernel) rfl, Or.inr (tG_at 685 (by decide +kernel) rfl)⟩⟩
set_option maxRecDepth 20000 in
theorem mo_68 : mOK m_68 := ⟨by decide +kernel, ⟨by decide +kernel, by decide +kernel⟩, by decide +kernel, tG_at 343 rfl rfl, tG_at 53 (by decide +kernel) rfl, Or.inr (Or.inl rfl), by decide, Or.inr ⟨by decide, rfl, tG_at 341 (by decide +kernel) rfl, Or.inr (tG_at 342 (by decide +kernel) rfl)⟩⟩
set_option maxRecDepth 20000 in
theorem mo_69 : mOK m_69 := ⟨by decide +kernel, ⟨by decide +kernel, by decide +kernel⟩, by decide +kernel, tG_at 690 rfl rfl, tG_at 59 (by decide +kernel) rfl, Or.inr (Or.inl rfl), by decide, Or.inr ⟨by decide, rfl, tG_at 688 (by decide +kernel) rfl, Or.inr (tG_at 689 (by decide +kernel) rfl)⟩⟩
set_option maxRecDepth 20000 in
theorem mo_70 : mOK m_70 := ⟨by decide +kernel, ⟨by decide +kernel, by decide +kernel⟩, by decide +kernel, tG_at 352 rfl rfl, tG_at 53 (by decide +kernel) rfl, Or.inr (Or.inl rfl), by decide, Or.inr ⟨by decide, rfl, tG_at 351 (by decide +kernel) rfl, Or.inr (tG_at 6 (by decide +kernel) rfl)⟩⟩
set_option maxRecDepth 20000 in
theorem mo_71 : mOK m_71 := ⟨by decide +kernel, ⟨by decide +kernel, by decide +kernel⟩, by decide +kernel, tG_at 362 rfl rfl, tG_at 58 (by decide +kernel) rfl, Or.inr (Or.inl rfl), by decide, Or.inl ⟨rfl, tG_at 361 (by decide +kernel) rfl⟩⟩
set_option maxRecDepth 20000 in
theorem mo_72 : mOK m_72 := ⟨by decide +kernel, ⟨by decide +kernel, by decide +kernel⟩, by decide +kernel, tG_at 365 rfl rfl, tG_at 58 (by decide +kernel) rfl, Or.inr (Or.inl rfl), by decide, Or.inl ⟨rfl, tG_at 364 (by decide +kernel) rfl⟩⟩
set_option maxRecDepth 20000 in
theorem mo_73 : mOK m_73 := ⟨by decide +kernel, ⟨by decide +kernel, by decide +kernel⟩, by decide +kernel, tG_at 359 rfl rfl, tG_at 53 (by decide +kernel) rfl, Or.inr (Or.inl rfl), by decide, Or.inl ⟨rfl, tG_at 358 (by decide +kernel) rfl⟩⟩
set_option maxRecDepth 20000 in
theorem mo_74 : mOK m_74 := ⟨by decide +kernel, ⟨by decide +kernel, by decide +kernel⟩, by decide +kernel, tG_at 356 rfl rfl, tG_at 55 (by decide +kernel) rfl, Or.inr (Or.inl rfl), by decide, Or.inr ⟨by decide, rfl, tG_at 354 (by decide +kernel) rfl, Or.inr (tG_at 355 (by decide +kernel) rfl)⟩⟩
set_option maxRecDepth 20000 in
theorem mo_75 : mOK m_75 := ⟨by decide +kernel, ⟨by decide +kernel, by decide +kernel⟩, by decide +kernel, tG_at 348 rfl rfl, tG_at 53 (by decide +kernel) rfl, Or.inr (Or.inl rfl), by decide, Or.inr ⟨by decide, rfl, tG_at 346 (by decide +kernel) rfl, Or.inr (tG_at 347 (by decide +kernel) rfl)⟩⟩
set_option maxRecDepth 20000 in
theorem mo_76 : mOK m_76 := ⟨by decide +kernel, ⟨by decide +kernel, by decide +kernel⟩, by decide +kernel, tG_at 708 rfl rfl, tG_at 59 (by decide +kernel) rfl, Or.inr (Or.inl rfl), by decide, Or.inl ⟨rfl, tG_at 707 (by decide +kernel) rfl⟩⟩
set_option maxRecDepth 20000 in
theorem mo_77 : mOK m_77 := ⟨by decide +kernel, ⟨by decide +kernel, by decide +kernel⟩, by decide +kernel, tG_at 705 rfl rfl, tG_at 59 (by decide +kernel) rfl, Or.inr (Or.inl rfl), by decide, Or.inl ⟨rfl, tG_at 704 (by decide +kernel) rfl⟩⟩
set_option maxRecDepth 20000 in
theorem mo_78 : mOK m_78 := ⟨by decide +kernel, ⟨by decide +kernel, by decide +kernel⟩, by decide +kernel, tG_at 702 rfl rfl, tG_at 59 (by decide +kernel) rfl, Or.inr (Or.inr rfl), by decide, Or.inr ⟨by decide, rfl, tG_at 701 (by decide +kernel) rfl, Or.inr (tG_at 34 (by decide +kernel) rfl)⟩⟩
set_option maxRecDepth 20000 in
theorem mo_79 : mOK m_79 := ⟨by decide +kernel, ⟨by decide +kernel, by decide +kernel⟩, by decide +kernel, tG_at 698 rfl rfl, tG_at 59 (by decide +kernel) rfl, Or.inr (Or.inl rfl), by decide, Or.inr ⟨by decide, rfl, tG_at 697 (by decide +kernel) rfl, Or.inr (tG_at 33 (by decide +kernel) rfl)⟩⟩
set_option maxRecDepth 20000 in
theorem mo_80 : mOK m_80 := ⟨by decide +kernel, ⟨by decide +kernel, by decide +kernel⟩, by decide +kernel, tG_at 694 rfl rfl, tG_at 59 (by decide +kernel) rfl, Or.inr (Or.inl rfl), by decide, Or.inr ⟨by decide, rfl, tG_at 692 (by decide +kernel) rfl, Or.inr (tG_at 693 (by decide +kernel) rfl)⟩⟩
set_option maxRecDepth 20000 in
theorem mo_81 : mOK m_81 := ⟨by decide +kernel, ⟨by decide +kernel, by decide +kernel⟩, by decide +kernel, tG_at 390 rfl rfl, tG_at 56 (by decide +kernel) rfl, Or.inl rfl, by decide, Or.inr ⟨by decide, rfl, tG_at 389 (by decide +kernel) rfl, Or.inr (tG_at 9 (by decide +kernel) rfl)⟩⟩
set_option maxRecDepth 20000 in
theorem mo_82 : mOK m_82 := ⟨by decide +kernel, ⟨by decide +kernel, by decide +kernel⟩, by decide +kernel, tG_at 385 rfl rfl, tG_at 56 (by decide +kernel) rfl, Or.inl rfl, by decide, Or.inr ⟨by decide, rfl, tG_at 384 (by decide +kernel) rfl, Or.inr (tG_at 8 (by decide +kernel) rfl)⟩⟩
set_option maxRecDepth 20000 in
theorem mo_83 : mOK m_83 := ⟨by decide +kernel, ⟨by decide +kernel, by decide +kernel⟩, by decide +kernel, tG_at 378 rfl rfl, tG_at 56 (by decide +kernel) rfl, Or.inr (Or.inl rfl), by decide, Or.inr ⟨by decide, rfl, tG_at 377 (by decide +kernel) rfl, Or.inr (tG_at 7 (by decide +kernel) rfl)⟩⟩
set_option maxRecDepth 20000 in
theorem mo_84 : mOK m_84 := ⟨by decide +kernel, ⟨by decide +kernel, by decide +kernel⟩, by decide +kernel, tG_at 373 rfl rfl, tG_at 56 (by decide +kernel) rfl, Or.inl rfl, by decide, Or.inr ⟨by decide, rfl, tG_at 371 (by decide +kernel) rfl, Or.inr (tG_at 372 (by decide +kernel) rfl)⟩⟩
set_option maxRecDepth 20000 in
theorem mo_85 : mOK m_85 := ⟨by decide +kernel, ⟨by decide +kernel, by decide +kernel⟩, by decide +kernel, tG_at 394 rfl rfl, tG_at 56 (by decide +kernel) rfl, Or.inr (Or.inl rfl), by decide, Or.inr ⟨by decide, rfl, tG_at 392 (by decide +kernel) rfl, Or.inr (tG_at 393 (by decide +kernel) rfl)⟩⟩
set_option maxRecDepth 20000 in
theorem mo_86 : mOK m_86 := ⟨by decide +kernel, ⟨by decide +kernel, by decide +kernel⟩, by decide +kernel, tG_at 398 rfl rfl, tG_at 56 (by decide +kernel) rfl, Or.inr (Or.inl rfl), by decide, Or.inr ⟨by decide, rfl, tG_at 396 (by decide +kernel) rfl, Or.inr (tG_at 397 (by decide +kernel) rfl)⟩⟩
set_option maxRecDepth 20000 in
theorem mo_87 : mOK m_87 := ⟨by decide +kernel, ⟨by decide +kernel, by decide +kernel⟩, by decide +kernel, tG_at 369 rfl rfl, tG_at 53 (by decide +kernel) rfl, Or.inr (Or.inl rfl), by decide, Or.inr ⟨by decide, rfl, tG_at 367 (by decide +kernel) rfl, Or.inr (tG_at 368 (by decide +kernel) rfl)⟩⟩
set_option maxRecDepth 20000 in
theorem mo_88 : mOK m_88 := ⟨by decide +kernel, ⟨by decide +kernel, by decide +kernel⟩, by decide +kernel, tG_at 724 rfl rfl, tG_at 59 (by decide +kernel) rfl, Or.inr (Or.inl rfl), by decide, Or.inr ⟨by decide, rfl, tG_at 723 (by decide +kernel) rfl, Or.inr (tG_at 37 (by decide +kernel) rfl)⟩⟩
set_option maxRecDepth 20000 in
theorem mo_89 : mOK m_89 := ⟨by decide +kernel, ⟨by decide +kernel, by decide +kernel⟩, by decide +kernel, tG_at 720 rfl rfl, tG_at 59 (by decide +kernel) rfl, Or.inr (Or.inl rfl), by decide, Or.inr ⟨by decide, rfl, tG_at 719 (by decide +kernel) rfl, Or.inr (tG_at 36 (by decide +kernel) rfl)⟩⟩
set_option maxRecDepth 20000 in
theorem mo_90 : mOK m_90 := ⟨by decide +kernel, ⟨by decide +kernel, by decide +kernel⟩, by decide +kernel, tG_at 716 rfl rfl, tG_at 59 (by decide +kernel) rfl, Or.inl rfl, by decide, Or.inr ⟨by decide, rfl, tG_at 715 (by decide +kernel) rfl, Or.inr (tG_at 35 (by decide +kernel) rfl)⟩⟩
set_option maxRecDepth 20000 in
theorem mo_91 : mOK m_91 := ⟨by decide +kernel, ⟨by decide +kernel, by decide +kernel⟩, by decide +kernel, tG_at 712 rfl rfl, tG_at 59 (by decide +kernel) rfl, Or.inr (Or.inl rfl), by decide, Or.inr ⟨by decide, rfl, tG_at 710 (by decide +kernel) rfl, Or.inr (tG_at 711 (by decide +kernel) rfl)⟩⟩
set_option maxRecDepth 20000 in
theorem mo_92 : mOK m_92 := ⟨by decide +kernel, ⟨by decide +kernel, by decide +kernel⟩, by decide +kernel, tG_at 411 rfl rfl, tG_at 56 (by decide +kernel) rfl, Or.inr (Or.inl rfl), by decide, Or.inr ⟨by decide, rfl, tG_at 409 (by decide +kernel) rfl, Or.inr (tG_at 410 (by decide +kernel) rfl)⟩⟩
set_option maxRecDepth 20000 in
theorem mo_93 : mOK m_93 := ⟨by decide +kernel, ⟨by decide +kernel, by decide +kernel⟩, by decide +kernel, tG_at 406 rfl rfl, tG_at 56 (by decide +kernel) rfl, Or.inr (Or.inl rfl), by decide, Or.inr ⟨by decide, rfl, tG_at 404 (by decide +kernel) rfl, Or.inr (tG_at 405 (by decide +kernel) rfl)⟩⟩
set_option maxRecDepth 20000 in
theorem mo_94 : mOK m_94 := ⟨by decide +kernel, ⟨by decide +kernel, by decide +kernel⟩, by decide +kernel, tG_at 402 rfl rfl, tG_at 53 (by decide +kernel) rfl, Or.inr (Or.inl rfl), by decide, Or.inr ⟨by decide, rfl, tG_at 400 (by decide +kernel) rfl, Or.inr (tG_at 401 (by decide +kernel) rfl)⟩⟩
set_option maxRecDepth 20000 in
theorem mo_95 : mOK m_95 := ⟨by decide +kernel, ⟨by decide +kernel, by decide +kernel⟩, by decide +kernel, tG_at 732 rfl rfl, tG_at 59 (by decide +kernel) rfl, Or.inr (Or.inl rfl), by decide, Or.inr ⟨by decide, rfl, tG_at 731 (by decide +kernel) rfl, Or.inr (tG_at 38 (by decide +kernel) rfl)⟩⟩
set_option maxRecDepth 20000 in
theorem mo_96 : mOK m_96 := ⟨by decide +kernel, ⟨by decide +kernel, by decide +kernel⟩, by decide +kernel, tG_at 728 rfl rfl, tG_at 59 (by decide +kernel) rfl, Or.inr (Or.inl rfl), by decide, Or.inr ⟨by decide, rfl, tG_at 726 (by decide +kernel) rfl, Or.inr (tG_at 727 (by decide +kernel) rfl)⟩⟩
set_option maxRecDepth 20000 in
theorem mo_97 : mOK m_97 := ⟨by decide +kernel, ⟨by decide +kernel, by decide +kernel⟩, by decide +kernel, tG_at 430 rfl rfl, tG_at 58 (by decide +kernel) rfl, Or.inr (Or.inl rfl), by decide, Or.inl ⟨rfl, tG_at 429 (by decide +kernel) rfl⟩⟩
set_option maxRecDepth 20000 in
theorem mo_98 : mOK m_98 := ⟨by decide +kernel, ⟨by decide +kernel, by decide +kernel⟩, by decide +kernel, tG_at 435 rfl rfl, tG_at 56 (by decide +kernel) rfl, Or.inr (Or.inl rfl), by decide, Or.inr ⟨by decide, rfl, tG_at 433 (by decide +kernel) rfl, Or.inr (tG_at 434 (by decide +kernel) rfl)⟩⟩
set_option maxRecDepth 20000 in
theorem mo_99 : mOK m_99 := ⟨by decide +kernel, ⟨by decide +kernel, by decide +kernel⟩, by decide +kernel, tG_at 426 rfl rfl, tG_at 57 (by decide +kernel) rfl, Or.inl rfl, by decide, Or.inr ⟨by decide, rfl, tG_at 425 (by decide +kernel) rfl, Or.inr (tG_at 10 (by decide +kernel) rfl)⟩⟩
set_option maxRecDepth 20000 in
theorem mo_100 : mOK m_100 := ⟨by decide +kernel, ⟨by decide +kernel, by decide +kernel⟩, by decide +kernel, tG_at 420 rfl rfl, tG_at 57 (by decide +kernel) rfl, Or.inl rfl, by decide, Or.inr ⟨by decide, rfl, tG_at 418 (by decide +kernel) rfl, Or.inr (tG_at 419 (by decide +kernel) rfl)⟩⟩
set_option maxRecDepth 20000 in
theorem mo_101 : mOK m_101 := ⟨by decide +kernel, ⟨by decide +kernel, by decide +kernel⟩, by decide +kernel, tG_at 440 rfl rfl, tG_at 57 (by decide +kernel) rfl, Or.inr (Or.inl rfl), by decide, Or.inr ⟨by decide, rfl, tG_at 438 (by decide +kernel) rfl, Or.inr (tG_at 439 (by decide +kernel) rfl)⟩⟩
set_option maxRecDepth 20000 in
theorem mo_102 : mOK m_102 := ⟨by decide +kernel, ⟨by decide +kernel, by decide +kernel⟩, by decide +kernel, tG_at 416 rfl rfl, tG_at 53 (by decide +kernel) rfl, Or.inr (Or.inl rfl), by decide, Or.inr ⟨by decide, rfl, tG_at 414 (by decide +kernel) rfl, Or.inr (tG_at 415 (by decide +kernel) rfl)⟩⟩
set_option maxRecDepth 20000 in
theorem mo_103 : mOK m_103 := ⟨by decide +kernel, ⟨by decide +kernel, by decide +kernel⟩, by decide +kernel, tG_at 744 rfl rfl, tG_at 59 (by decide +kernel) rfl, Or.inr (Or.inr rfl), by decide, Or.inr ⟨by decide, rfl, tG_at 743 (by decide +kernel) rfl, Or.inr (tG_at 40 (by decide +kernel) rfl)⟩⟩
set_option maxRecDepth 20000 in
theorem mo_104 : mOK m_104 := ⟨by decide +kernel, ⟨by decide +kernel, by decide +kernel⟩, by decide +kernel, tG_at 740 rfl rfl, tG_at 59 (by decide +kernel) rfl, Or.inl rfl, by decide, Or.inr ⟨by decide, rfl, tG_at 739 (by decide +kernel) rfl, Or.inr (tG_at 39 (by decide +kernel) rfl)⟩⟩
set_option maxRecDepth 20000 in
theorem mo_105 : mOK m_105 := ⟨by decide +kernel, ⟨by decide +kernel, by decide +kernel⟩, by decide +kernel, tG_at 748 rfl rfl, tG_at 59 (by decide +kernel) rfl, Or.inr (Or.inl rfl), by decide, Or.inr ⟨by decide, rfl, tG_at 747 (by decide +kernel) rfl, Or.inr (tG_at 41 (by decide +kernel) rfl)⟩⟩
set_option maxRecDepth 20000 in
theorem mo_106 : mOK m_106 := ⟨by decide +kernel, ⟨by decide +kernel, by decide +kernel⟩, by decide +kernel, tG_at 736 rfl rfl, tG_at 59 (by decide +kernel) rfl, Or.inr (Or.inl rfl), by decide, Or.inr ⟨by decide, rfl, tG_at 734 (by decide +kernel) rfl, Or.inr (tG_at 735 (by decide +kernel) rfl)⟩⟩
set_option maxRecDepth 20000 in
theorem mo_107 : mOK m_107 := ⟨by decide +kernel, ⟨by decide +kernel, by decide +kernel⟩, by decide +kernel, tG_at 448 rfl rfl, tG_at 54 (by decide +kernel) rfl, Or.inr (Or.inr rfl), by decide, Or.inr ⟨by decide, rfl, tG_at 446 (by decide +kernel) rfl, Or.inr (tG_at 447 (by decide +kernel) rfl)⟩⟩
set_option maxRecDepth 20000 in
theorem mo_108 : mOK m_108 := ⟨by decide +kernel, ⟨by decide +kernel, by decide +kernel⟩, by decide +kernel, tG_at 452 rfl rfl, tG_at 55 (by decide +kernel) rfl, Or.inr (Or.inl rfl), by decide, Or.inr ⟨by decide, rfl, tG_at 450 (by decide +kernel) rfl, Or.inr (tG_at 451 (by decide +kernel) rfl)⟩⟩
set_option maxRecDepth 20000 in
theorem mo_109 : mOK m_109 := ⟨by decide +kernel, ⟨by decide +kernel, by decide +kernel⟩, by decide +kernel, tG_at 444 rfl rfl, tG_at 53 (by decide +kernel) rfl, Or.inr (Or.inl rfl), by decide, Or.inr ⟨by decide, rfl, tG_at 442 (by decide +kernel) rfl, Or.inr (tG_at 443 (by decide +kernel) rfl)⟩⟩
set_option maxRecDepth 20000 in
theorem mo_110 : mOK m_110 := ⟨by decide +kernel, ⟨by decide +kernel, by decide +kernel⟩, by decide +kernel, tG_at 756 rfl rfl, tG_at 59 (by decide +kernel) rfl, Or.inr (Or.inr rfl), by decide, Or.inr ⟨by decide, rfl, tG_at 755 (by decide +kernel) rfl, Or.inr (tG_at 42 (by decide +kernel) rfl)⟩⟩
set_option maxRecDepth 20000 in
theorem mo_111 : mOK m_111 := ⟨by decide +kernel, ⟨by decide +kernel, by decide +kernel⟩, by decide +kernel, tG_at 752 rfl rfl, tG_at 59 (by decide +kernel) rfl, Or.inr (Or.inl rfl), by decide, Or.inr ⟨by decide, rfl, tG_at 750 (by decide +kernel) rfl, Or.inr (tG_at 751 (by decide +kernel) rfl)⟩⟩
set_option maxRecDepth 20000 in
theorem mo_112 : mOK m_112 := ⟨by decide +kernel, ⟨by decide +kernel, by decide +kernel⟩, by decide +kernel, tG_at 461 rfl rfl, tG_at 54 (by decide +kernel) rfl, Or.inr (Or.inr rfl), by decide, Or.inr ⟨by decide, rfl, tG_at 459 (by decide +kernel) rfl, Or.inr (tG_at 460 (by decide +kernel) rfl)⟩⟩
set_option maxRecDepth 20000 in
theorem mo_113 : mOK m_113 := ⟨by decide +kernel, ⟨by decide +kernel, by decide +kernel⟩, by decide +kernel, tG_at 457 rfl rfl, tG_at 53 (by decide +kernel) rfl, Or.inr (Or.inl rfl), by decide, Or.inr ⟨by decide, rfl, tG_at 455 (by decide +kernel) rfl, Or.inr (tG_at 456 (by decide +kernel) rfl)⟩⟩
set_option maxRecDepth 20000 in
theorem mo_114 : mOK m_114 := ⟨by decide +kernel, ⟨by decide +kernel, by decide +kernel⟩, by decide +kernel, tG_at 764 rfl rfl, tG_at 59 (by decide +kernel) rfl, Or.inr (Or.inr rfl), by decide, Or.inr ⟨by decide, rfl, tG_at 763 (by decide +kernel) rfl, Or.inr (tG_at 43 (by decide +kernel) rfl)⟩⟩
set_option maxRecDepth 20000 in
theorem mo_115 : mOK m_115 := ⟨by decide +kernel, ⟨by decide +kernel, by decide +kernel⟩, by decide +kernel, tG_at 760 rfl rfl, tG_at 59 (by decide +kernel) rfl, Or.inr (Or.inl rfl), by decide, Or.inr ⟨by decide, rfl, tG_at 758 (by decide +kernel) rfl, Or.inr (tG_at 759 (by decide +kernel) rfl)⟩⟩
set_option maxRecDepth 20000 in
theorem mo_116 : mOK m_116 := ⟨by decide +kernel, ⟨by decide +kernel, by decide +kernel⟩, by decide +kernel, tG_at 473 rfl rfl, tG_at 53 (by decide +kernel) rfl, Or.inr (Or.inr rfl), by decide, Or.inl ⟨rfl, tG_at 472 (by decide +kernel) rfl⟩⟩
set_option maxRecDepth 20000 in
theorem mo_117 : mOK m_117 := ⟨by decide +kernel, ⟨by decide +kernel, by decide +kernel⟩, by decide +kernel, tG_at 470 rfl rfl, tG_at 53 (by decide +kernel) rfl, Or.inr (Or.inl rfl), by decide, Or.inr ⟨by decide, rfl, tG_at 469 (by decide +kernel) rfl, Or.inr (tG_at 11 (by decide +kernel) rfl)⟩⟩
set_option maxRecDepth 20000 in
theorem mo_118 : mOK m_118 := ⟨by decide +kernel, ⟨by decide +kernel, by decide +kernel⟩, by decide +kernel, tG_at 483 rfl rfl, tG_at 55 (by decide +kernel) rfl, Or.inr (Or.inr rfl), by decide, Or.inr ⟨by decide, rfl, tG_at 482 (by decide +kernel) rfl, Or.inr (tG_at 12 (by decide +kernel) rfl)⟩⟩
set_option maxRecDepth 20000 in
theorem mo_119 : mOK m_119 := ⟨by decide +kernel, ⟨by decide +kernel, by decide +kernel⟩, by decide +kernel, tG_at 478 rfl rfl, tG_at 55 (by decide +kernel) rfl, Or.inr (Or.inl rfl), by decide, Or.inr ⟨by decide, rfl, tG_at 476 (by decide +kernel) rfl, Or.inr (tG_at 477 (by decide +kernel) rfl)⟩⟩
set_option maxRecDepth 20000 in
theorem mo_120 : mOK m_120 := ⟨by decide +kernel, ⟨by decide +kernel, by decide +kernel⟩, by decide +kernel, tG_at 466 rfl rfl, tG_at 53 (by decide +kernel) rfl, Or.inr (Or.inl rfl), by decide, Or.inr ⟨by decide, rfl, tG_at 464 (by decide +kernel) rfl, Or.inr (tG_at 465 (by decide +kernel) rfl)⟩⟩
set_option maxRecDepth 20000 in
theorem mo_121 : mOK m_121 := ⟨by decide +kernel, ⟨by decide +kernel, by decide +kernel⟩, by decide +kernel, tG_at 772 rfl rfl, tG_at 59 (by decide +kernel) rfl, Or.inl rfl, by decide, Or.inr ⟨by decide, rfl, tG_at 771 (by decide +kernel) rfl, Or.inr (tG_at 44 (by decide +kernel) rfl)⟩⟩
set_option maxRecDepth 20000 in
theorem mo_122 : mOK m_122 := ⟨by decide +kernel, ⟨by decide +kernel, by decide +kernel⟩, by decide +kernel, tG_at 776 rfl rfl, tG_at 59 (by decide +kernel) rfl, Or.inl rfl, by decide, Or.inr ⟨by decide, rfl, tG_at 775 (by decide +kernel) rfl, Or.inr (tG_at 45 (by decide +kernel) rfl)⟩⟩
set_option maxRecDepth 20000 in
theorem mo_123 : mOK m_123 := ⟨by decide +kernel, ⟨by decide +kernel, by decide +kernel⟩, by decide +kernel, tG_at 780 rfl rfl, tG_at 59 (by decide +kernel) rfl, Or.inr (Or.inr rfl), by decide, Or.inr ⟨by decide, rfl, tG_at 779 (by decide +kernel) rfl, Or.inr (tG_at 46 (by decide +kernel) rfl)⟩⟩
set_option maxRecDepth 20000 in
theorem mo_124 : mOK m_124 := ⟨by decide +kernel, ⟨by decide +kernel, by decide +kernel⟩, by decide +kernel, tG_at 768 rfl rfl, tG_at 59 (by decide +kernel) rfl, Or.inr (Or.inl rfl), by decide, Or.inr ⟨by decide, rfl, tG_at 766 (by decide +kernel) rfl, Or.inr (tG_at 767 (by decide +kernel) rfl)⟩⟩
set_option maxRecDepth 20000 in
theorem mo_125 : mOK m_125 := ⟨by decide +kernel, ⟨by decide +kernel, by decide +kernel⟩, by decide +kernel, tG_at 492 rfl rfl, tG_at 54 (by decide +kernel) rfl, Or.inl rfl, by decide, Or.inr ⟨by decide, rfl, tG_at 490 (by decide +kernel) rfl, Or.inr (tG_at 491 (by decide +kernel) rfl)⟩⟩
set_option maxRecDepth 20000 in
theorem mo_126 : mOK m_126 := ⟨by decide +kernel, ⟨by decide +kernel, by decide +kernel⟩, by decide +kernel, tG_at 488 rfl rfl, tG_at 53 (by decide +kernel) rfl, Or.inr (Or.inl rfl), by decide, Or.inr ⟨by decide, rfl, tG_at 486 (by decide +kernel) rfl, Or.inr (tG_at 487 (by decide +kernel) rfl)⟩⟩
set_option maxRecDepth 20000 in
theorem mo_127 : mOK m_127 := ⟨by decide +kernel, ⟨by decide +kernel, by decide +kernel⟩, by decide +kernel, tG_at 784 rfl rfl, tG_at 59 (by decide +kernel) rfl, Or.inr (Or.inl rfl), by decide, Or.inr ⟨by decide, rfl, tG_at 782 (by decide +kernel) rfl, Or.inr (tG_at 783 (by decide +kernel) rfl)⟩⟩
set_option maxRecDepth 20000 in
theorem mo_128 : mOK m_128 := ⟨by decide +kernel, ⟨by decide +kernel, by decide +kernel⟩, by decide +kernel, tG_at 497 rfl rfl, tG_at 53 (by decide +kernel) rfl, Or.inr (Or.inl rfl), by decide, Or.inr ⟨by decide, rfl, tG_at 495 (by decide +kernel) rfl, Or.inr (tG_at 496 (by decide +kernel) rfl)⟩⟩
set_option maxRecDepth 20000 in
theorem mo_129 : mOK m_129 := ⟨by decide +kernel, ⟨by decide +kernel, by decide +kernel⟩, by decide +kernel, tG_at 788 rfl rfl, tG_at 59 (by decide +kernel) rfl, Or.inr (Or.inl rfl), by decide, Or.inr ⟨by decide, rfl, tG_at 786 (by decide +kernel) rfl, Or.inr (tG_at 787 (by decide +kernel) rfl)⟩⟩
set_option maxRecDepth 20000 in
theorem mo_130 : mOK m_130 := ⟨by decide +kernel, ⟨by decide +kernel, by decide +kernel⟩, by decide +kernel, tG_at 505 rfl rfl, tG_at 54 (by decide +kernel) rfl, Or.inr (Or.inl rfl), by decide, Or.inr ⟨by decide, rfl, tG_at 503 (by decide +kernel) rfl, Or.inr (tG_at 504 (by decide +kernel) rfl)⟩⟩
set_option maxRecDepth 20000 in
theorem mo_131 : mOK m_131 := ⟨by decide +kernel, ⟨by decide +kernel, by decide +kernel⟩, by decide +kernel, tG_at 509 rfl rfl, tG_at 55 (by decide +kernel) rfl, Or.inr (Or.inl rfl), by decide, Or.inr ⟨by decide, rfl, tG_at 507 (by decide +kernel) rfl, Or.inr (tG_at 508 (by decide +kernel) rfl)⟩⟩
set_option maxRecDepth 20000 in
theorem mo_132 : mOK m_132 := ⟨by decide +kernel, ⟨by decide +kernel, by decide +kernel⟩, by decide +kernel, tG_at 513 rfl rfl, tG_at 55 (by decide +kernel) rfl, Or.inr (Or.inl rfl), by decide, Or.inr ⟨by decide, rfl, tG_at 511 (by decide +kernel) rfl, Or.inr (tG_at 512 (by decide +kernel) rfl)⟩⟩
set_option maxRecDepth 20000 in
theorem mo_133 : mOK m_133 := ⟨by decide +kernel, ⟨by decide +kernel, by decide +kernel⟩, by decide +kernel, tG_at 518 rfl rfl, tG_at 55 (by decide +kernel) rfl, Or.inr (Or.inl rfl), by decide, Or.inr ⟨by decide, rfl, tG_at 516 (by decide +kernel) rfl, Or.inr (tG_at 517 (by decide +kernel) rfl)⟩⟩
set_option maxRecDepth 20000 in
theorem mo_134 : mOK m_134 := ⟨by decide +kernel, ⟨by decide +kernel, by decide +kernel⟩, by decide +kernel, tG_at 501 rfl rfl, tG_at 53 (by decide +kernel) rfl, Or.inr (Or.inl rfl), by decide, Or.inr ⟨by decide, rfl, tG_at 499 (by decide +kernel) rfl, Or.inr (tG_at 500 (by decide +kernel) rfl)⟩⟩
set_option maxRecDepth 20000 in
theorem mo_135 : mOK m_135 := ⟨by decide +kernel, ⟨by decide +kernel, by decide +kernel⟩, by decide +kernel, tG_at 796 rfl rfl, tG_at 59 (by decide +kernel) rfl, Or.inr (Or.inl rfl), by decide, Or.inr ⟨by decide, rfl, tG_at 795 (by decide +kernel) rfl, Or.inr (tG_at 47 (by decide +kernel) rfl)⟩⟩
set_option maxRecDepth 20000 in
theorem mo_136 : mOK m_136 := ⟨by decide +kernel, ⟨by decide +kernel, by decide +kernel⟩, by decide +kernel, tG_at 800 rfl rfl, tG_at 59 (by decide +kernel) rfl, Or.inr (Or.inl rfl), by decide, Or.inr ⟨by decide, rfl, tG_at 799 (by decide +kernel) rfl, Or.inr (tG_at 48 (by decide +kernel) rfl)⟩⟩
set_option maxRecDepth 20000 in
theorem mo_137 : mOK m_137 := ⟨by decide +kernel, ⟨by decide +kernel, by decide +kernel⟩, by decide +kernel, tG_at 804 rfl rfl, tG_at 59 (by decide +kernel) rfl, Or.inr (Or.inl rfl), by decide, Or.inr ⟨by decide, rfl, tG_at 803 (by decide +kernel) rfl, Or.inr (tG_at 49 (by decide +kernel) rfl)⟩⟩
set_option maxRecDepth 20000 in
theorem mo_138 : mOK m_138 := ⟨by decide +kernel, ⟨by decide +kernel, by decide +kernel⟩, by decide +kernel, tG_at 808 rfl rfl, tG_at 59 (by decide +kernel) rfl, Or.inr (Or.inl rfl), by decide, Or.inr ⟨by decide, rfl, tG_at 807 (by decide +kernel) rfl, Or.inr (tG_at 50 (by decide +kernel) rfl)⟩⟩
set_option maxRecDepth 20000 in
theorem mo_139 : mOK m_139 := ⟨by decide +kernel, ⟨by decide +kernel, by decide +kernel⟩, by decide +kernel, tG_at 812 rfl rfl, tG_at 59 (by decide +kernel) rfl, Or.inr (Or.inl rfl), by decide, Or.inr ⟨by decide, rfl, tG_at 811 (by decide +kernel) rfl, Or.inr (tG_at 51 (by decide +kernel) rfl)⟩⟩
set_option maxRecDepth 20000 in
theorem mo_140 : mOK m_140 := ⟨by decide +kernel, ⟨by decide +kernel, by decide +kernel⟩, by decide +kernel, tG_at 792 rfl rfl, tG_at 59 (by decide +kernel) rfl, Or.inr (Or.inl rfl), by decide, Or.inr ⟨by decide, rfl, tG_at 790 (by decide +kernel) rfl, Or.inr (tG_at 791 (by decide +kernel) rfl)⟩⟩
theorem m_ok : ∀ y, y < 141 → mOK (mI y) := by
  have h : ∀ r ∈ mT.take 141, mOK r := by
    show ∀ r ∈ [m_0, m_1, m_2, m_3, m_4, m_5, m_6, m_7, m_8, m_9, m_10, m_11, m_12, m_13, m_14, m_15, m_16, m_17, m_18, m_19, m_20, m_21, m_22, m_23, m_24, m_25, m_26, m_27, m_28, m_29, m_30, m_31, m_32, m_33, m_34, m_35, m_36, m_37, m_38, m_39, m_40, m_41, m_42, m_43, m_44, m_45, m_46, m_47, m_48, m_49, m_50, m_51, m_52, m_53, m_54, m_55, m_56, m_57, m_58, m_59, m_60, m_61, m_62, m_63, m_64, m_65, m_66, m_67, m_68, m_69, m_70, m_71, m_72, m_73, m_74, m_75, m_76, m_77, m_78, m_79, m_80, m_81, m_82, m_83, m_84, m_85, m_86, m_87, m_88, m_89, m_90, m_91, m_92, m_93, m_94, m_95, m_96, m_97, m_98, m_99, m_100, m_101, m_102, m_103, m_104, m_105, m_106, m_107, m_108, m_109, m_110, m_111, m_112, m_113, m_114, m_115, m_116, m_117, m_118, m_119, m_120, m_121, m_122, m_123, m_124, m_125, m_126, m_127, m_128, m_129, m_130, m_131, m_132, m_133, m_134, m_135, m_136, m_137, m_138, m_139, m_140], mOK r
    exact List.forall_mem_cons.mpr ⟨mo_0, List.forall_mem_cons.mpr ⟨mo_1, List.forall_mem_cons.mpr ⟨mo_2, List.forall_mem_cons.mpr ⟨mo_3, List.forall_mem_cons.mpr ⟨mo_4, List.forall_mem_cons.mpr ⟨mo_5, List.forall_mem_cons.mpr ⟨mo_6, List.forall_mem_cons.mpr ⟨mo_7, List.forall_mem_cons.mpr ⟨mo_8, List.forall_mem_cons.mpr ⟨mo_9, List.forall_mem_cons.mpr ⟨mo_10, List.forall_mem_cons.mpr ⟨mo_11, List.forall_mem_cons.mpr ⟨mo_12, List.forall_mem_cons.mpr ⟨mo_13, List.forall_mem_cons.mpr ⟨mo_14, List.forall_mem_cons.mpr ⟨mo_15, List.forall_mem_cons.mpr ⟨mo_16, List.forall_mem_cons.mpr ⟨mo_17, List.forall_mem_cons.mpr ⟨mo_18, List.forall_mem_cons.mpr ⟨mo_19, List.forall_mem_cons.mpr ⟨mo_20, List.forall_mem_cons.mpr ⟨mo_21, List.forall_mem_cons.mpr ⟨mo_22, List.forall_mem_cons.mpr ⟨mo_23, List.forall_mem_cons.mpr ⟨mo_24, List.forall_mem_cons.mpr ⟨mo_25, List.forall_mem_cons.mpr ⟨mo_26, List.forall_mem_cons.mpr ⟨mo_27, List.forall_mem_cons.mpr ⟨mo_28, List.forall_mem_cons.mpr ⟨mo_29, List.forall_mem_cons.mpr ⟨mo_30, List.forall_mem_cons.mpr ⟨mo_31, List.forall_mem_cons.mpr ⟨mo_32, List.forall_mem_cons.mpr ⟨mo_33, List.forall_mem_cons.mpr ⟨mo_34, List.forall_mem_cons.mpr ⟨mo_35, List.forall_mem_cons.mpr ⟨mo_36, List.forall_mem_cons.mpr ⟨mo_37, List.forall_mem_cons.mpr ⟨mo_38, List.forall_mem_cons.mpr ⟨mo_39, List.forall_mem_cons.mpr ⟨mo_40, List.forall_mem_cons.mpr ⟨mo_41, List.forall_mem_cons.mpr ⟨mo_42, List.forall_mem_cons.mpr ⟨mo_43, List.forall_mem_cons.mpr ⟨mo_44, List.forall_mem_cons.mpr ⟨mo_45, List.forall_mem_cons.mpr ⟨mo_46, List.forall_mem_cons.mpr ⟨mo_47, List.forall_mem_cons.mpr ⟨mo_48, List.forall_mem_cons.mpr ⟨mo_49, List.forall_mem_cons.mpr ⟨mo_50, List.forall_mem_cons.mpr ⟨mo_51, List.forall_mem_cons.mpr ⟨mo_52, List.forall_mem_cons.mpr ⟨mo_53, List.forall_mem_cons.mpr ⟨mo_54, List.forall_mem_cons.mpr ⟨mo_55, List.forall_mem_cons.mpr ⟨mo_56, List.forall_mem_cons.mpr ⟨mo_57, List.forall_mem_cons.mpr ⟨mo_58, List.forall_mem_cons.mpr ⟨mo_59, List.forall_mem_cons.mpr ⟨mo_60, List.forall_mem_cons.mpr ⟨mo_61, List.forall_mem_cons.mpr ⟨mo_62, List.forall_mem_cons.mpr ⟨mo_63, List.forall_mem_cons.mpr ⟨mo_64, List.forall_mem_cons.mpr ⟨mo_65, List.forall_mem_cons.mpr ⟨mo_66, List.forall_mem_cons.mpr ⟨mo_67, List.forall_mem_cons.mpr ⟨mo_68, List.forall_mem_cons.mpr ⟨mo_69, List.forall_mem_cons.mpr ⟨mo_70, List.forall_mem_cons.mpr ⟨mo_71, List.forall_mem_cons.mpr ⟨mo_72, List.forall_mem_cons.mpr ⟨mo_73, List.forall_mem_cons.mpr ⟨mo_74, List.forall_mem_cons.mpr ⟨mo_75, List.forall_mem_cons.mpr ⟨mo_76, List.forall_mem_cons.mpr ⟨mo_77, List.forall_mem_cons.mpr ⟨mo_78, List.forall_mem_cons.mpr ⟨mo_79, List.forall_mem_cons.mpr ⟨mo_80, List.forall_mem_cons.mpr ⟨mo_81, List.forall_mem_cons.mpr ⟨mo_82, List.forall_mem_cons.mpr ⟨mo_83, List.forall_mem_cons.mpr ⟨mo_84, List.forall_mem_cons.mpr ⟨mo_85, List.forall_mem_cons.mpr ⟨mo_86, List.forall_mem_cons.mpr ⟨mo_87, List.forall_mem_cons.mpr ⟨mo_88, List.forall_mem_cons.mpr ⟨mo_89, List.forall_mem_cons.mpr ⟨mo_90, List.forall_mem_cons.mpr ⟨mo_91, List.forall_mem_cons.mpr ⟨mo_92, List.forall_mem_cons.mpr ⟨mo_93, List.forall_mem_cons.mpr ⟨mo_94, List.forall_mem_cons.mpr ⟨mo_95, List.forall_mem_cons.mpr ⟨mo_96, List.forall_mem_cons.mpr ⟨mo_97, List.forall_mem_cons.mpr ⟨mo_98, List.forall_mem_cons.mpr ⟨mo_99, List.forall_mem_cons.mpr ⟨mo_100, List.forall_mem_cons.mpr ⟨mo_101, List.forall_mem_cons.mpr ⟨mo_102, List.forall_mem_cons.mpr ⟨mo_103, List.forall_mem_cons.mpr ⟨mo_104, List.forall_mem_cons.mpr ⟨mo_105, List.forall_mem_cons.mpr ⟨mo_106, List.forall_mem_cons.mpr ⟨mo_107, List.forall_mem_cons.mpr ⟨mo_108, List.forall_mem_cons.mpr ⟨mo_109, List.forall_mem_cons.mpr ⟨mo_110, List.forall_mem_cons.mpr ⟨mo_111, List.forall_mem_cons.mpr ⟨mo_112, List.forall_mem_cons.mpr ⟨mo_113, List.forall_mem_cons.mpr ⟨mo_114, List.forall_mem_cons.mpr ⟨mo_115, List.forall_mem_cons.mpr ⟨mo_116, List.forall_mem_cons.mpr ⟨mo_117, List.forall_mem_cons.mpr ⟨mo_118, List.forall_mem_cons.mpr ⟨mo_119, List.forall_mem_cons.mpr ⟨mo_120, List.forall_mem_cons.mpr ⟨mo_121, List.forall_mem_cons.mpr ⟨mo_122, List.forall_mem_cons.mpr ⟨mo_123, List.forall_mem_cons.mpr ⟨mo_124, List.forall_mem_cons.mpr ⟨mo_125, List.forall_mem_cons.mpr ⟨mo_126, List.forall_mem_cons.mpr ⟨mo_127, List.forall_mem_cons.mpr ⟨mo_128, List.forall_mem_cons.mpr ⟨mo_129, List.forall_mem_cons.mpr ⟨mo_130, List.forall_mem_cons.mpr ⟨mo_131, List.forall_mem_cons.mpr ⟨mo_132, List.forall_mem_cons.mpr ⟨mo_133, List.forall_mem_cons.mpr ⟨mo_134, List.forall_mem_cons.mpr ⟨mo_135, List.forall_mem_cons.mpr ⟨mo_136, List.forall_mem_cons.mpr ⟨mo_137, List.forall_mem_cons.mpr ⟨mo_138, List.forall_mem_cons.mpr ⟨mo_139, List.forall_mem_cons.mpr ⟨mo_140, fun _ h => absurd h List.not_mem_nil⟩⟩⟩⟩⟩⟩⟩⟩⟩⟩⟩⟩⟩⟩⟩⟩⟩⟩⟩⟩⟩⟩⟩⟩⟩⟩⟩⟩⟩⟩⟩⟩⟩⟩⟩⟩⟩⟩⟩⟩⟩⟩⟩⟩⟩⟩⟩⟩⟩⟩⟩⟩⟩⟩⟩⟩⟩⟩⟩⟩⟩⟩⟩⟩⟩⟩⟩⟩⟩⟩⟩⟩⟩⟩⟩⟩⟩⟩⟩⟩⟩⟩⟩⟩⟩⟩⟩⟩⟩⟩⟩⟩⟩⟩⟩⟩⟩⟩⟩⟩⟩⟩⟩⟩⟩⟩⟩⟩⟩⟩⟩⟩⟩⟩⟩⟩⟩⟩⟩⟩⟩⟩⟩⟩⟩⟩⟩⟩⟩⟩⟩⟩⟩⟩⟩⟩⟩⟩⟩⟩⟩
  intro y hy
  have h1 : y < (mT.take 141).length := hy
  have h2 : mI y = (mT.take 141)[y] := by
    have h3 : mT[y]? = some (mT.take 141)[y] := by
      rw [← List.getElem?_eq_getElem h1, List.getElem?_take_of_lt hy]
    simp [mI, List.getD, h3]
  rw [h2]
  exact h _ (List.getElem_mem h1)
/-- how long an instruction is -/
def lenI (e : AE) : Nat := match e.1 with
  | .iload _ | .aload _ | .istore _ | .astore _ | .bipush _ | .newarray _ => 2
  | .sipush _ | .ldc_w _ | .iinc _ _ | .ifCond _ _ | .if_icmp _ _ | .goto _ | .getfield _ | .putfield _ | .invokevirtual _ | .invokespecial _ | .invokestatic _ | .new _ | .anewarray _ => 3
  | .tableswitch _ _ _ _ => e.2.1.1
  | _ => 1
def okRoom (y a : Nat) : Bool := decide (a < 141) && decide (mFr a + 1 ≤ mFr y) && decide (8 + (mML a + 11) + mLo a ≤ mLo y)
def okI (y pc : Nat) (e : AE) : Bool := match e.1 with
  | .iconst n => decide (Int32.ofInt n = e.2.2.2)
  | .bipush n => decide ((Int8.ofInt n).toInt32 = e.2.2.2)
  | .sipush n => decide ((Int16.ofInt n).toInt32 = e.2.2.2)
  | .ldc_w i => decide (lw_tbl[e.2.1.2.2.2]? = some (.constant (mNm y).cls i e.2.2.2))
  | .iinc _ n => decide (Int32.ofInt n = e.2.2.2)
  | .ifCond _ off => decide ((pc : Int) + off = (e.2.1.2.1 : Int))
  | .if_icmp _ off => decide ((pc : Int) + off = (e.2.1.2.1 : Int))
  | .goto off => decide ((pc : Int) + off = (e.2.1.2.1 : Int))
  | .tableswitch d lo hi offs => decide (lo = 0) && decide (hi + 1 = (e.2.2.1.length : Int)) && decide ((pc : Int) + d = (e.2.1.2.1 : Int)) && decide (offs.toList.map (fun o => (pc : Int) + o) = e.2.2.1.map (fun (t : Nat) => (t : Int)))
  | .getfield i => match cls[e.2.1.2.1]? with
    | some r => decide (e.2.1.2.2.1 < r.2.2) && decide (lw_tbl[e.2.1.2.2.2]? = some (.fieldLink (mNm y).cls i (r.2.1 e.2.1.2.2.1).1 (r.2.1 e.2.1.2.2.1).2.1 (r.2.1 e.2.1.2.2.1).2.2.1))
    | none => false
  | .putfield i => match cls[e.2.1.2.1]? with
    | some r => decide (e.2.1.2.2.1 < r.2.2) && decide (lw_tbl[e.2.1.2.2.2]? = some (.fieldLink (mNm y).cls i (r.2.1 e.2.1.2.2.1).1 (r.2.1 e.2.1.2.2.1).2.1 (r.2.1 e.2.1.2.2.1).2.2.1)) && ((r.2.1 e.2.1.2.2.1).2.2.2 == false || (decide ((mNm y).name = "<init>") && decide ((r.2.1 e.2.1.2.2.1).1 = (mNm y).cls)))
    | none => false
  | .new i => match cls[e.2.1.2.1]? with
    | some r => decide (lw_tbl[e.2.1.2.2.2]? = some (.classLink (mNm y).cls i r.1))
    | none => false
  | .anewarray i => decide (lw_tbl[e.2.1.2.2.2]? = some (.classLink (mNm y).cls i cN1))
  | .invokestatic i => okRoom y e.2.1.2.1 && decide (e.2.1.2.2.1 = mNa e.2.1.2.1) && decide (mRc e.2.1.2.1 = 99) && (match e.2.2.1 with
    | [0] => decide (lw_tbl[e.2.1.2.2.2]? = some (.methodLink (mNm y).cls i (mNm e.2.1.2.1)))
    | [1] => decide (lw_tbl[e.2.1.2.2.2]? = some (.methodLinkNest (mNm y).cls i (mNm e.2.1.2.1) cN4))
    | _ => false)
  | .invokevirtual i => okRoom y e.2.1.2.1 && decide (e.2.1.2.2.1 = mNa e.2.1.2.1) && decide (mRc e.2.1.2.1 < 99) && decide ((mNm e.2.1.2.1).name ≠ "<init>") && decide (e.2.2.1 = [2]) && decide (lw_tbl[e.2.1.2.2.2]? = some (.methodLink (mNm y).cls i (mNm e.2.1.2.1)))
  | .invokespecial i => match e.2.2.1 with
    | [3] => okRoom y e.2.1.2.1 && decide (e.2.1.2.2.1 = mNa e.2.1.2.1) && decide (mRc e.2.1.2.1 < 99) && decide (mRt e.2.1.2.1 = none) && decide ((mNm e.2.1.2.1).name = "<init>") && decide (lw_tbl[e.2.1.2.2.2]? = some (.methodLink (mNm y).cls i (mNm e.2.1.2.1)))
    | [4] => decide (1 ≤ mFr y) && decide (20 ≤ mLo y) && decide (lw_tbl[e.2.1.2.2.2]? = some (.methodLink (mNm y).cls i objectInit))
    | _ => false
  | _ => true
def okB (y pc : Nat) (e : AE) : Bool := decide (decode (mBy y) pc = .ok (e.1, lenI e)) && okI y pc e
def okM (y a n : Nat) : Bool := (List.range n).all fun j => match (pg y)[a + j]? with
  | some (some e) => okB y (a + j) e
  | _ => true
theorem ok_0_0 : okM 0 0 26 = true := by decide +kernel
theorem ok_1_0 : okM 1 0 66 = true := by decide +kernel
theorem ok_2_0 : okM 2 0 39 = true := by decide +kernel
theorem ok_3_0 : okM 3 0 37 = true := by decide +kernel
theorem ok_4_0 : okM 4 0 27 = true := by decide +kernel
theorem ok_5_0 : okM 5 0 4 = true := by decide +kernel
theorem ok_6_0 : okM 6 0 14 = true := by decide +kernel
theorem ok_7_0 : okM 7 0 39 = true := by decide +kernel
theorem ok_8_0 : okM 8 0 9 = true := by decide +kernel
theorem ok_9_0 : okM 9 0 24 = true := by decide +kernel
theorem ok_10_0 : okM 10 0 34 = true := by decide +kernel
theorem ok_11_0 : okM 11 0 98 = true := by decide +kernel
theorem ok_12_0 : okM 12 0 20 = true := by decide +kernel
theorem ok_13_0 : okM 13 0 85 = true := by decide +kernel
theorem ok_14_0 : okM 14 0 16 = true := by decide +kernel
theorem ok_15_0 : okM 15 0 76 = true := by decide +kernel
theorem ok_16_0 : okM 16 0 100 = true := by decide +kernel
theorem ok_16_100 : okM 16 100 15 = true := by decide +kernel
theorem ok_17_0 : okM 17 0 75 = true := by decide +kernel
theorem ok_18_0 : okM 18 0 100 = true := by decide +kernel
theorem ok_18_100 : okM 18 100 18 = true := by decide +kernel
theorem ok_19_0 : okM 19 0 94 = true := by decide +kernel
theorem ok_20_0 : okM 20 0 17 = true := by decide +kernel
theorem ok_21_0 : okM 21 0 36 = true := by decide +kernel
theorem ok_22_0 : okM 22 0 21 = true := by decide +kernel
theorem ok_23_0 : okM 23 0 53 = true := by decide +kernel
theorem ok_24_0 : okM 24 0 74 = true := by decide +kernel
theorem ok_25_0 : okM 25 0 16 = true := by decide +kernel
theorem ok_26_0 : okM 26 0 8 = true := by decide +kernel
theorem ok_27_0 : okM 27 0 9 = true := by decide +kernel
theorem ok_28_0 : okM 28 0 18 = true := by decide +kernel
theorem ok_29_0 : okM 29 0 49 = true := by decide +kernel
theorem ok_30_0 : okM 30 0 29 = true := by decide +kernel
theorem ok_31_0 : okM 31 0 65 = true := by decide +kernel
theorem ok_32_0 : okM 32 0 16 = true := by decide +kernel
theorem ok_33_0 : okM 33 0 50 = true := by decide +kernel
theorem ok_34_0 : okM 34 0 51 = true := by decide +kernel
theorem ok_35_0 : okM 35 0 64 = true := by decide +kernel
theorem ok_36_0 : okM 36 0 32 = true := by decide +kernel
theorem ok_37_0 : okM 37 0 67 = true := by decide +kernel
theorem ok_38_0 : okM 38 0 24 = true := by decide +kernel
theorem ok_39_0 : okM 39 0 30 = true := by decide +kernel
theorem ok_40_0 : okM 40 0 49 = true := by decide +kernel
theorem ok_41_0 : okM 41 0 12 = true := by decide +kernel
theorem ok_42_0 : okM 42 0 17 = true := by decide +kernel
theorem ok_43_0 : okM 43 0 30 = true := by decide +kernel
theorem ok_44_0 : okM 44 0 54 = true := by decide +kernel
theorem ok_45_0 : okM 45 0 100 = true := by decide +kernel
theorem ok_45_100 : okM 45 100 46 = true := by decide +kernel
theorem ok_46_0 : okM 46 0 25 = true := by decide +kernel
theorem ok_47_0 : okM 47 0 31 = true := by decide +kernel
theorem ok_48_0 : okM 48 0 100 = true := by decide +kernel
theorem ok_48_100 : okM 48 100 13 = true := by decide +kernel
theorem ok_49_0 : okM 49 0 64 = true := by decide +kernel
theorem ok_50_0 : okM 50 0 23 = true := by decide +kernel
theorem ok_51_0 : okM 51 0 28 = true := by decide +kernel
theorem ok_52_0 : okM 52 0 58 = true := by decide +kernel
theorem ok_53_0 : okM 53 0 65 = true := by decide +kernel
theorem ok_54_0 : okM 54 0 89 = true := by decide +kernel
theorem ok_55_0 : okM 55 0 62 = true := by decide +kernel
theorem ok_56_0 : okM 56 0 37 = true := by decide +kernel
theorem ok_57_0 : okM 57 0 35 = true := by decide +kernel
theorem ok_58_0 : okM 58 0 35 = true := by decide +kernel
theorem ok_59_0 : okM 59 0 48 = true := by decide +kernel
theorem ok_60_0 : okM 60 0 35 = true := by decide +kernel
theorem ok_61_0 : okM 61 0 46 = true := by decide +kernel
theorem ok_62_0 : okM 62 0 26 = true := by decide +kernel
theorem ok_63_0 : okM 63 0 100 = true := by decide +kernel
theorem ok_63_100 : okM 63 100 32 = true := by decide +kernel
theorem ok_64_0 : okM 64 0 15 = true := by decide +kernel
theorem ok_65_0 : okM 65 0 31 = true := by decide +kernel
theorem ok_66_0 : okM 66 0 72 = true := by decide +kernel
theorem ok_67_0 : okM 67 0 85 = true := by decide +kernel
theorem ok_68_0 : okM 68 0 62 = true := by decide +kernel
theorem ok_69_0 : okM 69 0 58 = true := by decide +kernel
theorem ok_70_0 : okM 70 0 37 = true := by decide +kernel
theorem ok_71_0 : okM 71 0 11 = true := by decide +kernel
theorem ok_72_0 : okM 72 0 11 = true := by decide +kernel
theorem ok_73_0 : okM 73 0 23 = true := by decide +kernel
theorem ok_74_0 : okM 74 0 67 = true := by decide +kernel
theorem ok_75_0 : okM 75 0 25 = true := by decide +kernel
theorem ok_76_0 : okM 76 0 11 = true := by decide +kernel
theorem ok_77_0 : okM 77 0 25 = true := by decide +kernel
theorem ok_78_0 : okM 78 0 77 = true := by decide +kernel
theorem ok_79_0 : okM 79 0 49 = true := by decide +kernel
theorem ok_80_0 : okM 80 0 45 = true := by decide +kernel
theorem ok_81_0 : okM 81 0 40 = true := by decide +kernel
theorem ok_82_0 : okM 82 0 100 = true := by decide +kernel
theorem ok_82_100 : okM 82 100 11 = true := by decide +kernel
theorem ok_83_0 : okM 83 0 77 = true := by decide +kernel
theorem ok_84_0 : okM 84 0 54 = true := by decide +kernel
theorem ok_85_0 : okM 85 0 7 = true := by decide +kernel
theorem ok_86_0 : okM 86 0 24 = true := by decide +kernel
theorem ok_87_0 : okM 87 0 66 = true := by decide +kernel
theorem ok_88_0 : okM 88 0 55 = true := by decide +kernel
theorem ok_89_0 : okM 89 0 97 = true := by decide +kernel
theorem ok_90_0 : okM 90 0 84 = true := by decide +kernel
theorem ok_91_0 : okM 91 0 79 = true := by decide +kernel
theorem ok_92_0 : okM 92 0 11 = true := by decide +kernel
theorem ok_93_0 : okM 93 0 47 = true := by decide +kernel
theorem ok_94_0 : okM 94 0 30 = true := by decide +kernel
theorem ok_95_0 : okM 95 0 34 = true := by decide +kernel
theorem ok_96_0 : okM 96 0 45 = true := by decide +kernel
theorem ok_97_0 : okM 97 0 11 = true := by decide +kernel
theorem ok_98_0 : okM 98 0 55 = true := by decide +kernel
theorem ok_99_0 : okM 99 0 89 = true := by decide +kernel
theorem ok_100_0 : okM 100 0 78 = true := by decide +kernel
theorem ok_101_0 : okM 101 0 40 = true := by decide +kernel
theorem ok_102_0 : okM 102 0 80 = true := by decide +kernel
theorem ok_103_0 : okM 103 0 75 = true := by decide +kernel
theorem ok_104_0 : okM 104 0 100 = true := by decide +kernel
theorem ok_104_100 : okM 104 100 20 = true := by decide +kernel
theorem ok_105_0 : okM 105 0 58 = true := by decide +kernel
theorem ok_106_0 : okM 106 0 100 = true := by decide +kernel
theorem ok_106_100 : okM 106 100 44 = true := by decide +kernel
theorem ok_107_0 : okM 107 0 10 = true := by decide +kernel
theorem ok_108_0 : okM 108 0 70 = true := by decide +kernel
theorem ok_109_0 : okM 109 0 49 = true := by decide +kernel
theorem ok_110_0 : okM 110 0 92 = true := by decide +kernel
theorem ok_111_0 : okM 111 0 82 = true := by decide +kernel
theorem ok_112_0 : okM 112 0 63 = true := by decide +kernel
theorem ok_113_0 : okM 113 0 61 = true := by decide +kernel
theorem ok_114_0 : okM 114 0 41 = true := by decide +kernel
theorem ok_115_0 : okM 115 0 60 = true := by decide +kernel
theorem ok_116_0 : okM 116 0 15 = true := by decide +kernel
theorem ok_117_0 : okM 117 0 28 = true := by decide +kernel
theorem ok_118_0 : okM 118 0 54 = true := by decide +kernel
theorem ok_119_0 : okM 119 0 41 = true := by decide +kernel
theorem ok_120_0 : okM 120 0 28 = true := by decide +kernel
theorem ok_121_0 : okM 121 0 32 = true := by decide +kernel
theorem ok_122_0 : okM 122 0 32 = true := by decide +kernel
theorem ok_123_0 : okM 123 0 76 = true := by decide +kernel
theorem ok_124_0 : okM 124 0 100 = true := by decide +kernel
theorem ok_124_100 : okM 124 100 41 = true := by decide +kernel
theorem ok_125_0 : okM 125 0 47 = true := by decide +kernel
theorem ok_126_0 : okM 126 0 50 = true := by decide +kernel
theorem ok_127_0 : okM 127 0 26 = true := by decide +kernel
theorem ok_128_0 : okM 128 0 37 = true := by decide +kernel
theorem ok_129_0 : okM 129 0 31 = true := by decide +kernel
theorem ok_130_0 : okM 130 0 31 = true := by decide +kernel
theorem ok_131_0 : okM 131 0 48 = true := by decide +kernel
theorem ok_132_0 : okM 132 0 29 = true := by decide +kernel
theorem ok_133_0 : okM 133 0 27 = true := by decide +kernel
theorem ok_134_0 : okM 134 0 100 = true := by decide +kernel
theorem ok_134_100 : okM 134 100 15 = true := by decide +kernel
theorem ok_135_0 : okM 135 0 51 = true := by decide +kernel
theorem ok_136_0 : okM 136 0 48 = true := by decide +kernel
theorem ok_137_0 : okM 137 0 35 = true := by decide +kernel
theorem ok_138_0 : okM 138 0 27 = true := by decide +kernel
theorem ok_139_0 : okM 139 0 36 = true := by decide +kernel
theorem ok_140_0 : okM 140 0 100 = true := by decide +kernel
theorem ok_140_100 : okM 140 100 20 = true := by decide +kernel
theorem ok_141_0 : okM 141 0 100 = true := by decide +kernel
theorem ok_141_100 : okM 141 100 100 = true := by decide +kernel
theorem ok_141_200 : okM 141 200 100 = true := by decide +kernel
theorem ok_141_300 : okM 141 300 100 = true := by decide +kernel
theorem ok_141_400 : okM 141 400 100 = true := by decide +kernel
theorem ok_141_500 : okM 141 500 88 = true := by decide +kernel

/-- X5_wide -/
theorem hd_X5_wide : yX5_wide.cls = yX5_wide.cls ∧ yX5_wide.cls ≠ "java/lang/invoke/MethodHandle" ∧ yX5_wide.cls ≠ "java/lang/invoke/VarHandle" ∧ (parseMethodDescriptor yX5_wide.desc).map (fun d => d.parameters.length) = some 0 := by decide +kernel
def f5_wide (τ : Sg) : Int32 := τ.1 0
set_option maxHeartbeats 400000 in
set_option maxRecDepth 100000 in
theorem m5_wide (l : Launch) (D : va_G) (cA : ClassId) (ad : Nat → Nat) (τ ρ π γ : Sg) : Met l yX5_wide (wM yX5_wide cX5_wide 1 (some .int)) ({ frames := 0, cells := 0, slots := 0, locals := 0 }) (va_Pc [.ref (ad 1)] (pS D cA ad τ ρ π γ)) (QcRead (f5_wide τ)) 0 0 noA := by
  refine sy_of (by decide) (Nat.le_of_ble_eq_true rfl) ?_
  intro p e s m below meth c ls C hr hlk hK hN hP hl
  obtain ⟨hx, hb, hml, hown, hts⟩ := id C
  have htA : ∀ w ∈ wA, w.before ([.ref (ad 1)] : List Value).toArray s = true := fun w h => hts w (List.mem_cons_of_mem _ h)
  have hl : lv_has ls 1 [(0, .ref (ad 1))] := hl
  refine lv_aload_n hx hb dX5_wide_0 rfl (lv_at hl 0 rfl) ?_
  refine gX5_0 hx hb htA hown hK hP dX5_wide_1 ?_
  have e9 : τ.1 0 = f5_wide τ := rfl
  exact sy_ret hx hb hr hlk e9 dX5_wide_4
/-- X5_high -/
theorem hd_X5_high : yX5_high.cls = yX5_high.cls ∧ yX5_high.cls ≠ "java/lang/invoke/MethodHandle" ∧ yX5_high.cls ≠ "java/lang/invoke/VarHandle" ∧ (parseMethodDescriptor yX5_high.desc).map (fun d => d.parameters.length) = some 0 := by decide +kernel
def f5_high (τ : Sg) : Int32 := τ.1 1
set_option maxHeartbeats 400000 in
set_option maxRecDepth 100000 in
theorem m5_high (l : Launch) (D : va_G) (cA : ClassId) (ad : Nat → Nat) (τ ρ π γ : Sg) : Met l yX5_high (wM yX5_high cX5_high 1 (some .int)) ({ frames := 0, cells := 0, slots := 0, locals := 0 }) (va_Pc [.ref (ad 1)] (pS D cA ad τ ρ π γ)) (QcRead (f5_high τ)) 0 0 noA := by
  refine sy_of (by decide) (Nat.le_of_ble_eq_true rfl) ?_
  intro p e s m below meth c ls C hr hlk hK hN hP hl
  obtain ⟨hx, hb, hml, hown, hts⟩ := id C
  have htA : ∀ w ∈ wA, w.before ([.ref (ad 1)] : List Value).toArray s = true := fun w h => hts w (List.mem_cons_of_mem _ h)
  have hl : lv_has ls 1 [(0, .ref (ad 1))] := hl
  refine lv_aload_n hx hb dX5_high_0 rfl (lv_at hl 0 rfl) ?_
  refine gX5_1 hx hb htA hown hK hP dX5_high_1 ?_
  have e9 : τ.1 1 = f5_high τ := rfl
  exact sy_ret hx hb hr hlk e9 dX5_high_4
/-- X5_cells -/
theorem hd_X5_cells : yX5_cells.cls = yX5_cells.cls ∧ yX5_cells.cls ≠ "java/lang/invoke/MethodHandle" ∧ yX5_cells.cls ≠ "java/lang/invoke/VarHandle" ∧ (parseMethodDescriptor yX5_cells.desc).map (fun d => d.parameters.length) = some 0 := by decide +kernel
def f5_cells (τ : Sg) : Int32 := τ.1 2
set_option maxHeartbeats 400000 in
set_option maxRecDepth 100000 in
theorem m5_cells (l : Launch) (D : va_G) (cA : ClassId) (ad : Nat → Nat) (τ ρ π γ : Sg) : Met l yX5_cells (wM yX5_cells cX5_cells 1 (some .int)) ({ frames := 0, cells := 0, slots := 0, locals := 0 }) (va_Pc [.ref (ad 1)] (pS D cA ad τ ρ π γ)) (QcRead (f5_cells τ)) 0 0 noA := by
  refine sy_of (by decide) (Nat.le_of_ble_eq_true rfl) ?_
  intro p e s m below meth c ls C hr hlk hK hN hP hl
  obtain ⟨hx, hb, hml, hown, hts⟩ := id C
  have htA : ∀ w ∈ wA, w.before ([.ref (ad 1)] : List Value).toArray s = true := fun w h => hts w (List.mem_cons_of_mem _ h)
  have hl : lv_has ls 1 [(0, .ref (ad 1))] := hl
  refine lv_aload_n hx hb dX5_cells_0 rfl (lv_at hl 0 rfl) ?_
  refine gX5_2 hx hb htA hown hK hP dX5_cells_1 ?_
  have e9 : τ.1 2 = f5_cells τ := rfl
  exact sy_ret hx hb hr hlk e9 dX5_cells_4
/-- X5_lines -/
theorem hd_X5_lines : yX5_lines.cls = yX5_lines.cls ∧ yX5_lines.cls ≠ "java/lang/invoke/MethodHandle" ∧ yX5_lines.cls ≠ "java/lang/invoke/VarHandle" ∧ (parseMethodDescriptor yX5_lines.desc).map (fun d => d.parameters.length) = some 0 := by decide +kernel
def f5_lines (τ : Sg) : Int32 := (τ.1 0) + (τ.1 1)
set_option maxHeartbeats 400000 in
set_option maxRecDepth 100000 in
theorem m5_lines (l : Launch) (D : va_G) (cA : ClassId) (ad : Nat → Nat) (τ ρ π γ : Sg) : Met l yX5_lines (wM yX5_lines cX5_lines 1 (some .int)) ({ frames := 0, cells := 0, slots := 0, locals := 0 }) (va_Pc [.ref (ad 1)] (pS D cA ad τ ρ π γ)) (QcRead (f5_lines τ)) 0 0 noA := by
  refine sy_of (by decide) (Nat.le_of_ble_eq_true rfl) ?_
  intro p e s m below meth c ls C hr hlk hK hN hP hl
  obtain ⟨hx, hb, hml, hown, hts⟩ := id C
  have htA : ∀ w ∈ wA, w.before ([.ref (ad 1)] : List Value).toArray s = true := fun w h => hts w (List.mem_cons_of_mem _ h)
  have hl : lv_has ls 1 [(0, .ref (ad 1))] := hl
  refine lv_aload_n hx hb dX5_lines_0 rfl (lv_at hl 0 rfl) ?_
  refine gX5_0 hx hb htA hown hK hP dX5_lines_1 ?_
  refine lv_aload_n hx hb dX5_lines_4 rfl (lv_at hl 0 rfl) ?_
  refine gX5_1 hx hb htA hown hK hP dX5_lines_5 ?_
  refine lv_iadd hx hb dX5_lines_8 ?_
  have e9 : (τ.1 0) + (τ.1 1) = f5_lines τ := rfl
  exact sy_ret hx hb hr hlk e9 dX5_lines_9
/-- X5_lineCells -/
theorem hd_X5_lineCells : yX5_lineCells.cls = yX5_lineCells.cls ∧ yX5_lineCells.cls ≠ "java/lang/invoke/MethodHandle" ∧ yX5_lineCells.cls ≠ "java/lang/invoke/VarHandle" ∧ (parseMethodDescriptor yX5_lineCells.desc).map (fun d => d.parameters.length) = some 1 := by decide +kernel
def f5_lineCells (τ : Sg) (a1 : Int32) : Int32 := (if (τ.1 1) ≤ a1 then τ.1 1 else τ.1 0)
set_option maxHeartbeats 400000 in
set_option maxRecDepth 100000 in
theorem m5_lineCells (l : Launch) (D : va_G) (cA : ClassId) (ad : Nat → Nat) (τ ρ π γ : Sg) (a1 : Int32) : Met l yX5_lineCells (wM yX5_lineCells cX5_lineCells 2 (some .int)) ({ frames := 0, cells := 0, slots := 0, locals := 0 }) (va_Pc [.ref (ad 1), .int a1] (pS D cA ad τ ρ π γ)) (QcRead (f5_lineCells τ a1)) 0 0 noA := by
  refine sy_of (by decide) (Nat.le_of_ble_eq_true rfl) ?_
  intro p e s m below meth c ls C hr hlk hK hN hP hl
  obtain ⟨hx, hb, hml, hown, hts⟩ := id C
  have htA : ∀ w ∈ wA, w.before ([.ref (ad 1), .int a1] : List Value).toArray s = true := fun w h => hts w (List.mem_cons_of_mem _ h)
  have hl : lv_has ls 2 [(0, .ref (ad 1)), (1, .int a1)] := hl
  refine lv_iload_n hx hb dX5_lineCells_0 rfl (lv_at hl 1 rfl) ?_
  refine lv_aload_n hx hb dX5_lineCells_1 rfl (lv_at hl 0 rfl) ?_
  refine gX5_1 hx hb htA hown hK hP dX5_lineCells_2 ?_
  refine lv_icmp_ge (tgt := 15) hx hb dX5_lineCells_5 (by decide) (fun c_1 => ?_) (fun c_1 => ?_)
  · refine lv_aload_n hx hb dX5_lineCells_15 rfl (lv_at hl 0 rfl) ?_
    refine gX5_1 hx hb htA hown hK hP dX5_lineCells_16 ?_
    have e9 : τ.1 1 = f5_lineCells τ a1 := by unfold f5_lineCells; (try rw [if_pos c_1])
    exact sy_ret hx hb hr hlk e9 dX5_lineCells_19
  · refine lv_aload_n hx hb dX5_lineCells_8 rfl (lv_at hl 0 rfl) ?_
    refine gX5_0 hx hb htA hown hK hP dX5_lineCells_9 ?_
    refine lv_goto (tgt := 19) hx hb dX5_lineCells_12 (by decide) ?_
    have e9 : τ.1 0 = f5_lineCells τ a1 := by unfold f5_lineCells; (try rw [if_neg c_1])
    exact sy_ret hx hb hr hlk e9 dX5_lineCells_19
/-- X5_lineCell -/
theorem hd_X5_lineCell : yX5_lineCell.cls = yX5_lineCell.cls ∧ yX5_lineCell.cls ≠ "java/lang/invoke/MethodHandle" ∧ yX5_lineCell.cls ≠ "java/lang/invoke/VarHandle" ∧ (parseMethodDescriptor yX5_lineCell.desc).map (fun d => d.parameters.length) = some 2 := by decide +kernel
def f5_lineCell (τ : Sg) (a1 : Int32) (a2 : Int32) : Int32 := (if (τ.1 1) ≤ a1 then ((a2 * (τ.1 0)) + a1) - (τ.1 1) else (a1 * (τ.1 0)) + a2)
set_option maxHeartbeats 400000 in
set_option maxRecDepth 100000 in
theorem m5_lineCell (l : Launch) (D : va_G) (cA : ClassId) (ad : Nat → Nat) (τ ρ π γ : Sg) (a1 : Int32) (a2 : Int32) : Met l yX5_lineCell (wM yX5_lineCell cX5_lineCell 3 (some .int)) ({ frames := 0, cells := 0, slots := 0, locals := 0 }) (va_Pc [.ref (ad 1), .int a1, .int a2] (pS D cA ad τ ρ π γ)) (QcRead (f5_lineCell τ a1 a2)) 0 0 noA := by
  refine sy_of (by decide) (Nat.le_of_ble_eq_true rfl) ?_
  intro p e s m below meth c ls C hr hlk hK hN hP hl
  obtain ⟨hx, hb, hml, hown, hts⟩ := id C
  have htA : ∀ w ∈ wA, w.before ([.ref (ad 1), .int a1, .int a2] : List Value).toArray s = true := fun w h => hts w (List.mem_cons_of_mem _ h)
  have hl : lv_has ls 3 [(0, .ref (ad 1)), (1, .int a1), (2, .int a2)] := hl
  refine lv_iload_n hx hb dX5_lineCell_0 rfl (lv_at hl 1 rfl) ?_
  refine lv_aload_n hx hb dX5_lineCell_1 rfl (lv_at hl 0 rfl) ?_
  refine gX5_1 hx hb htA hown hK hP dX5_lineCell_2 ?_
  refine lv_icmp_ge (tgt := 19) hx hb dX5_lineCell_5 (by decide) (fun c_1 => ?_) (fun c_1 => ?_)
  · refine lv_iload_n hx hb dX5_lineCell_19 rfl (lv_at hl 2 rfl) ?_
    refine lv_aload_n hx hb dX5_lineCell_20 rfl (lv_at hl 0 rfl) ?_
    refine gX5_0 hx hb htA hown hK hP dX5_lineCell_21 ?_
    refine lv_imul hx hb dX5_lineCell_24 ?_
    refine lv_iload_n hx hb dX5_lineCell_25 rfl (lv_at hl 1 rfl) ?_
    refine lv_iadd hx hb dX5_lineCell_26 ?_
    refine lv_aload_n hx hb dX5_lineCell_27 rfl (lv_at hl 0 rfl) ?_
    refine gX5_1 hx hb htA hown hK hP dX5_lineCell_28 ?_
    refine lv_isub hx hb dX5_lineCell_31 ?_
    have e9 : ((a2 * (τ.1 0)) + a1) - (τ.1 1) = f5_lineCell τ a1 a2 := by unfold f5_lineCell; (try rw [if_pos c_1])
    exact sy_ret hx hb hr hlk e9 dX5_lineCell_32
  · refine lv_iload_n hx hb dX5_lineCell_8 rfl (lv_at hl 1 rfl) ?_
    refine lv_aload_n hx hb dX5_lineCell_9 rfl (lv_at hl 0 rfl) ?_
    refine gX5_0 hx hb htA hown hK hP dX5_lineCell_10 ?_
    refine lv_imul hx hb dX5_lineCell_13 ?_
    refine lv_iload_n hx hb dX5_lineCell_14 rfl (lv_at hl 2 rfl) ?_
    refine lv_iadd hx hb dX5_lineCell_15 ?_
    refine lv_goto (tgt := 32) hx hb dX5_lineCell_16 (by decide) ?_
    have e9 : (a1 * (τ.1 0)) + a2 = f5_lineCell τ a1 a2 := by unfold f5_lineCell; (try rw [if_neg c_1])
    exact sy_ret hx hb hr hlk e9 dX5_lineCell_32
/-- X5_holds -/
theorem hd_X5_holds : yX5_holds.cls = yX5_holds.cls ∧ yX5_holds.cls ≠ "java/lang/invoke/MethodHandle" ∧ yX5_holds.cls ≠ "java/lang/invoke/VarHandle" ∧ (parseMethodDescriptor yX5_holds.desc).map (fun d => d.parameters.length) = some 1 := by decide +kernel
def f5_holds (τ : Sg) (a1 : Int32) : Int32 := (if a1 < 0 then 0 else (if (τ.1 2) ≤ a1 then 0 else 1))
set_option maxHeartbeats 400000 in
set_option maxRecDepth 100000 in
theorem m5_holds (l : Launch) (D : va_G) (cA : ClassId) (ad : Nat → Nat) (τ ρ π γ : Sg) (a1 : Int32) : Met l yX5_holds (wM yX5_holds cX5_holds 2 (some .boolean)) ({ frames := 0, cells := 0, slots := 0, locals := 0 }) (va_Pc [.ref (ad 1), .int a1] (pS D cA ad τ ρ π γ)) (QcRead (f5_holds τ a1)) 0 0 noA := by
  refine sy_of (by decide) (Nat.le_of_ble_eq_true rfl) ?_
  intro p e s m below meth c ls C hr hlk hK hN hP hl
  obtain ⟨hx, hb, hml, hown, hts⟩ := id C
  have htA : ∀ w ∈ wA, w.before ([.ref (ad 1), .int a1] : List Value).toArray s = true := fun w h => hts w (List.mem_cons_of_mem _ h)
  have hl : lv_has ls 2 [(0, .ref (ad 1)), (1, .int a1)] := hl
  refine lv_iload_n hx hb dX5_holds_0 rfl (lv_at hl 1 rfl) ?_
  refine lv_if_lt (tgt := 16) hx hb dX5_holds_1 (by decide) (fun c_1 => ?_) (fun c_1 => ?_)
  · refine lv_iconst (v := 0) hx hb dX5_holds_16 (by decide) ?_
    have e9 : 0 = f5_holds τ a1 := by unfold f5_holds; (try rw [if_pos c_1])
    exact sy_retZ hx hb hr hlk rfl e9 dX5_holds_17
  · refine lv_iload_n hx hb dX5_holds_4 rfl (lv_at hl 1 rfl) ?_
    refine lv_aload_n hx hb dX5_holds_5 rfl (lv_at hl 0 rfl) ?_
    refine gX5_2 hx hb htA hown hK hP dX5_holds_6 ?_
    refine lv_icmp_ge (tgt := 16) hx hb dX5_holds_9 (by decide) (fun c_2 => ?_) (fun c_2 => ?_)
    · refine lv_iconst (v := 0) hx hb dX5_holds_16 (by decide) ?_
      have e9 : 0 = f5_holds τ a1 := by unfold f5_holds; (try rw [if_neg c_1]); (try rw [if_pos c_2])
      exact sy_retZ hx hb hr hlk rfl e9 dX5_holds_17
    · refine lv_iconst (v := 1) hx hb dX5_holds_12 (by decide) ?_
      refine lv_goto (tgt := 17) hx hb dX5_holds_13 (by decide) ?_
      have e9 : 1 = f5_holds τ a1 := by unfold f5_holds; (try rw [if_neg c_1]); (try rw [if_neg c_2])
      exact sy_retZ hx hb hr hlk rfl e9 dX5_holds_17
theorem vin_holds {τ : Sg} {a : Int32} (hT : Ok τ) (h : ¬ (f5_holds τ a) = 0) : vp_in a 64 := by
  unfold f5_holds at h
  by_cases h1 : a < 0
  · rw [if_pos h1] at h; exact absurd rfl h
  by_cases h2 : (τ.1 2) ≤ a
  · rw [if_neg h1, if_pos h2] at h; exact absurd rfl h
  exact vin_lt h1 (Int32.not_le.mp h2) (Ok_cells hT)
/-- X5_besideMany -/
theorem hd_X5_besideMany : yX5_besideMany.cls = yX5_besideMany.cls ∧ yX5_besideMany.cls ≠ "java/lang/invoke/MethodHandle" ∧ yX5_besideMany.cls ≠ "java/lang/invoke/VarHandle" ∧ (parseMethodDescriptor yX5_besideMany.desc).map (fun d => d.parameters.length) = some 1 := by decide +kernel
def f5_besideMany (τ : Sg) (a1 : Int32) : Int32 := (if a1 < 0 then 0 else (if (τ.1 2) ≤ a1 then 0 else τ.2 1 a1.toNatClampNeg))
set_option maxHeartbeats 400000 in
set_option maxRecDepth 100000 in
theorem m5_besideMany (l : Launch) (D : va_G) (cA : ClassId) (ad : Nat → Nat) (τ ρ π γ : Sg) (hT : Ok τ) (a1 : Int32) : Met l yX5_besideMany (wM yX5_besideMany cX5_besideMany 2 (some .int)) ({ frames := 0, cells := 0, slots := 0, locals := 0 }) (va_Pc [.ref (ad 1), .int a1] (pS D cA ad τ ρ π γ)) (QcRead (f5_besideMany τ a1)) 0 0 noA := by
  refine sy_of (by decide) (Nat.le_of_ble_eq_true rfl) ?_
  intro p e s m below meth c ls C hr hlk hK hN hP hl
  obtain ⟨hx, hb, hml, hown, hts⟩ := id C
  have htA : ∀ w ∈ wA, w.before ([.ref (ad 1), .int a1] : List Value).toArray s = true := fun w h => hts w (List.mem_cons_of_mem _ h)
  have hl : lv_has ls 2 [(0, .ref (ad 1)), (1, .int a1)] := hl
  refine lv_iload_n hx hb dX5_besideMany_0 rfl (lv_at hl 1 rfl) ?_
  refine lv_if_lt (tgt := 21) hx hb dX5_besideMany_1 (by decide) (fun c_1 => ?_) (fun c_1 => ?_)
  · refine lv_iconst (v := 0) hx hb dX5_besideMany_21 (by decide) ?_
    have e9 : 0 = f5_besideMany τ a1 := by unfold f5_besideMany; (try rw [if_pos c_1])
    exact sy_ret hx hb hr hlk e9 dX5_besideMany_22
  · refine lv_iload_n hx hb dX5_besideMany_4 rfl (lv_at hl 1 rfl) ?_
    refine lv_aload_n hx hb dX5_besideMany_5 rfl (lv_at hl 0 rfl) ?_
    refine gX5_2 hx hb htA hown hK hP dX5_besideMany_6 ?_
    refine lv_icmp_ge (tgt := 21) hx hb dX5_besideMany_9 (by decide) (fun c_2 => ?_) (fun c_2 => ?_)
    · refine lv_iconst (v := 0) hx hb dX5_besideMany_21 (by decide) ?_
      have e9 : 0 = f5_besideMany τ a1 := by unfold f5_besideMany; (try rw [if_neg c_1]); (try rw [if_pos c_2])
      exact sy_ret hx hb hr hlk e9 dX5_besideMany_22
    · refine lv_aload_n hx hb dX5_besideMany_12 rfl (lv_at hl 0 rfl) ?_
      refine gX5_4 hx hb htA hown hK hP dX5_besideMany_13 ?_
      refine lv_iload_n hx hb dX5_besideMany_16 rfl (lv_at hl 1 rfl) ?_
      refine sy_iald hx hb hK hP (8) wAt_8 (vin_lt c_1 (Int32.not_le.mp c_2) (Ok_cells hT)) dX5_besideMany_17 ?_
      refine lv_goto (tgt := 22) hx hb dX5_besideMany_18 (by decide) ?_
      have e9 : τ.2 1 a1.toNatClampNeg = f5_besideMany τ a1 := by unfold f5_besideMany; (try rw [if_neg c_1]); (try rw [if_neg c_2])
      exact sy_ret hx hb hr hlk e9 dX5_besideMany_22
/-- X5_beside -/
theorem hd_X5_beside : yX5_beside.cls = yX5_beside.cls ∧ yX5_beside.cls ≠ "java/lang/invoke/MethodHandle" ∧ yX5_beside.cls ≠ "java/lang/invoke/VarHandle" ∧ (parseMethodDescriptor yX5_beside.desc).map (fun d => d.parameters.length) = some 2 := by decide +kernel
def f5_beside (τ : Sg) (a1 : Int32) (a2 : Int32) : Int32 := (if a1 < 0 then (-1) else (if (τ.1 2) ≤ a1 then (-1) else (if a2 < 0 then (-1) else (if a2 < (τ.2 1 a1.toNatClampNeg) then τ.2 0 ((a1 * 4) + a2).toNatClampNeg else (-1)))))
set_option maxHeartbeats 400000 in
set_option maxRecDepth 100000 in
theorem m5_beside (l : Launch) (D : va_G) (cA : ClassId) (ad : Nat → Nat) (τ ρ π γ : Sg) (hT : Ok τ) (a1 : Int32) (a2 : Int32) : Met l yX5_beside (wM yX5_beside cX5_beside 3 (some .int)) ({ frames := 0, cells := 0, slots := 0, locals := 0 }) (va_Pc [.ref (ad 1), .int a1, .int a2] (pS D cA ad τ ρ π γ)) (QcRead (f5_beside τ a1 a2)) 0 0 noA := by
  refine sy_of (by decide) (Nat.le_of_ble_eq_true rfl) ?_
  intro p e s m below meth c ls C hr hlk hK hN hP hl
  obtain ⟨hx, hb, hml, hown, hts⟩ := id C
  have htA : ∀ w ∈ wA, w.before ([.ref (ad 1), .int a1, .int a2] : List Value).toArray s = true := fun w h => hts w (List.mem_cons_of_mem _ h)
  have hl : lv_has ls 3 [(0, .ref (ad 1)), (1, .int a1), (2, .int a2)] := hl
  refine lv_iload_n hx hb dX5_beside_0 rfl (lv_at hl 1 rfl) ?_
  refine lv_if_lt (tgt := 26) hx hb dX5_beside_1 (by decide) (fun c_1 => ?_) (fun c_1 => ?_)
  · refine lv_iconst (v := (-1)) hx hb dX5_beside_26 (by decide) ?_
    have e9 : (-1) = f5_beside τ a1 a2 := by unfold f5_beside; (try rw [if_pos c_1])
    exact sy_ret hx hb hr hlk e9 dX5_beside_27
  · refine lv_iload_n hx hb dX5_beside_4 rfl (lv_at hl 1 rfl) ?_
    refine lv_aload_n hx hb dX5_beside_5 rfl (lv_at hl 0 rfl) ?_
    refine gX5_2 hx hb htA hown hK hP dX5_beside_6 ?_
    refine lv_icmp_ge (tgt := 26) hx hb dX5_beside_9 (by decide) (fun c_2 => ?_) (fun c_2 => ?_)
    · refine lv_iconst (v := (-1)) hx hb dX5_beside_26 (by decide) ?_
      have e9 : (-1) = f5_beside τ a1 a2 := by unfold f5_beside; (try rw [if_neg c_1]); (try rw [if_pos c_2])
      exact sy_ret hx hb hr hlk e9 dX5_beside_27
    · refine lv_iload_n hx hb dX5_beside_12 rfl (lv_at hl 2 rfl) ?_
      refine lv_if_lt (tgt := 26) hx hb dX5_beside_13 (by decide) (fun c_3 => ?_) (fun c_3 => ?_)
      · refine lv_iconst (v := (-1)) hx hb dX5_beside_26 (by decide) ?_
        have e9 : (-1) = f5_beside τ a1 a2 := by unfold f5_beside; (try rw [if_neg c_1]); (try rw [if_neg c_2]); (try rw [if_pos c_3])
        exact sy_ret hx hb hr hlk e9 dX5_beside_27
      · refine lv_iload_n hx hb dX5_beside_16 rfl (lv_at hl 2 rfl) ?_
        refine lv_aload_n hx hb dX5_beside_17 rfl (lv_at hl 0 rfl) ?_
        refine gX5_4 hx hb htA hown hK hP dX5_beside_18 ?_
        refine lv_iload_n hx hb dX5_beside_21 rfl (lv_at hl 1 rfl) ?_
        refine sy_iald hx hb hK hP (8) wAt_8 (vin_lt c_1 (Int32.not_le.mp c_2) (Ok_cells hT)) dX5_beside_22 ?_
        refine lv_icmp_lt (tgt := 28) hx hb dX5_beside_23 (by decide) (fun c_4 => ?_) (fun c_4 => ?_)
        · refine lv_aload_n hx hb dX5_beside_28 rfl (lv_at hl 0 rfl) ?_
          refine gX5_3 hx hb htA hown hK hP dX5_beside_29 ?_
          refine lv_iload_n hx hb dX5_beside_32 rfl (lv_at hl 1 rfl) ?_
          refine lv_iconst (v := 4) hx hb dX5_beside_33 (by decide) ?_
          refine lv_imul hx hb dX5_beside_34 ?_
          refine lv_iload_n hx hb dX5_beside_35 rfl (lv_at hl 2 rfl) ?_
          refine lv_iadd hx hb dX5_beside_36 ?_
          refine sy_iald hx hb hK hP (7) wAt_7 (vin_besides c_1 c_2 c_3 c_4 hT) dX5_beside_37 ?_
          have e9 : τ.2 0 ((a1 * 4) + a2).toNatClampNeg = f5_beside τ a1 a2 := by unfold f5_beside; (try rw [if_neg c_1]); (try rw [if_neg c_2]); (try rw [if_neg c_3]); (try rw [if_pos c_4])
          exact sy_ret hx hb hr hlk e9 dX5_beside_38
        · refine lv_iconst (v := (-1)) hx hb dX5_beside_26 (by decide) ?_
          have e9 : (-1) = f5_beside τ a1 a2 := by unfold f5_beside; (try rw [if_neg c_1]); (try rw [if_neg c_2]); (try rw [if_neg c_3]); (try rw [if_neg c_4])
          exact sy_ret hx hb hr hlk e9 dX5_beside_27
/-- X4_misfitOf -/
theorem hd_X4_misfitOf : yX4_misfitOf.cls = yX4_misfitOf.cls ∧ yX4_misfitOf.cls ≠ "java/lang/invoke/MethodHandle" ∧ yX4_misfitOf.cls ≠ "java/lang/invoke/VarHandle" ∧ (parseMethodDescriptor yX4_misfitOf.desc).map (fun d => d.parameters.length) = some 2 := by decide +kernel
def f4_misfitOf (ρ : Sg) (a1 : Int32) (a2 : Int32) : Int32 := (if a1 < 0 then 0 else (if 9 < a1 then 0 else (if a2 < 0 then 0 else (if a2 ≤ 9 then ρ.2 0 ((a1 * 10) + a2).toNatClampNeg else 0))))
set_option maxHeartbeats 400000 in
set_option maxRecDepth 100000 in
theorem m4_misfitOf (l : Launch) (D : va_G) (cA : ClassId) (ad : Nat → Nat) (τ ρ π γ : Sg) (a1 : Int32) (a2 : Int32) : Met l yX4_misfitOf (wM yX4_misfitOf cX4_misfitOf 3 (some .int)) ({ frames := 0, cells := 0, slots := 0, locals := 0 }) (va_Pc [.ref (ad 2), .int a1, .int a2] (pS D cA ad τ ρ π γ)) (QcRead (f4_misfitOf ρ a1 a2)) 0 0 noA := by
  refine sy_of (by decide) (Nat.le_of_ble_eq_true rfl) ?_
  intro p e s m below meth c ls C hr hlk hK hN hP hl
  obtain ⟨hx, hb, hml, hown, hts⟩ := id C
  have htA : ∀ w ∈ wA, w.before ([.ref (ad 2), .int a1, .int a2] : List Value).toArray s = true := fun w h => hts w (List.mem_cons_of_mem _ h)
  have hl : lv_has ls 3 [(0, .ref (ad 2)), (1, .int a1), (2, .int a2)] := hl
  refine lv_iload_n hx hb dX4_misfitOf_0 rfl (lv_at hl 1 rfl) ?_
  refine lv_if_lt (tgt := 20) hx hb dX4_misfitOf_1 (by decide) (fun c_1 => ?_) (fun c_1 => ?_)
  · refine lv_iconst (v := 0) hx hb dX4_misfitOf_20 (by decide) ?_
    have e9 : 0 = f4_misfitOf ρ a1 a2 := by unfold f4_misfitOf; (try rw [if_pos c_1])
    exact sy_ret hx hb hr hlk e9 dX4_misfitOf_21
  · refine lv_iload_n hx hb dX4_misfitOf_4 rfl (lv_at hl 1 rfl) ?_
    refine lv_bipush (v := 9) hx hb dX4_misfitOf_5 (by decide) ?_
    refine lv_icmp_gt (tgt := 20) hx hb dX4_misfitOf_7 (by decide) (fun c_2 => ?_) (fun c_2 => ?_)
    · refine lv_iconst (v := 0) hx hb dX4_misfitOf_20 (by decide) ?_
      have e9 : 0 = f4_misfitOf ρ a1 a2 := by unfold f4_misfitOf; (try rw [if_neg c_1]); (try rw [if_pos c_2])
      exact sy_ret hx hb hr hlk e9 dX4_misfitOf_21
    · refine lv_iload_n hx hb dX4_misfitOf_10 rfl (lv_at hl 2 rfl) ?_
      refine lv_if_lt (tgt := 20) hx hb dX4_misfitOf_11 (by decide) (fun c_3 => ?_) (fun c_3 => ?_)
      · refine lv_iconst (v := 0) hx hb dX4_misfitOf_20 (by decide) ?_
        have e9 : 0 = f4_misfitOf ρ a1 a2 := by unfold f4_misfitOf; (try rw [if_neg c_1]); (try rw [if_neg c_2]); (try rw [if_pos c_3])
        exact sy_ret hx hb hr hlk e9 dX4_misfitOf_21
      · refine lv_iload_n hx hb dX4_misfitOf_14 rfl (lv_at hl 2 rfl) ?_
        refine lv_bipush (v := 9) hx hb dX4_misfitOf_15 (by decide) ?_
        refine lv_icmp_le (tgt := 22) hx hb dX4_misfitOf_17 (by decide) (fun c_4 => ?_) (fun c_4 => ?_)
        · refine lv_aload_n hx hb dX4_misfitOf_22 rfl (lv_at hl 0 rfl) ?_
          refine gX4_0 hx hb htA hown hK hP dX4_misfitOf_23 ?_
          refine lv_iload_n hx hb dX4_misfitOf_26 rfl (lv_at hl 1 rfl) ?_
          refine lv_bipush (v := 10) hx hb dX4_misfitOf_27 (by decide) ?_
          refine lv_imul hx hb dX4_misfitOf_29 ?_
          refine lv_iload_n hx hb dX4_misfitOf_30 rfl (lv_at hl 2 rfl) ?_
          refine lv_iadd hx hb dX4_misfitOf_31 ?_
          refine sy_iald hx hb hK hP (9) wAt_9 (vin_misfit c_1 c_2 c_3 (Int32.not_lt.mpr c_4)) dX4_misfitOf_32 ?_
          have e9 : ρ.2 0 ((a1 * 10) + a2).toNatClampNeg = f4_misfitOf ρ a1 a2 := by unfold f4_misfitOf; (try rw [if_neg c_1]); (try rw [if_neg c_2]); (try rw [if_neg c_3]); (try rw [if_pos c_4])
          exact sy_ret hx hb hr hlk e9 dX4_misfitOf_33
        · refine lv_iconst (v := 0) hx hb dX4_misfitOf_20 (by decide) ?_
          have e9 : 0 = f4_misfitOf ρ a1 a2 := by unfold f4_misfitOf; (try rw [if_neg c_1]); (try rw [if_neg c_2]); (try rw [if_neg c_3]); (try rw [if_neg c_4])
          exact sy_ret hx hb hr hlk e9 dX4_misfitOf_21
/-- X4_etchNow -/
theorem hd_X4_etchNow : yX4_etchNow.cls = yX4_etchNow.cls ∧ yX4_etchNow.cls ≠ "java/lang/invoke/MethodHandle" ∧ yX4_etchNow.cls ≠ "java/lang/invoke/VarHandle" ∧ (parseMethodDescriptor yX4_etchNow.desc).map (fun d => d.parameters.length) = some 0 := by decide +kernel
def f4_etchNow (ρ : Sg) : Int32 := ρ.1 0
set_option maxHeartbeats 400000 in
set_option maxRecDepth 100000 in
theorem m4_etchNow (l : Launch) (D : va_G) (cA : ClassId) (ad : Nat → Nat) (τ ρ π γ : Sg) : Met l yX4_etchNow (wM yX4_etchNow cX4_etchNow 1 (some .int)) ({ frames := 0, cells := 0, slots := 0, locals := 0 }) (va_Pc [.ref (ad 2)] (pS D cA ad τ ρ π γ)) (QcRead (f4_etchNow ρ)) 0 0 noA := by
  refine sy_of (by decide) (Nat.le_of_ble_eq_true rfl) ?_
  intro p e s m below meth c ls C hr hlk hK hN hP hl
  obtain ⟨hx, hb, hml, hown, hts⟩ := id C
  have htA : ∀ w ∈ wA, w.before ([.ref (ad 2)] : List Value).toArray s = true := fun w h => hts w (List.mem_cons_of_mem _ h)
  have hl : lv_has ls 1 [(0, .ref (ad 2))] := hl
  refine lv_aload_n hx hb dX4_etchNow_0 rfl (lv_at hl 0 rfl) ?_
  refine gX4_2 hx hb htA hown hK hP dX4_etchNow_1 ?_
  have e9 : ρ.1 0 = f4_etchNow ρ := rfl
  exact sy_ret hx hb hr hlk e9 dX4_etchNow_4
/-- X4_timeAt -/
theorem hd_X4_timeAt : yX4_timeAt.cls = yX4_timeAt.cls ∧ yX4_timeAt.cls ≠ "java/lang/invoke/MethodHandle" ∧ yX4_timeAt.cls ≠ "java/lang/invoke/VarHandle" ∧ (parseMethodDescriptor yX4_timeAt.desc).map (fun d => d.parameters.length) = some 1 := by decide +kernel
def f4_timeAt (ρ : Sg) (a1 : Int32) : Int32 := (if a1 < 0 then 50 else (if 10 ≤ a1 then 50 else ρ.2 1 a1.toNatClampNeg))
set_option maxHeartbeats 400000 in
set_option maxRecDepth 100000 in
theorem m4_timeAt (l : Launch) (D : va_G) (cA : ClassId) (ad : Nat → Nat) (τ ρ π γ : Sg) (a1 : Int32) : Met l yX4_timeAt (wM yX4_timeAt cX4_timeAt 2 (some .int)) ({ frames := 0, cells := 0, slots := 0, locals := 0 }) (va_Pc [.ref (ad 2), .int a1] (pS D cA ad τ ρ π γ)) (QcRead (f4_timeAt ρ a1)) 0 0 noA := by
  refine sy_of (by decide) (Nat.le_of_ble_eq_true rfl) ?_
  intro p e s m below meth c ls C hr hlk hK hN hP hl
  obtain ⟨hx, hb, hml, hown, hts⟩ := id C
  have htA : ∀ w ∈ wA, w.before ([.ref (ad 2), .int a1] : List Value).toArray s = true := fun w h => hts w (List.mem_cons_of_mem _ h)
  have hl : lv_has ls 2 [(0, .ref (ad 2)), (1, .int a1)] := hl
  refine lv_iload_n hx hb dX4_timeAt_0 rfl (lv_at hl 1 rfl) ?_
  refine lv_if_lt (tgt := 19) hx hb dX4_timeAt_1 (by decide) (fun c_1 => ?_) (fun c_1 => ?_)
  · refine lv_bipush (v := 50) hx hb dX4_timeAt_19 (by decide) ?_
    have e9 : 50 = f4_timeAt ρ a1 := by unfold f4_timeAt; (try rw [if_pos c_1])
    exact sy_ret hx hb hr hlk e9 dX4_timeAt_21
  · refine lv_iload_n hx hb dX4_timeAt_4 rfl (lv_at hl 1 rfl) ?_
    refine lv_bipush (v := 10) hx hb dX4_timeAt_5 (by decide) ?_
    refine lv_icmp_ge (tgt := 19) hx hb dX4_timeAt_7 (by decide) (fun c_2 => ?_) (fun c_2 => ?_)
    · refine lv_bipush (v := 50) hx hb dX4_timeAt_19 (by decide) ?_
      have e9 : 50 = f4_timeAt ρ a1 := by unfold f4_timeAt; (try rw [if_neg c_1]); (try rw [if_pos c_2])
      exact sy_ret hx hb hr hlk e9 dX4_timeAt_21
    · refine lv_aload_n hx hb dX4_timeAt_10 rfl (lv_at hl 0 rfl) ?_
      refine gX4_1 hx hb htA hown hK hP dX4_timeAt_11 ?_
      refine lv_iload_n hx hb dX4_timeAt_14 rfl (lv_at hl 1 rfl) ?_
      refine sy_iald hx hb hK hP (10) wAt_10 (vin_lt c_1 (Int32.not_le.mp c_2) (by decide)) dX4_timeAt_15 ?_
      refine lv_goto (tgt := 21) hx hb dX4_timeAt_16 (by decide) ?_
      have e9 : ρ.2 1 a1.toNatClampNeg = f4_timeAt ρ a1 := by unfold f4_timeAt; (try rw [if_neg c_1]); (try rw [if_neg c_2])
      exact sy_ret hx hb hr hlk e9 dX4_timeAt_21
/-- X4_tickAt -/
theorem hd_X4_tickAt : yX4_tickAt.cls = yX4_tickAt.cls ∧ yX4_tickAt.cls ≠ "java/lang/invoke/MethodHandle" ∧ yX4_tickAt.cls ≠ "java/lang/invoke/VarHandle" ∧ (parseMethodDescriptor yX4_tickAt.desc).map (fun d => d.parameters.length) = some 1 := by decide +kernel
def f4_tickAt (ρ : Sg) (a1 : Int32) : Int32 := (if (f4_timeAt ρ a1) ≤ 0 then 0 else 1000 / (f4_timeAt ρ a1))
set_option maxHeartbeats 400000 in
set_option maxRecDepth 100000 in
theorem m4_tickAt (l : Launch) (D : va_G) (cA : ClassId) (ad : Nat → Nat) (τ ρ π γ : Sg) (a1 : Int32) : Met l yX4_tickAt (wM yX4_tickAt cX4_tickAt 3 (some .int)) ({ frames := 1, cells := 0, slots := 0, locals := 21 }) (va_Pc [.ref (ad 2), .int a1] (pS D cA ad τ ρ π γ)) (QcRead (f4_tickAt ρ a1)) 0 0 noA := by
  refine sy_of (by decide) (Nat.le_of_ble_eq_true rfl) ?_
  intro p e s m below meth c ls C hr hlk hK hN hP hl
  obtain ⟨hx, hb, hml, hown, hts⟩ := id C
  have htA : ∀ w ∈ wA, w.before ([.ref (ad 2), .int a1] : List Value).toArray s = true := fun w h => hts w (List.mem_cons_of_mem _ h)
  have hl : lv_has ls 3 [(0, .ref (ad 2)), (1, .int a1)] := hl
  refine lv_aload_n hx hb dX4_tickAt_0 rfl (lv_at hl 0 rfl) ?_
  refine lv_iload_n hx hb dX4_tickAt_1 rfl (lv_at hl 1 rfl) ?_
  refine sy_cv (rest := []) C hK hN hP (m4_timeAt l D cA ad τ ρ π γ a1) (2) 6 rfl rfl kw_359 kw_337 kw_338 kw_20 kw_339 hd_X4_timeAt ⟨Nat.le_of_ble_eq_true rfl, Nat.le_of_ble_eq_true rfl⟩ rfl rfl rfl hl.1 rfl (Nat.le_of_ble_eq_true rfl) dX4_tickAt_2 ⟨Nat.zero_le _, Nat.zero_le _⟩ ?_
  refine lv_istore_n (lv' := [(2, .int (f4_timeAt ρ a1)), (0, .ref (ad 2)), (1, .int a1)]) hx hb dX4_tickAt_5 rfl hl (by decide) rfl (fun ls hl => ?_)
  refine lv_iload_n hx hb dX4_tickAt_6 rfl (lv_at hl 0 rfl) ?_
  refine lv_if_le (tgt := 18) hx hb dX4_tickAt_7 (by decide) (fun c_1 => ?_) (fun c_1 => ?_)
  · refine lv_iconst (v := 0) hx hb dX4_tickAt_18 (by decide) ?_
    have e9 : 0 = f4_tickAt ρ a1 := by unfold f4_tickAt; (try rw [if_pos c_1])
    exact sy_ret hx hb hr hlk e9 dX4_tickAt_19
  · refine lv_sipush (v := 1000) hx hb dX4_tickAt_10 (by decide) ?_
    refine lv_iload_n hx hb dX4_tickAt_13 rfl (lv_at hl 0 rfl) ?_
    refine lv_idiv hx hb dX4_tickAt_14 (ne_pos (Int32.not_le.mp c_1)) ?_
    refine lv_goto (tgt := 19) hx hb dX4_tickAt_15 (by decide) ?_
    have e9 : 1000 / (f4_timeAt ρ a1) = f4_tickAt ρ a1 := by unfold f4_tickAt; (try rw [if_neg c_1])
    exact sy_ret hx hb hr hlk e9 dX4_tickAt_19
/-- X4_isSeen -/
theorem hd_X4_isSeen : yX4_isSeen.cls = yX4_isSeen.cls ∧ yX4_isSeen.cls ≠ "java/lang/invoke/MethodHandle" ∧ yX4_isSeen.cls ≠ "java/lang/invoke/VarHandle" ∧ (parseMethodDescriptor yX4_isSeen.desc).map (fun d => d.parameters.length) = some 3 := by decide +kernel
def f4_isSeen (ρ : Sg) (a1 : Int32) (a2 : Int32) (a3 : Int32) : Int32 := (if a1 = 0 then (if a1 = a2 then 0 else 1) else (if a2 = 0 then (if a1 = a2 then 0 else 1) else (if a1 = a2 then 0 else (if (f4_misfitOf ρ a1 a2) < a3 then 0 else 1))))
set_option maxHeartbeats 400000 in
set_option maxRecDepth 100000 in
theorem m4_isSeen (l : Launch) (D : va_G) (cA : ClassId) (ad : Nat → Nat) (τ ρ π γ : Sg) (a1 : Int32) (a2 : Int32) (a3 : Int32) : Met l yX4_isSeen (wM yX4_isSeen cX4_isSeen 4 (some .boolean)) ({ frames := 1, cells := 0, slots := 0, locals := 22 }) (va_Pc [.ref (ad 2), .int a1, .int a2, .int a3] (pS D cA ad τ ρ π γ)) (QcRead (f4_isSeen ρ a1 a2 a3)) 0 0 noA := by
  refine sy_of (by decide) (Nat.le_of_ble_eq_true rfl) ?_
  intro p e s m below meth c ls C hr hlk hK hN hP hl
  obtain ⟨hx, hb, hml, hown, hts⟩ := id C
  have htA : ∀ w ∈ wA, w.before ([.ref (ad 2), .int a1, .int a2, .int a3] : List Value).toArray s = true := fun w h => hts w (List.mem_cons_of_mem _ h)
  have hl : lv_has ls 4 [(0, .ref (ad 2)), (1, .int a1), (2, .int a2), (3, .int a3)] := hl
  refine lv_iload_n hx hb dX4_isSeen_0 rfl (lv_at hl 1 rfl) ?_
  refine lv_if_eq (tgt := 8) hx hb dX4_isSeen_1 (by decide) (fun c_1 => ?_) (fun c_1 => ?_)
  · refine lv_iload_n hx hb dX4_isSeen_8 rfl (lv_at hl 1 rfl) ?_
    refine lv_iload_n hx hb dX4_isSeen_9 rfl (lv_at hl 2 rfl) ?_
    refine lv_icmp_eq (tgt := 17) hx hb dX4_isSeen_10 (by decide) (fun c_2 => ?_) (fun c_2 => ?_)
    · refine lv_iconst (v := 0) hx hb dX4_isSeen_17 (by decide) ?_
      have e9 : 0 = f4_isSeen ρ a1 a2 a3 := by unfold f4_isSeen; (try rw [if_pos c_1]); (try rw [if_pos c_2])
      exact sy_retZ hx hb hr hlk rfl e9 dX4_isSeen_18
    · refine lv_iconst (v := 1) hx hb dX4_isSeen_13 (by decide) ?_
      refine lv_goto (tgt := 18) hx hb dX4_isSeen_14 (by decide) ?_
      have e9 : 1 = f4_isSeen ρ a1 a2 a3 := by unfold f4_isSeen; (try rw [if_pos c_1]); (try rw [if_neg c_2])
      exact sy_retZ hx hb hr hlk rfl e9 dX4_isSeen_18
  · refine lv_iload_n hx hb dX4_isSeen_4 rfl (lv_at hl 2 rfl) ?_
    refine lv_if_ne (tgt := 19) hx hb dX4_isSeen_5 (by decide) (fun c_3 => ?_) (fun c_3 => ?_)
    · refine lv_iload_n hx hb dX4_isSeen_19 rfl (lv_at hl 1 rfl) ?_
      refine lv_iload_n hx hb dX4_isSeen_20 rfl (lv_at hl 2 rfl) ?_
      refine lv_icmp_eq (tgt := 38) hx hb dX4_isSeen_21 (by decide) (fun c_4 => ?_) (fun c_4 => ?_)
      · refine lv_iconst (v := 0) hx hb dX4_isSeen_38 (by decide) ?_
        have e9 : 0 = f4_isSeen ρ a1 a2 a3 := by unfold f4_isSeen; (try rw [if_neg c_1]); (try rw [if_neg c_3]); (try rw [if_pos c_4])
        exact sy_retZ hx hb hr hlk rfl e9 dX4_isSeen_39
      · refine lv_aload_n hx hb dX4_isSeen_24 rfl (lv_at hl 0 rfl) ?_
        refine lv_iload_n hx hb dX4_isSeen_25 rfl (lv_at hl 1 rfl) ?_
        refine lv_iload_n hx hb dX4_isSeen_26 rfl (lv_at hl 2 rfl) ?_
        refine sy_cv (rest := []) C hK hN hP (m4_misfitOf l D cA ad τ ρ π γ a1 a2) (2) 6 rfl rfl kw_235 kw_236 kw_237 kw_20 kw_238 hd_X4_misfitOf ⟨Nat.le_of_ble_eq_true rfl, Nat.le_of_ble_eq_true rfl⟩ rfl rfl rfl hl.1 rfl (Nat.le_of_ble_eq_true rfl) dX4_isSeen_27 ⟨Nat.zero_le _, Nat.zero_le _⟩ ?_
        refine lv_iload_n hx hb dX4_isSeen_30 rfl (lv_at hl 3 rfl) ?_
        refine lv_icmp_lt (tgt := 38) hx hb dX4_isSeen_31 (by decide) (fun c_5 => ?_) (fun c_5 => ?_)
        · refine lv_iconst (v := 0) hx hb dX4_isSeen_38 (by decide) ?_
          have e9 : 0 = f4_isSeen ρ a1 a2 a3 := by unfold f4_isSeen; (try rw [if_neg c_1]); (try rw [if_neg c_3]); (try rw [if_neg c_4]); (try rw [if_pos c_5])
          exact sy_retZ hx hb hr hlk rfl e9 dX4_isSeen_39
        · refine lv_iconst (v := 1) hx hb dX4_isSeen_34 (by decide) ?_
          refine lv_goto (tgt := 39) hx hb dX4_isSeen_35 (by decide) ?_
          have e9 : 1 = f4_isSeen ρ a1 a2 a3 := by unfold f4_isSeen; (try rw [if_neg c_1]); (try rw [if_neg c_3]); (try rw [if_neg c_4]); (try rw [if_neg c_5])
          exact sy_retZ hx hb hr hlk rfl e9 dX4_isSeen_39
    · refine lv_iload_n hx hb dX4_isSeen_8 rfl (lv_at hl 1 rfl) ?_
      refine lv_iload_n hx hb dX4_isSeen_9 rfl (lv_at hl 2 rfl) ?_
      refine lv_icmp_eq (tgt := 17) hx hb dX4_isSeen_10 (by decide) (fun c_6 => ?_) (fun c_6 => ?_)
      · refine lv_iconst (v := 0) hx hb dX4_isSeen_17 (by decide) ?_
        have e9 : 0 = f4_isSeen ρ a1 a2 a3 := by unfold f4_isSeen; (try rw [if_neg c_1]); (try rw [if_pos c_3]); (try rw [if_pos c_6])
        exact sy_retZ hx hb hr hlk rfl e9 dX4_isSeen_18
      · refine lv_iconst (v := 1) hx hb dX4_isSeen_13 (by decide) ?_
        refine lv_goto (tgt := 18) hx hb dX4_isSeen_14 (by decide) ?_
        have e9 : 1 = f4_isSeen ρ a1 a2 a3 := by unfold f4_isSeen; (try rw [if_neg c_1]); (try rw [if_pos c_3]); (try rw [if_neg c_6])
        exact sy_retZ hx hb hr hlk rfl e9 dX4_isSeen_18
/-- X3_drawnEver -/
theorem hd_X3_drawnEver : yX3_drawnEver.cls = yX3_drawnEver.cls ∧ yX3_drawnEver.cls ≠ "java/lang/invoke/MethodHandle" ∧ yX3_drawnEver.cls ≠ "java/lang/invoke/VarHandle" ∧ (parseMethodDescriptor yX3_drawnEver.desc).map (fun d => d.parameters.length) = some 0 := by decide +kernel
def f3_drawnEver (π : Sg) : Int32 := π.1 1
set_option maxHeartbeats 400000 in
set_option maxRecDepth 100000 in
theorem m3_drawnEver (l : Launch) (D : va_G) (cA : ClassId) (ad : Nat → Nat) (τ ρ π γ : Sg) : Met l yX3_drawnEver (wM yX3_drawnEver cX3_drawnEver 1 (some .int)) ({ frames := 0, cells := 0, slots := 0, locals := 0 }) (va_Pc [.ref (ad 3)] (pS D cA ad τ ρ π γ)) (QcRead (f3_drawnEver π)) 0 0 noA := by
  refine sy_of (by decide) (Nat.le_of_ble_eq_true rfl) ?_
  intro p e s m below meth c ls C hr hlk hK hN hP hl
  obtain ⟨hx, hb, hml, hown, hts⟩ := id C
  have htA : ∀ w ∈ wA, w.before ([.ref (ad 3)] : List Value).toArray s = true := fun w h => hts w (List.mem_cons_of_mem _ h)
  have hl : lv_has ls 1 [(0, .ref (ad 3))] := hl
  refine lv_aload_n hx hb dX3_drawnEver_0 rfl (lv_at hl 0 rfl) ?_
  refine gX3_6 hx hb htA hown hK hP dX3_drawnEver_1 ?_
  have e9 : π.1 1 = f3_drawnEver π := rfl
  exact sy_ret hx hb hr hlk e9 dX3_drawnEver_4
/-- X3_nextOfRow -/
theorem hd_X3_nextOfRow : yX3_nextOfRow.cls = yX3_nextOfRow.cls ∧ yX3_nextOfRow.cls ≠ "java/lang/invoke/MethodHandle" ∧ yX3_nextOfRow.cls ≠ "java/lang/invoke/VarHandle" ∧ (parseMethodDescriptor yX3_nextOfRow.desc).map (fun d => d.parameters.length) = some 0 := by decide +kernel
def f3_nextOfRow (π : Sg) : Int32 := π.1 0
set_option maxHeartbeats 400000 in
set_option maxRecDepth 100000 in
theorem m3_nextOfRow (l : Launch) (D : va_G) (cA : ClassId) (ad : Nat → Nat) (τ ρ π γ : Sg) : Met l yX3_nextOfRow (wM yX3_nextOfRow cX3_nextOfRow 1 (some .int)) ({ frames := 0, cells := 0, slots := 0, locals := 0 }) (va_Pc [.ref (ad 3)] (pS D cA ad τ ρ π γ)) (QcRead (f3_nextOfRow π)) 0 0 noA := by
  refine sy_of (by decide) (Nat.le_of_ble_eq_true rfl) ?_
  intro p e s m below meth c ls C hr hlk hK hN hP hl
  obtain ⟨hx, hb, hml, hown, hts⟩ := id C
  have htA : ∀ w ∈ wA, w.before ([.ref (ad 3)] : List Value).toArray s = true := fun w h => hts w (List.mem_cons_of_mem _ h)
  have hl : lv_has ls 1 [(0, .ref (ad 3))] := hl
  refine lv_aload_n hx hb dX3_nextOfRow_0 rfl (lv_at hl 0 rfl) ?_
  refine gX3_5 hx hb htA hown hK hP dX3_nextOfRow_1 ?_
  have e9 : π.1 0 = f3_nextOfRow π := rfl
  exact sy_ret hx hb hr hlk e9 dX3_nextOfRow_4
/-- X3_markAt -/
theorem hd_X3_markAt : yX3_markAt.cls = yX3_markAt.cls ∧ yX3_markAt.cls ≠ "java/lang/invoke/MethodHandle" ∧ yX3_markAt.cls ≠ "java/lang/invoke/VarHandle" ∧ (parseMethodDescriptor yX3_markAt.desc).map (fun d => d.parameters.length) = some 1 := by decide +kernel
def f3_markAt (π : Sg) (a1 : Int32) : Int32 := (if a1 < 0 then 0 else (if 64 ≤ a1 then 0 else π.2 0 a1.toNatClampNeg))
set_option maxHeartbeats 400000 in
set_option maxRecDepth 100000 in
theorem m3_markAt (l : Launch) (D : va_G) (cA : ClassId) (ad : Nat → Nat) (τ ρ π γ : Sg) (a1 : Int32) : Met l yX3_markAt (wM yX3_markAt cX3_markAt 2 (some .int)) ({ frames := 0, cells := 0, slots := 0, locals := 0 }) (va_Pc [.ref (ad 3), .int a1] (pS D cA ad τ ρ π γ)) (QcRead (f3_markAt π a1)) 0 0 noA := by
  refine sy_of (by decide) (Nat.le_of_ble_eq_true rfl) ?_
  intro p e s m below meth c ls C hr hlk hK hN hP hl
  obtain ⟨hx, hb, hml, hown, hts⟩ := id C
  have htA : ∀ w ∈ wA, w.before ([.ref (ad 3), .int a1] : List Value).toArray s = true := fun w h => hts w (List.mem_cons_of_mem _ h)
  have hl : lv_has ls 2 [(0, .ref (ad 3)), (1, .int a1)] := hl
  refine lv_iload_n hx hb dX3_markAt_0 rfl (lv_at hl 1 rfl) ?_
  refine lv_if_lt (tgt := 19) hx hb dX3_markAt_1 (by decide) (fun c_1 => ?_) (fun c_1 => ?_)
  · refine lv_iconst (v := 0) hx hb dX3_markAt_19 (by decide) ?_
    have e9 : 0 = f3_markAt π a1 := by unfold f3_markAt; (try rw [if_pos c_1])
    exact sy_ret hx hb hr hlk e9 dX3_markAt_20
  · refine lv_iload_n hx hb dX3_markAt_4 rfl (lv_at hl 1 rfl) ?_
    refine lv_bipush (v := 64) hx hb dX3_markAt_5 (by decide) ?_
    refine lv_icmp_ge (tgt := 19) hx hb dX3_markAt_7 (by decide) (fun c_2 => ?_) (fun c_2 => ?_)
    · refine lv_iconst (v := 0) hx hb dX3_markAt_19 (by decide) ?_
      have e9 : 0 = f3_markAt π a1 := by unfold f3_markAt; (try rw [if_neg c_1]); (try rw [if_pos c_2])
      exact sy_ret hx hb hr hlk e9 dX3_markAt_20
    · refine lv_aload_n hx hb dX3_markAt_10 rfl (lv_at hl 0 rfl) ?_
      refine gX3_2 hx hb htA hown hK hP dX3_markAt_11 ?_
      refine lv_iload_n hx hb dX3_markAt_14 rfl (lv_at hl 1 rfl) ?_
      refine sy_iald hx hb hK hP (11) wAt_11 (vin_lt c_1 (Int32.not_le.mp c_2) (by decide)) dX3_markAt_15 ?_
      refine lv_goto (tgt := 20) hx hb dX3_markAt_16 (by decide) ?_
      have e9 : π.2 0 a1.toNatClampNeg = f3_markAt π a1 := by unfold f3_markAt; (try rw [if_neg c_1]); (try rw [if_neg c_2])
      exact sy_ret hx hb hr hlk e9 dX3_markAt_20
/-- X3_workAt -/
theorem hd_X3_workAt : yX3_workAt.cls = yX3_workAt.cls ∧ yX3_workAt.cls ≠ "java/lang/invoke/MethodHandle" ∧ yX3_workAt.cls ≠ "java/lang/invoke/VarHandle" ∧ (parseMethodDescriptor yX3_workAt.desc).map (fun d => d.parameters.length) = some 1 := by decide +kernel
def f3_workAt (π : Sg) (a1 : Int32) : Int32 := (if a1 < 0 then 0 else (if 64 ≤ a1 then 0 else π.2 1 a1.toNatClampNeg))
set_option maxHeartbeats 400000 in
set_option maxRecDepth 100000 in
theorem m3_workAt (l : Launch) (D : va_G) (cA : ClassId) (ad : Nat → Nat) (τ ρ π γ : Sg) (a1 : Int32) : Met l yX3_workAt (wM yX3_workAt cX3_workAt 2 (some .int)) ({ frames := 0, cells := 0, slots := 0, locals := 0 }) (va_Pc [.ref (ad 3), .int a1] (pS D cA ad τ ρ π γ)) (QcRead (f3_workAt π a1)) 0 0 noA := by
  refine sy_of (by decide) (Nat.le_of_ble_eq_true rfl) ?_
  intro p e s m below meth c ls C hr hlk hK hN hP hl
  obtain ⟨hx, hb, hml, hown, hts⟩ := id C
  have htA : ∀ w ∈ wA, w.before ([.ref (ad 3), .int a1] : List Value).toArray s = true := fun w h => hts w (List.mem_cons_of_mem _ h)
  have hl : lv_has ls 2 [(0, .ref (ad 3)), (1, .int a1)] := hl
  refine lv_iload_n hx hb dX3_workAt_0 rfl (lv_at hl 1 rfl) ?_
  refine lv_if_lt (tgt := 19) hx hb dX3_workAt_1 (by decide) (fun c_1 => ?_) (fun c_1 => ?_)
  · refine lv_iconst (v := 0) hx hb dX3_workAt_19 (by decide) ?_
    have e9 : 0 = f3_workAt π a1 := by unfold f3_workAt; (try rw [if_pos c_1])
    exact sy_ret hx hb hr hlk e9 dX3_workAt_20
  · refine lv_iload_n hx hb dX3_workAt_4 rfl (lv_at hl 1 rfl) ?_
    refine lv_bipush (v := 64) hx hb dX3_workAt_5 (by decide) ?_
    refine lv_icmp_ge (tgt := 19) hx hb dX3_workAt_7 (by decide) (fun c_2 => ?_) (fun c_2 => ?_)
    · refine lv_iconst (v := 0) hx hb dX3_workAt_19 (by decide) ?_
      have e9 : 0 = f3_workAt π a1 := by unfold f3_workAt; (try rw [if_neg c_1]); (try rw [if_pos c_2])
      exact sy_ret hx hb hr hlk e9 dX3_workAt_20
    · refine lv_aload_n hx hb dX3_workAt_10 rfl (lv_at hl 0 rfl) ?_
      refine gX3_3 hx hb htA hown hK hP dX3_workAt_11 ?_
      refine lv_iload_n hx hb dX3_workAt_14 rfl (lv_at hl 1 rfl) ?_
      refine sy_iald hx hb hK hP (12) wAt_12 (vin_lt c_1 (Int32.not_le.mp c_2) (by decide)) dX3_workAt_15 ?_
      refine lv_goto (tgt := 20) hx hb dX3_workAt_16 (by decide) ?_
      have e9 : π.2 1 a1.toNatClampNeg = f3_workAt π a1 := by unfold f3_workAt; (try rw [if_neg c_1]); (try rw [if_neg c_2])
      exact sy_ret hx hb hr hlk e9 dX3_workAt_20
/-- X3_hardAt -/
theorem hd_X3_hardAt : yX3_hardAt.cls = yX3_hardAt.cls ∧ yX3_hardAt.cls ≠ "java/lang/invoke/MethodHandle" ∧ yX3_hardAt.cls ≠ "java/lang/invoke/VarHandle" ∧ (parseMethodDescriptor yX3_hardAt.desc).map (fun d => d.parameters.length) = some 1 := by decide +kernel
def f3_hardAt (π : Sg) (a1 : Int32) : Int32 := (if a1 < 0 then 0 else (if 64 ≤ a1 then 0 else π.2 2 a1.toNatClampNeg))
set_option maxHeartbeats 400000 in
set_option maxRecDepth 100000 in
theorem m3_hardAt (l : Launch) (D : va_G) (cA : ClassId) (ad : Nat → Nat) (τ ρ π γ : Sg) (a1 : Int32) : Met l yX3_hardAt (wM yX3_hardAt cX3_hardAt 2 (some .int)) ({ frames := 0, cells := 0, slots := 0, locals := 0 }) (va_Pc [.ref (ad 3), .int a1] (pS D cA ad τ ρ π γ)) (QcRead (f3_hardAt π a1)) 0 0 noA := by
  refine sy_of (by decide) (Nat.le_of_ble_eq_true rfl) ?_
  intro p e s m below meth c ls C hr hlk hK hN hP hl
  obtain ⟨hx, hb, hml, hown, hts⟩ := id C
  have htA : ∀ w ∈ wA, w.before ([.ref (ad 3), .int a1] : List Value).toArray s = true := fun w h => hts w (List.mem_cons_of_mem _ h)
  have hl : lv_has ls 2 [(0, .ref (ad 3)), (1, .int a1)] := hl
  refine lv_iload_n hx hb dX3_hardAt_0 rfl (lv_at hl 1 rfl) ?_
  refine lv_if_lt (tgt := 19) hx hb dX3_hardAt_1 (by decide) (fun c_1 => ?_) (fun c_1 => ?_)
  · refine lv_iconst (v := 0) hx hb dX3_hardAt_19 (by decide) ?_
    have e9 : 0 = f3_hardAt π a1 := by unfold f3_hardAt; (try rw [if_pos c_1])
    exact sy_ret hx hb hr hlk e9 dX3_hardAt_20
  · refine lv_iload_n hx hb dX3_hardAt_4 rfl (lv_at hl 1 rfl) ?_
    refine lv_bipush (v := 64) hx hb dX3_hardAt_5 (by decide) ?_
    refine lv_icmp_ge (tgt := 19) hx hb dX3_hardAt_7 (by decide) (fun c_2 => ?_) (fun c_2 => ?_)
    · refine lv_iconst (v := 0) hx hb dX3_hardAt_19 (by decide) ?_
      have e9 : 0 = f3_hardAt π a1 := by unfold f3_hardAt; (try rw [if_neg c_1]); (try rw [if_pos c_2])
      exact sy_ret hx hb hr hlk e9 dX3_hardAt_20
    · refine lv_aload_n hx hb dX3_hardAt_10 rfl (lv_at hl 0 rfl) ?_
      refine gX3_4 hx hb htA hown hK hP dX3_hardAt_11 ?_
      refine lv_iload_n hx hb dX3_hardAt_14 rfl (lv_at hl 1 rfl) ?_
      refine sy_iald hx hb hK hP (13) wAt_13 (vin_lt c_1 (Int32.not_le.mp c_2) (by decide)) dX3_hardAt_15 ?_
      refine lv_goto (tgt := 20) hx hb dX3_hardAt_16 (by decide) ?_
      have e9 : π.2 2 a1.toNatClampNeg = f3_hardAt π a1 := by unfold f3_hardAt; (try rw [if_neg c_1]); (try rw [if_neg c_2])
      exact sy_ret hx hb hr hlk e9 dX3_hardAt_20

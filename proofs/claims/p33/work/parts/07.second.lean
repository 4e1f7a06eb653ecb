/-- X4_putEtch -/
theorem hd_X4_putEtch : yX4_putEtch.cls = yX4_putEtch.cls ∧ yX4_putEtch.cls ≠ "java/lang/invoke/MethodHandle" ∧ yX4_putEtch.cls ≠ "java/lang/invoke/VarHandle" ∧ (parseMethodDescriptor yX4_putEtch.desc).map (fun d => d.parameters.length) = some 1 := by decide +kernel
def f4_putEtch (ρ : Sg) (a1 : Int32) : Sg := (si ρ 0 a1)
set_option maxHeartbeats 400000 in
set_option maxRecDepth 100000 in
theorem m4_putEtch (l : Launch) (D : va_G) (cA : ClassId) (ad : Nat → Nat) (had : Apart ad) (τ ρ π γ : Sg) (a1 : Int32) : Met l yX4_putEtch (wM yX4_putEtch cX4_putEtch 2 none) ({ frames := 0, cells := 0, slots := 0, locals := 0 }) (va_Pc [.ref (ad 2), .int a1] (pS D cA ad τ ρ π γ)) (qV D cA ad τ (f4_putEtch ρ a1) π γ none) 0 0 (aS ad) := by
  refine sy_of (by decide) (Nat.le_of_ble_eq_true rfl) ?_
  intro p e s m below meth c ls C hr hlk hK hN hP hl
  obtain ⟨hx, hb, hml, hown, hts⟩ := id C
  have htA : ∀ w ∈ wA, w.before ([.ref (ad 2), .int a1] : List Value).toArray s = true := fun w h => hts w (List.mem_cons_of_mem _ h)
  have hl : lv_has ls 2 [(0, .ref (ad 2)), (1, .int a1)] := hl
  have hS : va_S (aS ad) s.heap s.heap [] := va_S.rf
  refine lv_aload_n hx hb dX4_putEtch_0 rfl (lv_at hl 0 rfl) ?_
  refine lv_iload_n hx hb dX4_putEtch_1 rfl (lv_at hl 1 rfl) ?_
  refine pX4_2 hx hb htA hown hK hP had (fun _ h => h) hS dX4_putEtch_2 (fun H locs hP hS => ?_)
  have e9 : (si ρ 0 a1) = f4_putEtch ρ a1 := rfl
  exact sy_retV hx hb hr hlk hP hS (by rw [← e9]) dX4_putEtch_5
/-- X4_putTime -/
theorem hd_X4_putTime : yX4_putTime.cls = yX4_putTime.cls ∧ yX4_putTime.cls ≠ "java/lang/invoke/MethodHandle" ∧ yX4_putTime.cls ≠ "java/lang/invoke/VarHandle" ∧ (parseMethodDescriptor yX4_putTime.desc).map (fun d => d.parameters.length) = some 2 := by decide +kernel
def f4_putTime (ρ : Sg) (a1 : Int32) (a2 : Int32) : Sg := (if a1 < 0 then ρ else (if 10 ≤ a1 then ρ else (sa ρ 1 a1.toNatClampNeg a2)))
set_option maxHeartbeats 400000 in
set_option maxRecDepth 100000 in
theorem m4_putTime (l : Launch) (D : va_G) (cA : ClassId) (ad : Nat → Nat) (had : Apart ad) (τ ρ π γ : Sg) (a1 : Int32) (a2 : Int32) : Met l yX4_putTime (wM yX4_putTime cX4_putTime 3 none) ({ frames := 0, cells := 0, slots := 0, locals := 0 }) (va_Pc [.ref (ad 2), .int a1, .int a2] (pS D cA ad τ ρ π γ)) (qV D cA ad τ (f4_putTime ρ a1 a2) π γ none) 0 0 (aS ad) := by
  refine sy_of (by decide) (Nat.le_of_ble_eq_true rfl) ?_
  intro p e s m below meth c ls C hr hlk hK hN hP hl
  obtain ⟨hx, hb, hml, hown, hts⟩ := id C
  have htA : ∀ w ∈ wA, w.before ([.ref (ad 2), .int a1, .int a2] : List Value).toArray s = true := fun w h => hts w (List.mem_cons_of_mem _ h)
  have hl : lv_has ls 3 [(0, .ref (ad 2)), (1, .int a1), (2, .int a2)] := hl
  have hS : va_S (aS ad) s.heap s.heap [] := va_S.rf
  refine lv_iload_n hx hb dX4_putTime_0 rfl (lv_at hl 1 rfl) ?_
  refine lv_if_lt (tgt := 17) hx hb dX4_putTime_1 (by decide) (fun c_1 => ?_) (fun c_1 => ?_)
  · have e9 : ρ = f4_putTime ρ a1 a2 := by unfold f4_putTime; (try rw [if_pos c_1])
    exact sy_retV hx hb hr hlk hP hS (by rw [← e9]) dX4_putTime_17
  · refine lv_iload_n hx hb dX4_putTime_4 rfl (lv_at hl 1 rfl) ?_
    refine lv_bipush (v := 10) hx hb dX4_putTime_5 (by decide) ?_
    refine lv_icmp_ge (tgt := 17) hx hb dX4_putTime_7 (by decide) (fun c_2 => ?_) (fun c_2 => ?_)
    · have e9 : ρ = f4_putTime ρ a1 a2 := by unfold f4_putTime; (try rw [if_neg c_1]); (try rw [if_pos c_2])
      exact sy_retV hx hb hr hlk hP hS (by rw [← e9]) dX4_putTime_17
    · refine lv_aload_n hx hb dX4_putTime_10 rfl (lv_at hl 0 rfl) ?_
      refine gX4_1 hx hb htA hown hK hP dX4_putTime_11 ?_
      refine lv_iload_n hx hb dX4_putTime_14 rfl (lv_at hl 1 rfl) ?_
      refine lv_iload_n hx hb dX4_putTime_15 rfl (lv_at hl 2 rfl) ?_
      refine sy_iast (τ' := τ) (ρ' := (sa ρ 1 a1.toNatClampNeg a2)) (π' := π) (γ' := γ) hx hb hK hP had (fun _ h => h) hS (10) wAt_10 wSt_10 (vin_lt c_1 (Int32.not_le.mp c_2) (by decide)) dX4_putTime_16 (fun H locs hP hS => ?_)
      have e9 : (sa ρ 1 a1.toNatClampNeg a2) = f4_putTime ρ a1 a2 := by unfold f4_putTime; (try rw [if_neg c_1]); (try rw [if_neg c_2])
      exact sy_retV hx hb hr hlk hP hS (by rw [← e9]) dX4_putTime_17
/-- X4_putMisfit -/
theorem hd_X4_putMisfit : yX4_putMisfit.cls = yX4_putMisfit.cls ∧ yX4_putMisfit.cls ≠ "java/lang/invoke/MethodHandle" ∧ yX4_putMisfit.cls ≠ "java/lang/invoke/VarHandle" ∧ (parseMethodDescriptor yX4_putMisfit.desc).map (fun d => d.parameters.length) = some 3 := by decide +kernel
def f4_putMisfit (ρ : Sg) (a1 : Int32) (a2 : Int32) (a3 : Int32) : Sg := (if a1 < 0 then ρ else (if 9 < a1 then ρ else (if a2 < 0 then ρ else (if a2 ≤ 9 then (sa (sa ρ 0 ((a1 * 10) + a2).toNatClampNeg a3) 0 ((a2 * 10) + a1).toNatClampNeg a3) else ρ))))
set_option maxHeartbeats 400000 in
set_option maxRecDepth 100000 in
theorem m4_putMisfit (l : Launch) (D : va_G) (cA : ClassId) (ad : Nat → Nat) (had : Apart ad) (τ ρ π γ : Sg) (a1 : Int32) (a2 : Int32) (a3 : Int32) : Met l yX4_putMisfit (wM yX4_putMisfit cX4_putMisfit 4 none) ({ frames := 0, cells := 0, slots := 0, locals := 0 }) (va_Pc [.ref (ad 2), .int a1, .int a2, .int a3] (pS D cA ad τ ρ π γ)) (qV D cA ad τ (f4_putMisfit ρ a1 a2 a3) π γ none) 0 0 (aS ad) := by
  refine sy_of (by decide) (Nat.le_of_ble_eq_true rfl) ?_
  intro p e s m below meth c ls C hr hlk hK hN hP hl
  obtain ⟨hx, hb, hml, hown, hts⟩ := id C
  have htA : ∀ w ∈ wA, w.before ([.ref (ad 2), .int a1, .int a2, .int a3] : List Value).toArray s = true := fun w h => hts w (List.mem_cons_of_mem _ h)
  have hl : lv_has ls 4 [(0, .ref (ad 2)), (1, .int a1), (2, .int a2), (3, .int a3)] := hl
  have hS : va_S (aS ad) s.heap s.heap [] := va_S.rf
  refine lv_iload_n hx hb dX4_putMisfit_0 rfl (lv_at hl 1 rfl) ?_
  refine lv_if_lt (tgt := 20) hx hb dX4_putMisfit_1 (by decide) (fun c_1 => ?_) (fun c_1 => ?_)
  · have e9 : ρ = f4_putMisfit ρ a1 a2 a3 := by unfold f4_putMisfit; (try rw [if_pos c_1])
    exact sy_retV hx hb hr hlk hP hS (by rw [← e9]) dX4_putMisfit_20
  · refine lv_iload_n hx hb dX4_putMisfit_4 rfl (lv_at hl 1 rfl) ?_
    refine lv_bipush (v := 9) hx hb dX4_putMisfit_5 (by decide) ?_
    refine lv_icmp_gt (tgt := 20) hx hb dX4_putMisfit_7 (by decide) (fun c_2 => ?_) (fun c_2 => ?_)
    · have e9 : ρ = f4_putMisfit ρ a1 a2 a3 := by unfold f4_putMisfit; (try rw [if_neg c_1]); (try rw [if_pos c_2])
      exact sy_retV hx hb hr hlk hP hS (by rw [← e9]) dX4_putMisfit_20
    · refine lv_iload_n hx hb dX4_putMisfit_10 rfl (lv_at hl 2 rfl) ?_
      refine lv_if_lt (tgt := 20) hx hb dX4_putMisfit_11 (by decide) (fun c_3 => ?_) (fun c_3 => ?_)
      · have e9 : ρ = f4_putMisfit ρ a1 a2 a3 := by unfold f4_putMisfit; (try rw [if_neg c_1]); (try rw [if_neg c_2]); (try rw [if_pos c_3])
        exact sy_retV hx hb hr hlk hP hS (by rw [← e9]) dX4_putMisfit_20
      · refine lv_iload_n hx hb dX4_putMisfit_14 rfl (lv_at hl 2 rfl) ?_
        refine lv_bipush (v := 9) hx hb dX4_putMisfit_15 (by decide) ?_
        refine lv_icmp_le (tgt := 21) hx hb dX4_putMisfit_17 (by decide) (fun c_4 => ?_) (fun c_4 => ?_)
        · refine lv_aload_n hx hb dX4_putMisfit_21 rfl (lv_at hl 0 rfl) ?_
          refine gX4_0 hx hb htA hown hK hP dX4_putMisfit_22 ?_
          refine lv_iload_n hx hb dX4_putMisfit_25 rfl (lv_at hl 1 rfl) ?_
          refine lv_bipush (v := 10) hx hb dX4_putMisfit_26 (by decide) ?_
          refine lv_imul hx hb dX4_putMisfit_28 ?_
          refine lv_iload_n hx hb dX4_putMisfit_29 rfl (lv_at hl 2 rfl) ?_
          refine lv_iadd hx hb dX4_putMisfit_30 ?_
          refine lv_iload_n hx hb dX4_putMisfit_31 rfl (lv_at hl 3 rfl) ?_
          refine sy_iast (τ' := τ) (ρ' := (sa ρ 0 ((a1 * 10) + a2).toNatClampNeg a3)) (π' := π) (γ' := γ) hx hb hK hP had (fun _ h => h) hS (9) wAt_9 wSt_9 (vin_misfit c_1 c_2 c_3 (Int32.not_lt.mpr c_4)) dX4_putMisfit_32 (fun H locs hP hS => ?_)
          refine lv_aload_n hx hb dX4_putMisfit_33 rfl (lv_at hl 0 rfl) ?_
          refine gX4_0 hx hb htA hown hK hP dX4_putMisfit_34 ?_
          refine lv_iload_n hx hb dX4_putMisfit_37 rfl (lv_at hl 2 rfl) ?_
          refine lv_bipush (v := 10) hx hb dX4_putMisfit_38 (by decide) ?_
          refine lv_imul hx hb dX4_putMisfit_40 ?_
          refine lv_iload_n hx hb dX4_putMisfit_41 rfl (lv_at hl 1 rfl) ?_
          refine lv_iadd hx hb dX4_putMisfit_42 ?_
          refine lv_iload_n hx hb dX4_putMisfit_43 rfl (lv_at hl 3 rfl) ?_
          refine sy_iast (τ' := τ) (ρ' := (sa (sa ρ 0 ((a1 * 10) + a2).toNatClampNeg a3) 0 ((a2 * 10) + a1).toNatClampNeg a3)) (π' := π) (γ' := γ) hx hb hK hP had (fun _ h => h) hS (9) wAt_9 wSt_9 (vin_misfit c_3 (Int32.not_lt.mpr c_4) c_1 c_2) dX4_putMisfit_44 (fun H locs hP hS => ?_)
          have e9 : (sa (sa ρ 0 ((a1 * 10) + a2).toNatClampNeg a3) 0 ((a2 * 10) + a1).toNatClampNeg a3) = f4_putMisfit ρ a1 a2 a3 := by unfold f4_putMisfit; (try rw [if_neg c_1]); (try rw [if_neg c_2]); (try rw [if_neg c_3]); (try rw [if_pos c_4])
          exact sy_retV hx hb hr hlk hP hS (by rw [← e9]) dX4_putMisfit_45
        · have e9 : ρ = f4_putMisfit ρ a1 a2 a3 := by unfold f4_putMisfit; (try rw [if_neg c_1]); (try rw [if_neg c_2]); (try rw [if_neg c_3]); (try rw [if_neg c_4])
          exact sy_retV hx hb hr hlk hP hS (by rw [← e9]) dX4_putMisfit_20
/-- X3_beginRow -/
theorem hd_X3_beginRow : yX3_beginRow.cls = yX3_beginRow.cls ∧ yX3_beginRow.cls ≠ "java/lang/invoke/MethodHandle" ∧ yX3_beginRow.cls ≠ "java/lang/invoke/VarHandle" ∧ (parseMethodDescriptor yX3_beginRow.desc).map (fun d => d.parameters.length) = some 1 := by decide +kernel
def f3_beginRow (π : Sg) (a1 : Int32) : Sg := (si π 0 a1)
set_option maxHeartbeats 400000 in
set_option maxRecDepth 100000 in
theorem m3_beginRow (l : Launch) (D : va_G) (cA : ClassId) (ad : Nat → Nat) (had : Apart ad) (τ ρ π γ : Sg) (a1 : Int32) : Met l yX3_beginRow (wM yX3_beginRow cX3_beginRow 2 none) ({ frames := 0, cells := 0, slots := 0, locals := 0 }) (va_Pc [.ref (ad 3), .int a1] (pS D cA ad τ ρ π γ)) (qV D cA ad τ ρ (f3_beginRow π a1) γ none) 0 0 (aS ad) := by
  refine sy_of (by decide) (Nat.le_of_ble_eq_true rfl) ?_
  intro p e s m below meth c ls C hr hlk hK hN hP hl
  obtain ⟨hx, hb, hml, hown, hts⟩ := id C
  have htA : ∀ w ∈ wA, w.before ([.ref (ad 3), .int a1] : List Value).toArray s = true := fun w h => hts w (List.mem_cons_of_mem _ h)
  have hl : lv_has ls 2 [(0, .ref (ad 3)), (1, .int a1)] := hl
  have hS : va_S (aS ad) s.heap s.heap [] := va_S.rf
  refine lv_aload_n hx hb dX3_beginRow_0 rfl (lv_at hl 0 rfl) ?_
  refine lv_iload_n hx hb dX3_beginRow_1 rfl (lv_at hl 1 rfl) ?_
  refine pX3_5 hx hb htA hown hK hP had (fun _ h => h) hS dX3_beginRow_2 (fun H locs hP hS => ?_)
  have e9 : (si π 0 a1) = f3_beginRow π a1 := rfl
  exact sy_retV hx hb hr hlk hP hS (by rw [← e9]) dX3_beginRow_5
/-- X3_drawBelow -/
theorem hd_X3_drawBelow : yX3_drawBelow.cls = yX3_drawBelow.cls ∧ yX3_drawBelow.cls ≠ "java/lang/invoke/MethodHandle" ∧ yX3_drawBelow.cls ≠ "java/lang/invoke/VarHandle" ∧ (parseMethodDescriptor yX3_drawBelow.desc).map (fun d => d.parameters.length) = some 1 := by decide +kernel
def f3_drawBelow (π : Sg) (a1 : Int32) : Int32 × Sg := (if a1 ≤ 0 then (0, (si (si π 0 (((17 * (π.1 0)) + 23) - ((17 * (π.1 0)) + 23) / 8191 * 8191)) 1 (((si π 0 (((17 * (π.1 0)) + 23) - ((17 * (π.1 0)) + 23) / 8191 * 8191)).1 1) + 1))) else ((π.1 0) - (π.1 0) / a1 * a1, (si (si π 0 (((17 * (π.1 0)) + 23) - ((17 * (π.1 0)) + 23) / 8191 * 8191)) 1 (((si π 0 (((17 * (π.1 0)) + 23) - ((17 * (π.1 0)) + 23) / 8191 * 8191)).1 1) + 1))))
set_option maxHeartbeats 400000 in
set_option maxRecDepth 100000 in
theorem m3_drawBelow (l : Launch) (D : va_G) (cA : ClassId) (ad : Nat → Nat) (had : Apart ad) (τ ρ π γ : Sg) (a1 : Int32) : Met l yX3_drawBelow (wM yX3_drawBelow cX3_drawBelow 3 (some .int)) ({ frames := 0, cells := 0, slots := 0, locals := 0 }) (va_Pc [.ref (ad 3), .int a1] (pS D cA ad τ ρ π γ)) (qV D cA ad τ ρ ((f3_drawBelow π a1).2) γ (some (.int ((f3_drawBelow π a1).1)))) 0 0 (aS ad) := by
  refine sy_of (by decide) (Nat.le_of_ble_eq_true rfl) ?_
  intro p e s m below meth c ls C hr hlk hK hN hP hl
  obtain ⟨hx, hb, hml, hown, hts⟩ := id C
  have htA : ∀ w ∈ wA, w.before ([.ref (ad 3), .int a1] : List Value).toArray s = true := fun w h => hts w (List.mem_cons_of_mem _ h)
  have hl : lv_has ls 3 [(0, .ref (ad 3)), (1, .int a1)] := hl
  have hS : va_S (aS ad) s.heap s.heap [] := va_S.rf
  refine lv_aload_n hx hb dX3_drawBelow_0 rfl (lv_at hl 0 rfl) ?_
  refine gX3_5 hx hb htA hown hK hP dX3_drawBelow_1 ?_
  refine lv_istore_n (lv' := [(2, .int (π.1 0)), (0, .ref (ad 3)), (1, .int a1)]) hx hb dX3_drawBelow_4 rfl hl (by decide) rfl (fun ls hl => ?_)
  refine lv_aload_n hx hb dX3_drawBelow_5 rfl (lv_at hl 1 rfl) ?_
  refine lv_bipush (v := 17) hx hb dX3_drawBelow_6 (by decide) ?_
  refine lv_aload_n hx hb dX3_drawBelow_8 rfl (lv_at hl 1 rfl) ?_
  refine gX3_5 hx hb htA hown hK hP dX3_drawBelow_9 ?_
  refine lv_imul hx hb dX3_drawBelow_12 ?_
  refine lv_bipush (v := 23) hx hb dX3_drawBelow_13 (by decide) ?_
  refine lv_iadd hx hb dX3_drawBelow_15 ?_
  refine lv_sipush (v := 8191) hx hb dX3_drawBelow_16 (by decide) ?_
  refine lv_irem hx hb dX3_drawBelow_19 (by decide) ?_
  refine pX3_5 hx hb htA hown hK hP had (fun _ h => h) hS dX3_drawBelow_20 (fun H locs hP hS => ?_)
  refine lv_aload_n hx hb dX3_drawBelow_23 rfl (lv_at hl 1 rfl) ?_
  refine lv_dup hx hb dX3_drawBelow_24 rfl ?_
  refine gX3_6 hx hb htA hown hK hP dX3_drawBelow_25 ?_
  refine lv_iconst (v := 1) hx hb dX3_drawBelow_28 (by decide) ?_
  refine lv_iadd hx hb dX3_drawBelow_29 ?_
  refine pX3_6 hx hb htA hown hK hP had (fun _ h => h) hS dX3_drawBelow_30 (fun H locs hP hS => ?_)
  refine lv_iload_n hx hb dX3_drawBelow_33 rfl (lv_at hl 2 rfl) ?_
  refine lv_if_le (tgt := 43) hx hb dX3_drawBelow_34 (by decide) (fun c_1 => ?_) (fun c_1 => ?_)
  · refine lv_iconst (v := 0) hx hb dX3_drawBelow_43 (by decide) ?_
    have e9 : (0, (si (si π 0 (((17 * (π.1 0)) + 23) - ((17 * (π.1 0)) + 23) / 8191 * 8191)) 1 (((si π 0 (((17 * (π.1 0)) + 23) - ((17 * (π.1 0)) + 23) / 8191 * 8191)).1 1) + 1))) = f3_drawBelow π a1 := by unfold f3_drawBelow; (try rw [if_pos c_1])
    exact sy_retVI hx hb hr hlk hP hS rfl (by rw [← e9]) (by rw [← e9]) dX3_drawBelow_44
  · refine lv_iload_n hx hb dX3_drawBelow_37 rfl (lv_at hl 0 rfl) ?_
    refine lv_iload_n hx hb dX3_drawBelow_38 rfl (lv_at hl 2 rfl) ?_
    refine lv_irem hx hb dX3_drawBelow_39 (ne_pos (Int32.not_le.mp c_1)) ?_
    refine lv_goto (tgt := 44) hx hb dX3_drawBelow_40 (by decide) ?_
    have e9 : ((π.1 0) - (π.1 0) / a1 * a1, (si (si π 0 (((17 * (π.1 0)) + 23) - ((17 * (π.1 0)) + 23) / 8191 * 8191)) 1 (((si π 0 (((17 * (π.1 0)) + 23) - ((17 * (π.1 0)) + 23) / 8191 * 8191)).1 1) + 1))) = f3_drawBelow π a1 := by unfold f3_drawBelow; (try rw [if_neg c_1])
    exact sy_retVI hx hb hr hlk hP hS rfl (by rw [← e9]) (by rw [← e9]) dX3_drawBelow_44
/-- X3_putMark -/
theorem hd_X3_putMark : yX3_putMark.cls = yX3_putMark.cls ∧ yX3_putMark.cls ≠ "java/lang/invoke/MethodHandle" ∧ yX3_putMark.cls ≠ "java/lang/invoke/VarHandle" ∧ (parseMethodDescriptor yX3_putMark.desc).map (fun d => d.parameters.length) = some 2 := by decide +kernel
def f3_putMark (π : Sg) (a1 : Int32) (a2 : Int32) : Sg := (if a1 < 0 then π else (if 64 ≤ a1 then π else (sa π 0 a1.toNatClampNeg a2)))
set_option maxHeartbeats 400000 in
set_option maxRecDepth 100000 in
theorem m3_putMark (l : Launch) (D : va_G) (cA : ClassId) (ad : Nat → Nat) (had : Apart ad) (τ ρ π γ : Sg) (a1 : Int32) (a2 : Int32) : Met l yX3_putMark (wM yX3_putMark cX3_putMark 3 none) ({ frames := 0, cells := 0, slots := 0, locals := 0 }) (va_Pc [.ref (ad 3), .int a1, .int a2] (pS D cA ad τ ρ π γ)) (qV D cA ad τ ρ (f3_putMark π a1 a2) γ none) 0 0 (aS ad) := by
  refine sy_of (by decide) (Nat.le_of_ble_eq_true rfl) ?_
  intro p e s m below meth c ls C hr hlk hK hN hP hl
  obtain ⟨hx, hb, hml, hown, hts⟩ := id C
  have htA : ∀ w ∈ wA, w.before ([.ref (ad 3), .int a1, .int a2] : List Value).toArray s = true := fun w h => hts w (List.mem_cons_of_mem _ h)
  have hl : lv_has ls 3 [(0, .ref (ad 3)), (1, .int a1), (2, .int a2)] := hl
  have hS : va_S (aS ad) s.heap s.heap [] := va_S.rf
  refine lv_iload_n hx hb dX3_putMark_0 rfl (lv_at hl 1 rfl) ?_
  refine lv_if_lt (tgt := 17) hx hb dX3_putMark_1 (by decide) (fun c_1 => ?_) (fun c_1 => ?_)
  · have e9 : π = f3_putMark π a1 a2 := by unfold f3_putMark; (try rw [if_pos c_1])
    exact sy_retV hx hb hr hlk hP hS (by rw [← e9]) dX3_putMark_17
  · refine lv_iload_n hx hb dX3_putMark_4 rfl (lv_at hl 1 rfl) ?_
    refine lv_bipush (v := 64) hx hb dX3_putMark_5 (by decide) ?_
    refine lv_icmp_ge (tgt := 17) hx hb dX3_putMark_7 (by decide) (fun c_2 => ?_) (fun c_2 => ?_)
    · have e9 : π = f3_putMark π a1 a2 := by unfold f3_putMark; (try rw [if_neg c_1]); (try rw [if_pos c_2])
      exact sy_retV hx hb hr hlk hP hS (by rw [← e9]) dX3_putMark_17
    · refine lv_aload_n hx hb dX3_putMark_10 rfl (lv_at hl 0 rfl) ?_
      refine gX3_2 hx hb htA hown hK hP dX3_putMark_11 ?_
      refine lv_iload_n hx hb dX3_putMark_14 rfl (lv_at hl 1 rfl) ?_
      refine lv_iload_n hx hb dX3_putMark_15 rfl (lv_at hl 2 rfl) ?_
      refine sy_iast (τ' := τ) (ρ' := ρ) (π' := (sa π 0 a1.toNatClampNeg a2)) (γ' := γ) hx hb hK hP had (fun _ h => h) hS (11) wAt_11 wSt_11 (vin_lt c_1 (Int32.not_le.mp c_2) (by decide)) dX3_putMark_16 (fun H locs hP hS => ?_)
      have e9 : (sa π 0 a1.toNatClampNeg a2) = f3_putMark π a1 a2 := by unfold f3_putMark; (try rw [if_neg c_1]); (try rw [if_neg c_2])
      exact sy_retV hx hb hr hlk hP hS (by rw [← e9]) dX3_putMark_17
/-- X3_putWork -/
theorem hd_X3_putWork : yX3_putWork.cls = yX3_putWork.cls ∧ yX3_putWork.cls ≠ "java/lang/invoke/MethodHandle" ∧ yX3_putWork.cls ≠ "java/lang/invoke/VarHandle" ∧ (parseMethodDescriptor yX3_putWork.desc).map (fun d => d.parameters.length) = some 2 := by decide +kernel
def f3_putWork (π : Sg) (a1 : Int32) (a2 : Int32) : Sg := (if a1 < 0 then π else (if 64 ≤ a1 then π else (sa π 1 a1.toNatClampNeg a2)))
set_option maxHeartbeats 400000 in
set_option maxRecDepth 100000 in
theorem m3_putWork (l : Launch) (D : va_G) (cA : ClassId) (ad : Nat → Nat) (had : Apart ad) (τ ρ π γ : Sg) (a1 : Int32) (a2 : Int32) : Met l yX3_putWork (wM yX3_putWork cX3_putWork 3 none) ({ frames := 0, cells := 0, slots := 0, locals := 0 }) (va_Pc [.ref (ad 3), .int a1, .int a2] (pS D cA ad τ ρ π γ)) (qV D cA ad τ ρ (f3_putWork π a1 a2) γ none) 0 0 (aS ad) := by
  refine sy_of (by decide) (Nat.le_of_ble_eq_true rfl) ?_
  intro p e s m below meth c ls C hr hlk hK hN hP hl
  obtain ⟨hx, hb, hml, hown, hts⟩ := id C
  have htA : ∀ w ∈ wA, w.before ([.ref (ad 3), .int a1, .int a2] : List Value).toArray s = true := fun w h => hts w (List.mem_cons_of_mem _ h)
  have hl : lv_has ls 3 [(0, .ref (ad 3)), (1, .int a1), (2, .int a2)] := hl
  have hS : va_S (aS ad) s.heap s.heap [] := va_S.rf
  refine lv_iload_n hx hb dX3_putWork_0 rfl (lv_at hl 1 rfl) ?_
  refine lv_if_lt (tgt := 17) hx hb dX3_putWork_1 (by decide) (fun c_1 => ?_) (fun c_1 => ?_)
  · have e9 : π = f3_putWork π a1 a2 := by unfold f3_putWork; (try rw [if_pos c_1])
    exact sy_retV hx hb hr hlk hP hS (by rw [← e9]) dX3_putWork_17
  · refine lv_iload_n hx hb dX3_putWork_4 rfl (lv_at hl 1 rfl) ?_
    refine lv_bipush (v := 64) hx hb dX3_putWork_5 (by decide) ?_
    refine lv_icmp_ge (tgt := 17) hx hb dX3_putWork_7 (by decide) (fun c_2 => ?_) (fun c_2 => ?_)
    · have e9 : π = f3_putWork π a1 a2 := by unfold f3_putWork; (try rw [if_neg c_1]); (try rw [if_pos c_2])
      exact sy_retV hx hb hr hlk hP hS (by rw [← e9]) dX3_putWork_17
    · refine lv_aload_n hx hb dX3_putWork_10 rfl (lv_at hl 0 rfl) ?_
      refine gX3_3 hx hb htA hown hK hP dX3_putWork_11 ?_
      refine lv_iload_n hx hb dX3_putWork_14 rfl (lv_at hl 1 rfl) ?_
      refine lv_iload_n hx hb dX3_putWork_15 rfl (lv_at hl 2 rfl) ?_
      refine sy_iast (τ' := τ) (ρ' := ρ) (π' := (sa π 1 a1.toNatClampNeg a2)) (γ' := γ) hx hb hK hP had (fun _ h => h) hS (12) wAt_12 wSt_12 (vin_lt c_1 (Int32.not_le.mp c_2) (by decide)) dX3_putWork_16 (fun H locs hP hS => ?_)
      have e9 : (sa π 1 a1.toNatClampNeg a2) = f3_putWork π a1 a2 := by unfold f3_putWork; (try rw [if_neg c_1]); (try rw [if_neg c_2])
      exact sy_retV hx hb hr hlk hP hS (by rw [← e9]) dX3_putWork_17
/-- X3_putHard -/
theorem hd_X3_putHard : yX3_putHard.cls = yX3_putHard.cls ∧ yX3_putHard.cls ≠ "java/lang/invoke/MethodHandle" ∧ yX3_putHard.cls ≠ "java/lang/invoke/VarHandle" ∧ (parseMethodDescriptor yX3_putHard.desc).map (fun d => d.parameters.length) = some 2 := by decide +kernel
def f3_putHard (π : Sg) (a1 : Int32) (a2 : Int32) : Sg := (if a1 < 0 then π else (if 64 ≤ a1 then π else (sa π 2 a1.toNatClampNeg a2)))
set_option maxHeartbeats 400000 in
set_option maxRecDepth 100000 in
theorem m3_putHard (l : Launch) (D : va_G) (cA : ClassId) (ad : Nat → Nat) (had : Apart ad) (τ ρ π γ : Sg) (a1 : Int32) (a2 : Int32) : Met l yX3_putHard (wM yX3_putHard cX3_putHard 3 none) ({ frames := 0, cells := 0, slots := 0, locals := 0 }) (va_Pc [.ref (ad 3), .int a1, .int a2] (pS D cA ad τ ρ π γ)) (qV D cA ad τ ρ (f3_putHard π a1 a2) γ none) 0 0 (aS ad) := by
  refine sy_of (by decide) (Nat.le_of_ble_eq_true rfl) ?_
  intro p e s m below meth c ls C hr hlk hK hN hP hl
  obtain ⟨hx, hb, hml, hown, hts⟩ := id C
  have htA : ∀ w ∈ wA, w.before ([.ref (ad 3), .int a1, .int a2] : List Value).toArray s = true := fun w h => hts w (List.mem_cons_of_mem _ h)
  have hl : lv_has ls 3 [(0, .ref (ad 3)), (1, .int a1), (2, .int a2)] := hl
  have hS : va_S (aS ad) s.heap s.heap [] := va_S.rf
  refine lv_iload_n hx hb dX3_putHard_0 rfl (lv_at hl 1 rfl) ?_
  refine lv_if_lt (tgt := 17) hx hb dX3_putHard_1 (by decide) (fun c_1 => ?_) (fun c_1 => ?_)
  · have e9 : π = f3_putHard π a1 a2 := by unfold f3_putHard; (try rw [if_pos c_1])
    exact sy_retV hx hb hr hlk hP hS (by rw [← e9]) dX3_putHard_17
  · refine lv_iload_n hx hb dX3_putHard_4 rfl (lv_at hl 1 rfl) ?_
    refine lv_bipush (v := 64) hx hb dX3_putHard_5 (by decide) ?_
    refine lv_icmp_ge (tgt := 17) hx hb dX3_putHard_7 (by decide) (fun c_2 => ?_) (fun c_2 => ?_)
    · have e9 : π = f3_putHard π a1 a2 := by unfold f3_putHard; (try rw [if_neg c_1]); (try rw [if_pos c_2])
      exact sy_retV hx hb hr hlk hP hS (by rw [← e9]) dX3_putHard_17
    · refine lv_aload_n hx hb dX3_putHard_10 rfl (lv_at hl 0 rfl) ?_
      refine gX3_4 hx hb htA hown hK hP dX3_putHard_11 ?_
      refine lv_iload_n hx hb dX3_putHard_14 rfl (lv_at hl 1 rfl) ?_
      refine lv_iload_n hx hb dX3_putHard_15 rfl (lv_at hl 2 rfl) ?_
      refine sy_iast (τ' := τ) (ρ' := ρ) (π' := (sa π 2 a1.toNatClampNeg a2)) (γ' := γ) hx hb hK hP had (fun _ h => h) hS (13) wAt_13 wSt_13 (vin_lt c_1 (Int32.not_le.mp c_2) (by decide)) dX3_putHard_16 (fun H locs hP hS => ?_)
      have e9 : (sa π 2 a1.toNatClampNeg a2) = f3_putHard π a1 a2 := by unfold f3_putHard; (try rw [if_neg c_1]); (try rw [if_neg c_2])
      exact sy_retV hx hb hr hlk hP hS (by rw [← e9]) dX3_putHard_17
/-- X3_particles -/
theorem hd_X3_particles : yX3_particles.cls = yX3_particles.cls ∧ yX3_particles.cls ≠ "java/lang/invoke/MethodHandle" ∧ yX3_particles.cls ≠ "java/lang/invoke/VarHandle" ∧ (parseMethodDescriptor yX3_particles.desc).map (fun d => d.parameters.length) = some 0 := by decide +kernel
def f3_particles_L4 (τ : Sg) (π : Sg) : Nat → Int32 → Int32 → Int32 × Int32
  | 0, x1, x2 => (x1, x2)
  | n + 1, x1, x2 => (if (f5_cells τ) ≤ x2 then (x1, x2) else (if (f3_markAt π x2) = 0 then (f3_particles_L4 τ π n (x1 + 1) (x2 + 1)) else (f3_particles_L4 τ π n x1 (x2 + 1))))
theorem f3_particles_L4_s (τ : Sg) (π : Sg) (n : Nat) (x1 : Int32) (x2 : Int32) : f3_particles_L4 τ π (n + 1) x1 x2 = (if (f5_cells τ) ≤ x2 then (x1, x2) else (if (f3_markAt π x2) = 0 then (f3_particles_L4 τ π n (x1 + 1) (x2 + 1)) else (f3_particles_L4 τ π n x1 (x2 + 1)))) := rfl
def f3_particles (τ : Sg) (π : Sg) : Int32 := (f3_particles_L4 τ π 8589934592 0 0).1
set_option maxHeartbeats 400000 in
set_option maxRecDepth 100000 in
theorem m3_particles (l : Launch) (D : va_G) (cA : ClassId) (ad : Nat → Nat) (τ ρ π γ : Sg) : Met l yX3_particles (wM yX3_particles cX3_particles 3 (some .int)) ({ frames := 1, cells := 0, slots := 0, locals := 21 }) (va_Pc [.ref (ad 3)] (pS D cA ad τ ρ π γ)) (QcRead (f3_particles τ π)) 0 0 noA := by
  refine sy_of (by decide) (Nat.le_of_ble_eq_true rfl) ?_
  intro p e s m below meth c ls C hr hlk hK hN hP hl
  obtain ⟨hx, hb, hml, hown, hts⟩ := id C
  have htA : ∀ w ∈ wA, w.before ([.ref (ad 3)] : List Value).toArray s = true := fun w h => hts w (List.mem_cons_of_mem _ h)
  have hl : lv_has ls 3 [(0, .ref (ad 3))] := hl
  refine lv_iconst (v := 0) hx hb dX3_particles_0 (by decide) ?_
  refine lv_istore_n (lv' := [(1, .int 0), (0, .ref (ad 3))]) hx hb dX3_particles_1 rfl hl (by decide) rfl (fun ls hl => ?_)
  refine lv_iconst (v := 0) hx hb dX3_particles_2 (by decide) ?_
  refine lv_istore_n (lv' := [(2, .int 0), (1, .int 0), (0, .ref (ad 3))]) hx hb dX3_particles_3 rfl hl (by decide) rfl (fun ls hl => ?_)
  have hL4 : ∀ (n : Nat) (x1 : Int32) (x2 : Int32), nm x2 (f5_cells τ) < n → ∀ ls : Array Slot, lv_has ls 3 [(0, .ref (ad 3)), (1, .int x1), (2, .int x2)] → (∀ ls : Array Slot, lv_has ls 3 [(0, .ref (ad 3)), (1, .int ((f3_particles_L4 τ π n x1 x2).1)), (2, .int ((f3_particles_L4 τ π n x1 x2).2))] → W p l e ({ frames := 1, cells := 0, slots := 0, locals := 21 }) s m ([.ref (ad 3)] : List Value).toArray below meth c s.heap [] 0 0 (MQ below (QcRead (f3_particles τ π)) ([.ref (ad 3)] : List Value).toArray s 0 0 noA) (F0 m 32 ls [])) → W p l e ({ frames := 1, cells := 0, slots := 0, locals := 21 }) s m ([.ref (ad 3)] : List Value).toArray below meth c s.heap [] 0 0 (MQ below (QcRead (f3_particles τ π)) ([.ref (ad 3)] : List Value).toArray s 0 0 noA) (F0 m 4 ls []) := by
    intro  n
    induction n with
    | zero =>
      intro x1 x2 hn
      exact absurd hn (Nat.not_lt_zero _)
    | succ n ih =>
      intro x1 x2 hn ls hl kk
      refine lv_iload_n hx hb dX3_particles_4 rfl (lv_at hl 2 rfl) ?_
      refine lv_aload_n hx hb dX3_particles_5 rfl (lv_at hl 0 rfl) ?_
      refine gX3_0 hx hb htA hown hK hP dX3_particles_6 ?_
      refine sy_cv (rest := [.int x2]) C hK hN hP (m5_cells l D cA ad τ ρ π γ) (1) 7 rfl rfl kw_183 kw_184 kw_185 kw_16 kw_186 hd_X5_cells ⟨Nat.le_of_ble_eq_true rfl, Nat.le_of_ble_eq_true rfl⟩ rfl rfl rfl hl.1 rfl (Nat.le_of_ble_eq_true rfl) dX3_particles_9 ⟨Nat.zero_le _, Nat.zero_le _⟩ ?_
      refine lv_icmp_ge (tgt := 32) hx hb dX3_particles_12 (by decide) (fun c_1 => ?_) (fun c_1 => ?_)
      · have e9 : f3_particles_L4 τ π (n + 1) x1 x2 = (x1, x2) := by rw [f3_particles_L4_s]; (try rw [if_pos c_1])
        rw [e9] at kk
        exact kk ls (lv_sub hl [0, 1, 2] rfl)
      · refine lv_aload_n hx hb dX3_particles_15 rfl (lv_at hl 0 rfl) ?_
        refine lv_iload_n hx hb dX3_particles_16 rfl (lv_at hl 2 rfl) ?_
        refine sy_cv (rest := []) C hK hN hP (m3_markAt l D cA ad τ ρ π γ x2) (3) 5 rfl rfl kw_292 kw_206 kw_207 kw_24 kw_208 hd_X3_markAt ⟨Nat.le_of_ble_eq_true rfl, Nat.le_of_ble_eq_true rfl⟩ rfl rfl rfl hl.1 rfl (Nat.le_of_ble_eq_true rfl) dX3_particles_17 ⟨Nat.zero_le _, Nat.zero_le _⟩ ?_
        refine lv_if_ne (tgt := 26) hx hb dX3_particles_20 (by decide) (fun c_2 => ?_) (fun c_2 => ?_)
        · refine lv_iinc (v := x2 + 1) (lv' := [(2, .int (x2 + 1)), (0, .ref (ad 3)), (1, .int x1)]) hx hb dX3_particles_26 hl (k := 2) rfl (by rfl) (by decide) rfl (fun ls hl => ?_)
          refine lv_goto (tgt := 4) hx hb dX3_particles_29 (by decide) ?_
          have e9 : f3_particles_L4 τ π (n + 1) x1 x2 = f3_particles_L4 τ π n x1 (x2 + 1) := by rw [f3_particles_L4_s]; (try rw [if_neg c_1]); (try rw [if_neg c_2])
          rw [e9] at kk
          exact ih x1 (x2 + 1) (nm_dec (Int32.not_le.mp c_1) hn)  ls (lv_sub hl [1, 2, 0] rfl) kk
        · refine lv_iinc (v := x1 + 1) (lv' := [(1, .int (x1 + 1)), (0, .ref (ad 3)), (2, .int x2)]) hx hb dX3_particles_23 hl (k := 1) rfl (by rfl) (by decide) rfl (fun ls hl => ?_)
          refine lv_iinc (v := x2 + 1) (lv' := [(2, .int (x2 + 1)), (1, .int (x1 + 1)), (0, .ref (ad 3))]) hx hb dX3_particles_26 hl (k := 2) rfl (by rfl) (by decide) rfl (fun ls hl => ?_)
          refine lv_goto (tgt := 4) hx hb dX3_particles_29 (by decide) ?_
          have e9 : f3_particles_L4 τ π (n + 1) x1 x2 = f3_particles_L4 τ π n (x1 + 1) (x2 + 1) := by rw [f3_particles_L4_s]; (try rw [if_neg c_1]); (try rw [if_pos c_2])
          rw [e9] at kk
          exact ih (x1 + 1) (x2 + 1) (nm_dec (Int32.not_le.mp c_1) hn)  ls (lv_sub hl [2, 1, 0] rfl) kk
  refine hL4 8589934592 0 0 (nm_lt _ _) ls (lv_sub hl [2, 1, 0] rfl) (fun ls hl => ?_)
  refine lv_iload_n hx hb dX3_particles_32 rfl (lv_at hl 1 rfl) ?_
  have e9 : (f3_particles_L4 τ π 8589934592 0 0).1 = f3_particles τ π := rfl
  exact sy_ret hx hb hr hlk e9 dX3_particles_33
/-- X3_hardCells -/
theorem hd_X3_hardCells : yX3_hardCells.cls = yX3_hardCells.cls ∧ yX3_hardCells.cls ≠ "java/lang/invoke/MethodHandle" ∧ yX3_hardCells.cls ≠ "java/lang/invoke/VarHandle" ∧ (parseMethodDescriptor yX3_hardCells.desc).map (fun d => d.parameters.length) = some 0 := by decide +kernel
def f3_hardCells_L4 (τ : Sg) (π : Sg) : Nat → Int32 → Int32 → Int32 × Int32
  | 0, x1, x2 => (x1, x2)
  | n + 1, x1, x2 => (if (f5_cells τ) ≤ x2 then (x1, x2) else (f3_hardCells_L4 τ π n (x1 + (f3_hardAt π x2)) (x2 + 1)))
theorem f3_hardCells_L4_s (τ : Sg) (π : Sg) (n : Nat) (x1 : Int32) (x2 : Int32) : f3_hardCells_L4 τ π (n + 1) x1 x2 = (if (f5_cells τ) ≤ x2 then (x1, x2) else (f3_hardCells_L4 τ π n (x1 + (f3_hardAt π x2)) (x2 + 1))) := rfl
def f3_hardCells (τ : Sg) (π : Sg) : Int32 := (f3_hardCells_L4 τ π 8589934592 0 0).1
set_option maxHeartbeats 400000 in
set_option maxRecDepth 100000 in
theorem m3_hardCells (l : Launch) (D : va_G) (cA : ClassId) (ad : Nat → Nat) (τ ρ π γ : Sg) : Met l yX3_hardCells (wM yX3_hardCells cX3_hardCells 3 (some .int)) ({ frames := 1, cells := 0, slots := 0, locals := 21 }) (va_Pc [.ref (ad 3)] (pS D cA ad τ ρ π γ)) (QcRead (f3_hardCells τ π)) 0 0 noA := by
  refine sy_of (by decide) (Nat.le_of_ble_eq_true rfl) ?_
  intro p e s m below meth c ls C hr hlk hK hN hP hl
  obtain ⟨hx, hb, hml, hown, hts⟩ := id C
  have htA : ∀ w ∈ wA, w.before ([.ref (ad 3)] : List Value).toArray s = true := fun w h => hts w (List.mem_cons_of_mem _ h)
  have hl : lv_has ls 3 [(0, .ref (ad 3))] := hl
  refine lv_iconst (v := 0) hx hb dX3_hardCells_0 (by decide) ?_
  refine lv_istore_n (lv' := [(1, .int 0), (0, .ref (ad 3))]) hx hb dX3_hardCells_1 rfl hl (by decide) rfl (fun ls hl => ?_)
  refine lv_iconst (v := 0) hx hb dX3_hardCells_2 (by decide) ?_
  refine lv_istore_n (lv' := [(2, .int 0), (1, .int 0), (0, .ref (ad 3))]) hx hb dX3_hardCells_3 rfl hl (by decide) rfl (fun ls hl => ?_)
  have hL4 : ∀ (n : Nat) (x1 : Int32) (x2 : Int32), nm x2 (f5_cells τ) < n → ∀ ls : Array Slot, lv_has ls 3 [(0, .ref (ad 3)), (1, .int x1), (2, .int x2)] → (∀ ls : Array Slot, lv_has ls 3 [(0, .ref (ad 3)), (1, .int ((f3_hardCells_L4 τ π n x1 x2).1)), (2, .int ((f3_hardCells_L4 τ π n x1 x2).2))] → W p l e ({ frames := 1, cells := 0, slots := 0, locals := 21 }) s m ([.ref (ad 3)] : List Value).toArray below meth c s.heap [] 0 0 (MQ below (QcRead (f3_hardCells τ π)) ([.ref (ad 3)] : List Value).toArray s 0 0 noA) (F0 m 29 ls [])) → W p l e ({ frames := 1, cells := 0, slots := 0, locals := 21 }) s m ([.ref (ad 3)] : List Value).toArray below meth c s.heap [] 0 0 (MQ below (QcRead (f3_hardCells τ π)) ([.ref (ad 3)] : List Value).toArray s 0 0 noA) (F0 m 4 ls []) := by
    intro  n
    induction n with
    | zero =>
      intro x1 x2 hn
      exact absurd hn (Nat.not_lt_zero _)
    | succ n ih =>
      intro x1 x2 hn ls hl kk
      refine lv_iload_n hx hb dX3_hardCells_4 rfl (lv_at hl 2 rfl) ?_
      refine lv_aload_n hx hb dX3_hardCells_5 rfl (lv_at hl 0 rfl) ?_
      refine gX3_0 hx hb htA hown hK hP dX3_hardCells_6 ?_
      refine sy_cv (rest := [.int x2]) C hK hN hP (m5_cells l D cA ad τ ρ π γ) (1) 7 rfl rfl kw_183 kw_184 kw_185 kw_16 kw_186 hd_X5_cells ⟨Nat.le_of_ble_eq_true rfl, Nat.le_of_ble_eq_true rfl⟩ rfl rfl rfl hl.1 rfl (Nat.le_of_ble_eq_true rfl) dX3_hardCells_9 ⟨Nat.zero_le _, Nat.zero_le _⟩ ?_
      refine lv_icmp_ge (tgt := 29) hx hb dX3_hardCells_12 (by decide) (fun c_1 => ?_) (fun c_1 => ?_)
      · have e9 : f3_hardCells_L4 τ π (n + 1) x1 x2 = (x1, x2) := by rw [f3_hardCells_L4_s]; (try rw [if_pos c_1])
        rw [e9] at kk
        exact kk ls (lv_sub hl [0, 1, 2] rfl)
      · refine lv_iload_n hx hb dX3_hardCells_15 rfl (lv_at hl 1 rfl) ?_
        refine lv_aload_n hx hb dX3_hardCells_16 rfl (lv_at hl 0 rfl) ?_
        refine lv_iload_n hx hb dX3_hardCells_17 rfl (lv_at hl 2 rfl) ?_
        refine sy_cv (rest := [.int x1]) C hK hN hP (m3_hardAt l D cA ad τ ρ π γ x2) (3) 5 rfl rfl kw_364 kw_277 kw_278 kw_24 kw_279 hd_X3_hardAt ⟨Nat.le_of_ble_eq_true rfl, Nat.le_of_ble_eq_true rfl⟩ rfl rfl rfl hl.1 rfl (Nat.le_of_ble_eq_true rfl) dX3_hardCells_18 ⟨Nat.zero_le _, Nat.zero_le _⟩ ?_
        refine lv_iadd hx hb dX3_hardCells_21 ?_
        refine lv_istore_n (lv' := [(1, .int (x1 + (f3_hardAt π x2))), (0, .ref (ad 3)), (2, .int x2)]) hx hb dX3_hardCells_22 rfl hl (by decide) rfl (fun ls hl => ?_)
        refine lv_iinc (v := x2 + 1) (lv' := [(2, .int (x2 + 1)), (1, .int (x1 + (f3_hardAt π x2))), (0, .ref (ad 3))]) hx hb dX3_hardCells_23 hl (k := 2) rfl (by rfl) (by decide) rfl (fun ls hl => ?_)
        refine lv_goto (tgt := 4) hx hb dX3_hardCells_26 (by decide) ?_
        have e9 : f3_hardCells_L4 τ π (n + 1) x1 x2 = f3_hardCells_L4 τ π n (x1 + (f3_hardAt π x2)) (x2 + 1) := by rw [f3_hardCells_L4_s]; (try rw [if_neg c_1])
        rw [e9] at kk
        exact ih (x1 + (f3_hardAt π x2)) (x2 + 1) (nm_dec (Int32.not_le.mp c_1) hn)  ls (lv_sub hl [2, 1, 0] rfl) kk
  refine hL4 8589934592 0 0 (nm_lt _ _) ls (lv_sub hl [2, 1, 0] rfl) (fun ls hl => ?_)
  refine lv_iload_n hx hb dX3_hardCells_29 rfl (lv_at hl 1 rfl) ?_
  have e9 : (f3_hardCells_L4 τ π 8589934592 0 0).1 = f3_hardCells τ π := rfl
  exact sy_ret hx hb hr hlk e9 dX3_hardCells_30
/-- X3_allWork -/
theorem hd_X3_allWork : yX3_allWork.cls = yX3_allWork.cls ∧ yX3_allWork.cls ≠ "java/lang/invoke/MethodHandle" ∧ yX3_allWork.cls ≠ "java/lang/invoke/VarHandle" ∧ (parseMethodDescriptor yX3_allWork.desc).map (fun d => d.parameters.length) = some 0 := by decide +kernel
def f3_allWork_L4 (τ : Sg) (π : Sg) : Nat → Int32 → Int32 → Int32 × Int32
  | 0, x1, x2 => (x1, x2)
  | n + 1, x1, x2 => (if (f5_cells τ) ≤ x2 then (x1, x2) else (f3_allWork_L4 τ π n (x1 + (f3_workAt π x2)) (x2 + 1)))
theorem f3_allWork_L4_s (τ : Sg) (π : Sg) (n : Nat) (x1 : Int32) (x2 : Int32) : f3_allWork_L4 τ π (n + 1) x1 x2 = (if (f5_cells τ) ≤ x2 then (x1, x2) else (f3_allWork_L4 τ π n (x1 + (f3_workAt π x2)) (x2 + 1))) := rfl
def f3_allWork (τ : Sg) (π : Sg) : Int32 := (f3_allWork_L4 τ π 8589934592 0 0).1
set_option maxHeartbeats 400000 in
set_option maxRecDepth 100000 in
theorem m3_allWork (l : Launch) (D : va_G) (cA : ClassId) (ad : Nat → Nat) (τ ρ π γ : Sg) : Met l yX3_allWork (wM yX3_allWork cX3_allWork 3 (some .int)) ({ frames := 1, cells := 0, slots := 0, locals := 21 }) (va_Pc [.ref (ad 3)] (pS D cA ad τ ρ π γ)) (QcRead (f3_allWork τ π)) 0 0 noA := by
  refine sy_of (by decide) (Nat.le_of_ble_eq_true rfl) ?_
  intro p e s m below meth c ls C hr hlk hK hN hP hl
  obtain ⟨hx, hb, hml, hown, hts⟩ := id C
  have htA : ∀ w ∈ wA, w.before ([.ref (ad 3)] : List Value).toArray s = true := fun w h => hts w (List.mem_cons_of_mem _ h)
  have hl : lv_has ls 3 [(0, .ref (ad 3))] := hl
  refine lv_iconst (v := 0) hx hb dX3_allWork_0 (by decide) ?_
  refine lv_istore_n (lv' := [(1, .int 0), (0, .ref (ad 3))]) hx hb dX3_allWork_1 rfl hl (by decide) rfl (fun ls hl => ?_)
  refine lv_iconst (v := 0) hx hb dX3_allWork_2 (by decide) ?_
  refine lv_istore_n (lv' := [(2, .int 0), (1, .int 0), (0, .ref (ad 3))]) hx hb dX3_allWork_3 rfl hl (by decide) rfl (fun ls hl => ?_)
  have hL4 : ∀ (n : Nat) (x1 : Int32) (x2 : Int32), nm x2 (f5_cells τ) < n → ∀ ls : Array Slot, lv_has ls 3 [(0, .ref (ad 3)), (1, .int x1), (2, .int x2)] → (∀ ls : Array Slot, lv_has ls 3 [(0, .ref (ad 3)), (1, .int ((f3_allWork_L4 τ π n x1 x2).1)), (2, .int ((f3_allWork_L4 τ π n x1 x2).2))] → W p l e ({ frames := 1, cells := 0, slots := 0, locals := 21 }) s m ([.ref (ad 3)] : List Value).toArray below meth c s.heap [] 0 0 (MQ below (QcRead (f3_allWork τ π)) ([.ref (ad 3)] : List Value).toArray s 0 0 noA) (F0 m 29 ls [])) → W p l e ({ frames := 1, cells := 0, slots := 0, locals := 21 }) s m ([.ref (ad 3)] : List Value).toArray below meth c s.heap [] 0 0 (MQ below (QcRead (f3_allWork τ π)) ([.ref (ad 3)] : List Value).toArray s 0 0 noA) (F0 m 4 ls []) := by
    intro  n
    induction n with
    | zero =>
      intro x1 x2 hn
      exact absurd hn (Nat.not_lt_zero _)
    | succ n ih =>
      intro x1 x2 hn ls hl kk
      refine lv_iload_n hx hb dX3_allWork_4 rfl (lv_at hl 2 rfl) ?_
      refine lv_aload_n hx hb dX3_allWork_5 rfl (lv_at hl 0 rfl) ?_
      refine gX3_0 hx hb htA hown hK hP dX3_allWork_6 ?_
      refine sy_cv (rest := [.int x2]) C hK hN hP (m5_cells l D cA ad τ ρ π γ) (1) 7 rfl rfl kw_183 kw_184 kw_185 kw_16 kw_186 hd_X5_cells ⟨Nat.le_of_ble_eq_true rfl, Nat.le_of_ble_eq_true rfl⟩ rfl rfl rfl hl.1 rfl (Nat.le_of_ble_eq_true rfl) dX3_allWork_9 ⟨Nat.zero_le _, Nat.zero_le _⟩ ?_
      refine lv_icmp_ge (tgt := 29) hx hb dX3_allWork_12 (by decide) (fun c_1 => ?_) (fun c_1 => ?_)
      · have e9 : f3_allWork_L4 τ π (n + 1) x1 x2 = (x1, x2) := by rw [f3_allWork_L4_s]; (try rw [if_pos c_1])
        rw [e9] at kk
        exact kk ls (lv_sub hl [0, 1, 2] rfl)
      · refine lv_iload_n hx hb dX3_allWork_15 rfl (lv_at hl 1 rfl) ?_
        refine lv_aload_n hx hb dX3_allWork_16 rfl (lv_at hl 0 rfl) ?_
        refine lv_iload_n hx hb dX3_allWork_17 rfl (lv_at hl 2 rfl) ?_
        refine sy_cv (rest := [.int x1]) C hK hN hP (m3_workAt l D cA ad τ ρ π γ x2) (3) 5 rfl rfl kw_365 kw_273 kw_274 kw_24 kw_275 hd_X3_workAt ⟨Nat.le_of_ble_eq_true rfl, Nat.le_of_ble_eq_true rfl⟩ rfl rfl rfl hl.1 rfl (Nat.le_of_ble_eq_true rfl) dX3_allWork_18 ⟨Nat.zero_le _, Nat.zero_le _⟩ ?_
        refine lv_iadd hx hb dX3_allWork_21 ?_
        refine lv_istore_n (lv' := [(1, .int (x1 + (f3_workAt π x2))), (0, .ref (ad 3)), (2, .int x2)]) hx hb dX3_allWork_22 rfl hl (by decide) rfl (fun ls hl => ?_)
        refine lv_iinc (v := x2 + 1) (lv' := [(2, .int (x2 + 1)), (1, .int (x1 + (f3_workAt π x2))), (0, .ref (ad 3))]) hx hb dX3_allWork_23 hl (k := 2) rfl (by rfl) (by decide) rfl (fun ls hl => ?_)
        refine lv_goto (tgt := 4) hx hb dX3_allWork_26 (by decide) ?_
        have e9 : f3_allWork_L4 τ π (n + 1) x1 x2 = f3_allWork_L4 τ π n (x1 + (f3_workAt π x2)) (x2 + 1) := by rw [f3_allWork_L4_s]; (try rw [if_neg c_1])
        rw [e9] at kk
        exact ih (x1 + (f3_workAt π x2)) (x2 + 1) (nm_dec (Int32.not_le.mp c_1) hn)  ls (lv_sub hl [2, 1, 0] rfl) kk
  refine hL4 8589934592 0 0 (nm_lt _ _) ls (lv_sub hl [2, 1, 0] rfl) (fun ls hl => ?_)
  refine lv_iload_n hx hb dX3_allWork_29 rfl (lv_at hl 1 rfl) ?_
  have e9 : (f3_allWork_L4 τ π 8589934592 0 0).1 = f3_allWork τ π := rfl
  exact sy_ret hx hb hr hlk e9 dX3_allWork_30
/-- X3_misfitAround -/
theorem hd_X3_misfitAround : yX3_misfitAround.cls = yX3_misfitAround.cls ∧ yX3_misfitAround.cls ≠ "java/lang/invoke/MethodHandle" ∧ yX3_misfitAround.cls ≠ "java/lang/invoke/VarHandle" ∧ (parseMethodDescriptor yX3_misfitAround.desc).map (fun d => d.parameters.length) = some 1 := by decide +kernel
def f3_misfitAround_L4 (τ : Sg) (ρ : Sg) (π : Sg) (x1 : Int32) : Nat → Int32 → Int32 → Int32 × Int32
  | 0, x2, x3 => (x2, x3)
  | n + 1, x2, x3 => (if (f5_besideMany τ x1) ≤ x3 then (x2, x3) else (f3_misfitAround_L4 τ ρ π x1 n (x2 + (f4_misfitOf ρ (f3_markAt π x1) (f3_markAt π (f5_beside τ x1 x3)))) (x3 + 1)))
theorem f3_misfitAround_L4_s (τ : Sg) (ρ : Sg) (π : Sg) (x1 : Int32) (n : Nat) (x2 : Int32) (x3 : Int32) : f3_misfitAround_L4 τ ρ π x1 (n + 1) x2 x3 = (if (f5_besideMany τ x1) ≤ x3 then (x2, x3) else (f3_misfitAround_L4 τ ρ π x1 n (x2 + (f4_misfitOf ρ (f3_markAt π x1) (f3_markAt π (f5_beside τ x1 x3)))) (x3 + 1))) := rfl
def f3_misfitAround (τ : Sg) (ρ : Sg) (π : Sg) (a1 : Int32) : Int32 := (f3_misfitAround_L4 τ ρ π a1 8589934592 0 0).1
set_option maxHeartbeats 400000 in
set_option maxRecDepth 100000 in
theorem m3_misfitAround (l : Launch) (D : va_G) (cA : ClassId) (ad : Nat → Nat) (τ ρ π γ : Sg) (hT : Ok τ) (a1 : Int32) : Met l yX3_misfitAround (wM yX3_misfitAround cX3_misfitAround 4 (some .int)) ({ frames := 1, cells := 0, slots := 0, locals := 22 }) (va_Pc [.ref (ad 3), .int a1] (pS D cA ad τ ρ π γ)) (QcRead (f3_misfitAround τ ρ π a1)) 0 0 noA := by
  refine sy_of (by decide) (Nat.le_of_ble_eq_true rfl) ?_
  intro p e s m below meth c ls C hr hlk hK hN hP hl
  obtain ⟨hx, hb, hml, hown, hts⟩ := id C
  have htA : ∀ w ∈ wA, w.before ([.ref (ad 3), .int a1] : List Value).toArray s = true := fun w h => hts w (List.mem_cons_of_mem _ h)
  have hl : lv_has ls 4 [(0, .ref (ad 3)), (1, .int a1)] := hl
  refine lv_iconst (v := 0) hx hb dX3_misfitAround_0 (by decide) ?_
  refine lv_istore_n (lv' := [(2, .int 0), (0, .ref (ad 3)), (1, .int a1)]) hx hb dX3_misfitAround_1 rfl hl (by decide) rfl (fun ls hl => ?_)
  refine lv_iconst (v := 0) hx hb dX3_misfitAround_2 (by decide) ?_
  refine lv_istore_n (lv' := [(3, .int 0), (2, .int 0), (0, .ref (ad 3)), (1, .int a1)]) hx hb dX3_misfitAround_3 rfl hl (by decide) rfl (fun ls hl => ?_)
  have hL4 : ∀ (x1 : Int32) (n : Nat) (x2 : Int32) (x3 : Int32), nm x3 (f5_besideMany τ x1) < n → ∀ ls : Array Slot, lv_has ls 4 [(0, .ref (ad 3)), (1, .int x1), (2, .int x2), (3, .int x3)] → (∀ ls : Array Slot, lv_has ls 4 [(0, .ref (ad 3)), (1, .int x1), (2, .int ((f3_misfitAround_L4 τ ρ π x1 n x2 x3).1)), (3, .int ((f3_misfitAround_L4 τ ρ π x1 n x2 x3).2))] → W p l e ({ frames := 1, cells := 0, slots := 0, locals := 22 }) s m ([.ref (ad 3), .int a1] : List Value).toArray below meth c s.heap [] 0 0 (MQ below (QcRead (f3_misfitAround τ ρ π a1)) ([.ref (ad 3), .int a1] : List Value).toArray s 0 0 noA) (F0 m 50 ls [])) → W p l e ({ frames := 1, cells := 0, slots := 0, locals := 22 }) s m ([.ref (ad 3), .int a1] : List Value).toArray below meth c s.heap [] 0 0 (MQ below (QcRead (f3_misfitAround τ ρ π a1)) ([.ref (ad 3), .int a1] : List Value).toArray s 0 0 noA) (F0 m 4 ls []) := by
    intro x1 n
    induction n with
    | zero =>
      intro x2 x3 hn
      exact absurd hn (Nat.not_lt_zero _)
    | succ n ih =>
      intro x2 x3 hn ls hl kk
      refine lv_iload_n hx hb dX3_misfitAround_4 rfl (lv_at hl 3 rfl) ?_
      refine lv_aload_n hx hb dX3_misfitAround_5 rfl (lv_at hl 0 rfl) ?_
      refine gX3_0 hx hb htA hown hK hP dX3_misfitAround_6 ?_
      refine lv_iload_n hx hb dX3_misfitAround_9 rfl (lv_at hl 1 rfl) ?_
      refine sy_cv (rest := [.int x3]) C hK hN hP (m5_besideMany l D cA ad τ ρ π γ hT x1) (1) 7 rfl rfl kw_291 kw_220 kw_221 kw_16 kw_222 hd_X5_besideMany ⟨Nat.le_of_ble_eq_true rfl, Nat.le_of_ble_eq_true rfl⟩ rfl rfl rfl hl.1 rfl (Nat.le_of_ble_eq_true rfl) dX3_misfitAround_10 ⟨Nat.zero_le _, Nat.zero_le _⟩ ?_
      refine lv_icmp_ge (tgt := 50) hx hb dX3_misfitAround_13 (by decide) (fun c_1 => ?_) (fun c_1 => ?_)
      · have e9 : f3_misfitAround_L4 τ ρ π x1 (n + 1) x2 x3 = (x2, x3) := by rw [f3_misfitAround_L4_s]; (try rw [if_pos c_1])
        rw [e9] at kk
        exact kk ls (lv_sub hl [0, 1, 2, 3] rfl)
      · refine lv_iload_n hx hb dX3_misfitAround_16 rfl (lv_at hl 2 rfl) ?_
        refine lv_aload_n hx hb dX3_misfitAround_17 rfl (lv_at hl 0 rfl) ?_
        refine gX3_1 hx hb htA hown hK hP dX3_misfitAround_18 ?_
        refine lv_aload_n hx hb dX3_misfitAround_21 rfl (lv_at hl 0 rfl) ?_
        refine lv_iload_n hx hb dX3_misfitAround_22 rfl (lv_at hl 1 rfl) ?_
        refine sy_cv (rest := [.ref (ad 2), .int x2]) C hK hN hP (m3_markAt l D cA ad τ ρ π γ x1) (3) 5 rfl rfl kw_292 kw_206 kw_207 kw_24 kw_208 hd_X3_markAt ⟨Nat.le_of_ble_eq_true rfl, Nat.le_of_ble_eq_true rfl⟩ rfl rfl rfl hl.1 rfl (Nat.le_of_ble_eq_true rfl) dX3_misfitAround_23 ⟨Nat.zero_le _, Nat.zero_le _⟩ ?_
        refine lv_aload_n hx hb dX3_misfitAround_26 rfl (lv_at hl 0 rfl) ?_
        refine lv_aload_n hx hb dX3_misfitAround_27 rfl (lv_at hl 0 rfl) ?_
        refine gX3_0 hx hb htA hown hK hP dX3_misfitAround_28 ?_
        refine lv_iload_n hx hb dX3_misfitAround_31 rfl (lv_at hl 1 rfl) ?_
        refine lv_iload_n hx hb dX3_misfitAround_32 rfl (lv_at hl 3 rfl) ?_
        refine sy_cv (rest := [.ref (ad 3), .int (f3_markAt π x1), .ref (ad 2), .int x2]) C hK hN hP (m5_beside l D cA ad τ ρ π γ hT x1 x3) (1) 7 rfl rfl kw_293 kw_224 kw_225 kw_16 kw_226 hd_X5_beside ⟨Nat.le_of_ble_eq_true rfl, Nat.le_of_ble_eq_true rfl⟩ rfl rfl rfl hl.1 rfl (Nat.le_of_ble_eq_true rfl) dX3_misfitAround_33 ⟨Nat.zero_le _, Nat.zero_le _⟩ ?_
        refine sy_cv (rest := [.int (f3_markAt π x1), .ref (ad 2), .int x2]) C hK hN hP (m3_markAt l D cA ad τ ρ π γ (f5_beside τ x1 x3)) (3) 5 rfl rfl kw_292 kw_206 kw_207 kw_24 kw_208 hd_X3_markAt ⟨Nat.le_of_ble_eq_true rfl, Nat.le_of_ble_eq_true rfl⟩ rfl rfl rfl hl.1 rfl (Nat.le_of_ble_eq_true rfl) dX3_misfitAround_36 ⟨Nat.zero_le _, Nat.zero_le _⟩ ?_
        refine sy_cv (rest := [.int x2]) C hK hN hP (m4_misfitOf l D cA ad τ ρ π γ (f3_markAt π x1) (f3_markAt π (f5_beside τ x1 x3))) (2) 6 rfl rfl kw_294 kw_236 kw_237 kw_20 kw_238 hd_X4_misfitOf ⟨Nat.le_of_ble_eq_true rfl, Nat.le_of_ble_eq_true rfl⟩ rfl rfl rfl hl.1 rfl (Nat.le_of_ble_eq_true rfl) dX3_misfitAround_39 ⟨Nat.zero_le _, Nat.zero_le _⟩ ?_
        refine lv_iadd hx hb dX3_misfitAround_42 ?_
        refine lv_istore_n (lv' := [(2, .int (x2 + (f4_misfitOf ρ (f3_markAt π x1) (f3_markAt π (f5_beside τ x1 x3))))), (0, .ref (ad 3)), (1, .int x1), (3, .int x3)]) hx hb dX3_misfitAround_43 rfl hl (by decide) rfl (fun ls hl => ?_)
        refine lv_iinc (v := x3 + 1) (lv' := [(3, .int (x3 + 1)), (2, .int (x2 + (f4_misfitOf ρ (f3_markAt π x1) (f3_markAt π (f5_beside τ x1 x3))))), (0, .ref (ad 3)), (1, .int x1)]) hx hb dX3_misfitAround_44 hl (k := 3) rfl (by rfl) (by decide) rfl (fun ls hl => ?_)
        refine lv_goto (tgt := 4) hx hb dX3_misfitAround_47 (by decide) ?_
        have e9 : f3_misfitAround_L4 τ ρ π x1 (n + 1) x2 x3 = f3_misfitAround_L4 τ ρ π x1 n (x2 + (f4_misfitOf ρ (f3_markAt π x1) (f3_markAt π (f5_beside τ x1 x3)))) (x3 + 1) := by rw [f3_misfitAround_L4_s]; (try rw [if_neg c_1])
        rw [e9] at kk
        exact ih (x2 + (f4_misfitOf ρ (f3_markAt π x1) (f3_markAt π (f5_beside τ x1 x3)))) (x3 + 1) (nm_dec (Int32.not_le.mp c_1) hn)  ls (lv_sub hl [2, 3, 1, 0] rfl) kk
  refine hL4 a1 8589934592 0 0 (nm_lt _ _) ls (lv_sub hl [2, 3, 1, 0] rfl) (fun ls hl => ?_)
  refine lv_iload_n hx hb dX3_misfitAround_50 rfl (lv_at hl 2 rfl) ?_
  have e9 : (f3_misfitAround_L4 τ ρ π a1 8589934592 0 0).1 = f3_misfitAround τ ρ π a1 := rfl
  exact sy_ret hx hb hr hlk e9 dX3_misfitAround_51
/-- X3_energy -/
theorem hd_X3_energy : yX3_energy.cls = yX3_energy.cls ∧ yX3_energy.cls ≠ "java/lang/invoke/MethodHandle" ∧ yX3_energy.cls ≠ "java/lang/invoke/VarHandle" ∧ (parseMethodDescriptor yX3_energy.desc).map (fun d => d.parameters.length) = some 0 := by decide +kernel
def f3_energy_L4 (τ : Sg) (ρ : Sg) (π : Sg) : Nat → Int32 → Int32 → Int32 × Int32
  | 0, x1, x2 => (x1, x2)
  | n + 1, x1, x2 => (if (f5_cells τ) ≤ x2 then (x1, x2) else (f3_energy_L4 τ ρ π n (x1 + (f3_misfitAround τ ρ π x2)) (x2 + 1)))
theorem f3_energy_L4_s (τ : Sg) (ρ : Sg) (π : Sg) (n : Nat) (x1 : Int32) (x2 : Int32) : f3_energy_L4 τ ρ π (n + 1) x1 x2 = (if (f5_cells τ) ≤ x2 then (x1, x2) else (f3_energy_L4 τ ρ π n (x1 + (f3_misfitAround τ ρ π x2)) (x2 + 1))) := rfl
def f3_energy (τ : Sg) (ρ : Sg) (π : Sg) : Int32 := (((f3_energy_L4 τ ρ π 8589934592 0 0).1) / 2) + (2 * (f3_allWork τ π))
set_option maxHeartbeats 400000 in
set_option maxRecDepth 100000 in
theorem m3_energy (l : Launch) (D : va_G) (cA : ClassId) (ad : Nat → Nat) (τ ρ π γ : Sg) (hT : Ok τ) : Met l yX3_energy (wM yX3_energy cX3_energy 3 (some .int)) ({ frames := 2, cells := 0, slots := 0, locals := 45 }) (va_Pc [.ref (ad 3)] (pS D cA ad τ ρ π γ)) (QcRead (f3_energy τ ρ π)) 0 0 noA := by
  refine sy_of (by decide) (Nat.le_of_ble_eq_true rfl) ?_
  intro p e s m below meth c ls C hr hlk hK hN hP hl
  obtain ⟨hx, hb, hml, hown, hts⟩ := id C
  have htA : ∀ w ∈ wA, w.before ([.ref (ad 3)] : List Value).toArray s = true := fun w h => hts w (List.mem_cons_of_mem _ h)
  have hl : lv_has ls 3 [(0, .ref (ad 3))] := hl
  refine lv_iconst (v := 0) hx hb dX3_energy_0 (by decide) ?_
  refine lv_istore_n (lv' := [(1, .int 0), (0, .ref (ad 3))]) hx hb dX3_energy_1 rfl hl (by decide) rfl (fun ls hl => ?_)
  refine lv_iconst (v := 0) hx hb dX3_energy_2 (by decide) ?_
  refine lv_istore_n (lv' := [(2, .int 0), (1, .int 0), (0, .ref (ad 3))]) hx hb dX3_energy_3 rfl hl (by decide) rfl (fun ls hl => ?_)
  have hL4 : ∀ (n : Nat) (x1 : Int32) (x2 : Int32), nm x2 (f5_cells τ) < n → ∀ ls : Array Slot, lv_has ls 3 [(0, .ref (ad 3)), (1, .int x1), (2, .int x2)] → (∀ ls : Array Slot, lv_has ls 3 [(0, .ref (ad 3)), (1, .int ((f3_energy_L4 τ ρ π n x1 x2).1)), (2, .int ((f3_energy_L4 τ ρ π n x1 x2).2))] → W p l e ({ frames := 2, cells := 0, slots := 0, locals := 45 }) s m ([.ref (ad 3)] : List Value).toArray below meth c s.heap [] 0 0 (MQ below (QcRead (f3_energy τ ρ π)) ([.ref (ad 3)] : List Value).toArray s 0 0 noA) (F0 m 29 ls [])) → W p l e ({ frames := 2, cells := 0, slots := 0, locals := 45 }) s m ([.ref (ad 3)] : List Value).toArray below meth c s.heap [] 0 0 (MQ below (QcRead (f3_energy τ ρ π)) ([.ref (ad 3)] : List Value).toArray s 0 0 noA) (F0 m 4 ls []) := by
    intro  n
    induction n with
    | zero =>
      intro x1 x2 hn
      exact absurd hn (Nat.not_lt_zero _)
    | succ n ih =>
      intro x1 x2 hn ls hl kk
      refine lv_iload_n hx hb dX3_energy_4 rfl (lv_at hl 2 rfl) ?_
      refine lv_aload_n hx hb dX3_energy_5 rfl (lv_at hl 0 rfl) ?_
      refine gX3_0 hx hb htA hown hK hP dX3_energy_6 ?_
      refine sy_cv (rest := [.int x2]) C hK hN hP (m5_cells l D cA ad τ ρ π γ) (1) 7 rfl rfl kw_183 kw_184 kw_185 kw_16 kw_186 hd_X5_cells ⟨Nat.le_of_ble_eq_true rfl, Nat.le_of_ble_eq_true rfl⟩ rfl rfl rfl hl.1 rfl (Nat.le_of_ble_eq_true rfl) dX3_energy_9 ⟨Nat.zero_le _, Nat.zero_le _⟩ ?_
      refine lv_icmp_ge (tgt := 29) hx hb dX3_energy_12 (by decide) (fun c_1 => ?_) (fun c_1 => ?_)
      · have e9 : f3_energy_L4 τ ρ π (n + 1) x1 x2 = (x1, x2) := by rw [f3_energy_L4_s]; (try rw [if_pos c_1])
        rw [e9] at kk
        exact kk ls (lv_sub hl [0, 1, 2] rfl)
      · refine lv_iload_n hx hb dX3_energy_15 rfl (lv_at hl 1 rfl) ?_
        refine lv_aload_n hx hb dX3_energy_16 rfl (lv_at hl 0 rfl) ?_
        refine lv_iload_n hx hb dX3_energy_17 rfl (lv_at hl 2 rfl) ?_
        refine sy_cv (rest := [.int x1]) C hK hN hP (m3_misfitAround l D cA ad τ ρ π γ hT x2) (3) 5 rfl rfl kw_381 kw_288 kw_289 kw_24 kw_290 hd_X3_misfitAround ⟨Nat.le_of_ble_eq_true rfl, Nat.le_of_ble_eq_true rfl⟩ rfl rfl rfl hl.1 rfl (Nat.le_of_ble_eq_true rfl) dX3_energy_18 ⟨Nat.zero_le _, Nat.zero_le _⟩ ?_
        refine lv_iadd hx hb dX3_energy_21 ?_
        refine lv_istore_n (lv' := [(1, .int (x1 + (f3_misfitAround τ ρ π x2))), (0, .ref (ad 3)), (2, .int x2)]) hx hb dX3_energy_22 rfl hl (by decide) rfl (fun ls hl => ?_)
        refine lv_iinc (v := x2 + 1) (lv' := [(2, .int (x2 + 1)), (1, .int (x1 + (f3_misfitAround τ ρ π x2))), (0, .ref (ad 3))]) hx hb dX3_energy_23 hl (k := 2) rfl (by rfl) (by decide) rfl (fun ls hl => ?_)
        refine lv_goto (tgt := 4) hx hb dX3_energy_26 (by decide) ?_
        have e9 : f3_energy_L4 τ ρ π (n + 1) x1 x2 = f3_energy_L4 τ ρ π n (x1 + (f3_misfitAround τ ρ π x2)) (x2 + 1) := by rw [f3_energy_L4_s]; (try rw [if_neg c_1])
        rw [e9] at kk
        exact ih (x1 + (f3_misfitAround τ ρ π x2)) (x2 + 1) (nm_dec (Int32.not_le.mp c_1) hn)  ls (lv_sub hl [2, 1, 0] rfl) kk
  refine hL4 8589934592 0 0 (nm_lt _ _) ls (lv_sub hl [2, 1, 0] rfl) (fun ls hl => ?_)
  refine lv_iload_n hx hb dX3_energy_29 rfl (lv_at hl 1 rfl) ?_
  refine lv_iconst (v := 2) hx hb dX3_energy_30 (by decide) ?_
  refine lv_idiv hx hb dX3_energy_31 (by decide) ?_
  refine lv_iconst (v := 2) hx hb dX3_energy_32 (by decide) ?_
  refine lv_aload_n hx hb dX3_energy_33 rfl (lv_at hl 0 rfl) ?_
  refine sy_cv (rest := [.int 2, .int (((f3_energy_L4 τ ρ π 8589934592 0 0).1) / 2)]) C hK hN hP (m3_allWork l D cA ad τ ρ π γ) (3) 5 rfl rfl kw_382 kw_383 kw_384 kw_24 kw_385 hd_X3_allWork ⟨Nat.le_of_ble_eq_true rfl, Nat.le_of_ble_eq_true rfl⟩ rfl rfl rfl hl.1 rfl (Nat.le_of_ble_eq_true rfl) dX3_energy_34 ⟨Nat.zero_le _, Nat.zero_le _⟩ ?_
  refine lv_imul hx hb dX3_energy_37 ?_
  refine lv_iadd hx hb dX3_energy_38 ?_
  have e9 : (((f3_energy_L4 τ ρ π 8589934592 0 0).1) / 2) + (2 * (f3_allWork τ π)) = f3_energy τ ρ π := rfl
  exact sy_ret hx hb hr hlk e9 dX3_energy_39
/-- X3_changeBy -/
theorem hd_X3_changeBy : yX3_changeBy.cls = yX3_changeBy.cls ∧ yX3_changeBy.cls ≠ "java/lang/invoke/MethodHandle" ∧ yX3_changeBy.cls ≠ "java/lang/invoke/VarHandle" ∧ (parseMethodDescriptor yX3_changeBy.desc).map (fun d => d.parameters.length) = some 2 := by decide +kernel
def f3_changeBy_L49 (τ : Sg) (ρ : Sg) (π : Sg) (x1 : Int32) (x2 : Int32) (x3 : Int32) (x4 : Int32) : Nat → Int32 → Int32 → Int32 × Int32
  | 0, x5, x6 => (x5, x6)
  | n + 1, x5, x6 => (if (f5_besideMany τ x1) ≤ x6 then (x5, x6) else (f3_changeBy_L49 τ ρ π x1 x2 x3 x4 n (x5 + ((f4_misfitOf ρ x4 (f3_markAt π (f5_beside τ x1 x6))) - (f4_misfitOf ρ x3 (f3_markAt π (f5_beside τ x1 x6))))) (x6 + 1)))
theorem f3_changeBy_L49_s (τ : Sg) (ρ : Sg) (π : Sg) (x1 : Int32) (x2 : Int32) (x3 : Int32) (x4 : Int32) (n : Nat) (x5 : Int32) (x6 : Int32) : f3_changeBy_L49 τ ρ π x1 x2 x3 x4 (n + 1) x5 x6 = (if (f5_besideMany τ x1) ≤ x6 then (x5, x6) else (f3_changeBy_L49 τ ρ π x1 x2 x3 x4 n (x5 + ((f4_misfitOf ρ x4 (f3_markAt π (f5_beside τ x1 x6))) - (f4_misfitOf ρ x3 (f3_markAt π (f5_beside τ x1 x6))))) (x6 + 1))) := rfl
def f3_changeBy (τ : Sg) (ρ : Sg) (π : Sg) (a1 : Int32) (a2 : Int32) : Int32 := (if (f3_markAt π a1) = 0 then 0 else (if (f3_markAt π a2) = 0 then 0 else (if (f3_workAt π a2) = 0 then (f3_changeBy_L49 τ ρ π a1 a2 (f3_markAt π a1) (f3_markAt π a2) 8589934592 ((-2) * (f3_workAt π a1)) 0).1 else (f3_changeBy_L49 τ ρ π a1 a2 (f3_markAt π a1) (f3_markAt π a2) 8589934592 0 0).1)))
set_option maxHeartbeats 400000 in
set_option maxRecDepth 100000 in
theorem m3_changeBy (l : Launch) (D : va_G) (cA : ClassId) (ad : Nat → Nat) (τ ρ π γ : Sg) (hT : Ok τ) (a1 : Int32) (a2 : Int32) : Met l yX3_changeBy (wM yX3_changeBy cX3_changeBy 8 (some .int)) ({ frames := 1, cells := 0, slots := 0, locals := 22 }) (va_Pc [.ref (ad 3), .int a1, .int a2] (pS D cA ad τ ρ π γ)) (QcRead (f3_changeBy τ ρ π a1 a2)) 0 0 noA := by
  refine sy_of (by decide) (Nat.le_of_ble_eq_true rfl) ?_
  intro p e s m below meth c ls C hr hlk hK hN hP hl
  obtain ⟨hx, hb, hml, hown, hts⟩ := id C
  have htA : ∀ w ∈ wA, w.before ([.ref (ad 3), .int a1, .int a2] : List Value).toArray s = true := fun w h => hts w (List.mem_cons_of_mem _ h)
  have hl : lv_has ls 8 [(0, .ref (ad 3)), (1, .int a1), (2, .int a2)] := hl
  refine lv_aload_n hx hb dX3_changeBy_0 rfl (lv_at hl 0 rfl) ?_
  refine lv_iload_n hx hb dX3_changeBy_1 rfl (lv_at hl 1 rfl) ?_
  refine sy_cv (rest := []) C hK hN hP (m3_markAt l D cA ad τ ρ π γ a1) (3) 5 rfl rfl kw_292 kw_206 kw_207 kw_24 kw_208 hd_X3_markAt ⟨Nat.le_of_ble_eq_true rfl, Nat.le_of_ble_eq_true rfl⟩ rfl rfl rfl hl.1 rfl (Nat.le_of_ble_eq_true rfl) dX3_changeBy_2 ⟨Nat.zero_le _, Nat.zero_le _⟩ ?_
  refine lv_istore_n (lv' := [(3, .int (f3_markAt π a1)), (0, .ref (ad 3)), (1, .int a1), (2, .int a2)]) hx hb dX3_changeBy_5 rfl hl (by decide) rfl (fun ls hl => ?_)
  refine lv_aload_n hx hb dX3_changeBy_6 rfl (lv_at hl 1 rfl) ?_
  refine lv_iload_n hx hb dX3_changeBy_7 rfl (lv_at hl 3 rfl) ?_
  refine sy_cv (rest := []) C hK hN hP (m3_markAt l D cA ad τ ρ π γ a2) (3) 5 rfl rfl kw_292 kw_206 kw_207 kw_24 kw_208 hd_X3_markAt ⟨Nat.le_of_ble_eq_true rfl, Nat.le_of_ble_eq_true rfl⟩ rfl rfl rfl hl.1 rfl (Nat.le_of_ble_eq_true rfl) dX3_changeBy_8 ⟨Nat.zero_le _, Nat.zero_le _⟩ ?_
  refine lv_istore (lv' := [(4, .int (f3_markAt π a2)), (3, .int (f3_markAt π a1)), (0, .ref (ad 3)), (1, .int a1), (2, .int a2)]) hx hb dX3_changeBy_11 hl (by decide) rfl (fun ls hl => ?_)
  refine lv_iload_n hx hb dX3_changeBy_13 rfl (lv_at hl 1 rfl) ?_
  refine lv_if_eq (tgt := 22) hx hb dX3_changeBy_14 (by decide) (fun c_1 => ?_) (fun c_1 => ?_)
  · refine lv_iconst (v := 0) hx hb dX3_changeBy_22 (by decide) ?_
    have e9 : 0 = f3_changeBy τ ρ π a1 a2 := by unfold f3_changeBy; (try rw [if_pos c_1])
    exact sy_ret hx hb hr hlk e9 dX3_changeBy_23
  · refine lv_iload hx hb dX3_changeBy_17 (lv_at hl 0 rfl) ?_
    refine lv_if_ne (tgt := 24) hx hb dX3_changeBy_19 (by decide) (fun c_2 => ?_) (fun c_2 => ?_)
    · refine lv_aload_n hx hb dX3_changeBy_24 rfl (lv_at hl 2 rfl) ?_
      refine lv_iload_n hx hb dX3_changeBy_25 rfl (lv_at hl 4 rfl) ?_
      refine sy_cv (rest := []) C hK hN hP (m3_workAt l D cA ad τ ρ π γ a2) (3) 5 rfl rfl kw_365 kw_273 kw_274 kw_24 kw_275 hd_X3_workAt ⟨Nat.le_of_ble_eq_true rfl, Nat.le_of_ble_eq_true rfl⟩ rfl rfl rfl hl.1 rfl (Nat.le_of_ble_eq_true rfl) dX3_changeBy_26 ⟨Nat.zero_le _, Nat.zero_le _⟩ ?_
      refine lv_if_ne (tgt := 43) hx hb dX3_changeBy_29 (by decide) (fun c_3 => ?_) (fun c_3 => ?_)
      · refine lv_iconst (v := 0) hx hb dX3_changeBy_43 (by decide) ?_
        refine lv_istore (lv' := [(5, .int 0), (4, .int (f3_markAt π a2)), (3, .int (f3_markAt π a1)), (0, .ref (ad 3)), (1, .int a1), (2, .int a2)]) hx hb dX3_changeBy_44 hl (by decide) rfl (fun ls hl => ?_)
        refine lv_iconst (v := 0) hx hb dX3_changeBy_46 (by decide) ?_
        refine lv_istore (lv' := [(6, .int 0), (5, .int 0), (4, .int (f3_markAt π a2)), (3, .int (f3_markAt π a1)), (0, .ref (ad 3)), (1, .int a1), (2, .int a2)]) hx hb dX3_changeBy_47 hl (by decide) rfl (fun ls hl => ?_)
        have hL49 : ∀ (x1 : Int32) (x2 : Int32) (x3 : Int32) (x4 : Int32) (n : Nat) (x5 : Int32) (x6 : Int32), nm x6 (f5_besideMany τ x1) < n → ∀ ls : Array Slot, lv_has ls 8 [(0, .ref (ad 3)), (1, .int x1), (2, .int x2), (3, .int x3), (4, .int x4), (5, .int x5), (6, .int x6)] → (∀ ls : Array Slot, lv_has ls 8 [(0, .ref (ad 3)), (1, .int x1), (2, .int x2), (3, .int x3), (4, .int x4), (5, .int ((f3_changeBy_L49 τ ρ π x1 x2 x3 x4 n x5 x6).1)), (6, .int ((f3_changeBy_L49 τ ρ π x1 x2 x3 x4 n x5 x6).2))] → W p l e ({ frames := 1, cells := 0, slots := 0, locals := 22 }) s m ([.ref (ad 3), .int a1, .int a2] : List Value).toArray below meth c s.heap [] 0 0 (MQ below (QcRead (f3_changeBy τ ρ π a1 a2)) ([.ref (ad 3), .int a1, .int a2] : List Value).toArray s 0 0 noA) (F0 m 111 ls [])) → W p l e ({ frames := 1, cells := 0, slots := 0, locals := 22 }) s m ([.ref (ad 3), .int a1, .int a2] : List Value).toArray below meth c s.heap [] 0 0 (MQ below (QcRead (f3_changeBy τ ρ π a1 a2)) ([.ref (ad 3), .int a1, .int a2] : List Value).toArray s 0 0 noA) (F0 m 49 ls []) := by
          intro x1 x2 x3 x4 n
          induction n with
          | zero =>
            intro x5 x6 hn
            exact absurd hn (Nat.not_lt_zero _)
          | succ n ih =>
            intro x5 x6 hn ls hl kk
            refine lv_iload hx hb dX3_changeBy_49 (lv_at hl 6 rfl) ?_
            refine lv_aload_n hx hb dX3_changeBy_51 rfl (lv_at hl 0 rfl) ?_
            refine gX3_0 hx hb htA hown hK hP dX3_changeBy_52 ?_
            refine lv_iload_n hx hb dX3_changeBy_55 rfl (lv_at hl 1 rfl) ?_
            refine sy_cv (rest := [.int x6]) C hK hN hP (m5_besideMany l D cA ad τ ρ π γ hT x1) (1) 7 rfl rfl kw_291 kw_220 kw_221 kw_16 kw_222 hd_X5_besideMany ⟨Nat.le_of_ble_eq_true rfl, Nat.le_of_ble_eq_true rfl⟩ rfl rfl rfl hl.1 rfl (Nat.le_of_ble_eq_true rfl) dX3_changeBy_56 ⟨Nat.zero_le _, Nat.zero_le _⟩ ?_
            refine lv_icmp_ge (tgt := 111) hx hb dX3_changeBy_59 (by decide) (fun c_4 => ?_) (fun c_4 => ?_)
            · have e9 : f3_changeBy_L49 τ ρ π x1 x2 x3 x4 (n + 1) x5 x6 = (x5, x6) := by rw [f3_changeBy_L49_s]; (try rw [if_pos c_4])
              rw [e9] at kk
              exact kk ls (lv_sub hl [0, 1, 2, 3, 4, 5, 6] rfl)
            · refine lv_aload_n hx hb dX3_changeBy_62 rfl (lv_at hl 0 rfl) ?_
              refine lv_aload_n hx hb dX3_changeBy_63 rfl (lv_at hl 0 rfl) ?_
              refine gX3_0 hx hb htA hown hK hP dX3_changeBy_64 ?_
              refine lv_iload_n hx hb dX3_changeBy_67 rfl (lv_at hl 1 rfl) ?_
              refine lv_iload hx hb dX3_changeBy_68 (lv_at hl 6 rfl) ?_
              refine sy_cv (rest := [.ref (ad 3)]) C hK hN hP (m5_beside l D cA ad τ ρ π γ hT x1 x6) (1) 7 rfl rfl kw_293 kw_224 kw_225 kw_16 kw_226 hd_X5_beside ⟨Nat.le_of_ble_eq_true rfl, Nat.le_of_ble_eq_true rfl⟩ rfl rfl rfl hl.1 rfl (Nat.le_of_ble_eq_true rfl) dX3_changeBy_70 ⟨Nat.zero_le _, Nat.zero_le _⟩ ?_
              refine sy_cv (rest := []) C hK hN hP (m3_markAt l D cA ad τ ρ π γ (f5_beside τ x1 x6)) (3) 5 rfl rfl kw_292 kw_206 kw_207 kw_24 kw_208 hd_X3_markAt ⟨Nat.le_of_ble_eq_true rfl, Nat.le_of_ble_eq_true rfl⟩ rfl rfl rfl hl.1 rfl (Nat.le_of_ble_eq_true rfl) dX3_changeBy_73 ⟨Nat.zero_le _, Nat.zero_le _⟩ ?_
              refine lv_istore (lv' := [(7, .int (f3_markAt π (f5_beside τ x1 x6))), (0, .ref (ad 3)), (1, .int x1), (2, .int x2), (3, .int x3), (4, .int x4), (5, .int x5), (6, .int x6)]) hx hb dX3_changeBy_76 hl (by decide) rfl (fun ls hl => ?_)
              refine lv_iload hx hb dX3_changeBy_78 (lv_at hl 6 rfl) ?_
              refine lv_aload_n hx hb dX3_changeBy_80 rfl (lv_at hl 1 rfl) ?_
              refine gX3_1 hx hb htA hown hK hP dX3_changeBy_81 ?_
              refine lv_iload hx hb dX3_changeBy_84 (lv_at hl 5 rfl) ?_
              refine lv_iload hx hb dX3_changeBy_86 (lv_at hl 0 rfl) ?_
              refine sy_cv (rest := [.int x5]) C hK hN hP (m4_misfitOf l D cA ad τ ρ π γ x4 (f3_markAt π (f5_beside τ x1 x6))) (2) 6 rfl rfl kw_294 kw_236 kw_237 kw_20 kw_238 hd_X4_misfitOf ⟨Nat.le_of_ble_eq_true rfl, Nat.le_of_ble_eq_true rfl⟩ rfl rfl rfl hl.1 rfl (Nat.le_of_ble_eq_true rfl) dX3_changeBy_88 ⟨Nat.zero_le _, Nat.zero_le _⟩ ?_
              refine lv_aload_n hx hb dX3_changeBy_91 rfl (lv_at hl 1 rfl) ?_
              refine gX3_1 hx hb htA hown hK hP dX3_changeBy_92 ?_
              refine lv_iload_n hx hb dX3_changeBy_95 rfl (lv_at hl 4 rfl) ?_
              refine lv_iload hx hb dX3_changeBy_96 (lv_at hl 0 rfl) ?_
              refine sy_cv (rest := [.int (f4_misfitOf ρ x4 (f3_markAt π (f5_beside τ x1 x6))), .int x5]) C hK hN hP (m4_misfitOf l D cA ad τ ρ π γ x3 (f3_markAt π (f5_beside τ x1 x6))) (2) 6 rfl rfl kw_294 kw_236 kw_237 kw_20 kw_238 hd_X4_misfitOf ⟨Nat.le_of_ble_eq_true rfl, Nat.le_of_ble_eq_true rfl⟩ rfl rfl rfl hl.1 rfl (Nat.le_of_ble_eq_true rfl) dX3_changeBy_98 ⟨Nat.zero_le _, Nat.zero_le _⟩ ?_
              refine lv_isub hx hb dX3_changeBy_101 ?_
              refine lv_iadd hx hb dX3_changeBy_102 ?_
              refine lv_istore (lv' := [(5, .int (x5 + ((f4_misfitOf ρ x4 (f3_markAt π (f5_beside τ x1 x6))) - (f4_misfitOf ρ x3 (f3_markAt π (f5_beside τ x1 x6)))))), (7, .int (f3_markAt π (f5_beside τ x1 x6))), (0, .ref (ad 3)), (1, .int x1), (2, .int x2), (3, .int x3), (4, .int x4), (6, .int x6)]) hx hb dX3_changeBy_103 hl (by decide) rfl (fun ls hl => ?_)
              refine lv_iinc (v := x6 + 1) (lv' := [(6, .int (x6 + 1)), (5, .int (x5 + ((f4_misfitOf ρ x4 (f3_markAt π (f5_beside τ x1 x6))) - (f4_misfitOf ρ x3 (f3_markAt π (f5_beside τ x1 x6)))))), (7, .int (f3_markAt π (f5_beside τ x1 x6))), (0, .ref (ad 3)), (1, .int x1), (2, .int x2), (3, .int x3), (4, .int x4)]) hx hb dX3_changeBy_105 hl (k := 7) rfl (by rfl) (by decide) rfl (fun ls hl => ?_)
              refine lv_goto (tgt := 49) hx hb dX3_changeBy_108 (by decide) ?_
              have e9 : f3_changeBy_L49 τ ρ π x1 x2 x3 x4 (n + 1) x5 x6 = f3_changeBy_L49 τ ρ π x1 x2 x3 x4 n (x5 + ((f4_misfitOf ρ x4 (f3_markAt π (f5_beside τ x1 x6))) - (f4_misfitOf ρ x3 (f3_markAt π (f5_beside τ x1 x6))))) (x6 + 1) := by rw [f3_changeBy_L49_s]; (try rw [if_neg c_4])
              rw [e9] at kk
              exact ih (x5 + ((f4_misfitOf ρ x4 (f3_markAt π (f5_beside τ x1 x6))) - (f4_misfitOf ρ x3 (f3_markAt π (f5_beside τ x1 x6))))) (x6 + 1) (nm_dec (Int32.not_le.mp c_4) hn)  ls (lv_sub hl [3, 4, 5, 6, 7, 1, 0] rfl) kk
        refine hL49 a1 a2 (f3_markAt π a1) (f3_markAt π a2) 8589934592 0 0 (nm_lt _ _) ls (lv_sub hl [4, 5, 6, 3, 2, 1, 0] rfl) (fun ls hl => ?_)
        refine lv_iload hx hb dX3_changeBy_111 (lv_at hl 5 rfl) ?_
        have e9 : (f3_changeBy_L49 τ ρ π a1 a2 (f3_markAt π a1) (f3_markAt π a2) 8589934592 0 0).1 = f3_changeBy τ ρ π a1 a2 := by unfold f3_changeBy; (try rw [if_neg c_1]); (try rw [if_neg c_2]); (try rw [if_neg c_3])
        exact sy_ret hx hb hr hlk e9 dX3_changeBy_113
      · refine lv_bipush (v := (-2)) hx hb dX3_changeBy_32 (by decide) ?_
        refine lv_aload_n hx hb dX3_changeBy_34 rfl (lv_at hl 2 rfl) ?_
        refine lv_iload_n hx hb dX3_changeBy_35 rfl (lv_at hl 3 rfl) ?_
        refine sy_cv (rest := [.int (-2)]) C hK hN hP (m3_workAt l D cA ad τ ρ π γ a1) (3) 5 rfl rfl kw_365 kw_273 kw_274 kw_24 kw_275 hd_X3_workAt ⟨Nat.le_of_ble_eq_true rfl, Nat.le_of_ble_eq_true rfl⟩ rfl rfl rfl hl.1 rfl (Nat.le_of_ble_eq_true rfl) dX3_changeBy_36 ⟨Nat.zero_le _, Nat.zero_le _⟩ ?_
        refine lv_imul hx hb dX3_changeBy_39 ?_
        refine lv_goto (tgt := 44) hx hb dX3_changeBy_40 (by decide) ?_
        refine lv_istore (lv' := [(5, .int ((-2) * (f3_workAt π a1))), (4, .int (f3_markAt π a2)), (3, .int (f3_markAt π a1)), (0, .ref (ad 3)), (1, .int a1), (2, .int a2)]) hx hb dX3_changeBy_44 hl (by decide) rfl (fun ls hl => ?_)
        refine lv_iconst (v := 0) hx hb dX3_changeBy_46 (by decide) ?_
        refine lv_istore (lv' := [(6, .int 0), (5, .int ((-2) * (f3_workAt π a1))), (4, .int (f3_markAt π a2)), (3, .int (f3_markAt π a1)), (0, .ref (ad 3)), (1, .int a1), (2, .int a2)]) hx hb dX3_changeBy_47 hl (by decide) rfl (fun ls hl => ?_)
        have hL49 : ∀ (x1 : Int32) (x2 : Int32) (x3 : Int32) (x4 : Int32) (n : Nat) (x5 : Int32) (x6 : Int32), nm x6 (f5_besideMany τ x1) < n → ∀ ls : Array Slot, lv_has ls 8 [(0, .ref (ad 3)), (1, .int x1), (2, .int x2), (3, .int x3), (4, .int x4), (5, .int x5), (6, .int x6)] → (∀ ls : Array Slot, lv_has ls 8 [(0, .ref (ad 3)), (1, .int x1), (2, .int x2), (3, .int x3), (4, .int x4), (5, .int ((f3_changeBy_L49 τ ρ π x1 x2 x3 x4 n x5 x6).1)), (6, .int ((f3_changeBy_L49 τ ρ π x1 x2 x3 x4 n x5 x6).2))] → W p l e ({ frames := 1, cells := 0, slots := 0, locals := 22 }) s m ([.ref (ad 3), .int a1, .int a2] : List Value).toArray below meth c s.heap [] 0 0 (MQ below (QcRead (f3_changeBy τ ρ π a1 a2)) ([.ref (ad 3), .int a1, .int a2] : List Value).toArray s 0 0 noA) (F0 m 111 ls [])) → W p l e ({ frames := 1, cells := 0, slots := 0, locals := 22 }) s m ([.ref (ad 3), .int a1, .int a2] : List Value).toArray below meth c s.heap [] 0 0 (MQ below (QcRead (f3_changeBy τ ρ π a1 a2)) ([.ref (ad 3), .int a1, .int a2] : List Value).toArray s 0 0 noA) (F0 m 49 ls []) := by
          intro x1 x2 x3 x4 n
          induction n with
          | zero =>
            intro x5 x6 hn
            exact absurd hn (Nat.not_lt_zero _)
          | succ n ih =>
            intro x5 x6 hn ls hl kk
            refine lv_iload hx hb dX3_changeBy_49 (lv_at hl 6 rfl) ?_
            refine lv_aload_n hx hb dX3_changeBy_51 rfl (lv_at hl 0 rfl) ?_
            refine gX3_0 hx hb htA hown hK hP dX3_changeBy_52 ?_
            refine lv_iload_n hx hb dX3_changeBy_55 rfl (lv_at hl 1 rfl) ?_
            refine sy_cv (rest := [.int x6]) C hK hN hP (m5_besideMany l D cA ad τ ρ π γ hT x1) (1) 7 rfl rfl kw_291 kw_220 kw_221 kw_16 kw_222 hd_X5_besideMany ⟨Nat.le_of_ble_eq_true rfl, Nat.le_of_ble_eq_true rfl⟩ rfl rfl rfl hl.1 rfl (Nat.le_of_ble_eq_true rfl) dX3_changeBy_56 ⟨Nat.zero_le _, Nat.zero_le _⟩ ?_
            refine lv_icmp_ge (tgt := 111) hx hb dX3_changeBy_59 (by decide) (fun c_5 => ?_) (fun c_5 => ?_)
            · have e9 : f3_changeBy_L49 τ ρ π x1 x2 x3 x4 (n + 1) x5 x6 = (x5, x6) := by rw [f3_changeBy_L49_s]; (try rw [if_pos c_5])
              rw [e9] at kk
              exact kk ls (lv_sub hl [0, 1, 2, 3, 4, 5, 6] rfl)
            · refine lv_aload_n hx hb dX3_changeBy_62 rfl (lv_at hl 0 rfl) ?_
              refine lv_aload_n hx hb dX3_changeBy_63 rfl (lv_at hl 0 rfl) ?_
              refine gX3_0 hx hb htA hown hK hP dX3_changeBy_64 ?_
              refine lv_iload_n hx hb dX3_changeBy_67 rfl (lv_at hl 1 rfl) ?_
              refine lv_iload hx hb dX3_changeBy_68 (lv_at hl 6 rfl) ?_
              refine sy_cv (rest := [.ref (ad 3)]) C hK hN hP (m5_beside l D cA ad τ ρ π γ hT x1 x6) (1) 7 rfl rfl kw_293 kw_224 kw_225 kw_16 kw_226 hd_X5_beside ⟨Nat.le_of_ble_eq_true rfl, Nat.le_of_ble_eq_true rfl⟩ rfl rfl rfl hl.1 rfl (Nat.le_of_ble_eq_true rfl) dX3_changeBy_70 ⟨Nat.zero_le _, Nat.zero_le _⟩ ?_
              refine sy_cv (rest := []) C hK hN hP (m3_markAt l D cA ad τ ρ π γ (f5_beside τ x1 x6)) (3) 5 rfl rfl kw_292 kw_206 kw_207 kw_24 kw_208 hd_X3_markAt ⟨Nat.le_of_ble_eq_true rfl, Nat.le_of_ble_eq_true rfl⟩ rfl rfl rfl hl.1 rfl (Nat.le_of_ble_eq_true rfl) dX3_changeBy_73 ⟨Nat.zero_le _, Nat.zero_le _⟩ ?_
              refine lv_istore (lv' := [(7, .int (f3_markAt π (f5_beside τ x1 x6))), (0, .ref (ad 3)), (1, .int x1), (2, .int x2), (3, .int x3), (4, .int x4), (5, .int x5), (6, .int x6)]) hx hb dX3_changeBy_76 hl (by decide) rfl (fun ls hl => ?_)
              refine lv_iload hx hb dX3_changeBy_78 (lv_at hl 6 rfl) ?_
              refine lv_aload_n hx hb dX3_changeBy_80 rfl (lv_at hl 1 rfl) ?_
              refine gX3_1 hx hb htA hown hK hP dX3_changeBy_81 ?_
              refine lv_iload hx hb dX3_changeBy_84 (lv_at hl 5 rfl) ?_
              refine lv_iload hx hb dX3_changeBy_86 (lv_at hl 0 rfl) ?_
              refine sy_cv (rest := [.int x5]) C hK hN hP (m4_misfitOf l D cA ad τ ρ π γ x4 (f3_markAt π (f5_beside τ x1 x6))) (2) 6 rfl rfl kw_294 kw_236 kw_237 kw_20 kw_238 hd_X4_misfitOf ⟨Nat.le_of_ble_eq_true rfl, Nat.le_of_ble_eq_true rfl⟩ rfl rfl rfl hl.1 rfl (Nat.le_of_ble_eq_true rfl) dX3_changeBy_88 ⟨Nat.zero_le _, Nat.zero_le _⟩ ?_
              refine lv_aload_n hx hb dX3_changeBy_91 rfl (lv_at hl 1 rfl) ?_
              refine gX3_1 hx hb htA hown hK hP dX3_changeBy_92 ?_
              refine lv_iload_n hx hb dX3_changeBy_95 rfl (lv_at hl 4 rfl) ?_
              refine lv_iload hx hb dX3_changeBy_96 (lv_at hl 0 rfl) ?_
              refine sy_cv (rest := [.int (f4_misfitOf ρ x4 (f3_markAt π (f5_beside τ x1 x6))), .int x5]) C hK hN hP (m4_misfitOf l D cA ad τ ρ π γ x3 (f3_markAt π (f5_beside τ x1 x6))) (2) 6 rfl rfl kw_294 kw_236 kw_237 kw_20 kw_238 hd_X4_misfitOf ⟨Nat.le_of_ble_eq_true rfl, Nat.le_of_ble_eq_true rfl⟩ rfl rfl rfl hl.1 rfl (Nat.le_of_ble_eq_true rfl) dX3_changeBy_98 ⟨Nat.zero_le _, Nat.zero_le _⟩ ?_
              refine lv_isub hx hb dX3_changeBy_101 ?_
              refine lv_iadd hx hb dX3_changeBy_102 ?_
              refine lv_istore (lv' := [(5, .int (x5 + ((f4_misfitOf ρ x4 (f3_markAt π (f5_beside τ x1 x6))) - (f4_misfitOf ρ x3 (f3_markAt π (f5_beside τ x1 x6)))))), (7, .int (f3_markAt π (f5_beside τ x1 x6))), (0, .ref (ad 3)), (1, .int x1), (2, .int x2), (3, .int x3), (4, .int x4), (6, .int x6)]) hx hb dX3_changeBy_103 hl (by decide) rfl (fun ls hl => ?_)
              refine lv_iinc (v := x6 + 1) (lv' := [(6, .int (x6 + 1)), (5, .int (x5 + ((f4_misfitOf ρ x4 (f3_markAt π (f5_beside τ x1 x6))) - (f4_misfitOf ρ x3 (f3_markAt π (f5_beside τ x1 x6)))))), (7, .int (f3_markAt π (f5_beside τ x1 x6))), (0, .ref (ad 3)), (1, .int x1), (2, .int x2), (3, .int x3), (4, .int x4)]) hx hb dX3_changeBy_105 hl (k := 7) rfl (by rfl) (by decide) rfl (fun ls hl => ?_)
              refine lv_goto (tgt := 49) hx hb dX3_changeBy_108 (by decide) ?_
              have e9 : f3_changeBy_L49 τ ρ π x1 x2 x3 x4 (n + 1) x5 x6 = f3_changeBy_L49 τ ρ π x1 x2 x3 x4 n (x5 + ((f4_misfitOf ρ x4 (f3_markAt π (f5_beside τ x1 x6))) - (f4_misfitOf ρ x3 (f3_markAt π (f5_beside τ x1 x6))))) (x6 + 1) := by rw [f3_changeBy_L49_s]; (try rw [if_neg c_5])
              rw [e9] at kk
              exact ih (x5 + ((f4_misfitOf ρ x4 (f3_markAt π (f5_beside τ x1 x6))) - (f4_misfitOf ρ x3 (f3_markAt π (f5_beside τ x1 x6))))) (x6 + 1) (nm_dec (Int32.not_le.mp c_5) hn)  ls (lv_sub hl [3, 4, 5, 6, 7, 1, 0] rfl) kk
        refine hL49 a1 a2 (f3_markAt π a1) (f3_markAt π a2) 8589934592 ((-2) * (f3_workAt π a1)) 0 (nm_lt _ _) ls (lv_sub hl [4, 5, 6, 3, 2, 1, 0] rfl) (fun ls hl => ?_)
        refine lv_iload hx hb dX3_changeBy_111 (lv_at hl 5 rfl) ?_
        have e9 : (f3_changeBy_L49 τ ρ π a1 a2 (f3_markAt π a1) (f3_markAt π a2) 8589934592 ((-2) * (f3_workAt π a1)) 0).1 = f3_changeBy τ ρ π a1 a2 := by unfold f3_changeBy; (try rw [if_neg c_1]); (try rw [if_neg c_2]); (try rw [if_pos c_3])
        exact sy_ret hx hb hr hlk e9 dX3_changeBy_113
    · refine lv_iconst (v := 0) hx hb dX3_changeBy_22 (by decide) ?_
      have e9 : 0 = f3_changeBy τ ρ π a1 a2 := by unfold f3_changeBy; (try rw [if_neg c_1]); (try rw [if_pos c_2])
      exact sy_ret hx hb hr hlk e9 dX3_changeBy_23
/-- X3_firstMarkBeside -/
theorem hd_X3_firstMarkBeside : yX3_firstMarkBeside.cls = yX3_firstMarkBeside.cls ∧ yX3_firstMarkBeside.cls ≠ "java/lang/invoke/MethodHandle" ∧ yX3_firstMarkBeside.cls ≠ "java/lang/invoke/VarHandle" ∧ (parseMethodDescriptor yX3_firstMarkBeside.desc).map (fun d => d.parameters.length) = some 1 := by decide +kernel
def f3_firstMarkBeside_L2 (τ : Sg) (π : Sg) (x1 : Int32) : Nat → Int32 → (Int32) ⊕ (Int32)
  | 0, x2 => .inr x2
  | n + 1, x2 => (if (f5_besideMany τ x1) ≤ x2 then .inr x2 else (if (f3_markAt π (f5_beside τ x1 x2)) = 0 then (f3_firstMarkBeside_L2 τ π x1 n (x2 + 1)) else .inl (f3_markAt π (f5_beside τ x1 x2))))
theorem f3_firstMarkBeside_L2_s (τ : Sg) (π : Sg) (x1 : Int32) (n : Nat) (x2 : Int32) : f3_firstMarkBeside_L2 τ π x1 (n + 1) x2 = (if (f5_besideMany τ x1) ≤ x2 then .inr x2 else (if (f3_markAt π (f5_beside τ x1 x2)) = 0 then (f3_firstMarkBeside_L2 τ π x1 n (x2 + 1)) else .inl (f3_markAt π (f5_beside τ x1 x2)))) := rfl
def f3_firstMarkBeside (τ : Sg) (π : Sg) (a1 : Int32) : Int32 := (match f3_firstMarkBeside_L2 τ π a1 8589934592 0 with | .inl r => r | .inr t => 0)
set_option maxHeartbeats 400000 in
set_option maxRecDepth 100000 in
theorem m3_firstMarkBeside (l : Launch) (D : va_G) (cA : ClassId) (ad : Nat → Nat) (τ ρ π γ : Sg) (hT : Ok τ) (a1 : Int32) : Met l yX3_firstMarkBeside (wM yX3_firstMarkBeside cX3_firstMarkBeside 4 (some .int)) ({ frames := 1, cells := 0, slots := 0, locals := 22 }) (va_Pc [.ref (ad 3), .int a1] (pS D cA ad τ ρ π γ)) (QcRead (f3_firstMarkBeside τ π a1)) 0 0 noA := by
  refine sy_of (by decide) (Nat.le_of_ble_eq_true rfl) ?_
  intro p e s m below meth c ls C hr hlk hK hN hP hl
  obtain ⟨hx, hb, hml, hown, hts⟩ := id C
  have htA : ∀ w ∈ wA, w.before ([.ref (ad 3), .int a1] : List Value).toArray s = true := fun w h => hts w (List.mem_cons_of_mem _ h)
  have hl : lv_has ls 4 [(0, .ref (ad 3)), (1, .int a1)] := hl
  refine lv_iconst (v := 0) hx hb dX3_firstMarkBeside_0 (by decide) ?_
  refine lv_istore_n (lv' := [(2, .int 0), (0, .ref (ad 3)), (1, .int a1)]) hx hb dX3_firstMarkBeside_1 rfl hl (by decide) rfl (fun ls hl => ?_)
  have hL2 : ∀ (x1 : Int32) (n : Nat) (x2 : Int32), nm x2 (f5_besideMany τ x1) < n → ∀ ls : Array Slot, lv_has ls 4 [(0, .ref (ad 3)), (1, .int x1), (2, .int x2)] → (∀ t, f3_firstMarkBeside_L2 τ π x1 n x2 = .inr t → ∀ ls : Array Slot, lv_has ls 4 [(0, .ref (ad 3)), (1, .int x1), (2, .int t)] → W p l e ({ frames := 1, cells := 0, slots := 0, locals := 22 }) s m ([.ref (ad 3), .int a1] : List Value).toArray below meth c s.heap [] 0 0 (MQ below (QcRead (f3_firstMarkBeside τ π a1)) ([.ref (ad 3), .int a1] : List Value).toArray s 0 0 noA) (F0 m 40 ls [])) → (∀ r, f3_firstMarkBeside_L2 τ π x1 n x2 = .inl r → r = f3_firstMarkBeside τ π a1) → W p l e ({ frames := 1, cells := 0, slots := 0, locals := 22 }) s m ([.ref (ad 3), .int a1] : List Value).toArray below meth c s.heap [] 0 0 (MQ below (QcRead (f3_firstMarkBeside τ π a1)) ([.ref (ad 3), .int a1] : List Value).toArray s 0 0 noA) (F0 m 2 ls []) := by
    intro x1 n
    induction n with
    | zero =>
      intro x2 hn
      exact absurd hn (Nat.not_lt_zero _)
    | succ n ih =>
      intro x2 hn ls hl kk kr
      refine lv_iload_n hx hb dX3_firstMarkBeside_2 rfl (lv_at hl 2 rfl) ?_
      refine lv_aload_n hx hb dX3_firstMarkBeside_3 rfl (lv_at hl 0 rfl) ?_
      refine gX3_0 hx hb htA hown hK hP dX3_firstMarkBeside_4 ?_
      refine lv_iload_n hx hb dX3_firstMarkBeside_7 rfl (lv_at hl 1 rfl) ?_
      refine sy_cv (rest := [.int x2]) C hK hN hP (m5_besideMany l D cA ad τ ρ π γ hT x1) (1) 7 rfl rfl kw_291 kw_220 kw_221 kw_16 kw_222 hd_X5_besideMany ⟨Nat.le_of_ble_eq_true rfl, Nat.le_of_ble_eq_true rfl⟩ rfl rfl rfl hl.1 rfl (Nat.le_of_ble_eq_true rfl) dX3_firstMarkBeside_8 ⟨Nat.zero_le _, Nat.zero_le _⟩ ?_
      refine lv_icmp_ge (tgt := 40) hx hb dX3_firstMarkBeside_11 (by decide) (fun c_1 => ?_) (fun c_1 => ?_)
      · have e9 : f3_firstMarkBeside_L2 τ π x1 (n + 1) x2 = .inr x2 := by rw [f3_firstMarkBeside_L2_s]; (try rw [if_pos c_1])
        exact kk _ e9 ls (lv_sub hl [0, 1, 2] rfl)
      · refine lv_aload_n hx hb dX3_firstMarkBeside_14 rfl (lv_at hl 0 rfl) ?_
        refine lv_aload_n hx hb dX3_firstMarkBeside_15 rfl (lv_at hl 0 rfl) ?_
        refine gX3_0 hx hb htA hown hK hP dX3_firstMarkBeside_16 ?_
        refine lv_iload_n hx hb dX3_firstMarkBeside_19 rfl (lv_at hl 1 rfl) ?_
        refine lv_iload_n hx hb dX3_firstMarkBeside_20 rfl (lv_at hl 2 rfl) ?_
        refine sy_cv (rest := [.ref (ad 3)]) C hK hN hP (m5_beside l D cA ad τ ρ π γ hT x1 x2) (1) 7 rfl rfl kw_293 kw_224 kw_225 kw_16 kw_226 hd_X5_beside ⟨Nat.le_of_ble_eq_true rfl, Nat.le_of_ble_eq_true rfl⟩ rfl rfl rfl hl.1 rfl (Nat.le_of_ble_eq_true rfl) dX3_firstMarkBeside_21 ⟨Nat.zero_le _, Nat.zero_le _⟩ ?_
        refine sy_cv (rest := []) C hK hN hP (m3_markAt l D cA ad τ ρ π γ (f5_beside τ x1 x2)) (3) 5 rfl rfl kw_292 kw_206 kw_207 kw_24 kw_208 hd_X3_markAt ⟨Nat.le_of_ble_eq_true rfl, Nat.le_of_ble_eq_true rfl⟩ rfl rfl rfl hl.1 rfl (Nat.le_of_ble_eq_true rfl) dX3_firstMarkBeside_24 ⟨Nat.zero_le _, Nat.zero_le _⟩ ?_
        refine lv_istore_n (lv' := [(3, .int (f3_markAt π (f5_beside τ x1 x2))), (0, .ref (ad 3)), (1, .int x1), (2, .int x2)]) hx hb dX3_firstMarkBeside_27 rfl hl (by decide) rfl (fun ls hl => ?_)
        refine lv_iload_n hx hb dX3_firstMarkBeside_28 rfl (lv_at hl 0 rfl) ?_
        refine lv_if_eq (tgt := 34) hx hb dX3_firstMarkBeside_29 (by decide) (fun c_2 => ?_) (fun c_2 => ?_)
        · refine lv_iinc (v := x2 + 1) (lv' := [(2, .int (x2 + 1)), (3, .int (f3_markAt π (f5_beside τ x1 x2))), (0, .ref (ad 3)), (1, .int x1)]) hx hb dX3_firstMarkBeside_34 hl (k := 3) rfl (by rfl) (by decide) rfl (fun ls hl => ?_)
          refine lv_goto (tgt := 2) hx hb dX3_firstMarkBeside_37 (by decide) ?_
          have e9 : f3_firstMarkBeside_L2 τ π x1 (n + 1) x2 = f3_firstMarkBeside_L2 τ π x1 n (x2 + 1) := by rw [f3_firstMarkBeside_L2_s]; (try rw [if_neg c_1]); (try rw [if_pos c_2])
          rw [e9] at kk
          rw [e9] at kr
          exact ih (x2 + 1) (nm_dec (Int32.not_le.mp c_1) hn)  ls (lv_sub hl [2, 3, 0] rfl) kk kr
        · refine lv_iload_n hx hb dX3_firstMarkBeside_32 rfl (lv_at hl 0 rfl) ?_
          have e9 : f3_firstMarkBeside_L2 τ π x1 (n + 1) x2 = .inl (f3_markAt π (f5_beside τ x1 x2)) := by rw [f3_firstMarkBeside_L2_s]; (try rw [if_neg c_1]); (try rw [if_neg c_2])
          exact sy_ret hx hb hr hlk (kr _ e9) dX3_firstMarkBeside_33
  refine hL2 a1 8589934592 0 (nm_lt _ _) ls (lv_sub hl [1, 2, 0] rfl) (fun t ht_2 ls hl => ?_) (fun r ht_2 => ?_)
  · refine lv_iconst (v := 0) hx hb dX3_firstMarkBeside_40 (by decide) ?_
    have e9 : 0 = f3_firstMarkBeside τ π a1 := by unfold f3_firstMarkBeside; (try rw [ht_2])
    exact sy_ret hx hb hr hlk e9 dX3_firstMarkBeside_41
  · unfold f3_firstMarkBeside; (try rw [ht_2])
/-- X3_isBearing -/
theorem hd_X3_isBearing : yX3_isBearing.cls = yX3_isBearing.cls ∧ yX3_isBearing.cls ≠ "java/lang/invoke/MethodHandle" ∧ yX3_isBearing.cls ≠ "java/lang/invoke/VarHandle" ∧ (parseMethodDescriptor yX3_isBearing.desc).map (fun d => d.parameters.length) = some 2 := by decide +kernel
def f3_isBearing_L36 (τ : Sg) (π : Sg) (x1 : Int32) (x2 : Int32) (x3 : Int32) : Nat → Int32 → Int32 → Int32 × Int32
  | 0, x4, x5 => (x4, x5)
  | n + 1, x4, x5 => (if (f5_besideMany τ x1) ≤ x5 then (x4, x5) else (if (f3_markAt π (f5_beside τ x1 x5)) = x3 then (f3_isBearing_L36 τ π x1 x2 x3 n x4 (x5 + 1)) else (f3_isBearing_L36 τ π x1 x2 x3 n (x4 + 1) (x5 + 1))))
theorem f3_isBearing_L36_s (τ : Sg) (π : Sg) (x1 : Int32) (x2 : Int32) (x3 : Int32) (n : Nat) (x4 : Int32) (x5 : Int32) : f3_isBearing_L36 τ π x1 x2 x3 (n + 1) x4 x5 = (if (f5_besideMany τ x1) ≤ x5 then (x4, x5) else (if (f3_markAt π (f5_beside τ x1 x5)) = x3 then (f3_isBearing_L36 τ π x1 x2 x3 n x4 (x5 + 1)) else (f3_isBearing_L36 τ π x1 x2 x3 n (x4 + 1) (x5 + 1)))) := rfl
def f3_isBearing (τ : Sg) (π : Sg) (a1 : Int32) (a2 : Int32) : Int32 := (if (f3_markAt π a1) = 0 then 0 else (if (f3_hardAt π a1) = 1 then 0 else (if a2 ≤ (f3_workAt π a1) then (if ((f3_isBearing_L36 τ π a1 a2 (f3_markAt π a1) 8589934592 0 0).1) < 2 then 0 else 1) else 0)))
set_option maxHeartbeats 400000 in
set_option maxRecDepth 100000 in
theorem m3_isBearing (l : Launch) (D : va_G) (cA : ClassId) (ad : Nat → Nat) (τ ρ π γ : Sg) (hT : Ok τ) (a1 : Int32) (a2 : Int32) : Met l yX3_isBearing (wM yX3_isBearing cX3_isBearing 6 (some .boolean)) ({ frames := 1, cells := 0, slots := 0, locals := 22 }) (va_Pc [.ref (ad 3), .int a1, .int a2] (pS D cA ad τ ρ π γ)) (QcRead (f3_isBearing τ π a1 a2)) 0 0 noA := by
  refine sy_of (by decide) (Nat.le_of_ble_eq_true rfl) ?_
  intro p e s m below meth c ls C hr hlk hK hN hP hl
  obtain ⟨hx, hb, hml, hown, hts⟩ := id C
  have htA : ∀ w ∈ wA, w.before ([.ref (ad 3), .int a1, .int a2] : List Value).toArray s = true := fun w h => hts w (List.mem_cons_of_mem _ h)
  have hl : lv_has ls 6 [(0, .ref (ad 3)), (1, .int a1), (2, .int a2)] := hl
  refine lv_aload_n hx hb dX3_isBearing_0 rfl (lv_at hl 0 rfl) ?_
  refine lv_iload_n hx hb dX3_isBearing_1 rfl (lv_at hl 1 rfl) ?_
  refine sy_cv (rest := []) C hK hN hP (m3_markAt l D cA ad τ ρ π γ a1) (3) 5 rfl rfl kw_292 kw_206 kw_207 kw_24 kw_208 hd_X3_markAt ⟨Nat.le_of_ble_eq_true rfl, Nat.le_of_ble_eq_true rfl⟩ rfl rfl rfl hl.1 rfl (Nat.le_of_ble_eq_true rfl) dX3_isBearing_2 ⟨Nat.zero_le _, Nat.zero_le _⟩ ?_
  refine lv_istore_n (lv' := [(3, .int (f3_markAt π a1)), (0, .ref (ad 3)), (1, .int a1), (2, .int a2)]) hx hb dX3_isBearing_5 rfl hl (by decide) rfl (fun ls hl => ?_)
  refine lv_iload_n hx hb dX3_isBearing_6 rfl (lv_at hl 0 rfl) ?_
  refine lv_if_eq (tgt := 28) hx hb dX3_isBearing_7 (by decide) (fun c_1 => ?_) (fun c_1 => ?_)
  · refine lv_iconst (v := 0) hx hb dX3_isBearing_28 (by decide) ?_
    have e9 : 0 = f3_isBearing τ π a1 a2 := by unfold f3_isBearing; (try rw [if_pos c_1])
    exact sy_retZ hx hb hr hlk rfl e9 dX3_isBearing_29
  · refine lv_aload_n hx hb dX3_isBearing_10 rfl (lv_at hl 1 rfl) ?_
    refine lv_iload_n hx hb dX3_isBearing_11 rfl (lv_at hl 2 rfl) ?_
    refine sy_cv (rest := []) C hK hN hP (m3_hardAt l D cA ad τ ρ π γ a1) (3) 5 rfl rfl kw_364 kw_277 kw_278 kw_24 kw_279 hd_X3_hardAt ⟨Nat.le_of_ble_eq_true rfl, Nat.le_of_ble_eq_true rfl⟩ rfl rfl rfl hl.1 rfl (Nat.le_of_ble_eq_true rfl) dX3_isBearing_12 ⟨Nat.zero_le _, Nat.zero_le _⟩ ?_
    refine lv_iconst (v := 1) hx hb dX3_isBearing_15 (by decide) ?_
    refine lv_icmp_eq (tgt := 28) hx hb dX3_isBearing_16 (by decide) (fun c_2 => ?_) (fun c_2 => ?_)
    · refine lv_iconst (v := 0) hx hb dX3_isBearing_28 (by decide) ?_
      have e9 : 0 = f3_isBearing τ π a1 a2 := by unfold f3_isBearing; (try rw [if_neg c_1]); (try rw [if_pos c_2])
      exact sy_retZ hx hb hr hlk rfl e9 dX3_isBearing_29
    · refine lv_aload_n hx hb dX3_isBearing_19 rfl (lv_at hl 1 rfl) ?_
      refine lv_iload_n hx hb dX3_isBearing_20 rfl (lv_at hl 2 rfl) ?_
      refine sy_cv (rest := []) C hK hN hP (m3_workAt l D cA ad τ ρ π γ a1) (3) 5 rfl rfl kw_365 kw_273 kw_274 kw_24 kw_275 hd_X3_workAt ⟨Nat.le_of_ble_eq_true rfl, Nat.le_of_ble_eq_true rfl⟩ rfl rfl rfl hl.1 rfl (Nat.le_of_ble_eq_true rfl) dX3_isBearing_21 ⟨Nat.zero_le _, Nat.zero_le _⟩ ?_
      refine lv_iload_n hx hb dX3_isBearing_24 rfl (lv_at hl 3 rfl) ?_
      refine lv_icmp_ge (tgt := 30) hx hb dX3_isBearing_25 (by decide) (fun c_3 => ?_) (fun c_3 => ?_)
      · refine lv_iconst (v := 0) hx hb dX3_isBearing_30 (by decide) ?_
        refine lv_istore (lv' := [(4, .int 0), (3, .int (f3_markAt π a1)), (0, .ref (ad 3)), (1, .int a1), (2, .int a2)]) hx hb dX3_isBearing_31 hl (by decide) rfl (fun ls hl => ?_)
        refine lv_iconst (v := 0) hx hb dX3_isBearing_33 (by decide) ?_
        refine lv_istore (lv' := [(5, .int 0), (4, .int 0), (3, .int (f3_markAt π a1)), (0, .ref (ad 3)), (1, .int a1), (2, .int a2)]) hx hb dX3_isBearing_34 hl (by decide) rfl (fun ls hl => ?_)
        have hL36 : ∀ (x1 : Int32) (x2 : Int32) (x3 : Int32) (n : Nat) (x4 : Int32) (x5 : Int32), nm x5 (f5_besideMany τ x1) < n → ∀ ls : Array Slot, lv_has ls 6 [(0, .ref (ad 3)), (1, .int x1), (2, .int x2), (3, .int x3), (4, .int x4), (5, .int x5)] → (∀ ls : Array Slot, lv_has ls 6 [(0, .ref (ad 3)), (1, .int x1), (2, .int x2), (3, .int x3), (4, .int ((f3_isBearing_L36 τ π x1 x2 x3 n x4 x5).1)), (5, .int ((f3_isBearing_L36 τ π x1 x2 x3 n x4 x5).2))] → W p l e ({ frames := 1, cells := 0, slots := 0, locals := 22 }) s m ([.ref (ad 3), .int a1, .int a2] : List Value).toArray below meth c s.heap [] 0 0 (MQ below (QcRead (f3_isBearing τ π a1 a2)) ([.ref (ad 3), .int a1, .int a2] : List Value).toArray s 0 0 noA) (F0 m 76 ls [])) → W p l e ({ frames := 1, cells := 0, slots := 0, locals := 22 }) s m ([.ref (ad 3), .int a1, .int a2] : List Value).toArray below meth c s.heap [] 0 0 (MQ below (QcRead (f3_isBearing τ π a1 a2)) ([.ref (ad 3), .int a1, .int a2] : List Value).toArray s 0 0 noA) (F0 m 36 ls []) := by
          intro x1 x2 x3 n
          induction n with
          | zero =>
            intro x4 x5 hn
            exact absurd hn (Nat.not_lt_zero _)
          | succ n ih =>
            intro x4 x5 hn ls hl kk
            refine lv_iload hx hb dX3_isBearing_36 (lv_at hl 5 rfl) ?_
            refine lv_aload_n hx hb dX3_isBearing_38 rfl (lv_at hl 0 rfl) ?_
            refine gX3_0 hx hb htA hown hK hP dX3_isBearing_39 ?_
            refine lv_iload_n hx hb dX3_isBearing_42 rfl (lv_at hl 1 rfl) ?_
            refine sy_cv (rest := [.int x5]) C hK hN hP (m5_besideMany l D cA ad τ ρ π γ hT x1) (1) 7 rfl rfl kw_291 kw_220 kw_221 kw_16 kw_222 hd_X5_besideMany ⟨Nat.le_of_ble_eq_true rfl, Nat.le_of_ble_eq_true rfl⟩ rfl rfl rfl hl.1 rfl (Nat.le_of_ble_eq_true rfl) dX3_isBearing_43 ⟨Nat.zero_le _, Nat.zero_le _⟩ ?_
            refine lv_icmp_ge (tgt := 76) hx hb dX3_isBearing_46 (by decide) (fun c_4 => ?_) (fun c_4 => ?_)
            · have e9 : f3_isBearing_L36 τ π x1 x2 x3 (n + 1) x4 x5 = (x4, x5) := by rw [f3_isBearing_L36_s]; (try rw [if_pos c_4])
              rw [e9] at kk
              exact kk ls (lv_sub hl [0, 1, 2, 3, 4, 5] rfl)
            · refine lv_aload_n hx hb dX3_isBearing_49 rfl (lv_at hl 0 rfl) ?_
              refine lv_aload_n hx hb dX3_isBearing_50 rfl (lv_at hl 0 rfl) ?_
              refine gX3_0 hx hb htA hown hK hP dX3_isBearing_51 ?_
              refine lv_iload_n hx hb dX3_isBearing_54 rfl (lv_at hl 1 rfl) ?_
              refine lv_iload hx hb dX3_isBearing_55 (lv_at hl 5 rfl) ?_
              refine sy_cv (rest := [.ref (ad 3)]) C hK hN hP (m5_beside l D cA ad τ ρ π γ hT x1 x5) (1) 7 rfl rfl kw_293 kw_224 kw_225 kw_16 kw_226 hd_X5_beside ⟨Nat.le_of_ble_eq_true rfl, Nat.le_of_ble_eq_true rfl⟩ rfl rfl rfl hl.1 rfl (Nat.le_of_ble_eq_true rfl) dX3_isBearing_57 ⟨Nat.zero_le _, Nat.zero_le _⟩ ?_
              refine sy_cv (rest := []) C hK hN hP (m3_markAt l D cA ad τ ρ π γ (f5_beside τ x1 x5)) (3) 5 rfl rfl kw_292 kw_206 kw_207 kw_24 kw_208 hd_X3_markAt ⟨Nat.le_of_ble_eq_true rfl, Nat.le_of_ble_eq_true rfl⟩ rfl rfl rfl hl.1 rfl (Nat.le_of_ble_eq_true rfl) dX3_isBearing_60 ⟨Nat.zero_le _, Nat.zero_le _⟩ ?_
              refine lv_iload_n hx hb dX3_isBearing_63 rfl (lv_at hl 3 rfl) ?_
              refine lv_icmp_eq (tgt := 70) hx hb dX3_isBearing_64 (by decide) (fun c_5 => ?_) (fun c_5 => ?_)
              · refine lv_iinc (v := x5 + 1) (lv' := [(5, .int (x5 + 1)), (0, .ref (ad 3)), (1, .int x1), (2, .int x2), (3, .int x3), (4, .int x4)]) hx hb dX3_isBearing_70 hl (k := 5) rfl (by rfl) (by decide) rfl (fun ls hl => ?_)
                refine lv_goto (tgt := 36) hx hb dX3_isBearing_73 (by decide) ?_
                have e9 : f3_isBearing_L36 τ π x1 x2 x3 (n + 1) x4 x5 = f3_isBearing_L36 τ π x1 x2 x3 n x4 (x5 + 1) := by rw [f3_isBearing_L36_s]; (try rw [if_neg c_4]); (try rw [if_pos c_5])
                rw [e9] at kk
                exact ih x4 (x5 + 1) (nm_dec (Int32.not_le.mp c_4) hn)  ls (lv_sub hl [1, 2, 3, 4, 5, 0] rfl) kk
              · refine lv_iinc (v := x4 + 1) (lv' := [(4, .int (x4 + 1)), (0, .ref (ad 3)), (1, .int x1), (2, .int x2), (3, .int x3), (5, .int x5)]) hx hb dX3_isBearing_67 hl (k := 4) rfl (by rfl) (by decide) rfl (fun ls hl => ?_)
                refine lv_iinc (v := x5 + 1) (lv' := [(5, .int (x5 + 1)), (4, .int (x4 + 1)), (0, .ref (ad 3)), (1, .int x1), (2, .int x2), (3, .int x3)]) hx hb dX3_isBearing_70 hl (k := 5) rfl (by rfl) (by decide) rfl (fun ls hl => ?_)
                refine lv_goto (tgt := 36) hx hb dX3_isBearing_73 (by decide) ?_
                have e9 : f3_isBearing_L36 τ π x1 x2 x3 (n + 1) x4 x5 = f3_isBearing_L36 τ π x1 x2 x3 n (x4 + 1) (x5 + 1) := by rw [f3_isBearing_L36_s]; (try rw [if_neg c_4]); (try rw [if_neg c_5])
                rw [e9] at kk
                exact ih (x4 + 1) (x5 + 1) (nm_dec (Int32.not_le.mp c_4) hn)  ls (lv_sub hl [2, 3, 4, 5, 1, 0] rfl) kk
        refine hL36 a1 a2 (f3_markAt π a1) 8589934592 0 0 (nm_lt _ _) ls (lv_sub hl [3, 4, 5, 2, 1, 0] rfl) (fun ls hl => ?_)
        refine lv_iload hx hb dX3_isBearing_76 (lv_at hl 4 rfl) ?_
        refine lv_iconst (v := 2) hx hb dX3_isBearing_78 (by decide) ?_
        refine lv_icmp_lt (tgt := 86) hx hb dX3_isBearing_79 (by decide) (fun c_6 => ?_) (fun c_6 => ?_)
        · refine lv_iconst (v := 0) hx hb dX3_isBearing_86 (by decide) ?_
          have e9 : 0 = f3_isBearing τ π a1 a2 := by unfold f3_isBearing; (try rw [if_neg c_1]); (try rw [if_neg c_2]); (try rw [if_pos c_3]); (try rw [if_pos c_6])
          exact sy_retZ hx hb hr hlk rfl e9 dX3_isBearing_87
        · refine lv_iconst (v := 1) hx hb dX3_isBearing_82 (by decide) ?_
          refine lv_goto (tgt := 87) hx hb dX3_isBearing_83 (by decide) ?_
          have e9 : 1 = f3_isBearing τ π a1 a2 := by unfold f3_isBearing; (try rw [if_neg c_1]); (try rw [if_neg c_2]); (try rw [if_pos c_3]); (try rw [if_neg c_6])
          exact sy_retZ hx hb hr hlk rfl e9 dX3_isBearing_87
      · refine lv_iconst (v := 0) hx hb dX3_isBearing_28 (by decide) ?_
        have e9 : 0 = f3_isBearing τ π a1 a2 := by unfold f3_isBearing; (try rw [if_neg c_1]); (try rw [if_neg c_2]); (try rw [if_neg c_3])
        exact sy_retZ hx hb hr hlk rfl e9 dX3_isBearing_29
/-- X2_many -/
theorem hd_X2_many : yX2_many.cls = yX2_many.cls ∧ yX2_many.cls ≠ "java/lang/invoke/MethodHandle" ∧ yX2_many.cls ≠ "java/lang/invoke/VarHandle" ∧ (parseMethodDescriptor yX2_many.desc).map (fun d => d.parameters.length) = some 0 := by decide +kernel
def f2_many (γ : Sg) (b : Nat) : Int32 := γ.1 b
set_option maxHeartbeats 400000 in
set_option maxRecDepth 100000 in
theorem m2_many (l : Launch) (D : va_G) (cA : ClassId) (ad : Nat → Nat) (τ ρ π γ : Sg) (b : Nat) (hb2 : b < 2) : Met l yX2_many (wM yX2_many cX2_many 1 (some .int)) ({ frames := 0, cells := 0, slots := 0, locals := 0 }) (va_Pc [.ref (ad (5 + b))] (pS D cA ad τ ρ π γ)) (QcRead (f2_many γ b)) 0 0 noA := by
  refine sy_of (by decide) (Nat.le_of_ble_eq_true rfl) ?_
  intro p e s m below meth c ls C hr hlk hK hN hP hl
  obtain ⟨hx, hb, hml, hown, hts⟩ := id C
  have htA : ∀ w ∈ wA, w.before ([.ref (ad (5 + b))] : List Value).toArray s = true := fun w h => hts w (List.mem_cons_of_mem _ h)
  have hl : lv_has ls 1 [(0, .ref (ad (5 + b)))] := hl
  refine lv_aload_n hx hb dX2_many_0 rfl (lv_at hl 0 rfl) ?_
  refine gX2_7 hx hb htA hown hK hP (b := b) hb2 dX2_many_1 ?_
  have e9 : γ.1 b = f2_many γ b := rfl
  exact sy_ret hx hb hr hlk e9 dX2_many_4
/-- X2_hasGrain -/
theorem hd_X2_hasGrain : yX2_hasGrain.cls = yX2_hasGrain.cls ∧ yX2_hasGrain.cls ≠ "java/lang/invoke/MethodHandle" ∧ yX2_hasGrain.cls ≠ "java/lang/invoke/VarHandle" ∧ (parseMethodDescriptor yX2_hasGrain.desc).map (fun d => d.parameters.length) = some 1 := by decide +kernel
def f2_hasGrain (γ : Sg) (b : Nat) (a1 : Int32) : Int32 := (if a1 < 0 then 0 else (if (γ.1 b) ≤ a1 then 0 else (if 64 ≤ a1 then 0 else 1)))
set_option maxHeartbeats 400000 in
set_option maxRecDepth 100000 in
theorem m2_hasGrain (l : Launch) (D : va_G) (cA : ClassId) (ad : Nat → Nat) (τ ρ π γ : Sg) (b : Nat) (hb2 : b < 2) (a1 : Int32) : Met l yX2_hasGrain (wM yX2_hasGrain cX2_hasGrain 2 (some .boolean)) ({ frames := 0, cells := 0, slots := 0, locals := 0 }) (va_Pc [.ref (ad (5 + b)), .int a1] (pS D cA ad τ ρ π γ)) (QcRead (f2_hasGrain γ b a1)) 0 0 noA := by
  refine sy_of (by decide) (Nat.le_of_ble_eq_true rfl) ?_
  intro p e s m below meth c ls C hr hlk hK hN hP hl
  obtain ⟨hx, hb, hml, hown, hts⟩ := id C
  have htA : ∀ w ∈ wA, w.before ([.ref (ad (5 + b)), .int a1] : List Value).toArray s = true := fun w h => hts w (List.mem_cons_of_mem _ h)
  have hl : lv_has ls 2 [(0, .ref (ad (5 + b))), (1, .int a1)] := hl
  refine lv_iload_n hx hb dX2_hasGrain_0 rfl (lv_at hl 1 rfl) ?_
  refine lv_if_lt (tgt := 22) hx hb dX2_hasGrain_1 (by decide) (fun c_1 => ?_) (fun c_1 => ?_)
  · refine lv_iconst (v := 0) hx hb dX2_hasGrain_22 (by decide) ?_
    have e9 : 0 = f2_hasGrain γ b a1 := by unfold f2_hasGrain; (try rw [if_pos c_1])
    exact sy_retZ hx hb hr hlk rfl e9 dX2_hasGrain_23
  · refine lv_iload_n hx hb dX2_hasGrain_4 rfl (lv_at hl 1 rfl) ?_
    refine lv_aload_n hx hb dX2_hasGrain_5 rfl (lv_at hl 0 rfl) ?_
    refine gX2_7 hx hb htA hown hK hP (b := b) hb2 dX2_hasGrain_6 ?_
    refine lv_icmp_ge (tgt := 22) hx hb dX2_hasGrain_9 (by decide) (fun c_2 => ?_) (fun c_2 => ?_)
    · refine lv_iconst (v := 0) hx hb dX2_hasGrain_22 (by decide) ?_
      have e9 : 0 = f2_hasGrain γ b a1 := by unfold f2_hasGrain; (try rw [if_neg c_1]); (try rw [if_pos c_2])
      exact sy_retZ hx hb hr hlk rfl e9 dX2_hasGrain_23
    · refine lv_iload_n hx hb dX2_hasGrain_12 rfl (lv_at hl 1 rfl) ?_
      refine lv_bipush (v := 64) hx hb dX2_hasGrain_13 (by decide) ?_
      refine lv_icmp_ge (tgt := 22) hx hb dX2_hasGrain_15 (by decide) (fun c_3 => ?_) (fun c_3 => ?_)
      · refine lv_iconst (v := 0) hx hb dX2_hasGrain_22 (by decide) ?_
        have e9 : 0 = f2_hasGrain γ b a1 := by unfold f2_hasGrain; (try rw [if_neg c_1]); (try rw [if_neg c_2]); (try rw [if_pos c_3])
        exact sy_retZ hx hb hr hlk rfl e9 dX2_hasGrain_23
      · refine lv_iconst (v := 1) hx hb dX2_hasGrain_18 (by decide) ?_
        refine lv_goto (tgt := 23) hx hb dX2_hasGrain_19 (by decide) ?_
        have e9 : 1 = f2_hasGrain γ b a1 := by unfold f2_hasGrain; (try rw [if_neg c_1]); (try rw [if_neg c_2]); (try rw [if_neg c_3])
        exact sy_retZ hx hb hr hlk rfl e9 dX2_hasGrain_23
theorem vin_hasGrain {γ : Sg} {b : Nat} {a : Int32} (h : ¬ (f2_hasGrain γ b a) = 0) : vp_in a 64 := by
  unfold f2_hasGrain at h
  by_cases h1 : a < 0
  · rw [if_pos h1] at h; exact absurd rfl h
  by_cases h2 : (γ.1 b) ≤ a
  · rw [if_neg h1, if_pos h2] at h; exact absurd rfl h
  by_cases h3 : 64 ≤ a
  · rw [if_neg h1, if_neg h2, if_pos h3] at h; exact absurd rfl h
  exact vin_lt h1 (Int32.not_le.mp h3) (by decide)
/-- X2_firstOf -/
theorem hd_X2_firstOf : yX2_firstOf.cls = yX2_firstOf.cls ∧ yX2_firstOf.cls ≠ "java/lang/invoke/MethodHandle" ∧ yX2_firstOf.cls ≠ "java/lang/invoke/VarHandle" ∧ (parseMethodDescriptor yX2_firstOf.desc).map (fun d => d.parameters.length) = some 1 := by decide +kernel
def f2_firstOf (γ : Sg) (b : Nat) (a1 : Int32) : Int32 := (if (f2_hasGrain γ b a1) = 0 then (-1) else γ.2 (5 * b + 1) a1.toNatClampNeg)
set_option maxHeartbeats 400000 in
set_option maxRecDepth 100000 in
theorem m2_firstOf (l : Launch) (D : va_G) (cA : ClassId) (ad : Nat → Nat) (τ ρ π γ : Sg) (b : Nat) (hb2 : b < 2) (a1 : Int32) : Met l yX2_firstOf (wM yX2_firstOf cX2_firstOf 2 (some .int)) ({ frames := 1, cells := 0, slots := 0, locals := 21 }) (va_Pc [.ref (ad (5 + b)), .int a1] (pS D cA ad τ ρ π γ)) (QcRead (f2_firstOf γ b a1)) 0 0 noA := by
  refine sy_of (by decide) (Nat.le_of_ble_eq_true rfl) ?_
  intro p e s m below meth c ls C hr hlk hK hN hP hl
  obtain ⟨hx, hb, hml, hown, hts⟩ := id C
  have htA : ∀ w ∈ wA, w.before ([.ref (ad (5 + b)), .int a1] : List Value).toArray s = true := fun w h => hts w (List.mem_cons_of_mem _ h)
  have hl : lv_has ls 2 [(0, .ref (ad (5 + b))), (1, .int a1)] := hl
  refine lv_aload_n hx hb dX2_firstOf_0 rfl (lv_at hl 0 rfl) ?_
  refine lv_iload_n hx hb dX2_firstOf_1 rfl (lv_at hl 1 rfl) ?_
  refine sy_cv (rest := []) C hK hN hP (m2_hasGrain l D cA ad τ ρ π γ b hb2 a1) (5 + b) 4 (wGo hb2) rfl kw_464 kw_465 kw_466 kw_81 kw_467 hd_X2_hasGrain ⟨Nat.le_of_ble_eq_true rfl, Nat.le_of_ble_eq_true rfl⟩ rfl rfl rfl hl.1 rfl (Nat.le_of_ble_eq_true rfl) dX2_firstOf_2 ⟨Nat.zero_le _, Nat.zero_le _⟩ ?_
  refine lv_if_eq (tgt := 17) hx hb dX2_firstOf_5 (by decide) (fun c_1 => ?_) (fun c_1 => ?_)
  · refine lv_iconst (v := (-1)) hx hb dX2_firstOf_17 (by decide) ?_
    have e9 : (-1) = f2_firstOf γ b a1 := by unfold f2_firstOf; (try rw [if_pos c_1])
    exact sy_ret hx hb hr hlk e9 dX2_firstOf_18
  · refine lv_aload_n hx hb dX2_firstOf_8 rfl (lv_at hl 0 rfl) ?_
    refine gX2_3 hx hb htA hown hK hP (b := b) hb2 dX2_firstOf_9 ?_
    refine lv_iload_n hx hb dX2_firstOf_12 rfl (lv_at hl 1 rfl) ?_
    refine sy_iald hx hb hK hP (14 + 5 * b + 1) (wG_1 hb2) (vin_hasGrain c_1) dX2_firstOf_13 ?_
    refine lv_goto (tgt := 18) hx hb dX2_firstOf_14 (by decide) ?_
    have e9 : γ.2 (5 * b + 1) a1.toNatClampNeg = f2_firstOf γ b a1 := by unfold f2_firstOf; (try rw [if_neg c_1])
    exact sy_ret hx hb hr hlk e9 dX2_firstOf_18
/-- X2_sizeOf -/
theorem hd_X2_sizeOf : yX2_sizeOf.cls = yX2_sizeOf.cls ∧ yX2_sizeOf.cls ≠ "java/lang/invoke/MethodHandle" ∧ yX2_sizeOf.cls ≠ "java/lang/invoke/VarHandle" ∧ (parseMethodDescriptor yX2_sizeOf.desc).map (fun d => d.parameters.length) = some 1 := by decide +kernel
def f2_sizeOf (γ : Sg) (b : Nat) (a1 : Int32) : Int32 := (if (f2_hasGrain γ b a1) = 0 then 0 else γ.2 (5 * b + 2) a1.toNatClampNeg)
set_option maxHeartbeats 400000 in
set_option maxRecDepth 100000 in
theorem m2_sizeOf (l : Launch) (D : va_G) (cA : ClassId) (ad : Nat → Nat) (τ ρ π γ : Sg) (b : Nat) (hb2 : b < 2) (a1 : Int32) : Met l yX2_sizeOf (wM yX2_sizeOf cX2_sizeOf 2 (some .int)) ({ frames := 1, cells := 0, slots := 0, locals := 21 }) (va_Pc [.ref (ad (5 + b)), .int a1] (pS D cA ad τ ρ π γ)) (QcRead (f2_sizeOf γ b a1)) 0 0 noA := by
  refine sy_of (by decide) (Nat.le_of_ble_eq_true rfl) ?_
  intro p e s m below meth c ls C hr hlk hK hN hP hl
  obtain ⟨hx, hb, hml, hown, hts⟩ := id C
  have htA : ∀ w ∈ wA, w.before ([.ref (ad (5 + b)), .int a1] : List Value).toArray s = true := fun w h => hts w (List.mem_cons_of_mem _ h)
  have hl : lv_has ls 2 [(0, .ref (ad (5 + b))), (1, .int a1)] := hl
  refine lv_aload_n hx hb dX2_sizeOf_0 rfl (lv_at hl 0 rfl) ?_
  refine lv_iload_n hx hb dX2_sizeOf_1 rfl (lv_at hl 1 rfl) ?_
  refine sy_cv (rest := []) C hK hN hP (m2_hasGrain l D cA ad τ ρ π γ b hb2 a1) (5 + b) 4 (wGo hb2) rfl kw_464 kw_465 kw_466 kw_81 kw_467 hd_X2_hasGrain ⟨Nat.le_of_ble_eq_true rfl, Nat.le_of_ble_eq_true rfl⟩ rfl rfl rfl hl.1 rfl (Nat.le_of_ble_eq_true rfl) dX2_sizeOf_2 ⟨Nat.zero_le _, Nat.zero_le _⟩ ?_
  refine lv_if_eq (tgt := 17) hx hb dX2_sizeOf_5 (by decide) (fun c_1 => ?_) (fun c_1 => ?_)
  · refine lv_iconst (v := 0) hx hb dX2_sizeOf_17 (by decide) ?_
    have e9 : 0 = f2_sizeOf γ b a1 := by unfold f2_sizeOf; (try rw [if_pos c_1])
    exact sy_ret hx hb hr hlk e9 dX2_sizeOf_18
  · refine lv_aload_n hx hb dX2_sizeOf_8 rfl (lv_at hl 0 rfl) ?_
    refine gX2_4 hx hb htA hown hK hP (b := b) hb2 dX2_sizeOf_9 ?_
    refine lv_iload_n hx hb dX2_sizeOf_12 rfl (lv_at hl 1 rfl) ?_
    refine sy_iald hx hb hK hP (14 + 5 * b + 2) (wG_2 hb2) (vin_hasGrain c_1) dX2_sizeOf_13 ?_
    refine lv_goto (tgt := 18) hx hb dX2_sizeOf_14 (by decide) ?_
    have e9 : γ.2 (5 * b + 2) a1.toNatClampNeg = f2_sizeOf γ b a1 := by unfold f2_sizeOf; (try rw [if_neg c_1])
    exact sy_ret hx hb hr hlk e9 dX2_sizeOf_18
/-- X2_leastMarkOf -/
theorem hd_X2_leastMarkOf : yX2_leastMarkOf.cls = yX2_leastMarkOf.cls ∧ yX2_leastMarkOf.cls ≠ "java/lang/invoke/MethodHandle" ∧ yX2_leastMarkOf.cls ≠ "java/lang/invoke/VarHandle" ∧ (parseMethodDescriptor yX2_leastMarkOf.desc).map (fun d => d.parameters.length) = some 1 := by decide +kernel
def f2_leastMarkOf (γ : Sg) (b : Nat) (a1 : Int32) : Int32 := (if (f2_hasGrain γ b a1) = 0 then 0 else γ.2 (5 * b + 3) a1.toNatClampNeg)
set_option maxHeartbeats 400000 in
set_option maxRecDepth 100000 in
theorem m2_leastMarkOf (l : Launch) (D : va_G) (cA : ClassId) (ad : Nat → Nat) (τ ρ π γ : Sg) (b : Nat) (hb2 : b < 2) (a1 : Int32) : Met l yX2_leastMarkOf (wM yX2_leastMarkOf cX2_leastMarkOf 2 (some .int)) ({ frames := 1, cells := 0, slots := 0, locals := 21 }) (va_Pc [.ref (ad (5 + b)), .int a1] (pS D cA ad τ ρ π γ)) (QcRead (f2_leastMarkOf γ b a1)) 0 0 noA := by
  refine sy_of (by decide) (Nat.le_of_ble_eq_true rfl) ?_
  intro p e s m below meth c ls C hr hlk hK hN hP hl
  obtain ⟨hx, hb, hml, hown, hts⟩ := id C
  have htA : ∀ w ∈ wA, w.before ([.ref (ad (5 + b)), .int a1] : List Value).toArray s = true := fun w h => hts w (List.mem_cons_of_mem _ h)
  have hl : lv_has ls 2 [(0, .ref (ad (5 + b))), (1, .int a1)] := hl
  refine lv_aload_n hx hb dX2_leastMarkOf_0 rfl (lv_at hl 0 rfl) ?_
  refine lv_iload_n hx hb dX2_leastMarkOf_1 rfl (lv_at hl 1 rfl) ?_
  refine sy_cv (rest := []) C hK hN hP (m2_hasGrain l D cA ad τ ρ π γ b hb2 a1) (5 + b) 4 (wGo hb2) rfl kw_464 kw_465 kw_466 kw_81 kw_467 hd_X2_hasGrain ⟨Nat.le_of_ble_eq_true rfl, Nat.le_of_ble_eq_true rfl⟩ rfl rfl rfl hl.1 rfl (Nat.le_of_ble_eq_true rfl) dX2_leastMarkOf_2 ⟨Nat.zero_le _, Nat.zero_le _⟩ ?_
  refine lv_if_eq (tgt := 17) hx hb dX2_leastMarkOf_5 (by decide) (fun c_1 => ?_) (fun c_1 => ?_)
  · refine lv_iconst (v := 0) hx hb dX2_leastMarkOf_17 (by decide) ?_
    have e9 : 0 = f2_leastMarkOf γ b a1 := by unfold f2_leastMarkOf; (try rw [if_pos c_1])
    exact sy_ret hx hb hr hlk e9 dX2_leastMarkOf_18
  · refine lv_aload_n hx hb dX2_leastMarkOf_8 rfl (lv_at hl 0 rfl) ?_
    refine gX2_5 hx hb htA hown hK hP (b := b) hb2 dX2_leastMarkOf_9 ?_
    refine lv_iload_n hx hb dX2_leastMarkOf_12 rfl (lv_at hl 1 rfl) ?_
    refine sy_iald hx hb hK hP (14 + 5 * b + 3) (wG_3 hb2) (vin_hasGrain c_1) dX2_leastMarkOf_13 ?_
    refine lv_goto (tgt := 18) hx hb dX2_leastMarkOf_14 (by decide) ?_
    have e9 : γ.2 (5 * b + 3) a1.toNatClampNeg = f2_leastMarkOf γ b a1 := by unfold f2_leastMarkOf; (try rw [if_neg c_1])
    exact sy_ret hx hb hr hlk e9 dX2_leastMarkOf_18
/-- X2_at -/
theorem hd_X2_at : yX2_at.cls = yX2_at.cls ∧ yX2_at.cls ≠ "java/lang/invoke/MethodHandle" ∧ yX2_at.cls ≠ "java/lang/invoke/VarHandle" ∧ (parseMethodDescriptor yX2_at.desc).map (fun d => d.parameters.length) = some 1 := by decide +kernel
def f2_at (τ : Sg) (γ : Sg) (b : Nat) (a1 : Int32) : Int32 := (if (f5_holds τ a1) = 0 then (-1) else γ.2 (5 * b + 0) a1.toNatClampNeg)
set_option maxHeartbeats 400000 in
set_option maxRecDepth 100000 in
theorem m2_at (l : Launch) (D : va_G) (cA : ClassId) (ad : Nat → Nat) (τ ρ π γ : Sg) (hT : Ok τ) (b : Nat) (hb2 : b < 2) (a1 : Int32) : Met l yX2_at (wM yX2_at cX2_at 2 (some .int)) ({ frames := 1, cells := 0, slots := 0, locals := 21 }) (va_Pc [.ref (ad (5 + b)), .int a1] (pS D cA ad τ ρ π γ)) (QcRead (f2_at τ γ b a1)) 0 0 noA := by
  refine sy_of (by decide) (Nat.le_of_ble_eq_true rfl) ?_
  intro p e s m below meth c ls C hr hlk hK hN hP hl
  obtain ⟨hx, hb, hml, hown, hts⟩ := id C
  have htA : ∀ w ∈ wA, w.before ([.ref (ad (5 + b)), .int a1] : List Value).toArray s = true := fun w h => hts w (List.mem_cons_of_mem _ h)
  have hl : lv_has ls 2 [(0, .ref (ad (5 + b))), (1, .int a1)] := hl
  refine lv_aload_n hx hb dX2_at_0 rfl (lv_at hl 0 rfl) ?_
  refine gX2_0 hx hb htA hown hK hP (b := b) hb2 dX2_at_1 ?_
  refine lv_iload_n hx hb dX2_at_4 rfl (lv_at hl 1 rfl) ?_
  refine sy_cv (rest := []) C hK hN hP (m5_holds l D cA ad τ ρ π γ a1) (1) 7 rfl rfl kw_213 kw_175 kw_176 kw_16 kw_177 hd_X5_holds ⟨Nat.le_of_ble_eq_true rfl, Nat.le_of_ble_eq_true rfl⟩ rfl rfl rfl hl.1 rfl (Nat.le_of_ble_eq_true rfl) dX2_at_5 ⟨Nat.zero_le _, Nat.zero_le _⟩ ?_
  refine lv_if_eq (tgt := 20) hx hb dX2_at_8 (by decide) (fun c_1 => ?_) (fun c_1 => ?_)
  · refine lv_iconst (v := (-1)) hx hb dX2_at_20 (by decide) ?_
    have e9 : (-1) = f2_at τ γ b a1 := by unfold f2_at; (try rw [if_pos c_1])
    exact sy_ret hx hb hr hlk e9 dX2_at_21
  · refine lv_aload_n hx hb dX2_at_11 rfl (lv_at hl 0 rfl) ?_
    refine gX2_2 hx hb htA hown hK hP (b := b) hb2 dX2_at_12 ?_
    refine lv_iload_n hx hb dX2_at_15 rfl (lv_at hl 1 rfl) ?_
    refine sy_iald hx hb hK hP (14 + 5 * b + 0) (wG_0 hb2) (vin_holds hT c_1) dX2_at_16 ?_
    refine lv_goto (tgt := 21) hx hb dX2_at_17 (by decide) ?_
    have e9 : γ.2 (5 * b + 0) a1.toNatClampNeg = f2_at τ γ b a1 := by unfold f2_at; (try rw [if_neg c_1])
    exact sy_ret hx hb hr hlk e9 dX2_at_21
/-- X2_isNew -/
theorem hd_X2_isNew : yX2_isNew.cls = yX2_isNew.cls ∧ yX2_isNew.cls ≠ "java/lang/invoke/MethodHandle" ∧ yX2_isNew.cls ≠ "java/lang/invoke/VarHandle" ∧ (parseMethodDescriptor yX2_isNew.desc).map (fun d => d.parameters.length) = some 2 := by decide +kernel
def f2_isNew (τ : Sg) (π : Sg) (γ : Sg) (b : Nat) (a2 : Int32) : Int32 := (if (f5_holds τ a2) = 0 then 0 else (if (γ.2 (5 * b + 0) a2.toNatClampNeg) = (-1) then (if (f3_markAt π a2) = 0 then 0 else 1) else 0))
set_option maxHeartbeats 400000 in
set_option maxRecDepth 100000 in
theorem m2_isNew (l : Launch) (D : va_G) (cA : ClassId) (ad : Nat → Nat) (τ ρ π γ : Sg) (hT : Ok τ) (b : Nat) (hb2 : b < 2) (a2 : Int32) : Met l yX2_isNew (wM yX2_isNew cX2_isNew 3 (some .boolean)) ({ frames := 1, cells := 0, slots := 0, locals := 21 }) (va_Pc [.ref (ad (5 + b)), .ref (ad 3), .int a2] (pS D cA ad τ ρ π γ)) (QcRead (f2_isNew τ π γ b a2)) 0 0 noA := by
  refine sy_of (by decide) (Nat.le_of_ble_eq_true rfl) ?_
  intro p e s m below meth c ls C hr hlk hK hN hP hl
  obtain ⟨hx, hb, hml, hown, hts⟩ := id C
  have htA : ∀ w ∈ wA, w.before ([.ref (ad (5 + b)), .ref (ad 3), .int a2] : List Value).toArray s = true := fun w h => hts w (List.mem_cons_of_mem _ h)
  have hl : lv_has ls 3 [(0, .ref (ad (5 + b))), (1, .ref (ad 3)), (2, .int a2)] := hl
  refine lv_aload_n hx hb dX2_isNew_0 rfl (lv_at hl 0 rfl) ?_
  refine gX2_0 hx hb htA hown hK hP (b := b) hb2 dX2_isNew_1 ?_
  refine lv_iload_n hx hb dX2_isNew_4 rfl (lv_at hl 2 rfl) ?_
  refine sy_cv (rest := []) C hK hN hP (m5_holds l D cA ad τ ρ π γ a2) (1) 7 rfl rfl kw_213 kw_175 kw_176 kw_16 kw_177 hd_X5_holds ⟨Nat.le_of_ble_eq_true rfl, Nat.le_of_ble_eq_true rfl⟩ rfl rfl rfl hl.1 rfl (Nat.le_of_ble_eq_true rfl) dX2_isNew_5 ⟨Nat.zero_le _, Nat.zero_le _⟩ ?_
  refine lv_if_eq (tgt := 33) hx hb dX2_isNew_8 (by decide) (fun c_1 => ?_) (fun c_1 => ?_)
  · refine lv_iconst (v := 0) hx hb dX2_isNew_33 (by decide) ?_
    have e9 : 0 = f2_isNew τ π γ b a2 := by unfold f2_isNew; (try rw [if_pos c_1])
    exact sy_retZ hx hb hr hlk rfl e9 dX2_isNew_34
  · refine lv_aload_n hx hb dX2_isNew_11 rfl (lv_at hl 0 rfl) ?_
    refine gX2_2 hx hb htA hown hK hP (b := b) hb2 dX2_isNew_12 ?_
    refine lv_iload_n hx hb dX2_isNew_15 rfl (lv_at hl 2 rfl) ?_
    refine sy_iald hx hb hK hP (14 + 5 * b + 0) (wG_0 hb2) (vin_holds hT c_1) dX2_isNew_16 ?_
    refine lv_iconst (v := (-1)) hx hb dX2_isNew_17 (by decide) ?_
    refine lv_icmp_ne (tgt := 33) hx hb dX2_isNew_18 (by decide) (fun c_2 => ?_) (fun c_2 => ?_)
    · refine lv_iconst (v := 0) hx hb dX2_isNew_33 (by decide) ?_
      have e9 : 0 = f2_isNew τ π γ b a2 := by unfold f2_isNew; (try rw [if_neg c_1]); (try rw [if_neg c_2])
      exact sy_retZ hx hb hr hlk rfl e9 dX2_isNew_34
    · refine lv_aload_n hx hb dX2_isNew_21 rfl (lv_at hl 1 rfl) ?_
      refine lv_iload_n hx hb dX2_isNew_22 rfl (lv_at hl 2 rfl) ?_
      refine sy_cv (rest := []) C hK hN hP (m3_markAt l D cA ad τ ρ π γ a2) (3) 5 rfl rfl kw_205 kw_206 kw_207 kw_24 kw_208 hd_X3_markAt ⟨Nat.le_of_ble_eq_true rfl, Nat.le_of_ble_eq_true rfl⟩ rfl rfl rfl hl.1 rfl (Nat.le_of_ble_eq_true rfl) dX2_isNew_23 ⟨Nat.zero_le _, Nat.zero_le _⟩ ?_
      refine lv_if_eq (tgt := 33) hx hb dX2_isNew_26 (by decide) (fun c_3 => ?_) (fun c_3 => ?_)
      · refine lv_iconst (v := 0) hx hb dX2_isNew_33 (by decide) ?_
        have e9 : 0 = f2_isNew τ π γ b a2 := by unfold f2_isNew; (try rw [if_neg c_1]); (try rw [if_pos c_2]); (try rw [if_pos c_3])
        exact sy_retZ hx hb hr hlk rfl e9 dX2_isNew_34
      · refine lv_iconst (v := 1) hx hb dX2_isNew_29 (by decide) ?_
        refine lv_goto (tgt := 34) hx hb dX2_isNew_30 (by decide) ?_
        have e9 : 1 = f2_isNew τ π γ b a2 := by unfold f2_isNew; (try rw [if_neg c_1]); (try rw [if_pos c_2]); (try rw [if_neg c_3])
        exact sy_retZ hx hb hr hlk rfl e9 dX2_isNew_34
theorem vin_isNew {τ π γ : Sg} {b : Nat} {a : Int32} (hT : Ok τ) (h : ¬ (f2_isNew τ π γ b a) = 0) : vp_in a 64 := by
  unfold f2_isNew at h
  by_cases h1 : (f5_holds τ a) = 0
  · rw [if_pos h1] at h; exact absurd rfl h
  exact vin_holds hT h1
/-- X2_greatestSize -/
theorem hd_X2_greatestSize : yX2_greatestSize.cls = yX2_greatestSize.cls ∧ yX2_greatestSize.cls ≠ "java/lang/invoke/MethodHandle" ∧ yX2_greatestSize.cls ≠ "java/lang/invoke/VarHandle" ∧ (parseMethodDescriptor yX2_greatestSize.desc).map (fun d => d.parameters.length) = some 0 := by decide +kernel
def f2_greatestSize_L4 (γ : Sg) (b : Nat) : Nat → Int32 → Int32 → Int32 × Int32
  | 0, x1, x2 => (x1, x2)
  | n + 1, x1, x2 => (if (γ.1 b) ≤ x2 then (x1, x2) else (f2_greatestSize_L4 γ b n (if x1 < (f2_sizeOf γ b x2) then (f2_sizeOf γ b x2) else x1) (x2 + 1)))
theorem f2_greatestSize_L4_s (γ : Sg) (b : Nat) (n : Nat) (x1 : Int32) (x2 : Int32) : f2_greatestSize_L4 γ b (n + 1) x1 x2 = (if (γ.1 b) ≤ x2 then (x1, x2) else (f2_greatestSize_L4 γ b n (if x1 < (f2_sizeOf γ b x2) then (f2_sizeOf γ b x2) else x1) (x2 + 1))) := rfl
def f2_greatestSize (γ : Sg) (b : Nat) : Int32 := (f2_greatestSize_L4 γ b 8589934592 0 0).1
set_option maxHeartbeats 400000 in
set_option maxRecDepth 100000 in
theorem m2_greatestSize (l : Launch) (D : va_G) (cA : ClassId) (ad : Nat → Nat) (τ ρ π γ : Sg) (b : Nat) (hb2 : b < 2) : Met l yX2_greatestSize (wM yX2_greatestSize cX2_greatestSize 3 (some .int)) ({ frames := 2, cells := 0, slots := 0, locals := 42 }) (va_Pc [.ref (ad (5 + b))] (pS D cA ad τ ρ π γ)) (QcRead (f2_greatestSize γ b)) 0 0 noA := by
  refine sy_of (by decide) (Nat.le_of_ble_eq_true rfl) ?_
  intro p e s m below meth c ls C hr hlk hK hN hP hl
  obtain ⟨hx, hb, hml, hown, hts⟩ := id C
  have htA : ∀ w ∈ wA, w.before ([.ref (ad (5 + b))] : List Value).toArray s = true := fun w h => hts w (List.mem_cons_of_mem _ h)
  have hl : lv_has ls 3 [(0, .ref (ad (5 + b)))] := hl
  refine lv_iconst (v := 0) hx hb dX2_greatestSize_0 (by decide) ?_
  refine lv_istore_n (lv' := [(1, .int 0), (0, .ref (ad (5 + b)))]) hx hb dX2_greatestSize_1 rfl hl (by decide) rfl (fun ls hl => ?_)
  refine lv_iconst (v := 0) hx hb dX2_greatestSize_2 (by decide) ?_
  refine lv_istore_n (lv' := [(2, .int 0), (1, .int 0), (0, .ref (ad (5 + b)))]) hx hb dX2_greatestSize_3 rfl hl (by decide) rfl (fun ls hl => ?_)
  have hL4 : ∀ (n : Nat) (x1 : Int32) (x2 : Int32), nm x2 (γ.1 b) < n → ∀ ls : Array Slot, lv_has ls 3 [(0, .ref (ad (5 + b))), (1, .int x1), (2, .int x2)] → (∀ ls : Array Slot, lv_has ls 3 [(0, .ref (ad (5 + b))), (1, .int ((f2_greatestSize_L4 γ b n x1 x2).1)), (2, .int ((f2_greatestSize_L4 γ b n x1 x2).2))] → W p l e ({ frames := 2, cells := 0, slots := 0, locals := 42 }) s m ([.ref (ad (5 + b))] : List Value).toArray below meth c s.heap [] 0 0 (MQ below (QcRead (f2_greatestSize γ b)) ([.ref (ad (5 + b))] : List Value).toArray s 0 0 noA) (F0 m 28 ls [])) → W p l e ({ frames := 2, cells := 0, slots := 0, locals := 42 }) s m ([.ref (ad (5 + b))] : List Value).toArray below meth c s.heap [] 0 0 (MQ below (QcRead (f2_greatestSize γ b)) ([.ref (ad (5 + b))] : List Value).toArray s 0 0 noA) (F0 m 4 ls []) := by
    intro  n
    induction n with
    | zero =>
      intro x1 x2 hn
      exact absurd hn (Nat.not_lt_zero _)
    | succ n ih =>
      intro x1 x2 hn ls hl kk
      refine lv_iload_n hx hb dX2_greatestSize_4 rfl (lv_at hl 2 rfl) ?_
      refine lv_aload_n hx hb dX2_greatestSize_5 rfl (lv_at hl 0 rfl) ?_
      refine gX2_7 hx hb htA hown hK hP (b := b) hb2 dX2_greatestSize_6 ?_
      refine lv_icmp_ge (tgt := 28) hx hb dX2_greatestSize_9 (by decide) (fun c_1 => ?_) (fun c_1 => ?_)
      · have e9 : f2_greatestSize_L4 γ b (n + 1) x1 x2 = (x1, x2) := by rw [f2_greatestSize_L4_s]; (try rw [if_pos c_1])
        rw [e9] at kk
        exact kk ls (lv_sub hl [0, 1, 2] rfl)
      · refine lv_iload_n hx hb dX2_greatestSize_12 rfl (lv_at hl 1 rfl) ?_
        refine lv_aload_n hx hb dX2_greatestSize_13 rfl (lv_at hl 0 rfl) ?_
        refine lv_iload_n hx hb dX2_greatestSize_14 rfl (lv_at hl 2 rfl) ?_
        refine sy_cv (rest := [.int x1]) C hK hN hP (m2_sizeOf l D cA ad τ ρ π γ b hb2 x2) (5 + b) 4 (wGo hb2) rfl kw_460 kw_461 kw_462 kw_81 kw_463 hd_X2_sizeOf ⟨Nat.le_of_ble_eq_true rfl, Nat.le_of_ble_eq_true rfl⟩ rfl rfl rfl hl.1 rfl (Nat.le_of_ble_eq_true rfl) dX2_greatestSize_15 ⟨Nat.zero_le _, Nat.zero_le _⟩ ?_
        refine va_mmax hx hb (hml.trans hl.1.symm) hown (htA _ kw_457) (htA _ kw_458) (htA _ kw_162) (htA _ kw_459) (Nat.le_of_ble_eq_true rfl) (Nat.le_of_ble_eq_true rfl) (Nat.zero_le _) (Nat.zero_le _) dX2_greatestSize_18 ?_
        refine lv_istore_n (lv' := [(1, .int (if x1 < (f2_sizeOf γ b x2) then (f2_sizeOf γ b x2) else x1)), (0, .ref (ad (5 + b))), (2, .int x2)]) hx hb dX2_greatestSize_21 rfl hl (by decide) rfl (fun ls hl => ?_)
        refine lv_iinc (v := x2 + 1) (lv' := [(2, .int (x2 + 1)), (1, .int (if x1 < (f2_sizeOf γ b x2) then (f2_sizeOf γ b x2) else x1)), (0, .ref (ad (5 + b)))]) hx hb dX2_greatestSize_22 hl (k := 2) rfl (by rfl) (by decide) rfl (fun ls hl => ?_)
        refine lv_goto (tgt := 4) hx hb dX2_greatestSize_25 (by decide) ?_
        have e9 : f2_greatestSize_L4 γ b (n + 1) x1 x2 = f2_greatestSize_L4 γ b n (if x1 < (f2_sizeOf γ b x2) then (f2_sizeOf γ b x2) else x1) (x2 + 1) := by rw [f2_greatestSize_L4_s]; (try rw [if_neg c_1])
        rw [e9] at kk
        exact ih (if x1 < (f2_sizeOf γ b x2) then (f2_sizeOf γ b x2) else x1) (x2 + 1) (nm_dec (Int32.not_le.mp c_1) hn)  ls (lv_sub hl [2, 1, 0] rfl) kk
  refine hL4 8589934592 0 0 (nm_lt _ _) ls (lv_sub hl [2, 1, 0] rfl) (fun ls hl => ?_)
  refine lv_iload_n hx hb dX2_greatestSize_28 rfl (lv_at hl 1 rfl) ?_
  have e9 : (f2_greatestSize_L4 γ b 8589934592 0 0).1 = f2_greatestSize γ b := rfl
  exact sy_ret hx hb hr hlk e9 dX2_greatestSize_29
/-- X2_sizeByArea -/
theorem hd_X2_sizeByArea : yX2_sizeByArea.cls = yX2_sizeByArea.cls ∧ yX2_sizeByArea.cls ≠ "java/lang/invoke/MethodHandle" ∧ yX2_sizeByArea.cls ≠ "java/lang/invoke/VarHandle" ∧ (parseMethodDescriptor yX2_sizeByArea.desc).map (fun d => d.parameters.length) = some 1 := by decide +kernel
def f2_sizeByArea (τ : Sg) (π : Sg) (γ : Sg) (b : Nat) : Int32 := (if (γ.1 b) ≤ 0 then 0 else (100 * ((f5_cells τ) - (f3_particles τ π))) / (γ.1 b))
set_option maxHeartbeats 400000 in
set_option maxRecDepth 100000 in
theorem m2_sizeByArea (l : Launch) (D : va_G) (cA : ClassId) (ad : Nat → Nat) (τ ρ π γ : Sg) (b : Nat) (hb2 : b < 2) : Met l yX2_sizeByArea (wM yX2_sizeByArea cX2_sizeByArea 2 (some .int)) ({ frames := 2, cells := 0, slots := 0, locals := 43 }) (va_Pc [.ref (ad (5 + b)), .ref (ad 3)] (pS D cA ad τ ρ π γ)) (QcRead (f2_sizeByArea τ π γ b)) 0 0 noA := by
  refine sy_of (by decide) (Nat.le_of_ble_eq_true rfl) ?_
  intro p e s m below meth c ls C hr hlk hK hN hP hl
  obtain ⟨hx, hb, hml, hown, hts⟩ := id C
  have htA : ∀ w ∈ wA, w.before ([.ref (ad (5 + b)), .ref (ad 3)] : List Value).toArray s = true := fun w h => hts w (List.mem_cons_of_mem _ h)
  have hl : lv_has ls 2 [(0, .ref (ad (5 + b))), (1, .ref (ad 3))] := hl
  refine lv_aload_n hx hb dX2_sizeByArea_0 rfl (lv_at hl 0 rfl) ?_
  refine gX2_7 hx hb htA hown hK hP (b := b) hb2 dX2_sizeByArea_1 ?_
  refine lv_if_le (tgt := 30) hx hb dX2_sizeByArea_4 (by decide) (fun c_1 => ?_) (fun c_1 => ?_)
  · refine lv_iconst (v := 0) hx hb dX2_sizeByArea_30 (by decide) ?_
    have e9 : 0 = f2_sizeByArea τ π γ b := by unfold f2_sizeByArea; (try rw [if_pos c_1])
    exact sy_ret hx hb hr hlk e9 dX2_sizeByArea_31
  · refine lv_bipush (v := 100) hx hb dX2_sizeByArea_7 (by decide) ?_
    refine lv_aload_n hx hb dX2_sizeByArea_9 rfl (lv_at hl 0 rfl) ?_
    refine gX2_0 hx hb htA hown hK hP (b := b) hb2 dX2_sizeByArea_10 ?_
    refine sy_cv (rest := [.int 100]) C hK hN hP (m5_cells l D cA ad τ ρ π γ) (1) 7 rfl rfl kw_204 kw_184 kw_185 kw_16 kw_186 hd_X5_cells ⟨Nat.le_of_ble_eq_true rfl, Nat.le_of_ble_eq_true rfl⟩ rfl rfl rfl hl.1 rfl (Nat.le_of_ble_eq_true rfl) dX2_sizeByArea_13 ⟨Nat.zero_le _, Nat.zero_le _⟩ ?_
    refine lv_aload_n hx hb dX2_sizeByArea_16 rfl (lv_at hl 1 rfl) ?_
    refine sy_cv (rest := [.int (f5_cells τ), .int 100]) C hK hN hP (m3_particles l D cA ad τ ρ π γ) (3) 5 rfl rfl kw_390 kw_317 kw_318 kw_24 kw_319 hd_X3_particles ⟨Nat.le_of_ble_eq_true rfl, Nat.le_of_ble_eq_true rfl⟩ rfl rfl rfl hl.1 rfl (Nat.le_of_ble_eq_true rfl) dX2_sizeByArea_17 ⟨Nat.zero_le _, Nat.zero_le _⟩ ?_
    refine lv_isub hx hb dX2_sizeByArea_20 ?_
    refine lv_imul hx hb dX2_sizeByArea_21 ?_
    refine lv_aload_n hx hb dX2_sizeByArea_22 rfl (lv_at hl 0 rfl) ?_
    refine gX2_7 hx hb htA hown hK hP (b := b) hb2 dX2_sizeByArea_23 ?_
    refine lv_idiv hx hb dX2_sizeByArea_26 (ne_pos (Int32.not_le.mp c_1)) ?_
    refine lv_goto (tgt := 31) hx hb dX2_sizeByArea_27 (by decide) ?_
    have e9 : (100 * ((f5_cells τ) - (f3_particles τ π))) / (γ.1 b) = f2_sizeByArea τ π γ b := by unfold f2_sizeByArea; (try rw [if_neg c_1])
    exact sy_ret hx hb hr hlk e9 dX2_sizeByArea_31

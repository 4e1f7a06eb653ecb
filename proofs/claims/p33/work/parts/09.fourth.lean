/-- X5_addBeside -/
theorem hd_X5_addBeside : yX5_addBeside.cls = yX5_addBeside.cls ∧ yX5_addBeside.cls ≠ "java/lang/invoke/MethodHandle" ∧ yX5_addBeside.cls ≠ "java/lang/invoke/VarHandle" ∧ (parseMethodDescriptor yX5_addBeside.desc).map (fun d => d.parameters.length) = some 2 := by decide +kernel
def f5_addBeside (τ : Sg) (a1 : Int32) (a2 : Int32) : Sg := (if (f5_holds τ a1) = 0 then τ else (if (f5_holds τ a2) = 0 then τ else (if (τ.2 1 a1.toNatClampNeg) < 4 then (sa (sa τ 0 ((a1 * 4) + (τ.2 1 a1.toNatClampNeg)).toNatClampNeg a2) 1 a1.toNatClampNeg (((sa τ 0 ((a1 * 4) + (τ.2 1 a1.toNatClampNeg)).toNatClampNeg a2).2 1 a1.toNatClampNeg) + 1)) else τ)))
set_option maxHeartbeats 400000 in
set_option maxRecDepth 100000 in
theorem m5_addBeside (l : Launch) (D : va_G) (cA : ClassId) (ad : Nat → Nat) (had : Apart ad) (τ ρ π γ : Sg) (hT : Ok τ) (a1 : Int32) (a2 : Int32) : Met l yX5_addBeside (wM yX5_addBeside cX5_addBeside 3 none) ({ frames := 1, cells := 0, slots := 0, locals := 21 }) (va_Pc [.ref (ad 1), .int a1, .int a2] (pS D cA ad τ ρ π γ)) (qV D cA ad (f5_addBeside τ a1 a2) ρ π γ none) 0 0 (aS ad) := by
  refine sy_of (by decide) (Nat.le_of_ble_eq_true rfl) ?_
  intro p e s m below meth c ls C hr hlk hK hN hP hl
  obtain ⟨hx, hb, hml, hown, hts⟩ := id C
  have htA : ∀ w ∈ wA, w.before ([.ref (ad 1), .int a1, .int a2] : List Value).toArray s = true := fun w h => hts w (List.mem_cons_of_mem _ h)
  have hl : lv_has ls 3 [(0, .ref (ad 1)), (1, .int a1), (2, .int a2)] := hl
  have hS : va_S (aS ad) s.heap s.heap [] := va_S.rf
  refine lv_aload_n hx hb dX5_addBeside_0 rfl (lv_at hl 0 rfl) ?_
  refine lv_iload_n hx hb dX5_addBeside_1 rfl (lv_at hl 1 rfl) ?_
  refine sy_cv (rest := []) C hK hN hP (m5_holds l D cA ad τ ρ π γ a1) (1) 7 rfl rfl kw_174 kw_175 kw_176 kw_16 kw_177 hd_X5_holds ⟨Nat.le_of_ble_eq_true rfl, Nat.le_of_ble_eq_true rfl⟩ rfl rfl rfl hl.1 rfl (Nat.le_of_ble_eq_true rfl) dX5_addBeside_2 ⟨Nat.zero_le _, Nat.zero_le _⟩ ?_
  refine lv_if_eq (tgt := 26) hx hb dX5_addBeside_5 (by decide) (fun c_1 => ?_) (fun c_1 => ?_)
  · have e9 : τ = f5_addBeside τ a1 a2 := by unfold f5_addBeside; (try rw [if_pos c_1])
    exact sy_retV hx hb hr hlk hP hS (by rw [← e9]) dX5_addBeside_26
  · refine lv_aload_n hx hb dX5_addBeside_8 rfl (lv_at hl 0 rfl) ?_
    refine lv_iload_n hx hb dX5_addBeside_9 rfl (lv_at hl 2 rfl) ?_
    refine sy_cv (rest := []) C hK hN hP (m5_holds l D cA ad τ ρ π γ a2) (1) 7 rfl rfl kw_174 kw_175 kw_176 kw_16 kw_177 hd_X5_holds ⟨Nat.le_of_ble_eq_true rfl, Nat.le_of_ble_eq_true rfl⟩ rfl rfl rfl hl.1 rfl (Nat.le_of_ble_eq_true rfl) dX5_addBeside_10 ⟨Nat.zero_le _, Nat.zero_le _⟩ ?_
    refine lv_if_eq (tgt := 26) hx hb dX5_addBeside_13 (by decide) (fun c_2 => ?_) (fun c_2 => ?_)
    · have e9 : τ = f5_addBeside τ a1 a2 := by unfold f5_addBeside; (try rw [if_neg c_1]); (try rw [if_pos c_2])
      exact sy_retV hx hb hr hlk hP hS (by rw [← e9]) dX5_addBeside_26
    · refine lv_aload_n hx hb dX5_addBeside_16 rfl (lv_at hl 0 rfl) ?_
      refine gX5_4 hx hb htA hown hK hP dX5_addBeside_17 ?_
      refine lv_iload_n hx hb dX5_addBeside_20 rfl (lv_at hl 1 rfl) ?_
      refine sy_iald hx hb hK hP (8) wAt_8 (vin_holds hT c_1) dX5_addBeside_21 ?_
      refine lv_iconst (v := 4) hx hb dX5_addBeside_22 (by decide) ?_
      refine lv_icmp_lt (tgt := 27) hx hb dX5_addBeside_23 (by decide) (fun c_3 => ?_) (fun c_3 => ?_)
      · refine lv_aload_n hx hb dX5_addBeside_27 rfl (lv_at hl 0 rfl) ?_
        refine gX5_3 hx hb htA hown hK hP dX5_addBeside_28 ?_
        refine lv_iload_n hx hb dX5_addBeside_31 rfl (lv_at hl 1 rfl) ?_
        refine lv_iconst (v := 4) hx hb dX5_addBeside_32 (by decide) ?_
        refine lv_imul hx hb dX5_addBeside_33 ?_
        refine lv_aload_n hx hb dX5_addBeside_34 rfl (lv_at hl 0 rfl) ?_
        refine gX5_4 hx hb htA hown hK hP dX5_addBeside_35 ?_
        refine lv_iload_n hx hb dX5_addBeside_38 rfl (lv_at hl 1 rfl) ?_
        refine sy_iald hx hb hK hP (8) wAt_8 (vin_holds hT c_1) dX5_addBeside_39 ?_
        refine lv_iadd hx hb dX5_addBeside_40 ?_
        refine lv_iload_n hx hb dX5_addBeside_41 rfl (lv_at hl 2 rfl) ?_
        refine sy_iast (τ' := (sa τ 0 ((a1 * 4) + (τ.2 1 a1.toNatClampNeg)).toNatClampNeg a2)) (ρ' := ρ) (π' := π) (γ' := γ) hx hb hK hP had (fun _ h => h) hS (7) wAt_7 wSt_7 (vin_besides2 (vin_bd (vin_holds hT c_1)).1 (vin_bd (vin_holds hT c_1)).2 c_3 hT) dX5_addBeside_42 (fun H locs hP hS => ?_)
        refine lv_aload_n hx hb dX5_addBeside_43 rfl (lv_at hl 0 rfl) ?_
        refine gX5_4 hx hb htA hown hK hP dX5_addBeside_44 ?_
        refine lv_iload_n hx hb dX5_addBeside_47 rfl (lv_at hl 1 rfl) ?_
        refine lv_dup2_11 hx hb dX5_addBeside_48 rfl rfl ?_
        refine sy_iald hx hb hK hP (8) wAt_8 (vin_holds hT c_1) dX5_addBeside_49 ?_
        refine lv_iconst (v := 1) hx hb dX5_addBeside_50 (by decide) ?_
        refine lv_iadd hx hb dX5_addBeside_51 ?_
        refine sy_iast (τ' := (sa (sa τ 0 ((a1 * 4) + (τ.2 1 a1.toNatClampNeg)).toNatClampNeg a2) 1 a1.toNatClampNeg (((sa τ 0 ((a1 * 4) + (τ.2 1 a1.toNatClampNeg)).toNatClampNeg a2).2 1 a1.toNatClampNeg) + 1))) (ρ' := ρ) (π' := π) (γ' := γ) hx hb hK hP had (fun _ h => h) hS (8) wAt_8 wSt_8 (vin_holds hT c_1) dX5_addBeside_52 (fun H locs hP hS => ?_)
        have e9 : (sa (sa τ 0 ((a1 * 4) + (τ.2 1 a1.toNatClampNeg)).toNatClampNeg a2) 1 a1.toNatClampNeg (((sa τ 0 ((a1 * 4) + (τ.2 1 a1.toNatClampNeg)).toNatClampNeg a2).2 1 a1.toNatClampNeg) + 1)) = f5_addBeside τ a1 a2 := by unfold f5_addBeside; (try rw [if_neg c_1]); (try rw [if_neg c_2]); (try rw [if_pos c_3])
        exact sy_retV hx hb hr hlk hP hS (by rw [← e9]) dX5_addBeside_53
      · have e9 : τ = f5_addBeside τ a1 a2 := by unfold f5_addBeside; (try rw [if_neg c_1]); (try rw [if_neg c_2]); (try rw [if_neg c_3])
        exact sy_retV hx hb hr hlk hP hS (by rw [← e9]) dX5_addBeside_26
theorem addBeside_1 {τ : Sg} {a1 a2 : Int32} : (f5_addBeside τ a1 a2).1 = τ.1 := by
  unfold f5_addBeside
  (repeat' split) <;> rfl
theorem Ok_addBeside {τ : Sg} {a1 a2 : Int32} (hT : Ok τ) : Ok (f5_addBeside τ a1 a2) := by
  unfold f5_addBeside
  by_cases h1 : (f5_holds τ a1) = 0
  · rw [if_pos h1]; exact hT
  rw [if_neg h1]
  by_cases h2 : (f5_holds τ a2) = 0
  · rw [if_pos h2]; exact hT
  rw [if_neg h2]
  by_cases h3 : (τ.2 1 a1.toNatClampNeg) < 4
  · rw [if_pos h3]
    exact Ok_inc hT h3 (by have := (vin_bd (vin_holds hT h1)); rw [clamp_toInt]; omega)
  · rw [if_neg h3]; exact hT
/-- X5_layCell -/
theorem hd_X5_layCell : yX5_layCell.cls = yX5_layCell.cls ∧ yX5_layCell.cls ≠ "java/lang/invoke/MethodHandle" ∧ yX5_layCell.cls ≠ "java/lang/invoke/VarHandle" ∧ (parseMethodDescriptor yX5_layCell.desc).map (fun d => d.parameters.length) = some 2 := by decide +kernel
def f5_layCell (τ : Sg) (a1 : Int32) (a2 : Int32) : Sg := (if a1 ≤ 0 then (if ((τ.1 0) - 1) ≤ a2 then (if ((τ.1 1) - 1) ≤ a1 then (if a2 ≤ 0 then τ else (f5_addBeside τ ((a1 * (τ.1 0)) + a2) (((a1 * (τ.1 0)) + a2) - 1))) else (if a2 ≤ 0 then (f5_addBeside τ ((a1 * (τ.1 0)) + a2) (((a1 * (τ.1 0)) + a2) + (τ.1 0))) else (f5_addBeside (f5_addBeside τ ((a1 * (τ.1 0)) + a2) (((a1 * (τ.1 0)) + a2) + (τ.1 0))) ((a1 * (τ.1 0)) + a2) (((a1 * (τ.1 0)) + a2) - 1)))) else (if (((f5_addBeside τ ((a1 * (τ.1 0)) + a2) (((a1 * (τ.1 0)) + a2) + 1)).1 1) - 1) ≤ a1 then (if a2 ≤ 0 then (f5_addBeside τ ((a1 * (τ.1 0)) + a2) (((a1 * (τ.1 0)) + a2) + 1)) else (f5_addBeside (f5_addBeside τ ((a1 * (τ.1 0)) + a2) (((a1 * (τ.1 0)) + a2) + 1)) ((a1 * (τ.1 0)) + a2) (((a1 * (τ.1 0)) + a2) - 1))) else (if a2 ≤ 0 then (f5_addBeside (f5_addBeside τ ((a1 * (τ.1 0)) + a2) (((a1 * (τ.1 0)) + a2) + 1)) ((a1 * (τ.1 0)) + a2) (((a1 * (τ.1 0)) + a2) + ((f5_addBeside τ ((a1 * (τ.1 0)) + a2) (((a1 * (τ.1 0)) + a2) + 1)).1 0))) else (f5_addBeside (f5_addBeside (f5_addBeside τ ((a1 * (τ.1 0)) + a2) (((a1 * (τ.1 0)) + a2) + 1)) ((a1 * (τ.1 0)) + a2) (((a1 * (τ.1 0)) + a2) + ((f5_addBeside τ ((a1 * (τ.1 0)) + a2) (((a1 * (τ.1 0)) + a2) + 1)).1 0))) ((a1 * (τ.1 0)) + a2) (((a1 * (τ.1 0)) + a2) - 1))))) else (if (((f5_addBeside τ ((a1 * (τ.1 0)) + a2) (((a1 * (τ.1 0)) + a2) - (τ.1 0))).1 0) - 1) ≤ a2 then (if (((f5_addBeside τ ((a1 * (τ.1 0)) + a2) (((a1 * (τ.1 0)) + a2) - (τ.1 0))).1 1) - 1) ≤ a1 then (if a2 ≤ 0 then (f5_addBeside τ ((a1 * (τ.1 0)) + a2) (((a1 * (τ.1 0)) + a2) - (τ.1 0))) else (f5_addBeside (f5_addBeside τ ((a1 * (τ.1 0)) + a2) (((a1 * (τ.1 0)) + a2) - (τ.1 0))) ((a1 * (τ.1 0)) + a2) (((a1 * (τ.1 0)) + a2) - 1))) else (if a2 ≤ 0 then (f5_addBeside (f5_addBeside τ ((a1 * (τ.1 0)) + a2) (((a1 * (τ.1 0)) + a2) - (τ.1 0))) ((a1 * (τ.1 0)) + a2) (((a1 * (τ.1 0)) + a2) + ((f5_addBeside τ ((a1 * (τ.1 0)) + a2) (((a1 * (τ.1 0)) + a2) - (τ.1 0))).1 0))) else (f5_addBeside (f5_addBeside (f5_addBeside τ ((a1 * (τ.1 0)) + a2) (((a1 * (τ.1 0)) + a2) - (τ.1 0))) ((a1 * (τ.1 0)) + a2) (((a1 * (τ.1 0)) + a2) + ((f5_addBeside τ ((a1 * (τ.1 0)) + a2) (((a1 * (τ.1 0)) + a2) - (τ.1 0))).1 0))) ((a1 * (τ.1 0)) + a2) (((a1 * (τ.1 0)) + a2) - 1)))) else (if (((f5_addBeside (f5_addBeside τ ((a1 * (τ.1 0)) + a2) (((a1 * (τ.1 0)) + a2) - (τ.1 0))) ((a1 * (τ.1 0)) + a2) (((a1 * (τ.1 0)) + a2) + 1)).1 1) - 1) ≤ a1 then (if a2 ≤ 0 then (f5_addBeside (f5_addBeside τ ((a1 * (τ.1 0)) + a2) (((a1 * (τ.1 0)) + a2) - (τ.1 0))) ((a1 * (τ.1 0)) + a2) (((a1 * (τ.1 0)) + a2) + 1)) else (f5_addBeside (f5_addBeside (f5_addBeside τ ((a1 * (τ.1 0)) + a2) (((a1 * (τ.1 0)) + a2) - (τ.1 0))) ((a1 * (τ.1 0)) + a2) (((a1 * (τ.1 0)) + a2) + 1)) ((a1 * (τ.1 0)) + a2) (((a1 * (τ.1 0)) + a2) - 1))) else (if a2 ≤ 0 then (f5_addBeside (f5_addBeside (f5_addBeside τ ((a1 * (τ.1 0)) + a2) (((a1 * (τ.1 0)) + a2) - (τ.1 0))) ((a1 * (τ.1 0)) + a2) (((a1 * (τ.1 0)) + a2) + 1)) ((a1 * (τ.1 0)) + a2) (((a1 * (τ.1 0)) + a2) + ((f5_addBeside (f5_addBeside τ ((a1 * (τ.1 0)) + a2) (((a1 * (τ.1 0)) + a2) - (τ.1 0))) ((a1 * (τ.1 0)) + a2) (((a1 * (τ.1 0)) + a2) + 1)).1 0))) else (f5_addBeside (f5_addBeside (f5_addBeside (f5_addBeside τ ((a1 * (τ.1 0)) + a2) (((a1 * (τ.1 0)) + a2) - (τ.1 0))) ((a1 * (τ.1 0)) + a2) (((a1 * (τ.1 0)) + a2) + 1)) ((a1 * (τ.1 0)) + a2) (((a1 * (τ.1 0)) + a2) + ((f5_addBeside (f5_addBeside τ ((a1 * (τ.1 0)) + a2) (((a1 * (τ.1 0)) + a2) - (τ.1 0))) ((a1 * (τ.1 0)) + a2) (((a1 * (τ.1 0)) + a2) + 1)).1 0))) ((a1 * (τ.1 0)) + a2) (((a1 * (τ.1 0)) + a2) - 1))))))
set_option maxHeartbeats 400000 in
set_option maxRecDepth 100000 in
theorem m5_layCell (l : Launch) (D : va_G) (cA : ClassId) (ad : Nat → Nat) (had : Apart ad) (τ ρ π γ : Sg) (hT : Ok τ) (a1 : Int32) (a2 : Int32) : Met l yX5_layCell (wM yX5_layCell cX5_layCell 4 none) ({ frames := 2, cells := 0, slots := 0, locals := 43 }) (va_Pc [.ref (ad 1), .int a1, .int a2] (pS D cA ad τ ρ π γ)) (qV D cA ad (f5_layCell τ a1 a2) ρ π γ none) 0 0 (aS ad) := by
  refine sy_of (by decide) (Nat.le_of_ble_eq_true rfl) ?_
  intro p e s m below meth c ls C hr hlk hK hN hP hl
  obtain ⟨hx, hb, hml, hown, hts⟩ := id C
  have htA : ∀ w ∈ wA, w.before ([.ref (ad 1), .int a1, .int a2] : List Value).toArray s = true := fun w h => hts w (List.mem_cons_of_mem _ h)
  have hl : lv_has ls 4 [(0, .ref (ad 1)), (1, .int a1), (2, .int a2)] := hl
  have hS : va_S (aS ad) s.heap s.heap [] := va_S.rf
  refine lv_iload_n hx hb dX5_layCell_0 rfl (lv_at hl 1 rfl) ?_
  refine lv_aload_n hx hb dX5_layCell_1 rfl (lv_at hl 0 rfl) ?_
  refine gX5_0 hx hb htA hown hK hP dX5_layCell_2 ?_
  refine lv_imul hx hb dX5_layCell_5 ?_
  refine lv_iload_n hx hb dX5_layCell_6 rfl (lv_at hl 2 rfl) ?_
  refine lv_iadd hx hb dX5_layCell_7 ?_
  refine lv_istore_n (lv' := [(3, .int ((a1 * (τ.1 0)) + a2)), (0, .ref (ad 1)), (1, .int a1), (2, .int a2)]) hx hb dX5_layCell_8 rfl hl (by decide) rfl (fun ls hl => ?_)
  refine lv_iload_n hx hb dX5_layCell_9 rfl (lv_at hl 2 rfl) ?_
  refine lv_if_le (tgt := 24) hx hb dX5_layCell_10 (by decide) (fun c_1 => ?_) (fun c_1 => ?_)
  · refine lv_iload_n hx hb dX5_layCell_24 rfl (lv_at hl 3 rfl) ?_
    refine lv_aload_n hx hb dX5_layCell_25 rfl (lv_at hl 1 rfl) ?_
    refine gX5_0 hx hb htA hown hK hP dX5_layCell_26 ?_
    refine lv_iconst (v := 1) hx hb dX5_layCell_29 (by decide) ?_
    refine lv_isub hx hb dX5_layCell_30 ?_
    refine lv_icmp_ge (tgt := 42) hx hb dX5_layCell_31 (by decide) (fun c_2 => ?_) (fun c_2 => ?_)
    · refine lv_iload_n hx hb dX5_layCell_42 rfl (lv_at hl 2 rfl) ?_
      refine lv_aload_n hx hb dX5_layCell_43 rfl (lv_at hl 1 rfl) ?_
      refine gX5_1 hx hb htA hown hK hP dX5_layCell_44 ?_
      refine lv_iconst (v := 1) hx hb dX5_layCell_47 (by decide) ?_
      refine lv_isub hx hb dX5_layCell_48 ?_
      refine lv_icmp_ge (tgt := 63) hx hb dX5_layCell_49 (by decide) (fun c_3 => ?_) (fun c_3 => ?_)
      · refine lv_iload_n hx hb dX5_layCell_63 rfl (lv_at hl 3 rfl) ?_
        refine lv_if_le (tgt := 75) hx hb dX5_layCell_64 (by decide) (fun c_4 => ?_) (fun c_4 => ?_)
        · have e9 : τ = f5_layCell τ a1 a2 := by unfold f5_layCell; (try rw [if_pos c_1]); (try rw [if_pos c_2]); (try rw [if_pos c_3]); (try rw [if_pos c_4])
          exact sy_retV hx hb hr hlk hP hS (by rw [← e9]) dX5_layCell_75
        · refine lv_aload_n hx hb dX5_layCell_67 rfl (lv_at hl 1 rfl) ?_
          refine lv_iload_n hx hb dX5_layCell_68 rfl (lv_at hl 0 rfl) ?_
          refine lv_iload_n hx hb dX5_layCell_69 rfl (lv_at hl 0 rfl) ?_
          refine lv_iconst (v := 1) hx hb dX5_layCell_70 (by decide) ?_
          refine lv_isub hx hb dX5_layCell_71 ?_
          refine sy_cvM (rest := []) (st1 := []) C hK hN hP (fun _ h => h) hS (m5_addBeside l D cA ad had τ ρ π γ hT ((a1 * (τ.1 0)) + a2) (((a1 * (τ.1 0)) + a2) - 1)) (1) 7 rfl rfl kw_170 kw_171 kw_172 kw_16 kw_173 hd_X5_addBeside ⟨Nat.le_of_ble_eq_true rfl, Nat.le_of_ble_eq_true rfl⟩ rfl rfl rfl hl.1 rfl (Nat.le_of_ble_eq_true rfl) dX5_layCell_72 ⟨Nat.zero_le _, Nat.zero_le _⟩ rfl (fun H locs hP hS => ?_)
          have e9 : (f5_addBeside τ ((a1 * (τ.1 0)) + a2) (((a1 * (τ.1 0)) + a2) - 1)) = f5_layCell τ a1 a2 := by unfold f5_layCell; (try rw [if_pos c_1]); (try rw [if_pos c_2]); (try rw [if_pos c_3]); (try rw [if_neg c_4])
          exact sy_retV hx hb hr hlk hP hS (by rw [← e9]) dX5_layCell_75
      · refine lv_aload_n hx hb dX5_layCell_52 rfl (lv_at hl 1 rfl) ?_
        refine lv_iload_n hx hb dX5_layCell_53 rfl (lv_at hl 0 rfl) ?_
        refine lv_iload_n hx hb dX5_layCell_54 rfl (lv_at hl 0 rfl) ?_
        refine lv_aload_n hx hb dX5_layCell_55 rfl (lv_at hl 1 rfl) ?_
        refine gX5_0 hx hb htA hown hK hP dX5_layCell_56 ?_
        refine lv_iadd hx hb dX5_layCell_59 ?_
        refine sy_cvM (rest := []) (st1 := []) C hK hN hP (fun _ h => h) hS (m5_addBeside l D cA ad had τ ρ π γ hT ((a1 * (τ.1 0)) + a2) (((a1 * (τ.1 0)) + a2) + (τ.1 0))) (1) 7 rfl rfl kw_170 kw_171 kw_172 kw_16 kw_173 hd_X5_addBeside ⟨Nat.le_of_ble_eq_true rfl, Nat.le_of_ble_eq_true rfl⟩ rfl rfl rfl hl.1 rfl (Nat.le_of_ble_eq_true rfl) dX5_layCell_60 ⟨Nat.zero_le _, Nat.zero_le _⟩ rfl (fun H locs hP hS => ?_)
        refine lv_iload_n hx hb dX5_layCell_63 rfl (lv_at hl 3 rfl) ?_
        refine lv_if_le (tgt := 75) hx hb dX5_layCell_64 (by decide) (fun c_5 => ?_) (fun c_5 => ?_)
        · have e9 : (f5_addBeside τ ((a1 * (τ.1 0)) + a2) (((a1 * (τ.1 0)) + a2) + (τ.1 0))) = f5_layCell τ a1 a2 := by unfold f5_layCell; (try rw [if_pos c_1]); (try rw [if_pos c_2]); (try rw [if_neg c_3]); (try rw [if_pos c_5])
          exact sy_retV hx hb hr hlk hP hS (by rw [← e9]) dX5_layCell_75
        · refine lv_aload_n hx hb dX5_layCell_67 rfl (lv_at hl 1 rfl) ?_
          refine lv_iload_n hx hb dX5_layCell_68 rfl (lv_at hl 0 rfl) ?_
          refine lv_iload_n hx hb dX5_layCell_69 rfl (lv_at hl 0 rfl) ?_
          refine lv_iconst (v := 1) hx hb dX5_layCell_70 (by decide) ?_
          refine lv_isub hx hb dX5_layCell_71 ?_
          refine sy_cvM (rest := []) (st1 := []) C hK hN hP (fun _ h => h) hS (m5_addBeside l D cA ad had (f5_addBeside τ ((a1 * (τ.1 0)) + a2) (((a1 * (τ.1 0)) + a2) + (τ.1 0))) ρ π γ (Ok_addBeside hT) ((a1 * (τ.1 0)) + a2) (((a1 * (τ.1 0)) + a2) - 1)) (1) 7 rfl rfl kw_170 kw_171 kw_172 kw_16 kw_173 hd_X5_addBeside ⟨Nat.le_of_ble_eq_true rfl, Nat.le_of_ble_eq_true rfl⟩ rfl rfl rfl hl.1 rfl (Nat.le_of_ble_eq_true rfl) dX5_layCell_72 ⟨Nat.zero_le _, Nat.zero_le _⟩ rfl (fun H locs hP hS => ?_)
          have e9 : (f5_addBeside (f5_addBeside τ ((a1 * (τ.1 0)) + a2) (((a1 * (τ.1 0)) + a2) + (τ.1 0))) ((a1 * (τ.1 0)) + a2) (((a1 * (τ.1 0)) + a2) - 1)) = f5_layCell τ a1 a2 := by unfold f5_layCell; (try rw [if_pos c_1]); (try rw [if_pos c_2]); (try rw [if_neg c_3]); (try rw [if_neg c_5])
          exact sy_retV hx hb hr hlk hP hS (by rw [← e9]) dX5_layCell_75
    · refine lv_aload_n hx hb dX5_layCell_34 rfl (lv_at hl 1 rfl) ?_
      refine lv_iload_n hx hb dX5_layCell_35 rfl (lv_at hl 0 rfl) ?_
      refine lv_iload_n hx hb dX5_layCell_36 rfl (lv_at hl 0 rfl) ?_
      refine lv_iconst (v := 1) hx hb dX5_layCell_37 (by decide) ?_
      refine lv_iadd hx hb dX5_layCell_38 ?_
      refine sy_cvM (rest := []) (st1 := []) C hK hN hP (fun _ h => h) hS (m5_addBeside l D cA ad had τ ρ π γ hT ((a1 * (τ.1 0)) + a2) (((a1 * (τ.1 0)) + a2) + 1)) (1) 7 rfl rfl kw_170 kw_171 kw_172 kw_16 kw_173 hd_X5_addBeside ⟨Nat.le_of_ble_eq_true rfl, Nat.le_of_ble_eq_true rfl⟩ rfl rfl rfl hl.1 rfl (Nat.le_of_ble_eq_true rfl) dX5_layCell_39 ⟨Nat.zero_le _, Nat.zero_le _⟩ rfl (fun H locs hP hS => ?_)
      refine lv_iload_n hx hb dX5_layCell_42 rfl (lv_at hl 2 rfl) ?_
      refine lv_aload_n hx hb dX5_layCell_43 rfl (lv_at hl 1 rfl) ?_
      refine gX5_1 hx hb htA hown hK hP dX5_layCell_44 ?_
      refine lv_iconst (v := 1) hx hb dX5_layCell_47 (by decide) ?_
      refine lv_isub hx hb dX5_layCell_48 ?_
      refine lv_icmp_ge (tgt := 63) hx hb dX5_layCell_49 (by decide) (fun c_6 => ?_) (fun c_6 => ?_)
      · refine lv_iload_n hx hb dX5_layCell_63 rfl (lv_at hl 3 rfl) ?_
        refine lv_if_le (tgt := 75) hx hb dX5_layCell_64 (by decide) (fun c_7 => ?_) (fun c_7 => ?_)
        · have e9 : (f5_addBeside τ ((a1 * (τ.1 0)) + a2) (((a1 * (τ.1 0)) + a2) + 1)) = f5_layCell τ a1 a2 := by unfold f5_layCell; (try rw [if_pos c_1]); (try rw [if_neg c_2]); (try rw [if_pos c_6]); (try rw [if_pos c_7])
          exact sy_retV hx hb hr hlk hP hS (by rw [← e9]) dX5_layCell_75
        · refine lv_aload_n hx hb dX5_layCell_67 rfl (lv_at hl 1 rfl) ?_
          refine lv_iload_n hx hb dX5_layCell_68 rfl (lv_at hl 0 rfl) ?_
          refine lv_iload_n hx hb dX5_layCell_69 rfl (lv_at hl 0 rfl) ?_
          refine lv_iconst (v := 1) hx hb dX5_layCell_70 (by decide) ?_
          refine lv_isub hx hb dX5_layCell_71 ?_
          refine sy_cvM (rest := []) (st1 := []) C hK hN hP (fun _ h => h) hS (m5_addBeside l D cA ad had (f5_addBeside τ ((a1 * (τ.1 0)) + a2) (((a1 * (τ.1 0)) + a2) + 1)) ρ π γ (Ok_addBeside hT) ((a1 * (τ.1 0)) + a2) (((a1 * (τ.1 0)) + a2) - 1)) (1) 7 rfl rfl kw_170 kw_171 kw_172 kw_16 kw_173 hd_X5_addBeside ⟨Nat.le_of_ble_eq_true rfl, Nat.le_of_ble_eq_true rfl⟩ rfl rfl rfl hl.1 rfl (Nat.le_of_ble_eq_true rfl) dX5_layCell_72 ⟨Nat.zero_le _, Nat.zero_le _⟩ rfl (fun H locs hP hS => ?_)
          have e9 : (f5_addBeside (f5_addBeside τ ((a1 * (τ.1 0)) + a2) (((a1 * (τ.1 0)) + a2) + 1)) ((a1 * (τ.1 0)) + a2) (((a1 * (τ.1 0)) + a2) - 1)) = f5_layCell τ a1 a2 := by unfold f5_layCell; (try rw [if_pos c_1]); (try rw [if_neg c_2]); (try rw [if_pos c_6]); (try rw [if_neg c_7])
          exact sy_retV hx hb hr hlk hP hS (by rw [← e9]) dX5_layCell_75
      · refine lv_aload_n hx hb dX5_layCell_52 rfl (lv_at hl 1 rfl) ?_
        refine lv_iload_n hx hb dX5_layCell_53 rfl (lv_at hl 0 rfl) ?_
        refine lv_iload_n hx hb dX5_layCell_54 rfl (lv_at hl 0 rfl) ?_
        refine lv_aload_n hx hb dX5_layCell_55 rfl (lv_at hl 1 rfl) ?_
        refine gX5_0 hx hb htA hown hK hP dX5_layCell_56 ?_
        refine lv_iadd hx hb dX5_layCell_59 ?_
        refine sy_cvM (rest := []) (st1 := []) C hK hN hP (fun _ h => h) hS (m5_addBeside l D cA ad had (f5_addBeside τ ((a1 * (τ.1 0)) + a2) (((a1 * (τ.1 0)) + a2) + 1)) ρ π γ (Ok_addBeside hT) ((a1 * (τ.1 0)) + a2) (((a1 * (τ.1 0)) + a2) + ((f5_addBeside τ ((a1 * (τ.1 0)) + a2) (((a1 * (τ.1 0)) + a2) + 1)).1 0))) (1) 7 rfl rfl kw_170 kw_171 kw_172 kw_16 kw_173 hd_X5_addBeside ⟨Nat.le_of_ble_eq_true rfl, Nat.le_of_ble_eq_true rfl⟩ rfl rfl rfl hl.1 rfl (Nat.le_of_ble_eq_true rfl) dX5_layCell_60 ⟨Nat.zero_le _, Nat.zero_le _⟩ rfl (fun H locs hP hS => ?_)
        refine lv_iload_n hx hb dX5_layCell_63 rfl (lv_at hl 3 rfl) ?_
        refine lv_if_le (tgt := 75) hx hb dX5_layCell_64 (by decide) (fun c_8 => ?_) (fun c_8 => ?_)
        · have e9 : (f5_addBeside (f5_addBeside τ ((a1 * (τ.1 0)) + a2) (((a1 * (τ.1 0)) + a2) + 1)) ((a1 * (τ.1 0)) + a2) (((a1 * (τ.1 0)) + a2) + ((f5_addBeside τ ((a1 * (τ.1 0)) + a2) (((a1 * (τ.1 0)) + a2) + 1)).1 0))) = f5_layCell τ a1 a2 := by unfold f5_layCell; (try rw [if_pos c_1]); (try rw [if_neg c_2]); (try rw [if_neg c_6]); (try rw [if_pos c_8])
          exact sy_retV hx hb hr hlk hP hS (by rw [← e9]) dX5_layCell_75
        · refine lv_aload_n hx hb dX5_layCell_67 rfl (lv_at hl 1 rfl) ?_
          refine lv_iload_n hx hb dX5_layCell_68 rfl (lv_at hl 0 rfl) ?_
          refine lv_iload_n hx hb dX5_layCell_69 rfl (lv_at hl 0 rfl) ?_
          refine lv_iconst (v := 1) hx hb dX5_layCell_70 (by decide) ?_
          refine lv_isub hx hb dX5_layCell_71 ?_
          refine sy_cvM (rest := []) (st1 := []) C hK hN hP (fun _ h => h) hS (m5_addBeside l D cA ad had (f5_addBeside (f5_addBeside τ ((a1 * (τ.1 0)) + a2) (((a1 * (τ.1 0)) + a2) + 1)) ((a1 * (τ.1 0)) + a2) (((a1 * (τ.1 0)) + a2) + ((f5_addBeside τ ((a1 * (τ.1 0)) + a2) (((a1 * (τ.1 0)) + a2) + 1)).1 0))) ρ π γ (Ok_addBeside (Ok_addBeside hT)) ((a1 * (τ.1 0)) + a2) (((a1 * (τ.1 0)) + a2) - 1)) (1) 7 rfl rfl kw_170 kw_171 kw_172 kw_16 kw_173 hd_X5_addBeside ⟨Nat.le_of_ble_eq_true rfl, Nat.le_of_ble_eq_true rfl⟩ rfl rfl rfl hl.1 rfl (Nat.le_of_ble_eq_true rfl) dX5_layCell_72 ⟨Nat.zero_le _, Nat.zero_le _⟩ rfl (fun H locs hP hS => ?_)
          have e9 : (f5_addBeside (f5_addBeside (f5_addBeside τ ((a1 * (τ.1 0)) + a2) (((a1 * (τ.1 0)) + a2) + 1)) ((a1 * (τ.1 0)) + a2) (((a1 * (τ.1 0)) + a2) + ((f5_addBeside τ ((a1 * (τ.1 0)) + a2) (((a1 * (τ.1 0)) + a2) + 1)).1 0))) ((a1 * (τ.1 0)) + a2) (((a1 * (τ.1 0)) + a2) - 1)) = f5_layCell τ a1 a2 := by unfold f5_layCell; (try rw [if_pos c_1]); (try rw [if_neg c_2]); (try rw [if_neg c_6]); (try rw [if_neg c_8])
          exact sy_retV hx hb hr hlk hP hS (by rw [← e9]) dX5_layCell_75
  · refine lv_aload_n hx hb dX5_layCell_13 rfl (lv_at hl 1 rfl) ?_
    refine lv_iload_n hx hb dX5_layCell_14 rfl (lv_at hl 0 rfl) ?_
    refine lv_iload_n hx hb dX5_layCell_15 rfl (lv_at hl 0 rfl) ?_
    refine lv_aload_n hx hb dX5_layCell_16 rfl (lv_at hl 1 rfl) ?_
    refine gX5_0 hx hb htA hown hK hP dX5_layCell_17 ?_
    refine lv_isub hx hb dX5_layCell_20 ?_
    refine sy_cvM (rest := []) (st1 := []) C hK hN hP (fun _ h => h) hS (m5_addBeside l D cA ad had τ ρ π γ hT ((a1 * (τ.1 0)) + a2) (((a1 * (τ.1 0)) + a2) - (τ.1 0))) (1) 7 rfl rfl kw_170 kw_171 kw_172 kw_16 kw_173 hd_X5_addBeside ⟨Nat.le_of_ble_eq_true rfl, Nat.le_of_ble_eq_true rfl⟩ rfl rfl rfl hl.1 rfl (Nat.le_of_ble_eq_true rfl) dX5_layCell_21 ⟨Nat.zero_le _, Nat.zero_le _⟩ rfl (fun H locs hP hS => ?_)
    refine lv_iload_n hx hb dX5_layCell_24 rfl (lv_at hl 3 rfl) ?_
    refine lv_aload_n hx hb dX5_layCell_25 rfl (lv_at hl 1 rfl) ?_
    refine gX5_0 hx hb htA hown hK hP dX5_layCell_26 ?_
    refine lv_iconst (v := 1) hx hb dX5_layCell_29 (by decide) ?_
    refine lv_isub hx hb dX5_layCell_30 ?_
    refine lv_icmp_ge (tgt := 42) hx hb dX5_layCell_31 (by decide) (fun c_9 => ?_) (fun c_9 => ?_)
    · refine lv_iload_n hx hb dX5_layCell_42 rfl (lv_at hl 2 rfl) ?_
      refine lv_aload_n hx hb dX5_layCell_43 rfl (lv_at hl 1 rfl) ?_
      refine gX5_1 hx hb htA hown hK hP dX5_layCell_44 ?_
      refine lv_iconst (v := 1) hx hb dX5_layCell_47 (by decide) ?_
      refine lv_isub hx hb dX5_layCell_48 ?_
      refine lv_icmp_ge (tgt := 63) hx hb dX5_layCell_49 (by decide) (fun c_10 => ?_) (fun c_10 => ?_)
      · refine lv_iload_n hx hb dX5_layCell_63 rfl (lv_at hl 3 rfl) ?_
        refine lv_if_le (tgt := 75) hx hb dX5_layCell_64 (by decide) (fun c_11 => ?_) (fun c_11 => ?_)
        · have e9 : (f5_addBeside τ ((a1 * (τ.1 0)) + a2) (((a1 * (τ.1 0)) + a2) - (τ.1 0))) = f5_layCell τ a1 a2 := by unfold f5_layCell; (try rw [if_neg c_1]); (try rw [if_pos c_9]); (try rw [if_pos c_10]); (try rw [if_pos c_11])
          exact sy_retV hx hb hr hlk hP hS (by rw [← e9]) dX5_layCell_75
        · refine lv_aload_n hx hb dX5_layCell_67 rfl (lv_at hl 1 rfl) ?_
          refine lv_iload_n hx hb dX5_layCell_68 rfl (lv_at hl 0 rfl) ?_
          refine lv_iload_n hx hb dX5_layCell_69 rfl (lv_at hl 0 rfl) ?_
          refine lv_iconst (v := 1) hx hb dX5_layCell_70 (by decide) ?_
          refine lv_isub hx hb dX5_layCell_71 ?_
          refine sy_cvM (rest := []) (st1 := []) C hK hN hP (fun _ h => h) hS (m5_addBeside l D cA ad had (f5_addBeside τ ((a1 * (τ.1 0)) + a2) (((a1 * (τ.1 0)) + a2) - (τ.1 0))) ρ π γ (Ok_addBeside hT) ((a1 * (τ.1 0)) + a2) (((a1 * (τ.1 0)) + a2) - 1)) (1) 7 rfl rfl kw_170 kw_171 kw_172 kw_16 kw_173 hd_X5_addBeside ⟨Nat.le_of_ble_eq_true rfl, Nat.le_of_ble_eq_true rfl⟩ rfl rfl rfl hl.1 rfl (Nat.le_of_ble_eq_true rfl) dX5_layCell_72 ⟨Nat.zero_le _, Nat.zero_le _⟩ rfl (fun H locs hP hS => ?_)
          have e9 : (f5_addBeside (f5_addBeside τ ((a1 * (τ.1 0)) + a2) (((a1 * (τ.1 0)) + a2) - (τ.1 0))) ((a1 * (τ.1 0)) + a2) (((a1 * (τ.1 0)) + a2) - 1)) = f5_layCell τ a1 a2 := by unfold f5_layCell; (try rw [if_neg c_1]); (try rw [if_pos c_9]); (try rw [if_pos c_10]); (try rw [if_neg c_11])
          exact sy_retV hx hb hr hlk hP hS (by rw [← e9]) dX5_layCell_75
      · refine lv_aload_n hx hb dX5_layCell_52 rfl (lv_at hl 1 rfl) ?_
        refine lv_iload_n hx hb dX5_layCell_53 rfl (lv_at hl 0 rfl) ?_
        refine lv_iload_n hx hb dX5_layCell_54 rfl (lv_at hl 0 rfl) ?_
        refine lv_aload_n hx hb dX5_layCell_55 rfl (lv_at hl 1 rfl) ?_
        refine gX5_0 hx hb htA hown hK hP dX5_layCell_56 ?_
        refine lv_iadd hx hb dX5_layCell_59 ?_
        refine sy_cvM (rest := []) (st1 := []) C hK hN hP (fun _ h => h) hS (m5_addBeside l D cA ad had (f5_addBeside τ ((a1 * (τ.1 0)) + a2) (((a1 * (τ.1 0)) + a2) - (τ.1 0))) ρ π γ (Ok_addBeside hT) ((a1 * (τ.1 0)) + a2) (((a1 * (τ.1 0)) + a2) + ((f5_addBeside τ ((a1 * (τ.1 0)) + a2) (((a1 * (τ.1 0)) + a2) - (τ.1 0))).1 0))) (1) 7 rfl rfl kw_170 kw_171 kw_172 kw_16 kw_173 hd_X5_addBeside ⟨Nat.le_of_ble_eq_true rfl, Nat.le_of_ble_eq_true rfl⟩ rfl rfl rfl hl.1 rfl (Nat.le_of_ble_eq_true rfl) dX5_layCell_60 ⟨Nat.zero_le _, Nat.zero_le _⟩ rfl (fun H locs hP hS => ?_)
        refine lv_iload_n hx hb dX5_layCell_63 rfl (lv_at hl 3 rfl) ?_
        refine lv_if_le (tgt := 75) hx hb dX5_layCell_64 (by decide) (fun c_12 => ?_) (fun c_12 => ?_)
        · have e9 : (f5_addBeside (f5_addBeside τ ((a1 * (τ.1 0)) + a2) (((a1 * (τ.1 0)) + a2) - (τ.1 0))) ((a1 * (τ.1 0)) + a2) (((a1 * (τ.1 0)) + a2) + ((f5_addBeside τ ((a1 * (τ.1 0)) + a2) (((a1 * (τ.1 0)) + a2) - (τ.1 0))).1 0))) = f5_layCell τ a1 a2 := by unfold f5_layCell; (try rw [if_neg c_1]); (try rw [if_pos c_9]); (try rw [if_neg c_10]); (try rw [if_pos c_12])
          exact sy_retV hx hb hr hlk hP hS (by rw [← e9]) dX5_layCell_75
        · refine lv_aload_n hx hb dX5_layCell_67 rfl (lv_at hl 1 rfl) ?_
          refine lv_iload_n hx hb dX5_layCell_68 rfl (lv_at hl 0 rfl) ?_
          refine lv_iload_n hx hb dX5_layCell_69 rfl (lv_at hl 0 rfl) ?_
          refine lv_iconst (v := 1) hx hb dX5_layCell_70 (by decide) ?_
          refine lv_isub hx hb dX5_layCell_71 ?_
          refine sy_cvM (rest := []) (st1 := []) C hK hN hP (fun _ h => h) hS (m5_addBeside l D cA ad had (f5_addBeside (f5_addBeside τ ((a1 * (τ.1 0)) + a2) (((a1 * (τ.1 0)) + a2) - (τ.1 0))) ((a1 * (τ.1 0)) + a2) (((a1 * (τ.1 0)) + a2) + ((f5_addBeside τ ((a1 * (τ.1 0)) + a2) (((a1 * (τ.1 0)) + a2) - (τ.1 0))).1 0))) ρ π γ (Ok_addBeside (Ok_addBeside hT)) ((a1 * (τ.1 0)) + a2) (((a1 * (τ.1 0)) + a2) - 1)) (1) 7 rfl rfl kw_170 kw_171 kw_172 kw_16 kw_173 hd_X5_addBeside ⟨Nat.le_of_ble_eq_true rfl, Nat.le_of_ble_eq_true rfl⟩ rfl rfl rfl hl.1 rfl (Nat.le_of_ble_eq_true rfl) dX5_layCell_72 ⟨Nat.zero_le _, Nat.zero_le _⟩ rfl (fun H locs hP hS => ?_)
          have e9 : (f5_addBeside (f5_addBeside (f5_addBeside τ ((a1 * (τ.1 0)) + a2) (((a1 * (τ.1 0)) + a2) - (τ.1 0))) ((a1 * (τ.1 0)) + a2) (((a1 * (τ.1 0)) + a2) + ((f5_addBeside τ ((a1 * (τ.1 0)) + a2) (((a1 * (τ.1 0)) + a2) - (τ.1 0))).1 0))) ((a1 * (τ.1 0)) + a2) (((a1 * (τ.1 0)) + a2) - 1)) = f5_layCell τ a1 a2 := by unfold f5_layCell; (try rw [if_neg c_1]); (try rw [if_pos c_9]); (try rw [if_neg c_10]); (try rw [if_neg c_12])
          exact sy_retV hx hb hr hlk hP hS (by rw [← e9]) dX5_layCell_75
    · refine lv_aload_n hx hb dX5_layCell_34 rfl (lv_at hl 1 rfl) ?_
      refine lv_iload_n hx hb dX5_layCell_35 rfl (lv_at hl 0 rfl) ?_
      refine lv_iload_n hx hb dX5_layCell_36 rfl (lv_at hl 0 rfl) ?_
      refine lv_iconst (v := 1) hx hb dX5_layCell_37 (by decide) ?_
      refine lv_iadd hx hb dX5_layCell_38 ?_
      refine sy_cvM (rest := []) (st1 := []) C hK hN hP (fun _ h => h) hS (m5_addBeside l D cA ad had (f5_addBeside τ ((a1 * (τ.1 0)) + a2) (((a1 * (τ.1 0)) + a2) - (τ.1 0))) ρ π γ (Ok_addBeside hT) ((a1 * (τ.1 0)) + a2) (((a1 * (τ.1 0)) + a2) + 1)) (1) 7 rfl rfl kw_170 kw_171 kw_172 kw_16 kw_173 hd_X5_addBeside ⟨Nat.le_of_ble_eq_true rfl, Nat.le_of_ble_eq_true rfl⟩ rfl rfl rfl hl.1 rfl (Nat.le_of_ble_eq_true rfl) dX5_layCell_39 ⟨Nat.zero_le _, Nat.zero_le _⟩ rfl (fun H locs hP hS => ?_)
      refine lv_iload_n hx hb dX5_layCell_42 rfl (lv_at hl 2 rfl) ?_
      refine lv_aload_n hx hb dX5_layCell_43 rfl (lv_at hl 1 rfl) ?_
      refine gX5_1 hx hb htA hown hK hP dX5_layCell_44 ?_
      refine lv_iconst (v := 1) hx hb dX5_layCell_47 (by decide) ?_
      refine lv_isub hx hb dX5_layCell_48 ?_
      refine lv_icmp_ge (tgt := 63) hx hb dX5_layCell_49 (by decide) (fun c_13 => ?_) (fun c_13 => ?_)
      · refine lv_iload_n hx hb dX5_layCell_63 rfl (lv_at hl 3 rfl) ?_
        refine lv_if_le (tgt := 75) hx hb dX5_layCell_64 (by decide) (fun c_14 => ?_) (fun c_14 => ?_)
        · have e9 : (f5_addBeside (f5_addBeside τ ((a1 * (τ.1 0)) + a2) (((a1 * (τ.1 0)) + a2) - (τ.1 0))) ((a1 * (τ.1 0)) + a2) (((a1 * (τ.1 0)) + a2) + 1)) = f5_layCell τ a1 a2 := by unfold f5_layCell; (try rw [if_neg c_1]); (try rw [if_neg c_9]); (try rw [if_pos c_13]); (try rw [if_pos c_14])
          exact sy_retV hx hb hr hlk hP hS (by rw [← e9]) dX5_layCell_75
        · refine lv_aload_n hx hb dX5_layCell_67 rfl (lv_at hl 1 rfl) ?_
          refine lv_iload_n hx hb dX5_layCell_68 rfl (lv_at hl 0 rfl) ?_
          refine lv_iload_n hx hb dX5_layCell_69 rfl (lv_at hl 0 rfl) ?_
          refine lv_iconst (v := 1) hx hb dX5_layCell_70 (by decide) ?_
          refine lv_isub hx hb dX5_layCell_71 ?_
          refine sy_cvM (rest := []) (st1 := []) C hK hN hP (fun _ h => h) hS (m5_addBeside l D cA ad had (f5_addBeside (f5_addBeside τ ((a1 * (τ.1 0)) + a2) (((a1 * (τ.1 0)) + a2) - (τ.1 0))) ((a1 * (τ.1 0)) + a2) (((a1 * (τ.1 0)) + a2) + 1)) ρ π γ (Ok_addBeside (Ok_addBeside hT)) ((a1 * (τ.1 0)) + a2) (((a1 * (τ.1 0)) + a2) - 1)) (1) 7 rfl rfl kw_170 kw_171 kw_172 kw_16 kw_173 hd_X5_addBeside ⟨Nat.le_of_ble_eq_true rfl, Nat.le_of_ble_eq_true rfl⟩ rfl rfl rfl hl.1 rfl (Nat.le_of_ble_eq_true rfl) dX5_layCell_72 ⟨Nat.zero_le _, Nat.zero_le _⟩ rfl (fun H locs hP hS => ?_)
          have e9 : (f5_addBeside (f5_addBeside (f5_addBeside τ ((a1 * (τ.1 0)) + a2) (((a1 * (τ.1 0)) + a2) - (τ.1 0))) ((a1 * (τ.1 0)) + a2) (((a1 * (τ.1 0)) + a2) + 1)) ((a1 * (τ.1 0)) + a2) (((a1 * (τ.1 0)) + a2) - 1)) = f5_layCell τ a1 a2 := by unfold f5_layCell; (try rw [if_neg c_1]); (try rw [if_neg c_9]); (try rw [if_pos c_13]); (try rw [if_neg c_14])
          exact sy_retV hx hb hr hlk hP hS (by rw [← e9]) dX5_layCell_75
      · refine lv_aload_n hx hb dX5_layCell_52 rfl (lv_at hl 1 rfl) ?_
        refine lv_iload_n hx hb dX5_layCell_53 rfl (lv_at hl 0 rfl) ?_
        refine lv_iload_n hx hb dX5_layCell_54 rfl (lv_at hl 0 rfl) ?_
        refine lv_aload_n hx hb dX5_layCell_55 rfl (lv_at hl 1 rfl) ?_
        refine gX5_0 hx hb htA hown hK hP dX5_layCell_56 ?_
        refine lv_iadd hx hb dX5_layCell_59 ?_
        refine sy_cvM (rest := []) (st1 := []) C hK hN hP (fun _ h => h) hS (m5_addBeside l D cA ad had (f5_addBeside (f5_addBeside τ ((a1 * (τ.1 0)) + a2) (((a1 * (τ.1 0)) + a2) - (τ.1 0))) ((a1 * (τ.1 0)) + a2) (((a1 * (τ.1 0)) + a2) + 1)) ρ π γ (Ok_addBeside (Ok_addBeside hT)) ((a1 * (τ.1 0)) + a2) (((a1 * (τ.1 0)) + a2) + ((f5_addBeside (f5_addBeside τ ((a1 * (τ.1 0)) + a2) (((a1 * (τ.1 0)) + a2) - (τ.1 0))) ((a1 * (τ.1 0)) + a2) (((a1 * (τ.1 0)) + a2) + 1)).1 0))) (1) 7 rfl rfl kw_170 kw_171 kw_172 kw_16 kw_173 hd_X5_addBeside ⟨Nat.le_of_ble_eq_true rfl, Nat.le_of_ble_eq_true rfl⟩ rfl rfl rfl hl.1 rfl (Nat.le_of_ble_eq_true rfl) dX5_layCell_60 ⟨Nat.zero_le _, Nat.zero_le _⟩ rfl (fun H locs hP hS => ?_)
        refine lv_iload_n hx hb dX5_layCell_63 rfl (lv_at hl 3 rfl) ?_
        refine lv_if_le (tgt := 75) hx hb dX5_layCell_64 (by decide) (fun c_15 => ?_) (fun c_15 => ?_)
        · have e9 : (f5_addBeside (f5_addBeside (f5_addBeside τ ((a1 * (τ.1 0)) + a2) (((a1 * (τ.1 0)) + a2) - (τ.1 0))) ((a1 * (τ.1 0)) + a2) (((a1 * (τ.1 0)) + a2) + 1)) ((a1 * (τ.1 0)) + a2) (((a1 * (τ.1 0)) + a2) + ((f5_addBeside (f5_addBeside τ ((a1 * (τ.1 0)) + a2) (((a1 * (τ.1 0)) + a2) - (τ.1 0))) ((a1 * (τ.1 0)) + a2) (((a1 * (τ.1 0)) + a2) + 1)).1 0))) = f5_layCell τ a1 a2 := by unfold f5_layCell; (try rw [if_neg c_1]); (try rw [if_neg c_9]); (try rw [if_neg c_13]); (try rw [if_pos c_15])
          exact sy_retV hx hb hr hlk hP hS (by rw [← e9]) dX5_layCell_75
        · refine lv_aload_n hx hb dX5_layCell_67 rfl (lv_at hl 1 rfl) ?_
          refine lv_iload_n hx hb dX5_layCell_68 rfl (lv_at hl 0 rfl) ?_
          refine lv_iload_n hx hb dX5_layCell_69 rfl (lv_at hl 0 rfl) ?_
          refine lv_iconst (v := 1) hx hb dX5_layCell_70 (by decide) ?_
          refine lv_isub hx hb dX5_layCell_71 ?_
          refine sy_cvM (rest := []) (st1 := []) C hK hN hP (fun _ h => h) hS (m5_addBeside l D cA ad had (f5_addBeside (f5_addBeside (f5_addBeside τ ((a1 * (τ.1 0)) + a2) (((a1 * (τ.1 0)) + a2) - (τ.1 0))) ((a1 * (τ.1 0)) + a2) (((a1 * (τ.1 0)) + a2) + 1)) ((a1 * (τ.1 0)) + a2) (((a1 * (τ.1 0)) + a2) + ((f5_addBeside (f5_addBeside τ ((a1 * (τ.1 0)) + a2) (((a1 * (τ.1 0)) + a2) - (τ.1 0))) ((a1 * (τ.1 0)) + a2) (((a1 * (τ.1 0)) + a2) + 1)).1 0))) ρ π γ (Ok_addBeside (Ok_addBeside (Ok_addBeside hT))) ((a1 * (τ.1 0)) + a2) (((a1 * (τ.1 0)) + a2) - 1)) (1) 7 rfl rfl kw_170 kw_171 kw_172 kw_16 kw_173 hd_X5_addBeside ⟨Nat.le_of_ble_eq_true rfl, Nat.le_of_ble_eq_true rfl⟩ rfl rfl rfl hl.1 rfl (Nat.le_of_ble_eq_true rfl) dX5_layCell_72 ⟨Nat.zero_le _, Nat.zero_le _⟩ rfl (fun H locs hP hS => ?_)
          have e9 : (f5_addBeside (f5_addBeside (f5_addBeside (f5_addBeside τ ((a1 * (τ.1 0)) + a2) (((a1 * (τ.1 0)) + a2) - (τ.1 0))) ((a1 * (τ.1 0)) + a2) (((a1 * (τ.1 0)) + a2) + 1)) ((a1 * (τ.1 0)) + a2) (((a1 * (τ.1 0)) + a2) + ((f5_addBeside (f5_addBeside τ ((a1 * (τ.1 0)) + a2) (((a1 * (τ.1 0)) + a2) - (τ.1 0))) ((a1 * (τ.1 0)) + a2) (((a1 * (τ.1 0)) + a2) + 1)).1 0))) ((a1 * (τ.1 0)) + a2) (((a1 * (τ.1 0)) + a2) - 1)) = f5_layCell τ a1 a2 := by unfold f5_layCell; (try rw [if_neg c_1]); (try rw [if_neg c_9]); (try rw [if_neg c_13]); (try rw [if_neg c_15])
          exact sy_retV hx hb hr hlk hP hS (by rw [← e9]) dX5_layCell_75
theorem layCell_1 {τ : Sg} {a1 a2 : Int32} : (f5_layCell τ a1 a2).1 = τ.1 := by
  unfold f5_layCell
  (repeat' split) <;> simp only [addBeside_1]
theorem Ok_layCell {τ : Sg} {a1 a2 : Int32} (hT : Ok τ) : Ok (f5_layCell τ a1 a2) := by
  unfold f5_layCell
  (repeat' split) <;> (repeat (first | with_reducible exact hT | with_reducible apply Ok_addBeside))
/-- X5_layOut -/
theorem hd_X5_layOut : yX5_layOut.cls = yX5_layOut.cls ∧ yX5_layOut.cls ≠ "java/lang/invoke/MethodHandle" ∧ yX5_layOut.cls ≠ "java/lang/invoke/VarHandle" ∧ (parseMethodDescriptor yX5_layOut.desc).map (fun d => d.parameters.length) = some 2 := by decide +kernel
def f5_layOut_L49  (x1 : Int32) (x2 : Int32) (x3 : Int32) : Nat → Sg → Int32 → Int32 × Sg
  | 0, τ_49, x4 => (x4, τ_49)
  | n + 1, τ_49, x4 => (if (τ_49.1 0) ≤ x4 then (x4, τ_49) else (f5_layOut_L49 x1 x2 x3 n (f5_layCell τ_49 x3 x4) (x4 + 1)))
theorem f5_layOut_L49_s  (x1 : Int32) (x2 : Int32) (x3 : Int32) (n : Nat) (τ_49 : Sg) (x4 : Int32) : f5_layOut_L49 x1 x2 x3 (n + 1) τ_49 x4 = (if (τ_49.1 0) ≤ x4 then (x4, τ_49) else (f5_layOut_L49 x1 x2 x3 n (f5_layCell τ_49 x3 x4) (x4 + 1))) := rfl
def f5_layOut_L38  (x1 : Int32) (x2 : Int32) : Nat → Sg → Int32 → Int32 × Sg
  | 0, τ_38, x3 => (x3, τ_38)
  | n + 1, τ_38, x3 => (if (τ_38.1 1) ≤ x3 then (x3, τ_38) else (f5_layOut_L38 x1 x2 n ((f5_layOut_L49 x1 x2 x3 8589934592 τ_38 0).2) (x3 + 1)))
theorem f5_layOut_L38_s  (x1 : Int32) (x2 : Int32) (n : Nat) (τ_38 : Sg) (x3 : Int32) : f5_layOut_L38 x1 x2 (n + 1) τ_38 x3 = (if (τ_38.1 1) ≤ x3 then (x3, τ_38) else (f5_layOut_L38 x1 x2 n ((f5_layOut_L49 x1 x2 x3 8589934592 τ_38 0).2) (x3 + 1))) := rfl
theorem lay49_1 {x1 x2 x3 : Int32} : ∀ (n : Nat) (τ : Sg) (x4 : Int32), (f5_layOut_L49 x1 x2 x3 n τ x4).2.1 = τ.1 := by
  intro n
  induction n with
  | zero => intro τ x4; rfl
  | succ n ih =>
    intro τ x4
    rw [f5_layOut_L49_s]
    split
    · rfl
    · exact (ih _ _).trans layCell_1
theorem lay49_ok {x1 x2 x3 : Int32} : ∀ (n : Nat) (τ : Sg) (x4 : Int32), Ok τ → Ok (f5_layOut_L49 x1 x2 x3 n τ x4).2 := by
  intro n
  induction n with
  | zero => intro τ x4 h; exact h
  | succ n ih =>
    intro τ x4 h
    rw [f5_layOut_L49_s]
    split
    · exact h
    · exact ih _ _ (Ok_layCell h)
theorem lay38_ok {x1 x2 : Int32} : ∀ (n : Nat) (τ : Sg) (x3 : Int32), Ok τ → Ok (f5_layOut_L38 x1 x2 n τ x3).2 := by
  intro n
  induction n with
  | zero => intro τ x3 h; exact h
  | succ n ih =>
    intro τ x3 h
    rw [f5_layOut_L38_s]
    split
    · exact h
    · exact ih _ _ (lay49_ok _ _ _ h)
def f5_layOut (τ : Sg) (a1 : Int32) (a2 : Int32) : Sg := ((f5_layOut_L38 a1 a2 8589934592 (saf (si (si (si τ 0 a1) 1 a2) 2 (if 64 < (((si (si τ 0 a1) 1 a2).1 0) * ((si (si τ 0 a1) 1 a2).1 1)) then 64 else (((si (si τ 0 a1) 1 a2).1 0) * ((si (si τ 0 a1) 1 a2).1 1)))) 1 (fillF ((si (si (si τ 0 a1) 1 a2) 2 (if 64 < (((si (si τ 0 a1) 1 a2).1 0) * ((si (si τ 0 a1) 1 a2).1 1)) then 64 else (((si (si τ 0 a1) 1 a2).1 0) * ((si (si τ 0 a1) 1 a2).1 1)))).2 1) 64 0)) 0).2)
set_option maxHeartbeats 400000 in
set_option maxRecDepth 100000 in
theorem m5_layOut (l : Launch) (D : va_G) (cA : ClassId) (ad : Nat → Nat) (had : Apart ad) (τ ρ π γ : Sg) (hT : Ok τ) (a1 : Int32) (a2 : Int32) (hpos : 0 ≤ a1 * a2) : Met l yX5_layOut (wM yX5_layOut cX5_layOut 5 none) ({ frames := 3, cells := 0, slots := 0, locals := 66 }) (va_Pc [.ref (ad 1), .int a1, .int a2] (pS D cA ad τ ρ π γ)) (qV D cA ad (f5_layOut τ a1 a2) ρ π γ none) 0 0 (aS ad) := by
  refine sy_of (by decide) (Nat.le_of_ble_eq_true rfl) ?_
  intro p e s m below meth c ls C hr hlk hK hN hP hl
  obtain ⟨hx, hb, hml, hown, hts⟩ := id C
  have htA : ∀ w ∈ wA, w.before ([.ref (ad 1), .int a1, .int a2] : List Value).toArray s = true := fun w h => hts w (List.mem_cons_of_mem _ h)
  have hl : lv_has ls 5 [(0, .ref (ad 1)), (1, .int a1), (2, .int a2)] := hl
  have hS : va_S (aS ad) s.heap s.heap [] := va_S.rf
  refine lv_aload_n hx hb dX5_layOut_0 rfl (lv_at hl 0 rfl) ?_
  refine lv_iload_n hx hb dX5_layOut_1 rfl (lv_at hl 1 rfl) ?_
  refine pX5_0 hx hb htA hown hK hP had (fun _ h => h) hS dX5_layOut_2 (fun H locs hP hS => ?_)
  refine lv_aload_n hx hb dX5_layOut_5 rfl (lv_at hl 0 rfl) ?_
  refine lv_iload_n hx hb dX5_layOut_6 rfl (lv_at hl 2 rfl) ?_
  refine pX5_1 hx hb htA hown hK hP had (fun _ h => h) hS dX5_layOut_7 (fun H locs hP hS => ?_)
  refine lv_aload_n hx hb dX5_layOut_10 rfl (lv_at hl 0 rfl) ?_
  refine lv_aload_n hx hb dX5_layOut_11 rfl (lv_at hl 0 rfl) ?_
  refine gX5_0 hx hb htA hown hK hP dX5_layOut_12 ?_
  refine lv_aload_n hx hb dX5_layOut_15 rfl (lv_at hl 0 rfl) ?_
  refine gX5_1 hx hb htA hown hK hP dX5_layOut_16 ?_
  refine lv_imul hx hb dX5_layOut_19 ?_
  refine lv_bipush (v := 64) hx hb dX5_layOut_20 (by decide) ?_
  refine va_mmin hx hb (hml.trans hl.1.symm) hown (htA _ kw_160) (htA _ kw_161) (htA _ kw_162) (htA _ kw_163) (Nat.le_of_ble_eq_true rfl) (Nat.le_of_ble_eq_true rfl) (Nat.zero_le _) (Nat.zero_le _) dX5_layOut_22 ?_
  refine pX5_2 hx hb htA hown hK hP had (fun _ h => h) hS dX5_layOut_25 (fun H locs hP hS => ?_)
  refine lv_aload_n hx hb dX5_layOut_28 rfl (lv_at hl 0 rfl) ?_
  refine gX5_4 hx hb htA hown hK hP dX5_layOut_29 ?_
  refine lv_iconst (v := 0) hx hb dX5_layOut_32 (by decide) ?_
  refine sy_csM (rest := []) (st1 := []) C hK hN (by have h9 := hP; rw [← wF_8] at h9; exact h9) (fun _ h => h) hS (mJ7_fill l D cA (fun f9 => wS cA ad (saf (si (si (si τ 0 a1) 1 a2) 2 (if 64 < (((si (si τ 0 a1) 1 a2).1 0) * ((si (si τ 0 a1) 1 a2).1 1)) then 64 else (((si (si τ 0 a1) 1 a2).1 0) * ((si (si τ 0 a1) 1 a2).1 1)))) 1 f9) ρ π γ) (8) (ad 8) 64 (by decide) (wFa_8) (wFs_8) (fun _ => wS_D had _ _ _ _ (fun _ h => h)) _ 0) kw_165 kw_53 kw_54 kw_55 hd_J7_fill ⟨Nat.le_of_ble_eq_true rfl, Nat.le_of_ble_eq_true rfl⟩ rfl rfl rfl hl.1 rfl (Nat.le_of_ble_eq_true rfl) dX5_layOut_33 ⟨Nat.zero_le _, Nat.zero_le _⟩ rfl (fun H locs hP hS => ?_)
  refine lv_iconst (v := 0) hx hb dX5_layOut_36 (by decide) ?_
  refine lv_istore_n (lv' := [(3, .int 0), (0, .ref (ad 1)), (1, .int a1), (2, .int a2)]) hx hb dX5_layOut_37 rfl hl (by decide) rfl (fun ls hl => ?_)
  have hL38 : ∀ (x1 : Int32) (x2 : Int32) (n : Nat) (τ_38 : Sg) (x3 : Int32), Ok τ_38 → nm x3 (τ_38.1 1) < n → ∀ (H : Heap) (locs : List Loc), va_P D vwCl (wS cA ad τ_38 ρ π γ) H → va_S (aS ad) s.heap H locs → ∀ ls : Array Slot, lv_has ls 5 [(0, .ref (ad 1)), (1, .int x1), (2, .int x2), (3, .int x3)] → (∀ (H : Heap) (locs : List Loc), va_P D vwCl (wS cA ad ((f5_layOut_L38 x1 x2 n τ_38 x3).2) ρ π γ) H → va_S (aS ad) s.heap H locs → ∀ ls : Array Slot, lv_has ls 5 [(0, .ref (ad 1)), (1, .int x1), (2, .int x2), (3, .int ((f5_layOut_L38 x1 x2 n τ_38 x3).1))] → W p l e ({ frames := 3, cells := 0, slots := 0, locals := 66 }) s m ([.ref (ad 1), .int a1, .int a2] : List Value).toArray below meth c H locs 0 0 (MQ below (qV D cA ad (f5_layOut τ a1 a2) ρ π γ none) ([.ref (ad 1), .int a1, .int a2] : List Value).toArray s 0 0 (aS ad)) (F0 m 77 ls [])) → W p l e ({ frames := 3, cells := 0, slots := 0, locals := 66 }) s m ([.ref (ad 1), .int a1, .int a2] : List Value).toArray below meth c H locs 0 0 (MQ below (qV D cA ad (f5_layOut τ a1 a2) ρ π γ none) ([.ref (ad 1), .int a1, .int a2] : List Value).toArray s 0 0 (aS ad)) (F0 m 38 ls []) := by
    intro x1 x2 n
    induction n with
    | zero =>
      intro τ_38 x3 hy hn
      exact absurd hn (Nat.not_lt_zero _)
    | succ n ih =>
      intro τ_38 x3 hy hn H locs hP hS ls hl kk
      refine lv_iload_n hx hb dX5_layOut_38 rfl (lv_at hl 3 rfl) ?_
      refine lv_aload_n hx hb dX5_layOut_39 rfl (lv_at hl 0 rfl) ?_
      refine gX5_1 hx hb htA hown hK hP dX5_layOut_40 ?_
      refine lv_icmp_ge (tgt := 77) hx hb dX5_layOut_43 (by decide) (fun c_1 => ?_) (fun c_1 => ?_)
      · have e9 : f5_layOut_L38 x1 x2 (n + 1) τ_38 x3 = (x3, τ_38) := by rw [f5_layOut_L38_s]; (try rw [if_pos c_1])
        rw [e9] at kk
        exact kk _ _ hP hS ls (lv_sub hl [0, 1, 2, 3] rfl)
      · refine lv_iconst (v := 0) hx hb dX5_layOut_46 (by decide) ?_
        refine lv_istore (lv' := [(4, .int 0), (0, .ref (ad 1)), (1, .int x1), (2, .int x2), (3, .int x3)]) hx hb dX5_layOut_47 hl (by decide) rfl (fun ls hl => ?_)
        have hL49 : ∀ (x1 : Int32) (x2 : Int32) (x3 : Int32) (n : Nat) (τ_49 : Sg) (x4 : Int32), Ok τ_49 → nm x4 (τ_49.1 0) < n → ∀ (H : Heap) (locs : List Loc), va_P D vwCl (wS cA ad τ_49 ρ π γ) H → va_S (aS ad) s.heap H locs → ∀ ls : Array Slot, lv_has ls 5 [(0, .ref (ad 1)), (1, .int x1), (2, .int x2), (3, .int x3), (4, .int x4)] → (∀ (H : Heap) (locs : List Loc), va_P D vwCl (wS cA ad ((f5_layOut_L49 x1 x2 x3 n τ_49 x4).2) ρ π γ) H → va_S (aS ad) s.heap H locs → ∀ ls : Array Slot, lv_has ls 5 [(0, .ref (ad 1)), (1, .int x1), (2, .int x2), (3, .int x3), (4, .int ((f5_layOut_L49 x1 x2 x3 n τ_49 x4).1))] → W p l e ({ frames := 3, cells := 0, slots := 0, locals := 66 }) s m ([.ref (ad 1), .int a1, .int a2] : List Value).toArray below meth c H locs 0 0 (MQ below (qV D cA ad (f5_layOut τ a1 a2) ρ π γ none) ([.ref (ad 1), .int a1, .int a2] : List Value).toArray s 0 0 (aS ad)) (F0 m 71 ls [])) → W p l e ({ frames := 3, cells := 0, slots := 0, locals := 66 }) s m ([.ref (ad 1), .int a1, .int a2] : List Value).toArray below meth c H locs 0 0 (MQ below (qV D cA ad (f5_layOut τ a1 a2) ρ π γ none) ([.ref (ad 1), .int a1, .int a2] : List Value).toArray s 0 0 (aS ad)) (F0 m 49 ls []) := by
          intro x1 x2 x3 n
          induction n with
          | zero =>
            intro τ_49 x4 hy hn
            exact absurd hn (Nat.not_lt_zero _)
          | succ n ih =>
            intro τ_49 x4 hy hn H locs hP hS ls hl kk
            refine lv_iload hx hb dX5_layOut_49 (lv_at hl 4 rfl) ?_
            refine lv_aload_n hx hb dX5_layOut_51 rfl (lv_at hl 0 rfl) ?_
            refine gX5_0 hx hb htA hown hK hP dX5_layOut_52 ?_
            refine lv_icmp_ge (tgt := 71) hx hb dX5_layOut_55 (by decide) (fun c_2 => ?_) (fun c_2 => ?_)
            · have e9 : f5_layOut_L49 x1 x2 x3 (n + 1) τ_49 x4 = (x4, τ_49) := by rw [f5_layOut_L49_s]; (try rw [if_pos c_2])
              rw [e9] at kk
              exact kk _ _ hP hS ls (lv_sub hl [0, 1, 2, 3, 4] rfl)
            · refine lv_aload_n hx hb dX5_layOut_58 rfl (lv_at hl 0 rfl) ?_
              refine lv_iload_n hx hb dX5_layOut_59 rfl (lv_at hl 3 rfl) ?_
              refine lv_iload hx hb dX5_layOut_60 (lv_at hl 4 rfl) ?_
              refine sy_cvM (rest := []) (st1 := []) C hK hN hP (fun _ h => h) hS (m5_layCell l D cA ad had τ_49 ρ π γ hy x3 x4) (1) 7 rfl rfl kw_166 kw_167 kw_168 kw_16 kw_169 hd_X5_layCell ⟨Nat.le_of_ble_eq_true rfl, Nat.le_of_ble_eq_true rfl⟩ rfl rfl rfl hl.1 rfl (Nat.le_of_ble_eq_true rfl) dX5_layOut_62 ⟨Nat.zero_le _, Nat.zero_le _⟩ rfl (fun H locs hP hS => ?_)
              refine lv_iinc (v := x4 + 1) (lv' := [(4, .int (x4 + 1)), (0, .ref (ad 1)), (1, .int x1), (2, .int x2), (3, .int x3)]) hx hb dX5_layOut_65 hl (k := 4) rfl (by rfl) (by decide) rfl (fun ls hl => ?_)
              refine lv_goto (tgt := 49) hx hb dX5_layOut_68 (by decide) ?_
              have e9 : f5_layOut_L49 x1 x2 x3 (n + 1) τ_49 x4 = f5_layOut_L49 x1 x2 x3 n (f5_layCell τ_49 x3 x4) (x4 + 1) := by rw [f5_layOut_L49_s]; (try rw [if_neg c_2])
              rw [e9] at kk
              exact ih (f5_layCell τ_49 x3 x4) (x4 + 1) (Ok_layCell hy) (by rw [layCell_1]; exact nm_dec (Int32.not_le.mp c_2) hn) _ _ hP hS ls (lv_sub hl [1, 2, 3, 4, 0] rfl) kk
        refine hL49 x1 x2 x3 8589934592 τ_38 0 hy (nm_lt _ _) _ _ hP hS ls (lv_sub hl [1, 2, 3, 4, 0] rfl) (fun H locs hP hS ls hl => ?_)
        refine lv_iinc (v := x3 + 1) (lv' := [(3, .int (x3 + 1)), (0, .ref (ad 1)), (1, .int x1), (2, .int x2), (4, .int ((f5_layOut_L49 x1 x2 x3 8589934592 τ_38 0).1))]) hx hb dX5_layOut_71 hl (k := 3) rfl (by rfl) (by decide) rfl (fun ls hl => ?_)
        refine lv_goto (tgt := 38) hx hb dX5_layOut_74 (by decide) ?_
        have e9 : f5_layOut_L38 x1 x2 (n + 1) τ_38 x3 = f5_layOut_L38 x1 x2 n ((f5_layOut_L49 x1 x2 x3 8589934592 τ_38 0).2) (x3 + 1) := by rw [f5_layOut_L38_s]; (try rw [if_neg c_1])
        rw [e9] at kk
        exact ih ((f5_layOut_L49 x1 x2 x3 8589934592 τ_38 0).2) (x3 + 1) (lay49_ok _ _ _ hy) (by rw [lay49_1]; exact nm_dec (Int32.not_le.mp c_1) hn) _ _ hP hS ls (lv_sub hl [1, 2, 3, 0] rfl) kk
  refine hL38 a1 a2 8589934592 (saf (si (si (si τ 0 a1) 1 a2) 2 (if 64 < (((si (si τ 0 a1) 1 a2).1 0) * ((si (si τ 0 a1) 1 a2).1 1)) then 64 else (((si (si τ 0 a1) 1 a2).1 0) * ((si (si τ 0 a1) 1 a2).1 1)))) 1 (fillF ((si (si (si τ 0 a1) 1 a2) 2 (if 64 < (((si (si τ 0 a1) 1 a2).1 0) * ((si (si τ 0 a1) 1 a2).1 1)) then 64 else (((si (si τ 0 a1) 1 a2).1 0) * ((si (si τ 0 a1) 1 a2).1 1)))).2 1) 64 0)) 0 (Ok_lay0 hpos) (nm_lt _ _) _ _ hP hS ls (lv_sub hl [1, 2, 3, 0] rfl) (fun H locs hP hS ls hl => ?_)
  have e9 : ((f5_layOut_L38 a1 a2 8589934592 (saf (si (si (si τ 0 a1) 1 a2) 2 (if 64 < (((si (si τ 0 a1) 1 a2).1 0) * ((si (si τ 0 a1) 1 a2).1 1)) then 64 else (((si (si τ 0 a1) 1 a2).1 0) * ((si (si τ 0 a1) 1 a2).1 1)))) 1 (fillF ((si (si (si τ 0 a1) 1 a2) 2 (if 64 < (((si (si τ 0 a1) 1 a2).1 0) * ((si (si τ 0 a1) 1 a2).1 1)) then 64 else (((si (si τ 0 a1) 1 a2).1 0) * ((si (si τ 0 a1) 1 a2).1 1)))).2 1) 64 0)) 0).2) = f5_layOut τ a1 a2 := rfl
  exact sy_retV hx hb hr hlk hP hS (by rw [← e9]) dX5_layOut_77
theorem Ok_layOut {τ : Sg} {a1 a2 : Int32} (h : 0 ≤ a1 * a2) : Ok (f5_layOut τ a1 a2) := by
  unfold f5_layOut
  exact lay38_ok _ _ _ (Ok_lay0 h)
/-- X2_spread -/
theorem hd_X2_spread : yX2_spread.cls = yX2_spread.cls ∧ yX2_spread.cls ≠ "java/lang/invoke/MethodHandle" ∧ yX2_spread.cls ≠ "java/lang/invoke/VarHandle" ∧ (parseMethodDescriptor yX2_spread.desc).map (fun d => d.parameters.length) = some 3 := by decide +kernel
def f2_spread_L130 (τ : Sg) (ρ : Sg) (π : Sg) (b : Nat) (x2 : Int32) (x3 : Int32) (x5 : Int32) (x6 : Int32) (x7 : Int32) : Nat → Sg → Int32 → Int32 → Int32 × Int32 × Sg
  | 0, γ_130, x4, x8 => (x4, x8, γ_130)
  | n + 1, γ_130, x4, x8 => (if (f5_besideMany τ x6) ≤ x8 then (x4, x8, γ_130) else (if (f2_isNew τ π γ_130 b (f5_beside τ x6 x8)) = 0 then (f2_spread_L130 τ ρ π b x2 x3 x5 x6 x7 n γ_130 x4 (x8 + 1)) else (if (f4_isSeen ρ x7 (f3_markAt π (f5_beside τ x6 x8)) x3) = 0 then (if 64 ≤ x4 then (f2_spread_L130 τ ρ π b x2 x3 x5 x6 x7 n γ_130 x4 (x8 + 1)) else (f2_spread_L130 τ ρ π b x2 x3 x5 x6 x7 n (sa (sa γ_130 (5 * b + 0) (f5_beside τ x6 x8).toNatClampNeg (γ_130.1 b)) (5 * b + 4) x4.toNatClampNeg (f5_beside τ x6 x8)) (x4 + 1) (x8 + 1))) else (f2_spread_L130 τ ρ π b x2 x3 x5 x6 x7 n γ_130 x4 (x8 + 1)))))
theorem f2_spread_L130_s (τ : Sg) (ρ : Sg) (π : Sg) (b : Nat) (x2 : Int32) (x3 : Int32) (x5 : Int32) (x6 : Int32) (x7 : Int32) (n : Nat) (γ_130 : Sg) (x4 : Int32) (x8 : Int32) : f2_spread_L130 τ ρ π b x2 x3 x5 x6 x7 (n + 1) γ_130 x4 x8 = (if (f5_besideMany τ x6) ≤ x8 then (x4, x8, γ_130) else (if (f2_isNew τ π γ_130 b (f5_beside τ x6 x8)) = 0 then (f2_spread_L130 τ ρ π b x2 x3 x5 x6 x7 n γ_130 x4 (x8 + 1)) else (if (f4_isSeen ρ x7 (f3_markAt π (f5_beside τ x6 x8)) x3) = 0 then (if 64 ≤ x4 then (f2_spread_L130 τ ρ π b x2 x3 x5 x6 x7 n γ_130 x4 (x8 + 1)) else (f2_spread_L130 τ ρ π b x2 x3 x5 x6 x7 n (sa (sa γ_130 (5 * b + 0) (f5_beside τ x6 x8).toNatClampNeg (γ_130.1 b)) (5 * b + 4) x4.toNatClampNeg (f5_beside τ x6 x8)) (x4 + 1) (x8 + 1))) else (f2_spread_L130 τ ρ π b x2 x3 x5 x6 x7 n γ_130 x4 (x8 + 1))))) := rfl
def f2_spread_L73 (τ : Sg) (ρ : Sg) (π : Sg) (b : Nat) (x2 : Int32) (x3 : Int32) : Nat → Sg → Int32 → Int32 → Int32 × Int32 × Sg
  | 0, γ_73, x4, x5 => (x4, x5, γ_73)
  | n + 1, γ_73, x4, x5 => (if x4 ≤ x5 then (x4, x5, γ_73) else (if 64 ≤ x5 then (x4, x5, γ_73) else (f2_spread_L73 τ ρ π b x2 x3 n ((f2_spread_L130 τ ρ π b x2 x3 x5 (γ_73.2 (5 * b + 4) x5.toNatClampNeg) (f3_markAt π (γ_73.2 (5 * b + 4) x5.toNatClampNeg)) 8589934592 (sa γ_73 (5 * b + 3) (γ_73.1 b).toNatClampNeg (if (f3_markAt π (γ_73.2 (5 * b + 4) x5.toNatClampNeg)) < (γ_73.2 (5 * b + 3) (γ_73.1 b).toNatClampNeg) then (f3_markAt π (γ_73.2 (5 * b + 4) x5.toNatClampNeg)) else (γ_73.2 (5 * b + 3) (γ_73.1 b).toNatClampNeg))) x4 0).2.2) ((f2_spread_L130 τ ρ π b x2 x3 x5 (γ_73.2 (5 * b + 4) x5.toNatClampNeg) (f3_markAt π (γ_73.2 (5 * b + 4) x5.toNatClampNeg)) 8589934592 (sa γ_73 (5 * b + 3) (γ_73.1 b).toNatClampNeg (if (f3_markAt π (γ_73.2 (5 * b + 4) x5.toNatClampNeg)) < (γ_73.2 (5 * b + 3) (γ_73.1 b).toNatClampNeg) then (f3_markAt π (γ_73.2 (5 * b + 4) x5.toNatClampNeg)) else (γ_73.2 (5 * b + 3) (γ_73.1 b).toNatClampNeg))) x4 0).1) (x5 + 1))))
theorem f2_spread_L73_s (τ : Sg) (ρ : Sg) (π : Sg) (b : Nat) (x2 : Int32) (x3 : Int32) (n : Nat) (γ_73 : Sg) (x4 : Int32) (x5 : Int32) : f2_spread_L73 τ ρ π b x2 x3 (n + 1) γ_73 x4 x5 = (if x4 ≤ x5 then (x4, x5, γ_73) else (if 64 ≤ x5 then (x4, x5, γ_73) else (f2_spread_L73 τ ρ π b x2 x3 n ((f2_spread_L130 τ ρ π b x2 x3 x5 (γ_73.2 (5 * b + 4) x5.toNatClampNeg) (f3_markAt π (γ_73.2 (5 * b + 4) x5.toNatClampNeg)) 8589934592 (sa γ_73 (5 * b + 3) (γ_73.1 b).toNatClampNeg (if (f3_markAt π (γ_73.2 (5 * b + 4) x5.toNatClampNeg)) < (γ_73.2 (5 * b + 3) (γ_73.1 b).toNatClampNeg) then (f3_markAt π (γ_73.2 (5 * b + 4) x5.toNatClampNeg)) else (γ_73.2 (5 * b + 3) (γ_73.1 b).toNatClampNeg))) x4 0).2.2) ((f2_spread_L130 τ ρ π b x2 x3 x5 (γ_73.2 (5 * b + 4) x5.toNatClampNeg) (f3_markAt π (γ_73.2 (5 * b + 4) x5.toNatClampNeg)) 8589934592 (sa γ_73 (5 * b + 3) (γ_73.1 b).toNatClampNeg (if (f3_markAt π (γ_73.2 (5 * b + 4) x5.toNatClampNeg)) < (γ_73.2 (5 * b + 3) (γ_73.1 b).toNatClampNeg) then (f3_markAt π (γ_73.2 (5 * b + 4) x5.toNatClampNeg)) else (γ_73.2 (5 * b + 3) (γ_73.1 b).toNatClampNeg))) x4 0).1) (x5 + 1)))) := rfl
theorem sp130_1 {τ ρ π : Sg} {b : Nat} {x2 x3 x5 x6 x7 : Int32} : ∀ (n : Nat) (γ : Sg) (x4 x8 : Int32), (f2_spread_L130 τ ρ π b x2 x3 x5 x6 x7 n γ x4 x8).2.2.1 = γ.1 := by
  intro n
  induction n with
  | zero => intro γ x4 x8; rfl
  | succ n ih =>
    intro γ x4 x8
    rw [f2_spread_L130_s]
    (repeat' split) <;> first | rfl | exact (ih _ _ _).trans rfl
theorem sp130_2 {τ ρ π : Sg} {b : Nat} {x2 x3 x5 x6 x7 : Int32} : ∀ (n : Nat) (γ : Sg) (x4 x8 : Int32), 0 ≤ x4 → 0 ≤ (f2_spread_L130 τ ρ π b x2 x3 x5 x6 x7 n γ x4 x8).1 := by
  intro n
  induction n with
  | zero => intro γ x4 x8 h; exact h
  | succ n ih =>
    intro γ x4 x8 h
    rw [f2_spread_L130_s]
    (repeat' split) <;> first | exact h | exact ih _ _ _ h | exact ih _ _ _ (inc_nonneg h (Int32.not_le.mp (by assumption)))
theorem sp73_1 {τ ρ π : Sg} {b : Nat} {x2 x3 : Int32} : ∀ (n : Nat) (γ : Sg) (x4 x5 : Int32), (f2_spread_L73 τ ρ π b x2 x3 n γ x4 x5).2.2.1 = γ.1 := by
  intro n
  induction n with
  | zero => intro γ x4 x5; rfl
  | succ n ih =>
    intro γ x4 x5
    rw [f2_spread_L73_s]
    (repeat' split) <;> first | rfl | exact (ih _ _ _).trans ((sp130_1 _ _ _ _).trans rfl)
def f2_spread (τ : Sg) (ρ : Sg) (π : Sg) (γ : Sg) (b : Nat) (a2 : Int32) (a3 : Int32) : Sg := (if (f5_holds τ a2) = 0 then γ else (if (f5_holds τ (γ.1 b)) = 0 then γ else (si (sa ((f2_spread_L73 τ ρ π b a2 a3 8589934592 (sa (sa (sa (sa γ (5 * b + 0) a2.toNatClampNeg (γ.1 b)) (5 * b + 1) ((sa γ (5 * b + 0) a2.toNatClampNeg (γ.1 b)).1 b).toNatClampNeg a2) (5 * b + 3) ((sa (sa γ (5 * b + 0) a2.toNatClampNeg (γ.1 b)) (5 * b + 1) ((sa γ (5 * b + 0) a2.toNatClampNeg (γ.1 b)).1 b).toNatClampNeg a2).1 b).toNatClampNeg (f3_markAt π a2)) (5 * b + 4) (0 : Int32).toNatClampNeg a2) 1 0).2.2) (5 * b + 2) (((f2_spread_L73 τ ρ π b a2 a3 8589934592 (sa (sa (sa (sa γ (5 * b + 0) a2.toNatClampNeg (γ.1 b)) (5 * b + 1) ((sa γ (5 * b + 0) a2.toNatClampNeg (γ.1 b)).1 b).toNatClampNeg a2) (5 * b + 3) ((sa (sa γ (5 * b + 0) a2.toNatClampNeg (γ.1 b)) (5 * b + 1) ((sa γ (5 * b + 0) a2.toNatClampNeg (γ.1 b)).1 b).toNatClampNeg a2).1 b).toNatClampNeg (f3_markAt π a2)) (5 * b + 4) (0 : Int32).toNatClampNeg a2) 1 0).2.2).1 b).toNatClampNeg ((f2_spread_L73 τ ρ π b a2 a3 8589934592 (sa (sa (sa (sa γ (5 * b + 0) a2.toNatClampNeg (γ.1 b)) (5 * b + 1) ((sa γ (5 * b + 0) a2.toNatClampNeg (γ.1 b)).1 b).toNatClampNeg a2) (5 * b + 3) ((sa (sa γ (5 * b + 0) a2.toNatClampNeg (γ.1 b)) (5 * b + 1) ((sa γ (5 * b + 0) a2.toNatClampNeg (γ.1 b)).1 b).toNatClampNeg a2).1 b).toNatClampNeg (f3_markAt π a2)) (5 * b + 4) (0 : Int32).toNatClampNeg a2) 1 0).1)) b (((sa ((f2_spread_L73 τ ρ π b a2 a3 8589934592 (sa (sa (sa (sa γ (5 * b + 0) a2.toNatClampNeg (γ.1 b)) (5 * b + 1) ((sa γ (5 * b + 0) a2.toNatClampNeg (γ.1 b)).1 b).toNatClampNeg a2) (5 * b + 3) ((sa (sa γ (5 * b + 0) a2.toNatClampNeg (γ.1 b)) (5 * b + 1) ((sa γ (5 * b + 0) a2.toNatClampNeg (γ.1 b)).1 b).toNatClampNeg a2).1 b).toNatClampNeg (f3_markAt π a2)) (5 * b + 4) (0 : Int32).toNatClampNeg a2) 1 0).2.2) (5 * b + 2) (((f2_spread_L73 τ ρ π b a2 a3 8589934592 (sa (sa (sa (sa γ (5 * b + 0) a2.toNatClampNeg (γ.1 b)) (5 * b + 1) ((sa γ (5 * b + 0) a2.toNatClampNeg (γ.1 b)).1 b).toNatClampNeg a2) (5 * b + 3) ((sa (sa γ (5 * b + 0) a2.toNatClampNeg (γ.1 b)) (5 * b + 1) ((sa γ (5 * b + 0) a2.toNatClampNeg (γ.1 b)).1 b).toNatClampNeg a2).1 b).toNatClampNeg (f3_markAt π a2)) (5 * b + 4) (0 : Int32).toNatClampNeg a2) 1 0).2.2).1 b).toNatClampNeg ((f2_spread_L73 τ ρ π b a2 a3 8589934592 (sa (sa (sa (sa γ (5 * b + 0) a2.toNatClampNeg (γ.1 b)) (5 * b + 1) ((sa γ (5 * b + 0) a2.toNatClampNeg (γ.1 b)).1 b).toNatClampNeg a2) (5 * b + 3) ((sa (sa γ (5 * b + 0) a2.toNatClampNeg (γ.1 b)) (5 * b + 1) ((sa γ (5 * b + 0) a2.toNatClampNeg (γ.1 b)).1 b).toNatClampNeg a2).1 b).toNatClampNeg (f3_markAt π a2)) (5 * b + 4) (0 : Int32).toNatClampNeg a2) 1 0).1)).1 b) + 1))))
set_option maxHeartbeats 400000 in
set_option maxRecDepth 100000 in
theorem m2_spread (l : Launch) (D : va_G) (cA : ClassId) (ad : Nat → Nat) (had : Apart ad) (τ ρ π γ : Sg) (hT : Ok τ) (b : Nat) (hb2 : b < 2) (a2 : Int32) (a3 : Int32) : Met l yX2_spread (wM yX2_spread cX2_spread 10 none) ({ frames := 2, cells := 0, slots := 0, locals := 45 }) (va_Pc [.ref (ad (5 + b)), .ref (ad 3), .int a2, .int a3] (pS D cA ad τ ρ π γ)) (qV D cA ad τ ρ π (f2_spread τ ρ π γ b a2 a3) none) 0 0 (aS ad) := by
  refine sy_of (by decide) (Nat.le_of_ble_eq_true rfl) ?_
  intro p e s m below meth c ls C hr hlk hK hN hP hl
  obtain ⟨hx, hb, hml, hown, hts⟩ := id C
  have htA : ∀ w ∈ wA, w.before ([.ref (ad (5 + b)), .ref (ad 3), .int a2, .int a3] : List Value).toArray s = true := fun w h => hts w (List.mem_cons_of_mem _ h)
  have hl : lv_has ls 10 [(0, .ref (ad (5 + b))), (1, .ref (ad 3)), (2, .int a2), (3, .int a3)] := hl
  have hS : va_S (aS ad) s.heap s.heap [] := va_S.rf
  refine lv_aload_n hx hb dX2_spread_0 rfl (lv_at hl 0 rfl) ?_
  refine gX2_0 hx hb htA hown hK hP (b := b) hb2 dX2_spread_1 ?_
  refine lv_iload_n hx hb dX2_spread_4 rfl (lv_at hl 2 rfl) ?_
  refine sy_cv (rest := []) C hK hN hP (m5_holds l D cA ad τ ρ π γ a2) (1) 7 rfl rfl kw_213 kw_175 kw_176 kw_16 kw_177 hd_X5_holds ⟨Nat.le_of_ble_eq_true rfl, Nat.le_of_ble_eq_true rfl⟩ rfl rfl rfl hl.1 rfl (Nat.le_of_ble_eq_true rfl) dX2_spread_5 ⟨Nat.zero_le _, Nat.zero_le _⟩ ?_
  refine lv_if_eq (tgt := 25) hx hb dX2_spread_8 (by decide) (fun c_1 => ?_) (fun c_1 => ?_)
  · have e9 : γ = f2_spread τ ρ π γ b a2 a3 := by unfold f2_spread; (try rw [if_pos c_1])
    exact sy_retV hx hb hr hlk hP hS (by rw [← e9]) dX2_spread_25
  · refine lv_aload_n hx hb dX2_spread_11 rfl (lv_at hl 0 rfl) ?_
    refine gX2_0 hx hb htA hown hK hP (b := b) hb2 dX2_spread_12 ?_
    refine lv_aload_n hx hb dX2_spread_15 rfl (lv_at hl 0 rfl) ?_
    refine gX2_7 hx hb htA hown hK hP (b := b) hb2 dX2_spread_16 ?_
    refine sy_cv (rest := []) C hK hN hP (m5_holds l D cA ad τ ρ π γ (γ.1 b)) (1) 7 rfl rfl kw_213 kw_175 kw_176 kw_16 kw_177 hd_X5_holds ⟨Nat.le_of_ble_eq_true rfl, Nat.le_of_ble_eq_true rfl⟩ rfl rfl rfl hl.1 rfl (Nat.le_of_ble_eq_true rfl) dX2_spread_19 ⟨Nat.zero_le _, Nat.zero_le _⟩ ?_
    refine lv_if_ne (tgt := 26) hx hb dX2_spread_22 (by decide) (fun c_2 => ?_) (fun c_2 => ?_)
    · refine lv_aload_n hx hb dX2_spread_26 rfl (lv_at hl 0 rfl) ?_
      refine gX2_2 hx hb htA hown hK hP (b := b) hb2 dX2_spread_27 ?_
      refine lv_iload_n hx hb dX2_spread_30 rfl (lv_at hl 2 rfl) ?_
      refine lv_aload_n hx hb dX2_spread_31 rfl (lv_at hl 0 rfl) ?_
      refine gX2_7 hx hb htA hown hK hP (b := b) hb2 dX2_spread_32 ?_
      refine sy_iast (τ' := τ) (ρ' := ρ) (π' := π) (γ' := (sa γ (5 * b + 0) a2.toNatClampNeg (γ.1 b))) hx hb hK hP had (fun _ h => h) hS (14 + 5 * b + 0) (wG_0 hb2) (wGs_0 hb2) (vin_holds hT c_1) dX2_spread_35 (fun H locs hP hS => ?_)
      refine lv_aload_n hx hb dX2_spread_36 rfl (lv_at hl 0 rfl) ?_
      refine gX2_3 hx hb htA hown hK hP (b := b) hb2 dX2_spread_37 ?_
      refine lv_aload_n hx hb dX2_spread_40 rfl (lv_at hl 0 rfl) ?_
      refine gX2_7 hx hb htA hown hK hP (b := b) hb2 dX2_spread_41 ?_
      refine lv_iload_n hx hb dX2_spread_44 rfl (lv_at hl 2 rfl) ?_
      refine sy_iast (τ' := τ) (ρ' := ρ) (π' := π) (γ' := (sa (sa γ (5 * b + 0) a2.toNatClampNeg (γ.1 b)) (5 * b + 1) ((sa γ (5 * b + 0) a2.toNatClampNeg (γ.1 b)).1 b).toNatClampNeg a2)) hx hb hK hP had (fun _ h => h) hS (14 + 5 * b + 1) (wG_1 hb2) (wGs_1 hb2) (vin_holds hT c_2) dX2_spread_45 (fun H locs hP hS => ?_)
      refine lv_aload_n hx hb dX2_spread_46 rfl (lv_at hl 0 rfl) ?_
      refine gX2_5 hx hb htA hown hK hP (b := b) hb2 dX2_spread_47 ?_
      refine lv_aload_n hx hb dX2_spread_50 rfl (lv_at hl 0 rfl) ?_
      refine gX2_7 hx hb htA hown hK hP (b := b) hb2 dX2_spread_51 ?_
      refine lv_aload_n hx hb dX2_spread_54 rfl (lv_at hl 1 rfl) ?_
      refine lv_iload_n hx hb dX2_spread_55 rfl (lv_at hl 2 rfl) ?_
      refine sy_cv (rest := [.int ((sa (sa γ (5 * b + 0) a2.toNatClampNeg (γ.1 b)) (5 * b + 1) ((sa γ (5 * b + 0) a2.toNatClampNeg (γ.1 b)).1 b).toNatClampNeg a2).1 b), .ref (ad (14 + 5 * b + 3))]) C hK hN hP (m3_markAt l D cA ad τ ρ π (sa (sa γ (5 * b + 0) a2.toNatClampNeg (γ.1 b)) (5 * b + 1) ((sa γ (5 * b + 0) a2.toNatClampNeg (γ.1 b)).1 b).toNatClampNeg a2) a2) (3) 5 rfl rfl kw_205 kw_206 kw_207 kw_24 kw_208 hd_X3_markAt ⟨Nat.le_of_ble_eq_true rfl, Nat.le_of_ble_eq_true rfl⟩ rfl rfl rfl hl.1 rfl (Nat.le_of_ble_eq_true rfl) dX2_spread_56 ⟨Nat.zero_le _, Nat.zero_le _⟩ ?_
      refine sy_iast (τ' := τ) (ρ' := ρ) (π' := π) (γ' := (sa (sa (sa γ (5 * b + 0) a2.toNatClampNeg (γ.1 b)) (5 * b + 1) ((sa γ (5 * b + 0) a2.toNatClampNeg (γ.1 b)).1 b).toNatClampNeg a2) (5 * b + 3) ((sa (sa γ (5 * b + 0) a2.toNatClampNeg (γ.1 b)) (5 * b + 1) ((sa γ (5 * b + 0) a2.toNatClampNeg (γ.1 b)).1 b).toNatClampNeg a2).1 b).toNatClampNeg (f3_markAt π a2))) hx hb hK hP had (fun _ h => h) hS (14 + 5 * b + 3) (wG_3 hb2) (wGs_3 hb2) (vin_holds hT c_2) dX2_spread_59 (fun H locs hP hS => ?_)
      refine lv_aload_n hx hb dX2_spread_60 rfl (lv_at hl 0 rfl) ?_
      refine gX2_6 hx hb htA hown hK hP (b := b) hb2 dX2_spread_61 ?_
      refine lv_iconst (v := 0) hx hb dX2_spread_64 (by decide) ?_
      refine lv_iload_n hx hb dX2_spread_65 rfl (lv_at hl 2 rfl) ?_
      refine sy_iast (τ' := τ) (ρ' := ρ) (π' := π) (γ' := (sa (sa (sa (sa γ (5 * b + 0) a2.toNatClampNeg (γ.1 b)) (5 * b + 1) ((sa γ (5 * b + 0) a2.toNatClampNeg (γ.1 b)).1 b).toNatClampNeg a2) (5 * b + 3) ((sa (sa γ (5 * b + 0) a2.toNatClampNeg (γ.1 b)) (5 * b + 1) ((sa γ (5 * b + 0) a2.toNatClampNeg (γ.1 b)).1 b).toNatClampNeg a2).1 b).toNatClampNeg (f3_markAt π a2)) (5 * b + 4) (0 : Int32).toNatClampNeg a2)) hx hb hK hP had (fun _ h => h) hS (14 + 5 * b + 4) (wG_4 hb2) (wGs_4 hb2) (vin_of_toInt (by decide) (by decide)) dX2_spread_66 (fun H locs hP hS => ?_)
      refine lv_iconst (v := 1) hx hb dX2_spread_67 (by decide) ?_
      refine lv_istore (lv' := [(4, .int 1), (0, .ref (ad (5 + b))), (1, .ref (ad 3)), (2, .int a2), (3, .int a3)]) hx hb dX2_spread_68 hl (by decide) rfl (fun ls hl => ?_)
      refine lv_iconst (v := 0) hx hb dX2_spread_70 (by decide) ?_
      refine lv_istore (lv' := [(5, .int 0), (4, .int 1), (0, .ref (ad (5 + b))), (1, .ref (ad 3)), (2, .int a2), (3, .int a3)]) hx hb dX2_spread_71 hl (by decide) rfl (fun ls hl => ?_)
      have hL73 : ∀ (x2 : Int32) (x3 : Int32) (n : Nat) (γ_73 : Sg) (x4 : Int32) (x5 : Int32), (¬ (f5_holds τ (γ_73.1 b)) = 0 ∧ 0 ≤ x4 ∧ 0 ≤ x5) → nm x5 64 < n → ∀ (H : Heap) (locs : List Loc), va_P D vwCl (wS cA ad τ ρ π γ_73) H → va_S (aS ad) s.heap H locs → ∀ ls : Array Slot, lv_has ls 10 [(0, .ref (ad (5 + b))), (1, .ref (ad 3)), (2, .int x2), (3, .int x3), (4, .int x4), (5, .int x5)] → (∀ (H : Heap) (locs : List Loc), va_P D vwCl (wS cA ad τ ρ π ((f2_spread_L73 τ ρ π b x2 x3 n γ_73 x4 x5).2.2)) H → va_S (aS ad) s.heap H locs → ∀ ls : Array Slot, lv_has ls 10 [(0, .ref (ad (5 + b))), (1, .ref (ad 3)), (2, .int x2), (3, .int x3), (4, .int ((f2_spread_L73 τ ρ π b x2 x3 n γ_73 x4 x5).1)), (5, .int ((f2_spread_L73 τ ρ π b x2 x3 n γ_73 x4 x5).2.1))] → W p l e ({ frames := 2, cells := 0, slots := 0, locals := 45 }) s m ([.ref (ad (5 + b)), .ref (ad 3), .int a2, .int a3] : List Value).toArray below meth c H locs 0 0 (MQ below (qV D cA ad τ ρ π (f2_spread τ ρ π γ b a2 a3) none) ([.ref (ad (5 + b)), .ref (ad 3), .int a2, .int a3] : List Value).toArray s 0 0 (aS ad)) (F0 m 228 ls [])) → W p l e ({ frames := 2, cells := 0, slots := 0, locals := 45 }) s m ([.ref (ad (5 + b)), .ref (ad 3), .int a2, .int a3] : List Value).toArray below meth c H locs 0 0 (MQ below (qV D cA ad τ ρ π (f2_spread τ ρ π γ b a2 a3) none) ([.ref (ad (5 + b)), .ref (ad 3), .int a2, .int a3] : List Value).toArray s 0 0 (aS ad)) (F0 m 73 ls []) := by
        intro x2 x3 n
        induction n with
        | zero =>
          intro γ_73 x4 x5 hy hn
          exact absurd hn (Nat.not_lt_zero _)
        | succ n ih =>
          intro γ_73 x4 x5 hy hn H locs hP hS ls hl kk
          refine lv_iload hx hb dX2_spread_73 (lv_at hl 5 rfl) ?_
          refine lv_iload hx hb dX2_spread_75 (lv_at hl 4 rfl) ?_
          refine lv_icmp_ge (tgt := 228) hx hb dX2_spread_77 (by decide) (fun c_3 => ?_) (fun c_3 => ?_)
          · have e9 : f2_spread_L73 τ ρ π b x2 x3 (n + 1) γ_73 x4 x5 = (x4, x5, γ_73) := by rw [f2_spread_L73_s]; (try rw [if_pos c_3])
            rw [e9] at kk
            exact kk _ _ hP hS ls (lv_sub hl [0, 1, 2, 3, 4, 5] rfl)
          · refine lv_iload hx hb dX2_spread_80 (lv_at hl 5 rfl) ?_
            refine lv_bipush (v := 64) hx hb dX2_spread_82 (by decide) ?_
            refine lv_icmp_ge (tgt := 228) hx hb dX2_spread_84 (by decide) (fun c_4 => ?_) (fun c_4 => ?_)
            · have e9 : f2_spread_L73 τ ρ π b x2 x3 (n + 1) γ_73 x4 x5 = (x4, x5, γ_73) := by rw [f2_spread_L73_s]; (try rw [if_neg c_3]); (try rw [if_pos c_4])
              rw [e9] at kk
              exact kk _ _ hP hS ls (lv_sub hl [0, 1, 2, 3, 4, 5] rfl)
            · refine lv_aload_n hx hb dX2_spread_87 rfl (lv_at hl 0 rfl) ?_
              refine gX2_6 hx hb htA hown hK hP (b := b) hb2 dX2_spread_88 ?_
              refine lv_iload hx hb dX2_spread_91 (lv_at hl 5 rfl) ?_
              refine sy_iald hx hb hK hP (14 + 5 * b + 4) (wG_4 hb2) (vin_le hy.2.2 (Int32.not_le.mp c_4) (by decide)) dX2_spread_93 ?_
              refine lv_istore (lv' := [(6, .int (γ_73.2 (5 * b + 4) x5.toNatClampNeg)), (0, .ref (ad (5 + b))), (1, .ref (ad 3)), (2, .int x2), (3, .int x3), (4, .int x4), (5, .int x5)]) hx hb dX2_spread_94 hl (by decide) rfl (fun ls hl => ?_)
              refine lv_aload_n hx hb dX2_spread_96 rfl (lv_at hl 2 rfl) ?_
              refine lv_iload hx hb dX2_spread_97 (lv_at hl 0 rfl) ?_
              refine sy_cv (rest := []) C hK hN hP (m3_markAt l D cA ad τ ρ π γ_73 (γ_73.2 (5 * b + 4) x5.toNatClampNeg)) (3) 5 rfl rfl kw_205 kw_206 kw_207 kw_24 kw_208 hd_X3_markAt ⟨Nat.le_of_ble_eq_true rfl, Nat.le_of_ble_eq_true rfl⟩ rfl rfl rfl hl.1 rfl (Nat.le_of_ble_eq_true rfl) dX2_spread_99 ⟨Nat.zero_le _, Nat.zero_le _⟩ ?_
              refine lv_istore (lv' := [(7, .int (f3_markAt π (γ_73.2 (5 * b + 4) x5.toNatClampNeg))), (6, .int (γ_73.2 (5 * b + 4) x5.toNatClampNeg)), (0, .ref (ad (5 + b))), (1, .ref (ad 3)), (2, .int x2), (3, .int x3), (4, .int x4), (5, .int x5)]) hx hb dX2_spread_102 hl (by decide) rfl (fun ls hl => ?_)
              refine lv_aload_n hx hb dX2_spread_104 rfl (lv_at hl 2 rfl) ?_
              refine gX2_5 hx hb htA hown hK hP (b := b) hb2 dX2_spread_105 ?_
              refine lv_aload_n hx hb dX2_spread_108 rfl (lv_at hl 2 rfl) ?_
              refine gX2_7 hx hb htA hown hK hP (b := b) hb2 dX2_spread_109 ?_
              refine lv_aload_n hx hb dX2_spread_112 rfl (lv_at hl 2 rfl) ?_
              refine gX2_5 hx hb htA hown hK hP (b := b) hb2 dX2_spread_113 ?_
              refine lv_aload_n hx hb dX2_spread_116 rfl (lv_at hl 2 rfl) ?_
              refine gX2_7 hx hb htA hown hK hP (b := b) hb2 dX2_spread_117 ?_
              refine sy_iald hx hb hK hP (14 + 5 * b + 3) (wG_3 hb2) (vin_holds hT hy.1) dX2_spread_120 ?_
              refine lv_iload hx hb dX2_spread_121 (lv_at hl 0 rfl) ?_
              refine va_mmin hx hb (hml.trans hl.1.symm) hown (htA _ kw_218) (htA _ kw_161) (htA _ kw_162) (htA _ kw_163) (Nat.le_of_ble_eq_true rfl) (Nat.le_of_ble_eq_true rfl) (Nat.zero_le _) (Nat.zero_le _) dX2_spread_123 ?_
              refine sy_iast (τ' := τ) (ρ' := ρ) (π' := π) (γ' := (sa γ_73 (5 * b + 3) (γ_73.1 b).toNatClampNeg (if (f3_markAt π (γ_73.2 (5 * b + 4) x5.toNatClampNeg)) < (γ_73.2 (5 * b + 3) (γ_73.1 b).toNatClampNeg) then (f3_markAt π (γ_73.2 (5 * b + 4) x5.toNatClampNeg)) else (γ_73.2 (5 * b + 3) (γ_73.1 b).toNatClampNeg)))) hx hb hK hP had (fun _ h => h) hS (14 + 5 * b + 3) (wG_3 hb2) (wGs_3 hb2) (vin_holds hT hy.1) dX2_spread_126 (fun H locs hP hS => ?_)
              refine lv_iconst (v := 0) hx hb dX2_spread_127 (by decide) ?_
              refine lv_istore (lv' := [(8, .int 0), (7, .int (f3_markAt π (γ_73.2 (5 * b + 4) x5.toNatClampNeg))), (6, .int (γ_73.2 (5 * b + 4) x5.toNatClampNeg)), (0, .ref (ad (5 + b))), (1, .ref (ad 3)), (2, .int x2), (3, .int x3), (4, .int x4), (5, .int x5)]) hx hb dX2_spread_128 hl (by decide) rfl (fun ls hl => ?_)
              have hL130 : ∀ (x2 : Int32) (x3 : Int32) (x5 : Int32) (x6 : Int32) (x7 : Int32) (n : Nat) (γ_130 : Sg) (x4 : Int32) (x8 : Int32), (¬ (f5_holds τ (γ_130.1 b)) = 0 ∧ 0 ≤ x4) → nm x8 (f5_besideMany τ x6) < n → ∀ (H : Heap) (locs : List Loc), va_P D vwCl (wS cA ad τ ρ π γ_130) H → va_S (aS ad) s.heap H locs → ∀ ls : Array Slot, lv_has ls 10 [(0, .ref (ad (5 + b))), (1, .ref (ad 3)), (2, .int x2), (3, .int x3), (4, .int x4), (5, .int x5), (6, .int x6), (7, .int x7), (8, .int x8)] → (∀ (H : Heap) (locs : List Loc), va_P D vwCl (wS cA ad τ ρ π ((f2_spread_L130 τ ρ π b x2 x3 x5 x6 x7 n γ_130 x4 x8).2.2)) H → va_S (aS ad) s.heap H locs → ∀ ls : Array Slot, lv_has ls 10 [(0, .ref (ad (5 + b))), (1, .ref (ad 3)), (2, .int x2), (3, .int x3), (4, .int ((f2_spread_L130 τ ρ π b x2 x3 x5 x6 x7 n γ_130 x4 x8).1)), (5, .int x5), (6, .int x6), (7, .int x7), (8, .int ((f2_spread_L130 τ ρ π b x2 x3 x5 x6 x7 n γ_130 x4 x8).2.1))] → W p l e ({ frames := 2, cells := 0, slots := 0, locals := 45 }) s m ([.ref (ad (5 + b)), .ref (ad 3), .int a2, .int a3] : List Value).toArray below meth c H locs 0 0 (MQ below (qV D cA ad τ ρ π (f2_spread τ ρ π γ b a2 a3) none) ([.ref (ad (5 + b)), .ref (ad 3), .int a2, .int a3] : List Value).toArray s 0 0 (aS ad)) (F0 m 222 ls [])) → W p l e ({ frames := 2, cells := 0, slots := 0, locals := 45 }) s m ([.ref (ad (5 + b)), .ref (ad 3), .int a2, .int a3] : List Value).toArray below meth c H locs 0 0 (MQ below (qV D cA ad τ ρ π (f2_spread τ ρ π γ b a2 a3) none) ([.ref (ad (5 + b)), .ref (ad 3), .int a2, .int a3] : List Value).toArray s 0 0 (aS ad)) (F0 m 130 ls []) := by
                intro x2 x3 x5 x6 x7 n
                induction n with
                | zero =>
                  intro γ_130 x4 x8 hy hn
                  exact absurd hn (Nat.not_lt_zero _)
                | succ n ih =>
                  intro γ_130 x4 x8 hy hn H locs hP hS ls hl kk
                  refine lv_iload hx hb dX2_spread_130 (lv_at hl 8 rfl) ?_
                  refine lv_aload_n hx hb dX2_spread_132 rfl (lv_at hl 0 rfl) ?_
                  refine gX2_0 hx hb htA hown hK hP (b := b) hb2 dX2_spread_133 ?_
                  refine lv_iload hx hb dX2_spread_136 (lv_at hl 6 rfl) ?_
                  refine sy_cv (rest := [.int x8]) C hK hN hP (m5_besideMany l D cA ad τ ρ π γ_130 hT x6) (1) 7 rfl rfl kw_219 kw_220 kw_221 kw_16 kw_222 hd_X5_besideMany ⟨Nat.le_of_ble_eq_true rfl, Nat.le_of_ble_eq_true rfl⟩ rfl rfl rfl hl.1 rfl (Nat.le_of_ble_eq_true rfl) dX2_spread_138 ⟨Nat.zero_le _, Nat.zero_le _⟩ ?_
                  refine lv_icmp_ge (tgt := 222) hx hb dX2_spread_141 (by decide) (fun c_5 => ?_) (fun c_5 => ?_)
                  · have e9 : f2_spread_L130 τ ρ π b x2 x3 x5 x6 x7 (n + 1) γ_130 x4 x8 = (x4, x8, γ_130) := by rw [f2_spread_L130_s]; (try rw [if_pos c_5])
                    rw [e9] at kk
                    exact kk _ _ hP hS ls (lv_sub hl [0, 1, 2, 3, 4, 5, 6, 7, 8] rfl)
                  · refine lv_aload_n hx hb dX2_spread_144 rfl (lv_at hl 0 rfl) ?_
                    refine gX2_0 hx hb htA hown hK hP (b := b) hb2 dX2_spread_145 ?_
                    refine lv_iload hx hb dX2_spread_148 (lv_at hl 6 rfl) ?_
                    refine lv_iload hx hb dX2_spread_150 (lv_at hl 8 rfl) ?_
                    refine sy_cv (rest := []) C hK hN hP (m5_beside l D cA ad τ ρ π γ_130 hT x6 x8) (1) 7 rfl rfl kw_223 kw_224 kw_225 kw_16 kw_226 hd_X5_beside ⟨Nat.le_of_ble_eq_true rfl, Nat.le_of_ble_eq_true rfl⟩ rfl rfl rfl hl.1 rfl (Nat.le_of_ble_eq_true rfl) dX2_spread_152 ⟨Nat.zero_le _, Nat.zero_le _⟩ ?_
                    refine lv_istore (lv' := [(9, .int (f5_beside τ x6 x8)), (0, .ref (ad (5 + b))), (1, .ref (ad 3)), (2, .int x2), (3, .int x3), (4, .int x4), (5, .int x5), (6, .int x6), (7, .int x7), (8, .int x8)]) hx hb dX2_spread_155 hl (by decide) rfl (fun ls hl => ?_)
                    refine lv_aload_n hx hb dX2_spread_157 rfl (lv_at hl 1 rfl) ?_
                    refine lv_aload_n hx hb dX2_spread_158 rfl (lv_at hl 2 rfl) ?_
                    refine lv_iload hx hb dX2_spread_159 (lv_at hl 0 rfl) ?_
                    refine sy_cv (rest := []) C hK hN hP (m2_isNew l D cA ad τ ρ π γ_130 hT b hb2 (f5_beside τ x6 x8)) (5 + b) 4 (wGo hb2) rfl kw_227 kw_228 kw_229 kw_81 kw_230 hd_X2_isNew ⟨Nat.le_of_ble_eq_true rfl, Nat.le_of_ble_eq_true rfl⟩ rfl rfl rfl hl.1 rfl (Nat.le_of_ble_eq_true rfl) dX2_spread_161 ⟨Nat.zero_le _, Nat.zero_le _⟩ ?_
                    refine lv_if_eq (tgt := 216) hx hb dX2_spread_164 (by decide) (fun c_6 => ?_) (fun c_6 => ?_)
                    · refine lv_iinc (v := x8 + 1) (lv' := [(8, .int (x8 + 1)), (9, .int (f5_beside τ x6 x8)), (0, .ref (ad (5 + b))), (1, .ref (ad 3)), (2, .int x2), (3, .int x3), (4, .int x4), (5, .int x5), (6, .int x6), (7, .int x7)]) hx hb dX2_spread_216 hl (k := 9) rfl (by rfl) (by decide) rfl (fun ls hl => ?_)
                      refine lv_goto (tgt := 130) hx hb dX2_spread_219 (by decide) ?_
                      have e9 : f2_spread_L130 τ ρ π b x2 x3 x5 x6 x7 (n + 1) γ_130 x4 x8 = f2_spread_L130 τ ρ π b x2 x3 x5 x6 x7 n γ_130 x4 (x8 + 1) := by rw [f2_spread_L130_s]; (try rw [if_neg c_5]); (try rw [if_pos c_6])
                      rw [e9] at kk
                      exact ih γ_130 x4 (x8 + 1) ⟨hy.1, hy.2⟩ (nm_dec (Int32.not_le.mp c_5) hn) _ _ hP hS ls (lv_sub hl [2, 3, 4, 5, 6, 7, 8, 9, 0] rfl) kk
                    · refine lv_aload_n hx hb dX2_spread_167 rfl (lv_at hl 1 rfl) ?_
                      refine gX2_1 hx hb htA hown hK hP (b := b) hb2 dX2_spread_168 ?_
                      refine lv_iload hx hb dX2_spread_171 (lv_at hl 8 rfl) ?_
                      refine lv_aload_n hx hb dX2_spread_173 rfl (lv_at hl 2 rfl) ?_
                      refine lv_iload hx hb dX2_spread_174 (lv_at hl 0 rfl) ?_
                      refine sy_cv (rest := [.int x7, .ref (ad 2)]) C hK hN hP (m3_markAt l D cA ad τ ρ π γ_130 (f5_beside τ x6 x8)) (3) 5 rfl rfl kw_205 kw_206 kw_207 kw_24 kw_208 hd_X3_markAt ⟨Nat.le_of_ble_eq_true rfl, Nat.le_of_ble_eq_true rfl⟩ rfl rfl rfl hl.1 rfl (Nat.le_of_ble_eq_true rfl) dX2_spread_176 ⟨Nat.zero_le _, Nat.zero_le _⟩ ?_
                      refine lv_iload_n hx hb dX2_spread_179 rfl (lv_at hl 4 rfl) ?_
                      refine sy_cv (rest := []) C hK hN hP (m4_isSeen l D cA ad τ ρ π γ_130 x7 (f3_markAt π (f5_beside τ x6 x8)) x3) (2) 6 rfl rfl kw_231 kw_232 kw_233 kw_20 kw_234 hd_X4_isSeen ⟨Nat.le_of_ble_eq_true rfl, Nat.le_of_ble_eq_true rfl⟩ rfl rfl rfl hl.1 rfl (Nat.le_of_ble_eq_true rfl) dX2_spread_180 ⟨Nat.zero_le _, Nat.zero_le _⟩ ?_
                      refine lv_if_ne (tgt := 216) hx hb dX2_spread_183 (by decide) (fun c_7 => ?_) (fun c_7 => ?_)
                      · refine lv_iinc (v := x8 + 1) (lv' := [(8, .int (x8 + 1)), (9, .int (f5_beside τ x6 x8)), (0, .ref (ad (5 + b))), (1, .ref (ad 3)), (2, .int x2), (3, .int x3), (4, .int x4), (5, .int x5), (6, .int x6), (7, .int x7)]) hx hb dX2_spread_216 hl (k := 9) rfl (by rfl) (by decide) rfl (fun ls hl => ?_)
                        refine lv_goto (tgt := 130) hx hb dX2_spread_219 (by decide) ?_
                        have e9 : f2_spread_L130 τ ρ π b x2 x3 x5 x6 x7 (n + 1) γ_130 x4 x8 = f2_spread_L130 τ ρ π b x2 x3 x5 x6 x7 n γ_130 x4 (x8 + 1) := by rw [f2_spread_L130_s]; (try rw [if_neg c_5]); (try rw [if_neg c_6]); (try rw [if_neg c_7])
                        rw [e9] at kk
                        exact ih γ_130 x4 (x8 + 1) ⟨hy.1, hy.2⟩ (nm_dec (Int32.not_le.mp c_5) hn) _ _ hP hS ls (lv_sub hl [2, 3, 4, 5, 6, 7, 8, 9, 0] rfl) kk
                      · refine lv_iload hx hb dX2_spread_186 (lv_at hl 5 rfl) ?_
                        refine lv_bipush (v := 64) hx hb dX2_spread_188 (by decide) ?_
                        refine lv_icmp_ge (tgt := 216) hx hb dX2_spread_190 (by decide) (fun c_8 => ?_) (fun c_8 => ?_)
                        · refine lv_iinc (v := x8 + 1) (lv' := [(8, .int (x8 + 1)), (9, .int (f5_beside τ x6 x8)), (0, .ref (ad (5 + b))), (1, .ref (ad 3)), (2, .int x2), (3, .int x3), (4, .int x4), (5, .int x5), (6, .int x6), (7, .int x7)]) hx hb dX2_spread_216 hl (k := 9) rfl (by rfl) (by decide) rfl (fun ls hl => ?_)
                          refine lv_goto (tgt := 130) hx hb dX2_spread_219 (by decide) ?_
                          have e9 : f2_spread_L130 τ ρ π b x2 x3 x5 x6 x7 (n + 1) γ_130 x4 x8 = f2_spread_L130 τ ρ π b x2 x3 x5 x6 x7 n γ_130 x4 (x8 + 1) := by rw [f2_spread_L130_s]; (try rw [if_neg c_5]); (try rw [if_neg c_6]); (try rw [if_pos c_7]); (try rw [if_pos c_8])
                          rw [e9] at kk
                          exact ih γ_130 x4 (x8 + 1) ⟨hy.1, hy.2⟩ (nm_dec (Int32.not_le.mp c_5) hn) _ _ hP hS ls (lv_sub hl [2, 3, 4, 5, 6, 7, 8, 9, 0] rfl) kk
                        · refine lv_aload_n hx hb dX2_spread_193 rfl (lv_at hl 1 rfl) ?_
                          refine gX2_2 hx hb htA hown hK hP (b := b) hb2 dX2_spread_194 ?_
                          refine lv_iload hx hb dX2_spread_197 (lv_at hl 0 rfl) ?_
                          refine lv_aload_n hx hb dX2_spread_199 rfl (lv_at hl 1 rfl) ?_
                          refine gX2_7 hx hb htA hown hK hP (b := b) hb2 dX2_spread_200 ?_
                          refine sy_iast (τ' := τ) (ρ' := ρ) (π' := π) (γ' := (sa γ_130 (5 * b + 0) (f5_beside τ x6 x8).toNatClampNeg (γ_130.1 b))) hx hb hK hP had (fun _ h => h) hS (14 + 5 * b + 0) (wG_0 hb2) (wGs_0 hb2) (vin_isNew hT c_6) dX2_spread_203 (fun H locs hP hS => ?_)
                          refine lv_aload_n hx hb dX2_spread_204 rfl (lv_at hl 1 rfl) ?_
                          refine gX2_6 hx hb htA hown hK hP (b := b) hb2 dX2_spread_205 ?_
                          refine lv_iload hx hb dX2_spread_208 (lv_at hl 5 rfl) ?_
                          refine lv_iload hx hb dX2_spread_210 (lv_at hl 0 rfl) ?_
                          refine sy_iast (τ' := τ) (ρ' := ρ) (π' := π) (γ' := (sa (sa γ_130 (5 * b + 0) (f5_beside τ x6 x8).toNatClampNeg (γ_130.1 b)) (5 * b + 4) x4.toNatClampNeg (f5_beside τ x6 x8))) hx hb hK hP had (fun _ h => h) hS (14 + 5 * b + 4) (wG_4 hb2) (wGs_4 hb2) (vin_le hy.2 (Int32.not_le.mp c_8) (by decide)) dX2_spread_212 (fun H locs hP hS => ?_)
                          refine lv_iinc (v := x4 + 1) (lv' := [(4, .int (x4 + 1)), (9, .int (f5_beside τ x6 x8)), (0, .ref (ad (5 + b))), (1, .ref (ad 3)), (2, .int x2), (3, .int x3), (5, .int x5), (6, .int x6), (7, .int x7), (8, .int x8)]) hx hb dX2_spread_213 hl (k := 5) rfl (by rfl) (by decide) rfl (fun ls hl => ?_)
                          refine lv_iinc (v := x8 + 1) (lv' := [(8, .int (x8 + 1)), (4, .int (x4 + 1)), (9, .int (f5_beside τ x6 x8)), (0, .ref (ad (5 + b))), (1, .ref (ad 3)), (2, .int x2), (3, .int x3), (5, .int x5), (6, .int x6), (7, .int x7)]) hx hb dX2_spread_216 hl (k := 9) rfl (by rfl) (by decide) rfl (fun ls hl => ?_)
                          refine lv_goto (tgt := 130) hx hb dX2_spread_219 (by decide) ?_
                          have e9 : f2_spread_L130 τ ρ π b x2 x3 x5 x6 x7 (n + 1) γ_130 x4 x8 = f2_spread_L130 τ ρ π b x2 x3 x5 x6 x7 n (sa (sa γ_130 (5 * b + 0) (f5_beside τ x6 x8).toNatClampNeg (γ_130.1 b)) (5 * b + 4) x4.toNatClampNeg (f5_beside τ x6 x8)) (x4 + 1) (x8 + 1) := by rw [f2_spread_L130_s]; (try rw [if_neg c_5]); (try rw [if_neg c_6]); (try rw [if_pos c_7]); (try rw [if_neg c_8])
                          rw [e9] at kk
                          exact ih (sa (sa γ_130 (5 * b + 0) (f5_beside τ x6 x8).toNatClampNeg (γ_130.1 b)) (5 * b + 4) x4.toNatClampNeg (f5_beside τ x6 x8)) (x4 + 1) (x8 + 1) ⟨hy.1, inc_nonneg hy.2 (Int32.not_le.mp c_8)⟩ (nm_dec (Int32.not_le.mp c_5) hn) _ _ hP hS ls (lv_sub hl [3, 4, 5, 6, 1, 7, 8, 9, 0] rfl) kk
              refine hL130 x2 x3 x5 (γ_73.2 (5 * b + 4) x5.toNatClampNeg) (f3_markAt π (γ_73.2 (5 * b + 4) x5.toNatClampNeg)) 8589934592 (sa γ_73 (5 * b + 3) (γ_73.1 b).toNatClampNeg (if (f3_markAt π (γ_73.2 (5 * b + 4) x5.toNatClampNeg)) < (γ_73.2 (5 * b + 3) (γ_73.1 b).toNatClampNeg) then (f3_markAt π (γ_73.2 (5 * b + 4) x5.toNatClampNeg)) else (γ_73.2 (5 * b + 3) (γ_73.1 b).toNatClampNeg))) x4 0 ⟨hy.1, hy.2.1⟩ (nm_lt _ _) _ _ hP hS ls (lv_sub hl [3, 4, 5, 6, 7, 8, 2, 1, 0] rfl) (fun H locs hP hS ls hl => ?_)
              refine lv_iinc (v := x5 + 1) (lv' := [(5, .int (x5 + 1)), (0, .ref (ad (5 + b))), (1, .ref (ad 3)), (2, .int x2), (3, .int x3), (4, .int ((f2_spread_L130 τ ρ π b x2 x3 x5 (γ_73.2 (5 * b + 4) x5.toNatClampNeg) (f3_markAt π (γ_73.2 (5 * b + 4) x5.toNatClampNeg)) 8589934592 (sa γ_73 (5 * b + 3) (γ_73.1 b).toNatClampNeg (if (f3_markAt π (γ_73.2 (5 * b + 4) x5.toNatClampNeg)) < (γ_73.2 (5 * b + 3) (γ_73.1 b).toNatClampNeg) then (f3_markAt π (γ_73.2 (5 * b + 4) x5.toNatClampNeg)) else (γ_73.2 (5 * b + 3) (γ_73.1 b).toNatClampNeg))) x4 0).1)), (6, .int (γ_73.2 (5 * b + 4) x5.toNatClampNeg)), (7, .int (f3_markAt π (γ_73.2 (5 * b + 4) x5.toNatClampNeg))), (8, .int ((f2_spread_L130 τ ρ π b x2 x3 x5 (γ_73.2 (5 * b + 4) x5.toNatClampNeg) (f3_markAt π (γ_73.2 (5 * b + 4) x5.toNatClampNeg)) 8589934592 (sa γ_73 (5 * b + 3) (γ_73.1 b).toNatClampNeg (if (f3_markAt π (γ_73.2 (5 * b + 4) x5.toNatClampNeg)) < (γ_73.2 (5 * b + 3) (γ_73.1 b).toNatClampNeg) then (f3_markAt π (γ_73.2 (5 * b + 4) x5.toNatClampNeg)) else (γ_73.2 (5 * b + 3) (γ_73.1 b).toNatClampNeg))) x4 0).2.1))]) hx hb dX2_spread_222 hl (k := 5) rfl (by rfl) (by decide) rfl (fun ls hl => ?_)
              refine lv_goto (tgt := 73) hx hb dX2_spread_225 (by decide) ?_
              have e9 : f2_spread_L73 τ ρ π b x2 x3 (n + 1) γ_73 x4 x5 = f2_spread_L73 τ ρ π b x2 x3 n ((f2_spread_L130 τ ρ π b x2 x3 x5 (γ_73.2 (5 * b + 4) x5.toNatClampNeg) (f3_markAt π (γ_73.2 (5 * b + 4) x5.toNatClampNeg)) 8589934592 (sa γ_73 (5 * b + 3) (γ_73.1 b).toNatClampNeg (if (f3_markAt π (γ_73.2 (5 * b + 4) x5.toNatClampNeg)) < (γ_73.2 (5 * b + 3) (γ_73.1 b).toNatClampNeg) then (f3_markAt π (γ_73.2 (5 * b + 4) x5.toNatClampNeg)) else (γ_73.2 (5 * b + 3) (γ_73.1 b).toNatClampNeg))) x4 0).2.2) ((f2_spread_L130 τ ρ π b x2 x3 x5 (γ_73.2 (5 * b + 4) x5.toNatClampNeg) (f3_markAt π (γ_73.2 (5 * b + 4) x5.toNatClampNeg)) 8589934592 (sa γ_73 (5 * b + 3) (γ_73.1 b).toNatClampNeg (if (f3_markAt π (γ_73.2 (5 * b + 4) x5.toNatClampNeg)) < (γ_73.2 (5 * b + 3) (γ_73.1 b).toNatClampNeg) then (f3_markAt π (γ_73.2 (5 * b + 4) x5.toNatClampNeg)) else (γ_73.2 (5 * b + 3) (γ_73.1 b).toNatClampNeg))) x4 0).1) (x5 + 1) := by rw [f2_spread_L73_s]; (try rw [if_neg c_3]); (try rw [if_neg c_4])
              rw [e9] at kk
              exact ih ((f2_spread_L130 τ ρ π b x2 x3 x5 (γ_73.2 (5 * b + 4) x5.toNatClampNeg) (f3_markAt π (γ_73.2 (5 * b + 4) x5.toNatClampNeg)) 8589934592 (sa γ_73 (5 * b + 3) (γ_73.1 b).toNatClampNeg (if (f3_markAt π (γ_73.2 (5 * b + 4) x5.toNatClampNeg)) < (γ_73.2 (5 * b + 3) (γ_73.1 b).toNatClampNeg) then (f3_markAt π (γ_73.2 (5 * b + 4) x5.toNatClampNeg)) else (γ_73.2 (5 * b + 3) (γ_73.1 b).toNatClampNeg))) x4 0).2.2) ((f2_spread_L130 τ ρ π b x2 x3 x5 (γ_73.2 (5 * b + 4) x5.toNatClampNeg) (f3_markAt π (γ_73.2 (5 * b + 4) x5.toNatClampNeg)) 8589934592 (sa γ_73 (5 * b + 3) (γ_73.1 b).toNatClampNeg (if (f3_markAt π (γ_73.2 (5 * b + 4) x5.toNatClampNeg)) < (γ_73.2 (5 * b + 3) (γ_73.1 b).toNatClampNeg) then (f3_markAt π (γ_73.2 (5 * b + 4) x5.toNatClampNeg)) else (γ_73.2 (5 * b + 3) (γ_73.1 b).toNatClampNeg))) x4 0).1) (x5 + 1) ⟨by rw [sp130_1]; exact hy.1, sp130_2 _ _ _ _ hy.2.1, inc_nonneg hy.2.2 (Int32.not_le.mp c_4)⟩ (nm_dec (Int32.not_le.mp c_4) hn) _ _ hP hS ls (lv_sub hl [1, 2, 3, 4, 5, 0] rfl) kk
      refine hL73 a2 a3 8589934592 (sa (sa (sa (sa γ (5 * b + 0) a2.toNatClampNeg (γ.1 b)) (5 * b + 1) ((sa γ (5 * b + 0) a2.toNatClampNeg (γ.1 b)).1 b).toNatClampNeg a2) (5 * b + 3) ((sa (sa γ (5 * b + 0) a2.toNatClampNeg (γ.1 b)) (5 * b + 1) ((sa γ (5 * b + 0) a2.toNatClampNeg (γ.1 b)).1 b).toNatClampNeg a2).1 b).toNatClampNeg (f3_markAt π a2)) (5 * b + 4) (0 : Int32).toNatClampNeg a2) 1 0 ⟨c_2, by decide, by decide⟩ (nm_lt _ _) _ _ hP hS ls (lv_sub hl [2, 3, 4, 5, 1, 0] rfl) (fun H locs hP hS ls hl => ?_)
      refine lv_aload_n hx hb dX2_spread_228 rfl (lv_at hl 0 rfl) ?_
      refine gX2_4 hx hb htA hown hK hP (b := b) hb2 dX2_spread_229 ?_
      refine lv_aload_n hx hb dX2_spread_232 rfl (lv_at hl 0 rfl) ?_
      refine gX2_7 hx hb htA hown hK hP (b := b) hb2 dX2_spread_233 ?_
      refine lv_iload hx hb dX2_spread_236 (lv_at hl 4 rfl) ?_
      refine sy_iast (τ' := τ) (ρ' := ρ) (π' := π) (γ' := (sa ((f2_spread_L73 τ ρ π b a2 a3 8589934592 (sa (sa (sa (sa γ (5 * b + 0) a2.toNatClampNeg (γ.1 b)) (5 * b + 1) ((sa γ (5 * b + 0) a2.toNatClampNeg (γ.1 b)).1 b).toNatClampNeg a2) (5 * b + 3) ((sa (sa γ (5 * b + 0) a2.toNatClampNeg (γ.1 b)) (5 * b + 1) ((sa γ (5 * b + 0) a2.toNatClampNeg (γ.1 b)).1 b).toNatClampNeg a2).1 b).toNatClampNeg (f3_markAt π a2)) (5 * b + 4) (0 : Int32).toNatClampNeg a2) 1 0).2.2) (5 * b + 2) (((f2_spread_L73 τ ρ π b a2 a3 8589934592 (sa (sa (sa (sa γ (5 * b + 0) a2.toNatClampNeg (γ.1 b)) (5 * b + 1) ((sa γ (5 * b + 0) a2.toNatClampNeg (γ.1 b)).1 b).toNatClampNeg a2) (5 * b + 3) ((sa (sa γ (5 * b + 0) a2.toNatClampNeg (γ.1 b)) (5 * b + 1) ((sa γ (5 * b + 0) a2.toNatClampNeg (γ.1 b)).1 b).toNatClampNeg a2).1 b).toNatClampNeg (f3_markAt π a2)) (5 * b + 4) (0 : Int32).toNatClampNeg a2) 1 0).2.2).1 b).toNatClampNeg ((f2_spread_L73 τ ρ π b a2 a3 8589934592 (sa (sa (sa (sa γ (5 * b + 0) a2.toNatClampNeg (γ.1 b)) (5 * b + 1) ((sa γ (5 * b + 0) a2.toNatClampNeg (γ.1 b)).1 b).toNatClampNeg a2) (5 * b + 3) ((sa (sa γ (5 * b + 0) a2.toNatClampNeg (γ.1 b)) (5 * b + 1) ((sa γ (5 * b + 0) a2.toNatClampNeg (γ.1 b)).1 b).toNatClampNeg a2).1 b).toNatClampNeg (f3_markAt π a2)) (5 * b + 4) (0 : Int32).toNatClampNeg a2) 1 0).1))) hx hb hK hP had (fun _ h => h) hS (14 + 5 * b + 2) (wG_2 hb2) (wGs_2 hb2) (by rw [sp73_1]; exact vin_holds hT c_2) dX2_spread_238 (fun H locs hP hS => ?_)
      refine lv_aload_n hx hb dX2_spread_239 rfl (lv_at hl 0 rfl) ?_
      refine lv_dup hx hb dX2_spread_240 rfl ?_
      refine gX2_7 hx hb htA hown hK hP (b := b) hb2 dX2_spread_241 ?_
      refine lv_iconst (v := 1) hx hb dX2_spread_244 (by decide) ?_
      refine lv_iadd hx hb dX2_spread_245 ?_
      refine pX2_7 hx hb htA hown hK hP had (fun _ h => h) hS (b := b) hb2 dX2_spread_246 (fun H locs hP hS => ?_)
      have e9 : (si (sa ((f2_spread_L73 τ ρ π b a2 a3 8589934592 (sa (sa (sa (sa γ (5 * b + 0) a2.toNatClampNeg (γ.1 b)) (5 * b + 1) ((sa γ (5 * b + 0) a2.toNatClampNeg (γ.1 b)).1 b).toNatClampNeg a2) (5 * b + 3) ((sa (sa γ (5 * b + 0) a2.toNatClampNeg (γ.1 b)) (5 * b + 1) ((sa γ (5 * b + 0) a2.toNatClampNeg (γ.1 b)).1 b).toNatClampNeg a2).1 b).toNatClampNeg (f3_markAt π a2)) (5 * b + 4) (0 : Int32).toNatClampNeg a2) 1 0).2.2) (5 * b + 2) (((f2_spread_L73 τ ρ π b a2 a3 8589934592 (sa (sa (sa (sa γ (5 * b + 0) a2.toNatClampNeg (γ.1 b)) (5 * b + 1) ((sa γ (5 * b + 0) a2.toNatClampNeg (γ.1 b)).1 b).toNatClampNeg a2) (5 * b + 3) ((sa (sa γ (5 * b + 0) a2.toNatClampNeg (γ.1 b)) (5 * b + 1) ((sa γ (5 * b + 0) a2.toNatClampNeg (γ.1 b)).1 b).toNatClampNeg a2).1 b).toNatClampNeg (f3_markAt π a2)) (5 * b + 4) (0 : Int32).toNatClampNeg a2) 1 0).2.2).1 b).toNatClampNeg ((f2_spread_L73 τ ρ π b a2 a3 8589934592 (sa (sa (sa (sa γ (5 * b + 0) a2.toNatClampNeg (γ.1 b)) (5 * b + 1) ((sa γ (5 * b + 0) a2.toNatClampNeg (γ.1 b)).1 b).toNatClampNeg a2) (5 * b + 3) ((sa (sa γ (5 * b + 0) a2.toNatClampNeg (γ.1 b)) (5 * b + 1) ((sa γ (5 * b + 0) a2.toNatClampNeg (γ.1 b)).1 b).toNatClampNeg a2).1 b).toNatClampNeg (f3_markAt π a2)) (5 * b + 4) (0 : Int32).toNatClampNeg a2) 1 0).1)) b (((sa ((f2_spread_L73 τ ρ π b a2 a3 8589934592 (sa (sa (sa (sa γ (5 * b + 0) a2.toNatClampNeg (γ.1 b)) (5 * b + 1) ((sa γ (5 * b + 0) a2.toNatClampNeg (γ.1 b)).1 b).toNatClampNeg a2) (5 * b + 3) ((sa (sa γ (5 * b + 0) a2.toNatClampNeg (γ.1 b)) (5 * b + 1) ((sa γ (5 * b + 0) a2.toNatClampNeg (γ.1 b)).1 b).toNatClampNeg a2).1 b).toNatClampNeg (f3_markAt π a2)) (5 * b + 4) (0 : Int32).toNatClampNeg a2) 1 0).2.2) (5 * b + 2) (((f2_spread_L73 τ ρ π b a2 a3 8589934592 (sa (sa (sa (sa γ (5 * b + 0) a2.toNatClampNeg (γ.1 b)) (5 * b + 1) ((sa γ (5 * b + 0) a2.toNatClampNeg (γ.1 b)).1 b).toNatClampNeg a2) (5 * b + 3) ((sa (sa γ (5 * b + 0) a2.toNatClampNeg (γ.1 b)) (5 * b + 1) ((sa γ (5 * b + 0) a2.toNatClampNeg (γ.1 b)).1 b).toNatClampNeg a2).1 b).toNatClampNeg (f3_markAt π a2)) (5 * b + 4) (0 : Int32).toNatClampNeg a2) 1 0).2.2).1 b).toNatClampNeg ((f2_spread_L73 τ ρ π b a2 a3 8589934592 (sa (sa (sa (sa γ (5 * b + 0) a2.toNatClampNeg (γ.1 b)) (5 * b + 1) ((sa γ (5 * b + 0) a2.toNatClampNeg (γ.1 b)).1 b).toNatClampNeg a2) (5 * b + 3) ((sa (sa γ (5 * b + 0) a2.toNatClampNeg (γ.1 b)) (5 * b + 1) ((sa γ (5 * b + 0) a2.toNatClampNeg (γ.1 b)).1 b).toNatClampNeg a2).1 b).toNatClampNeg (f3_markAt π a2)) (5 * b + 4) (0 : Int32).toNatClampNeg a2) 1 0).1)).1 b) + 1)) = f2_spread τ ρ π γ b a2 a3 := by unfold f2_spread; (try rw [if_neg c_1]); (try rw [if_neg c_2])
      exact sy_retV hx hb hr hlk hP hS (by rw [← e9]) dX2_spread_249
    · have e9 : γ = f2_spread τ ρ π γ b a2 a3 := by unfold f2_spread; (try rw [if_neg c_1]); (try rw [if_pos c_2])
      exact sy_retV hx hb hr hlk hP hS (by rw [← e9]) dX2_spread_25
/-- X2_gather -/
theorem hd_X2_gather : yX2_gather.cls = yX2_gather.cls ∧ yX2_gather.cls ≠ "java/lang/invoke/MethodHandle" ∧ yX2_gather.cls ≠ "java/lang/invoke/VarHandle" ∧ (parseMethodDescriptor yX2_gather.desc).map (fun d => d.parameters.length) = some 2 := by decide +kernel
def f2_gather_L15 (τ : Sg) (ρ : Sg) (π : Sg) (b : Nat) (x2 : Int32) : Nat → Sg → Int32 → Int32 × Sg
  | 0, γ_15, x3 => (x3, γ_15)
  | n + 1, γ_15, x3 => (if (f5_cells τ) ≤ x3 then (x3, γ_15) else (if (f3_markAt π x3) = 0 then (f2_gather_L15 τ ρ π b x2 n γ_15 (x3 + 1)) else (if (f2_at τ γ_15 b x3) = (-1) then (f2_gather_L15 τ ρ π b x2 n (f2_spread τ ρ π γ_15 b x3 x2) (x3 + 1)) else (f2_gather_L15 τ ρ π b x2 n γ_15 (x3 + 1)))))
theorem f2_gather_L15_s (τ : Sg) (ρ : Sg) (π : Sg) (b : Nat) (x2 : Int32) (n : Nat) (γ_15 : Sg) (x3 : Int32) : f2_gather_L15 τ ρ π b x2 (n + 1) γ_15 x3 = (if (f5_cells τ) ≤ x3 then (x3, γ_15) else (if (f3_markAt π x3) = 0 then (f2_gather_L15 τ ρ π b x2 n γ_15 (x3 + 1)) else (if (f2_at τ γ_15 b x3) = (-1) then (f2_gather_L15 τ ρ π b x2 n (f2_spread τ ρ π γ_15 b x3 x2) (x3 + 1)) else (f2_gather_L15 τ ρ π b x2 n γ_15 (x3 + 1))))) := rfl
def f2_gather (τ : Sg) (ρ : Sg) (π : Sg) (γ : Sg) (b : Nat) (a2 : Int32) : Sg := ((f2_gather_L15 τ ρ π b a2 8589934592 (saf (si γ b 0) (5 * b + 0) (fillF ((si γ b 0).2 (5 * b + 0)) 64 (-1))) 0).2)
set_option maxHeartbeats 400000 in
set_option maxRecDepth 100000 in
theorem m2_gather (l : Launch) (D : va_G) (cA : ClassId) (ad : Nat → Nat) (had : Apart ad) (τ ρ π γ : Sg) (hT : Ok τ) (b : Nat) (hb2 : b < 2) (a2 : Int32) : Met l yX2_gather (wM yX2_gather cX2_gather 4 none) ({ frames := 3, cells := 0, slots := 0, locals := 74 }) (va_Pc [.ref (ad (5 + b)), .ref (ad 3), .int a2] (pS D cA ad τ ρ π γ)) (qV D cA ad τ ρ π (f2_gather τ ρ π γ b a2) none) 0 0 (aS ad) := by
  refine sy_of (by decide) (Nat.le_of_ble_eq_true rfl) ?_
  intro p e s m below meth c ls C hr hlk hK hN hP hl
  obtain ⟨hx, hb, hml, hown, hts⟩ := id C
  have htA : ∀ w ∈ wA, w.before ([.ref (ad (5 + b)), .ref (ad 3), .int a2] : List Value).toArray s = true := fun w h => hts w (List.mem_cons_of_mem _ h)
  have hl : lv_has ls 4 [(0, .ref (ad (5 + b))), (1, .ref (ad 3)), (2, .int a2)] := hl
  have hS : va_S (aS ad) s.heap s.heap [] := va_S.rf
  refine lv_aload_n hx hb dX2_gather_0 rfl (lv_at hl 0 rfl) ?_
  refine lv_iconst (v := 0) hx hb dX2_gather_1 (by decide) ?_
  refine pX2_7 hx hb htA hown hK hP had (fun _ h => h) hS (b := b) hb2 dX2_gather_2 (fun H locs hP hS => ?_)
  refine lv_aload_n hx hb dX2_gather_5 rfl (lv_at hl 0 rfl) ?_
  refine gX2_2 hx hb htA hown hK hP (b := b) hb2 dX2_gather_6 ?_
  refine lv_iconst (v := (-1)) hx hb dX2_gather_9 (by decide) ?_
  refine sy_csM (rest := []) (st1 := []) C hK hN (by have h9 := hP; rw [← wF_g0 hb2] at h9; exact h9) (fun _ h => h) hS (mJ7_fill l D cA (fun f9 => wS cA ad τ ρ π (saf (si γ b 0) (5 * b + 0) f9)) (14 + 5 * b + 0) (ad (14 + 5 * b + 0)) 64 (by decide) (wFa_g0 hb2) (wFs_g0 hb2) (fun _ => wS_D had _ _ _ _ (fun _ h => h)) _ (-1)) kw_203 kw_53 kw_54 kw_55 hd_J7_fill ⟨Nat.le_of_ble_eq_true rfl, Nat.le_of_ble_eq_true rfl⟩ rfl rfl rfl hl.1 rfl (Nat.le_of_ble_eq_true rfl) dX2_gather_10 ⟨Nat.zero_le _, Nat.zero_le _⟩ rfl (fun H locs hP hS => ?_)
  refine lv_iconst (v := 0) hx hb dX2_gather_13 (by decide) ?_
  refine lv_istore_n (lv' := [(3, .int 0), (0, .ref (ad (5 + b))), (1, .ref (ad 3)), (2, .int a2)]) hx hb dX2_gather_14 rfl hl (by decide) rfl (fun ls hl => ?_)
  have hL15 : ∀ (x2 : Int32) (n : Nat) (γ_15 : Sg) (x3 : Int32), nm x3 (f5_cells τ) < n → ∀ (H : Heap) (locs : List Loc), va_P D vwCl (wS cA ad τ ρ π γ_15) H → va_S (aS ad) s.heap H locs → ∀ ls : Array Slot, lv_has ls 4 [(0, .ref (ad (5 + b))), (1, .ref (ad 3)), (2, .int x2), (3, .int x3)] → (∀ (H : Heap) (locs : List Loc), va_P D vwCl (wS cA ad τ ρ π ((f2_gather_L15 τ ρ π b x2 n γ_15 x3).2)) H → va_S (aS ad) s.heap H locs → ∀ ls : Array Slot, lv_has ls 4 [(0, .ref (ad (5 + b))), (1, .ref (ad 3)), (2, .int x2), (3, .int ((f2_gather_L15 τ ρ π b x2 n γ_15 x3).1))] → W p l e ({ frames := 3, cells := 0, slots := 0, locals := 74 }) s m ([.ref (ad (5 + b)), .ref (ad 3), .int a2] : List Value).toArray below meth c H locs 0 0 (MQ below (qV D cA ad τ ρ π (f2_gather τ ρ π γ b a2) none) ([.ref (ad (5 + b)), .ref (ad 3), .int a2] : List Value).toArray s 0 0 (aS ad)) (F0 m 56 ls [])) → W p l e ({ frames := 3, cells := 0, slots := 0, locals := 74 }) s m ([.ref (ad (5 + b)), .ref (ad 3), .int a2] : List Value).toArray below meth c H locs 0 0 (MQ below (qV D cA ad τ ρ π (f2_gather τ ρ π γ b a2) none) ([.ref (ad (5 + b)), .ref (ad 3), .int a2] : List Value).toArray s 0 0 (aS ad)) (F0 m 15 ls []) := by
    intro x2 n
    induction n with
    | zero =>
      intro γ_15 x3 hn
      exact absurd hn (Nat.not_lt_zero _)
    | succ n ih =>
      intro γ_15 x3 hn H locs hP hS ls hl kk
      refine lv_iload_n hx hb dX2_gather_15 rfl (lv_at hl 3 rfl) ?_
      refine lv_aload_n hx hb dX2_gather_16 rfl (lv_at hl 0 rfl) ?_
      refine gX2_0 hx hb htA hown hK hP (b := b) hb2 dX2_gather_17 ?_
      refine sy_cv (rest := [.int x3]) C hK hN hP (m5_cells l D cA ad τ ρ π γ_15) (1) 7 rfl rfl kw_204 kw_184 kw_185 kw_16 kw_186 hd_X5_cells ⟨Nat.le_of_ble_eq_true rfl, Nat.le_of_ble_eq_true rfl⟩ rfl rfl rfl hl.1 rfl (Nat.le_of_ble_eq_true rfl) dX2_gather_20 ⟨Nat.zero_le _, Nat.zero_le _⟩ ?_
      refine lv_icmp_ge (tgt := 56) hx hb dX2_gather_23 (by decide) (fun c_1 => ?_) (fun c_1 => ?_)
      · have e9 : f2_gather_L15 τ ρ π b x2 (n + 1) γ_15 x3 = (x3, γ_15) := by rw [f2_gather_L15_s]; (try rw [if_pos c_1])
        rw [e9] at kk
        exact kk _ _ hP hS ls (lv_sub hl [0, 1, 2, 3] rfl)
      · refine lv_aload_n hx hb dX2_gather_26 rfl (lv_at hl 1 rfl) ?_
        refine lv_iload_n hx hb dX2_gather_27 rfl (lv_at hl 3 rfl) ?_
        refine sy_cv (rest := []) C hK hN hP (m3_markAt l D cA ad τ ρ π γ_15 x3) (3) 5 rfl rfl kw_205 kw_206 kw_207 kw_24 kw_208 hd_X3_markAt ⟨Nat.le_of_ble_eq_true rfl, Nat.le_of_ble_eq_true rfl⟩ rfl rfl rfl hl.1 rfl (Nat.le_of_ble_eq_true rfl) dX2_gather_28 ⟨Nat.zero_le _, Nat.zero_le _⟩ ?_
        refine lv_if_eq (tgt := 50) hx hb dX2_gather_31 (by decide) (fun c_2 => ?_) (fun c_2 => ?_)
        · refine lv_iinc (v := x3 + 1) (lv' := [(3, .int (x3 + 1)), (0, .ref (ad (5 + b))), (1, .ref (ad 3)), (2, .int x2)]) hx hb dX2_gather_50 hl (k := 3) rfl (by rfl) (by decide) rfl (fun ls hl => ?_)
          refine lv_goto (tgt := 15) hx hb dX2_gather_53 (by decide) ?_
          have e9 : f2_gather_L15 τ ρ π b x2 (n + 1) γ_15 x3 = f2_gather_L15 τ ρ π b x2 n γ_15 (x3 + 1) := by rw [f2_gather_L15_s]; (try rw [if_neg c_1]); (try rw [if_pos c_2])
          rw [e9] at kk
          exact ih γ_15 (x3 + 1) (nm_dec (Int32.not_le.mp c_1) hn) _ _ hP hS ls (lv_sub hl [1, 2, 3, 0] rfl) kk
        · refine lv_aload_n hx hb dX2_gather_34 rfl (lv_at hl 0 rfl) ?_
          refine lv_iload_n hx hb dX2_gather_35 rfl (lv_at hl 3 rfl) ?_
          refine sy_cv (rest := []) C hK hN hP (m2_at l D cA ad τ ρ π γ_15 hT b hb2 x3) (5 + b) 4 (wGo hb2) rfl kw_209 kw_210 kw_211 kw_81 kw_212 hd_X2_at ⟨Nat.le_of_ble_eq_true rfl, Nat.le_of_ble_eq_true rfl⟩ rfl rfl rfl hl.1 rfl (Nat.le_of_ble_eq_true rfl) dX2_gather_36 ⟨Nat.zero_le _, Nat.zero_le _⟩ ?_
          refine lv_iconst (v := (-1)) hx hb dX2_gather_39 (by decide) ?_
          refine lv_icmp_ne (tgt := 50) hx hb dX2_gather_40 (by decide) (fun c_3 => ?_) (fun c_3 => ?_)
          · refine lv_iinc (v := x3 + 1) (lv' := [(3, .int (x3 + 1)), (0, .ref (ad (5 + b))), (1, .ref (ad 3)), (2, .int x2)]) hx hb dX2_gather_50 hl (k := 3) rfl (by rfl) (by decide) rfl (fun ls hl => ?_)
            refine lv_goto (tgt := 15) hx hb dX2_gather_53 (by decide) ?_
            have e9 : f2_gather_L15 τ ρ π b x2 (n + 1) γ_15 x3 = f2_gather_L15 τ ρ π b x2 n γ_15 (x3 + 1) := by rw [f2_gather_L15_s]; (try rw [if_neg c_1]); (try rw [if_neg c_2]); (try rw [if_neg c_3])
            rw [e9] at kk
            exact ih γ_15 (x3 + 1) (nm_dec (Int32.not_le.mp c_1) hn) _ _ hP hS ls (lv_sub hl [1, 2, 3, 0] rfl) kk
          · refine lv_aload_n hx hb dX2_gather_43 rfl (lv_at hl 0 rfl) ?_
            refine lv_aload_n hx hb dX2_gather_44 rfl (lv_at hl 1 rfl) ?_
            refine lv_iload_n hx hb dX2_gather_45 rfl (lv_at hl 3 rfl) ?_
            refine lv_iload_n hx hb dX2_gather_46 rfl (lv_at hl 2 rfl) ?_
            refine sy_cvM (rest := []) (st1 := []) C hK hN hP (fun _ h => h) hS (m2_spread l D cA ad had τ ρ π γ_15 hT b hb2 x3 x2) (5 + b) 4 (wGo hb2) rfl kw_214 kw_215 kw_216 kw_81 kw_217 hd_X2_spread ⟨Nat.le_of_ble_eq_true rfl, Nat.le_of_ble_eq_true rfl⟩ rfl rfl rfl hl.1 rfl (Nat.le_of_ble_eq_true rfl) dX2_gather_47 ⟨Nat.zero_le _, Nat.zero_le _⟩ rfl (fun H locs hP hS => ?_)
            refine lv_iinc (v := x3 + 1) (lv' := [(3, .int (x3 + 1)), (0, .ref (ad (5 + b))), (1, .ref (ad 3)), (2, .int x2)]) hx hb dX2_gather_50 hl (k := 3) rfl (by rfl) (by decide) rfl (fun ls hl => ?_)
            refine lv_goto (tgt := 15) hx hb dX2_gather_53 (by decide) ?_
            have e9 : f2_gather_L15 τ ρ π b x2 (n + 1) γ_15 x3 = f2_gather_L15 τ ρ π b x2 n (f2_spread τ ρ π γ_15 b x3 x2) (x3 + 1) := by rw [f2_gather_L15_s]; (try rw [if_neg c_1]); (try rw [if_neg c_2]); (try rw [if_pos c_3])
            rw [e9] at kk
            exact ih (f2_spread τ ρ π γ_15 b x3 x2) (x3 + 1) (nm_dec (Int32.not_le.mp c_1) hn) _ _ hP hS ls (lv_sub hl [1, 2, 3, 0] rfl) kk
  refine hL15 a2 8589934592 (saf (si γ b 0) (5 * b + 0) (fillF ((si γ b 0).2 (5 * b + 0)) 64 (-1))) 0 (nm_lt _ _) _ _ hP hS ls (lv_sub hl [1, 2, 3, 0] rfl) (fun H locs hP hS ls hl => ?_)
  have e9 : ((f2_gather_L15 τ ρ π b a2 8589934592 (saf (si γ b 0) (5 * b + 0) (fillF ((si γ b 0).2 (5 * b + 0)) 64 (-1))) 0).2) = f2_gather τ ρ π γ b a2 := rfl
  exact sy_retV hx hb hr hlk hP hS (by rw [← e9]) dX2_gather_56
/-- X6_look -/
theorem hd_X6_look : yX6_look.cls = yX6_look.cls ∧ yX6_look.cls ≠ "java/lang/invoke/MethodHandle" ∧ yX6_look.cls ≠ "java/lang/invoke/VarHandle" ∧ (parseMethodDescriptor yX6_look.desc).map (fun d => d.parameters.length) = some 1 := by decide +kernel
def f6_look (τ : Sg) (ρ : Sg) (π : Sg) (γ : Sg) : Sg := (f2_gather τ ρ π (f2_gather τ ρ π γ 0 1) 1 (f4_etchNow ρ))
set_option maxHeartbeats 400000 in
set_option maxRecDepth 100000 in
theorem m6_look (l : Launch) (D : va_G) (cA : ClassId) (ad : Nat → Nat) (had : Apart ad) (τ ρ π γ : Sg) (hT : Ok τ) : Met l yX6_look (wM yX6_look cX6_look 2 none) ({ frames := 4, cells := 0, slots := 0, locals := 97 }) (va_Pc [.ref (ad 4), .ref (ad 3)] (pS D cA ad τ ρ π γ)) (qV D cA ad τ ρ π (f6_look τ ρ π γ) none) 0 0 (aS ad) := by
  refine sy_of (by decide) (Nat.le_of_ble_eq_true rfl) ?_
  intro p e s m below meth c ls C hr hlk hK hN hP hl
  obtain ⟨hx, hb, hml, hown, hts⟩ := id C
  have htA : ∀ w ∈ wA, w.before ([.ref (ad 4), .ref (ad 3)] : List Value).toArray s = true := fun w h => hts w (List.mem_cons_of_mem _ h)
  have hl : lv_has ls 2 [(0, .ref (ad 4)), (1, .ref (ad 3))] := hl
  have hS : va_S (aS ad) s.heap s.heap [] := va_S.rf
  refine lv_aload_n hx hb dX6_look_0 rfl (lv_at hl 0 rfl) ?_
  refine lv_aload_n hx hb dX6_look_1 rfl (lv_at hl 1 rfl) ?_
  refine pX6_5 hx hb htA hown hK hP had (fun _ h => h) hS dX6_look_2 (fun H locs hP hS => ?_)
  refine lv_aload_n hx hb dX6_look_5 rfl (lv_at hl 0 rfl) ?_
  refine gX6_2 hx hb htA hown hK hP dX6_look_6 ?_
  refine lv_aload_n hx hb dX6_look_9 rfl (lv_at hl 1 rfl) ?_
  refine lv_iconst (v := 1) hx hb dX6_look_10 (by decide) ?_
  refine sy_cvM (rest := []) (st1 := []) C hK hN hP (fun _ h => h) hS (m2_gather l D cA ad had τ ρ π γ hT 0 (by decide) 1) (5) 4 rfl rfl kw_199 kw_200 kw_201 kw_81 kw_202 hd_X2_gather ⟨Nat.le_of_ble_eq_true rfl, Nat.le_of_ble_eq_true rfl⟩ rfl rfl rfl hl.1 rfl (Nat.le_of_ble_eq_true rfl) dX6_look_11 ⟨Nat.zero_le _, Nat.zero_le _⟩ rfl (fun H locs hP hS => ?_)
  refine lv_aload_n hx hb dX6_look_14 rfl (lv_at hl 0 rfl) ?_
  refine gX6_3 hx hb htA hown hK hP dX6_look_15 ?_
  refine lv_aload_n hx hb dX6_look_18 rfl (lv_at hl 1 rfl) ?_
  refine lv_aload_n hx hb dX6_look_19 rfl (lv_at hl 0 rfl) ?_
  refine gX6_1 hx hb htA hown hK hP dX6_look_20 ?_
  refine sy_cv (rest := [.ref (ad 3), .ref (ad 6)]) C hK hN hP (m4_etchNow l D cA ad τ ρ π (f2_gather τ ρ π γ 0 1)) (2) 6 rfl rfl kw_239 kw_240 kw_241 kw_20 kw_242 hd_X4_etchNow ⟨Nat.le_of_ble_eq_true rfl, Nat.le_of_ble_eq_true rfl⟩ rfl rfl rfl hl.1 rfl (Nat.le_of_ble_eq_true rfl) dX6_look_23 ⟨Nat.zero_le _, Nat.zero_le _⟩ ?_
  refine sy_cvM (rest := []) (st1 := []) C hK hN hP (fun _ h => h) hS (m2_gather l D cA ad had τ ρ π (f2_gather τ ρ π γ 0 1) hT 1 (by decide) (f4_etchNow ρ)) (6) 4 rfl rfl kw_199 kw_200 kw_201 kw_81 kw_202 hd_X2_gather ⟨Nat.le_of_ble_eq_true rfl, Nat.le_of_ble_eq_true rfl⟩ rfl rfl rfl hl.1 rfl (Nat.le_of_ble_eq_true rfl) dX6_look_26 ⟨Nat.zero_le _, Nat.zero_le _⟩ rfl (fun H locs hP hS => ?_)
  have e9 : (f2_gather τ ρ π (f2_gather τ ρ π γ 0 1) 1 (f4_etchNow ρ)) = f6_look τ ρ π γ := rfl
  exact sy_retV hx hb hr hlk hP hS (by rw [← e9]) dX6_look_29
